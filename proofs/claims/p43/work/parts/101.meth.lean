def f_X2_hasLocked (p1 : Int32) (p2 : Int32) (w : rv_W) : rv_R :=
  if p1 < 0 then
  some ((0 : Int32), w)
  else
  if p1 < (5 : Int32) then
  rv_ck p1 5 (
  rv_bd (f_X1_has (w 73 p1.toNatClampNeg) p2 w) (fun (r1 : Int32) (w2 : rv_W) =>
  if r1 = 0 then
  some ((0 : Int32), w2)
  else
  some ((1 : Int32), w2)))
  else
  some ((0 : Int32), w)
set_option maxRecDepth 100000 in
set_option maxHeartbeats 4000000 in
theorem fn_X2_hasLocked {l : Launch} {D : va_G} {ad : Nat → Nat} {ca : Nat → ClassId} (hJ : rv_J ad) (p1 : Int32) (p2 : Int32)  (w : rv_W) : rv_Fn l D ad ca yX2_hasLocked cX2_hasLocked 3 (some .boolean) 1 21 [.ref (ad 66), .int p1, .int p2] w (f_X2_hasLocked p1 p2 w) := by
  refine rv_mk (lv := [(0, .ref (ad 66)), (1, .int p1), (2, .int p2)]) hJ (by decide +kernel) (Nat.le_of_ble_eq_true rfl) rfl (fun K h hr => ?_)
  have h : rv_Rl D ad ca l RX2 cX2_hasLocked 3 1 21 K := h
  unfold f_X2_hasLocked
  refine rv_iload_n h 0 dX2_hasLocked_0 1 rfl ?_
  refine rv_if_lt (tgt := 30) h 1 dX2_hasLocked_1 (by decide) (fun _ => ?_) (fun _ => ?_)
  · refine rv_iconst h 30 dX2_hasLocked_30 rv_c0 ?_
    exact rv_retz0 hr 31 dX2_hasLocked_31
  refine rv_iload_n h 4 dX2_hasLocked_4 1 rfl ?_
  refine rv_aload_n h 5 dX2_hasLocked_5 0 rfl ?_
  refine rv_getr h 6 dX2_hasLocked_6 rv_s66 rv_fd_X2_16 rfl ?_
  refine rv_len (v := 5) h 9 dX2_hasLocked_9 rv_s73 (by decide) (by decide +kernel) ?_
  refine rv_icmp_ge (tgt := 30) h 10 dX2_hasLocked_10 (by decide) (fun _ => ?_) (fun _ => ?_)
  rotate_left
  · refine rv_iconst h 30 dX2_hasLocked_30 rv_c0 ?_
    exact rv_retz0 hr 31 dX2_hasLocked_31
  refine rv_aload_n h 13 dX2_hasLocked_13 0 rfl ?_
  refine rv_getr h 14 dX2_hasLocked_14 rv_s66 rv_fd_X2_16 rfl ?_
  refine rv_iload_n h 17 dX2_hasLocked_17 1 rfl ?_
  refine rv_iald h 18 dX2_hasLocked_18 rv_s73 ?_
  refine rv_iload_n h 19 dX2_hasLocked_19 2 rfl ?_
  refine rv_callSi h 20 dX2_hasLocked_20 (fn_X1_has hJ (w 73 p1.toNatClampNeg) p2  w) ce_X1_has lk_X2_29 rfl rfl (Nat.le_of_ble_eq_true rfl) ⟨Nat.le_of_ble_eq_true rfl, Nat.le_of_ble_eq_true rfl⟩ (fun r1 w2 => ?_)
  refine rv_if_eq (tgt := 30) h 23 dX2_hasLocked_23 (by decide) (fun _ => ?_) (fun _ => ?_)
  · refine rv_iconst h 30 dX2_hasLocked_30 rv_c0 ?_
    exact rv_retz0 hr 31 dX2_hasLocked_31
  refine rv_iconst h 26 dX2_hasLocked_26 rv_c1 ?_
  refine rv_goto (tgt := 31) h 27 dX2_hasLocked_27 (by decide) ?_
  exact rv_retz1 hr 31 dX2_hasLocked_31
def f_X2_clearestPair (p2 : Int32) (w : rv_W) : rv_R :=
  rv_fx (fun _ _ _ _ => none) (fun (ag1 : Int32 → Int32 → Int32 → rv_W → rv_R) (v3 : Int32) (v4 : Int32) (v5 : Int32) (w6 : rv_W) =>
  if v5 < (5 : Int32) then
  rv_fx (fun _ _ _ _ => none) (fun (ag7 : Int32 → Int32 → Int32 → rv_W → rv_R) (v9 : Int32) (v10 : Int32) (v11 : Int32) (w12 : rv_W) =>
  if v11 < (5 : Int32) then
  rv_lt (((v5 * (5 : Int32)) + v11)) (fun (v14 : Int32) =>
  rv_ck v5 5 (
  rv_ck v11 5 (
  rv_ck v11 5 (
  rv_ck v5 5 (
  rv_lt (((w12 (26 + v5.toNatClampNeg) v11.toNatClampNeg) - (w12 (26 + v11.toNatClampNeg) v5.toNatClampNeg))) (fun (v17 : Int32) =>
  if v10 < v17 then
  if (((p2.toUInt32 >>> (v14.toUInt32 &&& Int32.toUInt32 31)).toInt32) &&& (1 : Int32)) = 0 then
  rv_lt (v11 + (1 : Int32)) (fun (v20 : Int32) =>
  ag7 v14 v17 v20 w12)
  else
  rv_lt (v11 + (1 : Int32)) (fun (v19 : Int32) =>
  ag7 v9 v10 v19 w12)
  else
  rv_lt (v11 + (1 : Int32)) (fun (v18 : Int32) =>
  ag7 v9 v10 v18 w12)))))))
  else
  rv_lt (v5 + (1 : Int32)) (fun (v13 : Int32) =>
  ag1 v9 v10 v13 w12)) rv_FU v3 v4 (0 : Int32) w6
  else
  some (v3, w6)) rv_FU (-1 : Int32) (0 : Int32) (0 : Int32) w
set_option maxRecDepth 100000 in
set_option maxHeartbeats 4000000 in
theorem fn_X2_clearestPair {l : Launch} {D : va_G} {ad : Nat → Nat} {ca : Nat → ClassId} (hJ : rv_J ad) (p2 : Int32)  (w : rv_W) : rv_Fn l D ad ca yX2_clearestPair cX2_clearestPair 9 (some .int) 0 0 [.ref (ad 66), .ref (ad 24), .int p2] w (f_X2_clearestPair p2 w) := by
  refine rv_mk (lv := [(0, .ref (ad 66)), (1, .ref (ad 24)), (2, .int p2)]) hJ (by decide +kernel) (Nat.le_of_ble_eq_true rfl) rfl (fun K h hr => ?_)
  have h : rv_Rl D ad ca l RX2 cX2_clearestPair 9 0 0 K := h
  unfold f_X2_clearestPair
  refine rv_iconst h 0 dX2_clearestPair_0 rv_cm1 ?_
  refine rv_istore_n (lv' := [(3, .int (-1 : Int32)), (0, .ref (ad 66)), (1, .ref (ad 24)), (2, .int p2)]) h 1 dX2_clearestPair_1 (by decide) rfl ?_
  refine rv_iconst h 2 dX2_clearestPair_2 rv_c0 ?_
  refine rv_istore (lv' := [(4, .int (0 : Int32)), (3, .int (-1 : Int32)), (0, .ref (ad 66)), (1, .ref (ad 24)), (2, .int p2)]) h 3 dX2_clearestPair_3 (by decide) rfl ?_
  refine rv_iconst h 5 dX2_clearestPair_5 rv_c0 ?_
  refine rv_istore (lv' := [(5, .int (0 : Int32)), (4, .int (0 : Int32)), (3, .int (-1 : Int32)), (0, .ref (ad 66)), (1, .ref (ad 24)), (2, .int p2)]) h 6 dX2_clearestPair_6 (by decide) rfl ?_
  refine rv_sub h [4, 5, 2, 1, 0] rfl ?_
  refine rv_fx_ind (fun (a0 : Int32 → Int32 → Int32 → rv_W → rv_R) => ∀ (v3 : Int32) (v4 : Int32) (v5 : Int32) (w6 : rv_W), K 8 [(1, .ref (ad 24)), (2, .int p2), (3, .int v3), (4, .int v4), (5, .int v5)] [] w6 (a0 v3 v4 v5 w6)) (fun _ _ _ _ => rv_none h) (fun ag1 ih2 v3 v4 v5 w6 => ?_) rv_FU (-1 : Int32) (0 : Int32) (0 : Int32) w
  refine rv_iload h 8 dX2_clearestPair_8 4 rfl ?_
  refine rv_iconst h 10 dX2_clearestPair_10 rv_c5 ?_
  refine rv_icmp_ge (tgt := 90) h 11 dX2_clearestPair_11 (by decide) (fun _ => ?_) (fun _ => ?_)
  rotate_left
  · refine rv_iload_n h 90 dX2_clearestPair_90 2 rfl ?_
    exact rv_reti hr 91 dX2_clearestPair_91
  refine rv_iconst h 14 dX2_clearestPair_14 rv_c0 ?_
  refine rv_istore (lv' := [(6, .int (0 : Int32)), (1, .ref (ad 24)), (2, .int p2), (3, .int v3), (4, .int v4), (5, .int v5)]) h 15 dX2_clearestPair_15 (by decide) rfl ?_
  refine rv_sub h [1, 2, 3, 4, 5, 0] rfl ?_
  refine rv_fx_ind (fun (a0 : Int32 → Int32 → Int32 → rv_W → rv_R) => ∀ (v9 : Int32) (v10 : Int32) (v11 : Int32) (w12 : rv_W), K 17 [(1, .ref (ad 24)), (2, .int p2), (3, .int v9), (4, .int v10), (5, .int v5), (6, .int v11)] [] w12 (a0 v9 v10 v11 w12)) (fun _ _ _ _ => rv_none h) (fun ag7 ih8 v9 v10 v11 w12 => ?_) rv_FU v3 v4 (0 : Int32) w6
  refine rv_iload h 17 dX2_clearestPair_17 5 rfl ?_
  refine rv_iconst h 19 dX2_clearestPair_19 rv_c5 ?_
  refine rv_icmp_ge (tgt := 84) h 20 dX2_clearestPair_20 (by decide) (fun _ => ?_) (fun _ => ?_)
  rotate_left
  · refine rv_iinc h 84 (fun v13 => [(5, .int v13), (1, .ref (ad 24)), (2, .int p2), (3, .int v9), (4, .int v10), (6, .int v11)]) dX2_clearestPair_84 4 rfl rv_c1 (by decide) (fun _ => rfl) (fun v13 => ?_)
    refine rv_goto (tgt := 8) h 87 dX2_clearestPair_87 (by decide) ?_
    refine rv_sub h [1, 2, 3, 4, 0] rfl ?_
    exact ih2 v9 v10 v13 w12
  refine rv_iload h 23 dX2_clearestPair_23 4 rfl ?_
  refine rv_iconst h 25 dX2_clearestPair_25 rv_c5 ?_
  refine rv_imul h 26 dX2_clearestPair_26 ?_
  refine rv_iload h 27 dX2_clearestPair_27 5 rfl ?_
  refine rv_iadd h 29 dX2_clearestPair_29 ?_
  refine rv_top (fun v14 => ?_)
  refine rv_istore (lv' := [(7, .int v14), (1, .ref (ad 24)), (2, .int p2), (3, .int v9), (4, .int v10), (5, .int v5), (6, .int v11)]) h 30 dX2_clearestPair_30 (by decide) rfl ?_
  refine rv_aload_n h 32 dX2_clearestPair_32 1 rfl ?_
  refine rv_getr h 33 dX2_clearestPair_33 rv_s24 rv_fd_X2_49 rfl ?_
  refine rv_iload h 36 dX2_clearestPair_36 5 rfl ?_
  refine rv_aald h 38 dX2_clearestPair_38 rv_s25 (fun hi15 => ?_)
  refine rv_iload h 39 dX2_clearestPair_39 6 rfl ?_
  refine rv_iald h 41 dX2_clearestPair_41 (rv_row26 hi15) ?_
  refine rv_aload_n h 42 dX2_clearestPair_42 1 rfl ?_
  refine rv_getr h 43 dX2_clearestPair_43 rv_s24 rv_fd_X2_49 rfl ?_
  refine rv_iload h 46 dX2_clearestPair_46 6 rfl ?_
  refine rv_aald h 48 dX2_clearestPair_48 rv_s25 (fun hi16 => ?_)
  refine rv_iload h 49 dX2_clearestPair_49 5 rfl ?_
  refine rv_iald h 51 dX2_clearestPair_51 (rv_row26 hi16) ?_
  refine rv_isub h 52 dX2_clearestPair_52 ?_
  refine rv_top (fun v17 => ?_)
  refine rv_istore (lv' := [(8, .int v17), (7, .int v14), (1, .ref (ad 24)), (2, .int p2), (3, .int v9), (4, .int v10), (5, .int v5), (6, .int v11)]) h 53 dX2_clearestPair_53 (by decide) rfl ?_
  refine rv_iload h 55 dX2_clearestPair_55 0 rfl ?_
  refine rv_iload h 57 dX2_clearestPair_57 5 rfl ?_
  refine rv_icmp_le (tgt := 78) h 59 dX2_clearestPair_59 (by decide) (fun _ => ?_) (fun _ => ?_)
  rotate_left
  · refine rv_iinc h 78 (fun v18 => [(6, .int v18), (8, .int v17), (7, .int v14), (1, .ref (ad 24)), (2, .int p2), (3, .int v9), (4, .int v10), (5, .int v5)]) dX2_clearestPair_78 7 rfl rv_c1 (by decide) (fun _ => rfl) (fun v18 => ?_)
    refine rv_goto (tgt := 17) h 81 dX2_clearestPair_81 (by decide) ?_
    refine rv_sub h [3, 4, 5, 6, 7, 0] rfl ?_
    exact ih8 v9 v10 v18 w12
  refine rv_iload_n h 62 dX2_clearestPair_62 3 rfl ?_
  refine rv_iload h 63 dX2_clearestPair_63 1 rfl ?_
  refine rv_iushr h 65 dX2_clearestPair_65 ?_
  refine rv_iconst h 66 dX2_clearestPair_66 rv_c1 ?_
  refine rv_iand h 67 dX2_clearestPair_67 ?_
  refine rv_if_ne (tgt := 78) h 68 dX2_clearestPair_68 (by decide) (fun _ => ?_) (fun _ => ?_)
  rotate_left
  · refine rv_iinc h 78 (fun v19 => [(6, .int v19), (8, .int v17), (7, .int v14), (1, .ref (ad 24)), (2, .int p2), (3, .int v9), (4, .int v10), (5, .int v5)]) dX2_clearestPair_78 7 rfl rv_c1 (by decide) (fun _ => rfl) (fun v19 => ?_)
    refine rv_goto (tgt := 17) h 81 dX2_clearestPair_81 (by decide) ?_
    refine rv_sub h [3, 4, 5, 6, 7, 0] rfl ?_
    exact ih8 v9 v10 v19 w12
  refine rv_iload h 71 dX2_clearestPair_71 1 rfl ?_
  refine rv_istore_n (lv' := [(3, .int v14), (8, .int v17), (7, .int v14), (1, .ref (ad 24)), (2, .int p2), (4, .int v10), (5, .int v5), (6, .int v11)]) h 73 dX2_clearestPair_73 (by decide) rfl ?_
  refine rv_iload h 74 dX2_clearestPair_74 1 rfl ?_
  refine rv_istore (lv' := [(4, .int v17), (3, .int v14), (8, .int v17), (7, .int v14), (1, .ref (ad 24)), (2, .int p2), (5, .int v5), (6, .int v11)]) h 76 dX2_clearestPair_76 (by decide) rfl ?_
  refine rv_iinc h 78 (fun v20 => [(6, .int v20), (4, .int v17), (3, .int v14), (8, .int v17), (7, .int v14), (1, .ref (ad 24)), (2, .int p2), (5, .int v5)]) dX2_clearestPair_78 7 rfl rv_c1 (by decide) (fun _ => rfl) (fun v20 => ?_)
  refine rv_goto (tgt := 17) h 81 dX2_clearestPair_81 (by decide) ?_
  refine rv_sub h [5, 6, 2, 1, 7, 0] rfl ?_
  exact ih8 v14 v17 v20 w12
def f_X2_lock (p1 : Int32) (p2 : Int32) (w : rv_W) : rv_R :=
  rv_bd (f_X1_exists p1 w) (fun (r1 : Int32) (w2 : rv_W) =>
  if r1 = 0 then
  some (0, w2)
  else
  rv_bd (f_X1_exists p2 w2) (fun (r3 : Int32) (w4 : rv_W) =>
  if r3 = 0 then
  some (0, w4)
  else
  rv_ck p2 5 (
  rv_bd (f_X1_has (w4 74 p2.toNatClampNeg) p1 w4) (fun (r5 : Int32) (w6 : rv_W) =>
  if r5 = 0 then
  rv_ck p1 5 (
  rv_ck p1 5 (rv_lt (rv_up w6 73 p1.toNatClampNeg ((w6 73 p1.toNatClampNeg) ||| ((1 : Int32) <<< (p2 &&& 31)))) (fun (w7 : rv_W) =>
  rv_ck p2 5 (
  rv_lt (((w7 74 p2.toNatClampNeg) ||| ((1 : Int32) <<< (p2 &&& 31)))) (fun (v8 : Int32) =>
  rv_fx (fun _ _ => none) (fun (ag9 : Int32 → rv_W → rv_R) (v11 : Int32) (w12 : rv_W) =>
  if v11 < (5 : Int32) then
  rv_jn (fun  (w13 : rv_W) =>
  rv_ck v11 5 (
  rv_ck v11 5 (rv_lt (rv_up w13 74 v11.toNatClampNeg ((w13 74 v11.toNatClampNeg) ||| v8)) (fun (w16 : rv_W) =>
  rv_lt (v11 + (1 : Int32)) (fun (v17 : Int32) =>
  ag9 v17 w16))))) (fun (k14 : rv_W → rv_R) =>
  if v11 = p1 then
  k14 w12
  else
  rv_ck v11 5 (
  rv_bd (f_X1_has (w12 74 v11.toNatClampNeg) p1 w12) (fun (r18 : Int32) (w19 : rv_W) =>
  if r18 = 0 then
  rv_lt (v11 + (1 : Int32)) (fun (v20 : Int32) =>
  ag9 v20 w19)
  else
  k14 w19)))
  else
  some (0, w12)) rv_FU (0 : Int32) w7)))))
  else
  some (0, w6)))))
set_option maxRecDepth 100000 in
set_option maxHeartbeats 4000000 in
theorem fn_X2_lock {l : Launch} {D : va_G} {ad : Nat → Nat} {ca : Nat → ClassId} (hJ : rv_J ad) (p1 : Int32) (p2 : Int32)  (w : rv_W) : rv_Fn l D ad ca yX2_lock cX2_lock 5 none 1 21 [.ref (ad 66), .int p1, .int p2] w (f_X2_lock p1 p2 w) := by
  refine rv_mk (lv := [(0, .ref (ad 66)), (1, .int p1), (2, .int p2)]) hJ (by decide +kernel) (Nat.le_of_ble_eq_true rfl) rfl (fun K h hr => ?_)
  have h : rv_Rl D ad ca l RX2 cX2_lock 5 1 21 K := h
  unfold f_X2_lock
  refine rv_iload_n h 0 dX2_lock_0 1 rfl ?_
  refine rv_callSi h 1 dX2_lock_1 (fn_X1_exists hJ p1  w) ce_X1_exists lk_X2_52 rfl rfl (Nat.le_of_ble_eq_true rfl) ⟨Nat.le_of_ble_eq_true rfl, Nat.le_of_ble_eq_true rfl⟩ (fun r1 w2 => ?_)
  refine rv_if_eq (tgt := 27) h 4 dX2_lock_4 (by decide) (fun _ => ?_) (fun _ => ?_)
  · exact rv_retv hr 27 dX2_lock_27
  refine rv_iload_n h 7 dX2_lock_7 2 rfl ?_
  refine rv_callSi h 8 dX2_lock_8 (fn_X1_exists hJ p2  w2) ce_X1_exists lk_X2_52 rfl rfl (Nat.le_of_ble_eq_true rfl) ⟨Nat.le_of_ble_eq_true rfl, Nat.le_of_ble_eq_true rfl⟩ (fun r3 w4 => ?_)
  refine rv_if_eq (tgt := 27) h 11 dX2_lock_11 (by decide) (fun _ => ?_) (fun _ => ?_)
  · exact rv_retv hr 27 dX2_lock_27
  refine rv_aload_n h 14 dX2_lock_14 0 rfl ?_
  refine rv_getr h 15 dX2_lock_15 rv_s66 rv_fd_X2_20 rfl ?_
  refine rv_iload_n h 18 dX2_lock_18 2 rfl ?_
  refine rv_iald h 19 dX2_lock_19 rv_s74 ?_
  refine rv_iload_n h 20 dX2_lock_20 1 rfl ?_
  refine rv_callSi h 21 dX2_lock_21 (fn_X1_has hJ (w4 74 p2.toNatClampNeg) p1  w4) ce_X1_has lk_X2_29 rfl rfl (Nat.le_of_ble_eq_true rfl) ⟨Nat.le_of_ble_eq_true rfl, Nat.le_of_ble_eq_true rfl⟩ (fun r5 w6 => ?_)
  refine rv_if_eq (tgt := 28) h 24 dX2_lock_24 (by decide) (fun _ => ?_) (fun _ => ?_)
  rotate_left
  · exact rv_retv hr 27 dX2_lock_27
  refine rv_aload_n h 28 dX2_lock_28 0 rfl ?_
  refine rv_getr h 29 dX2_lock_29 rv_s66 rv_fd_X2_16 rfl ?_
  refine rv_iload_n h 32 dX2_lock_32 1 rfl ?_
  refine rv_dup2 h 33 dX2_lock_33 rfl rfl ?_
  refine rv_iald h 34 dX2_lock_34 rv_s73 ?_
  refine rv_iconst h 35 dX2_lock_35 rv_c1 ?_
  refine rv_iload_n h 36 dX2_lock_36 2 rfl ?_
  refine rv_ishl h 37 dX2_lock_37 ?_
  refine rv_ior h 38 dX2_lock_38 ?_
  refine rv_iast h 39 dX2_lock_39 rv_s73 (fun w7 => ?_)
  refine rv_aload_n h 40 dX2_lock_40 0 rfl ?_
  refine rv_getr h 41 dX2_lock_41 rv_s66 rv_fd_X2_20 rfl ?_
  refine rv_iload_n h 44 dX2_lock_44 2 rfl ?_
  refine rv_iald h 45 dX2_lock_45 rv_s74 ?_
  refine rv_iconst h 46 dX2_lock_46 rv_c1 ?_
  refine rv_iload_n h 47 dX2_lock_47 2 rfl ?_
  refine rv_ishl h 48 dX2_lock_48 ?_
  refine rv_ior h 49 dX2_lock_49 ?_
  refine rv_top (fun v8 => ?_)
  refine rv_istore_n (lv' := [(3, .int v8), (0, .ref (ad 66)), (1, .int p1), (2, .int p2)]) h 50 dX2_lock_50 (by decide) rfl ?_
  refine rv_iconst h 51 dX2_lock_51 rv_c0 ?_
  refine rv_istore (lv' := [(4, .int (0 : Int32)), (3, .int v8), (0, .ref (ad 66)), (1, .int p1), (2, .int p2)]) h 52 dX2_lock_52 (by decide) rfl ?_
  refine rv_sub h [2, 3, 1, 0] rfl ?_
  refine rv_fx_ind (fun (a0 : Int32 → rv_W → rv_R) => ∀ (v11 : Int32) (w12 : rv_W), K 54 [(0, .ref (ad 66)), (1, .int p1), (3, .int v8), (4, .int v11)] [] w12 (a0 v11 w12)) (fun _ _ => rv_none h) (fun ag9 ih10 v11 w12 => ?_) rv_FU (0 : Int32) w7
  refine rv_iload h 54 dX2_lock_54 3 rfl ?_
  refine rv_iconst h 56 dX2_lock_56 rv_c5 ?_
  refine rv_icmp_ge (tgt := 97) h 57 dX2_lock_57 (by decide) (fun _ => ?_) (fun _ => ?_)
  rotate_left
  · exact rv_retv hr 97 dX2_lock_97
  refine rv_iload h 60 dX2_lock_60 3 rfl ?_
  refine rv_iload_n h 62 dX2_lock_62 1 rfl ?_
  refine rv_join (fun (k0 : rv_W → rv_R) => ∀  (w13 : rv_W), K 80 [(0, .ref (ad 66)), (1, .int p1), (3, .int v8), (4, .int v11)] ([]) w13 (k0 w13)) (fun w13 => ?_) (fun k14 hk15 => ?_)
  · refine rv_aload_n h 80 dX2_lock_80 0 rfl ?_
    refine rv_getr h 81 dX2_lock_81 rv_s66 rv_fd_X2_20 rfl ?_
    refine rv_iload h 84 dX2_lock_84 3 rfl ?_
    refine rv_dup2 h 86 dX2_lock_86 rfl rfl ?_
    refine rv_iald h 87 dX2_lock_87 rv_s74 ?_
    refine rv_iload_n h 88 dX2_lock_88 2 rfl ?_
    refine rv_ior h 89 dX2_lock_89 ?_
    refine rv_iast h 90 dX2_lock_90 rv_s74 (fun w16 => ?_)
    refine rv_iinc h 91 (fun v17 => [(4, .int v17), (0, .ref (ad 66)), (1, .int p1), (3, .int v8)]) dX2_lock_91 3 rfl rv_c1 (by decide) (fun _ => rfl) (fun v17 => ?_)
    refine rv_goto (tgt := 54) h 94 dX2_lock_94 (by decide) ?_
    refine rv_sub h [1, 2, 3, 0] rfl ?_
    exact ih10 v17 w16
  refine rv_icmp_eq (tgt := 80) h 63 dX2_lock_63 (by decide) (fun _ => ?_) (fun _ => ?_)
  · refine rv_sub h [0, 1, 2, 3] rfl ?_
    exact hk15 w12
  refine rv_aload_n h 66 dX2_lock_66 0 rfl ?_
  refine rv_getr h 67 dX2_lock_67 rv_s66 rv_fd_X2_20 rfl ?_
  refine rv_iload h 70 dX2_lock_70 3 rfl ?_
  refine rv_iald h 72 dX2_lock_72 rv_s74 ?_
  refine rv_iload_n h 73 dX2_lock_73 1 rfl ?_
  refine rv_callSi h 74 dX2_lock_74 (fn_X1_has hJ (w12 74 v11.toNatClampNeg) p1  w12) ce_X1_has lk_X2_29 rfl rfl (Nat.le_of_ble_eq_true rfl) ⟨Nat.le_of_ble_eq_true rfl, Nat.le_of_ble_eq_true rfl⟩ (fun r18 w19 => ?_)
  refine rv_if_eq (tgt := 91) h 77 dX2_lock_77 (by decide) (fun _ => ?_) (fun _ => ?_)
  rotate_left
  · refine rv_sub h [0, 1, 2, 3] rfl ?_
    exact hk15 w19
  refine rv_iinc h 91 (fun v20 => [(4, .int v20), (0, .ref (ad 66)), (1, .int p1), (3, .int v8)]) dX2_lock_91 3 rfl rv_c1 (by decide) (fun _ => rfl) (fun v20 => ?_)
  refine rv_goto (tgt := 54) h 94 dX2_lock_94 (by decide) ?_
  refine rv_sub h [1, 2, 3, 0] rfl ?_
  exact ih10 v20 w19
def f_X2_lockPairs  (w : rv_W) : rv_R :=
  rv_fx (fun _ _ => none) (fun (ag1 : Int32 → rv_W → rv_R) (v3 : Int32) (w4 : rv_W) =>
  if v3 < (5 : Int32) then
  rv_ck v3 5 (rv_lt (rv_up w4 73 v3.toNatClampNeg (0 : Int32)) (fun (w16 : rv_W) =>
  rv_ck v3 5 (rv_lt (rv_up w16 74 v3.toNatClampNeg (0 : Int32)) (fun (w17 : rv_W) =>
  rv_lt (v3 + (1 : Int32)) (fun (v18 : Int32) =>
  ag1 v18 w17)))))
  else
  rv_fx (fun _ _ _ => none) (fun (ag5 : Int32 → Int32 → rv_W → rv_R) (v7 : Int32) (v8 : Int32) (w9 : rv_W) =>
  if v8 < (25 : Int32) then
  rv_bd (f_X2_clearestPair v7 w9) (fun (r10 : Int32) (w11 : rv_W) =>
  if r10 < 0 then
  some (0, w11)
  else
  rv_lt ((v7 ||| ((1 : Int32) <<< (r10 &&& 31)))) (fun (v12 : Int32) =>
  rv_bd (f_X2_lock (r10 / (5 : Int32)) (r10 - r10 / (5 : Int32) * (5 : Int32)) w11) (fun (r13 : Int32) (w14 : rv_W) =>
  rv_lt (v8 + (1 : Int32)) (fun (v15 : Int32) =>
  ag5 v12 v15 w14))))
  else
  some (0, w9)) rv_FU (0 : Int32) (0 : Int32) w4) rv_FU (0 : Int32) w
set_option maxRecDepth 100000 in
set_option maxHeartbeats 4000000 in
theorem fn_X2_lockPairs {l : Launch} {D : va_G} {ad : Nat → Nat} {ca : Nat → ClassId} (hJ : rv_J ad)   (w : rv_W) : rv_Fn l D ad ca yX2_lockPairs cX2_lockPairs 5 none 2 45 [.ref (ad 66), .ref (ad 24)] w (f_X2_lockPairs  w) := by
  refine rv_mk (lv := [(0, .ref (ad 66)), (1, .ref (ad 24))]) hJ (by decide +kernel) (Nat.le_of_ble_eq_true rfl) rfl (fun K h hr => ?_)
  have h : rv_Rl D ad ca l RX2 cX2_lockPairs 5 2 45 K := h
  unfold f_X2_lockPairs
  refine rv_iconst h 0 dX2_lockPairs_0 rv_c0 ?_
  refine rv_istore_n (lv' := [(2, .int (0 : Int32)), (0, .ref (ad 66)), (1, .ref (ad 24))]) h 1 dX2_lockPairs_1 (by decide) rfl ?_
  refine rv_sub h [1, 2, 0] rfl ?_
  refine rv_fx_ind (fun (a0 : Int32 → rv_W → rv_R) => ∀ (v3 : Int32) (w4 : rv_W), K 2 [(0, .ref (ad 66)), (1, .ref (ad 24)), (2, .int v3)] [] w4 (a0 v3 w4)) (fun _ _ => rv_none h) (fun ag1 ih2 v3 w4 => ?_) rv_FU (0 : Int32) w
  refine rv_iload_n h 2 dX2_lockPairs_2 2 rfl ?_
  refine rv_iconst h 3 dX2_lockPairs_3 rv_c5 ?_
  refine rv_icmp_ge (tgt := 27) h 4 dX2_lockPairs_4 (by decide) (fun _ => ?_) (fun _ => ?_)
  · refine rv_aload_n h 7 dX2_lockPairs_7 0 rfl ?_
    refine rv_getr h 8 dX2_lockPairs_8 rv_s66 rv_fd_X2_16 rfl ?_
    refine rv_iload_n h 11 dX2_lockPairs_11 2 rfl ?_
    refine rv_iconst h 12 dX2_lockPairs_12 rv_c0 ?_
    refine rv_iast h 13 dX2_lockPairs_13 rv_s73 (fun w16 => ?_)
    refine rv_aload_n h 14 dX2_lockPairs_14 0 rfl ?_
    refine rv_getr h 15 dX2_lockPairs_15 rv_s66 rv_fd_X2_20 rfl ?_
    refine rv_iload_n h 18 dX2_lockPairs_18 2 rfl ?_
    refine rv_iconst h 19 dX2_lockPairs_19 rv_c0 ?_
    refine rv_iast h 20 dX2_lockPairs_20 rv_s74 (fun w17 => ?_)
    refine rv_iinc h 21 (fun v18 => [(2, .int v18), (0, .ref (ad 66)), (1, .ref (ad 24))]) dX2_lockPairs_21 2 rfl rv_c1 (by decide) (fun _ => rfl) (fun v18 => ?_)
    refine rv_goto (tgt := 2) h 24 dX2_lockPairs_24 (by decide) ?_
    refine rv_sub h [1, 2, 0] rfl ?_
    exact ih2 v18 w17
  refine rv_iconst h 27 dX2_lockPairs_27 rv_c0 ?_
  refine rv_istore_n (lv' := [(2, .int (0 : Int32)), (0, .ref (ad 66)), (1, .ref (ad 24))]) h 28 dX2_lockPairs_28 (by decide) rfl ?_
  refine rv_iconst h 29 dX2_lockPairs_29 rv_c0 ?_
  refine rv_istore_n (lv' := [(3, .int (0 : Int32)), (2, .int (0 : Int32)), (0, .ref (ad 66)), (1, .ref (ad 24))]) h 30 dX2_lockPairs_30 (by decide) rfl ?_
  refine rv_sub h [2, 3, 1, 0] rfl ?_
  refine rv_fx_ind (fun (a0 : Int32 → Int32 → rv_W → rv_R) => ∀ (v7 : Int32) (v8 : Int32) (w9 : rv_W), K 31 [(0, .ref (ad 66)), (1, .ref (ad 24)), (2, .int v7), (3, .int v8)] [] w9 (a0 v7 v8 w9)) (fun _ _ _ => rv_none h) (fun ag5 ih6 v7 v8 w9 => ?_) rv_FU (0 : Int32) (0 : Int32) w4
  refine rv_iload_n h 31 dX2_lockPairs_31 3 rfl ?_
  refine rv_bipush (v := 25) h 32 dX2_lockPairs_32 (by decide +kernel) ?_
  refine rv_icmp_ge (tgt := 76) h 34 dX2_lockPairs_34 (by decide) (fun _ => ?_) (fun _ => ?_)
  rotate_left
  · exact rv_retv hr 76 dX2_lockPairs_76
  refine rv_aload_n h 37 dX2_lockPairs_37 0 rfl ?_
  refine rv_aload_n h 38 dX2_lockPairs_38 1 rfl ?_
  refine rv_iload_n h 39 dX2_lockPairs_39 2 rfl ?_
  refine rv_callVi h 40 dX2_lockPairs_40 (fn_X2_clearestPair hJ v7  w9) ce_X2_clearestPair lk_X2_64 rv_s66 rfl rv_cf0 rfl rfl (Nat.le_of_ble_eq_true rfl) ⟨Nat.le_of_ble_eq_true rfl, Nat.le_of_ble_eq_true rfl⟩ (fun r10 w11 => ?_)
  refine rv_istore (lv' := [(4, .int r10), (0, .ref (ad 66)), (1, .ref (ad 24)), (2, .int v7), (3, .int v8)]) h 43 dX2_lockPairs_43 (by decide) rfl ?_
  refine rv_iload h 45 dX2_lockPairs_45 0 rfl ?_
  refine rv_if_ge (tgt := 51) h 47 dX2_lockPairs_47 (by decide) (fun _ => ?_) (fun _ => ?_)
  · exact rv_retv hr 50 dX2_lockPairs_50
  refine rv_iload_n h 51 dX2_lockPairs_51 3 rfl ?_
  refine rv_iconst h 52 dX2_lockPairs_52 rv_c1 ?_
  refine rv_iload h 53 dX2_lockPairs_53 0 rfl ?_
  refine rv_ishl h 55 dX2_lockPairs_55 ?_
  refine rv_ior h 56 dX2_lockPairs_56 ?_
  refine rv_top (fun v12 => ?_)
  refine rv_istore_n (lv' := [(2, .int v12), (4, .int r10), (0, .ref (ad 66)), (1, .ref (ad 24)), (3, .int v8)]) h 57 dX2_lockPairs_57 (by decide) rfl ?_
  refine rv_aload_n h 58 dX2_lockPairs_58 2 rfl ?_
  refine rv_iload h 59 dX2_lockPairs_59 1 rfl ?_
  refine rv_iconst h 61 dX2_lockPairs_61 rv_c5 ?_
  refine rv_idiv h 62 dX2_lockPairs_62 (by decide) ?_
  refine rv_iload h 63 dX2_lockPairs_63 1 rfl ?_
  refine rv_iconst h 65 dX2_lockPairs_65 rv_c5 ?_
  refine rv_irem h 66 dX2_lockPairs_66 (by decide) ?_
  refine rv_callVv h 67 dX2_lockPairs_67 (fn_X2_lock hJ (r10 / (5 : Int32)) (r10 - r10 / (5 : Int32) * (5 : Int32))  w11) ce_X2_lock lk_X2_68 rv_s66 rfl rv_cf0 rfl rfl (Nat.le_of_ble_eq_true rfl) ⟨Nat.le_of_ble_eq_true rfl, Nat.le_of_ble_eq_true rfl⟩ (fun r13 w14 => ?_)
  refine rv_iinc h 70 (fun v15 => [(3, .int v15), (2, .int v12), (4, .int r10), (0, .ref (ad 66)), (1, .ref (ad 24))]) dX2_lockPairs_70 4 rfl rv_c1 (by decide) (fun _ => rfl) (fun v15 => ?_)
  refine rv_goto (tgt := 31) h 73 dX2_lockPairs_73 (by decide) ?_
  refine rv_sub h [3, 4, 1, 0] rfl ?_
  exact ih6 v12 v15 w14
def f_X2_sources  (w : rv_W) : rv_R :=
  rv_fx (fun _ _ _ => none) (fun (ag1 : Int32 → Int32 → rv_W → rv_R) (v3 : Int32) (v4 : Int32) (w5 : rv_W) =>
  if v4 < (5 : Int32) then
  rv_ck v4 5 (
  rv_lt ((v3 &&& ((w5 73 v4.toNatClampNeg) ^^^ (-1 : Int32)))) (fun (v6 : Int32) =>
  rv_lt (v4 + (1 : Int32)) (fun (v7 : Int32) =>
  ag1 v6 v7 w5)))
  else
  some (v3, w5)) rv_FU (w 24 0) (0 : Int32) w
set_option maxRecDepth 100000 in
set_option maxHeartbeats 4000000 in
theorem fn_X2_sources {l : Launch} {D : va_G} {ad : Nat → Nat} {ca : Nat → ClassId} (hJ : rv_J ad)   (w : rv_W) : rv_Fn l D ad ca yX2_sources cX2_sources 4 (some .int) 0 0 [.ref (ad 66), .ref (ad 24)] w (f_X2_sources  w) := by
  refine rv_mk (lv := [(0, .ref (ad 66)), (1, .ref (ad 24))]) hJ (by decide +kernel) (Nat.le_of_ble_eq_true rfl) rfl (fun K h hr => ?_)
  have h : rv_Rl D ad ca l RX2 cX2_sources 4 0 0 K := h
  unfold f_X2_sources
  refine rv_aload_n h 0 dX2_sources_0 1 rfl ?_
  refine rv_geti h 1 dX2_sources_1 rv_s24 rv_fd_X2_23 rfl ?_
  refine rv_istore_n (lv' := [(2, .int (w 24 0)), (0, .ref (ad 66)), (1, .ref (ad 24))]) h 4 dX2_sources_4 (by decide) rfl ?_
  refine rv_iconst h 5 dX2_sources_5 rv_c0 ?_
  refine rv_istore_n (lv' := [(3, .int (0 : Int32)), (2, .int (w 24 0)), (0, .ref (ad 66)), (1, .ref (ad 24))]) h 6 dX2_sources_6 (by decide) rfl ?_
  refine rv_sub h [2, 1, 0] rfl ?_
  refine rv_fx_ind (fun (a0 : Int32 → Int32 → rv_W → rv_R) => ∀ (v3 : Int32) (v4 : Int32) (w5 : rv_W), K 7 [(0, .ref (ad 66)), (2, .int v3), (3, .int v4)] [] w5 (a0 v3 v4 w5)) (fun _ _ _ => rv_none h) (fun ag1 ih2 v3 v4 w5 => ?_) rv_FU (w 24 0) (0 : Int32) w
  refine rv_iload_n h 7 dX2_sources_7 2 rfl ?_
  refine rv_iconst h 8 dX2_sources_8 rv_c5 ?_
  refine rv_icmp_ge (tgt := 29) h 9 dX2_sources_9 (by decide) (fun _ => ?_) (fun _ => ?_)
  rotate_left
  · refine rv_iload_n h 29 dX2_sources_29 1 rfl ?_
    exact rv_reti hr 30 dX2_sources_30
  refine rv_iload_n h 12 dX2_sources_12 1 rfl ?_
  refine rv_aload_n h 13 dX2_sources_13 0 rfl ?_
  refine rv_getr h 14 dX2_sources_14 rv_s66 rv_fd_X2_16 rfl ?_
  refine rv_iload_n h 17 dX2_sources_17 2 rfl ?_
  refine rv_iald h 18 dX2_sources_18 rv_s73 ?_
  refine rv_iconst h 19 dX2_sources_19 rv_cm1 ?_
  refine rv_ixor h 20 dX2_sources_20 ?_
  refine rv_iand h 21 dX2_sources_21 ?_
  refine rv_top (fun v6 => ?_)
  refine rv_istore_n (lv' := [(2, .int v6), (0, .ref (ad 66)), (3, .int v4)]) h 22 dX2_sources_22 (by decide) rfl ?_
  refine rv_iinc h 23 (fun v7 => [(3, .int v7), (2, .int v6), (0, .ref (ad 66))]) dX2_sources_23 2 rfl rv_c1 (by decide) (fun _ => rfl) (fun v7 => ?_)
  refine rv_goto (tgt := 7) h 26 dX2_sources_26 (by decide) ?_
  refine rv_sub h [2, 1, 0] rfl ?_
  exact ih2 v6 v7 w5
def f_X3_greatest (p1 : Int32) (w : rv_W) : rv_R :=
  if p1 < 0 then
  some ((0 : Int32), w)
  else
  if p1 < (32 : Int32) then
  rv_ck p1 32 (
  some ((w 76 p1.toNatClampNeg), w))
  else
  some ((0 : Int32), w)
set_option maxRecDepth 100000 in
set_option maxHeartbeats 4000000 in
theorem fn_X3_greatest {l : Launch} {D : va_G} {ad : Nat → Nat} {ca : Nat → ClassId} (hJ : rv_J ad) (p1 : Int32)  (w : rv_W) : rv_Fn l D ad ca yX3_greatest cX3_greatest 2 (some .int) 0 0 [.ref (ad 75), .int p1] w (f_X3_greatest p1 w) := by
  refine rv_mk (lv := [(0, .ref (ad 75)), (1, .int p1)]) hJ (by decide +kernel) (Nat.le_of_ble_eq_true rfl) rfl (fun K h hr => ?_)
  have h : rv_Rl D ad ca l RX3 cX3_greatest 2 0 0 K := h
  unfold f_X3_greatest
  refine rv_iload_n h 0 dX3_greatest_0 1 rfl ?_
  refine rv_if_lt (tgt := 22) h 1 dX3_greatest_1 (by decide) (fun _ => ?_) (fun _ => ?_)
  · refine rv_iconst h 22 dX3_greatest_22 rv_c0 ?_
    exact rv_reti hr 23 dX3_greatest_23
  refine rv_iload_n h 4 dX3_greatest_4 1 rfl ?_
  refine rv_aload_n h 5 dX3_greatest_5 0 rfl ?_
  refine rv_getr h 6 dX3_greatest_6 rv_s75 rv_fd_X3_9 rfl ?_
  refine rv_len (v := 32) h 9 dX3_greatest_9 rv_s76 (by decide) (by decide +kernel) ?_
  refine rv_icmp_ge (tgt := 22) h 10 dX3_greatest_10 (by decide) (fun _ => ?_) (fun _ => ?_)
  rotate_left
  · refine rv_iconst h 22 dX3_greatest_22 rv_c0 ?_
    exact rv_reti hr 23 dX3_greatest_23
  refine rv_aload_n h 13 dX3_greatest_13 0 rfl ?_
  refine rv_getr h 14 dX3_greatest_14 rv_s75 rv_fd_X3_9 rfl ?_
  refine rv_iload_n h 17 dX3_greatest_17 1 rfl ?_
  refine rv_iald h 18 dX3_greatest_18 rv_s76 ?_
  refine rv_goto (tgt := 23) h 19 dX3_greatest_19 (by decide) ?_
  exact rv_reti hr 23 dX3_greatest_23
def f_X3_valueWith (p2 : Int32) (p3 : Int32) (w : rv_W) : rv_R :=
  rv_bd (f_X1_without p2 p3 w) (fun (r1 : Int32) (w2 : rv_W) =>
  rv_bd (f_X3_greatest r1 w2) (fun (r3 : Int32) (w4 : rv_W) =>
  rv_bd (f_X1_exists p3 w4) (fun (r5 : Int32) (w6 : rv_W) =>
  if r5 = 0 then
  some (r3, w6)
  else
  rv_fx (fun _ _ _ => none) (fun (ag7 : Int32 → Int32 → rv_W → rv_R) (v9 : Int32) (v10 : Int32) (w11 : rv_W) =>
  if v10 < (5 : Int32) then
  rv_bd (f_X1_has r1 v10 w11) (fun (r12 : Int32) (w13 : rv_W) =>
  if r12 = 0 then
  rv_lt (v10 + (1 : Int32)) (fun (v14 : Int32) =>
  ag7 v9 v14 w13)
  else
  rv_ck p3 5 (
  rv_ck v10 5 (
  rv_lt ((v9 + (w13 (26 + p3.toNatClampNeg) v10.toNatClampNeg))) (fun (v16 : Int32) =>
  rv_lt (v10 + (1 : Int32)) (fun (v17 : Int32) =>
  ag7 v16 v17 w13)))))
  else
  some (v9, w11)) rv_FU r3 (0 : Int32) w6)))
set_option maxRecDepth 100000 in
set_option maxHeartbeats 4000000 in
theorem fn_X3_valueWith {l : Launch} {D : va_G} {ad : Nat → Nat} {ca : Nat → ClassId} (hJ : rv_J ad) (p2 : Int32) (p3 : Int32)  (w : rv_W) : rv_Fn l D ad ca yX3_valueWith cX3_valueWith 7 (some .int) 1 21 [.ref (ad 75), .ref (ad 24), .int p2, .int p3] w (f_X3_valueWith p2 p3 w) := by
  refine rv_mk (lv := [(0, .ref (ad 75)), (1, .ref (ad 24)), (2, .int p2), (3, .int p3)]) hJ (by decide +kernel) (Nat.le_of_ble_eq_true rfl) rfl (fun K h hr => ?_)
  have h : rv_Rl D ad ca l RX3 cX3_valueWith 7 1 21 K := h
  unfold f_X3_valueWith
  refine rv_iload_n h 0 dX3_valueWith_0 2 rfl ?_
  refine rv_iload_n h 1 dX3_valueWith_1 3 rfl ?_
  refine rv_callSi h 2 dX3_valueWith_2 (fn_X1_without hJ p2 p3  w) ce_X1_without lk_X3_37 rfl rfl (Nat.le_of_ble_eq_true rfl) ⟨Nat.le_of_ble_eq_true rfl, Nat.le_of_ble_eq_true rfl⟩ (fun r1 w2 => ?_)
  refine rv_istore (lv' := [(4, .int r1), (0, .ref (ad 75)), (1, .ref (ad 24)), (2, .int p2), (3, .int p3)]) h 5 dX3_valueWith_5 (by decide) rfl ?_
  refine rv_aload_n h 7 dX3_valueWith_7 1 rfl ?_
  refine rv_iload h 8 dX3_valueWith_8 0 rfl ?_
  refine rv_callVi h 10 dX3_valueWith_10 (fn_X3_greatest hJ r1  w2) ce_X3_greatest lk_X3_40 rv_s75 rfl rv_cf1 rfl rfl (Nat.le_of_ble_eq_true rfl) ⟨Nat.le_of_ble_eq_true rfl, Nat.le_of_ble_eq_true rfl⟩ (fun r3 w4 => ?_)
  refine rv_istore (lv' := [(5, .int r3), (4, .int r1), (0, .ref (ad 75)), (1, .ref (ad 24)), (2, .int p2), (3, .int p3)]) h 13 dX3_valueWith_13 (by decide) rfl ?_
  refine rv_iload_n h 15 dX3_valueWith_15 5 rfl ?_
  refine rv_callSi h 16 dX3_valueWith_16 (fn_X1_exists hJ p3  w4) ce_X1_exists lk_X3_44 rfl rfl (Nat.le_of_ble_eq_true rfl) ⟨Nat.le_of_ble_eq_true rfl, Nat.le_of_ble_eq_true rfl⟩ (fun r5 w6 => ?_)
  refine rv_if_ne (tgt := 25) h 19 dX3_valueWith_19 (by decide) (fun _ => ?_) (fun _ => ?_)
  · refine rv_iload h 22 dX3_valueWith_22 0 rfl ?_
    exact rv_reti hr 24 dX3_valueWith_24
  refine rv_iconst h 25 dX3_valueWith_25 rv_c0 ?_
  refine rv_istore (lv' := [(6, .int (0 : Int32)), (5, .int r3), (4, .int r1), (0, .ref (ad 75)), (1, .ref (ad 24)), (2, .int p2), (3, .int p3)]) h 26 dX3_valueWith_26 (by decide) rfl ?_
  refine rv_sub h [4, 6, 2, 1, 0] rfl ?_
  refine rv_fx_ind (fun (a0 : Int32 → Int32 → rv_W → rv_R) => ∀ (v9 : Int32) (v10 : Int32) (w11 : rv_W), K 28 [(1, .ref (ad 24)), (3, .int p3), (4, .int r1), (5, .int v9), (6, .int v10)] [] w11 (a0 v9 v10 w11)) (fun _ _ _ => rv_none h) (fun ag7 ih8 v9 v10 w11 => ?_) rv_FU r3 (0 : Int32) w6
  refine rv_iload h 28 dX3_valueWith_28 4 rfl ?_
  refine rv_iconst h 30 dX3_valueWith_30 rv_c5 ?_
  refine rv_icmp_ge (tgt := 64) h 31 dX3_valueWith_31 (by decide) (fun _ => ?_) (fun _ => ?_)
  rotate_left
  · refine rv_iload h 64 dX3_valueWith_64 3 rfl ?_
    exact rv_reti hr 66 dX3_valueWith_66
  refine rv_iload h 34 dX3_valueWith_34 2 rfl ?_
  refine rv_iload h 36 dX3_valueWith_36 4 rfl ?_
  refine rv_callSi h 38 dX3_valueWith_38 (fn_X1_has hJ r1 v10  w11) ce_X1_has lk_X3_21 rfl rfl (Nat.le_of_ble_eq_true rfl) ⟨Nat.le_of_ble_eq_true rfl, Nat.le_of_ble_eq_true rfl⟩ (fun r12 w13 => ?_)
  refine rv_if_eq (tgt := 58) h 41 dX3_valueWith_41 (by decide) (fun _ => ?_) (fun _ => ?_)
  · refine rv_iinc h 58 (fun v14 => [(6, .int v14), (1, .ref (ad 24)), (3, .int p3), (4, .int r1), (5, .int v9)]) dX3_valueWith_58 4 rfl rv_c1 (by decide) (fun _ => rfl) (fun v14 => ?_)
    refine rv_goto (tgt := 28) h 61 dX3_valueWith_61 (by decide) ?_
    refine rv_sub h [1, 2, 3, 4, 0] rfl ?_
    exact ih8 v9 v14 w13
  refine rv_iload h 44 dX3_valueWith_44 3 rfl ?_
  refine rv_aload_n h 46 dX3_valueWith_46 0 rfl ?_
  refine rv_getr h 47 dX3_valueWith_47 rv_s24 rv_fd_X3_48 rfl ?_
  refine rv_iload_n h 50 dX3_valueWith_50 1 rfl ?_
  refine rv_aald h 51 dX3_valueWith_51 rv_s25 (fun hi15 => ?_)
  refine rv_iload h 52 dX3_valueWith_52 4 rfl ?_
  refine rv_iald h 54 dX3_valueWith_54 (rv_row26 hi15) ?_
  refine rv_iadd h 55 dX3_valueWith_55 ?_
  refine rv_top (fun v16 => ?_)
  refine rv_istore (lv' := [(5, .int v16), (1, .ref (ad 24)), (3, .int p3), (4, .int r1), (6, .int v10)]) h 56 dX3_valueWith_56 (by decide) rfl ?_
  refine rv_iinc h 58 (fun v17 => [(6, .int v17), (5, .int v16), (1, .ref (ad 24)), (3, .int p3), (4, .int r1)]) dX3_valueWith_58 4 rfl rv_c1 (by decide) (fun _ => rfl) (fun v17 => ?_)
  refine rv_goto (tgt := 28) h 61 dX3_valueWith_61 (by decide) ?_
  refine rv_sub h [2, 3, 4, 1, 0] rfl ?_
  exact ih8 v16 v17 w13
def f_X3_weigh  (w : rv_W) : rv_R :=
  rv_fx (fun _ _ => none) (fun (ag1 : Int32 → rv_W → rv_R) (v3 : Int32) (w4 : rv_W) =>
  if v3 < (32 : Int32) then
  rv_ck v3 32 (rv_lt (rv_up w4 76 v3.toNatClampNeg (0 : Int32)) (fun (w5 : rv_W) =>
  rv_fx (fun _ _ => none) (fun (ag6 : Int32 → rv_W → rv_R) (v8 : Int32) (w9 : rv_W) =>
  if v8 < (5 : Int32) then
  if (v3 &&& ((w9 24 0) ^^^ (-1 : Int32))) = 0 then
  rv_bd (f_X1_has v3 v8 w9) (fun (r12 : Int32) (w13 : rv_W) =>
  if r12 = 0 then
  rv_lt (v8 + (1 : Int32)) (fun (v14 : Int32) =>
  ag6 v14 w13)
  else
  rv_ck v3 32 (
  rv_bd (f_X3_valueWith v3 v8 w13) (fun (r15 : Int32) (w16 : rv_W) =>
  rv_ck v3 32 (rv_lt (rv_up w16 76 v3.toNatClampNeg (if (w13 76 v3.toNatClampNeg) < r15 then r15 else (w13 76 v3.toNatClampNeg))) (fun (w17 : rv_W) =>
  rv_lt (v8 + (1 : Int32)) (fun (v18 : Int32) =>
  ag6 v18 w17))))))
  else
  rv_lt (v3 + (1 : Int32)) (fun (v11 : Int32) =>
  ag1 v11 w9)
  else
  rv_lt (v3 + (1 : Int32)) (fun (v10 : Int32) =>
  ag1 v10 w9)) rv_FU (0 : Int32) w5))
  else
  some (0, w4)) rv_FU (0 : Int32) w
set_option maxRecDepth 100000 in
set_option maxHeartbeats 4000000 in
theorem fn_X3_weigh {l : Launch} {D : va_G} {ad : Nat → Nat} {ca : Nat → ClassId} (hJ : rv_J ad)   (w : rv_W) : rv_Fn l D ad ca yX3_weigh cX3_weigh 4 none 2 47 [.ref (ad 75), .ref (ad 24)] w (f_X3_weigh  w) := by
  refine rv_mk (lv := [(0, .ref (ad 75)), (1, .ref (ad 24))]) hJ (by decide +kernel) (Nat.le_of_ble_eq_true rfl) rfl (fun K h hr => ?_)
  have h : rv_Rl D ad ca l RX3 cX3_weigh 4 2 47 K := h
  unfold f_X3_weigh
  refine rv_iconst h 0 dX3_weigh_0 rv_c0 ?_
  refine rv_istore_n (lv' := [(2, .int (0 : Int32)), (0, .ref (ad 75)), (1, .ref (ad 24))]) h 1 dX3_weigh_1 (by decide) rfl ?_
  refine rv_sub h [1, 2, 0] rfl ?_
  refine rv_fx_ind (fun (a0 : Int32 → rv_W → rv_R) => ∀ (v3 : Int32) (w4 : rv_W), K 2 [(0, .ref (ad 75)), (1, .ref (ad 24)), (2, .int v3)] [] w4 (a0 v3 w4)) (fun _ _ => rv_none h) (fun ag1 ih2 v3 w4 => ?_) rv_FU (0 : Int32) w
  refine rv_iload_n h 2 dX3_weigh_2 2 rfl ?_
  refine rv_aload_n h 3 dX3_weigh_3 0 rfl ?_
  refine rv_getr h 4 dX3_weigh_4 rv_s75 rv_fd_X3_9 rfl ?_
  refine rv_len (v := 32) h 7 dX3_weigh_7 rv_s76 (by decide) (by decide +kernel) ?_
  refine rv_icmp_ge (tgt := 78) h 8 dX3_weigh_8 (by decide) (fun _ => ?_) (fun _ => ?_)
  rotate_left
  · exact rv_retv hr 78 dX3_weigh_78
  refine rv_aload_n h 11 dX3_weigh_11 0 rfl ?_
  refine rv_getr h 12 dX3_weigh_12 rv_s75 rv_fd_X3_9 rfl ?_
  refine rv_iload_n h 15 dX3_weigh_15 2 rfl ?_
  refine rv_iconst h 16 dX3_weigh_16 rv_c0 ?_
  refine rv_iast h 17 dX3_weigh_17 rv_s76 (fun w5 => ?_)
  refine rv_iconst h 18 dX3_weigh_18 rv_c0 ?_
  refine rv_istore_n (lv' := [(3, .int (0 : Int32)), (0, .ref (ad 75)), (1, .ref (ad 24)), (2, .int v3)]) h 19 dX3_weigh_19 (by decide) rfl ?_
  refine rv_sub h [1, 2, 3, 0] rfl ?_
  refine rv_fx_ind (fun (a0 : Int32 → rv_W → rv_R) => ∀ (v8 : Int32) (w9 : rv_W), K 20 [(0, .ref (ad 75)), (1, .ref (ad 24)), (2, .int v3), (3, .int v8)] [] w9 (a0 v8 w9)) (fun _ _ => rv_none h) (fun ag6 ih7 v8 w9 => ?_) rv_FU (0 : Int32) w5
  refine rv_iload_n h 20 dX3_weigh_20 3 rfl ?_
  refine rv_iconst h 21 dX3_weigh_21 rv_c5 ?_
  refine rv_icmp_ge (tgt := 72) h 22 dX3_weigh_22 (by decide) (fun _ => ?_) (fun _ => ?_)
  rotate_left
  · refine rv_iinc h 72 (fun v10 => [(2, .int v10), (0, .ref (ad 75)), (1, .ref (ad 24)), (3, .int v8)]) dX3_weigh_72 2 rfl rv_c1 (by decide) (fun _ => rfl) (fun v10 => ?_)
    refine rv_goto (tgt := 2) h 75 dX3_weigh_75 (by decide) ?_
    refine rv_sub h [1, 2, 0] rfl ?_
    exact ih2 v10 w9
  refine rv_iload_n h 25 dX3_weigh_25 2 rfl ?_
  refine rv_aload_n h 26 dX3_weigh_26 1 rfl ?_
  refine rv_geti h 27 dX3_weigh_27 rv_s24 rv_fd_X3_15 rfl ?_
  refine rv_iconst h 30 dX3_weigh_30 rv_cm1 ?_
  refine rv_ixor h 31 dX3_weigh_31 ?_
  refine rv_iand h 32 dX3_weigh_32 ?_
  refine rv_if_ne (tgt := 72) h 33 dX3_weigh_33 (by decide) (fun _ => ?_) (fun _ => ?_)
  rotate_left
  · refine rv_iinc h 72 (fun v11 => [(2, .int v11), (0, .ref (ad 75)), (1, .ref (ad 24)), (3, .int v8)]) dX3_weigh_72 2 rfl rv_c1 (by decide) (fun _ => rfl) (fun v11 => ?_)
    refine rv_goto (tgt := 2) h 75 dX3_weigh_75 (by decide) ?_
    refine rv_sub h [1, 2, 0] rfl ?_
    exact ih2 v11 w9
  refine rv_iload_n h 36 dX3_weigh_36 2 rfl ?_
  refine rv_iload_n h 37 dX3_weigh_37 3 rfl ?_
  refine rv_callSi h 38 dX3_weigh_38 (fn_X1_has hJ v3 v8  w9) ce_X1_has lk_X3_21 rfl rfl (Nat.le_of_ble_eq_true rfl) ⟨Nat.le_of_ble_eq_true rfl, Nat.le_of_ble_eq_true rfl⟩ (fun r12 w13 => ?_)
  refine rv_if_eq (tgt := 66) h 41 dX3_weigh_41 (by decide) (fun _ => ?_) (fun _ => ?_)
  · refine rv_iinc h 66 (fun v14 => [(3, .int v14), (0, .ref (ad 75)), (1, .ref (ad 24)), (2, .int v3)]) dX3_weigh_66 3 rfl rv_c1 (by decide) (fun _ => rfl) (fun v14 => ?_)
    refine rv_goto (tgt := 20) h 69 dX3_weigh_69 (by decide) ?_
    refine rv_sub h [1, 2, 3, 0] rfl ?_
    exact ih7 v14 w13
  refine rv_aload_n h 44 dX3_weigh_44 0 rfl ?_
  refine rv_getr h 45 dX3_weigh_45 rv_s75 rv_fd_X3_9 rfl ?_
  refine rv_iload_n h 48 dX3_weigh_48 2 rfl ?_
  refine rv_aload_n h 49 dX3_weigh_49 0 rfl ?_
  refine rv_getr h 50 dX3_weigh_50 rv_s75 rv_fd_X3_9 rfl ?_
  refine rv_iload_n h 53 dX3_weigh_53 2 rfl ?_
  refine rv_iald h 54 dX3_weigh_54 rv_s76 ?_
  refine rv_aload_n h 55 dX3_weigh_55 0 rfl ?_
  refine rv_aload_n h 56 dX3_weigh_56 1 rfl ?_
  refine rv_iload_n h 57 dX3_weigh_57 2 rfl ?_
  refine rv_iload_n h 58 dX3_weigh_58 3 rfl ?_
  refine rv_callVi h 59 dX3_weigh_59 (fn_X3_valueWith hJ v3 v8  w13) ce_X3_valueWith lk_X3_27 rv_s75 rfl rv_cf1 rfl rfl (Nat.le_of_ble_eq_true rfl) ⟨Nat.le_of_ble_eq_true rfl, Nat.le_of_ble_eq_true rfl⟩ (fun r15 w16 => ?_)
  refine rv_mmax h 62 dX3_weigh_62 ce_J9_max_7cf53 lk_X3_31 (Nat.le_of_ble_eq_true rfl) ⟨Nat.le_of_ble_eq_true rfl, Nat.le_of_ble_eq_true rfl⟩ ?_
  refine rv_iast h 65 dX3_weigh_65 rv_s76 (fun w17 => ?_)
  refine rv_iinc h 66 (fun v18 => [(3, .int v18), (0, .ref (ad 75)), (1, .ref (ad 24)), (2, .int v3)]) dX3_weigh_66 3 rfl rv_c1 (by decide) (fun _ => rfl) (fun v18 => ?_)
  refine rv_goto (tgt := 20) h 69 dX3_weigh_69 (by decide) ?_
  refine rv_sub h [1, 2, 3, 0] rfl ?_
  exact ih7 v18 w17
def f_X3_leaders (p2 : Int32) (w : rv_W) : rv_R :=
  rv_fx (fun _ _ _ => none) (fun (ag1 : Int32 → Int32 → rv_W → rv_R) (v3 : Int32) (v4 : Int32) (w5 : rv_W) =>
  if v4 < (5 : Int32) then
  rv_bd (f_X1_has p2 v4 w5) (fun (r6 : Int32) (w7 : rv_W) =>
  if r6 = 0 then
  rv_lt (v4 + (1 : Int32)) (fun (v8 : Int32) =>
  ag1 v3 v8 w7)
  else
  rv_bd (f_X3_valueWith p2 v4 w7) (fun (r9 : Int32) (w10 : rv_W) =>
  rv_bd (f_X3_greatest p2 w10) (fun (r11 : Int32) (w12 : rv_W) =>
  if r9 = r11 then
  rv_lt ((v3 ||| ((1 : Int32) <<< (v4 &&& 31)))) (fun (v14 : Int32) =>
  rv_lt (v4 + (1 : Int32)) (fun (v15 : Int32) =>
  ag1 v14 v15 w12))
  else
  rv_lt (v4 + (1 : Int32)) (fun (v13 : Int32) =>
  ag1 v3 v13 w12))))
  else
  some (v3, w5)) rv_FU (0 : Int32) (0 : Int32) w
set_option maxRecDepth 100000 in
set_option maxHeartbeats 4000000 in
theorem fn_X3_leaders {l : Launch} {D : va_G} {ad : Nat → Nat} {ca : Nat → ClassId} (hJ : rv_J ad) (p2 : Int32)  (w : rv_W) : rv_Fn l D ad ca yX3_leaders cX3_leaders 5 (some .int) 2 47 [.ref (ad 75), .ref (ad 24), .int p2] w (f_X3_leaders p2 w) := by
  refine rv_mk (lv := [(0, .ref (ad 75)), (1, .ref (ad 24)), (2, .int p2)]) hJ (by decide +kernel) (Nat.le_of_ble_eq_true rfl) rfl (fun K h hr => ?_)
  have h : rv_Rl D ad ca l RX3 cX3_leaders 5 2 47 K := h
  unfold f_X3_leaders
  refine rv_iconst h 0 dX3_leaders_0 rv_c0 ?_
  refine rv_istore_n (lv' := [(3, .int (0 : Int32)), (0, .ref (ad 75)), (1, .ref (ad 24)), (2, .int p2)]) h 1 dX3_leaders_1 (by decide) rfl ?_
  refine rv_iconst h 2 dX3_leaders_2 rv_c0 ?_
  refine rv_istore (lv' := [(4, .int (0 : Int32)), (3, .int (0 : Int32)), (0, .ref (ad 75)), (1, .ref (ad 24)), (2, .int p2)]) h 3 dX3_leaders_3 (by decide) rfl ?_
  refine rv_sub h [2, 3, 4, 1, 0] rfl ?_
  refine rv_fx_ind (fun (a0 : Int32 → Int32 → rv_W → rv_R) => ∀ (v3 : Int32) (v4 : Int32) (w5 : rv_W), K 5 [(0, .ref (ad 75)), (1, .ref (ad 24)), (2, .int p2), (3, .int v3), (4, .int v4)] [] w5 (a0 v3 v4 w5)) (fun _ _ _ => rv_none h) (fun ag1 ih2 v3 v4 w5 => ?_) rv_FU (0 : Int32) (0 : Int32) w
  refine rv_iload h 5 dX3_leaders_5 4 rfl ?_
  refine rv_iconst h 7 dX3_leaders_7 rv_c5 ?_
  refine rv_icmp_ge (tgt := 49) h 8 dX3_leaders_8 (by decide) (fun _ => ?_) (fun _ => ?_)
  rotate_left
  · refine rv_iload_n h 49 dX3_leaders_49 3 rfl ?_
    exact rv_reti hr 50 dX3_leaders_50
  refine rv_iload_n h 11 dX3_leaders_11 2 rfl ?_
  refine rv_iload h 12 dX3_leaders_12 4 rfl ?_
  refine rv_callSi h 14 dX3_leaders_14 (fn_X1_has hJ p2 v4  w5) ce_X1_has lk_X3_21 rfl rfl (Nat.le_of_ble_eq_true rfl) ⟨Nat.le_of_ble_eq_true rfl, Nat.le_of_ble_eq_true rfl⟩ (fun r6 w7 => ?_)
  refine rv_if_eq (tgt := 43) h 17 dX3_leaders_17 (by decide) (fun _ => ?_) (fun _ => ?_)
  · refine rv_iinc h 43 (fun v8 => [(4, .int v8), (0, .ref (ad 75)), (1, .ref (ad 24)), (2, .int p2), (3, .int v3)]) dX3_leaders_43 4 rfl rv_c1 (by decide) (fun _ => rfl) (fun v8 => ?_)
    refine rv_goto (tgt := 5) h 46 dX3_leaders_46 (by decide) ?_
    refine rv_sub h [1, 2, 3, 4, 0] rfl ?_
    exact ih2 v3 v8 w7
  refine rv_aload_n h 20 dX3_leaders_20 0 rfl ?_
  refine rv_aload_n h 21 dX3_leaders_21 1 rfl ?_
  refine rv_iload_n h 22 dX3_leaders_22 2 rfl ?_
  refine rv_iload h 23 dX3_leaders_23 4 rfl ?_
  refine rv_callVi h 25 dX3_leaders_25 (fn_X3_valueWith hJ p2 v4  w7) ce_X3_valueWith lk_X3_27 rv_s75 rfl rv_cf1 rfl rfl (Nat.le_of_ble_eq_true rfl) ⟨Nat.le_of_ble_eq_true rfl, Nat.le_of_ble_eq_true rfl⟩ (fun r9 w10 => ?_)
  refine rv_aload_n h 28 dX3_leaders_28 0 rfl ?_
  refine rv_iload_n h 29 dX3_leaders_29 2 rfl ?_
  refine rv_callVi h 30 dX3_leaders_30 (fn_X3_greatest hJ p2  w10) ce_X3_greatest lk_X3_40 rv_s75 rfl rv_cf1 rfl rfl (Nat.le_of_ble_eq_true rfl) ⟨Nat.le_of_ble_eq_true rfl, Nat.le_of_ble_eq_true rfl⟩ (fun r11 w12 => ?_)
  refine rv_icmp_ne (tgt := 43) h 33 dX3_leaders_33 (by decide) (fun _ => ?_) (fun _ => ?_)
  rotate_left
  · refine rv_iinc h 43 (fun v13 => [(4, .int v13), (0, .ref (ad 75)), (1, .ref (ad 24)), (2, .int p2), (3, .int v3)]) dX3_leaders_43 4 rfl rv_c1 (by decide) (fun _ => rfl) (fun v13 => ?_)
    refine rv_goto (tgt := 5) h 46 dX3_leaders_46 (by decide) ?_
    refine rv_sub h [1, 2, 3, 4, 0] rfl ?_
    exact ih2 v3 v13 w12
  refine rv_iload_n h 36 dX3_leaders_36 3 rfl ?_
  refine rv_iconst h 37 dX3_leaders_37 rv_c1 ?_
  refine rv_iload h 38 dX3_leaders_38 4 rfl ?_
  refine rv_ishl h 40 dX3_leaders_40 ?_
  refine rv_ior h 41 dX3_leaders_41 ?_
  refine rv_top (fun v14 => ?_)
  refine rv_istore_n (lv' := [(3, .int v14), (0, .ref (ad 75)), (1, .ref (ad 24)), (2, .int p2), (4, .int v4)]) h 42 dX3_leaders_42 (by decide) rfl ?_
  refine rv_iinc h 43 (fun v15 => [(4, .int v15), (3, .int v14), (0, .ref (ad 75)), (1, .ref (ad 24)), (2, .int p2)]) dX3_leaders_43 4 rfl rv_c1 (by decide) (fun _ => rfl) (fun v15 => ?_)
  refine rv_goto (tgt := 5) h 46 dX3_leaders_46 (by decide) ?_
  refine rv_sub h [2, 3, 4, 1, 0] rfl ?_
  exact ih2 v14 v15 w12
def f_X3_candidateAt (p2 : Int32) (w : rv_W) : rv_R :=
  rv_fx (fun _ _ _ => none) (fun (ag1 : Int32 → Int32 → rv_W → rv_R) (v3 : Int32) (v4 : Int32) (w5 : rv_W) =>
  rv_jn (fun  (w6 : rv_W) =>
  rv_bd (f_X3_leaders v3 w6) (fun (r9 : Int32) (w10 : rv_W) =>
  rv_bd (f_X1_lowest r9 w10) (fun (r11 : Int32) (w12 : rv_W) =>
  some (r11, w12)))) (fun (k7 : rv_W → rv_R) =>
  if v4 < p2 then
  if v4 < (5 : Int32) then
  rv_bd (f_X3_leaders v3 w5) (fun (r13 : Int32) (w14 : rv_W) =>
  rv_bd (f_X1_lowest r13 w14) (fun (r15 : Int32) (w16 : rv_W) =>
  rv_bd (f_X1_without v3 r15 w16) (fun (r17 : Int32) (w18 : rv_W) =>
  rv_lt (v4 + (1 : Int32)) (fun (v19 : Int32) =>
  ag1 r17 v19 w18))))
  else
  k7 w5
  else
  k7 w5)) rv_FU (w 24 0) (0 : Int32) w
set_option maxRecDepth 100000 in
set_option maxHeartbeats 4000000 in
theorem fn_X3_candidateAt {l : Launch} {D : va_G} {ad : Nat → Nat} {ca : Nat → ClassId} (hJ : rv_J ad) (p2 : Int32)  (w : rv_W) : rv_Fn l D ad ca yX3_candidateAt cX3_candidateAt 5 (some .int) 3 71 [.ref (ad 75), .ref (ad 24), .int p2] w (f_X3_candidateAt p2 w) := by
  refine rv_mk (lv := [(0, .ref (ad 75)), (1, .ref (ad 24)), (2, .int p2)]) hJ (by decide +kernel) (Nat.le_of_ble_eq_true rfl) rfl (fun K h hr => ?_)
  have h : rv_Rl D ad ca l RX3 cX3_candidateAt 5 3 71 K := h
  unfold f_X3_candidateAt
  refine rv_aload_n h 0 dX3_candidateAt_0 1 rfl ?_
  refine rv_geti h 1 dX3_candidateAt_1 rv_s24 rv_fd_X3_15 rfl ?_
  refine rv_istore_n (lv' := [(3, .int (w 24 0)), (0, .ref (ad 75)), (1, .ref (ad 24)), (2, .int p2)]) h 4 dX3_candidateAt_4 (by decide) rfl ?_
  refine rv_iconst h 5 dX3_candidateAt_5 rv_c0 ?_
  refine rv_istore (lv' := [(4, .int (0 : Int32)), (3, .int (w 24 0)), (0, .ref (ad 75)), (1, .ref (ad 24)), (2, .int p2)]) h 6 dX3_candidateAt_6 (by decide) rfl ?_
  refine rv_sub h [2, 3, 4, 1, 0] rfl ?_
  refine rv_fx_ind (fun (a0 : Int32 → Int32 → rv_W → rv_R) => ∀ (v3 : Int32) (v4 : Int32) (w5 : rv_W), K 8 [(0, .ref (ad 75)), (1, .ref (ad 24)), (2, .int p2), (3, .int v3), (4, .int v4)] [] w5 (a0 v3 v4 w5)) (fun _ _ _ => rv_none h) (fun ag1 ih2 v3 v4 w5 => ?_) rv_FU (w 24 0) (0 : Int32) w
  refine rv_iload h 8 dX3_candidateAt_8 4 rfl ?_
  refine rv_iload_n h 10 dX3_candidateAt_10 2 rfl ?_
  refine rv_join (fun (k0 : rv_W → rv_R) => ∀  (w6 : rv_W), K 40 [(0, .ref (ad 75)), (1, .ref (ad 24)), (3, .int v3)] ([]) w6 (k0 w6)) (fun w6 => ?_) (fun k7 hk8 => ?_)
  · refine rv_aload_n h 40 dX3_candidateAt_40 0 rfl ?_
    refine rv_aload_n h 41 dX3_candidateAt_41 1 rfl ?_
    refine rv_iload_n h 42 dX3_candidateAt_42 2 rfl ?_
    refine rv_callVi h 43 dX3_candidateAt_43 (fn_X3_leaders hJ v3  w6) ce_X3_leaders lk_X3_52 rv_s75 rfl rv_cf1 rfl rfl (Nat.le_of_ble_eq_true rfl) ⟨Nat.le_of_ble_eq_true rfl, Nat.le_of_ble_eq_true rfl⟩ (fun r9 w10 => ?_)
    refine rv_callSi h 46 dX3_candidateAt_46 (fn_X1_lowest hJ r9  w10) ce_X1_lowest lk_X3_56 rfl rfl (Nat.le_of_ble_eq_true rfl) ⟨Nat.le_of_ble_eq_true rfl, Nat.le_of_ble_eq_true rfl⟩ (fun r11 w12 => ?_)
    exact rv_reti hr 49 dX3_candidateAt_49
  refine rv_icmp_ge (tgt := 40) h 11 dX3_candidateAt_11 (by decide) (fun _ => ?_) (fun _ => ?_)
  rotate_left
  · refine rv_sub h [0, 1, 3] rfl ?_
    exact hk8 w5
  refine rv_iload h 14 dX3_candidateAt_14 4 rfl ?_
  refine rv_iconst h 16 dX3_candidateAt_16 rv_c5 ?_
  refine rv_icmp_ge (tgt := 40) h 17 dX3_candidateAt_17 (by decide) (fun _ => ?_) (fun _ => ?_)
  rotate_left
  · refine rv_sub h [0, 1, 3] rfl ?_
    exact hk8 w5
  refine rv_iload_n h 20 dX3_candidateAt_20 3 rfl ?_
  refine rv_aload_n h 21 dX3_candidateAt_21 0 rfl ?_
  refine rv_aload_n h 22 dX3_candidateAt_22 1 rfl ?_
  refine rv_iload_n h 23 dX3_candidateAt_23 3 rfl ?_
  refine rv_callVi h 24 dX3_candidateAt_24 (fn_X3_leaders hJ v3  w5) ce_X3_leaders lk_X3_52 rv_s75 rfl rv_cf1 rfl rfl (Nat.le_of_ble_eq_true rfl) ⟨Nat.le_of_ble_eq_true rfl, Nat.le_of_ble_eq_true rfl⟩ (fun r13 w14 => ?_)
  refine rv_callSi h 27 dX3_candidateAt_27 (fn_X1_lowest hJ r13  w14) ce_X1_lowest lk_X3_56 rfl rfl (Nat.le_of_ble_eq_true rfl) ⟨Nat.le_of_ble_eq_true rfl, Nat.le_of_ble_eq_true rfl⟩ (fun r15 w16 => ?_)
  refine rv_callSi h 30 dX3_candidateAt_30 (fn_X1_without hJ v3 r15  w16) ce_X1_without lk_X3_37 rfl rfl (Nat.le_of_ble_eq_true rfl) ⟨Nat.le_of_ble_eq_true rfl, Nat.le_of_ble_eq_true rfl⟩ (fun r17 w18 => ?_)
  refine rv_istore_n (lv' := [(3, .int r17), (0, .ref (ad 75)), (1, .ref (ad 24)), (2, .int p2), (4, .int v4)]) h 33 dX3_candidateAt_33 (by decide) rfl ?_
  refine rv_iinc h 34 (fun v19 => [(4, .int v19), (3, .int r17), (0, .ref (ad 75)), (1, .ref (ad 24)), (2, .int p2)]) dX3_candidateAt_34 4 rfl rv_c1 (by decide) (fun _ => rfl) (fun v19 => ?_)
  refine rv_goto (tgt := 8) h 37 dX3_candidateAt_37 (by decide) ?_
  refine rv_sub h [2, 3, 4, 1, 0] rfl ?_
  exact ih2 r17 v19 w18
def f_X4_pointsOf (p1 : Int32) (w : rv_W) : rv_R :=
  if p1 < 0 then
  some ((0 : Int32), w)
  else
  if p1 < (5 : Int32) then
  rv_ck p1 5 (
  some ((w 55 p1.toNatClampNeg), w))
  else
  some ((0 : Int32), w)
set_option maxRecDepth 100000 in
set_option maxHeartbeats 4000000 in
theorem fn_X4_pointsOf {l : Launch} {D : va_G} {ad : Nat → Nat} {ca : Nat → ClassId} (hJ : rv_J ad) (p1 : Int32)  (w : rv_W) : rv_Fn l D ad ca yX4_pointsOf cX4_pointsOf 2 (some .int) 0 0 [.ref (ad 54), .int p1] w (f_X4_pointsOf p1 w) := by
  refine rv_mk (lv := [(0, .ref (ad 54)), (1, .int p1)]) hJ (by decide +kernel) (Nat.le_of_ble_eq_true rfl) rfl (fun K h hr => ?_)
  have h : rv_Rl D ad ca l RX4 cX4_pointsOf 2 0 0 K := h
  unfold f_X4_pointsOf
  refine rv_iload_n h 0 dX4_pointsOf_0 1 rfl ?_
  refine rv_if_lt (tgt := 22) h 1 dX4_pointsOf_1 (by decide) (fun _ => ?_) (fun _ => ?_)
  · refine rv_iconst h 22 dX4_pointsOf_22 rv_c0 ?_
    exact rv_reti hr 23 dX4_pointsOf_23
  refine rv_iload_n h 4 dX4_pointsOf_4 1 rfl ?_
  refine rv_aload_n h 5 dX4_pointsOf_5 0 rfl ?_
  refine rv_getr h 6 dX4_pointsOf_6 rv_s54 rv_fd_X4_9 rfl ?_
  refine rv_len (v := 5) h 9 dX4_pointsOf_9 rv_s55 (by decide) (by decide +kernel) ?_
  refine rv_icmp_ge (tgt := 22) h 10 dX4_pointsOf_10 (by decide) (fun _ => ?_) (fun _ => ?_)
  rotate_left
  · refine rv_iconst h 22 dX4_pointsOf_22 rv_c0 ?_
    exact rv_reti hr 23 dX4_pointsOf_23
  refine rv_aload_n h 13 dX4_pointsOf_13 0 rfl ?_
  refine rv_getr h 14 dX4_pointsOf_14 rv_s54 rv_fd_X4_9 rfl ?_
  refine rv_iload_n h 17 dX4_pointsOf_17 1 rfl ?_
  refine rv_iald h 18 dX4_pointsOf_18 rv_s55 ?_
  refine rv_goto (tgt := 23) h 19 dX4_pointsOf_19 (by decide) ?_
  exact rv_reti hr 23 dX4_pointsOf_23
def f_X4_clear  (w : rv_W) : rv_R :=
  rv_fx (fun _ _ => none) (fun (ag1 : Int32 → rv_W → rv_R) (v3 : Int32) (w4 : rv_W) =>
  if v3 < (5 : Int32) then
  rv_ck v3 5 (rv_lt (rv_up w4 55 v3.toNatClampNeg (0 : Int32)) (fun (w5 : rv_W) =>
  rv_lt (v3 + (1 : Int32)) (fun (v6 : Int32) =>
  ag1 v6 w5)))
  else
  some (0, w4)) rv_FU (0 : Int32) w
set_option maxRecDepth 100000 in
set_option maxHeartbeats 4000000 in
theorem fn_X4_clear {l : Launch} {D : va_G} {ad : Nat → Nat} {ca : Nat → ClassId} (hJ : rv_J ad)   (w : rv_W) : rv_Fn l D ad ca yX4_clear cX4_clear 2 none 0 0 [.ref (ad 54)] w (f_X4_clear  w) := by
  refine rv_mk (lv := [(0, .ref (ad 54))]) hJ (by decide +kernel) (Nat.le_of_ble_eq_true rfl) rfl (fun K h hr => ?_)
  have h : rv_Rl D ad ca l RX4 cX4_clear 2 0 0 K := h
  unfold f_X4_clear
  refine rv_iconst h 0 dX4_clear_0 rv_c0 ?_
  refine rv_istore_n (lv' := [(1, .int (0 : Int32)), (0, .ref (ad 54))]) h 1 dX4_clear_1 (by decide) rfl ?_
  refine rv_sub h [1, 0] rfl ?_
  refine rv_fx_ind (fun (a0 : Int32 → rv_W → rv_R) => ∀ (v3 : Int32) (w4 : rv_W), K 2 [(0, .ref (ad 54)), (1, .int v3)] [] w4 (a0 v3 w4)) (fun _ _ => rv_none h) (fun ag1 ih2 v3 w4 => ?_) rv_FU (0 : Int32) w
  refine rv_iload_n h 2 dX4_clear_2 1 rfl ?_
  refine rv_aload_n h 3 dX4_clear_3 0 rfl ?_
  refine rv_getr h 4 dX4_clear_4 rv_s54 rv_fd_X4_9 rfl ?_
  refine rv_len (v := 5) h 7 dX4_clear_7 rv_s55 (by decide) (by decide +kernel) ?_
  refine rv_icmp_ge (tgt := 24) h 8 dX4_clear_8 (by decide) (fun _ => ?_) (fun _ => ?_)
  rotate_left
  · exact rv_retv hr 24 dX4_clear_24
  refine rv_aload_n h 11 dX4_clear_11 0 rfl ?_
  refine rv_getr h 12 dX4_clear_12 rv_s54 rv_fd_X4_9 rfl ?_
  refine rv_iload_n h 15 dX4_clear_15 1 rfl ?_
  refine rv_iconst h 16 dX4_clear_16 rv_c0 ?_
  refine rv_iast h 17 dX4_clear_17 rv_s55 (fun w5 => ?_)
  refine rv_iinc h 18 (fun v6 => [(1, .int v6), (0, .ref (ad 54))]) dX4_clear_18 1 rfl rv_c1 (by decide) (fun _ => rfl) (fun v6 => ?_)
  refine rv_goto (tgt := 2) h 21 dX4_clear_21 (by decide) ?_
  refine rv_sub h [1, 0] rfl ?_
  exact ih2 v6 w5
def f_X5_addFirsts (p1 : Int32) (a2 : Nat) (w : rv_W) : rv_R :=
  rv_fx (fun _ _ => none) (fun (ag1 : Int32 → rv_W → rv_R) (v3 : Int32) (w4 : rv_W) =>
  if v3 < (20 : Int32) then
  rv_fx (fun _ _ => none) (fun (ag5 : Int32 → rv_W → rv_R) (v7 : Int32) (w8 : rv_W) =>
  if v7 < (5 : Int32) then
  rv_ck v3 20 (
  rv_ck v7 5 (
  rv_bd (f_X1_has p1 (w8 (33 + v3.toNatClampNeg) v7.toNatClampNeg) w8) (fun (r11 : Int32) (w12 : rv_W) =>
  if r11 = 0 then
  rv_lt (v7 + (1 : Int32)) (fun (v13 : Int32) =>
  ag5 v13 w12)
  else
  if (w8 (33 + v3.toNatClampNeg) v7.toNatClampNeg) < 0 then
  rv_lt (v7 + (1 : Int32)) (fun (v14 : Int32) =>
  ag5 v14 w12)
  else
  if (w8 (33 + v3.toNatClampNeg) v7.toNatClampNeg) < (5 : Int32) then
  rv_ck (w8 (33 + v3.toNatClampNeg) v7.toNatClampNeg) 5 (
  rv_ck v3 20 (
  rv_ck (w8 (33 + v3.toNatClampNeg) v7.toNatClampNeg) 5 (rv_lt (rv_up w12 a2 (w8 (33 + v3.toNatClampNeg) v7.toNatClampNeg).toNatClampNeg ((w12 a2 (w8 (33 + v3.toNatClampNeg) v7.toNatClampNeg).toNatClampNeg) + (w12 31 v3.toNatClampNeg))) (fun (w16 : rv_W) =>
  rv_lt (v3 + (1 : Int32)) (fun (v17 : Int32) =>
  ag1 v17 w16)))))
  else
  rv_lt (v7 + (1 : Int32)) (fun (v15 : Int32) =>
  ag5 v15 w12))))
  else
  rv_lt (v3 + (1 : Int32)) (fun (v9 : Int32) =>
  ag1 v9 w8)) rv_FU (0 : Int32) w4
  else
  some (0, w4)) rv_FU (0 : Int32) w
set_option maxRecDepth 100000 in
set_option maxHeartbeats 4000000 in
theorem fn_X5_addFirsts {l : Launch} {D : va_G} {ad : Nat → Nat} {ca : Nat → ClassId} (hJ : rv_J ad) (p1 : Int32) (a2 : Nat) (ha2 : rv_sh a2 = .inr (0, 5, 0)) (w : rv_W) : rv_Fn l D ad ca yX5_addFirsts cX5_addFirsts 6 none 1 21 [.ref (ad 24), .int p1, .ref (ad a2)] w (f_X5_addFirsts p1 a2 w) := by
  refine rv_mk (lv := [(0, .ref (ad 24)), (1, .int p1), (2, .ref (ad a2))]) hJ (by decide +kernel) (Nat.le_of_ble_eq_true rfl) rfl (fun K h hr => ?_)
  have h : rv_Rl D ad ca l RX5 cX5_addFirsts 6 1 21 K := h
  unfold f_X5_addFirsts
  refine rv_iconst h 0 dX5_addFirsts_0 rv_c0 ?_
  refine rv_istore_n (lv' := [(3, .int (0 : Int32)), (0, .ref (ad 24)), (1, .int p1), (2, .ref (ad a2))]) h 1 dX5_addFirsts_1 (by decide) rfl ?_
  refine rv_sub h [1, 2, 3, 0] rfl ?_
  refine rv_fx_ind (fun (a0 : Int32 → rv_W → rv_R) => ∀ (v3 : Int32) (w4 : rv_W), K 2 [(0, .ref (ad 24)), (1, .int p1), (2, .ref (ad a2)), (3, .int v3)] [] w4 (a0 v3 w4)) (fun _ _ => rv_none h) (fun ag1 ih2 v3 w4 => ?_) rv_FU (0 : Int32) w
  refine rv_iload_n h 2 dX5_addFirsts_2 3 rfl ?_
  refine rv_bipush (v := 20) h 3 dX5_addFirsts_3 (by decide +kernel) ?_
  refine rv_icmp_ge (tgt := 77) h 5 dX5_addFirsts_5 (by decide) (fun _ => ?_) (fun _ => ?_)
  rotate_left
  · exact rv_retv hr 77 dX5_addFirsts_77
  refine rv_iconst h 8 dX5_addFirsts_8 rv_c0 ?_
  refine rv_istore (lv' := [(4, .int (0 : Int32)), (0, .ref (ad 24)), (1, .int p1), (2, .ref (ad a2)), (3, .int v3)]) h 9 dX5_addFirsts_9 (by decide) rfl ?_
  refine rv_sub h [1, 2, 3, 4, 0] rfl ?_
  refine rv_fx_ind (fun (a0 : Int32 → rv_W → rv_R) => ∀ (v7 : Int32) (w8 : rv_W), K 11 [(0, .ref (ad 24)), (1, .int p1), (2, .ref (ad a2)), (3, .int v3), (4, .int v7)] [] w8 (a0 v7 w8)) (fun _ _ => rv_none h) (fun ag5 ih6 v7 w8 => ?_) rv_FU (0 : Int32) w4
  refine rv_iload h 11 dX5_addFirsts_11 4 rfl ?_
  refine rv_iconst h 13 dX5_addFirsts_13 rv_c5 ?_
  refine rv_icmp_ge (tgt := 71) h 14 dX5_addFirsts_14 (by decide) (fun _ => ?_) (fun _ => ?_)
  rotate_left
  · refine rv_iinc h 71 (fun v9 => [(3, .int v9), (0, .ref (ad 24)), (1, .int p1), (2, .ref (ad a2)), (4, .int v7)]) dX5_addFirsts_71 3 rfl rv_c1 (by decide) (fun _ => rfl) (fun v9 => ?_)
    refine rv_goto (tgt := 2) h 74 dX5_addFirsts_74 (by decide) ?_
    refine rv_sub h [1, 2, 3, 0] rfl ?_
    exact ih2 v9 w8
  refine rv_aload_n h 17 dX5_addFirsts_17 0 rfl ?_
  refine rv_getr h 18 dX5_addFirsts_18 rv_s24 rv_fd_X5_20 rfl ?_
  refine rv_iload_n h 21 dX5_addFirsts_21 3 rfl ?_
  refine rv_aald h 22 dX5_addFirsts_22 rv_s32 (fun hi10 => ?_)
  refine rv_iload h 23 dX5_addFirsts_23 4 rfl ?_
  refine rv_iald h 25 dX5_addFirsts_25 (rv_row33 hi10) ?_
  refine rv_istore (lv' := [(5, .int (w8 (33 + v3.toNatClampNeg) v7.toNatClampNeg)), (0, .ref (ad 24)), (1, .int p1), (2, .ref (ad a2)), (3, .int v3), (4, .int v7)]) h 26 dX5_addFirsts_26 (by decide) rfl ?_
  refine rv_iload_n h 28 dX5_addFirsts_28 2 rfl ?_
  refine rv_iload h 29 dX5_addFirsts_29 0 rfl ?_
  refine rv_callSi h 31 dX5_addFirsts_31 (fn_X1_has hJ p1 (w8 (33 + v3.toNatClampNeg) v7.toNatClampNeg)  w8) ce_X1_has lk_X5_48 rfl rfl (Nat.le_of_ble_eq_true rfl) ⟨Nat.le_of_ble_eq_true rfl, Nat.le_of_ble_eq_true rfl⟩ (fun r11 w12 => ?_)
  refine rv_if_eq (tgt := 65) h 34 dX5_addFirsts_34 (by decide) (fun _ => ?_) (fun _ => ?_)
  · refine rv_iinc h 65 (fun v13 => [(4, .int v13), (5, .int (w8 (33 + v3.toNatClampNeg) v7.toNatClampNeg)), (0, .ref (ad 24)), (1, .int p1), (2, .ref (ad a2)), (3, .int v3)]) dX5_addFirsts_65 5 rfl rv_c1 (by decide) (fun _ => rfl) (fun v13 => ?_)
    refine rv_goto (tgt := 11) h 68 dX5_addFirsts_68 (by decide) ?_
    refine rv_sub h [2, 3, 4, 5, 0] rfl ?_
    exact ih6 v13 w12
  refine rv_iload h 37 dX5_addFirsts_37 0 rfl ?_
  refine rv_if_lt (tgt := 65) h 39 dX5_addFirsts_39 (by decide) (fun _ => ?_) (fun _ => ?_)
  · refine rv_iinc h 65 (fun v14 => [(4, .int v14), (5, .int (w8 (33 + v3.toNatClampNeg) v7.toNatClampNeg)), (0, .ref (ad 24)), (1, .int p1), (2, .ref (ad a2)), (3, .int v3)]) dX5_addFirsts_65 5 rfl rv_c1 (by decide) (fun _ => rfl) (fun v14 => ?_)
    refine rv_goto (tgt := 11) h 68 dX5_addFirsts_68 (by decide) ?_
    refine rv_sub h [2, 3, 4, 5, 0] rfl ?_
    exact ih6 v14 w12
  refine rv_iload h 42 dX5_addFirsts_42 0 rfl ?_
  refine rv_aload_n h 44 dX5_addFirsts_44 3 rfl ?_
  refine rv_len (v := 5) h 45 dX5_addFirsts_45 ha2 (by decide) (by decide +kernel) ?_
  refine rv_icmp_ge (tgt := 65) h 46 dX5_addFirsts_46 (by decide) (fun _ => ?_) (fun _ => ?_)
  rotate_left
  · refine rv_iinc h 65 (fun v15 => [(4, .int v15), (5, .int (w8 (33 + v3.toNatClampNeg) v7.toNatClampNeg)), (0, .ref (ad 24)), (1, .int p1), (2, .ref (ad a2)), (3, .int v3)]) dX5_addFirsts_65 5 rfl rv_c1 (by decide) (fun _ => rfl) (fun v15 => ?_)
    refine rv_goto (tgt := 11) h 68 dX5_addFirsts_68 (by decide) ?_
    refine rv_sub h [2, 3, 4, 5, 0] rfl ?_
    exact ih6 v15 w12
  refine rv_aload_n h 49 dX5_addFirsts_49 3 rfl ?_
  refine rv_iload h 50 dX5_addFirsts_50 0 rfl ?_
  refine rv_dup2 h 52 dX5_addFirsts_52 rfl rfl ?_
  refine rv_iald h 53 dX5_addFirsts_53 ha2 ?_
  refine rv_aload_n h 54 dX5_addFirsts_54 1 rfl ?_
  refine rv_getr h 55 dX5_addFirsts_55 rv_s24 rv_fd_X5_16 rfl ?_
  refine rv_iload_n h 58 dX5_addFirsts_58 4 rfl ?_
  refine rv_iald h 59 dX5_addFirsts_59 rv_s31 ?_
  refine rv_iadd h 60 dX5_addFirsts_60 ?_
  refine rv_iast h 61 dX5_addFirsts_61 ha2 (fun w16 => ?_)
  refine rv_goto (tgt := 71) h 62 dX5_addFirsts_62 (by decide) ?_
  refine rv_iinc h 71 (fun v17 => [(3, .int v17), (5, .int (w8 (33 + v3.toNatClampNeg) v7.toNatClampNeg)), (0, .ref (ad 24)), (1, .int p1), (2, .ref (ad a2)), (4, .int v7)]) dX5_addFirsts_71 4 rfl rv_c1 (by decide) (fun _ => rfl) (fun v17 => ?_)
  refine rv_goto (tgt := 2) h 74 dX5_addFirsts_74 (by decide) ?_
  refine rv_sub h [2, 3, 4, 0] rfl ?_
  exact ih2 v17 w16
def f_X4_borda (p2 : Int32) (w : rv_W) : rv_R :=
  rv_fx (fun _ _ => none) (fun (ag1 : Int32 → rv_W → rv_R) (v3 : Int32) (w4 : rv_W) =>
  if v3 < (5 : Int32) then
  rv_ck v3 5 (rv_lt (rv_up w4 55 v3.toNatClampNeg (0 : Int32)) (fun (w5 : rv_W) =>
  rv_fx (fun _ _ => none) (fun (ag6 : Int32 → rv_W → rv_R) (v8 : Int32) (w9 : rv_W) =>
  if v8 < (5 : Int32) then
  if v3 = v8 then
  rv_lt (v8 + (1 : Int32)) (fun (v11 : Int32) =>
  ag6 v11 w9)
  else
  rv_bd (f_X1_has p2 v8 w9) (fun (r12 : Int32) (w13 : rv_W) =>
  if r12 = 0 then
  rv_lt (v8 + (1 : Int32)) (fun (v14 : Int32) =>
  ag6 v14 w13)
  else
  rv_ck v3 5 (
  rv_ck v3 5 (
  rv_ck v8 5 (
  rv_ck v8 5 (
  rv_ck v3 5 (
  rv_ck v3 5 (rv_lt (rv_up w13 55 v3.toNatClampNeg ((w13 55 v3.toNatClampNeg) + (((w13 24 1) + (w13 (26 + v3.toNatClampNeg) v8.toNatClampNeg)) - (w13 (26 + v8.toNatClampNeg) v3.toNatClampNeg)))) (fun (w17 : rv_W) =>
  rv_lt (v8 + (1 : Int32)) (fun (v18 : Int32) =>
  ag6 v18 w17)))))))))
  else
  rv_lt (v3 + (1 : Int32)) (fun (v10 : Int32) =>
  ag1 v10 w9)) rv_FU (0 : Int32) w5))
  else
  some (0, w4)) rv_FU (0 : Int32) w
set_option maxRecDepth 100000 in
set_option maxHeartbeats 4000000 in
theorem fn_X4_borda {l : Launch} {D : va_G} {ad : Nat → Nat} {ca : Nat → ClassId} (hJ : rv_J ad) (p2 : Int32)  (w : rv_W) : rv_Fn l D ad ca yX4_borda cX4_borda 5 none 1 21 [.ref (ad 54), .ref (ad 24), .int p2] w (f_X4_borda p2 w) := by
  refine rv_mk (lv := [(0, .ref (ad 54)), (1, .ref (ad 24)), (2, .int p2)]) hJ (by decide +kernel) (Nat.le_of_ble_eq_true rfl) rfl (fun K h hr => ?_)
  have h : rv_Rl D ad ca l RX4 cX4_borda 5 1 21 K := h
  unfold f_X4_borda
  refine rv_iconst h 0 dX4_borda_0 rv_c0 ?_
  refine rv_istore_n (lv' := [(3, .int (0 : Int32)), (0, .ref (ad 54)), (1, .ref (ad 24)), (2, .int p2)]) h 1 dX4_borda_1 (by decide) rfl ?_
  refine rv_sub h [1, 2, 3, 0] rfl ?_
  refine rv_fx_ind (fun (a0 : Int32 → rv_W → rv_R) => ∀ (v3 : Int32) (w4 : rv_W), K 2 [(0, .ref (ad 54)), (1, .ref (ad 24)), (2, .int p2), (3, .int v3)] [] w4 (a0 v3 w4)) (fun _ _ => rv_none h) (fun ag1 ih2 v3 w4 => ?_) rv_FU (0 : Int32) w
  refine rv_iload_n h 2 dX4_borda_2 3 rfl ?_
  refine rv_iconst h 3 dX4_borda_3 rv_c5 ?_
  refine rv_icmp_ge (tgt := 83) h 4 dX4_borda_4 (by decide) (fun _ => ?_) (fun _ => ?_)
  rotate_left
  · exact rv_retv hr 83 dX4_borda_83
  refine rv_aload_n h 7 dX4_borda_7 0 rfl ?_
  refine rv_getr h 8 dX4_borda_8 rv_s54 rv_fd_X4_9 rfl ?_
  refine rv_iload_n h 11 dX4_borda_11 3 rfl ?_
  refine rv_iconst h 12 dX4_borda_12 rv_c0 ?_
  refine rv_iast h 13 dX4_borda_13 rv_s55 (fun w5 => ?_)
  refine rv_iconst h 14 dX4_borda_14 rv_c0 ?_
  refine rv_istore (lv' := [(4, .int (0 : Int32)), (0, .ref (ad 54)), (1, .ref (ad 24)), (2, .int p2), (3, .int v3)]) h 15 dX4_borda_15 (by decide) rfl ?_
  refine rv_sub h [1, 2, 3, 4, 0] rfl ?_
  refine rv_fx_ind (fun (a0 : Int32 → rv_W → rv_R) => ∀ (v8 : Int32) (w9 : rv_W), K 17 [(0, .ref (ad 54)), (1, .ref (ad 24)), (2, .int p2), (3, .int v3), (4, .int v8)] [] w9 (a0 v8 w9)) (fun _ _ => rv_none h) (fun ag6 ih7 v8 w9 => ?_) rv_FU (0 : Int32) w5
  refine rv_iload h 17 dX4_borda_17 4 rfl ?_
  refine rv_iconst h 19 dX4_borda_19 rv_c5 ?_
  refine rv_icmp_ge (tgt := 77) h 20 dX4_borda_20 (by decide) (fun _ => ?_) (fun _ => ?_)
  rotate_left
  · refine rv_iinc h 77 (fun v10 => [(3, .int v10), (0, .ref (ad 54)), (1, .ref (ad 24)), (2, .int p2), (4, .int v8)]) dX4_borda_77 3 rfl rv_c1 (by decide) (fun _ => rfl) (fun v10 => ?_)
    refine rv_goto (tgt := 2) h 80 dX4_borda_80 (by decide) ?_
    refine rv_sub h [1, 2, 3, 0] rfl ?_
    exact ih2 v10 w9
  refine rv_iload_n h 23 dX4_borda_23 3 rfl ?_
  refine rv_iload h 24 dX4_borda_24 4 rfl ?_
  refine rv_icmp_eq (tgt := 71) h 26 dX4_borda_26 (by decide) (fun _ => ?_) (fun _ => ?_)
  · refine rv_iinc h 71 (fun v11 => [(4, .int v11), (0, .ref (ad 54)), (1, .ref (ad 24)), (2, .int p2), (3, .int v3)]) dX4_borda_71 4 rfl rv_c1 (by decide) (fun _ => rfl) (fun v11 => ?_)
    refine rv_goto (tgt := 17) h 74 dX4_borda_74 (by decide) ?_
    refine rv_sub h [1, 2, 3, 4, 0] rfl ?_
    exact ih7 v11 w9
  refine rv_iload_n h 29 dX4_borda_29 2 rfl ?_
  refine rv_iload h 30 dX4_borda_30 4 rfl ?_
  refine rv_callSi h 32 dX4_borda_32 (fn_X1_has hJ p2 v8  w9) ce_X1_has lk_X4_42 rfl rfl (Nat.le_of_ble_eq_true rfl) ⟨Nat.le_of_ble_eq_true rfl, Nat.le_of_ble_eq_true rfl⟩ (fun r12 w13 => ?_)
  refine rv_if_eq (tgt := 71) h 35 dX4_borda_35 (by decide) (fun _ => ?_) (fun _ => ?_)
  · refine rv_iinc h 71 (fun v14 => [(4, .int v14), (0, .ref (ad 54)), (1, .ref (ad 24)), (2, .int p2), (3, .int v3)]) dX4_borda_71 4 rfl rv_c1 (by decide) (fun _ => rfl) (fun v14 => ?_)
    refine rv_goto (tgt := 17) h 74 dX4_borda_74 (by decide) ?_
    refine rv_sub h [1, 2, 3, 4, 0] rfl ?_
    exact ih7 v14 w13
  refine rv_aload_n h 38 dX4_borda_38 0 rfl ?_
  refine rv_getr h 39 dX4_borda_39 rv_s54 rv_fd_X4_9 rfl ?_
  refine rv_iload_n h 42 dX4_borda_42 3 rfl ?_
  refine rv_dup2 h 43 dX4_borda_43 rfl rfl ?_
  refine rv_iald h 44 dX4_borda_44 rv_s55 ?_
  refine rv_aload_n h 45 dX4_borda_45 1 rfl ?_
  refine rv_geti h 46 dX4_borda_46 rv_s24 rv_fd_X4_48 rfl ?_
  refine rv_aload_n h 49 dX4_borda_49 1 rfl ?_
  refine rv_getr h 50 dX4_borda_50 rv_s24 rv_fd_X4_51 rfl ?_
  refine rv_iload_n h 53 dX4_borda_53 3 rfl ?_
  refine rv_aald h 54 dX4_borda_54 rv_s25 (fun hi15 => ?_)
  refine rv_iload h 55 dX4_borda_55 4 rfl ?_
  refine rv_iald h 57 dX4_borda_57 (rv_row26 hi15) ?_
  refine rv_iadd h 58 dX4_borda_58 ?_
  refine rv_aload_n h 59 dX4_borda_59 1 rfl ?_
  refine rv_getr h 60 dX4_borda_60 rv_s24 rv_fd_X4_51 rfl ?_
  refine rv_iload h 63 dX4_borda_63 4 rfl ?_
  refine rv_aald h 65 dX4_borda_65 rv_s25 (fun hi16 => ?_)
  refine rv_iload_n h 66 dX4_borda_66 3 rfl ?_
  refine rv_iald h 67 dX4_borda_67 (rv_row26 hi16) ?_
  refine rv_isub h 68 dX4_borda_68 ?_
  refine rv_iadd h 69 dX4_borda_69 ?_
  refine rv_iast h 70 dX4_borda_70 rv_s55 (fun w17 => ?_)
  refine rv_iinc h 71 (fun v18 => [(4, .int v18), (0, .ref (ad 54)), (1, .ref (ad 24)), (2, .int p2), (3, .int v3)]) dX4_borda_71 4 rfl rv_c1 (by decide) (fun _ => rfl) (fun v18 => ?_)
  refine rv_goto (tgt := 17) h 74 dX4_borda_74 (by decide) ?_
  refine rv_sub h [1, 2, 3, 4, 0] rfl ?_
  exact ih7 v18 w17
def f_X4_copeland  (w : rv_W) : rv_R :=
  rv_fx (fun _ _ => none) (fun (ag1 : Int32 → rv_W → rv_R) (v3 : Int32) (w4 : rv_W) =>
  if v3 < (5 : Int32) then
  rv_fx (fun _ _ => none) (fun (ag5 : Int32 → rv_W → rv_R) (v7 : Int32) (w8 : rv_W) =>
  if v7 < (5 : Int32) then
  if v3 = v7 then
  rv_lt (v7 + (1 : Int32)) (fun (v10 : Int32) =>
  ag5 v10 w8)
  else
  rv_bd (f_X1_has (w8 24 0) v7 w8) (fun (r11 : Int32) (w12 : rv_W) =>
  if r11 = 0 then
  rv_lt (v7 + (1 : Int32)) (fun (v13 : Int32) =>
  ag5 v13 w12)
  else
  rv_ck v3 5 (
  rv_ck v7 5 (
  rv_ck v7 5 (
  rv_ck v3 5 (
  rv_lt (((w12 (26 + v3.toNatClampNeg) v7.toNatClampNeg) - (w12 (26 + v7.toNatClampNeg) v3.toNatClampNeg))) (fun (v16 : Int32) =>
  rv_ck v3 5 (
  rv_jn (fun (v17 : Int32) (w18 : rv_W) =>
  rv_ck v3 5 (rv_lt (rv_up w18 55 v3.toNatClampNeg ((w12 55 v3.toNatClampNeg) + v17)) (fun (w21 : rv_W) =>
  rv_lt (v7 + (1 : Int32)) (fun (v22 : Int32) =>
  ag5 v22 w21)))) (fun (k19 : Int32 → rv_W → rv_R) =>
  if 0 < v16 then
  k19 (2 : Int32) w12
  else
  if v16 = 0 then
  k19 (1 : Int32) w12
  else
  k19 (0 : Int32) w12))))))))
  else
  rv_lt (v3 + (1 : Int32)) (fun (v9 : Int32) =>
  ag1 v9 w8)) rv_FU (0 : Int32) w4
  else
  some (0, w4)) rv_FU (0 : Int32) w
set_option maxRecDepth 100000 in
set_option maxHeartbeats 4000000 in
theorem fn_X4_copeland {l : Launch} {D : va_G} {ad : Nat → Nat} {ca : Nat → ClassId} (hJ : rv_J ad)   (w : rv_W) : rv_Fn l D ad ca yX4_copeland cX4_copeland 5 none 1 21 [.ref (ad 54), .ref (ad 24)] w (f_X4_copeland  w) := by
  refine rv_mk (lv := [(0, .ref (ad 54)), (1, .ref (ad 24))]) hJ (by decide +kernel) (Nat.le_of_ble_eq_true rfl) rfl (fun K h hr => ?_)
  have h : rv_Rl D ad ca l RX4 cX4_copeland 5 1 21 K := h
  unfold f_X4_copeland
  refine rv_iconst h 0 dX4_copeland_0 rv_c0 ?_
  refine rv_istore_n (lv' := [(2, .int (0 : Int32)), (0, .ref (ad 54)), (1, .ref (ad 24))]) h 1 dX4_copeland_1 (by decide) rfl ?_
  refine rv_sub h [1, 2, 0] rfl ?_
  refine rv_fx_ind (fun (a0 : Int32 → rv_W → rv_R) => ∀ (v3 : Int32) (w4 : rv_W), K 2 [(0, .ref (ad 54)), (1, .ref (ad 24)), (2, .int v3)] [] w4 (a0 v3 w4)) (fun _ _ => rv_none h) (fun ag1 ih2 v3 w4 => ?_) rv_FU (0 : Int32) w
  refine rv_iload_n h 2 dX4_copeland_2 2 rfl ?_
  refine rv_iconst h 3 dX4_copeland_3 rv_c5 ?_
  refine rv_icmp_ge (tgt := 89) h 4 dX4_copeland_4 (by decide) (fun _ => ?_) (fun _ => ?_)
  rotate_left
  · exact rv_retv hr 89 dX4_copeland_89
  refine rv_iconst h 7 dX4_copeland_7 rv_c0 ?_
  refine rv_istore_n (lv' := [(3, .int (0 : Int32)), (0, .ref (ad 54)), (1, .ref (ad 24)), (2, .int v3)]) h 8 dX4_copeland_8 (by decide) rfl ?_
  refine rv_sub h [1, 2, 3, 0] rfl ?_
  refine rv_fx_ind (fun (a0 : Int32 → rv_W → rv_R) => ∀ (v7 : Int32) (w8 : rv_W), K 9 [(0, .ref (ad 54)), (1, .ref (ad 24)), (2, .int v3), (3, .int v7)] [] w8 (a0 v7 w8)) (fun _ _ => rv_none h) (fun ag5 ih6 v7 w8 => ?_) rv_FU (0 : Int32) w4
  refine rv_iload_n h 9 dX4_copeland_9 3 rfl ?_
  refine rv_iconst h 10 dX4_copeland_10 rv_c5 ?_
  refine rv_icmp_ge (tgt := 83) h 11 dX4_copeland_11 (by decide) (fun _ => ?_) (fun _ => ?_)
  rotate_left
  · refine rv_iinc h 83 (fun v9 => [(2, .int v9), (0, .ref (ad 54)), (1, .ref (ad 24)), (3, .int v7)]) dX4_copeland_83 2 rfl rv_c1 (by decide) (fun _ => rfl) (fun v9 => ?_)
    refine rv_goto (tgt := 2) h 86 dX4_copeland_86 (by decide) ?_
    refine rv_sub h [1, 2, 0] rfl ?_
    exact ih2 v9 w8
  refine rv_iload_n h 14 dX4_copeland_14 2 rfl ?_
  refine rv_iload_n h 15 dX4_copeland_15 3 rfl ?_
  refine rv_icmp_eq (tgt := 77) h 16 dX4_copeland_16 (by decide) (fun _ => ?_) (fun _ => ?_)
  · refine rv_iinc h 77 (fun v10 => [(3, .int v10), (0, .ref (ad 54)), (1, .ref (ad 24)), (2, .int v3)]) dX4_copeland_77 3 rfl rv_c1 (by decide) (fun _ => rfl) (fun v10 => ?_)
    refine rv_goto (tgt := 9) h 80 dX4_copeland_80 (by decide) ?_
    refine rv_sub h [1, 2, 3, 0] rfl ?_
    exact ih6 v10 w8
  refine rv_aload_n h 19 dX4_copeland_19 1 rfl ?_
  refine rv_geti h 20 dX4_copeland_20 rv_s24 rv_fd_X4_18 rfl ?_
  refine rv_iload_n h 23 dX4_copeland_23 3 rfl ?_
  refine rv_callSi h 24 dX4_copeland_24 (fn_X1_has hJ (w8 24 0) v7  w8) ce_X1_has lk_X4_42 rfl rfl (Nat.le_of_ble_eq_true rfl) ⟨Nat.le_of_ble_eq_true rfl, Nat.le_of_ble_eq_true rfl⟩ (fun r11 w12 => ?_)
  refine rv_if_eq (tgt := 77) h 27 dX4_copeland_27 (by decide) (fun _ => ?_) (fun _ => ?_)
  · refine rv_iinc h 77 (fun v13 => [(3, .int v13), (0, .ref (ad 54)), (1, .ref (ad 24)), (2, .int v3)]) dX4_copeland_77 3 rfl rv_c1 (by decide) (fun _ => rfl) (fun v13 => ?_)
    refine rv_goto (tgt := 9) h 80 dX4_copeland_80 (by decide) ?_
    refine rv_sub h [1, 2, 3, 0] rfl ?_
    exact ih6 v13 w12
  refine rv_aload_n h 30 dX4_copeland_30 1 rfl ?_
  refine rv_getr h 31 dX4_copeland_31 rv_s24 rv_fd_X4_51 rfl ?_
  refine rv_iload_n h 34 dX4_copeland_34 2 rfl ?_
  refine rv_aald h 35 dX4_copeland_35 rv_s25 (fun hi14 => ?_)
  refine rv_iload_n h 36 dX4_copeland_36 3 rfl ?_
  refine rv_iald h 37 dX4_copeland_37 (rv_row26 hi14) ?_
  refine rv_aload_n h 38 dX4_copeland_38 1 rfl ?_
  refine rv_getr h 39 dX4_copeland_39 rv_s24 rv_fd_X4_51 rfl ?_
  refine rv_iload_n h 42 dX4_copeland_42 3 rfl ?_
  refine rv_aald h 43 dX4_copeland_43 rv_s25 (fun hi15 => ?_)
  refine rv_iload_n h 44 dX4_copeland_44 2 rfl ?_
  refine rv_iald h 45 dX4_copeland_45 (rv_row26 hi15) ?_
  refine rv_isub h 46 dX4_copeland_46 ?_
  refine rv_top (fun v16 => ?_)
  refine rv_istore (lv' := [(4, .int v16), (0, .ref (ad 54)), (1, .ref (ad 24)), (2, .int v3), (3, .int v7)]) h 47 dX4_copeland_47 (by decide) rfl ?_
  refine rv_aload_n h 49 dX4_copeland_49 1 rfl ?_
  refine rv_getr h 50 dX4_copeland_50 rv_s54 rv_fd_X4_9 rfl ?_
  refine rv_iload_n h 53 dX4_copeland_53 3 rfl ?_
  refine rv_dup2 h 54 dX4_copeland_54 rfl rfl ?_
  refine rv_iald h 55 dX4_copeland_55 rv_s55 ?_
  refine rv_iload h 56 dX4_copeland_56 0 rfl ?_
  refine rv_join (fun (k0 : Int32 → rv_W → rv_R) => ∀ (v17 : Int32) (w18 : rv_W), K 75 [(0, .ref (ad 54)), (1, .ref (ad 24)), (2, .int v3), (3, .int v7)] (.int v17 :: .int (w12 55 v3.toNatClampNeg) :: .int v3 :: .ref (ad 55) :: []) w18 (k0 v17 w18)) (fun v17 w18 => ?_) (fun k19 hk20 => ?_)
  · refine rv_iadd h 75 dX4_copeland_75 ?_
    refine rv_iast h 76 dX4_copeland_76 rv_s55 (fun w21 => ?_)
    refine rv_iinc h 77 (fun v22 => [(3, .int v22), (0, .ref (ad 54)), (1, .ref (ad 24)), (2, .int v3)]) dX4_copeland_77 3 rfl rv_c1 (by decide) (fun _ => rfl) (fun v22 => ?_)
    refine rv_goto (tgt := 9) h 80 dX4_copeland_80 (by decide) ?_
    refine rv_sub h [1, 2, 3, 0] rfl ?_
    exact ih6 v22 w21
  refine rv_if_le (tgt := 65) h 58 dX4_copeland_58 (by decide) (fun _ => ?_) (fun _ => ?_)
  · refine rv_iconst h 61 dX4_copeland_61 rv_c2 ?_
    refine rv_goto (tgt := 75) h 62 dX4_copeland_62 (by decide) ?_
    refine rv_sub h [1, 2, 3, 4] rfl ?_
    exact hk20 (2 : Int32) w12
  refine rv_iload h 65 dX4_copeland_65 0 rfl ?_
  refine rv_if_ne (tgt := 74) h 67 dX4_copeland_67 (by decide) (fun _ => ?_) (fun _ => ?_)
  rotate_left
  · refine rv_iconst h 74 dX4_copeland_74 rv_c0 ?_
    refine rv_sub h [1, 2, 3, 4] rfl ?_
    exact hk20 (0 : Int32) w12
  refine rv_iconst h 70 dX4_copeland_70 rv_c1 ?_
  refine rv_goto (tgt := 75) h 71 dX4_copeland_71 (by decide) ?_
  refine rv_sub h [1, 2, 3, 4] rfl ?_
  exact hk20 (1 : Int32) w12
def f_X4_minimax  (w : rv_W) : rv_R :=
  rv_fx (fun _ _ => none) (fun (ag1 : Int32 → rv_W → rv_R) (v3 : Int32) (w4 : rv_W) =>
  if v3 < (5 : Int32) then
  rv_fx (fun _ _ _ => none) (fun (ag5 : Int32 → Int32 → rv_W → rv_R) (v7 : Int32) (v8 : Int32) (w9 : rv_W) =>
  if v8 < (5 : Int32) then
  if v3 = v8 then
  rv_lt (v8 + (1 : Int32)) (fun (v11 : Int32) =>
  ag5 v7 v11 w9)
  else
  rv_bd (f_X1_has (w9 24 0) v8 w9) (fun (r12 : Int32) (w13 : rv_W) =>
  if r12 = 0 then
  rv_lt (v8 + (1 : Int32)) (fun (v23 : Int32) =>
  ag5 v7 v23 w13)
  else
  rv_ck v8 5 (
  rv_ck v3 5 (
  rv_ck v3 5 (
  rv_ck v8 5 (
  rv_lt (((w13 (26 + v8.toNatClampNeg) v3.toNatClampNeg) - (w13 (26 + v3.toNatClampNeg) v8.toNatClampNeg))) (fun (v16 : Int32) =>
  rv_jn (fun (v17 : Int32) (w18 : rv_W) =>
  rv_ck v3 5 (rv_lt (rv_up w18 55 v3.toNatClampNeg v17) (fun (w21 : rv_W) =>
  rv_lt (v8 + (1 : Int32)) (fun (v22 : Int32) =>
  ag5 (0 : Int32) v22 w21)))) (fun (k19 : Int32 → rv_W → rv_R) =>
  if v7 = 0 then
  rv_ck v3 5 (
  k19 (if (w13 55 v3.toNatClampNeg) < v16 then v16 else (w13 55 v3.toNatClampNeg)) w13)
  else
  k19 v16 w13)))))))
  else
  rv_lt (v3 + (1 : Int32)) (fun (v10 : Int32) =>
  ag1 v10 w9)) rv_FU (1 : Int32) (0 : Int32) w4
  else
  some (0, w4)) rv_FU (0 : Int32) w
set_option maxRecDepth 100000 in
set_option maxHeartbeats 4000000 in
theorem fn_X4_minimax {l : Launch} {D : va_G} {ad : Nat → Nat} {ca : Nat → ClassId} (hJ : rv_J ad)   (w : rv_W) : rv_Fn l D ad ca yX4_minimax cX4_minimax 6 none 1 21 [.ref (ad 54), .ref (ad 24)] w (f_X4_minimax  w) := by
  refine rv_mk (lv := [(0, .ref (ad 54)), (1, .ref (ad 24))]) hJ (by decide +kernel) (Nat.le_of_ble_eq_true rfl) rfl (fun K h hr => ?_)
  have h : rv_Rl D ad ca l RX4 cX4_minimax 6 1 21 K := h
  unfold f_X4_minimax
  refine rv_iconst h 0 dX4_minimax_0 rv_c0 ?_
  refine rv_istore_n (lv' := [(2, .int (0 : Int32)), (0, .ref (ad 54)), (1, .ref (ad 24))]) h 1 dX4_minimax_1 (by decide) rfl ?_
  refine rv_sub h [1, 2, 0] rfl ?_
  refine rv_fx_ind (fun (a0 : Int32 → rv_W → rv_R) => ∀ (v3 : Int32) (w4 : rv_W), K 2 [(0, .ref (ad 54)), (1, .ref (ad 24)), (2, .int v3)] [] w4 (a0 v3 w4)) (fun _ _ => rv_none h) (fun ag1 ih2 v3 w4 => ?_) rv_FU (0 : Int32) w
  refine rv_iload_n h 2 dX4_minimax_2 2 rfl ?_
  refine rv_iconst h 3 dX4_minimax_3 rv_c5 ?_
  refine rv_icmp_ge (tgt := 100) h 4 dX4_minimax_4 (by decide) (fun _ => ?_) (fun _ => ?_)
  rotate_left
  · exact rv_retv hr 100 dX4_minimax_100
  refine rv_iconst h 7 dX4_minimax_7 rv_c1 ?_
  refine rv_istore_n (lv' := [(3, .int (1 : Int32)), (0, .ref (ad 54)), (1, .ref (ad 24)), (2, .int v3)]) h 8 dX4_minimax_8 (by decide) rfl ?_
  refine rv_iconst h 9 dX4_minimax_9 rv_c0 ?_
  refine rv_istore (lv' := [(4, .int (0 : Int32)), (3, .int (1 : Int32)), (0, .ref (ad 54)), (1, .ref (ad 24)), (2, .int v3)]) h 10 dX4_minimax_10 (by decide) rfl ?_
  refine rv_sub h [2, 3, 4, 1, 0] rfl ?_
  refine rv_fx_ind (fun (a0 : Int32 → Int32 → rv_W → rv_R) => ∀ (v7 : Int32) (v8 : Int32) (w9 : rv_W), K 12 [(0, .ref (ad 54)), (1, .ref (ad 24)), (2, .int v3), (3, .int v7), (4, .int v8)] [] w9 (a0 v7 v8 w9)) (fun _ _ _ => rv_none h) (fun ag5 ih6 v7 v8 w9 => ?_) rv_FU (1 : Int32) (0 : Int32) w4
  refine rv_iload h 12 dX4_minimax_12 4 rfl ?_
  refine rv_iconst h 14 dX4_minimax_14 rv_c5 ?_
  refine rv_icmp_ge (tgt := 94) h 15 dX4_minimax_15 (by decide) (fun _ => ?_) (fun _ => ?_)
  rotate_left
  · refine rv_iinc h 94 (fun v10 => [(2, .int v10), (0, .ref (ad 54)), (1, .ref (ad 24)), (3, .int v7), (4, .int v8)]) dX4_minimax_94 2 rfl rv_c1 (by decide) (fun _ => rfl) (fun v10 => ?_)
    refine rv_goto (tgt := 2) h 97 dX4_minimax_97 (by decide) ?_
    refine rv_sub h [1, 2, 0] rfl ?_
    exact ih2 v10 w9
  refine rv_iload_n h 18 dX4_minimax_18 2 rfl ?_
  refine rv_iload h 19 dX4_minimax_19 4 rfl ?_
  refine rv_icmp_eq (tgt := 88) h 21 dX4_minimax_21 (by decide) (fun _ => ?_) (fun _ => ?_)
  · refine rv_iinc h 88 (fun v11 => [(4, .int v11), (0, .ref (ad 54)), (1, .ref (ad 24)), (2, .int v3), (3, .int v7)]) dX4_minimax_88 4 rfl rv_c1 (by decide) (fun _ => rfl) (fun v11 => ?_)
    refine rv_goto (tgt := 12) h 91 dX4_minimax_91 (by decide) ?_
    refine rv_sub h [1, 2, 3, 4, 0] rfl ?_
    exact ih6 v7 v11 w9
  refine rv_aload_n h 24 dX4_minimax_24 1 rfl ?_
  refine rv_geti h 25 dX4_minimax_25 rv_s24 rv_fd_X4_18 rfl ?_
  refine rv_iload h 28 dX4_minimax_28 4 rfl ?_
  refine rv_callSi h 30 dX4_minimax_30 (fn_X1_has hJ (w9 24 0) v8  w9) ce_X1_has lk_X4_42 rfl rfl (Nat.le_of_ble_eq_true rfl) ⟨Nat.le_of_ble_eq_true rfl, Nat.le_of_ble_eq_true rfl⟩ (fun r12 w13 => ?_)
  refine rv_if_ne (tgt := 39) h 33 dX4_minimax_33 (by decide) (fun _ => ?_) (fun _ => ?_)
  · refine rv_goto (tgt := 88) h 36 dX4_minimax_36 (by decide) ?_
    refine rv_iinc h 88 (fun v23 => [(4, .int v23), (0, .ref (ad 54)), (1, .ref (ad 24)), (2, .int v3), (3, .int v7)]) dX4_minimax_88 4 rfl rv_c1 (by decide) (fun _ => rfl) (fun v23 => ?_)
    refine rv_goto (tgt := 12) h 91 dX4_minimax_91 (by decide) ?_
    refine rv_sub h [1, 2, 3, 4, 0] rfl ?_
    exact ih6 v7 v23 w13
  refine rv_aload_n h 39 dX4_minimax_39 1 rfl ?_
  refine rv_getr h 40 dX4_minimax_40 rv_s24 rv_fd_X4_51 rfl ?_
  refine rv_iload h 43 dX4_minimax_43 4 rfl ?_
  refine rv_aald h 45 dX4_minimax_45 rv_s25 (fun hi14 => ?_)
  refine rv_iload_n h 46 dX4_minimax_46 2 rfl ?_
  refine rv_iald h 47 dX4_minimax_47 (rv_row26 hi14) ?_
  refine rv_aload_n h 48 dX4_minimax_48 1 rfl ?_
  refine rv_getr h 49 dX4_minimax_49 rv_s24 rv_fd_X4_51 rfl ?_
  refine rv_iload_n h 52 dX4_minimax_52 2 rfl ?_
  refine rv_aald h 53 dX4_minimax_53 rv_s25 (fun hi15 => ?_)
  refine rv_iload h 54 dX4_minimax_54 4 rfl ?_
  refine rv_iald h 56 dX4_minimax_56 (rv_row26 hi15) ?_
  refine rv_isub h 57 dX4_minimax_57 ?_
  refine rv_top (fun v16 => ?_)
  refine rv_istore (lv' := [(5, .int v16), (0, .ref (ad 54)), (1, .ref (ad 24)), (2, .int v3), (3, .int v7), (4, .int v8)]) h 58 dX4_minimax_58 (by decide) rfl ?_
  refine rv_aload_n h 60 dX4_minimax_60 1 rfl ?_
  refine rv_getr h 61 dX4_minimax_61 rv_s54 rv_fd_X4_9 rfl ?_
  refine rv_iload_n h 64 dX4_minimax_64 3 rfl ?_
  refine rv_iload_n h 65 dX4_minimax_65 4 rfl ?_
  refine rv_join (fun (k0 : Int32 → rv_W → rv_R) => ∀ (v17 : Int32) (w18 : rv_W), K 85 [(0, .ref (ad 54)), (1, .ref (ad 24)), (2, .int v3), (4, .int v8)] (.int v17 :: .int v3 :: .ref (ad 55) :: []) w18 (k0 v17 w18)) (fun v17 w18 => ?_) (fun k19 hk20 => ?_)
  · refine rv_iast h 85 dX4_minimax_85 rv_s55 (fun w21 => ?_)
    refine rv_iconst h 86 dX4_minimax_86 rv_c0 ?_
    refine rv_istore_n (lv' := [(3, .int (0 : Int32)), (0, .ref (ad 54)), (1, .ref (ad 24)), (2, .int v3), (4, .int v8)]) h 87 dX4_minimax_87 (by decide) rfl ?_
    refine rv_iinc h 88 (fun v22 => [(4, .int v22), (3, .int (0 : Int32)), (0, .ref (ad 54)), (1, .ref (ad 24)), (2, .int v3)]) dX4_minimax_88 4 rfl rv_c1 (by decide) (fun _ => rfl) (fun v22 => ?_)
    refine rv_goto (tgt := 12) h 91 dX4_minimax_91 (by decide) ?_
    refine rv_sub h [2, 3, 4, 1, 0] rfl ?_
    exact ih6 (0 : Int32) v22 w21
  refine rv_if_eq (tgt := 74) h 66 dX4_minimax_66 (by decide) (fun _ => ?_) (fun _ => ?_)
  rotate_left
  · refine rv_iload h 69 dX4_minimax_69 0 rfl ?_
    refine rv_goto (tgt := 85) h 71 dX4_minimax_71 (by decide) ?_
    refine rv_sub h [1, 2, 3, 5] rfl ?_
    exact hk20 v16 w13
  refine rv_aload_n h 74 dX4_minimax_74 1 rfl ?_
  refine rv_getr h 75 dX4_minimax_75 rv_s54 rv_fd_X4_9 rfl ?_
  refine rv_iload_n h 78 dX4_minimax_78 3 rfl ?_
  refine rv_iald h 79 dX4_minimax_79 rv_s55 ?_
  refine rv_iload h 80 dX4_minimax_80 0 rfl ?_
  refine rv_mmax h 82 dX4_minimax_82 ce_J9_max_7cf53 lk_X4_55 (Nat.le_of_ble_eq_true rfl) ⟨Nat.le_of_ble_eq_true rfl, Nat.le_of_ble_eq_true rfl⟩ ?_
  refine rv_sub h [1, 2, 3, 5] rfl ?_
  exact hk20 (if (w13 55 v3.toNatClampNeg) < v16 then v16 else (w13 55 v3.toNatClampNeg)) w13
def f_X5_addPlace (p1 : Int32) (a2 : Nat) (w : rv_W) : rv_R :=
  rv_fx (fun _ _ => none) (fun (ag1 : Int32 → rv_W → rv_R) (v3 : Int32) (w4 : rv_W) =>
  if v3 < (20 : Int32) then
  if p1 < 0 then
  some (0, w4)
  else
  if p1 < (5 : Int32) then
  rv_ck v3 20 (
  rv_ck p1 5 (
  if (w4 (33 + v3.toNatClampNeg) p1.toNatClampNeg) < 0 then
  rv_lt (v3 + (1 : Int32)) (fun (v6 : Int32) =>
  ag1 v6 w4)
  else
  if (w4 (33 + v3.toNatClampNeg) p1.toNatClampNeg) < (5 : Int32) then
  rv_ck (w4 (33 + v3.toNatClampNeg) p1.toNatClampNeg) 5 (
  rv_ck v3 20 (
  rv_ck (w4 (33 + v3.toNatClampNeg) p1.toNatClampNeg) 5 (rv_lt (rv_up w4 a2 (w4 (33 + v3.toNatClampNeg) p1.toNatClampNeg).toNatClampNeg ((w4 a2 (w4 (33 + v3.toNatClampNeg) p1.toNatClampNeg).toNatClampNeg) + (w4 31 v3.toNatClampNeg))) (fun (w8 : rv_W) =>
  rv_lt (v3 + (1 : Int32)) (fun (v9 : Int32) =>
  ag1 v9 w8)))))
  else
  rv_lt (v3 + (1 : Int32)) (fun (v7 : Int32) =>
  ag1 v7 w4)))
  else
  some (0, w4)
  else
  some (0, w4)) rv_FU (0 : Int32) w
set_option maxRecDepth 100000 in
set_option maxHeartbeats 4000000 in
theorem fn_X5_addPlace {l : Launch} {D : va_G} {ad : Nat → Nat} {ca : Nat → ClassId} (hJ : rv_J ad) (p1 : Int32) (a2 : Nat) (ha2 : rv_sh a2 = .inr (0, 5, 0)) (w : rv_W) : rv_Fn l D ad ca yX5_addPlace cX5_addPlace 5 none 0 0 [.ref (ad 24), .int p1, .ref (ad a2)] w (f_X5_addPlace p1 a2 w) := by
  refine rv_mk (lv := [(0, .ref (ad 24)), (1, .int p1), (2, .ref (ad a2))]) hJ (by decide +kernel) (Nat.le_of_ble_eq_true rfl) rfl (fun K h hr => ?_)
  have h : rv_Rl D ad ca l RX5 cX5_addPlace 5 0 0 K := h
  unfold f_X5_addPlace
  refine rv_iconst h 0 dX5_addPlace_0 rv_c0 ?_
  refine rv_istore_n (lv' := [(3, .int (0 : Int32)), (0, .ref (ad 24)), (1, .int p1), (2, .ref (ad a2))]) h 1 dX5_addPlace_1 (by decide) rfl ?_
  refine rv_sub h [1, 2, 3, 0] rfl ?_
  refine rv_fx_ind (fun (a0 : Int32 → rv_W → rv_R) => ∀ (v3 : Int32) (w4 : rv_W), K 2 [(0, .ref (ad 24)), (1, .int p1), (2, .ref (ad a2)), (3, .int v3)] [] w4 (a0 v3 w4)) (fun _ _ => rv_none h) (fun ag1 ih2 v3 w4 => ?_) rv_FU (0 : Int32) w
  refine rv_iload_n h 2 dX5_addPlace_2 3 rfl ?_
  refine rv_bipush (v := 20) h 3 dX5_addPlace_3 (by decide +kernel) ?_
  refine rv_icmp_ge (tgt := 58) h 5 dX5_addPlace_5 (by decide) (fun _ => ?_) (fun _ => ?_)
  rotate_left
  · exact rv_retv hr 58 dX5_addPlace_58
  refine rv_iload_n h 8 dX5_addPlace_8 1 rfl ?_
  refine rv_if_lt (tgt := 58) h 9 dX5_addPlace_9 (by decide) (fun _ => ?_) (fun _ => ?_)
  · exact rv_retv hr 58 dX5_addPlace_58
  refine rv_iload_n h 12 dX5_addPlace_12 1 rfl ?_
  refine rv_iconst h 13 dX5_addPlace_13 rv_c5 ?_
  refine rv_icmp_ge (tgt := 58) h 14 dX5_addPlace_14 (by decide) (fun _ => ?_) (fun _ => ?_)
  rotate_left
  · exact rv_retv hr 58 dX5_addPlace_58
  refine rv_aload_n h 17 dX5_addPlace_17 0 rfl ?_
  refine rv_getr h 18 dX5_addPlace_18 rv_s24 rv_fd_X5_20 rfl ?_
  refine rv_iload_n h 21 dX5_addPlace_21 3 rfl ?_
  refine rv_aald h 22 dX5_addPlace_22 rv_s32 (fun hi5 => ?_)
  refine rv_iload_n h 23 dX5_addPlace_23 1 rfl ?_
  refine rv_iald h 24 dX5_addPlace_24 (rv_row33 hi5) ?_
  refine rv_istore (lv' := [(4, .int (w4 (33 + v3.toNatClampNeg) p1.toNatClampNeg)), (0, .ref (ad 24)), (1, .int p1), (2, .ref (ad a2)), (3, .int v3)]) h 25 dX5_addPlace_25 (by decide) rfl ?_
  refine rv_iload h 27 dX5_addPlace_27 0 rfl ?_
  refine rv_if_lt (tgt := 52) h 29 dX5_addPlace_29 (by decide) (fun _ => ?_) (fun _ => ?_)
  · refine rv_iinc h 52 (fun v6 => [(3, .int v6), (4, .int (w4 (33 + v3.toNatClampNeg) p1.toNatClampNeg)), (0, .ref (ad 24)), (1, .int p1), (2, .ref (ad a2))]) dX5_addPlace_52 4 rfl rv_c1 (by decide) (fun _ => rfl) (fun v6 => ?_)
    refine rv_goto (tgt := 2) h 55 dX5_addPlace_55 (by decide) ?_
    refine rv_sub h [2, 3, 4, 0] rfl ?_
    exact ih2 v6 w4
  refine rv_iload h 32 dX5_addPlace_32 0 rfl ?_
  refine rv_aload_n h 34 dX5_addPlace_34 3 rfl ?_
  refine rv_len (v := 5) h 35 dX5_addPlace_35 ha2 (by decide) (by decide +kernel) ?_
  refine rv_icmp_ge (tgt := 52) h 36 dX5_addPlace_36 (by decide) (fun _ => ?_) (fun _ => ?_)
  rotate_left
  · refine rv_iinc h 52 (fun v7 => [(3, .int v7), (4, .int (w4 (33 + v3.toNatClampNeg) p1.toNatClampNeg)), (0, .ref (ad 24)), (1, .int p1), (2, .ref (ad a2))]) dX5_addPlace_52 4 rfl rv_c1 (by decide) (fun _ => rfl) (fun v7 => ?_)
    refine rv_goto (tgt := 2) h 55 dX5_addPlace_55 (by decide) ?_
    refine rv_sub h [2, 3, 4, 0] rfl ?_
    exact ih2 v7 w4
  refine rv_aload_n h 39 dX5_addPlace_39 3 rfl ?_
  refine rv_iload h 40 dX5_addPlace_40 0 rfl ?_
  refine rv_dup2 h 42 dX5_addPlace_42 rfl rfl ?_
  refine rv_iald h 43 dX5_addPlace_43 ha2 ?_
  refine rv_aload_n h 44 dX5_addPlace_44 1 rfl ?_
  refine rv_getr h 45 dX5_addPlace_45 rv_s24 rv_fd_X5_16 rfl ?_
  refine rv_iload_n h 48 dX5_addPlace_48 4 rfl ?_
  refine rv_iald h 49 dX5_addPlace_49 rv_s31 ?_
  refine rv_iadd h 50 dX5_addPlace_50 ?_
  refine rv_iast h 51 dX5_addPlace_51 ha2 (fun w8 => ?_)
  refine rv_iinc h 52 (fun v9 => [(3, .int v9), (4, .int (w4 (33 + v3.toNatClampNeg) p1.toNatClampNeg)), (0, .ref (ad 24)), (1, .int p1), (2, .ref (ad a2))]) dX5_addPlace_52 4 rfl rv_c1 (by decide) (fun _ => rfl) (fun v9 => ?_)
  refine rv_goto (tgt := 2) h 55 dX5_addPlace_55 (by decide) ?_
  refine rv_sub h [2, 3, 4, 0] rfl ?_
  exact ih2 v9 w8
def f_X4_bucklin  (w : rv_W) : rv_R :=
  rv_bd (f_J6_bitCount_0f7a4 (w 24 0) w) (fun (r1 : Int32) (w2 : rv_W) =>
  rv_fx (fun _ _ => none) (fun (ag3 : Int32 → rv_W → rv_R) (v5 : Int32) (w6 : rv_W) =>
  if r1 < v5 then
  some (0, w6)
  else
  rv_bd (f_X5_addPlace (v5 - (1 : Int32)) 55 w6) (fun (r7 : Int32) (w8 : rv_W) =>
  rv_fx (fun _ _ => none) (fun (ag9 : Int32 → rv_W → rv_R) (v11 : Int32) (w12 : rv_W) =>
  if v11 < (5 : Int32) then
  rv_ck v11 5 (
  if (w12 24 1) < ((2 : Int32) * (w12 55 v11.toNatClampNeg)) then
  some (0, w12)
  else
  rv_lt (v11 + (1 : Int32)) (fun (v14 : Int32) =>
  ag9 v14 w12))
  else
  rv_lt (v5 + (1 : Int32)) (fun (v13 : Int32) =>
  ag3 v13 w12)) rv_FU (0 : Int32) w8)) rv_FU (1 : Int32) w2)
set_option maxRecDepth 100000 in
set_option maxHeartbeats 4000000 in
theorem fn_X4_bucklin {l : Launch} {D : va_G} {ad : Nat → Nat} {ca : Nat → ClassId} (hJ : rv_J ad)   (w : rv_W) : rv_Fn l D ad ca yX4_bucklin cX4_bucklin 5 none 1 24 [.ref (ad 54), .ref (ad 24)] w (f_X4_bucklin  w) := by
  refine rv_mk (lv := [(0, .ref (ad 54)), (1, .ref (ad 24))]) hJ (by decide +kernel) (Nat.le_of_ble_eq_true rfl) rfl (fun K h hr => ?_)
  have h : rv_Rl D ad ca l RX4 cX4_bucklin 5 1 24 K := h
  unfold f_X4_bucklin
  refine rv_aload_n h 0 dX4_bucklin_0 1 rfl ?_
  refine rv_geti h 1 dX4_bucklin_1 rv_s24 rv_fd_X4_18 rfl ?_
  refine rv_callSi h 4 dX4_bucklin_4 (fn_J6_bitCount_0f7a4 hJ (w 24 0)  w) ce_J6_bitCount_0f7a4 lk_X4_61 rfl rfl (Nat.le_of_ble_eq_true rfl) ⟨Nat.le_of_ble_eq_true rfl, Nat.le_of_ble_eq_true rfl⟩ (fun r1 w2 => ?_)
  refine rv_istore_n (lv' := [(2, .int r1), (0, .ref (ad 54)), (1, .ref (ad 24))]) h 7 dX4_bucklin_7 (by decide) rfl ?_
  refine rv_iconst h 8 dX4_bucklin_8 rv_c1 ?_
  refine rv_istore_n (lv' := [(3, .int (1 : Int32)), (2, .int r1), (0, .ref (ad 54)), (1, .ref (ad 24))]) h 9 dX4_bucklin_9 (by decide) rfl ?_
  refine rv_sub h [2, 3, 1, 0] rfl ?_
  refine rv_fx_ind (fun (a0 : Int32 → rv_W → rv_R) => ∀ (v5 : Int32) (w6 : rv_W), K 10 [(0, .ref (ad 54)), (1, .ref (ad 24)), (2, .int r1), (3, .int v5)] [] w6 (a0 v5 w6)) (fun _ _ => rv_none h) (fun ag3 ih4 v5 w6 => ?_) rv_FU (1 : Int32) w2
  refine rv_iload_n h 10 dX4_bucklin_10 3 rfl ?_
  refine rv_iload_n h 11 dX4_bucklin_11 2 rfl ?_
  refine rv_icmp_gt (tgt := 68) h 12 dX4_bucklin_12 (by decide) (fun _ => ?_) (fun _ => ?_)
  · exact rv_retv hr 68 dX4_bucklin_68
  refine rv_aload_n h 15 dX4_bucklin_15 1 rfl ?_
  refine rv_iload_n h 16 dX4_bucklin_16 3 rfl ?_
  refine rv_iconst h 17 dX4_bucklin_17 rv_c1 ?_
  refine rv_isub h 18 dX4_bucklin_18 ?_
  refine rv_aload_n h 19 dX4_bucklin_19 0 rfl ?_
  refine rv_getr h 20 dX4_bucklin_20 rv_s54 rv_fd_X4_9 rfl ?_
  refine rv_callVv h 23 dX4_bucklin_23 (fn_X5_addPlace hJ (v5 - (1 : Int32)) 55 rv_s55 w6) ce_X5_addPlace lk_X4_67 rv_s24 rfl rv_cf3 rfl rfl (Nat.le_of_ble_eq_true rfl) ⟨Nat.le_of_ble_eq_true rfl, Nat.le_of_ble_eq_true rfl⟩ (fun r7 w8 => ?_)
  refine rv_iconst h 26 dX4_bucklin_26 rv_c0 ?_
  refine rv_istore (lv' := [(4, .int (0 : Int32)), (0, .ref (ad 54)), (1, .ref (ad 24)), (2, .int r1), (3, .int v5)]) h 27 dX4_bucklin_27 (by decide) rfl ?_
  refine rv_sub h [1, 2, 3, 4, 0] rfl ?_
  refine rv_fx_ind (fun (a0 : Int32 → rv_W → rv_R) => ∀ (v11 : Int32) (w12 : rv_W), K 29 [(0, .ref (ad 54)), (1, .ref (ad 24)), (2, .int r1), (3, .int v5), (4, .int v11)] [] w12 (a0 v11 w12)) (fun _ _ => rv_none h) (fun ag9 ih10 v11 w12 => ?_) rv_FU (0 : Int32) w8
  refine rv_iload h 29 dX4_bucklin_29 4 rfl ?_
  refine rv_aload_n h 31 dX4_bucklin_31 0 rfl ?_
  refine rv_getr h 32 dX4_bucklin_32 rv_s54 rv_fd_X4_9 rfl ?_
  refine rv_len (v := 5) h 35 dX4_bucklin_35 rv_s55 (by decide) (by decide +kernel) ?_
  refine rv_icmp_ge (tgt := 62) h 36 dX4_bucklin_36 (by decide) (fun _ => ?_) (fun _ => ?_)
  rotate_left
  · refine rv_iinc h 62 (fun v13 => [(3, .int v13), (0, .ref (ad 54)), (1, .ref (ad 24)), (2, .int r1), (4, .int v11)]) dX4_bucklin_62 3 rfl rv_c1 (by decide) (fun _ => rfl) (fun v13 => ?_)
    refine rv_goto (tgt := 10) h 65 dX4_bucklin_65 (by decide) ?_
    refine rv_sub h [1, 2, 3, 0] rfl ?_
    exact ih4 v13 w12
  refine rv_iconst h 39 dX4_bucklin_39 rv_c2 ?_
  refine rv_aload_n h 40 dX4_bucklin_40 0 rfl ?_
  refine rv_getr h 41 dX4_bucklin_41 rv_s54 rv_fd_X4_9 rfl ?_
  refine rv_iload h 44 dX4_bucklin_44 4 rfl ?_
  refine rv_iald h 46 dX4_bucklin_46 rv_s55 ?_
  refine rv_imul h 47 dX4_bucklin_47 ?_
  refine rv_aload_n h 48 dX4_bucklin_48 1 rfl ?_
  refine rv_geti h 49 dX4_bucklin_49 rv_s24 rv_fd_X4_48 rfl ?_
  refine rv_icmp_le (tgt := 56) h 52 dX4_bucklin_52 (by decide) (fun _ => ?_) (fun _ => ?_)
  · exact rv_retv hr 55 dX4_bucklin_55
  refine rv_iinc h 56 (fun v14 => [(4, .int v14), (0, .ref (ad 54)), (1, .ref (ad 24)), (2, .int r1), (3, .int v5)]) dX4_bucklin_56 4 rfl rv_c1 (by decide) (fun _ => rfl) (fun v14 => ?_)
  refine rv_goto (tgt := 29) h 59 dX4_bucklin_59 (by decide) ?_
  refine rv_sub h [1, 2, 3, 4, 0] rfl ?_
  exact ih10 v14 w12
