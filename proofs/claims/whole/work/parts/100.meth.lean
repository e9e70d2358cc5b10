def f_J9_max_7cf53 (p1 : Int32) (p2 : Int32) (w : rv_W) : rv_R :=
  if p1 < p2 then
  some (p2, w)
  else
  some (p1, w)
set_option maxRecDepth 100000 in
set_option maxHeartbeats 4000000 in
theorem fn_J9_max_7cf53 {l : Launch} {D : va_G} {ad : Nat → Nat} {ca : Nat → ClassId} (hJ : rv_J ad) (p1 : Int32) (p2 : Int32)  (w : rv_W) : rv_Fn l D ad ca yJ9_max_7cf53 cJ9_max_7cf53 2 (some .int) 0 0 [.int p1, .int p2] w (f_J9_max_7cf53 p1 p2 w) := by
  refine rv_mk (lv := [(0, .int p1), (1, .int p2)]) hJ (by decide +kernel) (Nat.le_of_ble_eq_true rfl) rfl (fun K h hr => ?_)
  have h : rv_Rl D ad ca l RJ9 cJ9_max_7cf53 2 0 0 K := h
  unfold f_J9_max_7cf53
  refine rv_iload_n h 0 dJ9_max_7cf53_0 0 rfl ?_
  refine rv_iload_n h 1 dJ9_max_7cf53_1 1 rfl ?_
  refine rv_icmp_lt (tgt := 9) h 2 dJ9_max_7cf53_2 (by decide) (fun _ => ?_) (fun _ => ?_)
  · refine rv_iload_n h 9 dJ9_max_7cf53_9 1 rfl ?_
    exact rv_reti hr 10 dJ9_max_7cf53_10
  refine rv_iload_n h 5 dJ9_max_7cf53_5 0 rfl ?_
  refine rv_goto (tgt := 10) h 6 dJ9_max_7cf53_6 (by decide) ?_
  exact rv_reti hr 10 dJ9_max_7cf53_10
def f_X1_exists (p1 : Int32) (w : rv_W) : rv_R :=
  if p1 < 0 then
  some ((0 : Int32), w)
  else
  if p1 < (5 : Int32) then
  some ((1 : Int32), w)
  else
  some ((0 : Int32), w)
set_option maxRecDepth 100000 in
set_option maxHeartbeats 4000000 in
theorem fn_X1_exists {l : Launch} {D : va_G} {ad : Nat → Nat} {ca : Nat → ClassId} (hJ : rv_J ad) (p1 : Int32)  (w : rv_W) : rv_Fn l D ad ca yX1_exists cX1_exists 1 (some .boolean) 0 0 [.int p1] w (f_X1_exists p1 w) := by
  refine rv_mk (lv := [(0, .int p1)]) hJ (by decide +kernel) (Nat.le_of_ble_eq_true rfl) rfl (fun K h hr => ?_)
  have h : rv_Rl D ad ca l RX1 cX1_exists 1 0 0 K := h
  unfold f_X1_exists
  refine rv_iload_n h 0 dX1_exists_0 0 rfl ?_
  refine rv_if_lt (tgt := 13) h 1 dX1_exists_1 (by decide) (fun _ => ?_) (fun _ => ?_)
  · refine rv_iconst h 13 dX1_exists_13 rv_c0 ?_
    exact rv_retz0 hr 14 dX1_exists_14
  refine rv_iload_n h 4 dX1_exists_4 0 rfl ?_
  refine rv_iconst h 5 dX1_exists_5 rv_c5 ?_
  refine rv_icmp_ge (tgt := 13) h 6 dX1_exists_6 (by decide) (fun _ => ?_) (fun _ => ?_)
  rotate_left
  · refine rv_iconst h 13 dX1_exists_13 rv_c0 ?_
    exact rv_retz0 hr 14 dX1_exists_14
  refine rv_iconst h 9 dX1_exists_9 rv_c1 ?_
  refine rv_goto (tgt := 14) h 10 dX1_exists_10 (by decide) ?_
  exact rv_retz1 hr 14 dX1_exists_14
def f_X1_has (p1 : Int32) (p2 : Int32) (w : rv_W) : rv_R :=
  if p2 < 0 then
  some ((0 : Int32), w)
  else
  if p2 < (5 : Int32) then
  if (((p1.toUInt32 >>> (p2.toUInt32 &&& Int32.toUInt32 31)).toInt32) &&& (1 : Int32)) = 0 then
  some ((0 : Int32), w)
  else
  some ((1 : Int32), w)
  else
  some ((0 : Int32), w)
set_option maxRecDepth 100000 in
set_option maxHeartbeats 4000000 in
theorem fn_X1_has {l : Launch} {D : va_G} {ad : Nat → Nat} {ca : Nat → ClassId} (hJ : rv_J ad) (p1 : Int32) (p2 : Int32)  (w : rv_W) : rv_Fn l D ad ca yX1_has cX1_has 2 (some .boolean) 0 0 [.int p1, .int p2] w (f_X1_has p1 p2 w) := by
  refine rv_mk (lv := [(0, .int p1), (1, .int p2)]) hJ (by decide +kernel) (Nat.le_of_ble_eq_true rfl) rfl (fun K h hr => ?_)
  have h : rv_Rl D ad ca l RX1 cX1_has 2 0 0 K := h
  unfold f_X1_has
  refine rv_iload_n h 0 dX1_has_0 1 rfl ?_
  refine rv_if_lt (tgt := 21) h 1 dX1_has_1 (by decide) (fun _ => ?_) (fun _ => ?_)
  · refine rv_iconst h 21 dX1_has_21 rv_c0 ?_
    exact rv_retz0 hr 22 dX1_has_22
  refine rv_iload_n h 4 dX1_has_4 1 rfl ?_
  refine rv_iconst h 5 dX1_has_5 rv_c5 ?_
  refine rv_icmp_ge (tgt := 21) h 6 dX1_has_6 (by decide) (fun _ => ?_) (fun _ => ?_)
  rotate_left
  · refine rv_iconst h 21 dX1_has_21 rv_c0 ?_
    exact rv_retz0 hr 22 dX1_has_22
  refine rv_iload_n h 9 dX1_has_9 0 rfl ?_
  refine rv_iload_n h 10 dX1_has_10 1 rfl ?_
  refine rv_iushr h 11 dX1_has_11 ?_
  refine rv_iconst h 12 dX1_has_12 rv_c1 ?_
  refine rv_iand h 13 dX1_has_13 ?_
  refine rv_if_eq (tgt := 21) h 14 dX1_has_14 (by decide) (fun _ => ?_) (fun _ => ?_)
  · refine rv_iconst h 21 dX1_has_21 rv_c0 ?_
    exact rv_retz0 hr 22 dX1_has_22
  refine rv_iconst h 17 dX1_has_17 rv_c1 ?_
  refine rv_goto (tgt := 22) h 18 dX1_has_18 (by decide) ?_
  exact rv_retz1 hr 22 dX1_has_22
def f_X4_best (p1 : Int32) (p2 : Int32) (w : rv_W) : rv_R :=
  rv_fx (fun _ _ _ _ => none) (fun (ag1 : Int32 → Int32 → Int32 → rv_W → rv_R) (v3 : Int32) (v4 : Int32) (v5 : Int32) (w6 : rv_W) =>
  if v5 < (5 : Int32) then
  rv_bd (f_X1_has p1 v5 w6) (fun (r7 : Int32) (w8 : rv_W) =>
  if r7 = 0 then
  rv_lt (v5 + (1 : Int32)) (fun (v21 : Int32) =>
  ag1 v3 v4 v21 w8)
  else
  rv_jn (fun (v9 : Int32) (v10 : Int32) (w11 : rv_W) =>
  rv_ck v5 5 (
  if (p2 * (w11 55 v5.toNatClampNeg)) = v10 then
  rv_lt ((v9 ||| ((1 : Int32) <<< (v5 &&& 31)))) (fun (v15 : Int32) =>
  rv_lt (v5 + (1 : Int32)) (fun (v16 : Int32) =>
  ag1 v15 v10 v16 w11))
  else
  rv_lt (v5 + (1 : Int32)) (fun (v14 : Int32) =>
  ag1 v9 v10 v14 w11))) (fun (k12 : Int32 → Int32 → rv_W → rv_R) =>
  rv_jn (fun  (w17 : rv_W) =>
  rv_ck v5 5 (
  rv_lt ((p2 * (w17 55 v5.toNatClampNeg))) (fun (v20 : Int32) =>
  k12 (0 : Int32) v20 w17))) (fun (k18 : rv_W → rv_R) =>
  if v3 = 0 then
  k18 w8
  else
  rv_ck v5 5 (
  if v4 < (p2 * (w8 55 v5.toNatClampNeg)) then
  k18 w8
  else
  k12 v3 v4 w8))))
  else
  some (v3, w6)) rv_FU (0 : Int32) (0 : Int32) (0 : Int32) w
set_option maxRecDepth 100000 in
set_option maxHeartbeats 4000000 in
theorem fn_X4_best {l : Launch} {D : va_G} {ad : Nat → Nat} {ca : Nat → ClassId} (hJ : rv_J ad) (p1 : Int32) (p2 : Int32)  (w : rv_W) : rv_Fn l D ad ca yX4_best cX4_best 6 (some .int) 1 21 [.ref (ad 54), .int p1, .int p2] w (f_X4_best p1 p2 w) := by
  refine rv_mk (lv := [(0, .ref (ad 54)), (1, .int p1), (2, .int p2)]) hJ (by decide +kernel) (Nat.le_of_ble_eq_true rfl) rfl (fun K h hr => ?_)
  have h : rv_Rl D ad ca l RX4 cX4_best 6 1 21 K := h
  unfold f_X4_best
  refine rv_iconst h 0 dX4_best_0 rv_c0 ?_
  refine rv_istore_n (lv' := [(3, .int (0 : Int32)), (0, .ref (ad 54)), (1, .int p1), (2, .int p2)]) h 1 dX4_best_1 (by decide) rfl ?_
  refine rv_iconst h 2 dX4_best_2 rv_c0 ?_
  refine rv_istore (lv' := [(4, .int (0 : Int32)), (3, .int (0 : Int32)), (0, .ref (ad 54)), (1, .int p1), (2, .int p2)]) h 3 dX4_best_3 (by decide) rfl ?_
  refine rv_iconst h 5 dX4_best_5 rv_c0 ?_
  refine rv_istore (lv' := [(5, .int (0 : Int32)), (4, .int (0 : Int32)), (3, .int (0 : Int32)), (0, .ref (ad 54)), (1, .int p1), (2, .int p2)]) h 6 dX4_best_6 (by decide) rfl ?_
  refine rv_sub h [3, 4, 5, 2, 1, 0] rfl ?_
  refine rv_fx_ind (fun (a0 : Int32 → Int32 → Int32 → rv_W → rv_R) => ∀ (v3 : Int32) (v4 : Int32) (v5 : Int32) (w6 : rv_W), K 8 [(0, .ref (ad 54)), (1, .int p1), (2, .int p2), (3, .int v3), (4, .int v4), (5, .int v5)] [] w6 (a0 v3 v4 v5 w6)) (fun _ _ _ _ => rv_none h) (fun ag1 ih2 v3 v4 v5 w6 => ?_) rv_FU (0 : Int32) (0 : Int32) (0 : Int32) w
  refine rv_iload h 8 dX4_best_8 5 rfl ?_
  refine rv_aload_n h 10 dX4_best_10 0 rfl ?_
  refine rv_getr h 11 dX4_best_11 rv_s54 rv_fd_X4_9 rfl ?_
  refine rv_len (v := 5) h 14 dX4_best_14 rv_s55 (by decide) (by decide +kernel) ?_
  refine rv_icmp_ge (tgt := 88) h 15 dX4_best_15 (by decide) (fun _ => ?_) (fun _ => ?_)
  rotate_left
  · refine rv_iload_n h 88 dX4_best_88 3 rfl ?_
    exact rv_reti hr 89 dX4_best_89
  refine rv_iload_n h 18 dX4_best_18 1 rfl ?_
  refine rv_iload h 19 dX4_best_19 5 rfl ?_
  refine rv_callSi h 21 dX4_best_21 (fn_X1_has hJ p1 v5  w6) ce_X1_has lk_X4_42 rfl rfl (Nat.le_of_ble_eq_true rfl) ⟨Nat.le_of_ble_eq_true rfl, Nat.le_of_ble_eq_true rfl⟩ (fun r7 w8 => ?_)
  refine rv_if_ne (tgt := 30) h 24 dX4_best_24 (by decide) (fun _ => ?_) (fun _ => ?_)
  · refine rv_goto (tgt := 82) h 27 dX4_best_27 (by decide) ?_
    refine rv_iinc h 82 (fun v21 => [(5, .int v21), (0, .ref (ad 54)), (1, .int p1), (2, .int p2), (3, .int v3), (4, .int v4)]) dX4_best_82 5 rfl rv_c1 (by decide) (fun _ => rfl) (fun v21 => ?_)
    refine rv_goto (tgt := 8) h 85 dX4_best_85 (by decide) ?_
    refine rv_sub h [1, 2, 3, 4, 5, 0] rfl ?_
    exact ih2 v3 v4 v21 w8
  refine rv_iload_n h 30 dX4_best_30 3 rfl ?_
  refine rv_join (fun (k0 : Int32 → Int32 → rv_W → rv_R) => ∀ (v9 : Int32) (v10 : Int32) (w11 : rv_W), K 61 [(0, .ref (ad 54)), (1, .int p1), (2, .int p2), (3, .int v9), (4, .int v10), (5, .int v5)] ([]) w11 (k0 v9 v10 w11)) (fun v9 v10 w11 => ?_) (fun k12 hk13 => ?_)
  · refine rv_iload_n h 61 dX4_best_61 2 rfl ?_
    refine rv_aload_n h 62 dX4_best_62 0 rfl ?_
    refine rv_getr h 63 dX4_best_63 rv_s54 rv_fd_X4_9 rfl ?_
    refine rv_iload h 66 dX4_best_66 5 rfl ?_
    refine rv_iald h 68 dX4_best_68 rv_s55 ?_
    refine rv_imul h 69 dX4_best_69 ?_
    refine rv_iload h 70 dX4_best_70 4 rfl ?_
    refine rv_icmp_ne (tgt := 82) h 72 dX4_best_72 (by decide) (fun _ => ?_) (fun _ => ?_)
    rotate_left
    · refine rv_iinc h 82 (fun v14 => [(5, .int v14), (0, .ref (ad 54)), (1, .int p1), (2, .int p2), (3, .int v9), (4, .int v10)]) dX4_best_82 5 rfl rv_c1 (by decide) (fun _ => rfl) (fun v14 => ?_)
      refine rv_goto (tgt := 8) h 85 dX4_best_85 (by decide) ?_
      refine rv_sub h [1, 2, 3, 4, 5, 0] rfl ?_
      exact ih2 v9 v10 v14 w11
    refine rv_iload_n h 75 dX4_best_75 3 rfl ?_
    refine rv_iconst h 76 dX4_best_76 rv_c1 ?_
    refine rv_iload h 77 dX4_best_77 5 rfl ?_
    refine rv_ishl h 79 dX4_best_79 ?_
    refine rv_ior h 80 dX4_best_80 ?_
    refine rv_top (fun v15 => ?_)
    refine rv_istore_n (lv' := [(3, .int v15), (0, .ref (ad 54)), (1, .int p1), (2, .int p2), (4, .int v10), (5, .int v5)]) h 81 dX4_best_81 (by decide) rfl ?_
    refine rv_iinc h 82 (fun v16 => [(5, .int v16), (3, .int v15), (0, .ref (ad 54)), (1, .int p1), (2, .int p2), (4, .int v10)]) dX4_best_82 5 rfl rv_c1 (by decide) (fun _ => rfl) (fun v16 => ?_)
    refine rv_goto (tgt := 8) h 85 dX4_best_85 (by decide) ?_
    refine rv_sub h [2, 3, 4, 1, 5, 0] rfl ?_
    exact ih2 v15 v10 v16 w11
  refine rv_join (fun (k0 : rv_W → rv_R) => ∀  (w17 : rv_W), K 48 [(0, .ref (ad 54)), (1, .int p1), (2, .int p2), (5, .int v5)] ([]) w17 (k0 w17)) (fun w17 => ?_) (fun k18 hk19 => ?_)
  · refine rv_iconst h 48 dX4_best_48 rv_c0 ?_
    refine rv_istore_n (lv' := [(3, .int (0 : Int32)), (0, .ref (ad 54)), (1, .int p1), (2, .int p2), (5, .int v5)]) h 49 dX4_best_49 (by decide) rfl ?_
    refine rv_iload_n h 50 dX4_best_50 3 rfl ?_
    refine rv_aload_n h 51 dX4_best_51 1 rfl ?_
    refine rv_getr h 52 dX4_best_52 rv_s54 rv_fd_X4_9 rfl ?_
    refine rv_iload h 55 dX4_best_55 4 rfl ?_
    refine rv_iald h 57 dX4_best_57 rv_s55 ?_
    refine rv_imul h 58 dX4_best_58 ?_
    refine rv_top (fun v20 => ?_)
    refine rv_istore (lv' := [(4, .int v20), (3, .int (0 : Int32)), (0, .ref (ad 54)), (1, .int p1), (2, .int p2), (5, .int v5)]) h 59 dX4_best_59 (by decide) rfl ?_
    refine rv_sub h [2, 3, 4, 1, 0, 5] rfl ?_
    exact hk13 (0 : Int32) v20 w17
  refine rv_if_eq (tgt := 48) h 31 dX4_best_31 (by decide) (fun _ => ?_) (fun _ => ?_)
  · refine rv_sub h [0, 1, 2, 5] rfl ?_
    exact hk19 w8
  refine rv_iload_n h 34 dX4_best_34 2 rfl ?_
  refine rv_aload_n h 35 dX4_best_35 0 rfl ?_
  refine rv_getr h 36 dX4_best_36 rv_s54 rv_fd_X4_9 rfl ?_
  refine rv_iload h 39 dX4_best_39 5 rfl ?_
  refine rv_iald h 41 dX4_best_41 rv_s55 ?_
  refine rv_imul h 42 dX4_best_42 ?_
  refine rv_iload h 43 dX4_best_43 4 rfl ?_
  refine rv_icmp_le (tgt := 61) h 45 dX4_best_45 (by decide) (fun _ => ?_) (fun _ => ?_)
  · refine rv_sub h [0, 1, 2, 5] rfl ?_
    exact hk19 w8
  refine rv_sub h [0, 1, 2, 3, 4, 5] rfl ?_
  exact hk13 v3 v4 w8
def f_X8_write (k0 : Nat) (p1 : Int32) (p2 : Int32) (p3 : Int32) (w : rv_W) : rv_R :=
  if p1 < 0 then
  some (0, w)
  else
  if p1 < (20 : Int32) then
  rv_ck p1 20 (rv_lt (rv_up w (k0 + 1) p1.toNatClampNeg p2) (fun (w1 : rv_W) =>
  rv_ck p1 20 (rv_lt (rv_up w1 (k0 + 2) p1.toNatClampNeg p3) (fun (w2 : rv_W) =>
  some (0, w2)))))
  else
  some (0, w)
set_option maxRecDepth 100000 in
set_option maxHeartbeats 4000000 in
theorem fn_X8_write {l : Launch} {D : va_G} {ad : Nat → Nat} {ca : Nat → ClassId} (hJ : rv_J ad) (k0 : Nat) (p1 : Int32) (p2 : Int32) (p3 : Int32) (hk0 : rv_st k0) (w : rv_W) : rv_Fn l D ad ca yX8_write cX8_write 4 none 0 0 [.ref (ad k0), .int p1, .int p2, .int p3] w (f_X8_write k0 p1 p2 p3 w) := by
  refine rv_mk (lv := [(0, .ref (ad k0)), (1, .int p1), (2, .int p2), (3, .int p3)]) hJ (by decide +kernel) (Nat.le_of_ble_eq_true rfl) rfl (fun K h hr => ?_)
  have h : rv_Rl D ad ca l RX8 cX8_write 4 0 0 K := h
  unfold f_X8_write
  refine rv_iload_n h 0 dX8_write_0 1 rfl ?_
  refine rv_if_lt (tgt := 24) h 1 dX8_write_1 (by decide) (fun _ => ?_) (fun _ => ?_)
  · exact rv_retv hr 24 dX8_write_24
  refine rv_iload_n h 4 dX8_write_4 1 rfl ?_
  refine rv_bipush (v := 20) h 5 dX8_write_5 (by decide +kernel) ?_
  refine rv_icmp_ge (tgt := 24) h 7 dX8_write_7 (by decide) (fun _ => ?_) (fun _ => ?_)
  rotate_left
  · exact rv_retv hr 24 dX8_write_24
  refine rv_aload_n h 10 dX8_write_10 0 rfl ?_
  refine rv_getr h 11 dX8_write_11 (rv_stS hk0) rv_fd_X8_15 rfl ?_
  refine rv_iload_n h 14 dX8_write_14 1 rfl ?_
  refine rv_iload_n h 15 dX8_write_15 2 rfl ?_
  refine rv_iast h 16 dX8_write_16 (rv_stA hk0) (fun w1 => ?_)
  refine rv_aload_n h 17 dX8_write_17 0 rfl ?_
  refine rv_getr h 18 dX8_write_18 (rv_stS hk0) rv_fd_X8_19 rfl ?_
  refine rv_iload_n h 21 dX8_write_21 1 rfl ?_
  refine rv_iload_n h 22 dX8_write_22 3 rfl ?_
  refine rv_iast h 23 dX8_write_23 (rv_stB hk0) (fun w2 => ?_)
  exact rv_retv hr 24 dX8_write_24
