def f_X4_take (p1 : Int32) (w : rv_W) : rv_R :=
  rv_bd (f_X4_clear  w) (fun (r1 : Int32) (w2 : rv_W) =>
  if p1 = 0 then
  rv_bd (f_X5_addFirsts (w2 24 0) 55 w2) (fun (r4 : Int32) (w5 : rv_W) =>
  some (0, w5))
  else
  if p1 = 1 then
  rv_bd (f_X4_borda (w2 24 0) w2) (fun (r7 : Int32) (w8 : rv_W) =>
  some (0, w8))
  else
  if p1 = 2 then
  rv_bd (f_X4_copeland  w2) (fun (r10 : Int32) (w11 : rv_W) =>
  some (0, w11))
  else
  if p1 = 3 then
  rv_bd (f_X4_minimax  w2) (fun (r13 : Int32) (w14 : rv_W) =>
  some (0, w14))
  else
  rv_bd (f_X4_bucklin  w2) (fun (r15 : Int32) (w16 : rv_W) =>
  some (0, w16)))
set_option maxRecDepth 100000 in
set_option maxHeartbeats 4000000 in
theorem fn_X4_take {l : Launch} {D : va_G} {ad : Nat → Nat} {ca : Nat → ClassId} (hJ : rv_J ad) (p1 : Int32)  (w : rv_W) : rv_Fn l D ad ca yX4_take cX4_take 3 none 2 48 [.ref (ad 54), .int p1, .ref (ad 24)] w (f_X4_take p1 w) := by
  refine rv_mk (lv := [(0, .ref (ad 54)), (1, .int p1), (2, .ref (ad 24))]) hJ (by decide +kernel) (Nat.le_of_ble_eq_true rfl) rfl (fun K h hr => ?_)
  have h : rv_Rl D ad ca l RX4 cX4_take 3 2 48 K := h
  unfold f_X4_take
  refine rv_aload_n h 0 dX4_take_0 0 rfl ?_
  refine rv_callVv h 1 dX4_take_1 (fn_X4_clear hJ   w) ce_X4_clear lk_X4_15 rv_s54 rfl rv_cf2 rfl rfl (Nat.le_of_ble_eq_true rfl) ⟨Nat.le_of_ble_eq_true rfl, Nat.le_of_ble_eq_true rfl⟩ (fun r1 w2 => ?_)
  refine rv_iload_n h 4 dX4_take_4 1 rfl ?_
  refine rv_iff h (fun c3 => ?_) (fun c3 => ?_)
  · refine rv_swIn (off := 31) (tgt := 36) h 5 dX4_take_5 (0) c3 (by decide) (by decide) (by decide +kernel) (by decide) ?_
    refine rv_aload_n h 36 dX4_take_36 2 rfl ?_
    refine rv_aload_n h 37 dX4_take_37 2 rfl ?_
    refine rv_geti h 38 dX4_take_38 rv_s24 rv_fd_X4_18 rfl ?_
    refine rv_aload_n h 41 dX4_take_41 0 rfl ?_
    refine rv_getr h 42 dX4_take_42 rv_s54 rv_fd_X4_9 rfl ?_
    refine rv_callVv h 45 dX4_take_45 (fn_X5_addFirsts hJ (w2 24 0) 55 rv_s55 w2) ce_X5_addFirsts lk_X4_24 rv_s24 rfl rv_cf3 rfl rfl (Nat.le_of_ble_eq_true rfl) ⟨Nat.le_of_ble_eq_true rfl, Nat.le_of_ble_eq_true rfl⟩ (fun r4 w5 => ?_)
    refine rv_goto (tgt := 84) h 48 dX4_take_48 (by decide) ?_
    exact rv_retv hr 84 dX4_take_84
  refine rv_iff h (fun c6 => ?_) (fun c6 => ?_)
  · refine rv_swIn (off := 46) (tgt := 51) h 5 dX4_take_5 (1) c6 (by decide) (by decide) (by decide +kernel) (by decide) ?_
    refine rv_aload_n h 51 dX4_take_51 0 rfl ?_
    refine rv_aload_n h 52 dX4_take_52 2 rfl ?_
    refine rv_aload_n h 53 dX4_take_53 2 rfl ?_
    refine rv_geti h 54 dX4_take_54 rv_s24 rv_fd_X4_18 rfl ?_
    refine rv_callVv h 57 dX4_take_57 (fn_X4_borda hJ (w2 24 0)  w2) ce_X4_borda lk_X4_28 rv_s54 rfl rv_cf2 rfl rfl (Nat.le_of_ble_eq_true rfl) ⟨Nat.le_of_ble_eq_true rfl, Nat.le_of_ble_eq_true rfl⟩ (fun r7 w8 => ?_)
    refine rv_goto (tgt := 84) h 60 dX4_take_60 (by decide) ?_
    exact rv_retv hr 84 dX4_take_84
  refine rv_iff h (fun c9 => ?_) (fun c9 => ?_)
  · refine rv_swIn (off := 58) (tgt := 63) h 5 dX4_take_5 (2) c9 (by decide) (by decide) (by decide +kernel) (by decide) ?_
    refine rv_aload_n h 63 dX4_take_63 0 rfl ?_
    refine rv_aload_n h 64 dX4_take_64 2 rfl ?_
    refine rv_callVv h 65 dX4_take_65 (fn_X4_copeland hJ   w2) ce_X4_copeland lk_X4_32 rv_s54 rfl rv_cf2 rfl rfl (Nat.le_of_ble_eq_true rfl) ⟨Nat.le_of_ble_eq_true rfl, Nat.le_of_ble_eq_true rfl⟩ (fun r10 w11 => ?_)
    refine rv_goto (tgt := 84) h 68 dX4_take_68 (by decide) ?_
    exact rv_retv hr 84 dX4_take_84
  refine rv_iff h (fun c12 => ?_) (fun c12 => ?_)
  · refine rv_swIn (off := 66) (tgt := 71) h 5 dX4_take_5 (3) c12 (by decide) (by decide) (by decide +kernel) (by decide) ?_
    refine rv_aload_n h 71 dX4_take_71 0 rfl ?_
    refine rv_aload_n h 72 dX4_take_72 2 rfl ?_
    refine rv_callVv h 73 dX4_take_73 (fn_X4_minimax hJ   w2) ce_X4_minimax lk_X4_36 rv_s54 rfl rv_cf2 rfl rfl (Nat.le_of_ble_eq_true rfl) ⟨Nat.le_of_ble_eq_true rfl, Nat.le_of_ble_eq_true rfl⟩ (fun r13 w14 => ?_)
    refine rv_goto (tgt := 84) h 76 dX4_take_76 (by decide) ?_
    exact rv_retv hr 84 dX4_take_84
  refine rv_swOut (tgt := 79) h 5 dX4_take_5 (by have := lv_neT c3 (show (0 : Int32).toInt = 0 by decide); have := lv_neT c6 (show (1 : Int32).toInt = 1 by decide); have := lv_neT c9 (show (2 : Int32).toInt = 2 by decide); have := lv_neT c12 (show (3 : Int32).toInt = 3 by decide); omega) (by decide) ?_
  refine rv_aload_n h 79 dX4_take_79 0 rfl ?_
  refine rv_aload_n h 80 dX4_take_80 2 rfl ?_
  refine rv_callVv h 81 dX4_take_81 (fn_X4_bucklin hJ   w2) ce_X4_bucklin lk_X4_39 rv_s54 rfl rv_cf2 rfl rfl (Nat.le_of_ble_eq_true rfl) ⟨Nat.le_of_ble_eq_true rfl, Nat.le_of_ble_eq_true rfl⟩ (fun r15 w16 => ?_)
  exact rv_retv hr 84 dX4_take_84
def f_X4_best (p1 : Int32) (p2 : Int32) (w : rv_W) : rv_R :=
  rv_fx (fun _ _ _ _ => none) (fun (ag1 : Int32 → Int32 → Int32 → rv_W → rv_R) (v3 : Int32) (v4 : Int32) (v5 : Int32) (w6 : rv_W) =>
  if v5 < (5 : Int32) then
  rv_bd (f_X1_has p1 v5 w6) (fun (r7 : Int32) (w8 : rv_W) =>
  if r7 = 0 then
  rv_lt (v5 + (1 : Int32)) (fun (v21 : Int32) =>
  ag1 v3 v4 v21 w8)
  else
  rv_jn (fun (v9 : Int32) (v10 : Int32) (w11 : rv_W) =>
  rv_ck v5 5 (
  if (p2 * (w11 55 v5.toNatClampNeg)) = v10 then
  rv_lt ((v9 ||| ((1 : Int32) <<< (v5 &&& 31)))) (fun (v15 : Int32) =>
  rv_lt (v5 + (1 : Int32)) (fun (v16 : Int32) =>
  ag1 v15 v10 v16 w11))
  else
  rv_lt (v5 + (1 : Int32)) (fun (v14 : Int32) =>
  ag1 v9 v10 v14 w11))) (fun (k12 : Int32 → Int32 → rv_W → rv_R) =>
  rv_jn (fun  (w17 : rv_W) =>
  rv_ck v5 5 (
  rv_lt ((p2 * (w17 55 v5.toNatClampNeg))) (fun (v20 : Int32) =>
  k12 (0 : Int32) v20 w17))) (fun (k18 : rv_W → rv_R) =>
  if v3 = 0 then
  k18 w8
  else
  rv_ck v5 5 (
  if v4 < (p2 * (w8 55 v5.toNatClampNeg)) then
  k18 w8
  else
  k12 v3 v4 w8))))
  else
  some (v3, w6)) rv_FU (0 : Int32) (0 : Int32) (0 : Int32) w
set_option maxRecDepth 100000 in
set_option maxHeartbeats 4000000 in
theorem fn_X4_best {l : Launch} {D : va_G} {ad : Nat → Nat} {ca : Nat → ClassId} (hJ : rv_J ad) (p1 : Int32) (p2 : Int32)  (w : rv_W) : rv_Fn l D ad ca yX4_best cX4_best 6 (some .int) 1 21 [.ref (ad 54), .int p1, .int p2] w (f_X4_best p1 p2 w) := by
  refine rv_mk (lv := [(0, .ref (ad 54)), (1, .int p1), (2, .int p2)]) hJ (by decide +kernel) (Nat.le_of_ble_eq_true rfl) rfl (fun K h hr => ?_)
  have h : rv_Rl D ad ca l RX4 cX4_best 6 1 21 K := h
  unfold f_X4_best
  refine rv_iconst h 0 dX4_best_0 rv_c0 ?_
  refine rv_istore_n (lv' := [(3, .int (0 : Int32)), (0, .ref (ad 54)), (1, .int p1), (2, .int p2)]) h 1 dX4_best_1 (by decide) rfl ?_
  refine rv_iconst h 2 dX4_best_2 rv_c0 ?_
  refine rv_istore (lv' := [(4, .int (0 : Int32)), (3, .int (0 : Int32)), (0, .ref (ad 54)), (1, .int p1), (2, .int p2)]) h 3 dX4_best_3 (by decide) rfl ?_
  refine rv_iconst h 5 dX4_best_5 rv_c0 ?_
  refine rv_istore (lv' := [(5, .int (0 : Int32)), (4, .int (0 : Int32)), (3, .int (0 : Int32)), (0, .ref (ad 54)), (1, .int p1), (2, .int p2)]) h 6 dX4_best_6 (by decide) rfl ?_
  refine rv_sub h [3, 4, 5, 2, 1, 0] rfl ?_
  refine rv_fx_ind (fun (a0 : Int32 → Int32 → Int32 → rv_W → rv_R) => ∀ (v3 : Int32) (v4 : Int32) (v5 : Int32) (w6 : rv_W), K 8 [(0, .ref (ad 54)), (1, .int p1), (2, .int p2), (3, .int v3), (4, .int v4), (5, .int v5)] [] w6 (a0 v3 v4 v5 w6)) (fun _ _ _ _ => rv_none h) (fun ag1 ih2 v3 v4 v5 w6 => ?_) rv_FU (0 : Int32) (0 : Int32) (0 : Int32) w
  refine rv_iload h 8 dX4_best_8 5 rfl ?_
  refine rv_aload_n h 10 dX4_best_10 0 rfl ?_
  refine rv_getr h 11 dX4_best_11 rv_s54 rv_fd_X4_9 rfl ?_
  refine rv_len (v := 5) h 14 dX4_best_14 rv_s55 (by decide) (by decide +kernel) ?_
  refine rv_icmp_ge (tgt := 88) h 15 dX4_best_15 (by decide) (fun _ => ?_) (fun _ => ?_)
  rotate_left
  · refine rv_iload_n h 88 dX4_best_88 3 rfl ?_
    exact rv_reti hr 89 dX4_best_89
  refine rv_iload_n h 18 dX4_best_18 1 rfl ?_
  refine rv_iload h 19 dX4_best_19 5 rfl ?_
  refine rv_callSi h 21 dX4_best_21 (fn_X1_has hJ p1 v5  w6) ce_X1_has lk_X4_42 rfl rfl (Nat.le_of_ble_eq_true rfl) ⟨Nat.le_of_ble_eq_true rfl, Nat.le_of_ble_eq_true rfl⟩ (fun r7 w8 => ?_)
  refine rv_if_ne (tgt := 30) h 24 dX4_best_24 (by decide) (fun _ => ?_) (fun _ => ?_)
  · refine rv_goto (tgt := 82) h 27 dX4_best_27 (by decide) ?_
    refine rv_iinc h 82 (fun v21 => [(5, .int v21), (0, .ref (ad 54)), (1, .int p1), (2, .int p2), (3, .int v3), (4, .int v4)]) dX4_best_82 5 rfl rv_c1 (by decide) (fun _ => rfl) (fun v21 => ?_)
    refine rv_goto (tgt := 8) h 85 dX4_best_85 (by decide) ?_
    refine rv_sub h [1, 2, 3, 4, 5, 0] rfl ?_
    exact ih2 v3 v4 v21 w8
  refine rv_iload_n h 30 dX4_best_30 3 rfl ?_
  refine rv_join (fun (k0 : Int32 → Int32 → rv_W → rv_R) => ∀ (v9 : Int32) (v10 : Int32) (w11 : rv_W), K 61 [(0, .ref (ad 54)), (1, .int p1), (2, .int p2), (3, .int v9), (4, .int v10), (5, .int v5)] ([]) w11 (k0 v9 v10 w11)) (fun v9 v10 w11 => ?_) (fun k12 hk13 => ?_)
  · refine rv_iload_n h 61 dX4_best_61 2 rfl ?_
    refine rv_aload_n h 62 dX4_best_62 0 rfl ?_
    refine rv_getr h 63 dX4_best_63 rv_s54 rv_fd_X4_9 rfl ?_
    refine rv_iload h 66 dX4_best_66 5 rfl ?_
    refine rv_iald h 68 dX4_best_68 rv_s55 ?_
    refine rv_imul h 69 dX4_best_69 ?_
    refine rv_iload h 70 dX4_best_70 4 rfl ?_
    refine rv_icmp_ne (tgt := 82) h 72 dX4_best_72 (by decide) (fun _ => ?_) (fun _ => ?_)
    rotate_left
    · refine rv_iinc h 82 (fun v14 => [(5, .int v14), (0, .ref (ad 54)), (1, .int p1), (2, .int p2), (3, .int v9), (4, .int v10)]) dX4_best_82 5 rfl rv_c1 (by decide) (fun _ => rfl) (fun v14 => ?_)
      refine rv_goto (tgt := 8) h 85 dX4_best_85 (by decide) ?_
      refine rv_sub h [1, 2, 3, 4, 5, 0] rfl ?_
      exact ih2 v9 v10 v14 w11
    refine rv_iload_n h 75 dX4_best_75 3 rfl ?_
    refine rv_iconst h 76 dX4_best_76 rv_c1 ?_
    refine rv_iload h 77 dX4_best_77 5 rfl ?_
    refine rv_ishl h 79 dX4_best_79 ?_
    refine rv_ior h 80 dX4_best_80 ?_
    refine rv_top (fun v15 => ?_)
    refine rv_istore_n (lv' := [(3, .int v15), (0, .ref (ad 54)), (1, .int p1), (2, .int p2), (4, .int v10), (5, .int v5)]) h 81 dX4_best_81 (by decide) rfl ?_
    refine rv_iinc h 82 (fun v16 => [(5, .int v16), (3, .int v15), (0, .ref (ad 54)), (1, .int p1), (2, .int p2), (4, .int v10)]) dX4_best_82 5 rfl rv_c1 (by decide) (fun _ => rfl) (fun v16 => ?_)
    refine rv_goto (tgt := 8) h 85 dX4_best_85 (by decide) ?_
    refine rv_sub h [2, 3, 4, 1, 5, 0] rfl ?_
    exact ih2 v15 v10 v16 w11
  refine rv_join (fun (k0 : rv_W → rv_R) => ∀  (w17 : rv_W), K 48 [(0, .ref (ad 54)), (1, .int p1), (2, .int p2), (5, .int v5)] ([]) w17 (k0 w17)) (fun w17 => ?_) (fun k18 hk19 => ?_)
  · refine rv_iconst h 48 dX4_best_48 rv_c0 ?_
    refine rv_istore_n (lv' := [(3, .int (0 : Int32)), (0, .ref (ad 54)), (1, .int p1), (2, .int p2), (5, .int v5)]) h 49 dX4_best_49 (by decide) rfl ?_
    refine rv_iload_n h 50 dX4_best_50 3 rfl ?_
    refine rv_aload_n h 51 dX4_best_51 1 rfl ?_
    refine rv_getr h 52 dX4_best_52 rv_s54 rv_fd_X4_9 rfl ?_
    refine rv_iload h 55 dX4_best_55 4 rfl ?_
    refine rv_iald h 57 dX4_best_57 rv_s55 ?_
    refine rv_imul h 58 dX4_best_58 ?_
    refine rv_top (fun v20 => ?_)
    refine rv_istore (lv' := [(4, .int v20), (3, .int (0 : Int32)), (0, .ref (ad 54)), (1, .int p1), (2, .int p2), (5, .int v5)]) h 59 dX4_best_59 (by decide) rfl ?_
    refine rv_sub h [2, 3, 4, 1, 0, 5] rfl ?_
    exact hk13 (0 : Int32) v20 w17
  refine rv_if_eq (tgt := 48) h 31 dX4_best_31 (by decide) (fun _ => ?_) (fun _ => ?_)
  · refine rv_sub h [0, 1, 2, 5] rfl ?_
    exact hk19 w8
  refine rv_iload_n h 34 dX4_best_34 2 rfl ?_
  refine rv_aload_n h 35 dX4_best_35 0 rfl ?_
  refine rv_getr h 36 dX4_best_36 rv_s54 rv_fd_X4_9 rfl ?_
  refine rv_iload h 39 dX4_best_39 5 rfl ?_
  refine rv_iald h 41 dX4_best_41 rv_s55 ?_
  refine rv_imul h 42 dX4_best_42 ?_
  refine rv_iload h 43 dX4_best_43 4 rfl ?_
  refine rv_icmp_le (tgt := 61) h 45 dX4_best_45 (by decide) (fun _ => ?_) (fun _ => ?_)
  · refine rv_sub h [0, 1, 2, 5] rfl ?_
    exact hk19 w8
  refine rv_sub h [0, 1, 2, 3, 4, 5] rfl ?_
  exact hk13 v3 v4 w8
def f_X4_most (p1 : Int32) (w : rv_W) : rv_R :=
  rv_bd (f_X4_best p1 (1 : Int32) w) (fun (r1 : Int32) (w2 : rv_W) =>
  some (r1, w2))
set_option maxRecDepth 100000 in
set_option maxHeartbeats 4000000 in
theorem fn_X4_most {l : Launch} {D : va_G} {ad : Nat → Nat} {ca : Nat → ClassId} (hJ : rv_J ad) (p1 : Int32)  (w : rv_W) : rv_Fn l D ad ca yX4_most cX4_most 2 (some .int) 2 46 [.ref (ad 54), .int p1] w (f_X4_most p1 w) := by
  refine rv_mk (lv := [(0, .ref (ad 54)), (1, .int p1)]) hJ (by decide +kernel) (Nat.le_of_ble_eq_true rfl) rfl (fun K h hr => ?_)
  have h : rv_Rl D ad ca l RX4 cX4_most 2 2 46 K := h
  unfold f_X4_most
  refine rv_aload_n h 0 dX4_most_0 0 rfl ?_
  refine rv_iload_n h 1 dX4_most_1 1 rfl ?_
  refine rv_iconst h 2 dX4_most_2 rv_c1 ?_
  refine rv_callVi h 3 dX4_most_3 (fn_X4_best hJ p1 (1 : Int32)  w) ce_X4_best lk_X4_70 rv_s54 rfl rv_cf2 rfl rfl (Nat.le_of_ble_eq_true rfl) ⟨Nat.le_of_ble_eq_true rfl, Nat.le_of_ble_eq_true rfl⟩ (fun r1 w2 => ?_)
  exact rv_reti hr 6 dX4_most_6
def f_X4_fewest (p1 : Int32) (w : rv_W) : rv_R :=
  rv_bd (f_X4_best p1 (-1 : Int32) w) (fun (r1 : Int32) (w2 : rv_W) =>
  some (r1, w2))
set_option maxRecDepth 100000 in
set_option maxHeartbeats 4000000 in
theorem fn_X4_fewest {l : Launch} {D : va_G} {ad : Nat → Nat} {ca : Nat → ClassId} (hJ : rv_J ad) (p1 : Int32)  (w : rv_W) : rv_Fn l D ad ca yX4_fewest cX4_fewest 2 (some .int) 2 46 [.ref (ad 54), .int p1] w (f_X4_fewest p1 w) := by
  refine rv_mk (lv := [(0, .ref (ad 54)), (1, .int p1)]) hJ (by decide +kernel) (Nat.le_of_ble_eq_true rfl) rfl (fun K h hr => ?_)
  have h : rv_Rl D ad ca l RX4 cX4_fewest 2 2 46 K := h
  unfold f_X4_fewest
  refine rv_aload_n h 0 dX4_fewest_0 0 rfl ?_
  refine rv_iload_n h 1 dX4_fewest_1 1 rfl ?_
  refine rv_iconst h 2 dX4_fewest_2 rv_cm1 ?_
  refine rv_callVi h 3 dX4_fewest_3 (fn_X4_best hJ p1 (-1 : Int32)  w) ce_X4_best lk_X4_70 rv_s54 rfl rv_cf2 rfl rfl (Nat.le_of_ble_eq_true rfl) ⟨Nat.le_of_ble_eq_true rfl, Nat.le_of_ble_eq_true rfl⟩ (fun r1 w2 => ?_)
  exact rv_reti hr 6 dX4_fewest_6
def f_X4_belowAverage (p1 : Int32) (w : rv_W) : rv_R :=
  rv_fx (fun _ _ _ => none) (fun (ag1 : Int32 → Int32 → rv_W → rv_R) (v3 : Int32) (v4 : Int32) (w5 : rv_W) =>
  if v4 < (5 : Int32) then
  rv_bd (f_X1_has p1 v4 w5) (fun (r19 : Int32) (w20 : rv_W) =>
  if r19 = 0 then
  rv_lt ((v3 + (0 : Int32))) (fun (v21 : Int32) =>
  rv_lt (v4 + (1 : Int32)) (fun (v22 : Int32) =>
  ag1 v21 v22 w20))
  else
  rv_ck v4 5 (
  rv_lt ((v3 + (w20 55 v4.toNatClampNeg))) (fun (v23 : Int32) =>
  rv_lt (v4 + (1 : Int32)) (fun (v24 : Int32) =>
  ag1 v23 v24 w20))))
  else
  rv_bd (f_J6_bitCount_0f7a4 p1 w5) (fun (r6 : Int32) (w7 : rv_W) =>
  rv_fx (fun _ _ _ => none) (fun (ag8 : Int32 → Int32 → rv_W → rv_R) (v10 : Int32) (v11 : Int32) (w12 : rv_W) =>
  if v11 < (5 : Int32) then
  rv_bd (f_X1_has p1 v11 w12) (fun (r13 : Int32) (w14 : rv_W) =>
  if r13 = 0 then
  rv_lt (v11 + (1 : Int32)) (fun (v15 : Int32) =>
  ag8 v10 v15 w14)
  else
  rv_ck v11 5 (
  if ((w14 55 v11.toNatClampNeg) * r6) < v3 then
  rv_lt ((v10 ||| ((1 : Int32) <<< (v11 &&& 31)))) (fun (v17 : Int32) =>
  rv_lt (v11 + (1 : Int32)) (fun (v18 : Int32) =>
  ag8 v17 v18 w14))
  else
  rv_lt (v11 + (1 : Int32)) (fun (v16 : Int32) =>
  ag8 v10 v16 w14)))
  else
  some (v10, w12)) rv_FU (0 : Int32) (0 : Int32) w7)) rv_FU (0 : Int32) (0 : Int32) w
set_option maxRecDepth 100000 in
set_option maxHeartbeats 4000000 in
theorem fn_X4_belowAverage {l : Launch} {D : va_G} {ad : Nat → Nat} {ca : Nat → ClassId} (hJ : rv_J ad) (p1 : Int32)  (w : rv_W) : rv_Fn l D ad ca yX4_belowAverage cX4_belowAverage 6 (some .int) 1 21 [.ref (ad 54), .int p1] w (f_X4_belowAverage p1 w) := by
  refine rv_mk (lv := [(0, .ref (ad 54)), (1, .int p1)]) hJ (by decide +kernel) (Nat.le_of_ble_eq_true rfl) rfl (fun K h hr => ?_)
  have h : rv_Rl D ad ca l RX4 cX4_belowAverage 6 1 21 K := h
  unfold f_X4_belowAverage
  refine rv_iconst h 0 dX4_belowAverage_0 rv_c0 ?_
  refine rv_istore_n (lv' := [(2, .int (0 : Int32)), (0, .ref (ad 54)), (1, .int p1)]) h 1 dX4_belowAverage_1 (by decide) rfl ?_
  refine rv_iconst h 2 dX4_belowAverage_2 rv_c0 ?_
  refine rv_istore_n (lv' := [(3, .int (0 : Int32)), (2, .int (0 : Int32)), (0, .ref (ad 54)), (1, .int p1)]) h 3 dX4_belowAverage_3 (by decide) rfl ?_
  refine rv_sub h [2, 3, 1, 0] rfl ?_
  refine rv_fx_ind (fun (a0 : Int32 → Int32 → rv_W → rv_R) => ∀ (v3 : Int32) (v4 : Int32) (w5 : rv_W), K 4 [(0, .ref (ad 54)), (1, .int p1), (2, .int v3), (3, .int v4)] [] w5 (a0 v3 v4 w5)) (fun _ _ _ => rv_none h) (fun ag1 ih2 v3 v4 w5 => ?_) rv_FU (0 : Int32) (0 : Int32) w
  refine rv_iload_n h 4 dX4_belowAverage_4 3 rfl ?_
  refine rv_aload_n h 5 dX4_belowAverage_5 0 rfl ?_
  refine rv_getr h 6 dX4_belowAverage_6 rv_s54 rv_fd_X4_9 rfl ?_
  refine rv_len (v := 5) h 9 dX4_belowAverage_9 rv_s55 (by decide) (by decide +kernel) ?_
  refine rv_icmp_ge (tgt := 40) h 10 dX4_belowAverage_10 (by decide) (fun _ => ?_) (fun _ => ?_)
  · refine rv_iload_n h 13 dX4_belowAverage_13 2 rfl ?_
    refine rv_iload_n h 14 dX4_belowAverage_14 1 rfl ?_
    refine rv_iload_n h 15 dX4_belowAverage_15 3 rfl ?_
    refine rv_callSi h 16 dX4_belowAverage_16 (fn_X1_has hJ p1 v4  w5) ce_X1_has lk_X4_42 rfl rfl (Nat.le_of_ble_eq_true rfl) ⟨Nat.le_of_ble_eq_true rfl, Nat.le_of_ble_eq_true rfl⟩ (fun r19 w20 => ?_)
    refine rv_if_eq (tgt := 31) h 19 dX4_belowAverage_19 (by decide) (fun _ => ?_) (fun _ => ?_)
    · refine rv_iconst h 31 dX4_belowAverage_31 rv_c0 ?_
      refine rv_iadd h 32 dX4_belowAverage_32 ?_
      refine rv_top (fun v21 => ?_)
      refine rv_istore_n (lv' := [(2, .int v21), (0, .ref (ad 54)), (1, .int p1), (3, .int v4)]) h 33 dX4_belowAverage_33 (by decide) rfl ?_
      refine rv_iinc h 34 (fun v22 => [(3, .int v22), (2, .int v21), (0, .ref (ad 54)), (1, .int p1)]) dX4_belowAverage_34 3 rfl rv_c1 (by decide) (fun _ => rfl) (fun v22 => ?_)
      refine rv_goto (tgt := 4) h 37 dX4_belowAverage_37 (by decide) ?_
      refine rv_sub h [2, 3, 1, 0] rfl ?_
      exact ih2 v21 v22 w20
    refine rv_aload_n h 22 dX4_belowAverage_22 0 rfl ?_
    refine rv_getr h 23 dX4_belowAverage_23 rv_s54 rv_fd_X4_9 rfl ?_
    refine rv_iload_n h 26 dX4_belowAverage_26 3 rfl ?_
    refine rv_iald h 27 dX4_belowAverage_27 rv_s55 ?_
    refine rv_goto (tgt := 32) h 28 dX4_belowAverage_28 (by decide) ?_
    refine rv_iadd h 32 dX4_belowAverage_32 ?_
    refine rv_top (fun v23 => ?_)
    refine rv_istore_n (lv' := [(2, .int v23), (0, .ref (ad 54)), (1, .int p1), (3, .int v4)]) h 33 dX4_belowAverage_33 (by decide) rfl ?_
    refine rv_iinc h 34 (fun v24 => [(3, .int v24), (2, .int v23), (0, .ref (ad 54)), (1, .int p1)]) dX4_belowAverage_34 3 rfl rv_c1 (by decide) (fun _ => rfl) (fun v24 => ?_)
    refine rv_goto (tgt := 4) h 37 dX4_belowAverage_37 (by decide) ?_
    refine rv_sub h [2, 3, 1, 0] rfl ?_
    exact ih2 v23 v24 w20
  refine rv_iload_n h 40 dX4_belowAverage_40 1 rfl ?_
  refine rv_callSi h 41 dX4_belowAverage_41 (fn_J6_bitCount_0f7a4 hJ p1  w5) ce_J6_bitCount_0f7a4 lk_X4_61 rfl rfl (Nat.le_of_ble_eq_true rfl) ⟨Nat.le_of_ble_eq_true rfl, Nat.le_of_ble_eq_true rfl⟩ (fun r6 w7 => ?_)
  refine rv_istore_n (lv' := [(3, .int r6), (0, .ref (ad 54)), (1, .int p1), (2, .int v3)]) h 44 dX4_belowAverage_44 (by decide) rfl ?_
  refine rv_iconst h 45 dX4_belowAverage_45 rv_c0 ?_
  refine rv_istore (lv' := [(4, .int (0 : Int32)), (3, .int r6), (0, .ref (ad 54)), (1, .int p1), (2, .int v3)]) h 46 dX4_belowAverage_46 (by decide) rfl ?_
  refine rv_iconst h 48 dX4_belowAverage_48 rv_c0 ?_
  refine rv_istore (lv' := [(5, .int (0 : Int32)), (4, .int (0 : Int32)), (3, .int r6), (0, .ref (ad 54)), (1, .int p1), (2, .int v3)]) h 49 dX4_belowAverage_49 (by decide) rfl ?_
  refine rv_sub h [3, 4, 5, 2, 1, 0] rfl ?_
  refine rv_fx_ind (fun (a0 : Int32 → Int32 → rv_W → rv_R) => ∀ (v10 : Int32) (v11 : Int32) (w12 : rv_W), K 51 [(0, .ref (ad 54)), (1, .int p1), (2, .int v3), (3, .int r6), (4, .int v10), (5, .int v11)] [] w12 (a0 v10 v11 w12)) (fun _ _ _ => rv_none h) (fun ag8 ih9 v10 v11 w12 => ?_) rv_FU (0 : Int32) (0 : Int32) w7
  refine rv_iload h 51 dX4_belowAverage_51 5 rfl ?_
  refine rv_aload_n h 53 dX4_belowAverage_53 0 rfl ?_
  refine rv_getr h 54 dX4_belowAverage_54 rv_s54 rv_fd_X4_9 rfl ?_
  refine rv_len (v := 5) h 57 dX4_belowAverage_57 rv_s55 (by decide) (by decide +kernel) ?_
  refine rv_icmp_ge (tgt := 98) h 58 dX4_belowAverage_58 (by decide) (fun _ => ?_) (fun _ => ?_)
  rotate_left
  · refine rv_iload h 98 dX4_belowAverage_98 4 rfl ?_
    exact rv_reti hr 100 dX4_belowAverage_100
  refine rv_iload_n h 61 dX4_belowAverage_61 1 rfl ?_
  refine rv_iload h 62 dX4_belowAverage_62 5 rfl ?_
  refine rv_callSi h 64 dX4_belowAverage_64 (fn_X1_has hJ p1 v11  w12) ce_X1_has lk_X4_42 rfl rfl (Nat.le_of_ble_eq_true rfl) ⟨Nat.le_of_ble_eq_true rfl, Nat.le_of_ble_eq_true rfl⟩ (fun r13 w14 => ?_)
  refine rv_if_eq (tgt := 92) h 67 dX4_belowAverage_67 (by decide) (fun _ => ?_) (fun _ => ?_)
  · refine rv_iinc h 92 (fun v15 => [(5, .int v15), (0, .ref (ad 54)), (1, .int p1), (2, .int v3), (3, .int r6), (4, .int v10)]) dX4_belowAverage_92 5 rfl rv_c1 (by decide) (fun _ => rfl) (fun v15 => ?_)
    refine rv_goto (tgt := 51) h 95 dX4_belowAverage_95 (by decide) ?_
    refine rv_sub h [1, 2, 3, 4, 5, 0] rfl ?_
    exact ih9 v10 v15 w14
  refine rv_aload_n h 70 dX4_belowAverage_70 0 rfl ?_
  refine rv_getr h 71 dX4_belowAverage_71 rv_s54 rv_fd_X4_9 rfl ?_
  refine rv_iload h 74 dX4_belowAverage_74 5 rfl ?_
  refine rv_iald h 76 dX4_belowAverage_76 rv_s55 ?_
  refine rv_iload_n h 77 dX4_belowAverage_77 3 rfl ?_
  refine rv_imul h 78 dX4_belowAverage_78 ?_
  refine rv_iload_n h 79 dX4_belowAverage_79 2 rfl ?_
  refine rv_icmp_ge (tgt := 92) h 80 dX4_belowAverage_80 (by decide) (fun _ => ?_) (fun _ => ?_)
  rotate_left
  · refine rv_iinc h 92 (fun v16 => [(5, .int v16), (0, .ref (ad 54)), (1, .int p1), (2, .int v3), (3, .int r6), (4, .int v10)]) dX4_belowAverage_92 5 rfl rv_c1 (by decide) (fun _ => rfl) (fun v16 => ?_)
    refine rv_goto (tgt := 51) h 95 dX4_belowAverage_95 (by decide) ?_
    refine rv_sub h [1, 2, 3, 4, 5, 0] rfl ?_
    exact ih9 v10 v16 w14
  refine rv_iload h 83 dX4_belowAverage_83 4 rfl ?_
  refine rv_iconst h 85 dX4_belowAverage_85 rv_c1 ?_
  refine rv_iload h 86 dX4_belowAverage_86 5 rfl ?_
  refine rv_ishl h 88 dX4_belowAverage_88 ?_
  refine rv_ior h 89 dX4_belowAverage_89 ?_
  refine rv_top (fun v17 => ?_)
  refine rv_istore (lv' := [(4, .int v17), (0, .ref (ad 54)), (1, .int p1), (2, .int v3), (3, .int r6), (5, .int v11)]) h 90 dX4_belowAverage_90 (by decide) rfl ?_
  refine rv_iinc h 92 (fun v18 => [(5, .int v18), (4, .int v17), (0, .ref (ad 54)), (1, .int p1), (2, .int v3), (3, .int r6)]) dX4_belowAverage_92 5 rfl rv_c1 (by decide) (fun _ => rfl) (fun v18 => ?_)
  refine rv_goto (tgt := 51) h 95 dX4_belowAverage_95 (by decide) ?_
  refine rv_sub h [2, 3, 4, 5, 1, 0] rfl ?_
  exact ih9 v17 v18 w14
def f_X4_nanson  (w : rv_W) : rv_R :=
  rv_fx (fun _ _ _ => none) (fun (ag1 : Int32 → Int32 → rv_W → rv_R) (v3 : Int32) (v4 : Int32) (w5 : rv_W) =>
  if v4 < (5 : Int32) then
  rv_bd (f_X4_borda v3 w5) (fun (r6 : Int32) (w7 : rv_W) =>
  rv_bd (f_X4_belowAverage v3 w7) (fun (r8 : Int32) (w9 : rv_W) =>
  if r8 = 0 then
  some (v3, w9)
  else
  rv_lt ((v3 &&& (r8 ^^^ (-1 : Int32)))) (fun (v10 : Int32) =>
  rv_lt (v4 + (1 : Int32)) (fun (v11 : Int32) =>
  ag1 v10 v11 w9))))
  else
  some (v3, w5)) rv_FU (w 24 0) (0 : Int32) w
set_option maxRecDepth 100000 in
set_option maxHeartbeats 4000000 in
theorem fn_X4_nanson {l : Launch} {D : va_G} {ad : Nat → Nat} {ca : Nat → ClassId} (hJ : rv_J ad)   (w : rv_W) : rv_Fn l D ad ca yX4_nanson cX4_nanson 5 (some .int) 2 46 [.ref (ad 54), .ref (ad 24)] w (f_X4_nanson  w) := by
  refine rv_mk (lv := [(0, .ref (ad 54)), (1, .ref (ad 24))]) hJ (by decide +kernel) (Nat.le_of_ble_eq_true rfl) rfl (fun K h hr => ?_)
  have h : rv_Rl D ad ca l RX4 cX4_nanson 5 2 46 K := h
  unfold f_X4_nanson
  refine rv_aload_n h 0 dX4_nanson_0 1 rfl ?_
  refine rv_geti h 1 dX4_nanson_1 rv_s24 rv_fd_X4_18 rfl ?_
  refine rv_istore_n (lv' := [(2, .int (w 24 0)), (0, .ref (ad 54)), (1, .ref (ad 24))]) h 4 dX4_nanson_4 (by decide) rfl ?_
  refine rv_iconst h 5 dX4_nanson_5 rv_c0 ?_
  refine rv_istore_n (lv' := [(3, .int (0 : Int32)), (2, .int (w 24 0)), (0, .ref (ad 54)), (1, .ref (ad 24))]) h 6 dX4_nanson_6 (by decide) rfl ?_
  refine rv_sub h [2, 3, 1, 0] rfl ?_
  refine rv_fx_ind (fun (a0 : Int32 → Int32 → rv_W → rv_R) => ∀ (v3 : Int32) (v4 : Int32) (w5 : rv_W), K 7 [(0, .ref (ad 54)), (1, .ref (ad 24)), (2, .int v3), (3, .int v4)] [] w5 (a0 v3 v4 w5)) (fun _ _ _ => rv_none h) (fun ag1 ih2 v3 v4 w5 => ?_) rv_FU (w 24 0) (0 : Int32) w
  refine rv_iload_n h 7 dX4_nanson_7 3 rfl ?_
  refine rv_iconst h 8 dX4_nanson_8 rv_c5 ?_
  refine rv_icmp_ge (tgt := 45) h 9 dX4_nanson_9 (by decide) (fun _ => ?_) (fun _ => ?_)
  rotate_left
  · refine rv_iload_n h 45 dX4_nanson_45 2 rfl ?_
    exact rv_reti hr 46 dX4_nanson_46
  refine rv_aload_n h 12 dX4_nanson_12 0 rfl ?_
  refine rv_aload_n h 13 dX4_nanson_13 1 rfl ?_
  refine rv_iload_n h 14 dX4_nanson_14 2 rfl ?_
  refine rv_callVv h 15 dX4_nanson_15 (fn_X4_borda hJ v3  w5) ce_X4_borda lk_X4_28 rv_s54 rfl rv_cf2 rfl rfl (Nat.le_of_ble_eq_true rfl) ⟨Nat.le_of_ble_eq_true rfl, Nat.le_of_ble_eq_true rfl⟩ (fun r6 w7 => ?_)
  refine rv_aload_n h 18 dX4_nanson_18 0 rfl ?_
  refine rv_iload_n h 19 dX4_nanson_19 2 rfl ?_
  refine rv_callVi h 20 dX4_nanson_20 (fn_X4_belowAverage hJ v3  w7) ce_X4_belowAverage lk_X4_73 rv_s54 rfl rv_cf2 rfl rfl (Nat.le_of_ble_eq_true rfl) ⟨Nat.le_of_ble_eq_true rfl, Nat.le_of_ble_eq_true rfl⟩ (fun r8 w9 => ?_)
  refine rv_istore (lv' := [(4, .int r8), (0, .ref (ad 54)), (1, .ref (ad 24)), (2, .int v3), (3, .int v4)]) h 23 dX4_nanson_23 (by decide) rfl ?_
  refine rv_iload h 25 dX4_nanson_25 0 rfl ?_
  refine rv_if_ne (tgt := 32) h 27 dX4_nanson_27 (by decide) (fun _ => ?_) (fun _ => ?_)
  · refine rv_iload_n h 30 dX4_nanson_30 3 rfl ?_
    exact rv_reti hr 31 dX4_nanson_31
  refine rv_iload_n h 32 dX4_nanson_32 3 rfl ?_
  refine rv_iload h 33 dX4_nanson_33 0 rfl ?_
  refine rv_iconst h 35 dX4_nanson_35 rv_cm1 ?_
  refine rv_ixor h 36 dX4_nanson_36 ?_
  refine rv_iand h 37 dX4_nanson_37 ?_
  refine rv_top (fun v10 => ?_)
  refine rv_istore_n (lv' := [(2, .int v10), (4, .int r8), (0, .ref (ad 54)), (1, .ref (ad 24)), (3, .int v4)]) h 38 dX4_nanson_38 (by decide) rfl ?_
  refine rv_iinc h 39 (fun v11 => [(3, .int v11), (2, .int v10), (4, .int r8), (0, .ref (ad 54)), (1, .ref (ad 24))]) dX4_nanson_39 4 rfl rv_c1 (by decide) (fun _ => rfl) (fun v11 => ?_)
  refine rv_goto (tgt := 7) h 42 dX4_nanson_42 (by decide) ?_
  refine rv_sub h [3, 4, 1, 0] rfl ?_
  exact ih2 v10 v11 w9
def f_X5_open (p1 : Int32) (w : rv_W) : rv_R :=
  rv_lt (rv_up w 24 0 p1) (fun (w1 : rv_W) =>
  rv_lt (rv_up w1 24 1 (0 : Int32)) (fun (w2 : rv_W) =>
  rv_fx (fun _ _ => none) (fun (ag3 : Int32 → rv_W → rv_R) (v5 : Int32) (w6 : rv_W) =>
  if v5 < (20 : Int32) then
  rv_ck v5 20 (rv_lt (rv_up w6 31 v5.toNatClampNeg (0 : Int32)) (fun (w19 : rv_W) =>
  rv_lt (v5 + (1 : Int32)) (fun (v20 : Int32) =>
  ag3 v20 w19)))
  else
  rv_fx (fun _ _ => none) (fun (ag7 : Int32 → rv_W → rv_R) (v9 : Int32) (w10 : rv_W) =>
  if v9 < (5 : Int32) then
  rv_fx (fun _ _ => none) (fun (ag11 : Int32 → rv_W → rv_R) (v13 : Int32) (w14 : rv_W) =>
  if v13 < (5 : Int32) then
  rv_ck v9 5 (
  rv_ck v13 5 (rv_lt (rv_up w14 (26 + v9.toNatClampNeg) v13.toNatClampNeg (0 : Int32)) (fun (w17 : rv_W) =>
  rv_lt (v13 + (1 : Int32)) (fun (v18 : Int32) =>
  ag11 v18 w17))))
  else
  rv_lt (v9 + (1 : Int32)) (fun (v15 : Int32) =>
  ag7 v15 w14)) rv_FU (0 : Int32) w10
  else
  some (0, w10)) rv_FU (0 : Int32) w6) rv_FU (0 : Int32) w2))
set_option maxRecDepth 100000 in
set_option maxHeartbeats 4000000 in
theorem fn_X5_open {l : Launch} {D : va_G} {ad : Nat → Nat} {ca : Nat → ClassId} (hJ : rv_J ad) (p1 : Int32)  (w : rv_W) : rv_Fn l D ad ca yX5_open cX5_open 4 none 0 0 [.ref (ad 24), .int p1] w (f_X5_open p1 w) := by
  refine rv_mk (lv := [(0, .ref (ad 24)), (1, .int p1)]) hJ (by decide +kernel) (Nat.le_of_ble_eq_true rfl) rfl (fun K h hr => ?_)
  have h : rv_Rl D ad ca l RX5 cX5_open 4 0 0 K := h
  unfold f_X5_open
  refine rv_aload_n h 0 dX5_open_0 0 rfl ?_
  refine rv_iload_n h 1 dX5_open_1 1 rfl ?_
  refine rv_puti h 2 dX5_open_2 rv_s24 rv_fd_X5_23 rfl ⟨rfl, rfl⟩ (fun w1 => ?_)
  refine rv_aload_n h 5 dX5_open_5 0 rfl ?_
  refine rv_iconst h 6 dX5_open_6 rv_c0 ?_
  refine rv_puti h 7 dX5_open_7 rv_s24 rv_fd_X5_27 rfl ⟨rfl, rfl⟩ (fun w2 => ?_)
  refine rv_iconst h 10 dX5_open_10 rv_c0 ?_
  refine rv_istore_n (lv' := [(2, .int (0 : Int32)), (0, .ref (ad 24)), (1, .int p1)]) h 11 dX5_open_11 (by decide) rfl ?_
  refine rv_sub h [1, 0] rfl ?_
  refine rv_fx_ind (fun (a0 : Int32 → rv_W → rv_R) => ∀ (v5 : Int32) (w6 : rv_W), K 12 [(0, .ref (ad 24)), (2, .int v5)] [] w6 (a0 v5 w6)) (fun _ _ => rv_none h) (fun ag3 ih4 v5 w6 => ?_) rv_FU (0 : Int32) w2
  refine rv_iload_n h 12 dX5_open_12 1 rfl ?_
  refine rv_bipush (v := 20) h 13 dX5_open_13 (by decide +kernel) ?_
  refine rv_icmp_ge (tgt := 31) h 15 dX5_open_15 (by decide) (fun _ => ?_) (fun _ => ?_)
  · refine rv_aload_n h 18 dX5_open_18 0 rfl ?_
    refine rv_getr h 19 dX5_open_19 rv_s24 rv_fd_X5_16 rfl ?_
    refine rv_iload_n h 22 dX5_open_22 1 rfl ?_
    refine rv_iconst h 23 dX5_open_23 rv_c0 ?_
    refine rv_iast h 24 dX5_open_24 rv_s31 (fun w19 => ?_)
    refine rv_iinc h 25 (fun v20 => [(2, .int v20), (0, .ref (ad 24))]) dX5_open_25 1 rfl rv_c1 (by decide) (fun _ => rfl) (fun v20 => ?_)
    refine rv_goto (tgt := 12) h 28 dX5_open_28 (by decide) ?_
    refine rv_sub h [1, 0] rfl ?_
    exact ih4 v20 w19
  refine rv_iconst h 31 dX5_open_31 rv_c0 ?_
  refine rv_istore_n (lv' := [(2, .int (0 : Int32)), (0, .ref (ad 24))]) h 32 dX5_open_32 (by decide) rfl ?_
  refine rv_sub h [1, 0] rfl ?_
  refine rv_fx_ind (fun (a0 : Int32 → rv_W → rv_R) => ∀ (v9 : Int32) (w10 : rv_W), K 33 [(0, .ref (ad 24)), (2, .int v9)] [] w10 (a0 v9 w10)) (fun _ _ => rv_none h) (fun ag7 ih8 v9 w10 => ?_) rv_FU (0 : Int32) w6
  refine rv_iload_n h 33 dX5_open_33 1 rfl ?_
  refine rv_iconst h 34 dX5_open_34 rv_c5 ?_
  refine rv_icmp_ge (tgt := 66) h 35 dX5_open_35 (by decide) (fun _ => ?_) (fun _ => ?_)
  rotate_left
  · exact rv_retv hr 66 dX5_open_66
  refine rv_iconst h 38 dX5_open_38 rv_c0 ?_
  refine rv_istore_n (lv' := [(3, .int (0 : Int32)), (0, .ref (ad 24)), (2, .int v9)]) h 39 dX5_open_39 (by decide) rfl ?_
  refine rv_sub h [1, 2, 0] rfl ?_
  refine rv_fx_ind (fun (a0 : Int32 → rv_W → rv_R) => ∀ (v13 : Int32) (w14 : rv_W), K 40 [(0, .ref (ad 24)), (2, .int v9), (3, .int v13)] [] w14 (a0 v13 w14)) (fun _ _ => rv_none h) (fun ag11 ih12 v13 w14 => ?_) rv_FU (0 : Int32) w10
  refine rv_iload_n h 40 dX5_open_40 2 rfl ?_
  refine rv_iconst h 41 dX5_open_41 rv_c5 ?_
  refine rv_icmp_ge (tgt := 60) h 42 dX5_open_42 (by decide) (fun _ => ?_) (fun _ => ?_)
  rotate_left
  · refine rv_iinc h 60 (fun v15 => [(2, .int v15), (0, .ref (ad 24)), (3, .int v13)]) dX5_open_60 1 rfl rv_c1 (by decide) (fun _ => rfl) (fun v15 => ?_)
    refine rv_goto (tgt := 33) h 63 dX5_open_63 (by decide) ?_
    refine rv_sub h [1, 0] rfl ?_
    exact ih8 v15 w14
  refine rv_aload_n h 45 dX5_open_45 0 rfl ?_
  refine rv_getr h 46 dX5_open_46 rv_s24 rv_fd_X5_11 rfl ?_
  refine rv_iload_n h 49 dX5_open_49 1 rfl ?_
  refine rv_aald h 50 dX5_open_50 rv_s25 (fun hi16 => ?_)
  refine rv_iload_n h 51 dX5_open_51 2 rfl ?_
  refine rv_iconst h 52 dX5_open_52 rv_c0 ?_
  refine rv_iast h 53 dX5_open_53 (rv_row26 hi16) (fun w17 => ?_)
  refine rv_iinc h 54 (fun v18 => [(3, .int v18), (0, .ref (ad 24)), (2, .int v9)]) dX5_open_54 2 rfl rv_c1 (by decide) (fun _ => rfl) (fun v18 => ?_)
  refine rv_goto (tgt := 40) h 57 dX5_open_57 (by decide) ?_
  refine rv_sub h [1, 2, 0] rfl ?_
  exact ih12 v18 w17
def f_X5_votersOf (p1 : Int32) (w : rv_W) : rv_R :=
  if p1 < 0 then
  some ((0 : Int32), w)
  else
  if p1 < (20 : Int32) then
  rv_ck p1 20 (
  some ((w 31 p1.toNatClampNeg), w))
  else
  some ((0 : Int32), w)
set_option maxRecDepth 100000 in
set_option maxHeartbeats 4000000 in
theorem fn_X5_votersOf {l : Launch} {D : va_G} {ad : Nat → Nat} {ca : Nat → ClassId} (hJ : rv_J ad) (p1 : Int32)  (w : rv_W) : rv_Fn l D ad ca yX5_votersOf cX5_votersOf 2 (some .int) 0 0 [.ref (ad 24), .int p1] w (f_X5_votersOf p1 w) := by
  refine rv_mk (lv := [(0, .ref (ad 24)), (1, .int p1)]) hJ (by decide +kernel) (Nat.le_of_ble_eq_true rfl) rfl (fun K h hr => ?_)
  have h : rv_Rl D ad ca l RX5 cX5_votersOf 2 0 0 K := h
  unfold f_X5_votersOf
  refine rv_iload_n h 0 dX5_votersOf_0 1 rfl ?_
  refine rv_if_lt (tgt := 22) h 1 dX5_votersOf_1 (by decide) (fun _ => ?_) (fun _ => ?_)
  · refine rv_iconst h 22 dX5_votersOf_22 rv_c0 ?_
    exact rv_reti hr 23 dX5_votersOf_23
  refine rv_iload_n h 4 dX5_votersOf_4 1 rfl ?_
  refine rv_aload_n h 5 dX5_votersOf_5 0 rfl ?_
  refine rv_getr h 6 dX5_votersOf_6 rv_s24 rv_fd_X5_16 rfl ?_
  refine rv_len (v := 20) h 9 dX5_votersOf_9 rv_s31 (by decide) (by decide +kernel) ?_
  refine rv_icmp_ge (tgt := 22) h 10 dX5_votersOf_10 (by decide) (fun _ => ?_) (fun _ => ?_)
  rotate_left
  · refine rv_iconst h 22 dX5_votersOf_22 rv_c0 ?_
    exact rv_reti hr 23 dX5_votersOf_23
  refine rv_aload_n h 13 dX5_votersOf_13 0 rfl ?_
  refine rv_getr h 14 dX5_votersOf_14 rv_s24 rv_fd_X5_16 rfl ?_
  refine rv_iload_n h 17 dX5_votersOf_17 1 rfl ?_
  refine rv_iald h 18 dX5_votersOf_18 rv_s31 ?_
  refine rv_goto (tgt := 23) h 19 dX5_votersOf_19 (by decide) ?_
  exact rv_reti hr 23 dX5_votersOf_23
def f_X5_compare (a1 : Nat) (p2 : Int32) (w : rv_W) : rv_R :=
  rv_lt (rv_up w 24 1 ((w 24 1) + p2)) (fun (w1 : rv_W) =>
  rv_fx (fun _ _ _ => none) (fun (ag2 : Int32 → Int32 → rv_W → rv_R) (v4 : Int32) (v5 : Int32) (w6 : rv_W) =>
  if v5 < (5 : Int32) then
  if p2 = 0 then
  some (0, w6)
  else
  rv_ck v5 5 (
  if (w6 a1 v5.toNatClampNeg) < 0 then
  some (0, w6)
  else
  if (w6 a1 v5.toNatClampNeg) < (5 : Int32) then
  rv_bd (f_X1_without v4 (w6 a1 v5.toNatClampNeg) w6) (fun (r7 : Int32) (w8 : rv_W) =>
  rv_fx (fun _ _ => none) (fun (ag9 : Int32 → rv_W → rv_R) (v11 : Int32) (w12 : rv_W) =>
  if v11 < (5 : Int32) then
  rv_bd (f_X1_has r7 v11 w12) (fun (r14 : Int32) (w15 : rv_W) =>
  if r14 = 0 then
  rv_lt (v11 + (1 : Int32)) (fun (v16 : Int32) =>
  ag9 v16 w15)
  else
  rv_ck (w6 a1 v5.toNatClampNeg) 5 (
  rv_ck v11 5 (
  rv_ck v11 5 (rv_lt (rv_up w15 (26 + (w6 a1 v5.toNatClampNeg).toNatClampNeg) v11.toNatClampNeg ((w15 (26 + (w6 a1 v5.toNatClampNeg).toNatClampNeg) v11.toNatClampNeg) + p2)) (fun (w18 : rv_W) =>
  rv_lt (v11 + (1 : Int32)) (fun (v19 : Int32) =>
  ag9 v19 w18))))))
  else
  rv_lt (v5 + (1 : Int32)) (fun (v13 : Int32) =>
  ag2 r7 v13 w12)) rv_FU (0 : Int32) w8)
  else
  some (0, w6))
  else
  some (0, w6)) rv_FU (w1 24 0) (0 : Int32) w1)
set_option maxRecDepth 100000 in
set_option maxHeartbeats 4000000 in
theorem fn_X5_compare {l : Launch} {D : va_G} {ad : Nat → Nat} {ca : Nat → ClassId} (hJ : rv_J ad) (a1 : Nat) (p2 : Int32) (ha1 : rv_sh a1 = .inr (0, 5, 0)) (w : rv_W) : rv_Fn l D ad ca yX5_compare cX5_compare 7 none 1 21 [.ref (ad 24), .ref (ad a1), .int p2] w (f_X5_compare a1 p2 w) := by
  refine rv_mk (lv := [(0, .ref (ad 24)), (1, .ref (ad a1)), (2, .int p2)]) hJ (by decide +kernel) (Nat.le_of_ble_eq_true rfl) rfl (fun K h hr => ?_)
  have h : rv_Rl D ad ca l RX5 cX5_compare 7 1 21 K := h
  unfold f_X5_compare
  refine rv_aload_n h 0 dX5_compare_0 0 rfl ?_
  refine rv_dup h 1 dX5_compare_1 rfl ?_
  refine rv_geti h 2 dX5_compare_2 rv_s24 rv_fd_X5_27 rfl ?_
  refine rv_iload_n h 5 dX5_compare_5 2 rfl ?_
  refine rv_iadd h 6 dX5_compare_6 ?_
  refine rv_puti h 7 dX5_compare_7 rv_s24 rv_fd_X5_27 rfl ⟨rfl, rfl⟩ (fun w1 => ?_)
  refine rv_aload_n h 10 dX5_compare_10 0 rfl ?_
  refine rv_geti h 11 dX5_compare_11 rv_s24 rv_fd_X5_23 rfl ?_
  refine rv_istore_n (lv' := [(3, .int (w1 24 0)), (0, .ref (ad 24)), (1, .ref (ad a1)), (2, .int p2)]) h 14 dX5_compare_14 (by decide) rfl ?_
  refine rv_iconst h 15 dX5_compare_15 rv_c0 ?_
  refine rv_istore (lv' := [(4, .int (0 : Int32)), (3, .int (w1 24 0)), (0, .ref (ad 24)), (1, .ref (ad a1)), (2, .int p2)]) h 16 dX5_compare_16 (by decide) rfl ?_
  refine rv_sub h [2, 3, 4, 1, 0] rfl ?_
  refine rv_fx_ind (fun (a0 : Int32 → Int32 → rv_W → rv_R) => ∀ (v4 : Int32) (v5 : Int32) (w6 : rv_W), K 18 [(0, .ref (ad 24)), (1, .ref (ad a1)), (2, .int p2), (3, .int v4), (4, .int v5)] [] w6 (a0 v4 v5 w6)) (fun _ _ _ => rv_none h) (fun ag2 ih3 v4 v5 w6 => ?_) rv_FU (w1 24 0) (0 : Int32) w1
  refine rv_iload h 18 dX5_compare_18 4 rfl ?_
  refine rv_aload_n h 20 dX5_compare_20 1 rfl ?_
  refine rv_len (v := 5) h 21 dX5_compare_21 ha1 (by decide) (by decide +kernel) ?_
  refine rv_icmp_ge (tgt := 98) h 22 dX5_compare_22 (by decide) (fun _ => ?_) (fun _ => ?_)
  rotate_left
  · exact rv_retv hr 98 dX5_compare_98
  refine rv_iload_n h 25 dX5_compare_25 2 rfl ?_
  refine rv_if_eq (tgt := 98) h 26 dX5_compare_26 (by decide) (fun _ => ?_) (fun _ => ?_)
  · exact rv_retv hr 98 dX5_compare_98
  refine rv_aload_n h 29 dX5_compare_29 1 rfl ?_
  refine rv_iload h 30 dX5_compare_30 4 rfl ?_
  refine rv_iald h 32 dX5_compare_32 ha1 ?_
  refine rv_istore (lv' := [(5, .int (w6 a1 v5.toNatClampNeg)), (0, .ref (ad 24)), (1, .ref (ad a1)), (2, .int p2), (3, .int v4), (4, .int v5)]) h 33 dX5_compare_33 (by decide) rfl ?_
  refine rv_iload h 35 dX5_compare_35 0 rfl ?_
  refine rv_if_lt (tgt := 46) h 37 dX5_compare_37 (by decide) (fun _ => ?_) (fun _ => ?_)
  · exact rv_retv hr 46 dX5_compare_46
  refine rv_iload h 40 dX5_compare_40 0 rfl ?_
  refine rv_iconst h 42 dX5_compare_42 rv_c5 ?_
  refine rv_icmp_lt (tgt := 47) h 43 dX5_compare_43 (by decide) (fun _ => ?_) (fun _ => ?_)
  rotate_left
  · exact rv_retv hr 46 dX5_compare_46
  refine rv_iload_n h 47 dX5_compare_47 4 rfl ?_
  refine rv_iload h 48 dX5_compare_48 0 rfl ?_
  refine rv_callSi h 50 dX5_compare_50 (fn_X1_without hJ v4 (w6 a1 v5.toNatClampNeg)  w6) ce_X1_without lk_X5_43 rfl rfl (Nat.le_of_ble_eq_true rfl) ⟨Nat.le_of_ble_eq_true rfl, Nat.le_of_ble_eq_true rfl⟩ (fun r7 w8 => ?_)
  refine rv_istore_n (lv' := [(3, .int r7), (5, .int (w6 a1 v5.toNatClampNeg)), (0, .ref (ad 24)), (1, .ref (ad a1)), (2, .int p2), (4, .int v5)]) h 53 dX5_compare_53 (by decide) rfl ?_
  refine rv_iconst h 54 dX5_compare_54 rv_c0 ?_
  refine rv_istore (lv' := [(6, .int (0 : Int32)), (3, .int r7), (5, .int (w6 a1 v5.toNatClampNeg)), (0, .ref (ad 24)), (1, .ref (ad a1)), (2, .int p2), (4, .int v5)]) h 55 dX5_compare_55 (by decide) rfl ?_
  refine rv_sub h [3, 4, 5, 1, 6, 2, 0] rfl ?_
  refine rv_fx_ind (fun (a0 : Int32 → rv_W → rv_R) => ∀ (v11 : Int32) (w12 : rv_W), K 57 [(0, .ref (ad 24)), (1, .ref (ad a1)), (2, .int p2), (3, .int r7), (4, .int v5), (5, .int (w6 a1 v5.toNatClampNeg)), (6, .int v11)] [] w12 (a0 v11 w12)) (fun _ _ => rv_none h) (fun ag9 ih10 v11 w12 => ?_) rv_FU (0 : Int32) w8
  refine rv_iload h 57 dX5_compare_57 6 rfl ?_
  refine rv_iconst h 59 dX5_compare_59 rv_c5 ?_
  refine rv_icmp_ge (tgt := 92) h 60 dX5_compare_60 (by decide) (fun _ => ?_) (fun _ => ?_)
  rotate_left
  · refine rv_iinc h 92 (fun v13 => [(4, .int v13), (0, .ref (ad 24)), (1, .ref (ad a1)), (2, .int p2), (3, .int r7), (5, .int (w6 a1 v5.toNatClampNeg)), (6, .int v11)]) dX5_compare_92 4 rfl rv_c1 (by decide) (fun _ => rfl) (fun v13 => ?_)
    refine rv_goto (tgt := 18) h 95 dX5_compare_95 (by decide) ?_
    refine rv_sub h [1, 2, 3, 4, 0] rfl ?_
    exact ih3 r7 v13 w12
  refine rv_iload_n h 63 dX5_compare_63 3 rfl ?_
  refine rv_iload h 64 dX5_compare_64 6 rfl ?_
  refine rv_callSi h 66 dX5_compare_66 (fn_X1_has hJ r7 v11  w12) ce_X1_has lk_X5_48 rfl rfl (Nat.le_of_ble_eq_true rfl) ⟨Nat.le_of_ble_eq_true rfl, Nat.le_of_ble_eq_true rfl⟩ (fun r14 w15 => ?_)
  refine rv_if_eq (tgt := 86) h 69 dX5_compare_69 (by decide) (fun _ => ?_) (fun _ => ?_)
  · refine rv_iinc h 86 (fun v16 => [(6, .int v16), (0, .ref (ad 24)), (1, .ref (ad a1)), (2, .int p2), (3, .int r7), (4, .int v5), (5, .int (w6 a1 v5.toNatClampNeg))]) dX5_compare_86 6 rfl rv_c1 (by decide) (fun _ => rfl) (fun v16 => ?_)
    refine rv_goto (tgt := 57) h 89 dX5_compare_89 (by decide) ?_
    refine rv_sub h [1, 2, 3, 4, 5, 6, 0] rfl ?_
    exact ih10 v16 w15
  refine rv_aload_n h 72 dX5_compare_72 0 rfl ?_
  refine rv_getr h 73 dX5_compare_73 rv_s24 rv_fd_X5_11 rfl ?_
  refine rv_iload h 76 dX5_compare_76 5 rfl ?_
  refine rv_aald h 78 dX5_compare_78 rv_s25 (fun hi17 => ?_)
  refine rv_iload h 79 dX5_compare_79 6 rfl ?_
  refine rv_dup2 h 81 dX5_compare_81 rfl rfl ?_
  refine rv_iald h 82 dX5_compare_82 (rv_row26 hi17) ?_
  refine rv_iload_n h 83 dX5_compare_83 2 rfl ?_
  refine rv_iadd h 84 dX5_compare_84 ?_
  refine rv_iast h 85 dX5_compare_85 (rv_row26 hi17) (fun w18 => ?_)
  refine rv_iinc h 86 (fun v19 => [(6, .int v19), (0, .ref (ad 24)), (1, .ref (ad a1)), (2, .int p2), (3, .int r7), (4, .int v5), (5, .int (w6 a1 v5.toNatClampNeg))]) dX5_compare_86 6 rfl rv_c1 (by decide) (fun _ => rfl) (fun v19 => ?_)
  refine rv_goto (tgt := 57) h 89 dX5_compare_89 (by decide) ?_
  refine rv_sub h [1, 2, 3, 4, 5, 6, 0] rfl ?_
  exact ih10 v19 w18
def f_X5_cast (p1 : Int32) (p2 : Int32) (p3 : Int32) (w : rv_W) : rv_R :=
  if p1 < 0 then
  some (0, w)
  else
  if p1 < (20 : Int32) then
  rv_ck p1 20 (
  rv_ck p1 20 (
  rv_bd (f_X5_compare (33 + p1.toNatClampNeg) (-(w 31 p1.toNatClampNeg)) w) (fun (r2 : Int32) (w3 : rv_W) =>
  rv_ck p1 20 (rv_lt (rv_up w3 31 p1.toNatClampNeg p2) (fun (w4 : rv_W) =>
  rv_bd (f_X0_within p3 (w4 24 0) w4) (fun (r5 : Int32) (w6 : rv_W) =>
  rv_fx (fun _ _ => none) (fun (ag7 : Int32 → rv_W → rv_R) (v9 : Int32) (w10 : rv_W) =>
  if v9 < (5 : Int32) then
  rv_ck p1 20 (
  rv_bd (f_X0_at r5 v9 w10) (fun (r15 : Int32) (w16 : rv_W) =>
  rv_ck v9 5 (rv_lt (rv_up w16 (33 + p1.toNatClampNeg) v9.toNatClampNeg r15) (fun (w17 : rv_W) =>
  rv_lt (v9 + (1 : Int32)) (fun (v18 : Int32) =>
  ag7 v18 w17)))))
  else
  rv_ck p1 20 (
  rv_bd (f_X5_compare (33 + p1.toNatClampNeg) p2 w10) (fun (r12 : Int32) (w13 : rv_W) =>
  some (0, w13)))) rv_FU (0 : Int32) w6))))))
  else
  some (0, w)
set_option maxRecDepth 100000 in
set_option maxHeartbeats 4000000 in
theorem fn_X5_cast {l : Launch} {D : va_G} {ad : Nat → Nat} {ca : Nat → ClassId} (hJ : rv_J ad) (p1 : Int32) (p2 : Int32) (p3 : Int32)  (w : rv_W) : rv_Fn l D ad ca yX5_cast cX5_cast 6 none 2 47 [.ref (ad 24), .int p1, .int p2, .int p3] w (f_X5_cast p1 p2 p3 w) := by
  refine rv_mk (lv := [(0, .ref (ad 24)), (1, .int p1), (2, .int p2), (3, .int p3)]) hJ (by decide +kernel) (Nat.le_of_ble_eq_true rfl) rfl (fun K h hr => ?_)
  have h : rv_Rl D ad ca l RX5 cX5_cast 6 2 47 K := h
  unfold f_X5_cast
  refine rv_iload_n h 0 dX5_cast_0 1 rfl ?_
  refine rv_if_lt (tgt := 10) h 1 dX5_cast_1 (by decide) (fun _ => ?_) (fun _ => ?_)
  · exact rv_retv hr 10 dX5_cast_10
  refine rv_iload_n h 4 dX5_cast_4 1 rfl ?_
  refine rv_bipush (v := 20) h 5 dX5_cast_5 (by decide +kernel) ?_
  refine rv_icmp_lt (tgt := 11) h 7 dX5_cast_7 (by decide) (fun _ => ?_) (fun _ => ?_)
  rotate_left
  · exact rv_retv hr 10 dX5_cast_10
  refine rv_aload_n h 11 dX5_cast_11 0 rfl ?_
  refine rv_aload_n h 12 dX5_cast_12 0 rfl ?_
  refine rv_getr h 13 dX5_cast_13 rv_s24 rv_fd_X5_20 rfl ?_
  refine rv_iload_n h 16 dX5_cast_16 1 rfl ?_
  refine rv_aald h 17 dX5_cast_17 rv_s32 (fun hi1 => ?_)
  refine rv_aload_n h 18 dX5_cast_18 0 rfl ?_
  refine rv_getr h 19 dX5_cast_19 rv_s24 rv_fd_X5_16 rfl ?_
  refine rv_iload_n h 22 dX5_cast_22 1 rfl ?_
  refine rv_iald h 23 dX5_cast_23 rv_s31 ?_
  refine rv_ineg h 24 dX5_cast_24 ?_
  refine rv_callVv h 25 dX5_cast_25 (fn_X5_compare hJ (33 + p1.toNatClampNeg) (-(w 31 p1.toNatClampNeg)) (rv_row33 hi1) w) ce_X5_compare lk_X5_30 rv_s24 rfl rv_cf3 rfl rfl (Nat.le_of_ble_eq_true rfl) ⟨Nat.le_of_ble_eq_true rfl, Nat.le_of_ble_eq_true rfl⟩ (fun r2 w3 => ?_)
  refine rv_aload_n h 28 dX5_cast_28 0 rfl ?_
  refine rv_getr h 29 dX5_cast_29 rv_s24 rv_fd_X5_16 rfl ?_
  refine rv_iload_n h 32 dX5_cast_32 1 rfl ?_
  refine rv_iload_n h 33 dX5_cast_33 2 rfl ?_
  refine rv_iast h 34 dX5_cast_34 rv_s31 (fun w4 => ?_)
  refine rv_iload_n h 35 dX5_cast_35 3 rfl ?_
  refine rv_aload_n h 36 dX5_cast_36 0 rfl ?_
  refine rv_geti h 37 dX5_cast_37 rv_s24 rv_fd_X5_23 rfl ?_
  refine rv_callSi h 40 dX5_cast_40 (fn_X0_within hJ p3 (w4 24 0)  w4) ce_X0_within lk_X5_34 rfl rfl (Nat.le_of_ble_eq_true rfl) ⟨Nat.le_of_ble_eq_true rfl, Nat.le_of_ble_eq_true rfl⟩ (fun r5 w6 => ?_)
  refine rv_istore (lv' := [(4, .int r5), (0, .ref (ad 24)), (1, .int p1), (2, .int p2), (3, .int p3)]) h 43 dX5_cast_43 (by decide) rfl ?_
  refine rv_iconst h 45 dX5_cast_45 rv_c0 ?_
  refine rv_istore (lv' := [(5, .int (0 : Int32)), (4, .int r5), (0, .ref (ad 24)), (1, .int p1), (2, .int p2), (3, .int p3)]) h 46 dX5_cast_46 (by decide) rfl ?_
  refine rv_sub h [2, 3, 4, 1, 0] rfl ?_
  refine rv_fx_ind (fun (a0 : Int32 → rv_W → rv_R) => ∀ (v9 : Int32) (w10 : rv_W), K 48 [(0, .ref (ad 24)), (1, .int p1), (2, .int p2), (4, .int r5), (5, .int v9)] [] w10 (a0 v9 w10)) (fun _ _ => rv_none h) (fun ag7 ih8 v9 w10 => ?_) rv_FU (0 : Int32) w6
  refine rv_iload h 48 dX5_cast_48 4 rfl ?_
  refine rv_iconst h 50 dX5_cast_50 rv_c5 ?_
  refine rv_icmp_ge (tgt := 76) h 51 dX5_cast_51 (by decide) (fun _ => ?_) (fun _ => ?_)
  rotate_left
  · refine rv_aload_n h 76 dX5_cast_76 0 rfl ?_
    refine rv_aload_n h 77 dX5_cast_77 0 rfl ?_
    refine rv_getr h 78 dX5_cast_78 rv_s24 rv_fd_X5_20 rfl ?_
    refine rv_iload_n h 81 dX5_cast_81 1 rfl ?_
    refine rv_aald h 82 dX5_cast_82 rv_s32 (fun hi11 => ?_)
    refine rv_iload_n h 83 dX5_cast_83 2 rfl ?_
    refine rv_callVv h 84 dX5_cast_84 (fn_X5_compare hJ (33 + p1.toNatClampNeg) p2 (rv_row33 hi11) w10) ce_X5_compare lk_X5_30 rv_s24 rfl rv_cf3 rfl rfl (Nat.le_of_ble_eq_true rfl) ⟨Nat.le_of_ble_eq_true rfl, Nat.le_of_ble_eq_true rfl⟩ (fun r12 w13 => ?_)
    exact rv_retv hr 87 dX5_cast_87
  refine rv_aload_n h 54 dX5_cast_54 0 rfl ?_
  refine rv_getr h 55 dX5_cast_55 rv_s24 rv_fd_X5_20 rfl ?_
  refine rv_iload_n h 58 dX5_cast_58 1 rfl ?_
  refine rv_aald h 59 dX5_cast_59 rv_s32 (fun hi14 => ?_)
  refine rv_iload h 60 dX5_cast_60 4 rfl ?_
  refine rv_iload h 62 dX5_cast_62 3 rfl ?_
  refine rv_iload h 64 dX5_cast_64 4 rfl ?_
  refine rv_callSi h 66 dX5_cast_66 (fn_X0_at hJ r5 v9  w10) ce_X0_at lk_X5_40 rfl rfl (Nat.le_of_ble_eq_true rfl) ⟨Nat.le_of_ble_eq_true rfl, Nat.le_of_ble_eq_true rfl⟩ (fun r15 w16 => ?_)
  refine rv_iast h 69 dX5_cast_69 (rv_row33 hi14) (fun w17 => ?_)
  refine rv_iinc h 70 (fun v18 => [(5, .int v18), (0, .ref (ad 24)), (1, .int p1), (2, .int p2), (4, .int r5)]) dX5_cast_70 4 rfl rv_c1 (by decide) (fun _ => rfl) (fun v18 => ?_)
  refine rv_goto (tgt := 48) h 73 dX5_cast_73 (by decide) ?_
  refine rv_sub h [1, 2, 3, 4, 0] rfl ?_
  exact ih8 v18 w17
def f_X5_votesFor (p1 : Int32) (p2 : Int32) (w : rv_W) : rv_R :=
  rv_bd (f_X1_exists p1 w) (fun (r1 : Int32) (w2 : rv_W) =>
  if r1 = 0 then
  some ((0 : Int32), w2)
  else
  rv_bd (f_X1_exists p2 w2) (fun (r3 : Int32) (w4 : rv_W) =>
  if r3 = 0 then
  some ((0 : Int32), w4)
  else
  rv_ck p1 5 (
  rv_ck p2 5 (
  some ((w4 (26 + p1.toNatClampNeg) p2.toNatClampNeg), w4)))))
set_option maxRecDepth 100000 in
set_option maxHeartbeats 4000000 in
theorem fn_X5_votesFor {l : Launch} {D : va_G} {ad : Nat → Nat} {ca : Nat → ClassId} (hJ : rv_J ad) (p1 : Int32) (p2 : Int32)  (w : rv_W) : rv_Fn l D ad ca yX5_votesFor cX5_votesFor 3 (some .int) 1 20 [.ref (ad 24), .int p1, .int p2] w (f_X5_votesFor p1 p2 w) := by
  refine rv_mk (lv := [(0, .ref (ad 24)), (1, .int p1), (2, .int p2)]) hJ (by decide +kernel) (Nat.le_of_ble_eq_true rfl) rfl (fun K h hr => ?_)
  have h : rv_Rl D ad ca l RX5 cX5_votesFor 3 1 20 K := h
  unfold f_X5_votesFor
  refine rv_iload_n h 0 dX5_votesFor_0 1 rfl ?_
  refine rv_callSi h 1 dX5_votesFor_1 (fn_X1_exists hJ p1  w) ce_X1_exists lk_X5_52 rfl rfl (Nat.le_of_ble_eq_true rfl) ⟨Nat.le_of_ble_eq_true rfl, Nat.le_of_ble_eq_true rfl⟩ (fun r1 w2 => ?_)
  refine rv_if_eq (tgt := 25) h 4 dX5_votesFor_4 (by decide) (fun _ => ?_) (fun _ => ?_)
  · refine rv_iconst h 25 dX5_votesFor_25 rv_c0 ?_
    exact rv_reti hr 26 dX5_votesFor_26
  refine rv_iload_n h 7 dX5_votesFor_7 2 rfl ?_
  refine rv_callSi h 8 dX5_votesFor_8 (fn_X1_exists hJ p2  w2) ce_X1_exists lk_X5_52 rfl rfl (Nat.le_of_ble_eq_true rfl) ⟨Nat.le_of_ble_eq_true rfl, Nat.le_of_ble_eq_true rfl⟩ (fun r3 w4 => ?_)
  refine rv_if_eq (tgt := 25) h 11 dX5_votesFor_11 (by decide) (fun _ => ?_) (fun _ => ?_)
  · refine rv_iconst h 25 dX5_votesFor_25 rv_c0 ?_
    exact rv_reti hr 26 dX5_votesFor_26
  refine rv_aload_n h 14 dX5_votesFor_14 0 rfl ?_
  refine rv_getr h 15 dX5_votesFor_15 rv_s24 rv_fd_X5_11 rfl ?_
  refine rv_iload_n h 18 dX5_votesFor_18 1 rfl ?_
  refine rv_aald h 19 dX5_votesFor_19 rv_s25 (fun hi5 => ?_)
  refine rv_iload_n h 20 dX5_votesFor_20 2 rfl ?_
  refine rv_iald h 21 dX5_votesFor_21 (rv_row26 hi5) ?_
  refine rv_goto (tgt := 26) h 22 dX5_votesFor_22 (by decide) ?_
  exact rv_reti hr 26 dX5_votesFor_26
def f_X5_addLasts (p1 : Int32) (a2 : Nat) (w : rv_W) : rv_R :=
  rv_fx (fun _ _ => none) (fun (ag1 : Int32 → rv_W → rv_R) (v3 : Int32) (w4 : rv_W) =>
  if v3 < (20 : Int32) then
  rv_fx (fun _ _ _ _ => none) (fun (ag5 : Int32 → Int32 → Int32 → rv_W → rv_R) (v7 : Int32) (v8 : Int32) (v9 : Int32) (w10 : rv_W) =>
  if v9 < (5 : Int32) then
  rv_ck v3 20 (
  rv_ck v9 5 (
  rv_bd (f_X1_has p1 (w10 (33 + v3.toNatClampNeg) v9.toNatClampNeg) w10) (fun (r25 : Int32) (w26 : rv_W) =>
  rv_jn (fun (v27 : Int32) (w28 : rv_W) =>
  rv_bd (f_X1_without v8 (w10 (33 + v3.toNatClampNeg) v9.toNatClampNeg) w28) (fun (r31 : Int32) (w32 : rv_W) =>
  rv_lt (v9 + (1 : Int32)) (fun (v33 : Int32) =>
  ag5 v27 r31 v33 w32))) (fun (k29 : Int32 → rv_W → rv_R) =>
  if r25 = 0 then
  k29 v7 w26
  else
  k29 (w10 (33 + v3.toNatClampNeg) v9.toNatClampNeg) w26))))
  else
  rv_fx (fun _ _ _ => none) (fun (ag11 : Int32 → Int32 → rv_W → rv_R) (v13 : Int32) (v14 : Int32) (w15 : rv_W) =>
  if v14 < (5 : Int32) then
  rv_bd (f_X1_has v8 v14 w15) (fun (r20 : Int32) (w21 : rv_W) =>
  if r20 = 0 then
  rv_lt (v14 + (1 : Int32)) (fun (v22 : Int32) =>
  ag11 v13 v22 w21)
  else
  rv_lt (v14 + (1 : Int32)) (fun (v23 : Int32) =>
  ag11 v14 v23 w21))
  else
  if v13 < 0 then
  rv_lt (v3 + (1 : Int32)) (fun (v16 : Int32) =>
  ag1 v16 w15)
  else
  if v13 < (5 : Int32) then
  rv_ck v13 5 (
  rv_ck v3 20 (
  rv_ck v13 5 (rv_lt (rv_up w15 a2 v13.toNatClampNeg ((w15 a2 v13.toNatClampNeg) + (w15 31 v3.toNatClampNeg))) (fun (w18 : rv_W) =>
  rv_lt (v3 + (1 : Int32)) (fun (v19 : Int32) =>
  ag1 v19 w18)))))
  else
  rv_lt (v3 + (1 : Int32)) (fun (v17 : Int32) =>
  ag1 v17 w15)) rv_FU v7 (0 : Int32) w10) rv_FU (-1 : Int32) p1 (0 : Int32) w4
  else
  some (0, w4)) rv_FU (0 : Int32) w
set_option maxRecDepth 100000 in
set_option maxHeartbeats 4000000 in
theorem fn_X5_addLasts {l : Launch} {D : va_G} {ad : Nat → Nat} {ca : Nat → ClassId} (hJ : rv_J ad) (p1 : Int32) (a2 : Nat) (ha2 : rv_sh a2 = .inr (0, 5, 0)) (w : rv_W) : rv_Fn l D ad ca yX5_addLasts cX5_addLasts 8 none 1 21 [.ref (ad 24), .int p1, .ref (ad a2)] w (f_X5_addLasts p1 a2 w) := by
  refine rv_mk (lv := [(0, .ref (ad 24)), (1, .int p1), (2, .ref (ad a2))]) hJ (by decide +kernel) (Nat.le_of_ble_eq_true rfl) rfl (fun K h hr => ?_)
  have h : rv_Rl D ad ca l RX5 cX5_addLasts 8 1 21 K := h
  unfold f_X5_addLasts
  refine rv_iconst h 0 dX5_addLasts_0 rv_c0 ?_
  refine rv_istore_n (lv' := [(3, .int (0 : Int32)), (0, .ref (ad 24)), (1, .int p1), (2, .ref (ad a2))]) h 1 dX5_addLasts_1 (by decide) rfl ?_
  refine rv_sub h [1, 2, 3, 0] rfl ?_
  refine rv_fx_ind (fun (a0 : Int32 → rv_W → rv_R) => ∀ (v3 : Int32) (w4 : rv_W), K 2 [(0, .ref (ad 24)), (1, .int p1), (2, .ref (ad a2)), (3, .int v3)] [] w4 (a0 v3 w4)) (fun _ _ => rv_none h) (fun ag1 ih2 v3 w4 => ?_) rv_FU (0 : Int32) w
  refine rv_iload_n h 2 dX5_addLasts_2 3 rfl ?_
  refine rv_bipush (v := 20) h 3 dX5_addLasts_3 (by decide +kernel) ?_
  refine rv_icmp_ge (tgt := 132) h 5 dX5_addLasts_5 (by decide) (fun _ => ?_) (fun _ => ?_)
  rotate_left
  · exact rv_retv hr 132 dX5_addLasts_132
  refine rv_iconst h 8 dX5_addLasts_8 rv_cm1 ?_
  refine rv_istore (lv' := [(4, .int (-1 : Int32)), (0, .ref (ad 24)), (1, .int p1), (2, .ref (ad a2)), (3, .int v3)]) h 9 dX5_addLasts_9 (by decide) rfl ?_
  refine rv_iload_n h 11 dX5_addLasts_11 2 rfl ?_
  refine rv_istore (lv' := [(5, .int p1), (4, .int (-1 : Int32)), (0, .ref (ad 24)), (1, .int p1), (2, .ref (ad a2)), (3, .int v3)]) h 12 dX5_addLasts_12 (by decide) rfl ?_
  refine rv_iconst h 14 dX5_addLasts_14 rv_c0 ?_
  refine rv_istore (lv' := [(6, .int (0 : Int32)), (5, .int p1), (4, .int (-1 : Int32)), (0, .ref (ad 24)), (1, .int p1), (2, .ref (ad a2)), (3, .int v3)]) h 15 dX5_addLasts_15 (by decide) rfl ?_
  refine rv_sub h [3, 4, 5, 6, 2, 1, 0] rfl ?_
  refine rv_fx_ind (fun (a0 : Int32 → Int32 → Int32 → rv_W → rv_R) => ∀ (v7 : Int32) (v8 : Int32) (v9 : Int32) (w10 : rv_W), K 17 [(0, .ref (ad 24)), (1, .int p1), (2, .ref (ad a2)), (3, .int v3), (4, .int v7), (5, .int v8), (6, .int v9)] [] w10 (a0 v7 v8 v9 w10)) (fun _ _ _ _ => rv_none h) (fun ag5 ih6 v7 v8 v9 w10 => ?_) rv_FU (-1 : Int32) p1 (0 : Int32) w4
  refine rv_iload h 17 dX5_addLasts_17 6 rfl ?_
  refine rv_iconst h 19 dX5_addLasts_19 rv_c5 ?_
  refine rv_icmp_ge (tgt := 67) h 20 dX5_addLasts_20 (by decide) (fun _ => ?_) (fun _ => ?_)
  · refine rv_aload_n h 23 dX5_addLasts_23 0 rfl ?_
    refine rv_getr h 24 dX5_addLasts_24 rv_s24 rv_fd_X5_20 rfl ?_
    refine rv_iload_n h 27 dX5_addLasts_27 3 rfl ?_
    refine rv_aald h 28 dX5_addLasts_28 rv_s32 (fun hi24 => ?_)
    refine rv_iload h 29 dX5_addLasts_29 6 rfl ?_
    refine rv_iald h 31 dX5_addLasts_31 (rv_row33 hi24) ?_
    refine rv_istore (lv' := [(7, .int (w10 (33 + v3.toNatClampNeg) v9.toNatClampNeg)), (0, .ref (ad 24)), (1, .int p1), (2, .ref (ad a2)), (3, .int v3), (4, .int v7), (5, .int v8), (6, .int v9)]) h 32 dX5_addLasts_32 (by decide) rfl ?_
    refine rv_iload_n h 34 dX5_addLasts_34 2 rfl ?_
    refine rv_iload h 35 dX5_addLasts_35 0 rfl ?_
    refine rv_callSi h 37 dX5_addLasts_37 (fn_X1_has hJ p1 (w10 (33 + v3.toNatClampNeg) v9.toNatClampNeg)  w10) ce_X1_has lk_X5_48 rfl rfl (Nat.le_of_ble_eq_true rfl) ⟨Nat.le_of_ble_eq_true rfl, Nat.le_of_ble_eq_true rfl⟩ (fun r25 w26 => ?_)
    refine rv_join (fun (k0 : Int32 → rv_W → rv_R) => ∀ (v27 : Int32) (w28 : rv_W), K 50 [(0, .ref (ad 24)), (1, .int p1), (2, .ref (ad a2)), (3, .int v3), (5, .int v8), (6, .int v9), (7, .int (w10 (33 + v3.toNatClampNeg) v9.toNatClampNeg))] (.int v27 :: []) w28 (k0 v27 w28)) (fun v27 w28 => ?_) (fun k29 hk30 => ?_)
    · refine rv_istore (lv' := [(4, .int v27), (0, .ref (ad 24)), (1, .int p1), (2, .ref (ad a2)), (3, .int v3), (5, .int v8), (6, .int v9), (7, .int (w10 (33 + v3.toNatClampNeg) v9.toNatClampNeg))]) h 50 dX5_addLasts_50 (by decide) rfl ?_
      refine rv_iload h 52 dX5_addLasts_52 5 rfl ?_
      refine rv_iload h 54 dX5_addLasts_54 7 rfl ?_
      refine rv_callSi h 56 dX5_addLasts_56 (fn_X1_without hJ v8 (w10 (33 + v3.toNatClampNeg) v9.toNatClampNeg)  w28) ce_X1_without lk_X5_43 rfl rfl (Nat.le_of_ble_eq_true rfl) ⟨Nat.le_of_ble_eq_true rfl, Nat.le_of_ble_eq_true rfl⟩ (fun r31 w32 => ?_)
      refine rv_istore (lv' := [(5, .int r31), (4, .int v27), (0, .ref (ad 24)), (1, .int p1), (2, .ref (ad a2)), (3, .int v3), (6, .int v9), (7, .int (w10 (33 + v3.toNatClampNeg) v9.toNatClampNeg))]) h 59 dX5_addLasts_59 (by decide) rfl ?_
      refine rv_iinc h 61 (fun v33 => [(6, .int v33), (5, .int r31), (4, .int v27), (0, .ref (ad 24)), (1, .int p1), (2, .ref (ad a2)), (3, .int v3), (7, .int (w10 (33 + v3.toNatClampNeg) v9.toNatClampNeg))]) dX5_addLasts_61 6 rfl rv_c1 (by decide) (fun _ => rfl) (fun v33 => ?_)
      refine rv_goto (tgt := 17) h 64 dX5_addLasts_64 (by decide) ?_
      refine rv_sub h [3, 4, 5, 6, 2, 1, 0] rfl ?_
      exact ih6 v27 r31 v33 w32
    refine rv_if_eq (tgt := 48) h 40 dX5_addLasts_40 (by decide) (fun _ => ?_) (fun _ => ?_)
    · refine rv_iload h 48 dX5_addLasts_48 5 rfl ?_
      refine rv_sub h [1, 2, 3, 4, 6, 7, 0] rfl ?_
      exact hk30 v7 w26
    refine rv_iload h 43 dX5_addLasts_43 0 rfl ?_
    refine rv_goto (tgt := 50) h 45 dX5_addLasts_45 (by decide) ?_
    refine rv_sub h [1, 2, 3, 4, 6, 7, 0] rfl ?_
    exact hk30 (w10 (33 + v3.toNatClampNeg) v9.toNatClampNeg) w26
  refine rv_iconst h 67 dX5_addLasts_67 rv_c0 ?_
  refine rv_istore (lv' := [(6, .int (0 : Int32)), (0, .ref (ad 24)), (1, .int p1), (2, .ref (ad a2)), (3, .int v3), (4, .int v7), (5, .int v8)]) h 68 dX5_addLasts_68 (by decide) rfl ?_
  refine rv_sub h [1, 2, 3, 4, 5, 6, 0] rfl ?_
  refine rv_fx_ind (fun (a0 : Int32 → Int32 → rv_W → rv_R) => ∀ (v13 : Int32) (v14 : Int32) (w15 : rv_W), K 70 [(0, .ref (ad 24)), (1, .int p1), (2, .ref (ad a2)), (3, .int v3), (4, .int v13), (5, .int v8), (6, .int v14)] [] w15 (a0 v13 v14 w15)) (fun _ _ _ => rv_none h) (fun ag11 ih12 v13 v14 w15 => ?_) rv_FU v7 (0 : Int32) w10
  refine rv_iload h 70 dX5_addLasts_70 6 rfl ?_
  refine rv_iconst h 72 dX5_addLasts_72 rv_c5 ?_
  refine rv_icmp_ge (tgt := 101) h 73 dX5_addLasts_73 (by decide) (fun _ => ?_) (fun _ => ?_)
  · refine rv_iload h 76 dX5_addLasts_76 5 rfl ?_
    refine rv_iload h 78 dX5_addLasts_78 6 rfl ?_
    refine rv_callSi h 80 dX5_addLasts_80 (fn_X1_has hJ v8 v14  w15) ce_X1_has lk_X5_48 rfl rfl (Nat.le_of_ble_eq_true rfl) ⟨Nat.le_of_ble_eq_true rfl, Nat.le_of_ble_eq_true rfl⟩ (fun r20 w21 => ?_)
    refine rv_if_eq (tgt := 91) h 83 dX5_addLasts_83 (by decide) (fun _ => ?_) (fun _ => ?_)
    · refine rv_iload h 91 dX5_addLasts_91 4 rfl ?_
      refine rv_istore (lv' := [(4, .int v13), (0, .ref (ad 24)), (1, .int p1), (2, .ref (ad a2)), (3, .int v3), (5, .int v8), (6, .int v14)]) h 93 dX5_addLasts_93 (by decide) rfl ?_
      refine rv_iinc h 95 (fun v22 => [(6, .int v22), (4, .int v13), (0, .ref (ad 24)), (1, .int p1), (2, .ref (ad a2)), (3, .int v3), (5, .int v8)]) dX5_addLasts_95 6 rfl rv_c1 (by decide) (fun _ => rfl) (fun v22 => ?_)
      refine rv_goto (tgt := 70) h 98 dX5_addLasts_98 (by decide) ?_
      refine rv_sub h [2, 3, 4, 5, 1, 6, 0] rfl ?_
      exact ih12 v13 v22 w21
    refine rv_iload h 86 dX5_addLasts_86 6 rfl ?_
    refine rv_goto (tgt := 93) h 88 dX5_addLasts_88 (by decide) ?_
    refine rv_istore (lv' := [(4, .int v14), (0, .ref (ad 24)), (1, .int p1), (2, .ref (ad a2)), (3, .int v3), (5, .int v8), (6, .int v14)]) h 93 dX5_addLasts_93 (by decide) rfl ?_
    refine rv_iinc h 95 (fun v23 => [(6, .int v23), (4, .int v14), (0, .ref (ad 24)), (1, .int p1), (2, .ref (ad a2)), (3, .int v3), (5, .int v8)]) dX5_addLasts_95 6 rfl rv_c1 (by decide) (fun _ => rfl) (fun v23 => ?_)
    refine rv_goto (tgt := 70) h 98 dX5_addLasts_98 (by decide) ?_
    refine rv_sub h [2, 3, 4, 5, 1, 6, 0] rfl ?_
    exact ih12 v14 v23 w21
  refine rv_iload h 101 dX5_addLasts_101 4 rfl ?_
  refine rv_if_lt (tgt := 126) h 103 dX5_addLasts_103 (by decide) (fun _ => ?_) (fun _ => ?_)
  · refine rv_iinc h 126 (fun v16 => [(3, .int v16), (0, .ref (ad 24)), (1, .int p1), (2, .ref (ad a2)), (4, .int v13), (5, .int v8), (6, .int v14)]) dX5_addLasts_126 3 rfl rv_c1 (by decide) (fun _ => rfl) (fun v16 => ?_)
    refine rv_goto (tgt := 2) h 129 dX5_addLasts_129 (by decide) ?_
    refine rv_sub h [1, 2, 3, 0] rfl ?_
    exact ih2 v16 w15
  refine rv_iload h 106 dX5_addLasts_106 4 rfl ?_
  refine rv_aload_n h 108 dX5_addLasts_108 2 rfl ?_
  refine rv_len (v := 5) h 109 dX5_addLasts_109 ha2 (by decide) (by decide +kernel) ?_
  refine rv_icmp_ge (tgt := 126) h 110 dX5_addLasts_110 (by decide) (fun _ => ?_) (fun _ => ?_)
  rotate_left
  · refine rv_iinc h 126 (fun v17 => [(3, .int v17), (0, .ref (ad 24)), (1, .int p1), (2, .ref (ad a2)), (4, .int v13), (5, .int v8), (6, .int v14)]) dX5_addLasts_126 3 rfl rv_c1 (by decide) (fun _ => rfl) (fun v17 => ?_)
    refine rv_goto (tgt := 2) h 129 dX5_addLasts_129 (by decide) ?_
    refine rv_sub h [1, 2, 3, 0] rfl ?_
    exact ih2 v17 w15
  refine rv_aload_n h 113 dX5_addLasts_113 2 rfl ?_
  refine rv_iload h 114 dX5_addLasts_114 4 rfl ?_
  refine rv_dup2 h 116 dX5_addLasts_116 rfl rfl ?_
  refine rv_iald h 117 dX5_addLasts_117 ha2 ?_
  refine rv_aload_n h 118 dX5_addLasts_118 0 rfl ?_
  refine rv_getr h 119 dX5_addLasts_119 rv_s24 rv_fd_X5_16 rfl ?_
  refine rv_iload_n h 122 dX5_addLasts_122 3 rfl ?_
  refine rv_iald h 123 dX5_addLasts_123 rv_s31 ?_
  refine rv_iadd h 124 dX5_addLasts_124 ?_
  refine rv_iast h 125 dX5_addLasts_125 ha2 (fun w18 => ?_)
  refine rv_iinc h 126 (fun v19 => [(3, .int v19), (0, .ref (ad 24)), (1, .int p1), (2, .ref (ad a2)), (4, .int v13), (5, .int v8), (6, .int v14)]) dX5_addLasts_126 3 rfl rv_c1 (by decide) (fun _ => rfl) (fun v19 => ?_)
  refine rv_goto (tgt := 2) h 129 dX5_addLasts_129 (by decide) ?_
  refine rv_sub h [1, 2, 3, 0] rfl ?_
  exact ih2 v19 w18
def f_X6_clear (a1 : Nat) (w : rv_W) : rv_R :=
  rv_fx (fun _ _ => none) (fun (ag1 : Int32 → rv_W → rv_R) (v3 : Int32) (w4 : rv_W) =>
  if v3 < (5 : Int32) then
  rv_ck v3 5 (rv_lt (rv_up w4 a1 v3.toNatClampNeg (0 : Int32)) (fun (w5 : rv_W) =>
  rv_lt (v3 + (1 : Int32)) (fun (v6 : Int32) =>
  ag1 v6 w5)))
  else
  some (0, w4)) rv_FU (0 : Int32) w
set_option maxRecDepth 100000 in
set_option maxHeartbeats 4000000 in
theorem fn_X6_clear {l : Launch} {D : va_G} {ad : Nat → Nat} {ca : Nat → ClassId} (hJ : rv_J ad) (a1 : Nat) (ha1 : rv_sh a1 = .inr (0, 5, 0)) (w : rv_W) : rv_Fn l D ad ca yX6_clear cX6_clear 2 none 0 0 [.ref (ad a1)] w (f_X6_clear a1 w) := by
  refine rv_mk (lv := [(0, .ref (ad a1))]) hJ (by decide +kernel) (Nat.le_of_ble_eq_true rfl) rfl (fun K h hr => ?_)
  have h : rv_Rl D ad ca l RX6 cX6_clear 2 0 0 K := h
  unfold f_X6_clear
  refine rv_iconst h 0 dX6_clear_0 rv_c0 ?_
  refine rv_istore_n (lv' := [(1, .int (0 : Int32)), (0, .ref (ad a1))]) h 1 dX6_clear_1 (by decide) rfl ?_
  refine rv_sub h [1, 0] rfl ?_
  refine rv_fx_ind (fun (a0 : Int32 → rv_W → rv_R) => ∀ (v3 : Int32) (w4 : rv_W), K 2 [(0, .ref (ad a1)), (1, .int v3)] [] w4 (a0 v3 w4)) (fun _ _ => rv_none h) (fun ag1 ih2 v3 w4 => ?_) rv_FU (0 : Int32) w
  refine rv_iload_n h 2 dX6_clear_2 1 rfl ?_
  refine rv_aload_n h 3 dX6_clear_3 0 rfl ?_
  refine rv_len (v := 5) h 4 dX6_clear_4 ha1 (by decide) (by decide +kernel) ?_
  refine rv_icmp_ge (tgt := 18) h 5 dX6_clear_5 (by decide) (fun _ => ?_) (fun _ => ?_)
  rotate_left
  · exact rv_retv hr 18 dX6_clear_18
  refine rv_aload_n h 8 dX6_clear_8 0 rfl ?_
  refine rv_iload_n h 9 dX6_clear_9 1 rfl ?_
  refine rv_iconst h 10 dX6_clear_10 rv_c0 ?_
  refine rv_iast h 11 dX6_clear_11 ha1 (fun w5 => ?_)
  refine rv_iinc h 12 (fun v6 => [(1, .int v6), (0, .ref (ad a1))]) dX6_clear_12 1 rfl rv_c1 (by decide) (fun _ => rfl) (fun v6 => ?_)
  refine rv_goto (tgt := 2) h 15 dX6_clear_15 (by decide) ?_
  refine rv_sub h [1, 0] rfl ?_
  exact ih2 v6 w5
def f_X6_majority  (w : rv_W) : rv_R :=
  rv_fx (fun _ _ _ => none) (fun (ag1 : Int32 → Int32 → rv_W → rv_R) (v3 : Int32) (v4 : Int32) (w5 : rv_W) =>
  if v4 < (5 : Int32) then
  rv_ck v4 5 (
  rv_lt ((v3 + (w5 65 v4.toNatClampNeg))) (fun (v11 : Int32) =>
  rv_lt (v4 + (1 : Int32)) (fun (v12 : Int32) =>
  ag1 v11 v12 w5)))
  else
  rv_fx (fun _ _ => none) (fun (ag6 : Int32 → rv_W → rv_R) (v8 : Int32) (w9 : rv_W) =>
  if v8 < (5 : Int32) then
  rv_ck v8 5 (
  if v3 < ((2 : Int32) * (w9 65 v8.toNatClampNeg)) then
  some (v8, w9)
  else
  rv_lt (v8 + (1 : Int32)) (fun (v10 : Int32) =>
  ag6 v10 w9))
  else
  some ((-1 : Int32), w9)) rv_FU (0 : Int32) w5) rv_FU (0 : Int32) (0 : Int32) w
set_option maxRecDepth 100000 in
set_option maxHeartbeats 4000000 in
theorem fn_X6_majority {l : Launch} {D : va_G} {ad : Nat → Nat} {ca : Nat → ClassId} (hJ : rv_J ad)   (w : rv_W) : rv_Fn l D ad ca yX6_majority cX6_majority 3 (some .int) 0 0 [.ref (ad 56)] w (f_X6_majority  w) := by
  refine rv_mk (lv := [(0, .ref (ad 56))]) hJ (by decide +kernel) (Nat.le_of_ble_eq_true rfl) rfl (fun K h hr => ?_)
  have h : rv_Rl D ad ca l RX6 cX6_majority 3 0 0 K := h
  unfold f_X6_majority
  refine rv_iconst h 0 dX6_majority_0 rv_c0 ?_
  refine rv_istore_n (lv' := [(1, .int (0 : Int32)), (0, .ref (ad 56))]) h 1 dX6_majority_1 (by decide) rfl ?_
  refine rv_iconst h 2 dX6_majority_2 rv_c0 ?_
  refine rv_istore_n (lv' := [(2, .int (0 : Int32)), (1, .int (0 : Int32)), (0, .ref (ad 56))]) h 3 dX6_majority_3 (by decide) rfl ?_
  refine rv_sub h [2, 1, 0] rfl ?_
  refine rv_fx_ind (fun (a0 : Int32 → Int32 → rv_W → rv_R) => ∀ (v3 : Int32) (v4 : Int32) (w5 : rv_W), K 4 [(0, .ref (ad 56)), (1, .int v3), (2, .int v4)] [] w5 (a0 v3 v4 w5)) (fun _ _ _ => rv_none h) (fun ag1 ih2 v3 v4 w5 => ?_) rv_FU (0 : Int32) (0 : Int32) w
  refine rv_iload_n h 4 dX6_majority_4 2 rfl ?_
  refine rv_aload_n h 5 dX6_majority_5 0 rfl ?_
  refine rv_getr h 6 dX6_majority_6 rv_s56 rv_fd_X6_23 rfl ?_
  refine rv_len (v := 5) h 9 dX6_majority_9 rv_s65 (by decide) (by decide +kernel) ?_
  refine rv_icmp_ge (tgt := 28) h 10 dX6_majority_10 (by decide) (fun _ => ?_) (fun _ => ?_)
  · refine rv_iload_n h 13 dX6_majority_13 1 rfl ?_
    refine rv_aload_n h 14 dX6_majority_14 0 rfl ?_
    refine rv_getr h 15 dX6_majority_15 rv_s56 rv_fd_X6_23 rfl ?_
    refine rv_iload_n h 18 dX6_majority_18 2 rfl ?_
    refine rv_iald h 19 dX6_majority_19 rv_s65 ?_
    refine rv_iadd h 20 dX6_majority_20 ?_
    refine rv_top (fun v11 => ?_)
    refine rv_istore_n (lv' := [(1, .int v11), (0, .ref (ad 56)), (2, .int v4)]) h 21 dX6_majority_21 (by decide) rfl ?_
    refine rv_iinc h 22 (fun v12 => [(2, .int v12), (1, .int v11), (0, .ref (ad 56))]) dX6_majority_22 2 rfl rv_c1 (by decide) (fun _ => rfl) (fun v12 => ?_)
    refine rv_goto (tgt := 4) h 25 dX6_majority_25 (by decide) ?_
    refine rv_sub h [2, 1, 0] rfl ?_
    exact ih2 v11 v12 w5
  refine rv_iconst h 28 dX6_majority_28 rv_c0 ?_
  refine rv_istore_n (lv' := [(2, .int (0 : Int32)), (0, .ref (ad 56)), (1, .int v3)]) h 29 dX6_majority_29 (by decide) rfl ?_
  refine rv_sub h [1, 2, 0] rfl ?_
  refine rv_fx_ind (fun (a0 : Int32 → rv_W → rv_R) => ∀ (v8 : Int32) (w9 : rv_W), K 30 [(0, .ref (ad 56)), (1, .int v3), (2, .int v8)] [] w9 (a0 v8 w9)) (fun _ _ => rv_none h) (fun ag6 ih7 v8 w9 => ?_) rv_FU (0 : Int32) w5
  refine rv_iload_n h 30 dX6_majority_30 2 rfl ?_
  refine rv_aload_n h 31 dX6_majority_31 0 rfl ?_
  refine rv_getr h 32 dX6_majority_32 rv_s56 rv_fd_X6_23 rfl ?_
  refine rv_len (v := 5) h 35 dX6_majority_35 rv_s65 (by decide) (by decide +kernel) ?_
  refine rv_icmp_ge (tgt := 59) h 36 dX6_majority_36 (by decide) (fun _ => ?_) (fun _ => ?_)
  rotate_left
  · refine rv_iconst h 59 dX6_majority_59 rv_cm1 ?_
    exact rv_reti hr 60 dX6_majority_60
  refine rv_iconst h 39 dX6_majority_39 rv_c2 ?_
  refine rv_aload_n h 40 dX6_majority_40 0 rfl ?_
  refine rv_getr h 41 dX6_majority_41 rv_s56 rv_fd_X6_23 rfl ?_
  refine rv_iload_n h 44 dX6_majority_44 2 rfl ?_
  refine rv_iald h 45 dX6_majority_45 rv_s65 ?_
  refine rv_imul h 46 dX6_majority_46 ?_
  refine rv_iload_n h 47 dX6_majority_47 1 rfl ?_
  refine rv_icmp_le (tgt := 53) h 48 dX6_majority_48 (by decide) (fun _ => ?_) (fun _ => ?_)
  · refine rv_iload_n h 51 dX6_majority_51 2 rfl ?_
    exact rv_reti hr 52 dX6_majority_52
  refine rv_iinc h 53 (fun v10 => [(2, .int v10), (0, .ref (ad 56)), (1, .int v3)]) dX6_majority_53 2 rfl rv_c1 (by decide) (fun _ => rfl) (fun v10 => ?_)
  refine rv_goto (tgt := 30) h 56 dX6_majority_56 (by decide) ?_
  refine rv_sub h [1, 2, 0] rfl ?_
  exact ih7 v10 w9
def f_X6_greatest (a1 : Nat) (p2 : Int32) (w : rv_W) : rv_R :=
  rv_fx (fun _ _ _ _ => none) (fun (ag1 : Int32 → Int32 → Int32 → rv_W → rv_R) (v3 : Int32) (v4 : Int32) (v5 : Int32) (w6 : rv_W) =>
  if v5 < (5 : Int32) then
  rv_bd (f_X1_has p2 v5 w6) (fun (r7 : Int32) (w8 : rv_W) =>
  if r7 = 0 then
  rv_lt (v5 + (1 : Int32)) (fun (v9 : Int32) =>
  ag1 v3 v4 v9 w8)
  else
  rv_ck v5 5 (
  if (w8 a1 v5.toNatClampNeg) < v4 then
  rv_lt (v5 + (1 : Int32)) (fun (v10 : Int32) =>
  ag1 v3 v4 v10 w8)
  else
  rv_ck v5 5 (
  rv_lt (v5 + (1 : Int32)) (fun (v11 : Int32) =>
  ag1 v5 (w8 a1 v5.toNatClampNeg) v11 w8))))
  else
  some (v3, w6)) rv_FU (-1 : Int32) (0 : Int32) (0 : Int32) w
set_option maxRecDepth 100000 in
set_option maxHeartbeats 4000000 in
theorem fn_X6_greatest {l : Launch} {D : va_G} {ad : Nat → Nat} {ca : Nat → ClassId} (hJ : rv_J ad) (a1 : Nat) (p2 : Int32) (ha1 : rv_sh a1 = .inr (0, 5, 0)) (w : rv_W) : rv_Fn l D ad ca yX6_greatest cX6_greatest 5 (some .int) 1 21 [.ref (ad a1), .int p2] w (f_X6_greatest a1 p2 w) := by
  refine rv_mk (lv := [(0, .ref (ad a1)), (1, .int p2)]) hJ (by decide +kernel) (Nat.le_of_ble_eq_true rfl) rfl (fun K h hr => ?_)
  have h : rv_Rl D ad ca l RX6 cX6_greatest 5 1 21 K := h
  unfold f_X6_greatest
  refine rv_iconst h 0 dX6_greatest_0 rv_cm1 ?_
  refine rv_istore_n (lv' := [(2, .int (-1 : Int32)), (0, .ref (ad a1)), (1, .int p2)]) h 1 dX6_greatest_1 (by decide) rfl ?_
  refine rv_iconst h 2 dX6_greatest_2 rv_c0 ?_
  refine rv_istore_n (lv' := [(3, .int (0 : Int32)), (2, .int (-1 : Int32)), (0, .ref (ad a1)), (1, .int p2)]) h 3 dX6_greatest_3 (by decide) rfl ?_
  refine rv_iconst h 4 dX6_greatest_4 rv_c0 ?_
  refine rv_istore (lv' := [(4, .int (0 : Int32)), (3, .int (0 : Int32)), (2, .int (-1 : Int32)), (0, .ref (ad a1)), (1, .int p2)]) h 5 dX6_greatest_5 (by decide) rfl ?_
  refine rv_sub h [3, 4, 2, 1, 0] rfl ?_
  refine rv_fx_ind (fun (a0 : Int32 → Int32 → Int32 → rv_W → rv_R) => ∀ (v3 : Int32) (v4 : Int32) (v5 : Int32) (w6 : rv_W), K 7 [(0, .ref (ad a1)), (1, .int p2), (2, .int v3), (3, .int v4), (4, .int v5)] [] w6 (a0 v3 v4 v5 w6)) (fun _ _ _ _ => rv_none h) (fun ag1 ih2 v3 v4 v5 w6 => ?_) rv_FU (-1 : Int32) (0 : Int32) (0 : Int32) w
  refine rv_iload h 7 dX6_greatest_7 4 rfl ?_
  refine rv_aload_n h 9 dX6_greatest_9 0 rfl ?_
  refine rv_len (v := 5) h 10 dX6_greatest_10 ha1 (by decide) (by decide +kernel) ?_
  refine rv_icmp_ge (tgt := 45) h 11 dX6_greatest_11 (by decide) (fun _ => ?_) (fun _ => ?_)
  rotate_left
  · refine rv_iload_n h 45 dX6_greatest_45 2 rfl ?_
    exact rv_reti hr 46 dX6_greatest_46
  refine rv_iload_n h 14 dX6_greatest_14 1 rfl ?_
  refine rv_iload h 15 dX6_greatest_15 4 rfl ?_
  refine rv_callSi h 17 dX6_greatest_17 (fn_X1_has hJ p2 v5  w6) ce_X1_has lk_X6_30 rfl rfl (Nat.le_of_ble_eq_true rfl) ⟨Nat.le_of_ble_eq_true rfl, Nat.le_of_ble_eq_true rfl⟩ (fun r7 w8 => ?_)
  refine rv_if_eq (tgt := 39) h 20 dX6_greatest_20 (by decide) (fun _ => ?_) (fun _ => ?_)
  · refine rv_iinc h 39 (fun v9 => [(4, .int v9), (0, .ref (ad a1)), (1, .int p2), (2, .int v3), (3, .int v4)]) dX6_greatest_39 4 rfl rv_c1 (by decide) (fun _ => rfl) (fun v9 => ?_)
    refine rv_goto (tgt := 7) h 42 dX6_greatest_42 (by decide) ?_
    refine rv_sub h [1, 2, 3, 4, 0] rfl ?_
    exact ih2 v3 v4 v9 w8
  refine rv_aload_n h 23 dX6_greatest_23 0 rfl ?_
  refine rv_iload h 24 dX6_greatest_24 4 rfl ?_
  refine rv_iald h 26 dX6_greatest_26 ha1 ?_
  refine rv_iload_n h 27 dX6_greatest_27 3 rfl ?_
  refine rv_icmp_lt (tgt := 39) h 28 dX6_greatest_28 (by decide) (fun _ => ?_) (fun _ => ?_)
  · refine rv_iinc h 39 (fun v10 => [(4, .int v10), (0, .ref (ad a1)), (1, .int p2), (2, .int v3), (3, .int v4)]) dX6_greatest_39 4 rfl rv_c1 (by decide) (fun _ => rfl) (fun v10 => ?_)
    refine rv_goto (tgt := 7) h 42 dX6_greatest_42 (by decide) ?_
    refine rv_sub h [1, 2, 3, 4, 0] rfl ?_
    exact ih2 v3 v4 v10 w8
  refine rv_iload h 31 dX6_greatest_31 4 rfl ?_
  refine rv_istore_n (lv' := [(2, .int v5), (0, .ref (ad a1)), (1, .int p2), (3, .int v4), (4, .int v5)]) h 33 dX6_greatest_33 (by decide) rfl ?_
  refine rv_aload_n h 34 dX6_greatest_34 1 rfl ?_
  refine rv_iload h 35 dX6_greatest_35 4 rfl ?_
  refine rv_iald h 37 dX6_greatest_37 ha1 ?_
  refine rv_istore_n (lv' := [(3, .int (w8 a1 v5.toNatClampNeg)), (2, .int v5), (0, .ref (ad a1)), (1, .int p2), (4, .int v5)]) h 38 dX6_greatest_38 (by decide) rfl ?_
  refine rv_iinc h 39 (fun v11 => [(4, .int v11), (3, .int (w8 a1 v5.toNatClampNeg)), (2, .int v5), (0, .ref (ad a1)), (1, .int p2)]) dX6_greatest_39 4 rfl rv_c1 (by decide) (fun _ => rfl) (fun v11 => ?_)
  refine rv_goto (tgt := 7) h 42 dX6_greatest_42 (by decide) ?_
  refine rv_sub h [3, 4, 2, 1, 0] rfl ?_
  exact ih2 v5 (w8 a1 v5.toNatClampNeg) v11 w8
def f_X6_smallest (a1 : Nat) (p2 : Int32) (w : rv_W) : rv_R :=
  rv_fx (fun _ _ _ _ => none) (fun (ag1 : Int32 → Int32 → Int32 → rv_W → rv_R) (v3 : Int32) (v4 : Int32) (v5 : Int32) (w6 : rv_W) =>
  if v5 < (5 : Int32) then
  rv_bd (f_X1_has p2 v5 w6) (fun (r7 : Int32) (w8 : rv_W) =>
  if r7 = 0 then
  rv_lt (v5 + (1 : Int32)) (fun (v9 : Int32) =>
  ag1 v3 v4 v9 w8)
  else
  rv_jn (fun  (w10 : rv_W) =>
  rv_ck v5 5 (
  rv_lt (v5 + (1 : Int32)) (fun (v13 : Int32) =>
  ag1 v5 (w10 a1 v5.toNatClampNeg) v13 w10))) (fun (k11 : rv_W → rv_R) =>
  if v3 = (-1 : Int32) then
  k11 w8
  else
  rv_ck v5 5 (
  if v4 < (w8 a1 v5.toNatClampNeg) then
  rv_lt (v5 + (1 : Int32)) (fun (v14 : Int32) =>
  ag1 v3 v4 v14 w8)
  else
  k11 w8)))
  else
  some (v3, w6)) rv_FU (-1 : Int32) (0 : Int32) (0 : Int32) w
set_option maxRecDepth 100000 in
set_option maxHeartbeats 4000000 in
theorem fn_X6_smallest {l : Launch} {D : va_G} {ad : Nat → Nat} {ca : Nat → ClassId} (hJ : rv_J ad) (a1 : Nat) (p2 : Int32) (ha1 : rv_sh a1 = .inr (0, 5, 0)) (w : rv_W) : rv_Fn l D ad ca yX6_smallest cX6_smallest 5 (some .int) 1 21 [.ref (ad a1), .int p2] w (f_X6_smallest a1 p2 w) := by
  refine rv_mk (lv := [(0, .ref (ad a1)), (1, .int p2)]) hJ (by decide +kernel) (Nat.le_of_ble_eq_true rfl) rfl (fun K h hr => ?_)
  have h : rv_Rl D ad ca l RX6 cX6_smallest 5 1 21 K := h
  unfold f_X6_smallest
  refine rv_iconst h 0 dX6_smallest_0 rv_cm1 ?_
  refine rv_istore_n (lv' := [(2, .int (-1 : Int32)), (0, .ref (ad a1)), (1, .int p2)]) h 1 dX6_smallest_1 (by decide) rfl ?_
  refine rv_iconst h 2 dX6_smallest_2 rv_c0 ?_
  refine rv_istore_n (lv' := [(3, .int (0 : Int32)), (2, .int (-1 : Int32)), (0, .ref (ad a1)), (1, .int p2)]) h 3 dX6_smallest_3 (by decide) rfl ?_
  refine rv_iconst h 4 dX6_smallest_4 rv_c0 ?_
  refine rv_istore (lv' := [(4, .int (0 : Int32)), (3, .int (0 : Int32)), (2, .int (-1 : Int32)), (0, .ref (ad a1)), (1, .int p2)]) h 5 dX6_smallest_5 (by decide) rfl ?_
  refine rv_sub h [3, 4, 2, 1, 0] rfl ?_
  refine rv_fx_ind (fun (a0 : Int32 → Int32 → Int32 → rv_W → rv_R) => ∀ (v3 : Int32) (v4 : Int32) (v5 : Int32) (w6 : rv_W), K 7 [(0, .ref (ad a1)), (1, .int p2), (2, .int v3), (3, .int v4), (4, .int v5)] [] w6 (a0 v3 v4 v5 w6)) (fun _ _ _ _ => rv_none h) (fun ag1 ih2 v3 v4 v5 w6 => ?_) rv_FU (-1 : Int32) (0 : Int32) (0 : Int32) w
  refine rv_iload h 7 dX6_smallest_7 4 rfl ?_
  refine rv_aload_n h 9 dX6_smallest_9 0 rfl ?_
  refine rv_len (v := 5) h 10 dX6_smallest_10 ha1 (by decide) (by decide +kernel) ?_
  refine rv_icmp_ge (tgt := 50) h 11 dX6_smallest_11 (by decide) (fun _ => ?_) (fun _ => ?_)
  rotate_left
  · refine rv_iload_n h 50 dX6_smallest_50 2 rfl ?_
    exact rv_reti hr 51 dX6_smallest_51
  refine rv_iload_n h 14 dX6_smallest_14 1 rfl ?_
  refine rv_iload h 15 dX6_smallest_15 4 rfl ?_
  refine rv_callSi h 17 dX6_smallest_17 (fn_X1_has hJ p2 v5  w6) ce_X1_has lk_X6_30 rfl rfl (Nat.le_of_ble_eq_true rfl) ⟨Nat.le_of_ble_eq_true rfl, Nat.le_of_ble_eq_true rfl⟩ (fun r7 w8 => ?_)
  refine rv_if_eq (tgt := 44) h 20 dX6_smallest_20 (by decide) (fun _ => ?_) (fun _ => ?_)
  · refine rv_iinc h 44 (fun v9 => [(4, .int v9), (0, .ref (ad a1)), (1, .int p2), (2, .int v3), (3, .int v4)]) dX6_smallest_44 4 rfl rv_c1 (by decide) (fun _ => rfl) (fun v9 => ?_)
    refine rv_goto (tgt := 7) h 47 dX6_smallest_47 (by decide) ?_
    refine rv_sub h [1, 2, 3, 4, 0] rfl ?_
    exact ih2 v3 v4 v9 w8
  refine rv_iload_n h 23 dX6_smallest_23 2 rfl ?_
  refine rv_iconst h 24 dX6_smallest_24 rv_cm1 ?_
  refine rv_join (fun (k0 : rv_W → rv_R) => ∀  (w10 : rv_W), K 36 [(0, .ref (ad a1)), (1, .int p2), (4, .int v5)] ([]) w10 (k0 w10)) (fun w10 => ?_) (fun k11 hk12 => ?_)
  · refine rv_iload h 36 dX6_smallest_36 2 rfl ?_
    refine rv_istore_n (lv' := [(2, .int v5), (0, .ref (ad a1)), (1, .int p2), (4, .int v5)]) h 38 dX6_smallest_38 (by decide) rfl ?_
    refine rv_aload_n h 39 dX6_smallest_39 1 rfl ?_
    refine rv_iload h 40 dX6_smallest_40 3 rfl ?_
    refine rv_iald h 42 dX6_smallest_42 ha1 ?_
    refine rv_istore_n (lv' := [(3, .int (w10 a1 v5.toNatClampNeg)), (2, .int v5), (0, .ref (ad a1)), (1, .int p2), (4, .int v5)]) h 43 dX6_smallest_43 (by decide) rfl ?_
    refine rv_iinc h 44 (fun v13 => [(4, .int v13), (3, .int (w10 a1 v5.toNatClampNeg)), (2, .int v5), (0, .ref (ad a1)), (1, .int p2)]) dX6_smallest_44 4 rfl rv_c1 (by decide) (fun _ => rfl) (fun v13 => ?_)
    refine rv_goto (tgt := 7) h 47 dX6_smallest_47 (by decide) ?_
    refine rv_sub h [3, 4, 2, 1, 0] rfl ?_
    exact ih2 v5 (w10 a1 v5.toNatClampNeg) v13 w10
  refine rv_icmp_eq (tgt := 36) h 25 dX6_smallest_25 (by decide) (fun _ => ?_) (fun _ => ?_)
  · refine rv_sub h [0, 1, 4] rfl ?_
    exact hk12 w8
  refine rv_aload_n h 28 dX6_smallest_28 0 rfl ?_
  refine rv_iload h 29 dX6_smallest_29 4 rfl ?_
  refine rv_iald h 31 dX6_smallest_31 ha1 ?_
  refine rv_iload_n h 32 dX6_smallest_32 3 rfl ?_
  refine rv_icmp_gt (tgt := 44) h 33 dX6_smallest_33 (by decide) (fun _ => ?_) (fun _ => ?_)
  rotate_left
  · refine rv_sub h [0, 1, 4] rfl ?_
    exact hk12 w8
  refine rv_iinc h 44 (fun v14 => [(4, .int v14), (0, .ref (ad a1)), (1, .int p2), (2, .int v3), (3, .int v4)]) dX6_smallest_44 4 rfl rv_c1 (by decide) (fun _ => rfl) (fun v14 => ?_)
  refine rv_goto (tgt := 7) h 47 dX6_smallest_47 (by decide) ?_
  refine rv_sub h [1, 2, 3, 4, 0] rfl ?_
  exact ih2 v3 v4 v14 w8
def f_X6_play (p1 : Int32) (w : rv_W) : rv_R :=
  rv_lt (rv_up w 56 0 (0 : Int32)) (fun (w1 : rv_W) =>
  rv_fx (fun _ _ _ => none) (fun (ag2 : Int32 → Int32 → rv_W → rv_R) (v4 : Int32) (v5 : Int32) (w6 : rv_W) =>
  if v5 < (5 : Int32) then
  rv_bd (f_J6_bitCount_0f7a4 v4 w6) (fun (r7 : Int32) (w8 : rv_W) =>
  if (1 : Int32) < r7 then
  rv_jn (fun  (w9 : rv_W) =>
  rv_ck v5 5 (
  rv_bd (f_X6_clear (60 + v5.toNatClampNeg) w9) (fun (r13 : Int32) (w14 : rv_W) =>
  rv_jn (fun  (w15 : rv_W) =>
  rv_ck v5 5 (rv_lt (rv_up w15 58 v5.toNatClampNeg v4) (fun (w18 : rv_W) =>
  rv_ck v5 5 (
  rv_bd (f_X1_without v4 (w18 57 v5.toNatClampNeg) w18) (fun (r19 : Int32) (w20 : rv_W) =>
  rv_lt (rv_up w20 56 0 (v5 + (1 : Int32))) (fun (w21 : rv_W) =>
  rv_lt (v5 + (1 : Int32)) (fun (v22 : Int32) =>
  ag2 r19 v22 w21))))))) (fun (k16 : rv_W → rv_R) =>
  if p1 = (7 : Int32) then
  rv_bd (f_X5_addLasts v4 (60 + v5.toNatClampNeg) w14) (fun (r28 : Int32) (w29 : rv_W) =>
  rv_bd (f_X6_greatest (60 + v5.toNatClampNeg) v4 w29) (fun (r30 : Int32) (w31 : rv_W) =>
  rv_ck v5 5 (rv_lt (rv_up w31 57 v5.toNatClampNeg r30) (fun (w32 : rv_W) =>
  k16 w32))))
  else
  rv_bd (f_X5_addFirsts v4 (60 + v5.toNatClampNeg) w14) (fun (r23 : Int32) (w24 : rv_W) =>
  rv_bd (f_X6_smallest (60 + v5.toNatClampNeg) v4 w24) (fun (r25 : Int32) (w26 : rv_W) =>
  rv_ck v5 5 (rv_lt (rv_up w26 57 v5.toNatClampNeg r25) (fun (w27 : rv_W) =>
  k16 w27)))))))) (fun (k10 : rv_W → rv_R) =>
  if p1 = (7 : Int32) then
  rv_bd (f_X6_clear 65 w8) (fun (r33 : Int32) (w34 : rv_W) =>
  rv_bd (f_X5_addFirsts v4 65 w34) (fun (r35 : Int32) (w36 : rv_W) =>
  rv_bd (f_X6_majority  w36) (fun (r37 : Int32) (w38 : rv_W) =>
  if r37 = (-1 : Int32) then
  k10 w38
  else
  some (((1 : Int32) <<< (r37 &&& 31)), w38))))
  else
  k10 w8)
  else
  some (v4, w8))
  else
  some (v4, w6)) rv_FU (w 24 0) (0 : Int32) w1)
set_option maxRecDepth 100000 in
set_option maxHeartbeats 4000000 in
theorem fn_X6_play {l : Launch} {D : va_G} {ad : Nat → Nat} {ca : Nat → ClassId} (hJ : rv_J ad) (p1 : Int32)  (w : rv_W) : rv_Fn l D ad ca yX6_play cX6_play 6 (some .int) 2 48 [.ref (ad 56), .int p1, .ref (ad 24)] w (f_X6_play p1 w) := by
  refine rv_mk (lv := [(0, .ref (ad 56)), (1, .int p1), (2, .ref (ad 24))]) hJ (by decide +kernel) (Nat.le_of_ble_eq_true rfl) rfl (fun K h hr => ?_)
  have h : rv_Rl D ad ca l RX6 cX6_play 6 2 48 K := h
  unfold f_X6_play
  refine rv_aload_n h 0 dX6_play_0 2 rfl ?_
  refine rv_geti h 1 dX6_play_1 rv_s24 rv_fd_X6_37 rfl ?_
  refine rv_istore_n (lv' := [(3, .int (w 24 0)), (0, .ref (ad 56)), (1, .int p1), (2, .ref (ad 24))]) h 4 dX6_play_4 (by decide) rfl ?_
  refine rv_aload_n h 5 dX6_play_5 1 rfl ?_
  refine rv_iconst h 6 dX6_play_6 rv_c0 ?_
  refine rv_puti h 7 dX6_play_7 rv_s56 rv_fd_X6_26 rfl ⟨rfl, rfl⟩ (fun w1 => ?_)
  refine rv_iconst h 10 dX6_play_10 rv_c0 ?_
  refine rv_istore (lv' := [(4, .int (0 : Int32)), (3, .int (w 24 0)), (0, .ref (ad 56)), (1, .int p1), (2, .ref (ad 24))]) h 11 dX6_play_11 (by decide) rfl ?_
  refine rv_sub h [2, 3, 4, 1, 0] rfl ?_
  refine rv_fx_ind (fun (a0 : Int32 → Int32 → rv_W → rv_R) => ∀ (v4 : Int32) (v5 : Int32) (w6 : rv_W), K 13 [(0, .ref (ad 56)), (1, .int p1), (2, .ref (ad 24)), (3, .int v4), (4, .int v5)] [] w6 (a0 v4 v5 w6)) (fun _ _ _ => rv_none h) (fun ag2 ih3 v4 v5 w6 => ?_) rv_FU (w 24 0) (0 : Int32) w1
  refine rv_iload h 13 dX6_play_13 4 rfl ?_
  refine rv_iconst h 15 dX6_play_15 rv_c5 ?_
  refine rv_icmp_ge (tgt := 163) h 16 dX6_play_16 (by decide) (fun _ => ?_) (fun _ => ?_)
  rotate_left
  · refine rv_iload_n h 163 dX6_play_163 3 rfl ?_
    exact rv_reti hr 164 dX6_play_164
  refine rv_iload_n h 19 dX6_play_19 3 rfl ?_
  refine rv_callSi h 20 dX6_play_20 (fn_J6_bitCount_0f7a4 hJ v4  w6) ce_J6_bitCount_0f7a4 lk_X6_42 rfl rfl (Nat.le_of_ble_eq_true rfl) ⟨Nat.le_of_ble_eq_true rfl, Nat.le_of_ble_eq_true rfl⟩ (fun r7 w8 => ?_)
  refine rv_iconst h 23 dX6_play_23 rv_c1 ?_
  refine rv_icmp_le (tgt := 163) h 24 dX6_play_24 (by decide) (fun _ => ?_) (fun _ => ?_)
  rotate_left
  · refine rv_iload_n h 163 dX6_play_163 3 rfl ?_
    exact rv_reti hr 164 dX6_play_164
  refine rv_iload_n h 27 dX6_play_27 1 rfl ?_
  refine rv_bipush (v := 7) h 28 dX6_play_28 (by decide +kernel) ?_
  refine rv_join (fun (k0 : rv_W → rv_R) => ∀  (w9 : rv_W), K 66 [(0, .ref (ad 56)), (1, .int p1), (2, .ref (ad 24)), (3, .int v4), (4, .int v5)] ([]) w9 (k0 w9)) (fun w9 => ?_) (fun k10 hk11 => ?_)
  · refine rv_aload_n h 66 dX6_play_66 0 rfl ?_
    refine rv_getr h 67 dX6_play_67 rv_s56 rv_fd_X6_20 rfl ?_
    refine rv_iload h 70 dX6_play_70 4 rfl ?_
    refine rv_aald h 72 dX6_play_72 rv_s59 (fun hi12 => ?_)
    refine rv_astore (lv' := [(5, .ref (ad (60 + v5.toNatClampNeg))), (0, .ref (ad 56)), (1, .int p1), (2, .ref (ad 24)), (3, .int v4), (4, .int v5)]) h 73 dX6_play_73 (by decide) rfl ?_
    refine rv_aload h 75 dX6_play_75 0 rfl ?_
    refine rv_callSv h 77 dX6_play_77 (fn_X6_clear hJ (60 + v5.toNatClampNeg) (rv_row60 hi12) w9) ce_X6_clear lk_X6_48 rfl rfl (Nat.le_of_ble_eq_true rfl) ⟨Nat.le_of_ble_eq_true rfl, Nat.le_of_ble_eq_true rfl⟩ (fun r13 w14 => ?_)
    refine rv_iload_n h 80 dX6_play_80 2 rfl ?_
    refine rv_bipush (v := 7) h 81 dX6_play_81 (by decide +kernel) ?_
    refine rv_join (fun (k0 : rv_W → rv_R) => ∀  (w15 : rv_W), K 129 [(0, .ref (ad 56)), (1, .int p1), (2, .ref (ad 24)), (3, .int v4), (4, .int v5)] ([]) w15 (k0 w15)) (fun w15 => ?_) (fun k16 hk17 => ?_)
    · refine rv_aload_n h 129 dX6_play_129 0 rfl ?_
      refine rv_getr h 130 dX6_play_130 rv_s56 rv_fd_X6_15 rfl ?_
      refine rv_iload h 133 dX6_play_133 4 rfl ?_
      refine rv_iload_n h 135 dX6_play_135 3 rfl ?_
      refine rv_iast h 136 dX6_play_136 rv_s58 (fun w18 => ?_)
      refine rv_iload_n h 137 dX6_play_137 3 rfl ?_
      refine rv_aload_n h 138 dX6_play_138 0 rfl ?_
      refine rv_getr h 139 dX6_play_139 rv_s56 rv_fd_X6_9 rfl ?_
      refine rv_iload h 142 dX6_play_142 4 rfl ?_
      refine rv_iald h 144 dX6_play_144 rv_s57 ?_
      refine rv_callSi h 145 dX6_play_145 (fn_X1_without hJ v4 (w18 57 v5.toNatClampNeg)  w18) ce_X1_without lk_X6_70 rfl rfl (Nat.le_of_ble_eq_true rfl) ⟨Nat.le_of_ble_eq_true rfl, Nat.le_of_ble_eq_true rfl⟩ (fun r19 w20 => ?_)
      refine rv_istore_n (lv' := [(3, .int r19), (0, .ref (ad 56)), (1, .int p1), (2, .ref (ad 24)), (4, .int v5)]) h 148 dX6_play_148 (by decide) rfl ?_
      refine rv_aload_n h 149 dX6_play_149 1 rfl ?_
      refine rv_iload h 150 dX6_play_150 4 rfl ?_
      refine rv_iconst h 152 dX6_play_152 rv_c1 ?_
      refine rv_iadd h 153 dX6_play_153 ?_
      refine rv_puti h 154 dX6_play_154 rv_s56 rv_fd_X6_26 rfl ⟨rfl, rfl⟩ (fun w21 => ?_)
      refine rv_iinc h 157 (fun v22 => [(4, .int v22), (3, .int r19), (0, .ref (ad 56)), (1, .int p1), (2, .ref (ad 24))]) dX6_play_157 4 rfl rv_c1 (by decide) (fun _ => rfl) (fun v22 => ?_)
      refine rv_goto (tgt := 13) h 160 dX6_play_160 (by decide) ?_
      refine rv_sub h [2, 3, 4, 1, 0] rfl ?_
      exact ih3 r19 v22 w21
    refine rv_icmp_ne (tgt := 109) h 83 dX6_play_83 (by decide) (fun _ => ?_) (fun _ => ?_)
    rotate_left
    · refine rv_aload_n h 109 dX6_play_109 3 rfl ?_
      refine rv_iload_n h 110 dX6_play_110 4 rfl ?_
      refine rv_aload h 111 dX6_play_111 0 rfl ?_
      refine rv_callVv h 113 dX6_play_113 (fn_X5_addFirsts hJ v4 (60 + v5.toNatClampNeg) (rv_row60 hi12) w14) ce_X5_addFirsts lk_X6_52 rv_s24 rfl rv_cf3 rfl rfl (Nat.le_of_ble_eq_true rfl) ⟨Nat.le_of_ble_eq_true rfl, Nat.le_of_ble_eq_true rfl⟩ (fun r23 w24 => ?_)
      refine rv_aload_n h 116 dX6_play_116 1 rfl ?_
      refine rv_getr h 117 dX6_play_117 rv_s56 rv_fd_X6_9 rfl ?_
      refine rv_iload h 120 dX6_play_120 5 rfl ?_
      refine rv_aload h 122 dX6_play_122 0 rfl ?_
      refine rv_iload_n h 124 dX6_play_124 4 rfl ?_
      refine rv_callSi h 125 dX6_play_125 (fn_X6_smallest hJ (60 + v5.toNatClampNeg) v4 (rv_row60 hi12) w24) ce_X6_smallest lk_X6_67 rfl rfl (Nat.le_of_ble_eq_true rfl) ⟨Nat.le_of_ble_eq_true rfl, Nat.le_of_ble_eq_true rfl⟩ (fun r25 w26 => ?_)
      refine rv_iast h 128 dX6_play_128 rv_s57 (fun w27 => ?_)
      refine rv_sub h [1, 2, 3, 4, 5] rfl ?_
      exact hk17 w27
    refine rv_aload_n h 86 dX6_play_86 3 rfl ?_
    refine rv_iload_n h 87 dX6_play_87 4 rfl ?_
    refine rv_aload h 88 dX6_play_88 0 rfl ?_
    refine rv_callVv h 90 dX6_play_90 (fn_X5_addLasts hJ v4 (60 + v5.toNatClampNeg) (rv_row60 hi12) w14) ce_X5_addLasts lk_X6_60 rv_s24 rfl rv_cf3 rfl rfl (Nat.le_of_ble_eq_true rfl) ⟨Nat.le_of_ble_eq_true rfl, Nat.le_of_ble_eq_true rfl⟩ (fun r28 w29 => ?_)
    refine rv_aload_n h 93 dX6_play_93 1 rfl ?_
    refine rv_getr h 94 dX6_play_94 rv_s56 rv_fd_X6_9 rfl ?_
    refine rv_iload h 97 dX6_play_97 5 rfl ?_
    refine rv_aload h 99 dX6_play_99 0 rfl ?_
    refine rv_iload_n h 101 dX6_play_101 4 rfl ?_
    refine rv_callSi h 102 dX6_play_102 (fn_X6_greatest hJ (60 + v5.toNatClampNeg) v4 (rv_row60 hi12) w29) ce_X6_greatest lk_X6_63 rfl rfl (Nat.le_of_ble_eq_true rfl) ⟨Nat.le_of_ble_eq_true rfl, Nat.le_of_ble_eq_true rfl⟩ (fun r30 w31 => ?_)
    refine rv_iast h 105 dX6_play_105 rv_s57 (fun w32 => ?_)
    refine rv_goto (tgt := 129) h 106 dX6_play_106 (by decide) ?_
    refine rv_sub h [1, 2, 3, 4, 5] rfl ?_
    exact hk17 w32
  refine rv_icmp_ne (tgt := 66) h 30 dX6_play_30 (by decide) (fun _ => ?_) (fun _ => ?_)
  rotate_left
  · refine rv_sub h [0, 1, 2, 3, 4] rfl ?_
    exact hk11 w8
  refine rv_aload_n h 33 dX6_play_33 0 rfl ?_
  refine rv_getr h 34 dX6_play_34 rv_s56 rv_fd_X6_23 rfl ?_
  refine rv_callSv h 37 dX6_play_37 (fn_X6_clear hJ 65 rv_s65 w8) ce_X6_clear lk_X6_48 rfl rfl (Nat.le_of_ble_eq_true rfl) ⟨Nat.le_of_ble_eq_true rfl, Nat.le_of_ble_eq_true rfl⟩ (fun r33 w34 => ?_)
  refine rv_aload_n h 40 dX6_play_40 2 rfl ?_
  refine rv_iload_n h 41 dX6_play_41 3 rfl ?_
  refine rv_aload_n h 42 dX6_play_42 0 rfl ?_
  refine rv_getr h 43 dX6_play_43 rv_s56 rv_fd_X6_23 rfl ?_
  refine rv_callVv h 46 dX6_play_46 (fn_X5_addFirsts hJ v4 65 rv_s65 w34) ce_X5_addFirsts lk_X6_52 rv_s24 rfl rv_cf3 rfl rfl (Nat.le_of_ble_eq_true rfl) ⟨Nat.le_of_ble_eq_true rfl, Nat.le_of_ble_eq_true rfl⟩ (fun r35 w36 => ?_)
  refine rv_aload_n h 49 dX6_play_49 0 rfl ?_
  refine rv_callVi h 50 dX6_play_50 (fn_X6_majority hJ   w36) ce_X6_majority lk_X6_56 rv_s56 rfl rv_cf4 rfl rfl (Nat.le_of_ble_eq_true rfl) ⟨Nat.le_of_ble_eq_true rfl, Nat.le_of_ble_eq_true rfl⟩ (fun r37 w38 => ?_)
  refine rv_istore (lv' := [(5, .int r37), (0, .ref (ad 56)), (1, .int p1), (2, .ref (ad 24)), (3, .int v4), (4, .int v5)]) h 53 dX6_play_53 (by decide) rfl ?_
  refine rv_iload h 55 dX6_play_55 0 rfl ?_
  refine rv_iconst h 57 dX6_play_57 rv_cm1 ?_
  refine rv_icmp_eq (tgt := 66) h 58 dX6_play_58 (by decide) (fun _ => ?_) (fun _ => ?_)
  · refine rv_sub h [1, 2, 3, 4, 5] rfl ?_
    exact hk11 w38
  refine rv_iconst h 61 dX6_play_61 rv_c1 ?_
  refine rv_iload h 62 dX6_play_62 0 rfl ?_
  refine rv_ishl h 64 dX6_play_64 ?_
  exact rv_reti hr 65 dX6_play_65
def f_X7_winnersBy (p1 : Int32) (w : rv_W) : rv_R :=
  rv_jn (fun  (w1 : rv_W) =>
  rv_bd (f_X4_take p1 w1) (fun (r4 : Int32) (w5 : rv_W) =>
  rv_bd (f_X4_most (w5 24 0) w5) (fun (r6 : Int32) (w7 : rv_W) =>
  some (r6, w7)))) (fun (k2 : rv_W → rv_R) =>
  rv_jn (fun  (w8 : rv_W) =>
  rv_bd (f_X6_play p1 w8) (fun (r11 : Int32) (w12 : rv_W) =>
  some (r11, w12))) (fun (k9 : rv_W → rv_R) =>
  if p1 = 3 then
  rv_bd (f_X4_take p1 w) (fun (r14 : Int32) (w15 : rv_W) =>
  rv_bd (f_X4_fewest (w15 24 0) w15) (fun (r16 : Int32) (w17 : rv_W) =>
  some (r16, w17)))
  else
  if p1 = 4 then
  rv_bd (f_X2_findStrengths  w) (fun (r19 : Int32) (w20 : rv_W) =>
  rv_bd (f_X2_strongest  w20) (fun (r21 : Int32) (w22 : rv_W) =>
  some (r21, w22)))
  else
  if p1 = 5 then
  rv_bd (f_X2_lockPairs  w) (fun (r24 : Int32) (w25 : rv_W) =>
  rv_bd (f_X2_sources  w25) (fun (r26 : Int32) (w27 : rv_W) =>
  some (r26, w27)))
  else
  if p1 = 6 then
  k9 w
  else
  if p1 = 7 then
  k9 w
  else
  if p1 = 9 then
  rv_bd (f_X2_champion  w) (fun (r31 : Int32) (w32 : rv_W) =>
  rv_bd (f_X4_take (1 : Int32) w32) (fun (r33 : Int32) (w34 : rv_W) =>
  if r31 = (-1 : Int32) then
  rv_bd (f_X4_most (w34 24 0) w34) (fun (r35 : Int32) (w36 : rv_W) =>
  some (r35, w36))
  else
  some (((1 : Int32) <<< (r31 &&& 31)), w34)))
  else
  if p1 = 10 then
  rv_bd (f_X4_nanson  w) (fun (r38 : Int32) (w39 : rv_W) =>
  some (r38, w39))
  else
  if p1 = 11 then
  rv_bd (f_X3_weigh  w) (fun (r41 : Int32) (w42 : rv_W) =>
  rv_bd (f_X3_leaders (w42 24 0) w42) (fun (r43 : Int32) (w44 : rv_W) =>
  some (r43, w44)))
  else
  if p1 = 8 then
  k2 w
  else
  k2 w))
set_option maxRecDepth 100000 in
set_option maxHeartbeats 4000000 in
theorem fn_X7_winnersBy {l : Launch} {D : va_G} {ad : Nat → Nat} {ca : Nat → ClassId} (hJ : rv_J ad) (p1 : Int32)  (w : rv_W) : rv_Fn l D ad ca yX7_winnersBy cX7_winnersBy 4 (some .int) 3 73 [.ref (ad 53), .int p1, .ref (ad 24)] w (f_X7_winnersBy p1 w) := by
  refine rv_mk (lv := [(0, .ref (ad 53)), (1, .int p1), (2, .ref (ad 24))]) hJ (by decide +kernel) (Nat.le_of_ble_eq_true rfl) rfl (fun K h hr => ?_)
  have h : rv_Rl D ad ca l RX7 cX7_winnersBy 4 3 73 K := h
  unfold f_X7_winnersBy
  refine rv_iload_n h 0 dX7_winnersBy_0 1 rfl ?_
  refine rv_join (fun (k0 : rv_W → rv_R) => ∀  (w1 : rv_W), K 188 [(0, .ref (ad 53)), (1, .int p1), (2, .ref (ad 24))] ([]) w1 (k0 w1)) (fun w1 => ?_) (fun k2 hk3 => ?_)
  · refine rv_aload_n h 188 dX7_winnersBy_188 0 rfl ?_
    refine rv_getr h 189 dX7_winnersBy_189 rv_s53 rv_fd_X7_12 rfl ?_
    refine rv_iload_n h 192 dX7_winnersBy_192 1 rfl ?_
    refine rv_aload_n h 193 dX7_winnersBy_193 2 rfl ?_
    refine rv_callVv h 194 dX7_winnersBy_194 (fn_X4_take hJ p1  w1) ce_X4_take lk_X7_50 rv_s54 rfl rv_cf2 rfl rfl (Nat.le_of_ble_eq_true rfl) ⟨Nat.le_of_ble_eq_true rfl, Nat.le_of_ble_eq_true rfl⟩ (fun r4 w5 => ?_)
    refine rv_aload_n h 197 dX7_winnersBy_197 0 rfl ?_
    refine rv_getr h 198 dX7_winnersBy_198 rv_s53 rv_fd_X7_12 rfl ?_
    refine rv_aload_n h 201 dX7_winnersBy_201 2 rfl ?_
    refine rv_geti h 202 dX7_winnersBy_202 rv_s24 rv_fd_X7_54 rfl ?_
    refine rv_callVi h 205 dX7_winnersBy_205 (fn_X4_most hJ (w5 24 0)  w5) ce_X4_most lk_X7_83 rv_s54 rfl rv_cf2 rfl rfl (Nat.le_of_ble_eq_true rfl) ⟨Nat.le_of_ble_eq_true rfl, Nat.le_of_ble_eq_true rfl⟩ (fun r6 w7 => ?_)
    exact rv_reti hr 208 dX7_winnersBy_208
  refine rv_join (fun (k0 : rv_W → rv_R) => ∀  (w8 : rv_W), K 107 [(0, .ref (ad 53)), (1, .int p1), (2, .ref (ad 24))] ([]) w8 (k0 w8)) (fun w8 => ?_) (fun k9 hk10 => ?_)
  · refine rv_aload_n h 107 dX7_winnersBy_107 0 rfl ?_
    refine rv_getr h 108 dX7_winnersBy_108 rv_s53 rv_fd_X7_21 rfl ?_
    refine rv_iload_n h 111 dX7_winnersBy_111 1 rfl ?_
    refine rv_aload_n h 112 dX7_winnersBy_112 2 rfl ?_
    refine rv_callVi h 113 dX7_winnersBy_113 (fn_X6_play hJ p1  w8) ce_X6_play lk_X7_77 rv_s56 rfl rv_cf4 rfl rfl (Nat.le_of_ble_eq_true rfl) ⟨Nat.le_of_ble_eq_true rfl, Nat.le_of_ble_eq_true rfl⟩ (fun r11 w12 => ?_)
    exact rv_reti hr 116 dX7_winnersBy_116
  refine rv_iff h (fun c13 => ?_) (fun c13 => ?_)
  · refine rv_swIn (off := 51) (tgt := 52) h 1 dX7_winnersBy_1 (3) c13 (by decide) (by decide) (by decide +kernel) (by decide) ?_
    refine rv_aload_n h 52 dX7_winnersBy_52 0 rfl ?_
    refine rv_getr h 53 dX7_winnersBy_53 rv_s53 rv_fd_X7_12 rfl ?_
    refine rv_iload_n h 56 dX7_winnersBy_56 1 rfl ?_
    refine rv_aload_n h 57 dX7_winnersBy_57 2 rfl ?_
    refine rv_callVv h 58 dX7_winnersBy_58 (fn_X4_take hJ p1  w) ce_X4_take lk_X7_50 rv_s54 rfl rv_cf2 rfl rfl (Nat.le_of_ble_eq_true rfl) ⟨Nat.le_of_ble_eq_true rfl, Nat.le_of_ble_eq_true rfl⟩ (fun r14 w15 => ?_)
    refine rv_aload_n h 61 dX7_winnersBy_61 0 rfl ?_
    refine rv_getr h 62 dX7_winnersBy_62 rv_s53 rv_fd_X7_12 rfl ?_
    refine rv_aload_n h 65 dX7_winnersBy_65 2 rfl ?_
    refine rv_geti h 66 dX7_winnersBy_66 rv_s24 rv_fd_X7_54 rfl ?_
    refine rv_callVi h 69 dX7_winnersBy_69 (fn_X4_fewest hJ (w15 24 0)  w15) ce_X4_fewest lk_X7_60 rv_s54 rfl rv_cf2 rfl rfl (Nat.le_of_ble_eq_true rfl) ⟨Nat.le_of_ble_eq_true rfl, Nat.le_of_ble_eq_true rfl⟩ (fun r16 w17 => ?_)
    exact rv_reti hr 72 dX7_winnersBy_72
  refine rv_iff h (fun c18 => ?_) (fun c18 => ?_)
  · refine rv_swIn (off := 72) (tgt := 73) h 1 dX7_winnersBy_1 (4) c18 (by decide) (by decide) (by decide +kernel) (by decide) ?_
    refine rv_aload_n h 73 dX7_winnersBy_73 0 rfl ?_
    refine rv_getr h 74 dX7_winnersBy_74 rv_s53 rv_fd_X7_28 rfl ?_
    refine rv_aload_n h 77 dX7_winnersBy_77 2 rfl ?_
    refine rv_callVv h 78 dX7_winnersBy_78 (fn_X2_findStrengths hJ   w) ce_X2_findStrengths lk_X7_63 rv_s66 rfl rv_cf0 rfl rfl (Nat.le_of_ble_eq_true rfl) ⟨Nat.le_of_ble_eq_true rfl, Nat.le_of_ble_eq_true rfl⟩ (fun r19 w20 => ?_)
    refine rv_aload_n h 81 dX7_winnersBy_81 0 rfl ?_
    refine rv_getr h 82 dX7_winnersBy_82 rv_s53 rv_fd_X7_28 rfl ?_
    refine rv_aload_n h 85 dX7_winnersBy_85 2 rfl ?_
    refine rv_callVi h 86 dX7_winnersBy_86 (fn_X2_strongest hJ   w20) ce_X2_strongest lk_X7_67 rv_s66 rfl rv_cf0 rfl rfl (Nat.le_of_ble_eq_true rfl) ⟨Nat.le_of_ble_eq_true rfl, Nat.le_of_ble_eq_true rfl⟩ (fun r21 w22 => ?_)
    exact rv_reti hr 89 dX7_winnersBy_89
  refine rv_iff h (fun c23 => ?_) (fun c23 => ?_)
  · refine rv_swIn (off := 89) (tgt := 90) h 1 dX7_winnersBy_1 (5) c23 (by decide) (by decide) (by decide +kernel) (by decide) ?_
    refine rv_aload_n h 90 dX7_winnersBy_90 0 rfl ?_
    refine rv_getr h 91 dX7_winnersBy_91 rv_s53 rv_fd_X7_28 rfl ?_
    refine rv_aload_n h 94 dX7_winnersBy_94 2 rfl ?_
    refine rv_callVv h 95 dX7_winnersBy_95 (fn_X2_lockPairs hJ   w) ce_X2_lockPairs lk_X7_71 rv_s66 rfl rv_cf0 rfl rfl (Nat.le_of_ble_eq_true rfl) ⟨Nat.le_of_ble_eq_true rfl, Nat.le_of_ble_eq_true rfl⟩ (fun r24 w25 => ?_)
    refine rv_aload_n h 98 dX7_winnersBy_98 0 rfl ?_
    refine rv_getr h 99 dX7_winnersBy_99 rv_s53 rv_fd_X7_28 rfl ?_
    refine rv_aload_n h 102 dX7_winnersBy_102 2 rfl ?_
    refine rv_callVi h 103 dX7_winnersBy_103 (fn_X2_sources hJ   w25) ce_X2_sources lk_X7_74 rv_s66 rfl rv_cf0 rfl rfl (Nat.le_of_ble_eq_true rfl) ⟨Nat.le_of_ble_eq_true rfl, Nat.le_of_ble_eq_true rfl⟩ (fun r26 w27 => ?_)
    exact rv_reti hr 106 dX7_winnersBy_106
  refine rv_iff h (fun c28 => ?_) (fun c28 => ?_)
  · refine rv_swIn (off := 106) (tgt := 107) h 1 dX7_winnersBy_1 (6) c28 (by decide) (by decide) (by decide +kernel) (by decide) ?_
    refine rv_sub h [0, 1, 2] rfl ?_
    exact hk10 w
  refine rv_iff h (fun c29 => ?_) (fun c29 => ?_)
  · refine rv_swIn (off := 106) (tgt := 107) h 1 dX7_winnersBy_1 (7) c29 (by decide) (by decide) (by decide +kernel) (by decide) ?_
    refine rv_sub h [0, 1, 2] rfl ?_
    exact hk10 w
  refine rv_iff h (fun c30 => ?_) (fun c30 => ?_)
  · refine rv_swIn (off := 116) (tgt := 117) h 1 dX7_winnersBy_1 (9) c30 (by decide) (by decide) (by decide +kernel) (by decide) ?_
    refine rv_aload_n h 117 dX7_winnersBy_117 0 rfl ?_
    refine rv_getr h 118 dX7_winnersBy_118 rv_s53 rv_fd_X7_28 rfl ?_
    refine rv_aload_n h 121 dX7_winnersBy_121 2 rfl ?_
    refine rv_callVi h 122 dX7_winnersBy_122 (fn_X2_champion hJ   w) ce_X2_champion lk_X7_80 rv_s66 rfl rv_cf0 rfl rfl (Nat.le_of_ble_eq_true rfl) ⟨Nat.le_of_ble_eq_true rfl, Nat.le_of_ble_eq_true rfl⟩ (fun r31 w32 => ?_)
    refine rv_istore_n (lv' := [(3, .int r31), (0, .ref (ad 53)), (1, .int p1), (2, .ref (ad 24))]) h 125 dX7_winnersBy_125 (by decide) rfl ?_
    refine rv_aload_n h 126 dX7_winnersBy_126 1 rfl ?_
    refine rv_getr h 127 dX7_winnersBy_127 rv_s53 rv_fd_X7_12 rfl ?_
    refine rv_iconst h 130 dX7_winnersBy_130 rv_c1 ?_
    refine rv_aload_n h 131 dX7_winnersBy_131 3 rfl ?_
    refine rv_callVv h 132 dX7_winnersBy_132 (fn_X4_take hJ (1 : Int32)  w32) ce_X4_take lk_X7_50 rv_s54 rfl rv_cf2 rfl rfl (Nat.le_of_ble_eq_true rfl) ⟨Nat.le_of_ble_eq_true rfl, Nat.le_of_ble_eq_true rfl⟩ (fun r33 w34 => ?_)
    refine rv_iload_n h 135 dX7_winnersBy_135 0 rfl ?_
    refine rv_iconst h 136 dX7_winnersBy_136 rv_cm1 ?_
    refine rv_icmp_ne (tgt := 154) h 137 dX7_winnersBy_137 (by decide) (fun _ => ?_) (fun _ => ?_)
    rotate_left
    · refine rv_iconst h 154 dX7_winnersBy_154 rv_c1 ?_
      refine rv_iload_n h 155 dX7_winnersBy_155 0 rfl ?_
      refine rv_ishl h 156 dX7_winnersBy_156 ?_
      exact rv_reti hr 157 dX7_winnersBy_157
    refine rv_aload_n h 140 dX7_winnersBy_140 1 rfl ?_
    refine rv_getr h 141 dX7_winnersBy_141 rv_s53 rv_fd_X7_12 rfl ?_
    refine rv_aload_n h 144 dX7_winnersBy_144 3 rfl ?_
    refine rv_geti h 145 dX7_winnersBy_145 rv_s24 rv_fd_X7_54 rfl ?_
    refine rv_callVi h 148 dX7_winnersBy_148 (fn_X4_most hJ (w34 24 0)  w34) ce_X4_most lk_X7_83 rv_s54 rfl rv_cf2 rfl rfl (Nat.le_of_ble_eq_true rfl) ⟨Nat.le_of_ble_eq_true rfl, Nat.le_of_ble_eq_true rfl⟩ (fun r35 w36 => ?_)
    refine rv_goto (tgt := 157) h 151 dX7_winnersBy_151 (by decide) ?_
    exact rv_reti hr 157 dX7_winnersBy_157
  refine rv_iff h (fun c37 => ?_) (fun c37 => ?_)
  · refine rv_swIn (off := 157) (tgt := 158) h 1 dX7_winnersBy_1 (10) c37 (by decide) (by decide) (by decide +kernel) (by decide) ?_
    refine rv_aload_n h 158 dX7_winnersBy_158 0 rfl ?_
    refine rv_getr h 159 dX7_winnersBy_159 rv_s53 rv_fd_X7_12 rfl ?_
    refine rv_aload_n h 162 dX7_winnersBy_162 2 rfl ?_
    refine rv_callVi h 163 dX7_winnersBy_163 (fn_X4_nanson hJ   w) ce_X4_nanson lk_X7_86 rv_s54 rfl rv_cf2 rfl rfl (Nat.le_of_ble_eq_true rfl) ⟨Nat.le_of_ble_eq_true rfl, Nat.le_of_ble_eq_true rfl⟩ (fun r38 w39 => ?_)
    exact rv_reti hr 166 dX7_winnersBy_166
  refine rv_iff h (fun c40 => ?_) (fun c40 => ?_)
  · refine rv_swIn (off := 166) (tgt := 167) h 1 dX7_winnersBy_1 (11) c40 (by decide) (by decide) (by decide +kernel) (by decide) ?_
    refine rv_aload_n h 167 dX7_winnersBy_167 0 rfl ?_
    refine rv_getr h 168 dX7_winnersBy_168 rv_s53 rv_fd_X7_35 rfl ?_
    refine rv_aload_n h 171 dX7_winnersBy_171 2 rfl ?_
    refine rv_callVv h 172 dX7_winnersBy_172 (fn_X3_weigh hJ   w) ce_X3_weigh lk_X7_89 rv_s75 rfl rv_cf1 rfl rfl (Nat.le_of_ble_eq_true rfl) ⟨Nat.le_of_ble_eq_true rfl, Nat.le_of_ble_eq_true rfl⟩ (fun r41 w42 => ?_)
    refine rv_aload_n h 175 dX7_winnersBy_175 0 rfl ?_
    refine rv_getr h 176 dX7_winnersBy_176 rv_s53 rv_fd_X7_35 rfl ?_
    refine rv_aload_n h 179 dX7_winnersBy_179 2 rfl ?_
    refine rv_aload_n h 180 dX7_winnersBy_180 2 rfl ?_
    refine rv_geti h 181 dX7_winnersBy_181 rv_s24 rv_fd_X7_54 rfl ?_
    refine rv_callVi h 184 dX7_winnersBy_184 (fn_X3_leaders hJ (w42 24 0)  w42) ce_X3_leaders lk_X7_92 rv_s75 rfl rv_cf1 rfl rfl (Nat.le_of_ble_eq_true rfl) ⟨Nat.le_of_ble_eq_true rfl, Nat.le_of_ble_eq_true rfl⟩ (fun r43 w44 => ?_)
    exact rv_reti hr 187 dX7_winnersBy_187
  refine rv_iff h (fun c45 => ?_) (fun c45 => ?_)
  · refine rv_swIn (off := 187) (tgt := 188) h 1 dX7_winnersBy_1 (8) c45 (by decide) (by decide) (by decide +kernel) (by decide) ?_
    refine rv_sub h [0, 1, 2] rfl ?_
    exact hk3 w
  refine rv_swOut (tgt := 188) h 1 dX7_winnersBy_1 (by have := lv_neT c13 (show (3 : Int32).toInt = 3 by decide); have := lv_neT c18 (show (4 : Int32).toInt = 4 by decide); have := lv_neT c23 (show (5 : Int32).toInt = 5 by decide); have := lv_neT c28 (show (6 : Int32).toInt = 6 by decide); have := lv_neT c29 (show (7 : Int32).toInt = 7 by decide); have := lv_neT c30 (show (9 : Int32).toInt = 9 by decide); have := lv_neT c37 (show (10 : Int32).toInt = 10 by decide); have := lv_neT c40 (show (11 : Int32).toInt = 11 by decide); have := lv_neT c45 (show (8 : Int32).toInt = 8 by decide); omega) (by decide) ?_
  refine rv_sub h [0, 1, 2] rfl ?_
  exact hk3 w
