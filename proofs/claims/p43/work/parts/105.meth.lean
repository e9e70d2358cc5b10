def f_X10_spoilers (p1 : Int32) (w : rv_W) : rv_R :=
  rv_bd (f_X10_isRule p1 w) (fun (r1 : Int32) (w2 : rv_W) =>
  if r1 = 0 then
  some ((-1000001 : Int32), w2)
  else
  rv_bd (f_X10_castAll  w2) (fun (r3 : Int32) (w4 : rv_W) =>
  rv_bd (f_X7_winnerBy p1 w4) (fun (r5 : Int32) (w6 : rv_W) =>
  rv_fx (fun _ _ _ => none) (fun (ag7 : Int32 → Int32 → rv_W → rv_R) (v9 : Int32) (v10 : Int32) (w11 : rv_W) =>
  if v10 < (5 : Int32) then
  if v10 = r5 then
  rv_lt (v10 + (1 : Int32)) (fun (v12 : Int32) =>
  ag7 v9 v12 w11)
  else
  rv_bd (f_X1_has (w11 1 0) v10 w11) (fun (r13 : Int32) (w14 : rv_W) =>
  if r13 = 0 then
  rv_lt (v10 + (1 : Int32)) (fun (v24 : Int32) =>
  ag7 v9 v24 w14)
  else
  rv_bd (f_X1_without (w14 1 0) v10 w14) (fun (r15 : Int32) (w16 : rv_W) =>
  rv_bd (f_X10_castGroups r15 (0 : Int32) (w16 1 1) w16) (fun (r17 : Int32) (w18 : rv_W) =>
  rv_bd (f_X7_winnerBy p1 w18) (fun (r19 : Int32) (w20 : rv_W) =>
  if r19 = r5 then
  rv_lt (v10 + (1 : Int32)) (fun (v21 : Int32) =>
  ag7 v9 v21 w20)
  else
  rv_lt ((v9 ||| ((1 : Int32) <<< (v10 &&& 31)))) (fun (v22 : Int32) =>
  rv_lt (v10 + (1 : Int32)) (fun (v23 : Int32) =>
  ag7 v22 v23 w20))))))
  else
  some (v9, w11)) rv_FU (0 : Int32) (0 : Int32) w6)))
set_option maxRecDepth 100000 in
set_option maxHeartbeats 4000000 in
theorem fn_X10_spoilers {l : Launch} {D : va_G} {ad : Nat → Nat} {ca : Nat → ClassId} (hJ : rv_J ad) (p1 : Int32)  (w : rv_W) : rv_Fn l D ad ca yX10_spoilers cX10_spoilers 5 (some .int) 5 119 [.ref (ad 0), .int p1] w (f_X10_spoilers p1 w) := by
  refine rv_mk (lv := [(0, .ref (ad 0)), (1, .int p1)]) hJ (by decide +kernel) (Nat.le_of_ble_eq_true rfl) rfl (fun K h hr => ?_)
  have h : rv_Rl D ad ca l RX10 cX10_spoilers 5 5 119 K := h
  unfold f_X10_spoilers
  refine rv_iload_n h 0 dX10_spoilers_0 1 rfl ?_
  refine rv_callSi h 1 dX10_spoilers_1 (fn_X10_isRule hJ p1  w) ce_X10_isRule lk_X10_128 rfl rfl (Nat.le_of_ble_eq_true rfl) ⟨Nat.le_of_ble_eq_true rfl, Nat.le_of_ble_eq_true rfl⟩ (fun r1 w2 => ?_)
  refine rv_if_ne (tgt := 10) h 4 dX10_spoilers_4 (by decide) (fun _ => ?_) (fun _ => ?_)
  · refine rv_ldc h 7 dX10_spoilers_7 rv_kc_X10_75 ?_
    exact rv_reti hr 9 dX10_spoilers_9
  refine rv_aload_n h 10 dX10_spoilers_10 0 rfl ?_
  refine rv_callVv h 11 dX10_spoilers_11 (fn_X10_castAll hJ   w2) ce_X10_castAll lk_X10_122 rv_s0 rfl rv_cf8 rfl rfl (Nat.le_of_ble_eq_true rfl) ⟨Nat.le_of_ble_eq_true rfl, Nat.le_of_ble_eq_true rfl⟩ (fun r3 w4 => ?_)
  refine rv_aload_n h 14 dX10_spoilers_14 0 rfl ?_
  refine rv_getr h 15 dX10_spoilers_15 rv_s0 rv_fd_X10_37 rfl ?_
  refine rv_iload_n h 18 dX10_spoilers_18 1 rfl ?_
  refine rv_aload_n h 19 dX10_spoilers_19 0 rfl ?_
  refine rv_getr h 20 dX10_spoilers_20 rv_s0 rv_fd_X10_30 rfl ?_
  refine rv_callVi h 23 dX10_spoilers_23 (fn_X7_winnerBy hJ p1  w4) ce_X7_winnerBy lk_X10_135 rv_s53 rfl rv_cf5 rfl rfl (Nat.le_of_ble_eq_true rfl) ⟨Nat.le_of_ble_eq_true rfl, Nat.le_of_ble_eq_true rfl⟩ (fun r5 w6 => ?_)
  refine rv_istore_n (lv' := [(2, .int r5), (0, .ref (ad 0)), (1, .int p1)]) h 26 dX10_spoilers_26 (by decide) rfl ?_
  refine rv_iconst h 27 dX10_spoilers_27 rv_c0 ?_
  refine rv_istore_n (lv' := [(3, .int (0 : Int32)), (2, .int r5), (0, .ref (ad 0)), (1, .int p1)]) h 28 dX10_spoilers_28 (by decide) rfl ?_
  refine rv_iconst h 29 dX10_spoilers_29 rv_c0 ?_
  refine rv_istore (lv' := [(4, .int (0 : Int32)), (3, .int (0 : Int32)), (2, .int r5), (0, .ref (ad 0)), (1, .int p1)]) h 30 dX10_spoilers_30 (by decide) rfl ?_
  refine rv_sub h [3, 4, 2, 1, 0] rfl ?_
  refine rv_fx_ind (fun (a0 : Int32 → Int32 → rv_W → rv_R) => ∀ (v9 : Int32) (v10 : Int32) (w11 : rv_W), K 32 [(0, .ref (ad 0)), (1, .int p1), (2, .int r5), (3, .int v9), (4, .int v10)] [] w11 (a0 v9 v10 w11)) (fun _ _ _ => rv_none h) (fun ag7 ih8 v9 v10 w11 => ?_) rv_FU (0 : Int32) (0 : Int32) w6
  refine rv_iload h 32 dX10_spoilers_32 4 rfl ?_
  refine rv_iconst h 34 dX10_spoilers_34 rv_c5 ?_
  refine rv_icmp_ge (tgt := 115) h 35 dX10_spoilers_35 (by decide) (fun _ => ?_) (fun _ => ?_)
  rotate_left
  · refine rv_iload_n h 115 dX10_spoilers_115 3 rfl ?_
    exact rv_reti hr 116 dX10_spoilers_116
  refine rv_iload h 38 dX10_spoilers_38 4 rfl ?_
  refine rv_iload_n h 40 dX10_spoilers_40 2 rfl ?_
  refine rv_icmp_eq (tgt := 109) h 41 dX10_spoilers_41 (by decide) (fun _ => ?_) (fun _ => ?_)
  · refine rv_iinc h 109 (fun v12 => [(4, .int v12), (0, .ref (ad 0)), (1, .int p1), (2, .int r5), (3, .int v9)]) dX10_spoilers_109 4 rfl rv_c1 (by decide) (fun _ => rfl) (fun v12 => ?_)
    refine rv_goto (tgt := 32) h 112 dX10_spoilers_112 (by decide) ?_
    refine rv_sub h [1, 2, 3, 4, 0] rfl ?_
    exact ih8 v9 v12 w11
  refine rv_aload_n h 44 dX10_spoilers_44 0 rfl ?_
  refine rv_getr h 45 dX10_spoilers_45 rv_s0 rv_fd_X10_10 rfl ?_
  refine rv_geti h 48 dX10_spoilers_48 rv_s1 rv_fd_X10_105 rfl ?_
  refine rv_iload h 51 dX10_spoilers_51 4 rfl ?_
  refine rv_callSi h 53 dX10_spoilers_53 (fn_X1_has hJ (w11 1 0) v10  w11) ce_X1_has lk_X10_108 rfl rfl (Nat.le_of_ble_eq_true rfl) ⟨Nat.le_of_ble_eq_true rfl, Nat.le_of_ble_eq_true rfl⟩ (fun r13 w14 => ?_)
  refine rv_if_ne (tgt := 62) h 56 dX10_spoilers_56 (by decide) (fun _ => ?_) (fun _ => ?_)
  · refine rv_goto (tgt := 109) h 59 dX10_spoilers_59 (by decide) ?_
    refine rv_iinc h 109 (fun v24 => [(4, .int v24), (0, .ref (ad 0)), (1, .int p1), (2, .int r5), (3, .int v9)]) dX10_spoilers_109 4 rfl rv_c1 (by decide) (fun _ => rfl) (fun v24 => ?_)
    refine rv_goto (tgt := 32) h 112 dX10_spoilers_112 (by decide) ?_
    refine rv_sub h [1, 2, 3, 4, 0] rfl ?_
    exact ih8 v9 v24 w14
  refine rv_aload_n h 62 dX10_spoilers_62 0 rfl ?_
  refine rv_aload_n h 63 dX10_spoilers_63 0 rfl ?_
  refine rv_getr h 64 dX10_spoilers_64 rv_s0 rv_fd_X10_10 rfl ?_
  refine rv_geti h 67 dX10_spoilers_67 rv_s1 rv_fd_X10_105 rfl ?_
  refine rv_iload h 70 dX10_spoilers_70 4 rfl ?_
  refine rv_callSi h 72 dX10_spoilers_72 (fn_X1_without hJ (w14 1 0) v10  w14) ce_X1_without lk_X10_112 rfl rfl (Nat.le_of_ble_eq_true rfl) ⟨Nat.le_of_ble_eq_true rfl, Nat.le_of_ble_eq_true rfl⟩ (fun r15 w16 => ?_)
  refine rv_iconst h 75 dX10_spoilers_75 rv_c0 ?_
  refine rv_aload_n h 76 dX10_spoilers_76 0 rfl ?_
  refine rv_getr h 77 dX10_spoilers_77 rv_s0 rv_fd_X10_10 rfl ?_
  refine rv_geti h 80 dX10_spoilers_80 rv_s1 rv_fd_X10_68 rfl ?_
  refine rv_callVv h 83 dX10_spoilers_83 (fn_X10_castGroups hJ r15 (0 : Int32) (w16 1 1)  w16) ce_X10_castGroups lk_X10_251 rv_s0 rfl rv_cf8 rfl rfl (Nat.le_of_ble_eq_true rfl) ⟨Nat.le_of_ble_eq_true rfl, Nat.le_of_ble_eq_true rfl⟩ (fun r17 w18 => ?_)
  refine rv_aload_n h 86 dX10_spoilers_86 0 rfl ?_
  refine rv_getr h 87 dX10_spoilers_87 rv_s0 rv_fd_X10_37 rfl ?_
  refine rv_iload_n h 90 dX10_spoilers_90 1 rfl ?_
  refine rv_aload_n h 91 dX10_spoilers_91 0 rfl ?_
  refine rv_getr h 92 dX10_spoilers_92 rv_s0 rv_fd_X10_30 rfl ?_
  refine rv_callVi h 95 dX10_spoilers_95 (fn_X7_winnerBy hJ p1  w18) ce_X7_winnerBy lk_X10_135 rv_s53 rfl rv_cf5 rfl rfl (Nat.le_of_ble_eq_true rfl) ⟨Nat.le_of_ble_eq_true rfl, Nat.le_of_ble_eq_true rfl⟩ (fun r19 w20 => ?_)
  refine rv_iload_n h 98 dX10_spoilers_98 2 rfl ?_
  refine rv_icmp_eq (tgt := 109) h 99 dX10_spoilers_99 (by decide) (fun _ => ?_) (fun _ => ?_)
  · refine rv_iinc h 109 (fun v21 => [(4, .int v21), (0, .ref (ad 0)), (1, .int p1), (2, .int r5), (3, .int v9)]) dX10_spoilers_109 4 rfl rv_c1 (by decide) (fun _ => rfl) (fun v21 => ?_)
    refine rv_goto (tgt := 32) h 112 dX10_spoilers_112 (by decide) ?_
    refine rv_sub h [1, 2, 3, 4, 0] rfl ?_
    exact ih8 v9 v21 w20
  refine rv_iload_n h 102 dX10_spoilers_102 3 rfl ?_
  refine rv_iconst h 103 dX10_spoilers_103 rv_c1 ?_
  refine rv_iload h 104 dX10_spoilers_104 4 rfl ?_
  refine rv_ishl h 106 dX10_spoilers_106 ?_
  refine rv_ior h 107 dX10_spoilers_107 ?_
  refine rv_top (fun v22 => ?_)
  refine rv_istore_n (lv' := [(3, .int v22), (0, .ref (ad 0)), (1, .int p1), (2, .int r5), (4, .int v10)]) h 108 dX10_spoilers_108 (by decide) rfl ?_
  refine rv_iinc h 109 (fun v23 => [(4, .int v23), (3, .int v22), (0, .ref (ad 0)), (1, .int p1), (2, .int r5)]) dX10_spoilers_109 4 rfl rv_c1 (by decide) (fun _ => rfl) (fun v23 => ?_)
  refine rv_goto (tgt := 32) h 112 dX10_spoilers_112 (by decide) ?_
  refine rv_sub h [2, 3, 4, 1, 0] rfl ?_
  exact ih8 v22 v23 w20
def f_X10_split (p1 : Int32) (w : rv_W) : rv_R :=
  rv_bd (f_X10_isRule p1 w) (fun (r1 : Int32) (w2 : rv_W) =>
  if r1 = 0 then
  some ((-1000001 : Int32), w2)
  else
  rv_bd (f_X10_castAll  w2) (fun (r3 : Int32) (w4 : rv_W) =>
  rv_bd (f_X7_winnerBy p1 w4) (fun (r5 : Int32) (w6 : rv_W) =>
  rv_fx (fun _ _ => none) (fun (ag7 : Int32 → rv_W → rv_R) (v9 : Int32) (w10 : rv_W) =>
  if v9 < (w10 1 1) then
  rv_bd (f_X10_castGroups (w10 1 0) (0 : Int32) v9 w10) (fun (r11 : Int32) (w12 : rv_W) =>
  rv_bd (f_X7_winnerBy p1 w12) (fun (r13 : Int32) (w14 : rv_W) =>
  if r13 = r5 then
  rv_lt (v9 + (1 : Int32)) (fun (v20 : Int32) =>
  ag7 v20 w14)
  else
  rv_bd (f_X10_castGroups (w14 1 0) v9 (w14 1 1) w14) (fun (r15 : Int32) (w16 : rv_W) =>
  rv_bd (f_X7_winnerBy p1 w16) (fun (r17 : Int32) (w18 : rv_W) =>
  if r17 = r13 then
  some (v9, w18)
  else
  rv_lt (v9 + (1 : Int32)) (fun (v19 : Int32) =>
  ag7 v19 w18)))))
  else
  some ((-1000000 : Int32), w10)) rv_FU (1 : Int32) w6)))
set_option maxRecDepth 100000 in
set_option maxHeartbeats 4000000 in
theorem fn_X10_split {l : Launch} {D : va_G} {ad : Nat → Nat} {ca : Nat → ClassId} (hJ : rv_J ad) (p1 : Int32)  (w : rv_W) : rv_Fn l D ad ca yX10_split cX10_split 5 (some .int) 5 119 [.ref (ad 0), .int p1] w (f_X10_split p1 w) := by
  refine rv_mk (lv := [(0, .ref (ad 0)), (1, .int p1)]) hJ (by decide +kernel) (Nat.le_of_ble_eq_true rfl) rfl (fun K h hr => ?_)
  have h : rv_Rl D ad ca l RX10 cX10_split 5 5 119 K := h
  unfold f_X10_split
  refine rv_iload_n h 0 dX10_split_0 1 rfl ?_
  refine rv_callSi h 1 dX10_split_1 (fn_X10_isRule hJ p1  w) ce_X10_isRule lk_X10_128 rfl rfl (Nat.le_of_ble_eq_true rfl) ⟨Nat.le_of_ble_eq_true rfl, Nat.le_of_ble_eq_true rfl⟩ (fun r1 w2 => ?_)
  refine rv_if_ne (tgt := 10) h 4 dX10_split_4 (by decide) (fun _ => ?_) (fun _ => ?_)
  · refine rv_ldc h 7 dX10_split_7 rv_kc_X10_75 ?_
    exact rv_reti hr 9 dX10_split_9
  refine rv_aload_n h 10 dX10_split_10 0 rfl ?_
  refine rv_callVv h 11 dX10_split_11 (fn_X10_castAll hJ   w2) ce_X10_castAll lk_X10_122 rv_s0 rfl rv_cf8 rfl rfl (Nat.le_of_ble_eq_true rfl) ⟨Nat.le_of_ble_eq_true rfl, Nat.le_of_ble_eq_true rfl⟩ (fun r3 w4 => ?_)
  refine rv_aload_n h 14 dX10_split_14 0 rfl ?_
  refine rv_getr h 15 dX10_split_15 rv_s0 rv_fd_X10_37 rfl ?_
  refine rv_iload_n h 18 dX10_split_18 1 rfl ?_
  refine rv_aload_n h 19 dX10_split_19 0 rfl ?_
  refine rv_getr h 20 dX10_split_20 rv_s0 rv_fd_X10_30 rfl ?_
  refine rv_callVi h 23 dX10_split_23 (fn_X7_winnerBy hJ p1  w4) ce_X7_winnerBy lk_X10_135 rv_s53 rfl rv_cf5 rfl rfl (Nat.le_of_ble_eq_true rfl) ⟨Nat.le_of_ble_eq_true rfl, Nat.le_of_ble_eq_true rfl⟩ (fun r5 w6 => ?_)
  refine rv_istore_n (lv' := [(2, .int r5), (0, .ref (ad 0)), (1, .int p1)]) h 26 dX10_split_26 (by decide) rfl ?_
  refine rv_iconst h 27 dX10_split_27 rv_c1 ?_
  refine rv_istore_n (lv' := [(3, .int (1 : Int32)), (2, .int r5), (0, .ref (ad 0)), (1, .int p1)]) h 28 dX10_split_28 (by decide) rfl ?_
  refine rv_sub h [2, 3, 1, 0] rfl ?_
  refine rv_fx_ind (fun (a0 : Int32 → rv_W → rv_R) => ∀ (v9 : Int32) (w10 : rv_W), K 29 [(0, .ref (ad 0)), (1, .int p1), (2, .int r5), (3, .int v9)] [] w10 (a0 v9 w10)) (fun _ _ => rv_none h) (fun ag7 ih8 v9 w10 => ?_) rv_FU (1 : Int32) w6
  refine rv_iload_n h 29 dX10_split_29 3 rfl ?_
  refine rv_aload_n h 30 dX10_split_30 0 rfl ?_
  refine rv_getr h 31 dX10_split_31 rv_s0 rv_fd_X10_10 rfl ?_
  refine rv_geti h 34 dX10_split_34 rv_s1 rv_fd_X10_68 rfl ?_
  refine rv_icmp_ge (tgt := 120) h 37 dX10_split_37 (by decide) (fun _ => ?_) (fun _ => ?_)
  rotate_left
  · refine rv_ldc h 120 dX10_split_120 rv_kc_X10_227 ?_
    exact rv_reti hr 122 dX10_split_122
  refine rv_aload_n h 40 dX10_split_40 0 rfl ?_
  refine rv_aload_n h 41 dX10_split_41 0 rfl ?_
  refine rv_getr h 42 dX10_split_42 rv_s0 rv_fd_X10_10 rfl ?_
  refine rv_geti h 45 dX10_split_45 rv_s1 rv_fd_X10_105 rfl ?_
  refine rv_iconst h 48 dX10_split_48 rv_c0 ?_
  refine rv_iload_n h 49 dX10_split_49 3 rfl ?_
  refine rv_callVv h 50 dX10_split_50 (fn_X10_castGroups hJ (w10 1 0) (0 : Int32) v9  w10) ce_X10_castGroups lk_X10_251 rv_s0 rfl rv_cf8 rfl rfl (Nat.le_of_ble_eq_true rfl) ⟨Nat.le_of_ble_eq_true rfl, Nat.le_of_ble_eq_true rfl⟩ (fun r11 w12 => ?_)
  refine rv_aload_n h 53 dX10_split_53 0 rfl ?_
  refine rv_getr h 54 dX10_split_54 rv_s0 rv_fd_X10_37 rfl ?_
  refine rv_iload_n h 57 dX10_split_57 1 rfl ?_
  refine rv_aload_n h 58 dX10_split_58 0 rfl ?_
  refine rv_getr h 59 dX10_split_59 rv_s0 rv_fd_X10_30 rfl ?_
  refine rv_callVi h 62 dX10_split_62 (fn_X7_winnerBy hJ p1  w12) ce_X7_winnerBy lk_X10_135 rv_s53 rfl rv_cf5 rfl rfl (Nat.le_of_ble_eq_true rfl) ⟨Nat.le_of_ble_eq_true rfl, Nat.le_of_ble_eq_true rfl⟩ (fun r13 w14 => ?_)
  refine rv_istore (lv' := [(4, .int r13), (0, .ref (ad 0)), (1, .int p1), (2, .int r5), (3, .int v9)]) h 65 dX10_split_65 (by decide) rfl ?_
  refine rv_iload h 67 dX10_split_67 0 rfl ?_
  refine rv_iload_n h 69 dX10_split_69 3 rfl ?_
  refine rv_icmp_ne (tgt := 76) h 70 dX10_split_70 (by decide) (fun _ => ?_) (fun _ => ?_)
  · refine rv_goto (tgt := 114) h 73 dX10_split_73 (by decide) ?_
    refine rv_iinc h 114 (fun v20 => [(3, .int v20), (4, .int r13), (0, .ref (ad 0)), (1, .int p1), (2, .int r5)]) dX10_split_114 4 rfl rv_c1 (by decide) (fun _ => rfl) (fun v20 => ?_)
    refine rv_goto (tgt := 29) h 117 dX10_split_117 (by decide) ?_
    refine rv_sub h [2, 3, 4, 0] rfl ?_
    exact ih8 v20 w14
  refine rv_aload_n h 76 dX10_split_76 1 rfl ?_
  refine rv_aload_n h 77 dX10_split_77 1 rfl ?_
  refine rv_getr h 78 dX10_split_78 rv_s0 rv_fd_X10_10 rfl ?_
  refine rv_geti h 81 dX10_split_81 rv_s1 rv_fd_X10_105 rfl ?_
  refine rv_iload_n h 84 dX10_split_84 4 rfl ?_
  refine rv_aload_n h 85 dX10_split_85 1 rfl ?_
  refine rv_getr h 86 dX10_split_86 rv_s0 rv_fd_X10_10 rfl ?_
  refine rv_geti h 89 dX10_split_89 rv_s1 rv_fd_X10_68 rfl ?_
  refine rv_callVv h 92 dX10_split_92 (fn_X10_castGroups hJ (w14 1 0) v9 (w14 1 1)  w14) ce_X10_castGroups lk_X10_251 rv_s0 rfl rv_cf8 rfl rfl (Nat.le_of_ble_eq_true rfl) ⟨Nat.le_of_ble_eq_true rfl, Nat.le_of_ble_eq_true rfl⟩ (fun r15 w16 => ?_)
  refine rv_aload_n h 95 dX10_split_95 1 rfl ?_
  refine rv_getr h 96 dX10_split_96 rv_s0 rv_fd_X10_37 rfl ?_
  refine rv_iload_n h 99 dX10_split_99 2 rfl ?_
  refine rv_aload_n h 100 dX10_split_100 1 rfl ?_
  refine rv_getr h 101 dX10_split_101 rv_s0 rv_fd_X10_30 rfl ?_
  refine rv_callVi h 104 dX10_split_104 (fn_X7_winnerBy hJ p1  w16) ce_X7_winnerBy lk_X10_135 rv_s53 rfl rv_cf5 rfl rfl (Nat.le_of_ble_eq_true rfl) ⟨Nat.le_of_ble_eq_true rfl, Nat.le_of_ble_eq_true rfl⟩ (fun r17 w18 => ?_)
  refine rv_iload h 107 dX10_split_107 0 rfl ?_
  refine rv_icmp_ne (tgt := 114) h 109 dX10_split_109 (by decide) (fun _ => ?_) (fun _ => ?_)
  · refine rv_iload_n h 112 dX10_split_112 4 rfl ?_
    exact rv_reti hr 113 dX10_split_113
  refine rv_iinc h 114 (fun v19 => [(3, .int v19), (4, .int r13), (0, .ref (ad 0)), (1, .int p1), (2, .int r5)]) dX10_split_114 4 rfl rv_c1 (by decide) (fun _ => rfl) (fun v19 => ?_)
  refine rv_goto (tgt := 29) h 117 dX10_split_117 (by decide) ?_
  refine rv_sub h [2, 3, 4, 0] rfl ?_
  exact ih8 v19 w18
def f_X10_removals (p1 : Int32) (w : rv_W) : rv_R :=
  rv_bd (f_X10_isRule p1 w) (fun (r1 : Int32) (w2 : rv_W) =>
  if r1 = 0 then
  some ((-1000001 : Int32), w2)
  else
  rv_bd (f_X10_castAll  w2) (fun (r3 : Int32) (w4 : rv_W) =>
  rv_bd (f_X7_winnerBy p1 w4) (fun (r5 : Int32) (w6 : rv_W) =>
  rv_fx (fun _ _ => none) (fun (ag7 : Int32 → rv_W → rv_R) (v9 : Int32) (w10 : rv_W) =>
  if (100 : Int32) < v9 then
  some ((-1000000 : Int32), w10)
  else
  rv_fx (fun _ _ => none) (fun (ag11 : Int32 → rv_W → rv_R) (v13 : Int32) (w14 : rv_W) =>
  if v13 < (w14 1 1) then
  rv_bd (f_X8_votersOf 1 v13 w14) (fun (r16 : Int32) (w17 : rv_W) =>
  rv_lt ((r16 - v9)) (fun (v18 : Int32) =>
  if v18 < 0 then
  rv_lt (v13 + (1 : Int32)) (fun (v19 : Int32) =>
  ag11 v19 w17)
  else
  rv_bd (f_X8_ballotOf 1 v13 w17) (fun (r20 : Int32) (w21 : rv_W) =>
  rv_bd (f_X10_winnerWith p1 v13 v18 r20 w21) (fun (r22 : Int32) (w23 : rv_W) =>
  if r22 = r5 then
  rv_lt (v13 + (1 : Int32)) (fun (v24 : Int32) =>
  ag11 v24 w23)
  else
  some (v9, w23)))))
  else
  rv_lt (v9 + (1 : Int32)) (fun (v15 : Int32) =>
  ag7 v15 w14)) rv_FU (0 : Int32) w10) rv_FU (1 : Int32) w6)))
set_option maxRecDepth 100000 in
set_option maxHeartbeats 4000000 in
theorem fn_X10_removals {l : Launch} {D : va_G} {ad : Nat → Nat} {ca : Nat → ClassId} (hJ : rv_J ad) (p1 : Int32)  (w : rv_W) : rv_Fn l D ad ca yX10_removals cX10_removals 6 (some .int) 6 144 [.ref (ad 0), .int p1] w (f_X10_removals p1 w) := by
  refine rv_mk (lv := [(0, .ref (ad 0)), (1, .int p1)]) hJ (by decide +kernel) (Nat.le_of_ble_eq_true rfl) rfl (fun K h hr => ?_)
  have h : rv_Rl D ad ca l RX10 cX10_removals 6 6 144 K := h
  unfold f_X10_removals
  refine rv_iload_n h 0 dX10_removals_0 1 rfl ?_
  refine rv_callSi h 1 dX10_removals_1 (fn_X10_isRule hJ p1  w) ce_X10_isRule lk_X10_128 rfl rfl (Nat.le_of_ble_eq_true rfl) ⟨Nat.le_of_ble_eq_true rfl, Nat.le_of_ble_eq_true rfl⟩ (fun r1 w2 => ?_)
  refine rv_if_ne (tgt := 10) h 4 dX10_removals_4 (by decide) (fun _ => ?_) (fun _ => ?_)
  · refine rv_ldc h 7 dX10_removals_7 rv_kc_X10_75 ?_
    exact rv_reti hr 9 dX10_removals_9
  refine rv_aload_n h 10 dX10_removals_10 0 rfl ?_
  refine rv_callVv h 11 dX10_removals_11 (fn_X10_castAll hJ   w2) ce_X10_castAll lk_X10_122 rv_s0 rfl rv_cf8 rfl rfl (Nat.le_of_ble_eq_true rfl) ⟨Nat.le_of_ble_eq_true rfl, Nat.le_of_ble_eq_true rfl⟩ (fun r3 w4 => ?_)
  refine rv_aload_n h 14 dX10_removals_14 0 rfl ?_
  refine rv_getr h 15 dX10_removals_15 rv_s0 rv_fd_X10_37 rfl ?_
  refine rv_iload_n h 18 dX10_removals_18 1 rfl ?_
  refine rv_aload_n h 19 dX10_removals_19 0 rfl ?_
  refine rv_getr h 20 dX10_removals_20 rv_s0 rv_fd_X10_30 rfl ?_
  refine rv_callVi h 23 dX10_removals_23 (fn_X7_winnerBy hJ p1  w4) ce_X7_winnerBy lk_X10_135 rv_s53 rfl rv_cf5 rfl rfl (Nat.le_of_ble_eq_true rfl) ⟨Nat.le_of_ble_eq_true rfl, Nat.le_of_ble_eq_true rfl⟩ (fun r5 w6 => ?_)
  refine rv_istore_n (lv' := [(2, .int r5), (0, .ref (ad 0)), (1, .int p1)]) h 26 dX10_removals_26 (by decide) rfl ?_
  refine rv_iconst h 27 dX10_removals_27 rv_c1 ?_
  refine rv_istore_n (lv' := [(3, .int (1 : Int32)), (2, .int r5), (0, .ref (ad 0)), (1, .int p1)]) h 28 dX10_removals_28 (by decide) rfl ?_
  refine rv_sub h [2, 3, 1, 0] rfl ?_
  refine rv_fx_ind (fun (a0 : Int32 → rv_W → rv_R) => ∀ (v9 : Int32) (w10 : rv_W), K 29 [(0, .ref (ad 0)), (1, .int p1), (2, .int r5), (3, .int v9)] [] w10 (a0 v9 w10)) (fun _ _ => rv_none h) (fun ag7 ih8 v9 w10 => ?_) rv_FU (1 : Int32) w6
  refine rv_iload_n h 29 dX10_removals_29 3 rfl ?_
  refine rv_bipush (v := 100) h 30 dX10_removals_30 (by decide +kernel) ?_
  refine rv_icmp_gt (tgt := 104) h 32 dX10_removals_32 (by decide) (fun _ => ?_) (fun _ => ?_)
  · refine rv_ldc h 104 dX10_removals_104 rv_kc_X10_227 ?_
    exact rv_reti hr 106 dX10_removals_106
  refine rv_iconst h 35 dX10_removals_35 rv_c0 ?_
  refine rv_istore (lv' := [(4, .int (0 : Int32)), (0, .ref (ad 0)), (1, .int p1), (2, .int r5), (3, .int v9)]) h 36 dX10_removals_36 (by decide) rfl ?_
  refine rv_sub h [1, 2, 3, 4, 0] rfl ?_
  refine rv_fx_ind (fun (a0 : Int32 → rv_W → rv_R) => ∀ (v13 : Int32) (w14 : rv_W), K 38 [(0, .ref (ad 0)), (1, .int p1), (2, .int r5), (3, .int v9), (4, .int v13)] [] w14 (a0 v13 w14)) (fun _ _ => rv_none h) (fun ag11 ih12 v13 w14 => ?_) rv_FU (0 : Int32) w10
  refine rv_iload h 38 dX10_removals_38 4 rfl ?_
  refine rv_aload_n h 40 dX10_removals_40 0 rfl ?_
  refine rv_getr h 41 dX10_removals_41 rv_s0 rv_fd_X10_10 rfl ?_
  refine rv_geti h 44 dX10_removals_44 rv_s1 rv_fd_X10_68 rfl ?_
  refine rv_icmp_ge (tgt := 98) h 47 dX10_removals_47 (by decide) (fun _ => ?_) (fun _ => ?_)
  rotate_left
  · refine rv_iinc h 98 (fun v15 => [(3, .int v15), (0, .ref (ad 0)), (1, .int p1), (2, .int r5), (4, .int v13)]) dX10_removals_98 3 rfl rv_c1 (by decide) (fun _ => rfl) (fun v15 => ?_)
    refine rv_goto (tgt := 29) h 101 dX10_removals_101 (by decide) ?_
    refine rv_sub h [1, 2, 3, 0] rfl ?_
    exact ih8 v15 w14
  refine rv_aload_n h 50 dX10_removals_50 0 rfl ?_
  refine rv_getr h 51 dX10_removals_51 rv_s0 rv_fd_X10_10 rfl ?_
  refine rv_iload h 54 dX10_removals_54 4 rfl ?_
  refine rv_callVi h 56 dX10_removals_56 (fn_X8_votersOf hJ 1 v13 (by decide) w14) ce_X8_votersOf lk_X10_80 rv_s1 rfl rv_cf6 rfl rfl (Nat.le_of_ble_eq_true rfl) ⟨Nat.le_of_ble_eq_true rfl, Nat.le_of_ble_eq_true rfl⟩ (fun r16 w17 => ?_)
  refine rv_iload_n h 59 dX10_removals_59 3 rfl ?_
  refine rv_isub h 60 dX10_removals_60 ?_
  refine rv_top (fun v18 => ?_)
  refine rv_istore (lv' := [(5, .int v18), (0, .ref (ad 0)), (1, .int p1), (2, .int r5), (3, .int v9), (4, .int v13)]) h 61 dX10_removals_61 (by decide) rfl ?_
  refine rv_iload h 63 dX10_removals_63 0 rfl ?_
  refine rv_if_lt (tgt := 92) h 65 dX10_removals_65 (by decide) (fun _ => ?_) (fun _ => ?_)
  · refine rv_iinc h 92 (fun v19 => [(4, .int v19), (5, .int v18), (0, .ref (ad 0)), (1, .int p1), (2, .int r5), (3, .int v9)]) dX10_removals_92 5 rfl rv_c1 (by decide) (fun _ => rfl) (fun v19 => ?_)
    refine rv_goto (tgt := 38) h 95 dX10_removals_95 (by decide) ?_
    refine rv_sub h [2, 3, 4, 5, 0] rfl ?_
    exact ih12 v19 w17
  refine rv_aload_n h 68 dX10_removals_68 1 rfl ?_
  refine rv_iload_n h 69 dX10_removals_69 2 rfl ?_
  refine rv_iload h 70 dX10_removals_70 5 rfl ?_
  refine rv_iload h 72 dX10_removals_72 0 rfl ?_
  refine rv_aload_n h 74 dX10_removals_74 1 rfl ?_
  refine rv_getr h 75 dX10_removals_75 rv_s0 rv_fd_X10_10 rfl ?_
  refine rv_iload h 78 dX10_removals_78 5 rfl ?_
  refine rv_callVi h 80 dX10_removals_80 (fn_X8_ballotOf hJ 1 v13 (by decide) w17) ce_X8_ballotOf lk_X10_83 rv_s1 rfl rv_cf6 rfl rfl (Nat.le_of_ble_eq_true rfl) ⟨Nat.le_of_ble_eq_true rfl, Nat.le_of_ble_eq_true rfl⟩ (fun r20 w21 => ?_)
  refine rv_callVi h 83 dX10_removals_83 (fn_X10_winnerWith hJ p1 v13 v18 r20  w21) ce_X10_winnerWith lk_X10_237 rv_s0 rfl rv_cf8 rfl rfl (Nat.le_of_ble_eq_true rfl) ⟨Nat.le_of_ble_eq_true rfl, Nat.le_of_ble_eq_true rfl⟩ (fun r22 w23 => ?_)
  refine rv_iload_n h 86 dX10_removals_86 3 rfl ?_
  refine rv_icmp_eq (tgt := 92) h 87 dX10_removals_87 (by decide) (fun _ => ?_) (fun _ => ?_)
  rotate_left
  · refine rv_iload_n h 90 dX10_removals_90 4 rfl ?_
    exact rv_reti hr 91 dX10_removals_91
  refine rv_iinc h 92 (fun v24 => [(4, .int v24), (5, .int v18), (0, .ref (ad 0)), (1, .int p1), (2, .int r5), (3, .int v9)]) dX10_removals_92 5 rfl rv_c1 (by decide) (fun _ => rfl) (fun v24 => ?_)
  refine rv_goto (tgt := 38) h 95 dX10_removals_95 (by decide) ?_
  refine rv_sub h [2, 3, 4, 5, 0] rfl ?_
  exact ih12 v24 w23
def f_X10_isSampleSize (p1 : Int32) (w : rv_W) : rv_R :=
  if p1 < (1 : Int32) then
  some ((0 : Int32), w)
  else
  if (50 : Int32) < p1 then
  some ((0 : Int32), w)
  else
  some ((1 : Int32), w)
set_option maxRecDepth 100000 in
set_option maxHeartbeats 4000000 in
theorem fn_X10_isSampleSize {l : Launch} {D : va_G} {ad : Nat → Nat} {ca : Nat → ClassId} (hJ : rv_J ad) (p1 : Int32)  (w : rv_W) : rv_Fn l D ad ca yX10_isSampleSize cX10_isSampleSize 1 (some .boolean) 0 0 [.int p1] w (f_X10_isSampleSize p1 w) := by
  refine rv_mk (lv := [(0, .int p1)]) hJ (by decide +kernel) (Nat.le_of_ble_eq_true rfl) rfl (fun K h hr => ?_)
  have h : rv_Rl D ad ca l RX10 cX10_isSampleSize 1 0 0 K := h
  unfold f_X10_isSampleSize
  refine rv_iload_n h 0 dX10_isSampleSize_0 0 rfl ?_
  refine rv_iconst h 1 dX10_isSampleSize_1 rv_c1 ?_
  refine rv_icmp_lt (tgt := 15) h 2 dX10_isSampleSize_2 (by decide) (fun _ => ?_) (fun _ => ?_)
  · refine rv_iconst h 15 dX10_isSampleSize_15 rv_c0 ?_
    exact rv_retz0 hr 16 dX10_isSampleSize_16
  refine rv_iload_n h 5 dX10_isSampleSize_5 0 rfl ?_
  refine rv_bipush (v := 50) h 6 dX10_isSampleSize_6 (by decide +kernel) ?_
  refine rv_icmp_gt (tgt := 15) h 8 dX10_isSampleSize_8 (by decide) (fun _ => ?_) (fun _ => ?_)
  · refine rv_iconst h 15 dX10_isSampleSize_15 rv_c0 ?_
    exact rv_retz0 hr 16 dX10_isSampleSize_16
  refine rv_iconst h 11 dX10_isSampleSize_11 rv_c1 ?_
  refine rv_goto (tgt := 16) h 12 dX10_isSampleSize_12 (by decide) ?_
  exact rv_retz1 hr 16 dX10_isSampleSize_16
def f_X10_castSample (p1 : Int32) (p2 : Int32) (w : rv_W) : rv_R :=
  rv_bd (f_X5_open (w 1 0) w) (fun (r1 : Int32) (w2 : rv_W) =>
  rv_bd (f_X8_total 1 w2) (fun (r3 : Int32) (w4 : rv_W) =>
  rv_fx (fun _ _ _ => none) (fun (ag5 : Int32 → Int32 → rv_W → rv_R) (v7 : Int32) (v8 : Int32) (w9 : rv_W) =>
  if v8 < p2 then
  rv_lt (((v7 * (1103515245 : Int32)) + (12345 : Int32))) (fun (v10 : Int32) =>
  rv_jn (fun (v11 : Int32) (w12 : rv_W) =>
  rv_bd (f_X8_groupOf 1 v11 w12) (fun (r15 : Int32) (w16 : rv_W) =>
  rv_bd (f_X5_votersOf r15 w16) (fun (r17 : Int32) (w18 : rv_W) =>
  rv_bd (f_X8_ballotOf 1 r15 w18) (fun (r19 : Int32) (w20 : rv_W) =>
  rv_bd (f_X5_cast r15 (r17 + (1 : Int32)) r19 w20) (fun (r21 : Int32) (w22 : rv_W) =>
  rv_lt (v8 + (1 : Int32)) (fun (v23 : Int32) =>
  ag5 v10 v23 w22)))))) (fun (k13 : Int32 → rv_W → rv_R) =>
  if 0 < r3 then
  rv_gd (¬ r3 = 0) (
  k13 (((v10.toUInt32 >>> ((8 : Int32).toUInt32 &&& Int32.toUInt32 31)).toInt32) - ((v10.toUInt32 >>> ((8 : Int32).toUInt32 &&& Int32.toUInt32 31)).toInt32) / r3 * r3) w9)
  else
  k13 (0 : Int32) w9))
  else
  some (v7, w9)) rv_FU p1 (0 : Int32) w4))
set_option maxRecDepth 100000 in
set_option maxHeartbeats 4000000 in
theorem fn_X10_castSample {l : Launch} {D : va_G} {ad : Nat → Nat} {ca : Nat → ClassId} (hJ : rv_J ad) (p1 : Int32) (p2 : Int32)  (w : rv_W) : rv_Fn l D ad ca yX10_castSample cX10_castSample 8 (some .int) 3 72 [.ref (ad 0), .int p1, .int p2] w (f_X10_castSample p1 p2 w) := by
  refine rv_mk (lv := [(0, .ref (ad 0)), (1, .int p1), (2, .int p2)]) hJ (by decide +kernel) (Nat.le_of_ble_eq_true rfl) rfl (fun K h hr => ?_)
  have h : rv_Rl D ad ca l RX10 cX10_castSample 8 3 72 K := h
  unfold f_X10_castSample
  refine rv_aload_n h 0 dX10_castSample_0 0 rfl ?_
  refine rv_getr h 1 dX10_castSample_1 rv_s0 rv_fd_X10_30 rfl ?_
  refine rv_aload_n h 4 dX10_castSample_4 0 rfl ?_
  refine rv_getr h 5 dX10_castSample_5 rv_s0 rv_fd_X10_10 rfl ?_
  refine rv_geti h 8 dX10_castSample_8 rv_s1 rv_fd_X10_105 rfl ?_
  refine rv_callVv h 11 dX10_castSample_11 (fn_X5_open hJ (w 1 0)  w) ce_X5_open lk_X10_283 rv_s24 rfl rv_cf3 rfl rfl (Nat.le_of_ble_eq_true rfl) ⟨Nat.le_of_ble_eq_true rfl, Nat.le_of_ble_eq_true rfl⟩ (fun r1 w2 => ?_)
  refine rv_aload_n h 14 dX10_castSample_14 0 rfl ?_
  refine rv_getr h 15 dX10_castSample_15 rv_s0 rv_fd_X10_10 rfl ?_
  refine rv_callVi h 18 dX10_castSample_18 (fn_X8_total hJ 1 (by decide) w2) ce_X8_total lk_X10_115 rv_s1 rfl rv_cf6 rfl rfl (Nat.le_of_ble_eq_true rfl) ⟨Nat.le_of_ble_eq_true rfl, Nat.le_of_ble_eq_true rfl⟩ (fun r3 w4 => ?_)
  refine rv_istore_n (lv' := [(3, .int r3), (0, .ref (ad 0)), (1, .int p1), (2, .int p2)]) h 21 dX10_castSample_21 (by decide) rfl ?_
  refine rv_iload_n h 22 dX10_castSample_22 2 rfl ?_
  refine rv_istore (lv' := [(4, .int p1), (3, .int r3), (0, .ref (ad 0)), (1, .int p1), (2, .int p2)]) h 23 dX10_castSample_23 (by decide) rfl ?_
  refine rv_iconst h 25 dX10_castSample_25 rv_c0 ?_
  refine rv_istore (lv' := [(5, .int (0 : Int32)), (4, .int p1), (3, .int r3), (0, .ref (ad 0)), (1, .int p1), (2, .int p2)]) h 26 dX10_castSample_26 (by decide) rfl ?_
  refine rv_sub h [3, 5, 2, 1, 0] rfl ?_
  refine rv_fx_ind (fun (a0 : Int32 → Int32 → rv_W → rv_R) => ∀ (v7 : Int32) (v8 : Int32) (w9 : rv_W), K 28 [(0, .ref (ad 0)), (2, .int p2), (3, .int r3), (4, .int v7), (5, .int v8)] [] w9 (a0 v7 v8 w9)) (fun _ _ _ => rv_none h) (fun ag5 ih6 v7 v8 w9 => ?_) rv_FU p1 (0 : Int32) w4
  refine rv_iload h 28 dX10_castSample_28 4 rfl ?_
  refine rv_iload_n h 30 dX10_castSample_30 1 rfl ?_
  refine rv_icmp_ge (tgt := 109) h 31 dX10_castSample_31 (by decide) (fun _ => ?_) (fun _ => ?_)
  rotate_left
  · refine rv_iload h 109 dX10_castSample_109 3 rfl ?_
    exact rv_reti hr 111 dX10_castSample_111
  refine rv_iload h 34 dX10_castSample_34 3 rfl ?_
  refine rv_ldcw h 36 dX10_castSample_36 rv_kc_X10_292 ?_
  refine rv_imul h 39 dX10_castSample_39 ?_
  refine rv_sipush (v := 12345) h 40 dX10_castSample_40 (by decide +kernel) ?_
  refine rv_iadd h 43 dX10_castSample_43 ?_
  refine rv_top (fun v10 => ?_)
  refine rv_istore (lv' := [(4, .int v10), (0, .ref (ad 0)), (2, .int p2), (3, .int r3), (5, .int v8)]) h 44 dX10_castSample_44 (by decide) rfl ?_
  refine rv_iload_n h 46 dX10_castSample_46 3 rfl ?_
  refine rv_join (fun (k0 : Int32 → rv_W → rv_R) => ∀ (v11 : Int32) (w12 : rv_W), K 61 [(0, .ref (ad 0)), (2, .int p2), (3, .int r3), (4, .int v10), (5, .int v8)] (.int v11 :: []) w12 (k0 v11 w12)) (fun v11 w12 => ?_) (fun k13 hk14 => ?_)
  · refine rv_istore (lv' := [(6, .int v11), (0, .ref (ad 0)), (2, .int p2), (3, .int r3), (4, .int v10), (5, .int v8)]) h 61 dX10_castSample_61 (by decide) rfl ?_
    refine rv_aload_n h 63 dX10_castSample_63 1 rfl ?_
    refine rv_getr h 64 dX10_castSample_64 rv_s0 rv_fd_X10_10 rfl ?_
    refine rv_iload h 67 dX10_castSample_67 0 rfl ?_
    refine rv_callVi h 69 dX10_castSample_69 (fn_X8_groupOf hJ 1 v11 (by decide) w12) ce_X8_groupOf lk_X10_293 rv_s1 rfl rv_cf6 rfl rfl (Nat.le_of_ble_eq_true rfl) ⟨Nat.le_of_ble_eq_true rfl, Nat.le_of_ble_eq_true rfl⟩ (fun r15 w16 => ?_)
    refine rv_istore (lv' := [(7, .int r15), (6, .int v11), (0, .ref (ad 0)), (2, .int p2), (3, .int r3), (4, .int v10), (5, .int v8)]) h 72 dX10_castSample_72 (by decide) rfl ?_
    refine rv_aload_n h 74 dX10_castSample_74 2 rfl ?_
    refine rv_getr h 75 dX10_castSample_75 rv_s0 rv_fd_X10_30 rfl ?_
    refine rv_iload h 78 dX10_castSample_78 0 rfl ?_
    refine rv_aload_n h 80 dX10_castSample_80 2 rfl ?_
    refine rv_getr h 81 dX10_castSample_81 rv_s0 rv_fd_X10_30 rfl ?_
    refine rv_iload h 84 dX10_castSample_84 0 rfl ?_
    refine rv_callVi h 86 dX10_castSample_86 (fn_X5_votersOf hJ r15  w16) ce_X5_votersOf lk_X10_296 rv_s24 rfl rv_cf3 rfl rfl (Nat.le_of_ble_eq_true rfl) ⟨Nat.le_of_ble_eq_true rfl, Nat.le_of_ble_eq_true rfl⟩ (fun r17 w18 => ?_)
    refine rv_iconst h 89 dX10_castSample_89 rv_c1 ?_
    refine rv_iadd h 90 dX10_castSample_90 ?_
    refine rv_aload_n h 91 dX10_castSample_91 2 rfl ?_
    refine rv_getr h 92 dX10_castSample_92 rv_s0 rv_fd_X10_10 rfl ?_
    refine rv_iload h 95 dX10_castSample_95 0 rfl ?_
    refine rv_callVi h 97 dX10_castSample_97 (fn_X8_ballotOf hJ 1 r15 (by decide) w18) ce_X8_ballotOf lk_X10_83 rv_s1 rfl rv_cf6 rfl rfl (Nat.le_of_ble_eq_true rfl) ⟨Nat.le_of_ble_eq_true rfl, Nat.le_of_ble_eq_true rfl⟩ (fun r19 w20 => ?_)
    refine rv_callVv h 100 dX10_castSample_100 (fn_X5_cast hJ r15 (r17 + (1 : Int32)) r19  w20) ce_X5_cast lk_X10_231 rv_s24 rfl rv_cf3 rfl rfl (Nat.le_of_ble_eq_true rfl) ⟨Nat.le_of_ble_eq_true rfl, Nat.le_of_ble_eq_true rfl⟩ (fun r21 w22 => ?_)
    refine rv_iinc h 103 (fun v23 => [(5, .int v23), (7, .int r15), (6, .int v11), (0, .ref (ad 0)), (2, .int p2), (3, .int r3), (4, .int v10)]) dX10_castSample_103 6 rfl rv_c1 (by decide) (fun _ => rfl) (fun v23 => ?_)
    refine rv_goto (tgt := 28) h 106 dX10_castSample_106 (by decide) ?_
    refine rv_sub h [3, 4, 5, 6, 0] rfl ?_
    exact ih6 v10 v23 w22
  refine rv_if_le (tgt := 60) h 47 dX10_castSample_47 (by decide) (fun _ => ?_) (fun _ => ?_)
  rotate_left
  · refine rv_iconst h 60 dX10_castSample_60 rv_c0 ?_
    refine rv_sub h [1, 2, 3, 0, 4] rfl ?_
    exact hk14 (0 : Int32) w9
  refine rv_iload h 50 dX10_castSample_50 0 rfl ?_
  refine rv_bipush (v := 8) h 52 dX10_castSample_52 (by decide +kernel) ?_
  refine rv_iushr h 54 dX10_castSample_54 ?_
  refine rv_iload_n h 55 dX10_castSample_55 3 rfl ?_
  refine rv_guard h (fun hn24 => ?_)
  refine rv_irem h 56 dX10_castSample_56 hn24 ?_
  refine rv_goto (tgt := 61) h 57 dX10_castSample_57 (by decide) ?_
  refine rv_sub h [1, 2, 3, 0, 4] rfl ?_
  exact hk14 (((v10.toUInt32 >>> ((8 : Int32).toUInt32 &&& Int32.toUInt32 31)).toInt32) - ((v10.toUInt32 >>> ((8 : Int32).toUInt32 &&& Int32.toUInt32 31)).toInt32) / r3 * r3) w9
def f_X10_sample (p1 : Int32) (p2 : Int32) (p3 : Int32) (w : rv_W) : rv_R :=
  rv_bd (f_X10_isRule p1 w) (fun (r1 : Int32) (w2 : rv_W) =>
  if r1 = 0 then
  some ((-1000001 : Int32), w2)
  else
  rv_bd (f_X10_isSampleSize p3 w2) (fun (r3 : Int32) (w4 : rv_W) =>
  if r3 = 0 then
  some ((-1000002 : Int32), w4)
  else
  if (w4 1 1) = 0 then
  some ((-1000003 : Int32), w4)
  else
  rv_bd (f_X10_castSample p2 p3 w4) (fun (r5 : Int32) (w6 : rv_W) =>
  rv_bd (f_X7_winnerBy p1 w6) (fun (r7 : Int32) (w8 : rv_W) =>
  some (r7, w8)))))
set_option maxRecDepth 100000 in
set_option maxHeartbeats 4000000 in
theorem fn_X10_sample {l : Launch} {D : va_G} {ad : Nat → Nat} {ca : Nat → ClassId} (hJ : rv_J ad) (p1 : Int32) (p2 : Int32) (p3 : Int32)  (w : rv_W) : rv_Fn l D ad ca yX10_sample cX10_sample 4 (some .int) 5 119 [.ref (ad 0), .int p1, .int p2, .int p3] w (f_X10_sample p1 p2 p3 w) := by
  refine rv_mk (lv := [(0, .ref (ad 0)), (1, .int p1), (2, .int p2), (3, .int p3)]) hJ (by decide +kernel) (Nat.le_of_ble_eq_true rfl) rfl (fun K h hr => ?_)
  have h : rv_Rl D ad ca l RX10 cX10_sample 4 5 119 K := h
  unfold f_X10_sample
  refine rv_iload_n h 0 dX10_sample_0 1 rfl ?_
  refine rv_callSi h 1 dX10_sample_1 (fn_X10_isRule hJ p1  w) ce_X10_isRule lk_X10_128 rfl rfl (Nat.le_of_ble_eq_true rfl) ⟨Nat.le_of_ble_eq_true rfl, Nat.le_of_ble_eq_true rfl⟩ (fun r1 w2 => ?_)
  refine rv_if_ne (tgt := 10) h 4 dX10_sample_4 (by decide) (fun _ => ?_) (fun _ => ?_)
  · refine rv_ldc h 7 dX10_sample_7 rv_kc_X10_75 ?_
    exact rv_reti hr 9 dX10_sample_9
  refine rv_iload_n h 10 dX10_sample_10 3 rfl ?_
  refine rv_callSi h 11 dX10_sample_11 (fn_X10_isSampleSize hJ p3  w2) ce_X10_isSampleSize lk_X10_254 rfl rfl (Nat.le_of_ble_eq_true rfl) ⟨Nat.le_of_ble_eq_true rfl, Nat.le_of_ble_eq_true rfl⟩ (fun r3 w4 => ?_)
  refine rv_if_ne (tgt := 20) h 14 dX10_sample_14 (by decide) (fun _ => ?_) (fun _ => ?_)
  · refine rv_ldc h 17 dX10_sample_17 rv_kc_X10_55 ?_
    exact rv_reti hr 19 dX10_sample_19
  refine rv_aload_n h 20 dX10_sample_20 0 rfl ?_
  refine rv_getr h 21 dX10_sample_21 rv_s0 rv_fd_X10_10 rfl ?_
  refine rv_geti h 24 dX10_sample_24 rv_s1 rv_fd_X10_68 rfl ?_
  refine rv_if_ne (tgt := 33) h 27 dX10_sample_27 (by decide) (fun _ => ?_) (fun _ => ?_)
  · refine rv_ldc h 30 dX10_sample_30 rv_kc_X10_121 ?_
    exact rv_reti hr 32 dX10_sample_32
  refine rv_aload_n h 33 dX10_sample_33 0 rfl ?_
  refine rv_iload_n h 34 dX10_sample_34 2 rfl ?_
  refine rv_iload_n h 35 dX10_sample_35 3 rfl ?_
  refine rv_callVi h 36 dX10_sample_36 (fn_X10_castSample hJ p2 p3  w4) ce_X10_castSample lk_X10_257 rv_s0 rfl rv_cf8 rfl rfl (Nat.le_of_ble_eq_true rfl) ⟨Nat.le_of_ble_eq_true rfl, Nat.le_of_ble_eq_true rfl⟩ (fun r5 w6 => ?_)
  refine rv_pop h 39 dX10_sample_39 rfl ?_
  refine rv_aload_n h 40 dX10_sample_40 0 rfl ?_
  refine rv_getr h 41 dX10_sample_41 rv_s0 rv_fd_X10_37 rfl ?_
  refine rv_iload_n h 44 dX10_sample_44 1 rfl ?_
  refine rv_aload_n h 45 dX10_sample_45 0 rfl ?_
  refine rv_getr h 46 dX10_sample_46 rv_s0 rv_fd_X10_30 rfl ?_
  refine rv_callVi h 49 dX10_sample_49 (fn_X7_winnerBy hJ p1  w6) ce_X7_winnerBy lk_X10_135 rv_s53 rfl rv_cf5 rfl rfl (Nat.le_of_ble_eq_true rfl) ⟨Nat.le_of_ble_eq_true rfl, Nat.le_of_ble_eq_true rfl⟩ (fun r7 w8 => ?_)
  exact rv_reti hr 52 dX10_sample_52
def f_X10_agreeing (p1 : Int32) (p2 : Int32) (p3 : Int32) (p4 : Int32) (w : rv_W) : rv_R :=
  rv_bd (f_X10_isRule p1 w) (fun (r1 : Int32) (w2 : rv_W) =>
  if r1 = 0 then
  some ((-1000001 : Int32), w2)
  else
  rv_bd (f_X10_isSampleSize p3 w2) (fun (r3 : Int32) (w4 : rv_W) =>
  if r3 = 0 then
  some ((-1000002 : Int32), w4)
  else
  if p4 < (1 : Int32) then
  some ((-1000002 : Int32), w4)
  else
  if (20 : Int32) < p4 then
  some ((-1000002 : Int32), w4)
  else
  if (w4 1 1) = 0 then
  some ((-1000003 : Int32), w4)
  else
  if (w4 1 0) = 0 then
  some ((-1000003 : Int32), w4)
  else
  rv_bd (f_X10_castAll  w4) (fun (r5 : Int32) (w6 : rv_W) =>
  rv_bd (f_X7_winnerBy p1 w6) (fun (r7 : Int32) (w8 : rv_W) =>
  rv_fx (fun _ _ _ _ => none) (fun (ag9 : Int32 → Int32 → Int32 → rv_W → rv_R) (v11 : Int32) (v12 : Int32) (v13 : Int32) (w14 : rv_W) =>
  if v13 < p4 then
  rv_bd (f_X10_castSample v12 p3 w14) (fun (r15 : Int32) (w16 : rv_W) =>
  rv_bd (f_X7_winnerBy p1 w16) (fun (r17 : Int32) (w18 : rv_W) =>
  if r17 = r7 then
  rv_lt (v11 + (1 : Int32)) (fun (v20 : Int32) =>
  rv_lt (v13 + (1 : Int32)) (fun (v21 : Int32) =>
  ag9 v20 r15 v21 w18))
  else
  rv_lt (v13 + (1 : Int32)) (fun (v19 : Int32) =>
  ag9 v11 r15 v19 w18)))
  else
  some (v11, w14)) rv_FU (0 : Int32) p2 (0 : Int32) w8))))
set_option maxRecDepth 100000 in
set_option maxHeartbeats 4000000 in
theorem fn_X10_agreeing {l : Launch} {D : va_G} {ad : Nat → Nat} {ca : Nat → ClassId} (hJ : rv_J ad) (p1 : Int32) (p2 : Int32) (p3 : Int32) (p4 : Int32)  (w : rv_W) : rv_Fn l D ad ca yX10_agreeing cX10_agreeing 9 (some .int) 5 119 [.ref (ad 0), .int p1, .int p2, .int p3, .int p4] w (f_X10_agreeing p1 p2 p3 p4 w) := by
  refine rv_mk (lv := [(0, .ref (ad 0)), (1, .int p1), (2, .int p2), (3, .int p3), (4, .int p4)]) hJ (by decide +kernel) (Nat.le_of_ble_eq_true rfl) rfl (fun K h hr => ?_)
  have h : rv_Rl D ad ca l RX10 cX10_agreeing 9 5 119 K := h
  unfold f_X10_agreeing
  refine rv_iload_n h 0 dX10_agreeing_0 1 rfl ?_
  refine rv_callSi h 1 dX10_agreeing_1 (fn_X10_isRule hJ p1  w) ce_X10_isRule lk_X10_128 rfl rfl (Nat.le_of_ble_eq_true rfl) ⟨Nat.le_of_ble_eq_true rfl, Nat.le_of_ble_eq_true rfl⟩ (fun r1 w2 => ?_)
  refine rv_if_ne (tgt := 10) h 4 dX10_agreeing_4 (by decide) (fun _ => ?_) (fun _ => ?_)
  · refine rv_ldc h 7 dX10_agreeing_7 rv_kc_X10_75 ?_
    exact rv_reti hr 9 dX10_agreeing_9
  refine rv_iload_n h 10 dX10_agreeing_10 3 rfl ?_
  refine rv_callSi h 11 dX10_agreeing_11 (fn_X10_isSampleSize hJ p3  w2) ce_X10_isSampleSize lk_X10_254 rfl rfl (Nat.le_of_ble_eq_true rfl) ⟨Nat.le_of_ble_eq_true rfl, Nat.le_of_ble_eq_true rfl⟩ (fun r3 w4 => ?_)
  refine rv_if_eq (tgt := 30) h 14 dX10_agreeing_14 (by decide) (fun _ => ?_) (fun _ => ?_)
  · refine rv_ldc h 30 dX10_agreeing_30 rv_kc_X10_55 ?_
    exact rv_reti hr 32 dX10_agreeing_32
  refine rv_iload h 17 dX10_agreeing_17 4 rfl ?_
  refine rv_iconst h 19 dX10_agreeing_19 rv_c1 ?_
  refine rv_icmp_lt (tgt := 30) h 20 dX10_agreeing_20 (by decide) (fun _ => ?_) (fun _ => ?_)
  · refine rv_ldc h 30 dX10_agreeing_30 rv_kc_X10_55 ?_
    exact rv_reti hr 32 dX10_agreeing_32
  refine rv_iload h 23 dX10_agreeing_23 4 rfl ?_
  refine rv_bipush (v := 20) h 25 dX10_agreeing_25 (by decide +kernel) ?_
  refine rv_icmp_le (tgt := 33) h 27 dX10_agreeing_27 (by decide) (fun _ => ?_) (fun _ => ?_)
  · refine rv_ldc h 30 dX10_agreeing_30 rv_kc_X10_55 ?_
    exact rv_reti hr 32 dX10_agreeing_32
  refine rv_aload_n h 33 dX10_agreeing_33 0 rfl ?_
  refine rv_getr h 34 dX10_agreeing_34 rv_s0 rv_fd_X10_10 rfl ?_
  refine rv_geti h 37 dX10_agreeing_37 rv_s1 rv_fd_X10_68 rfl ?_
  refine rv_if_eq (tgt := 53) h 40 dX10_agreeing_40 (by decide) (fun _ => ?_) (fun _ => ?_)
  · refine rv_ldc h 53 dX10_agreeing_53 rv_kc_X10_121 ?_
    exact rv_reti hr 55 dX10_agreeing_55
  refine rv_aload_n h 43 dX10_agreeing_43 0 rfl ?_
  refine rv_getr h 44 dX10_agreeing_44 rv_s0 rv_fd_X10_10 rfl ?_
  refine rv_geti h 47 dX10_agreeing_47 rv_s1 rv_fd_X10_105 rfl ?_
  refine rv_if_ne (tgt := 56) h 50 dX10_agreeing_50 (by decide) (fun _ => ?_) (fun _ => ?_)
  · refine rv_ldc h 53 dX10_agreeing_53 rv_kc_X10_121 ?_
    exact rv_reti hr 55 dX10_agreeing_55
  refine rv_aload_n h 56 dX10_agreeing_56 0 rfl ?_
  refine rv_callVv h 57 dX10_agreeing_57 (fn_X10_castAll hJ   w4) ce_X10_castAll lk_X10_122 rv_s0 rfl rv_cf8 rfl rfl (Nat.le_of_ble_eq_true rfl) ⟨Nat.le_of_ble_eq_true rfl, Nat.le_of_ble_eq_true rfl⟩ (fun r5 w6 => ?_)
  refine rv_aload_n h 60 dX10_agreeing_60 0 rfl ?_
  refine rv_getr h 61 dX10_agreeing_61 rv_s0 rv_fd_X10_37 rfl ?_
  refine rv_iload_n h 64 dX10_agreeing_64 1 rfl ?_
  refine rv_aload_n h 65 dX10_agreeing_65 0 rfl ?_
  refine rv_getr h 66 dX10_agreeing_66 rv_s0 rv_fd_X10_30 rfl ?_
  refine rv_callVi h 69 dX10_agreeing_69 (fn_X7_winnerBy hJ p1  w6) ce_X7_winnerBy lk_X10_135 rv_s53 rfl rv_cf5 rfl rfl (Nat.le_of_ble_eq_true rfl) ⟨Nat.le_of_ble_eq_true rfl, Nat.le_of_ble_eq_true rfl⟩ (fun r7 w8 => ?_)
  refine rv_istore (lv' := [(5, .int r7), (0, .ref (ad 0)), (1, .int p1), (2, .int p2), (3, .int p3), (4, .int p4)]) h 72 dX10_agreeing_72 (by decide) rfl ?_
  refine rv_iconst h 74 dX10_agreeing_74 rv_c0 ?_
  refine rv_istore (lv' := [(6, .int (0 : Int32)), (5, .int r7), (0, .ref (ad 0)), (1, .int p1), (2, .int p2), (3, .int p3), (4, .int p4)]) h 75 dX10_agreeing_75 (by decide) rfl ?_
  refine rv_iload_n h 77 dX10_agreeing_77 4 rfl ?_
  refine rv_istore (lv' := [(7, .int p2), (6, .int (0 : Int32)), (5, .int r7), (0, .ref (ad 0)), (1, .int p1), (2, .int p2), (3, .int p3), (4, .int p4)]) h 78 dX10_agreeing_78 (by decide) rfl ?_
  refine rv_iconst h 80 dX10_agreeing_80 rv_c0 ?_
  refine rv_istore (lv' := [(8, .int (0 : Int32)), (7, .int p2), (6, .int (0 : Int32)), (5, .int r7), (0, .ref (ad 0)), (1, .int p1), (2, .int p2), (3, .int p3), (4, .int p4)]) h 81 dX10_agreeing_81 (by decide) rfl ?_
  refine rv_sub h [4, 5, 7, 8, 3, 2, 1, 0] rfl ?_
  refine rv_fx_ind (fun (a0 : Int32 → Int32 → Int32 → rv_W → rv_R) => ∀ (v11 : Int32) (v12 : Int32) (v13 : Int32) (w14 : rv_W), K 83 [(0, .ref (ad 0)), (1, .int p1), (3, .int p3), (4, .int p4), (5, .int r7), (6, .int v11), (7, .int v12), (8, .int v13)] [] w14 (a0 v11 v12 v13 w14)) (fun _ _ _ _ => rv_none h) (fun ag9 ih10 v11 v12 v13 w14 => ?_) rv_FU (0 : Int32) p2 (0 : Int32) w8
  refine rv_iload h 83 dX10_agreeing_83 7 rfl ?_
  refine rv_iload h 85 dX10_agreeing_85 3 rfl ?_
  refine rv_icmp_ge (tgt := 125) h 87 dX10_agreeing_87 (by decide) (fun _ => ?_) (fun _ => ?_)
  rotate_left
  · refine rv_iload h 125 dX10_agreeing_125 5 rfl ?_
    exact rv_reti hr 127 dX10_agreeing_127
  refine rv_aload_n h 90 dX10_agreeing_90 0 rfl ?_
  refine rv_iload h 91 dX10_agreeing_91 6 rfl ?_
  refine rv_iload_n h 93 dX10_agreeing_93 2 rfl ?_
  refine rv_callVi h 94 dX10_agreeing_94 (fn_X10_castSample hJ v12 p3  w14) ce_X10_castSample lk_X10_257 rv_s0 rfl rv_cf8 rfl rfl (Nat.le_of_ble_eq_true rfl) ⟨Nat.le_of_ble_eq_true rfl, Nat.le_of_ble_eq_true rfl⟩ (fun r15 w16 => ?_)
  refine rv_istore (lv' := [(7, .int r15), (0, .ref (ad 0)), (1, .int p1), (3, .int p3), (4, .int p4), (5, .int r7), (6, .int v11), (8, .int v13)]) h 97 dX10_agreeing_97 (by decide) rfl ?_
  refine rv_aload_n h 99 dX10_agreeing_99 1 rfl ?_
  refine rv_getr h 100 dX10_agreeing_100 rv_s0 rv_fd_X10_37 rfl ?_
  refine rv_iload_n h 103 dX10_agreeing_103 2 rfl ?_
  refine rv_aload_n h 104 dX10_agreeing_104 1 rfl ?_
  refine rv_getr h 105 dX10_agreeing_105 rv_s0 rv_fd_X10_30 rfl ?_
  refine rv_callVi h 108 dX10_agreeing_108 (fn_X7_winnerBy hJ p1  w16) ce_X7_winnerBy lk_X10_135 rv_s53 rfl rv_cf5 rfl rfl (Nat.le_of_ble_eq_true rfl) ⟨Nat.le_of_ble_eq_true rfl, Nat.le_of_ble_eq_true rfl⟩ (fun r17 w18 => ?_)
  refine rv_iload h 111 dX10_agreeing_111 5 rfl ?_
  refine rv_icmp_ne (tgt := 119) h 113 dX10_agreeing_113 (by decide) (fun _ => ?_) (fun _ => ?_)
  rotate_left
  · refine rv_iinc h 119 (fun v19 => [(8, .int v19), (7, .int r15), (0, .ref (ad 0)), (1, .int p1), (3, .int p3), (4, .int p4), (5, .int r7), (6, .int v11)]) dX10_agreeing_119 7 rfl rv_c1 (by decide) (fun _ => rfl) (fun v19 => ?_)
    refine rv_goto (tgt := 83) h 122 dX10_agreeing_122 (by decide) ?_
    refine rv_sub h [2, 3, 4, 5, 6, 7, 1, 0] rfl ?_
    exact ih10 v11 r15 v19 w18
  refine rv_iinc h 116 (fun v20 => [(6, .int v20), (7, .int r15), (0, .ref (ad 0)), (1, .int p1), (3, .int p3), (4, .int p4), (5, .int r7), (8, .int v13)]) dX10_agreeing_116 6 rfl rv_c1 (by decide) (fun _ => rfl) (fun v20 => ?_)
  refine rv_iinc h 119 (fun v21 => [(8, .int v21), (6, .int v20), (7, .int r15), (0, .ref (ad 0)), (1, .int p1), (3, .int p3), (4, .int p4), (5, .int r7)]) dX10_agreeing_119 7 rfl rv_c1 (by decide) (fun _ => rfl) (fun v21 => ?_)
  refine rv_goto (tgt := 83) h 122 dX10_agreeing_122 (by decide) ?_
  refine rv_sub h [3, 4, 5, 6, 7, 1, 2, 0] rfl ?_
  exact ih10 v20 r15 v21 w18
def f_X10_undo  (w : rv_W) : rv_R :=
  if (w 0 2) < (1 : Int32) then
  some ((-1000003 : Int32), w)
  else
  if (5 : Int32) < (w 0 2) then
  some ((-1000003 : Int32), w)
  else
  rv_lt (rv_up w 0 2 ((w 0 2) - (1 : Int32))) (fun (w1 : rv_W) =>
  rv_ck (w1 0 2) 5 (rv_gd (rv_st (w1 4 (w1 0 2).toNatClampNeg).toNatClampNeg) (
  rv_bd (f_X8_copy 1 ((w1 4 (w1 0 2).toNatClampNeg).toNatClampNeg) w1) (fun (r3 : Int32) (w4 : rv_W) =>
  some ((w4 0 2), w4)))))
set_option maxRecDepth 100000 in
set_option maxHeartbeats 4000000 in
theorem fn_X10_undo {l : Launch} {D : va_G} {ad : Nat → Nat} {ca : Nat → ClassId} (hJ : rv_J ad)   (w : rv_W) : rv_Fn l D ad ca yX10_undo cX10_undo 2 (some .int) 1 22 [.ref (ad 0)] w (f_X10_undo  w) := by
  refine rv_mk (lv := [(0, .ref (ad 0))]) hJ (by decide +kernel) (Nat.le_of_ble_eq_true rfl) rfl (fun K h hr => ?_)
  have h : rv_Rl D ad ca l RX10 cX10_undo 2 1 22 K := h
  unfold f_X10_undo
  refine rv_aload_n h 0 dX10_undo_0 0 rfl ?_
  refine rv_geti h 1 dX10_undo_1 rv_s0 rv_fd_X10_260 rfl ?_
  refine rv_iconst h 4 dX10_undo_4 rv_c1 ?_
  refine rv_icmp_lt (tgt := 20) h 5 dX10_undo_5 (by decide) (fun _ => ?_) (fun _ => ?_)
  · refine rv_ldc h 20 dX10_undo_20 rv_kc_X10_121 ?_
    exact rv_reti hr 22 dX10_undo_22
  refine rv_aload_n h 8 dX10_undo_8 0 rfl ?_
  refine rv_geti h 9 dX10_undo_9 rv_s0 rv_fd_X10_260 rfl ?_
  refine rv_aload_n h 12 dX10_undo_12 0 rfl ?_
  refine rv_getr h 13 dX10_undo_13 rv_s0 rv_fd_X10_16 rfl ?_
  refine rv_len (v := 5) h 16 dX10_undo_16 rv_s4 (by decide) (by decide +kernel) ?_
  refine rv_icmp_le (tgt := 23) h 17 dX10_undo_17 (by decide) (fun _ => ?_) (fun _ => ?_)
  · refine rv_ldc h 20 dX10_undo_20 rv_kc_X10_121 ?_
    exact rv_reti hr 22 dX10_undo_22
  refine rv_aload_n h 23 dX10_undo_23 0 rfl ?_
  refine rv_dup h 24 dX10_undo_24 rfl ?_
  refine rv_geti h 25 dX10_undo_25 rv_s0 rv_fd_X10_260 rfl ?_
  refine rv_iconst h 28 dX10_undo_28 rv_c1 ?_
  refine rv_isub h 29 dX10_undo_29 ?_
  refine rv_puti h 30 dX10_undo_30 rv_s0 rv_fd_X10_260 rfl ⟨rfl, rfl⟩ (fun w1 => ?_)
  refine rv_aload_n h 33 dX10_undo_33 0 rfl ?_
  refine rv_getr h 34 dX10_undo_34 rv_s0 rv_fd_X10_16 rfl ?_
  refine rv_aload_n h 37 dX10_undo_37 0 rfl ?_
  refine rv_geti h 38 dX10_undo_38 rv_s0 rv_fd_X10_260 rfl ?_
  refine rv_hald h 41 dX10_undo_41 rv_s4 (fun hi2 => ?_)
  refine rv_astore_n (lv' := [(1, .ref (ad (w1 4 (w1 0 2).toNatClampNeg).toNatClampNeg)), (0, .ref (ad 0))]) h 42 dX10_undo_42 (by decide) rfl ?_
  refine rv_aload_n h 43 dX10_undo_43 0 rfl ?_
  refine rv_ifnull h 44 dX10_undo_44 ?_
  refine rv_aload_n h 47 dX10_undo_47 1 rfl ?_
  refine rv_getr h 48 dX10_undo_48 rv_s0 rv_fd_X10_10 rfl ?_
  refine rv_aload_n h 51 dX10_undo_51 0 rfl ?_
  refine rv_callVv h 52 dX10_undo_52 (fn_X8_copy hJ 1 ((w1 4 (w1 0 2).toNatClampNeg).toNatClampNeg) (by decide) hi2 w1) ce_X8_copy lk_X10_263 rv_s1 rfl rv_cf6 rfl rfl (Nat.le_of_ble_eq_true rfl) ⟨Nat.le_of_ble_eq_true rfl, Nat.le_of_ble_eq_true rfl⟩ (fun r3 w4 => ?_)
  refine rv_aload_n h 55 dX10_undo_55 1 rfl ?_
  refine rv_geti h 56 dX10_undo_56 rv_s0 rv_fd_X10_260 rfl ?_
  exact rv_reti hr 59 dX10_undo_59
def f_X10_load  (w : rv_W) : rv_R :=
  rv_bd (f_X8_room 1 w) (fun (r1 : Int32) (w2 : rv_W) =>
  rv_bd (f_X9_read r1 w2) (fun (r3 : Int32) (w4 : rv_W) =>
  if r3 = (-1000000 : Int32) then
  rv_bd (f_X10_remember  w4) (fun (r5 : Int32) (w6 : rv_W) =>
  rv_fx (fun _ _ => none) (fun (ag7 : Int32 → rv_W → rv_R) (v9 : Int32) (w10 : rv_W) =>
  if v9 < (w10 20 1) then
  rv_bd (f_X9_votersOf v9 w10) (fun (r11 : Int32) (w12 : rv_W) =>
  rv_bd (f_X9_ballotOf v9 w12) (fun (r13 : Int32) (w14 : rv_W) =>
  rv_bd (f_X8_append 1 r11 r13 w14) (fun (r15 : Int32) (w16 : rv_W) =>
  rv_lt (v9 + (1 : Int32)) (fun (v17 : Int32) =>
  ag7 v17 w16))))
  else
  some ((w10 1 1), w10)) rv_FU (0 : Int32) w6)
  else
  some ((-1000003 : Int32), w4)))
set_option maxRecDepth 100000 in
set_option maxHeartbeats 4000000 in
theorem fn_X10_load {l : Launch} {D : va_G} {ad : Nat → Nat} {ca : Nat → ClassId} (hJ : rv_J ad)   (w : rv_W) : rv_Fn l D ad ca yX10_load cX10_load 2 (some .int) 6 132 [.ref (ad 0)] w (f_X10_load  w) := by
  refine rv_mk (lv := [(0, .ref (ad 0))]) hJ (by decide +kernel) (Nat.le_of_ble_eq_true rfl) rfl (fun K h hr => ?_)
  have h : rv_Rl D ad ca l RX10 cX10_load 2 6 132 K := h
  unfold f_X10_load
  refine rv_aload_n h 0 dX10_load_0 0 rfl ?_
  refine rv_getr h 1 dX10_load_1 rv_s0 rv_fd_X10_23 rfl ?_
  refine rv_aload_n h 4 dX10_load_4 0 rfl ?_
  refine rv_getr h 5 dX10_load_5 rv_s0 rv_fd_X10_10 rfl ?_
  refine rv_callVi h 8 dX10_load_8 (fn_X8_room hJ 1 (by decide) w) ce_X8_room lk_X10_56 rv_s1 rfl rv_cf6 rfl rfl (Nat.le_of_ble_eq_true rfl) ⟨Nat.le_of_ble_eq_true rfl, Nat.le_of_ble_eq_true rfl⟩ (fun r1 w2 => ?_)
  refine rv_callVi h 11 dX10_load_11 (fn_X9_read hJ r1  w2) ce_X9_read lk_X10_272 rv_s20 rfl rv_cf7 rfl rfl (Nat.le_of_ble_eq_true rfl) ⟨Nat.le_of_ble_eq_true rfl, Nat.le_of_ble_eq_true rfl⟩ (fun r3 w4 => ?_)
  refine rv_ldc h 14 dX10_load_14 rv_kc_X10_227 ?_
  refine rv_icmp_eq (tgt := 22) h 16 dX10_load_16 (by decide) (fun _ => ?_) (fun _ => ?_)
  rotate_left
  · refine rv_ldc h 19 dX10_load_19 rv_kc_X10_121 ?_
    exact rv_reti hr 21 dX10_load_21
  refine rv_aload_n h 22 dX10_load_22 0 rfl ?_
  refine rv_callVv h 23 dX10_load_23 (fn_X10_remember hJ   w4) ce_X10_remember lk_X10_61 rv_s0 rfl rv_cf8 rfl rfl (Nat.le_of_ble_eq_true rfl) ⟨Nat.le_of_ble_eq_true rfl, Nat.le_of_ble_eq_true rfl⟩ (fun r5 w6 => ?_)
  refine rv_iconst h 26 dX10_load_26 rv_c0 ?_
  refine rv_istore_n (lv' := [(1, .int (0 : Int32)), (0, .ref (ad 0))]) h 27 dX10_load_27 (by decide) rfl ?_
  refine rv_sub h [1, 0] rfl ?_
  refine rv_fx_ind (fun (a0 : Int32 → rv_W → rv_R) => ∀ (v9 : Int32) (w10 : rv_W), K 28 [(0, .ref (ad 0)), (1, .int v9)] [] w10 (a0 v9 w10)) (fun _ _ => rv_none h) (fun ag7 ih8 v9 w10 => ?_) rv_FU (0 : Int32) w6
  refine rv_iload_n h 28 dX10_load_28 1 rfl ?_
  refine rv_aload_n h 29 dX10_load_29 0 rfl ?_
  refine rv_getr h 30 dX10_load_30 rv_s0 rv_fd_X10_23 rfl ?_
  refine rv_geti h 33 dX10_load_33 rv_s20 rv_fd_X10_275 rfl ?_
  refine rv_icmp_ge (tgt := 68) h 36 dX10_load_36 (by decide) (fun _ => ?_) (fun _ => ?_)
  rotate_left
  · refine rv_aload_n h 68 dX10_load_68 0 rfl ?_
    refine rv_getr h 69 dX10_load_69 rv_s0 rv_fd_X10_10 rfl ?_
    refine rv_geti h 72 dX10_load_72 rv_s1 rv_fd_X10_68 rfl ?_
    exact rv_reti hr 75 dX10_load_75
  refine rv_aload_n h 39 dX10_load_39 0 rfl ?_
  refine rv_getr h 40 dX10_load_40 rv_s0 rv_fd_X10_10 rfl ?_
  refine rv_aload_n h 43 dX10_load_43 0 rfl ?_
  refine rv_getr h 44 dX10_load_44 rv_s0 rv_fd_X10_23 rfl ?_
  refine rv_iload_n h 47 dX10_load_47 1 rfl ?_
  refine rv_callVi h 48 dX10_load_48 (fn_X9_votersOf hJ v9  w10) ce_X9_votersOf lk_X10_276 rv_s20 rfl rv_cf7 rfl rfl (Nat.le_of_ble_eq_true rfl) ⟨Nat.le_of_ble_eq_true rfl, Nat.le_of_ble_eq_true rfl⟩ (fun r11 w12 => ?_)
  refine rv_aload_n h 51 dX10_load_51 0 rfl ?_
  refine rv_getr h 52 dX10_load_52 rv_s0 rv_fd_X10_23 rfl ?_
  refine rv_iload_n h 55 dX10_load_55 1 rfl ?_
  refine rv_callVi h 56 dX10_load_56 (fn_X9_ballotOf hJ v9  w12) ce_X9_ballotOf lk_X10_277 rv_s20 rfl rv_cf7 rfl rfl (Nat.le_of_ble_eq_true rfl) ⟨Nat.le_of_ble_eq_true rfl, Nat.le_of_ble_eq_true rfl⟩ (fun r13 w14 => ?_)
  refine rv_callVv h 59 dX10_load_59 (fn_X8_append hJ 1 r11 r13 (by decide) w14) ce_X8_append lk_X10_64 rv_s1 rfl rv_cf6 rfl rfl (Nat.le_of_ble_eq_true rfl) ⟨Nat.le_of_ble_eq_true rfl, Nat.le_of_ble_eq_true rfl⟩ (fun r15 w16 => ?_)
  refine rv_iinc h 62 (fun v17 => [(1, .int v17), (0, .ref (ad 0))]) dX10_load_62 1 rfl rv_c1 (by decide) (fun _ => rfl) (fun v17 => ?_)
  refine rv_goto (tgt := 28) h 65 dX10_load_65 (by decide) ?_
  refine rv_sub h [1, 0] rfl ?_
  exact ih8 v17 w16
def f_L_low (p1 : Int32) (p2 : Int32) (w : rv_W) : rv_R :=
  rv_gd (¬ p2 = 0) (
  some (((p1 &&& (2147483647 : Int32)) - (p1 &&& (2147483647 : Int32)) / p2 * p2), w))
set_option maxRecDepth 100000 in
set_option maxHeartbeats 4000000 in
theorem fn_L_low {l : Launch} {D : va_G} {ad : Nat → Nat} {ca : Nat → ClassId} (hJ : rv_J ad) (p1 : Int32) (p2 : Int32)  (w : rv_W) : rv_Fn l D ad ca yL_low cL_low 2 (some .int) 0 0 [.int p1, .int p2] w (f_L_low p1 p2 w) := by
  refine rv_mk (lv := [(0, .int p1), (1, .int p2)]) hJ (by decide +kernel) (Nat.le_of_ble_eq_true rfl) rfl (fun K h hr => ?_)
  have h : rv_Rl D ad ca l RL cL_low 2 0 0 K := h
  unfold f_L_low
  refine rv_iload_n h 0 dL_low_0 0 rfl ?_
  refine rv_ldc h 1 dL_low_1 rv_kc_L_7 ?_
  refine rv_iand h 3 dL_low_3 ?_
  refine rv_iload_n h 4 dL_low_4 1 rfl ?_
  refine rv_guard h (fun hn1 => ?_)
  refine rv_irem h 5 dL_low_5 hn1 ?_
  exact rv_reti hr 6 dL_low_6
def f_L_bits (p1 : Int32) (w : rv_W) : rv_R :=
  rv_fx (fun _ _ _ => none) (fun (ag1 : Int32 → Int32 → rv_W → rv_R) (v3 : Int32) (v4 : Int32) (w5 : rv_W) =>
  if v4 < (20 : Int32) then
  rv_lt ((v3 + ((p1 >>> (v4 &&& 31)) &&& (1 : Int32)))) (fun (v6 : Int32) =>
  rv_lt (v4 + (1 : Int32)) (fun (v7 : Int32) =>
  ag1 v6 v7 w5))
  else
  some (v3, w5)) rv_FU (0 : Int32) (0 : Int32) w
set_option maxRecDepth 100000 in
set_option maxHeartbeats 4000000 in
theorem fn_L_bits {l : Launch} {D : va_G} {ad : Nat → Nat} {ca : Nat → ClassId} (hJ : rv_J ad) (p1 : Int32)  (w : rv_W) : rv_Fn l D ad ca yL_bits cL_bits 3 (some .int) 0 0 [.int p1] w (f_L_bits p1 w) := by
  refine rv_mk (lv := [(0, .int p1)]) hJ (by decide +kernel) (Nat.le_of_ble_eq_true rfl) rfl (fun K h hr => ?_)
  have h : rv_Rl D ad ca l RL cL_bits 3 0 0 K := h
  unfold f_L_bits
  refine rv_iconst h 0 dL_bits_0 rv_c0 ?_
  refine rv_istore_n (lv' := [(1, .int (0 : Int32)), (0, .int p1)]) h 1 dL_bits_1 (by decide) rfl ?_
  refine rv_iconst h 2 dL_bits_2 rv_c0 ?_
  refine rv_istore_n (lv' := [(2, .int (0 : Int32)), (1, .int (0 : Int32)), (0, .int p1)]) h 3 dL_bits_3 (by decide) rfl ?_
  refine rv_sub h [2, 1, 0] rfl ?_
  refine rv_fx_ind (fun (a0 : Int32 → Int32 → rv_W → rv_R) => ∀ (v3 : Int32) (v4 : Int32) (w5 : rv_W), K 4 [(0, .int p1), (1, .int v3), (2, .int v4)] [] w5 (a0 v3 v4 w5)) (fun _ _ _ => rv_none h) (fun ag1 ih2 v3 v4 w5 => ?_) rv_FU (0 : Int32) (0 : Int32) w
  refine rv_iload_n h 4 dL_bits_4 2 rfl ?_
  refine rv_bipush (v := 20) h 5 dL_bits_5 (by decide +kernel) ?_
  refine rv_icmp_ge (tgt := 24) h 7 dL_bits_7 (by decide) (fun _ => ?_) (fun _ => ?_)
  rotate_left
  · refine rv_iload_n h 24 dL_bits_24 1 rfl ?_
    exact rv_reti hr 25 dL_bits_25
  refine rv_iload_n h 10 dL_bits_10 1 rfl ?_
  refine rv_iload_n h 11 dL_bits_11 0 rfl ?_
  refine rv_iload_n h 12 dL_bits_12 2 rfl ?_
  refine rv_ishr h 13 dL_bits_13 ?_
  refine rv_iconst h 14 dL_bits_14 rv_c1 ?_
  refine rv_iand h 15 dL_bits_15 ?_
  refine rv_iadd h 16 dL_bits_16 ?_
  refine rv_top (fun v6 => ?_)
  refine rv_istore_n (lv' := [(1, .int v6), (0, .int p1), (2, .int v4)]) h 17 dL_bits_17 (by decide) rfl ?_
  refine rv_iinc h 18 (fun v7 => [(2, .int v7), (1, .int v6), (0, .int p1)]) dL_bits_18 2 rfl rv_c1 (by decide) (fun _ => rfl) (fun v7 => ?_)
  refine rv_goto (tgt := 4) h 21 dL_bits_21 (by decide) ?_
  refine rv_sub h [2, 1, 0] rfl ?_
  exact ih2 v6 v7 w5
def f_L_ballot (p1 : Int32) (w : rv_W) : rv_R :=
  rv_bd (f_L_low p1 (5 : Int32) w) (fun (r1 : Int32) (w2 : rv_W) =>
  rv_lt (((1 : Int32) + r1)) (fun (v3 : Int32) =>
  rv_lt ((((p1 >>> ((3 : Int32) &&& 31)) &&& (16777215 : Int32)) + (7 : Int32))) (fun (v4 : Int32) =>
  rv_fx (fun _ _ _ _ _ => none) (fun (ag5 : Int32 → Int32 → Int32 → Int32 → rv_W → rv_R) (v7 : Int32) (v8 : Int32) (v9 : Int32) (v10 : Int32) (w11 : rv_W) =>
  if v10 < v3 then
  rv_gd (¬ ((5 : Int32) - v10) = 0) (
  rv_lt ((v9 - v9 / ((5 : Int32) - v10) * ((5 : Int32) - v10))) (fun (v13 : Int32) =>
  rv_gd (¬ ((5 : Int32) - v10) = 0) (
  rv_lt ((v9 / ((5 : Int32) - v10))) (fun (v15 : Int32) =>
  rv_fx (fun _ _ _ => none) (fun (ag16 : Int32 → Int32 → rv_W → rv_R) (v18 : Int32) (v19 : Int32) (w20 : rv_W) =>
  rv_jn (fun  (w21 : rv_W) =>
  rv_lt ((v18 - ((v7 >>> (v19 &&& 31)) &&& (1 : Int32)))) (fun (v24 : Int32) =>
  rv_lt (v19 + (1 : Int32)) (fun (v25 : Int32) =>
  ag16 v24 v25 w21))) (fun (k22 : rv_W → rv_R) =>
  if ((v7 >>> (v19 &&& 31)) &&& (1 : Int32)) = 0 then
  k22 w20
  else
  if 0 < v18 then
  k22 w20
  else
  rv_lt ((v7 &&& (((1 : Int32) <<< (v19 &&& 31)) ^^^ (-1 : Int32)))) (fun (v26 : Int32) =>
  rv_lt (((((10 : Int32) * v8) + v19) + (1 : Int32))) (fun (v27 : Int32) =>
  rv_lt (v10 + (1 : Int32)) (fun (v28 : Int32) =>
  ag5 v26 v27 v15 v28 w20))))) rv_FU v13 (0 : Int32) w11))))
  else
  some (v8, w11)) rv_FU (31 : Int32) (0 : Int32) v4 (0 : Int32) w2)))
set_option maxRecDepth 100000 in
set_option maxHeartbeats 4000000 in
theorem fn_L_ballot {l : Launch} {D : va_G} {ad : Nat → Nat} {ca : Nat → ClassId} (hJ : rv_J ad) (p1 : Int32)  (w : rv_W) : rv_Fn l D ad ca yL_ballot cL_ballot 8 (some .int) 1 21 [.int p1] w (f_L_ballot p1 w) := by
  refine rv_mk (lv := [(0, .int p1)]) hJ (by decide +kernel) (Nat.le_of_ble_eq_true rfl) rfl (fun K h hr => ?_)
  have h : rv_Rl D ad ca l RL cL_ballot 8 1 21 K := h
  unfold f_L_ballot
  refine rv_iconst h 0 dL_ballot_0 rv_c1 ?_
  refine rv_iload_n h 1 dL_ballot_1 0 rfl ?_
  refine rv_iconst h 2 dL_ballot_2 rv_c5 ?_
  refine rv_callSi h 3 dL_ballot_3 (fn_L_low hJ p1 (5 : Int32)  w) ce_L_low lk_L_8 rfl rfl (Nat.le_of_ble_eq_true rfl) ⟨Nat.le_of_ble_eq_true rfl, Nat.le_of_ble_eq_true rfl⟩ (fun r1 w2 => ?_)
  refine rv_iadd h 6 dL_ballot_6 ?_
  refine rv_top (fun v3 => ?_)
  refine rv_istore_n (lv' := [(1, .int v3), (0, .int p1)]) h 7 dL_ballot_7 (by decide) rfl ?_
  refine rv_bipush (v := 31) h 8 dL_ballot_8 (by decide +kernel) ?_
  refine rv_istore_n (lv' := [(2, .int (31 : Int32)), (1, .int v3), (0, .int p1)]) h 10 dL_ballot_10 (by decide) rfl ?_
  refine rv_iconst h 11 dL_ballot_11 rv_c0 ?_
  refine rv_istore_n (lv' := [(3, .int (0 : Int32)), (2, .int (31 : Int32)), (1, .int v3), (0, .int p1)]) h 12 dL_ballot_12 (by decide) rfl ?_
  refine rv_iload_n h 13 dL_ballot_13 3 rfl ?_
  refine rv_iconst h 14 dL_ballot_14 rv_c3 ?_
  refine rv_ishr h 15 dL_ballot_15 ?_
  refine rv_ldc h 16 dL_ballot_16 rv_kc_L_14 ?_
  refine rv_iand h 18 dL_ballot_18 ?_
  refine rv_bipush (v := 7) h 19 dL_ballot_19 (by decide +kernel) ?_
  refine rv_iadd h 21 dL_ballot_21 ?_
  refine rv_top (fun v4 => ?_)
  refine rv_istore (lv' := [(4, .int v4), (3, .int (0 : Int32)), (2, .int (31 : Int32)), (1, .int v3), (0, .int p1)]) h 22 dL_ballot_22 (by decide) rfl ?_
  refine rv_iconst h 24 dL_ballot_24 rv_c0 ?_
  refine rv_istore (lv' := [(5, .int (0 : Int32)), (4, .int v4), (3, .int (0 : Int32)), (2, .int (31 : Int32)), (1, .int v3), (0, .int p1)]) h 25 dL_ballot_25 (by decide) rfl ?_
  refine rv_sub h [4, 3, 2, 1, 0] rfl ?_
  refine rv_fx_ind (fun (a0 : Int32 → Int32 → Int32 → Int32 → rv_W → rv_R) => ∀ (v7 : Int32) (v8 : Int32) (v9 : Int32) (v10 : Int32) (w11 : rv_W), K 27 [(1, .int v3), (2, .int v7), (3, .int v8), (4, .int v9), (5, .int v10)] [] w11 (a0 v7 v8 v9 v10 w11)) (fun _ _ _ _ _ => rv_none h) (fun ag5 ih6 v7 v8 v9 v10 w11 => ?_) rv_FU (31 : Int32) (0 : Int32) v4 (0 : Int32) w2
  refine rv_iload h 27 dL_ballot_27 4 rfl ?_
  refine rv_iload_n h 29 dL_ballot_29 0 rfl ?_
  refine rv_icmp_ge (tgt := 110) h 30 dL_ballot_30 (by decide) (fun _ => ?_) (fun _ => ?_)
  rotate_left
  · refine rv_iload_n h 110 dL_ballot_110 2 rfl ?_
    exact rv_reti hr 111 dL_ballot_111
  refine rv_iload h 33 dL_ballot_33 3 rfl ?_
  refine rv_iconst h 35 dL_ballot_35 rv_c5 ?_
  refine rv_iload h 36 dL_ballot_36 4 rfl ?_
  refine rv_isub h 38 dL_ballot_38 ?_
  refine rv_guard h (fun hn12 => ?_)
  refine rv_irem h 39 dL_ballot_39 hn12 ?_
  refine rv_top (fun v13 => ?_)
  refine rv_istore (lv' := [(6, .int v13), (1, .int v3), (2, .int v7), (3, .int v8), (4, .int v9), (5, .int v10)]) h 40 dL_ballot_40 (by decide) rfl ?_
  refine rv_iload h 42 dL_ballot_42 4 rfl ?_
  refine rv_iconst h 44 dL_ballot_44 rv_c5 ?_
  refine rv_iload h 45 dL_ballot_45 5 rfl ?_
  refine rv_isub h 47 dL_ballot_47 ?_
  refine rv_guard h (fun hn14 => ?_)
  refine rv_idiv h 48 dL_ballot_48 hn14 ?_
  refine rv_top (fun v15 => ?_)
  refine rv_istore (lv' := [(4, .int v15), (6, .int v13), (1, .int v3), (2, .int v7), (3, .int v8), (5, .int v10)]) h 49 dL_ballot_49 (by decide) rfl ?_
  refine rv_iconst h 51 dL_ballot_51 rv_c0 ?_
  refine rv_istore (lv' := [(7, .int (0 : Int32)), (4, .int v15), (6, .int v13), (1, .int v3), (2, .int v7), (3, .int v8), (5, .int v10)]) h 52 dL_ballot_52 (by decide) rfl ?_
  refine rv_sub h [3, 4, 5, 1, 6, 2, 0] rfl ?_
  refine rv_fx_ind (fun (a0 : Int32 → Int32 → rv_W → rv_R) => ∀ (v18 : Int32) (v19 : Int32) (w20 : rv_W), K 54 [(1, .int v3), (2, .int v7), (3, .int v8), (4, .int v15), (5, .int v10), (6, .int v18), (7, .int v19)] [] w20 (a0 v18 v19 w20)) (fun _ _ _ => rv_none h) (fun ag16 ih17 v18 v19 w20 => ?_) rv_FU v13 (0 : Int32) w11
  refine rv_iload_n h 54 dL_ballot_54 1 rfl ?_
  refine rv_iload h 55 dL_ballot_55 6 rfl ?_
  refine rv_ishr h 57 dL_ballot_57 ?_
  refine rv_iconst h 58 dL_ballot_58 rv_c1 ?_
  refine rv_iand h 59 dL_ballot_59 ?_
  refine rv_join (fun (k0 : rv_W → rv_R) => ∀  (w21 : rv_W), K 68 [(1, .int v3), (2, .int v7), (3, .int v8), (4, .int v15), (5, .int v10), (6, .int v18), (7, .int v19)] ([]) w21 (k0 w21)) (fun w21 => ?_) (fun k22 hk23 => ?_)
  · refine rv_iload h 68 dL_ballot_68 5 rfl ?_
    refine rv_iload_n h 70 dL_ballot_70 1 rfl ?_
    refine rv_iload h 71 dL_ballot_71 6 rfl ?_
    refine rv_ishr h 73 dL_ballot_73 ?_
    refine rv_iconst h 74 dL_ballot_74 rv_c1 ?_
    refine rv_iand h 75 dL_ballot_75 ?_
    refine rv_isub h 76 dL_ballot_76 ?_
    refine rv_top (fun v24 => ?_)
    refine rv_istore (lv' := [(6, .int v24), (1, .int v3), (2, .int v7), (3, .int v8), (4, .int v15), (5, .int v10), (7, .int v19)]) h 77 dL_ballot_77 (by decide) rfl ?_
    refine rv_iinc h 79 (fun v25 => [(7, .int v25), (6, .int v24), (1, .int v3), (2, .int v7), (3, .int v8), (4, .int v15), (5, .int v10)]) dL_ballot_79 6 rfl rv_c1 (by decide) (fun _ => rfl) (fun v25 => ?_)
    refine rv_goto (tgt := 54) h 82 dL_ballot_82 (by decide) ?_
    refine rv_sub h [2, 3, 4, 5, 6, 1, 0] rfl ?_
    exact ih17 v24 v25 w21
  refine rv_if_eq (tgt := 68) h 60 dL_ballot_60 (by decide) (fun _ => ?_) (fun _ => ?_)
  · refine rv_sub h [0, 1, 2, 3, 4, 5, 6] rfl ?_
    exact hk23 w20
  refine rv_iload h 63 dL_ballot_63 5 rfl ?_
  refine rv_if_le (tgt := 85) h 65 dL_ballot_65 (by decide) (fun _ => ?_) (fun _ => ?_)
  · refine rv_sub h [0, 1, 2, 3, 4, 5, 6] rfl ?_
    exact hk23 w20
  refine rv_iload_n h 85 dL_ballot_85 1 rfl ?_
  refine rv_iconst h 86 dL_ballot_86 rv_c1 ?_
  refine rv_iload h 87 dL_ballot_87 6 rfl ?_
  refine rv_ishl h 89 dL_ballot_89 ?_
  refine rv_iconst h 90 dL_ballot_90 rv_cm1 ?_
  refine rv_ixor h 91 dL_ballot_91 ?_
  refine rv_iand h 92 dL_ballot_92 ?_
  refine rv_top (fun v26 => ?_)
  refine rv_istore_n (lv' := [(2, .int v26), (1, .int v3), (3, .int v8), (4, .int v15), (5, .int v10), (6, .int v18), (7, .int v19)]) h 93 dL_ballot_93 (by decide) rfl ?_
  refine rv_bipush (v := 10) h 94 dL_ballot_94 (by decide +kernel) ?_
  refine rv_iload_n h 96 dL_ballot_96 2 rfl ?_
  refine rv_imul h 97 dL_ballot_97 ?_
  refine rv_iload h 98 dL_ballot_98 6 rfl ?_
  refine rv_iadd h 100 dL_ballot_100 ?_
  refine rv_iconst h 101 dL_ballot_101 rv_c1 ?_
  refine rv_iadd h 102 dL_ballot_102 ?_
  refine rv_top (fun v27 => ?_)
  refine rv_istore_n (lv' := [(3, .int v27), (2, .int v26), (1, .int v3), (4, .int v15), (5, .int v10), (6, .int v18), (7, .int v19)]) h 103 dL_ballot_103 (by decide) rfl ?_
  refine rv_iinc h 104 (fun v28 => [(5, .int v28), (3, .int v27), (2, .int v26), (1, .int v3), (4, .int v15), (6, .int v18), (7, .int v19)]) dL_ballot_104 4 rfl rv_c1 (by decide) (fun _ => rfl) (fun v28 => ?_)
  refine rv_goto (tgt := 27) h 107 dL_ballot_107 (by decide) ?_
  refine rv_sub h [3, 2, 1, 4, 0] rfl ?_
  exact ih6 v26 v27 v15 v28 w20
def f_L_place (p1 : Int32) (p2 : Int32) (w : rv_W) : rv_R :=
  rv_fx (fun _ _ _ _ => none) (fun (ag1 : Int32 → Int32 → Int32 → rv_W → rv_R) (v3 : Int32) (v4 : Int32) (v5 : Int32) (w6 : rv_W) =>
  if 0 < v5 then
  rv_jn (fun (v7 : Int32) (w8 : rv_W) =>
  rv_lt (v4 + (1 : Int32)) (fun (v11 : Int32) =>
  rv_lt ((v5 / (10 : Int32))) (fun (v12 : Int32) =>
  ag1 v7 v11 v12 w8))) (fun (k9 : Int32 → rv_W → rv_R) =>
  if (v5 - v5 / (10 : Int32) * (10 : Int32)) = (p2 + (1 : Int32)) then
  k9 v4 w6
  else
  k9 v3 w6)
  else
  if v3 = (9 : Int32) then
  some ((9 : Int32), w6)
  else
  some (((v4 - (1 : Int32)) - v3), w6)) rv_FU (9 : Int32) (0 : Int32) p1 w
set_option maxRecDepth 100000 in
set_option maxHeartbeats 4000000 in
theorem fn_L_place {l : Launch} {D : va_G} {ad : Nat → Nat} {ca : Nat → ClassId} (hJ : rv_J ad) (p1 : Int32) (p2 : Int32)  (w : rv_W) : rv_Fn l D ad ca yL_place cL_place 5 (some .int) 0 0 [.int p1, .int p2] w (f_L_place p1 p2 w) := by
  refine rv_mk (lv := [(0, .int p1), (1, .int p2)]) hJ (by decide +kernel) (Nat.le_of_ble_eq_true rfl) rfl (fun K h hr => ?_)
  have h : rv_Rl D ad ca l RL cL_place 5 0 0 K := h
  unfold f_L_place
  refine rv_bipush (v := 9) h 0 dL_place_0 (by decide +kernel) ?_
  refine rv_istore_n (lv' := [(2, .int (9 : Int32)), (0, .int p1), (1, .int p2)]) h 2 dL_place_2 (by decide) rfl ?_
  refine rv_iconst h 3 dL_place_3 rv_c0 ?_
  refine rv_istore_n (lv' := [(3, .int (0 : Int32)), (2, .int (9 : Int32)), (0, .int p1), (1, .int p2)]) h 4 dL_place_4 (by decide) rfl ?_
  refine rv_iload_n h 5 dL_place_5 2 rfl ?_
  refine rv_istore (lv' := [(4, .int p1), (3, .int (0 : Int32)), (2, .int (9 : Int32)), (0, .int p1), (1, .int p2)]) h 6 dL_place_6 (by decide) rfl ?_
  refine rv_sub h [4, 2, 1, 0] rfl ?_
  refine rv_fx_ind (fun (a0 : Int32 → Int32 → Int32 → rv_W → rv_R) => ∀ (v3 : Int32) (v4 : Int32) (v5 : Int32) (w6 : rv_W), K 8 [(1, .int p2), (2, .int v3), (3, .int v4), (4, .int v5)] [] w6 (a0 v3 v4 v5 w6)) (fun _ _ _ _ => rv_none h) (fun ag1 ih2 v3 v4 v5 w6 => ?_) rv_FU (9 : Int32) (0 : Int32) p1 w
  refine rv_iload h 8 dL_place_8 3 rfl ?_
  refine rv_if_le (tgt := 43) h 10 dL_place_10 (by decide) (fun _ => ?_) (fun _ => ?_)
  rotate_left
  · refine rv_iload_n h 43 dL_place_43 1 rfl ?_
    refine rv_bipush (v := 9) h 44 dL_place_44 (by decide +kernel) ?_
    refine rv_icmp_ne (tgt := 54) h 46 dL_place_46 (by decide) (fun _ => ?_) (fun _ => ?_)
    · refine rv_bipush (v := 9) h 49 dL_place_49 (by decide +kernel) ?_
      refine rv_goto (tgt := 59) h 51 dL_place_51 (by decide) ?_
      exact rv_reti hr 59 dL_place_59
    refine rv_iload_n h 54 dL_place_54 2 rfl ?_
    refine rv_iconst h 55 dL_place_55 rv_c1 ?_
    refine rv_isub h 56 dL_place_56 ?_
    refine rv_iload_n h 57 dL_place_57 1 rfl ?_
    refine rv_isub h 58 dL_place_58 ?_
    exact rv_reti hr 59 dL_place_59
  refine rv_iload h 13 dL_place_13 3 rfl ?_
  refine rv_bipush (v := 10) h 15 dL_place_15 (by decide +kernel) ?_
  refine rv_irem h 17 dL_place_17 (by decide) ?_
  refine rv_iload_n h 18 dL_place_18 0 rfl ?_
  refine rv_iconst h 19 dL_place_19 rv_c1 ?_
  refine rv_iadd h 20 dL_place_20 ?_
  refine rv_join (fun (k0 : Int32 → rv_W → rv_R) => ∀ (v7 : Int32) (w8 : rv_W), K 29 [(1, .int p2), (3, .int v4), (4, .int v5)] (.int v7 :: []) w8 (k0 v7 w8)) (fun v7 w8 => ?_) (fun k9 hk10 => ?_)
  · refine rv_istore_n (lv' := [(2, .int v7), (1, .int p2), (3, .int v4), (4, .int v5)]) h 29 dL_place_29 (by decide) rfl ?_
    refine rv_iinc h 30 (fun v11 => [(3, .int v11), (2, .int v7), (1, .int p2), (4, .int v5)]) dL_place_30 2 rfl rv_c1 (by decide) (fun _ => rfl) (fun v11 => ?_)
    refine rv_iload h 33 dL_place_33 3 rfl ?_
    refine rv_bipush (v := 10) h 35 dL_place_35 (by decide +kernel) ?_
    refine rv_idiv h 37 dL_place_37 (by decide) ?_
    refine rv_top (fun v12 => ?_)
    refine rv_istore (lv' := [(4, .int v12), (3, .int v11), (2, .int v7), (1, .int p2)]) h 38 dL_place_38 (by decide) rfl ?_
    refine rv_goto (tgt := 8) h 40 dL_place_40 (by decide) ?_
    refine rv_sub h [3, 2, 1, 0] rfl ?_
    exact ih2 v7 v11 v12 w8
  refine rv_icmp_ne (tgt := 28) h 21 dL_place_21 (by decide) (fun _ => ?_) (fun _ => ?_)
  rotate_left
  · refine rv_iload_n h 28 dL_place_28 1 rfl ?_
    refine rv_sub h [0, 2, 3] rfl ?_
    exact hk10 v3 w6
  refine rv_iload_n h 24 dL_place_24 2 rfl ?_
  refine rv_goto (tgt := 29) h 25 dL_place_25 (by decide) ?_
  refine rv_sub h [0, 2, 3] rfl ?_
  exact hk10 v4 w6
def f_L_arePairsSound  (w : rv_W) : rv_R :=
  rv_bd (f_X10_allVoters  w) (fun (r1 : Int32) (w2 : rv_W) =>
  rv_bd (f_X10_standing  w2) (fun (r3 : Int32) (w4 : rv_W) =>
  rv_fx (fun _ _ => none) (fun (ag5 : Int32 → rv_W → rv_R) (v7 : Int32) (w8 : rv_W) =>
  if v7 < (5 : Int32) then
  rv_fx (fun _ _ => none) (fun (ag9 : Int32 → rv_W → rv_R) (v11 : Int32) (w12 : rv_W) =>
  if v11 < (5 : Int32) then
  rv_jn (fun (v14 : Int32) (w15 : rv_W) =>
  if v14 = 0 then
  rv_bd (f_X10_pair v7 v11 w15) (fun (r36 : Int32) (w37 : rv_W) =>
  if r36 = (-1000003 : Int32) then
  rv_bd (f_X10_isLocked v7 v11 w37) (fun (r38 : Int32) (w39 : rv_W) =>
  if r38 = (-1000003 : Int32) then
  rv_lt (v11 + (1 : Int32)) (fun (v40 : Int32) =>
  ag9 v40 w39)
  else
  some ((0 : Int32), w39))
  else
  some ((0 : Int32), w37))
  else
  if v7 = v11 then
  rv_bd (f_X10_pair v7 v11 w15) (fun (r31 : Int32) (w32 : rv_W) =>
  if r31 = 0 then
  rv_bd (f_X10_strength v7 v11 w32) (fun (r33 : Int32) (w34 : rv_W) =>
  if r33 = (-1000003 : Int32) then
  rv_lt (v11 + (1 : Int32)) (fun (v35 : Int32) =>
  ag9 v35 w34)
  else
  some ((0 : Int32), w34))
  else
  some ((0 : Int32), w32))
  else
  rv_bd (f_X10_pair v7 v11 w15) (fun (r18 : Int32) (w19 : rv_W) =>
  rv_bd (f_X10_pair v11 v7 w19) (fun (r20 : Int32) (w21 : rv_W) =>
  if r1 < (r18 + r20) then
  some ((0 : Int32), w21)
  else
  rv_bd (f_X10_isLocked v7 v11 w21) (fun (r22 : Int32) (w23 : rv_W) =>
  rv_bd (f_X10_isLocked v11 v7 w23) (fun (r24 : Int32) (w25 : rv_W) =>
  if (1 : Int32) < (r22 + r24) then
  some ((0 : Int32), w25)
  else
  rv_bd (f_X10_strength v7 v11 w25) (fun (r26 : Int32) (w27 : rv_W) =>
  if r26 < 0 then
  some ((0 : Int32), w27)
  else
  rv_bd (f_X10_strength v7 v11 w27) (fun (r28 : Int32) (w29 : rv_W) =>
  if r1 < r28 then
  some ((0 : Int32), w29)
  else
  rv_lt (v11 + (1 : Int32)) (fun (v30 : Int32) =>
  ag9 v30 w29)))))))) (fun (k16 : Int32 → rv_W → rv_R) =>
  rv_jn (fun  (w41 : rv_W) =>
  k16 (0 : Int32) w41) (fun (k42 : rv_W → rv_R) =>
  if ((r3 >>> (v7 &&& 31)) &&& (1 : Int32)) = (1 : Int32) then
  if ((r3 >>> (v11 &&& 31)) &&& (1 : Int32)) = (1 : Int32) then
  k16 (1 : Int32) w12
  else
  k42 w12
  else
  k42 w12))
  else
  rv_lt (v7 + (1 : Int32)) (fun (v13 : Int32) =>
  ag5 v13 w12)) rv_FU (0 : Int32) w8
  else
  some ((1 : Int32), w8)) rv_FU (0 : Int32) w4))
set_option maxRecDepth 100000 in
set_option maxHeartbeats 4000000 in
theorem fn_L_arePairsSound {l : Launch} {D : va_G} {ad : Nat → Nat} {ca : Nat → ClassId} (hJ : rv_J ad)   (w : rv_W) : rv_Fn l D ad ca yL_arePairsSound cL_arePairsSound 6 (some .boolean) 6 138 [.ref (ad 0)] w (f_L_arePairsSound  w) := by
  refine rv_mk (lv := [(0, .ref (ad 0))]) hJ (by decide +kernel) (Nat.le_of_ble_eq_true rfl) rfl (fun K h hr => ?_)
  have h : rv_Rl D ad ca l RL cL_arePairsSound 6 6 138 K := h
  unfold f_L_arePairsSound
  refine rv_aload_n h 0 dL_arePairsSound_0 0 rfl ?_
  refine rv_callVi h 1 dL_arePairsSound_1 (fn_X10_allVoters hJ   w) ce_X10_allVoters lk_L_15 rv_s0 rfl rv_cf8 rfl rfl (Nat.le_of_ble_eq_true rfl) ⟨Nat.le_of_ble_eq_true rfl, Nat.le_of_ble_eq_true rfl⟩ (fun r1 w2 => ?_)
  refine rv_istore_n (lv' := [(1, .int r1), (0, .ref (ad 0))]) h 4 dL_arePairsSound_4 (by decide) rfl ?_
  refine rv_aload_n h 5 dL_arePairsSound_5 1 rfl ?_
  refine rv_callVi h 6 dL_arePairsSound_6 (fn_X10_standing hJ   w2) ce_X10_standing lk_L_21 rv_s0 rfl rv_cf8 rfl rfl (Nat.le_of_ble_eq_true rfl) ⟨Nat.le_of_ble_eq_true rfl, Nat.le_of_ble_eq_true rfl⟩ (fun r3 w4 => ?_)
  refine rv_istore_n (lv' := [(2, .int r3), (1, .int r1), (0, .ref (ad 0))]) h 9 dL_arePairsSound_9 (by decide) rfl ?_
  refine rv_iconst h 10 dL_arePairsSound_10 rv_c0 ?_
  refine rv_istore_n (lv' := [(3, .int (0 : Int32)), (2, .int r3), (1, .int r1), (0, .ref (ad 0))]) h 11 dL_arePairsSound_11 (by decide) rfl ?_
  refine rv_sub h [3, 2, 1, 0] rfl ?_
  refine rv_fx_ind (fun (a0 : Int32 → rv_W → rv_R) => ∀ (v7 : Int32) (w8 : rv_W), K 12 [(0, .ref (ad 0)), (1, .int r1), (2, .int r3), (3, .int v7)] [] w8 (a0 v7 w8)) (fun _ _ => rv_none h) (fun ag5 ih6 v7 w8 => ?_) rv_FU (0 : Int32) w4
  refine rv_iload_n h 12 dL_arePairsSound_12 3 rfl ?_
  refine rv_iconst h 13 dL_arePairsSound_13 rv_c5 ?_
  refine rv_icmp_ge (tgt := 187) h 14 dL_arePairsSound_14 (by decide) (fun _ => ?_) (fun _ => ?_)
  rotate_left
  · refine rv_iconst h 187 dL_arePairsSound_187 rv_c1 ?_
    exact rv_retz1 hr 188 dL_arePairsSound_188
  refine rv_iconst h 17 dL_arePairsSound_17 rv_c0 ?_
  refine rv_istore (lv' := [(4, .int (0 : Int32)), (0, .ref (ad 0)), (1, .int r1), (2, .int r3), (3, .int v7)]) h 18 dL_arePairsSound_18 (by decide) rfl ?_
  refine rv_sub h [1, 2, 3, 4, 0] rfl ?_
  refine rv_fx_ind (fun (a0 : Int32 → rv_W → rv_R) => ∀ (v11 : Int32) (w12 : rv_W), K 20 [(0, .ref (ad 0)), (1, .int r1), (2, .int r3), (3, .int v7), (4, .int v11)] [] w12 (a0 v11 w12)) (fun _ _ => rv_none h) (fun ag9 ih10 v11 w12 => ?_) rv_FU (0 : Int32) w8
  refine rv_iload h 20 dL_arePairsSound_20 4 rfl ?_
  refine rv_iconst h 22 dL_arePairsSound_22 rv_c5 ?_
  refine rv_icmp_ge (tgt := 181) h 23 dL_arePairsSound_23 (by decide) (fun _ => ?_) (fun _ => ?_)
  rotate_left
  · refine rv_iinc h 181 (fun v13 => [(3, .int v13), (0, .ref (ad 0)), (1, .int r1), (2, .int r3), (4, .int v11)]) dL_arePairsSound_181 3 rfl rv_c1 (by decide) (fun _ => rfl) (fun v13 => ?_)
    refine rv_goto (tgt := 12) h 184 dL_arePairsSound_184 (by decide) ?_
    refine rv_sub h [1, 2, 3, 0] rfl ?_
    exact ih6 v13 w12
  refine rv_iload_n h 26 dL_arePairsSound_26 2 rfl ?_
  refine rv_iload_n h 27 dL_arePairsSound_27 3 rfl ?_
  refine rv_ishr h 28 dL_arePairsSound_28 ?_
  refine rv_iconst h 29 dL_arePairsSound_29 rv_c1 ?_
  refine rv_iand h 30 dL_arePairsSound_30 ?_
  refine rv_iconst h 31 dL_arePairsSound_31 rv_c1 ?_
  refine rv_join (fun (k0 : Int32 → rv_W → rv_R) => ∀ (v14 : Int32) (w15 : rv_W), K 50 [(0, .ref (ad 0)), (1, .int r1), (2, .int r3), (3, .int v7), (4, .int v11)] (.int v14 :: []) w15 (k0 v14 w15)) (fun v14 w15 => ?_) (fun k16 hk17 => ?_)
  · refine rv_istore (lv' := [(5, .int v14), (0, .ref (ad 0)), (1, .int r1), (2, .int r3), (3, .int v7), (4, .int v11)]) h 50 dL_arePairsSound_50 (by decide) rfl ?_
    refine rv_iload h 52 dL_arePairsSound_52 0 rfl ?_
    refine rv_if_ne (tgt := 83) h 54 dL_arePairsSound_54 (by decide) (fun _ => ?_) (fun _ => ?_)
    · refine rv_aload_n h 57 dL_arePairsSound_57 1 rfl ?_
      refine rv_iload_n h 58 dL_arePairsSound_58 4 rfl ?_
      refine rv_iload h 59 dL_arePairsSound_59 5 rfl ?_
      refine rv_callVi h 61 dL_arePairsSound_61 (fn_X10_pair hJ v7 v11  w15) ce_X10_pair lk_L_24 rv_s0 rfl rv_cf8 rfl rfl (Nat.le_of_ble_eq_true rfl) ⟨Nat.le_of_ble_eq_true rfl, Nat.le_of_ble_eq_true rfl⟩ (fun r36 w37 => ?_)
      refine rv_ldc h 64 dL_arePairsSound_64 rv_kc_L_27 ?_
      refine rv_icmp_ne (tgt := 81) h 66 dL_arePairsSound_66 (by decide) (fun _ => ?_) (fun _ => ?_)
      rotate_left
      · refine rv_iconst h 81 dL_arePairsSound_81 rv_c0 ?_
        exact rv_retz0 hr 82 dL_arePairsSound_82
      refine rv_aload_n h 69 dL_arePairsSound_69 1 rfl ?_
      refine rv_iload_n h 70 dL_arePairsSound_70 4 rfl ?_
      refine rv_iload h 71 dL_arePairsSound_71 5 rfl ?_
      refine rv_callVi h 73 dL_arePairsSound_73 (fn_X10_isLocked hJ v7 v11  w37) ce_X10_isLocked lk_L_28 rv_s0 rfl rv_cf8 rfl rfl (Nat.le_of_ble_eq_true rfl) ⟨Nat.le_of_ble_eq_true rfl, Nat.le_of_ble_eq_true rfl⟩ (fun r38 w39 => ?_)
      refine rv_ldc h 76 dL_arePairsSound_76 rv_kc_L_27 ?_
      refine rv_icmp_eq (tgt := 175) h 78 dL_arePairsSound_78 (by decide) (fun _ => ?_) (fun _ => ?_)
      rotate_left
      · refine rv_iconst h 81 dL_arePairsSound_81 rv_c0 ?_
        exact rv_retz0 hr 82 dL_arePairsSound_82
      refine rv_iinc h 175 (fun v40 => [(4, .int v40), (5, .int v14), (0, .ref (ad 0)), (1, .int r1), (2, .int r3), (3, .int v7)]) dL_arePairsSound_175 5 rfl rv_c1 (by decide) (fun _ => rfl) (fun v40 => ?_)
      refine rv_goto (tgt := 20) h 178 dL_arePairsSound_178 (by decide) ?_
      refine rv_sub h [2, 3, 4, 5, 0] rfl ?_
      exact ih10 v40 w39
    refine rv_iload_n h 83 dL_arePairsSound_83 4 rfl ?_
    refine rv_iload h 84 dL_arePairsSound_84 5 rfl ?_
    refine rv_icmp_ne (tgt := 114) h 86 dL_arePairsSound_86 (by decide) (fun _ => ?_) (fun _ => ?_)
    · refine rv_aload_n h 89 dL_arePairsSound_89 1 rfl ?_
      refine rv_iload_n h 90 dL_arePairsSound_90 4 rfl ?_
      refine rv_iload h 91 dL_arePairsSound_91 5 rfl ?_
      refine rv_callVi h 93 dL_arePairsSound_93 (fn_X10_pair hJ v7 v11  w15) ce_X10_pair lk_L_24 rv_s0 rfl rv_cf8 rfl rfl (Nat.le_of_ble_eq_true rfl) ⟨Nat.le_of_ble_eq_true rfl, Nat.le_of_ble_eq_true rfl⟩ (fun r31 w32 => ?_)
      refine rv_if_ne (tgt := 173) h 96 dL_arePairsSound_96 (by decide) (fun _ => ?_) (fun _ => ?_)
      rotate_left
      · refine rv_iconst h 173 dL_arePairsSound_173 rv_c0 ?_
        exact rv_retz0 hr 174 dL_arePairsSound_174
      refine rv_aload_n h 99 dL_arePairsSound_99 1 rfl ?_
      refine rv_iload_n h 100 dL_arePairsSound_100 4 rfl ?_
      refine rv_iload h 101 dL_arePairsSound_101 5 rfl ?_
      refine rv_callVi h 103 dL_arePairsSound_103 (fn_X10_strength hJ v7 v11  w32) ce_X10_strength lk_L_31 rv_s0 rfl rv_cf8 rfl rfl (Nat.le_of_ble_eq_true rfl) ⟨Nat.le_of_ble_eq_true rfl, Nat.le_of_ble_eq_true rfl⟩ (fun r33 w34 => ?_)
      refine rv_ldc h 106 dL_arePairsSound_106 rv_kc_L_27 ?_
      refine rv_icmp_eq (tgt := 175) h 108 dL_arePairsSound_108 (by decide) (fun _ => ?_) (fun _ => ?_)
      rotate_left
      · refine rv_goto (tgt := 173) h 111 dL_arePairsSound_111 (by decide) ?_
        refine rv_iconst h 173 dL_arePairsSound_173 rv_c0 ?_
        exact rv_retz0 hr 174 dL_arePairsSound_174
      refine rv_iinc h 175 (fun v35 => [(4, .int v35), (5, .int v14), (0, .ref (ad 0)), (1, .int r1), (2, .int r3), (3, .int v7)]) dL_arePairsSound_175 5 rfl rv_c1 (by decide) (fun _ => rfl) (fun v35 => ?_)
      refine rv_goto (tgt := 20) h 178 dL_arePairsSound_178 (by decide) ?_
      refine rv_sub h [2, 3, 4, 5, 0] rfl ?_
      exact ih10 v35 w34
    refine rv_aload_n h 114 dL_arePairsSound_114 1 rfl ?_
    refine rv_iload_n h 115 dL_arePairsSound_115 4 rfl ?_
    refine rv_iload h 116 dL_arePairsSound_116 5 rfl ?_
    refine rv_callVi h 118 dL_arePairsSound_118 (fn_X10_pair hJ v7 v11  w15) ce_X10_pair lk_L_24 rv_s0 rfl rv_cf8 rfl rfl (Nat.le_of_ble_eq_true rfl) ⟨Nat.le_of_ble_eq_true rfl, Nat.le_of_ble_eq_true rfl⟩ (fun r18 w19 => ?_)
    refine rv_aload_n h 121 dL_arePairsSound_121 1 rfl ?_
    refine rv_iload h 122 dL_arePairsSound_122 5 rfl ?_
    refine rv_iload_n h 124 dL_arePairsSound_124 4 rfl ?_
    refine rv_callVi h 125 dL_arePairsSound_125 (fn_X10_pair hJ v11 v7  w19) ce_X10_pair lk_L_24 rv_s0 rfl rv_cf8 rfl rfl (Nat.le_of_ble_eq_true rfl) ⟨Nat.le_of_ble_eq_true rfl, Nat.le_of_ble_eq_true rfl⟩ (fun r20 w21 => ?_)
    refine rv_iadd h 128 dL_arePairsSound_128 ?_
    refine rv_iload_n h 129 dL_arePairsSound_129 2 rfl ?_
    refine rv_icmp_gt (tgt := 173) h 130 dL_arePairsSound_130 (by decide) (fun _ => ?_) (fun _ => ?_)
    · refine rv_iconst h 173 dL_arePairsSound_173 rv_c0 ?_
      exact rv_retz0 hr 174 dL_arePairsSound_174
    refine rv_aload_n h 133 dL_arePairsSound_133 1 rfl ?_
    refine rv_iload_n h 134 dL_arePairsSound_134 4 rfl ?_
    refine rv_iload h 135 dL_arePairsSound_135 5 rfl ?_
    refine rv_callVi h 137 dL_arePairsSound_137 (fn_X10_isLocked hJ v7 v11  w21) ce_X10_isLocked lk_L_28 rv_s0 rfl rv_cf8 rfl rfl (Nat.le_of_ble_eq_true rfl) ⟨Nat.le_of_ble_eq_true rfl, Nat.le_of_ble_eq_true rfl⟩ (fun r22 w23 => ?_)
    refine rv_aload_n h 140 dL_arePairsSound_140 1 rfl ?_
    refine rv_iload h 141 dL_arePairsSound_141 5 rfl ?_
    refine rv_iload_n h 143 dL_arePairsSound_143 4 rfl ?_
    refine rv_callVi h 144 dL_arePairsSound_144 (fn_X10_isLocked hJ v11 v7  w23) ce_X10_isLocked lk_L_28 rv_s0 rfl rv_cf8 rfl rfl (Nat.le_of_ble_eq_true rfl) ⟨Nat.le_of_ble_eq_true rfl, Nat.le_of_ble_eq_true rfl⟩ (fun r24 w25 => ?_)
    refine rv_iadd h 147 dL_arePairsSound_147 ?_
    refine rv_iconst h 148 dL_arePairsSound_148 rv_c1 ?_
    refine rv_icmp_gt (tgt := 173) h 149 dL_arePairsSound_149 (by decide) (fun _ => ?_) (fun _ => ?_)
    · refine rv_iconst h 173 dL_arePairsSound_173 rv_c0 ?_
      exact rv_retz0 hr 174 dL_arePairsSound_174
    refine rv_aload_n h 152 dL_arePairsSound_152 1 rfl ?_
    refine rv_iload_n h 153 dL_arePairsSound_153 4 rfl ?_
    refine rv_iload h 154 dL_arePairsSound_154 5 rfl ?_
    refine rv_callVi h 156 dL_arePairsSound_156 (fn_X10_strength hJ v7 v11  w25) ce_X10_strength lk_L_31 rv_s0 rfl rv_cf8 rfl rfl (Nat.le_of_ble_eq_true rfl) ⟨Nat.le_of_ble_eq_true rfl, Nat.le_of_ble_eq_true rfl⟩ (fun r26 w27 => ?_)
    refine rv_if_lt (tgt := 173) h 159 dL_arePairsSound_159 (by decide) (fun _ => ?_) (fun _ => ?_)
    · refine rv_iconst h 173 dL_arePairsSound_173 rv_c0 ?_
      exact rv_retz0 hr 174 dL_arePairsSound_174
    refine rv_aload_n h 162 dL_arePairsSound_162 1 rfl ?_
    refine rv_iload_n h 163 dL_arePairsSound_163 4 rfl ?_
    refine rv_iload h 164 dL_arePairsSound_164 5 rfl ?_
    refine rv_callVi h 166 dL_arePairsSound_166 (fn_X10_strength hJ v7 v11  w27) ce_X10_strength lk_L_31 rv_s0 rfl rv_cf8 rfl rfl (Nat.le_of_ble_eq_true rfl) ⟨Nat.le_of_ble_eq_true rfl, Nat.le_of_ble_eq_true rfl⟩ (fun r28 w29 => ?_)
    refine rv_iload_n h 169 dL_arePairsSound_169 2 rfl ?_
    refine rv_icmp_le (tgt := 175) h 170 dL_arePairsSound_170 (by decide) (fun _ => ?_) (fun _ => ?_)
    · refine rv_iconst h 173 dL_arePairsSound_173 rv_c0 ?_
      exact rv_retz0 hr 174 dL_arePairsSound_174
    refine rv_iinc h 175 (fun v30 => [(4, .int v30), (5, .int v14), (0, .ref (ad 0)), (1, .int r1), (2, .int r3), (3, .int v7)]) dL_arePairsSound_175 5 rfl rv_c1 (by decide) (fun _ => rfl) (fun v30 => ?_)
    refine rv_goto (tgt := 20) h 178 dL_arePairsSound_178 (by decide) ?_
    refine rv_sub h [2, 3, 4, 5, 0] rfl ?_
    exact ih10 v30 w29
  refine rv_join (fun (k0 : rv_W → rv_R) => ∀  (w41 : rv_W), K 49 [(0, .ref (ad 0)), (1, .int r1), (2, .int r3), (3, .int v7), (4, .int v11)] ([]) w41 (k0 w41)) (fun w41 => ?_) (fun k42 hk43 => ?_)
  · refine rv_iconst h 49 dL_arePairsSound_49 rv_c0 ?_
    refine rv_sub h [0, 1, 2, 3, 4] rfl ?_
    exact hk17 (0 : Int32) w41
  refine rv_icmp_ne (tgt := 49) h 32 dL_arePairsSound_32 (by decide) (fun _ => ?_) (fun _ => ?_)
  rotate_left
  · refine rv_sub h [0, 1, 2, 3, 4] rfl ?_
    exact hk43 w12
  refine rv_iload_n h 35 dL_arePairsSound_35 2 rfl ?_
  refine rv_iload h 36 dL_arePairsSound_36 4 rfl ?_
  refine rv_ishr h 38 dL_arePairsSound_38 ?_
  refine rv_iconst h 39 dL_arePairsSound_39 rv_c1 ?_
  refine rv_iand h 40 dL_arePairsSound_40 ?_
  refine rv_iconst h 41 dL_arePairsSound_41 rv_c1 ?_
  refine rv_icmp_ne (tgt := 49) h 42 dL_arePairsSound_42 (by decide) (fun _ => ?_) (fun _ => ?_)
  rotate_left
  · refine rv_sub h [0, 1, 2, 3, 4] rfl ?_
    exact hk43 w12
  refine rv_iconst h 45 dL_arePairsSound_45 rv_c1 ?_
  refine rv_goto (tgt := 50) h 46 dL_arePairsSound_46 (by decide) ?_
  refine rv_sub h [0, 1, 2, 3, 4] rfl ?_
  exact hk17 (1 : Int32) w12
def f_L_areWinnersSound  (w : rv_W) : rv_R :=
  rv_bd (f_X10_standing  w) (fun (r1 : Int32) (w2 : rv_W) =>
  rv_bd (f_X10_smith  w2) (fun (r3 : Int32) (w4 : rv_W) =>
  rv_bd (f_X10_beatsAll  w4) (fun (r5 : Int32) (w6 : rv_W) =>
  rv_bd (f_X10_losesToAll  w6) (fun (r7 : Int32) (w8 : rv_W) =>
  rv_jn (fun (v9 : Int32) (w10 : rv_W) =>
  rv_fx (fun _ _ _ => none) (fun (ag13 : Int32 → Int32 → rv_W → rv_R) (v15 : Int32) (v16 : Int32) (w17 : rv_W) =>
  if v16 < (12 : Int32) then
  rv_bd (f_X10_winners v16 w17) (fun (r59 : Int32) (w60 : rv_W) =>
  rv_bd (f_X10_winner v16 w60) (fun (r61 : Int32) (w62 : rv_W) =>
  if (r59 &&& (r1 ^^^ (-1 : Int32))) = 0 then
  rv_jn (fun (v63 : Int32) (w64 : rv_W) =>
  rv_jn (fun (v67 : Int32) (w68 : rv_W) =>
  if v63 = v67 then
  rv_jn (fun (v71 : Int32) (w72 : rv_W) =>
  rv_jn (fun (v75 : Int32) (w76 : rv_W) =>
  if v71 = v75 then
  rv_jn (fun  (w79 : rv_W) =>
  rv_jn (fun (v82 : Int32) (w83 : rv_W) =>
  rv_jn (fun (v86 : Int32) (w87 : rv_W) =>
  rv_jn (fun  (w90 : rv_W) =>
  rv_jn (fun  (w93 : rv_W) =>
  if r7 < 0 then
  rv_lt (v16 + (1 : Int32)) (fun (v96 : Int32) =>
  ag13 v82 v96 w93)
  else
  rv_jn (fun  (w97 : rv_W) =>
  if ((r59 >>> (r7 &&& 31)) &&& (1 : Int32)) = (1 : Int32) then
  some ((0 : Int32), w97)
  else
  rv_lt (v16 + (1 : Int32)) (fun (v100 : Int32) =>
  ag13 v82 v100 w97)) (fun (k98 : rv_W → rv_R) =>
  if v16 = (4 : Int32) then
  k98 w93
  else
  if v16 = (5 : Int32) then
  k98 w93
  else
  if v16 = (10 : Int32) then
  k98 w93
  else
  if v16 = (11 : Int32) then
  k98 w93
  else
  rv_lt (v16 + (1 : Int32)) (fun (v101 : Int32) =>
  ag13 v82 v101 w93))) (fun (k94 : rv_W → rv_R) =>
  if v86 = 0 then
  k94 w90
  else
  if (r59 &&& (r3 ^^^ (-1 : Int32))) = 0 then
  k94 w90
  else
  some ((0 : Int32), w90))) (fun (k91 : rv_W → rv_R) =>
  if r5 < 0 then
  k91 w87
  else
  rv_jn (fun  (w102 : rv_W) =>
  if r59 = ((1 : Int32) <<< (r5 &&& 31)) then
  k91 w102
  else
  some ((0 : Int32), w102)) (fun (k103 : rv_W → rv_R) =>
  if v86 = 0 then
  if v16 = (3 : Int32) then
  k103 w87
  else
  if v16 = (9 : Int32) then
  k103 w87
  else
  if v16 = (10 : Int32) then
  k103 w87
  else
  k91 w87
  else
  k103 w87))) (fun (k88 : Int32 → rv_W → rv_R) =>
  rv_jn (fun  (w105 : rv_W) =>
  k88 (1 : Int32) w105) (fun (k106 : rv_W → rv_R) =>
  if v16 = (2 : Int32) then
  k106 w83
  else
  if v16 = (4 : Int32) then
  k106 w83
  else
  if v16 = (5 : Int32) then
  k106 w83
  else
  if v16 = (11 : Int32) then
  k106 w83
  else
  k88 (0 : Int32) w83))) (fun (k84 : Int32 → rv_W → rv_R) =>
  rv_jn (fun  (w108 : rv_W) =>
  k84 (1 : Int32) w108) (fun (k109 : rv_W → rv_R) =>
  if v15 = 0 then
  rv_jn (fun  (w111 : rv_W) =>
  k84 (0 : Int32) w111) (fun (k112 : rv_W → rv_R) =>
  if r61 < 0 then
  k112 w79
  else
  rv_bd (f_X10_favourite  w79) (fun (r114 : Int32) (w115 : rv_W) =>
  if r61 = r114 then
  k109 w115
  else
  k112 w115))
  else
  k109 w79))) (fun (k80 : rv_W → rv_R) =>
  if r61 < 0 then
  k80 w76
  else
  if ((r59 >>> (r61 &&& 31)) &&& (1 : Int32)) = 0 then
  some ((0 : Int32), w76)
  else
  if (r59 &&& (((1 : Int32) <<< (r61 &&& 31)) - (1 : Int32))) = 0 then
  k80 w76
  else
  some ((0 : Int32), w76))
  else
  some ((0 : Int32), w76)) (fun (k77 : Int32 → rv_W → rv_R) =>
  if r59 = 0 then
  k77 (1 : Int32) w72
  else
  k77 (0 : Int32) w72)) (fun (k73 : Int32 → rv_W → rv_R) =>
  if r61 = (-1000000 : Int32) then
  k73 (1 : Int32) w68
  else
  k73 (0 : Int32) w68)
  else
  some ((0 : Int32), w68)) (fun (k69 : Int32 → rv_W → rv_R) =>
  if r59 = 0 then
  k69 (1 : Int32) w64
  else
  k69 (0 : Int32) w64)) (fun (k65 : Int32 → rv_W → rv_R) =>
  if r1 = 0 then
  k65 (1 : Int32) w62
  else
  k65 (0 : Int32) w62)
  else
  some ((0 : Int32), w62)))
  else
  if v15 = 0 then
  some ((0 : Int32), w17)
  else
  rv_jn (fun  (w18 : rv_W) =>
  rv_jn (fun (v21 : Int32) (w22 : rv_W) =>
  rv_jn (fun (v25 : Int32) (w26 : rv_W) =>
  if v21 = v25 then
  if (r3 &&& (r1 ^^^ (-1 : Int32))) = 0 then
  rv_jn (fun  (w29 : rv_W) =>
  rv_bd (f_L_bits r1 w29) (fun (r32 : Int32) (w33 : rv_W) =>
  rv_fx (fun _ _ _ => none) (fun (ag34 : Int32 → Int32 → rv_W → rv_R) (v36 : Int32) (v37 : Int32) (w38 : rv_W) =>
  if v37 < (5 : Int32) then
  if ((r1 >>> (v37 &&& 31)) &&& (1 : Int32)) = (1 : Int32) then
  rv_bd (f_X10_points (1 : Int32) v37 w38) (fun (r55 : Int32) (w56 : rv_W) =>
  rv_lt ((v36 + r55)) (fun (v57 : Int32) =>
  rv_lt (v37 + (1 : Int32)) (fun (v58 : Int32) =>
  ag34 v57 v58 w56)))
  else
  rv_lt ((v36 + (0 : Int32))) (fun (v53 : Int32) =>
  rv_lt (v37 + (1 : Int32)) (fun (v54 : Int32) =>
  ag34 v53 v54 w38))
  else
  rv_bd (f_X10_allVoters  w38) (fun (r39 : Int32) (w40 : rv_W) =>
  if v36 = ((r39 * r32) * (r32 - (1 : Int32))) then
  rv_bd (f_X10_kemeny r32 w40) (fun (r41 : Int32) (w42 : rv_W) =>
  if r41 = (-1000001 : Int32) then
  rv_bd (f_X10_rounds (6 : Int32) w42) (fun (r43 : Int32) (w44 : rv_W) =>
  rv_jn (fun (v45 : Int32) (w46 : rv_W) =>
  if r43 = v45 then
  rv_bd (f_X10_rounds (7 : Int32) w46) (fun (r49 : Int32) (w50 : rv_W) =>
  rv_bd (f_X10_rounds (6 : Int32) w50) (fun (r51 : Int32) (w52 : rv_W) =>
  if r51 < r49 then
  some ((0 : Int32), w52)
  else
  some ((1 : Int32), w52)))
  else
  some ((0 : Int32), w46)) (fun (k47 : Int32 → rv_W → rv_R) =>
  if 0 < r32 then
  k47 (r32 - (1 : Int32)) w44
  else
  k47 (0 : Int32) w44))
  else
  some ((0 : Int32), w42))
  else
  some ((0 : Int32), w40))) rv_FU (0 : Int32) (0 : Int32) w33)) (fun (k30 : rv_W → rv_R) =>
  if r7 < 0 then
  k30 w26
  else
  if r7 = r5 then
  some ((0 : Int32), w26)
  else
  k30 w26)
  else
  some ((0 : Int32), w26)
  else
  some ((0 : Int32), w26)) (fun (k27 : Int32 → rv_W → rv_R) =>
  if r3 = 0 then
  k27 (1 : Int32) w22
  else
  k27 (0 : Int32) w22)) (fun (k23 : Int32 → rv_W → rv_R) =>
  if r1 = 0 then
  k23 (1 : Int32) w18
  else
  k23 (0 : Int32) w18)) (fun (k19 : rv_W → rv_R) =>
  if r5 < 0 then
  k19 w17
  else
  if r3 = ((1 : Int32) <<< (r5 &&& 31)) then
  k19 w17
  else
  some ((0 : Int32), w17))) rv_FU v9 (0 : Int32) w10) (fun (k11 : Int32 → rv_W → rv_R) =>
  rv_jn (fun  (w116 : rv_W) =>
  k11 (0 : Int32) w116) (fun (k117 : rv_W → rv_R) =>
  if r1 = 0 then
  rv_bd (f_X10_favourite  w8) (fun (r119 : Int32) (w120 : rv_W) =>
  if r119 = (-1000000 : Int32) then
  k11 (1 : Int32) w120
  else
  k117 w120)
  else
  k117 w8))))))
set_option maxRecDepth 100000 in
set_option maxHeartbeats 4000000 in
theorem fn_L_areWinnersSound {l : Launch} {D : va_G} {ad : Nat → Nat} {ca : Nat → ClassId} (hJ : rv_J ad)   (w : rv_W) : rv_Fn l D ad ca yL_areWinnersSound cL_areWinnersSound 10 (some .boolean) 6 142 [.ref (ad 0)] w (f_L_areWinnersSound  w) := by
  refine rv_mk (lv := [(0, .ref (ad 0))]) hJ (by decide +kernel) (Nat.le_of_ble_eq_true rfl) rfl (fun K h hr => ?_)
  have h : rv_Rl D ad ca l RL cL_areWinnersSound 10 6 142 K := h
  unfold f_L_areWinnersSound
  refine rv_aload_n h 0 dL_areWinnersSound_0 0 rfl ?_
  refine rv_callVi h 1 dL_areWinnersSound_1 (fn_X10_standing hJ   w) ce_X10_standing lk_L_21 rv_s0 rfl rv_cf8 rfl rfl (Nat.le_of_ble_eq_true rfl) ⟨Nat.le_of_ble_eq_true rfl, Nat.le_of_ble_eq_true rfl⟩ (fun r1 w2 => ?_)
  refine rv_istore_n (lv' := [(1, .int r1), (0, .ref (ad 0))]) h 4 dL_areWinnersSound_4 (by decide) rfl ?_
  refine rv_aload_n h 5 dL_areWinnersSound_5 1 rfl ?_
  refine rv_callVi h 6 dL_areWinnersSound_6 (fn_X10_smith hJ   w2) ce_X10_smith lk_L_34 rv_s0 rfl rv_cf8 rfl rfl (Nat.le_of_ble_eq_true rfl) ⟨Nat.le_of_ble_eq_true rfl, Nat.le_of_ble_eq_true rfl⟩ (fun r3 w4 => ?_)
  refine rv_istore_n (lv' := [(2, .int r3), (1, .int r1), (0, .ref (ad 0))]) h 9 dL_areWinnersSound_9 (by decide) rfl ?_
  refine rv_aload_n h 10 dL_areWinnersSound_10 2 rfl ?_
  refine rv_callVi h 11 dL_areWinnersSound_11 (fn_X10_beatsAll hJ   w4) ce_X10_beatsAll lk_L_37 rv_s0 rfl rv_cf8 rfl rfl (Nat.le_of_ble_eq_true rfl) ⟨Nat.le_of_ble_eq_true rfl, Nat.le_of_ble_eq_true rfl⟩ (fun r5 w6 => ?_)
  refine rv_istore_n (lv' := [(3, .int r5), (2, .int r3), (1, .int r1), (0, .ref (ad 0))]) h 14 dL_areWinnersSound_14 (by decide) rfl ?_
  refine rv_aload_n h 15 dL_areWinnersSound_15 3 rfl ?_
  refine rv_callVi h 16 dL_areWinnersSound_16 (fn_X10_losesToAll hJ   w6) ce_X10_losesToAll lk_L_40 rv_s0 rfl rv_cf8 rfl rfl (Nat.le_of_ble_eq_true rfl) ⟨Nat.le_of_ble_eq_true rfl, Nat.le_of_ble_eq_true rfl⟩ (fun r7 w8 => ?_)
  refine rv_istore (lv' := [(4, .int r7), (3, .int r5), (2, .int r3), (1, .int r1), (0, .ref (ad 0))]) h 19 dL_areWinnersSound_19 (by decide) rfl ?_
  refine rv_iload_n h 21 dL_areWinnersSound_21 3 rfl ?_
  refine rv_join (fun (k0 : Int32 → rv_W → rv_R) => ∀ (v9 : Int32) (w10 : rv_W), K 39 [(0, .ref (ad 0)), (1, .int r1), (2, .int r3), (3, .int r5), (4, .int r7)] (.int v9 :: []) w10 (k0 v9 w10)) (fun v9 w10 => ?_) (fun k11 hk12 => ?_)
  · refine rv_istore (lv' := [(5, .int v9), (0, .ref (ad 0)), (1, .int r1), (2, .int r3), (3, .int r5), (4, .int r7)]) h 39 dL_areWinnersSound_39 (by decide) rfl ?_
    refine rv_iconst h 41 dL_areWinnersSound_41 rv_c0 ?_
    refine rv_istore (lv' := [(6, .int (0 : Int32)), (5, .int v9), (0, .ref (ad 0)), (1, .int r1), (2, .int r3), (3, .int r5), (4, .int r7)]) h 42 dL_areWinnersSound_42 (by decide) rfl ?_
    refine rv_sub h [2, 3, 4, 5, 6, 1, 0] rfl ?_
    refine rv_fx_ind (fun (a0 : Int32 → Int32 → rv_W → rv_R) => ∀ (v15 : Int32) (v16 : Int32) (w17 : rv_W), K 44 [(0, .ref (ad 0)), (1, .int r1), (2, .int r3), (3, .int r5), (4, .int r7), (5, .int v15), (6, .int v16)] [] w17 (a0 v15 v16 w17)) (fun _ _ _ => rv_none h) (fun ag13 ih14 v15 v16 w17 => ?_) rv_FU v9 (0 : Int32) w10
    refine rv_iload h 44 dL_areWinnersSound_44 6 rfl ?_
    refine rv_bipush (v := 12) h 46 dL_areWinnersSound_46 (by decide +kernel) ?_
    refine rv_icmp_ge (tgt := 315) h 48 dL_areWinnersSound_48 (by decide) (fun _ => ?_) (fun _ => ?_)
    rotate_left
    · refine rv_iload h 315 dL_areWinnersSound_315 5 rfl ?_
      refine rv_if_eq (tgt := 371) h 317 dL_areWinnersSound_317 (by decide) (fun _ => ?_) (fun _ => ?_)
      · refine rv_iconst h 371 dL_areWinnersSound_371 rv_c0 ?_
        exact rv_retz0 hr 372 dL_areWinnersSound_372
      refine rv_iload_n h 320 dL_areWinnersSound_320 3 rfl ?_
      refine rv_join (fun (k0 : rv_W → rv_R) => ∀  (w18 : rv_W), K 331 [(0, .ref (ad 0)), (1, .int r1), (2, .int r3), (3, .int r5), (4, .int r7)] ([]) w18 (k0 w18)) (fun w18 => ?_) (fun k19 hk20 => ?_)
      · refine rv_iload_n h 331 dL_areWinnersSound_331 1 rfl ?_
        refine rv_join (fun (k0 : Int32 → rv_W → rv_R) => ∀ (v21 : Int32) (w22 : rv_W), K 340 [(0, .ref (ad 0)), (1, .int r1), (2, .int r3), (3, .int r5), (4, .int r7)] (.int v21 :: []) w22 (k0 v21 w22)) (fun v21 w22 => ?_) (fun k23 hk24 => ?_)
        · refine rv_iload_n h 340 dL_areWinnersSound_340 2 rfl ?_
          refine rv_join (fun (k0 : Int32 → rv_W → rv_R) => ∀ (v25 : Int32) (w26 : rv_W), K 349 [(0, .ref (ad 0)), (1, .int r1), (2, .int r3), (3, .int r5), (4, .int r7)] (.int v25 :: .int v21 :: []) w26 (k0 v25 w26)) (fun v25 w26 => ?_) (fun k27 hk28 => ?_)
          · refine rv_icmp_ne (tgt := 371) h 349 dL_areWinnersSound_349 (by decide) (fun _ => ?_) (fun _ => ?_)
            rotate_left
            · refine rv_iconst h 371 dL_areWinnersSound_371 rv_c0 ?_
              exact rv_retz0 hr 372 dL_areWinnersSound_372
            refine rv_iload_n h 352 dL_areWinnersSound_352 2 rfl ?_
            refine rv_iload_n h 353 dL_areWinnersSound_353 1 rfl ?_
            refine rv_iconst h 354 dL_areWinnersSound_354 rv_cm1 ?_
            refine rv_ixor h 355 dL_areWinnersSound_355 ?_
            refine rv_iand h 356 dL_areWinnersSound_356 ?_
            refine rv_if_ne (tgt := 371) h 357 dL_areWinnersSound_357 (by decide) (fun _ => ?_) (fun _ => ?_)
            rotate_left
            · refine rv_iconst h 371 dL_areWinnersSound_371 rv_c0 ?_
              exact rv_retz0 hr 372 dL_areWinnersSound_372
            refine rv_iload h 360 dL_areWinnersSound_360 4 rfl ?_
            refine rv_join (fun (k0 : rv_W → rv_R) => ∀  (w29 : rv_W), K 373 [(0, .ref (ad 0)), (1, .int r1)] ([]) w29 (k0 w29)) (fun w29 => ?_) (fun k30 hk31 => ?_)
            · refine rv_iload_n h 373 dL_areWinnersSound_373 1 rfl ?_
              refine rv_callSi h 374 dL_areWinnersSound_374 (fn_L_bits hJ r1  w29) ce_L_bits lk_L_54 rfl rfl (Nat.le_of_ble_eq_true rfl) ⟨Nat.le_of_ble_eq_true rfl, Nat.le_of_ble_eq_true rfl⟩ (fun r32 w33 => ?_)
              refine rv_istore (lv' := [(6, .int r32), (0, .ref (ad 0)), (1, .int r1)]) h 377 dL_areWinnersSound_377 (by decide) rfl ?_
              refine rv_iconst h 379 dL_areWinnersSound_379 rv_c0 ?_
              refine rv_istore (lv' := [(7, .int (0 : Int32)), (6, .int r32), (0, .ref (ad 0)), (1, .int r1)]) h 380 dL_areWinnersSound_380 (by decide) rfl ?_
              refine rv_iconst h 382 dL_areWinnersSound_382 rv_c0 ?_
              refine rv_istore (lv' := [(8, .int (0 : Int32)), (7, .int (0 : Int32)), (6, .int r32), (0, .ref (ad 0)), (1, .int r1)]) h 383 dL_areWinnersSound_383 (by decide) rfl ?_
              refine rv_sub h [3, 4, 2, 1, 0] rfl ?_
              refine rv_fx_ind (fun (a0 : Int32 → Int32 → rv_W → rv_R) => ∀ (v36 : Int32) (v37 : Int32) (w38 : rv_W), K 385 [(0, .ref (ad 0)), (1, .int r1), (6, .int r32), (7, .int v36), (8, .int v37)] [] w38 (a0 v36 v37 w38)) (fun _ _ _ => rv_none h) (fun ag34 ih35 v36 v37 w38 => ?_) rv_FU (0 : Int32) (0 : Int32) w33
              refine rv_iload h 385 dL_areWinnersSound_385 4 rfl ?_
              refine rv_iconst h 387 dL_areWinnersSound_387 rv_c5 ?_
              refine rv_icmp_ge (tgt := 423) h 388 dL_areWinnersSound_388 (by decide) (fun _ => ?_) (fun _ => ?_)
              · refine rv_iload h 391 dL_areWinnersSound_391 3 rfl ?_
                refine rv_iload_n h 393 dL_areWinnersSound_393 1 rfl ?_
                refine rv_iload h 394 dL_areWinnersSound_394 4 rfl ?_
                refine rv_ishr h 396 dL_areWinnersSound_396 ?_
                refine rv_iconst h 397 dL_areWinnersSound_397 rv_c1 ?_
                refine rv_iand h 398 dL_areWinnersSound_398 ?_
                refine rv_iconst h 399 dL_areWinnersSound_399 rv_c1 ?_
                refine rv_icmp_ne (tgt := 413) h 400 dL_areWinnersSound_400 (by decide) (fun _ => ?_) (fun _ => ?_)
                rotate_left
                · refine rv_iconst h 413 dL_areWinnersSound_413 rv_c0 ?_
                  refine rv_iadd h 414 dL_areWinnersSound_414 ?_
                  refine rv_top (fun v53 => ?_)
                  refine rv_istore (lv' := [(7, .int v53), (0, .ref (ad 0)), (1, .int r1), (6, .int r32), (8, .int v37)]) h 415 dL_areWinnersSound_415 (by decide) rfl ?_
                  refine rv_iinc h 417 (fun v54 => [(8, .int v54), (7, .int v53), (0, .ref (ad 0)), (1, .int r1), (6, .int r32)]) dL_areWinnersSound_417 4 rfl rv_c1 (by decide) (fun _ => rfl) (fun v54 => ?_)
                  refine rv_goto (tgt := 385) h 420 dL_areWinnersSound_420 (by decide) ?_
                  refine rv_sub h [2, 3, 4, 1, 0] rfl ?_
                  exact ih35 v53 v54 w38
                refine rv_aload_n h 403 dL_areWinnersSound_403 0 rfl ?_
                refine rv_iconst h 404 dL_areWinnersSound_404 rv_c1 ?_
                refine rv_iload h 405 dL_areWinnersSound_405 4 rfl ?_
                refine rv_callVi h 407 dL_areWinnersSound_407 (fn_X10_points hJ (1 : Int32) v37  w38) ce_X10_points lk_L_57 rv_s0 rfl rv_cf8 rfl rfl (Nat.le_of_ble_eq_true rfl) ⟨Nat.le_of_ble_eq_true rfl, Nat.le_of_ble_eq_true rfl⟩ (fun r55 w56 => ?_)
                refine rv_goto (tgt := 414) h 410 dL_areWinnersSound_410 (by decide) ?_
                refine rv_iadd h 414 dL_areWinnersSound_414 ?_
                refine rv_top (fun v57 => ?_)
                refine rv_istore (lv' := [(7, .int v57), (0, .ref (ad 0)), (1, .int r1), (6, .int r32), (8, .int v37)]) h 415 dL_areWinnersSound_415 (by decide) rfl ?_
                refine rv_iinc h 417 (fun v58 => [(8, .int v58), (7, .int v57), (0, .ref (ad 0)), (1, .int r1), (6, .int r32)]) dL_areWinnersSound_417 4 rfl rv_c1 (by decide) (fun _ => rfl) (fun v58 => ?_)
                refine rv_goto (tgt := 385) h 420 dL_areWinnersSound_420 (by decide) ?_
                refine rv_sub h [2, 3, 4, 1, 0] rfl ?_
                exact ih35 v57 v58 w56
              refine rv_iload h 423 dL_areWinnersSound_423 3 rfl ?_
              refine rv_aload_n h 425 dL_areWinnersSound_425 0 rfl ?_
              refine rv_callVi h 426 dL_areWinnersSound_426 (fn_X10_allVoters hJ   w38) ce_X10_allVoters lk_L_15 rv_s0 rfl rv_cf8 rfl rfl (Nat.le_of_ble_eq_true rfl) ⟨Nat.le_of_ble_eq_true rfl, Nat.le_of_ble_eq_true rfl⟩ (fun r39 w40 => ?_)
              refine rv_iload h 429 dL_areWinnersSound_429 2 rfl ?_
              refine rv_imul h 431 dL_areWinnersSound_431 ?_
              refine rv_iload h 432 dL_areWinnersSound_432 2 rfl ?_
              refine rv_iconst h 434 dL_areWinnersSound_434 rv_c1 ?_
              refine rv_isub h 435 dL_areWinnersSound_435 ?_
              refine rv_imul h 436 dL_areWinnersSound_436 ?_
              refine rv_icmp_ne (tgt := 492) h 437 dL_areWinnersSound_437 (by decide) (fun _ => ?_) (fun _ => ?_)
              rotate_left
              · refine rv_iconst h 492 dL_areWinnersSound_492 rv_c0 ?_
                exact rv_retz0 hr 493 dL_areWinnersSound_493
              refine rv_aload_n h 440 dL_areWinnersSound_440 0 rfl ?_
              refine rv_iload h 441 dL_areWinnersSound_441 2 rfl ?_
              refine rv_callVi h 443 dL_areWinnersSound_443 (fn_X10_kemeny hJ r32  w40) ce_X10_kemeny lk_L_60 rv_s0 rfl rv_cf8 rfl rfl (Nat.le_of_ble_eq_true rfl) ⟨Nat.le_of_ble_eq_true rfl, Nat.le_of_ble_eq_true rfl⟩ (fun r41 w42 => ?_)
              refine rv_ldc h 446 dL_areWinnersSound_446 rv_kc_L_63 ?_
              refine rv_icmp_ne (tgt := 492) h 448 dL_areWinnersSound_448 (by decide) (fun _ => ?_) (fun _ => ?_)
              rotate_left
              · refine rv_iconst h 492 dL_areWinnersSound_492 rv_c0 ?_
                exact rv_retz0 hr 493 dL_areWinnersSound_493
              refine rv_aload_n h 451 dL_areWinnersSound_451 0 rfl ?_
              refine rv_bipush (v := 6) h 452 dL_areWinnersSound_452 (by decide +kernel) ?_
              refine rv_callVi h 454 dL_areWinnersSound_454 (fn_X10_rounds hJ (6 : Int32)  w42) ce_X10_rounds lk_L_64 rv_s0 rfl rv_cf8 rfl rfl (Nat.le_of_ble_eq_true rfl) ⟨Nat.le_of_ble_eq_true rfl, Nat.le_of_ble_eq_true rfl⟩ (fun r43 w44 => ?_)
              refine rv_iload h 457 dL_areWinnersSound_457 2 rfl ?_
              refine rv_join (fun (k0 : Int32 → rv_W → rv_R) => ∀ (v45 : Int32) (w46 : rv_W), K 470 [(0, .ref (ad 0))] (.int v45 :: .int r43 :: []) w46 (k0 v45 w46)) (fun v45 w46 => ?_) (fun k47 hk48 => ?_)
              · refine rv_icmp_ne (tgt := 492) h 470 dL_areWinnersSound_470 (by decide) (fun _ => ?_) (fun _ => ?_)
                rotate_left
                · refine rv_iconst h 492 dL_areWinnersSound_492 rv_c0 ?_
                  exact rv_retz0 hr 493 dL_areWinnersSound_493
                refine rv_aload_n h 473 dL_areWinnersSound_473 0 rfl ?_
                refine rv_bipush (v := 7) h 474 dL_areWinnersSound_474 (by decide +kernel) ?_
                refine rv_callVi h 476 dL_areWinnersSound_476 (fn_X10_rounds hJ (7 : Int32)  w46) ce_X10_rounds lk_L_64 rv_s0 rfl rv_cf8 rfl rfl (Nat.le_of_ble_eq_true rfl) ⟨Nat.le_of_ble_eq_true rfl, Nat.le_of_ble_eq_true rfl⟩ (fun r49 w50 => ?_)
                refine rv_aload_n h 479 dL_areWinnersSound_479 0 rfl ?_
                refine rv_bipush (v := 6) h 480 dL_areWinnersSound_480 (by decide +kernel) ?_
                refine rv_callVi h 482 dL_areWinnersSound_482 (fn_X10_rounds hJ (6 : Int32)  w50) ce_X10_rounds lk_L_64 rv_s0 rfl rv_cf8 rfl rfl (Nat.le_of_ble_eq_true rfl) ⟨Nat.le_of_ble_eq_true rfl, Nat.le_of_ble_eq_true rfl⟩ (fun r51 w52 => ?_)
                refine rv_icmp_gt (tgt := 492) h 485 dL_areWinnersSound_485 (by decide) (fun _ => ?_) (fun _ => ?_)
                · refine rv_iconst h 492 dL_areWinnersSound_492 rv_c0 ?_
                  exact rv_retz0 hr 493 dL_areWinnersSound_493
                refine rv_iconst h 488 dL_areWinnersSound_488 rv_c1 ?_
                refine rv_goto (tgt := 493) h 489 dL_areWinnersSound_489 (by decide) ?_
                exact rv_retz1 hr 493 dL_areWinnersSound_493
              refine rv_if_le (tgt := 469) h 459 dL_areWinnersSound_459 (by decide) (fun _ => ?_) (fun _ => ?_)
              rotate_left
              · refine rv_iconst h 469 dL_areWinnersSound_469 rv_c0 ?_
                refine rv_sub h [0] rfl ?_
                exact hk48 (0 : Int32) w44
              refine rv_iload h 462 dL_areWinnersSound_462 2 rfl ?_
              refine rv_iconst h 464 dL_areWinnersSound_464 rv_c1 ?_
              refine rv_isub h 465 dL_areWinnersSound_465 ?_
              refine rv_goto (tgt := 470) h 466 dL_areWinnersSound_466 (by decide) ?_
              refine rv_sub h [0] rfl ?_
              exact hk48 (r32 - (1 : Int32)) w44
            refine rv_if_lt (tgt := 373) h 362 dL_areWinnersSound_362 (by decide) (fun _ => ?_) (fun _ => ?_)
            · refine rv_sub h [0, 1] rfl ?_
              exact hk31 w26
            refine rv_iload h 365 dL_areWinnersSound_365 4 rfl ?_
            refine rv_iload_n h 367 dL_areWinnersSound_367 3 rfl ?_
            refine rv_icmp_ne (tgt := 373) h 368 dL_areWinnersSound_368 (by decide) (fun _ => ?_) (fun _ => ?_)
            · refine rv_iconst h 371 dL_areWinnersSound_371 rv_c0 ?_
              exact rv_retz0 hr 372 dL_areWinnersSound_372
            refine rv_sub h [0, 1] rfl ?_
            exact hk31 w26
          refine rv_if_ne (tgt := 348) h 341 dL_areWinnersSound_341 (by decide) (fun _ => ?_) (fun _ => ?_)
          rotate_left
          · refine rv_iconst h 348 dL_areWinnersSound_348 rv_c0 ?_
            refine rv_sub h [0, 1, 2, 3, 4] rfl ?_
            exact hk28 (0 : Int32) w22
          refine rv_iconst h 344 dL_areWinnersSound_344 rv_c1 ?_
          refine rv_goto (tgt := 349) h 345 dL_areWinnersSound_345 (by decide) ?_
          refine rv_sub h [0, 1, 2, 3, 4] rfl ?_
          exact hk28 (1 : Int32) w22
        refine rv_if_ne (tgt := 339) h 332 dL_areWinnersSound_332 (by decide) (fun _ => ?_) (fun _ => ?_)
        rotate_left
        · refine rv_iconst h 339 dL_areWinnersSound_339 rv_c0 ?_
          refine rv_sub h [0, 1, 2, 3, 4] rfl ?_
          exact hk24 (0 : Int32) w18
        refine rv_iconst h 335 dL_areWinnersSound_335 rv_c1 ?_
        refine rv_goto (tgt := 340) h 336 dL_areWinnersSound_336 (by decide) ?_
        refine rv_sub h [0, 1, 2, 3, 4] rfl ?_
        exact hk24 (1 : Int32) w18
      refine rv_if_lt (tgt := 331) h 321 dL_areWinnersSound_321 (by decide) (fun _ => ?_) (fun _ => ?_)
      · refine rv_sub h [0, 1, 2, 3, 4] rfl ?_
        exact hk20 w17
      refine rv_iload_n h 324 dL_areWinnersSound_324 2 rfl ?_
      refine rv_iconst h 325 dL_areWinnersSound_325 rv_c1 ?_
      refine rv_iload_n h 326 dL_areWinnersSound_326 3 rfl ?_
      refine rv_ishl h 327 dL_areWinnersSound_327 ?_
      refine rv_icmp_ne (tgt := 371) h 328 dL_areWinnersSound_328 (by decide) (fun _ => ?_) (fun _ => ?_)
      · refine rv_sub h [0, 1, 2, 3, 4] rfl ?_
        exact hk20 w17
      refine rv_iconst h 371 dL_areWinnersSound_371 rv_c0 ?_
      exact rv_retz0 hr 372 dL_areWinnersSound_372
    refine rv_aload_n h 51 dL_areWinnersSound_51 0 rfl ?_
    refine rv_iload h 52 dL_areWinnersSound_52 6 rfl ?_
    refine rv_callVi h 54 dL_areWinnersSound_54 (fn_X10_winners hJ v16  w17) ce_X10_winners lk_L_47 rv_s0 rfl rv_cf8 rfl rfl (Nat.le_of_ble_eq_true rfl) ⟨Nat.le_of_ble_eq_true rfl, Nat.le_of_ble_eq_true rfl⟩ (fun r59 w60 => ?_)
    refine rv_istore (lv' := [(7, .int r59), (0, .ref (ad 0)), (1, .int r1), (2, .int r3), (3, .int r5), (4, .int r7), (5, .int v15), (6, .int v16)]) h 57 dL_areWinnersSound_57 (by decide) rfl ?_
    refine rv_aload_n h 59 dL_areWinnersSound_59 1 rfl ?_
    refine rv_iload h 60 dL_areWinnersSound_60 7 rfl ?_
    refine rv_callVi h 62 dL_areWinnersSound_62 (fn_X10_winner hJ v16  w60) ce_X10_winner lk_L_51 rv_s0 rfl rv_cf8 rfl rfl (Nat.le_of_ble_eq_true rfl) ⟨Nat.le_of_ble_eq_true rfl, Nat.le_of_ble_eq_true rfl⟩ (fun r61 w62 => ?_)
    refine rv_istore (lv' := [(8, .int r61), (7, .int r59), (0, .ref (ad 0)), (1, .int r1), (2, .int r3), (3, .int r5), (4, .int r7), (5, .int v15), (6, .int v16)]) h 65 dL_areWinnersSound_65 (by decide) rfl ?_
    refine rv_iload h 67 dL_areWinnersSound_67 1 rfl ?_
    refine rv_iload_n h 69 dL_areWinnersSound_69 3 rfl ?_
    refine rv_iconst h 70 dL_areWinnersSound_70 rv_cm1 ?_
    refine rv_ixor h 71 dL_areWinnersSound_71 ?_
    refine rv_iand h 72 dL_areWinnersSound_72 ?_
    refine rv_if_ne (tgt := 123) h 73 dL_areWinnersSound_73 (by decide) (fun _ => ?_) (fun _ => ?_)
    rotate_left
    · refine rv_iconst h 123 dL_areWinnersSound_123 rv_c0 ?_
      exact rv_retz0 hr 124 dL_areWinnersSound_124
    refine rv_iload_n h 76 dL_areWinnersSound_76 3 rfl ?_
    refine rv_join (fun (k0 : Int32 → rv_W → rv_R) => ∀ (v63 : Int32) (w64 : rv_W), K 85 [(0, .ref (ad 0)), (1, .int r1), (2, .int r3), (3, .int r5), (4, .int r7), (5, .int v15), (6, .int v16), (7, .int r59), (8, .int r61)] (.int v63 :: []) w64 (k0 v63 w64)) (fun v63 w64 => ?_) (fun k65 hk66 => ?_)
    · refine rv_iload h 85 dL_areWinnersSound_85 7 rfl ?_
      refine rv_join (fun (k0 : Int32 → rv_W → rv_R) => ∀ (v67 : Int32) (w68 : rv_W), K 95 [(0, .ref (ad 0)), (1, .int r1), (2, .int r3), (3, .int r5), (4, .int r7), (5, .int v15), (6, .int v16), (7, .int r59), (8, .int r61)] (.int v67 :: .int v63 :: []) w68 (k0 v67 w68)) (fun v67 w68 => ?_) (fun k69 hk70 => ?_)
      · refine rv_icmp_ne (tgt := 123) h 95 dL_areWinnersSound_95 (by decide) (fun _ => ?_) (fun _ => ?_)
        rotate_left
        · refine rv_iconst h 123 dL_areWinnersSound_123 rv_c0 ?_
          exact rv_retz0 hr 124 dL_areWinnersSound_124
        refine rv_iload h 98 dL_areWinnersSound_98 8 rfl ?_
        refine rv_ldc h 100 dL_areWinnersSound_100 rv_kc_L_46 ?_
        refine rv_join (fun (k0 : Int32 → rv_W → rv_R) => ∀ (v71 : Int32) (w72 : rv_W), K 110 [(0, .ref (ad 0)), (1, .int r1), (2, .int r3), (3, .int r5), (4, .int r7), (5, .int v15), (6, .int v16), (7, .int r59), (8, .int r61)] (.int v71 :: []) w72 (k0 v71 w72)) (fun v71 w72 => ?_) (fun k73 hk74 => ?_)
        · refine rv_iload h 110 dL_areWinnersSound_110 7 rfl ?_
          refine rv_join (fun (k0 : Int32 → rv_W → rv_R) => ∀ (v75 : Int32) (w76 : rv_W), K 120 [(0, .ref (ad 0)), (1, .int r1), (2, .int r3), (3, .int r5), (4, .int r7), (5, .int v15), (6, .int v16), (7, .int r59), (8, .int r61)] (.int v75 :: .int v71 :: []) w76 (k0 v75 w76)) (fun v75 w76 => ?_) (fun k77 hk78 => ?_)
          · refine rv_icmp_eq (tgt := 125) h 120 dL_areWinnersSound_120 (by decide) (fun _ => ?_) (fun _ => ?_)
            rotate_left
            · refine rv_iconst h 123 dL_areWinnersSound_123 rv_c0 ?_
              exact rv_retz0 hr 124 dL_areWinnersSound_124
            refine rv_iload h 125 dL_areWinnersSound_125 8 rfl ?_
            refine rv_join (fun (k0 : rv_W → rv_R) => ∀  (w79 : rv_W), K 154 [(0, .ref (ad 0)), (1, .int r1), (2, .int r3), (3, .int r5), (4, .int r7), (5, .int v15), (6, .int v16), (7, .int r59), (8, .int r61)] ([]) w79 (k0 w79)) (fun w79 => ?_) (fun k80 hk81 => ?_)
            · refine rv_iload h 154 dL_areWinnersSound_154 5 rfl ?_
              refine rv_join (fun (k0 : Int32 → rv_W → rv_R) => ∀ (v82 : Int32) (w83 : rv_W), K 178 [(0, .ref (ad 0)), (1, .int r1), (2, .int r3), (3, .int r5), (4, .int r7), (6, .int v16), (7, .int r59)] (.int v82 :: []) w83 (k0 v82 w83)) (fun v82 w83 => ?_) (fun k84 hk85 => ?_)
              · refine rv_istore (lv' := [(5, .int v82), (0, .ref (ad 0)), (1, .int r1), (2, .int r3), (3, .int r5), (4, .int r7), (6, .int v16), (7, .int r59)]) h 178 dL_areWinnersSound_178 (by decide) rfl ?_
                refine rv_iload h 180 dL_areWinnersSound_180 6 rfl ?_
                refine rv_iconst h 182 dL_areWinnersSound_182 rv_c2 ?_
                refine rv_join (fun (k0 : Int32 → rv_W → rv_R) => ∀ (v86 : Int32) (w87 : rv_W), K 210 [(0, .ref (ad 0)), (1, .int r1), (2, .int r3), (3, .int r5), (4, .int r7), (5, .int v82), (6, .int v16), (7, .int r59)] (.int v86 :: []) w87 (k0 v86 w87)) (fun v86 w87 => ?_) (fun k88 hk89 => ?_)
                · refine rv_istore (lv' := [(9, .int v86), (0, .ref (ad 0)), (1, .int r1), (2, .int r3), (3, .int r5), (4, .int r7), (5, .int v82), (6, .int v16), (7, .int r59)]) h 210 dL_areWinnersSound_210 (by decide) rfl ?_
                  refine rv_iload_n h 212 dL_areWinnersSound_212 4 rfl ?_
                  refine rv_join (fun (k0 : rv_W → rv_R) => ∀  (w90 : rv_W), K 249 [(0, .ref (ad 0)), (1, .int r1), (2, .int r3), (3, .int r5), (4, .int r7), (5, .int v82), (6, .int v16), (7, .int r59), (9, .int v86)] ([]) w90 (k0 w90)) (fun w90 => ?_) (fun k91 hk92 => ?_)
                  · refine rv_iload h 249 dL_areWinnersSound_249 8 rfl ?_
                    refine rv_join (fun (k0 : rv_W → rv_R) => ∀  (w93 : rv_W), K 265 [(0, .ref (ad 0)), (1, .int r1), (2, .int r3), (3, .int r5), (4, .int r7), (5, .int v82), (6, .int v16), (7, .int r59)] ([]) w93 (k0 w93)) (fun w93 => ?_) (fun k94 hk95 => ?_)
                    · refine rv_iload h 265 dL_areWinnersSound_265 4 rfl ?_
                      refine rv_if_lt (tgt := 309) h 267 dL_areWinnersSound_267 (by decide) (fun _ => ?_) (fun _ => ?_)
                      · refine rv_iinc h 309 (fun v96 => [(6, .int v96), (0, .ref (ad 0)), (1, .int r1), (2, .int r3), (3, .int r5), (4, .int r7), (5, .int v82), (7, .int r59)]) dL_areWinnersSound_309 6 rfl rv_c1 (by decide) (fun _ => rfl) (fun v96 => ?_)
                        refine rv_goto (tgt := 44) h 312 dL_areWinnersSound_312 (by decide) ?_
                        refine rv_sub h [1, 2, 3, 4, 5, 6, 0] rfl ?_
                        exact ih14 v82 v96 w93
                      refine rv_iload h 270 dL_areWinnersSound_270 6 rfl ?_
                      refine rv_iconst h 272 dL_areWinnersSound_272 rv_c4 ?_
                      refine rv_join (fun (k0 : rv_W → rv_R) => ∀  (w97 : rv_W), K 296 [(0, .ref (ad 0)), (1, .int r1), (2, .int r3), (3, .int r5), (4, .int r7), (5, .int v82), (6, .int v16), (7, .int r59)] ([]) w97 (k0 w97)) (fun w97 => ?_) (fun k98 hk99 => ?_)
                      · refine rv_iload h 296 dL_areWinnersSound_296 7 rfl ?_
                        refine rv_iload h 298 dL_areWinnersSound_298 4 rfl ?_
                        refine rv_ishr h 300 dL_areWinnersSound_300 ?_
                        refine rv_iconst h 301 dL_areWinnersSound_301 rv_c1 ?_
                        refine rv_iand h 302 dL_areWinnersSound_302 ?_
                        refine rv_iconst h 303 dL_areWinnersSound_303 rv_c1 ?_
                        refine rv_icmp_ne (tgt := 309) h 304 dL_areWinnersSound_304 (by decide) (fun _ => ?_) (fun _ => ?_)
                        · refine rv_iconst h 307 dL_areWinnersSound_307 rv_c0 ?_
                          exact rv_retz0 hr 308 dL_areWinnersSound_308
                        refine rv_iinc h 309 (fun v100 => [(6, .int v100), (0, .ref (ad 0)), (1, .int r1), (2, .int r3), (3, .int r5), (4, .int r7), (5, .int v82), (7, .int r59)]) dL_areWinnersSound_309 6 rfl rv_c1 (by decide) (fun _ => rfl) (fun v100 => ?_)
                        refine rv_goto (tgt := 44) h 312 dL_areWinnersSound_312 (by decide) ?_
                        refine rv_sub h [1, 2, 3, 4, 5, 6, 0] rfl ?_
                        exact ih14 v82 v100 w97
                      refine rv_icmp_eq (tgt := 296) h 273 dL_areWinnersSound_273 (by decide) (fun _ => ?_) (fun _ => ?_)
                      · refine rv_sub h [0, 1, 2, 3, 4, 5, 6, 7] rfl ?_
                        exact hk99 w93
                      refine rv_iload h 276 dL_areWinnersSound_276 6 rfl ?_
                      refine rv_iconst h 278 dL_areWinnersSound_278 rv_c5 ?_
                      refine rv_icmp_eq (tgt := 296) h 279 dL_areWinnersSound_279 (by decide) (fun _ => ?_) (fun _ => ?_)
                      · refine rv_sub h [0, 1, 2, 3, 4, 5, 6, 7] rfl ?_
                        exact hk99 w93
                      refine rv_iload h 282 dL_areWinnersSound_282 6 rfl ?_
                      refine rv_bipush (v := 10) h 284 dL_areWinnersSound_284 (by decide +kernel) ?_
                      refine rv_icmp_eq (tgt := 296) h 286 dL_areWinnersSound_286 (by decide) (fun _ => ?_) (fun _ => ?_)
                      · refine rv_sub h [0, 1, 2, 3, 4, 5, 6, 7] rfl ?_
                        exact hk99 w93
                      refine rv_iload h 289 dL_areWinnersSound_289 6 rfl ?_
                      refine rv_bipush (v := 11) h 291 dL_areWinnersSound_291 (by decide +kernel) ?_
                      refine rv_icmp_ne (tgt := 309) h 293 dL_areWinnersSound_293 (by decide) (fun _ => ?_) (fun _ => ?_)
                      · refine rv_sub h [0, 1, 2, 3, 4, 5, 6, 7] rfl ?_
                        exact hk99 w93
                      refine rv_iinc h 309 (fun v101 => [(6, .int v101), (0, .ref (ad 0)), (1, .int r1), (2, .int r3), (3, .int r5), (4, .int r7), (5, .int v82), (7, .int r59)]) dL_areWinnersSound_309 6 rfl rv_c1 (by decide) (fun _ => rfl) (fun v101 => ?_)
                      refine rv_goto (tgt := 44) h 312 dL_areWinnersSound_312 (by decide) ?_
                      refine rv_sub h [1, 2, 3, 4, 5, 6, 0] rfl ?_
                      exact ih14 v82 v101 w93
                    refine rv_if_eq (tgt := 265) h 251 dL_areWinnersSound_251 (by decide) (fun _ => ?_) (fun _ => ?_)
                    · refine rv_sub h [0, 1, 2, 3, 4, 5, 6, 7] rfl ?_
                      exact hk95 w90
                    refine rv_iload h 254 dL_areWinnersSound_254 7 rfl ?_
                    refine rv_iload_n h 256 dL_areWinnersSound_256 2 rfl ?_
                    refine rv_iconst h 257 dL_areWinnersSound_257 rv_cm1 ?_
                    refine rv_ixor h 258 dL_areWinnersSound_258 ?_
                    refine rv_iand h 259 dL_areWinnersSound_259 ?_
                    refine rv_if_eq (tgt := 265) h 260 dL_areWinnersSound_260 (by decide) (fun _ => ?_) (fun _ => ?_)
                    · refine rv_sub h [0, 1, 2, 3, 4, 5, 6, 7] rfl ?_
                      exact hk95 w90
                    refine rv_iconst h 263 dL_areWinnersSound_263 rv_c0 ?_
                    exact rv_retz0 hr 264 dL_areWinnersSound_264
                  refine rv_if_lt (tgt := 249) h 213 dL_areWinnersSound_213 (by decide) (fun _ => ?_) (fun _ => ?_)
                  · refine rv_sub h [1, 2, 3, 4, 5, 6, 7, 8, 0] rfl ?_
                    exact hk92 w87
                  refine rv_iload h 216 dL_areWinnersSound_216 0 rfl ?_
                  refine rv_join (fun (k0 : rv_W → rv_R) => ∀  (w102 : rv_W), K 241 [(0, .ref (ad 0)), (1, .int r1), (2, .int r3), (3, .int r5), (4, .int r7), (5, .int v82), (6, .int v16), (7, .int r59), (9, .int v86)] ([]) w102 (k0 w102)) (fun w102 => ?_) (fun k103 hk104 => ?_)
                  · refine rv_iload h 241 dL_areWinnersSound_241 7 rfl ?_
                    refine rv_iconst h 243 dL_areWinnersSound_243 rv_c1 ?_
                    refine rv_iload_n h 244 dL_areWinnersSound_244 3 rfl ?_
                    refine rv_ishl h 245 dL_areWinnersSound_245 ?_
                    refine rv_icmp_ne (tgt := 263) h 246 dL_areWinnersSound_246 (by decide) (fun _ => ?_) (fun _ => ?_)
                    · refine rv_sub h [0, 1, 2, 3, 4, 5, 6, 7, 8] rfl ?_
                      exact hk92 w102
                    refine rv_iconst h 263 dL_areWinnersSound_263 rv_c0 ?_
                    exact rv_retz0 hr 264 dL_areWinnersSound_264
                  refine rv_if_ne (tgt := 241) h 218 dL_areWinnersSound_218 (by decide) (fun _ => ?_) (fun _ => ?_)
                  rotate_left
                  · refine rv_sub h [1, 2, 3, 4, 5, 6, 7, 8, 0] rfl ?_
                    exact hk104 w87
                  refine rv_iload h 221 dL_areWinnersSound_221 7 rfl ?_
                  refine rv_iconst h 223 dL_areWinnersSound_223 rv_c3 ?_
                  refine rv_icmp_eq (tgt := 241) h 224 dL_areWinnersSound_224 (by decide) (fun _ => ?_) (fun _ => ?_)
                  · refine rv_sub h [1, 2, 3, 4, 5, 6, 7, 8, 0] rfl ?_
                    exact hk104 w87
                  refine rv_iload h 227 dL_areWinnersSound_227 7 rfl ?_
                  refine rv_bipush (v := 9) h 229 dL_areWinnersSound_229 (by decide +kernel) ?_
                  refine rv_icmp_eq (tgt := 241) h 231 dL_areWinnersSound_231 (by decide) (fun _ => ?_) (fun _ => ?_)
                  · refine rv_sub h [1, 2, 3, 4, 5, 6, 7, 8, 0] rfl ?_
                    exact hk104 w87
                  refine rv_iload h 234 dL_areWinnersSound_234 7 rfl ?_
                  refine rv_bipush (v := 10) h 236 dL_areWinnersSound_236 (by decide +kernel) ?_
                  refine rv_icmp_ne (tgt := 249) h 238 dL_areWinnersSound_238 (by decide) (fun _ => ?_) (fun _ => ?_)
                  · refine rv_sub h [1, 2, 3, 4, 5, 6, 7, 8, 0] rfl ?_
                    exact hk104 w87
                  refine rv_sub h [1, 2, 3, 4, 5, 6, 7, 8, 0] rfl ?_
                  exact hk92 w87
                refine rv_join (fun (k0 : rv_W → rv_R) => ∀  (w105 : rv_W), K 205 [(0, .ref (ad 0)), (1, .int r1), (2, .int r3), (3, .int r5), (4, .int r7), (5, .int v82), (6, .int v16), (7, .int r59)] ([]) w105 (k0 w105)) (fun w105 => ?_) (fun k106 hk107 => ?_)
                · refine rv_iconst h 205 dL_areWinnersSound_205 rv_c1 ?_
                  refine rv_goto (tgt := 210) h 206 dL_areWinnersSound_206 (by decide) ?_
                  refine rv_sub h [0, 1, 2, 3, 4, 5, 6, 7] rfl ?_
                  exact hk89 (1 : Int32) w105
                refine rv_icmp_eq (tgt := 205) h 183 dL_areWinnersSound_183 (by decide) (fun _ => ?_) (fun _ => ?_)
                · refine rv_sub h [1, 2, 3, 4, 5, 0, 6, 7] rfl ?_
                  exact hk107 w83
                refine rv_iload h 186 dL_areWinnersSound_186 6 rfl ?_
                refine rv_iconst h 188 dL_areWinnersSound_188 rv_c4 ?_
                refine rv_icmp_eq (tgt := 205) h 189 dL_areWinnersSound_189 (by decide) (fun _ => ?_) (fun _ => ?_)
                · refine rv_sub h [1, 2, 3, 4, 5, 0, 6, 7] rfl ?_
                  exact hk107 w83
                refine rv_iload h 192 dL_areWinnersSound_192 6 rfl ?_
                refine rv_iconst h 194 dL_areWinnersSound_194 rv_c5 ?_
                refine rv_icmp_eq (tgt := 205) h 195 dL_areWinnersSound_195 (by decide) (fun _ => ?_) (fun _ => ?_)
                · refine rv_sub h [1, 2, 3, 4, 5, 0, 6, 7] rfl ?_
                  exact hk107 w83
                refine rv_iload h 198 dL_areWinnersSound_198 6 rfl ?_
                refine rv_bipush (v := 11) h 200 dL_areWinnersSound_200 (by decide +kernel) ?_
                refine rv_icmp_ne (tgt := 209) h 202 dL_areWinnersSound_202 (by decide) (fun _ => ?_) (fun _ => ?_)
                · refine rv_sub h [1, 2, 3, 4, 5, 0, 6, 7] rfl ?_
                  exact hk107 w83
                refine rv_iconst h 209 dL_areWinnersSound_209 rv_c0 ?_
                refine rv_sub h [1, 2, 3, 4, 5, 0, 6, 7] rfl ?_
                exact hk89 (0 : Int32) w83
              refine rv_join (fun (k0 : rv_W → rv_R) => ∀  (w108 : rv_W), K 173 [(0, .ref (ad 0)), (1, .int r1), (2, .int r3), (3, .int r5), (4, .int r7), (6, .int v16), (7, .int r59)] ([]) w108 (k0 w108)) (fun w108 => ?_) (fun k109 hk110 => ?_)
              · refine rv_iconst h 173 dL_areWinnersSound_173 rv_c1 ?_
                refine rv_goto (tgt := 178) h 174 dL_areWinnersSound_174 (by decide) ?_
                refine rv_sub h [0, 1, 2, 3, 4, 5, 6] rfl ?_
                exact hk85 (1 : Int32) w108
              refine rv_if_ne (tgt := 173) h 156 dL_areWinnersSound_156 (by decide) (fun _ => ?_) (fun _ => ?_)
              rotate_left
              · refine rv_sub h [0, 1, 2, 3, 4, 6, 7] rfl ?_
                exact hk110 w79
              refine rv_iload h 159 dL_areWinnersSound_159 8 rfl ?_
              refine rv_join (fun (k0 : rv_W → rv_R) => ∀  (w111 : rv_W), K 177 [(0, .ref (ad 0)), (1, .int r1), (2, .int r3), (3, .int r5), (4, .int r7), (6, .int v16), (7, .int r59)] ([]) w111 (k0 w111)) (fun w111 => ?_) (fun k112 hk113 => ?_)
              · refine rv_iconst h 177 dL_areWinnersSound_177 rv_c0 ?_
                refine rv_sub h [0, 1, 2, 3, 4, 5, 6] rfl ?_
                exact hk85 (0 : Int32) w111
              refine rv_if_lt (tgt := 177) h 161 dL_areWinnersSound_161 (by decide) (fun _ => ?_) (fun _ => ?_)
              · refine rv_sub h [0, 1, 2, 3, 4, 6, 7] rfl ?_
                exact hk113 w79
              refine rv_iload h 164 dL_areWinnersSound_164 8 rfl ?_
              refine rv_aload_n h 166 dL_areWinnersSound_166 0 rfl ?_
              refine rv_callVi h 167 dL_areWinnersSound_167 (fn_X10_favourite hJ   w79) ce_X10_favourite lk_L_43 rv_s0 rfl rv_cf8 rfl rfl (Nat.le_of_ble_eq_true rfl) ⟨Nat.le_of_ble_eq_true rfl, Nat.le_of_ble_eq_true rfl⟩ (fun r114 w115 => ?_)
              refine rv_icmp_ne (tgt := 177) h 170 dL_areWinnersSound_170 (by decide) (fun _ => ?_) (fun _ => ?_)
              · refine rv_sub h [0, 1, 2, 3, 4, 6, 7] rfl ?_
                exact hk110 w115
              refine rv_sub h [0, 1, 2, 3, 4, 6, 7] rfl ?_
              exact hk113 w115
            refine rv_if_lt (tgt := 154) h 127 dL_areWinnersSound_127 (by decide) (fun _ => ?_) (fun _ => ?_)
            · refine rv_sub h [0, 1, 2, 3, 4, 5, 6, 7, 8] rfl ?_
              exact hk81 w76
            refine rv_iload h 130 dL_areWinnersSound_130 7 rfl ?_
            refine rv_iload h 132 dL_areWinnersSound_132 8 rfl ?_
            refine rv_ishr h 134 dL_areWinnersSound_134 ?_
            refine rv_iconst h 135 dL_areWinnersSound_135 rv_c1 ?_
            refine rv_iand h 136 dL_areWinnersSound_136 ?_
            refine rv_if_eq (tgt := 152) h 137 dL_areWinnersSound_137 (by decide) (fun _ => ?_) (fun _ => ?_)
            · refine rv_iconst h 152 dL_areWinnersSound_152 rv_c0 ?_
              exact rv_retz0 hr 153 dL_areWinnersSound_153
            refine rv_iload h 140 dL_areWinnersSound_140 7 rfl ?_
            refine rv_iconst h 142 dL_areWinnersSound_142 rv_c1 ?_
            refine rv_iload h 143 dL_areWinnersSound_143 8 rfl ?_
            refine rv_ishl h 145 dL_areWinnersSound_145 ?_
            refine rv_iconst h 146 dL_areWinnersSound_146 rv_c1 ?_
            refine rv_isub h 147 dL_areWinnersSound_147 ?_
            refine rv_iand h 148 dL_areWinnersSound_148 ?_
            refine rv_if_eq (tgt := 154) h 149 dL_areWinnersSound_149 (by decide) (fun _ => ?_) (fun _ => ?_)
            · refine rv_sub h [0, 1, 2, 3, 4, 5, 6, 7, 8] rfl ?_
              exact hk81 w76
            refine rv_iconst h 152 dL_areWinnersSound_152 rv_c0 ?_
            exact rv_retz0 hr 153 dL_areWinnersSound_153
          refine rv_if_ne (tgt := 119) h 112 dL_areWinnersSound_112 (by decide) (fun _ => ?_) (fun _ => ?_)
          rotate_left
          · refine rv_iconst h 119 dL_areWinnersSound_119 rv_c0 ?_
            refine rv_sub h [0, 1, 2, 3, 4, 5, 6, 7, 8] rfl ?_
            exact hk78 (0 : Int32) w72
          refine rv_iconst h 115 dL_areWinnersSound_115 rv_c1 ?_
          refine rv_goto (tgt := 120) h 116 dL_areWinnersSound_116 (by decide) ?_
          refine rv_sub h [0, 1, 2, 3, 4, 5, 6, 7, 8] rfl ?_
          exact hk78 (1 : Int32) w72
        refine rv_icmp_ne (tgt := 109) h 102 dL_areWinnersSound_102 (by decide) (fun _ => ?_) (fun _ => ?_)
        rotate_left
        · refine rv_iconst h 109 dL_areWinnersSound_109 rv_c0 ?_
          refine rv_sub h [0, 1, 2, 3, 4, 5, 6, 7, 8] rfl ?_
          exact hk74 (0 : Int32) w68
        refine rv_iconst h 105 dL_areWinnersSound_105 rv_c1 ?_
        refine rv_goto (tgt := 110) h 106 dL_areWinnersSound_106 (by decide) ?_
        refine rv_sub h [0, 1, 2, 3, 4, 5, 6, 7, 8] rfl ?_
        exact hk74 (1 : Int32) w68
      refine rv_if_ne (tgt := 94) h 87 dL_areWinnersSound_87 (by decide) (fun _ => ?_) (fun _ => ?_)
      rotate_left
      · refine rv_iconst h 94 dL_areWinnersSound_94 rv_c0 ?_
        refine rv_sub h [0, 1, 2, 3, 4, 5, 6, 7, 8] rfl ?_
        exact hk70 (0 : Int32) w64
      refine rv_iconst h 90 dL_areWinnersSound_90 rv_c1 ?_
      refine rv_goto (tgt := 95) h 91 dL_areWinnersSound_91 (by decide) ?_
      refine rv_sub h [0, 1, 2, 3, 4, 5, 6, 7, 8] rfl ?_
      exact hk70 (1 : Int32) w64
    refine rv_if_ne (tgt := 84) h 77 dL_areWinnersSound_77 (by decide) (fun _ => ?_) (fun _ => ?_)
    rotate_left
    · refine rv_iconst h 84 dL_areWinnersSound_84 rv_c0 ?_
      refine rv_sub h [2, 3, 4, 5, 6, 7, 8, 1, 0] rfl ?_
      exact hk66 (0 : Int32) w62
    refine rv_iconst h 80 dL_areWinnersSound_80 rv_c1 ?_
    refine rv_goto (tgt := 85) h 81 dL_areWinnersSound_81 (by decide) ?_
    refine rv_sub h [2, 3, 4, 5, 6, 7, 8, 1, 0] rfl ?_
    exact hk66 (1 : Int32) w62
  refine rv_join (fun (k0 : rv_W → rv_R) => ∀  (w116 : rv_W), K 38 [(0, .ref (ad 0)), (1, .int r1), (2, .int r3), (3, .int r5), (4, .int r7)] ([]) w116 (k0 w116)) (fun w116 => ?_) (fun k117 hk118 => ?_)
  · refine rv_iconst h 38 dL_areWinnersSound_38 rv_c0 ?_
    refine rv_sub h [0, 1, 2, 3, 4] rfl ?_
    exact hk12 (0 : Int32) w116
  refine rv_if_ne (tgt := 38) h 22 dL_areWinnersSound_22 (by decide) (fun _ => ?_) (fun _ => ?_)
  rotate_left
  · refine rv_sub h [4, 3, 2, 1, 0] rfl ?_
    exact hk118 w8
  refine rv_aload_n h 25 dL_areWinnersSound_25 4 rfl ?_
  refine rv_callVi h 26 dL_areWinnersSound_26 (fn_X10_favourite hJ   w8) ce_X10_favourite lk_L_43 rv_s0 rfl rv_cf8 rfl rfl (Nat.le_of_ble_eq_true rfl) ⟨Nat.le_of_ble_eq_true rfl, Nat.le_of_ble_eq_true rfl⟩ (fun r119 w120 => ?_)
  refine rv_ldc h 29 dL_areWinnersSound_29 rv_kc_L_46 ?_
  refine rv_icmp_ne (tgt := 38) h 31 dL_areWinnersSound_31 (by decide) (fun _ => ?_) (fun _ => ?_)
  rotate_left
  · refine rv_sub h [4, 3, 2, 1, 0] rfl ?_
    exact hk118 w120
  refine rv_iconst h 34 dL_areWinnersSound_34 rv_c1 ?_
  refine rv_goto (tgt := 39) h 35 dL_areWinnersSound_35 (by decide) ?_
  refine rv_sub h [4, 3, 2, 1, 0] rfl ?_
  exact hk12 (1 : Int32) w120
