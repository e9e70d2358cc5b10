def f_X11_coombs (p1 : Int32) (w : rv_W) : rv_R :=
  rv_lt (rv_up w 78 15 (0 : Int32)) (fun (w1 : rv_W) =>
  rv_fx (fun _ _ => none) (fun (ag2 : Int32 → rv_W → rv_R) (v4 : Int32) (w5 : rv_W) =>
  rv_bd (f_X11_many v4 w5) (fun (r6 : Int32) (w7 : rv_W) =>
  if (1 : Int32) < r6 then
  rv_bd (f_X11_majority v4 w7) (fun (r8 : Int32) (w9 : rv_W) =>
  if r8 < 0 then
  rv_fx (fun _ _ _ => none) (fun (ag10 : Int32 → Int32 → rv_W → rv_R) (v12 : Int32) (v13 : Int32) (w14 : rv_W) =>
  if v13 < (5 : Int32) then
  rv_ck v13 5 (rv_lt (rv_up w14 84 v13.toNatClampNeg (0 : Int32)) (fun (w18 : rv_W) =>
  rv_fx (fun _ _ => none) (fun (ag19 : Int32 → rv_W → rv_R) (v21 : Int32) (w22 : rv_W) =>
  if v21 < (w22 78 6) then
  rv_ck v13 5 (
  rv_bd (f_X11_isLast v21 v13 v4 w22) (fun (r31 : Int32) (w32 : rv_W) =>
  rv_jn (fun (v33 : Int32) (w34 : rv_W) =>
  rv_ck v13 5 (rv_lt (rv_up w34 84 v13.toNatClampNeg ((w22 84 v13.toNatClampNeg) + v33)) (fun (w37 : rv_W) =>
  rv_lt (v21 + (1 : Int32)) (fun (v38 : Int32) =>
  ag19 v38 w37)))) (fun (k35 : Int32 → rv_W → rv_R) =>
  if r31 = 0 then
  k35 (0 : Int32) w32
  else
  rv_ck v21 20 (
  k35 (w32 81 v21.toNatClampNeg) w32))))
  else
  rv_bd (f_X11_has v4 v13 w22) (fun (r23 : Int32) (w24 : rv_W) =>
  if r23 = 0 then
  rv_lt (v13 + (1 : Int32)) (fun (v25 : Int32) =>
  ag10 v12 v25 w24)
  else
  rv_jn (fun  (w26 : rv_W) =>
  rv_lt (v13 + (1 : Int32)) (fun (v29 : Int32) =>
  ag10 v13 v29 w26)) (fun (k27 : rv_W → rv_R) =>
  if v12 < 0 then
  k27 w24
  else
  rv_ck v13 5 (
  rv_ck v12 5 (
  if (w24 84 v13.toNatClampNeg) < (w24 84 v12.toNatClampNeg) then
  rv_lt (v13 + (1 : Int32)) (fun (v30 : Int32) =>
  ag10 v12 v30 w24)
  else
  k27 w24))))) rv_FU (0 : Int32) w18))
  else
  rv_bd (f_X11_leave v4 v12 w14) (fun (r15 : Int32) (w16 : rv_W) =>
  rv_lt ((v4 ^^^ ((1 : Int32) <<< (v12 &&& 31)))) (fun (v17 : Int32) =>
  ag2 v17 w16))) rv_FU (-1 : Int32) (0 : Int32) w9
  else
  some (((1 : Int32) <<< (r8 &&& 31)), w9))
  else
  some (v4, w7))) rv_FU p1 w1)
set_option maxRecDepth 100000 in
set_option maxHeartbeats 4000000 in
theorem fn_X11_coombs {l : Launch} {D : va_G} {ad : Nat → Nat} {ca : Nat → ClassId} (hJ : rv_J ad) (p1 : Int32)  (w : rv_W) : rv_Fn l D ad ca yX11_coombs cX11_coombs 7 (some .int) 4 96 [.ref (ad 78), .int p1] w (f_X11_coombs p1 w) := by
  refine rv_mk (lv := [(0, .ref (ad 78)), (1, .int p1)]) hJ (by decide +kernel) (Nat.le_of_ble_eq_true rfl) rfl (fun K h hr => ?_)
  have h : rv_Rl D ad ca l RX11 cX11_coombs 7 4 96 K := h
  unfold f_X11_coombs
  refine rv_iload_n h 0 dX11_coombs_0 1 rfl ?_
  refine rv_istore_n (lv' := [(2, .int p1), (0, .ref (ad 78)), (1, .int p1)]) h 1 dX11_coombs_1 (by decide) rfl ?_
  refine rv_aload_n h 2 dX11_coombs_2 1 rfl ?_
  refine rv_iconst h 3 dX11_coombs_3 rv_c0 ?_
  refine rv_puti h 4 dX11_coombs_4 rv_s78 rv_fd_X11_131 rfl ⟨rfl, rfl⟩ (fun w1 => ?_)
  refine rv_sub h [1, 0] rfl ?_
  refine rv_fx_ind (fun (a0 : Int32 → rv_W → rv_R) => ∀ (v4 : Int32) (w5 : rv_W), K 7 [(0, .ref (ad 78)), (2, .int v4)] [] w5 (a0 v4 w5)) (fun _ _ => rv_none h) (fun ag2 ih3 v4 w5 => ?_) rv_FU p1 w1
  refine rv_iload_n h 7 dX11_coombs_7 1 rfl ?_
  refine rv_callSi h 8 dX11_coombs_8 (fn_X11_many hJ v4  w5) ce_X11_many lk_X11_105 rfl rfl (Nat.le_of_ble_eq_true rfl) ⟨Nat.le_of_ble_eq_true rfl, Nat.le_of_ble_eq_true rfl⟩ (fun r6 w7 => ?_)
  refine rv_iconst h 11 dX11_coombs_11 rv_c1 ?_
  refine rv_icmp_le (tgt := 163) h 12 dX11_coombs_12 (by decide) (fun _ => ?_) (fun _ => ?_)
  rotate_left
  · refine rv_iload_n h 163 dX11_coombs_163 1 rfl ?_
    exact rv_reti hr 164 dX11_coombs_164
  refine rv_aload_n h 15 dX11_coombs_15 0 rfl ?_
  refine rv_iload_n h 16 dX11_coombs_16 1 rfl ?_
  refine rv_callVi h 17 dX11_coombs_17 (fn_X11_majority hJ v4  w7) ce_X11_majority lk_X11_137 rv_s78 rfl rv_cf9 rfl rfl (Nat.le_of_ble_eq_true rfl) ⟨Nat.le_of_ble_eq_true rfl, Nat.le_of_ble_eq_true rfl⟩ (fun r8 w9 => ?_)
  refine rv_istore_n (lv' := [(3, .int r8), (0, .ref (ad 78)), (2, .int v4)]) h 20 dX11_coombs_20 (by decide) rfl ?_
  refine rv_iload_n h 21 dX11_coombs_21 0 rfl ?_
  refine rv_if_lt (tgt := 29) h 22 dX11_coombs_22 (by decide) (fun _ => ?_) (fun _ => ?_)
  rotate_left
  · refine rv_iconst h 25 dX11_coombs_25 rv_c1 ?_
    refine rv_iload_n h 26 dX11_coombs_26 0 rfl ?_
    refine rv_ishl h 27 dX11_coombs_27 ?_
    exact rv_reti hr 28 dX11_coombs_28
  refine rv_iconst h 29 dX11_coombs_29 rv_cm1 ?_
  refine rv_istore (lv' := [(4, .int (-1 : Int32)), (3, .int r8), (0, .ref (ad 78)), (2, .int v4)]) h 30 dX11_coombs_30 (by decide) rfl ?_
  refine rv_iconst h 32 dX11_coombs_32 rv_c0 ?_
  refine rv_istore (lv' := [(5, .int (0 : Int32)), (4, .int (-1 : Int32)), (3, .int r8), (0, .ref (ad 78)), (2, .int v4)]) h 33 dX11_coombs_33 (by decide) rfl ?_
  refine rv_sub h [3, 4, 1, 0] rfl ?_
  refine rv_fx_ind (fun (a0 : Int32 → Int32 → rv_W → rv_R) => ∀ (v12 : Int32) (v13 : Int32) (w14 : rv_W), K 35 [(0, .ref (ad 78)), (2, .int v4), (4, .int v12), (5, .int v13)] [] w14 (a0 v12 v13 w14)) (fun _ _ _ => rv_none h) (fun ag10 ih11 v12 v13 w14 => ?_) rv_FU (-1 : Int32) (0 : Int32) w9
  refine rv_iload h 35 dX11_coombs_35 3 rfl ?_
  refine rv_iconst h 37 dX11_coombs_37 rv_c5 ?_
  refine rv_icmp_ge (tgt := 146) h 38 dX11_coombs_38 (by decide) (fun _ => ?_) (fun _ => ?_)
  rotate_left
  · refine rv_aload_n h 146 dX11_coombs_146 0 rfl ?_
    refine rv_iload_n h 147 dX11_coombs_147 1 rfl ?_
    refine rv_iload h 148 dX11_coombs_148 2 rfl ?_
    refine rv_callVv h 150 dX11_coombs_150 (fn_X11_leave hJ v4 v12  w14) ce_X11_leave lk_X11_134 rv_s78 rfl rv_cf9 rfl rfl (Nat.le_of_ble_eq_true rfl) ⟨Nat.le_of_ble_eq_true rfl, Nat.le_of_ble_eq_true rfl⟩ (fun r15 w16 => ?_)
    refine rv_iload_n h 153 dX11_coombs_153 1 rfl ?_
    refine rv_iconst h 154 dX11_coombs_154 rv_c1 ?_
    refine rv_iload h 155 dX11_coombs_155 2 rfl ?_
    refine rv_ishl h 157 dX11_coombs_157 ?_
    refine rv_ixor h 158 dX11_coombs_158 ?_
    refine rv_top (fun v17 => ?_)
    refine rv_istore_n (lv' := [(2, .int v17), (0, .ref (ad 78)), (4, .int v12), (5, .int v13)]) h 159 dX11_coombs_159 (by decide) rfl ?_
    refine rv_goto (tgt := 7) h 160 dX11_coombs_160 (by decide) ?_
    refine rv_sub h [1, 0] rfl ?_
    exact ih3 v17 w16
  refine rv_aload_n h 41 dX11_coombs_41 0 rfl ?_
  refine rv_getr h 42 dX11_coombs_42 rv_s78 rv_fd_X11_25 rfl ?_
  refine rv_iload h 45 dX11_coombs_45 3 rfl ?_
  refine rv_iconst h 47 dX11_coombs_47 rv_c0 ?_
  refine rv_iast h 48 dX11_coombs_48 rv_s84 (fun w18 => ?_)
  refine rv_iconst h 49 dX11_coombs_49 rv_c0 ?_
  refine rv_istore (lv' := [(6, .int (0 : Int32)), (0, .ref (ad 78)), (2, .int v4), (4, .int v12), (5, .int v13)]) h 50 dX11_coombs_50 (by decide) rfl ?_
  refine rv_sub h [1, 2, 3, 4, 0] rfl ?_
  refine rv_fx_ind (fun (a0 : Int32 → rv_W → rv_R) => ∀ (v21 : Int32) (w22 : rv_W), K 52 [(0, .ref (ad 78)), (2, .int v4), (4, .int v12), (5, .int v13), (6, .int v21)] [] w22 (a0 v21 w22)) (fun _ _ => rv_none h) (fun ag19 ih20 v21 w22 => ?_) rv_FU (0 : Int32) w18
  refine rv_iload h 52 dX11_coombs_52 4 rfl ?_
  refine rv_aload_n h 54 dX11_coombs_54 0 rfl ?_
  refine rv_geti h 55 dX11_coombs_55 rv_s78 rv_fd_X11_78 rfl ?_
  refine rv_icmp_ge (tgt := 100) h 58 dX11_coombs_58 (by decide) (fun _ => ?_) (fun _ => ?_)
  · refine rv_aload_n h 61 dX11_coombs_61 0 rfl ?_
    refine rv_getr h 62 dX11_coombs_62 rv_s78 rv_fd_X11_25 rfl ?_
    refine rv_iload h 65 dX11_coombs_65 3 rfl ?_
    refine rv_dup2 h 67 dX11_coombs_67 rfl rfl ?_
    refine rv_iald h 68 dX11_coombs_68 rv_s84 ?_
    refine rv_aload_n h 69 dX11_coombs_69 0 rfl ?_
    refine rv_iload h 70 dX11_coombs_70 4 rfl ?_
    refine rv_iload h 72 dX11_coombs_72 3 rfl ?_
    refine rv_iload_n h 74 dX11_coombs_74 1 rfl ?_
    refine rv_callVi h 75 dX11_coombs_75 (fn_X11_isLast hJ v21 v13 v4  w22) ce_X11_isLast lk_X11_140 rv_s78 rfl rv_cf9 rfl rfl (Nat.le_of_ble_eq_true rfl) ⟨Nat.le_of_ble_eq_true rfl, Nat.le_of_ble_eq_true rfl⟩ (fun r31 w32 => ?_)
    refine rv_join (fun (k0 : Int32 → rv_W → rv_R) => ∀ (v33 : Int32) (w34 : rv_W), K 92 [(0, .ref (ad 78)), (2, .int v4), (4, .int v12), (5, .int v13), (6, .int v21)] (.int v33 :: .int (w22 84 v13.toNatClampNeg) :: .int v13 :: .ref (ad 84) :: []) w34 (k0 v33 w34)) (fun v33 w34 => ?_) (fun k35 hk36 => ?_)
    · refine rv_iadd h 92 dX11_coombs_92 ?_
      refine rv_iast h 93 dX11_coombs_93 rv_s84 (fun w37 => ?_)
      refine rv_iinc h 94 (fun v38 => [(6, .int v38), (0, .ref (ad 78)), (2, .int v4), (4, .int v12), (5, .int v13)]) dX11_coombs_94 4 rfl rv_c1 (by decide) (fun _ => rfl) (fun v38 => ?_)
      refine rv_goto (tgt := 52) h 97 dX11_coombs_97 (by decide) ?_
      refine rv_sub h [1, 2, 3, 4, 0] rfl ?_
      exact ih20 v38 w37
    refine rv_if_eq (tgt := 91) h 78 dX11_coombs_78 (by decide) (fun _ => ?_) (fun _ => ?_)
    · refine rv_iconst h 91 dX11_coombs_91 rv_c0 ?_
      refine rv_sub h [0, 1, 2, 3, 4] rfl ?_
      exact hk36 (0 : Int32) w32
    refine rv_aload_n h 81 dX11_coombs_81 0 rfl ?_
    refine rv_getr h 82 dX11_coombs_82 rv_s78 rv_fd_X11_16 rfl ?_
    refine rv_iload h 85 dX11_coombs_85 4 rfl ?_
    refine rv_iald h 87 dX11_coombs_87 rv_s81 ?_
    refine rv_goto (tgt := 92) h 88 dX11_coombs_88 (by decide) ?_
    refine rv_sub h [0, 1, 2, 3, 4] rfl ?_
    exact hk36 (w32 81 v21.toNatClampNeg) w32
  refine rv_iload_n h 100 dX11_coombs_100 1 rfl ?_
  refine rv_iload h 101 dX11_coombs_101 3 rfl ?_
  refine rv_callSi h 103 dX11_coombs_103 (fn_X11_has hJ v4 v13  w22) ce_X11_has lk_X11_74 rfl rfl (Nat.le_of_ble_eq_true rfl) ⟨Nat.le_of_ble_eq_true rfl, Nat.le_of_ble_eq_true rfl⟩ (fun r23 w24 => ?_)
  refine rv_if_eq (tgt := 136) h 106 dX11_coombs_106 (by decide) (fun _ => ?_) (fun _ => ?_)
  · refine rv_iload h 136 dX11_coombs_136 2 rfl ?_
    refine rv_istore (lv' := [(4, .int v12), (0, .ref (ad 78)), (2, .int v4), (5, .int v13), (6, .int v21)]) h 138 dX11_coombs_138 (by decide) rfl ?_
    refine rv_iinc h 140 (fun v25 => [(5, .int v25), (4, .int v12), (0, .ref (ad 78)), (2, .int v4), (6, .int v21)]) dX11_coombs_140 3 rfl rv_c1 (by decide) (fun _ => rfl) (fun v25 => ?_)
    refine rv_goto (tgt := 35) h 143 dX11_coombs_143 (by decide) ?_
    refine rv_sub h [2, 3, 1, 0] rfl ?_
    exact ih11 v12 v25 w24
  refine rv_iload h 109 dX11_coombs_109 2 rfl ?_
  refine rv_join (fun (k0 : rv_W → rv_R) => ∀  (w26 : rv_W), K 131 [(0, .ref (ad 78)), (2, .int v4), (5, .int v13)] ([]) w26 (k0 w26)) (fun w26 => ?_) (fun k27 hk28 => ?_)
  · refine rv_iload h 131 dX11_coombs_131 2 rfl ?_
    refine rv_goto (tgt := 138) h 133 dX11_coombs_133 (by decide) ?_
    refine rv_istore (lv' := [(4, .int v13), (0, .ref (ad 78)), (2, .int v4), (5, .int v13)]) h 138 dX11_coombs_138 (by decide) rfl ?_
    refine rv_iinc h 140 (fun v29 => [(5, .int v29), (4, .int v13), (0, .ref (ad 78)), (2, .int v4)]) dX11_coombs_140 3 rfl rv_c1 (by decide) (fun _ => rfl) (fun v29 => ?_)
    refine rv_goto (tgt := 35) h 143 dX11_coombs_143 (by decide) ?_
    refine rv_sub h [2, 3, 1, 0] rfl ?_
    exact ih11 v13 v29 w26
  refine rv_if_lt (tgt := 131) h 111 dX11_coombs_111 (by decide) (fun _ => ?_) (fun _ => ?_)
  · refine rv_sub h [0, 1, 3] rfl ?_
    exact hk28 w24
  refine rv_aload_n h 114 dX11_coombs_114 0 rfl ?_
  refine rv_getr h 115 dX11_coombs_115 rv_s78 rv_fd_X11_25 rfl ?_
  refine rv_iload h 118 dX11_coombs_118 3 rfl ?_
  refine rv_iald h 120 dX11_coombs_120 rv_s84 ?_
  refine rv_aload_n h 121 dX11_coombs_121 0 rfl ?_
  refine rv_getr h 122 dX11_coombs_122 rv_s78 rv_fd_X11_25 rfl ?_
  refine rv_iload h 125 dX11_coombs_125 2 rfl ?_
  refine rv_iald h 127 dX11_coombs_127 rv_s84 ?_
  refine rv_icmp_lt (tgt := 136) h 128 dX11_coombs_128 (by decide) (fun _ => ?_) (fun _ => ?_)
  rotate_left
  · refine rv_sub h [0, 1, 3] rfl ?_
    exact hk28 w24
  refine rv_iload h 136 dX11_coombs_136 2 rfl ?_
  refine rv_istore (lv' := [(4, .int v12), (0, .ref (ad 78)), (2, .int v4), (5, .int v13), (6, .int v21)]) h 138 dX11_coombs_138 (by decide) rfl ?_
  refine rv_iinc h 140 (fun v30 => [(5, .int v30), (4, .int v12), (0, .ref (ad 78)), (2, .int v4), (6, .int v21)]) dX11_coombs_140 3 rfl rv_c1 (by decide) (fun _ => rfl) (fun v30 => ?_)
  refine rv_goto (tgt := 35) h 143 dX11_coombs_143 (by decide) ?_
  refine rv_sub h [2, 3, 1, 0] rfl ?_
  exact ih11 v12 v30 w24
def f_X11_nanson (p1 : Int32) (w : rv_W) : rv_R :=
  rv_fx (fun _ _ _ => none) (fun (ag1 : Int32 → Int32 → rv_W → rv_R) (v3 : Int32) (v4 : Int32) (w5 : rv_W) =>
  if v3 = v4 then
  some (v3, w5)
  else
  rv_bd (f_X11_borda v3 w5) (fun (r6 : Int32) (w7 : rv_W) =>
  rv_fx (fun _ _ _ => none) (fun (ag8 : Int32 → Int32 → rv_W → rv_R) (v10 : Int32) (v11 : Int32) (w12 : rv_W) =>
  if v11 < (5 : Int32) then
  rv_ck v11 5 (
  rv_lt ((v10 + (w12 84 v11.toNatClampNeg))) (fun (v29 : Int32) =>
  rv_lt (v11 + (1 : Int32)) (fun (v30 : Int32) =>
  ag8 v29 v30 w12)))
  else
  rv_fx (fun _ _ _ => none) (fun (ag13 : Int32 → Int32 → rv_W → rv_R) (v15 : Int32) (v16 : Int32) (w17 : rv_W) =>
  if v16 < (5 : Int32) then
  rv_bd (f_X11_has v3 v16 w17) (fun (r18 : Int32) (w19 : rv_W) =>
  rv_jn (fun  (w20 : rv_W) =>
  rv_lt ((v15 &&& (31 : Int32))) (fun (v23 : Int32) =>
  rv_lt (v16 + (1 : Int32)) (fun (v24 : Int32) =>
  ag13 v23 v24 w20))) (fun (k21 : rv_W → rv_R) =>
  if r18 = 0 then
  k21 w19
  else
  rv_ck v16 5 (
  rv_bd (f_X11_many v3 w19) (fun (r25 : Int32) (w26 : rv_W) =>
  if ((w19 84 v16.toNatClampNeg) * r25) < v10 then
  rv_lt ((v15 &&& (((1 : Int32) <<< (v16 &&& 31)) ^^^ (-1 : Int32)))) (fun (v27 : Int32) =>
  rv_lt (v16 + (1 : Int32)) (fun (v28 : Int32) =>
  ag13 v27 v28 w26))
  else
  k21 w26))))
  else
  ag1 v15 v3 w17) rv_FU v3 (0 : Int32) w12) rv_FU (0 : Int32) (0 : Int32) w7)) rv_FU p1 (0 : Int32) w
set_option maxRecDepth 100000 in
set_option maxHeartbeats 4000000 in
theorem fn_X11_nanson {l : Launch} {D : va_G} {ad : Nat → Nat} {ca : Nat → ClassId} (hJ : rv_J ad) (p1 : Int32)  (w : rv_W) : rv_Fn l D ad ca yX11_nanson cX11_nanson 6 (some .int) 3 73 [.ref (ad 78), .int p1] w (f_X11_nanson p1 w) := by
  refine rv_mk (lv := [(0, .ref (ad 78)), (1, .int p1)]) hJ (by decide +kernel) (Nat.le_of_ble_eq_true rfl) rfl (fun K h hr => ?_)
  have h : rv_Rl D ad ca l RX11 cX11_nanson 6 3 73 K := h
  unfold f_X11_nanson
  refine rv_iload_n h 0 dX11_nanson_0 1 rfl ?_
  refine rv_istore_n (lv' := [(2, .int p1), (0, .ref (ad 78)), (1, .int p1)]) h 1 dX11_nanson_1 (by decide) rfl ?_
  refine rv_iconst h 2 dX11_nanson_2 rv_c0 ?_
  refine rv_istore_n (lv' := [(3, .int (0 : Int32)), (2, .int p1), (0, .ref (ad 78)), (1, .int p1)]) h 3 dX11_nanson_3 (by decide) rfl ?_
  refine rv_sub h [2, 1, 0] rfl ?_
  refine rv_fx_ind (fun (a0 : Int32 → Int32 → rv_W → rv_R) => ∀ (v3 : Int32) (v4 : Int32) (w5 : rv_W), K 4 [(0, .ref (ad 78)), (2, .int v3), (3, .int v4)] [] w5 (a0 v3 v4 w5)) (fun _ _ _ => rv_none h) (fun ag1 ih2 v3 v4 w5 => ?_) rv_FU p1 (0 : Int32) w
  refine rv_iload_n h 4 dX11_nanson_4 1 rfl ?_
  refine rv_iload_n h 5 dX11_nanson_5 2 rfl ?_
  refine rv_icmp_eq (tgt := 104) h 6 dX11_nanson_6 (by decide) (fun _ => ?_) (fun _ => ?_)
  · refine rv_iload_n h 104 dX11_nanson_104 1 rfl ?_
    exact rv_reti hr 105 dX11_nanson_105
  refine rv_iload_n h 9 dX11_nanson_9 1 rfl ?_
  refine rv_istore_n (lv' := [(3, .int v3), (0, .ref (ad 78)), (2, .int v3)]) h 10 dX11_nanson_10 (by decide) rfl ?_
  refine rv_aload_n h 11 dX11_nanson_11 1 rfl ?_
  refine rv_iload_n h 12 dX11_nanson_12 2 rfl ?_
  refine rv_callVv h 13 dX11_nanson_13 (fn_X11_borda hJ v3  w5) ce_X11_borda lk_X11_143 rv_s78 rfl rv_cf9 rfl rfl (Nat.le_of_ble_eq_true rfl) ⟨Nat.le_of_ble_eq_true rfl, Nat.le_of_ble_eq_true rfl⟩ (fun r6 w7 => ?_)
  refine rv_iconst h 16 dX11_nanson_16 rv_c0 ?_
  refine rv_istore (lv' := [(4, .int (0 : Int32)), (3, .int v3), (0, .ref (ad 78)), (2, .int v3)]) h 17 dX11_nanson_17 (by decide) rfl ?_
  refine rv_iconst h 19 dX11_nanson_19 rv_c0 ?_
  refine rv_istore (lv' := [(5, .int (0 : Int32)), (4, .int (0 : Int32)), (3, .int v3), (0, .ref (ad 78)), (2, .int v3)]) h 20 dX11_nanson_20 (by decide) rfl ?_
  refine rv_sub h [3, 4, 2, 1, 0] rfl ?_
  refine rv_fx_ind (fun (a0 : Int32 → Int32 → rv_W → rv_R) => ∀ (v10 : Int32) (v11 : Int32) (w12 : rv_W), K 22 [(0, .ref (ad 78)), (2, .int v3), (3, .int v3), (4, .int v10), (5, .int v11)] [] w12 (a0 v10 v11 w12)) (fun _ _ _ => rv_none h) (fun ag8 ih9 v10 v11 w12 => ?_) rv_FU (0 : Int32) (0 : Int32) w7
  refine rv_iload h 22 dX11_nanson_22 4 rfl ?_
  refine rv_iconst h 24 dX11_nanson_24 rv_c5 ?_
  refine rv_icmp_ge (tgt := 46) h 25 dX11_nanson_25 (by decide) (fun _ => ?_) (fun _ => ?_)
  · refine rv_iload h 28 dX11_nanson_28 3 rfl ?_
    refine rv_aload_n h 30 dX11_nanson_30 0 rfl ?_
    refine rv_getr h 31 dX11_nanson_31 rv_s78 rv_fd_X11_25 rfl ?_
    refine rv_iload h 34 dX11_nanson_34 4 rfl ?_
    refine rv_iald h 36 dX11_nanson_36 rv_s84 ?_
    refine rv_iadd h 37 dX11_nanson_37 ?_
    refine rv_top (fun v29 => ?_)
    refine rv_istore (lv' := [(4, .int v29), (0, .ref (ad 78)), (2, .int v3), (3, .int v3), (5, .int v11)]) h 38 dX11_nanson_38 (by decide) rfl ?_
    refine rv_iinc h 40 (fun v30 => [(5, .int v30), (4, .int v29), (0, .ref (ad 78)), (2, .int v3), (3, .int v3)]) dX11_nanson_40 4 rfl rv_c1 (by decide) (fun _ => rfl) (fun v30 => ?_)
    refine rv_goto (tgt := 22) h 43 dX11_nanson_43 (by decide) ?_
    refine rv_sub h [2, 3, 4, 1, 0] rfl ?_
    exact ih9 v29 v30 w12
  refine rv_iconst h 46 dX11_nanson_46 rv_c0 ?_
  refine rv_istore (lv' := [(5, .int (0 : Int32)), (0, .ref (ad 78)), (2, .int v3), (3, .int v3), (4, .int v10)]) h 47 dX11_nanson_47 (by decide) rfl ?_
  refine rv_sub h [1, 2, 3, 4, 0] rfl ?_
  refine rv_fx_ind (fun (a0 : Int32 → Int32 → rv_W → rv_R) => ∀ (v15 : Int32) (v16 : Int32) (w17 : rv_W), K 49 [(0, .ref (ad 78)), (2, .int v15), (3, .int v3), (4, .int v10), (5, .int v16)] [] w17 (a0 v15 v16 w17)) (fun _ _ _ => rv_none h) (fun ag13 ih14 v15 v16 w17 => ?_) rv_FU v3 (0 : Int32) w12
  refine rv_iload h 49 dX11_nanson_49 4 rfl ?_
  refine rv_iconst h 51 dX11_nanson_51 rv_c5 ?_
  refine rv_icmp_ge (tgt := 101) h 52 dX11_nanson_52 (by decide) (fun _ => ?_) (fun _ => ?_)
  rotate_left
  · refine rv_goto (tgt := 4) h 101 dX11_nanson_101 (by decide) ?_
    refine rv_sub h [0, 1, 2] rfl ?_
    exact ih2 v15 v3 w17
  refine rv_iload_n h 55 dX11_nanson_55 1 rfl ?_
  refine rv_iload_n h 56 dX11_nanson_56 2 rfl ?_
  refine rv_iload h 57 dX11_nanson_57 4 rfl ?_
  refine rv_callSi h 59 dX11_nanson_59 (fn_X11_has hJ v3 v16  w17) ce_X11_has lk_X11_74 rfl rfl (Nat.le_of_ble_eq_true rfl) ⟨Nat.le_of_ble_eq_true rfl, Nat.le_of_ble_eq_true rfl⟩ (fun r18 w19 => ?_)
  refine rv_join (fun (k0 : rv_W → rv_R) => ∀  (w20 : rv_W), K 91 [(0, .ref (ad 78)), (3, .int v3), (4, .int v10), (5, .int v16)] (.int v15 :: []) w20 (k0 w20)) (fun w20 => ?_) (fun k21 hk22 => ?_)
  · refine rv_bipush (v := 31) h 91 dX11_nanson_91 (by decide +kernel) ?_
    refine rv_iand h 93 dX11_nanson_93 ?_
    refine rv_top (fun v23 => ?_)
    refine rv_istore_n (lv' := [(2, .int v23), (0, .ref (ad 78)), (3, .int v3), (4, .int v10), (5, .int v16)]) h 94 dX11_nanson_94 (by decide) rfl ?_
    refine rv_iinc h 95 (fun v24 => [(5, .int v24), (2, .int v23), (0, .ref (ad 78)), (3, .int v3), (4, .int v10)]) dX11_nanson_95 4 rfl rv_c1 (by decide) (fun _ => rfl) (fun v24 => ?_)
    refine rv_goto (tgt := 49) h 98 dX11_nanson_98 (by decide) ?_
    refine rv_sub h [2, 1, 3, 4, 0] rfl ?_
    exact ih14 v23 v24 w20
  refine rv_if_eq (tgt := 91) h 62 dX11_nanson_62 (by decide) (fun _ => ?_) (fun _ => ?_)
  · refine rv_sub h [0, 2, 3, 4] rfl ?_
    exact hk22 w19
  refine rv_aload_n h 65 dX11_nanson_65 0 rfl ?_
  refine rv_getr h 66 dX11_nanson_66 rv_s78 rv_fd_X11_25 rfl ?_
  refine rv_iload h 69 dX11_nanson_69 4 rfl ?_
  refine rv_iald h 71 dX11_nanson_71 rv_s84 ?_
  refine rv_iload_n h 72 dX11_nanson_72 2 rfl ?_
  refine rv_callSi h 73 dX11_nanson_73 (fn_X11_many hJ v3  w19) ce_X11_many lk_X11_105 rfl rfl (Nat.le_of_ble_eq_true rfl) ⟨Nat.le_of_ble_eq_true rfl, Nat.le_of_ble_eq_true rfl⟩ (fun r25 w26 => ?_)
  refine rv_imul h 76 dX11_nanson_76 ?_
  refine rv_iload h 77 dX11_nanson_77 3 rfl ?_
  refine rv_icmp_ge (tgt := 91) h 79 dX11_nanson_79 (by decide) (fun _ => ?_) (fun _ => ?_)
  rotate_left
  · refine rv_sub h [0, 2, 3, 4] rfl ?_
    exact hk22 w26
  refine rv_iconst h 82 dX11_nanson_82 rv_c1 ?_
  refine rv_iload h 83 dX11_nanson_83 4 rfl ?_
  refine rv_ishl h 85 dX11_nanson_85 ?_
  refine rv_iconst h 86 dX11_nanson_86 rv_cm1 ?_
  refine rv_ixor h 87 dX11_nanson_87 ?_
  refine rv_goto (tgt := 93) h 88 dX11_nanson_88 (by decide) ?_
  refine rv_iand h 93 dX11_nanson_93 ?_
  refine rv_top (fun v27 => ?_)
  refine rv_istore_n (lv' := [(2, .int v27), (0, .ref (ad 78)), (3, .int v3), (4, .int v10), (5, .int v16)]) h 94 dX11_nanson_94 (by decide) rfl ?_
  refine rv_iinc h 95 (fun v28 => [(5, .int v28), (2, .int v27), (0, .ref (ad 78)), (3, .int v3), (4, .int v10)]) dX11_nanson_95 4 rfl rv_c1 (by decide) (fun _ => rfl) (fun v28 => ?_)
  refine rv_goto (tgt := 49) h 98 dX11_nanson_98 (by decide) ?_
  refine rv_sub h [2, 1, 3, 4, 0] rfl ?_
  exact ih14 v27 v28 w26
def f_X11_firstOrder (p1 : Int32) (w : rv_W) : rv_R :=
  rv_lt (rv_up w 78 17 (0 : Int32)) (fun (w1 : rv_W) =>
  rv_fx (fun _ _ => none) (fun (ag2 : Int32 → rv_W → rv_R) (v4 : Int32) (w5 : rv_W) =>
  if v4 < (5 : Int32) then
  rv_bd (f_X11_has p1 v4 w5) (fun (r6 : Int32) (w7 : rv_W) =>
  if r6 = 0 then
  rv_lt (v4 + (1 : Int32)) (fun (v8 : Int32) =>
  ag2 v8 w7)
  else
  rv_ck (w7 78 17) 5 (rv_lt (rv_up w7 91 (w7 78 17).toNatClampNeg v4) (fun (w9 : rv_W) =>
  rv_lt (rv_up w9 78 17 ((w9 78 17) + (1 : Int32))) (fun (w10 : rv_W) =>
  rv_lt (v4 + (1 : Int32)) (fun (v11 : Int32) =>
  ag2 v11 w10)))))
  else
  some (0, w5)) rv_FU (0 : Int32) w1)
set_option maxRecDepth 100000 in
set_option maxHeartbeats 4000000 in
theorem fn_X11_firstOrder {l : Launch} {D : va_G} {ad : Nat → Nat} {ca : Nat → ClassId} (hJ : rv_J ad) (p1 : Int32)  (w : rv_W) : rv_Fn l D ad ca yX11_firstOrder cX11_firstOrder 3 none 1 21 [.ref (ad 78), .int p1] w (f_X11_firstOrder p1 w) := by
  refine rv_mk (lv := [(0, .ref (ad 78)), (1, .int p1)]) hJ (by decide +kernel) (Nat.le_of_ble_eq_true rfl) rfl (fun K h hr => ?_)
  have h : rv_Rl D ad ca l RX11 cX11_firstOrder 3 1 21 K := h
  unfold f_X11_firstOrder
  refine rv_aload_n h 0 dX11_firstOrder_0 0 rfl ?_
  refine rv_iconst h 1 dX11_firstOrder_1 rv_c0 ?_
  refine rv_puti h 2 dX11_firstOrder_2 rv_s78 rv_fd_X11_146 rfl ⟨rfl, rfl⟩ (fun w1 => ?_)
  refine rv_iconst h 5 dX11_firstOrder_5 rv_c0 ?_
  refine rv_istore_n (lv' := [(2, .int (0 : Int32)), (0, .ref (ad 78)), (1, .int p1)]) h 6 dX11_firstOrder_6 (by decide) rfl ?_
  refine rv_sub h [1, 2, 0] rfl ?_
  refine rv_fx_ind (fun (a0 : Int32 → rv_W → rv_R) => ∀ (v4 : Int32) (w5 : rv_W), K 7 [(0, .ref (ad 78)), (1, .int p1), (2, .int v4)] [] w5 (a0 v4 w5)) (fun _ _ => rv_none h) (fun ag2 ih3 v4 w5 => ?_) rv_FU (0 : Int32) w1
  refine rv_iload_n h 7 dX11_firstOrder_7 2 rfl ?_
  refine rv_iconst h 8 dX11_firstOrder_8 rv_c5 ?_
  refine rv_icmp_ge (tgt := 46) h 9 dX11_firstOrder_9 (by decide) (fun _ => ?_) (fun _ => ?_)
  rotate_left
  · exact rv_retv hr 46 dX11_firstOrder_46
  refine rv_iload_n h 12 dX11_firstOrder_12 1 rfl ?_
  refine rv_iload_n h 13 dX11_firstOrder_13 2 rfl ?_
  refine rv_callSi h 14 dX11_firstOrder_14 (fn_X11_has hJ p1 v4  w5) ce_X11_has lk_X11_74 rfl rfl (Nat.le_of_ble_eq_true rfl) ⟨Nat.le_of_ble_eq_true rfl, Nat.le_of_ble_eq_true rfl⟩ (fun r6 w7 => ?_)
  refine rv_if_eq (tgt := 40) h 17 dX11_firstOrder_17 (by decide) (fun _ => ?_) (fun _ => ?_)
  · refine rv_iinc h 40 (fun v8 => [(2, .int v8), (0, .ref (ad 78)), (1, .int p1)]) dX11_firstOrder_40 2 rfl rv_c1 (by decide) (fun _ => rfl) (fun v8 => ?_)
    refine rv_goto (tgt := 7) h 43 dX11_firstOrder_43 (by decide) ?_
    refine rv_sub h [1, 2, 0] rfl ?_
    exact ih3 v8 w7
  refine rv_aload_n h 20 dX11_firstOrder_20 0 rfl ?_
  refine rv_getr h 21 dX11_firstOrder_21 rv_s78 rv_fd_X11_47 rfl ?_
  refine rv_aload_n h 24 dX11_firstOrder_24 0 rfl ?_
  refine rv_geti h 25 dX11_firstOrder_25 rv_s78 rv_fd_X11_146 rfl ?_
  refine rv_iload_n h 28 dX11_firstOrder_28 2 rfl ?_
  refine rv_iast h 29 dX11_firstOrder_29 rv_s91 (fun w9 => ?_)
  refine rv_aload_n h 30 dX11_firstOrder_30 0 rfl ?_
  refine rv_dup h 31 dX11_firstOrder_31 rfl ?_
  refine rv_geti h 32 dX11_firstOrder_32 rv_s78 rv_fd_X11_146 rfl ?_
  refine rv_iconst h 35 dX11_firstOrder_35 rv_c1 ?_
  refine rv_iadd h 36 dX11_firstOrder_36 ?_
  refine rv_puti h 37 dX11_firstOrder_37 rv_s78 rv_fd_X11_146 rfl ⟨rfl, rfl⟩ (fun w10 => ?_)
  refine rv_iinc h 40 (fun v11 => [(2, .int v11), (0, .ref (ad 78)), (1, .int p1)]) dX11_firstOrder_40 2 rfl rv_c1 (by decide) (fun _ => rfl) (fun v11 => ?_)
  refine rv_goto (tgt := 7) h 43 dX11_firstOrder_43 (by decide) ?_
  refine rv_sub h [1, 2, 0] rfl ?_
  exact ih3 v11 w10
def f_X11_swaps (a1 : Nat) (p2 : Int32) (p3 : Int32) (w : rv_W) : rv_R :=
  rv_ck p2 5 (
  rv_ck p3 5 (
  rv_ck p2 5 (rv_lt (rv_up w a1 p2.toNatClampNeg (w a1 p3.toNatClampNeg)) (fun (w1 : rv_W) =>
  rv_ck p3 5 (rv_lt (rv_up w1 a1 p3.toNatClampNeg (w a1 p2.toNatClampNeg)) (fun (w2 : rv_W) =>
  some (0, w2)))))))
set_option maxRecDepth 100000 in
set_option maxHeartbeats 4000000 in
theorem fn_X11_swaps {l : Launch} {D : va_G} {ad : Nat → Nat} {ca : Nat → ClassId} (hJ : rv_J ad) (a1 : Nat) (p2 : Int32) (p3 : Int32) (ha1 : rv_sh a1 = .inr (0, 5, 0)) (w : rv_W) : rv_Fn l D ad ca yX11_swaps cX11_swaps 4 none 0 0 [.ref (ad a1), .int p2, .int p3] w (f_X11_swaps a1 p2 p3 w) := by
  refine rv_mk (lv := [(0, .ref (ad a1)), (1, .int p2), (2, .int p3)]) hJ (by decide +kernel) (Nat.le_of_ble_eq_true rfl) rfl (fun K h hr => ?_)
  have h : rv_Rl D ad ca l RX11 cX11_swaps 4 0 0 K := h
  unfold f_X11_swaps
  refine rv_aload_n h 0 dX11_swaps_0 0 rfl ?_
  refine rv_iload_n h 1 dX11_swaps_1 1 rfl ?_
  refine rv_iald h 2 dX11_swaps_2 ha1 ?_
  refine rv_istore_n (lv' := [(3, .int (w a1 p2.toNatClampNeg)), (0, .ref (ad a1)), (1, .int p2), (2, .int p3)]) h 3 dX11_swaps_3 (by decide) rfl ?_
  refine rv_aload_n h 4 dX11_swaps_4 1 rfl ?_
  refine rv_iload_n h 5 dX11_swaps_5 2 rfl ?_
  refine rv_aload_n h 6 dX11_swaps_6 1 rfl ?_
  refine rv_iload_n h 7 dX11_swaps_7 3 rfl ?_
  refine rv_iald h 8 dX11_swaps_8 ha1 ?_
  refine rv_iast h 9 dX11_swaps_9 ha1 (fun w1 => ?_)
  refine rv_aload_n h 10 dX11_swaps_10 1 rfl ?_
  refine rv_iload_n h 11 dX11_swaps_11 3 rfl ?_
  refine rv_iload_n h 12 dX11_swaps_12 0 rfl ?_
  refine rv_iast h 13 dX11_swaps_13 ha1 (fun w2 => ?_)
  exact rv_retv hr 14 dX11_swaps_14
def f_X11_nextOf (a1 : Nat) (p2 : Int32) (w : rv_W) : rv_R :=
  rv_lt ((p2 - (2 : Int32))) (fun (v1 : Int32) =>
  rv_fx (fun _ _ => none) (fun (ag2 : Int32 → rv_W → rv_R) (v4 : Int32) (w5 : rv_W) =>
  rv_jn (fun  (w6 : rv_W) =>
  if v4 < 0 then
  some ((0 : Int32), w6)
  else
  rv_lt ((p2 - (1 : Int32))) (fun (v9 : Int32) =>
  rv_fx (fun _ _ => none) (fun (ag10 : Int32 → rv_W → rv_R) (v12 : Int32) (w13 : rv_W) =>
  rv_ck v12 5 (
  rv_ck v4 5 (
  if (w13 a1 v12.toNatClampNeg) < (w13 a1 v4.toNatClampNeg) then
  rv_lt (v12 + (-1 : Int32)) (fun (v27 : Int32) =>
  ag10 v27 w13)
  else
  rv_bd (f_X11_swaps a1 v4 v12 w13) (fun (r14 : Int32) (w15 : rv_W) =>
  rv_lt ((v4 + (1 : Int32))) (fun (v16 : Int32) =>
  rv_lt ((p2 - (1 : Int32))) (fun (v17 : Int32) =>
  rv_fx (fun _ _ _ => none) (fun (ag18 : Int32 → Int32 → rv_W → rv_R) (v20 : Int32) (v21 : Int32) (w22 : rv_W) =>
  if v20 < v21 then
  rv_bd (f_X11_swaps a1 v20 v21 w22) (fun (r23 : Int32) (w24 : rv_W) =>
  rv_lt (v20 + (1 : Int32)) (fun (v25 : Int32) =>
  rv_lt (v21 + (-1 : Int32)) (fun (v26 : Int32) =>
  ag18 v25 v26 w24)))
  else
  some ((1 : Int32), w22)) rv_FU v16 v17 w15)))))) rv_FU v9 w6)) (fun (k7 : rv_W → rv_R) =>
  if v4 < 0 then
  k7 w5
  else
  rv_ck v4 5 (
  rv_ck (v4 + (1 : Int32)) 5 (
  if (w5 a1 (v4 + (1 : Int32)).toNatClampNeg) < (w5 a1 v4.toNatClampNeg) then
  rv_lt (v4 + (-1 : Int32)) (fun (v28 : Int32) =>
  ag2 v28 w5)
  else
  k7 w5)))) rv_FU v1 w)
set_option maxRecDepth 100000 in
set_option maxHeartbeats 4000000 in
theorem fn_X11_nextOf {l : Launch} {D : va_G} {ad : Nat → Nat} {ca : Nat → ClassId} (hJ : rv_J ad) (a1 : Nat) (p2 : Int32) (ha1 : rv_sh a1 = .inr (0, 5, 0)) (w : rv_W) : rv_Fn l D ad ca yX11_nextOf cX11_nextOf 6 (some .boolean) 1 23 [.ref (ad a1), .int p2] w (f_X11_nextOf a1 p2 w) := by
  refine rv_mk (lv := [(0, .ref (ad a1)), (1, .int p2)]) hJ (by decide +kernel) (Nat.le_of_ble_eq_true rfl) rfl (fun K h hr => ?_)
  have h : rv_Rl D ad ca l RX11 cX11_nextOf 6 1 23 K := h
  unfold f_X11_nextOf
  refine rv_iload_n h 0 dX11_nextOf_0 1 rfl ?_
  refine rv_iconst h 1 dX11_nextOf_1 rv_c2 ?_
  refine rv_isub h 2 dX11_nextOf_2 ?_
  refine rv_top (fun v1 => ?_)
  refine rv_istore_n (lv' := [(2, .int v1), (0, .ref (ad a1)), (1, .int p2)]) h 3 dX11_nextOf_3 (by decide) rfl ?_
  refine rv_sub h [1, 2, 0] rfl ?_
  refine rv_fx_ind (fun (a0 : Int32 → rv_W → rv_R) => ∀ (v4 : Int32) (w5 : rv_W), K 4 [(0, .ref (ad a1)), (1, .int p2), (2, .int v4)] [] w5 (a0 v4 w5)) (fun _ _ => rv_none h) (fun ag2 ih3 v4 w5 => ?_) rv_FU v1 w
  refine rv_iload_n h 4 dX11_nextOf_4 2 rfl ?_
  refine rv_join (fun (k0 : rv_W → rv_R) => ∀  (w6 : rv_W), K 25 [(0, .ref (ad a1)), (1, .int p2), (2, .int v4)] ([]) w6 (k0 w6)) (fun w6 => ?_) (fun k7 hk8 => ?_)
  · refine rv_iload_n h 25 dX11_nextOf_25 2 rfl ?_
    refine rv_if_ge (tgt := 31) h 26 dX11_nextOf_26 (by decide) (fun _ => ?_) (fun _ => ?_)
    · refine rv_iconst h 29 dX11_nextOf_29 rv_c0 ?_
      exact rv_retz0 hr 30 dX11_nextOf_30
    refine rv_iload_n h 31 dX11_nextOf_31 1 rfl ?_
    refine rv_iconst h 32 dX11_nextOf_32 rv_c1 ?_
    refine rv_isub h 33 dX11_nextOf_33 ?_
    refine rv_top (fun v9 => ?_)
    refine rv_istore_n (lv' := [(3, .int v9), (0, .ref (ad a1)), (1, .int p2), (2, .int v4)]) h 34 dX11_nextOf_34 (by decide) rfl ?_
    refine rv_sub h [1, 2, 3, 0] rfl ?_
    refine rv_fx_ind (fun (a0 : Int32 → rv_W → rv_R) => ∀ (v12 : Int32) (w13 : rv_W), K 35 [(0, .ref (ad a1)), (1, .int p2), (2, .int v4), (3, .int v12)] [] w13 (a0 v12 w13)) (fun _ _ => rv_none h) (fun ag10 ih11 v12 w13 => ?_) rv_FU v9 w6
    refine rv_aload_n h 35 dX11_nextOf_35 0 rfl ?_
    refine rv_iload_n h 36 dX11_nextOf_36 3 rfl ?_
    refine rv_iald h 37 dX11_nextOf_37 ha1 ?_
    refine rv_aload_n h 38 dX11_nextOf_38 0 rfl ?_
    refine rv_iload_n h 39 dX11_nextOf_39 2 rfl ?_
    refine rv_iald h 40 dX11_nextOf_40 ha1 ?_
    refine rv_icmp_ge (tgt := 50) h 41 dX11_nextOf_41 (by decide) (fun _ => ?_) (fun _ => ?_)
    · refine rv_iinc h 44 (fun v27 => [(3, .int v27), (0, .ref (ad a1)), (1, .int p2), (2, .int v4)]) dX11_nextOf_44 3 rfl rv_cm1 (by decide) (fun _ => rfl) (fun v27 => ?_)
      refine rv_goto (tgt := 35) h 47 dX11_nextOf_47 (by decide) ?_
      refine rv_sub h [1, 2, 3, 0] rfl ?_
      exact ih11 v27 w13
    refine rv_aload_n h 50 dX11_nextOf_50 0 rfl ?_
    refine rv_iload_n h 51 dX11_nextOf_51 2 rfl ?_
    refine rv_iload_n h 52 dX11_nextOf_52 3 rfl ?_
    refine rv_callSv h 53 dX11_nextOf_53 (fn_X11_swaps hJ a1 v4 v12 ha1 w13) ce_X11_swaps lk_X11_149 rfl rfl (Nat.le_of_ble_eq_true rfl) ⟨Nat.le_of_ble_eq_true rfl, Nat.le_of_ble_eq_true rfl⟩ (fun r14 w15 => ?_)
    refine rv_iload_n h 56 dX11_nextOf_56 2 rfl ?_
    refine rv_iconst h 57 dX11_nextOf_57 rv_c1 ?_
    refine rv_iadd h 58 dX11_nextOf_58 ?_
    refine rv_top (fun v16 => ?_)
    refine rv_istore (lv' := [(4, .int v16), (0, .ref (ad a1)), (1, .int p2), (2, .int v4), (3, .int v12)]) h 59 dX11_nextOf_59 (by decide) rfl ?_
    refine rv_iload_n h 61 dX11_nextOf_61 2 rfl ?_
    refine rv_iconst h 62 dX11_nextOf_62 rv_c1 ?_
    refine rv_isub h 63 dX11_nextOf_63 ?_
    refine rv_top (fun v17 => ?_)
    refine rv_istore (lv' := [(5, .int v17), (4, .int v16), (0, .ref (ad a1)), (1, .int p2), (2, .int v4), (3, .int v12)]) h 64 dX11_nextOf_64 (by decide) rfl ?_
    refine rv_sub h [2, 1, 0] rfl ?_
    refine rv_fx_ind (fun (a0 : Int32 → Int32 → rv_W → rv_R) => ∀ (v20 : Int32) (v21 : Int32) (w22 : rv_W), K 66 [(0, .ref (ad a1)), (4, .int v20), (5, .int v21)] [] w22 (a0 v20 v21 w22)) (fun _ _ _ => rv_none h) (fun ag18 ih19 v20 v21 w22 => ?_) rv_FU v16 v17 w15
    refine rv_iload h 66 dX11_nextOf_66 1 rfl ?_
    refine rv_iload h 68 dX11_nextOf_68 2 rfl ?_
    refine rv_icmp_ge (tgt := 90) h 70 dX11_nextOf_70 (by decide) (fun _ => ?_) (fun _ => ?_)
    rotate_left
    · refine rv_iconst h 90 dX11_nextOf_90 rv_c1 ?_
      exact rv_retz1 hr 91 dX11_nextOf_91
    refine rv_aload_n h 73 dX11_nextOf_73 0 rfl ?_
    refine rv_iload h 74 dX11_nextOf_74 1 rfl ?_
    refine rv_iload h 76 dX11_nextOf_76 2 rfl ?_
    refine rv_callSv h 78 dX11_nextOf_78 (fn_X11_swaps hJ a1 v20 v21 ha1 w22) ce_X11_swaps lk_X11_149 rfl rfl (Nat.le_of_ble_eq_true rfl) ⟨Nat.le_of_ble_eq_true rfl, Nat.le_of_ble_eq_true rfl⟩ (fun r23 w24 => ?_)
    refine rv_iinc h 81 (fun v25 => [(4, .int v25), (0, .ref (ad a1)), (5, .int v21)]) dX11_nextOf_81 1 rfl rv_c1 (by decide) (fun _ => rfl) (fun v25 => ?_)
    refine rv_iinc h 84 (fun v26 => [(5, .int v26), (4, .int v25), (0, .ref (ad a1))]) dX11_nextOf_84 2 rfl rv_cm1 (by decide) (fun _ => rfl) (fun v26 => ?_)
    refine rv_goto (tgt := 66) h 87 dX11_nextOf_87 (by decide) ?_
    refine rv_sub h [2, 1, 0] rfl ?_
    exact ih19 v25 v26 w24
  refine rv_if_lt (tgt := 25) h 5 dX11_nextOf_5 (by decide) (fun _ => ?_) (fun _ => ?_)
  · refine rv_sub h [0, 1, 2] rfl ?_
    exact hk8 w5
  refine rv_aload_n h 8 dX11_nextOf_8 0 rfl ?_
  refine rv_iload_n h 9 dX11_nextOf_9 2 rfl ?_
  refine rv_iald h 10 dX11_nextOf_10 ha1 ?_
  refine rv_aload_n h 11 dX11_nextOf_11 0 rfl ?_
  refine rv_iload_n h 12 dX11_nextOf_12 2 rfl ?_
  refine rv_iconst h 13 dX11_nextOf_13 rv_c1 ?_
  refine rv_iadd h 14 dX11_nextOf_14 ?_
  refine rv_iald h 15 dX11_nextOf_15 ha1 ?_
  refine rv_icmp_le (tgt := 25) h 16 dX11_nextOf_16 (by decide) (fun _ => ?_) (fun _ => ?_)
  rotate_left
  · refine rv_sub h [0, 1, 2] rfl ?_
    exact hk8 w5
  refine rv_iinc h 19 (fun v28 => [(2, .int v28), (0, .ref (ad a1)), (1, .int p2)]) dX11_nextOf_19 2 rfl rv_cm1 (by decide) (fun _ => rfl) (fun v28 => ?_)
  refine rv_goto (tgt := 4) h 22 dX11_nextOf_22 (by decide) ?_
  refine rv_sub h [1, 2, 0] rfl ?_
  exact ih3 v28 w5
def f_X11_orderValue  (w : rv_W) : rv_R :=
  rv_fx (fun _ _ _ => none) (fun (ag1 : Int32 → Int32 → rv_W → rv_R) (v3 : Int32) (v4 : Int32) (w5 : rv_W) =>
  if v4 < (w5 78 17) then
  rv_lt ((v4 + (1 : Int32))) (fun (v6 : Int32) =>
  rv_fx (fun _ _ _ => none) (fun (ag7 : Int32 → Int32 → rv_W → rv_R) (v9 : Int32) (v10 : Int32) (w11 : rv_W) =>
  if v10 < (w11 78 17) then
  rv_ck v4 5 (
  rv_ck v10 5 (
  rv_bd (f_X11_p (w11 91 v4.toNatClampNeg) (w11 91 v10.toNatClampNeg) w11) (fun (r13 : Int32) (w14 : rv_W) =>
  rv_lt ((v9 + r13)) (fun (v15 : Int32) =>
  rv_lt (v10 + (1 : Int32)) (fun (v16 : Int32) =>
  ag7 v15 v16 w14)))))
  else
  rv_lt (v4 + (1 : Int32)) (fun (v12 : Int32) =>
  ag1 v9 v12 w11)) rv_FU v3 v6 w5)
  else
  some (v3, w5)) rv_FU (0 : Int32) (0 : Int32) w
set_option maxRecDepth 100000 in
set_option maxHeartbeats 4000000 in
theorem fn_X11_orderValue {l : Launch} {D : va_G} {ad : Nat → Nat} {ca : Nat → ClassId} (hJ : rv_J ad)   (w : rv_W) : rv_Fn l D ad ca yX11_orderValue cX11_orderValue 4 (some .int) 1 22 [.ref (ad 78)] w (f_X11_orderValue  w) := by
  refine rv_mk (lv := [(0, .ref (ad 78))]) hJ (by decide +kernel) (Nat.le_of_ble_eq_true rfl) rfl (fun K h hr => ?_)
  have h : rv_Rl D ad ca l RX11 cX11_orderValue 4 1 22 K := h
  unfold f_X11_orderValue
  refine rv_iconst h 0 dX11_orderValue_0 rv_c0 ?_
  refine rv_istore_n (lv' := [(1, .int (0 : Int32)), (0, .ref (ad 78))]) h 1 dX11_orderValue_1 (by decide) rfl ?_
  refine rv_iconst h 2 dX11_orderValue_2 rv_c0 ?_
  refine rv_istore_n (lv' := [(2, .int (0 : Int32)), (1, .int (0 : Int32)), (0, .ref (ad 78))]) h 3 dX11_orderValue_3 (by decide) rfl ?_
  refine rv_sub h [2, 1, 0] rfl ?_
  refine rv_fx_ind (fun (a0 : Int32 → Int32 → rv_W → rv_R) => ∀ (v3 : Int32) (v4 : Int32) (w5 : rv_W), K 4 [(0, .ref (ad 78)), (1, .int v3), (2, .int v4)] [] w5 (a0 v3 v4 w5)) (fun _ _ _ => rv_none h) (fun ag1 ih2 v3 v4 w5 => ?_) rv_FU (0 : Int32) (0 : Int32) w
  refine rv_iload_n h 4 dX11_orderValue_4 2 rfl ?_
  refine rv_aload_n h 5 dX11_orderValue_5 0 rfl ?_
  refine rv_geti h 6 dX11_orderValue_6 rv_s78 rv_fd_X11_146 rfl ?_
  refine rv_icmp_ge (tgt := 55) h 9 dX11_orderValue_9 (by decide) (fun _ => ?_) (fun _ => ?_)
  rotate_left
  · refine rv_iload_n h 55 dX11_orderValue_55 1 rfl ?_
    exact rv_reti hr 56 dX11_orderValue_56
  refine rv_iload_n h 12 dX11_orderValue_12 2 rfl ?_
  refine rv_iconst h 13 dX11_orderValue_13 rv_c1 ?_
  refine rv_iadd h 14 dX11_orderValue_14 ?_
  refine rv_top (fun v6 => ?_)
  refine rv_istore_n (lv' := [(3, .int v6), (0, .ref (ad 78)), (1, .int v3), (2, .int v4)]) h 15 dX11_orderValue_15 (by decide) rfl ?_
  refine rv_sub h [1, 2, 3, 0] rfl ?_
  refine rv_fx_ind (fun (a0 : Int32 → Int32 → rv_W → rv_R) => ∀ (v9 : Int32) (v10 : Int32) (w11 : rv_W), K 16 [(0, .ref (ad 78)), (1, .int v9), (2, .int v4), (3, .int v10)] [] w11 (a0 v9 v10 w11)) (fun _ _ _ => rv_none h) (fun ag7 ih8 v9 v10 w11 => ?_) rv_FU v3 v6 w5
  refine rv_iload_n h 16 dX11_orderValue_16 3 rfl ?_
  refine rv_aload_n h 17 dX11_orderValue_17 0 rfl ?_
  refine rv_geti h 18 dX11_orderValue_18 rv_s78 rv_fd_X11_146 rfl ?_
  refine rv_icmp_ge (tgt := 49) h 21 dX11_orderValue_21 (by decide) (fun _ => ?_) (fun _ => ?_)
  rotate_left
  · refine rv_iinc h 49 (fun v12 => [(2, .int v12), (0, .ref (ad 78)), (1, .int v9), (3, .int v10)]) dX11_orderValue_49 2 rfl rv_c1 (by decide) (fun _ => rfl) (fun v12 => ?_)
    refine rv_goto (tgt := 4) h 52 dX11_orderValue_52 (by decide) ?_
    refine rv_sub h [1, 2, 0] rfl ?_
    exact ih2 v9 v12 w11
  refine rv_iload_n h 24 dX11_orderValue_24 1 rfl ?_
  refine rv_aload_n h 25 dX11_orderValue_25 0 rfl ?_
  refine rv_aload_n h 26 dX11_orderValue_26 0 rfl ?_
  refine rv_getr h 27 dX11_orderValue_27 rv_s78 rv_fd_X11_47 rfl ?_
  refine rv_iload_n h 30 dX11_orderValue_30 2 rfl ?_
  refine rv_iald h 31 dX11_orderValue_31 rv_s91 ?_
  refine rv_aload_n h 32 dX11_orderValue_32 0 rfl ?_
  refine rv_getr h 33 dX11_orderValue_33 rv_s78 rv_fd_X11_47 rfl ?_
  refine rv_iload_n h 36 dX11_orderValue_36 3 rfl ?_
  refine rv_iald h 37 dX11_orderValue_37 rv_s91 ?_
  refine rv_callVi h 38 dX11_orderValue_38 (fn_X11_p hJ (w11 91 v4.toNatClampNeg) (w11 91 v10.toNatClampNeg)  w11) ce_X11_p lk_X11_92 rv_s78 rfl rv_cf9 rfl rfl (Nat.le_of_ble_eq_true rfl) ⟨Nat.le_of_ble_eq_true rfl, Nat.le_of_ble_eq_true rfl⟩ (fun r13 w14 => ?_)
  refine rv_iadd h 41 dX11_orderValue_41 ?_
  refine rv_top (fun v15 => ?_)
  refine rv_istore_n (lv' := [(1, .int v15), (0, .ref (ad 78)), (2, .int v4), (3, .int v10)]) h 42 dX11_orderValue_42 (by decide) rfl ?_
  refine rv_iinc h 43 (fun v16 => [(3, .int v16), (1, .int v15), (0, .ref (ad 78)), (2, .int v4)]) dX11_orderValue_43 3 rfl rv_c1 (by decide) (fun _ => rfl) (fun v16 => ?_)
  refine rv_goto (tgt := 16) h 46 dX11_orderValue_46 (by decide) ?_
  refine rv_sub h [2, 1, 3, 0] rfl ?_
  exact ih8 v15 v16 w14
def f_X11_kemenyOf (p1 : Int32) (w : rv_W) : rv_R :=
  rv_bd (f_X11_firstOrder p1 w) (fun (r1 : Int32) (w2 : rv_W) =>
  rv_lt (rv_up w2 78 19 (-1 : Int32)) (fun (w3 : rv_W) =>
  rv_jn (fun (v4 : Int32) (w5 : rv_W) =>
  rv_fx (fun _ _ _ => none) (fun (ag8 : Int32 → Int32 → rv_W → rv_R) (v10 : Int32) (v11 : Int32) (w12 : rv_W) =>
  if v11 = 0 then
  some (v10, w12)
  else
  rv_bd (f_X11_orderValue  w12) (fun (r13 : Int32) (w14 : rv_W) =>
  rv_jn (fun (v15 : Int32) (w16 : rv_W) =>
  rv_jn (fun (v19 : Int32) (w20 : rv_W) =>
  rv_lt ((v15 ||| v19)) (fun (v23 : Int32) =>
  rv_bd (f_X11_nextOf 91 (w20 78 17) w20) (fun (r24 : Int32) (w25 : rv_W) =>
  ag8 v23 r24 w25))) (fun (k21 : Int32 → rv_W → rv_R) =>
  if r13 = (w16 78 19) then
  rv_ck (0 : Int32) 5 (
  k21 ((1 : Int32) <<< ((w16 91 (0 : Int32).toNatClampNeg) &&& 31)) w16)
  else
  k21 (0 : Int32) w16)) (fun (k17 : Int32 → rv_W → rv_R) =>
  if (w14 78 19) < r13 then
  rv_lt (rv_up w14 78 19 r13) (fun (w26 : rv_W) =>
  rv_fx (fun _ _ => none) (fun (ag27 : Int32 → rv_W → rv_R) (v29 : Int32) (w30 : rv_W) =>
  if v29 < (w30 78 17) then
  rv_ck v29 5 (
  rv_ck v29 5 (rv_lt (rv_up w30 92 v29.toNatClampNeg (w30 91 v29.toNatClampNeg)) (fun (w31 : rv_W) =>
  rv_lt (v29 + (1 : Int32)) (fun (v32 : Int32) =>
  ag27 v32 w31))))
  else
  k17 (0 : Int32) w30) rv_FU (0 : Int32) w26)
  else
  k17 v10 w14))) rv_FU (0 : Int32) v4 w5) (fun (k6 : Int32 → rv_W → rv_R) =>
  if 0 < (w3 78 17) then
  k6 (1 : Int32) w3
  else
  k6 (0 : Int32) w3)))
set_option maxRecDepth 100000 in
set_option maxHeartbeats 4000000 in
theorem fn_X11_kemenyOf {l : Launch} {D : va_G} {ad : Nat → Nat} {ca : Nat → ClassId} (hJ : rv_J ad) (p1 : Int32)  (w : rv_W) : rv_Fn l D ad ca yX11_kemenyOf cX11_kemenyOf 6 (some .int) 2 48 [.ref (ad 78), .int p1] w (f_X11_kemenyOf p1 w) := by
  refine rv_mk (lv := [(0, .ref (ad 78)), (1, .int p1)]) hJ (by decide +kernel) (Nat.le_of_ble_eq_true rfl) rfl (fun K h hr => ?_)
  have h : rv_Rl D ad ca l RX11 cX11_kemenyOf 6 2 48 K := h
  unfold f_X11_kemenyOf
  refine rv_aload_n h 0 dX11_kemenyOf_0 0 rfl ?_
  refine rv_iload_n h 1 dX11_kemenyOf_1 1 rfl ?_
  refine rv_callVv h 2 dX11_kemenyOf_2 (fn_X11_firstOrder hJ p1  w) ce_X11_firstOrder lk_X11_153 rv_s78 rfl rv_cf9 rfl rfl (Nat.le_of_ble_eq_true rfl) ⟨Nat.le_of_ble_eq_true rfl, Nat.le_of_ble_eq_true rfl⟩ (fun r1 w2 => ?_)
  refine rv_iconst h 5 dX11_kemenyOf_5 rv_c0 ?_
  refine rv_istore_n (lv' := [(2, .int (0 : Int32)), (0, .ref (ad 78)), (1, .int p1)]) h 6 dX11_kemenyOf_6 (by decide) rfl ?_
  refine rv_aload_n h 7 dX11_kemenyOf_7 1 rfl ?_
  refine rv_iconst h 8 dX11_kemenyOf_8 rv_cm1 ?_
  refine rv_puti h 9 dX11_kemenyOf_9 rv_s78 rv_fd_X11_156 rfl ⟨rfl, rfl⟩ (fun w3 => ?_)
  refine rv_aload_n h 12 dX11_kemenyOf_12 1 rfl ?_
  refine rv_geti h 13 dX11_kemenyOf_13 rv_s78 rv_fd_X11_146 rfl ?_
  refine rv_join (fun (k0 : Int32 → rv_W → rv_R) => ∀ (v4 : Int32) (w5 : rv_W), K 24 [(0, .ref (ad 78)), (2, .int (0 : Int32))] (.int v4 :: []) w5 (k0 v4 w5)) (fun v4 w5 => ?_) (fun k6 hk7 => ?_)
  · refine rv_istore_n (lv' := [(3, .int v4), (0, .ref (ad 78)), (2, .int (0 : Int32))]) h 24 dX11_kemenyOf_24 (by decide) rfl ?_
    refine rv_sub h [1, 2, 0] rfl ?_
    refine rv_fx_ind (fun (a0 : Int32 → Int32 → rv_W → rv_R) => ∀ (v10 : Int32) (v11 : Int32) (w12 : rv_W), K 25 [(0, .ref (ad 78)), (2, .int v10), (3, .int v11)] [] w12 (a0 v10 v11 w12)) (fun _ _ _ => rv_none h) (fun ag8 ih9 v10 v11 w12 => ?_) rv_FU (0 : Int32) v4 w5
    refine rv_iload_n h 25 dX11_kemenyOf_25 2 rfl ?_
    refine rv_if_eq (tgt := 123) h 26 dX11_kemenyOf_26 (by decide) (fun _ => ?_) (fun _ => ?_)
    · refine rv_iload_n h 123 dX11_kemenyOf_123 1 rfl ?_
      exact rv_reti hr 124 dX11_kemenyOf_124
    refine rv_aload_n h 29 dX11_kemenyOf_29 0 rfl ?_
    refine rv_callVi h 30 dX11_kemenyOf_30 (fn_X11_orderValue hJ   w12) ce_X11_orderValue lk_X11_159 rv_s78 rfl rv_cf9 rfl rfl (Nat.le_of_ble_eq_true rfl) ⟨Nat.le_of_ble_eq_true rfl, Nat.le_of_ble_eq_true rfl⟩ (fun r13 w14 => ?_)
    refine rv_istore (lv' := [(4, .int r13), (0, .ref (ad 78)), (2, .int v10), (3, .int v11)]) h 33 dX11_kemenyOf_33 (by decide) rfl ?_
    refine rv_iload h 35 dX11_kemenyOf_35 0 rfl ?_
    refine rv_aload_n h 37 dX11_kemenyOf_37 1 rfl ?_
    refine rv_geti h 38 dX11_kemenyOf_38 rv_s78 rv_fd_X11_156 rfl ?_
    refine rv_join (fun (k0 : Int32 → rv_W → rv_R) => ∀ (v15 : Int32) (w16 : rv_W), K 84 [(0, .ref (ad 78)), (2, .int v15), (4, .int r13)] ([]) w16 (k0 v15 w16)) (fun v15 w16 => ?_) (fun k17 hk18 => ?_)
    · refine rv_iload_n h 84 dX11_kemenyOf_84 1 rfl ?_
      refine rv_iload h 85 dX11_kemenyOf_85 2 rfl ?_
      refine rv_aload_n h 87 dX11_kemenyOf_87 0 rfl ?_
      refine rv_geti h 88 dX11_kemenyOf_88 rv_s78 rv_fd_X11_156 rfl ?_
      refine rv_join (fun (k0 : Int32 → rv_W → rv_R) => ∀ (v19 : Int32) (w20 : rv_W), K 106 [(0, .ref (ad 78))] (.int v19 :: .int v15 :: []) w20 (k0 v19 w20)) (fun v19 w20 => ?_) (fun k21 hk22 => ?_)
      · refine rv_ior h 106 dX11_kemenyOf_106 ?_
        refine rv_top (fun v23 => ?_)
        refine rv_istore_n (lv' := [(2, .int v23), (0, .ref (ad 78))]) h 107 dX11_kemenyOf_107 (by decide) rfl ?_
        refine rv_aload_n h 108 dX11_kemenyOf_108 1 rfl ?_
        refine rv_getr h 109 dX11_kemenyOf_109 rv_s78 rv_fd_X11_47 rfl ?_
        refine rv_aload_n h 112 dX11_kemenyOf_112 1 rfl ?_
        refine rv_geti h 113 dX11_kemenyOf_113 rv_s78 rv_fd_X11_146 rfl ?_
        refine rv_callSi h 116 dX11_kemenyOf_116 (fn_X11_nextOf hJ 91 (w20 78 17) rv_s91 w20) ce_X11_nextOf lk_X11_162 rfl rfl (Nat.le_of_ble_eq_true rfl) ⟨Nat.le_of_ble_eq_true rfl, Nat.le_of_ble_eq_true rfl⟩ (fun r24 w25 => ?_)
        refine rv_istore_n (lv' := [(3, .int r24), (2, .int v23), (0, .ref (ad 78))]) h 119 dX11_kemenyOf_119 (by decide) rfl ?_
        refine rv_goto (tgt := 25) h 120 dX11_kemenyOf_120 (by decide) ?_
        refine rv_sub h [2, 1, 0] rfl ?_
        exact ih9 v23 r24 w25
      refine rv_icmp_ne (tgt := 105) h 91 dX11_kemenyOf_91 (by decide) (fun _ => ?_) (fun _ => ?_)
      rotate_left
      · refine rv_iconst h 105 dX11_kemenyOf_105 rv_c0 ?_
        refine rv_sub h [0] rfl ?_
        exact hk22 (0 : Int32) w16
      refine rv_iconst h 94 dX11_kemenyOf_94 rv_c1 ?_
      refine rv_aload_n h 95 dX11_kemenyOf_95 0 rfl ?_
      refine rv_getr h 96 dX11_kemenyOf_96 rv_s78 rv_fd_X11_47 rfl ?_
      refine rv_iconst h 99 dX11_kemenyOf_99 rv_c0 ?_
      refine rv_iald h 100 dX11_kemenyOf_100 rv_s91 ?_
      refine rv_ishl h 101 dX11_kemenyOf_101 ?_
      refine rv_goto (tgt := 106) h 102 dX11_kemenyOf_102 (by decide) ?_
      refine rv_sub h [0] rfl ?_
      exact hk22 ((1 : Int32) <<< ((w16 91 (0 : Int32).toNatClampNeg) &&& 31)) w16
    refine rv_icmp_le (tgt := 84) h 41 dX11_kemenyOf_41 (by decide) (fun _ => ?_) (fun _ => ?_)
    rotate_left
    · refine rv_sub h [1, 2, 0] rfl ?_
      exact hk18 v10 w14
    refine rv_aload_n h 44 dX11_kemenyOf_44 1 rfl ?_
    refine rv_iload h 45 dX11_kemenyOf_45 0 rfl ?_
    refine rv_puti h 47 dX11_kemenyOf_47 rv_s78 rv_fd_X11_156 rfl ⟨rfl, rfl⟩ (fun w26 => ?_)
    refine rv_iconst h 50 dX11_kemenyOf_50 rv_c0 ?_
    refine rv_istore_n (lv' := [(2, .int (0 : Int32)), (4, .int r13), (0, .ref (ad 78)), (3, .int v11)]) h 51 dX11_kemenyOf_51 (by decide) rfl ?_
    refine rv_iconst h 52 dX11_kemenyOf_52 rv_c0 ?_
    refine rv_istore (lv' := [(5, .int (0 : Int32)), (2, .int (0 : Int32)), (4, .int r13), (0, .ref (ad 78)), (3, .int v11)]) h 53 dX11_kemenyOf_53 (by decide) rfl ?_
    refine rv_sub h [3, 1, 2, 0] rfl ?_
    refine rv_fx_ind (fun (a0 : Int32 → rv_W → rv_R) => ∀ (v29 : Int32) (w30 : rv_W), K 55 [(0, .ref (ad 78)), (2, .int (0 : Int32)), (4, .int r13), (5, .int v29)] [] w30 (a0 v29 w30)) (fun _ _ => rv_none h) (fun ag27 ih28 v29 w30 => ?_) rv_FU (0 : Int32) w26
    refine rv_iload h 55 dX11_kemenyOf_55 3 rfl ?_
    refine rv_aload_n h 57 dX11_kemenyOf_57 0 rfl ?_
    refine rv_geti h 58 dX11_kemenyOf_58 rv_s78 rv_fd_X11_146 rfl ?_
    refine rv_icmp_ge (tgt := 84) h 61 dX11_kemenyOf_61 (by decide) (fun _ => ?_) (fun _ => ?_)
    rotate_left
    · refine rv_sub h [0, 1, 2] rfl ?_
      exact hk18 (0 : Int32) w30
    refine rv_aload_n h 64 dX11_kemenyOf_64 0 rfl ?_
    refine rv_getr h 65 dX11_kemenyOf_65 rv_s78 rv_fd_X11_50 rfl ?_
    refine rv_iload h 68 dX11_kemenyOf_68 3 rfl ?_
    refine rv_aload_n h 70 dX11_kemenyOf_70 0 rfl ?_
    refine rv_getr h 71 dX11_kemenyOf_71 rv_s78 rv_fd_X11_47 rfl ?_
    refine rv_iload h 74 dX11_kemenyOf_74 3 rfl ?_
    refine rv_iald h 76 dX11_kemenyOf_76 rv_s91 ?_
    refine rv_iast h 77 dX11_kemenyOf_77 rv_s92 (fun w31 => ?_)
    refine rv_iinc h 78 (fun v32 => [(5, .int v32), (0, .ref (ad 78)), (2, .int (0 : Int32)), (4, .int r13)]) dX11_kemenyOf_78 3 rfl rv_c1 (by decide) (fun _ => rfl) (fun v32 => ?_)
    refine rv_goto (tgt := 55) h 81 dX11_kemenyOf_81 (by decide) ?_
    refine rv_sub h [1, 2, 3, 0] rfl ?_
    exact ih28 v32 w31
  refine rv_if_le (tgt := 23) h 16 dX11_kemenyOf_16 (by decide) (fun _ => ?_) (fun _ => ?_)
  rotate_left
  · refine rv_iconst h 23 dX11_kemenyOf_23 rv_c0 ?_
    refine rv_sub h [1, 0] rfl ?_
    exact hk7 (0 : Int32) w3
  refine rv_iconst h 19 dX11_kemenyOf_19 rv_c1 ?_
  refine rv_goto (tgt := 24) h 20 dX11_kemenyOf_20 (by decide) ?_
  refine rv_sub h [1, 0] rfl ?_
  exact hk7 (1 : Int32) w3
def f_X11_applies (p1 : Int32) (p2 : Int32) (w : rv_W) : rv_R :=
  rv_bd (f_X11_counts  w) (fun (r1 : Int32) (w2 : rv_W) =>
  if p1 = 0 then
  rv_bd (f_X11_pointsOfFirst p2 (1 : Int32) w2) (fun (r4 : Int32) (w5 : rv_W) =>
  rv_bd (f_X11_most p2 w5) (fun (r6 : Int32) (w7 : rv_W) =>
  some (r6, w7)))
  else
  if p1 = 1 then
  rv_bd (f_X11_borda p2 w2) (fun (r9 : Int32) (w10 : rv_W) =>
  rv_bd (f_X11_most p2 w10) (fun (r11 : Int32) (w12 : rv_W) =>
  some (r11, w12)))
  else
  if p1 = 2 then
  rv_bd (f_X11_copeland p2 w2) (fun (r14 : Int32) (w15 : rv_W) =>
  rv_bd (f_X11_most p2 w15) (fun (r16 : Int32) (w17 : rv_W) =>
  some (r16, w17)))
  else
  if p1 = 3 then
  rv_bd (f_X11_minimax p2 w2) (fun (r19 : Int32) (w20 : rv_W) =>
  rv_bd (f_X11_fewest p2 w20) (fun (r21 : Int32) (w22 : rv_W) =>
  some (r21, w22)))
  else
  if p1 = 4 then
  rv_bd (f_X11_schulze p2 w2) (fun (r24 : Int32) (w25 : rv_W) =>
  some (r24, w25))
  else
  if p1 = 5 then
  rv_bd (f_X11_rankedPairs p2 w2) (fun (r27 : Int32) (w28 : rv_W) =>
  some (r27, w28))
  else
  if p1 = 6 then
  rv_bd (f_X11_instant p2 w2) (fun (r30 : Int32) (w31 : rv_W) =>
  some (r30, w31))
  else
  if p1 = 7 then
  rv_bd (f_X11_coombs p2 w2) (fun (r33 : Int32) (w34 : rv_W) =>
  some (r33, w34))
  else
  if p1 = 8 then
  rv_bd (f_X11_bucklin p2 w2) (fun (r36 : Int32) (w37 : rv_W) =>
  rv_bd (f_X11_most p2 w37) (fun (r38 : Int32) (w39 : rv_W) =>
  some (r38, w39)))
  else
  if p1 = 9 then
  rv_bd (f_X11_borda p2 w2) (fun (r41 : Int32) (w42 : rv_W) =>
  rv_bd (f_X11_firstOf p2 w42) (fun (r43 : Int32) (w44 : rv_W) =>
  if r43 < 0 then
  rv_bd (f_X11_most p2 w44) (fun (r45 : Int32) (w46 : rv_W) =>
  some (r45, w46))
  else
  rv_bd (f_X11_firstOf p2 w44) (fun (r47 : Int32) (w48 : rv_W) =>
  some (((1 : Int32) <<< (r47 &&& 31)), w48))))
  else
  if p1 = 10 then
  rv_bd (f_X11_nanson p2 w2) (fun (r50 : Int32) (w51 : rv_W) =>
  some (r50, w51))
  else
  rv_bd (f_X11_kemenyOf p2 w2) (fun (r52 : Int32) (w53 : rv_W) =>
  some (r52, w53)))
set_option maxRecDepth 100000 in
set_option maxHeartbeats 4000000 in
theorem fn_X11_applies {l : Launch} {D : va_G} {ad : Nat → Nat} {ca : Nat → ClassId} (hJ : rv_J ad) (p1 : Int32) (p2 : Int32)  (w : rv_W) : rv_Fn l D ad ca yX11_applies cX11_applies 3 (some .int) 5 122 [.ref (ad 78), .int p1, .int p2] w (f_X11_applies p1 p2 w) := by
  refine rv_mk (lv := [(0, .ref (ad 78)), (1, .int p1), (2, .int p2)]) hJ (by decide +kernel) (Nat.le_of_ble_eq_true rfl) rfl (fun K h hr => ?_)
  have h : rv_Rl D ad ca l RX11 cX11_applies 3 5 122 K := h
  unfold f_X11_applies
  refine rv_aload_n h 0 dX11_applies_0 0 rfl ?_
  refine rv_callVv h 1 dX11_applies_1 (fn_X11_counts hJ   w) ce_X11_counts lk_X11_166 rv_s78 rfl rv_cf9 rfl rfl (Nat.le_of_ble_eq_true rfl) ⟨Nat.le_of_ble_eq_true rfl, Nat.le_of_ble_eq_true rfl⟩ (fun r1 w2 => ?_)
  refine rv_iload_n h 4 dX11_applies_4 1 rfl ?_
  refine rv_iff h (fun c3 => ?_) (fun c3 => ?_)
  · refine rv_swIn (off := 59) (tgt := 64) h 5 dX11_applies_5 (0) c3 (by decide) (by decide) (by decide +kernel) (by decide) ?_
    refine rv_aload_n h 64 dX11_applies_64 0 rfl ?_
    refine rv_iload_n h 65 dX11_applies_65 2 rfl ?_
    refine rv_iconst h 66 dX11_applies_66 rv_c1 ?_
    refine rv_callVv h 67 dX11_applies_67 (fn_X11_pointsOfFirst hJ p2 (1 : Int32)  w2) ce_X11_pointsOfFirst lk_X11_119 rv_s78 rfl rv_cf9 rfl rfl (Nat.le_of_ble_eq_true rfl) ⟨Nat.le_of_ble_eq_true rfl, Nat.le_of_ble_eq_true rfl⟩ (fun r4 w5 => ?_)
    refine rv_aload_n h 70 dX11_applies_70 0 rfl ?_
    refine rv_iload_n h 71 dX11_applies_71 2 rfl ?_
    refine rv_callVi h 72 dX11_applies_72 (fn_X11_most hJ p2  w5) ce_X11_most lk_X11_112 rv_s78 rfl rv_cf9 rfl rfl (Nat.le_of_ble_eq_true rfl) ⟨Nat.le_of_ble_eq_true rfl, Nat.le_of_ble_eq_true rfl⟩ (fun r6 w7 => ?_)
    exact rv_reti hr 75 dX11_applies_75
  refine rv_iff h (fun c8 => ?_) (fun c8 => ?_)
  · refine rv_swIn (off := 71) (tgt := 76) h 5 dX11_applies_5 (1) c8 (by decide) (by decide) (by decide +kernel) (by decide) ?_
    refine rv_aload_n h 76 dX11_applies_76 0 rfl ?_
    refine rv_iload_n h 77 dX11_applies_77 2 rfl ?_
    refine rv_callVv h 78 dX11_applies_78 (fn_X11_borda hJ p2  w2) ce_X11_borda lk_X11_143 rv_s78 rfl rv_cf9 rfl rfl (Nat.le_of_ble_eq_true rfl) ⟨Nat.le_of_ble_eq_true rfl, Nat.le_of_ble_eq_true rfl⟩ (fun r9 w10 => ?_)
    refine rv_aload_n h 81 dX11_applies_81 0 rfl ?_
    refine rv_iload_n h 82 dX11_applies_82 2 rfl ?_
    refine rv_callVi h 83 dX11_applies_83 (fn_X11_most hJ p2  w10) ce_X11_most lk_X11_112 rv_s78 rfl rv_cf9 rfl rfl (Nat.le_of_ble_eq_true rfl) ⟨Nat.le_of_ble_eq_true rfl, Nat.le_of_ble_eq_true rfl⟩ (fun r11 w12 => ?_)
    exact rv_reti hr 86 dX11_applies_86
  refine rv_iff h (fun c13 => ?_) (fun c13 => ?_)
  · refine rv_swIn (off := 82) (tgt := 87) h 5 dX11_applies_5 (2) c13 (by decide) (by decide) (by decide +kernel) (by decide) ?_
    refine rv_aload_n h 87 dX11_applies_87 0 rfl ?_
    refine rv_iload_n h 88 dX11_applies_88 2 rfl ?_
    refine rv_callVv h 89 dX11_applies_89 (fn_X11_copeland hJ p2  w2) ce_X11_copeland lk_X11_169 rv_s78 rfl rv_cf9 rfl rfl (Nat.le_of_ble_eq_true rfl) ⟨Nat.le_of_ble_eq_true rfl, Nat.le_of_ble_eq_true rfl⟩ (fun r14 w15 => ?_)
    refine rv_aload_n h 92 dX11_applies_92 0 rfl ?_
    refine rv_iload_n h 93 dX11_applies_93 2 rfl ?_
    refine rv_callVi h 94 dX11_applies_94 (fn_X11_most hJ p2  w15) ce_X11_most lk_X11_112 rv_s78 rfl rv_cf9 rfl rfl (Nat.le_of_ble_eq_true rfl) ⟨Nat.le_of_ble_eq_true rfl, Nat.le_of_ble_eq_true rfl⟩ (fun r16 w17 => ?_)
    exact rv_reti hr 97 dX11_applies_97
  refine rv_iff h (fun c18 => ?_) (fun c18 => ?_)
  · refine rv_swIn (off := 93) (tgt := 98) h 5 dX11_applies_5 (3) c18 (by decide) (by decide) (by decide +kernel) (by decide) ?_
    refine rv_aload_n h 98 dX11_applies_98 0 rfl ?_
    refine rv_iload_n h 99 dX11_applies_99 2 rfl ?_
    refine rv_callVv h 100 dX11_applies_100 (fn_X11_minimax hJ p2  w2) ce_X11_minimax lk_X11_172 rv_s78 rfl rv_cf9 rfl rfl (Nat.le_of_ble_eq_true rfl) ⟨Nat.le_of_ble_eq_true rfl, Nat.le_of_ble_eq_true rfl⟩ (fun r19 w20 => ?_)
    refine rv_aload_n h 103 dX11_applies_103 0 rfl ?_
    refine rv_iload_n h 104 dX11_applies_104 2 rfl ?_
    refine rv_callVi h 105 dX11_applies_105 (fn_X11_fewest hJ p2  w20) ce_X11_fewest lk_X11_175 rv_s78 rfl rv_cf9 rfl rfl (Nat.le_of_ble_eq_true rfl) ⟨Nat.le_of_ble_eq_true rfl, Nat.le_of_ble_eq_true rfl⟩ (fun r21 w22 => ?_)
    exact rv_reti hr 108 dX11_applies_108
  refine rv_iff h (fun c23 => ?_) (fun c23 => ?_)
  · refine rv_swIn (off := 104) (tgt := 109) h 5 dX11_applies_5 (4) c23 (by decide) (by decide) (by decide +kernel) (by decide) ?_
    refine rv_aload_n h 109 dX11_applies_109 0 rfl ?_
    refine rv_iload_n h 110 dX11_applies_110 2 rfl ?_
    refine rv_callVi h 111 dX11_applies_111 (fn_X11_schulze hJ p2  w2) ce_X11_schulze lk_X11_178 rv_s78 rfl rv_cf9 rfl rfl (Nat.le_of_ble_eq_true rfl) ⟨Nat.le_of_ble_eq_true rfl, Nat.le_of_ble_eq_true rfl⟩ (fun r24 w25 => ?_)
    exact rv_reti hr 114 dX11_applies_114
  refine rv_iff h (fun c26 => ?_) (fun c26 => ?_)
  · refine rv_swIn (off := 110) (tgt := 115) h 5 dX11_applies_5 (5) c26 (by decide) (by decide) (by decide +kernel) (by decide) ?_
    refine rv_aload_n h 115 dX11_applies_115 0 rfl ?_
    refine rv_iload_n h 116 dX11_applies_116 2 rfl ?_
    refine rv_callVi h 117 dX11_applies_117 (fn_X11_rankedPairs hJ p2  w2) ce_X11_rankedPairs lk_X11_181 rv_s78 rfl rv_cf9 rfl rfl (Nat.le_of_ble_eq_true rfl) ⟨Nat.le_of_ble_eq_true rfl, Nat.le_of_ble_eq_true rfl⟩ (fun r27 w28 => ?_)
    exact rv_reti hr 120 dX11_applies_120
  refine rv_iff h (fun c29 => ?_) (fun c29 => ?_)
  · refine rv_swIn (off := 116) (tgt := 121) h 5 dX11_applies_5 (6) c29 (by decide) (by decide) (by decide +kernel) (by decide) ?_
    refine rv_aload_n h 121 dX11_applies_121 0 rfl ?_
    refine rv_iload_n h 122 dX11_applies_122 2 rfl ?_
    refine rv_callVi h 123 dX11_applies_123 (fn_X11_instant hJ p2  w2) ce_X11_instant lk_X11_184 rv_s78 rfl rv_cf9 rfl rfl (Nat.le_of_ble_eq_true rfl) ⟨Nat.le_of_ble_eq_true rfl, Nat.le_of_ble_eq_true rfl⟩ (fun r30 w31 => ?_)
    exact rv_reti hr 126 dX11_applies_126
  refine rv_iff h (fun c32 => ?_) (fun c32 => ?_)
  · refine rv_swIn (off := 122) (tgt := 127) h 5 dX11_applies_5 (7) c32 (by decide) (by decide) (by decide +kernel) (by decide) ?_
    refine rv_aload_n h 127 dX11_applies_127 0 rfl ?_
    refine rv_iload_n h 128 dX11_applies_128 2 rfl ?_
    refine rv_callVi h 129 dX11_applies_129 (fn_X11_coombs hJ p2  w2) ce_X11_coombs lk_X11_187 rv_s78 rfl rv_cf9 rfl rfl (Nat.le_of_ble_eq_true rfl) ⟨Nat.le_of_ble_eq_true rfl, Nat.le_of_ble_eq_true rfl⟩ (fun r33 w34 => ?_)
    exact rv_reti hr 132 dX11_applies_132
  refine rv_iff h (fun c35 => ?_) (fun c35 => ?_)
  · refine rv_swIn (off := 128) (tgt := 133) h 5 dX11_applies_5 (8) c35 (by decide) (by decide) (by decide +kernel) (by decide) ?_
    refine rv_aload_n h 133 dX11_applies_133 0 rfl ?_
    refine rv_iload_n h 134 dX11_applies_134 2 rfl ?_
    refine rv_callVv h 135 dX11_applies_135 (fn_X11_bucklin hJ p2  w2) ce_X11_bucklin lk_X11_190 rv_s78 rfl rv_cf9 rfl rfl (Nat.le_of_ble_eq_true rfl) ⟨Nat.le_of_ble_eq_true rfl, Nat.le_of_ble_eq_true rfl⟩ (fun r36 w37 => ?_)
    refine rv_aload_n h 138 dX11_applies_138 0 rfl ?_
    refine rv_iload_n h 139 dX11_applies_139 2 rfl ?_
    refine rv_callVi h 140 dX11_applies_140 (fn_X11_most hJ p2  w37) ce_X11_most lk_X11_112 rv_s78 rfl rv_cf9 rfl rfl (Nat.le_of_ble_eq_true rfl) ⟨Nat.le_of_ble_eq_true rfl, Nat.le_of_ble_eq_true rfl⟩ (fun r38 w39 => ?_)
    exact rv_reti hr 143 dX11_applies_143
  refine rv_iff h (fun c40 => ?_) (fun c40 => ?_)
  · refine rv_swIn (off := 139) (tgt := 144) h 5 dX11_applies_5 (9) c40 (by decide) (by decide) (by decide +kernel) (by decide) ?_
    refine rv_aload_n h 144 dX11_applies_144 0 rfl ?_
    refine rv_iload_n h 145 dX11_applies_145 2 rfl ?_
    refine rv_callVv h 146 dX11_applies_146 (fn_X11_borda hJ p2  w2) ce_X11_borda lk_X11_143 rv_s78 rfl rv_cf9 rfl rfl (Nat.le_of_ble_eq_true rfl) ⟨Nat.le_of_ble_eq_true rfl, Nat.le_of_ble_eq_true rfl⟩ (fun r41 w42 => ?_)
    refine rv_aload_n h 149 dX11_applies_149 0 rfl ?_
    refine rv_iload_n h 150 dX11_applies_150 2 rfl ?_
    refine rv_callVi h 151 dX11_applies_151 (fn_X11_firstOf hJ p2  w42) ce_X11_firstOf lk_X11_193 rv_s78 rfl rv_cf9 rfl rfl (Nat.le_of_ble_eq_true rfl) ⟨Nat.le_of_ble_eq_true rfl, Nat.le_of_ble_eq_true rfl⟩ (fun r43 w44 => ?_)
    refine rv_if_lt (tgt := 167) h 154 dX11_applies_154 (by decide) (fun _ => ?_) (fun _ => ?_)
    · refine rv_aload_n h 167 dX11_applies_167 0 rfl ?_
      refine rv_iload_n h 168 dX11_applies_168 2 rfl ?_
      refine rv_callVi h 169 dX11_applies_169 (fn_X11_most hJ p2  w44) ce_X11_most lk_X11_112 rv_s78 rfl rv_cf9 rfl rfl (Nat.le_of_ble_eq_true rfl) ⟨Nat.le_of_ble_eq_true rfl, Nat.le_of_ble_eq_true rfl⟩ (fun r45 w46 => ?_)
      exact rv_reti hr 172 dX11_applies_172
    refine rv_iconst h 157 dX11_applies_157 rv_c1 ?_
    refine rv_aload_n h 158 dX11_applies_158 0 rfl ?_
    refine rv_iload_n h 159 dX11_applies_159 2 rfl ?_
    refine rv_callVi h 160 dX11_applies_160 (fn_X11_firstOf hJ p2  w44) ce_X11_firstOf lk_X11_193 rv_s78 rfl rv_cf9 rfl rfl (Nat.le_of_ble_eq_true rfl) ⟨Nat.le_of_ble_eq_true rfl, Nat.le_of_ble_eq_true rfl⟩ (fun r47 w48 => ?_)
    refine rv_ishl h 163 dX11_applies_163 ?_
    refine rv_goto (tgt := 172) h 164 dX11_applies_164 (by decide) ?_
    exact rv_reti hr 172 dX11_applies_172
  refine rv_iff h (fun c49 => ?_) (fun c49 => ?_)
  · refine rv_swIn (off := 168) (tgt := 173) h 5 dX11_applies_5 (10) c49 (by decide) (by decide) (by decide +kernel) (by decide) ?_
    refine rv_aload_n h 173 dX11_applies_173 0 rfl ?_
    refine rv_iload_n h 174 dX11_applies_174 2 rfl ?_
    refine rv_callVi h 175 dX11_applies_175 (fn_X11_nanson hJ p2  w2) ce_X11_nanson lk_X11_196 rv_s78 rfl rv_cf9 rfl rfl (Nat.le_of_ble_eq_true rfl) ⟨Nat.le_of_ble_eq_true rfl, Nat.le_of_ble_eq_true rfl⟩ (fun r50 w51 => ?_)
    exact rv_reti hr 178 dX11_applies_178
  refine rv_swOut (tgt := 179) h 5 dX11_applies_5 (by have := lv_neT c3 (show (0 : Int32).toInt = 0 by decide); have := lv_neT c8 (show (1 : Int32).toInt = 1 by decide); have := lv_neT c13 (show (2 : Int32).toInt = 2 by decide); have := lv_neT c18 (show (3 : Int32).toInt = 3 by decide); have := lv_neT c23 (show (4 : Int32).toInt = 4 by decide); have := lv_neT c26 (show (5 : Int32).toInt = 5 by decide); have := lv_neT c29 (show (6 : Int32).toInt = 6 by decide); have := lv_neT c32 (show (7 : Int32).toInt = 7 by decide); have := lv_neT c35 (show (8 : Int32).toInt = 8 by decide); have := lv_neT c40 (show (9 : Int32).toInt = 9 by decide); have := lv_neT c49 (show (10 : Int32).toInt = 10 by decide); omega) (by decide) ?_
  refine rv_aload_n h 179 dX11_applies_179 0 rfl ?_
  refine rv_iload_n h 180 dX11_applies_180 2 rfl ?_
  refine rv_callVi h 181 dX11_applies_181 (fn_X11_kemenyOf hJ p2  w2) ce_X11_kemenyOf lk_X11_199 rv_s78 rfl rv_cf9 rfl rfl (Nat.le_of_ble_eq_true rfl) ⟨Nat.le_of_ble_eq_true rfl, Nat.le_of_ble_eq_true rfl⟩ (fun r52 w53 => ?_)
  exact rv_reti hr 184 dX11_applies_184
def f_X11_wins (p1 : Int32) (p2 : Int32) (w : rv_W) : rv_R :=
  rv_bd (f_X11_applies p1 p2 w) (fun (r1 : Int32) (w2 : rv_W) =>
  if r1 = 0 then
  some ((-1 : Int32), w2)
  else
  rv_bd (f_X11_lowest r1 w2) (fun (r3 : Int32) (w4 : rv_W) =>
  some (r3, w4)))
set_option maxRecDepth 100000 in
set_option maxHeartbeats 4000000 in
theorem fn_X11_wins {l : Launch} {D : va_G} {ad : Nat → Nat} {ca : Nat → ClassId} (hJ : rv_J ad) (p1 : Int32) (p2 : Int32)  (w : rv_W) : rv_Fn l D ad ca yX11_wins cX11_wins 4 (some .int) 6 144 [.ref (ad 78), .int p1, .int p2] w (f_X11_wins p1 p2 w) := by
  refine rv_mk (lv := [(0, .ref (ad 78)), (1, .int p1), (2, .int p2)]) hJ (by decide +kernel) (Nat.le_of_ble_eq_true rfl) rfl (fun K h hr => ?_)
  have h : rv_Rl D ad ca l RX11 cX11_wins 4 6 144 K := h
  unfold f_X11_wins
  refine rv_aload_n h 0 dX11_wins_0 0 rfl ?_
  refine rv_iload_n h 1 dX11_wins_1 1 rfl ?_
  refine rv_iload_n h 2 dX11_wins_2 2 rfl ?_
  refine rv_callVi h 3 dX11_wins_3 (fn_X11_applies hJ p1 p2  w) ce_X11_applies lk_X11_202 rv_s78 rfl rv_cf9 rfl rfl (Nat.le_of_ble_eq_true rfl) ⟨Nat.le_of_ble_eq_true rfl, Nat.le_of_ble_eq_true rfl⟩ (fun r1 w2 => ?_)
  refine rv_istore_n (lv' := [(3, .int r1), (0, .ref (ad 78)), (1, .int p1), (2, .int p2)]) h 6 dX11_wins_6 (by decide) rfl ?_
  refine rv_iload_n h 7 dX11_wins_7 0 rfl ?_
  refine rv_if_ne (tgt := 15) h 8 dX11_wins_8 (by decide) (fun _ => ?_) (fun _ => ?_)
  · refine rv_iconst h 11 dX11_wins_11 rv_cm1 ?_
    refine rv_goto (tgt := 19) h 12 dX11_wins_12 (by decide) ?_
    exact rv_reti hr 19 dX11_wins_19
  refine rv_iload_n h 15 dX11_wins_15 0 rfl ?_
  refine rv_callSi h 16 dX11_wins_16 (fn_X11_lowest hJ r1  w2) ce_X11_lowest lk_X11_205 rfl rfl (Nat.le_of_ble_eq_true rfl) ⟨Nat.le_of_ble_eq_true rfl, Nat.le_of_ble_eq_true rfl⟩ (fun r3 w4 => ?_)
  exact rv_reti hr 19 dX11_wins_19
def f_X11_now (p1 : Int32) (w : rv_W) : rv_R :=
  rv_bd (f_X11_loads  w) (fun (r1 : Int32) (w2 : rv_W) =>
  rv_ck (1 : Int32) 852 (
  rv_bd (f_X11_wins p1 (w2 79 (1 : Int32).toNatClampNeg) w2) (fun (r3 : Int32) (w4 : rv_W) =>
  some (r3, w4))))
set_option maxRecDepth 100000 in
set_option maxHeartbeats 4000000 in
theorem fn_X11_now {l : Launch} {D : va_G} {ad : Nat → Nat} {ca : Nat → ClassId} (hJ : rv_J ad) (p1 : Int32)  (w : rv_W) : rv_Fn l D ad ca yX11_now cX11_now 2 (some .int) 7 167 [.ref (ad 78), .int p1] w (f_X11_now p1 w) := by
  refine rv_mk (lv := [(0, .ref (ad 78)), (1, .int p1)]) hJ (by decide +kernel) (Nat.le_of_ble_eq_true rfl) rfl (fun K h hr => ?_)
  have h : rv_Rl D ad ca l RX11 cX11_now 2 7 167 K := h
  unfold f_X11_now
  refine rv_aload_n h 0 dX11_now_0 0 rfl ?_
  refine rv_callVv h 1 dX11_now_1 (fn_X11_loads hJ   w) ce_X11_loads lk_X11_208 rv_s78 rfl rv_cf9 rfl rfl (Nat.le_of_ble_eq_true rfl) ⟨Nat.le_of_ble_eq_true rfl, Nat.le_of_ble_eq_true rfl⟩ (fun r1 w2 => ?_)
  refine rv_aload_n h 4 dX11_now_4 0 rfl ?_
  refine rv_iload_n h 5 dX11_now_5 1 rfl ?_
  refine rv_aload_n h 6 dX11_now_6 0 rfl ?_
  refine rv_getr h 7 dX11_now_7 rv_s78 rv_fd_X11_7 rfl ?_
  refine rv_iconst h 10 dX11_now_10 rv_c1 ?_
  refine rv_iald h 11 dX11_now_11 rv_s79 ?_
  refine rv_callVi h 12 dX11_now_12 (fn_X11_wins hJ p1 (w2 79 (1 : Int32).toNatClampNeg)  w2) ce_X11_wins lk_X11_211 rv_s78 rfl rv_cf9 rfl rfl (Nat.le_of_ble_eq_true rfl) ⟨Nat.le_of_ble_eq_true rfl, Nat.le_of_ble_eq_true rfl⟩ (fun r3 w4 => ?_)
  exact rv_reti hr 15 dX11_now_15
def f_X11_ballotOf (p1 : Int32) (w : rv_W) : rv_R :=
  rv_fx (fun _ _ _ => none) (fun (ag1 : Int32 → Int32 → rv_W → rv_R) (v3 : Int32) (v4 : Int32) (w5 : rv_W) =>
  rv_bd (f_X11_of p1 (1 : Int32) w5) (fun (r6 : Int32) (w7 : rv_W) =>
  if v4 < r6 then
  rv_bd (f_X11_of p1 ((2 : Int32) + v4) w7) (fun (r8 : Int32) (w9 : rv_W) =>
  rv_lt (((((10 : Int32) * v3) + r8) + (1 : Int32))) (fun (v10 : Int32) =>
  rv_lt (v4 + (1 : Int32)) (fun (v11 : Int32) =>
  ag1 v10 v11 w9)))
  else
  some (v3, w7))) rv_FU (0 : Int32) (0 : Int32) w
set_option maxRecDepth 100000 in
set_option maxHeartbeats 4000000 in
theorem fn_X11_ballotOf {l : Launch} {D : va_G} {ad : Nat → Nat} {ca : Nat → ClassId} (hJ : rv_J ad) (p1 : Int32)  (w : rv_W) : rv_Fn l D ad ca yX11_ballotOf cX11_ballotOf 4 (some .int) 1 22 [.ref (ad 78), .int p1] w (f_X11_ballotOf p1 w) := by
  refine rv_mk (lv := [(0, .ref (ad 78)), (1, .int p1)]) hJ (by decide +kernel) (Nat.le_of_ble_eq_true rfl) rfl (fun K h hr => ?_)
  have h : rv_Rl D ad ca l RX11 cX11_ballotOf 4 1 22 K := h
  unfold f_X11_ballotOf
  refine rv_iconst h 0 dX11_ballotOf_0 rv_c0 ?_
  refine rv_istore_n (lv' := [(2, .int (0 : Int32)), (0, .ref (ad 78)), (1, .int p1)]) h 1 dX11_ballotOf_1 (by decide) rfl ?_
  refine rv_iconst h 2 dX11_ballotOf_2 rv_c0 ?_
  refine rv_istore_n (lv' := [(3, .int (0 : Int32)), (2, .int (0 : Int32)), (0, .ref (ad 78)), (1, .int p1)]) h 3 dX11_ballotOf_3 (by decide) rfl ?_
  refine rv_sub h [2, 3, 1, 0] rfl ?_
  refine rv_fx_ind (fun (a0 : Int32 → Int32 → rv_W → rv_R) => ∀ (v3 : Int32) (v4 : Int32) (w5 : rv_W), K 4 [(0, .ref (ad 78)), (1, .int p1), (2, .int v3), (3, .int v4)] [] w5 (a0 v3 v4 w5)) (fun _ _ _ => rv_none h) (fun ag1 ih2 v3 v4 w5 => ?_) rv_FU (0 : Int32) (0 : Int32) w
  refine rv_iload_n h 4 dX11_ballotOf_4 3 rfl ?_
  refine rv_aload_n h 5 dX11_ballotOf_5 0 rfl ?_
  refine rv_iload_n h 6 dX11_ballotOf_6 1 rfl ?_
  refine rv_iconst h 7 dX11_ballotOf_7 rv_c1 ?_
  refine rv_callVi h 8 dX11_ballotOf_8 (fn_X11_of hJ p1 (1 : Int32)  w5) ce_X11_of lk_X11_81 rv_s78 rfl rv_cf9 rfl rfl (Nat.le_of_ble_eq_true rfl) ⟨Nat.le_of_ble_eq_true rfl, Nat.le_of_ble_eq_true rfl⟩ (fun r6 w7 => ?_)
  refine rv_icmp_ge (tgt := 36) h 11 dX11_ballotOf_11 (by decide) (fun _ => ?_) (fun _ => ?_)
  rotate_left
  · refine rv_iload_n h 36 dX11_ballotOf_36 2 rfl ?_
    exact rv_reti hr 37 dX11_ballotOf_37
  refine rv_bipush (v := 10) h 14 dX11_ballotOf_14 (by decide +kernel) ?_
  refine rv_iload_n h 16 dX11_ballotOf_16 2 rfl ?_
  refine rv_imul h 17 dX11_ballotOf_17 ?_
  refine rv_aload_n h 18 dX11_ballotOf_18 0 rfl ?_
  refine rv_iload_n h 19 dX11_ballotOf_19 1 rfl ?_
  refine rv_iconst h 20 dX11_ballotOf_20 rv_c2 ?_
  refine rv_iload_n h 21 dX11_ballotOf_21 3 rfl ?_
  refine rv_iadd h 22 dX11_ballotOf_22 ?_
  refine rv_callVi h 23 dX11_ballotOf_23 (fn_X11_of hJ p1 ((2 : Int32) + v4)  w7) ce_X11_of lk_X11_81 rv_s78 rfl rv_cf9 rfl rfl (Nat.le_of_ble_eq_true rfl) ⟨Nat.le_of_ble_eq_true rfl, Nat.le_of_ble_eq_true rfl⟩ (fun r8 w9 => ?_)
  refine rv_iadd h 26 dX11_ballotOf_26 ?_
  refine rv_iconst h 27 dX11_ballotOf_27 rv_c1 ?_
  refine rv_iadd h 28 dX11_ballotOf_28 ?_
  refine rv_top (fun v10 => ?_)
  refine rv_istore_n (lv' := [(2, .int v10), (0, .ref (ad 78)), (1, .int p1), (3, .int v4)]) h 29 dX11_ballotOf_29 (by decide) rfl ?_
  refine rv_iinc h 30 (fun v11 => [(3, .int v11), (2, .int v10), (0, .ref (ad 78)), (1, .int p1)]) dX11_ballotOf_30 3 rfl rv_c1 (by decide) (fun _ => rfl) (fun v11 => ?_)
  refine rv_goto (tgt := 4) h 33 dX11_ballotOf_33 (by decide) ?_
  refine rv_sub h [2, 3, 1, 0] rfl ?_
  exact ih2 v10 v11 w9
def f_X11_isBallot (p1 : Int32) (w : rv_W) : rv_R :=
  rv_fx (fun _ _ _ => none) (fun (ag1 : Int32 → Int32 → rv_W → rv_R) (v3 : Int32) (v4 : Int32) (w5 : rv_W) =>
  if 0 < v3 then
  rv_lt (((v3 - v3 / (10 : Int32) * (10 : Int32)) - (1 : Int32))) (fun (v6 : Int32) =>
  rv_bd (f_X11_isCandidate v6 w5) (fun (r7 : Int32) (w8 : rv_W) =>
  if r7 = 0 then
  some ((0 : Int32), w8)
  else
  rv_bd (f_X11_has v4 v6 w8) (fun (r9 : Int32) (w10 : rv_W) =>
  if r9 = 0 then
  rv_lt ((v4 ||| ((1 : Int32) <<< (v6 &&& 31)))) (fun (v11 : Int32) =>
  rv_lt ((v3 / (10 : Int32))) (fun (v12 : Int32) =>
  ag1 v12 v11 w10))
  else
  some ((0 : Int32), w10))))
  else
  if 0 < p1 then
  some ((1 : Int32), w5)
  else
  some ((0 : Int32), w5)) rv_FU p1 (0 : Int32) w
set_option maxRecDepth 100000 in
set_option maxHeartbeats 4000000 in
theorem fn_X11_isBallot {l : Launch} {D : va_G} {ad : Nat → Nat} {ca : Nat → ClassId} (hJ : rv_J ad) (p1 : Int32)  (w : rv_W) : rv_Fn l D ad ca yX11_isBallot cX11_isBallot 4 (some .boolean) 2 42 [.int p1] w (f_X11_isBallot p1 w) := by
  refine rv_mk (lv := [(0, .int p1)]) hJ (by decide +kernel) (Nat.le_of_ble_eq_true rfl) rfl (fun K h hr => ?_)
  have h : rv_Rl D ad ca l RX11 cX11_isBallot 4 2 42 K := h
  unfold f_X11_isBallot
  refine rv_iload_n h 0 dX11_isBallot_0 0 rfl ?_
  refine rv_istore_n (lv' := [(1, .int p1), (0, .int p1)]) h 1 dX11_isBallot_1 (by decide) rfl ?_
  refine rv_iconst h 2 dX11_isBallot_2 rv_c0 ?_
  refine rv_istore_n (lv' := [(2, .int (0 : Int32)), (1, .int p1), (0, .int p1)]) h 3 dX11_isBallot_3 (by decide) rfl ?_
  refine rv_sub h [2, 1, 0] rfl ?_
  refine rv_fx_ind (fun (a0 : Int32 → Int32 → rv_W → rv_R) => ∀ (v3 : Int32) (v4 : Int32) (w5 : rv_W), K 4 [(0, .int p1), (1, .int v3), (2, .int v4)] [] w5 (a0 v3 v4 w5)) (fun _ _ _ => rv_none h) (fun ag1 ih2 v3 v4 w5 => ?_) rv_FU p1 (0 : Int32) w
  refine rv_iload_n h 4 dX11_isBallot_4 1 rfl ?_
  refine rv_if_le (tgt := 46) h 5 dX11_isBallot_5 (by decide) (fun _ => ?_) (fun _ => ?_)
  rotate_left
  · refine rv_iload_n h 46 dX11_isBallot_46 0 rfl ?_
    refine rv_if_le (tgt := 54) h 47 dX11_isBallot_47 (by decide) (fun _ => ?_) (fun _ => ?_)
    rotate_left
    · refine rv_iconst h 54 dX11_isBallot_54 rv_c0 ?_
      exact rv_retz0 hr 55 dX11_isBallot_55
    refine rv_iconst h 50 dX11_isBallot_50 rv_c1 ?_
    refine rv_goto (tgt := 55) h 51 dX11_isBallot_51 (by decide) ?_
    exact rv_retz1 hr 55 dX11_isBallot_55
  refine rv_iload_n h 8 dX11_isBallot_8 1 rfl ?_
  refine rv_bipush (v := 10) h 9 dX11_isBallot_9 (by decide +kernel) ?_
  refine rv_irem h 11 dX11_isBallot_11 (by decide) ?_
  refine rv_iconst h 12 dX11_isBallot_12 rv_c1 ?_
  refine rv_isub h 13 dX11_isBallot_13 ?_
  refine rv_top (fun v6 => ?_)
  refine rv_istore_n (lv' := [(3, .int v6), (0, .int p1), (1, .int v3), (2, .int v4)]) h 14 dX11_isBallot_14 (by decide) rfl ?_
  refine rv_iload_n h 15 dX11_isBallot_15 0 rfl ?_
  refine rv_callSi h 16 dX11_isBallot_16 (fn_X11_isCandidate hJ v6  w5) ce_X11_isCandidate lk_X11_214 rfl rfl (Nat.le_of_ble_eq_true rfl) ⟨Nat.le_of_ble_eq_true rfl, Nat.le_of_ble_eq_true rfl⟩ (fun r7 w8 => ?_)
  refine rv_if_eq (tgt := 30) h 19 dX11_isBallot_19 (by decide) (fun _ => ?_) (fun _ => ?_)
  · refine rv_iconst h 30 dX11_isBallot_30 rv_c0 ?_
    exact rv_retz0 hr 31 dX11_isBallot_31
  refine rv_iload_n h 22 dX11_isBallot_22 3 rfl ?_
  refine rv_iload_n h 23 dX11_isBallot_23 0 rfl ?_
  refine rv_callSi h 24 dX11_isBallot_24 (fn_X11_has hJ v4 v6  w8) ce_X11_has lk_X11_74 rfl rfl (Nat.le_of_ble_eq_true rfl) ⟨Nat.le_of_ble_eq_true rfl, Nat.le_of_ble_eq_true rfl⟩ (fun r9 w10 => ?_)
  refine rv_if_eq (tgt := 32) h 27 dX11_isBallot_27 (by decide) (fun _ => ?_) (fun _ => ?_)
  rotate_left
  · refine rv_iconst h 30 dX11_isBallot_30 rv_c0 ?_
    exact rv_retz0 hr 31 dX11_isBallot_31
  refine rv_iload_n h 32 dX11_isBallot_32 3 rfl ?_
  refine rv_iconst h 33 dX11_isBallot_33 rv_c1 ?_
  refine rv_iload_n h 34 dX11_isBallot_34 0 rfl ?_
  refine rv_ishl h 35 dX11_isBallot_35 ?_
  refine rv_ior h 36 dX11_isBallot_36 ?_
  refine rv_top (fun v11 => ?_)
  refine rv_istore_n (lv' := [(2, .int v11), (3, .int v6), (0, .int p1), (1, .int v3)]) h 37 dX11_isBallot_37 (by decide) rfl ?_
  refine rv_iload_n h 38 dX11_isBallot_38 3 rfl ?_
  refine rv_bipush (v := 10) h 39 dX11_isBallot_39 (by decide +kernel) ?_
  refine rv_idiv h 41 dX11_isBallot_41 (by decide) ?_
  refine rv_top (fun v12 => ?_)
  refine rv_istore_n (lv' := [(1, .int v12), (2, .int v11), (3, .int v6), (0, .int p1)]) h 42 dX11_isBallot_42 (by decide) rfl ?_
  refine rv_goto (tgt := 4) h 43 dX11_isBallot_43 (by decide) ?_
  refine rv_sub h [3, 0, 1] rfl ?_
  exact ih2 v12 v11 w10
def f_X11_adds (p1 : Int32) (p2 : Int32) (w : rv_W) : rv_R :=
  rv_ck (0 : Int32) 852 (
  rv_fx (fun _ _ => none) (fun (ag1 : Int32 → rv_W → rv_R) (v3 : Int32) (w4 : rv_W) =>
  if (p2 / (10 : Int32)) < v3 then
  rv_fx (fun _ _ _ => none) (fun (ag5 : Int32 → Int32 → rv_W → rv_R) (v7 : Int32) (v8 : Int32) (w9 : rv_W) =>
  if 0 < v8 then
  rv_gd (¬ v8 = 0) (
  rv_bd (f_X11_sets (w 79 (0 : Int32).toNatClampNeg) ((2 : Int32) + v7) (((p2 / v8) - (p2 / v8) / (10 : Int32) * (10 : Int32)) - (1 : Int32)) w9) (fun (r16 : Int32) (w17 : rv_W) =>
  rv_lt (v7 + (1 : Int32)) (fun (v18 : Int32) =>
  rv_lt ((v8 / (10 : Int32))) (fun (v19 : Int32) =>
  ag5 v18 v19 w17))))
  else
  rv_bd (f_X11_sets (w 79 (0 : Int32).toNatClampNeg) (0 : Int32) p1 w9) (fun (r10 : Int32) (w11 : rv_W) =>
  rv_bd (f_X11_sets (w 79 (0 : Int32).toNatClampNeg) (1 : Int32) v7 w11) (fun (r12 : Int32) (w13 : rv_W) =>
  rv_ck (0 : Int32) 852 (
  rv_ck (0 : Int32) 852 (rv_lt (rv_up w13 79 (0 : Int32).toNatClampNeg ((w13 79 (0 : Int32).toNatClampNeg) + (1 : Int32))) (fun (w14 : rv_W) =>
  some (0, w14))))))) rv_FU (0 : Int32) v3 w4
  else
  rv_lt ((v3 * (10 : Int32))) (fun (v20 : Int32) =>
  ag1 v20 w4)) rv_FU (1 : Int32) w)
set_option maxRecDepth 100000 in
set_option maxHeartbeats 4000000 in
theorem fn_X11_adds {l : Launch} {D : va_G} {ad : Nat → Nat} {ca : Nat → ClassId} (hJ : rv_J ad) (p1 : Int32) (p2 : Int32)  (w : rv_W) : rv_Fn l D ad ca yX11_adds cX11_adds 7 none 1 23 [.ref (ad 78), .int p1, .int p2] w (f_X11_adds p1 p2 w) := by
  refine rv_mk (lv := [(0, .ref (ad 78)), (1, .int p1), (2, .int p2)]) hJ (by decide +kernel) (Nat.le_of_ble_eq_true rfl) rfl (fun K h hr => ?_)
  have h : rv_Rl D ad ca l RX11 cX11_adds 7 1 23 K := h
  unfold f_X11_adds
  refine rv_aload_n h 0 dX11_adds_0 0 rfl ?_
  refine rv_getr h 1 dX11_adds_1 rv_s78 rv_fd_X11_7 rfl ?_
  refine rv_iconst h 4 dX11_adds_4 rv_c0 ?_
  refine rv_iald h 5 dX11_adds_5 rv_s79 ?_
  refine rv_istore_n (lv' := [(3, .int (w 79 (0 : Int32).toNatClampNeg)), (0, .ref (ad 78)), (1, .int p1), (2, .int p2)]) h 6 dX11_adds_6 (by decide) rfl ?_
  refine rv_iconst h 7 dX11_adds_7 rv_c0 ?_
  refine rv_istore (lv' := [(4, .int (0 : Int32)), (3, .int (w 79 (0 : Int32).toNatClampNeg)), (0, .ref (ad 78)), (1, .int p1), (2, .int p2)]) h 8 dX11_adds_8 (by decide) rfl ?_
  refine rv_iconst h 10 dX11_adds_10 rv_c1 ?_
  refine rv_istore (lv' := [(5, .int (1 : Int32)), (4, .int (0 : Int32)), (3, .int (w 79 (0 : Int32).toNatClampNeg)), (0, .ref (ad 78)), (1, .int p1), (2, .int p2)]) h 11 dX11_adds_11 (by decide) rfl ?_
  refine rv_sub h [3, 4, 5, 2, 1, 0] rfl ?_
  refine rv_fx_ind (fun (a0 : Int32 → rv_W → rv_R) => ∀ (v3 : Int32) (w4 : rv_W), K 13 [(0, .ref (ad 78)), (1, .int p1), (2, .int p2), (3, .int (w 79 (0 : Int32).toNatClampNeg)), (4, .int (0 : Int32)), (5, .int v3)] [] w4 (a0 v3 w4)) (fun _ _ => rv_none h) (fun ag1 ih2 v3 w4 => ?_) rv_FU (1 : Int32) w
  refine rv_iload h 13 dX11_adds_13 5 rfl ?_
  refine rv_iload_n h 15 dX11_adds_15 2 rfl ?_
  refine rv_bipush (v := 10) h 16 dX11_adds_16 (by decide +kernel) ?_
  refine rv_idiv h 18 dX11_adds_18 (by decide) ?_
  refine rv_icmp_gt (tgt := 32) h 19 dX11_adds_19 (by decide) (fun _ => ?_) (fun _ => ?_)
  rotate_left
  · refine rv_iload h 22 dX11_adds_22 5 rfl ?_
    refine rv_bipush (v := 10) h 24 dX11_adds_24 (by decide +kernel) ?_
    refine rv_imul h 26 dX11_adds_26 ?_
    refine rv_top (fun v20 => ?_)
    refine rv_istore (lv' := [(5, .int v20), (0, .ref (ad 78)), (1, .int p1), (2, .int p2), (3, .int (w 79 (0 : Int32).toNatClampNeg)), (4, .int (0 : Int32))]) h 27 dX11_adds_27 (by decide) rfl ?_
    refine rv_goto (tgt := 13) h 29 dX11_adds_29 (by decide) ?_
    refine rv_sub h [1, 2, 3, 4, 5, 0] rfl ?_
    exact ih2 v20 w4
  refine rv_iload h 32 dX11_adds_32 5 rfl ?_
  refine rv_istore (lv' := [(6, .int v3), (0, .ref (ad 78)), (1, .int p1), (2, .int p2), (3, .int (w 79 (0 : Int32).toNatClampNeg)), (4, .int (0 : Int32)), (5, .int v3)]) h 34 dX11_adds_34 (by decide) rfl ?_
  refine rv_sub h [1, 2, 3, 4, 5, 0] rfl ?_
  refine rv_fx_ind (fun (a0 : Int32 → Int32 → rv_W → rv_R) => ∀ (v7 : Int32) (v8 : Int32) (w9 : rv_W), K 36 [(0, .ref (ad 78)), (1, .int p1), (2, .int p2), (3, .int (w 79 (0 : Int32).toNatClampNeg)), (4, .int v7), (6, .int v8)] [] w9 (a0 v7 v8 w9)) (fun _ _ _ => rv_none h) (fun ag5 ih6 v7 v8 w9 => ?_) rv_FU (0 : Int32) v3 w4
  refine rv_iload h 36 dX11_adds_36 5 rfl ?_
  refine rv_if_le (tgt := 72) h 38 dX11_adds_38 (by decide) (fun _ => ?_) (fun _ => ?_)
  rotate_left
  · refine rv_aload_n h 72 dX11_adds_72 0 rfl ?_
    refine rv_iload_n h 73 dX11_adds_73 3 rfl ?_
    refine rv_iconst h 74 dX11_adds_74 rv_c0 ?_
    refine rv_iload_n h 75 dX11_adds_75 1 rfl ?_
    refine rv_callVv h 76 dX11_adds_76 (fn_X11_sets hJ (w 79 (0 : Int32).toNatClampNeg) (0 : Int32) p1  w9) ce_X11_sets lk_X11_218 rv_s78 rfl rv_cf9 rfl rfl (Nat.le_of_ble_eq_true rfl) ⟨Nat.le_of_ble_eq_true rfl, Nat.le_of_ble_eq_true rfl⟩ (fun r10 w11 => ?_)
    refine rv_aload_n h 79 dX11_adds_79 0 rfl ?_
    refine rv_iload_n h 80 dX11_adds_80 3 rfl ?_
    refine rv_iconst h 81 dX11_adds_81 rv_c1 ?_
    refine rv_iload h 82 dX11_adds_82 4 rfl ?_
    refine rv_callVv h 84 dX11_adds_84 (fn_X11_sets hJ (w 79 (0 : Int32).toNatClampNeg) (1 : Int32) v7  w11) ce_X11_sets lk_X11_218 rv_s78 rfl rv_cf9 rfl rfl (Nat.le_of_ble_eq_true rfl) ⟨Nat.le_of_ble_eq_true rfl, Nat.le_of_ble_eq_true rfl⟩ (fun r12 w13 => ?_)
    refine rv_aload_n h 87 dX11_adds_87 0 rfl ?_
    refine rv_getr h 88 dX11_adds_88 rv_s78 rv_fd_X11_7 rfl ?_
    refine rv_iconst h 91 dX11_adds_91 rv_c0 ?_
    refine rv_dup2 h 92 dX11_adds_92 rfl rfl ?_
    refine rv_iald h 93 dX11_adds_93 rv_s79 ?_
    refine rv_iconst h 94 dX11_adds_94 rv_c1 ?_
    refine rv_iadd h 95 dX11_adds_95 ?_
    refine rv_iast h 96 dX11_adds_96 rv_s79 (fun w14 => ?_)
    exact rv_retv hr 97 dX11_adds_97
  refine rv_aload_n h 41 dX11_adds_41 0 rfl ?_
  refine rv_iload_n h 42 dX11_adds_42 3 rfl ?_
  refine rv_iconst h 43 dX11_adds_43 rv_c2 ?_
  refine rv_iload h 44 dX11_adds_44 4 rfl ?_
  refine rv_iadd h 46 dX11_adds_46 ?_
  refine rv_iload_n h 47 dX11_adds_47 2 rfl ?_
  refine rv_iload h 48 dX11_adds_48 5 rfl ?_
  refine rv_guard h (fun hn15 => ?_)
  refine rv_idiv h 50 dX11_adds_50 hn15 ?_
  refine rv_bipush (v := 10) h 51 dX11_adds_51 (by decide +kernel) ?_
  refine rv_irem h 53 dX11_adds_53 (by decide) ?_
  refine rv_iconst h 54 dX11_adds_54 rv_c1 ?_
  refine rv_isub h 55 dX11_adds_55 ?_
  refine rv_callVv h 56 dX11_adds_56 (fn_X11_sets hJ (w 79 (0 : Int32).toNatClampNeg) ((2 : Int32) + v7) (((p2 / v8) - (p2 / v8) / (10 : Int32) * (10 : Int32)) - (1 : Int32))  w9) ce_X11_sets lk_X11_218 rv_s78 rfl rv_cf9 rfl rfl (Nat.le_of_ble_eq_true rfl) ⟨Nat.le_of_ble_eq_true rfl, Nat.le_of_ble_eq_true rfl⟩ (fun r16 w17 => ?_)
  refine rv_iinc h 59 (fun v18 => [(4, .int v18), (0, .ref (ad 78)), (1, .int p1), (2, .int p2), (3, .int (w 79 (0 : Int32).toNatClampNeg)), (6, .int v8)]) dX11_adds_59 4 rfl rv_c1 (by decide) (fun _ => rfl) (fun v18 => ?_)
  refine rv_iload h 62 dX11_adds_62 5 rfl ?_
  refine rv_bipush (v := 10) h 64 dX11_adds_64 (by decide +kernel) ?_
  refine rv_idiv h 66 dX11_adds_66 (by decide) ?_
  refine rv_top (fun v19 => ?_)
  refine rv_istore (lv' := [(6, .int v19), (4, .int v18), (0, .ref (ad 78)), (1, .int p1), (2, .int p2), (3, .int (w 79 (0 : Int32).toNatClampNeg))]) h 67 dX11_adds_67 (by decide) rfl ?_
  refine rv_goto (tgt := 36) h 69 dX11_adds_69 (by decide) ?_
  refine rv_sub h [2, 3, 4, 5, 1, 0] rfl ?_
  exact ih6 v18 v19 w17
def f_X11_addGroup (p1 : Int32) (p2 : Int32) (w : rv_W) : rv_R :=
  rv_bd (f_X11_in p1 (1 : Int32) (100 : Int32) w) (fun (r1 : Int32) (w2 : rv_W) =>
  if r1 = 0 then
  some ((-1000002 : Int32), w2)
  else
  rv_bd (f_X11_isBallot p2 w2) (fun (r3 : Int32) (w4 : rv_W) =>
  if r3 = 0 then
  some ((-1000002 : Int32), w4)
  else
  rv_ck (0 : Int32) 852 (
  if (w4 79 (0 : Int32).toNatClampNeg) = (20 : Int32) then
  some ((-1000004 : Int32), w4)
  else
  rv_bd (f_X11_saves  w4) (fun (r5 : Int32) (w6 : rv_W) =>
  rv_bd (f_X11_adds p1 p2 w6) (fun (r7 : Int32) (w8 : rv_W) =>
  rv_ck (0 : Int32) 852 (
  some (((w8 79 (0 : Int32).toNatClampNeg) - (1 : Int32)), w8)))))))
set_option maxRecDepth 100000 in
set_option maxHeartbeats 4000000 in
theorem fn_X11_addGroup {l : Launch} {D : va_G} {ad : Nat → Nat} {ca : Nat → ClassId} (hJ : rv_J ad) (p1 : Int32) (p2 : Int32)  (w : rv_W) : rv_Fn l D ad ca yX11_addGroup cX11_addGroup 3 (some .int) 3 65 [.ref (ad 78), .int p1, .int p2] w (f_X11_addGroup p1 p2 w) := by
  refine rv_mk (lv := [(0, .ref (ad 78)), (1, .int p1), (2, .int p2)]) hJ (by decide +kernel) (Nat.le_of_ble_eq_true rfl) rfl (fun K h hr => ?_)
  have h : rv_Rl D ad ca l RX11 cX11_addGroup 3 3 65 K := h
  unfold f_X11_addGroup
  refine rv_iload_n h 0 dX11_addGroup_0 1 rfl ?_
  refine rv_iconst h 1 dX11_addGroup_1 rv_c1 ?_
  refine rv_bipush (v := 100) h 2 dX11_addGroup_2 (by decide +kernel) ?_
  refine rv_callSi h 4 dX11_addGroup_4 (fn_X11_in hJ p1 (1 : Int32) (100 : Int32)  w) ce_X11_in lk_X11_70 rfl rfl (Nat.le_of_ble_eq_true rfl) ⟨Nat.le_of_ble_eq_true rfl, Nat.le_of_ble_eq_true rfl⟩ (fun r1 w2 => ?_)
  refine rv_if_eq (tgt := 17) h 7 dX11_addGroup_7 (by decide) (fun _ => ?_) (fun _ => ?_)
  · refine rv_ldc h 17 dX11_addGroup_17 rv_kc_X11_225 ?_
    exact rv_reti hr 19 dX11_addGroup_19
  refine rv_iload_n h 10 dX11_addGroup_10 2 rfl ?_
  refine rv_callSi h 11 dX11_addGroup_11 (fn_X11_isBallot hJ p2  w2) ce_X11_isBallot lk_X11_222 rfl rfl (Nat.le_of_ble_eq_true rfl) ⟨Nat.le_of_ble_eq_true rfl, Nat.le_of_ble_eq_true rfl⟩ (fun r3 w4 => ?_)
  refine rv_if_ne (tgt := 20) h 14 dX11_addGroup_14 (by decide) (fun _ => ?_) (fun _ => ?_)
  · refine rv_ldc h 17 dX11_addGroup_17 rv_kc_X11_225 ?_
    exact rv_reti hr 19 dX11_addGroup_19
  refine rv_aload_n h 20 dX11_addGroup_20 0 rfl ?_
  refine rv_getr h 21 dX11_addGroup_21 rv_s78 rv_fd_X11_7 rfl ?_
  refine rv_iconst h 24 dX11_addGroup_24 rv_c0 ?_
  refine rv_iald h 25 dX11_addGroup_25 rv_s79 ?_
  refine rv_bipush (v := 20) h 26 dX11_addGroup_26 (by decide +kernel) ?_
  refine rv_icmp_ne (tgt := 34) h 28 dX11_addGroup_28 (by decide) (fun _ => ?_) (fun _ => ?_)
  · refine rv_ldc h 31 dX11_addGroup_31 rv_kc_X11_226 ?_
    exact rv_reti hr 33 dX11_addGroup_33
  refine rv_aload_n h 34 dX11_addGroup_34 0 rfl ?_
  refine rv_callVv h 35 dX11_addGroup_35 (fn_X11_saves hJ   w4) ce_X11_saves lk_X11_227 rv_s78 rfl rv_cf9 rfl rfl (Nat.le_of_ble_eq_true rfl) ⟨Nat.le_of_ble_eq_true rfl, Nat.le_of_ble_eq_true rfl⟩ (fun r5 w6 => ?_)
  refine rv_aload_n h 38 dX11_addGroup_38 0 rfl ?_
  refine rv_iload_n h 39 dX11_addGroup_39 1 rfl ?_
  refine rv_iload_n h 40 dX11_addGroup_40 2 rfl ?_
  refine rv_callVv h 41 dX11_addGroup_41 (fn_X11_adds hJ p1 p2  w6) ce_X11_adds lk_X11_230 rv_s78 rfl rv_cf9 rfl rfl (Nat.le_of_ble_eq_true rfl) ⟨Nat.le_of_ble_eq_true rfl, Nat.le_of_ble_eq_true rfl⟩ (fun r7 w8 => ?_)
  refine rv_aload_n h 44 dX11_addGroup_44 0 rfl ?_
  refine rv_getr h 45 dX11_addGroup_45 rv_s78 rv_fd_X11_7 rfl ?_
  refine rv_iconst h 48 dX11_addGroup_48 rv_c0 ?_
  refine rv_iald h 49 dX11_addGroup_49 rv_s79 ?_
  refine rv_iconst h 50 dX11_addGroup_50 rv_c1 ?_
  refine rv_isub h 51 dX11_addGroup_51 ?_
  exact rv_reti hr 52 dX11_addGroup_52
def f_X11_removeGroup (p1 : Int32) (w : rv_W) : rv_R :=
  rv_bd (f_X11_isGroup p1 w) (fun (r1 : Int32) (w2 : rv_W) =>
  if r1 = 0 then
  some ((-1000001 : Int32), w2)
  else
  rv_bd (f_X11_saves  w2) (fun (r3 : Int32) (w4 : rv_W) =>
  rv_lt (((2 : Int32) + ((7 : Int32) * p1))) (fun (v5 : Int32) =>
  rv_fx (fun _ _ => none) (fun (ag6 : Int32 → rv_W → rv_R) (v8 : Int32) (w9 : rv_W) =>
  rv_ck (0 : Int32) 852 (
  if v8 < ((2 : Int32) + ((7 : Int32) * ((w9 79 (0 : Int32).toNatClampNeg) - (1 : Int32)))) then
  rv_ck (v8 + (7 : Int32)) 852 (
  rv_ck v8 852 (rv_lt (rv_up w9 79 v8.toNatClampNeg (w9 79 (v8 + (7 : Int32)).toNatClampNeg)) (fun (w11 : rv_W) =>
  rv_lt (v8 + (1 : Int32)) (fun (v12 : Int32) =>
  ag6 v12 w11))))
  else
  rv_ck (0 : Int32) 852 (
  rv_ck (0 : Int32) 852 (rv_lt (rv_up w9 79 (0 : Int32).toNatClampNeg ((w9 79 (0 : Int32).toNatClampNeg) - (1 : Int32))) (fun (w10 : rv_W) =>
  rv_ck (0 : Int32) 852 (
  some ((w10 79 (0 : Int32).toNatClampNeg), w10))))))) rv_FU v5 w4)))
set_option maxRecDepth 100000 in
set_option maxHeartbeats 4000000 in
theorem fn_X11_removeGroup {l : Launch} {D : va_G} {ad : Nat → Nat} {ca : Nat → ClassId} (hJ : rv_J ad) (p1 : Int32)  (w : rv_W) : rv_Fn l D ad ca yX11_removeGroup cX11_removeGroup 3 (some .int) 2 44 [.ref (ad 78), .int p1] w (f_X11_removeGroup p1 w) := by
  refine rv_mk (lv := [(0, .ref (ad 78)), (1, .int p1)]) hJ (by decide +kernel) (Nat.le_of_ble_eq_true rfl) rfl (fun K h hr => ?_)
  have h : rv_Rl D ad ca l RX11 cX11_removeGroup 3 2 44 K := h
  unfold f_X11_removeGroup
  refine rv_aload_n h 0 dX11_removeGroup_0 0 rfl ?_
  refine rv_iload_n h 1 dX11_removeGroup_1 1 rfl ?_
  refine rv_callVi h 2 dX11_removeGroup_2 (fn_X11_isGroup hJ p1  w) ce_X11_isGroup lk_X11_233 rv_s78 rfl rv_cf9 rfl rfl (Nat.le_of_ble_eq_true rfl) ⟨Nat.le_of_ble_eq_true rfl, Nat.le_of_ble_eq_true rfl⟩ (fun r1 w2 => ?_)
  refine rv_if_ne (tgt := 11) h 5 dX11_removeGroup_5 (by decide) (fun _ => ?_) (fun _ => ?_)
  · refine rv_ldc h 8 dX11_removeGroup_8 rv_kc_X11_236 ?_
    exact rv_reti hr 10 dX11_removeGroup_10
  refine rv_aload_n h 11 dX11_removeGroup_11 0 rfl ?_
  refine rv_callVv h 12 dX11_removeGroup_12 (fn_X11_saves hJ   w2) ce_X11_saves lk_X11_227 rv_s78 rfl rv_cf9 rfl rfl (Nat.le_of_ble_eq_true rfl) ⟨Nat.le_of_ble_eq_true rfl, Nat.le_of_ble_eq_true rfl⟩ (fun r3 w4 => ?_)
  refine rv_iconst h 15 dX11_removeGroup_15 rv_c2 ?_
  refine rv_bipush (v := 7) h 16 dX11_removeGroup_16 (by decide +kernel) ?_
  refine rv_iload_n h 18 dX11_removeGroup_18 1 rfl ?_
  refine rv_imul h 19 dX11_removeGroup_19 ?_
  refine rv_iadd h 20 dX11_removeGroup_20 ?_
  refine rv_top (fun v5 => ?_)
  refine rv_istore_n (lv' := [(2, .int v5), (0, .ref (ad 78)), (1, .int p1)]) h 21 dX11_removeGroup_21 (by decide) rfl ?_
  refine rv_sub h [1, 0] rfl ?_
  refine rv_fx_ind (fun (a0 : Int32 → rv_W → rv_R) => ∀ (v8 : Int32) (w9 : rv_W), K 22 [(0, .ref (ad 78)), (2, .int v8)] [] w9 (a0 v8 w9)) (fun _ _ => rv_none h) (fun ag6 ih7 v8 w9 => ?_) rv_FU v5 w4
  refine rv_iload_n h 22 dX11_removeGroup_22 1 rfl ?_
  refine rv_iconst h 23 dX11_removeGroup_23 rv_c2 ?_
  refine rv_bipush (v := 7) h 24 dX11_removeGroup_24 (by decide +kernel) ?_
  refine rv_aload_n h 26 dX11_removeGroup_26 0 rfl ?_
  refine rv_getr h 27 dX11_removeGroup_27 rv_s78 rv_fd_X11_7 rfl ?_
  refine rv_iconst h 30 dX11_removeGroup_30 rv_c0 ?_
  refine rv_iald h 31 dX11_removeGroup_31 rv_s79 ?_
  refine rv_iconst h 32 dX11_removeGroup_32 rv_c1 ?_
  refine rv_isub h 33 dX11_removeGroup_33 ?_
  refine rv_imul h 34 dX11_removeGroup_34 ?_
  refine rv_iadd h 35 dX11_removeGroup_35 ?_
  refine rv_icmp_ge (tgt := 60) h 36 dX11_removeGroup_36 (by decide) (fun _ => ?_) (fun _ => ?_)
  rotate_left
  · refine rv_aload_n h 60 dX11_removeGroup_60 0 rfl ?_
    refine rv_getr h 61 dX11_removeGroup_61 rv_s78 rv_fd_X11_7 rfl ?_
    refine rv_iconst h 64 dX11_removeGroup_64 rv_c0 ?_
    refine rv_dup2 h 65 dX11_removeGroup_65 rfl rfl ?_
    refine rv_iald h 66 dX11_removeGroup_66 rv_s79 ?_
    refine rv_iconst h 67 dX11_removeGroup_67 rv_c1 ?_
    refine rv_isub h 68 dX11_removeGroup_68 ?_
    refine rv_iast h 69 dX11_removeGroup_69 rv_s79 (fun w10 => ?_)
    refine rv_aload_n h 70 dX11_removeGroup_70 0 rfl ?_
    refine rv_getr h 71 dX11_removeGroup_71 rv_s78 rv_fd_X11_7 rfl ?_
    refine rv_iconst h 74 dX11_removeGroup_74 rv_c0 ?_
    refine rv_iald h 75 dX11_removeGroup_75 rv_s79 ?_
    exact rv_reti hr 76 dX11_removeGroup_76
  refine rv_aload_n h 39 dX11_removeGroup_39 0 rfl ?_
  refine rv_getr h 40 dX11_removeGroup_40 rv_s78 rv_fd_X11_7 rfl ?_
  refine rv_iload_n h 43 dX11_removeGroup_43 1 rfl ?_
  refine rv_aload_n h 44 dX11_removeGroup_44 0 rfl ?_
  refine rv_getr h 45 dX11_removeGroup_45 rv_s78 rv_fd_X11_7 rfl ?_
  refine rv_iload_n h 48 dX11_removeGroup_48 1 rfl ?_
  refine rv_bipush (v := 7) h 49 dX11_removeGroup_49 (by decide +kernel) ?_
  refine rv_iadd h 51 dX11_removeGroup_51 ?_
  refine rv_iald h 52 dX11_removeGroup_52 rv_s79 ?_
  refine rv_iast h 53 dX11_removeGroup_53 rv_s79 (fun w11 => ?_)
  refine rv_iinc h 54 (fun v12 => [(2, .int v12), (0, .ref (ad 78))]) dX11_removeGroup_54 1 rfl rv_c1 (by decide) (fun _ => rfl) (fun v12 => ?_)
  refine rv_goto (tgt := 22) h 57 dX11_removeGroup_57 (by decide) ?_
  refine rv_sub h [1, 0] rfl ?_
  exact ih7 v12 w11
def f_X11_setVoters (p1 : Int32) (p2 : Int32) (w : rv_W) : rv_R :=
  rv_bd (f_X11_isGroup p1 w) (fun (r1 : Int32) (w2 : rv_W) =>
  if r1 = 0 then
  some ((-1000001 : Int32), w2)
  else
  rv_bd (f_X11_in p2 (1 : Int32) (100 : Int32) w2) (fun (r3 : Int32) (w4 : rv_W) =>
  if r3 = 0 then
  some ((-1000002 : Int32), w4)
  else
  rv_bd (f_X11_saves  w4) (fun (r5 : Int32) (w6 : rv_W) =>
  rv_bd (f_X11_of p1 (0 : Int32) w6) (fun (r7 : Int32) (w8 : rv_W) =>
  rv_bd (f_X11_sets p1 (0 : Int32) p2 w8) (fun (r9 : Int32) (w10 : rv_W) =>
  some (r7, w10))))))
set_option maxRecDepth 100000 in
set_option maxHeartbeats 4000000 in
theorem fn_X11_setVoters {l : Launch} {D : va_G} {ad : Nat → Nat} {ca : Nat → ClassId} (hJ : rv_J ad) (p1 : Int32) (p2 : Int32)  (w : rv_W) : rv_Fn l D ad ca yX11_setVoters cX11_setVoters 4 (some .int) 2 44 [.ref (ad 78), .int p1, .int p2] w (f_X11_setVoters p1 p2 w) := by
  refine rv_mk (lv := [(0, .ref (ad 78)), (1, .int p1), (2, .int p2)]) hJ (by decide +kernel) (Nat.le_of_ble_eq_true rfl) rfl (fun K h hr => ?_)
  have h : rv_Rl D ad ca l RX11 cX11_setVoters 4 2 44 K := h
  unfold f_X11_setVoters
  refine rv_aload_n h 0 dX11_setVoters_0 0 rfl ?_
  refine rv_iload_n h 1 dX11_setVoters_1 1 rfl ?_
  refine rv_callVi h 2 dX11_setVoters_2 (fn_X11_isGroup hJ p1  w) ce_X11_isGroup lk_X11_233 rv_s78 rfl rv_cf9 rfl rfl (Nat.le_of_ble_eq_true rfl) ⟨Nat.le_of_ble_eq_true rfl, Nat.le_of_ble_eq_true rfl⟩ (fun r1 w2 => ?_)
  refine rv_if_ne (tgt := 11) h 5 dX11_setVoters_5 (by decide) (fun _ => ?_) (fun _ => ?_)
  · refine rv_ldc h 8 dX11_setVoters_8 rv_kc_X11_236 ?_
    exact rv_reti hr 10 dX11_setVoters_10
  refine rv_iload_n h 11 dX11_setVoters_11 2 rfl ?_
  refine rv_iconst h 12 dX11_setVoters_12 rv_c1 ?_
  refine rv_bipush (v := 100) h 13 dX11_setVoters_13 (by decide +kernel) ?_
  refine rv_callSi h 15 dX11_setVoters_15 (fn_X11_in hJ p2 (1 : Int32) (100 : Int32)  w2) ce_X11_in lk_X11_70 rfl rfl (Nat.le_of_ble_eq_true rfl) ⟨Nat.le_of_ble_eq_true rfl, Nat.le_of_ble_eq_true rfl⟩ (fun r3 w4 => ?_)
  refine rv_if_ne (tgt := 24) h 18 dX11_setVoters_18 (by decide) (fun _ => ?_) (fun _ => ?_)
  · refine rv_ldc h 21 dX11_setVoters_21 rv_kc_X11_225 ?_
    exact rv_reti hr 23 dX11_setVoters_23
  refine rv_aload_n h 24 dX11_setVoters_24 0 rfl ?_
  refine rv_callVv h 25 dX11_setVoters_25 (fn_X11_saves hJ   w4) ce_X11_saves lk_X11_227 rv_s78 rfl rv_cf9 rfl rfl (Nat.le_of_ble_eq_true rfl) ⟨Nat.le_of_ble_eq_true rfl, Nat.le_of_ble_eq_true rfl⟩ (fun r5 w6 => ?_)
  refine rv_aload_n h 28 dX11_setVoters_28 0 rfl ?_
  refine rv_iload_n h 29 dX11_setVoters_29 1 rfl ?_
  refine rv_iconst h 30 dX11_setVoters_30 rv_c0 ?_
  refine rv_callVi h 31 dX11_setVoters_31 (fn_X11_of hJ p1 (0 : Int32)  w6) ce_X11_of lk_X11_81 rv_s78 rfl rv_cf9 rfl rfl (Nat.le_of_ble_eq_true rfl) ⟨Nat.le_of_ble_eq_true rfl, Nat.le_of_ble_eq_true rfl⟩ (fun r7 w8 => ?_)
  refine rv_istore_n (lv' := [(3, .int r7), (0, .ref (ad 78)), (1, .int p1), (2, .int p2)]) h 34 dX11_setVoters_34 (by decide) rfl ?_
  refine rv_aload_n h 35 dX11_setVoters_35 1 rfl ?_
  refine rv_iload_n h 36 dX11_setVoters_36 2 rfl ?_
  refine rv_iconst h 37 dX11_setVoters_37 rv_c0 ?_
  refine rv_iload_n h 38 dX11_setVoters_38 3 rfl ?_
  refine rv_callVv h 39 dX11_setVoters_39 (fn_X11_sets hJ p1 (0 : Int32) p2  w8) ce_X11_sets lk_X11_218 rv_s78 rfl rv_cf9 rfl rfl (Nat.le_of_ble_eq_true rfl) ⟨Nat.le_of_ble_eq_true rfl, Nat.le_of_ble_eq_true rfl⟩ (fun r9 w10 => ?_)
  refine rv_iload_n h 42 dX11_setVoters_42 0 rfl ?_
  exact rv_reti hr 43 dX11_setVoters_43
def f_X11_exchange (p1 : Int32) (p2 : Int32) (w : rv_W) : rv_R :=
  rv_bd (f_X11_isGroup p1 w) (fun (r1 : Int32) (w2 : rv_W) =>
  if r1 = 0 then
  some ((-1000001 : Int32), w2)
  else
  rv_bd (f_X11_of p1 (1 : Int32) w2) (fun (r3 : Int32) (w4 : rv_W) =>
  rv_bd (f_X11_in p2 (0 : Int32) (r3 - (2 : Int32)) w4) (fun (r5 : Int32) (w6 : rv_W) =>
  if r5 = 0 then
  some ((-1000001 : Int32), w6)
  else
  rv_bd (f_X11_saves  w6) (fun (r7 : Int32) (w8 : rv_W) =>
  rv_bd (f_X11_of p1 ((2 : Int32) + p2) w8) (fun (r9 : Int32) (w10 : rv_W) =>
  rv_bd (f_X11_of p1 ((3 : Int32) + p2) w10) (fun (r11 : Int32) (w12 : rv_W) =>
  rv_bd (f_X11_sets p1 ((2 : Int32) + p2) r11 w12) (fun (r13 : Int32) (w14 : rv_W) =>
  rv_bd (f_X11_sets p1 ((3 : Int32) + p2) r9 w14) (fun (r15 : Int32) (w16 : rv_W) =>
  rv_bd (f_X11_ballotOf p1 w16) (fun (r17 : Int32) (w18 : rv_W) =>
  some (r17, w18))))))))))
set_option maxRecDepth 100000 in
set_option maxHeartbeats 4000000 in
theorem fn_X11_exchange {l : Launch} {D : va_G} {ad : Nat → Nat} {ca : Nat → ClassId} (hJ : rv_J ad) (p1 : Int32) (p2 : Int32)  (w : rv_W) : rv_Fn l D ad ca yX11_exchange cX11_exchange 4 (some .int) 2 45 [.ref (ad 78), .int p1, .int p2] w (f_X11_exchange p1 p2 w) := by
  refine rv_mk (lv := [(0, .ref (ad 78)), (1, .int p1), (2, .int p2)]) hJ (by decide +kernel) (Nat.le_of_ble_eq_true rfl) rfl (fun K h hr => ?_)
  have h : rv_Rl D ad ca l RX11 cX11_exchange 4 2 45 K := h
  unfold f_X11_exchange
  refine rv_aload_n h 0 dX11_exchange_0 0 rfl ?_
  refine rv_iload_n h 1 dX11_exchange_1 1 rfl ?_
  refine rv_callVi h 2 dX11_exchange_2 (fn_X11_isGroup hJ p1  w) ce_X11_isGroup lk_X11_233 rv_s78 rfl rv_cf9 rfl rfl (Nat.le_of_ble_eq_true rfl) ⟨Nat.le_of_ble_eq_true rfl, Nat.le_of_ble_eq_true rfl⟩ (fun r1 w2 => ?_)
  refine rv_if_eq (tgt := 24) h 5 dX11_exchange_5 (by decide) (fun _ => ?_) (fun _ => ?_)
  · refine rv_ldc h 24 dX11_exchange_24 rv_kc_X11_236 ?_
    exact rv_reti hr 26 dX11_exchange_26
  refine rv_iload_n h 8 dX11_exchange_8 2 rfl ?_
  refine rv_iconst h 9 dX11_exchange_9 rv_c0 ?_
  refine rv_aload_n h 10 dX11_exchange_10 0 rfl ?_
  refine rv_iload_n h 11 dX11_exchange_11 1 rfl ?_
  refine rv_iconst h 12 dX11_exchange_12 rv_c1 ?_
  refine rv_callVi h 13 dX11_exchange_13 (fn_X11_of hJ p1 (1 : Int32)  w2) ce_X11_of lk_X11_81 rv_s78 rfl rv_cf9 rfl rfl (Nat.le_of_ble_eq_true rfl) ⟨Nat.le_of_ble_eq_true rfl, Nat.le_of_ble_eq_true rfl⟩ (fun r3 w4 => ?_)
  refine rv_iconst h 16 dX11_exchange_16 rv_c2 ?_
  refine rv_isub h 17 dX11_exchange_17 ?_
  refine rv_callSi h 18 dX11_exchange_18 (fn_X11_in hJ p2 (0 : Int32) (r3 - (2 : Int32))  w4) ce_X11_in lk_X11_70 rfl rfl (Nat.le_of_ble_eq_true rfl) ⟨Nat.le_of_ble_eq_true rfl, Nat.le_of_ble_eq_true rfl⟩ (fun r5 w6 => ?_)
  refine rv_if_ne (tgt := 27) h 21 dX11_exchange_21 (by decide) (fun _ => ?_) (fun _ => ?_)
  · refine rv_ldc h 24 dX11_exchange_24 rv_kc_X11_236 ?_
    exact rv_reti hr 26 dX11_exchange_26
  refine rv_aload_n h 27 dX11_exchange_27 0 rfl ?_
  refine rv_callVv h 28 dX11_exchange_28 (fn_X11_saves hJ   w6) ce_X11_saves lk_X11_227 rv_s78 rfl rv_cf9 rfl rfl (Nat.le_of_ble_eq_true rfl) ⟨Nat.le_of_ble_eq_true rfl, Nat.le_of_ble_eq_true rfl⟩ (fun r7 w8 => ?_)
  refine rv_aload_n h 31 dX11_exchange_31 0 rfl ?_
  refine rv_iload_n h 32 dX11_exchange_32 1 rfl ?_
  refine rv_iconst h 33 dX11_exchange_33 rv_c2 ?_
  refine rv_iload_n h 34 dX11_exchange_34 2 rfl ?_
  refine rv_iadd h 35 dX11_exchange_35 ?_
  refine rv_callVi h 36 dX11_exchange_36 (fn_X11_of hJ p1 ((2 : Int32) + p2)  w8) ce_X11_of lk_X11_81 rv_s78 rfl rv_cf9 rfl rfl (Nat.le_of_ble_eq_true rfl) ⟨Nat.le_of_ble_eq_true rfl, Nat.le_of_ble_eq_true rfl⟩ (fun r9 w10 => ?_)
  refine rv_istore_n (lv' := [(3, .int r9), (0, .ref (ad 78)), (1, .int p1), (2, .int p2)]) h 39 dX11_exchange_39 (by decide) rfl ?_
  refine rv_aload_n h 40 dX11_exchange_40 1 rfl ?_
  refine rv_iload_n h 41 dX11_exchange_41 2 rfl ?_
  refine rv_iconst h 42 dX11_exchange_42 rv_c2 ?_
  refine rv_iload_n h 43 dX11_exchange_43 3 rfl ?_
  refine rv_iadd h 44 dX11_exchange_44 ?_
  refine rv_aload_n h 45 dX11_exchange_45 1 rfl ?_
  refine rv_iload_n h 46 dX11_exchange_46 2 rfl ?_
  refine rv_iconst h 47 dX11_exchange_47 rv_c3 ?_
  refine rv_iload_n h 48 dX11_exchange_48 3 rfl ?_
  refine rv_iadd h 49 dX11_exchange_49 ?_
  refine rv_callVi h 50 dX11_exchange_50 (fn_X11_of hJ p1 ((3 : Int32) + p2)  w10) ce_X11_of lk_X11_81 rv_s78 rfl rv_cf9 rfl rfl (Nat.le_of_ble_eq_true rfl) ⟨Nat.le_of_ble_eq_true rfl, Nat.le_of_ble_eq_true rfl⟩ (fun r11 w12 => ?_)
  refine rv_callVv h 53 dX11_exchange_53 (fn_X11_sets hJ p1 ((2 : Int32) + p2) r11  w12) ce_X11_sets lk_X11_218 rv_s78 rfl rv_cf9 rfl rfl (Nat.le_of_ble_eq_true rfl) ⟨Nat.le_of_ble_eq_true rfl, Nat.le_of_ble_eq_true rfl⟩ (fun r13 w14 => ?_)
  refine rv_aload_n h 56 dX11_exchange_56 1 rfl ?_
  refine rv_iload_n h 57 dX11_exchange_57 2 rfl ?_
  refine rv_iconst h 58 dX11_exchange_58 rv_c3 ?_
  refine rv_iload_n h 59 dX11_exchange_59 3 rfl ?_
  refine rv_iadd h 60 dX11_exchange_60 ?_
  refine rv_iload_n h 61 dX11_exchange_61 0 rfl ?_
  refine rv_callVv h 62 dX11_exchange_62 (fn_X11_sets hJ p1 ((3 : Int32) + p2) r9  w14) ce_X11_sets lk_X11_218 rv_s78 rfl rv_cf9 rfl rfl (Nat.le_of_ble_eq_true rfl) ⟨Nat.le_of_ble_eq_true rfl, Nat.le_of_ble_eq_true rfl⟩ (fun r15 w16 => ?_)
  refine rv_aload_n h 65 dX11_exchange_65 1 rfl ?_
  refine rv_iload_n h 66 dX11_exchange_66 2 rfl ?_
  refine rv_callVi h 67 dX11_exchange_67 (fn_X11_ballotOf hJ p1  w16) ce_X11_ballotOf lk_X11_237 rv_s78 rfl rv_cf9 rfl rfl (Nat.le_of_ble_eq_true rfl) ⟨Nat.le_of_ble_eq_true rfl, Nat.le_of_ble_eq_true rfl⟩ (fun r17 w18 => ?_)
  exact rv_reti hr 70 dX11_exchange_70
