def f_X11_sets (p1 : Int32) (p2 : Int32) (p3 : Int32) (w : rv_W) : rv_R :=
  rv_ck (((2 : Int32) + ((7 : Int32) * p1)) + p2) 852 (rv_lt (rv_up w 79 (((2 : Int32) + ((7 : Int32) * p1)) + p2).toNatClampNeg p3) (fun (w1 : rv_W) =>
  some (0, w1)))
set_option maxRecDepth 100000 in
set_option maxHeartbeats 4000000 in
theorem fn_X11_sets {l : Launch} {D : va_G} {ad : Nat → Nat} {ca : Nat → ClassId} (hJ : rv_J ad) (p1 : Int32) (p2 : Int32) (p3 : Int32)  (w : rv_W) : rv_Fn l D ad ca yX11_sets cX11_sets 4 none 0 0 [.ref (ad 78), .int p1, .int p2, .int p3] w (f_X11_sets p1 p2 p3 w) := by
  refine rv_mk (lv := [(0, .ref (ad 78)), (1, .int p1), (2, .int p2), (3, .int p3)]) hJ (by decide +kernel) (Nat.le_of_ble_eq_true rfl) rfl (fun K h hr => ?_)
  have h : rv_Rl D ad ca l RX11 cX11_sets 4 0 0 K := h
  unfold f_X11_sets
  refine rv_aload_n h 0 dX11_sets_0 0 rfl ?_
  refine rv_getr h 1 dX11_sets_1 rv_s78 rv_fd_X11_7 rfl ?_
  refine rv_iconst h 4 dX11_sets_4 rv_c2 ?_
  refine rv_bipush (v := 7) h 5 dX11_sets_5 (by decide +kernel) ?_
  refine rv_iload_n h 7 dX11_sets_7 1 rfl ?_
  refine rv_imul h 8 dX11_sets_8 ?_
  refine rv_iadd h 9 dX11_sets_9 ?_
  refine rv_iload_n h 10 dX11_sets_10 2 rfl ?_
  refine rv_iadd h 11 dX11_sets_11 ?_
  refine rv_iload_n h 12 dX11_sets_12 3 rfl ?_
  refine rv_iast h 13 dX11_sets_13 rv_s79 (fun w1 => ?_)
  exact rv_retv hr 14 dX11_sets_14
def f_X11_isGroup (p1 : Int32) (w : rv_W) : rv_R :=
  rv_ck (0 : Int32) 852 (
  rv_bd (f_X11_in p1 (0 : Int32) ((w 79 (0 : Int32).toNatClampNeg) - (1 : Int32)) w) (fun (r1 : Int32) (w2 : rv_W) =>
  rv_gd (r1 = 0 ∨ r1 = 1) (some (r1, w2))))
set_option maxRecDepth 100000 in
set_option maxHeartbeats 4000000 in
theorem fn_X11_isGroup {l : Launch} {D : va_G} {ad : Nat → Nat} {ca : Nat → ClassId} (hJ : rv_J ad) (p1 : Int32)  (w : rv_W) : rv_Fn l D ad ca yX11_isGroup cX11_isGroup 2 (some .boolean) 1 22 [.ref (ad 78), .int p1] w (f_X11_isGroup p1 w) := by
  refine rv_mk (lv := [(0, .ref (ad 78)), (1, .int p1)]) hJ (by decide +kernel) (Nat.le_of_ble_eq_true rfl) rfl (fun K h hr => ?_)
  have h : rv_Rl D ad ca l RX11 cX11_isGroup 2 1 22 K := h
  unfold f_X11_isGroup
  refine rv_iload_n h 0 dX11_isGroup_0 1 rfl ?_
  refine rv_iconst h 1 dX11_isGroup_1 rv_c0 ?_
  refine rv_aload_n h 2 dX11_isGroup_2 0 rfl ?_
  refine rv_getr h 3 dX11_isGroup_3 rv_s78 rv_fd_X11_7 rfl ?_
  refine rv_iconst h 6 dX11_isGroup_6 rv_c0 ?_
  refine rv_iald h 7 dX11_isGroup_7 rv_s79 ?_
  refine rv_iconst h 8 dX11_isGroup_8 rv_c1 ?_
  refine rv_isub h 9 dX11_isGroup_9 ?_
  refine rv_callSi h 10 dX11_isGroup_10 (fn_X11_in hJ p1 (0 : Int32) ((w 79 (0 : Int32).toNatClampNeg) - (1 : Int32))  w) ce_X11_in lk_X11_70 rfl rfl (Nat.le_of_ble_eq_true rfl) ⟨Nat.le_of_ble_eq_true rfl, Nat.le_of_ble_eq_true rfl⟩ (fun r1 w2 => ?_)
  exact rv_retz h hr 13 dX11_isGroup_13
def f_X11_isCandidate (p1 : Int32) (w : rv_W) : rv_R :=
  rv_bd (f_X11_in p1 (0 : Int32) (4 : Int32) w) (fun (r1 : Int32) (w2 : rv_W) =>
  rv_gd (r1 = 0 ∨ r1 = 1) (some (r1, w2)))
set_option maxRecDepth 100000 in
set_option maxHeartbeats 4000000 in
theorem fn_X11_isCandidate {l : Launch} {D : va_G} {ad : Nat → Nat} {ca : Nat → ClassId} (hJ : rv_J ad) (p1 : Int32)  (w : rv_W) : rv_Fn l D ad ca yX11_isCandidate cX11_isCandidate 1 (some .boolean) 1 22 [.int p1] w (f_X11_isCandidate p1 w) := by
  refine rv_mk (lv := [(0, .int p1)]) hJ (by decide +kernel) (Nat.le_of_ble_eq_true rfl) rfl (fun K h hr => ?_)
  have h : rv_Rl D ad ca l RX11 cX11_isCandidate 1 1 22 K := h
  unfold f_X11_isCandidate
  refine rv_iload_n h 0 dX11_isCandidate_0 0 rfl ?_
  refine rv_iconst h 1 dX11_isCandidate_1 rv_c0 ?_
  refine rv_iconst h 2 dX11_isCandidate_2 rv_c4 ?_
  refine rv_callSi h 3 dX11_isCandidate_3 (fn_X11_in hJ p1 (0 : Int32) (4 : Int32)  w) ce_X11_in lk_X11_70 rfl rfl (Nat.le_of_ble_eq_true rfl) ⟨Nat.le_of_ble_eq_true rfl, Nat.le_of_ble_eq_true rfl⟩ (fun r1 w2 => ?_)
  exact rv_retz h hr 6 dX11_isCandidate_6
def f_X11_isRule (p1 : Int32) (w : rv_W) : rv_R :=
  rv_bd (f_X11_in p1 (0 : Int32) (11 : Int32) w) (fun (r1 : Int32) (w2 : rv_W) =>
  rv_gd (r1 = 0 ∨ r1 = 1) (some (r1, w2)))
set_option maxRecDepth 100000 in
set_option maxHeartbeats 4000000 in
theorem fn_X11_isRule {l : Launch} {D : va_G} {ad : Nat → Nat} {ca : Nat → ClassId} (hJ : rv_J ad) (p1 : Int32)  (w : rv_W) : rv_Fn l D ad ca yX11_isRule cX11_isRule 1 (some .boolean) 1 22 [.int p1] w (f_X11_isRule p1 w) := by
  refine rv_mk (lv := [(0, .int p1)]) hJ (by decide +kernel) (Nat.le_of_ble_eq_true rfl) rfl (fun K h hr => ?_)
  have h : rv_Rl D ad ca l RX11 cX11_isRule 1 1 22 K := h
  unfold f_X11_isRule
  refine rv_iload_n h 0 dX11_isRule_0 0 rfl ?_
  refine rv_iconst h 1 dX11_isRule_1 rv_c0 ?_
  refine rv_bipush (v := 11) h 2 dX11_isRule_2 (by decide +kernel) ?_
  refine rv_callSi h 4 dX11_isRule_4 (fn_X11_in hJ p1 (0 : Int32) (11 : Int32)  w) ce_X11_in lk_X11_70 rfl rfl (Nat.le_of_ble_eq_true rfl) ⟨Nat.le_of_ble_eq_true rfl, Nat.le_of_ble_eq_true rfl⟩ (fun r1 w2 => ?_)
  exact rv_retz h hr 7 dX11_isRule_7
def f_X11_has (p1 : Int32) (p2 : Int32) (w : rv_W) : rv_R :=
  if ((p1 >>> (p2 &&& 31)) &&& (1 : Int32)) = (1 : Int32) then
  some ((1 : Int32), w)
  else
  some ((0 : Int32), w)
set_option maxRecDepth 100000 in
set_option maxHeartbeats 4000000 in
theorem fn_X11_has {l : Launch} {D : va_G} {ad : Nat → Nat} {ca : Nat → ClassId} (hJ : rv_J ad) (p1 : Int32) (p2 : Int32)  (w : rv_W) : rv_Fn l D ad ca yX11_has cX11_has 2 (some .boolean) 0 0 [.int p1, .int p2] w (f_X11_has p1 p2 w) := by
  refine rv_mk (lv := [(0, .int p1), (1, .int p2)]) hJ (by decide +kernel) (Nat.le_of_ble_eq_true rfl) rfl (fun K h hr => ?_)
  have h : rv_Rl D ad ca l RX11 cX11_has 2 0 0 K := h
  unfold f_X11_has
  refine rv_iload_n h 0 dX11_has_0 0 rfl ?_
  refine rv_iload_n h 1 dX11_has_1 1 rfl ?_
  refine rv_ishr h 2 dX11_has_2 ?_
  refine rv_iconst h 3 dX11_has_3 rv_c1 ?_
  refine rv_iand h 4 dX11_has_4 ?_
  refine rv_iconst h 5 dX11_has_5 rv_c1 ?_
  refine rv_icmp_ne (tgt := 13) h 6 dX11_has_6 (by decide) (fun _ => ?_) (fun _ => ?_)
  rotate_left
  · refine rv_iconst h 13 dX11_has_13 rv_c0 ?_
    exact rv_retz0 hr 14 dX11_has_14
  refine rv_iconst h 9 dX11_has_9 rv_c1 ?_
  refine rv_goto (tgt := 14) h 10 dX11_has_10 (by decide) ?_
  exact rv_retz1 hr 14 dX11_has_14
def f_X11_many (p1 : Int32) (w : rv_W) : rv_R :=
  rv_fx (fun _ _ _ => none) (fun (ag1 : Int32 → Int32 → rv_W → rv_R) (v3 : Int32) (v4 : Int32) (w5 : rv_W) =>
  if v4 < (5 : Int32) then
  rv_lt ((v3 + ((p1 >>> (v4 &&& 31)) &&& (1 : Int32)))) (fun (v6 : Int32) =>
  rv_lt (v4 + (1 : Int32)) (fun (v7 : Int32) =>
  ag1 v6 v7 w5))
  else
  some (v3, w5)) rv_FU (0 : Int32) (0 : Int32) w
set_option maxRecDepth 100000 in
set_option maxHeartbeats 4000000 in
theorem fn_X11_many {l : Launch} {D : va_G} {ad : Nat → Nat} {ca : Nat → ClassId} (hJ : rv_J ad) (p1 : Int32)  (w : rv_W) : rv_Fn l D ad ca yX11_many cX11_many 3 (some .int) 0 0 [.int p1] w (f_X11_many p1 w) := by
  refine rv_mk (lv := [(0, .int p1)]) hJ (by decide +kernel) (Nat.le_of_ble_eq_true rfl) rfl (fun K h hr => ?_)
  have h : rv_Rl D ad ca l RX11 cX11_many 3 0 0 K := h
  unfold f_X11_many
  refine rv_iconst h 0 dX11_many_0 rv_c0 ?_
  refine rv_istore_n (lv' := [(1, .int (0 : Int32)), (0, .int p1)]) h 1 dX11_many_1 (by decide) rfl ?_
  refine rv_iconst h 2 dX11_many_2 rv_c0 ?_
  refine rv_istore_n (lv' := [(2, .int (0 : Int32)), (1, .int (0 : Int32)), (0, .int p1)]) h 3 dX11_many_3 (by decide) rfl ?_
  refine rv_sub h [2, 1, 0] rfl ?_
  refine rv_fx_ind (fun (a0 : Int32 → Int32 → rv_W → rv_R) => ∀ (v3 : Int32) (v4 : Int32) (w5 : rv_W), K 4 [(0, .int p1), (1, .int v3), (2, .int v4)] [] w5 (a0 v3 v4 w5)) (fun _ _ _ => rv_none h) (fun ag1 ih2 v3 v4 w5 => ?_) rv_FU (0 : Int32) (0 : Int32) w
  refine rv_iload_n h 4 dX11_many_4 2 rfl ?_
  refine rv_iconst h 5 dX11_many_5 rv_c5 ?_
  refine rv_icmp_ge (tgt := 23) h 6 dX11_many_6 (by decide) (fun _ => ?_) (fun _ => ?_)
  rotate_left
  · refine rv_iload_n h 23 dX11_many_23 1 rfl ?_
    exact rv_reti hr 24 dX11_many_24
  refine rv_iload_n h 9 dX11_many_9 1 rfl ?_
  refine rv_iload_n h 10 dX11_many_10 0 rfl ?_
  refine rv_iload_n h 11 dX11_many_11 2 rfl ?_
  refine rv_ishr h 12 dX11_many_12 ?_
  refine rv_iconst h 13 dX11_many_13 rv_c1 ?_
  refine rv_iand h 14 dX11_many_14 ?_
  refine rv_iadd h 15 dX11_many_15 ?_
  refine rv_top (fun v6 => ?_)
  refine rv_istore_n (lv' := [(1, .int v6), (0, .int p1), (2, .int v4)]) h 16 dX11_many_16 (by decide) rfl ?_
  refine rv_iinc h 17 (fun v7 => [(2, .int v7), (1, .int v6), (0, .int p1)]) dX11_many_17 2 rfl rv_c1 (by decide) (fun _ => rfl) (fun v7 => ?_)
  refine rv_goto (tgt := 4) h 20 dX11_many_20 (by decide) ?_
  refine rv_sub h [2, 1, 0] rfl ?_
  exact ih2 v6 v7 w5
def f_X11_lowest (p1 : Int32) (w : rv_W) : rv_R :=
  rv_fx (fun _ _ => none) (fun (ag1 : Int32 → rv_W → rv_R) (v3 : Int32) (w4 : rv_W) =>
  rv_bd (f_X11_has p1 v3 w4) (fun (r5 : Int32) (w6 : rv_W) =>
  if r5 = 0 then
  rv_lt (v3 + (1 : Int32)) (fun (v7 : Int32) =>
  ag1 v7 w6)
  else
  some (v3, w6))) rv_FU (0 : Int32) w
set_option maxRecDepth 100000 in
set_option maxHeartbeats 4000000 in
theorem fn_X11_lowest {l : Launch} {D : va_G} {ad : Nat → Nat} {ca : Nat → ClassId} (hJ : rv_J ad) (p1 : Int32)  (w : rv_W) : rv_Fn l D ad ca yX11_lowest cX11_lowest 2 (some .int) 1 21 [.int p1] w (f_X11_lowest p1 w) := by
  refine rv_mk (lv := [(0, .int p1)]) hJ (by decide +kernel) (Nat.le_of_ble_eq_true rfl) rfl (fun K h hr => ?_)
  have h : rv_Rl D ad ca l RX11 cX11_lowest 2 1 21 K := h
  unfold f_X11_lowest
  refine rv_iconst h 0 dX11_lowest_0 rv_c0 ?_
  refine rv_istore_n (lv' := [(1, .int (0 : Int32)), (0, .int p1)]) h 1 dX11_lowest_1 (by decide) rfl ?_
  refine rv_sub h [1, 0] rfl ?_
  refine rv_fx_ind (fun (a0 : Int32 → rv_W → rv_R) => ∀ (v3 : Int32) (w4 : rv_W), K 2 [(0, .int p1), (1, .int v3)] [] w4 (a0 v3 w4)) (fun _ _ => rv_none h) (fun ag1 ih2 v3 w4 => ?_) rv_FU (0 : Int32) w
  refine rv_iload_n h 2 dX11_lowest_2 0 rfl ?_
  refine rv_iload_n h 3 dX11_lowest_3 1 rfl ?_
  refine rv_callSi h 4 dX11_lowest_4 (fn_X11_has hJ p1 v3  w4) ce_X11_has lk_X11_74 rfl rfl (Nat.le_of_ble_eq_true rfl) ⟨Nat.le_of_ble_eq_true rfl, Nat.le_of_ble_eq_true rfl⟩ (fun r5 w6 => ?_)
  refine rv_if_ne (tgt := 16) h 7 dX11_lowest_7 (by decide) (fun _ => ?_) (fun _ => ?_)
  rotate_left
  · refine rv_iload_n h 16 dX11_lowest_16 1 rfl ?_
    exact rv_reti hr 17 dX11_lowest_17
  refine rv_iinc h 10 (fun v7 => [(1, .int v7), (0, .int p1)]) dX11_lowest_10 1 rfl rv_c1 (by decide) (fun _ => rfl) (fun v7 => ?_)
  refine rv_goto (tgt := 2) h 13 dX11_lowest_13 (by decide) ?_
  refine rv_sub h [1, 0] rfl ?_
  exact ih2 v7 w6
def f_X11_loadsBallot (p1 : Int32) (w : rv_W) : rv_R :=
  rv_fx (fun _ _ => none) (fun (ag1 : Int32 → rv_W → rv_R) (v3 : Int32) (w4 : rv_W) =>
  if v3 < (5 : Int32) then
  rv_ck (((5 : Int32) * p1) + v3) 100 (rv_lt (rv_up w4 82 (((5 : Int32) * p1) + v3).toNatClampNeg (9 : Int32)) (fun (w15 : rv_W) =>
  rv_lt (v3 + (1 : Int32)) (fun (v16 : Int32) =>
  ag1 v16 w15)))
  else
  rv_fx (fun _ _ => none) (fun (ag5 : Int32 → rv_W → rv_R) (v7 : Int32) (w8 : rv_W) =>
  rv_bd (f_X11_of p1 (1 : Int32) w8) (fun (r9 : Int32) (w10 : rv_W) =>
  if v7 < r9 then
  rv_bd (f_X11_of p1 ((2 : Int32) + v7) w10) (fun (r11 : Int32) (w12 : rv_W) =>
  rv_ck (((5 : Int32) * p1) + r11) 100 (rv_lt (rv_up w12 82 (((5 : Int32) * p1) + r11).toNatClampNeg v7) (fun (w13 : rv_W) =>
  rv_lt (v7 + (1 : Int32)) (fun (v14 : Int32) =>
  ag5 v14 w13))))
  else
  some (0, w10))) rv_FU (0 : Int32) w4) rv_FU (0 : Int32) w
set_option maxRecDepth 100000 in
set_option maxHeartbeats 4000000 in
theorem fn_X11_loadsBallot {l : Launch} {D : va_G} {ad : Nat → Nat} {ca : Nat → ClassId} (hJ : rv_J ad) (p1 : Int32)  (w : rv_W) : rv_Fn l D ad ca yX11_loadsBallot cX11_loadsBallot 3 none 1 22 [.ref (ad 78), .int p1] w (f_X11_loadsBallot p1 w) := by
  refine rv_mk (lv := [(0, .ref (ad 78)), (1, .int p1)]) hJ (by decide +kernel) (Nat.le_of_ble_eq_true rfl) rfl (fun K h hr => ?_)
  have h : rv_Rl D ad ca l RX11 cX11_loadsBallot 3 1 22 K := h
  unfold f_X11_loadsBallot
  refine rv_iconst h 0 dX11_loadsBallot_0 rv_c0 ?_
  refine rv_istore_n (lv' := [(2, .int (0 : Int32)), (0, .ref (ad 78)), (1, .int p1)]) h 1 dX11_loadsBallot_1 (by decide) rfl ?_
  refine rv_sub h [1, 2, 0] rfl ?_
  refine rv_fx_ind (fun (a0 : Int32 → rv_W → rv_R) => ∀ (v3 : Int32) (w4 : rv_W), K 2 [(0, .ref (ad 78)), (1, .int p1), (2, .int v3)] [] w4 (a0 v3 w4)) (fun _ _ => rv_none h) (fun ag1 ih2 v3 w4 => ?_) rv_FU (0 : Int32) w
  refine rv_iload_n h 2 dX11_loadsBallot_2 2 rfl ?_
  refine rv_iconst h 3 dX11_loadsBallot_3 rv_c5 ?_
  refine rv_icmp_ge (tgt := 25) h 4 dX11_loadsBallot_4 (by decide) (fun _ => ?_) (fun _ => ?_)
  · refine rv_aload_n h 7 dX11_loadsBallot_7 0 rfl ?_
    refine rv_getr h 8 dX11_loadsBallot_8 rv_s78 rv_fd_X11_19 rfl ?_
    refine rv_iconst h 11 dX11_loadsBallot_11 rv_c5 ?_
    refine rv_iload_n h 12 dX11_loadsBallot_12 1 rfl ?_
    refine rv_imul h 13 dX11_loadsBallot_13 ?_
    refine rv_iload_n h 14 dX11_loadsBallot_14 2 rfl ?_
    refine rv_iadd h 15 dX11_loadsBallot_15 ?_
    refine rv_bipush (v := 9) h 16 dX11_loadsBallot_16 (by decide +kernel) ?_
    refine rv_iast h 18 dX11_loadsBallot_18 rv_s82 (fun w15 => ?_)
    refine rv_iinc h 19 (fun v16 => [(2, .int v16), (0, .ref (ad 78)), (1, .int p1)]) dX11_loadsBallot_19 2 rfl rv_c1 (by decide) (fun _ => rfl) (fun v16 => ?_)
    refine rv_goto (tgt := 2) h 22 dX11_loadsBallot_22 (by decide) ?_
    refine rv_sub h [1, 2, 0] rfl ?_
    exact ih2 v16 w15
  refine rv_iconst h 25 dX11_loadsBallot_25 rv_c0 ?_
  refine rv_istore_n (lv' := [(2, .int (0 : Int32)), (0, .ref (ad 78)), (1, .int p1)]) h 26 dX11_loadsBallot_26 (by decide) rfl ?_
  refine rv_sub h [1, 2, 0] rfl ?_
  refine rv_fx_ind (fun (a0 : Int32 → rv_W → rv_R) => ∀ (v7 : Int32) (w8 : rv_W), K 27 [(0, .ref (ad 78)), (1, .int p1), (2, .int v7)] [] w8 (a0 v7 w8)) (fun _ _ => rv_none h) (fun ag5 ih6 v7 w8 => ?_) rv_FU (0 : Int32) w4
  refine rv_iload_n h 27 dX11_loadsBallot_27 2 rfl ?_
  refine rv_aload_n h 28 dX11_loadsBallot_28 0 rfl ?_
  refine rv_iload_n h 29 dX11_loadsBallot_29 1 rfl ?_
  refine rv_iconst h 30 dX11_loadsBallot_30 rv_c1 ?_
  refine rv_callVi h 31 dX11_loadsBallot_31 (fn_X11_of hJ p1 (1 : Int32)  w8) ce_X11_of lk_X11_81 rv_s78 rfl rv_cf9 rfl rfl (Nat.le_of_ble_eq_true rfl) ⟨Nat.le_of_ble_eq_true rfl, Nat.le_of_ble_eq_true rfl⟩ (fun r9 w10 => ?_)
  refine rv_icmp_ge (tgt := 61) h 34 dX11_loadsBallot_34 (by decide) (fun _ => ?_) (fun _ => ?_)
  rotate_left
  · exact rv_retv hr 61 dX11_loadsBallot_61
  refine rv_aload_n h 37 dX11_loadsBallot_37 0 rfl ?_
  refine rv_getr h 38 dX11_loadsBallot_38 rv_s78 rv_fd_X11_19 rfl ?_
  refine rv_iconst h 41 dX11_loadsBallot_41 rv_c5 ?_
  refine rv_iload_n h 42 dX11_loadsBallot_42 1 rfl ?_
  refine rv_imul h 43 dX11_loadsBallot_43 ?_
  refine rv_aload_n h 44 dX11_loadsBallot_44 0 rfl ?_
  refine rv_iload_n h 45 dX11_loadsBallot_45 1 rfl ?_
  refine rv_iconst h 46 dX11_loadsBallot_46 rv_c2 ?_
  refine rv_iload_n h 47 dX11_loadsBallot_47 2 rfl ?_
  refine rv_iadd h 48 dX11_loadsBallot_48 ?_
  refine rv_callVi h 49 dX11_loadsBallot_49 (fn_X11_of hJ p1 ((2 : Int32) + v7)  w10) ce_X11_of lk_X11_81 rv_s78 rfl rv_cf9 rfl rfl (Nat.le_of_ble_eq_true rfl) ⟨Nat.le_of_ble_eq_true rfl, Nat.le_of_ble_eq_true rfl⟩ (fun r11 w12 => ?_)
  refine rv_iadd h 52 dX11_loadsBallot_52 ?_
  refine rv_iload_n h 53 dX11_loadsBallot_53 2 rfl ?_
  refine rv_iast h 54 dX11_loadsBallot_54 rv_s82 (fun w13 => ?_)
  refine rv_iinc h 55 (fun v14 => [(2, .int v14), (0, .ref (ad 78)), (1, .int p1)]) dX11_loadsBallot_55 2 rfl rv_c1 (by decide) (fun _ => rfl) (fun v14 => ?_)
  refine rv_goto (tgt := 27) h 58 dX11_loadsBallot_58 (by decide) ?_
  refine rv_sub h [1, 2, 0] rfl ?_
  exact ih6 v14 w13
def f_X11_loads  (w : rv_W) : rv_R :=
  rv_ck (0 : Int32) 852 (
  rv_lt (rv_up w 78 6 (w 79 (0 : Int32).toNatClampNeg)) (fun (w1 : rv_W) =>
  rv_fx (fun _ _ => none) (fun (ag2 : Int32 → rv_W → rv_R) (v4 : Int32) (w5 : rv_W) =>
  if v4 < (w5 78 6) then
  rv_bd (f_X11_of v4 (0 : Int32) w5) (fun (r6 : Int32) (w7 : rv_W) =>
  rv_ck v4 20 (rv_lt (rv_up w7 81 v4.toNatClampNeg r6) (fun (w8 : rv_W) =>
  rv_bd (f_X11_loadsBallot v4 w8) (fun (r9 : Int32) (w10 : rv_W) =>
  rv_lt (v4 + (1 : Int32)) (fun (v11 : Int32) =>
  ag2 v11 w10)))))
  else
  some (0, w5)) rv_FU (0 : Int32) w1))
set_option maxRecDepth 100000 in
set_option maxHeartbeats 4000000 in
theorem fn_X11_loads {l : Launch} {D : va_G} {ad : Nat → Nat} {ca : Nat → ClassId} (hJ : rv_J ad)   (w : rv_W) : rv_Fn l D ad ca yX11_loads cX11_loads 2 none 2 44 [.ref (ad 78)] w (f_X11_loads  w) := by
  refine rv_mk (lv := [(0, .ref (ad 78))]) hJ (by decide +kernel) (Nat.le_of_ble_eq_true rfl) rfl (fun K h hr => ?_)
  have h : rv_Rl D ad ca l RX11 cX11_loads 2 2 44 K := h
  unfold f_X11_loads
  refine rv_aload_n h 0 dX11_loads_0 0 rfl ?_
  refine rv_aload_n h 1 dX11_loads_1 0 rfl ?_
  refine rv_getr h 2 dX11_loads_2 rv_s78 rv_fd_X11_7 rfl ?_
  refine rv_iconst h 5 dX11_loads_5 rv_c0 ?_
  refine rv_iald h 6 dX11_loads_6 rv_s79 ?_
  refine rv_puti h 7 dX11_loads_7 rv_s78 rv_fd_X11_78 rfl ⟨rfl, rfl⟩ (fun w1 => ?_)
  refine rv_iconst h 10 dX11_loads_10 rv_c0 ?_
  refine rv_istore_n (lv' := [(1, .int (0 : Int32)), (0, .ref (ad 78))]) h 11 dX11_loads_11 (by decide) rfl ?_
  refine rv_sub h [1, 0] rfl ?_
  refine rv_fx_ind (fun (a0 : Int32 → rv_W → rv_R) => ∀ (v4 : Int32) (w5 : rv_W), K 12 [(0, .ref (ad 78)), (1, .int v4)] [] w5 (a0 v4 w5)) (fun _ _ => rv_none h) (fun ag2 ih3 v4 w5 => ?_) rv_FU (0 : Int32) w1
  refine rv_iload_n h 12 dX11_loads_12 1 rfl ?_
  refine rv_aload_n h 13 dX11_loads_13 0 rfl ?_
  refine rv_geti h 14 dX11_loads_14 rv_s78 rv_fd_X11_78 rfl ?_
  refine rv_icmp_ge (tgt := 43) h 17 dX11_loads_17 (by decide) (fun _ => ?_) (fun _ => ?_)
  rotate_left
  · exact rv_retv hr 43 dX11_loads_43
  refine rv_aload_n h 20 dX11_loads_20 0 rfl ?_
  refine rv_getr h 21 dX11_loads_21 rv_s78 rv_fd_X11_16 rfl ?_
  refine rv_iload_n h 24 dX11_loads_24 1 rfl ?_
  refine rv_aload_n h 25 dX11_loads_25 0 rfl ?_
  refine rv_iload_n h 26 dX11_loads_26 1 rfl ?_
  refine rv_iconst h 27 dX11_loads_27 rv_c0 ?_
  refine rv_callVi h 28 dX11_loads_28 (fn_X11_of hJ v4 (0 : Int32)  w5) ce_X11_of lk_X11_81 rv_s78 rfl rv_cf9 rfl rfl (Nat.le_of_ble_eq_true rfl) ⟨Nat.le_of_ble_eq_true rfl, Nat.le_of_ble_eq_true rfl⟩ (fun r6 w7 => ?_)
  refine rv_iast h 31 dX11_loads_31 rv_s81 (fun w8 => ?_)
  refine rv_aload_n h 32 dX11_loads_32 0 rfl ?_
  refine rv_iload_n h 33 dX11_loads_33 1 rfl ?_
  refine rv_callVv h 34 dX11_loads_34 (fn_X11_loadsBallot hJ v4  w8) ce_X11_loadsBallot lk_X11_85 rv_s78 rfl rv_cf9 rfl rfl (Nat.le_of_ble_eq_true rfl) ⟨Nat.le_of_ble_eq_true rfl, Nat.le_of_ble_eq_true rfl⟩ (fun r9 w10 => ?_)
  refine rv_iinc h 37 (fun v11 => [(1, .int v11), (0, .ref (ad 78))]) dX11_loads_37 1 rfl rv_c1 (by decide) (fun _ => rfl) (fun v11 => ?_)
  refine rv_goto (tgt := 12) h 40 dX11_loads_40 (by decide) ?_
  refine rv_sub h [1, 0] rfl ?_
  exact ih3 v11 w10
def f_X11_isOn (p1 : Int32) (p2 : Int32) (w : rv_W) : rv_R :=
  rv_ck (((5 : Int32) * p1) + p2) 100 (
  if (w 82 (((5 : Int32) * p1) + p2).toNatClampNeg) < (9 : Int32) then
  some ((1 : Int32), w)
  else
  some ((0 : Int32), w))
set_option maxRecDepth 100000 in
set_option maxHeartbeats 4000000 in
theorem fn_X11_isOn {l : Launch} {D : va_G} {ad : Nat → Nat} {ca : Nat → ClassId} (hJ : rv_J ad) (p1 : Int32) (p2 : Int32)  (w : rv_W) : rv_Fn l D ad ca yX11_isOn cX11_isOn 3 (some .boolean) 0 0 [.ref (ad 78), .int p1, .int p2] w (f_X11_isOn p1 p2 w) := by
  refine rv_mk (lv := [(0, .ref (ad 78)), (1, .int p1), (2, .int p2)]) hJ (by decide +kernel) (Nat.le_of_ble_eq_true rfl) rfl (fun K h hr => ?_)
  have h : rv_Rl D ad ca l RX11 cX11_isOn 3 0 0 K := h
  unfold f_X11_isOn
  refine rv_aload_n h 0 dX11_isOn_0 0 rfl ?_
  refine rv_getr h 1 dX11_isOn_1 rv_s78 rv_fd_X11_19 rfl ?_
  refine rv_iconst h 4 dX11_isOn_4 rv_c5 ?_
  refine rv_iload_n h 5 dX11_isOn_5 1 rfl ?_
  refine rv_imul h 6 dX11_isOn_6 ?_
  refine rv_iload_n h 7 dX11_isOn_7 2 rfl ?_
  refine rv_iadd h 8 dX11_isOn_8 ?_
  refine rv_iald h 9 dX11_isOn_9 rv_s82 ?_
  refine rv_bipush (v := 9) h 10 dX11_isOn_10 (by decide +kernel) ?_
  refine rv_icmp_ge (tgt := 19) h 12 dX11_isOn_12 (by decide) (fun _ => ?_) (fun _ => ?_)
  rotate_left
  · refine rv_iconst h 19 dX11_isOn_19 rv_c0 ?_
    exact rv_retz0 hr 20 dX11_isOn_20
  refine rv_iconst h 15 dX11_isOn_15 rv_c1 ?_
  refine rv_goto (tgt := 20) h 16 dX11_isOn_16 (by decide) ?_
  exact rv_retz1 hr 20 dX11_isOn_20
def f_X11_isAbove (p1 : Int32) (p2 : Int32) (p3 : Int32) (w : rv_W) : rv_R :=
  rv_ck (((5 : Int32) * p1) + p2) 100 (
  rv_ck (((5 : Int32) * p1) + p3) 100 (
  if (w 82 (((5 : Int32) * p1) + p2).toNatClampNeg) < (w 82 (((5 : Int32) * p1) + p3).toNatClampNeg) then
  some ((1 : Int32), w)
  else
  some ((0 : Int32), w)))
set_option maxRecDepth 100000 in
set_option maxHeartbeats 4000000 in
theorem fn_X11_isAbove {l : Launch} {D : va_G} {ad : Nat → Nat} {ca : Nat → ClassId} (hJ : rv_J ad) (p1 : Int32) (p2 : Int32) (p3 : Int32)  (w : rv_W) : rv_Fn l D ad ca yX11_isAbove cX11_isAbove 4 (some .boolean) 0 0 [.ref (ad 78), .int p1, .int p2, .int p3] w (f_X11_isAbove p1 p2 p3 w) := by
  refine rv_mk (lv := [(0, .ref (ad 78)), (1, .int p1), (2, .int p2), (3, .int p3)]) hJ (by decide +kernel) (Nat.le_of_ble_eq_true rfl) rfl (fun K h hr => ?_)
  have h : rv_Rl D ad ca l RX11 cX11_isAbove 4 0 0 K := h
  unfold f_X11_isAbove
  refine rv_aload_n h 0 dX11_isAbove_0 0 rfl ?_
  refine rv_getr h 1 dX11_isAbove_1 rv_s78 rv_fd_X11_19 rfl ?_
  refine rv_iconst h 4 dX11_isAbove_4 rv_c5 ?_
  refine rv_iload_n h 5 dX11_isAbove_5 1 rfl ?_
  refine rv_imul h 6 dX11_isAbove_6 ?_
  refine rv_iload_n h 7 dX11_isAbove_7 2 rfl ?_
  refine rv_iadd h 8 dX11_isAbove_8 ?_
  refine rv_iald h 9 dX11_isAbove_9 rv_s82 ?_
  refine rv_aload_n h 10 dX11_isAbove_10 0 rfl ?_
  refine rv_getr h 11 dX11_isAbove_11 rv_s78 rv_fd_X11_19 rfl ?_
  refine rv_iconst h 14 dX11_isAbove_14 rv_c5 ?_
  refine rv_iload_n h 15 dX11_isAbove_15 1 rfl ?_
  refine rv_imul h 16 dX11_isAbove_16 ?_
  refine rv_iload_n h 17 dX11_isAbove_17 3 rfl ?_
  refine rv_iadd h 18 dX11_isAbove_18 ?_
  refine rv_iald h 19 dX11_isAbove_19 rv_s82 ?_
  refine rv_icmp_ge (tgt := 27) h 20 dX11_isAbove_20 (by decide) (fun _ => ?_) (fun _ => ?_)
  rotate_left
  · refine rv_iconst h 27 dX11_isAbove_27 rv_c0 ?_
    exact rv_retz0 hr 28 dX11_isAbove_28
  refine rv_iconst h 23 dX11_isAbove_23 rv_c1 ?_
  refine rv_goto (tgt := 28) h 24 dX11_isAbove_24 (by decide) ?_
  exact rv_retz1 hr 28 dX11_isAbove_28
def f_X11_above (p1 : Int32) (p2 : Int32) (p3 : Int32) (w : rv_W) : rv_R :=
  rv_fx (fun _ _ _ => none) (fun (ag1 : Int32 → Int32 → rv_W → rv_R) (v3 : Int32) (v4 : Int32) (w5 : rv_W) =>
  if v4 < (5 : Int32) then
  rv_bd (f_X11_has p3 v4 w5) (fun (r6 : Int32) (w7 : rv_W) =>
  rv_jn (fun  (w8 : rv_W) =>
  rv_lt ((v3 + (0 : Int32))) (fun (v11 : Int32) =>
  rv_lt (v4 + (1 : Int32)) (fun (v12 : Int32) =>
  ag1 v11 v12 w8))) (fun (k9 : rv_W → rv_R) =>
  if r6 = 0 then
  k9 w7
  else
  rv_bd (f_X11_isAbove p1 v4 p2 w7) (fun (r13 : Int32) (w14 : rv_W) =>
  if r13 = 0 then
  k9 w14
  else
  rv_lt ((v3 + (1 : Int32))) (fun (v15 : Int32) =>
  rv_lt (v4 + (1 : Int32)) (fun (v16 : Int32) =>
  ag1 v15 v16 w14)))))
  else
  some (v3, w5)) rv_FU (0 : Int32) (0 : Int32) w
set_option maxRecDepth 100000 in
set_option maxHeartbeats 4000000 in
theorem fn_X11_above {l : Launch} {D : va_G} {ad : Nat → Nat} {ca : Nat → ClassId} (hJ : rv_J ad) (p1 : Int32) (p2 : Int32) (p3 : Int32)  (w : rv_W) : rv_Fn l D ad ca yX11_above cX11_above 6 (some .int) 1 23 [.ref (ad 78), .int p1, .int p2, .int p3] w (f_X11_above p1 p2 p3 w) := by
  refine rv_mk (lv := [(0, .ref (ad 78)), (1, .int p1), (2, .int p2), (3, .int p3)]) hJ (by decide +kernel) (Nat.le_of_ble_eq_true rfl) rfl (fun K h hr => ?_)
  have h : rv_Rl D ad ca l RX11 cX11_above 6 1 23 K := h
  unfold f_X11_above
  refine rv_iconst h 0 dX11_above_0 rv_c0 ?_
  refine rv_istore (lv' := [(4, .int (0 : Int32)), (0, .ref (ad 78)), (1, .int p1), (2, .int p2), (3, .int p3)]) h 1 dX11_above_1 (by decide) rfl ?_
  refine rv_iconst h 3 dX11_above_3 rv_c0 ?_
  refine rv_istore (lv' := [(5, .int (0 : Int32)), (4, .int (0 : Int32)), (0, .ref (ad 78)), (1, .int p1), (2, .int p2), (3, .int p3)]) h 4 dX11_above_4 (by decide) rfl ?_
  refine rv_sub h [2, 3, 4, 5, 1, 0] rfl ?_
  refine rv_fx_ind (fun (a0 : Int32 → Int32 → rv_W → rv_R) => ∀ (v3 : Int32) (v4 : Int32) (w5 : rv_W), K 6 [(0, .ref (ad 78)), (1, .int p1), (2, .int p2), (3, .int p3), (4, .int v3), (5, .int v4)] [] w5 (a0 v3 v4 w5)) (fun _ _ _ => rv_none h) (fun ag1 ih2 v3 v4 w5 => ?_) rv_FU (0 : Int32) (0 : Int32) w
  refine rv_iload h 6 dX11_above_6 5 rfl ?_
  refine rv_iconst h 8 dX11_above_8 rv_c5 ?_
  refine rv_icmp_ge (tgt := 48) h 9 dX11_above_9 (by decide) (fun _ => ?_) (fun _ => ?_)
  rotate_left
  · refine rv_iload h 48 dX11_above_48 4 rfl ?_
    exact rv_reti hr 50 dX11_above_50
  refine rv_iload h 12 dX11_above_12 4 rfl ?_
  refine rv_iload_n h 14 dX11_above_14 3 rfl ?_
  refine rv_iload h 15 dX11_above_15 5 rfl ?_
  refine rv_callSi h 17 dX11_above_17 (fn_X11_has hJ p3 v4  w5) ce_X11_has lk_X11_74 rfl rfl (Nat.le_of_ble_eq_true rfl) ⟨Nat.le_of_ble_eq_true rfl, Nat.le_of_ble_eq_true rfl⟩ (fun r6 w7 => ?_)
  refine rv_join (fun (k0 : rv_W → rv_R) => ∀  (w8 : rv_W), K 38 [(0, .ref (ad 78)), (1, .int p1), (2, .int p2), (3, .int p3), (5, .int v4)] (.int v3 :: []) w8 (k0 w8)) (fun w8 => ?_) (fun k9 hk10 => ?_)
  · refine rv_iconst h 38 dX11_above_38 rv_c0 ?_
    refine rv_iadd h 39 dX11_above_39 ?_
    refine rv_top (fun v11 => ?_)
    refine rv_istore (lv' := [(4, .int v11), (0, .ref (ad 78)), (1, .int p1), (2, .int p2), (3, .int p3), (5, .int v4)]) h 40 dX11_above_40 (by decide) rfl ?_
    refine rv_iinc h 42 (fun v12 => [(5, .int v12), (4, .int v11), (0, .ref (ad 78)), (1, .int p1), (2, .int p2), (3, .int p3)]) dX11_above_42 5 rfl rv_c1 (by decide) (fun _ => rfl) (fun v12 => ?_)
    refine rv_goto (tgt := 6) h 45 dX11_above_45 (by decide) ?_
    refine rv_sub h [2, 3, 4, 5, 1, 0] rfl ?_
    exact ih2 v11 v12 w8
  refine rv_if_eq (tgt := 38) h 20 dX11_above_20 (by decide) (fun _ => ?_) (fun _ => ?_)
  · refine rv_sub h [0, 1, 2, 3, 5] rfl ?_
    exact hk10 w7
  refine rv_aload_n h 23 dX11_above_23 0 rfl ?_
  refine rv_iload_n h 24 dX11_above_24 1 rfl ?_
  refine rv_iload h 25 dX11_above_25 5 rfl ?_
  refine rv_iload_n h 27 dX11_above_27 2 rfl ?_
  refine rv_callVi h 28 dX11_above_28 (fn_X11_isAbove hJ p1 v4 p2  w7) ce_X11_isAbove lk_X11_89 rv_s78 rfl rv_cf9 rfl rfl (Nat.le_of_ble_eq_true rfl) ⟨Nat.le_of_ble_eq_true rfl, Nat.le_of_ble_eq_true rfl⟩ (fun r13 w14 => ?_)
  refine rv_if_eq (tgt := 38) h 31 dX11_above_31 (by decide) (fun _ => ?_) (fun _ => ?_)
  · refine rv_sub h [0, 1, 2, 3, 5] rfl ?_
    exact hk10 w14
  refine rv_iconst h 34 dX11_above_34 rv_c1 ?_
  refine rv_goto (tgt := 39) h 35 dX11_above_35 (by decide) ?_
  refine rv_iadd h 39 dX11_above_39 ?_
  refine rv_top (fun v15 => ?_)
  refine rv_istore (lv' := [(4, .int v15), (0, .ref (ad 78)), (1, .int p1), (2, .int p2), (3, .int p3), (5, .int v4)]) h 40 dX11_above_40 (by decide) rfl ?_
  refine rv_iinc h 42 (fun v16 => [(5, .int v16), (4, .int v15), (0, .ref (ad 78)), (1, .int p1), (2, .int p2), (3, .int p3)]) dX11_above_42 5 rfl rv_c1 (by decide) (fun _ => rfl) (fun v16 => ?_)
  refine rv_goto (tgt := 6) h 45 dX11_above_45 (by decide) ?_
  refine rv_sub h [2, 3, 4, 5, 1, 0] rfl ?_
  exact ih2 v15 v16 w14
def f_X11_allVotes  (w : rv_W) : rv_R :=
  rv_fx (fun _ _ _ => none) (fun (ag1 : Int32 → Int32 → rv_W → rv_R) (v3 : Int32) (v4 : Int32) (w5 : rv_W) =>
  if v4 < (w5 78 6) then
  rv_ck v4 20 (
  rv_lt ((v3 + (w5 81 v4.toNatClampNeg))) (fun (v6 : Int32) =>
  rv_lt (v4 + (1 : Int32)) (fun (v7 : Int32) =>
  ag1 v6 v7 w5)))
  else
  some (v3, w5)) rv_FU (0 : Int32) (0 : Int32) w
set_option maxRecDepth 100000 in
set_option maxHeartbeats 4000000 in
theorem fn_X11_allVotes {l : Launch} {D : va_G} {ad : Nat → Nat} {ca : Nat → ClassId} (hJ : rv_J ad)   (w : rv_W) : rv_Fn l D ad ca yX11_allVotes cX11_allVotes 3 (some .int) 0 0 [.ref (ad 78)] w (f_X11_allVotes  w) := by
  refine rv_mk (lv := [(0, .ref (ad 78))]) hJ (by decide +kernel) (Nat.le_of_ble_eq_true rfl) rfl (fun K h hr => ?_)
  have h : rv_Rl D ad ca l RX11 cX11_allVotes 3 0 0 K := h
  unfold f_X11_allVotes
  refine rv_iconst h 0 dX11_allVotes_0 rv_c0 ?_
  refine rv_istore_n (lv' := [(1, .int (0 : Int32)), (0, .ref (ad 78))]) h 1 dX11_allVotes_1 (by decide) rfl ?_
  refine rv_iconst h 2 dX11_allVotes_2 rv_c0 ?_
  refine rv_istore_n (lv' := [(2, .int (0 : Int32)), (1, .int (0 : Int32)), (0, .ref (ad 78))]) h 3 dX11_allVotes_3 (by decide) rfl ?_
  refine rv_sub h [2, 1, 0] rfl ?_
  refine rv_fx_ind (fun (a0 : Int32 → Int32 → rv_W → rv_R) => ∀ (v3 : Int32) (v4 : Int32) (w5 : rv_W), K 4 [(0, .ref (ad 78)), (1, .int v3), (2, .int v4)] [] w5 (a0 v3 v4 w5)) (fun _ _ _ => rv_none h) (fun ag1 ih2 v3 v4 w5 => ?_) rv_FU (0 : Int32) (0 : Int32) w
  refine rv_iload_n h 4 dX11_allVotes_4 2 rfl ?_
  refine rv_aload_n h 5 dX11_allVotes_5 0 rfl ?_
  refine rv_geti h 6 dX11_allVotes_6 rv_s78 rv_fd_X11_78 rfl ?_
  refine rv_icmp_ge (tgt := 27) h 9 dX11_allVotes_9 (by decide) (fun _ => ?_) (fun _ => ?_)
  rotate_left
  · refine rv_iload_n h 27 dX11_allVotes_27 1 rfl ?_
    exact rv_reti hr 28 dX11_allVotes_28
  refine rv_iload_n h 12 dX11_allVotes_12 1 rfl ?_
  refine rv_aload_n h 13 dX11_allVotes_13 0 rfl ?_
  refine rv_getr h 14 dX11_allVotes_14 rv_s78 rv_fd_X11_16 rfl ?_
  refine rv_iload_n h 17 dX11_allVotes_17 2 rfl ?_
  refine rv_iald h 18 dX11_allVotes_18 rv_s81 ?_
  refine rv_iadd h 19 dX11_allVotes_19 ?_
  refine rv_top (fun v6 => ?_)
  refine rv_istore_n (lv' := [(1, .int v6), (0, .ref (ad 78)), (2, .int v4)]) h 20 dX11_allVotes_20 (by decide) rfl ?_
  refine rv_iinc h 21 (fun v7 => [(2, .int v7), (1, .int v6), (0, .ref (ad 78))]) dX11_allVotes_21 2 rfl rv_c1 (by decide) (fun _ => rfl) (fun v7 => ?_)
  refine rv_goto (tgt := 4) h 24 dX11_allVotes_24 (by decide) ?_
  refine rv_sub h [2, 1, 0] rfl ?_
  exact ih2 v6 v7 w5
def f_X11_counts  (w : rv_W) : rv_R :=
  rv_fx (fun _ _ => none) (fun (ag1 : Int32 → rv_W → rv_R) (v3 : Int32) (w4 : rv_W) =>
  if v3 < (25 : Int32) then
  rv_ck v3 25 (rv_lt (rv_up w4 83 v3.toNatClampNeg (0 : Int32)) (fun (w5 : rv_W) =>
  rv_fx (fun _ _ => none) (fun (ag6 : Int32 → rv_W → rv_R) (v8 : Int32) (w9 : rv_W) =>
  if v8 < (w9 78 6) then
  rv_ck v3 25 (
  rv_bd (f_X11_isAbove v8 (v3 / (5 : Int32)) (v3 - v3 / (5 : Int32) * (5 : Int32)) w9) (fun (r11 : Int32) (w12 : rv_W) =>
  rv_jn (fun (v13 : Int32) (w14 : rv_W) =>
  rv_ck v3 25 (rv_lt (rv_up w14 83 v3.toNatClampNeg ((w9 83 v3.toNatClampNeg) + v13)) (fun (w17 : rv_W) =>
  rv_lt (v8 + (1 : Int32)) (fun (v18 : Int32) =>
  ag6 v18 w17)))) (fun (k15 : Int32 → rv_W → rv_R) =>
  if r11 = 0 then
  k15 (0 : Int32) w12
  else
  rv_ck v8 20 (
  k15 (w12 81 v8.toNatClampNeg) w12))))
  else
  rv_lt (v3 + (1 : Int32)) (fun (v10 : Int32) =>
  ag1 v10 w9)) rv_FU (0 : Int32) w5))
  else
  some (0, w4)) rv_FU (0 : Int32) w
set_option maxRecDepth 100000 in
set_option maxHeartbeats 4000000 in
theorem fn_X11_counts {l : Launch} {D : va_G} {ad : Nat → Nat} {ca : Nat → ClassId} (hJ : rv_J ad)   (w : rv_W) : rv_Fn l D ad ca yX11_counts cX11_counts 3 none 1 23 [.ref (ad 78)] w (f_X11_counts  w) := by
  refine rv_mk (lv := [(0, .ref (ad 78))]) hJ (by decide +kernel) (Nat.le_of_ble_eq_true rfl) rfl (fun K h hr => ?_)
  have h : rv_Rl D ad ca l RX11 cX11_counts 3 1 23 K := h
  unfold f_X11_counts
  refine rv_iconst h 0 dX11_counts_0 rv_c0 ?_
  refine rv_istore_n (lv' := [(1, .int (0 : Int32)), (0, .ref (ad 78))]) h 1 dX11_counts_1 (by decide) rfl ?_
  refine rv_sub h [1, 0] rfl ?_
  refine rv_fx_ind (fun (a0 : Int32 → rv_W → rv_R) => ∀ (v3 : Int32) (w4 : rv_W), K 2 [(0, .ref (ad 78)), (1, .int v3)] [] w4 (a0 v3 w4)) (fun _ _ => rv_none h) (fun ag1 ih2 v3 w4 => ?_) rv_FU (0 : Int32) w
  refine rv_iload_n h 2 dX11_counts_2 1 rfl ?_
  refine rv_bipush (v := 25) h 3 dX11_counts_3 (by decide +kernel) ?_
  refine rv_icmp_ge (tgt := 70) h 5 dX11_counts_5 (by decide) (fun _ => ?_) (fun _ => ?_)
  rotate_left
  · exact rv_retv hr 70 dX11_counts_70
  refine rv_aload_n h 8 dX11_counts_8 0 rfl ?_
  refine rv_getr h 9 dX11_counts_9 rv_s78 rv_fd_X11_22 rfl ?_
  refine rv_iload_n h 12 dX11_counts_12 1 rfl ?_
  refine rv_iconst h 13 dX11_counts_13 rv_c0 ?_
  refine rv_iast h 14 dX11_counts_14 rv_s83 (fun w5 => ?_)
  refine rv_iconst h 15 dX11_counts_15 rv_c0 ?_
  refine rv_istore_n (lv' := [(2, .int (0 : Int32)), (0, .ref (ad 78)), (1, .int v3)]) h 16 dX11_counts_16 (by decide) rfl ?_
  refine rv_sub h [1, 2, 0] rfl ?_
  refine rv_fx_ind (fun (a0 : Int32 → rv_W → rv_R) => ∀ (v8 : Int32) (w9 : rv_W), K 17 [(0, .ref (ad 78)), (1, .int v3), (2, .int v8)] [] w9 (a0 v8 w9)) (fun _ _ => rv_none h) (fun ag6 ih7 v8 w9 => ?_) rv_FU (0 : Int32) w5
  refine rv_iload_n h 17 dX11_counts_17 2 rfl ?_
  refine rv_aload_n h 18 dX11_counts_18 0 rfl ?_
  refine rv_geti h 19 dX11_counts_19 rv_s78 rv_fd_X11_78 rfl ?_
  refine rv_icmp_ge (tgt := 64) h 22 dX11_counts_22 (by decide) (fun _ => ?_) (fun _ => ?_)
  rotate_left
  · refine rv_iinc h 64 (fun v10 => [(1, .int v10), (0, .ref (ad 78)), (2, .int v8)]) dX11_counts_64 1 rfl rv_c1 (by decide) (fun _ => rfl) (fun v10 => ?_)
    refine rv_goto (tgt := 2) h 67 dX11_counts_67 (by decide) ?_
    refine rv_sub h [1, 0] rfl ?_
    exact ih2 v10 w9
  refine rv_aload_n h 25 dX11_counts_25 0 rfl ?_
  refine rv_getr h 26 dX11_counts_26 rv_s78 rv_fd_X11_22 rfl ?_
  refine rv_iload_n h 29 dX11_counts_29 1 rfl ?_
  refine rv_dup2 h 30 dX11_counts_30 rfl rfl ?_
  refine rv_iald h 31 dX11_counts_31 rv_s83 ?_
  refine rv_aload_n h 32 dX11_counts_32 0 rfl ?_
  refine rv_iload_n h 33 dX11_counts_33 2 rfl ?_
  refine rv_iload_n h 34 dX11_counts_34 1 rfl ?_
  refine rv_iconst h 35 dX11_counts_35 rv_c5 ?_
  refine rv_idiv h 36 dX11_counts_36 (by decide) ?_
  refine rv_iload_n h 37 dX11_counts_37 1 rfl ?_
  refine rv_iconst h 38 dX11_counts_38 rv_c5 ?_
  refine rv_irem h 39 dX11_counts_39 (by decide) ?_
  refine rv_callVi h 40 dX11_counts_40 (fn_X11_isAbove hJ v8 (v3 / (5 : Int32)) (v3 - v3 / (5 : Int32) * (5 : Int32))  w9) ce_X11_isAbove lk_X11_89 rv_s78 rfl rv_cf9 rfl rfl (Nat.le_of_ble_eq_true rfl) ⟨Nat.le_of_ble_eq_true rfl, Nat.le_of_ble_eq_true rfl⟩ (fun r11 w12 => ?_)
  refine rv_join (fun (k0 : Int32 → rv_W → rv_R) => ∀ (v13 : Int32) (w14 : rv_W), K 56 [(0, .ref (ad 78)), (1, .int v3), (2, .int v8)] (.int v13 :: .int (w9 83 v3.toNatClampNeg) :: .int v3 :: .ref (ad 83) :: []) w14 (k0 v13 w14)) (fun v13 w14 => ?_) (fun k15 hk16 => ?_)
  · refine rv_iadd h 56 dX11_counts_56 ?_
    refine rv_iast h 57 dX11_counts_57 rv_s83 (fun w17 => ?_)
    refine rv_iinc h 58 (fun v18 => [(2, .int v18), (0, .ref (ad 78)), (1, .int v3)]) dX11_counts_58 2 rfl rv_c1 (by decide) (fun _ => rfl) (fun v18 => ?_)
    refine rv_goto (tgt := 17) h 61 dX11_counts_61 (by decide) ?_
    refine rv_sub h [1, 2, 0] rfl ?_
    exact ih7 v18 w17
  refine rv_if_eq (tgt := 55) h 43 dX11_counts_43 (by decide) (fun _ => ?_) (fun _ => ?_)
  · refine rv_iconst h 55 dX11_counts_55 rv_c0 ?_
    refine rv_sub h [0, 1, 2] rfl ?_
    exact hk16 (0 : Int32) w12
  refine rv_aload_n h 46 dX11_counts_46 0 rfl ?_
  refine rv_getr h 47 dX11_counts_47 rv_s78 rv_fd_X11_16 rfl ?_
  refine rv_iload_n h 50 dX11_counts_50 2 rfl ?_
  refine rv_iald h 51 dX11_counts_51 rv_s81 ?_
  refine rv_goto (tgt := 56) h 52 dX11_counts_52 (by decide) ?_
  refine rv_sub h [0, 1, 2] rfl ?_
  exact hk16 (w12 81 v8.toNatClampNeg) w12
def f_X11_p (p1 : Int32) (p2 : Int32) (w : rv_W) : rv_R :=
  rv_ck (((5 : Int32) * p1) + p2) 25 (
  some ((w 83 (((5 : Int32) * p1) + p2).toNatClampNeg), w))
set_option maxRecDepth 100000 in
set_option maxHeartbeats 4000000 in
theorem fn_X11_p {l : Launch} {D : va_G} {ad : Nat → Nat} {ca : Nat → ClassId} (hJ : rv_J ad) (p1 : Int32) (p2 : Int32)  (w : rv_W) : rv_Fn l D ad ca yX11_p cX11_p 3 (some .int) 0 0 [.ref (ad 78), .int p1, .int p2] w (f_X11_p p1 p2 w) := by
  refine rv_mk (lv := [(0, .ref (ad 78)), (1, .int p1), (2, .int p2)]) hJ (by decide +kernel) (Nat.le_of_ble_eq_true rfl) rfl (fun K h hr => ?_)
  have h : rv_Rl D ad ca l RX11 cX11_p 3 0 0 K := h
  unfold f_X11_p
  refine rv_aload_n h 0 dX11_p_0 0 rfl ?_
  refine rv_getr h 1 dX11_p_1 rv_s78 rv_fd_X11_22 rfl ?_
  refine rv_iconst h 4 dX11_p_4 rv_c5 ?_
  refine rv_iload_n h 5 dX11_p_5 1 rfl ?_
  refine rv_imul h 6 dX11_p_6 ?_
  refine rv_iload_n h 7 dX11_p_7 2 rfl ?_
  refine rv_iadd h 8 dX11_p_8 ?_
  refine rv_iald h 9 dX11_p_9 rv_s83 ?_
  exact rv_reti hr 10 dX11_p_10
def f_X11_beats (p1 : Int32) (p2 : Int32) (w : rv_W) : rv_R :=
  rv_bd (f_X11_p p1 p2 w) (fun (r1 : Int32) (w2 : rv_W) =>
  rv_bd (f_X11_p p2 p1 w2) (fun (r3 : Int32) (w4 : rv_W) =>
  if r3 < r1 then
  some ((1 : Int32), w4)
  else
  some ((0 : Int32), w4)))
set_option maxRecDepth 100000 in
set_option maxHeartbeats 4000000 in
theorem fn_X11_beats {l : Launch} {D : va_G} {ad : Nat → Nat} {ca : Nat → ClassId} (hJ : rv_J ad) (p1 : Int32) (p2 : Int32)  (w : rv_W) : rv_Fn l D ad ca yX11_beats cX11_beats 3 (some .boolean) 1 22 [.ref (ad 78), .int p1, .int p2] w (f_X11_beats p1 p2 w) := by
  refine rv_mk (lv := [(0, .ref (ad 78)), (1, .int p1), (2, .int p2)]) hJ (by decide +kernel) (Nat.le_of_ble_eq_true rfl) rfl (fun K h hr => ?_)
  have h : rv_Rl D ad ca l RX11 cX11_beats 3 1 22 K := h
  unfold f_X11_beats
  refine rv_aload_n h 0 dX11_beats_0 0 rfl ?_
  refine rv_iload_n h 1 dX11_beats_1 1 rfl ?_
  refine rv_iload_n h 2 dX11_beats_2 2 rfl ?_
  refine rv_callVi h 3 dX11_beats_3 (fn_X11_p hJ p1 p2  w) ce_X11_p lk_X11_92 rv_s78 rfl rv_cf9 rfl rfl (Nat.le_of_ble_eq_true rfl) ⟨Nat.le_of_ble_eq_true rfl, Nat.le_of_ble_eq_true rfl⟩ (fun r1 w2 => ?_)
  refine rv_aload_n h 6 dX11_beats_6 0 rfl ?_
  refine rv_iload_n h 7 dX11_beats_7 2 rfl ?_
  refine rv_iload_n h 8 dX11_beats_8 1 rfl ?_
  refine rv_callVi h 9 dX11_beats_9 (fn_X11_p hJ p2 p1  w2) ce_X11_p lk_X11_92 rv_s78 rfl rv_cf9 rfl rfl (Nat.le_of_ble_eq_true rfl) ⟨Nat.le_of_ble_eq_true rfl, Nat.le_of_ble_eq_true rfl⟩ (fun r3 w4 => ?_)
  refine rv_icmp_le (tgt := 19) h 12 dX11_beats_12 (by decide) (fun _ => ?_) (fun _ => ?_)
  rotate_left
  · refine rv_iconst h 19 dX11_beats_19 rv_c0 ?_
    exact rv_retz0 hr 20 dX11_beats_20
  refine rv_iconst h 15 dX11_beats_15 rv_c1 ?_
  refine rv_goto (tgt := 20) h 16 dX11_beats_16 (by decide) ?_
  exact rv_retz1 hr 20 dX11_beats_20
def f_X11_firstOf (p1 : Int32) (w : rv_W) : rv_R :=
  rv_fx (fun _ _ _ => none) (fun (ag1 : Int32 → Int32 → rv_W → rv_R) (v3 : Int32) (v4 : Int32) (w5 : rv_W) =>
  if v4 < (5 : Int32) then
  rv_bd (f_X11_has p1 v4 w5) (fun (r6 : Int32) (w7 : rv_W) =>
  rv_fx (fun _ _ _ => none) (fun (ag8 : Int32 → Int32 → rv_W → rv_R) (v10 : Int32) (v11 : Int32) (w12 : rv_W) =>
  if v11 < (5 : Int32) then
  if v10 = 0 then
  rv_lt (v11 + (1 : Int32)) (fun (v15 : Int32) =>
  ag8 (0 : Int32) v15 w12)
  else
  rv_jn (fun  (w16 : rv_W) =>
  rv_lt (v11 + (1 : Int32)) (fun (v19 : Int32) =>
  ag8 (1 : Int32) v19 w16)) (fun (k17 : rv_W → rv_R) =>
  if v11 = v4 then
  k17 w12
  else
  rv_bd (f_X11_has p1 v11 w12) (fun (r20 : Int32) (w21 : rv_W) =>
  if r20 = 0 then
  k17 w21
  else
  rv_bd (f_X11_beats v4 v11 w21) (fun (r22 : Int32) (w23 : rv_W) =>
  if r22 = 0 then
  rv_lt (v11 + (1 : Int32)) (fun (v24 : Int32) =>
  ag8 (0 : Int32) v24 w23)
  else
  k17 w23)))
  else
  if v10 = 0 then
  rv_lt (v4 + (1 : Int32)) (fun (v13 : Int32) =>
  ag1 v3 v13 w12)
  else
  rv_lt (v4 + (1 : Int32)) (fun (v14 : Int32) =>
  ag1 v4 v14 w12)) rv_FU r6 (0 : Int32) w7)
  else
  some (v3, w5)) rv_FU (-1 : Int32) (0 : Int32) w
set_option maxRecDepth 100000 in
set_option maxHeartbeats 4000000 in
theorem fn_X11_firstOf {l : Launch} {D : va_G} {ad : Nat → Nat} {ca : Nat → ClassId} (hJ : rv_J ad) (p1 : Int32)  (w : rv_W) : rv_Fn l D ad ca yX11_firstOf cX11_firstOf 6 (some .int) 2 44 [.ref (ad 78), .int p1] w (f_X11_firstOf p1 w) := by
  refine rv_mk (lv := [(0, .ref (ad 78)), (1, .int p1)]) hJ (by decide +kernel) (Nat.le_of_ble_eq_true rfl) rfl (fun K h hr => ?_)
  have h : rv_Rl D ad ca l RX11 cX11_firstOf 6 2 44 K := h
  unfold f_X11_firstOf
  refine rv_iconst h 0 dX11_firstOf_0 rv_cm1 ?_
  refine rv_istore_n (lv' := [(2, .int (-1 : Int32)), (0, .ref (ad 78)), (1, .int p1)]) h 1 dX11_firstOf_1 (by decide) rfl ?_
  refine rv_iconst h 2 dX11_firstOf_2 rv_c0 ?_
  refine rv_istore_n (lv' := [(3, .int (0 : Int32)), (2, .int (-1 : Int32)), (0, .ref (ad 78)), (1, .int p1)]) h 3 dX11_firstOf_3 (by decide) rfl ?_
  refine rv_sub h [2, 3, 1, 0] rfl ?_
  refine rv_fx_ind (fun (a0 : Int32 → Int32 → rv_W → rv_R) => ∀ (v3 : Int32) (v4 : Int32) (w5 : rv_W), K 4 [(0, .ref (ad 78)), (1, .int p1), (2, .int v3), (3, .int v4)] [] w5 (a0 v3 v4 w5)) (fun _ _ _ => rv_none h) (fun ag1 ih2 v3 v4 w5 => ?_) rv_FU (-1 : Int32) (0 : Int32) w
  refine rv_iload_n h 4 dX11_firstOf_4 3 rfl ?_
  refine rv_iconst h 5 dX11_firstOf_5 rv_c5 ?_
  refine rv_icmp_ge (tgt := 85) h 6 dX11_firstOf_6 (by decide) (fun _ => ?_) (fun _ => ?_)
  rotate_left
  · refine rv_iload_n h 85 dX11_firstOf_85 2 rfl ?_
    exact rv_reti hr 86 dX11_firstOf_86
  refine rv_iload_n h 9 dX11_firstOf_9 1 rfl ?_
  refine rv_iload_n h 10 dX11_firstOf_10 3 rfl ?_
  refine rv_callSi h 11 dX11_firstOf_11 (fn_X11_has hJ p1 v4  w5) ce_X11_has lk_X11_74 rfl rfl (Nat.le_of_ble_eq_true rfl) ⟨Nat.le_of_ble_eq_true rfl, Nat.le_of_ble_eq_true rfl⟩ (fun r6 w7 => ?_)
  refine rv_istore (lv' := [(4, .int r6), (0, .ref (ad 78)), (1, .int p1), (2, .int v3), (3, .int v4)]) h 14 dX11_firstOf_14 (by decide) rfl ?_
  refine rv_iconst h 16 dX11_firstOf_16 rv_c0 ?_
  refine rv_istore (lv' := [(5, .int (0 : Int32)), (4, .int r6), (0, .ref (ad 78)), (1, .int p1), (2, .int v3), (3, .int v4)]) h 17 dX11_firstOf_17 (by decide) rfl ?_
  refine rv_sub h [2, 3, 4, 5, 1, 0] rfl ?_
  refine rv_fx_ind (fun (a0 : Int32 → Int32 → rv_W → rv_R) => ∀ (v10 : Int32) (v11 : Int32) (w12 : rv_W), K 19 [(0, .ref (ad 78)), (1, .int p1), (2, .int v3), (3, .int v4), (4, .int v10), (5, .int v11)] [] w12 (a0 v10 v11 w12)) (fun _ _ _ => rv_none h) (fun ag8 ih9 v10 v11 w12 => ?_) rv_FU r6 (0 : Int32) w7
  refine rv_iload h 19 dX11_firstOf_19 5 rfl ?_
  refine rv_iconst h 21 dX11_firstOf_21 rv_c5 ?_
  refine rv_icmp_ge (tgt := 68) h 22 dX11_firstOf_22 (by decide) (fun _ => ?_) (fun _ => ?_)
  rotate_left
  · refine rv_iload h 68 dX11_firstOf_68 4 rfl ?_
    refine rv_if_eq (tgt := 77) h 70 dX11_firstOf_70 (by decide) (fun _ => ?_) (fun _ => ?_)
    · refine rv_iload_n h 77 dX11_firstOf_77 2 rfl ?_
      refine rv_istore_n (lv' := [(2, .int v3), (0, .ref (ad 78)), (1, .int p1), (3, .int v4), (4, .int v10), (5, .int v11)]) h 78 dX11_firstOf_78 (by decide) rfl ?_
      refine rv_iinc h 79 (fun v13 => [(3, .int v13), (2, .int v3), (0, .ref (ad 78)), (1, .int p1), (4, .int v10), (5, .int v11)]) dX11_firstOf_79 3 rfl rv_c1 (by decide) (fun _ => rfl) (fun v13 => ?_)
      refine rv_goto (tgt := 4) h 82 dX11_firstOf_82 (by decide) ?_
      refine rv_sub h [2, 3, 1, 0] rfl ?_
      exact ih2 v3 v13 w12
    refine rv_iload_n h 73 dX11_firstOf_73 3 rfl ?_
    refine rv_goto (tgt := 78) h 74 dX11_firstOf_74 (by decide) ?_
    refine rv_istore_n (lv' := [(2, .int v4), (0, .ref (ad 78)), (1, .int p1), (3, .int v4), (4, .int v10), (5, .int v11)]) h 78 dX11_firstOf_78 (by decide) rfl ?_
    refine rv_iinc h 79 (fun v14 => [(3, .int v14), (2, .int v4), (0, .ref (ad 78)), (1, .int p1), (4, .int v10), (5, .int v11)]) dX11_firstOf_79 3 rfl rv_c1 (by decide) (fun _ => rfl) (fun v14 => ?_)
    refine rv_goto (tgt := 4) h 82 dX11_firstOf_82 (by decide) ?_
    refine rv_sub h [2, 3, 1, 0] rfl ?_
    exact ih2 v4 v14 w12
  refine rv_iload h 25 dX11_firstOf_25 4 rfl ?_
  refine rv_if_eq (tgt := 59) h 27 dX11_firstOf_27 (by decide) (fun _ => ?_) (fun _ => ?_)
  · refine rv_iconst h 59 dX11_firstOf_59 rv_c0 ?_
    refine rv_istore (lv' := [(4, .int (0 : Int32)), (0, .ref (ad 78)), (1, .int p1), (2, .int v3), (3, .int v4), (5, .int v11)]) h 60 dX11_firstOf_60 (by decide) rfl ?_
    refine rv_iinc h 62 (fun v15 => [(5, .int v15), (4, .int (0 : Int32)), (0, .ref (ad 78)), (1, .int p1), (2, .int v3), (3, .int v4)]) dX11_firstOf_62 5 rfl rv_c1 (by decide) (fun _ => rfl) (fun v15 => ?_)
    refine rv_goto (tgt := 19) h 65 dX11_firstOf_65 (by decide) ?_
    refine rv_sub h [2, 3, 4, 5, 1, 0] rfl ?_
    exact ih9 (0 : Int32) v15 w12
  refine rv_iload h 30 dX11_firstOf_30 5 rfl ?_
  refine rv_iload_n h 32 dX11_firstOf_32 3 rfl ?_
  refine rv_join (fun (k0 : rv_W → rv_R) => ∀  (w16 : rv_W), K 55 [(0, .ref (ad 78)), (1, .int p1), (2, .int v3), (3, .int v4), (5, .int v11)] ([]) w16 (k0 w16)) (fun w16 => ?_) (fun k17 hk18 => ?_)
  · refine rv_iconst h 55 dX11_firstOf_55 rv_c1 ?_
    refine rv_goto (tgt := 60) h 56 dX11_firstOf_56 (by decide) ?_
    refine rv_istore (lv' := [(4, .int (1 : Int32)), (0, .ref (ad 78)), (1, .int p1), (2, .int v3), (3, .int v4), (5, .int v11)]) h 60 dX11_firstOf_60 (by decide) rfl ?_
    refine rv_iinc h 62 (fun v19 => [(5, .int v19), (4, .int (1 : Int32)), (0, .ref (ad 78)), (1, .int p1), (2, .int v3), (3, .int v4)]) dX11_firstOf_62 5 rfl rv_c1 (by decide) (fun _ => rfl) (fun v19 => ?_)
    refine rv_goto (tgt := 19) h 65 dX11_firstOf_65 (by decide) ?_
    refine rv_sub h [2, 3, 4, 5, 1, 0] rfl ?_
    exact ih9 (1 : Int32) v19 w16
  refine rv_icmp_eq (tgt := 55) h 33 dX11_firstOf_33 (by decide) (fun _ => ?_) (fun _ => ?_)
  · refine rv_sub h [0, 1, 2, 3, 5] rfl ?_
    exact hk18 w12
  refine rv_iload_n h 36 dX11_firstOf_36 1 rfl ?_
  refine rv_iload h 37 dX11_firstOf_37 5 rfl ?_
  refine rv_callSi h 39 dX11_firstOf_39 (fn_X11_has hJ p1 v11  w12) ce_X11_has lk_X11_74 rfl rfl (Nat.le_of_ble_eq_true rfl) ⟨Nat.le_of_ble_eq_true rfl, Nat.le_of_ble_eq_true rfl⟩ (fun r20 w21 => ?_)
  refine rv_if_eq (tgt := 55) h 42 dX11_firstOf_42 (by decide) (fun _ => ?_) (fun _ => ?_)
  · refine rv_sub h [0, 1, 2, 3, 5] rfl ?_
    exact hk18 w21
  refine rv_aload_n h 45 dX11_firstOf_45 0 rfl ?_
  refine rv_iload_n h 46 dX11_firstOf_46 3 rfl ?_
  refine rv_iload h 47 dX11_firstOf_47 5 rfl ?_
  refine rv_callVi h 49 dX11_firstOf_49 (fn_X11_beats hJ v4 v11  w21) ce_X11_beats lk_X11_95 rv_s78 rfl rv_cf9 rfl rfl (Nat.le_of_ble_eq_true rfl) ⟨Nat.le_of_ble_eq_true rfl, Nat.le_of_ble_eq_true rfl⟩ (fun r22 w23 => ?_)
  refine rv_if_eq (tgt := 59) h 52 dX11_firstOf_52 (by decide) (fun _ => ?_) (fun _ => ?_)
  rotate_left
  · refine rv_sub h [0, 1, 2, 3, 5] rfl ?_
    exact hk18 w23
  refine rv_iconst h 59 dX11_firstOf_59 rv_c0 ?_
  refine rv_istore (lv' := [(4, .int (0 : Int32)), (0, .ref (ad 78)), (1, .int p1), (2, .int v3), (3, .int v4), (5, .int v11)]) h 60 dX11_firstOf_60 (by decide) rfl ?_
  refine rv_iinc h 62 (fun v24 => [(5, .int v24), (4, .int (0 : Int32)), (0, .ref (ad 78)), (1, .int p1), (2, .int v3), (3, .int v4)]) dX11_firstOf_62 5 rfl rv_c1 (by decide) (fun _ => rfl) (fun v24 => ?_)
  refine rv_goto (tgt := 19) h 65 dX11_firstOf_65 (by decide) ?_
  refine rv_sub h [2, 3, 4, 5, 1, 0] rfl ?_
  exact ih9 (0 : Int32) v24 w23
def f_X11_most (p1 : Int32) (w : rv_W) : rv_R :=
  rv_fx (fun _ _ _ => none) (fun (ag1 : Int32 → Int32 → rv_W → rv_R) (v3 : Int32) (v4 : Int32) (w5 : rv_W) =>
  if v4 < (5 : Int32) then
  rv_bd (f_X11_has p1 v4 w5) (fun (r6 : Int32) (w7 : rv_W) =>
  rv_fx (fun _ _ _ => none) (fun (ag8 : Int32 → Int32 → rv_W → rv_R) (v10 : Int32) (v11 : Int32) (w12 : rv_W) =>
  if v11 < (5 : Int32) then
  if v10 = 0 then
  rv_lt (v11 + (1 : Int32)) (fun (v17 : Int32) =>
  ag8 (0 : Int32) v17 w12)
  else
  rv_bd (f_X11_has p1 v11 w12) (fun (r18 : Int32) (w19 : rv_W) =>
  rv_jn (fun  (w20 : rv_W) =>
  rv_lt (v11 + (1 : Int32)) (fun (v23 : Int32) =>
  ag8 (1 : Int32) v23 w20)) (fun (k21 : rv_W → rv_R) =>
  if r18 = 0 then
  k21 w19
  else
  rv_ck v4 5 (
  rv_ck v11 5 (
  if (w19 84 v4.toNatClampNeg) < (w19 84 v11.toNatClampNeg) then
  rv_lt (v11 + (1 : Int32)) (fun (v24 : Int32) =>
  ag8 (0 : Int32) v24 w19)
  else
  k21 w19))))
  else
  if v10 = 0 then
  rv_lt ((v3 ||| (0 : Int32))) (fun (v13 : Int32) =>
  rv_lt (v4 + (1 : Int32)) (fun (v14 : Int32) =>
  ag1 v13 v14 w12))
  else
  rv_lt ((v3 ||| ((1 : Int32) <<< (v4 &&& 31)))) (fun (v15 : Int32) =>
  rv_lt (v4 + (1 : Int32)) (fun (v16 : Int32) =>
  ag1 v15 v16 w12))) rv_FU r6 (0 : Int32) w7)
  else
  some (v3, w5)) rv_FU (0 : Int32) (0 : Int32) w
set_option maxRecDepth 100000 in
set_option maxHeartbeats 4000000 in
theorem fn_X11_most {l : Launch} {D : va_G} {ad : Nat → Nat} {ca : Nat → ClassId} (hJ : rv_J ad) (p1 : Int32)  (w : rv_W) : rv_Fn l D ad ca yX11_most cX11_most 6 (some .int) 1 21 [.ref (ad 78), .int p1] w (f_X11_most p1 w) := by
  refine rv_mk (lv := [(0, .ref (ad 78)), (1, .int p1)]) hJ (by decide +kernel) (Nat.le_of_ble_eq_true rfl) rfl (fun K h hr => ?_)
  have h : rv_Rl D ad ca l RX11 cX11_most 6 1 21 K := h
  unfold f_X11_most
  refine rv_iconst h 0 dX11_most_0 rv_c0 ?_
  refine rv_istore_n (lv' := [(2, .int (0 : Int32)), (0, .ref (ad 78)), (1, .int p1)]) h 1 dX11_most_1 (by decide) rfl ?_
  refine rv_iconst h 2 dX11_most_2 rv_c0 ?_
  refine rv_istore_n (lv' := [(3, .int (0 : Int32)), (2, .int (0 : Int32)), (0, .ref (ad 78)), (1, .int p1)]) h 3 dX11_most_3 (by decide) rfl ?_
  refine rv_sub h [2, 3, 1, 0] rfl ?_
  refine rv_fx_ind (fun (a0 : Int32 → Int32 → rv_W → rv_R) => ∀ (v3 : Int32) (v4 : Int32) (w5 : rv_W), K 4 [(0, .ref (ad 78)), (1, .int p1), (2, .int v3), (3, .int v4)] [] w5 (a0 v3 v4 w5)) (fun _ _ _ => rv_none h) (fun ag1 ih2 v3 v4 w5 => ?_) rv_FU (0 : Int32) (0 : Int32) w
  refine rv_iload_n h 4 dX11_most_4 3 rfl ?_
  refine rv_iconst h 5 dX11_most_5 rv_c5 ?_
  refine rv_icmp_ge (tgt := 89) h 6 dX11_most_6 (by decide) (fun _ => ?_) (fun _ => ?_)
  rotate_left
  · refine rv_iload_n h 89 dX11_most_89 2 rfl ?_
    exact rv_reti hr 90 dX11_most_90
  refine rv_iload_n h 9 dX11_most_9 1 rfl ?_
  refine rv_iload_n h 10 dX11_most_10 3 rfl ?_
  refine rv_callSi h 11 dX11_most_11 (fn_X11_has hJ p1 v4  w5) ce_X11_has lk_X11_74 rfl rfl (Nat.le_of_ble_eq_true rfl) ⟨Nat.le_of_ble_eq_true rfl, Nat.le_of_ble_eq_true rfl⟩ (fun r6 w7 => ?_)
  refine rv_istore (lv' := [(4, .int r6), (0, .ref (ad 78)), (1, .int p1), (2, .int v3), (3, .int v4)]) h 14 dX11_most_14 (by decide) rfl ?_
  refine rv_iconst h 16 dX11_most_16 rv_c0 ?_
  refine rv_istore (lv' := [(5, .int (0 : Int32)), (4, .int r6), (0, .ref (ad 78)), (1, .int p1), (2, .int v3), (3, .int v4)]) h 17 dX11_most_17 (by decide) rfl ?_
  refine rv_sub h [2, 3, 4, 5, 1, 0] rfl ?_
  refine rv_fx_ind (fun (a0 : Int32 → Int32 → rv_W → rv_R) => ∀ (v10 : Int32) (v11 : Int32) (w12 : rv_W), K 19 [(0, .ref (ad 78)), (1, .int p1), (2, .int v3), (3, .int v4), (4, .int v10), (5, .int v11)] [] w12 (a0 v10 v11 w12)) (fun _ _ _ => rv_none h) (fun ag8 ih9 v10 v11 w12 => ?_) rv_FU r6 (0 : Int32) w7
  refine rv_iload h 19 dX11_most_19 5 rfl ?_
  refine rv_iconst h 21 dX11_most_21 rv_c5 ?_
  refine rv_icmp_ge (tgt := 68) h 22 dX11_most_22 (by decide) (fun _ => ?_) (fun _ => ?_)
  rotate_left
  · refine rv_iload_n h 68 dX11_most_68 2 rfl ?_
    refine rv_iload h 69 dX11_most_69 4 rfl ?_
    refine rv_if_eq (tgt := 80) h 71 dX11_most_71 (by decide) (fun _ => ?_) (fun _ => ?_)
    · refine rv_iconst h 80 dX11_most_80 rv_c0 ?_
      refine rv_ior h 81 dX11_most_81 ?_
      refine rv_top (fun v13 => ?_)
      refine rv_istore_n (lv' := [(2, .int v13), (0, .ref (ad 78)), (1, .int p1), (3, .int v4), (4, .int v10), (5, .int v11)]) h 82 dX11_most_82 (by decide) rfl ?_
      refine rv_iinc h 83 (fun v14 => [(3, .int v14), (2, .int v13), (0, .ref (ad 78)), (1, .int p1), (4, .int v10), (5, .int v11)]) dX11_most_83 3 rfl rv_c1 (by decide) (fun _ => rfl) (fun v14 => ?_)
      refine rv_goto (tgt := 4) h 86 dX11_most_86 (by decide) ?_
      refine rv_sub h [2, 3, 1, 0] rfl ?_
      exact ih2 v13 v14 w12
    refine rv_iconst h 74 dX11_most_74 rv_c1 ?_
    refine rv_iload_n h 75 dX11_most_75 3 rfl ?_
    refine rv_ishl h 76 dX11_most_76 ?_
    refine rv_goto (tgt := 81) h 77 dX11_most_77 (by decide) ?_
    refine rv_ior h 81 dX11_most_81 ?_
    refine rv_top (fun v15 => ?_)
    refine rv_istore_n (lv' := [(2, .int v15), (0, .ref (ad 78)), (1, .int p1), (3, .int v4), (4, .int v10), (5, .int v11)]) h 82 dX11_most_82 (by decide) rfl ?_
    refine rv_iinc h 83 (fun v16 => [(3, .int v16), (2, .int v15), (0, .ref (ad 78)), (1, .int p1), (4, .int v10), (5, .int v11)]) dX11_most_83 3 rfl rv_c1 (by decide) (fun _ => rfl) (fun v16 => ?_)
    refine rv_goto (tgt := 4) h 86 dX11_most_86 (by decide) ?_
    refine rv_sub h [2, 3, 1, 0] rfl ?_
    exact ih2 v15 v16 w12
  refine rv_iload h 25 dX11_most_25 4 rfl ?_
  refine rv_if_eq (tgt := 59) h 27 dX11_most_27 (by decide) (fun _ => ?_) (fun _ => ?_)
  · refine rv_iconst h 59 dX11_most_59 rv_c0 ?_
    refine rv_istore (lv' := [(4, .int (0 : Int32)), (0, .ref (ad 78)), (1, .int p1), (2, .int v3), (3, .int v4), (5, .int v11)]) h 60 dX11_most_60 (by decide) rfl ?_
    refine rv_iinc h 62 (fun v17 => [(5, .int v17), (4, .int (0 : Int32)), (0, .ref (ad 78)), (1, .int p1), (2, .int v3), (3, .int v4)]) dX11_most_62 5 rfl rv_c1 (by decide) (fun _ => rfl) (fun v17 => ?_)
    refine rv_goto (tgt := 19) h 65 dX11_most_65 (by decide) ?_
    refine rv_sub h [2, 3, 4, 5, 1, 0] rfl ?_
    exact ih9 (0 : Int32) v17 w12
  refine rv_iload_n h 30 dX11_most_30 1 rfl ?_
  refine rv_iload h 31 dX11_most_31 5 rfl ?_
  refine rv_callSi h 33 dX11_most_33 (fn_X11_has hJ p1 v11  w12) ce_X11_has lk_X11_74 rfl rfl (Nat.le_of_ble_eq_true rfl) ⟨Nat.le_of_ble_eq_true rfl, Nat.le_of_ble_eq_true rfl⟩ (fun r18 w19 => ?_)
  refine rv_join (fun (k0 : rv_W → rv_R) => ∀  (w20 : rv_W), K 55 [(0, .ref (ad 78)), (1, .int p1), (2, .int v3), (3, .int v4), (5, .int v11)] ([]) w20 (k0 w20)) (fun w20 => ?_) (fun k21 hk22 => ?_)
  · refine rv_iconst h 55 dX11_most_55 rv_c1 ?_
    refine rv_goto (tgt := 60) h 56 dX11_most_56 (by decide) ?_
    refine rv_istore (lv' := [(4, .int (1 : Int32)), (0, .ref (ad 78)), (1, .int p1), (2, .int v3), (3, .int v4), (5, .int v11)]) h 60 dX11_most_60 (by decide) rfl ?_
    refine rv_iinc h 62 (fun v23 => [(5, .int v23), (4, .int (1 : Int32)), (0, .ref (ad 78)), (1, .int p1), (2, .int v3), (3, .int v4)]) dX11_most_62 5 rfl rv_c1 (by decide) (fun _ => rfl) (fun v23 => ?_)
    refine rv_goto (tgt := 19) h 65 dX11_most_65 (by decide) ?_
    refine rv_sub h [2, 3, 4, 5, 1, 0] rfl ?_
    exact ih9 (1 : Int32) v23 w20
  refine rv_if_eq (tgt := 55) h 36 dX11_most_36 (by decide) (fun _ => ?_) (fun _ => ?_)
  · refine rv_sub h [0, 1, 2, 3, 5] rfl ?_
    exact hk22 w19
  refine rv_aload_n h 39 dX11_most_39 0 rfl ?_
  refine rv_getr h 40 dX11_most_40 rv_s78 rv_fd_X11_25 rfl ?_
  refine rv_iload_n h 43 dX11_most_43 3 rfl ?_
  refine rv_iald h 44 dX11_most_44 rv_s84 ?_
  refine rv_aload_n h 45 dX11_most_45 0 rfl ?_
  refine rv_getr h 46 dX11_most_46 rv_s78 rv_fd_X11_25 rfl ?_
  refine rv_iload h 49 dX11_most_49 5 rfl ?_
  refine rv_iald h 51 dX11_most_51 rv_s84 ?_
  refine rv_icmp_lt (tgt := 59) h 52 dX11_most_52 (by decide) (fun _ => ?_) (fun _ => ?_)
  rotate_left
  · refine rv_sub h [0, 1, 2, 3, 5] rfl ?_
    exact hk22 w19
  refine rv_iconst h 59 dX11_most_59 rv_c0 ?_
  refine rv_istore (lv' := [(4, .int (0 : Int32)), (0, .ref (ad 78)), (1, .int p1), (2, .int v3), (3, .int v4), (5, .int v11)]) h 60 dX11_most_60 (by decide) rfl ?_
  refine rv_iinc h 62 (fun v24 => [(5, .int v24), (4, .int (0 : Int32)), (0, .ref (ad 78)), (1, .int p1), (2, .int v3), (3, .int v4)]) dX11_most_62 5 rfl rv_c1 (by decide) (fun _ => rfl) (fun v24 => ?_)
  refine rv_goto (tgt := 19) h 65 dX11_most_65 (by decide) ?_
  refine rv_sub h [2, 3, 4, 5, 1, 0] rfl ?_
  exact ih9 (0 : Int32) v24 w19
def f_X11_pointsOfFirst (p1 : Int32) (p2 : Int32) (w : rv_W) : rv_R :=
  rv_fx (fun _ _ => none) (fun (ag1 : Int32 → rv_W → rv_R) (v3 : Int32) (w4 : rv_W) =>
  if v3 < (5 : Int32) then
  rv_ck v3 5 (rv_lt (rv_up w4 84 v3.toNatClampNeg (0 : Int32)) (fun (w5 : rv_W) =>
  rv_fx (fun _ _ => none) (fun (ag6 : Int32 → rv_W → rv_R) (v8 : Int32) (w9 : rv_W) =>
  if v8 < (w9 78 6) then
  rv_bd (f_X11_has p1 v3 w9) (fun (r11 : Int32) (w12 : rv_W) =>
  if r11 = 0 then
  rv_lt (v3 + (1 : Int32)) (fun (v13 : Int32) =>
  ag1 v13 w12)
  else
  rv_ck v3 5 (
  rv_bd (f_X11_isOn v8 v3 w12) (fun (r14 : Int32) (w15 : rv_W) =>
  rv_jn (fun (v16 : Int32) (w17 : rv_W) =>
  rv_ck v3 5 (rv_lt (rv_up w17 84 v3.toNatClampNeg ((w12 84 v3.toNatClampNeg) + v16)) (fun (w20 : rv_W) =>
  rv_lt (v8 + (1 : Int32)) (fun (v21 : Int32) =>
  ag6 v21 w20)))) (fun (k18 : Int32 → rv_W → rv_R) =>
  rv_jn (fun  (w22 : rv_W) =>
  k18 (0 : Int32) w22) (fun (k23 : rv_W → rv_R) =>
  if r14 = 0 then
  k23 w15
  else
  rv_bd (f_X11_above v8 v3 p1 w15) (fun (r25 : Int32) (w26 : rv_W) =>
  if r25 < p2 then
  rv_ck v8 20 (
  k18 (w26 81 v8.toNatClampNeg) w26)
  else
  k23 w26))))))
  else
  rv_lt (v3 + (1 : Int32)) (fun (v10 : Int32) =>
  ag1 v10 w9)) rv_FU (0 : Int32) w5))
  else
  some (0, w4)) rv_FU (0 : Int32) w
set_option maxRecDepth 100000 in
set_option maxHeartbeats 4000000 in
theorem fn_X11_pointsOfFirst {l : Launch} {D : va_G} {ad : Nat → Nat} {ca : Nat → ClassId} (hJ : rv_J ad) (p1 : Int32) (p2 : Int32)  (w : rv_W) : rv_Fn l D ad ca yX11_pointsOfFirst cX11_pointsOfFirst 5 none 2 48 [.ref (ad 78), .int p1, .int p2] w (f_X11_pointsOfFirst p1 p2 w) := by
  refine rv_mk (lv := [(0, .ref (ad 78)), (1, .int p1), (2, .int p2)]) hJ (by decide +kernel) (Nat.le_of_ble_eq_true rfl) rfl (fun K h hr => ?_)
  have h : rv_Rl D ad ca l RX11 cX11_pointsOfFirst 5 2 48 K := h
  unfold f_X11_pointsOfFirst
  refine rv_iconst h 0 dX11_pointsOfFirst_0 rv_c0 ?_
  refine rv_istore_n (lv' := [(3, .int (0 : Int32)), (0, .ref (ad 78)), (1, .int p1), (2, .int p2)]) h 1 dX11_pointsOfFirst_1 (by decide) rfl ?_
  refine rv_sub h [1, 2, 3, 0] rfl ?_
  refine rv_fx_ind (fun (a0 : Int32 → rv_W → rv_R) => ∀ (v3 : Int32) (w4 : rv_W), K 2 [(0, .ref (ad 78)), (1, .int p1), (2, .int p2), (3, .int v3)] [] w4 (a0 v3 w4)) (fun _ _ => rv_none h) (fun ag1 ih2 v3 w4 => ?_) rv_FU (0 : Int32) w
  refine rv_iload_n h 2 dX11_pointsOfFirst_2 3 rfl ?_
  refine rv_iconst h 3 dX11_pointsOfFirst_3 rv_c5 ?_
  refine rv_icmp_ge (tgt := 88) h 4 dX11_pointsOfFirst_4 (by decide) (fun _ => ?_) (fun _ => ?_)
  rotate_left
  · exact rv_retv hr 88 dX11_pointsOfFirst_88
  refine rv_aload_n h 7 dX11_pointsOfFirst_7 0 rfl ?_
  refine rv_getr h 8 dX11_pointsOfFirst_8 rv_s78 rv_fd_X11_25 rfl ?_
  refine rv_iload_n h 11 dX11_pointsOfFirst_11 3 rfl ?_
  refine rv_iconst h 12 dX11_pointsOfFirst_12 rv_c0 ?_
  refine rv_iast h 13 dX11_pointsOfFirst_13 rv_s84 (fun w5 => ?_)
  refine rv_iconst h 14 dX11_pointsOfFirst_14 rv_c0 ?_
  refine rv_istore (lv' := [(4, .int (0 : Int32)), (0, .ref (ad 78)), (1, .int p1), (2, .int p2), (3, .int v3)]) h 15 dX11_pointsOfFirst_15 (by decide) rfl ?_
  refine rv_sub h [1, 2, 3, 4, 0] rfl ?_
  refine rv_fx_ind (fun (a0 : Int32 → rv_W → rv_R) => ∀ (v8 : Int32) (w9 : rv_W), K 17 [(0, .ref (ad 78)), (1, .int p1), (2, .int p2), (3, .int v3), (4, .int v8)] [] w9 (a0 v8 w9)) (fun _ _ => rv_none h) (fun ag6 ih7 v8 w9 => ?_) rv_FU (0 : Int32) w5
  refine rv_iload h 17 dX11_pointsOfFirst_17 4 rfl ?_
  refine rv_aload_n h 19 dX11_pointsOfFirst_19 0 rfl ?_
  refine rv_geti h 20 dX11_pointsOfFirst_20 rv_s78 rv_fd_X11_78 rfl ?_
  refine rv_icmp_ge (tgt := 82) h 23 dX11_pointsOfFirst_23 (by decide) (fun _ => ?_) (fun _ => ?_)
  rotate_left
  · refine rv_iinc h 82 (fun v10 => [(3, .int v10), (0, .ref (ad 78)), (1, .int p1), (2, .int p2), (4, .int v8)]) dX11_pointsOfFirst_82 3 rfl rv_c1 (by decide) (fun _ => rfl) (fun v10 => ?_)
    refine rv_goto (tgt := 2) h 85 dX11_pointsOfFirst_85 (by decide) ?_
    refine rv_sub h [1, 2, 3, 0] rfl ?_
    exact ih2 v10 w9
  refine rv_iload_n h 26 dX11_pointsOfFirst_26 1 rfl ?_
  refine rv_iload_n h 27 dX11_pointsOfFirst_27 3 rfl ?_
  refine rv_callSi h 28 dX11_pointsOfFirst_28 (fn_X11_has hJ p1 v3  w9) ce_X11_has lk_X11_74 rfl rfl (Nat.le_of_ble_eq_true rfl) ⟨Nat.le_of_ble_eq_true rfl, Nat.le_of_ble_eq_true rfl⟩ (fun r11 w12 => ?_)
  refine rv_if_eq (tgt := 82) h 31 dX11_pointsOfFirst_31 (by decide) (fun _ => ?_) (fun _ => ?_)
  · refine rv_iinc h 82 (fun v13 => [(3, .int v13), (0, .ref (ad 78)), (1, .int p1), (2, .int p2), (4, .int v8)]) dX11_pointsOfFirst_82 3 rfl rv_c1 (by decide) (fun _ => rfl) (fun v13 => ?_)
    refine rv_goto (tgt := 2) h 85 dX11_pointsOfFirst_85 (by decide) ?_
    refine rv_sub h [1, 2, 3, 0] rfl ?_
    exact ih2 v13 w12
  refine rv_aload_n h 34 dX11_pointsOfFirst_34 0 rfl ?_
  refine rv_getr h 35 dX11_pointsOfFirst_35 rv_s78 rv_fd_X11_25 rfl ?_
  refine rv_iload_n h 38 dX11_pointsOfFirst_38 3 rfl ?_
  refine rv_dup2 h 39 dX11_pointsOfFirst_39 rfl rfl ?_
  refine rv_iald h 40 dX11_pointsOfFirst_40 rv_s84 ?_
  refine rv_aload_n h 41 dX11_pointsOfFirst_41 0 rfl ?_
  refine rv_iload h 42 dX11_pointsOfFirst_42 4 rfl ?_
  refine rv_iload_n h 44 dX11_pointsOfFirst_44 3 rfl ?_
  refine rv_callVi h 45 dX11_pointsOfFirst_45 (fn_X11_isOn hJ v8 v3  w12) ce_X11_isOn lk_X11_98 rv_s78 rfl rv_cf9 rfl rfl (Nat.le_of_ble_eq_true rfl) ⟨Nat.le_of_ble_eq_true rfl, Nat.le_of_ble_eq_true rfl⟩ (fun r14 w15 => ?_)
  refine rv_join (fun (k0 : Int32 → rv_W → rv_R) => ∀ (v16 : Int32) (w17 : rv_W), K 74 [(0, .ref (ad 78)), (1, .int p1), (2, .int p2), (3, .int v3), (4, .int v8)] (.int v16 :: .int (w12 84 v3.toNatClampNeg) :: .int v3 :: .ref (ad 84) :: []) w17 (k0 v16 w17)) (fun v16 w17 => ?_) (fun k18 hk19 => ?_)
  · refine rv_iadd h 74 dX11_pointsOfFirst_74 ?_
    refine rv_iast h 75 dX11_pointsOfFirst_75 rv_s84 (fun w20 => ?_)
    refine rv_iinc h 76 (fun v21 => [(4, .int v21), (0, .ref (ad 78)), (1, .int p1), (2, .int p2), (3, .int v3)]) dX11_pointsOfFirst_76 4 rfl rv_c1 (by decide) (fun _ => rfl) (fun v21 => ?_)
    refine rv_goto (tgt := 17) h 79 dX11_pointsOfFirst_79 (by decide) ?_
    refine rv_sub h [1, 2, 3, 4, 0] rfl ?_
    exact ih7 v21 w20
  refine rv_join (fun (k0 : rv_W → rv_R) => ∀  (w22 : rv_W), K 73 [(0, .ref (ad 78)), (1, .int p1), (2, .int p2), (3, .int v3), (4, .int v8)] (.int (w12 84 v3.toNatClampNeg) :: .int v3 :: .ref (ad 84) :: []) w22 (k0 w22)) (fun w22 => ?_) (fun k23 hk24 => ?_)
  · refine rv_iconst h 73 dX11_pointsOfFirst_73 rv_c0 ?_
    refine rv_sub h [0, 1, 2, 3, 4] rfl ?_
    exact hk19 (0 : Int32) w22
  refine rv_if_eq (tgt := 73) h 48 dX11_pointsOfFirst_48 (by decide) (fun _ => ?_) (fun _ => ?_)
  · refine rv_sub h [0, 1, 2, 3, 4] rfl ?_
    exact hk24 w15
  refine rv_aload_n h 51 dX11_pointsOfFirst_51 0 rfl ?_
  refine rv_iload h 52 dX11_pointsOfFirst_52 4 rfl ?_
  refine rv_iload_n h 54 dX11_pointsOfFirst_54 3 rfl ?_
  refine rv_iload_n h 55 dX11_pointsOfFirst_55 1 rfl ?_
  refine rv_callVi h 56 dX11_pointsOfFirst_56 (fn_X11_above hJ v8 v3 p1  w15) ce_X11_above lk_X11_101 rv_s78 rfl rv_cf9 rfl rfl (Nat.le_of_ble_eq_true rfl) ⟨Nat.le_of_ble_eq_true rfl, Nat.le_of_ble_eq_true rfl⟩ (fun r25 w26 => ?_)
  refine rv_iload_n h 59 dX11_pointsOfFirst_59 2 rfl ?_
  refine rv_icmp_ge (tgt := 73) h 60 dX11_pointsOfFirst_60 (by decide) (fun _ => ?_) (fun _ => ?_)
  rotate_left
  · refine rv_sub h [0, 1, 2, 3, 4] rfl ?_
    exact hk24 w26
  refine rv_aload_n h 63 dX11_pointsOfFirst_63 0 rfl ?_
  refine rv_getr h 64 dX11_pointsOfFirst_64 rv_s78 rv_fd_X11_16 rfl ?_
  refine rv_iload h 67 dX11_pointsOfFirst_67 4 rfl ?_
  refine rv_iald h 69 dX11_pointsOfFirst_69 rv_s81 ?_
  refine rv_goto (tgt := 74) h 70 dX11_pointsOfFirst_70 (by decide) ?_
  refine rv_sub h [0, 1, 2, 3, 4] rfl ?_
  exact hk19 (w26 81 v8.toNatClampNeg) w26
def f_X11_offBallot (p1 : Int32) (p2 : Int32) (w : rv_W) : rv_R :=
  rv_fx (fun _ _ _ => none) (fun (ag1 : Int32 → Int32 → rv_W → rv_R) (v3 : Int32) (v4 : Int32) (w5 : rv_W) =>
  if v4 < (5 : Int32) then
  rv_bd (f_X11_has p2 v4 w5) (fun (r6 : Int32) (w7 : rv_W) =>
  rv_jn (fun  (w8 : rv_W) =>
  rv_lt ((v3 + (0 : Int32))) (fun (v11 : Int32) =>
  rv_lt (v4 + (1 : Int32)) (fun (v12 : Int32) =>
  ag1 v11 v12 w8))) (fun (k9 : rv_W → rv_R) =>
  if r6 = 0 then
  k9 w7
  else
  rv_bd (f_X11_isOn p1 v4 w7) (fun (r13 : Int32) (w14 : rv_W) =>
  if r13 = 0 then
  rv_lt ((v3 + (1 : Int32))) (fun (v15 : Int32) =>
  rv_lt (v4 + (1 : Int32)) (fun (v16 : Int32) =>
  ag1 v15 v16 w14))
  else
  k9 w14)))
  else
  some (v3, w5)) rv_FU (0 : Int32) (0 : Int32) w
set_option maxRecDepth 100000 in
set_option maxHeartbeats 4000000 in
theorem fn_X11_offBallot {l : Launch} {D : va_G} {ad : Nat → Nat} {ca : Nat → ClassId} (hJ : rv_J ad) (p1 : Int32) (p2 : Int32)  (w : rv_W) : rv_Fn l D ad ca yX11_offBallot cX11_offBallot 5 (some .int) 1 22 [.ref (ad 78), .int p1, .int p2] w (f_X11_offBallot p1 p2 w) := by
  refine rv_mk (lv := [(0, .ref (ad 78)), (1, .int p1), (2, .int p2)]) hJ (by decide +kernel) (Nat.le_of_ble_eq_true rfl) rfl (fun K h hr => ?_)
  have h : rv_Rl D ad ca l RX11 cX11_offBallot 5 1 22 K := h
  unfold f_X11_offBallot
  refine rv_iconst h 0 dX11_offBallot_0 rv_c0 ?_
  refine rv_istore_n (lv' := [(3, .int (0 : Int32)), (0, .ref (ad 78)), (1, .int p1), (2, .int p2)]) h 1 dX11_offBallot_1 (by decide) rfl ?_
  refine rv_iconst h 2 dX11_offBallot_2 rv_c0 ?_
  refine rv_istore (lv' := [(4, .int (0 : Int32)), (3, .int (0 : Int32)), (0, .ref (ad 78)), (1, .int p1), (2, .int p2)]) h 3 dX11_offBallot_3 (by decide) rfl ?_
  refine rv_sub h [2, 3, 4, 1, 0] rfl ?_
  refine rv_fx_ind (fun (a0 : Int32 → Int32 → rv_W → rv_R) => ∀ (v3 : Int32) (v4 : Int32) (w5 : rv_W), K 5 [(0, .ref (ad 78)), (1, .int p1), (2, .int p2), (3, .int v3), (4, .int v4)] [] w5 (a0 v3 v4 w5)) (fun _ _ _ => rv_none h) (fun ag1 ih2 v3 v4 w5 => ?_) rv_FU (0 : Int32) (0 : Int32) w
  refine rv_iload h 5 dX11_offBallot_5 4 rfl ?_
  refine rv_iconst h 7 dX11_offBallot_7 rv_c5 ?_
  refine rv_icmp_ge (tgt := 44) h 8 dX11_offBallot_8 (by decide) (fun _ => ?_) (fun _ => ?_)
  rotate_left
  · refine rv_iload_n h 44 dX11_offBallot_44 3 rfl ?_
    exact rv_reti hr 45 dX11_offBallot_45
  refine rv_iload_n h 11 dX11_offBallot_11 3 rfl ?_
  refine rv_iload_n h 12 dX11_offBallot_12 2 rfl ?_
  refine rv_iload h 13 dX11_offBallot_13 4 rfl ?_
  refine rv_callSi h 15 dX11_offBallot_15 (fn_X11_has hJ p2 v4  w5) ce_X11_has lk_X11_74 rfl rfl (Nat.le_of_ble_eq_true rfl) ⟨Nat.le_of_ble_eq_true rfl, Nat.le_of_ble_eq_true rfl⟩ (fun r6 w7 => ?_)
  refine rv_join (fun (k0 : rv_W → rv_R) => ∀  (w8 : rv_W), K 35 [(0, .ref (ad 78)), (1, .int p1), (2, .int p2), (4, .int v4)] (.int v3 :: []) w8 (k0 w8)) (fun w8 => ?_) (fun k9 hk10 => ?_)
  · refine rv_iconst h 35 dX11_offBallot_35 rv_c0 ?_
    refine rv_iadd h 36 dX11_offBallot_36 ?_
    refine rv_top (fun v11 => ?_)
    refine rv_istore_n (lv' := [(3, .int v11), (0, .ref (ad 78)), (1, .int p1), (2, .int p2), (4, .int v4)]) h 37 dX11_offBallot_37 (by decide) rfl ?_
    refine rv_iinc h 38 (fun v12 => [(4, .int v12), (3, .int v11), (0, .ref (ad 78)), (1, .int p1), (2, .int p2)]) dX11_offBallot_38 4 rfl rv_c1 (by decide) (fun _ => rfl) (fun v12 => ?_)
    refine rv_goto (tgt := 5) h 41 dX11_offBallot_41 (by decide) ?_
    refine rv_sub h [2, 3, 4, 1, 0] rfl ?_
    exact ih2 v11 v12 w8
  refine rv_if_eq (tgt := 35) h 18 dX11_offBallot_18 (by decide) (fun _ => ?_) (fun _ => ?_)
  · refine rv_sub h [0, 1, 2, 4] rfl ?_
    exact hk10 w7
  refine rv_aload_n h 21 dX11_offBallot_21 0 rfl ?_
  refine rv_iload_n h 22 dX11_offBallot_22 1 rfl ?_
  refine rv_iload h 23 dX11_offBallot_23 4 rfl ?_
  refine rv_callVi h 25 dX11_offBallot_25 (fn_X11_isOn hJ p1 v4  w7) ce_X11_isOn lk_X11_98 rv_s78 rfl rv_cf9 rfl rfl (Nat.le_of_ble_eq_true rfl) ⟨Nat.le_of_ble_eq_true rfl, Nat.le_of_ble_eq_true rfl⟩ (fun r13 w14 => ?_)
  refine rv_if_ne (tgt := 35) h 28 dX11_offBallot_28 (by decide) (fun _ => ?_) (fun _ => ?_)
  rotate_left
  · refine rv_sub h [0, 1, 2, 4] rfl ?_
    exact hk10 w14
  refine rv_iconst h 31 dX11_offBallot_31 rv_c1 ?_
  refine rv_goto (tgt := 36) h 32 dX11_offBallot_32 (by decide) ?_
  refine rv_iadd h 36 dX11_offBallot_36 ?_
  refine rv_top (fun v15 => ?_)
  refine rv_istore_n (lv' := [(3, .int v15), (0, .ref (ad 78)), (1, .int p1), (2, .int p2), (4, .int v4)]) h 37 dX11_offBallot_37 (by decide) rfl ?_
  refine rv_iinc h 38 (fun v16 => [(4, .int v16), (3, .int v15), (0, .ref (ad 78)), (1, .int p1), (2, .int p2)]) dX11_offBallot_38 4 rfl rv_c1 (by decide) (fun _ => rfl) (fun v16 => ?_)
  refine rv_goto (tgt := 5) h 41 dX11_offBallot_41 (by decide) ?_
  refine rv_sub h [2, 3, 4, 1, 0] rfl ?_
  exact ih2 v15 v16 w14
def f_X11_borda (p1 : Int32) (w : rv_W) : rv_R :=
  rv_bd (f_X11_many p1 w) (fun (r1 : Int32) (w2 : rv_W) =>
  rv_fx (fun _ _ => none) (fun (ag3 : Int32 → rv_W → rv_R) (v5 : Int32) (w6 : rv_W) =>
  if v5 < (5 : Int32) then
  rv_ck v5 5 (rv_lt (rv_up w6 84 v5.toNatClampNeg (0 : Int32)) (fun (w7 : rv_W) =>
  rv_fx (fun _ _ => none) (fun (ag8 : Int32 → rv_W → rv_R) (v10 : Int32) (w11 : rv_W) =>
  if v10 < (w11 78 6) then
  rv_bd (f_X11_has p1 v5 w11) (fun (r13 : Int32) (w14 : rv_W) =>
  if r13 = 0 then
  rv_lt (v5 + (1 : Int32)) (fun (v15 : Int32) =>
  ag3 v15 w14)
  else
  rv_bd (f_X11_isOn v10 v5 w14) (fun (r16 : Int32) (w17 : rv_W) =>
  rv_jn (fun (v18 : Int32) (w19 : rv_W) =>
  rv_ck v5 5 (
  rv_ck v10 20 (
  rv_ck v5 5 (rv_lt (rv_up w19 84 v5.toNatClampNeg ((w19 84 v5.toNatClampNeg) + ((w19 81 v10.toNatClampNeg) * v18))) (fun (w22 : rv_W) =>
  rv_lt (v10 + (1 : Int32)) (fun (v23 : Int32) =>
  ag8 v23 w22)))))) (fun (k20 : Int32 → rv_W → rv_R) =>
  if r16 = 0 then
  rv_bd (f_X11_offBallot v10 p1 w17) (fun (r24 : Int32) (w25 : rv_W) =>
  k20 (r24 - (1 : Int32)) w25)
  else
  rv_bd (f_X11_above v10 v5 p1 w17) (fun (r26 : Int32) (w27 : rv_W) =>
  k20 ((2 : Int32) * ((r1 - (1 : Int32)) - r26)) w27))))
  else
  rv_lt (v5 + (1 : Int32)) (fun (v12 : Int32) =>
  ag3 v12 w11)) rv_FU (0 : Int32) w7))
  else
  some (0, w6)) rv_FU (0 : Int32) w2)
set_option maxRecDepth 100000 in
set_option maxHeartbeats 4000000 in
theorem fn_X11_borda {l : Launch} {D : va_G} {ad : Nat → Nat} {ca : Nat → ClassId} (hJ : rv_J ad) (p1 : Int32)  (w : rv_W) : rv_Fn l D ad ca yX11_borda cX11_borda 6 none 2 48 [.ref (ad 78), .int p1] w (f_X11_borda p1 w) := by
  refine rv_mk (lv := [(0, .ref (ad 78)), (1, .int p1)]) hJ (by decide +kernel) (Nat.le_of_ble_eq_true rfl) rfl (fun K h hr => ?_)
  have h : rv_Rl D ad ca l RX11 cX11_borda 6 2 48 K := h
  unfold f_X11_borda
  refine rv_iload_n h 0 dX11_borda_0 1 rfl ?_
  refine rv_callSi h 1 dX11_borda_1 (fn_X11_many hJ p1  w) ce_X11_many lk_X11_105 rfl rfl (Nat.le_of_ble_eq_true rfl) ⟨Nat.le_of_ble_eq_true rfl, Nat.le_of_ble_eq_true rfl⟩ (fun r1 w2 => ?_)
  refine rv_istore_n (lv' := [(2, .int r1), (0, .ref (ad 78)), (1, .int p1)]) h 4 dX11_borda_4 (by decide) rfl ?_
  refine rv_iconst h 5 dX11_borda_5 rv_c0 ?_
  refine rv_istore_n (lv' := [(3, .int (0 : Int32)), (2, .int r1), (0, .ref (ad 78)), (1, .int p1)]) h 6 dX11_borda_6 (by decide) rfl ?_
  refine rv_sub h [2, 3, 1, 0] rfl ?_
  refine rv_fx_ind (fun (a0 : Int32 → rv_W → rv_R) => ∀ (v5 : Int32) (w6 : rv_W), K 7 [(0, .ref (ad 78)), (1, .int p1), (2, .int r1), (3, .int v5)] [] w6 (a0 v5 w6)) (fun _ _ => rv_none h) (fun ag3 ih4 v5 w6 => ?_) rv_FU (0 : Int32) w2
  refine rv_iload_n h 7 dX11_borda_7 3 rfl ?_
  refine rv_iconst h 8 dX11_borda_8 rv_c5 ?_
  refine rv_icmp_ge (tgt := 108) h 9 dX11_borda_9 (by decide) (fun _ => ?_) (fun _ => ?_)
  rotate_left
  · exact rv_retv hr 108 dX11_borda_108
  refine rv_aload_n h 12 dX11_borda_12 0 rfl ?_
  refine rv_getr h 13 dX11_borda_13 rv_s78 rv_fd_X11_25 rfl ?_
  refine rv_iload_n h 16 dX11_borda_16 3 rfl ?_
  refine rv_iconst h 17 dX11_borda_17 rv_c0 ?_
  refine rv_iast h 18 dX11_borda_18 rv_s84 (fun w7 => ?_)
  refine rv_iconst h 19 dX11_borda_19 rv_c0 ?_
  refine rv_istore (lv' := [(4, .int (0 : Int32)), (0, .ref (ad 78)), (1, .int p1), (2, .int r1), (3, .int v5)]) h 20 dX11_borda_20 (by decide) rfl ?_
  refine rv_sub h [1, 2, 3, 4, 0] rfl ?_
  refine rv_fx_ind (fun (a0 : Int32 → rv_W → rv_R) => ∀ (v10 : Int32) (w11 : rv_W), K 22 [(0, .ref (ad 78)), (1, .int p1), (2, .int r1), (3, .int v5), (4, .int v10)] [] w11 (a0 v10 w11)) (fun _ _ => rv_none h) (fun ag8 ih9 v10 w11 => ?_) rv_FU (0 : Int32) w7
  refine rv_iload h 22 dX11_borda_22 4 rfl ?_
  refine rv_aload_n h 24 dX11_borda_24 0 rfl ?_
  refine rv_geti h 25 dX11_borda_25 rv_s78 rv_fd_X11_78 rfl ?_
  refine rv_icmp_ge (tgt := 102) h 28 dX11_borda_28 (by decide) (fun _ => ?_) (fun _ => ?_)
  rotate_left
  · refine rv_iinc h 102 (fun v12 => [(3, .int v12), (0, .ref (ad 78)), (1, .int p1), (2, .int r1), (4, .int v10)]) dX11_borda_102 3 rfl rv_c1 (by decide) (fun _ => rfl) (fun v12 => ?_)
    refine rv_goto (tgt := 7) h 105 dX11_borda_105 (by decide) ?_
    refine rv_sub h [1, 2, 3, 0] rfl ?_
    exact ih4 v12 w11
  refine rv_iload_n h 31 dX11_borda_31 1 rfl ?_
  refine rv_iload_n h 32 dX11_borda_32 3 rfl ?_
  refine rv_callSi h 33 dX11_borda_33 (fn_X11_has hJ p1 v5  w11) ce_X11_has lk_X11_74 rfl rfl (Nat.le_of_ble_eq_true rfl) ⟨Nat.le_of_ble_eq_true rfl, Nat.le_of_ble_eq_true rfl⟩ (fun r13 w14 => ?_)
  refine rv_if_eq (tgt := 102) h 36 dX11_borda_36 (by decide) (fun _ => ?_) (fun _ => ?_)
  · refine rv_iinc h 102 (fun v15 => [(3, .int v15), (0, .ref (ad 78)), (1, .int p1), (2, .int r1), (4, .int v10)]) dX11_borda_102 3 rfl rv_c1 (by decide) (fun _ => rfl) (fun v15 => ?_)
    refine rv_goto (tgt := 7) h 105 dX11_borda_105 (by decide) ?_
    refine rv_sub h [1, 2, 3, 0] rfl ?_
    exact ih4 v15 w14
  refine rv_aload_n h 39 dX11_borda_39 0 rfl ?_
  refine rv_iload h 40 dX11_borda_40 4 rfl ?_
  refine rv_iload_n h 42 dX11_borda_42 3 rfl ?_
  refine rv_callVi h 43 dX11_borda_43 (fn_X11_isOn hJ v10 v5  w14) ce_X11_isOn lk_X11_98 rv_s78 rfl rv_cf9 rfl rfl (Nat.le_of_ble_eq_true rfl) ⟨Nat.le_of_ble_eq_true rfl, Nat.le_of_ble_eq_true rfl⟩ (fun r16 w17 => ?_)
  refine rv_join (fun (k0 : Int32 → rv_W → rv_R) => ∀ (v18 : Int32) (w19 : rv_W), K 75 [(0, .ref (ad 78)), (1, .int p1), (2, .int r1), (3, .int v5), (4, .int v10)] (.int v18 :: []) w19 (k0 v18 w19)) (fun v18 w19 => ?_) (fun k20 hk21 => ?_)
  · refine rv_istore (lv' := [(5, .int v18), (0, .ref (ad 78)), (1, .int p1), (2, .int r1), (3, .int v5), (4, .int v10)]) h 75 dX11_borda_75 (by decide) rfl ?_
    refine rv_aload_n h 77 dX11_borda_77 1 rfl ?_
    refine rv_getr h 78 dX11_borda_78 rv_s78 rv_fd_X11_25 rfl ?_
    refine rv_iload_n h 81 dX11_borda_81 4 rfl ?_
    refine rv_dup2 h 82 dX11_borda_82 rfl rfl ?_
    refine rv_iald h 83 dX11_borda_83 rv_s84 ?_
    refine rv_aload_n h 84 dX11_borda_84 1 rfl ?_
    refine rv_getr h 85 dX11_borda_85 rv_s78 rv_fd_X11_16 rfl ?_
    refine rv_iload h 88 dX11_borda_88 5 rfl ?_
    refine rv_iald h 90 dX11_borda_90 rv_s81 ?_
    refine rv_iload h 91 dX11_borda_91 0 rfl ?_
    refine rv_imul h 93 dX11_borda_93 ?_
    refine rv_iadd h 94 dX11_borda_94 ?_
    refine rv_iast h 95 dX11_borda_95 rv_s84 (fun w22 => ?_)
    refine rv_iinc h 96 (fun v23 => [(4, .int v23), (5, .int v18), (0, .ref (ad 78)), (1, .int p1), (2, .int r1), (3, .int v5)]) dX11_borda_96 5 rfl rv_c1 (by decide) (fun _ => rfl) (fun v23 => ?_)
    refine rv_goto (tgt := 22) h 99 dX11_borda_99 (by decide) ?_
    refine rv_sub h [2, 3, 4, 5, 0] rfl ?_
    exact ih9 v23 w22
  refine rv_if_eq (tgt := 66) h 46 dX11_borda_46 (by decide) (fun _ => ?_) (fun _ => ?_)
  · refine rv_aload_n h 66 dX11_borda_66 0 rfl ?_
    refine rv_iload h 67 dX11_borda_67 4 rfl ?_
    refine rv_iload_n h 69 dX11_borda_69 1 rfl ?_
    refine rv_callVi h 70 dX11_borda_70 (fn_X11_offBallot hJ v10 p1  w17) ce_X11_offBallot lk_X11_109 rv_s78 rfl rv_cf9 rfl rfl (Nat.le_of_ble_eq_true rfl) ⟨Nat.le_of_ble_eq_true rfl, Nat.le_of_ble_eq_true rfl⟩ (fun r24 w25 => ?_)
    refine rv_iconst h 73 dX11_borda_73 rv_c1 ?_
    refine rv_isub h 74 dX11_borda_74 ?_
    refine rv_sub h [0, 1, 2, 3, 4] rfl ?_
    exact hk21 (r24 - (1 : Int32)) w25
  refine rv_iconst h 49 dX11_borda_49 rv_c2 ?_
  refine rv_iload_n h 50 dX11_borda_50 2 rfl ?_
  refine rv_iconst h 51 dX11_borda_51 rv_c1 ?_
  refine rv_isub h 52 dX11_borda_52 ?_
  refine rv_aload_n h 53 dX11_borda_53 0 rfl ?_
  refine rv_iload h 54 dX11_borda_54 4 rfl ?_
  refine rv_iload_n h 56 dX11_borda_56 3 rfl ?_
  refine rv_iload_n h 57 dX11_borda_57 1 rfl ?_
  refine rv_callVi h 58 dX11_borda_58 (fn_X11_above hJ v10 v5 p1  w17) ce_X11_above lk_X11_101 rv_s78 rfl rv_cf9 rfl rfl (Nat.le_of_ble_eq_true rfl) ⟨Nat.le_of_ble_eq_true rfl, Nat.le_of_ble_eq_true rfl⟩ (fun r26 w27 => ?_)
  refine rv_isub h 61 dX11_borda_61 ?_
  refine rv_imul h 62 dX11_borda_62 ?_
  refine rv_goto (tgt := 75) h 63 dX11_borda_63 (by decide) ?_
  refine rv_sub h [0, 1, 2, 3, 4] rfl ?_
  exact hk21 ((2 : Int32) * ((r1 - (1 : Int32)) - r26)) w27
def f_X11_copeland (p1 : Int32) (w : rv_W) : rv_R :=
  rv_fx (fun _ _ => none) (fun (ag1 : Int32 → rv_W → rv_R) (v3 : Int32) (w4 : rv_W) =>
  if v3 < (5 : Int32) then
  rv_ck v3 5 (rv_lt (rv_up w4 84 v3.toNatClampNeg (0 : Int32)) (fun (w5 : rv_W) =>
  rv_fx (fun _ _ => none) (fun (ag6 : Int32 → rv_W → rv_R) (v8 : Int32) (w9 : rv_W) =>
  if v8 < (5 : Int32) then
  rv_bd (f_X11_has p1 v3 w9) (fun (r11 : Int32) (w12 : rv_W) =>
  if r11 = 0 then
  rv_lt (v3 + (1 : Int32)) (fun (v13 : Int32) =>
  ag1 v13 w12)
  else
  if v8 = v3 then
  rv_lt (v8 + (1 : Int32)) (fun (v14 : Int32) =>
  ag6 v14 w12)
  else
  rv_bd (f_X11_has p1 v8 w12) (fun (r15 : Int32) (w16 : rv_W) =>
  if r15 = 0 then
  rv_lt (v8 + (1 : Int32)) (fun (v17 : Int32) =>
  ag6 v17 w16)
  else
  rv_ck v3 5 (
  rv_bd (f_X11_beats v3 v8 w16) (fun (r18 : Int32) (w19 : rv_W) =>
  rv_jn (fun (v20 : Int32) (w21 : rv_W) =>
  rv_ck v3 5 (rv_lt (rv_up w21 84 v3.toNatClampNeg ((w16 84 v3.toNatClampNeg) + v20)) (fun (w24 : rv_W) =>
  rv_lt (v8 + (1 : Int32)) (fun (v25 : Int32) =>
  ag6 v25 w24)))) (fun (k22 : Int32 → rv_W → rv_R) =>
  if r18 = 0 then
  rv_bd (f_X11_beats v8 v3 w19) (fun (r26 : Int32) (w27 : rv_W) =>
  if r26 = 0 then
  k22 (1 : Int32) w27
  else
  k22 (0 : Int32) w27)
  else
  k22 (2 : Int32) w19)))))
  else
  rv_lt (v3 + (1 : Int32)) (fun (v10 : Int32) =>
  ag1 v10 w9)) rv_FU (0 : Int32) w5))
  else
  some (0, w4)) rv_FU (0 : Int32) w
set_option maxRecDepth 100000 in
set_option maxHeartbeats 4000000 in
theorem fn_X11_copeland {l : Launch} {D : va_G} {ad : Nat → Nat} {ca : Nat → ClassId} (hJ : rv_J ad) (p1 : Int32)  (w : rv_W) : rv_Fn l D ad ca yX11_copeland cX11_copeland 4 none 2 44 [.ref (ad 78), .int p1] w (f_X11_copeland p1 w) := by
  refine rv_mk (lv := [(0, .ref (ad 78)), (1, .int p1)]) hJ (by decide +kernel) (Nat.le_of_ble_eq_true rfl) rfl (fun K h hr => ?_)
  have h : rv_Rl D ad ca l RX11 cX11_copeland 4 2 44 K := h
  unfold f_X11_copeland
  refine rv_iconst h 0 dX11_copeland_0 rv_c0 ?_
  refine rv_istore_n (lv' := [(2, .int (0 : Int32)), (0, .ref (ad 78)), (1, .int p1)]) h 1 dX11_copeland_1 (by decide) rfl ?_
  refine rv_sub h [1, 2, 0] rfl ?_
  refine rv_fx_ind (fun (a0 : Int32 → rv_W → rv_R) => ∀ (v3 : Int32) (w4 : rv_W), K 2 [(0, .ref (ad 78)), (1, .int p1), (2, .int v3)] [] w4 (a0 v3 w4)) (fun _ _ => rv_none h) (fun ag1 ih2 v3 w4 => ?_) rv_FU (0 : Int32) w
  refine rv_iload_n h 2 dX11_copeland_2 2 rfl ?_
  refine rv_iconst h 3 dX11_copeland_3 rv_c5 ?_
  refine rv_icmp_ge (tgt := 90) h 4 dX11_copeland_4 (by decide) (fun _ => ?_) (fun _ => ?_)
  rotate_left
  · exact rv_retv hr 90 dX11_copeland_90
  refine rv_aload_n h 7 dX11_copeland_7 0 rfl ?_
  refine rv_getr h 8 dX11_copeland_8 rv_s78 rv_fd_X11_25 rfl ?_
  refine rv_iload_n h 11 dX11_copeland_11 2 rfl ?_
  refine rv_iconst h 12 dX11_copeland_12 rv_c0 ?_
  refine rv_iast h 13 dX11_copeland_13 rv_s84 (fun w5 => ?_)
  refine rv_iconst h 14 dX11_copeland_14 rv_c0 ?_
  refine rv_istore_n (lv' := [(3, .int (0 : Int32)), (0, .ref (ad 78)), (1, .int p1), (2, .int v3)]) h 15 dX11_copeland_15 (by decide) rfl ?_
  refine rv_sub h [1, 2, 3, 0] rfl ?_
  refine rv_fx_ind (fun (a0 : Int32 → rv_W → rv_R) => ∀ (v8 : Int32) (w9 : rv_W), K 16 [(0, .ref (ad 78)), (1, .int p1), (2, .int v3), (3, .int v8)] [] w9 (a0 v8 w9)) (fun _ _ => rv_none h) (fun ag6 ih7 v8 w9 => ?_) rv_FU (0 : Int32) w5
  refine rv_iload_n h 16 dX11_copeland_16 3 rfl ?_
  refine rv_iconst h 17 dX11_copeland_17 rv_c5 ?_
  refine rv_icmp_ge (tgt := 84) h 18 dX11_copeland_18 (by decide) (fun _ => ?_) (fun _ => ?_)
  rotate_left
  · refine rv_iinc h 84 (fun v10 => [(2, .int v10), (0, .ref (ad 78)), (1, .int p1), (3, .int v8)]) dX11_copeland_84 2 rfl rv_c1 (by decide) (fun _ => rfl) (fun v10 => ?_)
    refine rv_goto (tgt := 2) h 87 dX11_copeland_87 (by decide) ?_
    refine rv_sub h [1, 2, 0] rfl ?_
    exact ih2 v10 w9
  refine rv_iload_n h 21 dX11_copeland_21 1 rfl ?_
  refine rv_iload_n h 22 dX11_copeland_22 2 rfl ?_
  refine rv_callSi h 23 dX11_copeland_23 (fn_X11_has hJ p1 v3  w9) ce_X11_has lk_X11_74 rfl rfl (Nat.le_of_ble_eq_true rfl) ⟨Nat.le_of_ble_eq_true rfl, Nat.le_of_ble_eq_true rfl⟩ (fun r11 w12 => ?_)
  refine rv_if_eq (tgt := 84) h 26 dX11_copeland_26 (by decide) (fun _ => ?_) (fun _ => ?_)
  · refine rv_iinc h 84 (fun v13 => [(2, .int v13), (0, .ref (ad 78)), (1, .int p1), (3, .int v8)]) dX11_copeland_84 2 rfl rv_c1 (by decide) (fun _ => rfl) (fun v13 => ?_)
    refine rv_goto (tgt := 2) h 87 dX11_copeland_87 (by decide) ?_
    refine rv_sub h [1, 2, 0] rfl ?_
    exact ih2 v13 w12
  refine rv_iload_n h 29 dX11_copeland_29 3 rfl ?_
  refine rv_iload_n h 30 dX11_copeland_30 2 rfl ?_
  refine rv_icmp_eq (tgt := 78) h 31 dX11_copeland_31 (by decide) (fun _ => ?_) (fun _ => ?_)
  · refine rv_iinc h 78 (fun v14 => [(3, .int v14), (0, .ref (ad 78)), (1, .int p1), (2, .int v3)]) dX11_copeland_78 3 rfl rv_c1 (by decide) (fun _ => rfl) (fun v14 => ?_)
    refine rv_goto (tgt := 16) h 81 dX11_copeland_81 (by decide) ?_
    refine rv_sub h [1, 2, 3, 0] rfl ?_
    exact ih7 v14 w12
  refine rv_iload_n h 34 dX11_copeland_34 1 rfl ?_
  refine rv_iload_n h 35 dX11_copeland_35 3 rfl ?_
  refine rv_callSi h 36 dX11_copeland_36 (fn_X11_has hJ p1 v8  w12) ce_X11_has lk_X11_74 rfl rfl (Nat.le_of_ble_eq_true rfl) ⟨Nat.le_of_ble_eq_true rfl, Nat.le_of_ble_eq_true rfl⟩ (fun r15 w16 => ?_)
  refine rv_if_eq (tgt := 78) h 39 dX11_copeland_39 (by decide) (fun _ => ?_) (fun _ => ?_)
  · refine rv_iinc h 78 (fun v17 => [(3, .int v17), (0, .ref (ad 78)), (1, .int p1), (2, .int v3)]) dX11_copeland_78 3 rfl rv_c1 (by decide) (fun _ => rfl) (fun v17 => ?_)
    refine rv_goto (tgt := 16) h 81 dX11_copeland_81 (by decide) ?_
    refine rv_sub h [1, 2, 3, 0] rfl ?_
    exact ih7 v17 w16
  refine rv_aload_n h 42 dX11_copeland_42 0 rfl ?_
  refine rv_getr h 43 dX11_copeland_43 rv_s78 rv_fd_X11_25 rfl ?_
  refine rv_iload_n h 46 dX11_copeland_46 2 rfl ?_
  refine rv_dup2 h 47 dX11_copeland_47 rfl rfl ?_
  refine rv_iald h 48 dX11_copeland_48 rv_s84 ?_
  refine rv_aload_n h 49 dX11_copeland_49 0 rfl ?_
  refine rv_iload_n h 50 dX11_copeland_50 2 rfl ?_
  refine rv_iload_n h 51 dX11_copeland_51 3 rfl ?_
  refine rv_callVi h 52 dX11_copeland_52 (fn_X11_beats hJ v3 v8  w16) ce_X11_beats lk_X11_95 rv_s78 rfl rv_cf9 rfl rfl (Nat.le_of_ble_eq_true rfl) ⟨Nat.le_of_ble_eq_true rfl, Nat.le_of_ble_eq_true rfl⟩ (fun r18 w19 => ?_)
  refine rv_join (fun (k0 : Int32 → rv_W → rv_R) => ∀ (v20 : Int32) (w21 : rv_W), K 76 [(0, .ref (ad 78)), (1, .int p1), (2, .int v3), (3, .int v8)] (.int v20 :: .int (w16 84 v3.toNatClampNeg) :: .int v3 :: .ref (ad 84) :: []) w21 (k0 v20 w21)) (fun v20 w21 => ?_) (fun k22 hk23 => ?_)
  · refine rv_iadd h 76 dX11_copeland_76 ?_
    refine rv_iast h 77 dX11_copeland_77 rv_s84 (fun w24 => ?_)
    refine rv_iinc h 78 (fun v25 => [(3, .int v25), (0, .ref (ad 78)), (1, .int p1), (2, .int v3)]) dX11_copeland_78 3 rfl rv_c1 (by decide) (fun _ => rfl) (fun v25 => ?_)
    refine rv_goto (tgt := 16) h 81 dX11_copeland_81 (by decide) ?_
    refine rv_sub h [1, 2, 3, 0] rfl ?_
    exact ih7 v25 w24
  refine rv_if_eq (tgt := 62) h 55 dX11_copeland_55 (by decide) (fun _ => ?_) (fun _ => ?_)
  rotate_left
  · refine rv_iconst h 58 dX11_copeland_58 rv_c2 ?_
    refine rv_goto (tgt := 76) h 59 dX11_copeland_59 (by decide) ?_
    refine rv_sub h [0, 1, 2, 3] rfl ?_
    exact hk23 (2 : Int32) w19
  refine rv_aload_n h 62 dX11_copeland_62 0 rfl ?_
  refine rv_iload_n h 63 dX11_copeland_63 3 rfl ?_
  refine rv_iload_n h 64 dX11_copeland_64 2 rfl ?_
  refine rv_callVi h 65 dX11_copeland_65 (fn_X11_beats hJ v8 v3  w19) ce_X11_beats lk_X11_95 rv_s78 rfl rv_cf9 rfl rfl (Nat.le_of_ble_eq_true rfl) ⟨Nat.le_of_ble_eq_true rfl, Nat.le_of_ble_eq_true rfl⟩ (fun r26 w27 => ?_)
  refine rv_if_eq (tgt := 75) h 68 dX11_copeland_68 (by decide) (fun _ => ?_) (fun _ => ?_)
  · refine rv_iconst h 75 dX11_copeland_75 rv_c1 ?_
    refine rv_sub h [0, 1, 2, 3] rfl ?_
    exact hk23 (1 : Int32) w27
  refine rv_iconst h 71 dX11_copeland_71 rv_c0 ?_
  refine rv_goto (tgt := 76) h 72 dX11_copeland_72 (by decide) ?_
  refine rv_sub h [0, 1, 2, 3] rfl ?_
  exact hk23 (0 : Int32) w27
def f_X11_minimax (p1 : Int32) (w : rv_W) : rv_R :=
  rv_fx (fun _ _ => none) (fun (ag1 : Int32 → rv_W → rv_R) (v3 : Int32) (w4 : rv_W) =>
  if v3 < (5 : Int32) then
  rv_ck v3 5 (rv_lt (rv_up w4 84 v3.toNatClampNeg (0 : Int32)) (fun (w5 : rv_W) =>
  rv_fx (fun _ _ _ => none) (fun (ag6 : Int32 → Int32 → rv_W → rv_R) (v8 : Int32) (v9 : Int32) (w10 : rv_W) =>
  if v9 < (5 : Int32) then
  rv_bd (f_X11_has p1 v3 w10) (fun (r12 : Int32) (w13 : rv_W) =>
  if r12 = 0 then
  rv_lt (v3 + (1 : Int32)) (fun (v14 : Int32) =>
  ag1 v14 w13)
  else
  if v9 = v3 then
  rv_lt (v9 + (1 : Int32)) (fun (v15 : Int32) =>
  ag6 v8 v15 w13)
  else
  rv_bd (f_X11_has p1 v9 w13) (fun (r16 : Int32) (w17 : rv_W) =>
  if r16 = 0 then
  rv_lt (v9 + (1 : Int32)) (fun (v18 : Int32) =>
  ag6 v8 v18 w17)
  else
  rv_bd (f_X11_p v9 v3 w17) (fun (r19 : Int32) (w20 : rv_W) =>
  rv_bd (f_X11_p v3 v9 w20) (fun (r21 : Int32) (w22 : rv_W) =>
  rv_lt ((r19 - r21)) (fun (v23 : Int32) =>
  rv_jn (fun (v24 : Int32) (w25 : rv_W) =>
  rv_ck v3 5 (rv_lt (rv_up w25 84 v3.toNatClampNeg v24) (fun (w28 : rv_W) =>
  rv_lt (v9 + (1 : Int32)) (fun (v29 : Int32) =>
  ag6 (0 : Int32) v29 w28)))) (fun (k26 : Int32 → rv_W → rv_R) =>
  rv_jn (fun  (w30 : rv_W) =>
  k26 v23 w30) (fun (k31 : rv_W → rv_R) =>
  if v8 = 0 then
  rv_ck v3 5 (
  if (w22 84 v3.toNatClampNeg) < v23 then
  k31 w22
  else
  rv_ck v3 5 (
  k26 (w22 84 v3.toNatClampNeg) w22))
  else
  k31 w22)))))))
  else
  rv_lt (v3 + (1 : Int32)) (fun (v11 : Int32) =>
  ag1 v11 w10)) rv_FU (1 : Int32) (0 : Int32) w5))
  else
  some (0, w4)) rv_FU (0 : Int32) w
set_option maxRecDepth 100000 in
set_option maxHeartbeats 4000000 in
theorem fn_X11_minimax {l : Launch} {D : va_G} {ad : Nat → Nat} {ca : Nat → ClassId} (hJ : rv_J ad) (p1 : Int32)  (w : rv_W) : rv_Fn l D ad ca yX11_minimax cX11_minimax 6 none 1 22 [.ref (ad 78), .int p1] w (f_X11_minimax p1 w) := by
  refine rv_mk (lv := [(0, .ref (ad 78)), (1, .int p1)]) hJ (by decide +kernel) (Nat.le_of_ble_eq_true rfl) rfl (fun K h hr => ?_)
  have h : rv_Rl D ad ca l RX11 cX11_minimax 6 1 22 K := h
  unfold f_X11_minimax
  refine rv_iconst h 0 dX11_minimax_0 rv_c0 ?_
  refine rv_istore_n (lv' := [(2, .int (0 : Int32)), (0, .ref (ad 78)), (1, .int p1)]) h 1 dX11_minimax_1 (by decide) rfl ?_
  refine rv_sub h [1, 2, 0] rfl ?_
  refine rv_fx_ind (fun (a0 : Int32 → rv_W → rv_R) => ∀ (v3 : Int32) (w4 : rv_W), K 2 [(0, .ref (ad 78)), (1, .int p1), (2, .int v3)] [] w4 (a0 v3 w4)) (fun _ _ => rv_none h) (fun ag1 ih2 v3 w4 => ?_) rv_FU (0 : Int32) w
  refine rv_iload_n h 2 dX11_minimax_2 2 rfl ?_
  refine rv_iconst h 3 dX11_minimax_3 rv_c5 ?_
  refine rv_icmp_ge (tgt := 111) h 4 dX11_minimax_4 (by decide) (fun _ => ?_) (fun _ => ?_)
  rotate_left
  · exact rv_retv hr 111 dX11_minimax_111
  refine rv_iconst h 7 dX11_minimax_7 rv_c1 ?_
  refine rv_istore_n (lv' := [(3, .int (1 : Int32)), (0, .ref (ad 78)), (1, .int p1), (2, .int v3)]) h 8 dX11_minimax_8 (by decide) rfl ?_
  refine rv_aload_n h 9 dX11_minimax_9 1 rfl ?_
  refine rv_getr h 10 dX11_minimax_10 rv_s78 rv_fd_X11_25 rfl ?_
  refine rv_iload_n h 13 dX11_minimax_13 3 rfl ?_
  refine rv_iconst h 14 dX11_minimax_14 rv_c0 ?_
  refine rv_iast h 15 dX11_minimax_15 rv_s84 (fun w5 => ?_)
  refine rv_iconst h 16 dX11_minimax_16 rv_c0 ?_
  refine rv_istore (lv' := [(4, .int (0 : Int32)), (3, .int (1 : Int32)), (0, .ref (ad 78)), (1, .int p1), (2, .int v3)]) h 17 dX11_minimax_17 (by decide) rfl ?_
  refine rv_sub h [2, 3, 4, 1, 0] rfl ?_
  refine rv_fx_ind (fun (a0 : Int32 → Int32 → rv_W → rv_R) => ∀ (v8 : Int32) (v9 : Int32) (w10 : rv_W), K 19 [(0, .ref (ad 78)), (1, .int p1), (2, .int v3), (3, .int v8), (4, .int v9)] [] w10 (a0 v8 v9 w10)) (fun _ _ _ => rv_none h) (fun ag6 ih7 v8 v9 w10 => ?_) rv_FU (1 : Int32) (0 : Int32) w5
  refine rv_iload h 19 dX11_minimax_19 4 rfl ?_
  refine rv_iconst h 21 dX11_minimax_21 rv_c5 ?_
  refine rv_icmp_ge (tgt := 105) h 22 dX11_minimax_22 (by decide) (fun _ => ?_) (fun _ => ?_)
  rotate_left
  · refine rv_iinc h 105 (fun v11 => [(2, .int v11), (0, .ref (ad 78)), (1, .int p1), (3, .int v8), (4, .int v9)]) dX11_minimax_105 2 rfl rv_c1 (by decide) (fun _ => rfl) (fun v11 => ?_)
    refine rv_goto (tgt := 2) h 108 dX11_minimax_108 (by decide) ?_
    refine rv_sub h [1, 2, 0] rfl ?_
    exact ih2 v11 w10
  refine rv_iload_n h 25 dX11_minimax_25 1 rfl ?_
  refine rv_iload_n h 26 dX11_minimax_26 2 rfl ?_
  refine rv_callSi h 27 dX11_minimax_27 (fn_X11_has hJ p1 v3  w10) ce_X11_has lk_X11_74 rfl rfl (Nat.le_of_ble_eq_true rfl) ⟨Nat.le_of_ble_eq_true rfl, Nat.le_of_ble_eq_true rfl⟩ (fun r12 w13 => ?_)
  refine rv_if_eq (tgt := 105) h 30 dX11_minimax_30 (by decide) (fun _ => ?_) (fun _ => ?_)
  · refine rv_iinc h 105 (fun v14 => [(2, .int v14), (0, .ref (ad 78)), (1, .int p1), (3, .int v8), (4, .int v9)]) dX11_minimax_105 2 rfl rv_c1 (by decide) (fun _ => rfl) (fun v14 => ?_)
    refine rv_goto (tgt := 2) h 108 dX11_minimax_108 (by decide) ?_
    refine rv_sub h [1, 2, 0] rfl ?_
    exact ih2 v14 w13
  refine rv_iload h 33 dX11_minimax_33 4 rfl ?_
  refine rv_iload_n h 35 dX11_minimax_35 2 rfl ?_
  refine rv_icmp_eq (tgt := 99) h 36 dX11_minimax_36 (by decide) (fun _ => ?_) (fun _ => ?_)
  · refine rv_iinc h 99 (fun v15 => [(4, .int v15), (0, .ref (ad 78)), (1, .int p1), (2, .int v3), (3, .int v8)]) dX11_minimax_99 4 rfl rv_c1 (by decide) (fun _ => rfl) (fun v15 => ?_)
    refine rv_goto (tgt := 19) h 102 dX11_minimax_102 (by decide) ?_
    refine rv_sub h [1, 2, 3, 4, 0] rfl ?_
    exact ih7 v8 v15 w13
  refine rv_iload_n h 39 dX11_minimax_39 1 rfl ?_
  refine rv_iload h 40 dX11_minimax_40 4 rfl ?_
  refine rv_callSi h 42 dX11_minimax_42 (fn_X11_has hJ p1 v9  w13) ce_X11_has lk_X11_74 rfl rfl (Nat.le_of_ble_eq_true rfl) ⟨Nat.le_of_ble_eq_true rfl, Nat.le_of_ble_eq_true rfl⟩ (fun r16 w17 => ?_)
  refine rv_if_eq (tgt := 99) h 45 dX11_minimax_45 (by decide) (fun _ => ?_) (fun _ => ?_)
  · refine rv_iinc h 99 (fun v18 => [(4, .int v18), (0, .ref (ad 78)), (1, .int p1), (2, .int v3), (3, .int v8)]) dX11_minimax_99 4 rfl rv_c1 (by decide) (fun _ => rfl) (fun v18 => ?_)
    refine rv_goto (tgt := 19) h 102 dX11_minimax_102 (by decide) ?_
    refine rv_sub h [1, 2, 3, 4, 0] rfl ?_
    exact ih7 v8 v18 w17
  refine rv_aload_n h 48 dX11_minimax_48 0 rfl ?_
  refine rv_iload h 49 dX11_minimax_49 4 rfl ?_
  refine rv_iload_n h 51 dX11_minimax_51 2 rfl ?_
  refine rv_callVi h 52 dX11_minimax_52 (fn_X11_p hJ v9 v3  w17) ce_X11_p lk_X11_92 rv_s78 rfl rv_cf9 rfl rfl (Nat.le_of_ble_eq_true rfl) ⟨Nat.le_of_ble_eq_true rfl, Nat.le_of_ble_eq_true rfl⟩ (fun r19 w20 => ?_)
  refine rv_aload_n h 55 dX11_minimax_55 0 rfl ?_
  refine rv_iload_n h 56 dX11_minimax_56 2 rfl ?_
  refine rv_iload h 57 dX11_minimax_57 4 rfl ?_
  refine rv_callVi h 59 dX11_minimax_59 (fn_X11_p hJ v3 v9  w20) ce_X11_p lk_X11_92 rv_s78 rfl rv_cf9 rfl rfl (Nat.le_of_ble_eq_true rfl) ⟨Nat.le_of_ble_eq_true rfl, Nat.le_of_ble_eq_true rfl⟩ (fun r21 w22 => ?_)
  refine rv_isub h 62 dX11_minimax_62 ?_
  refine rv_top (fun v23 => ?_)
  refine rv_istore (lv' := [(5, .int v23), (0, .ref (ad 78)), (1, .int p1), (2, .int v3), (3, .int v8), (4, .int v9)]) h 63 dX11_minimax_63 (by decide) rfl ?_
  refine rv_aload_n h 65 dX11_minimax_65 1 rfl ?_
  refine rv_getr h 66 dX11_minimax_66 rv_s78 rv_fd_X11_25 rfl ?_
  refine rv_iload_n h 69 dX11_minimax_69 3 rfl ?_
  refine rv_iload_n h 70 dX11_minimax_70 4 rfl ?_
  refine rv_join (fun (k0 : Int32 → rv_W → rv_R) => ∀ (v24 : Int32) (w25 : rv_W), K 96 [(0, .ref (ad 78)), (1, .int p1), (2, .int v3), (4, .int v9)] (.int v24 :: .int v3 :: .ref (ad 84) :: []) w25 (k0 v24 w25)) (fun v24 w25 => ?_) (fun k26 hk27 => ?_)
  · refine rv_iast h 96 dX11_minimax_96 rv_s84 (fun w28 => ?_)
    refine rv_iconst h 97 dX11_minimax_97 rv_c0 ?_
    refine rv_istore_n (lv' := [(3, .int (0 : Int32)), (0, .ref (ad 78)), (1, .int p1), (2, .int v3), (4, .int v9)]) h 98 dX11_minimax_98 (by decide) rfl ?_
    refine rv_iinc h 99 (fun v29 => [(4, .int v29), (3, .int (0 : Int32)), (0, .ref (ad 78)), (1, .int p1), (2, .int v3)]) dX11_minimax_99 4 rfl rv_c1 (by decide) (fun _ => rfl) (fun v29 => ?_)
    refine rv_goto (tgt := 19) h 102 dX11_minimax_102 (by decide) ?_
    refine rv_sub h [2, 3, 4, 1, 0] rfl ?_
    exact ih7 (0 : Int32) v29 w28
  refine rv_join (fun (k0 : rv_W → rv_R) => ∀  (w30 : rv_W), K 85 [(0, .ref (ad 78)), (1, .int p1), (2, .int v3), (4, .int v9), (5, .int v23)] (.int v3 :: .ref (ad 84) :: []) w30 (k0 w30)) (fun w30 => ?_) (fun k31 hk32 => ?_)
  · refine rv_iload h 85 dX11_minimax_85 4 rfl ?_
    refine rv_goto (tgt := 96) h 87 dX11_minimax_87 (by decide) ?_
    refine rv_sub h [0, 1, 2, 3] rfl ?_
    exact hk27 v23 w30
  refine rv_if_ne (tgt := 85) h 71 dX11_minimax_71 (by decide) (fun _ => ?_) (fun _ => ?_)
  rotate_left
  · refine rv_sub h [1, 2, 3, 5, 0] rfl ?_
    exact hk32 w22
  refine rv_iload h 74 dX11_minimax_74 0 rfl ?_
  refine rv_aload_n h 76 dX11_minimax_76 1 rfl ?_
  refine rv_getr h 77 dX11_minimax_77 rv_s78 rv_fd_X11_25 rfl ?_
  refine rv_iload_n h 80 dX11_minimax_80 3 rfl ?_
  refine rv_iald h 81 dX11_minimax_81 rv_s84 ?_
  refine rv_icmp_le (tgt := 90) h 82 dX11_minimax_82 (by decide) (fun _ => ?_) (fun _ => ?_)
  · refine rv_sub h [1, 2, 3, 5, 0] rfl ?_
    exact hk32 w22
  refine rv_aload_n h 90 dX11_minimax_90 1 rfl ?_
  refine rv_getr h 91 dX11_minimax_91 rv_s78 rv_fd_X11_25 rfl ?_
  refine rv_iload_n h 94 dX11_minimax_94 3 rfl ?_
  refine rv_iald h 95 dX11_minimax_95 rv_s84 ?_
  refine rv_sub h [1, 2, 3, 5] rfl ?_
  exact hk27 (w22 84 v3.toNatClampNeg) w22
