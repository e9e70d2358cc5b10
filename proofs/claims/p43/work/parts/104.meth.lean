def f_X10_groupCount  (w : rv_W) : rv_R :=
  some ((w 1 1), w)
set_option maxRecDepth 100000 in
set_option maxHeartbeats 4000000 in
theorem fn_X10_groupCount {l : Launch} {D : va_G} {ad : Nat → Nat} {ca : Nat → ClassId} (hJ : rv_J ad)   (w : rv_W) : rv_Fn l D ad ca yX10_groupCount cX10_groupCount 1 (some .int) 0 0 [.ref (ad 0)] w (f_X10_groupCount  w) := by
  refine rv_mk (lv := [(0, .ref (ad 0))]) hJ (by decide +kernel) (Nat.le_of_ble_eq_true rfl) rfl (fun K h hr => ?_)
  have h : rv_Rl D ad ca l RX10 cX10_groupCount 1 0 0 K := h
  unfold f_X10_groupCount
  refine rv_aload_n h 0 dX10_groupCount_0 0 rfl ?_
  refine rv_getr h 1 dX10_groupCount_1 rv_s0 rv_fd_X10_10 rfl ?_
  refine rv_geti h 4 dX10_groupCount_4 rv_s1 rv_fd_X10_68 rfl ?_
  exact rv_reti hr 7 dX10_groupCount_7
def f_X10_voters (p1 : Int32) (w : rv_W) : rv_R :=
  rv_bd (f_X8_holds 1 p1 w) (fun (r1 : Int32) (w2 : rv_W) =>
  if r1 = 0 then
  some ((-1000001 : Int32), w2)
  else
  rv_bd (f_X8_votersOf 1 p1 w2) (fun (r3 : Int32) (w4 : rv_W) =>
  some (r3, w4)))
set_option maxRecDepth 100000 in
set_option maxHeartbeats 4000000 in
theorem fn_X10_voters {l : Launch} {D : va_G} {ad : Nat → Nat} {ca : Nat → ClassId} (hJ : rv_J ad) (p1 : Int32)  (w : rv_W) : rv_Fn l D ad ca yX10_voters cX10_voters 2 (some .int) 1 21 [.ref (ad 0), .int p1] w (f_X10_voters p1 w) := by
  refine rv_mk (lv := [(0, .ref (ad 0)), (1, .int p1)]) hJ (by decide +kernel) (Nat.le_of_ble_eq_true rfl) rfl (fun K h hr => ?_)
  have h : rv_Rl D ad ca l RX10 cX10_voters 2 1 21 K := h
  unfold f_X10_voters
  refine rv_aload_n h 0 dX10_voters_0 0 rfl ?_
  refine rv_getr h 1 dX10_voters_1 rv_s0 rv_fd_X10_10 rfl ?_
  refine rv_iload_n h 4 dX10_voters_4 1 rfl ?_
  refine rv_callVi h 5 dX10_voters_5 (fn_X8_holds hJ 1 p1 (by decide) w) ce_X8_holds lk_X10_72 rv_s1 rfl rv_cf6 rfl rfl (Nat.le_of_ble_eq_true rfl) ⟨Nat.le_of_ble_eq_true rfl, Nat.le_of_ble_eq_true rfl⟩ (fun r1 w2 => ?_)
  refine rv_if_eq (tgt := 22) h 8 dX10_voters_8 (by decide) (fun _ => ?_) (fun _ => ?_)
  · refine rv_ldc h 22 dX10_voters_22 rv_kc_X10_75 ?_
    exact rv_reti hr 24 dX10_voters_24
  refine rv_aload_n h 11 dX10_voters_11 0 rfl ?_
  refine rv_getr h 12 dX10_voters_12 rv_s0 rv_fd_X10_10 rfl ?_
  refine rv_iload_n h 15 dX10_voters_15 1 rfl ?_
  refine rv_callVi h 16 dX10_voters_16 (fn_X8_votersOf hJ 1 p1 (by decide) w2) ce_X8_votersOf lk_X10_80 rv_s1 rfl rv_cf6 rfl rfl (Nat.le_of_ble_eq_true rfl) ⟨Nat.le_of_ble_eq_true rfl, Nat.le_of_ble_eq_true rfl⟩ (fun r3 w4 => ?_)
  refine rv_goto (tgt := 24) h 19 dX10_voters_19 (by decide) ?_
  exact rv_reti hr 24 dX10_voters_24
def f_X10_ballot (p1 : Int32) (w : rv_W) : rv_R :=
  rv_bd (f_X8_holds 1 p1 w) (fun (r1 : Int32) (w2 : rv_W) =>
  if r1 = 0 then
  some ((-1000001 : Int32), w2)
  else
  rv_bd (f_X8_ballotOf 1 p1 w2) (fun (r3 : Int32) (w4 : rv_W) =>
  rv_bd (f_X0_toDigits r3 w4) (fun (r5 : Int32) (w6 : rv_W) =>
  some (r5, w6))))
set_option maxRecDepth 100000 in
set_option maxHeartbeats 4000000 in
theorem fn_X10_ballot {l : Launch} {D : va_G} {ad : Nat → Nat} {ca : Nat → ClassId} (hJ : rv_J ad) (p1 : Int32)  (w : rv_W) : rv_Fn l D ad ca yX10_ballot cX10_ballot 2 (some .int) 3 65 [.ref (ad 0), .int p1] w (f_X10_ballot p1 w) := by
  refine rv_mk (lv := [(0, .ref (ad 0)), (1, .int p1)]) hJ (by decide +kernel) (Nat.le_of_ble_eq_true rfl) rfl (fun K h hr => ?_)
  have h : rv_Rl D ad ca l RX10 cX10_ballot 2 3 65 K := h
  unfold f_X10_ballot
  refine rv_aload_n h 0 dX10_ballot_0 0 rfl ?_
  refine rv_getr h 1 dX10_ballot_1 rv_s0 rv_fd_X10_10 rfl ?_
  refine rv_iload_n h 4 dX10_ballot_4 1 rfl ?_
  refine rv_callVi h 5 dX10_ballot_5 (fn_X8_holds hJ 1 p1 (by decide) w) ce_X8_holds lk_X10_72 rv_s1 rfl rv_cf6 rfl rfl (Nat.le_of_ble_eq_true rfl) ⟨Nat.le_of_ble_eq_true rfl, Nat.le_of_ble_eq_true rfl⟩ (fun r1 w2 => ?_)
  refine rv_if_eq (tgt := 25) h 8 dX10_ballot_8 (by decide) (fun _ => ?_) (fun _ => ?_)
  · refine rv_ldc h 25 dX10_ballot_25 rv_kc_X10_75 ?_
    exact rv_reti hr 27 dX10_ballot_27
  refine rv_aload_n h 11 dX10_ballot_11 0 rfl ?_
  refine rv_getr h 12 dX10_ballot_12 rv_s0 rv_fd_X10_10 rfl ?_
  refine rv_iload_n h 15 dX10_ballot_15 1 rfl ?_
  refine rv_callVi h 16 dX10_ballot_16 (fn_X8_ballotOf hJ 1 p1 (by decide) w2) ce_X8_ballotOf lk_X10_83 rv_s1 rfl rv_cf6 rfl rfl (Nat.le_of_ble_eq_true rfl) ⟨Nat.le_of_ble_eq_true rfl, Nat.le_of_ble_eq_true rfl⟩ (fun r3 w4 => ?_)
  refine rv_callSi h 19 dX10_ballot_19 (fn_X0_toDigits hJ r3  w4) ce_X0_toDigits lk_X10_97 rfl rfl (Nat.le_of_ble_eq_true rfl) ⟨Nat.le_of_ble_eq_true rfl, Nat.le_of_ble_eq_true rfl⟩ (fun r5 w6 => ?_)
  refine rv_goto (tgt := 27) h 22 dX10_ballot_22 (by decide) ?_
  exact rv_reti hr 27 dX10_ballot_27
def f_X10_allVoters  (w : rv_W) : rv_R :=
  rv_bd (f_X8_total 1 w) (fun (r1 : Int32) (w2 : rv_W) =>
  some (r1, w2))
set_option maxRecDepth 100000 in
set_option maxHeartbeats 4000000 in
theorem fn_X10_allVoters {l : Launch} {D : va_G} {ad : Nat → Nat} {ca : Nat → ClassId} (hJ : rv_J ad)   (w : rv_W) : rv_Fn l D ad ca yX10_allVoters cX10_allVoters 1 (some .int) 2 43 [.ref (ad 0)] w (f_X10_allVoters  w) := by
  refine rv_mk (lv := [(0, .ref (ad 0))]) hJ (by decide +kernel) (Nat.le_of_ble_eq_true rfl) rfl (fun K h hr => ?_)
  have h : rv_Rl D ad ca l RX10 cX10_allVoters 1 2 43 K := h
  unfold f_X10_allVoters
  refine rv_aload_n h 0 dX10_allVoters_0 0 rfl ?_
  refine rv_getr h 1 dX10_allVoters_1 rv_s0 rv_fd_X10_10 rfl ?_
  refine rv_callVi h 4 dX10_allVoters_4 (fn_X8_total hJ 1 (by decide) w) ce_X8_total lk_X10_115 rv_s1 rfl rv_cf6 rfl rfl (Nat.le_of_ble_eq_true rfl) ⟨Nat.le_of_ble_eq_true rfl, Nat.le_of_ble_eq_true rfl⟩ (fun r1 w2 => ?_)
  exact rv_reti hr 7 dX10_allVoters_7
def f_X10_bothStand (p1 : Int32) (p2 : Int32) (w : rv_W) : rv_R :=
  rv_bd (f_X1_has (w 1 0) p1 w) (fun (r1 : Int32) (w2 : rv_W) =>
  if r1 = 0 then
  some ((0 : Int32), w2)
  else
  rv_bd (f_X1_has (w2 1 0) p2 w2) (fun (r3 : Int32) (w4 : rv_W) =>
  if r3 = 0 then
  some ((0 : Int32), w4)
  else
  some ((1 : Int32), w4)))
set_option maxRecDepth 100000 in
set_option maxHeartbeats 4000000 in
theorem fn_X10_bothStand {l : Launch} {D : va_G} {ad : Nat → Nat} {ca : Nat → ClassId} (hJ : rv_J ad) (p1 : Int32) (p2 : Int32)  (w : rv_W) : rv_Fn l D ad ca yX10_bothStand cX10_bothStand 3 (some .boolean) 1 21 [.ref (ad 0), .int p1, .int p2] w (f_X10_bothStand p1 p2 w) := by
  refine rv_mk (lv := [(0, .ref (ad 0)), (1, .int p1), (2, .int p2)]) hJ (by decide +kernel) (Nat.le_of_ble_eq_true rfl) rfl (fun K h hr => ?_)
  have h : rv_Rl D ad ca l RX10 cX10_bothStand 3 1 21 K := h
  unfold f_X10_bothStand
  refine rv_aload_n h 0 dX10_bothStand_0 0 rfl ?_
  refine rv_getr h 1 dX10_bothStand_1 rv_s0 rv_fd_X10_10 rfl ?_
  refine rv_geti h 4 dX10_bothStand_4 rv_s1 rv_fd_X10_105 rfl ?_
  refine rv_iload_n h 7 dX10_bothStand_7 1 rfl ?_
  refine rv_callSi h 8 dX10_bothStand_8 (fn_X1_has hJ (w 1 0) p1  w) ce_X1_has lk_X10_108 rfl rfl (Nat.le_of_ble_eq_true rfl) ⟨Nat.le_of_ble_eq_true rfl, Nat.le_of_ble_eq_true rfl⟩ (fun r1 w2 => ?_)
  refine rv_if_eq (tgt := 32) h 11 dX10_bothStand_11 (by decide) (fun _ => ?_) (fun _ => ?_)
  · refine rv_iconst h 32 dX10_bothStand_32 rv_c0 ?_
    exact rv_retz0 hr 33 dX10_bothStand_33
  refine rv_aload_n h 14 dX10_bothStand_14 0 rfl ?_
  refine rv_getr h 15 dX10_bothStand_15 rv_s0 rv_fd_X10_10 rfl ?_
  refine rv_geti h 18 dX10_bothStand_18 rv_s1 rv_fd_X10_105 rfl ?_
  refine rv_iload_n h 21 dX10_bothStand_21 2 rfl ?_
  refine rv_callSi h 22 dX10_bothStand_22 (fn_X1_has hJ (w2 1 0) p2  w2) ce_X1_has lk_X10_108 rfl rfl (Nat.le_of_ble_eq_true rfl) ⟨Nat.le_of_ble_eq_true rfl, Nat.le_of_ble_eq_true rfl⟩ (fun r3 w4 => ?_)
  refine rv_if_eq (tgt := 32) h 25 dX10_bothStand_25 (by decide) (fun _ => ?_) (fun _ => ?_)
  · refine rv_iconst h 32 dX10_bothStand_32 rv_c0 ?_
    exact rv_retz0 hr 33 dX10_bothStand_33
  refine rv_iconst h 28 dX10_bothStand_28 rv_c1 ?_
  refine rv_goto (tgt := 33) h 29 dX10_bothStand_29 (by decide) ?_
  exact rv_retz1 hr 33 dX10_bothStand_33
def f_X10_castGroups (p1 : Int32) (p2 : Int32) (p3 : Int32) (w : rv_W) : rv_R :=
  rv_bd (f_X5_open p1 w) (fun (r1 : Int32) (w2 : rv_W) =>
  rv_fx (fun _ _ => none) (fun (ag3 : Int32 → rv_W → rv_R) (v5 : Int32) (w6 : rv_W) =>
  if v5 < p3 then
  rv_bd (f_X8_votersOf 1 v5 w6) (fun (r7 : Int32) (w8 : rv_W) =>
  rv_bd (f_X8_ballotOf 1 v5 w8) (fun (r9 : Int32) (w10 : rv_W) =>
  rv_bd (f_X5_cast v5 r7 r9 w10) (fun (r11 : Int32) (w12 : rv_W) =>
  rv_lt (v5 + (1 : Int32)) (fun (v13 : Int32) =>
  ag3 v13 w12))))
  else
  some (0, w6)) rv_FU p2 w2)
set_option maxRecDepth 100000 in
set_option maxHeartbeats 4000000 in
theorem fn_X10_castGroups {l : Launch} {D : va_G} {ad : Nat → Nat} {ca : Nat → ClassId} (hJ : rv_J ad) (p1 : Int32) (p2 : Int32) (p3 : Int32)  (w : rv_W) : rv_Fn l D ad ca yX10_castGroups cX10_castGroups 5 none 3 72 [.ref (ad 0), .int p1, .int p2, .int p3] w (f_X10_castGroups p1 p2 p3 w) := by
  refine rv_mk (lv := [(0, .ref (ad 0)), (1, .int p1), (2, .int p2), (3, .int p3)]) hJ (by decide +kernel) (Nat.le_of_ble_eq_true rfl) rfl (fun K h hr => ?_)
  have h : rv_Rl D ad ca l RX10 cX10_castGroups 5 3 72 K := h
  unfold f_X10_castGroups
  refine rv_aload_n h 0 dX10_castGroups_0 0 rfl ?_
  refine rv_getr h 1 dX10_castGroups_1 rv_s0 rv_fd_X10_30 rfl ?_
  refine rv_iload_n h 4 dX10_castGroups_4 1 rfl ?_
  refine rv_callVv h 5 dX10_castGroups_5 (fn_X5_open hJ p1  w) ce_X5_open lk_X10_283 rv_s24 rfl rv_cf3 rfl rfl (Nat.le_of_ble_eq_true rfl) ⟨Nat.le_of_ble_eq_true rfl, Nat.le_of_ble_eq_true rfl⟩ (fun r1 w2 => ?_)
  refine rv_iload_n h 8 dX10_castGroups_8 2 rfl ?_
  refine rv_istore (lv' := [(4, .int p2), (0, .ref (ad 0)), (1, .int p1), (2, .int p2), (3, .int p3)]) h 9 dX10_castGroups_9 (by decide) rfl ?_
  refine rv_sub h [1, 4, 0] rfl ?_
  refine rv_fx_ind (fun (a0 : Int32 → rv_W → rv_R) => ∀ (v5 : Int32) (w6 : rv_W), K 11 [(0, .ref (ad 0)), (3, .int p3), (4, .int v5)] [] w6 (a0 v5 w6)) (fun _ _ => rv_none h) (fun ag3 ih4 v5 w6 => ?_) rv_FU p2 w2
  refine rv_iload h 11 dX10_castGroups_11 2 rfl ?_
  refine rv_iload_n h 13 dX10_castGroups_13 1 rfl ?_
  refine rv_icmp_ge (tgt := 50) h 14 dX10_castGroups_14 (by decide) (fun _ => ?_) (fun _ => ?_)
  rotate_left
  · exact rv_retv hr 50 dX10_castGroups_50
  refine rv_aload_n h 17 dX10_castGroups_17 0 rfl ?_
  refine rv_getr h 18 dX10_castGroups_18 rv_s0 rv_fd_X10_30 rfl ?_
  refine rv_iload h 21 dX10_castGroups_21 2 rfl ?_
  refine rv_aload_n h 23 dX10_castGroups_23 0 rfl ?_
  refine rv_getr h 24 dX10_castGroups_24 rv_s0 rv_fd_X10_10 rfl ?_
  refine rv_iload h 27 dX10_castGroups_27 2 rfl ?_
  refine rv_callVi h 29 dX10_castGroups_29 (fn_X8_votersOf hJ 1 v5 (by decide) w6) ce_X8_votersOf lk_X10_80 rv_s1 rfl rv_cf6 rfl rfl (Nat.le_of_ble_eq_true rfl) ⟨Nat.le_of_ble_eq_true rfl, Nat.le_of_ble_eq_true rfl⟩ (fun r7 w8 => ?_)
  refine rv_aload_n h 32 dX10_castGroups_32 0 rfl ?_
  refine rv_getr h 33 dX10_castGroups_33 rv_s0 rv_fd_X10_10 rfl ?_
  refine rv_iload h 36 dX10_castGroups_36 2 rfl ?_
  refine rv_callVi h 38 dX10_castGroups_38 (fn_X8_ballotOf hJ 1 v5 (by decide) w8) ce_X8_ballotOf lk_X10_83 rv_s1 rfl rv_cf6 rfl rfl (Nat.le_of_ble_eq_true rfl) ⟨Nat.le_of_ble_eq_true rfl, Nat.le_of_ble_eq_true rfl⟩ (fun r9 w10 => ?_)
  refine rv_callVv h 41 dX10_castGroups_41 (fn_X5_cast hJ v5 r7 r9  w10) ce_X5_cast lk_X10_231 rv_s24 rfl rv_cf3 rfl rfl (Nat.le_of_ble_eq_true rfl) ⟨Nat.le_of_ble_eq_true rfl, Nat.le_of_ble_eq_true rfl⟩ (fun r11 w12 => ?_)
  refine rv_iinc h 44 (fun v13 => [(4, .int v13), (0, .ref (ad 0)), (3, .int p3)]) dX10_castGroups_44 2 rfl rv_c1 (by decide) (fun _ => rfl) (fun v13 => ?_)
  refine rv_goto (tgt := 11) h 47 dX10_castGroups_47 (by decide) ?_
  refine rv_sub h [1, 2, 0] rfl ?_
  exact ih4 v13 w12
def f_X10_castAll  (w : rv_W) : rv_R :=
  rv_bd (f_X10_castGroups (w 1 0) (0 : Int32) (w 1 1) w) (fun (r1 : Int32) (w2 : rv_W) =>
  some (0, w2))
set_option maxRecDepth 100000 in
set_option maxHeartbeats 4000000 in
theorem fn_X10_castAll {l : Launch} {D : va_G} {ad : Nat → Nat} {ca : Nat → ClassId} (hJ : rv_J ad)   (w : rv_W) : rv_Fn l D ad ca yX10_castAll cX10_castAll 1 none 4 96 [.ref (ad 0)] w (f_X10_castAll  w) := by
  refine rv_mk (lv := [(0, .ref (ad 0))]) hJ (by decide +kernel) (Nat.le_of_ble_eq_true rfl) rfl (fun K h hr => ?_)
  have h : rv_Rl D ad ca l RX10 cX10_castAll 1 4 96 K := h
  unfold f_X10_castAll
  refine rv_aload_n h 0 dX10_castAll_0 0 rfl ?_
  refine rv_aload_n h 1 dX10_castAll_1 0 rfl ?_
  refine rv_getr h 2 dX10_castAll_2 rv_s0 rv_fd_X10_10 rfl ?_
  refine rv_geti h 5 dX10_castAll_5 rv_s1 rv_fd_X10_105 rfl ?_
  refine rv_iconst h 8 dX10_castAll_8 rv_c0 ?_
  refine rv_aload_n h 9 dX10_castAll_9 0 rfl ?_
  refine rv_getr h 10 dX10_castAll_10 rv_s0 rv_fd_X10_10 rfl ?_
  refine rv_geti h 13 dX10_castAll_13 rv_s1 rv_fd_X10_68 rfl ?_
  refine rv_callVv h 16 dX10_castAll_16 (fn_X10_castGroups hJ (w 1 0) (0 : Int32) (w 1 1)  w) ce_X10_castGroups lk_X10_251 rv_s0 rfl rv_cf8 rfl rfl (Nat.le_of_ble_eq_true rfl) ⟨Nat.le_of_ble_eq_true rfl, Nat.le_of_ble_eq_true rfl⟩ (fun r1 w2 => ?_)
  exact rv_retv hr 19 dX10_castAll_19
def f_X10_pair (p1 : Int32) (p2 : Int32) (w : rv_W) : rv_R :=
  rv_bd (f_X1_exists p1 w) (fun (r1 : Int32) (w2 : rv_W) =>
  if r1 = 0 then
  some ((-1000001 : Int32), w2)
  else
  rv_bd (f_X1_exists p2 w2) (fun (r3 : Int32) (w4 : rv_W) =>
  if r3 = 0 then
  some ((-1000001 : Int32), w4)
  else
  rv_bd (f_X10_bothStand p1 p2 w4) (fun (r5 : Int32) (w6 : rv_W) =>
  if r5 = 0 then
  some ((-1000003 : Int32), w6)
  else
  rv_bd (f_X10_castAll  w6) (fun (r7 : Int32) (w8 : rv_W) =>
  rv_bd (f_X5_votesFor p1 p2 w8) (fun (r9 : Int32) (w10 : rv_W) =>
  some (r9, w10))))))
set_option maxRecDepth 100000 in
set_option maxHeartbeats 4000000 in
theorem fn_X10_pair {l : Launch} {D : va_G} {ad : Nat → Nat} {ca : Nat → ClassId} (hJ : rv_J ad) (p1 : Int32) (p2 : Int32)  (w : rv_W) : rv_Fn l D ad ca yX10_pair cX10_pair 3 (some .int) 5 116 [.ref (ad 0), .int p1, .int p2] w (f_X10_pair p1 p2 w) := by
  refine rv_mk (lv := [(0, .ref (ad 0)), (1, .int p1), (2, .int p2)]) hJ (by decide +kernel) (Nat.le_of_ble_eq_true rfl) rfl (fun K h hr => ?_)
  have h : rv_Rl D ad ca l RX10 cX10_pair 3 5 116 K := h
  unfold f_X10_pair
  refine rv_iload_n h 0 dX10_pair_0 1 rfl ?_
  refine rv_callSi h 1 dX10_pair_1 (fn_X1_exists hJ p1  w) ce_X1_exists lk_X10_100 rfl rfl (Nat.le_of_ble_eq_true rfl) ⟨Nat.le_of_ble_eq_true rfl, Nat.le_of_ble_eq_true rfl⟩ (fun r1 w2 => ?_)
  refine rv_if_eq (tgt := 14) h 4 dX10_pair_4 (by decide) (fun _ => ?_) (fun _ => ?_)
  · refine rv_ldc h 14 dX10_pair_14 rv_kc_X10_75 ?_
    exact rv_reti hr 16 dX10_pair_16
  refine rv_iload_n h 7 dX10_pair_7 2 rfl ?_
  refine rv_callSi h 8 dX10_pair_8 (fn_X1_exists hJ p2  w2) ce_X1_exists lk_X10_100 rfl rfl (Nat.le_of_ble_eq_true rfl) ⟨Nat.le_of_ble_eq_true rfl, Nat.le_of_ble_eq_true rfl⟩ (fun r3 w4 => ?_)
  refine rv_if_ne (tgt := 17) h 11 dX10_pair_11 (by decide) (fun _ => ?_) (fun _ => ?_)
  · refine rv_ldc h 14 dX10_pair_14 rv_kc_X10_75 ?_
    exact rv_reti hr 16 dX10_pair_16
  refine rv_aload_n h 17 dX10_pair_17 0 rfl ?_
  refine rv_iload_n h 18 dX10_pair_18 1 rfl ?_
  refine rv_iload_n h 19 dX10_pair_19 2 rfl ?_
  refine rv_callVi h 20 dX10_pair_20 (fn_X10_bothStand hJ p1 p2  w4) ce_X10_bothStand lk_X10_118 rv_s0 rfl rv_cf8 rfl rfl (Nat.le_of_ble_eq_true rfl) ⟨Nat.le_of_ble_eq_true rfl, Nat.le_of_ble_eq_true rfl⟩ (fun r5 w6 => ?_)
  refine rv_if_ne (tgt := 29) h 23 dX10_pair_23 (by decide) (fun _ => ?_) (fun _ => ?_)
  · refine rv_ldc h 26 dX10_pair_26 rv_kc_X10_121 ?_
    exact rv_reti hr 28 dX10_pair_28
  refine rv_aload_n h 29 dX10_pair_29 0 rfl ?_
  refine rv_callVv h 30 dX10_pair_30 (fn_X10_castAll hJ   w6) ce_X10_castAll lk_X10_122 rv_s0 rfl rv_cf8 rfl rfl (Nat.le_of_ble_eq_true rfl) ⟨Nat.le_of_ble_eq_true rfl, Nat.le_of_ble_eq_true rfl⟩ (fun r7 w8 => ?_)
  refine rv_aload_n h 33 dX10_pair_33 0 rfl ?_
  refine rv_getr h 34 dX10_pair_34 rv_s0 rv_fd_X10_30 rfl ?_
  refine rv_iload_n h 37 dX10_pair_37 1 rfl ?_
  refine rv_iload_n h 38 dX10_pair_38 2 rfl ?_
  refine rv_callVi h 39 dX10_pair_39 (fn_X5_votesFor hJ p1 p2  w8) ce_X5_votesFor lk_X10_125 rv_s24 rfl rv_cf3 rfl rfl (Nat.le_of_ble_eq_true rfl) ⟨Nat.le_of_ble_eq_true rfl, Nat.le_of_ble_eq_true rfl⟩ (fun r9 w10 => ?_)
  exact rv_reti hr 42 dX10_pair_42
def f_X10_isRule (p1 : Int32) (w : rv_W) : rv_R :=
  if p1 < 0 then
  some ((0 : Int32), w)
  else
  if p1 < (12 : Int32) then
  some ((1 : Int32), w)
  else
  some ((0 : Int32), w)
set_option maxRecDepth 100000 in
set_option maxHeartbeats 4000000 in
theorem fn_X10_isRule {l : Launch} {D : va_G} {ad : Nat → Nat} {ca : Nat → ClassId} (hJ : rv_J ad) (p1 : Int32)  (w : rv_W) : rv_Fn l D ad ca yX10_isRule cX10_isRule 1 (some .boolean) 0 0 [.int p1] w (f_X10_isRule p1 w) := by
  refine rv_mk (lv := [(0, .int p1)]) hJ (by decide +kernel) (Nat.le_of_ble_eq_true rfl) rfl (fun K h hr => ?_)
  have h : rv_Rl D ad ca l RX10 cX10_isRule 1 0 0 K := h
  unfold f_X10_isRule
  refine rv_iload_n h 0 dX10_isRule_0 0 rfl ?_
  refine rv_if_lt (tgt := 14) h 1 dX10_isRule_1 (by decide) (fun _ => ?_) (fun _ => ?_)
  · refine rv_iconst h 14 dX10_isRule_14 rv_c0 ?_
    exact rv_retz0 hr 15 dX10_isRule_15
  refine rv_iload_n h 4 dX10_isRule_4 0 rfl ?_
  refine rv_bipush (v := 12) h 5 dX10_isRule_5 (by decide +kernel) ?_
  refine rv_icmp_ge (tgt := 14) h 7 dX10_isRule_7 (by decide) (fun _ => ?_) (fun _ => ?_)
  rotate_left
  · refine rv_iconst h 14 dX10_isRule_14 rv_c0 ?_
    exact rv_retz0 hr 15 dX10_isRule_15
  refine rv_iconst h 10 dX10_isRule_10 rv_c1 ?_
  refine rv_goto (tgt := 15) h 11 dX10_isRule_11 (by decide) ?_
  exact rv_retz1 hr 15 dX10_isRule_15
def f_X10_winners (p1 : Int32) (w : rv_W) : rv_R :=
  rv_bd (f_X10_isRule p1 w) (fun (r1 : Int32) (w2 : rv_W) =>
  if r1 = 0 then
  some ((-1000001 : Int32), w2)
  else
  rv_bd (f_X10_castAll  w2) (fun (r3 : Int32) (w4 : rv_W) =>
  rv_bd (f_X7_winnersBy p1 w4) (fun (r5 : Int32) (w6 : rv_W) =>
  some (r5, w6))))
set_option maxRecDepth 100000 in
set_option maxHeartbeats 4000000 in
theorem fn_X10_winners {l : Launch} {D : va_G} {ad : Nat → Nat} {ca : Nat → ClassId} (hJ : rv_J ad) (p1 : Int32)  (w : rv_W) : rv_Fn l D ad ca yX10_winners cX10_winners 2 (some .int) 5 116 [.ref (ad 0), .int p1] w (f_X10_winners p1 w) := by
  refine rv_mk (lv := [(0, .ref (ad 0)), (1, .int p1)]) hJ (by decide +kernel) (Nat.le_of_ble_eq_true rfl) rfl (fun K h hr => ?_)
  have h : rv_Rl D ad ca l RX10 cX10_winners 2 5 116 K := h
  unfold f_X10_winners
  refine rv_iload_n h 0 dX10_winners_0 1 rfl ?_
  refine rv_callSi h 1 dX10_winners_1 (fn_X10_isRule hJ p1  w) ce_X10_isRule lk_X10_128 rfl rfl (Nat.le_of_ble_eq_true rfl) ⟨Nat.le_of_ble_eq_true rfl, Nat.le_of_ble_eq_true rfl⟩ (fun r1 w2 => ?_)
  refine rv_if_ne (tgt := 10) h 4 dX10_winners_4 (by decide) (fun _ => ?_) (fun _ => ?_)
  · refine rv_ldc h 7 dX10_winners_7 rv_kc_X10_75 ?_
    exact rv_reti hr 9 dX10_winners_9
  refine rv_aload_n h 10 dX10_winners_10 0 rfl ?_
  refine rv_callVv h 11 dX10_winners_11 (fn_X10_castAll hJ   w2) ce_X10_castAll lk_X10_122 rv_s0 rfl rv_cf8 rfl rfl (Nat.le_of_ble_eq_true rfl) ⟨Nat.le_of_ble_eq_true rfl, Nat.le_of_ble_eq_true rfl⟩ (fun r3 w4 => ?_)
  refine rv_aload_n h 14 dX10_winners_14 0 rfl ?_
  refine rv_getr h 15 dX10_winners_15 rv_s0 rv_fd_X10_37 rfl ?_
  refine rv_iload_n h 18 dX10_winners_18 1 rfl ?_
  refine rv_aload_n h 19 dX10_winners_19 0 rfl ?_
  refine rv_getr h 20 dX10_winners_20 rv_s0 rv_fd_X10_30 rfl ?_
  refine rv_callVi h 23 dX10_winners_23 (fn_X7_winnersBy hJ p1  w4) ce_X7_winnersBy lk_X10_131 rv_s53 rfl rv_cf5 rfl rfl (Nat.le_of_ble_eq_true rfl) ⟨Nat.le_of_ble_eq_true rfl, Nat.le_of_ble_eq_true rfl⟩ (fun r5 w6 => ?_)
  exact rv_reti hr 26 dX10_winners_26
def f_X10_winner (p1 : Int32) (w : rv_W) : rv_R :=
  rv_bd (f_X10_isRule p1 w) (fun (r1 : Int32) (w2 : rv_W) =>
  if r1 = 0 then
  some ((-1000001 : Int32), w2)
  else
  rv_bd (f_X10_castAll  w2) (fun (r3 : Int32) (w4 : rv_W) =>
  rv_bd (f_X7_winnerBy p1 w4) (fun (r5 : Int32) (w6 : rv_W) =>
  some (r5, w6))))
set_option maxRecDepth 100000 in
set_option maxHeartbeats 4000000 in
theorem fn_X10_winner {l : Launch} {D : va_G} {ad : Nat → Nat} {ca : Nat → ClassId} (hJ : rv_J ad) (p1 : Int32)  (w : rv_W) : rv_Fn l D ad ca yX10_winner cX10_winner 2 (some .int) 5 119 [.ref (ad 0), .int p1] w (f_X10_winner p1 w) := by
  refine rv_mk (lv := [(0, .ref (ad 0)), (1, .int p1)]) hJ (by decide +kernel) (Nat.le_of_ble_eq_true rfl) rfl (fun K h hr => ?_)
  have h : rv_Rl D ad ca l RX10 cX10_winner 2 5 119 K := h
  unfold f_X10_winner
  refine rv_iload_n h 0 dX10_winner_0 1 rfl ?_
  refine rv_callSi h 1 dX10_winner_1 (fn_X10_isRule hJ p1  w) ce_X10_isRule lk_X10_128 rfl rfl (Nat.le_of_ble_eq_true rfl) ⟨Nat.le_of_ble_eq_true rfl, Nat.le_of_ble_eq_true rfl⟩ (fun r1 w2 => ?_)
  refine rv_if_ne (tgt := 10) h 4 dX10_winner_4 (by decide) (fun _ => ?_) (fun _ => ?_)
  · refine rv_ldc h 7 dX10_winner_7 rv_kc_X10_75 ?_
    exact rv_reti hr 9 dX10_winner_9
  refine rv_aload_n h 10 dX10_winner_10 0 rfl ?_
  refine rv_callVv h 11 dX10_winner_11 (fn_X10_castAll hJ   w2) ce_X10_castAll lk_X10_122 rv_s0 rfl rv_cf8 rfl rfl (Nat.le_of_ble_eq_true rfl) ⟨Nat.le_of_ble_eq_true rfl, Nat.le_of_ble_eq_true rfl⟩ (fun r3 w4 => ?_)
  refine rv_aload_n h 14 dX10_winner_14 0 rfl ?_
  refine rv_getr h 15 dX10_winner_15 rv_s0 rv_fd_X10_37 rfl ?_
  refine rv_iload_n h 18 dX10_winner_18 1 rfl ?_
  refine rv_aload_n h 19 dX10_winner_19 0 rfl ?_
  refine rv_getr h 20 dX10_winner_20 rv_s0 rv_fd_X10_30 rfl ?_
  refine rv_callVi h 23 dX10_winner_23 (fn_X7_winnerBy hJ p1  w4) ce_X7_winnerBy lk_X10_135 rv_s53 rfl rv_cf5 rfl rfl (Nat.le_of_ble_eq_true rfl) ⟨Nat.le_of_ble_eq_true rfl, Nat.le_of_ble_eq_true rfl⟩ (fun r5 w6 => ?_)
  exact rv_reti hr 26 dX10_winner_26
def f_X10_goesByPoints (p1 : Int32) (w : rv_W) : rv_R :=
  rv_jn (fun  (w1 : rv_W) =>
  some ((1 : Int32), w1)) (fun (k2 : rv_W → rv_R) =>
  if p1 = 0 then
  k2 w
  else
  if p1 = (1 : Int32) then
  k2 w
  else
  if p1 = (2 : Int32) then
  k2 w
  else
  if p1 = (3 : Int32) then
  k2 w
  else
  if p1 = (8 : Int32) then
  k2 w
  else
  some ((0 : Int32), w))
set_option maxRecDepth 100000 in
set_option maxHeartbeats 4000000 in
theorem fn_X10_goesByPoints {l : Launch} {D : va_G} {ad : Nat → Nat} {ca : Nat → ClassId} (hJ : rv_J ad) (p1 : Int32)  (w : rv_W) : rv_Fn l D ad ca yX10_goesByPoints cX10_goesByPoints 1 (some .boolean) 0 0 [.int p1] w (f_X10_goesByPoints p1 w) := by
  refine rv_mk (lv := [(0, .int p1)]) hJ (by decide +kernel) (Nat.le_of_ble_eq_true rfl) rfl (fun K h hr => ?_)
  have h : rv_Rl D ad ca l RX10 cX10_goesByPoints 1 0 0 K := h
  unfold f_X10_goesByPoints
  refine rv_iload_n h 0 dX10_goesByPoints_0 0 rfl ?_
  refine rv_join (fun (k0 : rv_W → rv_R) => ∀  (w1 : rv_W), K 25 [] ([]) w1 (k0 w1)) (fun w1 => ?_) (fun k2 hk3 => ?_)
  · refine rv_iconst h 25 dX10_goesByPoints_25 rv_c1 ?_
    refine rv_goto (tgt := 30) h 26 dX10_goesByPoints_26 (by decide) ?_
    exact rv_retz1 hr 30 dX10_goesByPoints_30
  refine rv_if_eq (tgt := 25) h 1 dX10_goesByPoints_1 (by decide) (fun _ => ?_) (fun _ => ?_)
  · refine rv_sub h [] rfl ?_
    exact hk3 w
  refine rv_iload_n h 4 dX10_goesByPoints_4 0 rfl ?_
  refine rv_iconst h 5 dX10_goesByPoints_5 rv_c1 ?_
  refine rv_icmp_eq (tgt := 25) h 6 dX10_goesByPoints_6 (by decide) (fun _ => ?_) (fun _ => ?_)
  · refine rv_sub h [] rfl ?_
    exact hk3 w
  refine rv_iload_n h 9 dX10_goesByPoints_9 0 rfl ?_
  refine rv_iconst h 10 dX10_goesByPoints_10 rv_c2 ?_
  refine rv_icmp_eq (tgt := 25) h 11 dX10_goesByPoints_11 (by decide) (fun _ => ?_) (fun _ => ?_)
  · refine rv_sub h [] rfl ?_
    exact hk3 w
  refine rv_iload_n h 14 dX10_goesByPoints_14 0 rfl ?_
  refine rv_iconst h 15 dX10_goesByPoints_15 rv_c3 ?_
  refine rv_icmp_eq (tgt := 25) h 16 dX10_goesByPoints_16 (by decide) (fun _ => ?_) (fun _ => ?_)
  · refine rv_sub h [] rfl ?_
    exact hk3 w
  refine rv_iload_n h 19 dX10_goesByPoints_19 0 rfl ?_
  refine rv_bipush (v := 8) h 20 dX10_goesByPoints_20 (by decide +kernel) ?_
  refine rv_icmp_ne (tgt := 29) h 22 dX10_goesByPoints_22 (by decide) (fun _ => ?_) (fun _ => ?_)
  · refine rv_sub h [] rfl ?_
    exact hk3 w
  refine rv_iconst h 29 dX10_goesByPoints_29 rv_c0 ?_
  exact rv_retz0 hr 30 dX10_goesByPoints_30
def f_X10_points (p1 : Int32) (p2 : Int32) (w : rv_W) : rv_R :=
  rv_bd (f_X10_isRule p1 w) (fun (r1 : Int32) (w2 : rv_W) =>
  if r1 = 0 then
  some ((-1000001 : Int32), w2)
  else
  rv_bd (f_X1_exists p2 w2) (fun (r3 : Int32) (w4 : rv_W) =>
  if r3 = 0 then
  some ((-1000001 : Int32), w4)
  else
  rv_bd (f_X10_goesByPoints p1 w4) (fun (r5 : Int32) (w6 : rv_W) =>
  if r5 = 0 then
  some ((-1000003 : Int32), w6)
  else
  rv_bd (f_X1_has (w6 1 0) p2 w6) (fun (r7 : Int32) (w8 : rv_W) =>
  if r7 = 0 then
  some ((-1000003 : Int32), w8)
  else
  rv_bd (f_X10_castAll  w8) (fun (r9 : Int32) (w10 : rv_W) =>
  rv_bd (f_X4_take p1 w10) (fun (r11 : Int32) (w12 : rv_W) =>
  rv_bd (f_X4_pointsOf p2 w12) (fun (r13 : Int32) (w14 : rv_W) =>
  some (r13, w14))))))))
set_option maxRecDepth 100000 in
set_option maxHeartbeats 4000000 in
theorem fn_X10_points {l : Launch} {D : va_G} {ad : Nat → Nat} {ca : Nat → ClassId} (hJ : rv_J ad) (p1 : Int32) (p2 : Int32)  (w : rv_W) : rv_Fn l D ad ca yX10_points cX10_points 3 (some .int) 5 116 [.ref (ad 0), .int p1, .int p2] w (f_X10_points p1 p2 w) := by
  refine rv_mk (lv := [(0, .ref (ad 0)), (1, .int p1), (2, .int p2)]) hJ (by decide +kernel) (Nat.le_of_ble_eq_true rfl) rfl (fun K h hr => ?_)
  have h : rv_Rl D ad ca l RX10 cX10_points 3 5 116 K := h
  unfold f_X10_points
  refine rv_iload_n h 0 dX10_points_0 1 rfl ?_
  refine rv_callSi h 1 dX10_points_1 (fn_X10_isRule hJ p1  w) ce_X10_isRule lk_X10_128 rfl rfl (Nat.le_of_ble_eq_true rfl) ⟨Nat.le_of_ble_eq_true rfl, Nat.le_of_ble_eq_true rfl⟩ (fun r1 w2 => ?_)
  refine rv_if_eq (tgt := 14) h 4 dX10_points_4 (by decide) (fun _ => ?_) (fun _ => ?_)
  · refine rv_ldc h 14 dX10_points_14 rv_kc_X10_75 ?_
    exact rv_reti hr 16 dX10_points_16
  refine rv_iload_n h 7 dX10_points_7 2 rfl ?_
  refine rv_callSi h 8 dX10_points_8 (fn_X1_exists hJ p2  w2) ce_X1_exists lk_X10_100 rfl rfl (Nat.le_of_ble_eq_true rfl) ⟨Nat.le_of_ble_eq_true rfl, Nat.le_of_ble_eq_true rfl⟩ (fun r3 w4 => ?_)
  refine rv_if_ne (tgt := 17) h 11 dX10_points_11 (by decide) (fun _ => ?_) (fun _ => ?_)
  · refine rv_ldc h 14 dX10_points_14 rv_kc_X10_75 ?_
    exact rv_reti hr 16 dX10_points_16
  refine rv_iload_n h 17 dX10_points_17 1 rfl ?_
  refine rv_callSi h 18 dX10_points_18 (fn_X10_goesByPoints hJ p1  w4) ce_X10_goesByPoints lk_X10_138 rfl rfl (Nat.le_of_ble_eq_true rfl) ⟨Nat.le_of_ble_eq_true rfl, Nat.le_of_ble_eq_true rfl⟩ (fun r5 w6 => ?_)
  refine rv_if_eq (tgt := 38) h 21 dX10_points_21 (by decide) (fun _ => ?_) (fun _ => ?_)
  · refine rv_ldc h 38 dX10_points_38 rv_kc_X10_121 ?_
    exact rv_reti hr 40 dX10_points_40
  refine rv_aload_n h 24 dX10_points_24 0 rfl ?_
  refine rv_getr h 25 dX10_points_25 rv_s0 rv_fd_X10_10 rfl ?_
  refine rv_geti h 28 dX10_points_28 rv_s1 rv_fd_X10_105 rfl ?_
  refine rv_iload_n h 31 dX10_points_31 2 rfl ?_
  refine rv_callSi h 32 dX10_points_32 (fn_X1_has hJ (w6 1 0) p2  w6) ce_X1_has lk_X10_108 rfl rfl (Nat.le_of_ble_eq_true rfl) ⟨Nat.le_of_ble_eq_true rfl, Nat.le_of_ble_eq_true rfl⟩ (fun r7 w8 => ?_)
  refine rv_if_ne (tgt := 41) h 35 dX10_points_35 (by decide) (fun _ => ?_) (fun _ => ?_)
  · refine rv_ldc h 38 dX10_points_38 rv_kc_X10_121 ?_
    exact rv_reti hr 40 dX10_points_40
  refine rv_aload_n h 41 dX10_points_41 0 rfl ?_
  refine rv_callVv h 42 dX10_points_42 (fn_X10_castAll hJ   w8) ce_X10_castAll lk_X10_122 rv_s0 rfl rv_cf8 rfl rfl (Nat.le_of_ble_eq_true rfl) ⟨Nat.le_of_ble_eq_true rfl, Nat.le_of_ble_eq_true rfl⟩ (fun r9 w10 => ?_)
  refine rv_aload_n h 45 dX10_points_45 0 rfl ?_
  refine rv_getr h 46 dX10_points_46 rv_s0 rv_fd_X10_37 rfl ?_
  refine rv_getr h 49 dX10_points_49 rv_s53 rv_fd_X10_141 rfl ?_
  refine rv_iload_n h 52 dX10_points_52 1 rfl ?_
  refine rv_aload_n h 53 dX10_points_53 0 rfl ?_
  refine rv_getr h 54 dX10_points_54 rv_s0 rv_fd_X10_30 rfl ?_
  refine rv_callVv h 57 dX10_points_57 (fn_X4_take hJ p1  w10) ce_X4_take lk_X10_145 rv_s54 rfl rv_cf2 rfl rfl (Nat.le_of_ble_eq_true rfl) ⟨Nat.le_of_ble_eq_true rfl, Nat.le_of_ble_eq_true rfl⟩ (fun r11 w12 => ?_)
  refine rv_aload_n h 60 dX10_points_60 0 rfl ?_
  refine rv_getr h 61 dX10_points_61 rv_s0 rv_fd_X10_37 rfl ?_
  refine rv_getr h 64 dX10_points_64 rv_s53 rv_fd_X10_141 rfl ?_
  refine rv_iload_n h 67 dX10_points_67 2 rfl ?_
  refine rv_callVi h 68 dX10_points_68 (fn_X4_pointsOf hJ p2  w12) ce_X4_pointsOf lk_X10_151 rv_s54 rfl rv_cf2 rfl rfl (Nat.le_of_ble_eq_true rfl) ⟨Nat.le_of_ble_eq_true rfl, Nat.le_of_ble_eq_true rfl⟩ (fun r13 w14 => ?_)
  exact rv_reti hr 71 dX10_points_71
def f_X10_orNone (p1 : Int32) (w : rv_W) : rv_R :=
  if p1 = (-1 : Int32) then
  some ((-1000000 : Int32), w)
  else
  some (p1, w)
set_option maxRecDepth 100000 in
set_option maxHeartbeats 4000000 in
theorem fn_X10_orNone {l : Launch} {D : va_G} {ad : Nat → Nat} {ca : Nat → ClassId} (hJ : rv_J ad) (p1 : Int32)  (w : rv_W) : rv_Fn l D ad ca yX10_orNone cX10_orNone 1 (some .int) 0 0 [.int p1] w (f_X10_orNone p1 w) := by
  refine rv_mk (lv := [(0, .int p1)]) hJ (by decide +kernel) (Nat.le_of_ble_eq_true rfl) rfl (fun K h hr => ?_)
  have h : rv_Rl D ad ca l RX10 cX10_orNone 1 0 0 K := h
  unfold f_X10_orNone
  refine rv_iload_n h 0 dX10_orNone_0 0 rfl ?_
  refine rv_iconst h 1 dX10_orNone_1 rv_cm1 ?_
  refine rv_icmp_ne (tgt := 10) h 2 dX10_orNone_2 (by decide) (fun _ => ?_) (fun _ => ?_)
  rotate_left
  · refine rv_iload_n h 10 dX10_orNone_10 0 rfl ?_
    exact rv_reti hr 11 dX10_orNone_11
  refine rv_ldc h 5 dX10_orNone_5 rv_kc_X10_227 ?_
  refine rv_goto (tgt := 11) h 7 dX10_orNone_7 (by decide) ?_
  exact rv_reti hr 11 dX10_orNone_11
def f_X10_beatsAll  (w : rv_W) : rv_R :=
  rv_bd (f_X10_castAll  w) (fun (r1 : Int32) (w2 : rv_W) =>
  rv_bd (f_X2_champion  w2) (fun (r3 : Int32) (w4 : rv_W) =>
  rv_bd (f_X10_orNone r3 w4) (fun (r5 : Int32) (w6 : rv_W) =>
  some (r5, w6))))
set_option maxRecDepth 100000 in
set_option maxHeartbeats 4000000 in
theorem fn_X10_beatsAll {l : Launch} {D : va_G} {ad : Nat → Nat} {ca : Nat → ClassId} (hJ : rv_J ad)   (w : rv_W) : rv_Fn l D ad ca yX10_beatsAll cX10_beatsAll 1 (some .int) 5 116 [.ref (ad 0)] w (f_X10_beatsAll  w) := by
  refine rv_mk (lv := [(0, .ref (ad 0))]) hJ (by decide +kernel) (Nat.le_of_ble_eq_true rfl) rfl (fun K h hr => ?_)
  have h : rv_Rl D ad ca l RX10 cX10_beatsAll 1 5 116 K := h
  unfold f_X10_beatsAll
  refine rv_aload_n h 0 dX10_beatsAll_0 0 rfl ?_
  refine rv_callVv h 1 dX10_beatsAll_1 (fn_X10_castAll hJ   w) ce_X10_castAll lk_X10_122 rv_s0 rfl rv_cf8 rfl rfl (Nat.le_of_ble_eq_true rfl) ⟨Nat.le_of_ble_eq_true rfl, Nat.le_of_ble_eq_true rfl⟩ (fun r1 w2 => ?_)
  refine rv_aload_n h 4 dX10_beatsAll_4 0 rfl ?_
  refine rv_getr h 5 dX10_beatsAll_5 rv_s0 rv_fd_X10_37 rfl ?_
  refine rv_getr h 8 dX10_beatsAll_8 rv_s53 rv_fd_X10_154 rfl ?_
  refine rv_aload_n h 11 dX10_beatsAll_11 0 rfl ?_
  refine rv_getr h 12 dX10_beatsAll_12 rv_s0 rv_fd_X10_30 rfl ?_
  refine rv_callVi h 15 dX10_beatsAll_15 (fn_X2_champion hJ   w2) ce_X2_champion lk_X10_158 rv_s66 rfl rv_cf0 rfl rfl (Nat.le_of_ble_eq_true rfl) ⟨Nat.le_of_ble_eq_true rfl, Nat.le_of_ble_eq_true rfl⟩ (fun r3 w4 => ?_)
  refine rv_callSi h 18 dX10_beatsAll_18 (fn_X10_orNone hJ r3  w4) ce_X10_orNone lk_X10_164 rfl rfl (Nat.le_of_ble_eq_true rfl) ⟨Nat.le_of_ble_eq_true rfl, Nat.le_of_ble_eq_true rfl⟩ (fun r5 w6 => ?_)
  exact rv_reti hr 21 dX10_beatsAll_21
def f_X10_losesToAll  (w : rv_W) : rv_R :=
  rv_bd (f_X10_castAll  w) (fun (r1 : Int32) (w2 : rv_W) =>
  rv_bd (f_X2_loser  w2) (fun (r3 : Int32) (w4 : rv_W) =>
  rv_bd (f_X10_orNone r3 w4) (fun (r5 : Int32) (w6 : rv_W) =>
  some (r5, w6))))
set_option maxRecDepth 100000 in
set_option maxHeartbeats 4000000 in
theorem fn_X10_losesToAll {l : Launch} {D : va_G} {ad : Nat → Nat} {ca : Nat → ClassId} (hJ : rv_J ad)   (w : rv_W) : rv_Fn l D ad ca yX10_losesToAll cX10_losesToAll 1 (some .int) 5 116 [.ref (ad 0)] w (f_X10_losesToAll  w) := by
  refine rv_mk (lv := [(0, .ref (ad 0))]) hJ (by decide +kernel) (Nat.le_of_ble_eq_true rfl) rfl (fun K h hr => ?_)
  have h : rv_Rl D ad ca l RX10 cX10_losesToAll 1 5 116 K := h
  unfold f_X10_losesToAll
  refine rv_aload_n h 0 dX10_losesToAll_0 0 rfl ?_
  refine rv_callVv h 1 dX10_losesToAll_1 (fn_X10_castAll hJ   w) ce_X10_castAll lk_X10_122 rv_s0 rfl rv_cf8 rfl rfl (Nat.le_of_ble_eq_true rfl) ⟨Nat.le_of_ble_eq_true rfl, Nat.le_of_ble_eq_true rfl⟩ (fun r1 w2 => ?_)
  refine rv_aload_n h 4 dX10_losesToAll_4 0 rfl ?_
  refine rv_getr h 5 dX10_losesToAll_5 rv_s0 rv_fd_X10_37 rfl ?_
  refine rv_getr h 8 dX10_losesToAll_8 rv_s53 rv_fd_X10_154 rfl ?_
  refine rv_aload_n h 11 dX10_losesToAll_11 0 rfl ?_
  refine rv_getr h 12 dX10_losesToAll_12 rv_s0 rv_fd_X10_30 rfl ?_
  refine rv_callVi h 15 dX10_losesToAll_15 (fn_X2_loser hJ   w2) ce_X2_loser lk_X10_167 rv_s66 rfl rv_cf0 rfl rfl (Nat.le_of_ble_eq_true rfl) ⟨Nat.le_of_ble_eq_true rfl, Nat.le_of_ble_eq_true rfl⟩ (fun r3 w4 => ?_)
  refine rv_callSi h 18 dX10_losesToAll_18 (fn_X10_orNone hJ r3  w4) ce_X10_orNone lk_X10_164 rfl rfl (Nat.le_of_ble_eq_true rfl) ⟨Nat.le_of_ble_eq_true rfl, Nat.le_of_ble_eq_true rfl⟩ (fun r5 w6 => ?_)
  exact rv_reti hr 21 dX10_losesToAll_21
def f_X10_smith  (w : rv_W) : rv_R :=
  rv_bd (f_X10_castAll  w) (fun (r1 : Int32) (w2 : rv_W) =>
  rv_bd (f_X2_smithSet  w2) (fun (r3 : Int32) (w4 : rv_W) =>
  some (r3, w4)))
set_option maxRecDepth 100000 in
set_option maxHeartbeats 4000000 in
theorem fn_X10_smith {l : Launch} {D : va_G} {ad : Nat → Nat} {ca : Nat → ClassId} (hJ : rv_J ad)   (w : rv_W) : rv_Fn l D ad ca yX10_smith cX10_smith 1 (some .int) 5 116 [.ref (ad 0)] w (f_X10_smith  w) := by
  refine rv_mk (lv := [(0, .ref (ad 0))]) hJ (by decide +kernel) (Nat.le_of_ble_eq_true rfl) rfl (fun K h hr => ?_)
  have h : rv_Rl D ad ca l RX10 cX10_smith 1 5 116 K := h
  unfold f_X10_smith
  refine rv_aload_n h 0 dX10_smith_0 0 rfl ?_
  refine rv_callVv h 1 dX10_smith_1 (fn_X10_castAll hJ   w) ce_X10_castAll lk_X10_122 rv_s0 rfl rv_cf8 rfl rfl (Nat.le_of_ble_eq_true rfl) ⟨Nat.le_of_ble_eq_true rfl, Nat.le_of_ble_eq_true rfl⟩ (fun r1 w2 => ?_)
  refine rv_aload_n h 4 dX10_smith_4 0 rfl ?_
  refine rv_getr h 5 dX10_smith_5 rv_s0 rv_fd_X10_37 rfl ?_
  refine rv_getr h 8 dX10_smith_8 rv_s53 rv_fd_X10_154 rfl ?_
  refine rv_aload_n h 11 dX10_smith_11 0 rfl ?_
  refine rv_getr h 12 dX10_smith_12 rv_s0 rv_fd_X10_30 rfl ?_
  refine rv_callVi h 15 dX10_smith_15 (fn_X2_smithSet hJ   w2) ce_X2_smithSet lk_X10_170 rv_s66 rfl rv_cf0 rfl rfl (Nat.le_of_ble_eq_true rfl) ⟨Nat.le_of_ble_eq_true rfl, Nat.le_of_ble_eq_true rfl⟩ (fun r3 w4 => ?_)
  exact rv_reti hr 18 dX10_smith_18
def f_X10_strength (p1 : Int32) (p2 : Int32) (w : rv_W) : rv_R :=
  rv_bd (f_X1_exists p1 w) (fun (r1 : Int32) (w2 : rv_W) =>
  if r1 = 0 then
  some ((-1000001 : Int32), w2)
  else
  rv_bd (f_X1_exists p2 w2) (fun (r3 : Int32) (w4 : rv_W) =>
  if r3 = 0 then
  some ((-1000001 : Int32), w4)
  else
  rv_bd (f_X10_bothStand p1 p2 w4) (fun (r5 : Int32) (w6 : rv_W) =>
  if r5 = 0 then
  some ((-1000003 : Int32), w6)
  else
  if p1 = p2 then
  some ((-1000003 : Int32), w6)
  else
  rv_bd (f_X10_castAll  w6) (fun (r7 : Int32) (w8 : rv_W) =>
  rv_bd (f_X2_findStrengths  w8) (fun (r9 : Int32) (w10 : rv_W) =>
  rv_bd (f_X2_strengthOf p1 p2 w10) (fun (r11 : Int32) (w12 : rv_W) =>
  some (r11, w12)))))))
set_option maxRecDepth 100000 in
set_option maxHeartbeats 4000000 in
theorem fn_X10_strength {l : Launch} {D : va_G} {ad : Nat → Nat} {ca : Nat → ClassId} (hJ : rv_J ad) (p1 : Int32) (p2 : Int32)  (w : rv_W) : rv_Fn l D ad ca yX10_strength cX10_strength 3 (some .int) 5 116 [.ref (ad 0), .int p1, .int p2] w (f_X10_strength p1 p2 w) := by
  refine rv_mk (lv := [(0, .ref (ad 0)), (1, .int p1), (2, .int p2)]) hJ (by decide +kernel) (Nat.le_of_ble_eq_true rfl) rfl (fun K h hr => ?_)
  have h : rv_Rl D ad ca l RX10 cX10_strength 3 5 116 K := h
  unfold f_X10_strength
  refine rv_iload_n h 0 dX10_strength_0 1 rfl ?_
  refine rv_callSi h 1 dX10_strength_1 (fn_X1_exists hJ p1  w) ce_X1_exists lk_X10_100 rfl rfl (Nat.le_of_ble_eq_true rfl) ⟨Nat.le_of_ble_eq_true rfl, Nat.le_of_ble_eq_true rfl⟩ (fun r1 w2 => ?_)
  refine rv_if_eq (tgt := 14) h 4 dX10_strength_4 (by decide) (fun _ => ?_) (fun _ => ?_)
  · refine rv_ldc h 14 dX10_strength_14 rv_kc_X10_75 ?_
    exact rv_reti hr 16 dX10_strength_16
  refine rv_iload_n h 7 dX10_strength_7 2 rfl ?_
  refine rv_callSi h 8 dX10_strength_8 (fn_X1_exists hJ p2  w2) ce_X1_exists lk_X10_100 rfl rfl (Nat.le_of_ble_eq_true rfl) ⟨Nat.le_of_ble_eq_true rfl, Nat.le_of_ble_eq_true rfl⟩ (fun r3 w4 => ?_)
  refine rv_if_ne (tgt := 17) h 11 dX10_strength_11 (by decide) (fun _ => ?_) (fun _ => ?_)
  · refine rv_ldc h 14 dX10_strength_14 rv_kc_X10_75 ?_
    exact rv_reti hr 16 dX10_strength_16
  refine rv_aload_n h 17 dX10_strength_17 0 rfl ?_
  refine rv_iload_n h 18 dX10_strength_18 1 rfl ?_
  refine rv_iload_n h 19 dX10_strength_19 2 rfl ?_
  refine rv_callVi h 20 dX10_strength_20 (fn_X10_bothStand hJ p1 p2  w4) ce_X10_bothStand lk_X10_118 rv_s0 rfl rv_cf8 rfl rfl (Nat.le_of_ble_eq_true rfl) ⟨Nat.le_of_ble_eq_true rfl, Nat.le_of_ble_eq_true rfl⟩ (fun r5 w6 => ?_)
  refine rv_if_eq (tgt := 31) h 23 dX10_strength_23 (by decide) (fun _ => ?_) (fun _ => ?_)
  · refine rv_ldc h 31 dX10_strength_31 rv_kc_X10_121 ?_
    exact rv_reti hr 33 dX10_strength_33
  refine rv_iload_n h 26 dX10_strength_26 1 rfl ?_
  refine rv_iload_n h 27 dX10_strength_27 2 rfl ?_
  refine rv_icmp_ne (tgt := 34) h 28 dX10_strength_28 (by decide) (fun _ => ?_) (fun _ => ?_)
  · refine rv_ldc h 31 dX10_strength_31 rv_kc_X10_121 ?_
    exact rv_reti hr 33 dX10_strength_33
  refine rv_aload_n h 34 dX10_strength_34 0 rfl ?_
  refine rv_callVv h 35 dX10_strength_35 (fn_X10_castAll hJ   w6) ce_X10_castAll lk_X10_122 rv_s0 rfl rv_cf8 rfl rfl (Nat.le_of_ble_eq_true rfl) ⟨Nat.le_of_ble_eq_true rfl, Nat.le_of_ble_eq_true rfl⟩ (fun r7 w8 => ?_)
  refine rv_aload_n h 38 dX10_strength_38 0 rfl ?_
  refine rv_getr h 39 dX10_strength_39 rv_s0 rv_fd_X10_37 rfl ?_
  refine rv_getr h 42 dX10_strength_42 rv_s53 rv_fd_X10_154 rfl ?_
  refine rv_aload_n h 45 dX10_strength_45 0 rfl ?_
  refine rv_getr h 46 dX10_strength_46 rv_s0 rv_fd_X10_30 rfl ?_
  refine rv_callVv h 49 dX10_strength_49 (fn_X2_findStrengths hJ   w8) ce_X2_findStrengths lk_X10_173 rv_s66 rfl rv_cf0 rfl rfl (Nat.le_of_ble_eq_true rfl) ⟨Nat.le_of_ble_eq_true rfl, Nat.le_of_ble_eq_true rfl⟩ (fun r9 w10 => ?_)
  refine rv_aload_n h 52 dX10_strength_52 0 rfl ?_
  refine rv_getr h 53 dX10_strength_53 rv_s0 rv_fd_X10_37 rfl ?_
  refine rv_getr h 56 dX10_strength_56 rv_s53 rv_fd_X10_154 rfl ?_
  refine rv_iload_n h 59 dX10_strength_59 1 rfl ?_
  refine rv_iload_n h 60 dX10_strength_60 2 rfl ?_
  refine rv_callVi h 61 dX10_strength_61 (fn_X2_strengthOf hJ p1 p2  w10) ce_X2_strengthOf lk_X10_177 rv_s66 rfl rv_cf0 rfl rfl (Nat.le_of_ble_eq_true rfl) ⟨Nat.le_of_ble_eq_true rfl, Nat.le_of_ble_eq_true rfl⟩ (fun r11 w12 => ?_)
  exact rv_reti hr 64 dX10_strength_64
def f_X10_isLocked (p1 : Int32) (p2 : Int32) (w : rv_W) : rv_R :=
  rv_bd (f_X1_exists p1 w) (fun (r1 : Int32) (w2 : rv_W) =>
  if r1 = 0 then
  some ((-1000001 : Int32), w2)
  else
  rv_bd (f_X1_exists p2 w2) (fun (r3 : Int32) (w4 : rv_W) =>
  if r3 = 0 then
  some ((-1000001 : Int32), w4)
  else
  rv_bd (f_X10_bothStand p1 p2 w4) (fun (r5 : Int32) (w6 : rv_W) =>
  if r5 = 0 then
  some ((-1000003 : Int32), w6)
  else
  rv_bd (f_X10_castAll  w6) (fun (r7 : Int32) (w8 : rv_W) =>
  rv_bd (f_X2_lockPairs  w8) (fun (r9 : Int32) (w10 : rv_W) =>
  rv_bd (f_X2_hasLocked p1 p2 w10) (fun (r11 : Int32) (w12 : rv_W) =>
  if r11 = 0 then
  some ((0 : Int32), w12)
  else
  some ((1 : Int32), w12)))))))
set_option maxRecDepth 100000 in
set_option maxHeartbeats 4000000 in
theorem fn_X10_isLocked {l : Launch} {D : va_G} {ad : Nat → Nat} {ca : Nat → ClassId} (hJ : rv_J ad) (p1 : Int32) (p2 : Int32)  (w : rv_W) : rv_Fn l D ad ca yX10_isLocked cX10_isLocked 3 (some .int) 5 116 [.ref (ad 0), .int p1, .int p2] w (f_X10_isLocked p1 p2 w) := by
  refine rv_mk (lv := [(0, .ref (ad 0)), (1, .int p1), (2, .int p2)]) hJ (by decide +kernel) (Nat.le_of_ble_eq_true rfl) rfl (fun K h hr => ?_)
  have h : rv_Rl D ad ca l RX10 cX10_isLocked 3 5 116 K := h
  unfold f_X10_isLocked
  refine rv_iload_n h 0 dX10_isLocked_0 1 rfl ?_
  refine rv_callSi h 1 dX10_isLocked_1 (fn_X1_exists hJ p1  w) ce_X1_exists lk_X10_100 rfl rfl (Nat.le_of_ble_eq_true rfl) ⟨Nat.le_of_ble_eq_true rfl, Nat.le_of_ble_eq_true rfl⟩ (fun r1 w2 => ?_)
  refine rv_if_eq (tgt := 14) h 4 dX10_isLocked_4 (by decide) (fun _ => ?_) (fun _ => ?_)
  · refine rv_ldc h 14 dX10_isLocked_14 rv_kc_X10_75 ?_
    exact rv_reti hr 16 dX10_isLocked_16
  refine rv_iload_n h 7 dX10_isLocked_7 2 rfl ?_
  refine rv_callSi h 8 dX10_isLocked_8 (fn_X1_exists hJ p2  w2) ce_X1_exists lk_X10_100 rfl rfl (Nat.le_of_ble_eq_true rfl) ⟨Nat.le_of_ble_eq_true rfl, Nat.le_of_ble_eq_true rfl⟩ (fun r3 w4 => ?_)
  refine rv_if_ne (tgt := 17) h 11 dX10_isLocked_11 (by decide) (fun _ => ?_) (fun _ => ?_)
  · refine rv_ldc h 14 dX10_isLocked_14 rv_kc_X10_75 ?_
    exact rv_reti hr 16 dX10_isLocked_16
  refine rv_aload_n h 17 dX10_isLocked_17 0 rfl ?_
  refine rv_iload_n h 18 dX10_isLocked_18 1 rfl ?_
  refine rv_iload_n h 19 dX10_isLocked_19 2 rfl ?_
  refine rv_callVi h 20 dX10_isLocked_20 (fn_X10_bothStand hJ p1 p2  w4) ce_X10_bothStand lk_X10_118 rv_s0 rfl rv_cf8 rfl rfl (Nat.le_of_ble_eq_true rfl) ⟨Nat.le_of_ble_eq_true rfl, Nat.le_of_ble_eq_true rfl⟩ (fun r5 w6 => ?_)
  refine rv_if_ne (tgt := 29) h 23 dX10_isLocked_23 (by decide) (fun _ => ?_) (fun _ => ?_)
  · refine rv_ldc h 26 dX10_isLocked_26 rv_kc_X10_121 ?_
    exact rv_reti hr 28 dX10_isLocked_28
  refine rv_aload_n h 29 dX10_isLocked_29 0 rfl ?_
  refine rv_callVv h 30 dX10_isLocked_30 (fn_X10_castAll hJ   w6) ce_X10_castAll lk_X10_122 rv_s0 rfl rv_cf8 rfl rfl (Nat.le_of_ble_eq_true rfl) ⟨Nat.le_of_ble_eq_true rfl, Nat.le_of_ble_eq_true rfl⟩ (fun r7 w8 => ?_)
  refine rv_aload_n h 33 dX10_isLocked_33 0 rfl ?_
  refine rv_getr h 34 dX10_isLocked_34 rv_s0 rv_fd_X10_37 rfl ?_
  refine rv_getr h 37 dX10_isLocked_37 rv_s53 rv_fd_X10_154 rfl ?_
  refine rv_aload_n h 40 dX10_isLocked_40 0 rfl ?_
  refine rv_getr h 41 dX10_isLocked_41 rv_s0 rv_fd_X10_30 rfl ?_
  refine rv_callVv h 44 dX10_isLocked_44 (fn_X2_lockPairs hJ   w8) ce_X2_lockPairs lk_X10_180 rv_s66 rfl rv_cf0 rfl rfl (Nat.le_of_ble_eq_true rfl) ⟨Nat.le_of_ble_eq_true rfl, Nat.le_of_ble_eq_true rfl⟩ (fun r9 w10 => ?_)
  refine rv_aload_n h 47 dX10_isLocked_47 0 rfl ?_
  refine rv_getr h 48 dX10_isLocked_48 rv_s0 rv_fd_X10_37 rfl ?_
  refine rv_getr h 51 dX10_isLocked_51 rv_s53 rv_fd_X10_154 rfl ?_
  refine rv_iload_n h 54 dX10_isLocked_54 1 rfl ?_
  refine rv_iload_n h 55 dX10_isLocked_55 2 rfl ?_
  refine rv_callVi h 56 dX10_isLocked_56 (fn_X2_hasLocked hJ p1 p2  w10) ce_X2_hasLocked lk_X10_183 rv_s66 rfl rv_cf0 rfl rfl (Nat.le_of_ble_eq_true rfl) ⟨Nat.le_of_ble_eq_true rfl, Nat.le_of_ble_eq_true rfl⟩ (fun r11 w12 => ?_)
  refine rv_if_eq (tgt := 66) h 59 dX10_isLocked_59 (by decide) (fun _ => ?_) (fun _ => ?_)
  · refine rv_iconst h 66 dX10_isLocked_66 rv_c0 ?_
    exact rv_reti hr 67 dX10_isLocked_67
  refine rv_iconst h 62 dX10_isLocked_62 rv_c1 ?_
  refine rv_goto (tgt := 67) h 63 dX10_isLocked_63 (by decide) ?_
  exact rv_reti hr 67 dX10_isLocked_67
def f_X10_goesByRounds (p1 : Int32) (w : rv_W) : rv_R :=
  rv_jn (fun  (w1 : rv_W) =>
  some ((1 : Int32), w1)) (fun (k2 : rv_W → rv_R) =>
  if p1 = (6 : Int32) then
  k2 w
  else
  if p1 = (7 : Int32) then
  k2 w
  else
  some ((0 : Int32), w))
set_option maxRecDepth 100000 in
set_option maxHeartbeats 4000000 in
theorem fn_X10_goesByRounds {l : Launch} {D : va_G} {ad : Nat → Nat} {ca : Nat → ClassId} (hJ : rv_J ad) (p1 : Int32)  (w : rv_W) : rv_Fn l D ad ca yX10_goesByRounds cX10_goesByRounds 1 (some .boolean) 0 0 [.int p1] w (f_X10_goesByRounds p1 w) := by
  refine rv_mk (lv := [(0, .int p1)]) hJ (by decide +kernel) (Nat.le_of_ble_eq_true rfl) rfl (fun K h hr => ?_)
  have h : rv_Rl D ad ca l RX10 cX10_goesByRounds 1 0 0 K := h
  unfold f_X10_goesByRounds
  refine rv_iload_n h 0 dX10_goesByRounds_0 0 rfl ?_
  refine rv_bipush (v := 6) h 1 dX10_goesByRounds_1 (by decide +kernel) ?_
  refine rv_join (fun (k0 : rv_W → rv_R) => ∀  (w1 : rv_W), K 12 [] ([]) w1 (k0 w1)) (fun w1 => ?_) (fun k2 hk3 => ?_)
  · refine rv_iconst h 12 dX10_goesByRounds_12 rv_c1 ?_
    refine rv_goto (tgt := 17) h 13 dX10_goesByRounds_13 (by decide) ?_
    exact rv_retz1 hr 17 dX10_goesByRounds_17
  refine rv_icmp_eq (tgt := 12) h 3 dX10_goesByRounds_3 (by decide) (fun _ => ?_) (fun _ => ?_)
  · refine rv_sub h [] rfl ?_
    exact hk3 w
  refine rv_iload_n h 6 dX10_goesByRounds_6 0 rfl ?_
  refine rv_bipush (v := 7) h 7 dX10_goesByRounds_7 (by decide +kernel) ?_
  refine rv_icmp_ne (tgt := 16) h 9 dX10_goesByRounds_9 (by decide) (fun _ => ?_) (fun _ => ?_)
  · refine rv_sub h [] rfl ?_
    exact hk3 w
  refine rv_iconst h 16 dX10_goesByRounds_16 rv_c0 ?_
  exact rv_retz0 hr 17 dX10_goesByRounds_17
def f_X10_rounds (p1 : Int32) (w : rv_W) : rv_R :=
  rv_bd (f_X10_isRule p1 w) (fun (r1 : Int32) (w2 : rv_W) =>
  if r1 = 0 then
  some ((-1000001 : Int32), w2)
  else
  rv_bd (f_X10_goesByRounds p1 w2) (fun (r3 : Int32) (w4 : rv_W) =>
  if r3 = 0 then
  some ((-1000003 : Int32), w4)
  else
  rv_bd (f_X10_castAll  w4) (fun (r5 : Int32) (w6 : rv_W) =>
  rv_bd (f_X6_play p1 w6) (fun (r7 : Int32) (w8 : rv_W) =>
  some ((w8 56 0), w8)))))
set_option maxRecDepth 100000 in
set_option maxHeartbeats 4000000 in
theorem fn_X10_rounds {l : Launch} {D : va_G} {ad : Nat → Nat} {ca : Nat → ClassId} (hJ : rv_J ad) (p1 : Int32)  (w : rv_W) : rv_Fn l D ad ca yX10_rounds cX10_rounds 2 (some .int) 5 116 [.ref (ad 0), .int p1] w (f_X10_rounds p1 w) := by
  refine rv_mk (lv := [(0, .ref (ad 0)), (1, .int p1)]) hJ (by decide +kernel) (Nat.le_of_ble_eq_true rfl) rfl (fun K h hr => ?_)
  have h : rv_Rl D ad ca l RX10 cX10_rounds 2 5 116 K := h
  unfold f_X10_rounds
  refine rv_iload_n h 0 dX10_rounds_0 1 rfl ?_
  refine rv_callSi h 1 dX10_rounds_1 (fn_X10_isRule hJ p1  w) ce_X10_isRule lk_X10_128 rfl rfl (Nat.le_of_ble_eq_true rfl) ⟨Nat.le_of_ble_eq_true rfl, Nat.le_of_ble_eq_true rfl⟩ (fun r1 w2 => ?_)
  refine rv_if_ne (tgt := 10) h 4 dX10_rounds_4 (by decide) (fun _ => ?_) (fun _ => ?_)
  · refine rv_ldc h 7 dX10_rounds_7 rv_kc_X10_75 ?_
    exact rv_reti hr 9 dX10_rounds_9
  refine rv_iload_n h 10 dX10_rounds_10 1 rfl ?_
  refine rv_callSi h 11 dX10_rounds_11 (fn_X10_goesByRounds hJ p1  w2) ce_X10_goesByRounds lk_X10_186 rfl rfl (Nat.le_of_ble_eq_true rfl) ⟨Nat.le_of_ble_eq_true rfl, Nat.le_of_ble_eq_true rfl⟩ (fun r3 w4 => ?_)
  refine rv_if_ne (tgt := 20) h 14 dX10_rounds_14 (by decide) (fun _ => ?_) (fun _ => ?_)
  · refine rv_ldc h 17 dX10_rounds_17 rv_kc_X10_121 ?_
    exact rv_reti hr 19 dX10_rounds_19
  refine rv_aload_n h 20 dX10_rounds_20 0 rfl ?_
  refine rv_callVv h 21 dX10_rounds_21 (fn_X10_castAll hJ   w4) ce_X10_castAll lk_X10_122 rv_s0 rfl rv_cf8 rfl rfl (Nat.le_of_ble_eq_true rfl) ⟨Nat.le_of_ble_eq_true rfl, Nat.le_of_ble_eq_true rfl⟩ (fun r5 w6 => ?_)
  refine rv_aload_n h 24 dX10_rounds_24 0 rfl ?_
  refine rv_getr h 25 dX10_rounds_25 rv_s0 rv_fd_X10_37 rfl ?_
  refine rv_getr h 28 dX10_rounds_28 rv_s53 rv_fd_X10_189 rfl ?_
  refine rv_iload_n h 31 dX10_rounds_31 1 rfl ?_
  refine rv_aload_n h 32 dX10_rounds_32 0 rfl ?_
  refine rv_getr h 33 dX10_rounds_33 rv_s0 rv_fd_X10_30 rfl ?_
  refine rv_callVi h 36 dX10_rounds_36 (fn_X6_play hJ p1  w6) ce_X6_play lk_X10_193 rv_s56 rfl rv_cf4 rfl rfl (Nat.le_of_ble_eq_true rfl) ⟨Nat.le_of_ble_eq_true rfl, Nat.le_of_ble_eq_true rfl⟩ (fun r7 w8 => ?_)
  refine rv_pop h 39 dX10_rounds_39 rfl ?_
  refine rv_aload_n h 40 dX10_rounds_40 0 rfl ?_
  refine rv_getr h 41 dX10_rounds_41 rv_s0 rv_fd_X10_37 rfl ?_
  refine rv_getr h 44 dX10_rounds_44 rv_s53 rv_fd_X10_189 rfl ?_
  refine rv_geti h 47 dX10_rounds_47 rv_s56 rv_fd_X10_198 rfl ?_
  exact rv_reti hr 50 dX10_rounds_50
def f_X10_isPlace (p1 : Int32) (w : rv_W) : rv_R :=
  if p1 < 0 then
  some ((0 : Int32), w)
  else
  rv_bd (f_J6_bitCount_0f7a4 (w 1 0) w) (fun (r1 : Int32) (w2 : rv_W) =>
  if p1 < r1 then
  some ((1 : Int32), w2)
  else
  some ((0 : Int32), w2))
set_option maxRecDepth 100000 in
set_option maxHeartbeats 4000000 in
theorem fn_X10_isPlace {l : Launch} {D : va_G} {ad : Nat → Nat} {ca : Nat → ClassId} (hJ : rv_J ad) (p1 : Int32)  (w : rv_W) : rv_Fn l D ad ca yX10_isPlace cX10_isPlace 2 (some .boolean) 1 20 [.ref (ad 0), .int p1] w (f_X10_isPlace p1 w) := by
  refine rv_mk (lv := [(0, .ref (ad 0)), (1, .int p1)]) hJ (by decide +kernel) (Nat.le_of_ble_eq_true rfl) rfl (fun K h hr => ?_)
  have h : rv_Rl D ad ca l RX10 cX10_isPlace 2 1 20 K := h
  unfold f_X10_isPlace
  refine rv_iload_n h 0 dX10_isPlace_0 1 rfl ?_
  refine rv_if_lt (tgt := 22) h 1 dX10_isPlace_1 (by decide) (fun _ => ?_) (fun _ => ?_)
  · refine rv_iconst h 22 dX10_isPlace_22 rv_c0 ?_
    exact rv_retz0 hr 23 dX10_isPlace_23
  refine rv_iload_n h 4 dX10_isPlace_4 1 rfl ?_
  refine rv_aload_n h 5 dX10_isPlace_5 0 rfl ?_
  refine rv_getr h 6 dX10_isPlace_6 rv_s0 rv_fd_X10_10 rfl ?_
  refine rv_geti h 9 dX10_isPlace_9 rv_s1 rv_fd_X10_105 rfl ?_
  refine rv_callSi h 12 dX10_isPlace_12 (fn_J6_bitCount_0f7a4 hJ (w 1 0)  w) ce_J6_bitCount_0f7a4 lk_X10_278 rfl rfl (Nat.le_of_ble_eq_true rfl) ⟨Nat.le_of_ble_eq_true rfl, Nat.le_of_ble_eq_true rfl⟩ (fun r1 w2 => ?_)
  refine rv_icmp_ge (tgt := 22) h 15 dX10_isPlace_15 (by decide) (fun _ => ?_) (fun _ => ?_)
  rotate_left
  · refine rv_iconst h 22 dX10_isPlace_22 rv_c0 ?_
    exact rv_retz0 hr 23 dX10_isPlace_23
  refine rv_iconst h 18 dX10_isPlace_18 rv_c1 ?_
  refine rv_goto (tgt := 23) h 19 dX10_isPlace_19 (by decide) ?_
  exact rv_retz1 hr 23 dX10_isPlace_23
def f_X10_kemeny (p1 : Int32) (w : rv_W) : rv_R :=
  rv_bd (f_X10_isPlace p1 w) (fun (r1 : Int32) (w2 : rv_W) =>
  if r1 = 0 then
  some ((-1000001 : Int32), w2)
  else
  rv_bd (f_X10_castAll  w2) (fun (r3 : Int32) (w4 : rv_W) =>
  rv_bd (f_X3_weigh  w4) (fun (r5 : Int32) (w6 : rv_W) =>
  rv_bd (f_X3_candidateAt p1 w6) (fun (r7 : Int32) (w8 : rv_W) =>
  some (r7, w8)))))
set_option maxRecDepth 100000 in
set_option maxHeartbeats 4000000 in
theorem fn_X10_kemeny {l : Launch} {D : va_G} {ad : Nat → Nat} {ca : Nat → ClassId} (hJ : rv_J ad) (p1 : Int32)  (w : rv_W) : rv_Fn l D ad ca yX10_kemeny cX10_kemeny 2 (some .int) 5 116 [.ref (ad 0), .int p1] w (f_X10_kemeny p1 w) := by
  refine rv_mk (lv := [(0, .ref (ad 0)), (1, .int p1)]) hJ (by decide +kernel) (Nat.le_of_ble_eq_true rfl) rfl (fun K h hr => ?_)
  have h : rv_Rl D ad ca l RX10 cX10_kemeny 2 5 116 K := h
  unfold f_X10_kemeny
  refine rv_aload_n h 0 dX10_kemeny_0 0 rfl ?_
  refine rv_iload_n h 1 dX10_kemeny_1 1 rfl ?_
  refine rv_callVi h 2 dX10_kemeny_2 (fn_X10_isPlace hJ p1  w) ce_X10_isPlace lk_X10_220 rv_s0 rfl rv_cf8 rfl rfl (Nat.le_of_ble_eq_true rfl) ⟨Nat.le_of_ble_eq_true rfl, Nat.le_of_ble_eq_true rfl⟩ (fun r1 w2 => ?_)
  refine rv_if_ne (tgt := 11) h 5 dX10_kemeny_5 (by decide) (fun _ => ?_) (fun _ => ?_)
  · refine rv_ldc h 8 dX10_kemeny_8 rv_kc_X10_75 ?_
    exact rv_reti hr 10 dX10_kemeny_10
  refine rv_aload_n h 11 dX10_kemeny_11 0 rfl ?_
  refine rv_callVv h 12 dX10_kemeny_12 (fn_X10_castAll hJ   w2) ce_X10_castAll lk_X10_122 rv_s0 rfl rv_cf8 rfl rfl (Nat.le_of_ble_eq_true rfl) ⟨Nat.le_of_ble_eq_true rfl, Nat.le_of_ble_eq_true rfl⟩ (fun r3 w4 => ?_)
  refine rv_aload_n h 15 dX10_kemeny_15 0 rfl ?_
  refine rv_getr h 16 dX10_kemeny_16 rv_s0 rv_fd_X10_37 rfl ?_
  refine rv_getr h 19 dX10_kemeny_19 rv_s53 rv_fd_X10_208 rfl ?_
  refine rv_aload_n h 22 dX10_kemeny_22 0 rfl ?_
  refine rv_getr h 23 dX10_kemeny_23 rv_s0 rv_fd_X10_30 rfl ?_
  refine rv_callVv h 26 dX10_kemeny_26 (fn_X3_weigh hJ   w4) ce_X3_weigh lk_X10_212 rv_s75 rfl rv_cf1 rfl rfl (Nat.le_of_ble_eq_true rfl) ⟨Nat.le_of_ble_eq_true rfl, Nat.le_of_ble_eq_true rfl⟩ (fun r5 w6 => ?_)
  refine rv_aload_n h 29 dX10_kemeny_29 0 rfl ?_
  refine rv_getr h 30 dX10_kemeny_30 rv_s0 rv_fd_X10_37 rfl ?_
  refine rv_getr h 33 dX10_kemeny_33 rv_s53 rv_fd_X10_208 rfl ?_
  refine rv_aload_n h 36 dX10_kemeny_36 0 rfl ?_
  refine rv_getr h 37 dX10_kemeny_37 rv_s0 rv_fd_X10_30 rfl ?_
  refine rv_iload_n h 40 dX10_kemeny_40 1 rfl ?_
  refine rv_callVi h 41 dX10_kemeny_41 (fn_X3_candidateAt hJ p1  w6) ce_X3_candidateAt lk_X10_223 rv_s75 rfl rv_cf1 rfl rfl (Nat.le_of_ble_eq_true rfl) ⟨Nat.le_of_ble_eq_true rfl, Nat.le_of_ble_eq_true rfl⟩ (fun r7 w8 => ?_)
  exact rv_reti hr 44 dX10_kemeny_44
def f_X10_favourite  (w : rv_W) : rv_R :=
  rv_bd (f_X10_castAll  w) (fun (r1 : Int32) (w2 : rv_W) =>
  rv_fx (fun _ _ => none) (fun (ag3 : Int32 → rv_W → rv_R) (v5 : Int32) (w6 : rv_W) =>
  if v5 < (5 : Int32) then
  rv_ck v5 5 (rv_lt (rv_up w6 77 v5.toNatClampNeg (0 : Int32)) (fun (w25 : rv_W) =>
  rv_lt (v5 + (1 : Int32)) (fun (v26 : Int32) =>
  ag3 v26 w25)))
  else
  rv_fx (fun _ _ => none) (fun (ag7 : Int32 → rv_W → rv_R) (v9 : Int32) (w10 : rv_W) =>
  if v9 < (12 : Int32) then
  rv_bd (f_X7_winnerBy v9 w10) (fun (r19 : Int32) (w20 : rv_W) =>
  if r19 < 0 then
  rv_lt (v9 + (1 : Int32)) (fun (v21 : Int32) =>
  ag7 v21 w20)
  else
  if r19 < (5 : Int32) then
  rv_ck r19 5 (
  rv_ck r19 5 (rv_lt (rv_up w20 77 r19.toNatClampNeg ((w20 77 r19.toNatClampNeg) + (1 : Int32))) (fun (w23 : rv_W) =>
  rv_lt (v9 + (1 : Int32)) (fun (v24 : Int32) =>
  ag7 v24 w23))))
  else
  rv_lt (v9 + (1 : Int32)) (fun (v22 : Int32) =>
  ag7 v22 w20))
  else
  rv_fx (fun _ _ _ _ => none) (fun (ag11 : Int32 → Int32 → Int32 → rv_W → rv_R) (v13 : Int32) (v14 : Int32) (v15 : Int32) (w16 : rv_W) =>
  if v15 < (5 : Int32) then
  rv_ck v15 5 (
  if v14 < (w16 77 v15.toNatClampNeg) then
  rv_ck v15 5 (
  rv_lt (v15 + (1 : Int32)) (fun (v18 : Int32) =>
  ag11 v15 (w16 77 v15.toNatClampNeg) v18 w16))
  else
  rv_lt (v15 + (1 : Int32)) (fun (v17 : Int32) =>
  ag11 v13 v14 v17 w16))
  else
  some (v13, w16)) rv_FU (-1000000 : Int32) (0 : Int32) (0 : Int32) w10) rv_FU (0 : Int32) w6) rv_FU (0 : Int32) w2)
set_option maxRecDepth 100000 in
set_option maxHeartbeats 4000000 in
theorem fn_X10_favourite {l : Launch} {D : va_G} {ad : Nat → Nat} {ca : Nat → ClassId} (hJ : rv_J ad)   (w : rv_W) : rv_Fn l D ad ca yX10_favourite cX10_favourite 4 (some .int) 5 119 [.ref (ad 0)] w (f_X10_favourite  w) := by
  refine rv_mk (lv := [(0, .ref (ad 0))]) hJ (by decide +kernel) (Nat.le_of_ble_eq_true rfl) rfl (fun K h hr => ?_)
  have h : rv_Rl D ad ca l RX10 cX10_favourite 4 5 119 K := h
  unfold f_X10_favourite
  refine rv_aload_n h 0 dX10_favourite_0 0 rfl ?_
  refine rv_callVv h 1 dX10_favourite_1 (fn_X10_castAll hJ   w) ce_X10_castAll lk_X10_122 rv_s0 rfl rv_cf8 rfl rfl (Nat.le_of_ble_eq_true rfl) ⟨Nat.le_of_ble_eq_true rfl, Nat.le_of_ble_eq_true rfl⟩ (fun r1 w2 => ?_)
  refine rv_iconst h 4 dX10_favourite_4 rv_c0 ?_
  refine rv_istore_n (lv' := [(1, .int (0 : Int32)), (0, .ref (ad 0))]) h 5 dX10_favourite_5 (by decide) rfl ?_
  refine rv_sub h [1, 0] rfl ?_
  refine rv_fx_ind (fun (a0 : Int32 → rv_W → rv_R) => ∀ (v5 : Int32) (w6 : rv_W), K 6 [(0, .ref (ad 0)), (1, .int v5)] [] w6 (a0 v5 w6)) (fun _ _ => rv_none h) (fun ag3 ih4 v5 w6 => ?_) rv_FU (0 : Int32) w2
  refine rv_iload_n h 6 dX10_favourite_6 1 rfl ?_
  refine rv_aload_n h 7 dX10_favourite_7 0 rfl ?_
  refine rv_getr h 8 dX10_favourite_8 rv_s0 rv_fd_X10_41 rfl ?_
  refine rv_len (v := 5) h 11 dX10_favourite_11 rv_s77 (by decide) (by decide +kernel) ?_
  refine rv_icmp_ge (tgt := 28) h 12 dX10_favourite_12 (by decide) (fun _ => ?_) (fun _ => ?_)
  · refine rv_aload_n h 15 dX10_favourite_15 0 rfl ?_
    refine rv_getr h 16 dX10_favourite_16 rv_s0 rv_fd_X10_41 rfl ?_
    refine rv_iload_n h 19 dX10_favourite_19 1 rfl ?_
    refine rv_iconst h 20 dX10_favourite_20 rv_c0 ?_
    refine rv_iast h 21 dX10_favourite_21 rv_s77 (fun w25 => ?_)
    refine rv_iinc h 22 (fun v26 => [(1, .int v26), (0, .ref (ad 0))]) dX10_favourite_22 1 rfl rv_c1 (by decide) (fun _ => rfl) (fun v26 => ?_)
    refine rv_goto (tgt := 6) h 25 dX10_favourite_25 (by decide) ?_
    refine rv_sub h [1, 0] rfl ?_
    exact ih4 v26 w25
  refine rv_iconst h 28 dX10_favourite_28 rv_c0 ?_
  refine rv_istore_n (lv' := [(1, .int (0 : Int32)), (0, .ref (ad 0))]) h 29 dX10_favourite_29 (by decide) rfl ?_
  refine rv_sub h [1, 0] rfl ?_
  refine rv_fx_ind (fun (a0 : Int32 → rv_W → rv_R) => ∀ (v9 : Int32) (w10 : rv_W), K 30 [(0, .ref (ad 0)), (1, .int v9)] [] w10 (a0 v9 w10)) (fun _ _ => rv_none h) (fun ag7 ih8 v9 w10 => ?_) rv_FU (0 : Int32) w6
  refine rv_iload_n h 30 dX10_favourite_30 1 rfl ?_
  refine rv_bipush (v := 12) h 31 dX10_favourite_31 (by decide +kernel) ?_
  refine rv_icmp_ge (tgt := 78) h 33 dX10_favourite_33 (by decide) (fun _ => ?_) (fun _ => ?_)
  · refine rv_aload_n h 36 dX10_favourite_36 0 rfl ?_
    refine rv_getr h 37 dX10_favourite_37 rv_s0 rv_fd_X10_37 rfl ?_
    refine rv_iload_n h 40 dX10_favourite_40 1 rfl ?_
    refine rv_aload_n h 41 dX10_favourite_41 0 rfl ?_
    refine rv_getr h 42 dX10_favourite_42 rv_s0 rv_fd_X10_30 rfl ?_
    refine rv_callVi h 45 dX10_favourite_45 (fn_X7_winnerBy hJ v9  w10) ce_X7_winnerBy lk_X10_135 rv_s53 rfl rv_cf5 rfl rfl (Nat.le_of_ble_eq_true rfl) ⟨Nat.le_of_ble_eq_true rfl, Nat.le_of_ble_eq_true rfl⟩ (fun r19 w20 => ?_)
    refine rv_istore_n (lv' := [(2, .int r19), (0, .ref (ad 0)), (1, .int v9)]) h 48 dX10_favourite_48 (by decide) rfl ?_
    refine rv_iload_n h 49 dX10_favourite_49 0 rfl ?_
    refine rv_if_lt (tgt := 72) h 50 dX10_favourite_50 (by decide) (fun _ => ?_) (fun _ => ?_)
    · refine rv_iinc h 72 (fun v21 => [(1, .int v21), (2, .int r19), (0, .ref (ad 0))]) dX10_favourite_72 2 rfl rv_c1 (by decide) (fun _ => rfl) (fun v21 => ?_)
      refine rv_goto (tgt := 30) h 75 dX10_favourite_75 (by decide) ?_
      refine rv_sub h [2, 0] rfl ?_
      exact ih8 v21 w20
    refine rv_iload_n h 53 dX10_favourite_53 0 rfl ?_
    refine rv_aload_n h 54 dX10_favourite_54 1 rfl ?_
    refine rv_getr h 55 dX10_favourite_55 rv_s0 rv_fd_X10_41 rfl ?_
    refine rv_len (v := 5) h 58 dX10_favourite_58 rv_s77 (by decide) (by decide +kernel) ?_
    refine rv_icmp_ge (tgt := 72) h 59 dX10_favourite_59 (by decide) (fun _ => ?_) (fun _ => ?_)
    rotate_left
    · refine rv_iinc h 72 (fun v22 => [(1, .int v22), (2, .int r19), (0, .ref (ad 0))]) dX10_favourite_72 2 rfl rv_c1 (by decide) (fun _ => rfl) (fun v22 => ?_)
      refine rv_goto (tgt := 30) h 75 dX10_favourite_75 (by decide) ?_
      refine rv_sub h [2, 0] rfl ?_
      exact ih8 v22 w20
    refine rv_aload_n h 62 dX10_favourite_62 1 rfl ?_
    refine rv_getr h 63 dX10_favourite_63 rv_s0 rv_fd_X10_41 rfl ?_
    refine rv_iload_n h 66 dX10_favourite_66 0 rfl ?_
    refine rv_dup2 h 67 dX10_favourite_67 rfl rfl ?_
    refine rv_iald h 68 dX10_favourite_68 rv_s77 ?_
    refine rv_iconst h 69 dX10_favourite_69 rv_c1 ?_
    refine rv_iadd h 70 dX10_favourite_70 ?_
    refine rv_iast h 71 dX10_favourite_71 rv_s77 (fun w23 => ?_)
    refine rv_iinc h 72 (fun v24 => [(1, .int v24), (2, .int r19), (0, .ref (ad 0))]) dX10_favourite_72 2 rfl rv_c1 (by decide) (fun _ => rfl) (fun v24 => ?_)
    refine rv_goto (tgt := 30) h 75 dX10_favourite_75 (by decide) ?_
    refine rv_sub h [2, 0] rfl ?_
    exact ih8 v24 w23
  refine rv_ldc h 78 dX10_favourite_78 rv_kc_X10_227 ?_
  refine rv_istore_n (lv' := [(1, .int (-1000000 : Int32)), (0, .ref (ad 0))]) h 80 dX10_favourite_80 (by decide) rfl ?_
  refine rv_iconst h 81 dX10_favourite_81 rv_c0 ?_
  refine rv_istore_n (lv' := [(2, .int (0 : Int32)), (1, .int (-1000000 : Int32)), (0, .ref (ad 0))]) h 82 dX10_favourite_82 (by decide) rfl ?_
  refine rv_iconst h 83 dX10_favourite_83 rv_c0 ?_
  refine rv_istore_n (lv' := [(3, .int (0 : Int32)), (2, .int (0 : Int32)), (1, .int (-1000000 : Int32)), (0, .ref (ad 0))]) h 84 dX10_favourite_84 (by decide) rfl ?_
  refine rv_sub h [3, 2, 1, 0] rfl ?_
  refine rv_fx_ind (fun (a0 : Int32 → Int32 → Int32 → rv_W → rv_R) => ∀ (v13 : Int32) (v14 : Int32) (v15 : Int32) (w16 : rv_W), K 85 [(0, .ref (ad 0)), (1, .int v13), (2, .int v14), (3, .int v15)] [] w16 (a0 v13 v14 v15 w16)) (fun _ _ _ _ => rv_none h) (fun ag11 ih12 v13 v14 v15 w16 => ?_) rv_FU (-1000000 : Int32) (0 : Int32) (0 : Int32) w10
  refine rv_iload_n h 85 dX10_favourite_85 3 rfl ?_
  refine rv_aload_n h 86 dX10_favourite_86 0 rfl ?_
  refine rv_getr h 87 dX10_favourite_87 rv_s0 rv_fd_X10_41 rfl ?_
  refine rv_len (v := 5) h 90 dX10_favourite_90 rv_s77 (by decide) (by decide +kernel) ?_
  refine rv_icmp_ge (tgt := 119) h 91 dX10_favourite_91 (by decide) (fun _ => ?_) (fun _ => ?_)
  rotate_left
  · refine rv_iload_n h 119 dX10_favourite_119 1 rfl ?_
    exact rv_reti hr 120 dX10_favourite_120
  refine rv_aload_n h 94 dX10_favourite_94 0 rfl ?_
  refine rv_getr h 95 dX10_favourite_95 rv_s0 rv_fd_X10_41 rfl ?_
  refine rv_iload_n h 98 dX10_favourite_98 3 rfl ?_
  refine rv_iald h 99 dX10_favourite_99 rv_s77 ?_
  refine rv_iload_n h 100 dX10_favourite_100 2 rfl ?_
  refine rv_icmp_le (tgt := 113) h 101 dX10_favourite_101 (by decide) (fun _ => ?_) (fun _ => ?_)
  rotate_left
  · refine rv_iinc h 113 (fun v17 => [(3, .int v17), (0, .ref (ad 0)), (1, .int v13), (2, .int v14)]) dX10_favourite_113 3 rfl rv_c1 (by decide) (fun _ => rfl) (fun v17 => ?_)
    refine rv_goto (tgt := 85) h 116 dX10_favourite_116 (by decide) ?_
    refine rv_sub h [1, 2, 3, 0] rfl ?_
    exact ih12 v13 v14 v17 w16
  refine rv_aload_n h 104 dX10_favourite_104 0 rfl ?_
  refine rv_getr h 105 dX10_favourite_105 rv_s0 rv_fd_X10_41 rfl ?_
  refine rv_iload_n h 108 dX10_favourite_108 3 rfl ?_
  refine rv_iald h 109 dX10_favourite_109 rv_s77 ?_
  refine rv_istore_n (lv' := [(2, .int (w16 77 v15.toNatClampNeg)), (0, .ref (ad 0)), (1, .int v13), (3, .int v15)]) h 110 dX10_favourite_110 (by decide) rfl ?_
  refine rv_iload_n h 111 dX10_favourite_111 3 rfl ?_
  refine rv_istore_n (lv' := [(1, .int v15), (2, .int (w16 77 v15.toNatClampNeg)), (0, .ref (ad 0)), (3, .int v15)]) h 112 dX10_favourite_112 (by decide) rfl ?_
  refine rv_iinc h 113 (fun v18 => [(3, .int v18), (1, .int v15), (2, .int (w16 77 v15.toNatClampNeg)), (0, .ref (ad 0))]) dX10_favourite_113 3 rfl rv_c1 (by decide) (fun _ => rfl) (fun v18 => ?_)
  refine rv_goto (tgt := 85) h 116 dX10_favourite_116 (by decide) ?_
  refine rv_sub h [3, 1, 2, 0] rfl ?_
  exact ih12 v15 (w16 77 v15.toNatClampNeg) v18 w16
def f_X10_bestStrategy (p1 : Int32) (p2 : Int32) (w : rv_W) : rv_R :=
  rv_bd (f_X10_castAll  w) (fun (r1 : Int32) (w2 : rv_W) =>
  rv_bd (f_X8_votersOf 1 p2 w2) (fun (r3 : Int32) (w4 : rv_W) =>
  rv_bd (f_X8_ballotOf 1 p2 w4) (fun (r5 : Int32) (w6 : rv_W) =>
  rv_bd (f_X0_within r5 (w6 1 0) w6) (fun (r7 : Int32) (w8 : rv_W) =>
  rv_bd (f_X0_at r7 (0 : Int32) w8) (fun (r9 : Int32) (w10 : rv_W) =>
  rv_bd (f_X7_winnerBy p1 w10) (fun (r11 : Int32) (w12 : rv_W) =>
  rv_bd (f_J6_bitCount_0f7a4 (w12 1 0) w12) (fun (r13 : Int32) (w14 : rv_W) =>
  rv_bd (f_X0_factorial r13 w14) (fun (r15 : Int32) (w16 : rv_W) =>
  rv_fx (fun _ _ _ _ => none) (fun (ag17 : Int32 → Int32 → Int32 → rv_W → rv_R) (v19 : Int32) (v20 : Int32) (v21 : Int32) (w22 : rv_W) =>
  if v21 < r15 then
  if v19 = r9 then
  some (v20, w22)
  else
  rv_bd (f_X0_order (w22 1 0) v21 w22) (fun (r23 : Int32) (w24 : rv_W) =>
  rv_bd (f_X5_cast p2 r3 r23 w24) (fun (r25 : Int32) (w26 : rv_W) =>
  rv_bd (f_X7_winnerBy p1 w26) (fun (r27 : Int32) (w28 : rv_W) =>
  rv_bd (f_X0_prefers r7 r27 v19 w28) (fun (r29 : Int32) (w30 : rv_W) =>
  if r29 = 0 then
  rv_lt (v21 + (1 : Int32)) (fun (v31 : Int32) =>
  ag17 v19 v20 v31 w30)
  else
  rv_lt (v21 + (1 : Int32)) (fun (v32 : Int32) =>
  ag17 r27 r23 v32 w30)))))
  else
  some (v20, w22)) rv_FU r11 (0 : Int32) (0 : Int32) w16))))))))
set_option maxRecDepth 100000 in
set_option maxHeartbeats 4000000 in
theorem fn_X10_bestStrategy {l : Launch} {D : va_G} {ad : Nat → Nat} {ca : Nat → ClassId} (hJ : rv_J ad) (p1 : Int32) (p2 : Int32)  (w : rv_W) : rv_Fn l D ad ca yX10_bestStrategy cX10_bestStrategy 12 (some .int) 5 119 [.ref (ad 0), .int p1, .int p2] w (f_X10_bestStrategy p1 p2 w) := by
  refine rv_mk (lv := [(0, .ref (ad 0)), (1, .int p1), (2, .int p2)]) hJ (by decide +kernel) (Nat.le_of_ble_eq_true rfl) rfl (fun K h hr => ?_)
  have h : rv_Rl D ad ca l RX10 cX10_bestStrategy 12 5 119 K := h
  unfold f_X10_bestStrategy
  refine rv_aload_n h 0 dX10_bestStrategy_0 0 rfl ?_
  refine rv_callVv h 1 dX10_bestStrategy_1 (fn_X10_castAll hJ   w) ce_X10_castAll lk_X10_122 rv_s0 rfl rv_cf8 rfl rfl (Nat.le_of_ble_eq_true rfl) ⟨Nat.le_of_ble_eq_true rfl, Nat.le_of_ble_eq_true rfl⟩ (fun r1 w2 => ?_)
  refine rv_aload_n h 4 dX10_bestStrategy_4 0 rfl ?_
  refine rv_getr h 5 dX10_bestStrategy_5 rv_s0 rv_fd_X10_10 rfl ?_
  refine rv_iload_n h 8 dX10_bestStrategy_8 2 rfl ?_
  refine rv_callVi h 9 dX10_bestStrategy_9 (fn_X8_votersOf hJ 1 p2 (by decide) w2) ce_X8_votersOf lk_X10_80 rv_s1 rfl rv_cf6 rfl rfl (Nat.le_of_ble_eq_true rfl) ⟨Nat.le_of_ble_eq_true rfl, Nat.le_of_ble_eq_true rfl⟩ (fun r3 w4 => ?_)
  refine rv_istore_n (lv' := [(3, .int r3), (0, .ref (ad 0)), (1, .int p1), (2, .int p2)]) h 12 dX10_bestStrategy_12 (by decide) rfl ?_
  refine rv_aload_n h 13 dX10_bestStrategy_13 1 rfl ?_
  refine rv_getr h 14 dX10_bestStrategy_14 rv_s0 rv_fd_X10_10 rfl ?_
  refine rv_iload_n h 17 dX10_bestStrategy_17 3 rfl ?_
  refine rv_callVi h 18 dX10_bestStrategy_18 (fn_X8_ballotOf hJ 1 p2 (by decide) w4) ce_X8_ballotOf lk_X10_83 rv_s1 rfl rv_cf6 rfl rfl (Nat.le_of_ble_eq_true rfl) ⟨Nat.le_of_ble_eq_true rfl, Nat.le_of_ble_eq_true rfl⟩ (fun r5 w6 => ?_)
  refine rv_aload_n h 21 dX10_bestStrategy_21 1 rfl ?_
  refine rv_getr h 22 dX10_bestStrategy_22 rv_s0 rv_fd_X10_10 rfl ?_
  refine rv_geti h 25 dX10_bestStrategy_25 rv_s1 rv_fd_X10_105 rfl ?_
  refine rv_callSi h 28 dX10_bestStrategy_28 (fn_X0_within hJ r5 (w6 1 0)  w6) ce_X0_within lk_X10_245 rfl rfl (Nat.le_of_ble_eq_true rfl) ⟨Nat.le_of_ble_eq_true rfl, Nat.le_of_ble_eq_true rfl⟩ (fun r7 w8 => ?_)
  refine rv_istore (lv' := [(4, .int r7), (3, .int r3), (0, .ref (ad 0)), (1, .int p1), (2, .int p2)]) h 31 dX10_bestStrategy_31 (by decide) rfl ?_
  refine rv_iload h 33 dX10_bestStrategy_33 0 rfl ?_
  refine rv_iconst h 35 dX10_bestStrategy_35 rv_c0 ?_
  refine rv_callSi h 36 dX10_bestStrategy_36 (fn_X0_at hJ r7 (0 : Int32)  w8) ce_X0_at lk_X10_234 rfl rfl (Nat.le_of_ble_eq_true rfl) ⟨Nat.le_of_ble_eq_true rfl, Nat.le_of_ble_eq_true rfl⟩ (fun r9 w10 => ?_)
  refine rv_istore (lv' := [(5, .int r9), (4, .int r7), (3, .int r3), (0, .ref (ad 0)), (1, .int p1), (2, .int p2)]) h 39 dX10_bestStrategy_39 (by decide) rfl ?_
  refine rv_aload_n h 41 dX10_bestStrategy_41 3 rfl ?_
  refine rv_getr h 42 dX10_bestStrategy_42 rv_s0 rv_fd_X10_37 rfl ?_
  refine rv_iload_n h 45 dX10_bestStrategy_45 4 rfl ?_
  refine rv_aload_n h 46 dX10_bestStrategy_46 3 rfl ?_
  refine rv_getr h 47 dX10_bestStrategy_47 rv_s0 rv_fd_X10_30 rfl ?_
  refine rv_callVi h 50 dX10_bestStrategy_50 (fn_X7_winnerBy hJ p1  w10) ce_X7_winnerBy lk_X10_135 rv_s53 rfl rv_cf5 rfl rfl (Nat.le_of_ble_eq_true rfl) ⟨Nat.le_of_ble_eq_true rfl, Nat.le_of_ble_eq_true rfl⟩ (fun r11 w12 => ?_)
  refine rv_istore (lv' := [(6, .int r11), (5, .int r9), (4, .int r7), (3, .int r3), (0, .ref (ad 0)), (1, .int p1), (2, .int p2)]) h 53 dX10_bestStrategy_53 (by decide) rfl ?_
  refine rv_iconst h 55 dX10_bestStrategy_55 rv_c0 ?_
  refine rv_istore (lv' := [(7, .int (0 : Int32)), (6, .int r11), (5, .int r9), (4, .int r7), (3, .int r3), (0, .ref (ad 0)), (1, .int p1), (2, .int p2)]) h 56 dX10_bestStrategy_56 (by decide) rfl ?_
  refine rv_aload_n h 58 dX10_bestStrategy_58 5 rfl ?_
  refine rv_getr h 59 dX10_bestStrategy_59 rv_s0 rv_fd_X10_10 rfl ?_
  refine rv_geti h 62 dX10_bestStrategy_62 rv_s1 rv_fd_X10_105 rfl ?_
  refine rv_callSi h 65 dX10_bestStrategy_65 (fn_J6_bitCount_0f7a4 hJ (w12 1 0)  w12) ce_J6_bitCount_0f7a4 lk_X10_278 rfl rfl (Nat.le_of_ble_eq_true rfl) ⟨Nat.le_of_ble_eq_true rfl, Nat.le_of_ble_eq_true rfl⟩ (fun r13 w14 => ?_)
  refine rv_callSi h 68 dX10_bestStrategy_68 (fn_X0_factorial hJ r13  w14) ce_X0_factorial lk_X10_286 rfl rfl (Nat.le_of_ble_eq_true rfl) ⟨Nat.le_of_ble_eq_true rfl, Nat.le_of_ble_eq_true rfl⟩ (fun r15 w16 => ?_)
  refine rv_istore (lv' := [(8, .int r15), (7, .int (0 : Int32)), (6, .int r11), (5, .int r9), (4, .int r7), (3, .int r3), (0, .ref (ad 0)), (1, .int p1), (2, .int p2)]) h 71 dX10_bestStrategy_71 (by decide) rfl ?_
  refine rv_iconst h 73 dX10_bestStrategy_73 rv_c0 ?_
  refine rv_istore (lv' := [(9, .int (0 : Int32)), (8, .int r15), (7, .int (0 : Int32)), (6, .int r11), (5, .int r9), (4, .int r7), (3, .int r3), (0, .ref (ad 0)), (1, .int p1), (2, .int p2)]) h 74 dX10_bestStrategy_74 (by decide) rfl ?_
  refine rv_sub h [7, 8, 9, 6, 5, 4, 3, 2, 1, 0] rfl ?_
  refine rv_fx_ind (fun (a0 : Int32 → Int32 → Int32 → rv_W → rv_R) => ∀ (v19 : Int32) (v20 : Int32) (v21 : Int32) (w22 : rv_W), K 76 [(0, .ref (ad 0)), (1, .int p1), (2, .int p2), (3, .int r3), (4, .int r7), (5, .int r9), (6, .int v19), (7, .int v20), (8, .int r15), (9, .int v21)] [] w22 (a0 v19 v20 v21 w22)) (fun _ _ _ _ => rv_none h) (fun ag17 ih18 v19 v20 v21 w22 => ?_) rv_FU r11 (0 : Int32) (0 : Int32) w16
  refine rv_iload h 76 dX10_bestStrategy_76 9 rfl ?_
  refine rv_iload h 78 dX10_bestStrategy_78 8 rfl ?_
  refine rv_icmp_ge (tgt := 155) h 80 dX10_bestStrategy_80 (by decide) (fun _ => ?_) (fun _ => ?_)
  rotate_left
  · refine rv_iload h 155 dX10_bestStrategy_155 7 rfl ?_
    exact rv_reti hr 157 dX10_bestStrategy_157
  refine rv_iload h 83 dX10_bestStrategy_83 6 rfl ?_
  refine rv_iload h 85 dX10_bestStrategy_85 5 rfl ?_
  refine rv_icmp_eq (tgt := 155) h 87 dX10_bestStrategy_87 (by decide) (fun _ => ?_) (fun _ => ?_)
  · refine rv_iload h 155 dX10_bestStrategy_155 7 rfl ?_
    exact rv_reti hr 157 dX10_bestStrategy_157
  refine rv_aload_n h 90 dX10_bestStrategy_90 0 rfl ?_
  refine rv_getr h 91 dX10_bestStrategy_91 rv_s0 rv_fd_X10_10 rfl ?_
  refine rv_geti h 94 dX10_bestStrategy_94 rv_s1 rv_fd_X10_105 rfl ?_
  refine rv_iload h 97 dX10_bestStrategy_97 9 rfl ?_
  refine rv_callSi h 99 dX10_bestStrategy_99 (fn_X0_order hJ (w22 1 0) v21  w22) ce_X0_order lk_X10_289 rfl rfl (Nat.le_of_ble_eq_true rfl) ⟨Nat.le_of_ble_eq_true rfl, Nat.le_of_ble_eq_true rfl⟩ (fun r23 w24 => ?_)
  refine rv_istore (lv' := [(10, .int r23), (0, .ref (ad 0)), (1, .int p1), (2, .int p2), (3, .int r3), (4, .int r7), (5, .int r9), (6, .int v19), (7, .int v20), (8, .int r15), (9, .int v21)]) h 102 dX10_bestStrategy_102 (by decide) rfl ?_
  refine rv_aload_n h 104 dX10_bestStrategy_104 1 rfl ?_
  refine rv_getr h 105 dX10_bestStrategy_105 rv_s0 rv_fd_X10_30 rfl ?_
  refine rv_iload_n h 108 dX10_bestStrategy_108 3 rfl ?_
  refine rv_iload_n h 109 dX10_bestStrategy_109 4 rfl ?_
  refine rv_iload h 110 dX10_bestStrategy_110 0 rfl ?_
  refine rv_callVv h 112 dX10_bestStrategy_112 (fn_X5_cast hJ p2 r3 r23  w24) ce_X5_cast lk_X10_231 rv_s24 rfl rv_cf3 rfl rfl (Nat.le_of_ble_eq_true rfl) ⟨Nat.le_of_ble_eq_true rfl, Nat.le_of_ble_eq_true rfl⟩ (fun r25 w26 => ?_)
  refine rv_aload_n h 115 dX10_bestStrategy_115 1 rfl ?_
  refine rv_getr h 116 dX10_bestStrategy_116 rv_s0 rv_fd_X10_37 rfl ?_
  refine rv_iload_n h 119 dX10_bestStrategy_119 2 rfl ?_
  refine rv_aload_n h 120 dX10_bestStrategy_120 1 rfl ?_
  refine rv_getr h 121 dX10_bestStrategy_121 rv_s0 rv_fd_X10_30 rfl ?_
  refine rv_callVi h 124 dX10_bestStrategy_124 (fn_X7_winnerBy hJ p1  w26) ce_X7_winnerBy lk_X10_135 rv_s53 rfl rv_cf5 rfl rfl (Nat.le_of_ble_eq_true rfl) ⟨Nat.le_of_ble_eq_true rfl, Nat.le_of_ble_eq_true rfl⟩ (fun r27 w28 => ?_)
  refine rv_istore (lv' := [(11, .int r27), (10, .int r23), (0, .ref (ad 0)), (1, .int p1), (2, .int p2), (3, .int r3), (4, .int r7), (5, .int r9), (6, .int v19), (7, .int v20), (8, .int r15), (9, .int v21)]) h 127 dX10_bestStrategy_127 (by decide) rfl ?_
  refine rv_iload h 129 dX10_bestStrategy_129 6 rfl ?_
  refine rv_iload h 131 dX10_bestStrategy_131 0 rfl ?_
  refine rv_iload h 133 dX10_bestStrategy_133 8 rfl ?_
  refine rv_callSi h 135 dX10_bestStrategy_135 (fn_X0_prefers hJ r7 r27 v19  w28) ce_X0_prefers lk_X10_241 rfl rfl (Nat.le_of_ble_eq_true rfl) ⟨Nat.le_of_ble_eq_true rfl, Nat.le_of_ble_eq_true rfl⟩ (fun r29 w30 => ?_)
  refine rv_if_eq (tgt := 149) h 138 dX10_bestStrategy_138 (by decide) (fun _ => ?_) (fun _ => ?_)
  · refine rv_iinc h 149 (fun v31 => [(9, .int v31), (11, .int r27), (10, .int r23), (0, .ref (ad 0)), (1, .int p1), (2, .int p2), (3, .int r3), (4, .int r7), (5, .int r9), (6, .int v19), (7, .int v20), (8, .int r15)]) dX10_bestStrategy_149 11 rfl rv_c1 (by decide) (fun _ => rfl) (fun v31 => ?_)
    refine rv_goto (tgt := 76) h 152 dX10_bestStrategy_152 (by decide) ?_
    refine rv_sub h [3, 4, 5, 6, 7, 8, 9, 10, 11, 0] rfl ?_
    exact ih18 v19 v20 v31 w30
  refine rv_iload h 141 dX10_bestStrategy_141 0 rfl ?_
  refine rv_istore (lv' := [(6, .int r27), (11, .int r27), (10, .int r23), (0, .ref (ad 0)), (1, .int p1), (2, .int p2), (3, .int r3), (4, .int r7), (5, .int r9), (7, .int v20), (8, .int r15), (9, .int v21)]) h 143 dX10_bestStrategy_143 (by decide) rfl ?_
  refine rv_iload h 145 dX10_bestStrategy_145 2 rfl ?_
  refine rv_istore (lv' := [(7, .int r23), (6, .int r27), (11, .int r27), (10, .int r23), (0, .ref (ad 0)), (1, .int p1), (2, .int p2), (3, .int r3), (4, .int r7), (5, .int r9), (8, .int r15), (9, .int v21)]) h 147 dX10_bestStrategy_147 (by decide) rfl ?_
  refine rv_iinc h 149 (fun v32 => [(9, .int v32), (7, .int r23), (6, .int r27), (11, .int r27), (10, .int r23), (0, .ref (ad 0)), (1, .int p1), (2, .int p2), (3, .int r3), (4, .int r7), (5, .int r9), (8, .int r15)]) dX10_bestStrategy_149 11 rfl rv_c1 (by decide) (fun _ => rfl) (fun v32 => ?_)
  refine rv_goto (tgt := 76) h 152 dX10_bestStrategy_152 (by decide) ?_
  refine rv_sub h [5, 6, 7, 8, 9, 10, 2, 1, 11, 0] rfl ?_
  exact ih18 r27 r23 v32 w30
def f_X10_strategy (p1 : Int32) (p2 : Int32) (w : rv_W) : rv_R :=
  rv_bd (f_X10_isRule p1 w) (fun (r1 : Int32) (w2 : rv_W) =>
  if r1 = 0 then
  some ((-1000001 : Int32), w2)
  else
  rv_bd (f_X8_holds 1 p2 w2) (fun (r3 : Int32) (w4 : rv_W) =>
  if r3 = 0 then
  some ((-1000001 : Int32), w4)
  else
  rv_bd (f_X10_bestStrategy p1 p2 w4) (fun (r5 : Int32) (w6 : rv_W) =>
  if r5 = 0 then
  some ((-1000000 : Int32), w6)
  else
  rv_bd (f_X8_votersOf 1 p2 w6) (fun (r7 : Int32) (w8 : rv_W) =>
  rv_bd (f_X5_cast p2 r7 r5 w8) (fun (r9 : Int32) (w10 : rv_W) =>
  rv_bd (f_X7_winnerBy p1 w10) (fun (r11 : Int32) (w12 : rv_W) =>
  some (r11, w12)))))))
set_option maxRecDepth 100000 in
set_option maxHeartbeats 4000000 in
theorem fn_X10_strategy {l : Launch} {D : va_G} {ad : Nat → Nat} {ca : Nat → ClassId} (hJ : rv_J ad) (p1 : Int32) (p2 : Int32)  (w : rv_W) : rv_Fn l D ad ca yX10_strategy cX10_strategy 4 (some .int) 6 150 [.ref (ad 0), .int p1, .int p2] w (f_X10_strategy p1 p2 w) := by
  refine rv_mk (lv := [(0, .ref (ad 0)), (1, .int p1), (2, .int p2)]) hJ (by decide +kernel) (Nat.le_of_ble_eq_true rfl) rfl (fun K h hr => ?_)
  have h : rv_Rl D ad ca l RX10 cX10_strategy 4 6 150 K := h
  unfold f_X10_strategy
  refine rv_iload_n h 0 dX10_strategy_0 1 rfl ?_
  refine rv_callSi h 1 dX10_strategy_1 (fn_X10_isRule hJ p1  w) ce_X10_isRule lk_X10_128 rfl rfl (Nat.le_of_ble_eq_true rfl) ⟨Nat.le_of_ble_eq_true rfl, Nat.le_of_ble_eq_true rfl⟩ (fun r1 w2 => ?_)
  refine rv_if_eq (tgt := 18) h 4 dX10_strategy_4 (by decide) (fun _ => ?_) (fun _ => ?_)
  · refine rv_ldc h 18 dX10_strategy_18 rv_kc_X10_75 ?_
    exact rv_reti hr 20 dX10_strategy_20
  refine rv_aload_n h 7 dX10_strategy_7 0 rfl ?_
  refine rv_getr h 8 dX10_strategy_8 rv_s0 rv_fd_X10_10 rfl ?_
  refine rv_iload_n h 11 dX10_strategy_11 2 rfl ?_
  refine rv_callVi h 12 dX10_strategy_12 (fn_X8_holds hJ 1 p2 (by decide) w2) ce_X8_holds lk_X10_72 rv_s1 rfl rv_cf6 rfl rfl (Nat.le_of_ble_eq_true rfl) ⟨Nat.le_of_ble_eq_true rfl, Nat.le_of_ble_eq_true rfl⟩ (fun r3 w4 => ?_)
  refine rv_if_ne (tgt := 21) h 15 dX10_strategy_15 (by decide) (fun _ => ?_) (fun _ => ?_)
  · refine rv_ldc h 18 dX10_strategy_18 rv_kc_X10_75 ?_
    exact rv_reti hr 20 dX10_strategy_20
  refine rv_aload_n h 21 dX10_strategy_21 0 rfl ?_
  refine rv_iload_n h 22 dX10_strategy_22 1 rfl ?_
  refine rv_iload_n h 23 dX10_strategy_23 2 rfl ?_
  refine rv_callVi h 24 dX10_strategy_24 (fn_X10_bestStrategy hJ p1 p2  w4) ce_X10_bestStrategy lk_X10_228 rv_s0 rfl rv_cf8 rfl rfl (Nat.le_of_ble_eq_true rfl) ⟨Nat.le_of_ble_eq_true rfl, Nat.le_of_ble_eq_true rfl⟩ (fun r5 w6 => ?_)
  refine rv_istore_n (lv' := [(3, .int r5), (0, .ref (ad 0)), (1, .int p1), (2, .int p2)]) h 27 dX10_strategy_27 (by decide) rfl ?_
  refine rv_iload_n h 28 dX10_strategy_28 0 rfl ?_
  refine rv_if_ne (tgt := 35) h 29 dX10_strategy_29 (by decide) (fun _ => ?_) (fun _ => ?_)
  · refine rv_ldc h 32 dX10_strategy_32 rv_kc_X10_227 ?_
    exact rv_reti hr 34 dX10_strategy_34
  refine rv_aload_n h 35 dX10_strategy_35 1 rfl ?_
  refine rv_getr h 36 dX10_strategy_36 rv_s0 rv_fd_X10_30 rfl ?_
  refine rv_iload_n h 39 dX10_strategy_39 3 rfl ?_
  refine rv_aload_n h 40 dX10_strategy_40 1 rfl ?_
  refine rv_getr h 41 dX10_strategy_41 rv_s0 rv_fd_X10_10 rfl ?_
  refine rv_iload_n h 44 dX10_strategy_44 3 rfl ?_
  refine rv_callVi h 45 dX10_strategy_45 (fn_X8_votersOf hJ 1 p2 (by decide) w6) ce_X8_votersOf lk_X10_80 rv_s1 rfl rv_cf6 rfl rfl (Nat.le_of_ble_eq_true rfl) ⟨Nat.le_of_ble_eq_true rfl, Nat.le_of_ble_eq_true rfl⟩ (fun r7 w8 => ?_)
  refine rv_iload_n h 48 dX10_strategy_48 0 rfl ?_
  refine rv_callVv h 49 dX10_strategy_49 (fn_X5_cast hJ p2 r7 r5  w8) ce_X5_cast lk_X10_231 rv_s24 rfl rv_cf3 rfl rfl (Nat.le_of_ble_eq_true rfl) ⟨Nat.le_of_ble_eq_true rfl, Nat.le_of_ble_eq_true rfl⟩ (fun r9 w10 => ?_)
  refine rv_aload_n h 52 dX10_strategy_52 1 rfl ?_
  refine rv_getr h 53 dX10_strategy_53 rv_s0 rv_fd_X10_37 rfl ?_
  refine rv_iload_n h 56 dX10_strategy_56 2 rfl ?_
  refine rv_aload_n h 57 dX10_strategy_57 1 rfl ?_
  refine rv_getr h 58 dX10_strategy_58 rv_s0 rv_fd_X10_30 rfl ?_
  refine rv_callVi h 61 dX10_strategy_61 (fn_X7_winnerBy hJ p1  w10) ce_X7_winnerBy lk_X10_135 rv_s53 rfl rv_cf5 rfl rfl (Nat.le_of_ble_eq_true rfl) ⟨Nat.le_of_ble_eq_true rfl, Nat.le_of_ble_eq_true rfl⟩ (fun r11 w12 => ?_)
  exact rv_reti hr 64 dX10_strategy_64
def f_X10_strategyAt (p1 : Int32) (p2 : Int32) (p3 : Int32) (w : rv_W) : rv_R :=
  rv_bd (f_X10_isRule p1 w) (fun (r1 : Int32) (w2 : rv_W) =>
  if r1 = 0 then
  some ((-1000001 : Int32), w2)
  else
  rv_bd (f_X8_holds 1 p2 w2) (fun (r3 : Int32) (w4 : rv_W) =>
  if r3 = 0 then
  some ((-1000001 : Int32), w4)
  else
  rv_bd (f_X10_isPlace p3 w4) (fun (r5 : Int32) (w6 : rv_W) =>
  if r5 = 0 then
  some ((-1000001 : Int32), w6)
  else
  rv_bd (f_X10_bestStrategy p1 p2 w6) (fun (r7 : Int32) (w8 : rv_W) =>
  rv_bd (f_X0_at r7 p3 w8) (fun (r9 : Int32) (w10 : rv_W) =>
  rv_bd (f_X10_orNone r9 w10) (fun (r11 : Int32) (w12 : rv_W) =>
  some (r11, w12)))))))
set_option maxRecDepth 100000 in
set_option maxHeartbeats 4000000 in
theorem fn_X10_strategyAt {l : Launch} {D : va_G} {ad : Nat → Nat} {ca : Nat → ClassId} (hJ : rv_J ad) (p1 : Int32) (p2 : Int32) (p3 : Int32)  (w : rv_W) : rv_Fn l D ad ca yX10_strategyAt cX10_strategyAt 4 (some .int) 6 150 [.ref (ad 0), .int p1, .int p2, .int p3] w (f_X10_strategyAt p1 p2 p3 w) := by
  refine rv_mk (lv := [(0, .ref (ad 0)), (1, .int p1), (2, .int p2), (3, .int p3)]) hJ (by decide +kernel) (Nat.le_of_ble_eq_true rfl) rfl (fun K h hr => ?_)
  have h : rv_Rl D ad ca l RX10 cX10_strategyAt 4 6 150 K := h
  unfold f_X10_strategyAt
  refine rv_iload_n h 0 dX10_strategyAt_0 1 rfl ?_
  refine rv_callSi h 1 dX10_strategyAt_1 (fn_X10_isRule hJ p1  w) ce_X10_isRule lk_X10_128 rfl rfl (Nat.le_of_ble_eq_true rfl) ⟨Nat.le_of_ble_eq_true rfl, Nat.le_of_ble_eq_true rfl⟩ (fun r1 w2 => ?_)
  refine rv_if_eq (tgt := 26) h 4 dX10_strategyAt_4 (by decide) (fun _ => ?_) (fun _ => ?_)
  · refine rv_ldc h 26 dX10_strategyAt_26 rv_kc_X10_75 ?_
    exact rv_reti hr 28 dX10_strategyAt_28
  refine rv_aload_n h 7 dX10_strategyAt_7 0 rfl ?_
  refine rv_getr h 8 dX10_strategyAt_8 rv_s0 rv_fd_X10_10 rfl ?_
  refine rv_iload_n h 11 dX10_strategyAt_11 2 rfl ?_
  refine rv_callVi h 12 dX10_strategyAt_12 (fn_X8_holds hJ 1 p2 (by decide) w2) ce_X8_holds lk_X10_72 rv_s1 rfl rv_cf6 rfl rfl (Nat.le_of_ble_eq_true rfl) ⟨Nat.le_of_ble_eq_true rfl, Nat.le_of_ble_eq_true rfl⟩ (fun r3 w4 => ?_)
  refine rv_if_eq (tgt := 26) h 15 dX10_strategyAt_15 (by decide) (fun _ => ?_) (fun _ => ?_)
  · refine rv_ldc h 26 dX10_strategyAt_26 rv_kc_X10_75 ?_
    exact rv_reti hr 28 dX10_strategyAt_28
  refine rv_aload_n h 18 dX10_strategyAt_18 0 rfl ?_
  refine rv_iload_n h 19 dX10_strategyAt_19 3 rfl ?_
  refine rv_callVi h 20 dX10_strategyAt_20 (fn_X10_isPlace hJ p3  w4) ce_X10_isPlace lk_X10_220 rv_s0 rfl rv_cf8 rfl rfl (Nat.le_of_ble_eq_true rfl) ⟨Nat.le_of_ble_eq_true rfl, Nat.le_of_ble_eq_true rfl⟩ (fun r5 w6 => ?_)
  refine rv_if_ne (tgt := 29) h 23 dX10_strategyAt_23 (by decide) (fun _ => ?_) (fun _ => ?_)
  · refine rv_ldc h 26 dX10_strategyAt_26 rv_kc_X10_75 ?_
    exact rv_reti hr 28 dX10_strategyAt_28
  refine rv_aload_n h 29 dX10_strategyAt_29 0 rfl ?_
  refine rv_iload_n h 30 dX10_strategyAt_30 1 rfl ?_
  refine rv_iload_n h 31 dX10_strategyAt_31 2 rfl ?_
  refine rv_callVi h 32 dX10_strategyAt_32 (fn_X10_bestStrategy hJ p1 p2  w6) ce_X10_bestStrategy lk_X10_228 rv_s0 rfl rv_cf8 rfl rfl (Nat.le_of_ble_eq_true rfl) ⟨Nat.le_of_ble_eq_true rfl, Nat.le_of_ble_eq_true rfl⟩ (fun r7 w8 => ?_)
  refine rv_iload_n h 35 dX10_strategyAt_35 3 rfl ?_
  refine rv_callSi h 36 dX10_strategyAt_36 (fn_X0_at hJ r7 p3  w8) ce_X0_at lk_X10_234 rfl rfl (Nat.le_of_ble_eq_true rfl) ⟨Nat.le_of_ble_eq_true rfl, Nat.le_of_ble_eq_true rfl⟩ (fun r9 w10 => ?_)
  refine rv_callSi h 39 dX10_strategyAt_39 (fn_X10_orNone hJ r9  w10) ce_X10_orNone lk_X10_164 rfl rfl (Nat.le_of_ble_eq_true rfl) ⟨Nat.le_of_ble_eq_true rfl, Nat.le_of_ble_eq_true rfl⟩ (fun r11 w12 => ?_)
  exact rv_reti hr 42 dX10_strategyAt_42
def f_X10_strategists (p1 : Int32) (w : rv_W) : rv_R :=
  rv_bd (f_X10_isRule p1 w) (fun (r1 : Int32) (w2 : rv_W) =>
  if r1 = 0 then
  some ((-1000001 : Int32), w2)
  else
  rv_fx (fun _ _ _ => none) (fun (ag3 : Int32 → Int32 → rv_W → rv_R) (v5 : Int32) (v6 : Int32) (w7 : rv_W) =>
  if v6 < (w7 1 1) then
  rv_bd (f_X10_bestStrategy p1 v6 w7) (fun (r8 : Int32) (w9 : rv_W) =>
  if r8 = 0 then
  rv_lt (v6 + (1 : Int32)) (fun (v10 : Int32) =>
  ag3 v5 v10 w9)
  else
  rv_lt ((v5 ||| ((1 : Int32) <<< (v6 &&& 31)))) (fun (v11 : Int32) =>
  rv_lt (v6 + (1 : Int32)) (fun (v12 : Int32) =>
  ag3 v11 v12 w9)))
  else
  some (v5, w7)) rv_FU (0 : Int32) (0 : Int32) w2)
set_option maxRecDepth 100000 in
set_option maxHeartbeats 4000000 in
theorem fn_X10_strategists {l : Launch} {D : va_G} {ad : Nat → Nat} {ca : Nat → ClassId} (hJ : rv_J ad) (p1 : Int32)  (w : rv_W) : rv_Fn l D ad ca yX10_strategists cX10_strategists 4 (some .int) 6 150 [.ref (ad 0), .int p1] w (f_X10_strategists p1 w) := by
  refine rv_mk (lv := [(0, .ref (ad 0)), (1, .int p1)]) hJ (by decide +kernel) (Nat.le_of_ble_eq_true rfl) rfl (fun K h hr => ?_)
  have h : rv_Rl D ad ca l RX10 cX10_strategists 4 6 150 K := h
  unfold f_X10_strategists
  refine rv_iload_n h 0 dX10_strategists_0 1 rfl ?_
  refine rv_callSi h 1 dX10_strategists_1 (fn_X10_isRule hJ p1  w) ce_X10_isRule lk_X10_128 rfl rfl (Nat.le_of_ble_eq_true rfl) ⟨Nat.le_of_ble_eq_true rfl, Nat.le_of_ble_eq_true rfl⟩ (fun r1 w2 => ?_)
  refine rv_if_ne (tgt := 10) h 4 dX10_strategists_4 (by decide) (fun _ => ?_) (fun _ => ?_)
  · refine rv_ldc h 7 dX10_strategists_7 rv_kc_X10_75 ?_
    exact rv_reti hr 9 dX10_strategists_9
  refine rv_iconst h 10 dX10_strategists_10 rv_c0 ?_
  refine rv_istore_n (lv' := [(2, .int (0 : Int32)), (0, .ref (ad 0)), (1, .int p1)]) h 11 dX10_strategists_11 (by decide) rfl ?_
  refine rv_iconst h 12 dX10_strategists_12 rv_c0 ?_
  refine rv_istore_n (lv' := [(3, .int (0 : Int32)), (2, .int (0 : Int32)), (0, .ref (ad 0)), (1, .int p1)]) h 13 dX10_strategists_13 (by decide) rfl ?_
  refine rv_sub h [2, 3, 1, 0] rfl ?_
  refine rv_fx_ind (fun (a0 : Int32 → Int32 → rv_W → rv_R) => ∀ (v5 : Int32) (v6 : Int32) (w7 : rv_W), K 14 [(0, .ref (ad 0)), (1, .int p1), (2, .int v5), (3, .int v6)] [] w7 (a0 v5 v6 w7)) (fun _ _ _ => rv_none h) (fun ag3 ih4 v5 v6 w7 => ?_) rv_FU (0 : Int32) (0 : Int32) w2
  refine rv_iload_n h 14 dX10_strategists_14 3 rfl ?_
  refine rv_aload_n h 15 dX10_strategists_15 0 rfl ?_
  refine rv_getr h 16 dX10_strategists_16 rv_s0 rv_fd_X10_10 rfl ?_
  refine rv_geti h 19 dX10_strategists_19 rv_s1 rv_fd_X10_68 rfl ?_
  refine rv_icmp_ge (tgt := 46) h 22 dX10_strategists_22 (by decide) (fun _ => ?_) (fun _ => ?_)
  rotate_left
  · refine rv_iload_n h 46 dX10_strategists_46 2 rfl ?_
    exact rv_reti hr 47 dX10_strategists_47
  refine rv_aload_n h 25 dX10_strategists_25 0 rfl ?_
  refine rv_iload_n h 26 dX10_strategists_26 1 rfl ?_
  refine rv_iload_n h 27 dX10_strategists_27 3 rfl ?_
  refine rv_callVi h 28 dX10_strategists_28 (fn_X10_bestStrategy hJ p1 v6  w7) ce_X10_bestStrategy lk_X10_228 rv_s0 rfl rv_cf8 rfl rfl (Nat.le_of_ble_eq_true rfl) ⟨Nat.le_of_ble_eq_true rfl, Nat.le_of_ble_eq_true rfl⟩ (fun r8 w9 => ?_)
  refine rv_if_eq (tgt := 40) h 31 dX10_strategists_31 (by decide) (fun _ => ?_) (fun _ => ?_)
  · refine rv_iinc h 40 (fun v10 => [(3, .int v10), (0, .ref (ad 0)), (1, .int p1), (2, .int v5)]) dX10_strategists_40 3 rfl rv_c1 (by decide) (fun _ => rfl) (fun v10 => ?_)
    refine rv_goto (tgt := 14) h 43 dX10_strategists_43 (by decide) ?_
    refine rv_sub h [1, 2, 3, 0] rfl ?_
    exact ih4 v5 v10 w9
  refine rv_iload_n h 34 dX10_strategists_34 2 rfl ?_
  refine rv_iconst h 35 dX10_strategists_35 rv_c1 ?_
  refine rv_iload_n h 36 dX10_strategists_36 3 rfl ?_
  refine rv_ishl h 37 dX10_strategists_37 ?_
  refine rv_ior h 38 dX10_strategists_38 ?_
  refine rv_top (fun v11 => ?_)
  refine rv_istore_n (lv' := [(2, .int v11), (0, .ref (ad 0)), (1, .int p1), (3, .int v6)]) h 39 dX10_strategists_39 (by decide) rfl ?_
  refine rv_iinc h 40 (fun v12 => [(3, .int v12), (2, .int v11), (0, .ref (ad 0)), (1, .int p1)]) dX10_strategists_40 3 rfl rv_c1 (by decide) (fun _ => rfl) (fun v12 => ?_)
  refine rv_goto (tgt := 14) h 43 dX10_strategists_43 (by decide) ?_
  refine rv_sub h [2, 3, 1, 0] rfl ?_
  exact ih4 v11 v12 w9
def f_X10_winnerWith (p1 : Int32) (p2 : Int32) (p3 : Int32) (p4 : Int32) (w : rv_W) : rv_R :=
  rv_bd (f_X5_cast p2 p3 p4 w) (fun (r1 : Int32) (w2 : rv_W) =>
  rv_bd (f_X7_winnerBy p1 w2) (fun (r3 : Int32) (w4 : rv_W) =>
  rv_bd (f_X8_votersOf 1 p2 w4) (fun (r5 : Int32) (w6 : rv_W) =>
  rv_bd (f_X8_ballotOf 1 p2 w6) (fun (r7 : Int32) (w8 : rv_W) =>
  rv_bd (f_X5_cast p2 r5 r7 w8) (fun (r9 : Int32) (w10 : rv_W) =>
  some (r3, w10))))))
set_option maxRecDepth 100000 in
set_option maxHeartbeats 4000000 in
theorem fn_X10_winnerWith {l : Launch} {D : va_G} {ad : Nat → Nat} {ca : Nat → ClassId} (hJ : rv_J ad) (p1 : Int32) (p2 : Int32) (p3 : Int32) (p4 : Int32)  (w : rv_W) : rv_Fn l D ad ca yX10_winnerWith cX10_winnerWith 6 (some .int) 5 119 [.ref (ad 0), .int p1, .int p2, .int p3, .int p4] w (f_X10_winnerWith p1 p2 p3 p4 w) := by
  refine rv_mk (lv := [(0, .ref (ad 0)), (1, .int p1), (2, .int p2), (3, .int p3), (4, .int p4)]) hJ (by decide +kernel) (Nat.le_of_ble_eq_true rfl) rfl (fun K h hr => ?_)
  have h : rv_Rl D ad ca l RX10 cX10_winnerWith 6 5 119 K := h
  unfold f_X10_winnerWith
  refine rv_aload_n h 0 dX10_winnerWith_0 0 rfl ?_
  refine rv_getr h 1 dX10_winnerWith_1 rv_s0 rv_fd_X10_30 rfl ?_
  refine rv_iload_n h 4 dX10_winnerWith_4 2 rfl ?_
  refine rv_iload_n h 5 dX10_winnerWith_5 3 rfl ?_
  refine rv_iload h 6 dX10_winnerWith_6 4 rfl ?_
  refine rv_callVv h 8 dX10_winnerWith_8 (fn_X5_cast hJ p2 p3 p4  w) ce_X5_cast lk_X10_231 rv_s24 rfl rv_cf3 rfl rfl (Nat.le_of_ble_eq_true rfl) ⟨Nat.le_of_ble_eq_true rfl, Nat.le_of_ble_eq_true rfl⟩ (fun r1 w2 => ?_)
  refine rv_aload_n h 11 dX10_winnerWith_11 0 rfl ?_
  refine rv_getr h 12 dX10_winnerWith_12 rv_s0 rv_fd_X10_37 rfl ?_
  refine rv_iload_n h 15 dX10_winnerWith_15 1 rfl ?_
  refine rv_aload_n h 16 dX10_winnerWith_16 0 rfl ?_
  refine rv_getr h 17 dX10_winnerWith_17 rv_s0 rv_fd_X10_30 rfl ?_
  refine rv_callVi h 20 dX10_winnerWith_20 (fn_X7_winnerBy hJ p1  w2) ce_X7_winnerBy lk_X10_135 rv_s53 rfl rv_cf5 rfl rfl (Nat.le_of_ble_eq_true rfl) ⟨Nat.le_of_ble_eq_true rfl, Nat.le_of_ble_eq_true rfl⟩ (fun r3 w4 => ?_)
  refine rv_istore (lv' := [(5, .int r3), (0, .ref (ad 0)), (1, .int p1), (2, .int p2), (3, .int p3), (4, .int p4)]) h 23 dX10_winnerWith_23 (by decide) rfl ?_
  refine rv_aload_n h 25 dX10_winnerWith_25 1 rfl ?_
  refine rv_getr h 26 dX10_winnerWith_26 rv_s0 rv_fd_X10_30 rfl ?_
  refine rv_iload_n h 29 dX10_winnerWith_29 3 rfl ?_
  refine rv_aload_n h 30 dX10_winnerWith_30 1 rfl ?_
  refine rv_getr h 31 dX10_winnerWith_31 rv_s0 rv_fd_X10_10 rfl ?_
  refine rv_iload_n h 34 dX10_winnerWith_34 3 rfl ?_
  refine rv_callVi h 35 dX10_winnerWith_35 (fn_X8_votersOf hJ 1 p2 (by decide) w4) ce_X8_votersOf lk_X10_80 rv_s1 rfl rv_cf6 rfl rfl (Nat.le_of_ble_eq_true rfl) ⟨Nat.le_of_ble_eq_true rfl, Nat.le_of_ble_eq_true rfl⟩ (fun r5 w6 => ?_)
  refine rv_aload_n h 38 dX10_winnerWith_38 1 rfl ?_
  refine rv_getr h 39 dX10_winnerWith_39 rv_s0 rv_fd_X10_10 rfl ?_
  refine rv_iload_n h 42 dX10_winnerWith_42 3 rfl ?_
  refine rv_callVi h 43 dX10_winnerWith_43 (fn_X8_ballotOf hJ 1 p2 (by decide) w6) ce_X8_ballotOf lk_X10_83 rv_s1 rfl rv_cf6 rfl rfl (Nat.le_of_ble_eq_true rfl) ⟨Nat.le_of_ble_eq_true rfl, Nat.le_of_ble_eq_true rfl⟩ (fun r7 w8 => ?_)
  refine rv_callVv h 46 dX10_winnerWith_46 (fn_X5_cast hJ p2 r5 r7  w8) ce_X5_cast lk_X10_231 rv_s24 rfl rv_cf3 rfl rfl (Nat.le_of_ble_eq_true rfl) ⟨Nat.le_of_ble_eq_true rfl, Nat.le_of_ble_eq_true rfl⟩ (fun r9 w10 => ?_)
  refine rv_iload h 49 dX10_winnerWith_49 0 rfl ?_
  exact rv_reti hr 51 dX10_winnerWith_51
def f_X10_absentees (p1 : Int32) (w : rv_W) : rv_R :=
  rv_bd (f_X10_isRule p1 w) (fun (r1 : Int32) (w2 : rv_W) =>
  if r1 = 0 then
  some ((-1000001 : Int32), w2)
  else
  rv_bd (f_X10_castAll  w2) (fun (r3 : Int32) (w4 : rv_W) =>
  rv_bd (f_X7_winnerBy p1 w4) (fun (r5 : Int32) (w6 : rv_W) =>
  rv_fx (fun _ _ _ => none) (fun (ag7 : Int32 → Int32 → rv_W → rv_R) (v9 : Int32) (v10 : Int32) (w11 : rv_W) =>
  if v10 < (w11 1 1) then
  rv_bd (f_X10_winnerWith p1 v10 (0 : Int32) (0 : Int32) w11) (fun (r12 : Int32) (w13 : rv_W) =>
  rv_bd (f_X8_ballotOf 1 v10 w13) (fun (r14 : Int32) (w15 : rv_W) =>
  rv_bd (f_X0_prefers r14 r12 r5 w15) (fun (r16 : Int32) (w17 : rv_W) =>
  if r16 = 0 then
  rv_lt (v10 + (1 : Int32)) (fun (v18 : Int32) =>
  ag7 v9 v18 w17)
  else
  rv_lt ((v9 ||| ((1 : Int32) <<< (v10 &&& 31)))) (fun (v19 : Int32) =>
  rv_lt (v10 + (1 : Int32)) (fun (v20 : Int32) =>
  ag7 v19 v20 w17)))))
  else
  some (v9, w11)) rv_FU (0 : Int32) (0 : Int32) w6)))
set_option maxRecDepth 100000 in
set_option maxHeartbeats 4000000 in
theorem fn_X10_absentees {l : Launch} {D : va_G} {ad : Nat → Nat} {ca : Nat → ClassId} (hJ : rv_J ad) (p1 : Int32)  (w : rv_W) : rv_Fn l D ad ca yX10_absentees cX10_absentees 6 (some .int) 6 144 [.ref (ad 0), .int p1] w (f_X10_absentees p1 w) := by
  refine rv_mk (lv := [(0, .ref (ad 0)), (1, .int p1)]) hJ (by decide +kernel) (Nat.le_of_ble_eq_true rfl) rfl (fun K h hr => ?_)
  have h : rv_Rl D ad ca l RX10 cX10_absentees 6 6 144 K := h
  unfold f_X10_absentees
  refine rv_iload_n h 0 dX10_absentees_0 1 rfl ?_
  refine rv_callSi h 1 dX10_absentees_1 (fn_X10_isRule hJ p1  w) ce_X10_isRule lk_X10_128 rfl rfl (Nat.le_of_ble_eq_true rfl) ⟨Nat.le_of_ble_eq_true rfl, Nat.le_of_ble_eq_true rfl⟩ (fun r1 w2 => ?_)
  refine rv_if_ne (tgt := 10) h 4 dX10_absentees_4 (by decide) (fun _ => ?_) (fun _ => ?_)
  · refine rv_ldc h 7 dX10_absentees_7 rv_kc_X10_75 ?_
    exact rv_reti hr 9 dX10_absentees_9
  refine rv_aload_n h 10 dX10_absentees_10 0 rfl ?_
  refine rv_callVv h 11 dX10_absentees_11 (fn_X10_castAll hJ   w2) ce_X10_castAll lk_X10_122 rv_s0 rfl rv_cf8 rfl rfl (Nat.le_of_ble_eq_true rfl) ⟨Nat.le_of_ble_eq_true rfl, Nat.le_of_ble_eq_true rfl⟩ (fun r3 w4 => ?_)
  refine rv_aload_n h 14 dX10_absentees_14 0 rfl ?_
  refine rv_getr h 15 dX10_absentees_15 rv_s0 rv_fd_X10_37 rfl ?_
  refine rv_iload_n h 18 dX10_absentees_18 1 rfl ?_
  refine rv_aload_n h 19 dX10_absentees_19 0 rfl ?_
  refine rv_getr h 20 dX10_absentees_20 rv_s0 rv_fd_X10_30 rfl ?_
  refine rv_callVi h 23 dX10_absentees_23 (fn_X7_winnerBy hJ p1  w4) ce_X7_winnerBy lk_X10_135 rv_s53 rfl rv_cf5 rfl rfl (Nat.le_of_ble_eq_true rfl) ⟨Nat.le_of_ble_eq_true rfl, Nat.le_of_ble_eq_true rfl⟩ (fun r5 w6 => ?_)
  refine rv_istore_n (lv' := [(2, .int r5), (0, .ref (ad 0)), (1, .int p1)]) h 26 dX10_absentees_26 (by decide) rfl ?_
  refine rv_iconst h 27 dX10_absentees_27 rv_c0 ?_
  refine rv_istore_n (lv' := [(3, .int (0 : Int32)), (2, .int r5), (0, .ref (ad 0)), (1, .int p1)]) h 28 dX10_absentees_28 (by decide) rfl ?_
  refine rv_iconst h 29 dX10_absentees_29 rv_c0 ?_
  refine rv_istore (lv' := [(4, .int (0 : Int32)), (3, .int (0 : Int32)), (2, .int r5), (0, .ref (ad 0)), (1, .int p1)]) h 30 dX10_absentees_30 (by decide) rfl ?_
  refine rv_sub h [3, 4, 2, 1, 0] rfl ?_
  refine rv_fx_ind (fun (a0 : Int32 → Int32 → rv_W → rv_R) => ∀ (v9 : Int32) (v10 : Int32) (w11 : rv_W), K 32 [(0, .ref (ad 0)), (1, .int p1), (2, .int r5), (3, .int v9), (4, .int v10)] [] w11 (a0 v9 v10 w11)) (fun _ _ _ => rv_none h) (fun ag7 ih8 v9 v10 w11 => ?_) rv_FU (0 : Int32) (0 : Int32) w6
  refine rv_iload h 32 dX10_absentees_32 4 rfl ?_
  refine rv_aload_n h 34 dX10_absentees_34 0 rfl ?_
  refine rv_getr h 35 dX10_absentees_35 rv_s0 rv_fd_X10_10 rfl ?_
  refine rv_geti h 38 dX10_absentees_38 rv_s1 rv_fd_X10_68 rfl ?_
  refine rv_icmp_ge (tgt := 86) h 41 dX10_absentees_41 (by decide) (fun _ => ?_) (fun _ => ?_)
  rotate_left
  · refine rv_iload_n h 86 dX10_absentees_86 3 rfl ?_
    exact rv_reti hr 87 dX10_absentees_87
  refine rv_aload_n h 44 dX10_absentees_44 0 rfl ?_
  refine rv_iload_n h 45 dX10_absentees_45 1 rfl ?_
  refine rv_iload h 46 dX10_absentees_46 4 rfl ?_
  refine rv_iconst h 48 dX10_absentees_48 rv_c0 ?_
  refine rv_iconst h 49 dX10_absentees_49 rv_c0 ?_
  refine rv_callVi h 50 dX10_absentees_50 (fn_X10_winnerWith hJ p1 v10 (0 : Int32) (0 : Int32)  w11) ce_X10_winnerWith lk_X10_237 rv_s0 rfl rv_cf8 rfl rfl (Nat.le_of_ble_eq_true rfl) ⟨Nat.le_of_ble_eq_true rfl, Nat.le_of_ble_eq_true rfl⟩ (fun r12 w13 => ?_)
  refine rv_istore (lv' := [(5, .int r12), (0, .ref (ad 0)), (1, .int p1), (2, .int r5), (3, .int v9), (4, .int v10)]) h 53 dX10_absentees_53 (by decide) rfl ?_
  refine rv_aload_n h 55 dX10_absentees_55 1 rfl ?_
  refine rv_getr h 56 dX10_absentees_56 rv_s0 rv_fd_X10_10 rfl ?_
  refine rv_iload h 59 dX10_absentees_59 5 rfl ?_
  refine rv_callVi h 61 dX10_absentees_61 (fn_X8_ballotOf hJ 1 v10 (by decide) w13) ce_X8_ballotOf lk_X10_83 rv_s1 rfl rv_cf6 rfl rfl (Nat.le_of_ble_eq_true rfl) ⟨Nat.le_of_ble_eq_true rfl, Nat.le_of_ble_eq_true rfl⟩ (fun r14 w15 => ?_)
  refine rv_iload h 64 dX10_absentees_64 0 rfl ?_
  refine rv_iload_n h 66 dX10_absentees_66 3 rfl ?_
  refine rv_callSi h 67 dX10_absentees_67 (fn_X0_prefers hJ r14 r12 r5  w15) ce_X0_prefers lk_X10_241 rfl rfl (Nat.le_of_ble_eq_true rfl) ⟨Nat.le_of_ble_eq_true rfl, Nat.le_of_ble_eq_true rfl⟩ (fun r16 w17 => ?_)
  refine rv_if_eq (tgt := 80) h 70 dX10_absentees_70 (by decide) (fun _ => ?_) (fun _ => ?_)
  · refine rv_iinc h 80 (fun v18 => [(4, .int v18), (5, .int r12), (0, .ref (ad 0)), (1, .int p1), (2, .int r5), (3, .int v9)]) dX10_absentees_80 5 rfl rv_c1 (by decide) (fun _ => rfl) (fun v18 => ?_)
    refine rv_goto (tgt := 32) h 83 dX10_absentees_83 (by decide) ?_
    refine rv_sub h [2, 3, 4, 5, 0] rfl ?_
    exact ih8 v9 v18 w17
  refine rv_iload_n h 73 dX10_absentees_73 4 rfl ?_
  refine rv_iconst h 74 dX10_absentees_74 rv_c1 ?_
  refine rv_iload h 75 dX10_absentees_75 5 rfl ?_
  refine rv_ishl h 77 dX10_absentees_77 ?_
  refine rv_ior h 78 dX10_absentees_78 ?_
  refine rv_top (fun v19 => ?_)
  refine rv_istore_n (lv' := [(3, .int v19), (5, .int r12), (0, .ref (ad 0)), (1, .int p1), (2, .int r5), (4, .int v10)]) h 79 dX10_absentees_79 (by decide) rfl ?_
  refine rv_iinc h 80 (fun v20 => [(4, .int v20), (3, .int v19), (5, .int r12), (0, .ref (ad 0)), (1, .int p1), (2, .int r5)]) dX10_absentees_80 5 rfl rv_c1 (by decide) (fun _ => rfl) (fun v20 => ?_)
  refine rv_goto (tgt := 32) h 83 dX10_absentees_83 (by decide) ?_
  refine rv_sub h [3, 4, 5, 1, 0] rfl ?_
  exact ih8 v19 v20 w17
def f_X10_raisers (p1 : Int32) (w : rv_W) : rv_R :=
  rv_bd (f_X10_isRule p1 w) (fun (r1 : Int32) (w2 : rv_W) =>
  if r1 = 0 then
  some ((-1000001 : Int32), w2)
  else
  rv_bd (f_X10_castAll  w2) (fun (r3 : Int32) (w4 : rv_W) =>
  rv_bd (f_X7_winnerBy p1 w4) (fun (r5 : Int32) (w6 : rv_W) =>
  rv_fx (fun _ _ _ => none) (fun (ag7 : Int32 → Int32 → rv_W → rv_R) (v9 : Int32) (v10 : Int32) (w11 : rv_W) =>
  if v10 < (w11 1 1) then
  rv_bd (f_X8_ballotOf 1 v10 w11) (fun (r12 : Int32) (w13 : rv_W) =>
  rv_bd (f_X0_within r12 (w13 1 0) w13) (fun (r14 : Int32) (w15 : rv_W) =>
  rv_bd (f_X0_placeOf r14 r5 w15) (fun (r16 : Int32) (w17 : rv_W) =>
  if r16 < (1 : Int32) then
  rv_lt (v10 + (1 : Int32)) (fun (v27 : Int32) =>
  ag7 v9 v27 w17)
  else
  rv_bd (f_X0_exchanged r14 (r16 - (1 : Int32)) w17) (fun (r18 : Int32) (w19 : rv_W) =>
  rv_bd (f_X8_votersOf 1 v10 w19) (fun (r20 : Int32) (w21 : rv_W) =>
  rv_bd (f_X10_winnerWith p1 v10 r20 r18 w21) (fun (r22 : Int32) (w23 : rv_W) =>
  if r22 = r5 then
  rv_lt (v10 + (1 : Int32)) (fun (v24 : Int32) =>
  ag7 v9 v24 w23)
  else
  rv_lt ((v9 ||| ((1 : Int32) <<< (v10 &&& 31)))) (fun (v25 : Int32) =>
  rv_lt (v10 + (1 : Int32)) (fun (v26 : Int32) =>
  ag7 v25 v26 w23))))))))
  else
  some (v9, w11)) rv_FU (0 : Int32) (0 : Int32) w6)))
set_option maxRecDepth 100000 in
set_option maxHeartbeats 4000000 in
theorem fn_X10_raisers {l : Launch} {D : va_G} {ad : Nat → Nat} {ca : Nat → ClassId} (hJ : rv_J ad) (p1 : Int32)  (w : rv_W) : rv_Fn l D ad ca yX10_raisers cX10_raisers 8 (some .int) 6 144 [.ref (ad 0), .int p1] w (f_X10_raisers p1 w) := by
  refine rv_mk (lv := [(0, .ref (ad 0)), (1, .int p1)]) hJ (by decide +kernel) (Nat.le_of_ble_eq_true rfl) rfl (fun K h hr => ?_)
  have h : rv_Rl D ad ca l RX10 cX10_raisers 8 6 144 K := h
  unfold f_X10_raisers
  refine rv_iload_n h 0 dX10_raisers_0 1 rfl ?_
  refine rv_callSi h 1 dX10_raisers_1 (fn_X10_isRule hJ p1  w) ce_X10_isRule lk_X10_128 rfl rfl (Nat.le_of_ble_eq_true rfl) ⟨Nat.le_of_ble_eq_true rfl, Nat.le_of_ble_eq_true rfl⟩ (fun r1 w2 => ?_)
  refine rv_if_ne (tgt := 10) h 4 dX10_raisers_4 (by decide) (fun _ => ?_) (fun _ => ?_)
  · refine rv_ldc h 7 dX10_raisers_7 rv_kc_X10_75 ?_
    exact rv_reti hr 9 dX10_raisers_9
  refine rv_aload_n h 10 dX10_raisers_10 0 rfl ?_
  refine rv_callVv h 11 dX10_raisers_11 (fn_X10_castAll hJ   w2) ce_X10_castAll lk_X10_122 rv_s0 rfl rv_cf8 rfl rfl (Nat.le_of_ble_eq_true rfl) ⟨Nat.le_of_ble_eq_true rfl, Nat.le_of_ble_eq_true rfl⟩ (fun r3 w4 => ?_)
  refine rv_aload_n h 14 dX10_raisers_14 0 rfl ?_
  refine rv_getr h 15 dX10_raisers_15 rv_s0 rv_fd_X10_37 rfl ?_
  refine rv_iload_n h 18 dX10_raisers_18 1 rfl ?_
  refine rv_aload_n h 19 dX10_raisers_19 0 rfl ?_
  refine rv_getr h 20 dX10_raisers_20 rv_s0 rv_fd_X10_30 rfl ?_
  refine rv_callVi h 23 dX10_raisers_23 (fn_X7_winnerBy hJ p1  w4) ce_X7_winnerBy lk_X10_135 rv_s53 rfl rv_cf5 rfl rfl (Nat.le_of_ble_eq_true rfl) ⟨Nat.le_of_ble_eq_true rfl, Nat.le_of_ble_eq_true rfl⟩ (fun r5 w6 => ?_)
  refine rv_istore_n (lv' := [(2, .int r5), (0, .ref (ad 0)), (1, .int p1)]) h 26 dX10_raisers_26 (by decide) rfl ?_
  refine rv_iconst h 27 dX10_raisers_27 rv_c0 ?_
  refine rv_istore_n (lv' := [(3, .int (0 : Int32)), (2, .int r5), (0, .ref (ad 0)), (1, .int p1)]) h 28 dX10_raisers_28 (by decide) rfl ?_
  refine rv_iconst h 29 dX10_raisers_29 rv_c0 ?_
  refine rv_istore (lv' := [(4, .int (0 : Int32)), (3, .int (0 : Int32)), (2, .int r5), (0, .ref (ad 0)), (1, .int p1)]) h 30 dX10_raisers_30 (by decide) rfl ?_
  refine rv_sub h [3, 4, 2, 1, 0] rfl ?_
  refine rv_fx_ind (fun (a0 : Int32 → Int32 → rv_W → rv_R) => ∀ (v9 : Int32) (v10 : Int32) (w11 : rv_W), K 32 [(0, .ref (ad 0)), (1, .int p1), (2, .int r5), (3, .int v9), (4, .int v10)] [] w11 (a0 v9 v10 w11)) (fun _ _ _ => rv_none h) (fun ag7 ih8 v9 v10 w11 => ?_) rv_FU (0 : Int32) (0 : Int32) w6
  refine rv_iload h 32 dX10_raisers_32 4 rfl ?_
  refine rv_aload_n h 34 dX10_raisers_34 0 rfl ?_
  refine rv_getr h 35 dX10_raisers_35 rv_s0 rv_fd_X10_10 rfl ?_
  refine rv_geti h 38 dX10_raisers_38 rv_s1 rv_fd_X10_68 rfl ?_
  refine rv_icmp_ge (tgt := 128) h 41 dX10_raisers_41 (by decide) (fun _ => ?_) (fun _ => ?_)
  rotate_left
  · refine rv_iload_n h 128 dX10_raisers_128 3 rfl ?_
    exact rv_reti hr 129 dX10_raisers_129
  refine rv_aload_n h 44 dX10_raisers_44 0 rfl ?_
  refine rv_getr h 45 dX10_raisers_45 rv_s0 rv_fd_X10_10 rfl ?_
  refine rv_iload h 48 dX10_raisers_48 4 rfl ?_
  refine rv_callVi h 50 dX10_raisers_50 (fn_X8_ballotOf hJ 1 v10 (by decide) w11) ce_X8_ballotOf lk_X10_83 rv_s1 rfl rv_cf6 rfl rfl (Nat.le_of_ble_eq_true rfl) ⟨Nat.le_of_ble_eq_true rfl, Nat.le_of_ble_eq_true rfl⟩ (fun r12 w13 => ?_)
  refine rv_aload_n h 53 dX10_raisers_53 0 rfl ?_
  refine rv_getr h 54 dX10_raisers_54 rv_s0 rv_fd_X10_10 rfl ?_
  refine rv_geti h 57 dX10_raisers_57 rv_s1 rv_fd_X10_105 rfl ?_
  refine rv_callSi h 60 dX10_raisers_60 (fn_X0_within hJ r12 (w13 1 0)  w13) ce_X0_within lk_X10_245 rfl rfl (Nat.le_of_ble_eq_true rfl) ⟨Nat.le_of_ble_eq_true rfl, Nat.le_of_ble_eq_true rfl⟩ (fun r14 w15 => ?_)
  refine rv_istore (lv' := [(5, .int r14), (0, .ref (ad 0)), (1, .int p1), (2, .int r5), (3, .int v9), (4, .int v10)]) h 63 dX10_raisers_63 (by decide) rfl ?_
  refine rv_iload h 65 dX10_raisers_65 0 rfl ?_
  refine rv_iload_n h 67 dX10_raisers_67 3 rfl ?_
  refine rv_callSi h 68 dX10_raisers_68 (fn_X0_placeOf hJ r14 r5  w15) ce_X0_placeOf lk_X10_248 rfl rfl (Nat.le_of_ble_eq_true rfl) ⟨Nat.le_of_ble_eq_true rfl, Nat.le_of_ble_eq_true rfl⟩ (fun r16 w17 => ?_)
  refine rv_istore (lv' := [(6, .int r16), (5, .int r14), (0, .ref (ad 0)), (1, .int p1), (2, .int r5), (3, .int v9), (4, .int v10)]) h 71 dX10_raisers_71 (by decide) rfl ?_
  refine rv_iload h 73 dX10_raisers_73 0 rfl ?_
  refine rv_iconst h 75 dX10_raisers_75 rv_c1 ?_
  refine rv_icmp_ge (tgt := 82) h 76 dX10_raisers_76 (by decide) (fun _ => ?_) (fun _ => ?_)
  · refine rv_goto (tgt := 122) h 79 dX10_raisers_79 (by decide) ?_
    refine rv_iinc h 122 (fun v27 => [(4, .int v27), (6, .int r16), (5, .int r14), (0, .ref (ad 0)), (1, .int p1), (2, .int r5), (3, .int v9)]) dX10_raisers_122 6 rfl rv_c1 (by decide) (fun _ => rfl) (fun v27 => ?_)
    refine rv_goto (tgt := 32) h 125 dX10_raisers_125 (by decide) ?_
    refine rv_sub h [3, 4, 5, 6, 0] rfl ?_
    exact ih8 v9 v27 w17
  refine rv_iload h 82 dX10_raisers_82 1 rfl ?_
  refine rv_iload h 84 dX10_raisers_84 0 rfl ?_
  refine rv_iconst h 86 dX10_raisers_86 rv_c1 ?_
  refine rv_isub h 87 dX10_raisers_87 ?_
  refine rv_callSi h 88 dX10_raisers_88 (fn_X0_exchanged hJ r14 (r16 - (1 : Int32))  w17) ce_X0_exchanged lk_X10_93 rfl rfl (Nat.le_of_ble_eq_true rfl) ⟨Nat.le_of_ble_eq_true rfl, Nat.le_of_ble_eq_true rfl⟩ (fun r18 w19 => ?_)
  refine rv_istore (lv' := [(7, .int r18), (6, .int r16), (5, .int r14), (0, .ref (ad 0)), (1, .int p1), (2, .int r5), (3, .int v9), (4, .int v10)]) h 91 dX10_raisers_91 (by decide) rfl ?_
  refine rv_aload_n h 93 dX10_raisers_93 3 rfl ?_
  refine rv_iload_n h 94 dX10_raisers_94 4 rfl ?_
  refine rv_iload h 95 dX10_raisers_95 7 rfl ?_
  refine rv_aload_n h 97 dX10_raisers_97 3 rfl ?_
  refine rv_getr h 98 dX10_raisers_98 rv_s0 rv_fd_X10_10 rfl ?_
  refine rv_iload h 101 dX10_raisers_101 7 rfl ?_
  refine rv_callVi h 103 dX10_raisers_103 (fn_X8_votersOf hJ 1 v10 (by decide) w19) ce_X8_votersOf lk_X10_80 rv_s1 rfl rv_cf6 rfl rfl (Nat.le_of_ble_eq_true rfl) ⟨Nat.le_of_ble_eq_true rfl, Nat.le_of_ble_eq_true rfl⟩ (fun r20 w21 => ?_)
  refine rv_iload h 106 dX10_raisers_106 0 rfl ?_
  refine rv_callVi h 108 dX10_raisers_108 (fn_X10_winnerWith hJ p1 v10 r20 r18  w21) ce_X10_winnerWith lk_X10_237 rv_s0 rfl rv_cf8 rfl rfl (Nat.le_of_ble_eq_true rfl) ⟨Nat.le_of_ble_eq_true rfl, Nat.le_of_ble_eq_true rfl⟩ (fun r22 w23 => ?_)
  refine rv_iload_n h 111 dX10_raisers_111 5 rfl ?_
  refine rv_icmp_eq (tgt := 122) h 112 dX10_raisers_112 (by decide) (fun _ => ?_) (fun _ => ?_)
  · refine rv_iinc h 122 (fun v24 => [(4, .int v24), (7, .int r18), (6, .int r16), (5, .int r14), (0, .ref (ad 0)), (1, .int p1), (2, .int r5), (3, .int v9)]) dX10_raisers_122 7 rfl rv_c1 (by decide) (fun _ => rfl) (fun v24 => ?_)
    refine rv_goto (tgt := 32) h 125 dX10_raisers_125 (by decide) ?_
    refine rv_sub h [4, 5, 6, 7, 0] rfl ?_
    exact ih8 v9 v24 w23
  refine rv_iload_n h 115 dX10_raisers_115 6 rfl ?_
  refine rv_iconst h 116 dX10_raisers_116 rv_c1 ?_
  refine rv_iload h 117 dX10_raisers_117 7 rfl ?_
  refine rv_ishl h 119 dX10_raisers_119 ?_
  refine rv_ior h 120 dX10_raisers_120 ?_
  refine rv_top (fun v25 => ?_)
  refine rv_istore_n (lv' := [(3, .int v25), (7, .int r18), (6, .int r16), (5, .int r14), (0, .ref (ad 0)), (1, .int p1), (2, .int r5), (4, .int v10)]) h 121 dX10_raisers_121 (by decide) rfl ?_
  refine rv_iinc h 122 (fun v26 => [(4, .int v26), (3, .int v25), (7, .int r18), (6, .int r16), (5, .int r14), (0, .ref (ad 0)), (1, .int p1), (2, .int r5)]) dX10_raisers_122 7 rfl rv_c1 (by decide) (fun _ => rfl) (fun v26 => ?_)
  refine rv_goto (tgt := 32) h 125 dX10_raisers_125 (by decide) ?_
  refine rv_sub h [5, 6, 7, 1, 0] rfl ?_
  exact ih8 v25 v26 w23
