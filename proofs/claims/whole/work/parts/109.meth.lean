def f_X11_setStanding (p1 : Int32) (p2 : Int32) (w : rv_W) : rv_R :=
  rv_bd (f_X11_isCandidate p1 w) (fun (r1 : Int32) (w2 : rv_W) =>
  if r1 = 0 then
  some ((-1000001 : Int32), w2)
  else
  rv_bd (f_X11_saves  w2) (fun (r3 : Int32) (w4 : rv_W) =>
  rv_ck (1 : Int32) 852 (
  rv_lt ((((w4 79 (1 : Int32).toNatClampNeg) >>> (p1 &&& 31)) &&& (1 : Int32))) (fun (v5 : Int32) =>
  rv_ck (1 : Int32) 852 (
  rv_jn (fun (v6 : Int32) (w7 : rv_W) =>
  rv_ck (1 : Int32) 852 (rv_lt (rv_up w7 79 (1 : Int32).toNatClampNeg (((w4 79 (1 : Int32).toNatClampNeg) &&& (((1 : Int32) <<< (p1 &&& 31)) ^^^ (-1 : Int32))) ||| v6)) (fun (w10 : rv_W) =>
  some (v5, w10)))) (fun (k8 : Int32 → rv_W → rv_R) =>
  if p2 = 0 then
  k8 (0 : Int32) w4
  else
  k8 ((1 : Int32) <<< (p1 &&& 31)) w4))))))
set_option maxRecDepth 100000 in
set_option maxHeartbeats 4000000 in
theorem fn_X11_setStanding {l : Launch} {D : va_G} {ad : Nat → Nat} {ca : Nat → ClassId} (hJ : rv_J ad) (p1 : Int32) (p2 : Int32)  (w : rv_W) : rv_Fn l D ad ca yX11_setStanding cX11_setStanding 4 (some .int) 2 44 [.ref (ad 78), .int p1, .int p2] w (f_X11_setStanding p1 p2 w) := by
  refine rv_mk (lv := [(0, .ref (ad 78)), (1, .int p1), (2, .int p2)]) hJ (by decide +kernel) (Nat.le_of_ble_eq_true rfl) rfl (fun K h hr => ?_)
  have h : rv_Rl D ad ca l RX11 cX11_setStanding 4 2 44 K := h
  unfold f_X11_setStanding
  refine rv_iload_n h 0 dX11_setStanding_0 1 rfl ?_
  refine rv_callSi h 1 dX11_setStanding_1 (fn_X11_isCandidate hJ p1  w) ce_X11_isCandidate lk_X11_214 rfl rfl (Nat.le_of_ble_eq_true rfl) ⟨Nat.le_of_ble_eq_true rfl, Nat.le_of_ble_eq_true rfl⟩ (fun r1 w2 => ?_)
  refine rv_if_ne (tgt := 10) h 4 dX11_setStanding_4 (by decide) (fun _ => ?_) (fun _ => ?_)
  · refine rv_ldc h 7 dX11_setStanding_7 rv_kc_X11_236 ?_
    exact rv_reti hr 9 dX11_setStanding_9
  refine rv_aload_n h 10 dX11_setStanding_10 0 rfl ?_
  refine rv_callVv h 11 dX11_setStanding_11 (fn_X11_saves hJ   w2) ce_X11_saves lk_X11_227 rv_s78 rfl rv_cf9 rfl rfl (Nat.le_of_ble_eq_true rfl) ⟨Nat.le_of_ble_eq_true rfl, Nat.le_of_ble_eq_true rfl⟩ (fun r3 w4 => ?_)
  refine rv_aload_n h 14 dX11_setStanding_14 0 rfl ?_
  refine rv_getr h 15 dX11_setStanding_15 rv_s78 rv_fd_X11_7 rfl ?_
  refine rv_iconst h 18 dX11_setStanding_18 rv_c1 ?_
  refine rv_iald h 19 dX11_setStanding_19 rv_s79 ?_
  refine rv_iload_n h 20 dX11_setStanding_20 1 rfl ?_
  refine rv_ishr h 21 dX11_setStanding_21 ?_
  refine rv_iconst h 22 dX11_setStanding_22 rv_c1 ?_
  refine rv_iand h 23 dX11_setStanding_23 ?_
  refine rv_top (fun v5 => ?_)
  refine rv_istore_n (lv' := [(3, .int v5), (0, .ref (ad 78)), (1, .int p1), (2, .int p2)]) h 24 dX11_setStanding_24 (by decide) rfl ?_
  refine rv_aload_n h 25 dX11_setStanding_25 1 rfl ?_
  refine rv_getr h 26 dX11_setStanding_26 rv_s78 rv_fd_X11_7 rfl ?_
  refine rv_iconst h 29 dX11_setStanding_29 rv_c1 ?_
  refine rv_aload_n h 30 dX11_setStanding_30 1 rfl ?_
  refine rv_getr h 31 dX11_setStanding_31 rv_s78 rv_fd_X11_7 rfl ?_
  refine rv_iconst h 34 dX11_setStanding_34 rv_c1 ?_
  refine rv_iald h 35 dX11_setStanding_35 rv_s79 ?_
  refine rv_iconst h 36 dX11_setStanding_36 rv_c1 ?_
  refine rv_iload_n h 37 dX11_setStanding_37 2 rfl ?_
  refine rv_ishl h 38 dX11_setStanding_38 ?_
  refine rv_iconst h 39 dX11_setStanding_39 rv_cm1 ?_
  refine rv_ixor h 40 dX11_setStanding_40 ?_
  refine rv_iand h 41 dX11_setStanding_41 ?_
  refine rv_iload_n h 42 dX11_setStanding_42 3 rfl ?_
  refine rv_join (fun (k0 : Int32 → rv_W → rv_R) => ∀ (v6 : Int32) (w7 : rv_W), K 53 [(3, .int v5)] (.int v6 :: .int ((w4 79 (1 : Int32).toNatClampNeg) &&& (((1 : Int32) <<< (p1 &&& 31)) ^^^ (-1 : Int32))) :: .int (1 : Int32) :: .ref (ad 79) :: []) w7 (k0 v6 w7)) (fun v6 w7 => ?_) (fun k8 hk9 => ?_)
  · refine rv_ior h 53 dX11_setStanding_53 ?_
    refine rv_iast h 54 dX11_setStanding_54 rv_s79 (fun w10 => ?_)
    refine rv_iload_n h 55 dX11_setStanding_55 0 rfl ?_
    exact rv_reti hr 56 dX11_setStanding_56
  refine rv_if_eq (tgt := 52) h 43 dX11_setStanding_43 (by decide) (fun _ => ?_) (fun _ => ?_)
  · refine rv_iconst h 52 dX11_setStanding_52 rv_c0 ?_
    refine rv_sub h [0] rfl ?_
    exact hk9 (0 : Int32) w4
  refine rv_iconst h 46 dX11_setStanding_46 rv_c1 ?_
  refine rv_iload_n h 47 dX11_setStanding_47 2 rfl ?_
  refine rv_ishl h 48 dX11_setStanding_48 ?_
  refine rv_goto (tgt := 53) h 49 dX11_setStanding_49 (by decide) ?_
  refine rv_sub h [0] rfl ?_
  exact hk9 ((1 : Int32) <<< (p1 &&& 31)) w4
def f_X11_standing  (w : rv_W) : rv_R :=
  rv_ck (1 : Int32) 852 (
  some ((w 79 (1 : Int32).toNatClampNeg), w))
set_option maxRecDepth 100000 in
set_option maxHeartbeats 4000000 in
theorem fn_X11_standing {l : Launch} {D : va_G} {ad : Nat → Nat} {ca : Nat → ClassId} (hJ : rv_J ad)   (w : rv_W) : rv_Fn l D ad ca yX11_standing cX11_standing 1 (some .int) 0 0 [.ref (ad 78)] w (f_X11_standing  w) := by
  refine rv_mk (lv := [(0, .ref (ad 78))]) hJ (by decide +kernel) (Nat.le_of_ble_eq_true rfl) rfl (fun K h hr => ?_)
  have h : rv_Rl D ad ca l RX11 cX11_standing 1 0 0 K := h
  unfold f_X11_standing
  refine rv_aload_n h 0 dX11_standing_0 0 rfl ?_
  refine rv_getr h 1 dX11_standing_1 rv_s78 rv_fd_X11_7 rfl ?_
  refine rv_iconst h 4 dX11_standing_4 rv_c1 ?_
  refine rv_iald h 5 dX11_standing_5 rv_s79 ?_
  exact rv_reti hr 6 dX11_standing_6
def f_X11_groupCount  (w : rv_W) : rv_R :=
  rv_ck (0 : Int32) 852 (
  some ((w 79 (0 : Int32).toNatClampNeg), w))
set_option maxRecDepth 100000 in
set_option maxHeartbeats 4000000 in
theorem fn_X11_groupCount {l : Launch} {D : va_G} {ad : Nat → Nat} {ca : Nat → ClassId} (hJ : rv_J ad)   (w : rv_W) : rv_Fn l D ad ca yX11_groupCount cX11_groupCount 1 (some .int) 0 0 [.ref (ad 78)] w (f_X11_groupCount  w) := by
  refine rv_mk (lv := [(0, .ref (ad 78))]) hJ (by decide +kernel) (Nat.le_of_ble_eq_true rfl) rfl (fun K h hr => ?_)
  have h : rv_Rl D ad ca l RX11 cX11_groupCount 1 0 0 K := h
  unfold f_X11_groupCount
  refine rv_aload_n h 0 dX11_groupCount_0 0 rfl ?_
  refine rv_getr h 1 dX11_groupCount_1 rv_s78 rv_fd_X11_7 rfl ?_
  refine rv_iconst h 4 dX11_groupCount_4 rv_c0 ?_
  refine rv_iald h 5 dX11_groupCount_5 rv_s79 ?_
  exact rv_reti hr 6 dX11_groupCount_6
def f_X11_voters (p1 : Int32) (w : rv_W) : rv_R :=
  rv_bd (f_X11_isGroup p1 w) (fun (r1 : Int32) (w2 : rv_W) =>
  if r1 = 0 then
  some ((-1000001 : Int32), w2)
  else
  rv_bd (f_X11_of p1 (0 : Int32) w2) (fun (r3 : Int32) (w4 : rv_W) =>
  some (r3, w4)))
set_option maxRecDepth 100000 in
set_option maxHeartbeats 4000000 in
theorem fn_X11_voters {l : Launch} {D : va_G} {ad : Nat → Nat} {ca : Nat → ClassId} (hJ : rv_J ad) (p1 : Int32)  (w : rv_W) : rv_Fn l D ad ca yX11_voters cX11_voters 2 (some .int) 2 43 [.ref (ad 78), .int p1] w (f_X11_voters p1 w) := by
  refine rv_mk (lv := [(0, .ref (ad 78)), (1, .int p1)]) hJ (by decide +kernel) (Nat.le_of_ble_eq_true rfl) rfl (fun K h hr => ?_)
  have h : rv_Rl D ad ca l RX11 cX11_voters 2 2 43 K := h
  unfold f_X11_voters
  refine rv_aload_n h 0 dX11_voters_0 0 rfl ?_
  refine rv_iload_n h 1 dX11_voters_1 1 rfl ?_
  refine rv_callVi h 2 dX11_voters_2 (fn_X11_isGroup hJ p1  w) ce_X11_isGroup lk_X11_233 rv_s78 rfl rv_cf9 rfl rfl (Nat.le_of_ble_eq_true rfl) ⟨Nat.le_of_ble_eq_true rfl, Nat.le_of_ble_eq_true rfl⟩ (fun r1 w2 => ?_)
  refine rv_if_eq (tgt := 17) h 5 dX11_voters_5 (by decide) (fun _ => ?_) (fun _ => ?_)
  · refine rv_ldc h 17 dX11_voters_17 rv_kc_X11_236 ?_
    exact rv_reti hr 19 dX11_voters_19
  refine rv_aload_n h 8 dX11_voters_8 0 rfl ?_
  refine rv_iload_n h 9 dX11_voters_9 1 rfl ?_
  refine rv_iconst h 10 dX11_voters_10 rv_c0 ?_
  refine rv_callVi h 11 dX11_voters_11 (fn_X11_of hJ p1 (0 : Int32)  w2) ce_X11_of lk_X11_81 rv_s78 rfl rv_cf9 rfl rfl (Nat.le_of_ble_eq_true rfl) ⟨Nat.le_of_ble_eq_true rfl, Nat.le_of_ble_eq_true rfl⟩ (fun r3 w4 => ?_)
  refine rv_goto (tgt := 19) h 14 dX11_voters_14 (by decide) ?_
  exact rv_reti hr 19 dX11_voters_19
def f_X11_ballot (p1 : Int32) (w : rv_W) : rv_R :=
  rv_bd (f_X11_isGroup p1 w) (fun (r1 : Int32) (w2 : rv_W) =>
  if r1 = 0 then
  some ((-1000001 : Int32), w2)
  else
  rv_bd (f_X11_ballotOf p1 w2) (fun (r3 : Int32) (w4 : rv_W) =>
  some (r3, w4)))
set_option maxRecDepth 100000 in
set_option maxHeartbeats 4000000 in
theorem fn_X11_ballot {l : Launch} {D : va_G} {ad : Nat → Nat} {ca : Nat → ClassId} (hJ : rv_J ad) (p1 : Int32)  (w : rv_W) : rv_Fn l D ad ca yX11_ballot cX11_ballot 2 (some .int) 2 45 [.ref (ad 78), .int p1] w (f_X11_ballot p1 w) := by
  refine rv_mk (lv := [(0, .ref (ad 78)), (1, .int p1)]) hJ (by decide +kernel) (Nat.le_of_ble_eq_true rfl) rfl (fun K h hr => ?_)
  have h : rv_Rl D ad ca l RX11 cX11_ballot 2 2 45 K := h
  unfold f_X11_ballot
  refine rv_aload_n h 0 dX11_ballot_0 0 rfl ?_
  refine rv_iload_n h 1 dX11_ballot_1 1 rfl ?_
  refine rv_callVi h 2 dX11_ballot_2 (fn_X11_isGroup hJ p1  w) ce_X11_isGroup lk_X11_233 rv_s78 rfl rv_cf9 rfl rfl (Nat.le_of_ble_eq_true rfl) ⟨Nat.le_of_ble_eq_true rfl, Nat.le_of_ble_eq_true rfl⟩ (fun r1 w2 => ?_)
  refine rv_if_eq (tgt := 16) h 5 dX11_ballot_5 (by decide) (fun _ => ?_) (fun _ => ?_)
  · refine rv_ldc h 16 dX11_ballot_16 rv_kc_X11_236 ?_
    exact rv_reti hr 18 dX11_ballot_18
  refine rv_aload_n h 8 dX11_ballot_8 0 rfl ?_
  refine rv_iload_n h 9 dX11_ballot_9 1 rfl ?_
  refine rv_callVi h 10 dX11_ballot_10 (fn_X11_ballotOf hJ p1  w2) ce_X11_ballotOf lk_X11_237 rv_s78 rfl rv_cf9 rfl rfl (Nat.le_of_ble_eq_true rfl) ⟨Nat.le_of_ble_eq_true rfl, Nat.le_of_ble_eq_true rfl⟩ (fun r3 w4 => ?_)
  refine rv_goto (tgt := 18) h 13 dX11_ballot_13 (by decide) ?_
  exact rv_reti hr 18 dX11_ballot_18
def f_X11_allVoters  (w : rv_W) : rv_R :=
  rv_bd (f_X11_loads  w) (fun (r1 : Int32) (w2 : rv_W) =>
  rv_bd (f_X11_allVotes  w2) (fun (r3 : Int32) (w4 : rv_W) =>
  some (r3, w4)))
set_option maxRecDepth 100000 in
set_option maxHeartbeats 4000000 in
theorem fn_X11_allVoters {l : Launch} {D : va_G} {ad : Nat → Nat} {ca : Nat → ClassId} (hJ : rv_J ad)   (w : rv_W) : rv_Fn l D ad ca yX11_allVoters cX11_allVoters 1 (some .int) 3 65 [.ref (ad 78)] w (f_X11_allVoters  w) := by
  refine rv_mk (lv := [(0, .ref (ad 78))]) hJ (by decide +kernel) (Nat.le_of_ble_eq_true rfl) rfl (fun K h hr => ?_)
  have h : rv_Rl D ad ca l RX11 cX11_allVoters 1 3 65 K := h
  unfold f_X11_allVoters
  refine rv_aload_n h 0 dX11_allVoters_0 0 rfl ?_
  refine rv_callVv h 1 dX11_allVoters_1 (fn_X11_loads hJ   w) ce_X11_loads lk_X11_208 rv_s78 rfl rv_cf9 rfl rfl (Nat.le_of_ble_eq_true rfl) ⟨Nat.le_of_ble_eq_true rfl, Nat.le_of_ble_eq_true rfl⟩ (fun r1 w2 => ?_)
  refine rv_aload_n h 4 dX11_allVoters_4 0 rfl ?_
  refine rv_callVi h 5 dX11_allVoters_5 (fn_X11_allVotes hJ   w2) ce_X11_allVotes lk_X11_115 rv_s78 rfl rv_cf9 rfl rfl (Nat.le_of_ble_eq_true rfl) ⟨Nat.le_of_ble_eq_true rfl, Nat.le_of_ble_eq_true rfl⟩ (fun r3 w4 => ?_)
  exact rv_reti hr 8 dX11_allVoters_8
def f_X11_noPair (p1 : Int32) (p2 : Int32) (w : rv_W) : rv_R :=
  rv_bd (f_X11_isCandidate p1 w) (fun (r1 : Int32) (w2 : rv_W) =>
  if r1 = 0 then
  some ((-1000001 : Int32), w2)
  else
  rv_bd (f_X11_isCandidate p2 w2) (fun (r3 : Int32) (w4 : rv_W) =>
  if r3 = 0 then
  some ((-1000001 : Int32), w4)
  else
  rv_ck (1 : Int32) 852 (
  rv_bd (f_X11_has (w4 79 (1 : Int32).toNatClampNeg) p1 w4) (fun (r5 : Int32) (w6 : rv_W) =>
  if r5 = 0 then
  some ((-1000003 : Int32), w6)
  else
  rv_ck (1 : Int32) 852 (
  rv_bd (f_X11_has (w6 79 (1 : Int32).toNatClampNeg) p2 w6) (fun (r7 : Int32) (w8 : rv_W) =>
  if r7 = 0 then
  some ((-1000003 : Int32), w8)
  else
  some ((0 : Int32), w8)))))))
set_option maxRecDepth 100000 in
set_option maxHeartbeats 4000000 in
theorem fn_X11_noPair {l : Launch} {D : va_G} {ad : Nat → Nat} {ca : Nat → ClassId} (hJ : rv_J ad) (p1 : Int32) (p2 : Int32)  (w : rv_W) : rv_Fn l D ad ca yX11_noPair cX11_noPair 3 (some .int) 2 42 [.ref (ad 78), .int p1, .int p2] w (f_X11_noPair p1 p2 w) := by
  refine rv_mk (lv := [(0, .ref (ad 78)), (1, .int p1), (2, .int p2)]) hJ (by decide +kernel) (Nat.le_of_ble_eq_true rfl) rfl (fun K h hr => ?_)
  have h : rv_Rl D ad ca l RX11 cX11_noPair 3 2 42 K := h
  unfold f_X11_noPair
  refine rv_iload_n h 0 dX11_noPair_0 1 rfl ?_
  refine rv_callSi h 1 dX11_noPair_1 (fn_X11_isCandidate hJ p1  w) ce_X11_isCandidate lk_X11_214 rfl rfl (Nat.le_of_ble_eq_true rfl) ⟨Nat.le_of_ble_eq_true rfl, Nat.le_of_ble_eq_true rfl⟩ (fun r1 w2 => ?_)
  refine rv_if_eq (tgt := 14) h 4 dX11_noPair_4 (by decide) (fun _ => ?_) (fun _ => ?_)
  · refine rv_ldc h 14 dX11_noPair_14 rv_kc_X11_236 ?_
    exact rv_reti hr 16 dX11_noPair_16
  refine rv_iload_n h 7 dX11_noPair_7 2 rfl ?_
  refine rv_callSi h 8 dX11_noPair_8 (fn_X11_isCandidate hJ p2  w2) ce_X11_isCandidate lk_X11_214 rfl rfl (Nat.le_of_ble_eq_true rfl) ⟨Nat.le_of_ble_eq_true rfl, Nat.le_of_ble_eq_true rfl⟩ (fun r3 w4 => ?_)
  refine rv_if_ne (tgt := 17) h 11 dX11_noPair_11 (by decide) (fun _ => ?_) (fun _ => ?_)
  · refine rv_ldc h 14 dX11_noPair_14 rv_kc_X11_236 ?_
    exact rv_reti hr 16 dX11_noPair_16
  refine rv_aload_n h 17 dX11_noPair_17 0 rfl ?_
  refine rv_getr h 18 dX11_noPair_18 rv_s78 rv_fd_X11_7 rfl ?_
  refine rv_iconst h 21 dX11_noPair_21 rv_c1 ?_
  refine rv_iald h 22 dX11_noPair_22 rv_s79 ?_
  refine rv_iload_n h 23 dX11_noPair_23 1 rfl ?_
  refine rv_callSi h 24 dX11_noPair_24 (fn_X11_has hJ (w4 79 (1 : Int32).toNatClampNeg) p1  w4) ce_X11_has lk_X11_74 rfl rfl (Nat.le_of_ble_eq_true rfl) ⟨Nat.le_of_ble_eq_true rfl, Nat.le_of_ble_eq_true rfl⟩ (fun r5 w6 => ?_)
  refine rv_if_eq (tgt := 47) h 27 dX11_noPair_27 (by decide) (fun _ => ?_) (fun _ => ?_)
  · refine rv_ldc h 47 dX11_noPair_47 rv_kc_X11_240 ?_
    exact rv_reti hr 49 dX11_noPair_49
  refine rv_aload_n h 30 dX11_noPair_30 0 rfl ?_
  refine rv_getr h 31 dX11_noPair_31 rv_s78 rv_fd_X11_7 rfl ?_
  refine rv_iconst h 34 dX11_noPair_34 rv_c1 ?_
  refine rv_iald h 35 dX11_noPair_35 rv_s79 ?_
  refine rv_iload_n h 36 dX11_noPair_36 2 rfl ?_
  refine rv_callSi h 37 dX11_noPair_37 (fn_X11_has hJ (w6 79 (1 : Int32).toNatClampNeg) p2  w6) ce_X11_has lk_X11_74 rfl rfl (Nat.le_of_ble_eq_true rfl) ⟨Nat.le_of_ble_eq_true rfl, Nat.le_of_ble_eq_true rfl⟩ (fun r7 w8 => ?_)
  refine rv_if_eq (tgt := 47) h 40 dX11_noPair_40 (by decide) (fun _ => ?_) (fun _ => ?_)
  · refine rv_ldc h 47 dX11_noPair_47 rv_kc_X11_240 ?_
    exact rv_reti hr 49 dX11_noPair_49
  refine rv_iconst h 43 dX11_noPair_43 rv_c0 ?_
  refine rv_goto (tgt := 49) h 44 dX11_noPair_44 (by decide) ?_
  exact rv_reti hr 49 dX11_noPair_49
def f_X11_pair (p1 : Int32) (p2 : Int32) (w : rv_W) : rv_R :=
  rv_bd (f_X11_noPair p1 p2 w) (fun (r1 : Int32) (w2 : rv_W) =>
  if r1 < 0 then
  some (r1, w2)
  else
  rv_bd (f_X11_loads  w2) (fun (r3 : Int32) (w4 : rv_W) =>
  rv_bd (f_X11_counts  w4) (fun (r5 : Int32) (w6 : rv_W) =>
  rv_bd (f_X11_p p1 p2 w6) (fun (r7 : Int32) (w8 : rv_W) =>
  some (r7, w8)))))
set_option maxRecDepth 100000 in
set_option maxHeartbeats 4000000 in
theorem fn_X11_pair {l : Launch} {D : va_G} {ad : Nat → Nat} {ca : Nat → ClassId} (hJ : rv_J ad) (p1 : Int32) (p2 : Int32)  (w : rv_W) : rv_Fn l D ad ca yX11_pair cX11_pair 4 (some .int) 3 65 [.ref (ad 78), .int p1, .int p2] w (f_X11_pair p1 p2 w) := by
  refine rv_mk (lv := [(0, .ref (ad 78)), (1, .int p1), (2, .int p2)]) hJ (by decide +kernel) (Nat.le_of_ble_eq_true rfl) rfl (fun K h hr => ?_)
  have h : rv_Rl D ad ca l RX11 cX11_pair 4 3 65 K := h
  unfold f_X11_pair
  refine rv_aload_n h 0 dX11_pair_0 0 rfl ?_
  refine rv_iload_n h 1 dX11_pair_1 1 rfl ?_
  refine rv_iload_n h 2 dX11_pair_2 2 rfl ?_
  refine rv_callVi h 3 dX11_pair_3 (fn_X11_noPair hJ p1 p2  w) ce_X11_noPair lk_X11_241 rv_s78 rfl rv_cf9 rfl rfl (Nat.le_of_ble_eq_true rfl) ⟨Nat.le_of_ble_eq_true rfl, Nat.le_of_ble_eq_true rfl⟩ (fun r1 w2 => ?_)
  refine rv_istore_n (lv' := [(3, .int r1), (0, .ref (ad 78)), (1, .int p1), (2, .int p2)]) h 6 dX11_pair_6 (by decide) rfl ?_
  refine rv_iload_n h 7 dX11_pair_7 0 rfl ?_
  refine rv_if_ge (tgt := 13) h 8 dX11_pair_8 (by decide) (fun _ => ?_) (fun _ => ?_)
  · refine rv_iload_n h 11 dX11_pair_11 0 rfl ?_
    exact rv_reti hr 12 dX11_pair_12
  refine rv_aload_n h 13 dX11_pair_13 1 rfl ?_
  refine rv_callVv h 14 dX11_pair_14 (fn_X11_loads hJ   w2) ce_X11_loads lk_X11_208 rv_s78 rfl rv_cf9 rfl rfl (Nat.le_of_ble_eq_true rfl) ⟨Nat.le_of_ble_eq_true rfl, Nat.le_of_ble_eq_true rfl⟩ (fun r3 w4 => ?_)
  refine rv_aload_n h 17 dX11_pair_17 1 rfl ?_
  refine rv_callVv h 18 dX11_pair_18 (fn_X11_counts hJ   w4) ce_X11_counts lk_X11_166 rv_s78 rfl rv_cf9 rfl rfl (Nat.le_of_ble_eq_true rfl) ⟨Nat.le_of_ble_eq_true rfl, Nat.le_of_ble_eq_true rfl⟩ (fun r5 w6 => ?_)
  refine rv_aload_n h 21 dX11_pair_21 1 rfl ?_
  refine rv_iload_n h 22 dX11_pair_22 2 rfl ?_
  refine rv_iload_n h 23 dX11_pair_23 3 rfl ?_
  refine rv_callVi h 24 dX11_pair_24 (fn_X11_p hJ p1 p2  w6) ce_X11_p lk_X11_92 rv_s78 rfl rv_cf9 rfl rfl (Nat.le_of_ble_eq_true rfl) ⟨Nat.le_of_ble_eq_true rfl, Nat.le_of_ble_eq_true rfl⟩ (fun r7 w8 => ?_)
  exact rv_reti hr 27 dX11_pair_27
def f_X11_winners (p1 : Int32) (w : rv_W) : rv_R :=
  rv_bd (f_X11_isRule p1 w) (fun (r1 : Int32) (w2 : rv_W) =>
  if r1 = 0 then
  some ((-1000001 : Int32), w2)
  else
  rv_bd (f_X11_loads  w2) (fun (r3 : Int32) (w4 : rv_W) =>
  rv_ck (1 : Int32) 852 (
  rv_bd (f_X11_applies p1 (w4 79 (1 : Int32).toNatClampNeg) w4) (fun (r5 : Int32) (w6 : rv_W) =>
  some (r5, w6)))))
set_option maxRecDepth 100000 in
set_option maxHeartbeats 4000000 in
theorem fn_X11_winners {l : Launch} {D : va_G} {ad : Nat → Nat} {ca : Nat → ClassId} (hJ : rv_J ad) (p1 : Int32)  (w : rv_W) : rv_Fn l D ad ca yX11_winners cX11_winners 2 (some .int) 6 144 [.ref (ad 78), .int p1] w (f_X11_winners p1 w) := by
  refine rv_mk (lv := [(0, .ref (ad 78)), (1, .int p1)]) hJ (by decide +kernel) (Nat.le_of_ble_eq_true rfl) rfl (fun K h hr => ?_)
  have h : rv_Rl D ad ca l RX11 cX11_winners 2 6 144 K := h
  unfold f_X11_winners
  refine rv_iload_n h 0 dX11_winners_0 1 rfl ?_
  refine rv_callSi h 1 dX11_winners_1 (fn_X11_isRule hJ p1  w) ce_X11_isRule lk_X11_244 rfl rfl (Nat.le_of_ble_eq_true rfl) ⟨Nat.le_of_ble_eq_true rfl, Nat.le_of_ble_eq_true rfl⟩ (fun r1 w2 => ?_)
  refine rv_if_ne (tgt := 10) h 4 dX11_winners_4 (by decide) (fun _ => ?_) (fun _ => ?_)
  · refine rv_ldc h 7 dX11_winners_7 rv_kc_X11_236 ?_
    exact rv_reti hr 9 dX11_winners_9
  refine rv_aload_n h 10 dX11_winners_10 0 rfl ?_
  refine rv_callVv h 11 dX11_winners_11 (fn_X11_loads hJ   w2) ce_X11_loads lk_X11_208 rv_s78 rfl rv_cf9 rfl rfl (Nat.le_of_ble_eq_true rfl) ⟨Nat.le_of_ble_eq_true rfl, Nat.le_of_ble_eq_true rfl⟩ (fun r3 w4 => ?_)
  refine rv_aload_n h 14 dX11_winners_14 0 rfl ?_
  refine rv_iload_n h 15 dX11_winners_15 1 rfl ?_
  refine rv_aload_n h 16 dX11_winners_16 0 rfl ?_
  refine rv_getr h 17 dX11_winners_17 rv_s78 rv_fd_X11_7 rfl ?_
  refine rv_iconst h 20 dX11_winners_20 rv_c1 ?_
  refine rv_iald h 21 dX11_winners_21 rv_s79 ?_
  refine rv_callVi h 22 dX11_winners_22 (fn_X11_applies hJ p1 (w4 79 (1 : Int32).toNatClampNeg)  w4) ce_X11_applies lk_X11_202 rv_s78 rfl rv_cf9 rfl rfl (Nat.le_of_ble_eq_true rfl) ⟨Nat.le_of_ble_eq_true rfl, Nat.le_of_ble_eq_true rfl⟩ (fun r5 w6 => ?_)
  exact rv_reti hr 25 dX11_winners_25
def f_X11_winner (p1 : Int32) (w : rv_W) : rv_R :=
  rv_bd (f_X11_isRule p1 w) (fun (r1 : Int32) (w2 : rv_W) =>
  if r1 = 0 then
  some ((-1000001 : Int32), w2)
  else
  rv_bd (f_X11_now p1 w2) (fun (r3 : Int32) (w4 : rv_W) =>
  if r3 < 0 then
  some ((-1000000 : Int32), w4)
  else
  some (r3, w4)))
set_option maxRecDepth 100000 in
set_option maxHeartbeats 4000000 in
theorem fn_X11_winner {l : Launch} {D : va_G} {ad : Nat → Nat} {ca : Nat → ClassId} (hJ : rv_J ad) (p1 : Int32)  (w : rv_W) : rv_Fn l D ad ca yX11_winner cX11_winner 3 (some .int) 8 188 [.ref (ad 78), .int p1] w (f_X11_winner p1 w) := by
  refine rv_mk (lv := [(0, .ref (ad 78)), (1, .int p1)]) hJ (by decide +kernel) (Nat.le_of_ble_eq_true rfl) rfl (fun K h hr => ?_)
  have h : rv_Rl D ad ca l RX11 cX11_winner 3 8 188 K := h
  unfold f_X11_winner
  refine rv_iload_n h 0 dX11_winner_0 1 rfl ?_
  refine rv_callSi h 1 dX11_winner_1 (fn_X11_isRule hJ p1  w) ce_X11_isRule lk_X11_244 rfl rfl (Nat.le_of_ble_eq_true rfl) ⟨Nat.le_of_ble_eq_true rfl, Nat.le_of_ble_eq_true rfl⟩ (fun r1 w2 => ?_)
  refine rv_if_ne (tgt := 10) h 4 dX11_winner_4 (by decide) (fun _ => ?_) (fun _ => ?_)
  · refine rv_ldc h 7 dX11_winner_7 rv_kc_X11_236 ?_
    exact rv_reti hr 9 dX11_winner_9
  refine rv_aload_n h 10 dX11_winner_10 0 rfl ?_
  refine rv_iload_n h 11 dX11_winner_11 1 rfl ?_
  refine rv_callVi h 12 dX11_winner_12 (fn_X11_now hJ p1  w2) ce_X11_now lk_X11_247 rv_s78 rfl rv_cf9 rfl rfl (Nat.le_of_ble_eq_true rfl) ⟨Nat.le_of_ble_eq_true rfl, Nat.le_of_ble_eq_true rfl⟩ (fun r3 w4 => ?_)
  refine rv_istore_n (lv' := [(2, .int r3), (0, .ref (ad 78)), (1, .int p1)]) h 15 dX11_winner_15 (by decide) rfl ?_
  refine rv_iload_n h 16 dX11_winner_16 0 rfl ?_
  refine rv_if_ge (tgt := 25) h 17 dX11_winner_17 (by decide) (fun _ => ?_) (fun _ => ?_)
  rotate_left
  · refine rv_iload_n h 25 dX11_winner_25 0 rfl ?_
    exact rv_reti hr 26 dX11_winner_26
  refine rv_ldc h 20 dX11_winner_20 rv_kc_X11_250 ?_
  refine rv_goto (tgt := 26) h 22 dX11_winner_22 (by decide) ?_
  exact rv_reti hr 26 dX11_winner_26
def f_X11_points (p1 : Int32) (p2 : Int32) (w : rv_W) : rv_R :=
  rv_bd (f_X11_isRule p1 w) (fun (r1 : Int32) (w2 : rv_W) =>
  if r1 = 0 then
  some ((-1000001 : Int32), w2)
  else
  rv_bd (f_X11_isCandidate p2 w2) (fun (r3 : Int32) (w4 : rv_W) =>
  if r3 = 0 then
  some ((-1000001 : Int32), w4)
  else
  rv_bd (f_X11_in p1 (0 : Int32) (3 : Int32) w4) (fun (r5 : Int32) (w6 : rv_W) =>
  rv_jn (fun  (w7 : rv_W) =>
  rv_ck (1 : Int32) 852 (
  rv_bd (f_X11_has (w7 79 (1 : Int32).toNatClampNeg) p2 w7) (fun (r10 : Int32) (w11 : rv_W) =>
  if r10 = 0 then
  some ((-1000003 : Int32), w11)
  else
  rv_bd (f_X11_loads  w11) (fun (r12 : Int32) (w13 : rv_W) =>
  rv_ck (1 : Int32) 852 (
  rv_bd (f_X11_applies p1 (w13 79 (1 : Int32).toNatClampNeg) w13) (fun (r14 : Int32) (w15 : rv_W) =>
  rv_ck p2 5 (
  some ((w15 84 p2.toNatClampNeg), w15)))))))) (fun (k8 : rv_W → rv_R) =>
  if r5 = 0 then
  if p1 = (8 : Int32) then
  k8 w6
  else
  some ((-1000003 : Int32), w6)
  else
  k8 w6))))
set_option maxRecDepth 100000 in
set_option maxHeartbeats 4000000 in
theorem fn_X11_points {l : Launch} {D : va_G} {ad : Nat → Nat} {ca : Nat → ClassId} (hJ : rv_J ad) (p1 : Int32) (p2 : Int32)  (w : rv_W) : rv_Fn l D ad ca yX11_points cX11_points 4 (some .int) 6 144 [.ref (ad 78), .int p1, .int p2] w (f_X11_points p1 p2 w) := by
  refine rv_mk (lv := [(0, .ref (ad 78)), (1, .int p1), (2, .int p2)]) hJ (by decide +kernel) (Nat.le_of_ble_eq_true rfl) rfl (fun K h hr => ?_)
  have h : rv_Rl D ad ca l RX11 cX11_points 4 6 144 K := h
  unfold f_X11_points
  refine rv_iload_n h 0 dX11_points_0 1 rfl ?_
  refine rv_callSi h 1 dX11_points_1 (fn_X11_isRule hJ p1  w) ce_X11_isRule lk_X11_244 rfl rfl (Nat.le_of_ble_eq_true rfl) ⟨Nat.le_of_ble_eq_true rfl, Nat.le_of_ble_eq_true rfl⟩ (fun r1 w2 => ?_)
  refine rv_if_eq (tgt := 14) h 4 dX11_points_4 (by decide) (fun _ => ?_) (fun _ => ?_)
  · refine rv_ldc h 14 dX11_points_14 rv_kc_X11_236 ?_
    exact rv_reti hr 16 dX11_points_16
  refine rv_iload_n h 7 dX11_points_7 2 rfl ?_
  refine rv_callSi h 8 dX11_points_8 (fn_X11_isCandidate hJ p2  w2) ce_X11_isCandidate lk_X11_214 rfl rfl (Nat.le_of_ble_eq_true rfl) ⟨Nat.le_of_ble_eq_true rfl, Nat.le_of_ble_eq_true rfl⟩ (fun r3 w4 => ?_)
  refine rv_if_ne (tgt := 17) h 11 dX11_points_11 (by decide) (fun _ => ?_) (fun _ => ?_)
  · refine rv_ldc h 14 dX11_points_14 rv_kc_X11_236 ?_
    exact rv_reti hr 16 dX11_points_16
  refine rv_iload_n h 17 dX11_points_17 1 rfl ?_
  refine rv_iconst h 18 dX11_points_18 rv_c0 ?_
  refine rv_iconst h 19 dX11_points_19 rv_c3 ?_
  refine rv_callSi h 20 dX11_points_20 (fn_X11_in hJ p1 (0 : Int32) (3 : Int32)  w4) ce_X11_in lk_X11_70 rfl rfl (Nat.le_of_ble_eq_true rfl) ⟨Nat.le_of_ble_eq_true rfl, Nat.le_of_ble_eq_true rfl⟩ (fun r5 w6 => ?_)
  refine rv_join (fun (k0 : rv_W → rv_R) => ∀  (w7 : rv_W), K 32 [(0, .ref (ad 78)), (1, .int p1), (2, .int p2)] ([]) w7 (k0 w7)) (fun w7 => ?_) (fun k8 hk9 => ?_)
  · refine rv_aload_n h 32 dX11_points_32 0 rfl ?_
    refine rv_getr h 33 dX11_points_33 rv_s78 rv_fd_X11_7 rfl ?_
    refine rv_iconst h 36 dX11_points_36 rv_c1 ?_
    refine rv_iald h 37 dX11_points_37 rv_s79 ?_
    refine rv_iload_n h 38 dX11_points_38 2 rfl ?_
    refine rv_callSi h 39 dX11_points_39 (fn_X11_has hJ (w7 79 (1 : Int32).toNatClampNeg) p2  w7) ce_X11_has lk_X11_74 rfl rfl (Nat.le_of_ble_eq_true rfl) ⟨Nat.le_of_ble_eq_true rfl, Nat.le_of_ble_eq_true rfl⟩ (fun r10 w11 => ?_)
    refine rv_if_ne (tgt := 48) h 42 dX11_points_42 (by decide) (fun _ => ?_) (fun _ => ?_)
    · refine rv_ldc h 45 dX11_points_45 rv_kc_X11_240 ?_
      exact rv_reti hr 47 dX11_points_47
    refine rv_aload_n h 48 dX11_points_48 0 rfl ?_
    refine rv_callVv h 49 dX11_points_49 (fn_X11_loads hJ   w11) ce_X11_loads lk_X11_208 rv_s78 rfl rv_cf9 rfl rfl (Nat.le_of_ble_eq_true rfl) ⟨Nat.le_of_ble_eq_true rfl, Nat.le_of_ble_eq_true rfl⟩ (fun r12 w13 => ?_)
    refine rv_aload_n h 52 dX11_points_52 0 rfl ?_
    refine rv_iload_n h 53 dX11_points_53 1 rfl ?_
    refine rv_aload_n h 54 dX11_points_54 0 rfl ?_
    refine rv_getr h 55 dX11_points_55 rv_s78 rv_fd_X11_7 rfl ?_
    refine rv_iconst h 58 dX11_points_58 rv_c1 ?_
    refine rv_iald h 59 dX11_points_59 rv_s79 ?_
    refine rv_callVi h 60 dX11_points_60 (fn_X11_applies hJ p1 (w13 79 (1 : Int32).toNatClampNeg)  w13) ce_X11_applies lk_X11_202 rv_s78 rfl rv_cf9 rfl rfl (Nat.le_of_ble_eq_true rfl) ⟨Nat.le_of_ble_eq_true rfl, Nat.le_of_ble_eq_true rfl⟩ (fun r14 w15 => ?_)
    refine rv_istore_n (lv' := [(3, .int r14), (0, .ref (ad 78)), (1, .int p1), (2, .int p2)]) h 63 dX11_points_63 (by decide) rfl ?_
    refine rv_aload_n h 64 dX11_points_64 1 rfl ?_
    refine rv_getr h 65 dX11_points_65 rv_s78 rv_fd_X11_25 rfl ?_
    refine rv_iload_n h 68 dX11_points_68 3 rfl ?_
    refine rv_iald h 69 dX11_points_69 rv_s84 ?_
    exact rv_reti hr 70 dX11_points_70
  refine rv_if_ne (tgt := 32) h 23 dX11_points_23 (by decide) (fun _ => ?_) (fun _ => ?_)
  rotate_left
  · refine rv_sub h [0, 1, 2] rfl ?_
    exact hk9 w6
  refine rv_iload_n h 26 dX11_points_26 1 rfl ?_
  refine rv_bipush (v := 8) h 27 dX11_points_27 (by decide +kernel) ?_
  refine rv_icmp_ne (tgt := 45) h 29 dX11_points_29 (by decide) (fun _ => ?_) (fun _ => ?_)
  · refine rv_sub h [0, 1, 2] rfl ?_
    exact hk9 w6
  refine rv_ldc h 45 dX11_points_45 rv_kc_X11_240 ?_
  exact rv_reti hr 47 dX11_points_47
def f_X11_beatsAll  (w : rv_W) : rv_R :=
  rv_bd (f_X11_loads  w) (fun (r1 : Int32) (w2 : rv_W) =>
  rv_bd (f_X11_counts  w2) (fun (r3 : Int32) (w4 : rv_W) =>
  rv_ck (1 : Int32) 852 (
  rv_bd (f_X11_firstOf (w4 79 (1 : Int32).toNatClampNeg) w4) (fun (r5 : Int32) (w6 : rv_W) =>
  if r5 < 0 then
  some ((-1000000 : Int32), w6)
  else
  some (r5, w6)))))
set_option maxRecDepth 100000 in
set_option maxHeartbeats 4000000 in
theorem fn_X11_beatsAll {l : Launch} {D : va_G} {ad : Nat → Nat} {ca : Nat → ClassId} (hJ : rv_J ad)   (w : rv_W) : rv_Fn l D ad ca yX11_beatsAll cX11_beatsAll 2 (some .int) 3 69 [.ref (ad 78)] w (f_X11_beatsAll  w) := by
  refine rv_mk (lv := [(0, .ref (ad 78))]) hJ (by decide +kernel) (Nat.le_of_ble_eq_true rfl) rfl (fun K h hr => ?_)
  have h : rv_Rl D ad ca l RX11 cX11_beatsAll 2 3 69 K := h
  unfold f_X11_beatsAll
  refine rv_aload_n h 0 dX11_beatsAll_0 0 rfl ?_
  refine rv_callVv h 1 dX11_beatsAll_1 (fn_X11_loads hJ   w) ce_X11_loads lk_X11_208 rv_s78 rfl rv_cf9 rfl rfl (Nat.le_of_ble_eq_true rfl) ⟨Nat.le_of_ble_eq_true rfl, Nat.le_of_ble_eq_true rfl⟩ (fun r1 w2 => ?_)
  refine rv_aload_n h 4 dX11_beatsAll_4 0 rfl ?_
  refine rv_callVv h 5 dX11_beatsAll_5 (fn_X11_counts hJ   w2) ce_X11_counts lk_X11_166 rv_s78 rfl rv_cf9 rfl rfl (Nat.le_of_ble_eq_true rfl) ⟨Nat.le_of_ble_eq_true rfl, Nat.le_of_ble_eq_true rfl⟩ (fun r3 w4 => ?_)
  refine rv_aload_n h 8 dX11_beatsAll_8 0 rfl ?_
  refine rv_aload_n h 9 dX11_beatsAll_9 0 rfl ?_
  refine rv_getr h 10 dX11_beatsAll_10 rv_s78 rv_fd_X11_7 rfl ?_
  refine rv_iconst h 13 dX11_beatsAll_13 rv_c1 ?_
  refine rv_iald h 14 dX11_beatsAll_14 rv_s79 ?_
  refine rv_callVi h 15 dX11_beatsAll_15 (fn_X11_firstOf hJ (w4 79 (1 : Int32).toNatClampNeg)  w4) ce_X11_firstOf lk_X11_193 rv_s78 rfl rv_cf9 rfl rfl (Nat.le_of_ble_eq_true rfl) ⟨Nat.le_of_ble_eq_true rfl, Nat.le_of_ble_eq_true rfl⟩ (fun r5 w6 => ?_)
  refine rv_istore_n (lv' := [(1, .int r5), (0, .ref (ad 78))]) h 18 dX11_beatsAll_18 (by decide) rfl ?_
  refine rv_iload_n h 19 dX11_beatsAll_19 0 rfl ?_
  refine rv_if_ge (tgt := 28) h 20 dX11_beatsAll_20 (by decide) (fun _ => ?_) (fun _ => ?_)
  rotate_left
  · refine rv_iload_n h 28 dX11_beatsAll_28 0 rfl ?_
    exact rv_reti hr 29 dX11_beatsAll_29
  refine rv_ldc h 23 dX11_beatsAll_23 rv_kc_X11_250 ?_
  refine rv_goto (tgt := 29) h 25 dX11_beatsAll_25 (by decide) ?_
  exact rv_reti hr 29 dX11_beatsAll_29
def f_X11_losesToAll  (w : rv_W) : rv_R :=
  rv_bd (f_X11_loads  w) (fun (r1 : Int32) (w2 : rv_W) =>
  rv_bd (f_X11_counts  w2) (fun (r3 : Int32) (w4 : rv_W) =>
  rv_fx (fun _ _ _ => none) (fun (ag5 : Int32 → Int32 → rv_W → rv_R) (v7 : Int32) (v8 : Int32) (w9 : rv_W) =>
  if v8 < (5 : Int32) then
  rv_ck (1 : Int32) 852 (
  rv_bd (f_X11_has (w9 79 (1 : Int32).toNatClampNeg) v8 w9) (fun (r10 : Int32) (w11 : rv_W) =>
  rv_jn (fun (v12 : Int32) (w13 : rv_W) =>
  rv_fx (fun _ _ _ => none) (fun (ag16 : Int32 → Int32 → rv_W → rv_R) (v18 : Int32) (v19 : Int32) (w20 : rv_W) =>
  if v19 < (5 : Int32) then
  if v18 = 0 then
  rv_lt (v19 + (1 : Int32)) (fun (v23 : Int32) =>
  ag16 (0 : Int32) v23 w20)
  else
  rv_jn (fun  (w24 : rv_W) =>
  rv_lt (v19 + (1 : Int32)) (fun (v27 : Int32) =>
  ag16 (1 : Int32) v27 w24)) (fun (k25 : rv_W → rv_R) =>
  if v19 = v8 then
  k25 w20
  else
  rv_ck (1 : Int32) 852 (
  rv_bd (f_X11_has (w20 79 (1 : Int32).toNatClampNeg) v19 w20) (fun (r28 : Int32) (w29 : rv_W) =>
  if r28 = 0 then
  k25 w29
  else
  rv_bd (f_X11_beats v19 v8 w29) (fun (r30 : Int32) (w31 : rv_W) =>
  if r30 = 0 then
  rv_lt (v19 + (1 : Int32)) (fun (v32 : Int32) =>
  ag16 (0 : Int32) v32 w31)
  else
  k25 w31))))
  else
  if v18 = 0 then
  rv_lt (v8 + (1 : Int32)) (fun (v21 : Int32) =>
  ag5 v7 v21 w20)
  else
  rv_lt (v8 + (1 : Int32)) (fun (v22 : Int32) =>
  ag5 v8 v22 w20)) rv_FU v12 (0 : Int32) w13) (fun (k14 : Int32 → rv_W → rv_R) =>
  rv_jn (fun  (w33 : rv_W) =>
  k14 (0 : Int32) w33) (fun (k34 : rv_W → rv_R) =>
  if r10 = 0 then
  k34 w11
  else
  rv_ck (1 : Int32) 852 (
  rv_bd (f_X11_many (w11 79 (1 : Int32).toNatClampNeg) w11) (fun (r36 : Int32) (w37 : rv_W) =>
  if (1 : Int32) < r36 then
  k14 (1 : Int32) w37
  else
  k34 w37))))))
  else
  some (v7, w9)) rv_FU (-1000000 : Int32) (0 : Int32) w4))
set_option maxRecDepth 100000 in
set_option maxHeartbeats 4000000 in
theorem fn_X11_losesToAll {l : Launch} {D : va_G} {ad : Nat → Nat} {ca : Nat → ClassId} (hJ : rv_J ad)   (w : rv_W) : rv_Fn l D ad ca yX11_losesToAll cX11_losesToAll 5 (some .int) 3 65 [.ref (ad 78)] w (f_X11_losesToAll  w) := by
  refine rv_mk (lv := [(0, .ref (ad 78))]) hJ (by decide +kernel) (Nat.le_of_ble_eq_true rfl) rfl (fun K h hr => ?_)
  have h : rv_Rl D ad ca l RX11 cX11_losesToAll 5 3 65 K := h
  unfold f_X11_losesToAll
  refine rv_aload_n h 0 dX11_losesToAll_0 0 rfl ?_
  refine rv_callVv h 1 dX11_losesToAll_1 (fn_X11_loads hJ   w) ce_X11_loads lk_X11_208 rv_s78 rfl rv_cf9 rfl rfl (Nat.le_of_ble_eq_true rfl) ⟨Nat.le_of_ble_eq_true rfl, Nat.le_of_ble_eq_true rfl⟩ (fun r1 w2 => ?_)
  refine rv_aload_n h 4 dX11_losesToAll_4 0 rfl ?_
  refine rv_callVv h 5 dX11_losesToAll_5 (fn_X11_counts hJ   w2) ce_X11_counts lk_X11_166 rv_s78 rfl rv_cf9 rfl rfl (Nat.le_of_ble_eq_true rfl) ⟨Nat.le_of_ble_eq_true rfl, Nat.le_of_ble_eq_true rfl⟩ (fun r3 w4 => ?_)
  refine rv_ldc h 8 dX11_losesToAll_8 rv_kc_X11_250 ?_
  refine rv_istore_n (lv' := [(1, .int (-1000000 : Int32)), (0, .ref (ad 78))]) h 10 dX11_losesToAll_10 (by decide) rfl ?_
  refine rv_iconst h 11 dX11_losesToAll_11 rv_c0 ?_
  refine rv_istore_n (lv' := [(2, .int (0 : Int32)), (1, .int (-1000000 : Int32)), (0, .ref (ad 78))]) h 12 dX11_losesToAll_12 (by decide) rfl ?_
  refine rv_sub h [2, 1, 0] rfl ?_
  refine rv_fx_ind (fun (a0 : Int32 → Int32 → rv_W → rv_R) => ∀ (v7 : Int32) (v8 : Int32) (w9 : rv_W), K 13 [(0, .ref (ad 78)), (1, .int v7), (2, .int v8)] [] w9 (a0 v7 v8 w9)) (fun _ _ _ => rv_none h) (fun ag5 ih6 v7 v8 w9 => ?_) rv_FU (-1000000 : Int32) (0 : Int32) w4
  refine rv_iload_n h 13 dX11_losesToAll_13 2 rfl ?_
  refine rv_iconst h 14 dX11_losesToAll_14 rv_c5 ?_
  refine rv_icmp_ge (tgt := 121) h 15 dX11_losesToAll_15 (by decide) (fun _ => ?_) (fun _ => ?_)
  rotate_left
  · refine rv_iload_n h 121 dX11_losesToAll_121 1 rfl ?_
    exact rv_reti hr 122 dX11_losesToAll_122
  refine rv_aload_n h 18 dX11_losesToAll_18 0 rfl ?_
  refine rv_getr h 19 dX11_losesToAll_19 rv_s78 rv_fd_X11_7 rfl ?_
  refine rv_iconst h 22 dX11_losesToAll_22 rv_c1 ?_
  refine rv_iald h 23 dX11_losesToAll_23 rv_s79 ?_
  refine rv_iload_n h 24 dX11_losesToAll_24 2 rfl ?_
  refine rv_callSi h 25 dX11_losesToAll_25 (fn_X11_has hJ (w9 79 (1 : Int32).toNatClampNeg) v8  w9) ce_X11_has lk_X11_74 rfl rfl (Nat.le_of_ble_eq_true rfl) ⟨Nat.le_of_ble_eq_true rfl, Nat.le_of_ble_eq_true rfl⟩ (fun r10 w11 => ?_)
  refine rv_join (fun (k0 : Int32 → rv_W → rv_R) => ∀ (v12 : Int32) (w13 : rv_W), K 49 [(0, .ref (ad 78)), (1, .int v7), (2, .int v8)] (.int v12 :: []) w13 (k0 v12 w13)) (fun v12 w13 => ?_) (fun k14 hk15 => ?_)
  · refine rv_istore_n (lv' := [(3, .int v12), (0, .ref (ad 78)), (1, .int v7), (2, .int v8)]) h 49 dX11_losesToAll_49 (by decide) rfl ?_
    refine rv_iconst h 50 dX11_losesToAll_50 rv_c0 ?_
    refine rv_istore (lv' := [(4, .int (0 : Int32)), (3, .int v12), (0, .ref (ad 78)), (1, .int v7), (2, .int v8)]) h 51 dX11_losesToAll_51 (by decide) rfl ?_
    refine rv_sub h [2, 3, 4, 1, 0] rfl ?_
    refine rv_fx_ind (fun (a0 : Int32 → Int32 → rv_W → rv_R) => ∀ (v18 : Int32) (v19 : Int32) (w20 : rv_W), K 53 [(0, .ref (ad 78)), (1, .int v7), (2, .int v8), (3, .int v18), (4, .int v19)] [] w20 (a0 v18 v19 w20)) (fun _ _ _ => rv_none h) (fun ag16 ih17 v18 v19 w20 => ?_) rv_FU v12 (0 : Int32) w13
    refine rv_iload h 53 dX11_losesToAll_53 4 rfl ?_
    refine rv_iconst h 55 dX11_losesToAll_55 rv_c5 ?_
    refine rv_icmp_ge (tgt := 105) h 56 dX11_losesToAll_56 (by decide) (fun _ => ?_) (fun _ => ?_)
    rotate_left
    · refine rv_iload_n h 105 dX11_losesToAll_105 3 rfl ?_
      refine rv_if_eq (tgt := 113) h 106 dX11_losesToAll_106 (by decide) (fun _ => ?_) (fun _ => ?_)
      · refine rv_iload_n h 113 dX11_losesToAll_113 1 rfl ?_
        refine rv_istore_n (lv' := [(1, .int v7), (0, .ref (ad 78)), (2, .int v8), (3, .int v18), (4, .int v19)]) h 114 dX11_losesToAll_114 (by decide) rfl ?_
        refine rv_iinc h 115 (fun v21 => [(2, .int v21), (1, .int v7), (0, .ref (ad 78)), (3, .int v18), (4, .int v19)]) dX11_losesToAll_115 2 rfl rv_c1 (by decide) (fun _ => rfl) (fun v21 => ?_)
        refine rv_goto (tgt := 13) h 118 dX11_losesToAll_118 (by decide) ?_
        refine rv_sub h [2, 1, 0] rfl ?_
        exact ih6 v7 v21 w20
      refine rv_iload_n h 109 dX11_losesToAll_109 2 rfl ?_
      refine rv_goto (tgt := 114) h 110 dX11_losesToAll_110 (by decide) ?_
      refine rv_istore_n (lv' := [(1, .int v8), (0, .ref (ad 78)), (2, .int v8), (3, .int v18), (4, .int v19)]) h 114 dX11_losesToAll_114 (by decide) rfl ?_
      refine rv_iinc h 115 (fun v22 => [(2, .int v22), (1, .int v8), (0, .ref (ad 78)), (3, .int v18), (4, .int v19)]) dX11_losesToAll_115 2 rfl rv_c1 (by decide) (fun _ => rfl) (fun v22 => ?_)
      refine rv_goto (tgt := 13) h 118 dX11_losesToAll_118 (by decide) ?_
      refine rv_sub h [2, 1, 0] rfl ?_
      exact ih6 v8 v22 w20
    refine rv_iload_n h 59 dX11_losesToAll_59 3 rfl ?_
    refine rv_if_eq (tgt := 97) h 60 dX11_losesToAll_60 (by decide) (fun _ => ?_) (fun _ => ?_)
    · refine rv_iconst h 97 dX11_losesToAll_97 rv_c0 ?_
      refine rv_istore_n (lv' := [(3, .int (0 : Int32)), (0, .ref (ad 78)), (1, .int v7), (2, .int v8), (4, .int v19)]) h 98 dX11_losesToAll_98 (by decide) rfl ?_
      refine rv_iinc h 99 (fun v23 => [(4, .int v23), (3, .int (0 : Int32)), (0, .ref (ad 78)), (1, .int v7), (2, .int v8)]) dX11_losesToAll_99 4 rfl rv_c1 (by decide) (fun _ => rfl) (fun v23 => ?_)
      refine rv_goto (tgt := 53) h 102 dX11_losesToAll_102 (by decide) ?_
      refine rv_sub h [2, 3, 4, 1, 0] rfl ?_
      exact ih17 (0 : Int32) v23 w20
    refine rv_iload h 63 dX11_losesToAll_63 4 rfl ?_
    refine rv_iload_n h 65 dX11_losesToAll_65 2 rfl ?_
    refine rv_join (fun (k0 : rv_W → rv_R) => ∀  (w24 : rv_W), K 93 [(0, .ref (ad 78)), (1, .int v7), (2, .int v8), (4, .int v19)] ([]) w24 (k0 w24)) (fun w24 => ?_) (fun k25 hk26 => ?_)
    · refine rv_iconst h 93 dX11_losesToAll_93 rv_c1 ?_
      refine rv_goto (tgt := 98) h 94 dX11_losesToAll_94 (by decide) ?_
      refine rv_istore_n (lv' := [(3, .int (1 : Int32)), (0, .ref (ad 78)), (1, .int v7), (2, .int v8), (4, .int v19)]) h 98 dX11_losesToAll_98 (by decide) rfl ?_
      refine rv_iinc h 99 (fun v27 => [(4, .int v27), (3, .int (1 : Int32)), (0, .ref (ad 78)), (1, .int v7), (2, .int v8)]) dX11_losesToAll_99 4 rfl rv_c1 (by decide) (fun _ => rfl) (fun v27 => ?_)
      refine rv_goto (tgt := 53) h 102 dX11_losesToAll_102 (by decide) ?_
      refine rv_sub h [2, 3, 4, 1, 0] rfl ?_
      exact ih17 (1 : Int32) v27 w24
    refine rv_icmp_eq (tgt := 93) h 66 dX11_losesToAll_66 (by decide) (fun _ => ?_) (fun _ => ?_)
    · refine rv_sub h [0, 1, 2, 4] rfl ?_
      exact hk26 w20
    refine rv_aload_n h 69 dX11_losesToAll_69 0 rfl ?_
    refine rv_getr h 70 dX11_losesToAll_70 rv_s78 rv_fd_X11_7 rfl ?_
    refine rv_iconst h 73 dX11_losesToAll_73 rv_c1 ?_
    refine rv_iald h 74 dX11_losesToAll_74 rv_s79 ?_
    refine rv_iload h 75 dX11_losesToAll_75 4 rfl ?_
    refine rv_callSi h 77 dX11_losesToAll_77 (fn_X11_has hJ (w20 79 (1 : Int32).toNatClampNeg) v19  w20) ce_X11_has lk_X11_74 rfl rfl (Nat.le_of_ble_eq_true rfl) ⟨Nat.le_of_ble_eq_true rfl, Nat.le_of_ble_eq_true rfl⟩ (fun r28 w29 => ?_)
    refine rv_if_eq (tgt := 93) h 80 dX11_losesToAll_80 (by decide) (fun _ => ?_) (fun _ => ?_)
    · refine rv_sub h [0, 1, 2, 4] rfl ?_
      exact hk26 w29
    refine rv_aload_n h 83 dX11_losesToAll_83 0 rfl ?_
    refine rv_iload h 84 dX11_losesToAll_84 4 rfl ?_
    refine rv_iload_n h 86 dX11_losesToAll_86 2 rfl ?_
    refine rv_callVi h 87 dX11_losesToAll_87 (fn_X11_beats hJ v19 v8  w29) ce_X11_beats lk_X11_95 rv_s78 rfl rv_cf9 rfl rfl (Nat.le_of_ble_eq_true rfl) ⟨Nat.le_of_ble_eq_true rfl, Nat.le_of_ble_eq_true rfl⟩ (fun r30 w31 => ?_)
    refine rv_if_eq (tgt := 97) h 90 dX11_losesToAll_90 (by decide) (fun _ => ?_) (fun _ => ?_)
    rotate_left
    · refine rv_sub h [0, 1, 2, 4] rfl ?_
      exact hk26 w31
    refine rv_iconst h 97 dX11_losesToAll_97 rv_c0 ?_
    refine rv_istore_n (lv' := [(3, .int (0 : Int32)), (0, .ref (ad 78)), (1, .int v7), (2, .int v8), (4, .int v19)]) h 98 dX11_losesToAll_98 (by decide) rfl ?_
    refine rv_iinc h 99 (fun v32 => [(4, .int v32), (3, .int (0 : Int32)), (0, .ref (ad 78)), (1, .int v7), (2, .int v8)]) dX11_losesToAll_99 4 rfl rv_c1 (by decide) (fun _ => rfl) (fun v32 => ?_)
    refine rv_goto (tgt := 53) h 102 dX11_losesToAll_102 (by decide) ?_
    refine rv_sub h [2, 3, 4, 1, 0] rfl ?_
    exact ih17 (0 : Int32) v32 w31
  refine rv_join (fun (k0 : rv_W → rv_R) => ∀  (w33 : rv_W), K 48 [(0, .ref (ad 78)), (1, .int v7), (2, .int v8)] ([]) w33 (k0 w33)) (fun w33 => ?_) (fun k34 hk35 => ?_)
  · refine rv_iconst h 48 dX11_losesToAll_48 rv_c0 ?_
    refine rv_sub h [0, 1, 2] rfl ?_
    exact hk15 (0 : Int32) w33
  refine rv_if_eq (tgt := 48) h 28 dX11_losesToAll_28 (by decide) (fun _ => ?_) (fun _ => ?_)
  · refine rv_sub h [0, 1, 2] rfl ?_
    exact hk35 w11
  refine rv_aload_n h 31 dX11_losesToAll_31 0 rfl ?_
  refine rv_getr h 32 dX11_losesToAll_32 rv_s78 rv_fd_X11_7 rfl ?_
  refine rv_iconst h 35 dX11_losesToAll_35 rv_c1 ?_
  refine rv_iald h 36 dX11_losesToAll_36 rv_s79 ?_
  refine rv_callSi h 37 dX11_losesToAll_37 (fn_X11_many hJ (w11 79 (1 : Int32).toNatClampNeg)  w11) ce_X11_many lk_X11_105 rfl rfl (Nat.le_of_ble_eq_true rfl) ⟨Nat.le_of_ble_eq_true rfl, Nat.le_of_ble_eq_true rfl⟩ (fun r36 w37 => ?_)
  refine rv_iconst h 40 dX11_losesToAll_40 rv_c1 ?_
  refine rv_icmp_le (tgt := 48) h 41 dX11_losesToAll_41 (by decide) (fun _ => ?_) (fun _ => ?_)
  rotate_left
  · refine rv_sub h [0, 1, 2] rfl ?_
    exact hk35 w37
  refine rv_iconst h 44 dX11_losesToAll_44 rv_c1 ?_
  refine rv_goto (tgt := 49) h 45 dX11_losesToAll_45 (by decide) ?_
  refine rv_sub h [0, 1, 2] rfl ?_
  exact hk15 (1 : Int32) w37
def f_X11_isDominant (p1 : Int32) (w : rv_W) : rv_R :=
  rv_fx (fun _ _ _ => none) (fun (ag1 : Int32 → Int32 → rv_W → rv_R) (v3 : Int32) (v4 : Int32) (w5 : rv_W) =>
  if v4 < (25 : Int32) then
  rv_lt ((v4 / (5 : Int32))) (fun (v6 : Int32) =>
  rv_lt ((v4 - v4 / (5 : Int32) * (5 : Int32))) (fun (v7 : Int32) =>
  if v3 = 0 then
  rv_lt (v4 + (1 : Int32)) (fun (v8 : Int32) =>
  ag1 (0 : Int32) v8 w5)
  else
  rv_bd (f_X11_has p1 v6 w5) (fun (r9 : Int32) (w10 : rv_W) =>
  rv_jn (fun  (w11 : rv_W) =>
  rv_lt (v4 + (1 : Int32)) (fun (v14 : Int32) =>
  ag1 (1 : Int32) v14 w11)) (fun (k12 : rv_W → rv_R) =>
  if r9 = 0 then
  k12 w10
  else
  rv_ck (1 : Int32) 852 (
  rv_bd (f_X11_has ((w10 79 (1 : Int32).toNatClampNeg) &&& (p1 ^^^ (-1 : Int32))) v7 w10) (fun (r15 : Int32) (w16 : rv_W) =>
  if r15 = 0 then
  k12 w16
  else
  rv_bd (f_X11_beats v6 v7 w16) (fun (r17 : Int32) (w18 : rv_W) =>
  if r17 = 0 then
  rv_lt (v4 + (1 : Int32)) (fun (v19 : Int32) =>
  ag1 (0 : Int32) v19 w18)
  else
  k12 w18)))))))
  else
  rv_gd (v3 = 0 ∨ v3 = 1) (some (v3, w5))) rv_FU (1 : Int32) (0 : Int32) w
set_option maxRecDepth 100000 in
set_option maxHeartbeats 4000000 in
theorem fn_X11_isDominant {l : Launch} {D : va_G} {ad : Nat → Nat} {ca : Nat → ClassId} (hJ : rv_J ad) (p1 : Int32)  (w : rv_W) : rv_Fn l D ad ca yX11_isDominant cX11_isDominant 6 (some .boolean) 2 44 [.ref (ad 78), .int p1] w (f_X11_isDominant p1 w) := by
  refine rv_mk (lv := [(0, .ref (ad 78)), (1, .int p1)]) hJ (by decide +kernel) (Nat.le_of_ble_eq_true rfl) rfl (fun K h hr => ?_)
  have h : rv_Rl D ad ca l RX11 cX11_isDominant 6 2 44 K := h
  unfold f_X11_isDominant
  refine rv_iconst h 0 dX11_isDominant_0 rv_c1 ?_
  refine rv_istore_n (lv' := [(2, .int (1 : Int32)), (0, .ref (ad 78)), (1, .int p1)]) h 1 dX11_isDominant_1 (by decide) rfl ?_
  refine rv_iconst h 2 dX11_isDominant_2 rv_c0 ?_
  refine rv_istore_n (lv' := [(3, .int (0 : Int32)), (2, .int (1 : Int32)), (0, .ref (ad 78)), (1, .int p1)]) h 3 dX11_isDominant_3 (by decide) rfl ?_
  refine rv_sub h [2, 3, 1, 0] rfl ?_
  refine rv_fx_ind (fun (a0 : Int32 → Int32 → rv_W → rv_R) => ∀ (v3 : Int32) (v4 : Int32) (w5 : rv_W), K 4 [(0, .ref (ad 78)), (1, .int p1), (2, .int v3), (3, .int v4)] [] w5 (a0 v3 v4 w5)) (fun _ _ _ => rv_none h) (fun ag1 ih2 v3 v4 w5 => ?_) rv_FU (1 : Int32) (0 : Int32) w
  refine rv_iload_n h 4 dX11_isDominant_4 3 rfl ?_
  refine rv_bipush (v := 25) h 5 dX11_isDominant_5 (by decide +kernel) ?_
  refine rv_icmp_ge (tgt := 74) h 7 dX11_isDominant_7 (by decide) (fun _ => ?_) (fun _ => ?_)
  rotate_left
  · refine rv_iload_n h 74 dX11_isDominant_74 2 rfl ?_
    exact rv_retz h hr 75 dX11_isDominant_75
  refine rv_iload_n h 10 dX11_isDominant_10 3 rfl ?_
  refine rv_iconst h 11 dX11_isDominant_11 rv_c5 ?_
  refine rv_idiv h 12 dX11_isDominant_12 (by decide) ?_
  refine rv_top (fun v6 => ?_)
  refine rv_istore (lv' := [(4, .int v6), (0, .ref (ad 78)), (1, .int p1), (2, .int v3), (3, .int v4)]) h 13 dX11_isDominant_13 (by decide) rfl ?_
  refine rv_iload_n h 15 dX11_isDominant_15 4 rfl ?_
  refine rv_iconst h 16 dX11_isDominant_16 rv_c5 ?_
  refine rv_irem h 17 dX11_isDominant_17 (by decide) ?_
  refine rv_top (fun v7 => ?_)
  refine rv_istore (lv' := [(5, .int v7), (4, .int v6), (0, .ref (ad 78)), (1, .int p1), (2, .int v3), (3, .int v4)]) h 18 dX11_isDominant_18 (by decide) rfl ?_
  refine rv_iload_n h 20 dX11_isDominant_20 4 rfl ?_
  refine rv_if_eq (tgt := 66) h 21 dX11_isDominant_21 (by decide) (fun _ => ?_) (fun _ => ?_)
  · refine rv_iconst h 66 dX11_isDominant_66 rv_c0 ?_
    refine rv_istore_n (lv' := [(2, .int (0 : Int32)), (5, .int v7), (4, .int v6), (0, .ref (ad 78)), (1, .int p1), (3, .int v4)]) h 67 dX11_isDominant_67 (by decide) rfl ?_
    refine rv_iinc h 68 (fun v8 => [(3, .int v8), (2, .int (0 : Int32)), (5, .int v7), (4, .int v6), (0, .ref (ad 78)), (1, .int p1)]) dX11_isDominant_68 5 rfl rv_c1 (by decide) (fun _ => rfl) (fun v8 => ?_)
    refine rv_goto (tgt := 4) h 71 dX11_isDominant_71 (by decide) ?_
    refine rv_sub h [4, 5, 1, 0] rfl ?_
    exact ih2 (0 : Int32) v8 w5
  refine rv_iload_n h 24 dX11_isDominant_24 3 rfl ?_
  refine rv_iload h 25 dX11_isDominant_25 1 rfl ?_
  refine rv_callSi h 27 dX11_isDominant_27 (fn_X11_has hJ p1 v6  w5) ce_X11_has lk_X11_74 rfl rfl (Nat.le_of_ble_eq_true rfl) ⟨Nat.le_of_ble_eq_true rfl, Nat.le_of_ble_eq_true rfl⟩ (fun r9 w10 => ?_)
  refine rv_join (fun (k0 : rv_W → rv_R) => ∀  (w11 : rv_W), K 62 [(0, .ref (ad 78)), (1, .int p1), (3, .int v4)] ([]) w11 (k0 w11)) (fun w11 => ?_) (fun k12 hk13 => ?_)
  · refine rv_iconst h 62 dX11_isDominant_62 rv_c1 ?_
    refine rv_goto (tgt := 67) h 63 dX11_isDominant_63 (by decide) ?_
    refine rv_istore_n (lv' := [(2, .int (1 : Int32)), (0, .ref (ad 78)), (1, .int p1), (3, .int v4)]) h 67 dX11_isDominant_67 (by decide) rfl ?_
    refine rv_iinc h 68 (fun v14 => [(3, .int v14), (2, .int (1 : Int32)), (0, .ref (ad 78)), (1, .int p1)]) dX11_isDominant_68 3 rfl rv_c1 (by decide) (fun _ => rfl) (fun v14 => ?_)
    refine rv_goto (tgt := 4) h 71 dX11_isDominant_71 (by decide) ?_
    refine rv_sub h [2, 3, 1, 0] rfl ?_
    exact ih2 (1 : Int32) v14 w11
  refine rv_if_eq (tgt := 62) h 30 dX11_isDominant_30 (by decide) (fun _ => ?_) (fun _ => ?_)
  · refine rv_sub h [2, 3, 5] rfl ?_
    exact hk13 w10
  refine rv_aload_n h 33 dX11_isDominant_33 2 rfl ?_
  refine rv_getr h 34 dX11_isDominant_34 rv_s78 rv_fd_X11_7 rfl ?_
  refine rv_iconst h 37 dX11_isDominant_37 rv_c1 ?_
  refine rv_iald h 38 dX11_isDominant_38 rv_s79 ?_
  refine rv_iload_n h 39 dX11_isDominant_39 3 rfl ?_
  refine rv_iconst h 40 dX11_isDominant_40 rv_cm1 ?_
  refine rv_ixor h 41 dX11_isDominant_41 ?_
  refine rv_iand h 42 dX11_isDominant_42 ?_
  refine rv_iload h 43 dX11_isDominant_43 0 rfl ?_
  refine rv_callSi h 45 dX11_isDominant_45 (fn_X11_has hJ ((w10 79 (1 : Int32).toNatClampNeg) &&& (p1 ^^^ (-1 : Int32))) v7  w10) ce_X11_has lk_X11_74 rfl rfl (Nat.le_of_ble_eq_true rfl) ⟨Nat.le_of_ble_eq_true rfl, Nat.le_of_ble_eq_true rfl⟩ (fun r15 w16 => ?_)
  refine rv_if_eq (tgt := 62) h 48 dX11_isDominant_48 (by decide) (fun _ => ?_) (fun _ => ?_)
  · refine rv_sub h [2, 3, 5] rfl ?_
    exact hk13 w16
  refine rv_aload_n h 51 dX11_isDominant_51 2 rfl ?_
  refine rv_iload h 52 dX11_isDominant_52 1 rfl ?_
  refine rv_iload h 54 dX11_isDominant_54 0 rfl ?_
  refine rv_callVi h 56 dX11_isDominant_56 (fn_X11_beats hJ v6 v7  w16) ce_X11_beats lk_X11_95 rv_s78 rfl rv_cf9 rfl rfl (Nat.le_of_ble_eq_true rfl) ⟨Nat.le_of_ble_eq_true rfl, Nat.le_of_ble_eq_true rfl⟩ (fun r17 w18 => ?_)
  refine rv_if_eq (tgt := 66) h 59 dX11_isDominant_59 (by decide) (fun _ => ?_) (fun _ => ?_)
  rotate_left
  · refine rv_sub h [2, 3, 5] rfl ?_
    exact hk13 w18
  refine rv_iconst h 66 dX11_isDominant_66 rv_c0 ?_
  refine rv_istore_n (lv' := [(2, .int (0 : Int32)), (5, .int v7), (4, .int v6), (0, .ref (ad 78)), (1, .int p1), (3, .int v4)]) h 67 dX11_isDominant_67 (by decide) rfl ?_
  refine rv_iinc h 68 (fun v19 => [(3, .int v19), (2, .int (0 : Int32)), (5, .int v7), (4, .int v6), (0, .ref (ad 78)), (1, .int p1)]) dX11_isDominant_68 5 rfl rv_c1 (by decide) (fun _ => rfl) (fun v19 => ?_)
  refine rv_goto (tgt := 4) h 71 dX11_isDominant_71 (by decide) ?_
  refine rv_sub h [4, 5, 1, 0] rfl ?_
  exact ih2 (0 : Int32) v19 w18
def f_X11_smith  (w : rv_W) : rv_R :=
  rv_bd (f_X11_loads  w) (fun (r1 : Int32) (w2 : rv_W) =>
  rv_bd (f_X11_counts  w2) (fun (r3 : Int32) (w4 : rv_W) =>
  rv_ck (1 : Int32) 852 (
  rv_fx (fun _ _ _ => none) (fun (ag5 : Int32 → Int32 → rv_W → rv_R) (v7 : Int32) (v8 : Int32) (w9 : rv_W) =>
  if v8 < (32 : Int32) then
  rv_ck (1 : Int32) 852 (
  rv_jn (fun (v10 : Int32) (w11 : rv_W) =>
  if v10 = 0 then
  rv_lt (v8 + (1 : Int32)) (fun (v14 : Int32) =>
  ag5 v7 v14 w11)
  else
  rv_lt (v8 + (1 : Int32)) (fun (v15 : Int32) =>
  ag5 v8 v15 w11)) (fun (k12 : Int32 → rv_W → rv_R) =>
  rv_jn (fun  (w16 : rv_W) =>
  k12 (0 : Int32) w16) (fun (k17 : rv_W → rv_R) =>
  if (v8 &&& ((w9 79 (1 : Int32).toNatClampNeg) ^^^ (-1 : Int32))) = 0 then
  rv_bd (f_X11_many v8 w9) (fun (r19 : Int32) (w20 : rv_W) =>
  rv_bd (f_X11_many v7 w20) (fun (r21 : Int32) (w22 : rv_W) =>
  if r19 < r21 then
  rv_bd (f_X11_isDominant v8 w22) (fun (r23 : Int32) (w24 : rv_W) =>
  if r23 = 0 then
  k17 w24
  else
  k12 (1 : Int32) w24)
  else
  k17 w22))
  else
  k17 w9)))
  else
  some (v7, w9)) rv_FU (w4 79 (1 : Int32).toNatClampNeg) (1 : Int32) w4)))
set_option maxRecDepth 100000 in
set_option maxHeartbeats 4000000 in
theorem fn_X11_smith {l : Launch} {D : va_G} {ad : Nat → Nat} {ca : Nat → ClassId} (hJ : rv_J ad)   (w : rv_W) : rv_Fn l D ad ca yX11_smith cX11_smith 4 (some .int) 3 69 [.ref (ad 78)] w (f_X11_smith  w) := by
  refine rv_mk (lv := [(0, .ref (ad 78))]) hJ (by decide +kernel) (Nat.le_of_ble_eq_true rfl) rfl (fun K h hr => ?_)
  have h : rv_Rl D ad ca l RX11 cX11_smith 4 3 69 K := h
  unfold f_X11_smith
  refine rv_aload_n h 0 dX11_smith_0 0 rfl ?_
  refine rv_callVv h 1 dX11_smith_1 (fn_X11_loads hJ   w) ce_X11_loads lk_X11_208 rv_s78 rfl rv_cf9 rfl rfl (Nat.le_of_ble_eq_true rfl) ⟨Nat.le_of_ble_eq_true rfl, Nat.le_of_ble_eq_true rfl⟩ (fun r1 w2 => ?_)
  refine rv_aload_n h 4 dX11_smith_4 0 rfl ?_
  refine rv_callVv h 5 dX11_smith_5 (fn_X11_counts hJ   w2) ce_X11_counts lk_X11_166 rv_s78 rfl rv_cf9 rfl rfl (Nat.le_of_ble_eq_true rfl) ⟨Nat.le_of_ble_eq_true rfl, Nat.le_of_ble_eq_true rfl⟩ (fun r3 w4 => ?_)
  refine rv_aload_n h 8 dX11_smith_8 0 rfl ?_
  refine rv_getr h 9 dX11_smith_9 rv_s78 rv_fd_X11_7 rfl ?_
  refine rv_iconst h 12 dX11_smith_12 rv_c1 ?_
  refine rv_iald h 13 dX11_smith_13 rv_s79 ?_
  refine rv_istore_n (lv' := [(1, .int (w4 79 (1 : Int32).toNatClampNeg)), (0, .ref (ad 78))]) h 14 dX11_smith_14 (by decide) rfl ?_
  refine rv_iconst h 15 dX11_smith_15 rv_c1 ?_
  refine rv_istore_n (lv' := [(2, .int (1 : Int32)), (1, .int (w4 79 (1 : Int32).toNatClampNeg)), (0, .ref (ad 78))]) h 16 dX11_smith_16 (by decide) rfl ?_
  refine rv_sub h [2, 1, 0] rfl ?_
  refine rv_fx_ind (fun (a0 : Int32 → Int32 → rv_W → rv_R) => ∀ (v7 : Int32) (v8 : Int32) (w9 : rv_W), K 17 [(0, .ref (ad 78)), (1, .int v7), (2, .int v8)] [] w9 (a0 v7 v8 w9)) (fun _ _ _ => rv_none h) (fun ag5 ih6 v7 v8 w9 => ?_) rv_FU (w4 79 (1 : Int32).toNatClampNeg) (1 : Int32) w4
  refine rv_iload_n h 17 dX11_smith_17 2 rfl ?_
  refine rv_bipush (v := 32) h 18 dX11_smith_18 (by decide +kernel) ?_
  refine rv_icmp_ge (tgt := 77) h 20 dX11_smith_20 (by decide) (fun _ => ?_) (fun _ => ?_)
  rotate_left
  · refine rv_iload_n h 77 dX11_smith_77 1 rfl ?_
    exact rv_reti hr 78 dX11_smith_78
  refine rv_iload_n h 23 dX11_smith_23 2 rfl ?_
  refine rv_aload_n h 24 dX11_smith_24 0 rfl ?_
  refine rv_getr h 25 dX11_smith_25 rv_s78 rv_fd_X11_7 rfl ?_
  refine rv_iconst h 28 dX11_smith_28 rv_c1 ?_
  refine rv_iald h 29 dX11_smith_29 rv_s79 ?_
  refine rv_iconst h 30 dX11_smith_30 rv_cm1 ?_
  refine rv_ixor h 31 dX11_smith_31 ?_
  refine rv_iand h 32 dX11_smith_32 ?_
  refine rv_join (fun (k0 : Int32 → rv_W → rv_R) => ∀ (v10 : Int32) (w11 : rv_W), K 60 [(0, .ref (ad 78)), (1, .int v7), (2, .int v8)] (.int v10 :: []) w11 (k0 v10 w11)) (fun v10 w11 => ?_) (fun k12 hk13 => ?_)
  · refine rv_istore_n (lv' := [(3, .int v10), (0, .ref (ad 78)), (1, .int v7), (2, .int v8)]) h 60 dX11_smith_60 (by decide) rfl ?_
    refine rv_iload_n h 61 dX11_smith_61 0 rfl ?_
    refine rv_if_eq (tgt := 69) h 62 dX11_smith_62 (by decide) (fun _ => ?_) (fun _ => ?_)
    · refine rv_iload_n h 69 dX11_smith_69 2 rfl ?_
      refine rv_istore_n (lv' := [(1, .int v7), (3, .int v10), (0, .ref (ad 78)), (2, .int v8)]) h 70 dX11_smith_70 (by decide) rfl ?_
      refine rv_iinc h 71 (fun v14 => [(2, .int v14), (1, .int v7), (3, .int v10), (0, .ref (ad 78))]) dX11_smith_71 3 rfl rv_c1 (by decide) (fun _ => rfl) (fun v14 => ?_)
      refine rv_goto (tgt := 17) h 74 dX11_smith_74 (by decide) ?_
      refine rv_sub h [3, 1, 0] rfl ?_
      exact ih6 v7 v14 w11
    refine rv_iload_n h 65 dX11_smith_65 3 rfl ?_
    refine rv_goto (tgt := 70) h 66 dX11_smith_66 (by decide) ?_
    refine rv_istore_n (lv' := [(1, .int v8), (3, .int v10), (0, .ref (ad 78)), (2, .int v8)]) h 70 dX11_smith_70 (by decide) rfl ?_
    refine rv_iinc h 71 (fun v15 => [(2, .int v15), (1, .int v8), (3, .int v10), (0, .ref (ad 78))]) dX11_smith_71 3 rfl rv_c1 (by decide) (fun _ => rfl) (fun v15 => ?_)
    refine rv_goto (tgt := 17) h 74 dX11_smith_74 (by decide) ?_
    refine rv_sub h [3, 1, 0] rfl ?_
    exact ih6 v8 v15 w11
  refine rv_join (fun (k0 : rv_W → rv_R) => ∀  (w16 : rv_W), K 59 [(0, .ref (ad 78)), (1, .int v7), (2, .int v8)] ([]) w16 (k0 w16)) (fun w16 => ?_) (fun k17 hk18 => ?_)
  · refine rv_iconst h 59 dX11_smith_59 rv_c0 ?_
    refine rv_sub h [0, 1, 2] rfl ?_
    exact hk13 (0 : Int32) w16
  refine rv_if_ne (tgt := 59) h 33 dX11_smith_33 (by decide) (fun _ => ?_) (fun _ => ?_)
  rotate_left
  · refine rv_sub h [0, 1, 2] rfl ?_
    exact hk18 w9
  refine rv_iload_n h 36 dX11_smith_36 2 rfl ?_
  refine rv_callSi h 37 dX11_smith_37 (fn_X11_many hJ v8  w9) ce_X11_many lk_X11_105 rfl rfl (Nat.le_of_ble_eq_true rfl) ⟨Nat.le_of_ble_eq_true rfl, Nat.le_of_ble_eq_true rfl⟩ (fun r19 w20 => ?_)
  refine rv_iload_n h 40 dX11_smith_40 1 rfl ?_
  refine rv_callSi h 41 dX11_smith_41 (fn_X11_many hJ v7  w20) ce_X11_many lk_X11_105 rfl rfl (Nat.le_of_ble_eq_true rfl) ⟨Nat.le_of_ble_eq_true rfl, Nat.le_of_ble_eq_true rfl⟩ (fun r21 w22 => ?_)
  refine rv_icmp_ge (tgt := 59) h 44 dX11_smith_44 (by decide) (fun _ => ?_) (fun _ => ?_)
  rotate_left
  · refine rv_sub h [0, 1, 2] rfl ?_
    exact hk18 w22
  refine rv_aload_n h 47 dX11_smith_47 0 rfl ?_
  refine rv_iload_n h 48 dX11_smith_48 2 rfl ?_
  refine rv_callVi h 49 dX11_smith_49 (fn_X11_isDominant hJ v8  w22) ce_X11_isDominant lk_X11_251 rv_s78 rfl rv_cf9 rfl rfl (Nat.le_of_ble_eq_true rfl) ⟨Nat.le_of_ble_eq_true rfl, Nat.le_of_ble_eq_true rfl⟩ (fun r23 w24 => ?_)
  refine rv_if_eq (tgt := 59) h 52 dX11_smith_52 (by decide) (fun _ => ?_) (fun _ => ?_)
  · refine rv_sub h [0, 1, 2] rfl ?_
    exact hk18 w24
  refine rv_iconst h 55 dX11_smith_55 rv_c1 ?_
  refine rv_goto (tgt := 60) h 56 dX11_smith_56 (by decide) ?_
  refine rv_sub h [0, 1, 2] rfl ?_
  exact hk13 (1 : Int32) w24
def f_X11_strength (p1 : Int32) (p2 : Int32) (w : rv_W) : rv_R :=
  rv_bd (f_X11_noPair p1 p2 w) (fun (r1 : Int32) (w2 : rv_W) =>
  rv_jn (fun  (w3 : rv_W) =>
  if r1 < 0 then
  some (r1, w3)
  else
  some ((-1000003 : Int32), w3)) (fun (k4 : rv_W → rv_R) =>
  if r1 < 0 then
  k4 w2
  else
  if p1 = p2 then
  k4 w2
  else
  rv_bd (f_X11_loads  w2) (fun (r6 : Int32) (w7 : rv_W) =>
  rv_bd (f_X11_counts  w7) (fun (r8 : Int32) (w9 : rv_W) =>
  rv_ck (1 : Int32) 852 (
  rv_bd (f_X11_strengths (w9 79 (1 : Int32).toNatClampNeg) w9) (fun (r10 : Int32) (w11 : rv_W) =>
  rv_ck (((5 : Int32) * p1) + p2) 25 (
  some ((w11 85 (((5 : Int32) * p1) + p2).toNatClampNeg), w11))))))))
set_option maxRecDepth 100000 in
set_option maxHeartbeats 4000000 in
theorem fn_X11_strength {l : Launch} {D : va_G} {ad : Nat → Nat} {ca : Nat → ClassId} (hJ : rv_J ad) (p1 : Int32) (p2 : Int32)  (w : rv_W) : rv_Fn l D ad ca yX11_strength cX11_strength 4 (some .int) 3 70 [.ref (ad 78), .int p1, .int p2] w (f_X11_strength p1 p2 w) := by
  refine rv_mk (lv := [(0, .ref (ad 78)), (1, .int p1), (2, .int p2)]) hJ (by decide +kernel) (Nat.le_of_ble_eq_true rfl) rfl (fun K h hr => ?_)
  have h : rv_Rl D ad ca l RX11 cX11_strength 4 3 70 K := h
  unfold f_X11_strength
  refine rv_aload_n h 0 dX11_strength_0 0 rfl ?_
  refine rv_iload_n h 1 dX11_strength_1 1 rfl ?_
  refine rv_iload_n h 2 dX11_strength_2 2 rfl ?_
  refine rv_callVi h 3 dX11_strength_3 (fn_X11_noPair hJ p1 p2  w) ce_X11_noPair lk_X11_241 rv_s78 rfl rv_cf9 rfl rfl (Nat.le_of_ble_eq_true rfl) ⟨Nat.le_of_ble_eq_true rfl, Nat.le_of_ble_eq_true rfl⟩ (fun r1 w2 => ?_)
  refine rv_istore_n (lv' := [(3, .int r1), (0, .ref (ad 78)), (1, .int p1), (2, .int p2)]) h 6 dX11_strength_6 (by decide) rfl ?_
  refine rv_iload_n h 7 dX11_strength_7 0 rfl ?_
  refine rv_join (fun (k0 : rv_W → rv_R) => ∀  (w3 : rv_W), K 16 [(3, .int r1)] ([]) w3 (k0 w3)) (fun w3 => ?_) (fun k4 hk5 => ?_)
  · refine rv_iload_n h 16 dX11_strength_16 0 rfl ?_
    refine rv_if_ge (tgt := 24) h 17 dX11_strength_17 (by decide) (fun _ => ?_) (fun _ => ?_)
    rotate_left
    · refine rv_ldc h 24 dX11_strength_24 rv_kc_X11_240 ?_
      exact rv_reti hr 26 dX11_strength_26
    refine rv_iload_n h 20 dX11_strength_20 0 rfl ?_
    refine rv_goto (tgt := 26) h 21 dX11_strength_21 (by decide) ?_
    exact rv_reti hr 26 dX11_strength_26
  refine rv_if_lt (tgt := 16) h 8 dX11_strength_8 (by decide) (fun _ => ?_) (fun _ => ?_)
  · refine rv_sub h [0] rfl ?_
    exact hk5 w2
  refine rv_iload_n h 11 dX11_strength_11 2 rfl ?_
  refine rv_iload_n h 12 dX11_strength_12 3 rfl ?_
  refine rv_icmp_ne (tgt := 27) h 13 dX11_strength_13 (by decide) (fun _ => ?_) (fun _ => ?_)
  · refine rv_sub h [0] rfl ?_
    exact hk5 w2
  refine rv_aload_n h 27 dX11_strength_27 1 rfl ?_
  refine rv_callVv h 28 dX11_strength_28 (fn_X11_loads hJ   w2) ce_X11_loads lk_X11_208 rv_s78 rfl rv_cf9 rfl rfl (Nat.le_of_ble_eq_true rfl) ⟨Nat.le_of_ble_eq_true rfl, Nat.le_of_ble_eq_true rfl⟩ (fun r6 w7 => ?_)
  refine rv_aload_n h 31 dX11_strength_31 1 rfl ?_
  refine rv_callVv h 32 dX11_strength_32 (fn_X11_counts hJ   w7) ce_X11_counts lk_X11_166 rv_s78 rfl rv_cf9 rfl rfl (Nat.le_of_ble_eq_true rfl) ⟨Nat.le_of_ble_eq_true rfl, Nat.le_of_ble_eq_true rfl⟩ (fun r8 w9 => ?_)
  refine rv_aload_n h 35 dX11_strength_35 1 rfl ?_
  refine rv_aload_n h 36 dX11_strength_36 1 rfl ?_
  refine rv_getr h 37 dX11_strength_37 rv_s78 rv_fd_X11_7 rfl ?_
  refine rv_iconst h 40 dX11_strength_40 rv_c1 ?_
  refine rv_iald h 41 dX11_strength_41 rv_s79 ?_
  refine rv_callVv h 42 dX11_strength_42 (fn_X11_strengths hJ (w9 79 (1 : Int32).toNatClampNeg)  w9) ce_X11_strengths lk_X11_122 rv_s78 rfl rv_cf9 rfl rfl (Nat.le_of_ble_eq_true rfl) ⟨Nat.le_of_ble_eq_true rfl, Nat.le_of_ble_eq_true rfl⟩ (fun r10 w11 => ?_)
  refine rv_aload_n h 45 dX11_strength_45 1 rfl ?_
  refine rv_getr h 46 dX11_strength_46 rv_s78 rv_fd_X11_28 rfl ?_
  refine rv_iconst h 49 dX11_strength_49 rv_c5 ?_
  refine rv_iload_n h 50 dX11_strength_50 2 rfl ?_
  refine rv_imul h 51 dX11_strength_51 ?_
  refine rv_iload_n h 52 dX11_strength_52 3 rfl ?_
  refine rv_iadd h 53 dX11_strength_53 ?_
  refine rv_iald h 54 dX11_strength_54 rv_s85 ?_
  exact rv_reti hr 55 dX11_strength_55
def f_X11_isLocked (p1 : Int32) (p2 : Int32) (w : rv_W) : rv_R :=
  rv_bd (f_X11_noPair p1 p2 w) (fun (r1 : Int32) (w2 : rv_W) =>
  if r1 < 0 then
  some (r1, w2)
  else
  rv_bd (f_X11_loads  w2) (fun (r3 : Int32) (w4 : rv_W) =>
  rv_bd (f_X11_counts  w4) (fun (r5 : Int32) (w6 : rv_W) =>
  rv_ck (1 : Int32) 852 (
  rv_bd (f_X11_locksAll (w6 79 (1 : Int32).toNatClampNeg) w6) (fun (r7 : Int32) (w8 : rv_W) =>
  rv_ck (((5 : Int32) * p1) + p2) 25 (
  if (w8 86 (((5 : Int32) * p1) + p2).toNatClampNeg) = 0 then
  some ((0 : Int32), w8)
  else
  some ((1 : Int32), w8)))))))
set_option maxRecDepth 100000 in
set_option maxHeartbeats 4000000 in
theorem fn_X11_isLocked {l : Launch} {D : va_G} {ad : Nat → Nat} {ca : Nat → ClassId} (hJ : rv_J ad) (p1 : Int32) (p2 : Int32)  (w : rv_W) : rv_Fn l D ad ca yX11_isLocked cX11_isLocked 4 (some .int) 3 65 [.ref (ad 78), .int p1, .int p2] w (f_X11_isLocked p1 p2 w) := by
  refine rv_mk (lv := [(0, .ref (ad 78)), (1, .int p1), (2, .int p2)]) hJ (by decide +kernel) (Nat.le_of_ble_eq_true rfl) rfl (fun K h hr => ?_)
  have h : rv_Rl D ad ca l RX11 cX11_isLocked 4 3 65 K := h
  unfold f_X11_isLocked
  refine rv_aload_n h 0 dX11_isLocked_0 0 rfl ?_
  refine rv_iload_n h 1 dX11_isLocked_1 1 rfl ?_
  refine rv_iload_n h 2 dX11_isLocked_2 2 rfl ?_
  refine rv_callVi h 3 dX11_isLocked_3 (fn_X11_noPair hJ p1 p2  w) ce_X11_noPair lk_X11_241 rv_s78 rfl rv_cf9 rfl rfl (Nat.le_of_ble_eq_true rfl) ⟨Nat.le_of_ble_eq_true rfl, Nat.le_of_ble_eq_true rfl⟩ (fun r1 w2 => ?_)
  refine rv_istore_n (lv' := [(3, .int r1), (0, .ref (ad 78)), (1, .int p1), (2, .int p2)]) h 6 dX11_isLocked_6 (by decide) rfl ?_
  refine rv_iload_n h 7 dX11_isLocked_7 0 rfl ?_
  refine rv_if_ge (tgt := 13) h 8 dX11_isLocked_8 (by decide) (fun _ => ?_) (fun _ => ?_)
  · refine rv_iload_n h 11 dX11_isLocked_11 0 rfl ?_
    exact rv_reti hr 12 dX11_isLocked_12
  refine rv_aload_n h 13 dX11_isLocked_13 1 rfl ?_
  refine rv_callVv h 14 dX11_isLocked_14 (fn_X11_loads hJ   w2) ce_X11_loads lk_X11_208 rv_s78 rfl rv_cf9 rfl rfl (Nat.le_of_ble_eq_true rfl) ⟨Nat.le_of_ble_eq_true rfl, Nat.le_of_ble_eq_true rfl⟩ (fun r3 w4 => ?_)
  refine rv_aload_n h 17 dX11_isLocked_17 1 rfl ?_
  refine rv_callVv h 18 dX11_isLocked_18 (fn_X11_counts hJ   w4) ce_X11_counts lk_X11_166 rv_s78 rfl rv_cf9 rfl rfl (Nat.le_of_ble_eq_true rfl) ⟨Nat.le_of_ble_eq_true rfl, Nat.le_of_ble_eq_true rfl⟩ (fun r5 w6 => ?_)
  refine rv_aload_n h 21 dX11_isLocked_21 1 rfl ?_
  refine rv_aload_n h 22 dX11_isLocked_22 1 rfl ?_
  refine rv_getr h 23 dX11_isLocked_23 rv_s78 rv_fd_X11_7 rfl ?_
  refine rv_iconst h 26 dX11_isLocked_26 rv_c1 ?_
  refine rv_iald h 27 dX11_isLocked_27 rv_s79 ?_
  refine rv_callVv h 28 dX11_isLocked_28 (fn_X11_locksAll hJ (w6 79 (1 : Int32).toNatClampNeg)  w6) ce_X11_locksAll lk_X11_128 rv_s78 rfl rv_cf9 rfl rfl (Nat.le_of_ble_eq_true rfl) ⟨Nat.le_of_ble_eq_true rfl, Nat.le_of_ble_eq_true rfl⟩ (fun r7 w8 => ?_)
  refine rv_aload_n h 31 dX11_isLocked_31 1 rfl ?_
  refine rv_getr h 32 dX11_isLocked_32 rv_s78 rv_fd_X11_31 rfl ?_
  refine rv_iconst h 35 dX11_isLocked_35 rv_c5 ?_
  refine rv_iload_n h 36 dX11_isLocked_36 2 rfl ?_
  refine rv_imul h 37 dX11_isLocked_37 ?_
  refine rv_iload_n h 38 dX11_isLocked_38 3 rfl ?_
  refine rv_iadd h 39 dX11_isLocked_39 ?_
  refine rv_zald h 40 dX11_isLocked_40 rv_s86 ?_
  refine rv_if_eq (tgt := 48) h 41 dX11_isLocked_41 (by decide) (fun _ => ?_) (fun _ => ?_)
  · refine rv_iconst h 48 dX11_isLocked_48 rv_c0 ?_
    exact rv_reti hr 49 dX11_isLocked_49
  refine rv_iconst h 44 dX11_isLocked_44 rv_c1 ?_
  refine rv_goto (tgt := 49) h 45 dX11_isLocked_45 (by decide) ?_
  exact rv_reti hr 49 dX11_isLocked_49
def f_X11_hasRounds (p1 : Int32) (w : rv_W) : rv_R :=
  rv_jn (fun  (w1 : rv_W) =>
  some ((1 : Int32), w1)) (fun (k2 : rv_W → rv_R) =>
  if p1 = (6 : Int32) then
  k2 w
  else
  if p1 = (7 : Int32) then
  k2 w
  else
  some ((0 : Int32), w))
set_option maxRecDepth 100000 in
set_option maxHeartbeats 4000000 in
theorem fn_X11_hasRounds {l : Launch} {D : va_G} {ad : Nat → Nat} {ca : Nat → ClassId} (hJ : rv_J ad) (p1 : Int32)  (w : rv_W) : rv_Fn l D ad ca yX11_hasRounds cX11_hasRounds 1 (some .boolean) 0 0 [.int p1] w (f_X11_hasRounds p1 w) := by
  refine rv_mk (lv := [(0, .int p1)]) hJ (by decide +kernel) (Nat.le_of_ble_eq_true rfl) rfl (fun K h hr => ?_)
  have h : rv_Rl D ad ca l RX11 cX11_hasRounds 1 0 0 K := h
  unfold f_X11_hasRounds
  refine rv_iload_n h 0 dX11_hasRounds_0 0 rfl ?_
  refine rv_bipush (v := 6) h 1 dX11_hasRounds_1 (by decide +kernel) ?_
  refine rv_join (fun (k0 : rv_W → rv_R) => ∀  (w1 : rv_W), K 12 [] ([]) w1 (k0 w1)) (fun w1 => ?_) (fun k2 hk3 => ?_)
  · refine rv_iconst h 12 dX11_hasRounds_12 rv_c1 ?_
    refine rv_goto (tgt := 17) h 13 dX11_hasRounds_13 (by decide) ?_
    exact rv_retz1 hr 17 dX11_hasRounds_17
  refine rv_icmp_eq (tgt := 12) h 3 dX11_hasRounds_3 (by decide) (fun _ => ?_) (fun _ => ?_)
  · refine rv_sub h [] rfl ?_
    exact hk3 w
  refine rv_iload_n h 6 dX11_hasRounds_6 0 rfl ?_
  refine rv_bipush (v := 7) h 7 dX11_hasRounds_7 (by decide +kernel) ?_
  refine rv_icmp_ne (tgt := 16) h 9 dX11_hasRounds_9 (by decide) (fun _ => ?_) (fun _ => ?_)
  · refine rv_sub h [] rfl ?_
    exact hk3 w
  refine rv_iconst h 16 dX11_hasRounds_16 rv_c0 ?_
  exact rv_retz0 hr 17 dX11_hasRounds_17
def f_X11_rounds (p1 : Int32) (w : rv_W) : rv_R :=
  rv_bd (f_X11_isRule p1 w) (fun (r1 : Int32) (w2 : rv_W) =>
  if r1 = 0 then
  some ((-1000001 : Int32), w2)
  else
  rv_bd (f_X11_hasRounds p1 w2) (fun (r3 : Int32) (w4 : rv_W) =>
  if r3 = 0 then
  some ((-1000003 : Int32), w4)
  else
  rv_bd (f_X11_now p1 w4) (fun (r5 : Int32) (w6 : rv_W) =>
  some ((w6 78 15), w6))))
set_option maxRecDepth 100000 in
set_option maxHeartbeats 4000000 in
theorem fn_X11_rounds {l : Launch} {D : va_G} {ad : Nat → Nat} {ca : Nat → ClassId} (hJ : rv_J ad) (p1 : Int32)  (w : rv_W) : rv_Fn l D ad ca yX11_rounds cX11_rounds 3 (some .int) 8 188 [.ref (ad 78), .int p1] w (f_X11_rounds p1 w) := by
  refine rv_mk (lv := [(0, .ref (ad 78)), (1, .int p1)]) hJ (by decide +kernel) (Nat.le_of_ble_eq_true rfl) rfl (fun K h hr => ?_)
  have h : rv_Rl D ad ca l RX11 cX11_rounds 3 8 188 K := h
  unfold f_X11_rounds
  refine rv_iload_n h 0 dX11_rounds_0 1 rfl ?_
  refine rv_callSi h 1 dX11_rounds_1 (fn_X11_isRule hJ p1  w) ce_X11_isRule lk_X11_244 rfl rfl (Nat.le_of_ble_eq_true rfl) ⟨Nat.le_of_ble_eq_true rfl, Nat.le_of_ble_eq_true rfl⟩ (fun r1 w2 => ?_)
  refine rv_if_ne (tgt := 10) h 4 dX11_rounds_4 (by decide) (fun _ => ?_) (fun _ => ?_)
  · refine rv_ldc h 7 dX11_rounds_7 rv_kc_X11_236 ?_
    exact rv_reti hr 9 dX11_rounds_9
  refine rv_iload_n h 10 dX11_rounds_10 1 rfl ?_
  refine rv_callSi h 11 dX11_rounds_11 (fn_X11_hasRounds hJ p1  w2) ce_X11_hasRounds lk_X11_254 rfl rfl (Nat.le_of_ble_eq_true rfl) ⟨Nat.le_of_ble_eq_true rfl, Nat.le_of_ble_eq_true rfl⟩ (fun r3 w4 => ?_)
  refine rv_if_ne (tgt := 20) h 14 dX11_rounds_14 (by decide) (fun _ => ?_) (fun _ => ?_)
  · refine rv_ldc h 17 dX11_rounds_17 rv_kc_X11_240 ?_
    exact rv_reti hr 19 dX11_rounds_19
  refine rv_aload_n h 20 dX11_rounds_20 0 rfl ?_
  refine rv_iload_n h 21 dX11_rounds_21 1 rfl ?_
  refine rv_callVi h 22 dX11_rounds_22 (fn_X11_now hJ p1  w4) ce_X11_now lk_X11_247 rv_s78 rfl rv_cf9 rfl rfl (Nat.le_of_ble_eq_true rfl) ⟨Nat.le_of_ble_eq_true rfl, Nat.le_of_ble_eq_true rfl⟩ (fun r5 w6 => ?_)
  refine rv_istore_n (lv' := [(2, .int r5), (0, .ref (ad 78)), (1, .int p1)]) h 25 dX11_rounds_25 (by decide) rfl ?_
  refine rv_aload_n h 26 dX11_rounds_26 1 rfl ?_
  refine rv_geti h 27 dX11_rounds_27 rv_s78 rv_fd_X11_131 rfl ?_
  exact rv_reti hr 30 dX11_rounds_30
def f_X11_leaves (p1 : Int32) (p2 : Int32) (w : rv_W) : rv_R :=
  rv_bd (f_X11_rounds p1 w) (fun (r1 : Int32) (w2 : rv_W) =>
  if r1 < 0 then
  some (r1, w2)
  else
  rv_bd (f_X11_in p2 (0 : Int32) (r1 - (1 : Int32)) w2) (fun (r3 : Int32) (w4 : rv_W) =>
  if r3 = 0 then
  some ((-1000001 : Int32), w4)
  else
  rv_ck p2 5 (
  some ((w4 88 p2.toNatClampNeg), w4))))
set_option maxRecDepth 100000 in
set_option maxHeartbeats 4000000 in
theorem fn_X11_leaves {l : Launch} {D : va_G} {ad : Nat → Nat} {ca : Nat → ClassId} (hJ : rv_J ad) (p1 : Int32) (p2 : Int32)  (w : rv_W) : rv_Fn l D ad ca yX11_leaves cX11_leaves 4 (some .int) 9 210 [.ref (ad 78), .int p1, .int p2] w (f_X11_leaves p1 p2 w) := by
  refine rv_mk (lv := [(0, .ref (ad 78)), (1, .int p1), (2, .int p2)]) hJ (by decide +kernel) (Nat.le_of_ble_eq_true rfl) rfl (fun K h hr => ?_)
  have h : rv_Rl D ad ca l RX11 cX11_leaves 4 9 210 K := h
  unfold f_X11_leaves
  refine rv_aload_n h 0 dX11_leaves_0 0 rfl ?_
  refine rv_iload_n h 1 dX11_leaves_1 1 rfl ?_
  refine rv_callVi h 2 dX11_leaves_2 (fn_X11_rounds hJ p1  w) ce_X11_rounds lk_X11_257 rv_s78 rfl rv_cf9 rfl rfl (Nat.le_of_ble_eq_true rfl) ⟨Nat.le_of_ble_eq_true rfl, Nat.le_of_ble_eq_true rfl⟩ (fun r1 w2 => ?_)
  refine rv_istore_n (lv' := [(3, .int r1), (0, .ref (ad 78)), (1, .int p1), (2, .int p2)]) h 5 dX11_leaves_5 (by decide) rfl ?_
  refine rv_iload_n h 6 dX11_leaves_6 0 rfl ?_
  refine rv_if_ge (tgt := 12) h 7 dX11_leaves_7 (by decide) (fun _ => ?_) (fun _ => ?_)
  · refine rv_iload_n h 10 dX11_leaves_10 0 rfl ?_
    exact rv_reti hr 11 dX11_leaves_11
  refine rv_iload_n h 12 dX11_leaves_12 3 rfl ?_
  refine rv_iconst h 13 dX11_leaves_13 rv_c0 ?_
  refine rv_iload_n h 14 dX11_leaves_14 0 rfl ?_
  refine rv_iconst h 15 dX11_leaves_15 rv_c1 ?_
  refine rv_isub h 16 dX11_leaves_16 ?_
  refine rv_callSi h 17 dX11_leaves_17 (fn_X11_in hJ p2 (0 : Int32) (r1 - (1 : Int32))  w2) ce_X11_in lk_X11_70 rfl rfl (Nat.le_of_ble_eq_true rfl) ⟨Nat.le_of_ble_eq_true rfl, Nat.le_of_ble_eq_true rfl⟩ (fun r3 w4 => ?_)
  refine rv_if_eq (tgt := 32) h 20 dX11_leaves_20 (by decide) (fun _ => ?_) (fun _ => ?_)
  · refine rv_ldc h 32 dX11_leaves_32 rv_kc_X11_236 ?_
    exact rv_reti hr 34 dX11_leaves_34
  refine rv_aload_n h 23 dX11_leaves_23 1 rfl ?_
  refine rv_getr h 24 dX11_leaves_24 rv_s78 rv_fd_X11_38 rfl ?_
  refine rv_iload_n h 27 dX11_leaves_27 3 rfl ?_
  refine rv_iald h 28 dX11_leaves_28 rv_s88 ?_
  refine rv_goto (tgt := 34) h 29 dX11_leaves_29 (by decide) ?_
  exact rv_reti hr 34 dX11_leaves_34
def f_X11_tally (p1 : Int32) (p2 : Int32) (p3 : Int32) (w : rv_W) : rv_R :=
  rv_bd (f_X11_isRule p1 w) (fun (r1 : Int32) (w2 : rv_W) =>
  if r1 = 0 then
  some ((-1000001 : Int32), w2)
  else
  rv_bd (f_X11_isCandidate p3 w2) (fun (r3 : Int32) (w4 : rv_W) =>
  if r3 = 0 then
  some ((-1000001 : Int32), w4)
  else
  rv_bd (f_X11_rounds p1 w4) (fun (r5 : Int32) (w6 : rv_W) =>
  if r5 < 0 then
  some (r5, w6)
  else
  rv_bd (f_X11_in p2 (0 : Int32) (r5 - (1 : Int32)) w6) (fun (r7 : Int32) (w8 : rv_W) =>
  if r7 = 0 then
  some ((-1000001 : Int32), w8)
  else
  rv_ck p2 5 (
  rv_bd (f_X11_has (w8 90 p2.toNatClampNeg) p3 w8) (fun (r9 : Int32) (w10 : rv_W) =>
  if r9 = 0 then
  some ((-1000000 : Int32), w10)
  else
  rv_ck (((5 : Int32) * p2) + p3) 25 (
  some ((w10 89 (((5 : Int32) * p2) + p3).toNatClampNeg), w10))))))))
set_option maxRecDepth 100000 in
set_option maxHeartbeats 4000000 in
theorem fn_X11_tally {l : Launch} {D : va_G} {ad : Nat → Nat} {ca : Nat → ClassId} (hJ : rv_J ad) (p1 : Int32) (p2 : Int32) (p3 : Int32)  (w : rv_W) : rv_Fn l D ad ca yX11_tally cX11_tally 5 (some .int) 9 210 [.ref (ad 78), .int p1, .int p2, .int p3] w (f_X11_tally p1 p2 p3 w) := by
  refine rv_mk (lv := [(0, .ref (ad 78)), (1, .int p1), (2, .int p2), (3, .int p3)]) hJ (by decide +kernel) (Nat.le_of_ble_eq_true rfl) rfl (fun K h hr => ?_)
  have h : rv_Rl D ad ca l RX11 cX11_tally 5 9 210 K := h
  unfold f_X11_tally
  refine rv_iload_n h 0 dX11_tally_0 1 rfl ?_
  refine rv_callSi h 1 dX11_tally_1 (fn_X11_isRule hJ p1  w) ce_X11_isRule lk_X11_244 rfl rfl (Nat.le_of_ble_eq_true rfl) ⟨Nat.le_of_ble_eq_true rfl, Nat.le_of_ble_eq_true rfl⟩ (fun r1 w2 => ?_)
  refine rv_if_eq (tgt := 14) h 4 dX11_tally_4 (by decide) (fun _ => ?_) (fun _ => ?_)
  · refine rv_ldc h 14 dX11_tally_14 rv_kc_X11_236 ?_
    exact rv_reti hr 16 dX11_tally_16
  refine rv_iload_n h 7 dX11_tally_7 3 rfl ?_
  refine rv_callSi h 8 dX11_tally_8 (fn_X11_isCandidate hJ p3  w2) ce_X11_isCandidate lk_X11_214 rfl rfl (Nat.le_of_ble_eq_true rfl) ⟨Nat.le_of_ble_eq_true rfl, Nat.le_of_ble_eq_true rfl⟩ (fun r3 w4 => ?_)
  refine rv_if_ne (tgt := 17) h 11 dX11_tally_11 (by decide) (fun _ => ?_) (fun _ => ?_)
  · refine rv_ldc h 14 dX11_tally_14 rv_kc_X11_236 ?_
    exact rv_reti hr 16 dX11_tally_16
  refine rv_aload_n h 17 dX11_tally_17 0 rfl ?_
  refine rv_iload_n h 18 dX11_tally_18 1 rfl ?_
  refine rv_callVi h 19 dX11_tally_19 (fn_X11_rounds hJ p1  w4) ce_X11_rounds lk_X11_257 rv_s78 rfl rv_cf9 rfl rfl (Nat.le_of_ble_eq_true rfl) ⟨Nat.le_of_ble_eq_true rfl, Nat.le_of_ble_eq_true rfl⟩ (fun r5 w6 => ?_)
  refine rv_istore (lv' := [(4, .int r5), (0, .ref (ad 78)), (1, .int p1), (2, .int p2), (3, .int p3)]) h 22 dX11_tally_22 (by decide) rfl ?_
  refine rv_iload h 24 dX11_tally_24 0 rfl ?_
  refine rv_if_ge (tgt := 32) h 26 dX11_tally_26 (by decide) (fun _ => ?_) (fun _ => ?_)
  · refine rv_iload h 29 dX11_tally_29 0 rfl ?_
    exact rv_reti hr 31 dX11_tally_31
  refine rv_iload_n h 32 dX11_tally_32 3 rfl ?_
  refine rv_iconst h 33 dX11_tally_33 rv_c0 ?_
  refine rv_iload h 34 dX11_tally_34 0 rfl ?_
  refine rv_iconst h 36 dX11_tally_36 rv_c1 ?_
  refine rv_isub h 37 dX11_tally_37 ?_
  refine rv_callSi h 38 dX11_tally_38 (fn_X11_in hJ p2 (0 : Int32) (r5 - (1 : Int32))  w6) ce_X11_in lk_X11_70 rfl rfl (Nat.le_of_ble_eq_true rfl) ⟨Nat.le_of_ble_eq_true rfl, Nat.le_of_ble_eq_true rfl⟩ (fun r7 w8 => ?_)
  refine rv_if_ne (tgt := 47) h 41 dX11_tally_41 (by decide) (fun _ => ?_) (fun _ => ?_)
  · refine rv_ldc h 44 dX11_tally_44 rv_kc_X11_236 ?_
    exact rv_reti hr 46 dX11_tally_46
  refine rv_aload_n h 47 dX11_tally_47 1 rfl ?_
  refine rv_getr h 48 dX11_tally_48 rv_s78 rv_fd_X11_44 rfl ?_
  refine rv_iload_n h 51 dX11_tally_51 3 rfl ?_
  refine rv_iald h 52 dX11_tally_52 rv_s90 ?_
  refine rv_iload_n h 53 dX11_tally_53 4 rfl ?_
  refine rv_callSi h 54 dX11_tally_54 (fn_X11_has hJ (w8 90 p2.toNatClampNeg) p3  w8) ce_X11_has lk_X11_74 rfl rfl (Nat.le_of_ble_eq_true rfl) ⟨Nat.le_of_ble_eq_true rfl, Nat.le_of_ble_eq_true rfl⟩ (fun r9 w10 => ?_)
  refine rv_if_eq (tgt := 73) h 57 dX11_tally_57 (by decide) (fun _ => ?_) (fun _ => ?_)
  · refine rv_ldc h 73 dX11_tally_73 rv_kc_X11_250 ?_
    exact rv_reti hr 75 dX11_tally_75
  refine rv_aload_n h 60 dX11_tally_60 1 rfl ?_
  refine rv_getr h 61 dX11_tally_61 rv_s78 rv_fd_X11_41 rfl ?_
  refine rv_iconst h 64 dX11_tally_64 rv_c5 ?_
  refine rv_iload_n h 65 dX11_tally_65 3 rfl ?_
  refine rv_imul h 66 dX11_tally_66 ?_
  refine rv_iload_n h 67 dX11_tally_67 4 rfl ?_
  refine rv_iadd h 68 dX11_tally_68 ?_
  refine rv_iald h 69 dX11_tally_69 rv_s89 ?_
  refine rv_goto (tgt := 75) h 70 dX11_tally_70 (by decide) ?_
  exact rv_reti hr 75 dX11_tally_75
def f_X11_kemenyValue  (w : rv_W) : rv_R :=
  rv_bd (f_X11_now (11 : Int32) w) (fun (r1 : Int32) (w2 : rv_W) =>
  if r1 < 0 then
  some ((0 : Int32), w2)
  else
  some ((w2 78 19), w2))
set_option maxRecDepth 100000 in
set_option maxHeartbeats 4000000 in
theorem fn_X11_kemenyValue {l : Launch} {D : va_G} {ad : Nat → Nat} {ca : Nat → ClassId} (hJ : rv_J ad)   (w : rv_W) : rv_Fn l D ad ca yX11_kemenyValue cX11_kemenyValue 2 (some .int) 8 188 [.ref (ad 78)] w (f_X11_kemenyValue  w) := by
  refine rv_mk (lv := [(0, .ref (ad 78))]) hJ (by decide +kernel) (Nat.le_of_ble_eq_true rfl) rfl (fun K h hr => ?_)
  have h : rv_Rl D ad ca l RX11 cX11_kemenyValue 2 8 188 K := h
  unfold f_X11_kemenyValue
  refine rv_aload_n h 0 dX11_kemenyValue_0 0 rfl ?_
  refine rv_bipush (v := 11) h 1 dX11_kemenyValue_1 (by decide +kernel) ?_
  refine rv_callVi h 3 dX11_kemenyValue_3 (fn_X11_now hJ (11 : Int32)  w) ce_X11_now lk_X11_247 rv_s78 rfl rv_cf9 rfl rfl (Nat.le_of_ble_eq_true rfl) ⟨Nat.le_of_ble_eq_true rfl, Nat.le_of_ble_eq_true rfl⟩ (fun r1 w2 => ?_)
  refine rv_istore_n (lv' := [(1, .int r1), (0, .ref (ad 78))]) h 6 dX11_kemenyValue_6 (by decide) rfl ?_
  refine rv_iload_n h 7 dX11_kemenyValue_7 0 rfl ?_
  refine rv_if_ge (tgt := 15) h 8 dX11_kemenyValue_8 (by decide) (fun _ => ?_) (fun _ => ?_)
  · refine rv_iconst h 11 dX11_kemenyValue_11 rv_c0 ?_
    refine rv_goto (tgt := 19) h 12 dX11_kemenyValue_12 (by decide) ?_
    exact rv_reti hr 19 dX11_kemenyValue_19
  refine rv_aload_n h 15 dX11_kemenyValue_15 1 rfl ?_
  refine rv_geti h 16 dX11_kemenyValue_16 rv_s78 rv_fd_X11_156 rfl ?_
  exact rv_reti hr 19 dX11_kemenyValue_19
def f_X11_kemeny (p1 : Int32) (w : rv_W) : rv_R :=
  rv_bd (f_X11_now (11 : Int32) w) (fun (r1 : Int32) (w2 : rv_W) =>
  rv_ck (1 : Int32) 852 (
  rv_bd (f_X11_many (w2 79 (1 : Int32).toNatClampNeg) w2) (fun (r3 : Int32) (w4 : rv_W) =>
  rv_bd (f_X11_in p1 (0 : Int32) (r3 - (1 : Int32)) w4) (fun (r5 : Int32) (w6 : rv_W) =>
  if r5 = 0 then
  some ((-1000001 : Int32), w6)
  else
  rv_ck p1 5 (
  some ((w6 92 p1.toNatClampNeg), w6))))))
set_option maxRecDepth 100000 in
set_option maxHeartbeats 4000000 in
theorem fn_X11_kemeny {l : Launch} {D : va_G} {ad : Nat → Nat} {ca : Nat → ClassId} (hJ : rv_J ad) (p1 : Int32)  (w : rv_W) : rv_Fn l D ad ca yX11_kemeny cX11_kemeny 3 (some .int) 8 188 [.ref (ad 78), .int p1] w (f_X11_kemeny p1 w) := by
  refine rv_mk (lv := [(0, .ref (ad 78)), (1, .int p1)]) hJ (by decide +kernel) (Nat.le_of_ble_eq_true rfl) rfl (fun K h hr => ?_)
  have h : rv_Rl D ad ca l RX11 cX11_kemeny 3 8 188 K := h
  unfold f_X11_kemeny
  refine rv_aload_n h 0 dX11_kemeny_0 0 rfl ?_
  refine rv_bipush (v := 11) h 1 dX11_kemeny_1 (by decide +kernel) ?_
  refine rv_callVi h 3 dX11_kemeny_3 (fn_X11_now hJ (11 : Int32)  w) ce_X11_now lk_X11_247 rv_s78 rfl rv_cf9 rfl rfl (Nat.le_of_ble_eq_true rfl) ⟨Nat.le_of_ble_eq_true rfl, Nat.le_of_ble_eq_true rfl⟩ (fun r1 w2 => ?_)
  refine rv_istore_n (lv' := [(2, .int r1), (0, .ref (ad 78)), (1, .int p1)]) h 6 dX11_kemeny_6 (by decide) rfl ?_
  refine rv_iload_n h 7 dX11_kemeny_7 2 rfl ?_
  refine rv_iconst h 8 dX11_kemeny_8 rv_c0 ?_
  refine rv_aload_n h 9 dX11_kemeny_9 1 rfl ?_
  refine rv_getr h 10 dX11_kemeny_10 rv_s78 rv_fd_X11_7 rfl ?_
  refine rv_iconst h 13 dX11_kemeny_13 rv_c1 ?_
  refine rv_iald h 14 dX11_kemeny_14 rv_s79 ?_
  refine rv_callSi h 15 dX11_kemeny_15 (fn_X11_many hJ (w2 79 (1 : Int32).toNatClampNeg)  w2) ce_X11_many lk_X11_105 rfl rfl (Nat.le_of_ble_eq_true rfl) ⟨Nat.le_of_ble_eq_true rfl, Nat.le_of_ble_eq_true rfl⟩ (fun r3 w4 => ?_)
  refine rv_iconst h 18 dX11_kemeny_18 rv_c1 ?_
  refine rv_isub h 19 dX11_kemeny_19 ?_
  refine rv_callSi h 20 dX11_kemeny_20 (fn_X11_in hJ p1 (0 : Int32) (r3 - (1 : Int32))  w4) ce_X11_in lk_X11_70 rfl rfl (Nat.le_of_ble_eq_true rfl) ⟨Nat.le_of_ble_eq_true rfl, Nat.le_of_ble_eq_true rfl⟩ (fun r5 w6 => ?_)
  refine rv_if_eq (tgt := 35) h 23 dX11_kemeny_23 (by decide) (fun _ => ?_) (fun _ => ?_)
  · refine rv_ldc h 35 dX11_kemeny_35 rv_kc_X11_236 ?_
    exact rv_reti hr 37 dX11_kemeny_37
  refine rv_aload_n h 26 dX11_kemeny_26 1 rfl ?_
  refine rv_getr h 27 dX11_kemeny_27 rv_s78 rv_fd_X11_50 rfl ?_
  refine rv_iload_n h 30 dX11_kemeny_30 2 rfl ?_
  refine rv_iald h 31 dX11_kemeny_31 rv_s92 ?_
  refine rv_goto (tgt := 37) h 32 dX11_kemeny_32 (by decide) ?_
  exact rv_reti hr 37 dX11_kemeny_37
def f_X11_favourite  (w : rv_W) : rv_R :=
  rv_ck (1 : Int32) 852 (
  if (w 79 (1 : Int32).toNatClampNeg) = 0 then
  some ((-1000000 : Int32), w)
  else
  rv_fx (fun _ _ => none) (fun (ag1 : Int32 → rv_W → rv_R) (v3 : Int32) (w4 : rv_W) =>
  if v3 < (5 : Int32) then
  rv_ck v3 5 (rv_lt (rv_up w4 93 v3.toNatClampNeg (0 : Int32)) (fun (w20 : rv_W) =>
  rv_lt (v3 + (1 : Int32)) (fun (v21 : Int32) =>
  ag1 v21 w20)))
  else
  rv_fx (fun _ _ => none) (fun (ag5 : Int32 → rv_W → rv_R) (v7 : Int32) (w8 : rv_W) =>
  if v7 < (12 : Int32) then
  rv_bd (f_X11_now v7 w8) (fun (r16 : Int32) (w17 : rv_W) =>
  rv_ck r16 5 (
  rv_ck r16 5 (rv_lt (rv_up w17 93 r16.toNatClampNeg ((w17 93 r16.toNatClampNeg) + (1 : Int32))) (fun (w18 : rv_W) =>
  rv_lt (v7 + (1 : Int32)) (fun (v19 : Int32) =>
  ag5 v19 w18)))))
  else
  rv_fx (fun _ _ _ => none) (fun (ag9 : Int32 → Int32 → rv_W → rv_R) (v11 : Int32) (v12 : Int32) (w13 : rv_W) =>
  if v12 < (5 : Int32) then
  rv_ck v12 5 (
  rv_ck v11 5 (
  if (w13 93 v11.toNatClampNeg) < (w13 93 v12.toNatClampNeg) then
  rv_lt (v12 + (1 : Int32)) (fun (v15 : Int32) =>
  ag9 v12 v15 w13)
  else
  rv_lt (v12 + (1 : Int32)) (fun (v14 : Int32) =>
  ag9 v11 v14 w13)))
  else
  some (v11, w13)) rv_FU (0 : Int32) (1 : Int32) w8) rv_FU (0 : Int32) w4) rv_FU (0 : Int32) w)
set_option maxRecDepth 100000 in
set_option maxHeartbeats 4000000 in
theorem fn_X11_favourite {l : Launch} {D : va_G} {ad : Nat → Nat} {ca : Nat → ClassId} (hJ : rv_J ad)   (w : rv_W) : rv_Fn l D ad ca yX11_favourite cX11_favourite 3 (some .int) 8 188 [.ref (ad 78)] w (f_X11_favourite  w) := by
  refine rv_mk (lv := [(0, .ref (ad 78))]) hJ (by decide +kernel) (Nat.le_of_ble_eq_true rfl) rfl (fun K h hr => ?_)
  have h : rv_Rl D ad ca l RX11 cX11_favourite 3 8 188 K := h
  unfold f_X11_favourite
  refine rv_aload_n h 0 dX11_favourite_0 0 rfl ?_
  refine rv_getr h 1 dX11_favourite_1 rv_s78 rv_fd_X11_7 rfl ?_
  refine rv_iconst h 4 dX11_favourite_4 rv_c1 ?_
  refine rv_iald h 5 dX11_favourite_5 rv_s79 ?_
  refine rv_if_ne (tgt := 12) h 6 dX11_favourite_6 (by decide) (fun _ => ?_) (fun _ => ?_)
  · refine rv_ldc h 9 dX11_favourite_9 rv_kc_X11_250 ?_
    exact rv_reti hr 11 dX11_favourite_11
  refine rv_iconst h 12 dX11_favourite_12 rv_c0 ?_
  refine rv_istore_n (lv' := [(1, .int (0 : Int32)), (0, .ref (ad 78))]) h 13 dX11_favourite_13 (by decide) rfl ?_
  refine rv_sub h [1, 0] rfl ?_
  refine rv_fx_ind (fun (a0 : Int32 → rv_W → rv_R) => ∀ (v3 : Int32) (w4 : rv_W), K 14 [(0, .ref (ad 78)), (1, .int v3)] [] w4 (a0 v3 w4)) (fun _ _ => rv_none h) (fun ag1 ih2 v3 w4 => ?_) rv_FU (0 : Int32) w
  refine rv_iload_n h 14 dX11_favourite_14 1 rfl ?_
  refine rv_iconst h 15 dX11_favourite_15 rv_c5 ?_
  refine rv_icmp_ge (tgt := 32) h 16 dX11_favourite_16 (by decide) (fun _ => ?_) (fun _ => ?_)
  · refine rv_aload_n h 19 dX11_favourite_19 0 rfl ?_
    refine rv_getr h 20 dX11_favourite_20 rv_s78 rv_fd_X11_53 rfl ?_
    refine rv_iload_n h 23 dX11_favourite_23 1 rfl ?_
    refine rv_iconst h 24 dX11_favourite_24 rv_c0 ?_
    refine rv_iast h 25 dX11_favourite_25 rv_s93 (fun w20 => ?_)
    refine rv_iinc h 26 (fun v21 => [(1, .int v21), (0, .ref (ad 78))]) dX11_favourite_26 1 rfl rv_c1 (by decide) (fun _ => rfl) (fun v21 => ?_)
    refine rv_goto (tgt := 14) h 29 dX11_favourite_29 (by decide) ?_
    refine rv_sub h [1, 0] rfl ?_
    exact ih2 v21 w20
  refine rv_iconst h 32 dX11_favourite_32 rv_c0 ?_
  refine rv_istore_n (lv' := [(1, .int (0 : Int32)), (0, .ref (ad 78))]) h 33 dX11_favourite_33 (by decide) rfl ?_
  refine rv_sub h [1, 0] rfl ?_
  refine rv_fx_ind (fun (a0 : Int32 → rv_W → rv_R) => ∀ (v7 : Int32) (w8 : rv_W), K 34 [(0, .ref (ad 78)), (1, .int v7)] [] w8 (a0 v7 w8)) (fun _ _ => rv_none h) (fun ag5 ih6 v7 w8 => ?_) rv_FU (0 : Int32) w4
  refine rv_iload_n h 34 dX11_favourite_34 1 rfl ?_
  refine rv_bipush (v := 12) h 35 dX11_favourite_35 (by decide +kernel) ?_
  refine rv_icmp_ge (tgt := 60) h 37 dX11_favourite_37 (by decide) (fun _ => ?_) (fun _ => ?_)
  · refine rv_aload_n h 40 dX11_favourite_40 0 rfl ?_
    refine rv_getr h 41 dX11_favourite_41 rv_s78 rv_fd_X11_53 rfl ?_
    refine rv_aload_n h 44 dX11_favourite_44 0 rfl ?_
    refine rv_iload_n h 45 dX11_favourite_45 1 rfl ?_
    refine rv_callVi h 46 dX11_favourite_46 (fn_X11_now hJ v7  w8) ce_X11_now lk_X11_247 rv_s78 rfl rv_cf9 rfl rfl (Nat.le_of_ble_eq_true rfl) ⟨Nat.le_of_ble_eq_true rfl, Nat.le_of_ble_eq_true rfl⟩ (fun r16 w17 => ?_)
    refine rv_dup2 h 49 dX11_favourite_49 rfl rfl ?_
    refine rv_iald h 50 dX11_favourite_50 rv_s93 ?_
    refine rv_iconst h 51 dX11_favourite_51 rv_c1 ?_
    refine rv_iadd h 52 dX11_favourite_52 ?_
    refine rv_iast h 53 dX11_favourite_53 rv_s93 (fun w18 => ?_)
    refine rv_iinc h 54 (fun v19 => [(1, .int v19), (0, .ref (ad 78))]) dX11_favourite_54 1 rfl rv_c1 (by decide) (fun _ => rfl) (fun v19 => ?_)
    refine rv_goto (tgt := 34) h 57 dX11_favourite_57 (by decide) ?_
    refine rv_sub h [1, 0] rfl ?_
    exact ih6 v19 w18
  refine rv_iconst h 60 dX11_favourite_60 rv_c0 ?_
  refine rv_istore_n (lv' := [(1, .int (0 : Int32)), (0, .ref (ad 78))]) h 61 dX11_favourite_61 (by decide) rfl ?_
  refine rv_iconst h 62 dX11_favourite_62 rv_c1 ?_
  refine rv_istore_n (lv' := [(2, .int (1 : Int32)), (1, .int (0 : Int32)), (0, .ref (ad 78))]) h 63 dX11_favourite_63 (by decide) rfl ?_
  refine rv_sub h [2, 1, 0] rfl ?_
  refine rv_fx_ind (fun (a0 : Int32 → Int32 → rv_W → rv_R) => ∀ (v11 : Int32) (v12 : Int32) (w13 : rv_W), K 64 [(0, .ref (ad 78)), (1, .int v11), (2, .int v12)] [] w13 (a0 v11 v12 w13)) (fun _ _ _ => rv_none h) (fun ag9 ih10 v11 v12 w13 => ?_) rv_FU (0 : Int32) (1 : Int32) w8
  refine rv_iload_n h 64 dX11_favourite_64 2 rfl ?_
  refine rv_iconst h 65 dX11_favourite_65 rv_c5 ?_
  refine rv_icmp_ge (tgt := 96) h 66 dX11_favourite_66 (by decide) (fun _ => ?_) (fun _ => ?_)
  rotate_left
  · refine rv_iload_n h 96 dX11_favourite_96 1 rfl ?_
    exact rv_reti hr 97 dX11_favourite_97
  refine rv_aload_n h 69 dX11_favourite_69 0 rfl ?_
  refine rv_getr h 70 dX11_favourite_70 rv_s78 rv_fd_X11_53 rfl ?_
  refine rv_iload_n h 73 dX11_favourite_73 2 rfl ?_
  refine rv_iald h 74 dX11_favourite_74 rv_s93 ?_
  refine rv_aload_n h 75 dX11_favourite_75 0 rfl ?_
  refine rv_getr h 76 dX11_favourite_76 rv_s78 rv_fd_X11_53 rfl ?_
  refine rv_iload_n h 79 dX11_favourite_79 1 rfl ?_
  refine rv_iald h 80 dX11_favourite_80 rv_s93 ?_
  refine rv_icmp_le (tgt := 88) h 81 dX11_favourite_81 (by decide) (fun _ => ?_) (fun _ => ?_)
  rotate_left
  · refine rv_iload_n h 88 dX11_favourite_88 1 rfl ?_
    refine rv_istore_n (lv' := [(1, .int v11), (0, .ref (ad 78)), (2, .int v12)]) h 89 dX11_favourite_89 (by decide) rfl ?_
    refine rv_iinc h 90 (fun v14 => [(2, .int v14), (1, .int v11), (0, .ref (ad 78))]) dX11_favourite_90 2 rfl rv_c1 (by decide) (fun _ => rfl) (fun v14 => ?_)
    refine rv_goto (tgt := 64) h 93 dX11_favourite_93 (by decide) ?_
    refine rv_sub h [2, 1, 0] rfl ?_
    exact ih10 v11 v14 w13
  refine rv_iload_n h 84 dX11_favourite_84 2 rfl ?_
  refine rv_goto (tgt := 89) h 85 dX11_favourite_85 (by decide) ?_
  refine rv_istore_n (lv' := [(1, .int v12), (0, .ref (ad 78)), (2, .int v12)]) h 89 dX11_favourite_89 (by decide) rfl ?_
  refine rv_iinc h 90 (fun v15 => [(2, .int v15), (1, .int v12), (0, .ref (ad 78))]) dX11_favourite_90 2 rfl rv_c1 (by decide) (fun _ => rfl) (fun v15 => ?_)
  refine rv_goto (tgt := 64) h 93 dX11_favourite_93 (by decide) ?_
  refine rv_sub h [2, 1, 0] rfl ?_
  exact ih10 v12 v15 w13
def f_X11_isBetter (p1 : Int32) (p2 : Int32) (p3 : Int32) (w : rv_W) : rv_R :=
  rv_bd (f_X11_loadsBallot p1 w) (fun (r1 : Int32) (w2 : rv_W) =>
  rv_bd (f_X11_isAbove p1 p2 p3 w2) (fun (r3 : Int32) (w4 : rv_W) =>
  rv_gd (r3 = 0 ∨ r3 = 1) (some (r3, w4))))
set_option maxRecDepth 100000 in
set_option maxHeartbeats 4000000 in
theorem fn_X11_isBetter {l : Launch} {D : va_G} {ad : Nat → Nat} {ca : Nat → ClassId} (hJ : rv_J ad) (p1 : Int32) (p2 : Int32) (p3 : Int32)  (w : rv_W) : rv_Fn l D ad ca yX11_isBetter cX11_isBetter 4 (some .boolean) 2 44 [.ref (ad 78), .int p1, .int p2, .int p3] w (f_X11_isBetter p1 p2 p3 w) := by
  refine rv_mk (lv := [(0, .ref (ad 78)), (1, .int p1), (2, .int p2), (3, .int p3)]) hJ (by decide +kernel) (Nat.le_of_ble_eq_true rfl) rfl (fun K h hr => ?_)
  have h : rv_Rl D ad ca l RX11 cX11_isBetter 4 2 44 K := h
  unfold f_X11_isBetter
  refine rv_aload_n h 0 dX11_isBetter_0 0 rfl ?_
  refine rv_iload_n h 1 dX11_isBetter_1 1 rfl ?_
  refine rv_callVv h 2 dX11_isBetter_2 (fn_X11_loadsBallot hJ p1  w) ce_X11_loadsBallot lk_X11_85 rv_s78 rfl rv_cf9 rfl rfl (Nat.le_of_ble_eq_true rfl) ⟨Nat.le_of_ble_eq_true rfl, Nat.le_of_ble_eq_true rfl⟩ (fun r1 w2 => ?_)
  refine rv_aload_n h 5 dX11_isBetter_5 0 rfl ?_
  refine rv_iload_n h 6 dX11_isBetter_6 1 rfl ?_
  refine rv_iload_n h 7 dX11_isBetter_7 2 rfl ?_
  refine rv_iload_n h 8 dX11_isBetter_8 3 rfl ?_
  refine rv_callVi h 9 dX11_isBetter_9 (fn_X11_isAbove hJ p1 p2 p3  w2) ce_X11_isAbove lk_X11_89 rv_s78 rfl rv_cf9 rfl rfl (Nat.le_of_ble_eq_true rfl) ⟨Nat.le_of_ble_eq_true rfl, Nat.le_of_ble_eq_true rfl⟩ (fun r3 w4 => ?_)
  exact rv_retz h hr 12 dX11_isBetter_12
def f_X11_strategyOf (p1 : Int32) (p2 : Int32) (w : rv_W) : rv_R :=
  rv_bd (f_X11_now p1 w) (fun (r1 : Int32) (w2 : rv_W) =>
  if r1 < 0 then
  some ((-1 : Int32), w2)
  else
  rv_fx (fun _ _ _ => none) (fun (ag3 : Int32 → Int32 → rv_W → rv_R) (v5 : Int32) (v6 : Int32) (w7 : rv_W) =>
  if v6 < (5 : Int32) then
  rv_ck (1 : Int32) 852 (
  rv_bd (f_X11_has (w7 79 (1 : Int32).toNatClampNeg) v6 w7) (fun (r43 : Int32) (w44 : rv_W) =>
  if r43 = 0 then
  rv_lt (v6 + (1 : Int32)) (fun (v45 : Int32) =>
  ag3 v5 v45 w44)
  else
  rv_ck v5 5 (rv_lt (rv_up w44 94 v5.toNatClampNeg v6) (fun (w46 : rv_W) =>
  rv_lt (v5 + (1 : Int32)) (fun (v47 : Int32) =>
  rv_lt (v6 + (1 : Int32)) (fun (v48 : Int32) =>
  ag3 v47 v48 w46))))))
  else
  rv_fx (fun _ _ _ _ => none) (fun (ag8 : Int32 → Int32 → Int32 → rv_W → rv_R) (v10 : Int32) (v11 : Int32) (v12 : Int32) (w13 : rv_W) =>
  if v12 = 0 then
  if v11 = 0 then
  some ((-1 : Int32), w13)
  else
  some (v10, w13)
  else
  rv_fx (fun _ _ => none) (fun (ag14 : Int32 → rv_W → rv_R) (v16 : Int32) (w17 : rv_W) =>
  if v16 < (5 : Int32) then
  rv_ck (((5 : Int32) * p2) + v16) 100 (rv_lt (rv_up w17 82 (((5 : Int32) * p2) + v16).toNatClampNeg (9 : Int32)) (fun (w41 : rv_W) =>
  rv_lt (v16 + (1 : Int32)) (fun (v42 : Int32) =>
  ag14 v42 w41)))
  else
  rv_fx (fun _ _ => none) (fun (ag18 : Int32 → rv_W → rv_R) (v20 : Int32) (w21 : rv_W) =>
  if v20 < v5 then
  rv_ck v20 5 (
  rv_ck (((5 : Int32) * p2) + (w21 94 v20.toNatClampNeg)) 100 (rv_lt (rv_up w21 82 (((5 : Int32) * p2) + (w21 94 v20.toNatClampNeg)).toNatClampNeg v20) (fun (w39 : rv_W) =>
  rv_lt (v20 + (1 : Int32)) (fun (v40 : Int32) =>
  ag18 v40 w39))))
  else
  rv_ck (1 : Int32) 852 (
  rv_bd (f_X11_wins p1 (w21 79 (1 : Int32).toNatClampNeg) w21) (fun (r22 : Int32) (w23 : rv_W) =>
  rv_bd (f_X11_isBetter p2 r22 v10 w23) (fun (r24 : Int32) (w25 : rv_W) =>
  rv_jn (fun (v26 : Int32) (v27 : Int32) (w28 : rv_W) =>
  rv_bd (f_X11_nextOf 94 v5 w28) (fun (r31 : Int32) (w32 : rv_W) =>
  ag8 v26 v27 r31 w32)) (fun (k29 : Int32 → Int32 → rv_W → rv_R) =>
  if r24 = 0 then
  k29 v10 v11 w25
  else
  rv_fx (fun _ _ => none) (fun (ag33 : Int32 → rv_W → rv_R) (v35 : Int32) (w36 : rv_W) =>
  if v35 < v5 then
  rv_ck v35 5 (
  rv_ck v35 5 (rv_lt (rv_up w36 95 v35.toNatClampNeg (w36 94 v35.toNatClampNeg)) (fun (w37 : rv_W) =>
  rv_lt (v35 + (1 : Int32)) (fun (v38 : Int32) =>
  ag33 v38 w37))))
  else
  k29 r22 (1 : Int32) w36) rv_FU (0 : Int32) w25))))) rv_FU (0 : Int32) w17) rv_FU (0 : Int32) w13) rv_FU r1 (0 : Int32) (1 : Int32) w7) rv_FU (0 : Int32) (0 : Int32) w2)
set_option maxRecDepth 100000 in
set_option maxHeartbeats 4000000 in
theorem fn_X11_strategyOf {l : Launch} {D : va_G} {ad : Nat → Nat} {ca : Nat → ClassId} (hJ : rv_J ad) (p1 : Int32) (p2 : Int32)  (w : rv_W) : rv_Fn l D ad ca yX11_strategyOf cX11_strategyOf 9 (some .int) 8 188 [.ref (ad 78), .int p1, .int p2] w (f_X11_strategyOf p1 p2 w) := by
  refine rv_mk (lv := [(0, .ref (ad 78)), (1, .int p1), (2, .int p2)]) hJ (by decide +kernel) (Nat.le_of_ble_eq_true rfl) rfl (fun K h hr => ?_)
  have h : rv_Rl D ad ca l RX11 cX11_strategyOf 9 8 188 K := h
  unfold f_X11_strategyOf
  refine rv_aload_n h 0 dX11_strategyOf_0 0 rfl ?_
  refine rv_iload_n h 1 dX11_strategyOf_1 1 rfl ?_
  refine rv_callVi h 2 dX11_strategyOf_2 (fn_X11_now hJ p1  w) ce_X11_now lk_X11_247 rv_s78 rfl rv_cf9 rfl rfl (Nat.le_of_ble_eq_true rfl) ⟨Nat.le_of_ble_eq_true rfl, Nat.le_of_ble_eq_true rfl⟩ (fun r1 w2 => ?_)
  refine rv_istore_n (lv' := [(3, .int r1), (0, .ref (ad 78)), (1, .int p1), (2, .int p2)]) h 5 dX11_strategyOf_5 (by decide) rfl ?_
  refine rv_iload_n h 6 dX11_strategyOf_6 0 rfl ?_
  refine rv_if_ge (tgt := 12) h 7 dX11_strategyOf_7 (by decide) (fun _ => ?_) (fun _ => ?_)
  · refine rv_iconst h 10 dX11_strategyOf_10 rv_cm1 ?_
    exact rv_reti hr 11 dX11_strategyOf_11
  refine rv_iconst h 12 dX11_strategyOf_12 rv_c0 ?_
  refine rv_istore (lv' := [(4, .int (0 : Int32)), (3, .int r1), (0, .ref (ad 78)), (1, .int p1), (2, .int p2)]) h 13 dX11_strategyOf_13 (by decide) rfl ?_
  refine rv_iconst h 15 dX11_strategyOf_15 rv_c0 ?_
  refine rv_istore (lv' := [(5, .int (0 : Int32)), (4, .int (0 : Int32)), (3, .int r1), (0, .ref (ad 78)), (1, .int p1), (2, .int p2)]) h 16 dX11_strategyOf_16 (by decide) rfl ?_
  refine rv_iconst h 18 dX11_strategyOf_18 rv_c0 ?_
  refine rv_istore (lv' := [(6, .int (0 : Int32)), (5, .int (0 : Int32)), (4, .int (0 : Int32)), (3, .int r1), (0, .ref (ad 78)), (1, .int p1), (2, .int p2)]) h 19 dX11_strategyOf_19 (by decide) rfl ?_
  refine rv_sub h [4, 5, 6, 3, 2, 1, 0] rfl ?_
  refine rv_fx_ind (fun (a0 : Int32 → Int32 → rv_W → rv_R) => ∀ (v5 : Int32) (v6 : Int32) (w7 : rv_W), K 21 [(0, .ref (ad 78)), (1, .int p1), (2, .int p2), (3, .int r1), (4, .int (0 : Int32)), (5, .int v5), (6, .int v6)] [] w7 (a0 v5 v6 w7)) (fun _ _ _ => rv_none h) (fun ag3 ih4 v5 v6 w7 => ?_) rv_FU (0 : Int32) (0 : Int32) w2
  refine rv_iload h 21 dX11_strategyOf_21 6 rfl ?_
  refine rv_iconst h 23 dX11_strategyOf_23 rv_c5 ?_
  refine rv_icmp_ge (tgt := 59) h 24 dX11_strategyOf_24 (by decide) (fun _ => ?_) (fun _ => ?_)
  · refine rv_aload_n h 27 dX11_strategyOf_27 0 rfl ?_
    refine rv_getr h 28 dX11_strategyOf_28 rv_s78 rv_fd_X11_7 rfl ?_
    refine rv_iconst h 31 dX11_strategyOf_31 rv_c1 ?_
    refine rv_iald h 32 dX11_strategyOf_32 rv_s79 ?_
    refine rv_iload h 33 dX11_strategyOf_33 6 rfl ?_
    refine rv_callSi h 35 dX11_strategyOf_35 (fn_X11_has hJ (w7 79 (1 : Int32).toNatClampNeg) v6  w7) ce_X11_has lk_X11_74 rfl rfl (Nat.le_of_ble_eq_true rfl) ⟨Nat.le_of_ble_eq_true rfl, Nat.le_of_ble_eq_true rfl⟩ (fun r43 w44 => ?_)
    refine rv_if_eq (tgt := 53) h 38 dX11_strategyOf_38 (by decide) (fun _ => ?_) (fun _ => ?_)
    · refine rv_iinc h 53 (fun v45 => [(6, .int v45), (0, .ref (ad 78)), (1, .int p1), (2, .int p2), (3, .int r1), (4, .int (0 : Int32)), (5, .int v5)]) dX11_strategyOf_53 6 rfl rv_c1 (by decide) (fun _ => rfl) (fun v45 => ?_)
      refine rv_goto (tgt := 21) h 56 dX11_strategyOf_56 (by decide) ?_
      refine rv_sub h [1, 2, 3, 4, 5, 6, 0] rfl ?_
      exact ih4 v5 v45 w44
    refine rv_aload_n h 41 dX11_strategyOf_41 0 rfl ?_
    refine rv_getr h 42 dX11_strategyOf_42 rv_s78 rv_fd_X11_56 rfl ?_
    refine rv_iload h 45 dX11_strategyOf_45 5 rfl ?_
    refine rv_iload h 47 dX11_strategyOf_47 6 rfl ?_
    refine rv_iast h 49 dX11_strategyOf_49 rv_s94 (fun w46 => ?_)
    refine rv_iinc h 50 (fun v47 => [(5, .int v47), (0, .ref (ad 78)), (1, .int p1), (2, .int p2), (3, .int r1), (4, .int (0 : Int32)), (6, .int v6)]) dX11_strategyOf_50 5 rfl rv_c1 (by decide) (fun _ => rfl) (fun v47 => ?_)
    refine rv_iinc h 53 (fun v48 => [(6, .int v48), (5, .int v47), (0, .ref (ad 78)), (1, .int p1), (2, .int p2), (3, .int r1), (4, .int (0 : Int32))]) dX11_strategyOf_53 6 rfl rv_c1 (by decide) (fun _ => rfl) (fun v48 => ?_)
    refine rv_goto (tgt := 21) h 56 dX11_strategyOf_56 (by decide) ?_
    refine rv_sub h [2, 3, 4, 5, 6, 1, 0] rfl ?_
    exact ih4 v47 v48 w46
  refine rv_iconst h 59 dX11_strategyOf_59 rv_c1 ?_
  refine rv_istore (lv' := [(6, .int (1 : Int32)), (0, .ref (ad 78)), (1, .int p1), (2, .int p2), (3, .int r1), (4, .int (0 : Int32)), (5, .int v5)]) h 60 dX11_strategyOf_60 (by decide) rfl ?_
  refine rv_sub h [1, 2, 3, 4, 5, 6, 0] rfl ?_
  refine rv_fx_ind (fun (a0 : Int32 → Int32 → Int32 → rv_W → rv_R) => ∀ (v10 : Int32) (v11 : Int32) (v12 : Int32) (w13 : rv_W), K 62 [(0, .ref (ad 78)), (1, .int p1), (2, .int p2), (3, .int v10), (4, .int v11), (5, .int v5), (6, .int v12)] [] w13 (a0 v10 v11 v12 w13)) (fun _ _ _ _ => rv_none h) (fun ag8 ih9 v10 v11 v12 w13 => ?_) rv_FU r1 (0 : Int32) (1 : Int32) w7
  refine rv_iload h 62 dX11_strategyOf_62 6 rfl ?_
  refine rv_if_eq (tgt := 203) h 64 dX11_strategyOf_64 (by decide) (fun _ => ?_) (fun _ => ?_)
  · refine rv_iload h 203 dX11_strategyOf_203 4 rfl ?_
    refine rv_if_eq (tgt := 212) h 205 dX11_strategyOf_205 (by decide) (fun _ => ?_) (fun _ => ?_)
    · refine rv_iconst h 212 dX11_strategyOf_212 rv_cm1 ?_
      exact rv_reti hr 213 dX11_strategyOf_213
    refine rv_iload_n h 208 dX11_strategyOf_208 3 rfl ?_
    refine rv_goto (tgt := 213) h 209 dX11_strategyOf_209 (by decide) ?_
    exact rv_reti hr 213 dX11_strategyOf_213
  refine rv_iconst h 67 dX11_strategyOf_67 rv_c0 ?_
  refine rv_istore (lv' := [(7, .int (0 : Int32)), (0, .ref (ad 78)), (1, .int p1), (2, .int p2), (3, .int v10), (4, .int v11), (5, .int v5), (6, .int v12)]) h 68 dX11_strategyOf_68 (by decide) rfl ?_
  refine rv_sub h [1, 2, 3, 4, 5, 6, 0] rfl ?_
  refine rv_fx_ind (fun (a0 : Int32 → rv_W → rv_R) => ∀ (v16 : Int32) (w17 : rv_W), K 70 [(0, .ref (ad 78)), (1, .int p1), (2, .int p2), (3, .int v10), (4, .int v11), (5, .int v5), (7, .int v16)] [] w17 (a0 v16 w17)) (fun _ _ => rv_none h) (fun ag14 ih15 v16 w17 => ?_) rv_FU (0 : Int32) w13
  refine rv_iload h 70 dX11_strategyOf_70 6 rfl ?_
  refine rv_iconst h 72 dX11_strategyOf_72 rv_c5 ?_
  refine rv_icmp_ge (tgt := 95) h 73 dX11_strategyOf_73 (by decide) (fun _ => ?_) (fun _ => ?_)
  · refine rv_aload_n h 76 dX11_strategyOf_76 0 rfl ?_
    refine rv_getr h 77 dX11_strategyOf_77 rv_s78 rv_fd_X11_19 rfl ?_
    refine rv_iconst h 80 dX11_strategyOf_80 rv_c5 ?_
    refine rv_iload_n h 81 dX11_strategyOf_81 2 rfl ?_
    refine rv_imul h 82 dX11_strategyOf_82 ?_
    refine rv_iload h 83 dX11_strategyOf_83 6 rfl ?_
    refine rv_iadd h 85 dX11_strategyOf_85 ?_
    refine rv_bipush (v := 9) h 86 dX11_strategyOf_86 (by decide +kernel) ?_
    refine rv_iast h 88 dX11_strategyOf_88 rv_s82 (fun w41 => ?_)
    refine rv_iinc h 89 (fun v42 => [(7, .int v42), (0, .ref (ad 78)), (1, .int p1), (2, .int p2), (3, .int v10), (4, .int v11), (5, .int v5)]) dX11_strategyOf_89 6 rfl rv_c1 (by decide) (fun _ => rfl) (fun v42 => ?_)
    refine rv_goto (tgt := 70) h 92 dX11_strategyOf_92 (by decide) ?_
    refine rv_sub h [1, 2, 3, 4, 5, 6, 0] rfl ?_
    exact ih15 v42 w41
  refine rv_iconst h 95 dX11_strategyOf_95 rv_c0 ?_
  refine rv_istore (lv' := [(7, .int (0 : Int32)), (0, .ref (ad 78)), (1, .int p1), (2, .int p2), (3, .int v10), (4, .int v11), (5, .int v5)]) h 96 dX11_strategyOf_96 (by decide) rfl ?_
  refine rv_sub h [1, 2, 3, 4, 5, 6, 0] rfl ?_
  refine rv_fx_ind (fun (a0 : Int32 → rv_W → rv_R) => ∀ (v20 : Int32) (w21 : rv_W), K 98 [(0, .ref (ad 78)), (1, .int p1), (2, .int p2), (3, .int v10), (4, .int v11), (5, .int v5), (7, .int v20)] [] w21 (a0 v20 w21)) (fun _ _ => rv_none h) (fun ag18 ih19 v20 w21 => ?_) rv_FU (0 : Int32) w17
  refine rv_iload h 98 dX11_strategyOf_98 6 rfl ?_
  refine rv_iload h 100 dX11_strategyOf_100 5 rfl ?_
  refine rv_icmp_ge (tgt := 129) h 102 dX11_strategyOf_102 (by decide) (fun _ => ?_) (fun _ => ?_)
  · refine rv_aload_n h 105 dX11_strategyOf_105 0 rfl ?_
    refine rv_getr h 106 dX11_strategyOf_106 rv_s78 rv_fd_X11_19 rfl ?_
    refine rv_iconst h 109 dX11_strategyOf_109 rv_c5 ?_
    refine rv_iload_n h 110 dX11_strategyOf_110 2 rfl ?_
    refine rv_imul h 111 dX11_strategyOf_111 ?_
    refine rv_aload_n h 112 dX11_strategyOf_112 0 rfl ?_
    refine rv_getr h 113 dX11_strategyOf_113 rv_s78 rv_fd_X11_56 rfl ?_
    refine rv_iload h 116 dX11_strategyOf_116 6 rfl ?_
    refine rv_iald h 118 dX11_strategyOf_118 rv_s94 ?_
    refine rv_iadd h 119 dX11_strategyOf_119 ?_
    refine rv_iload h 120 dX11_strategyOf_120 6 rfl ?_
    refine rv_iast h 122 dX11_strategyOf_122 rv_s82 (fun w39 => ?_)
    refine rv_iinc h 123 (fun v40 => [(7, .int v40), (0, .ref (ad 78)), (1, .int p1), (2, .int p2), (3, .int v10), (4, .int v11), (5, .int v5)]) dX11_strategyOf_123 6 rfl rv_c1 (by decide) (fun _ => rfl) (fun v40 => ?_)
    refine rv_goto (tgt := 98) h 126 dX11_strategyOf_126 (by decide) ?_
    refine rv_sub h [1, 2, 3, 4, 5, 6, 0] rfl ?_
    exact ih19 v40 w39
  refine rv_aload_n h 129 dX11_strategyOf_129 0 rfl ?_
  refine rv_iload_n h 130 dX11_strategyOf_130 1 rfl ?_
  refine rv_aload_n h 131 dX11_strategyOf_131 0 rfl ?_
  refine rv_getr h 132 dX11_strategyOf_132 rv_s78 rv_fd_X11_7 rfl ?_
  refine rv_iconst h 135 dX11_strategyOf_135 rv_c1 ?_
  refine rv_iald h 136 dX11_strategyOf_136 rv_s79 ?_
  refine rv_callVi h 137 dX11_strategyOf_137 (fn_X11_wins hJ p1 (w21 79 (1 : Int32).toNatClampNeg)  w21) ce_X11_wins lk_X11_211 rv_s78 rfl rv_cf9 rfl rfl (Nat.le_of_ble_eq_true rfl) ⟨Nat.le_of_ble_eq_true rfl, Nat.le_of_ble_eq_true rfl⟩ (fun r22 w23 => ?_)
  refine rv_istore (lv' := [(7, .int r22), (0, .ref (ad 78)), (1, .int p1), (2, .int p2), (3, .int v10), (4, .int v11), (5, .int v5)]) h 140 dX11_strategyOf_140 (by decide) rfl ?_
  refine rv_aload_n h 142 dX11_strategyOf_142 1 rfl ?_
  refine rv_iload_n h 143 dX11_strategyOf_143 3 rfl ?_
  refine rv_iload h 144 dX11_strategyOf_144 0 rfl ?_
  refine rv_iload_n h 146 dX11_strategyOf_146 4 rfl ?_
  refine rv_callVi h 147 dX11_strategyOf_147 (fn_X11_isBetter hJ p2 r22 v10  w23) ce_X11_isBetter lk_X11_260 rv_s78 rfl rv_cf9 rfl rfl (Nat.le_of_ble_eq_true rfl) ⟨Nat.le_of_ble_eq_true rfl, Nat.le_of_ble_eq_true rfl⟩ (fun r24 w25 => ?_)
  refine rv_join (fun (k0 : Int32 → Int32 → rv_W → rv_R) => ∀ (v26 : Int32) (v27 : Int32) (w28 : rv_W), K 189 [(0, .ref (ad 78)), (1, .int p1), (2, .int p2), (3, .int v26), (4, .int v27), (5, .int v5)] ([]) w28 (k0 v26 v27 w28)) (fun v26 v27 w28 => ?_) (fun k29 hk30 => ?_)
  · refine rv_aload_n h 189 dX11_strategyOf_189 0 rfl ?_
    refine rv_getr h 190 dX11_strategyOf_190 rv_s78 rv_fd_X11_56 rfl ?_
    refine rv_iload h 193 dX11_strategyOf_193 5 rfl ?_
    refine rv_callSi h 195 dX11_strategyOf_195 (fn_X11_nextOf hJ 94 v5 rv_s94 w28) ce_X11_nextOf lk_X11_162 rfl rfl (Nat.le_of_ble_eq_true rfl) ⟨Nat.le_of_ble_eq_true rfl, Nat.le_of_ble_eq_true rfl⟩ (fun r31 w32 => ?_)
    refine rv_istore (lv' := [(6, .int r31), (0, .ref (ad 78)), (1, .int p1), (2, .int p2), (3, .int v26), (4, .int v27), (5, .int v5)]) h 198 dX11_strategyOf_198 (by decide) rfl ?_
    refine rv_goto (tgt := 62) h 200 dX11_strategyOf_200 (by decide) ?_
    refine rv_sub h [1, 2, 3, 4, 5, 6, 0] rfl ?_
    exact ih9 v26 v27 r31 w32
  refine rv_if_eq (tgt := 189) h 150 dX11_strategyOf_150 (by decide) (fun _ => ?_) (fun _ => ?_)
  · refine rv_sub h [1, 2, 3, 4, 5, 6] rfl ?_
    exact hk30 v10 v11 w25
  refine rv_iload h 153 dX11_strategyOf_153 0 rfl ?_
  refine rv_istore_n (lv' := [(3, .int r22), (7, .int r22), (0, .ref (ad 78)), (1, .int p1), (2, .int p2), (4, .int v11), (5, .int v5)]) h 155 dX11_strategyOf_155 (by decide) rfl ?_
  refine rv_iconst h 156 dX11_strategyOf_156 rv_c1 ?_
  refine rv_istore (lv' := [(4, .int (1 : Int32)), (3, .int r22), (7, .int r22), (0, .ref (ad 78)), (1, .int p1), (2, .int p2), (5, .int v5)]) h 157 dX11_strategyOf_157 (by decide) rfl ?_
  refine rv_iconst h 159 dX11_strategyOf_159 rv_c0 ?_
  refine rv_istore (lv' := [(8, .int (0 : Int32)), (4, .int (1 : Int32)), (3, .int r22), (7, .int r22), (0, .ref (ad 78)), (1, .int p1), (2, .int p2), (5, .int v5)]) h 160 dX11_strategyOf_160 (by decide) rfl ?_
  refine rv_sub h [4, 5, 6, 2, 1, 7, 0] rfl ?_
  refine rv_fx_ind (fun (a0 : Int32 → rv_W → rv_R) => ∀ (v35 : Int32) (w36 : rv_W), K 162 [(0, .ref (ad 78)), (1, .int p1), (2, .int p2), (3, .int r22), (4, .int (1 : Int32)), (5, .int v5), (8, .int v35)] [] w36 (a0 v35 w36)) (fun _ _ => rv_none h) (fun ag33 ih34 v35 w36 => ?_) rv_FU (0 : Int32) w25
  refine rv_iload h 162 dX11_strategyOf_162 6 rfl ?_
  refine rv_iload h 164 dX11_strategyOf_164 5 rfl ?_
  refine rv_icmp_ge (tgt := 189) h 166 dX11_strategyOf_166 (by decide) (fun _ => ?_) (fun _ => ?_)
  rotate_left
  · refine rv_sub h [0, 1, 2, 3, 4, 5] rfl ?_
    exact hk30 r22 (1 : Int32) w36
  refine rv_aload_n h 169 dX11_strategyOf_169 0 rfl ?_
  refine rv_getr h 170 dX11_strategyOf_170 rv_s78 rv_fd_X11_59 rfl ?_
  refine rv_iload h 173 dX11_strategyOf_173 6 rfl ?_
  refine rv_aload_n h 175 dX11_strategyOf_175 0 rfl ?_
  refine rv_getr h 176 dX11_strategyOf_176 rv_s78 rv_fd_X11_56 rfl ?_
  refine rv_iload h 179 dX11_strategyOf_179 6 rfl ?_
  refine rv_iald h 181 dX11_strategyOf_181 rv_s94 ?_
  refine rv_iast h 182 dX11_strategyOf_182 rv_s95 (fun w37 => ?_)
  refine rv_iinc h 183 (fun v38 => [(8, .int v38), (0, .ref (ad 78)), (1, .int p1), (2, .int p2), (3, .int r22), (4, .int (1 : Int32)), (5, .int v5)]) dX11_strategyOf_183 6 rfl rv_c1 (by decide) (fun _ => rfl) (fun v38 => ?_)
  refine rv_goto (tgt := 162) h 186 dX11_strategyOf_186 (by decide) ?_
  refine rv_sub h [1, 2, 3, 4, 5, 6, 0] rfl ?_
  exact ih34 v38 w37
