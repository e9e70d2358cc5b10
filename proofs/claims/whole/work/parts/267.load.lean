/-! a text's fault, and its groups loaded -/
theorem ra_text_cm {w : rv_W} (h : ra_text w) : ∃ L x, ra_tc L x w ∧ ra_tm L x w := by
  obtain ⟨L, x, h1, h2, h3, h4⟩ := h
  exact ⟨L, x, ⟨h1, h2, fun i hi => ⟨(h4 i hi).1, (h4 i hi).2.1⟩⟩, ⟨h1, h3, fun i hi => ⟨(h4 i hi).1, (h4 i hi).2.2⟩⟩⟩
theorem ra_fpl {x : Nat → Nat} {L R e : Nat} (h : ra_last x L R e) : ra_fp x L R e ≤ L := (ra_fp_ok h.1).2
theorem q_textFault : ra_St f_X10_textFault f_X11_textFault := fun w h => by
  obtain ⟨⟨s, G, n, b, hC⟩, _, hT, _⟩ := id h
  obtain ⟨L, x, htc, htm⟩ := ra_text_cm hT
  have hG : G ≤ 20 := hC.1.2.2.2.1
  have hL := htc.1
  unfold f_X10_textFault
  rw [ra_room hC.1, rv_bd_some]
  refine rv_T_call (ra_read htc (R := 20 - G) (by omega)) (fun v w1 ⟨e, hl, hv, _, hf⟩ => ?_)
  have hfe := ra_fpl hl
  refine rv_T_some.mpr ?_
  unfold f_X11_textFault
  have hM1 : ra_MR 0 s G n b w1 := hC.2.fr (fun j => hf _ _ (by omega) (by omega) (by omega))
  refine rv_T_call (ra_mRead0 (htm.fr (hf _ _ (by omega) (by omega) (by omega)) (fun j => hf _ _ (by omega) (by omega) (by omega))) (show w1 79 0 = Int32.ofNat G from hM1.1) (show G + (20 - G) = 20 by omega)) (fun v2 w2 ⟨e', hl', hv2, hs2, hf2⟩ => ?_)
  have ee := ra_last_un hl hl'
  subst ee
  have hI2 : ra_Inv w2 := ra_Inv_text h (fun c j z => by rw [hf2 c j (by omega), hf c j (by omega) (by omega) (by omega)]) (hT.fr (fun c j z => by rw [hf2 c j (by omega), hf c j (by omega) (by omega) (by omega)]))
  rw [hv2, hv]
  cases c : ra_suc x L (20 - G) e
  · rw [if_pos ra_e0, hs2 c]
    exact rv_T_some.mpr ⟨by rw [if_neg (by decide)], hI2⟩
  · rw [if_neg ra_e1]
    exact rv_T_some.mpr ⟨by rw [if_pos rfl], hI2⟩
theorem ra_append {s G k r : Nat} {n b : Nat → Nat} {w : rv_W} (hS : rv_ST 1 s G n b w) (hG : G < 20) (hk : 1 ≤ k ∧ k ≤ 100) (hr : r ∈ rv_B ∧ r ≠ 0) : rv_T (f_X8_append 1 (Int32.ofNat k) (Int32.ofNat r) w) (fun _ w' => rv_ST 1 s (G + 1) (rv_at1 n G k) (rv_at1 b G r) w' ∧ ra_hf w w') := by
  have e1 : w 1 1 = Int32.ofNat G := hS.2.2.1
  have e0 : 0 < Int32.ofNat (20 - G) := (rv_n_lt (i := 0) (by omega) (by omega)).mpr (by omega)
  unfold f_X8_append
  rw [ra_room hS, rv_bd_some, if_pos e0, e1, ra_hwr hG, rv_bd_some, rv_T_lt, rv_up_of (by omega), rv_up_of (by omega), e1, rv_n_succ]
  exact rv_T_some.mpr ⟨hS.ap hG hk hr, fun c j z => by rw [rv_up_of (by omega), rv_up_of (by omega), rv_up_of (by omega)]⟩
theorem q_load : ra_St f_X10_load f_X11_load := fun w h => by
  obtain ⟨⟨s, G, n, b, hC⟩, hH, hT, hRr⟩ := id h
  obtain ⟨L, x, htc, htm⟩ := ra_text_cm hT
  obtain ⟨K, d, hK, hch, hmh⟩ := ra_hist_get hH
  have hK' := ra_hK_le hK
  have hG : G ≤ 20 := hC.1.2.2.2.1
  have hL := htc.1
  unfold f_X10_load
  rw [ra_room hC.1, rv_bd_some]
  refine rv_T_call (ra_read htc (R := 20 - G) (by omega)) (fun v w1 ⟨e, hl, hv, hs, hf⟩ => ?_)
  have hfe := ra_fpl hl
  have hM1 : ra_MR 0 s G n b w1 := hC.2.fr (fun j => hf _ _ (by omega) (by omega) (by omega))
  have htm1 : ra_tm L x w1 := htm.fr (hf _ _ (by omega) (by omega) (by omega)) (fun j => hf _ _ (by omega) (by omega) (by omega))
  rw [hv]
  cases c : ra_suc x L (20 - G) e
  · rw [if_neg (show ¬ false = true by decide), if_neg (fun z => by
      have z2 := congrArg Int32.toInt z
      rw [rv_n_int (by omega), show (-1000000 : Int32).toInt = -1000000 from rfl] at z2
      omega)]
    refine rv_T_some.mpr ?_
    unfold f_X11_load
    refine rv_T_call (ra_mRead0 htm1 (show w1 79 0 = Int32.ofNat G from hM1.1) (show G + (20 - G) = 20 by omega)) (fun v2 w2 ⟨e', hl', hv2, hs2, hf2⟩ => ?_)
    have ee := ra_last_un hl hl'
    subst ee
    rw [hv2, c, if_pos ra_e0]
    exact rv_T_some.mpr ⟨rfl, ra_Inv_text h (fun c j z => by rw [hf2 c j (by omega), hf c j (by omega) (by omega) (by omega)]) (hT.fr (fun c j z => by rw [hf2 c j (by omega), hf c j (by omega) (by omega) (by omega)]))⟩
  · obtain ⟨s1, s2⟩ := hs c
    have c' := c
    unfold ra_suc at c'
    rw [Bool.and_eq_true, Bool.and_eq_true, decide_eq_true_eq, decide_eq_true_eq] at c'
    have hGe : G + e < 20 := by have := c'.1.1; omega
    have hgo : ∀ i, i < e + 1 → (1 ≤ rt_yv x L i ∧ rt_yv x L i ≤ 100) ∧ rt_yb x L i ∈ rv_B ∧ rt_yb x L i ≠ 0 := fun i hi => by
      have hok : (ra_g x L i).1 = true := by
        by_cases ci : i = e
        · rw [ci]; exact c'.1.2
        · exact (hl.1 i (by omega)).2.1
      obtain ⟨g1, t, g2, g3, g4⟩ := (ra_g_ok (x := x) (L := L) (R := 20 - G) (i := i) (fun j hj => hl.1 j (by omega))).2.2 hok
      have ho := ra_oc_ok g2 g3
      exact ⟨g1, ho.1, ho.2.1 g4⟩
    rw [if_pos rfl, if_pos rfl]
    have hch1 : ra_ch K d w1 := hch.fr hK (hf _ _ (by omega) (by omega) (by omega)) (fun c j z1 z2 => hf c j (by omega) (by omega) (by omega))
    have hS1 : rv_ST 1 s G n b w1 := hC.1.fr (fun c j z => hf c j (by omega) (by omega) (by omega))
    refine rv_T_call (ra_remember hK hch1 hS1) (fun r w2 ⟨h2, hf2⟩ => ?_)
    have hS2 : rv_ST 1 s G n b w2 := hS1.fr (fun c j z => hf2 c j (by omega))
    refine rv_T_for (e + 1) (fun i w' => rv_ST 1 s (G + i) (rt_ap n G i (rt_yv x L)) (rt_ap b G i (rt_yb x L)) w' ∧ ra_hf w2 w') (fun ag i w' hi hI q => ?_) (by show e + 1 < 10000; omega) 0 w2 ⟨by rw [rt_ap_0, rt_ap_0]; exact hS2, fun _ _ _ => rfl⟩ (Nat.zero_le _)
    obtain ⟨hSi, hfi⟩ := hI
    have e20 : w' 20 1 = Int32.ofNat (e + 1) := by rw [hfi _ _ (by omega), hf2 _ _ (by omega), s1]
    rw [e20]
    by_cases ci : i < e + 1
    · have eg := s2 i ci
      have ev : f_X9_votersOf (Int32.ofNat i) w' = some (Int32.ofNat (rt_yv x L i), w') := by
        unfold f_X9_votersOf
        rw [if_neg (rv_n_neg (by omega)), if_pos (show Int32.ofNat i < (20 : Int32) from (rv_n_lt (j := 20) (by omega) (by omega)).mpr (by omega)), rv_n_ck (show i < 20 by omega) (by decide), rv_n_nat (by omega), hfi _ _ (by omega), hf2 _ _ (by omega), eg.1]
        rfl
      have eb : f_X9_ballotOf (Int32.ofNat i) w' = some (Int32.ofNat (rt_yb x L i), w') := by
        unfold f_X9_ballotOf
        rw [if_neg (rv_n_neg (by omega)), if_pos (show Int32.ofNat i < (20 : Int32) from (rv_n_lt (j := 20) (by omega) (by omega)).mpr (by omega)), rv_n_ck (show i < 20 by omega) (by decide), rv_n_nat (by omega), hfi _ _ (by omega), hf2 _ _ (by omega), eg.2]
        rfl
      rw [if_pos ((rv_n_lt (by omega) (by omega)).mpr ci), ev, rv_bd_some, eb, rv_bd_some]
      refine rv_T_call (ra_append hSi (by omega) (hgo i ci).1 (hgo i ci).2) (fun r3 w3 ⟨h3, hf3⟩ => ?_)
      rw [rv_T_lt, rv_n_succ]
      rw [rt_ap_s, rt_ap_s, Nat.add_assoc] at h3
      exact q ci w3 ⟨h3, fun c j z => (hf3 c j z).trans (hfi c j z)⟩
    · have ie : i = e + 1 := by omega
      subst ie
      rw [if_neg (fun z => ci ((rv_n_lt (by omega) (by omega)).mp z))]
      refine rv_T_some.mpr ?_
      have f13 : ∀ c j, 20 ≤ c → w' c j = w1 c j := fun c j z => by rw [hfi c j (by omega), hf2 c j (by omega)]
      have hM3 : ra_MR 0 s G n b w' := hM1.fr (fun j => f13 _ _ (by omega))
      have htm3 : ra_tm L x w' := htm1.fr (f13 _ _ (by omega)) (fun j => f13 _ _ (by omega))
      have hmh3 : ra_mh K d w' := ⟨by rw [f13 _ _ (by omega), hf _ _ (by omega) (by omega) (by omega), hmh.1], fun i hi => ⟨(hmh.2 i hi).1, (hmh.2 i hi).2.fr (fun j => by rw [f13 _ _ (by omega), hf _ _ (by omega) (by omega) (by omega)])⟩⟩
      have hch3 : ra_ch (ra_hK K) (ra_hD K d (ra_R.mk s G n b)) w' := h2.fr hK' (hfi _ _ (by omega)) (fun c j z1 z2 => hfi c j (by omega))
      unfold f_X11_load
      refine rv_T_call (ra_mRead0 htm3 (show w' 79 0 = Int32.ofNat G from hM3.1) (show G + (20 - G) = 20 by omega)) (fun v4 w4 ⟨e', hl', hv4, _, hf4⟩ => ?_)
      have ee := ra_last_un hl hl'
      subst ee
      rw [hv4, c, if_neg ra_e1]
      have hM4 : ra_MR 0 s G n b w4 := hM3.fr (fun j => hf4 _ _ (by omega))
      have hmh4 : ra_mh K d w4 := ⟨by rw [hf4 _ _ (by omega), hmh3.1], fun i hi => ⟨(hmh3.2 i hi).1, (hmh3.2 i hi).2.fr (fun j => hf4 _ _ (by omega))⟩⟩
      refine rv_T_call (ra_saves hK hG hmh4 hM4) (fun r5 w5 ⟨h5, hf5⟩ => ?_)
      have htm5 : ra_tm L x w5 := htm3.fr (by rw [hf5 _ _ (by omega), hf4 _ _ (by omega)]) (fun j => by rw [hf5 _ _ (by omega), hf4 _ _ (by omega)])
      refine rv_T_call (ra_mRead1 htm5 (hM4.mf hG hf5) hl c hGe) (fun r6 w6 ⟨h6, hf6⟩ => ?_)
      have f36 : ∀ c j, ¬ (c = 78 ∧ (j = 1 ∨ 24 ≤ j ∧ j ≤ 26) ∨ c = 79) → w6 c j = w' c j := fun c j z => by rw [hf6 c j (by omega) (by omega), hf5 c j (by omega), hf4 c j (by omega)]
      have e6 : w6 79 0 = Int32.ofNat (G + (e + 1)) := h6.1
      rw [ra_c852', ra_nn0, e6]
      refine rv_T_some.mpr ⟨hSi.2.2.1, ⟨s, G + (e + 1), _, _, hSi.fr (fun c j z => f36 c j (by omega)), h6⟩, ra_hist_mk hK' (hch3.fr hK' (f36 _ _ (by omega)) (fun c j z1 z2 => f36 c j (by omega))) ⟨by rw [hf6 _ _ (by omega) (by omega), h5.1], fun i hi => ⟨(h5.2 i hi).1, (h5.2 i hi).2.frr (h5.2 i hi).1 (fun j hj => hf6 _ _ (by omega) (by omega))⟩⟩, hT.fr (fun c j z => by rw [f36 c j (by omega), f13 c j (by omega), hf c j (by omega) (by omega) (by omega)]), hRr.fr (fun c j z1 z2 => by rw [f36 c j (by omega), f13 c j (by omega), hf c j (by omega) (by omega) (by omega)])⟩
