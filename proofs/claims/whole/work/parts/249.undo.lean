/-! undone -/
theorem q_undo : ra_St f_X10_undo f_X11_undo := fun w h => by
  obtain ⟨⟨s, G, n, b, hC⟩, hH, hT, hR⟩ := id h
  obtain ⟨K, d, hK, hch, hmh⟩ := ra_hist_get hH
  have e1 : (w 0 2 < (1 : Int32)) ↔ K < 1 := by rw [hch.1]; exact rv_n_lt (j := 1) (by omega) (by omega)
  have e5 : ((5 : Int32) < w 0 2) ↔ 5 < K := by rw [hch.1]; exact rv_n_lt (i := 5) (by omega) (by omega)
  have e0 : (w 78 1 = 0) ↔ K = 0 := by rw [hmh.1]; exact rv_n_eq (j := 0) (by omega) (by omega)
  by_cases q : K = 0
  · exact ra_noop (A := -1000003) h (by unfold f_X10_undo; rw [if_pos (e1.mpr (by omega))]) (by unfold f_X11_undo; rw [if_pos (e0.mpr q)])
  · obtain ⟨k, rfl⟩ : ∃ k, K = k + 1 := ⟨K - 1, by omega⟩
    have ep : Int32.ofNat (k + 1) - 1 = Int32.ofNat k := ra_pred (by omega)
    obtain ⟨c1, hh, ⟨c2, c2'⟩, c3⟩ := hch
    obtain ⟨m1, m2⟩ := hmh
    have hm := (c2 k (by omega)).1
    have hk := ra_sts_in hm
    have hd := (m2 k (by omega)).1
    unfold f_X10_undo
    rw [if_neg (fun z => by have := e1.mp z; omega), if_neg (fun z => by have := e5.mp z; omega), rv_T_lt, c1, ep, rv_up_same, rv_ck5 (by omega), rv_nn5 (by omega), rv_up_of (by omega), (c2 k (by omega)).2]
    refine rv_T_gd.mpr ⟨ra_rst hm, ?_⟩
    rw [ra_rnn hm]
    refine rv_T_call (ra_copy (by omega)) (fun _ w2 ⟨hf, h0, h1, hc⟩ => ?_)
    have hS : rv_ST (hh k) (d k).s (d k).G (d k).n (d k).b (rv_up w 0 2 (Int32.ofNat k)) := (c3 k (by omega)).fr (fun c j z => by rw [rv_up_of (by omega)])
    have hS2 := hS.copy h0 h1 hc
    have f2 : ∀ c j, ¬ (1 ≤ c ∧ c ≤ 3) → ¬ (c = 0 ∧ j = 2) → w2 c j = w c j := fun c j z y => by rw [hf c j (by omega), rv_up_of (by omega)]
    have h02 : w2 0 2 = Int32.ofNat k := by rw [hf _ _ (by omega), rv_up_same]
    rw [h02]
    refine rv_T_some.mpr ?_
    unfold f_X11_undo
    have m1' : w2 78 1 = Int32.ofNat (k + 1) := by rw [f2 _ _ (by omega) (by omega), m1]
    have e0' : ¬ w2 78 1 = 0 := by rw [m1', ← m1]; exact fun z => q (e0.mp z)
    rw [if_neg e0', m1']
    refine rv_T_call (ra_copies (t := k + 1) (u := 0) (by omega) (by omega) (by omega)) (fun _ w3 ⟨hf3, hc3⟩ => ?_)
    rw [rv_T_lt, hf3 78 1 (by omega), m1', ep, rv_up_same]
    have f3 : ∀ c j, ¬ (c = 79 ∧ j < 142) → ¬ (c = 78 ∧ j = 1) → rv_up w3 78 1 (Int32.ofNat k) c j = w2 c j := fun c j z y => by rw [rv_up_of y, hf3 c j (by omega)]
    have hM2 : ra_MR (k + 1) (d k).s (d k).G (d k).n (d k).b w2 := (m2 k (by omega)).2.fr (fun j => f2 _ _ (by omega) (by omega))
    refine rv_T_some.mpr ⟨rfl, ⟨_, _, _, _, hS2.fr (fun c j z => f3 c j (by omega) (by omega)), ?_⟩, ra_hist_mk (K := k) (d := d) (by omega) ⟨by rw [f3 _ _ (by omega) (by omega), h02], hh, ⟨fun i hi => ⟨(c2 i hi).1, by rw [f3 _ _ (by omega) (by omega), f2 _ _ (by omega) (by omega), (c2 i hi).2]⟩, c2'⟩, fun i hi => ?_⟩ ⟨rv_up_same, fun i hi => ⟨(m2 i (by omega)).1, (m2 i (by omega)).2.frr (m2 i (by omega)).1 (fun j hj => by rw [f3 _ _ (by omega) (by omega), f2 _ _ (by omega) (by omega)])⟩⟩, hT.fr (fun c j z => by rw [f3 c j (by omega) (by omega), f2 c j (by omega) (by omega)]), hR.fr (fun c j z1 z2 => by rw [f3 c j (by omega) (by omega), f2 c j (by omega) (by omega)])⟩
    · exact hM2.copy hd (fun j hj => by rw [rv_up_of (by omega), hc3 j hj])
    · have hmi := ra_sts_in (c2 i (by omega)).1
      exact (c3 i (by omega)).fr (fun c j z => by rw [f3 c j (by omega) (by omega), f2 c j (by omega) (by omega)])
