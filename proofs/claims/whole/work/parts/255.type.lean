/-! text typed -/
theorem ra_Inv_text {w w' : rv_W} (h : ra_Inv w) (hf : ∀ c j, ¬ (20 ≤ c ∧ c ≤ 23 ∨ c = 80 ∨ (c = 78 ∧ j ≠ 1)) → w' c j = w c j) (ht : ra_text w') : ra_Inv w' := by
  obtain ⟨⟨s, G, n, b, hC⟩, hH, hT, hR⟩ := id h
  obtain ⟨K, d, hK, hch, hmh⟩ := ra_hist_get hH
  refine ⟨⟨s, G, n, b, hC.1.fr (fun c j z => hf c j (by omega)), hC.2.fr (fun j => hf _ _ (by omega))⟩, ra_hist_mk hK (hch.fr hK (hf _ _ (by omega)) (fun c j z1 z2 => hf c j (by omega))) ⟨by rw [hf _ _ (by omega), hmh.1], fun i hi => ⟨(hmh.2 i hi).1, (hmh.2 i hi).2.fr (fun j => hf _ _ (by omega))⟩⟩, ht, hR.fr (fun c j z1 z2 => hf c j (by omega))⟩
theorem q_clearText : ra_St f_X10_clearText f_X11_clearText := fun w h => by
  obtain ⟨L, x, h1, h2, h3, h4⟩ := h.2.2.1
  unfold f_X10_clearText
  rw [rv_T_lt]
  refine rv_T_some.mpr ?_
  unfold f_X11_clearText
  rw [rv_T_lt]
  refine rv_T_some.mpr ⟨by rw [h2, rv_up_of (by omega), h3], ra_Inv_text h (fun c j z => by rw [rv_up_of (by omega), rv_up_of (by omega)]) ⟨0, x, Nat.zero_le _, by rw [rv_up_of (by omega), rv_up_same]; rfl, rv_up_same, fun i hi => absurd hi (Nat.not_lt_zero i)⟩⟩
theorem ra_char {c : Nat} (hc : c < 256) : vp_nar .char (((Int32.ofNat c).toUInt32 % 65536).toInt32) = Int32.ofNat c :=
  of_decide_eq_true (List.all_eq_true.mp (by decide +kernel : ((List.range 256).all fun c => decide (vp_nar .char (((Int32.ofNat c).toUInt32 % 65536).toInt32) = Int32.ofNat c)) = true) c (rv_rg hc))
theorem q_type (y : Int32) : ra_St (f_X10_type y) (f_X11_type y) := fun w h => by
  obtain ⟨L, x, h1, h2, h3, h4⟩ := h.2.2.1
  have ei : ∀ w, f_X11_in y 0 255 w = some (rv_b2 (ra_iv y 256), w) := fun w => ra_in0 (k := 256) (by decide)
  have ec := ei w
  unfold f_X11_in at ec
  cases hy : ra_iv y 256
  · rw [hy] at ec
    refine ra_noop (A := -1000002) h ?_ (by unfold f_X11_type; rw [ei, rv_bd_some, hy, if_pos ra_e0])
    unfold f_X10_type
    by_cases q1 : y < 0
    · rw [if_pos q1]
    · rw [if_neg q1] at ec ⊢
      by_cases q2 : 255 < y
      · rw [if_pos q2]
      · rw [if_neg q2] at ec
        cases Option.some.inj ec
  · obtain ⟨c, hc, rfl⟩ := ra_iv_get hy
    have q1 : ¬ Int32.ofNat c < 0 := rv_n_neg (by omega)
    have q2 : ¬ (255 : Int32) < Int32.ofNat c := fun z => by have := (rv_n_lt (i := 255) (by omega) (by omega)).mp z; omega
    have e100 : (w 20 0 < (100 : Int32)) ↔ L < 100 := by rw [h2]; exact rv_n_lt (j := 100) (by omega) (by omega)
    have m100 : ∀ w1 : rv_W, w1 78 3 = Int32.ofNat L → (w1 78 3 = (100 : Int32) ↔ L = 100) := fun w1 e => by rw [e]; exact rv_n_eq (j := 100) (by omega) (by omega)
    have n0 : ¬ w 20 0 < 0 := by rw [h2]; exact rv_n_neg (by omega)
    by_cases hL : L < 100
    · unfold f_X10_type f_X9_put
      rw [if_neg q1, if_neg q2, if_neg n0, if_pos (e100.mpr hL), h2, rv_n_ck hL (by decide), rv_nn hL (by decide), ra_char hc]
      refine rv_T_call (P := fun v w' => v = 1 ∧ w' = rv_up (rv_up w 21 L (Int32.ofNat c)) 20 0 (Int32.ofNat (L + 1))) ?_ (fun v w' ⟨hv, hw⟩ => ?_)
      · rw [rv_T_lt, rv_up_of (by omega), h2, rv_n_succ, rv_T_lt]
        exact rv_T_some.mpr ⟨rfl, rfl⟩
      · subst hv hw
        rw [if_neg (by decide), rv_up_same]
        refine rv_T_some.mpr ?_
        have f3 : rv_up (rv_up w 21 L (Int32.ofNat c)) 20 0 (Int32.ofNat (L + 1)) 78 3 = Int32.ofNat L := by rw [rv_up_of (by omega), rv_up_of (by omega), h3]
        have f4 : rv_up (rv_up (rv_up w 21 L (Int32.ofNat c)) 20 0 (Int32.ofNat (L + 1))) 80 L (Int32.ofNat c) 78 3 = Int32.ofNat L := by rw [rv_up_of (by omega), f3]
        unfold f_X11_type
        rw [ei, rv_bd_some, hy, if_neg ra_e1, if_neg (fun z => by have := (m100 _ f3).mp z; omega), f3, rv_n_ck hL (by decide), rv_nn hL (by decide), rv_T_lt, rv_T_lt, rv_up_same, f4, rv_n_succ]
        refine rv_T_some.mpr ⟨rfl, ra_Inv_text h (fun c j z => by rw [rv_up_of (by omega), rv_up_of (by omega), rv_up_of (by omega), rv_up_of (by omega)]) ⟨L + 1, fun i => if i = L then c else x i, by omega, by rw [rv_up_of (by omega), rv_up_of (by omega), rv_up_same], rv_up_same, fun i hi => ?_⟩⟩
        dsimp only
        by_cases e : i = L
        · rw [if_pos e, e]
          exact ⟨hc, by rw [rv_up_of (by omega), rv_up_of (by omega), rv_up_of (by omega), rv_up_same], by rw [rv_up_of (by omega), rv_up_same]⟩
        · rw [if_neg e]
          obtain ⟨g1, g2, g3⟩ := h4 i (by omega)
          exact ⟨g1, by rw [rv_up_of (by omega), rv_up_of (by omega), rv_up_of (by omega), rv_up_of (by omega), g2], by rw [rv_up_of (by omega), rv_up_of (by omega), rv_up_of (by omega), rv_up_of (by omega), g3]⟩
    · have eL : L = 100 := by omega
      refine ra_noop (A := -1000004) h ?_ (by unfold f_X11_type; rw [ei, rv_bd_some, hy, if_neg ra_e1, if_pos ((m100 w h3).mpr eL)])
      unfold f_X10_type f_X9_put
      rw [if_neg q1, if_neg q2, if_neg n0, if_neg (fun z => hL (e100.mp z)), rv_bd_some, if_pos rfl]
