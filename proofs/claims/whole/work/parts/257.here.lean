theorem ra_here {L p : Nat} {x : Nat → Nat} {w : rv_W} (h : ra_tm L x w) (hp : p ≤ L) (hw : w 78 24 = Int32.ofNat p) : rv_T (f_X11_here w) (fun v w' => v = ra_by x L (ra_sp x L p) ∧ w' 78 24 = Int32.ofNat (ra_sp x L p) ∧ ∀ c j, ¬ (c = 78 ∧ j = 24) → w' c j = w c j) := by
  have hL := h.1
  unfold f_X11_here
  refine rv_T_fx (α := rv_W → rv_R) (σ := Nat × rv_W) (fun t a => a t.2) (fun t => t.1 ≤ L ∧ ra_sp x L t.1 = ra_sp x L p ∧ t.2 78 24 = Int32.ofNat t.1 ∧ ∀ c j, ¬ (c = 78 ∧ j = 24) → t.2 c j = w c j) (fun t => L - t.1) ?_ rv_FU (p, w) (by show L - p < 10000; omega) ⟨hp, rfl, hw, fun _ _ _ => rfl⟩
  intro ag ⟨k, w'⟩ hI q
  obtain ⟨hk, hn, h2, hf⟩ := hI
  dsimp only at hk hn h2 hf q ⊢
  have h3 : w' 78 3 = Int32.ofNat L := by rw [hf _ _ (by omega), h.2.1]
  have el : (w' 78 24 < w' 78 3) ↔ k < L := by rw [h2, h3]; exact rv_n_lt (by omega) (by omega)
  rw [rv_T_jn]
  by_cases hkL : k < L
  · have hx := (h.2.2 k hkL).1
    have hxw : w' 80 k = Int32.ofNat (x k) := by rw [hf _ _ (by omega), (h.2.2 k hkL).2]
    have e32 : (Int32.ofNat (x k) = 32) ↔ x k = 32 := rv_n_eq (j := 32) (by omega) (by omega)
    have k100 : k < 100 := by omega
    have hck : ∀ t : rv_R, rv_ck (w' 78 24) 100 t = t := fun t => by rw [h2, rv_n_ck k100 (by decide)]
    have hcd : (w' 80 (w' 78 24).toNatClampNeg = 32) ↔ x k = 32 := by rw [h2, rv_nn k100 (by decide), hxw]; exact e32
    rw [if_pos (el.mpr hkL), hck]
    by_cases e : x k = 32
    · rw [if_pos (hcd.mpr e), rv_T_lt, h2, rv_n_succ]
      exact q (k + 1, rv_up w' 78 24 (Int32.ofNat (k + 1))) ⟨hkL, by rw [← hn, ra_sp_1 hkL e], (show rv_up w' 78 24 (Int32.ofNat (k + 1)) 78 24 = Int32.ofNat (k + 1) from rv_up_same), fun c j z => by
        show rv_up w' 78 24 (Int32.ofNat (k + 1)) c j = w c j
        rw [rv_up_of z, hf c j z]⟩ (by dsimp only; omega)
    · have e0 : ra_sp x L k = k := ra_sp_0 (fun z => e z.2)
      rw [if_neg (fun z => e (hcd.mp z))]
      show rv_T (if w' 78 24 < w' 78 3 then rv_ck (w' 78 24) 100 (some (w' 80 (w' 78 24).toNatClampNeg, w')) else some (-1, w')) _
      rw [if_pos (el.mpr hkL), h2, rv_n_ck k100 (by decide), rv_nn k100 (by decide), hxw]
      refine rv_T_some.mpr ⟨?_, ?_, hf⟩
      · rw [← hn, e0]; exact (if_pos hkL).symm
      · rw [← hn, e0, h2]
  · have e0 : ra_sp x L k = k := ra_sp_0 (fun z => hkL z.1)
    rw [if_neg (fun z => hkL (el.mp z))]
    show rv_T (if w' 78 24 < w' 78 3 then rv_ck (w' 78 24) 100 (some (w' 80 (w' 78 24).toNatClampNeg, w')) else some (-1, w')) _
    rw [if_neg (fun z => hkL (el.mp z))]
    refine rv_T_some.mpr ⟨?_, ?_, hf⟩
    · rw [← hn, e0]; exact (if_neg hkL).symm
    · rw [← hn, e0, h2]
