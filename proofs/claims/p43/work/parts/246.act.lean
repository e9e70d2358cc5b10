/-! a change, recorded by both -/
def ra_hf (w w' : rv_W) : Prop := ∀ c j, ¬ (1 ≤ c ∧ c ≤ 3) → w' c j = w c j
theorem ra_hK_le {K : Nat} (h : K ≤ 5) : ra_hK K ≤ 5 := by
  unfold ra_hK
  split <;> omega
/-! the model's rows -/
theorem ra_mth {s G : Nat} {x : Int32} {n b : Nat → Nat} {w : rv_W} (h : rv_ST 1 s G n b w) : f_X8_holds 1 x w = some (rv_b2 (ra_iv x G), w) := by
  have hG : G ≤ 20 := h.2.2.2.1
  unfold f_X8_holds
  rw [h.2.2.1]
  exact ra_rng (k := G) (by omega)
/-! voters set -/
theorem ra_write {g k r : Nat} {w : rv_W} (hg : g < 20) : f_X8_write 1 (Int32.ofNat g) (Int32.ofNat k) (Int32.ofNat r) w = some (0, rv_up (rv_up w 2 g (Int32.ofNat k)) 3 g (Int32.ofNat r)) := by
  unfold f_X8_write
  have e : Int32.ofNat g < (20 : Int32) := (rv_n_lt (j := 20) (by omega) (by omega)).mpr hg
  rw [if_neg (rv_n_neg (by omega)), if_pos e]
  simp only [rv_ck20 hg, rv_nn20 hg, rv_lt]
theorem rv_ST.wr {s G g k r : Nat} {n b : Nat → Nat} {w : rv_W} (h : rv_ST 1 s G n b w) (hg : g < G) (hk : 1 ≤ k ∧ k ≤ 100) (hr : r ∈ rv_B ∧ r ≠ 0) : rv_ST 1 s G (rv_at1 n g k) (rv_at1 b g r) (rv_up (rv_up w 2 g (Int32.ofNat k)) 3 g (Int32.ofNat r)) := by
  obtain ⟨h1, h2, h3, h4, h5⟩ := h
  refine ⟨by rw [rv_up_of (by omega), rv_up_of (by omega), h1], h2, by rw [rv_up_of (by omega), rv_up_of (by omega), h3], h4, fun i hi => ?_⟩
  by_cases e : i = g
  · subst e
    rw [ra_at1_same, ra_at1_same]
    exact ⟨by rw [rv_up_of (by omega), rv_up_same], rv_up_same, hk, hr.1, hr.2⟩
  · rw [ra_at1_ne e, ra_at1_ne e]
    obtain ⟨g1, g2, g3⟩ := h5 i hi
    exact ⟨by rw [rv_up_of (by omega), rv_up_of (by omega), g1], by rw [rv_up_of (by omega), rv_up_of (by omega), g2], g3⟩
