/-! a change, recorded by both -/
def ra_hf (w w' : rv_W) : Prop := ∀ c j, ¬ (1 ≤ c ∧ c ≤ 3) → w' c j = w c j
def ra_kf (w w' : rv_W) : Prop := ∀ c j, ¬ (c = 79 ∧ j < 142) → w' c j = w c j
theorem ra_noop {A : Int32} {w : rv_W} {fc fm : rv_W → rv_R} (h : ra_Inv w) (e1 : fc w = some (A, w)) (e2 : fm w = some (A, w)) : rv_T (fc w) (fun v w1 => rv_T (fm w1) (fun v2 w2 => v = v2 ∧ ra_Inv w2)) := by
  rw [e1]
  refine rv_T_some.mpr ?_
  rw [e2]
  exact rv_T_some.mpr ⟨rfl, h⟩
theorem ra_hK_le {K : Nat} (h : K ≤ 5) : ra_hK K ≤ 5 := by
  unfold ra_hK
  split <;> omega
theorem ra_text.fr {w w' : rv_W} (h : ra_text w) (e1 : ∀ c j, c = 20 ∧ j = 0 ∨ c = 21 ∨ c = 78 ∧ j = 3 ∨ c = 80 → w' c j = w c j) : ra_text w' := by
  obtain ⟨L, x, h1, h2, h3, h4⟩ := h
  exact ⟨L, x, h1, by rw [e1 _ _ (by omega), h2], by rw [e1 _ _ (by omega), h3], fun i hi => ⟨(h4 i hi).1, by rw [e1 _ _ (by omega), (h4 i hi).2.1], by rw [e1 _ _ (by omega), (h4 i hi).2.2]⟩⟩
/-! the model's rows -/
theorem ra_mth {s G : Nat} {x : Int32} {n b : Nat → Nat} {w : rv_W} (h : rv_ST 1 s G n b w) : f_X8_holds 1 x w = some (rv_b2 (ra_iv x G), w) := by
  have hG : G ≤ 20 := h.2.2.2.1
  unfold f_X8_holds
  rw [h.2.2.1]
  exact ra_rng (k := G) (by omega)
/-! voters set -/
theorem ra_write {g k r : Nat} {w : rv_W} (hg : g < 20) : f_X8_write 1 (Int32.ofNat g) (Int32.ofNat k) (Int32.ofNat r) w = some (0, rv_up (rv_up w 2 g (Int32.ofNat k)) 3 g (Int32.ofNat r)) := by
  unfold f_X8_write
  have e : Int32.ofNat g < (20 : Int32) := (rv_n_lt (j := 20) (by omega) (by omega)).mpr hg
  rw [if_neg (rv_n_neg (by omega)), if_pos e]
  simp only [rv_ck20 hg, rv_nn20 hg, rv_lt]
theorem rv_ST.wr {s G g k r : Nat} {n b : Nat → Nat} {w : rv_W} (h : rv_ST 1 s G n b w) (hg : g < G) (hk : 1 ≤ k ∧ k ≤ 100) (hr : r ∈ rv_B ∧ r ≠ 0) : rv_ST 1 s G (rv_at1 n g k) (rv_at1 b g r) (rv_up (rv_up w 2 g (Int32.ofNat k)) 3 g (Int32.ofNat r)) := by
  obtain ⟨h1, h2, h3, h4, h5⟩ := h
  refine ⟨by rw [rv_up_of (by omega), rv_up_of (by omega), h1], h2, by rw [rv_up_of (by omega), rv_up_of (by omega), h3], h4, fun i hi => ?_⟩
  by_cases e : i = g
  · subst e
    rw [ra_at1_same, ra_at1_same]
    exact ⟨by rw [rv_up_of (by omega), rv_up_same], rv_up_same, hk, hr.1, hr.2⟩
  · rw [ra_at1_ne e, ra_at1_ne e]
    obtain ⟨g1, g2, g3⟩ := h5 i hi
    exact ⟨by rw [rv_up_of (by omega), rv_up_of (by omega), g1], by rw [rv_up_of (by omega), rv_up_of (by omega), g2], g3⟩
