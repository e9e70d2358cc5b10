/-! histories -/
def ra_R : Type := Nat × Nat × (Nat → Nat) × (Nat → Nat)
def ra_R.mk (s G : Nat) (n b : Nat → Nat) : ra_R := (s, G, n, b)
def ra_R.s (r : ra_R) : Nat := r.1
def ra_R.G (r : ra_R) : Nat := r.2.1
def ra_R.n (r : ra_R) : Nat → Nat := r.2.2.1
def ra_R.b (r : ra_R) : Nat → Nat := r.2.2.2
def ra_sts : List Nat := [5, 8, 11, 14, 17]
def ra_refs (h : Nat → Nat) (w : rv_W) : Prop := (∀ i, i < 5 → h i ∈ ra_sts ∧ w 4 i = Int32.ofNat (h i)) ∧ ∀ i j, i < 5 → j < 5 → h i = h j → i = j
def ra_ch (K : Nat) (d : Nat → ra_R) (w : rv_W) : Prop := w 0 2 = Int32.ofNat K ∧ ∃ h, ra_refs h w ∧ ∀ i, i < K → rv_ST (h i) (d i).s (d i).G (d i).n (d i).b w
theorem ra_sts_in {k : Nat} (h : k ∈ ra_sts) : k = 5 ∨ k = 8 ∨ k = 11 ∨ k = 14 ∨ k = 17 := by
  simp only [ra_sts, List.mem_cons, List.not_mem_nil, or_false] at h
  exact h
theorem ra_ch.fr {K : Nat} {d : Nat → ra_R} {w w' : rv_W} (h : ra_ch K d w) (hK : K ≤ 5) (e0 : w' 0 2 = w 0 2) (e : ∀ c j, 4 ≤ c → c ≤ 19 → w' c j = w c j) : ra_ch K d w' := by
  obtain ⟨c1, hh, ⟨c2, c2'⟩, c3⟩ := h
  refine ⟨by rw [e0, c1], hh, ⟨fun i hi => ⟨(c2 i hi).1, by rw [e _ _ (by omega) (by omega), (c2 i hi).2]⟩, c2'⟩, fun i hi => ?_⟩
  have := ra_sts_in (c2 i (by omega)).1
  exact (c3 i hi).fr (fun c j hc => e c j (by omega) (by omega))
/-! the model's copies -/
theorem ra_ix142 {t j : Nat} : (142 : Int32) * Int32.ofNat t + Int32.ofNat j = Int32.ofNat (142 * t + j) := by
  rw [Int32.ofNat_add, Int32.ofNat_mul]; rfl
/-! the class's copy -/
theorem ra_copy {k0 a1 : Nat} {w : rv_W} (hne : k0 + 2 < a1 ∨ a1 + 2 < k0) : rv_T (f_X8_copy k0 a1 w) (fun _ w' => (∀ c j, ¬ (k0 ≤ c ∧ c ≤ k0 + 2) → w' c j = w c j) ∧ w' k0 0 = w a1 0 ∧ w' k0 1 = w a1 1 ∧ ∀ j, j < 20 → w' (k0 + 1) j = w (a1 + 1) j ∧ w' (k0 + 2) j = w (a1 + 2) j) := by
  unfold f_X8_copy
  rw [rv_T_lt, rv_T_lt]
  refine rv_T_for 20 (fun k w' => (∀ c j, ¬ (k0 ≤ c ∧ c ≤ k0 + 2) → w' c j = w c j) ∧ w' k0 0 = w a1 0 ∧ w' k0 1 = w a1 1 ∧ ∀ j, j < k → w' (k0 + 1) j = w (a1 + 1) j ∧ w' (k0 + 2) j = w (a1 + 2) j) (fun ag k w' hk hI q => ?_) (by decide) 0 _ ⟨fun c j z => by rw [rv_up_of (by omega), rv_up_of (by omega)], by rw [rv_up_of (by omega), rv_up_same], by rw [rv_up_same, rv_up_of (by omega)], fun j hj => by omega⟩ (by omega)
  obtain ⟨hf, h0, h1, hc⟩ := hI
  have e20 : (Int32.ofNat k < (20 : Int32)) = (k < 20) := propext (rv_n_lt (j := 20) (by omega) (by omega))
  simp only [e20]
  by_cases hk2 : k < 20
  · rw [if_pos hk2]
    simp only [rv_ck20 hk2, rv_nn20 hk2, rv_lt, rv_n_succ]
    refine q hk2 _ ⟨fun c j z => by rw [rv_up_of (by omega), rv_up_of (by omega), hf c j z], by rw [rv_up_of (by omega), rv_up_of (by omega), h0], by rw [rv_up_of (by omega), rv_up_of (by omega), h1], fun j hj => ?_⟩
    by_cases e : j = k
    · subst e
      refine ⟨by rw [rv_up_of (by omega), rv_up_same, hf _ _ (by omega)], by rw [rv_up_same, rv_up_of (by omega), hf _ _ (by omega)]⟩
    · refine ⟨by rw [rv_up_of (by omega), rv_up_of (by omega), (hc j (by omega)).1], by rw [rv_up_of (by omega), rv_up_of (by omega), (hc j (by omega)).2]⟩
  · rw [if_neg hk2]
    exact rv_T_some.mpr ⟨hf, h0, h1, fun j hj => hc j (by omega)⟩
theorem rv_ST.copy {k0 a1 s G : Nat} {n b : Nat → Nat} {w w' : rv_W} (h : rv_ST a1 s G n b w) (h0 : w' k0 0 = w a1 0) (h1 : w' k0 1 = w a1 1) (hc : ∀ j, j < 20 → w' (k0 + 1) j = w (a1 + 1) j ∧ w' (k0 + 2) j = w (a1 + 2) j) : rv_ST k0 s G n b w' := by
  obtain ⟨g1, g2, g3, g4, g5⟩ := h
  refine ⟨by rw [h0, g1], g2, by rw [h1, g3], g4, fun g hg => ?_⟩
  obtain ⟨c1, c2⟩ := hc g (by omega)
  rw [c1, c2]
  exact g5 g hg
/-! the recorded state -/
def ra_hK (K : Nat) : Nat := if K < 5 then K + 1 else 5
def ra_hD (K : Nat) (d : Nat → ra_R) (r : ra_R) : Nat → ra_R := if K < 5 then rv_at1 d K r else fun i => if i < 4 then d (i + 1) else r
