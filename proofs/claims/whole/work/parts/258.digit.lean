def ra_dg (c : Nat) : Bool := decide (48 ≤ c ∧ c ≤ 57)
theorem ra_isDigit {c : Nat} {w : rv_W} (hc : c < 256) : f_X9_isDigit (Int32.ofNat c) w = some (rv_b2 (ra_dg c), w) := by
  unfold f_X9_isDigit ra_dg
  have e1 : (Int32.ofNat c < (48 : Int32)) ↔ c < 48 := rv_n_lt (j := 48) (by omega) (by omega)
  have e2 : ((57 : Int32) < Int32.ofNat c) ↔ 57 < c := rv_n_lt (i := 57) (by omega) (by omega)
  by_cases h1 : c < 48
  · rw [if_pos (e1.mpr h1), decide_eq_false (by omega)]; rfl
  · rw [if_neg (fun z => h1 (e1.mp z))]
    by_cases h2 : 57 < c
    · rw [if_pos (e2.mpr h2), decide_eq_false (by omega)]; rfl
    · rw [if_neg (fun z => h2 (e2.mp z)), decide_eq_true (by omega)]; rfl
theorem ra_inDigit {c : Nat} {w : rv_W} (hc : c < 256) : f_X11_in (Int32.ofNat c) 48 57 w = some (rv_b2 (ra_dg c), w) := by
  have h := ra_isDigit (w := w) hc
  unfold f_X9_isDigit at h
  unfold f_X11_in
  exact h
