/-! neighbours exchanged -/
theorem ra_xc_ok {r p : Nat} (hr : r ∈ rv_B) (hp : p < 4) (h : p + 1 < rv_ln r) : ra_xc r p ∈ rv_B ∧ ra_xc r p ≠ 0 ∧ rv_ln (ra_xc r p) = rv_ln r ∧ ∀ k, k < 5 → rv_at (ra_xc r p) k = if k = p then rv_at r (p + 1) else if k = p + 1 then rv_at r p else rv_at r k := by
  have h1 := (ra_F2 hr hp h).1
  have t := rv_all2 (p := fun r p => !Nat.ble (p + 2) (rv_ln r) || (!Nat.beq (ra_xc r p) 0 && Nat.beq (rv_ln (ra_xc r p)) (rv_ln r) && (List.range 5).all fun k => Nat.beq (rv_at (ra_xc r p) k) (if Nat.beq k p then rv_at r (p + 1) else if Nat.beq k (p + 1) then rv_at r p else rv_at r k))) (l := rv_B) (m := List.range 4) (by decide +kernel) hr (rv_rg hp)
  rw [Nat.ble_eq_true_of_le (by omega), Bool.not_true, Bool.false_or, Bool.and_eq_true, Bool.and_eq_true] at t
  refine ⟨h1, fun z => ?_, Nat.eq_of_beq_eq_true t.1.2, fun k hk => ?_⟩
  · have := t.1.1
    rw [z] at this
    cases this
  · have e := Nat.eq_of_beq_eq_true (List.all_eq_true.mp t.2 k (rv_rg hk))
    rw [e]
    by_cases q : k = p
    · rw [if_pos q, if_pos (by rw [q]; exact Nat.beq_refl p)]
    · rw [if_neg q, if_neg (fun z => q (Nat.eq_of_beq_eq_true z))]
      by_cases q2 : k = p + 1
      · rw [if_pos q2, if_pos (by rw [q2]; exact Nat.beq_refl _)]
      · rw [if_neg q2, if_neg (fun z => q2 (Nat.eq_of_beq_eq_true z))]
theorem ra_ln_pos {r : Nat} (hr : r ∈ rv_B) (h : r ≠ 0) : 1 ≤ rv_ln r := by
  have t := List.all_eq_true.mp (by decide +kernel : (rv_B.all fun r => Nat.beq r 0 || Nat.ble 1 (rv_ln r)) = true) r hr
  rw [Bool.or_eq_true] at t
  rcases t with t | t
  · exact absurd (Nat.eq_of_beq_eq_true t) h
  · exact Nat.le_of_ble_eq_true t
