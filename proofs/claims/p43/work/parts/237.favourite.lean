/-! favourite -/
def ra_cw (s : Nat) (n m : Nat → Nat) (k c : Nat) : Nat := rv_cn k (fun r => ra_w r s n m == c)
def ra_bst (f : Nat → Nat) : Nat → Nat × Nat
  | 0 => (5, 0)
  | c + 1 => if (ra_bst f c).2 < f c then (c, f c) else ra_bst f c
theorem ra_bst_s {f : Nat → Nat} {c : Nat} : ra_bst f (c + 1) = if (ra_bst f c).2 < f c then (c, f c) else ra_bst f c := rfl
def ra_amx (f : Nat → Nat) : Nat → Nat
  | 0 => 0
  | c + 1 => if f (ra_amx f c) < f c then c else ra_amx f c
theorem ra_amx_s {f : Nat → Nat} {c : Nat} : ra_amx f (c + 1) = if f (ra_amx f c) < f c then c else ra_amx f c := rfl
theorem ra_bst_amx {f : Nat → Nat} {k : Nat} : (ra_bst f (k + 1)).2 = f (ra_amx f (k + 1)) ∧ (ra_bst f (k + 1)).1 = (if f (ra_amx f (k + 1)) = 0 then 5 else ra_amx f (k + 1)) := by
  induction k with
  | zero =>
    have e : ra_amx f 1 = 0 := by rw [ra_amx_s]; split <;> rfl
    rw [ra_bst_s, e]
    by_cases q : 0 < f 0
    · rw [if_pos (show (ra_bst f 0).2 < f 0 from q), if_neg (by omega)]
      exact ⟨rfl, rfl⟩
    · rw [if_neg (show ¬ (ra_bst f 0).2 < f 0 from q), if_pos (by omega)]
      exact ⟨by show 0 = f 0; omega, rfl⟩
  | succ k ih =>
    rw [ra_bst_s, ra_amx_s, ih.1]
    by_cases q : f (ra_amx f (k + 1)) < f (k + 1)
    · rw [if_pos q, if_pos q, if_neg (by omega)]
      exact ⟨rfl, rfl⟩
    · rw [if_neg q, if_neg q]
      exact ih
theorem ra_amx_ge {f : Nat → Nat} {k c : Nat} (h : c < k) : f c ≤ f (ra_amx f k) := by
  induction k with
  | zero => omega
  | succ k ih =>
    rw [ra_amx_s]
    by_cases e : c = k
    · subst e
      split
      · exact Nat.le_refl _
      · omega
    · have := ih (by omega)
      split
      · omega
      · exact this
theorem ra_amx_lt {f : Nat → Nat} {k : Nat} (h : 0 < k) : ra_amx f k < k := by
  induction k with
  | zero => omega
  | succ k ih =>
    rw [ra_amx_s]
    split
    · omega
    · cases k with
      | zero => exact Nat.zero_lt_one
      | succ k => have := ih (by omega); omega
theorem ra_cw_pos {s : Nat} {n m : Nat → Nat} : 0 < ra_cw s n m 12 (ra_w 0 s n m) := by
  have : ∀ k, 0 < k → 0 < ra_cw s n m k (ra_w 0 s n m) := by
    intro k
    induction k with
    | zero => intro h; omega
    | succ k ih =>
      intro _
      unfold ra_cw at *
      rw [rv_cn_s]
      cases k with
      | zero => rw [if_pos (beq_self_eq_true _)]; exact Nat.succ_pos _
      | succ k =>
        have := ih (by omega)
        split
        · exact Nat.succ_pos _
        · exact this
  exact this 12 (by omega)
theorem ra_12 {r : Nat} (hr : r ≤ 12) : (Int32.ofNat r < (12 : Int32)) = (r < 12) := propext (rv_n_lt (j := 12) (by omega) (by omega))
