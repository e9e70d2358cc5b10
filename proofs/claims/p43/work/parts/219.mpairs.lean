/-! ranked pairs of the model -/
def ra_zm (z : ra_Z) (w : rv_W) : Prop := ∀ k, k < 25 → w 86 k = rv_b2 (z.1 (k / 5) (k % 5)) ∧ w 87 k = rv_b2 (z.2 (k / 5) (k % 5))
theorem ra_gd1 {t : rv_R} : rv_gd ((1 : Int32) = 0 ∨ (1 : Int32) = 1) t = t := if_pos (Or.inr rfl)
theorem ra_gd0 {t : rv_R} : rv_gd ((0 : Int32) = 0 ∨ (0 : Int32) = 1) t = t := if_pos (Or.inl rfl)
