/-! remembered by the model -/
def ra_mf (w w' : rv_W) : Prop := ∀ c j, ¬ (c = 78 ∧ j = 1 ∨ c = 79 ∧ 142 ≤ j) → w' c j = w c j
theorem ra_up_up {w : rv_W} {k j : Nat} {x y : Int32} : rv_up (rv_up w k j x) k j y = rv_up w k j y := by
  funext c i
  by_cases e : c = k ∧ i = j
  · rw [e.1, e.2, rv_up_same, rv_up_same]
  · rw [rv_up_of e, rv_up_of e, rv_up_of e]
