/-! Borda: what a voter gives -/
def ra_ea (b C c : Nat) : Nat := if rv_q b c < 9 then 2 * (rv_mn C - 1 - rv_cn 5 (fun d => rv_hs C d && decide (rv_q b d < rv_q b c))) else ra_of b C - 1
def ra_bm (n m : Nat → Nat) (C c : Nat) : Nat := rv_sm 20 (fun g => n g * ra_ea (m g) C c)
theorem ra_ea_ok {b C c : Nat} (hb : b ∈ rv_B) (hC : C < 32) (hc : c < 5) (h : rv_hs C c = true) : rv_sm 5 (fun d => if c = d then 0 else if rv_hs C d = true then 1 + (if rv_q b c < rv_q b d then 1 else 0) - (if rv_q b d < rv_q b c then 1 else 0) else 0) = ra_ea b C c ∧ (rv_q b c < 9 → rv_cn 5 (fun d => rv_hs C d && decide (rv_q b d < rv_q b c)) + 1 ≤ rv_mn C) ∧ (¬ rv_q b c < 9 → 1 ≤ ra_of b C) := by
  have h2 := rv_all2 (p := fun b C => (List.range 5).all fun c => !(rv_hs C c) || decide (rv_sm 5 (fun d => if c = d then 0 else if rv_hs C d = true then 1 + (if rv_q b c < rv_q b d then 1 else 0) - (if rv_q b d < rv_q b c then 1 else 0) else 0) = ra_ea b C c) && (if rv_q b c < 9 then decide (rv_cn 5 (fun d => rv_hs C d && decide (rv_q b d < rv_q b c)) + 1 ≤ rv_mn C) else decide (1 ≤ ra_of b C))) (l := rv_B) (m := List.range 32) (by decide +kernel) hb (rv_rg hC)
  have h3 := List.all_eq_true.mp h2 c (rv_rg hc)
  rw [h, Bool.not_true, Bool.false_or, Bool.and_eq_true, decide_eq_true_eq] at h3
  refine ⟨h3.1, fun q => ?_, fun q => ?_⟩
  · have h4 := h3.2
    rw [if_pos q] at h4
    exact of_decide_eq_true h4
  · have h4 := h3.2
    rw [if_neg q] at h4
    exact of_decide_eq_true h4
