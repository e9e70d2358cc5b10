/-! the model's rounds -/
def ra_mrec (cb : Bool) (n m : Nat → Nat) (s i : Nat) (w : rv_W) : Prop := w 78 15 = Int32.ofNat i ∧ ∀ j, j < i → w 88 j = Int32.ofNat (ra_out cb n m (ra_cs cb n m s j)) ∧ w 90 j = Int32.ofNat (ra_cs cb n m s j) ∧ ∀ c, c < 5 → w 89 (5 * j + c) = Int32.ofNat (ra_x cb n m (ra_cs cb n m s j) c)
theorem ra_mrec.keep {cb : Bool} {n m : Nat → Nat} {s i : Nat} {w w' : rv_W} (h : ra_mrec cb n m s i w) (e1 : w' 78 15 = w 78 15) (e2 : ∀ c j, 88 ≤ c → c ≤ 90 → w' c j = w c j) : ra_mrec cb n m s i w' := by
  refine ⟨by rw [e1, h.1], fun j hj => ?_⟩
  obtain ⟨g1, g2, g3⟩ := h.2 j hj
  exact ⟨by rw [e2 _ _ (by omega) (by omega), g1], by rw [e2 _ _ (by omega) (by omega), g2], fun c hc => by rw [e2 _ _ (by omega) (by omega), g3 c hc]⟩
theorem ra_xorbit {C c : Nat} (hC : C < 32) (hc : c < 5) (h : rv_hs C c = true) : Int32.ofNat C ^^^ ((1 : Int32) <<< (Int32.ofNat c &&& 31)) = Int32.ofNat (rv_wo C c) := by
  have key := rv_all2 (p := fun C c => !rv_hs C c || decide (Int32.ofNat C ^^^ ((1 : Int32) <<< (Int32.ofNat c &&& 31)) = Int32.ofNat (rv_wo C c))) (l := List.range 32) (m := List.range 5) (by decide +kernel) (rv_rg hC) (rv_rg hc)
  rw [h, Bool.not_true, Bool.false_or] at key
  exact of_decide_eq_true key
theorem ra_sm_cn {k x : Nat} {p : Nat → Bool} : rv_sm k (fun c => if p c = true then x else 0) = x * rv_cn k p := by
  induction k with
  | zero => rfl
  | succ k ih =>
    rw [rv_sm, rv_cn_s, ih]
    split
    · rw [Nat.mul_add, Nat.mul_one]
    · rfl
