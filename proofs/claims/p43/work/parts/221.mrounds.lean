/-! the model's rounds -/
def ra_mrec (cb : Bool) (n m : Nat → Nat) (s i : Nat) (w : rv_W) : Prop := w 78 15 = Int32.ofNat i ∧ ∀ j, j < i → w 88 j = Int32.ofNat (ra_out cb n m (ra_cs cb n m s j)) ∧ w 90 j = Int32.ofNat (ra_cs cb n m s j) ∧ ∀ c, c < 5 → w 89 (5 * j + c) = Int32.ofNat (ra_x cb n m (ra_cs cb n m s j) c)
theorem ra_mrec.keep {cb : Bool} {n m : Nat → Nat} {s i : Nat} {w w' : rv_W} (h : ra_mrec cb n m s i w) (e1 : w' 78 15 = w 78 15) (e2 : ∀ c j, 88 ≤ c → c ≤ 90 → w' c j = w c j) : ra_mrec cb n m s i w' := by
  refine ⟨by rw [e1, h.1], fun j hj => ?_⟩
  obtain ⟨g1, g2, g3⟩ := h.2 j hj
  exact ⟨by rw [e2 _ _ (by omega) (by omega), g1], by rw [e2 _ _ (by omega) (by omega), g2], fun c hc => by rw [e2 _ _ (by omega) (by omega), g3 c hc]⟩
theorem ra_xorbit {C c : Nat} (hC : C < 32) (hc : c < 5) (h : rv_hs C c = true) : Int32.ofNat C ^^^ ((1 : Int32) <<< (Int32.ofNat c &&& 31)) = Int32.ofNat (rv_wo C c) := by
  have key := rv_all2 (p := fun C c => !rv_hs C c || decide (Int32.ofNat C ^^^ ((1 : Int32) <<< (Int32.ofNat c &&& 31)) = Int32.ofNat (rv_wo C c))) (l := List.range 32) (m := List.range 5) (by decide +kernel) (rv_rg hC) (rv_rg hc)
  rw [h, Bool.not_true, Bool.false_or] at key
  exact of_decide_eq_true key
theorem ra_sm_cn {k x : Nat} {p : Nat → Bool} : rv_sm k (fun c => if p c = true then x else 0) = x * rv_cn k p := by
  induction k with
  | zero => rfl
  | succ k ih =>
    rw [rv_sm, rv_cn_s, ih]
    split
    · rw [Nat.mul_add, Nat.mul_one]
    · rfl
theorem ra_bal {G C : Nat} {n m : Nat → Nat} {w : rv_W} (h : ra_MP G n m w) (hC : C < 32) : rv_sm 5 (ra_KC n m C 1) = ra_S G n (fun g => decide (ra_of (m g) C < rv_mn C)) := by
  have e1 : ∀ c, ra_KC n m C 1 c = rv_sm G (fun g => if (rv_hs C c && ra_kb (m g) C 1 c) = true then n g else 0) := fun c => by
    unfold ra_KC ra_K
    by_cases hc : rv_hs C c = true
    · rw [if_pos hc, ra_S_ext h.2.1 h.2.2.2.1]
      unfold ra_S
      refine rv_sm_congr (fun g _ => ?_)
      rw [hc, Bool.true_and]
    · rw [if_neg hc]
      refine (rv_sm_zero (fun g _ => ?_)).symm
      rw [Bool.eq_false_iff.mpr hc, Bool.false_and]; rfl
  rw [rv_sm_congr (fun c _ => e1 c), rv_sm_swap]
  refine rv_sm_congr (fun g hg => ?_)
  rw [ra_sm_cn (p := fun c => rv_hs C c && ra_kb (m g) C 1 c), ra_A5 (h.2.2.1 g hg).2.1 hC]
  by_cases q : ra_of (m g) C < rv_mn C
  · rw [if_pos q, Nat.mul_one, if_pos (decide_eq_true q)]
  · rw [if_neg q, Nat.mul_zero, if_neg (by dsimp only; rw [decide_eq_false q]; decide)]
