/-! spoilers, split, removals -/
theorem ra_wcm {r s x : Nat} {n m : Nat → Nat} (hs : s < 32) (hx : x < 5) : (ra_wc r s n m = Int32.ofNat x) = (ra_wm r s n m = Int32.ofNat x) := by
  by_cases q : s = 0
  · rw [ra_wc_0 q, ra_wm_0 q]
    have e1 : ¬ (-1000000 : Int32) = Int32.ofNat x := fun z => by
      have := congrArg Int32.toInt z
      rw [rv_n_int (by omega), show (-1000000 : Int32).toInt = -1000000 from rfl] at this
      omega
    have e2 : ¬ (-1 : Int32) = Int32.ofNat x := fun z => by
      have := congrArg Int32.toInt z
      rw [rv_n_int (by omega), show (-1 : Int32).toInt = -1 from rfl] at this
      omega
    exact propext ⟨fun z => absurd z e1, fun z => absurd z e2⟩
  · rw [ra_wc_1 q, ra_wm_1 q]
theorem ra_wcm2 {r s : Nat} {n m n' m' : Nat → Nat} : (ra_wc r s n m = ra_wc r s n' m') = (ra_wm r s n m = ra_wm r s n' m') := by
  by_cases q : s = 0
  · rw [ra_wc_0 q, ra_wm_0 q, ra_wc_0 q, ra_wm_0 q]; exact propext ⟨fun _ => rfl, fun _ => rfl⟩
  · rw [ra_wc_1 q, ra_wm_1 q, ra_wc_1 q, ra_wm_1 q]
def ra_spq (r s G : Nat) (n m : Nat → Nat) (c : Nat) : Bool := decide (s ≠ 0) && (decide (c ≠ ra_w r s (rv_cut 0 G n) m) && (rv_hs s c && decide (ra_wc r (rv_wo s c) (rv_cut 0 G n) m ≠ Int32.ofNat (ra_w r s (rv_cut 0 G n) m))))
theorem ra_hs_ne {s c : Nat} (h : rv_hs s c = true) : s ≠ 0 := fun z => by rw [z, ra_hs0] at h; cases h
/-- the first one -/
def ra_fst (q : Nat → Bool) : Nat → Nat → Int32
  | 0, _ => -1000000
  | f + 1, k => if q k = true then Int32.ofNat k else ra_fst q f (k + 1)
theorem ra_fst_s {q : Nat → Bool} {f k : Nat} : ra_fst q (f + 1) k = if q k = true then Int32.ofNat k else ra_fst q f (k + 1) := rfl
theorem ra_fst_z {q : Nat → Bool} {f k : Nat} (h : ∀ j, q j = false) : ra_fst q f k = -1000000 := by
  induction f generalizing k with
  | zero => rfl
  | succ f ih => rw [ra_fst_s, if_neg (by rw [h]; decide), ih]
def ra_sq (r s G : Nat) (n m : Nat → Nat) (k : Nat) : Bool := decide (ra_wc r s (rv_cut 0 k n) m ≠ ra_wc r s (rv_cut 0 G n) m) && decide (ra_wc r s (rv_cut k G n) m = ra_wc r s (rv_cut 0 k n) m)
