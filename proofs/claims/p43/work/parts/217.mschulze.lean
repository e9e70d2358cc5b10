/-! the model's frame of the rules -/
theorem ra_ix5d {k v : Nat} : (5 : Int32) * Int32.ofNat (k / 5) + Int32.ofNat v = Int32.ofNat (5 * (k / 5) + v) := ra_ix5
def ra_pm (s : Nat) (M M' : Nat → Nat → Nat) (K : Nat) (w : rv_W) : Prop := ∀ k, k < 25 → rv_hs s (k / 5) = true → rv_hs s (k % 5) = true → w 85 k = Int32.ofNat (if k < K then M' (k / 5) (k % 5) else M (k / 5) (k % 5))
