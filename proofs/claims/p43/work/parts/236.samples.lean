/-! removals -/
def ra_rmq (r s G : Nat) (n m : Nat → Nat) (v g : Nat) : Bool := decide (v ≤ n g) && decide (ra_wc r s (rv_at1 (rv_cut 0 G n) g (n g - v)) m ≠ ra_wc r s (rv_cut 0 G n) m)
def ra_rm (r s G : Nat) (n m : Nat → Nat) (v : Nat) : Bool := !rv_al G (fun g => !ra_rmq r s G n m v g)
theorem ra_subneg {x y : Nat} (hx : x ≤ 2000) (hy : y ≤ 2000) : (Int32.ofNat x - Int32.ofNat y < 0) = (x < y) := by
  rw [← Int32.ofInt_eq_ofNat, ← Int32.ofInt_eq_ofNat, ← Int32.ofInt_sub, Int32.lt_iff_toInt_lt, Int32.toInt_ofInt_of_le (by omega) (by omega), show (0 : Int32).toInt = 0 from rfl]
  exact propext (by omega)
theorem ra_100 {k : Nat} (hk : k < 1000) : ((100 : Int32) < Int32.ofNat k) = (100 < k) := propext (rv_n_lt (i := 100) (by omega) (by omega))
theorem ra_rm_f {r s G v : Nat} {n m : Nat → Nat} (h : ∀ g, g < G → ra_rmq r s G n m v g = false) : ra_rm r s G n m v = false := by
  unfold ra_rm
  rw [rv_al_iff.mpr (fun g hg => by rw [h g hg]; rfl)]
  rfl
theorem ra_rm_t {r s G v g : Nat} {n m : Nat → Nat} (hg : g < G) (h : ra_rmq r s G n m v g = true) : ra_rm r s G n m v = true := by
  unfold ra_rm
  rw [Bool.not_eq_true', Bool.eq_false_iff]
  intro z
  have := rv_al_iff.mp z g hg
  rw [h] at this
  cases this
