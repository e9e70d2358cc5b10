/-! raisers -/
def ra_rb (m : Nat → Nat) (s w g : Nat) : Nat := ra_swc (m g) w (ra_da (m g) s w 5)
def ra_rsq (r s G : Nat) (n m : Nat → Nat) (g : Nat) : Bool := decide (s ≠ 0) && (decide (ra_da (m g) s (ra_w r s (rv_cut 0 G n) m) 5 ≠ 5) && decide (ra_w r s (rv_cut 0 G n) (rv_at1 m g (ra_rb m s (ra_w r s (rv_cut 0 G n) m) g)) ≠ ra_w r s (rv_cut 0 G n) m))
theorem e_placeNone {b : Nat} (hb : b ∈ rv_B) (w : rv_W) : f_X0_placeOf (Int32.ofNat b) (-1000000) w = some (-1, w) :=
  rv_un_eq un_X0_placeOf (List.all_eq_true.mp (by decide +kernel : ((rv_B).all fun b => rv_eqr (f_X0_placeOf (Int32.ofNat b) (-1000000) rv_w0) (-1)) = true) b hb)
theorem ra_n_1 {x : Nat} (hx : x < 1000) : (Int32.ofNat x < (1 : Int32)) = (x = 0) := by
  have : Int32.ofNat x < (1 : Int32) ↔ x < 1 := rv_n_lt (j := 1) (by omega) (by omega)
  exact propext (this.trans ⟨fun z => by omega, fun z => by omega⟩)
