/-- who stands, set -/
def ra_ss (s c : Nat) (t : Bool) : Nat := if t = true then ra_un (rv_wo s c) (2 ^ c) else rv_wo s c
theorem ra_ss_1 {s c : Nat} (hs : s < 32) (hc : c < 5) : Int32.ofNat (rv_wo s c) ||| ((1 : Int32) <<< (Int32.ofNat c &&& 31)) = Int32.ofNat (ra_ss s c true) ∧ Int32.ofNat (rv_wo s c) = Int32.ofNat (ra_ss s c false) ∧ ra_ss s c true < 32 ∧ ra_ss s c false < 32 ∧ (Int32.ofNat s &&& (((1 : Int32) <<< (Int32.ofNat c &&& 31)) ^^^ (-1 : Int32))) ||| ((1 : Int32) <<< (Int32.ofNat c &&& 31)) = Int32.ofNat (ra_ss s c true) ∧ (Int32.ofNat s &&& (((1 : Int32) <<< (Int32.ofNat c &&& 31)) ^^^ (-1 : Int32))) ||| 0 = Int32.ofNat (ra_ss s c false) ∧ (Int32.ofNat s >>> (Int32.ofNat c &&& 31)) &&& 1 = rv_b2 (rv_hs s c) :=
  of_decide_eq_true (List.all_eq_true.mp (List.all_eq_true.mp (by decide +kernel : ((List.range 32).all fun s => (List.range 5).all fun c => decide (Int32.ofNat (rv_wo s c) ||| ((1 : Int32) <<< (Int32.ofNat c &&& 31)) = Int32.ofNat (ra_ss s c true) ∧ Int32.ofNat (rv_wo s c) = Int32.ofNat (ra_ss s c false) ∧ ra_ss s c true < 32 ∧ ra_ss s c false < 32 ∧ (Int32.ofNat s &&& (((1 : Int32) <<< (Int32.ofNat c &&& 31)) ^^^ (-1 : Int32))) ||| ((1 : Int32) <<< (Int32.ofNat c &&& 31)) = Int32.ofNat (ra_ss s c true) ∧ (Int32.ofNat s &&& (((1 : Int32) <<< (Int32.ofNat c &&& 31)) ^^^ (-1 : Int32))) ||| 0 = Int32.ofNat (ra_ss s c false) ∧ (Int32.ofNat s >>> (Int32.ofNat c &&& 31)) &&& 1 = rv_b2 (rv_hs s c))) = true) s (rv_rg hs)) c (rv_rg hc))
theorem ra_ss_lt {s c : Nat} {t : Bool} (hs : s < 32) (hc : c < 5) : ra_ss s c t < 32 := by
  have h := ra_ss_1 hs hc
  cases t
  · exact h.2.2.2.1
  · exact h.2.2.1
