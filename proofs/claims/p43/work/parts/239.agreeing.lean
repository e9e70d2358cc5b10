/-! agreeing -/
def ra_sek (y : Int32) (S : Nat) : Nat → Int32
  | 0 => y
  | i + 1 => ra_sdn (ra_sek y S i) S
def ra_agc (r s G : Nat) (n m : Nat → Nat) (y : Int32) (S : Nat) : Nat → Int32
  | 0 => 0
  | i + 1 => if ra_wc r s (ra_cnt n G (ra_sek y S i) S) m = ra_wc r s (rv_cut 0 G n) m then ra_agc r s G n m y S i + 1 else ra_agc r s G n m y S i
theorem ra_agc_s {r s G S i : Nat} {n m : Nat → Nat} {y : Int32} : ra_agc r s G n m y S (i + 1) = if ra_wc r s (ra_cnt n G (ra_sek y S i) S) m = ra_wc r s (rv_cut 0 G n) m then ra_agc r s G n m y S i + 1 else ra_agc r s G n m y S i := rfl
def ra_agA (y z t : Int32) (s G : Nat) (n m : Nat → Nat) (r : Nat) : Int32 := if ra_sz z 50 = true ∧ ra_sz t 20 = true then (if G = 0 ∨ s = 0 then -1000003 else ra_agc r s G n m y z.toInt.toNat t.toInt.toNat) else -1000002
theorem ra_agA_no {y z t : Int32} {s G r : Nat} {n m : Nat → Nat} (h : ra_sz z 50 = false ∨ ra_sz t 20 = false) : ra_agA y z t s G n m r = -1000002 := if_neg (fun q => by
  rcases h with h | h
  · rw [h] at q; cases q.1
  · rw [h] at q; cases q.2)
theorem ra_agA_0 {y z t : Int32} {s G r : Nat} {n m : Nat → Nat} (h : ra_sz z 50 = true) (h2 : ra_sz t 20 = true) (hG : G = 0 ∨ s = 0) : ra_agA y z t s G n m r = -1000003 := by
  unfold ra_agA
  rw [if_pos ⟨h, h2⟩, if_pos hG]
theorem ra_agA_1 {y : Int32} {s G r S M : Nat} {n m : Nat → Nat} (h : ra_sz (Int32.ofNat S) 50 = true) (h2 : ra_sz (Int32.ofNat M) 20 = true) (hG : ¬ (G = 0 ∨ s = 0)) (hS : S < 1000) (hM : M < 1000) : ra_agA y (Int32.ofNat S) (Int32.ofNat M) s G n m r = ra_agc r s G n m y S M := by
  unfold ra_agA
  rw [if_pos ⟨h, h2⟩, if_neg hG, ra_toN (by omega), ra_toN (by omega)]
theorem ra_sz20 {t : Int32} : ((t < (1 : Int32)) ∨ ((20 : Int32) < t)) ↔ ra_sz t 20 = false := by
  unfold ra_sz
  rw [decide_eq_false_iff_not, Int32.lt_iff_toInt_lt, Int32.lt_iff_toInt_lt, show (1 : Int32).toInt = 1 from rfl, show (20 : Int32).toInt = 20 from rfl]
  exact ⟨fun h => by omega, fun h => by omega⟩
