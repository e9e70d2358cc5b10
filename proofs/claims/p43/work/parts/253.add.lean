/-! a group added -/
theorem ra_eqT {t : rv_R} {v : Int32} {w : rv_W} (h : rv_T t (fun v' w' => v' = v ∧ w' = w)) : t = some (v, w) := by
  obtain ⟨r, w2, e, h1, h2⟩ := h
  rw [e, h1, h2]
def ra_V10 (m k : Nat) : Nat := if k < m then 10 ^ (m - 1 - k) else 0
def ra_addP (L : List Nat) : Bool := L.isEmpty || (Nat.beq (rv_ln (ra_oc L)) L.length && Nat.ble L.length 5 && (List.range 5).all fun k => !Nat.blt k L.length || (decide (((Int32.ofNat (ra_dcr L 0) / Int32.ofNat (ra_V10 L.length k)) - (Int32.ofNat (ra_dcr L 0) / Int32.ofNat (ra_V10 L.length k)) / (10 : Int32) * (10 : Int32)) - (1 : Int32) = Int32.ofNat (ra_gd L k)) && decide (Int32.ofNat (ra_V10 L.length k) / (10 : Int32) = Int32.ofNat (ra_V10 L.length (k + 1))) && decide (0 < Int32.ofNat (ra_V10 L.length k)) && (decide (Int32.ofNat (ra_dcr L 0) / (10 : Int32) < Int32.ofNat (10 ^ k)) == decide (k + 1 = L.length)) && decide (Int32.ofNat (10 ^ k) * (10 : Int32) = Int32.ofNat (10 ^ (k + 1)))))
theorem ra_addT {s : Nat} {L : List Nat} (hs : s < 32) (hL : L ∈ ra_ps 5 s) (h0 : L ≠ []) : rv_ln (ra_oc L) = L.length ∧ L.length ≤ 5 ∧ ∀ k, k < L.length → ((Int32.ofNat (ra_dcr L 0) / Int32.ofNat (ra_V10 L.length k)) - (Int32.ofNat (ra_dcr L 0) / Int32.ofNat (ra_V10 L.length k)) / (10 : Int32) * (10 : Int32)) - (1 : Int32) = Int32.ofNat (ra_gd L k) ∧ Int32.ofNat (ra_V10 L.length k) / (10 : Int32) = Int32.ofNat (ra_V10 L.length (k + 1)) ∧ 0 < Int32.ofNat (ra_V10 L.length k) ∧ (Int32.ofNat (ra_dcr L 0) / (10 : Int32) < Int32.ofNat (10 ^ k) ↔ k + 1 = L.length) ∧ Int32.ofNat (10 ^ k) * (10 : Int32) = Int32.ofNat (10 ^ (k + 1)) := by
  have t := List.all_eq_true.mp (List.all_eq_true.mp (by decide +kernel : ((List.range 32).all fun s => (ra_ps 5 s).all ra_addP) = true) s (rv_rg hs)) L hL
  unfold ra_addP at t
  have e : L.isEmpty = false := by
    cases L with
    | nil => exact absurd rfl h0
    | cons _ _ => rfl
  rw [e, Bool.false_or, Bool.and_eq_true, Bool.and_eq_true] at t
  have h5 : L.length ≤ 5 := Nat.le_of_ble_eq_true t.1.2
  refine ⟨Nat.eq_of_beq_eq_true t.1.1, h5, fun k hk => ?_⟩
  have u := List.all_eq_true.mp t.2 k (rv_rg (by omega))
  have eb : Nat.blt k L.length = true := Nat.ble_eq_true_of_le hk
  rw [eb, Bool.not_true, Bool.false_or, Bool.and_eq_true, Bool.and_eq_true, Bool.and_eq_true, Bool.and_eq_true] at u
  refine ⟨of_decide_eq_true u.1.1.1.1, of_decide_eq_true u.1.1.1.2, of_decide_eq_true u.1.1.2, ?_, of_decide_eq_true u.2⟩
  exact decide_eq_decide.mp (beq_iff_eq.mp u.1.2)
