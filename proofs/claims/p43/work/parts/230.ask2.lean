/-! questions of points, pairs, rounds, orders -/
def ra_gp (r : Nat) : Bool := decide (r < 4) || r == 8
theorem e_goesByPoints {r : Nat} (hr : r < 12) (w : rv_W) : f_X10_goesByPoints (Int32.ofNat r) w = some (rv_b2 (ra_gp r), w) :=
  rv_un_eq un_X10_goesByPoints (List.all_eq_true.mp (by decide +kernel : ((List.range 12).all fun r => rv_eqr (f_X10_goesByPoints (Int32.ofNat r) rv_w0) (rv_b2 (ra_gp r))) = true) r (rv_rg hr))
def ra_gr7 (r : Nat) : Bool := r == 6 || r == 7
theorem e_goesByRounds {r : Nat} (hr : r < 12) (w : rv_W) : f_X10_goesByRounds (Int32.ofNat r) w = some (rv_b2 (ra_gr7 r), w) :=
  rv_un_eq un_X10_goesByRounds (List.all_eq_true.mp (by decide +kernel : ((List.range 12).all fun r => rv_eqr (f_X10_goesByRounds (Int32.ofNat r) rv_w0) (rv_b2 (ra_gr7 r))) = true) r (rv_rg hr))
/-- a rule and a candidate -/
def ra_rc (x y : Int32) (A : Nat → Nat → Int32) : Int32 := if ra_iv x 12 = true ∧ ra_iv y 5 = true then A x.toInt.toNat y.toInt.toNat else -1000001
theorem ra_rc_no {x y : Int32} {A : Nat → Nat → Int32} (h : ra_iv x 12 = false ∨ ra_iv y 5 = false) : ra_rc x y A = -1000001 := if_neg (fun z => by
  rcases h with h | h
  · rw [h] at z; cases z.1
  · rw [h] at z; cases z.2)
theorem ra_rc_ok {r c : Nat} {A : Nat → Nat → Int32} (hr : r < 12) (hc : c < 5) : ra_rc (Int32.ofNat r) (Int32.ofNat c) A = A r c := by
  unfold ra_rc
  rw [if_pos ⟨ra_iv_nat hr (by decide), ra_iv_nat hc (by decide)⟩, rv_n_int (by omega), rv_n_int (by omega)]
  rfl
theorem ra_crc {x y : Int32} {A : Nat → Nat → Int32} {w : rv_W} {K : rv_W → rv_R} (hr : rv_Rows w) (hK : ∀ r c, r < 12 → c < 5 → x = Int32.ofNat r → y = Int32.ofNat c → rv_T (K w) (fun v w' => v = A r c ∧ rv_fr 24 77 w w' ∧ rv_Rows w')) : rv_T (rv_bd (f_X10_isRule x w) (fun (r1 : Int32) (w2 : rv_W) =>
  if r1 = 0 then
  some ((-1000001 : Int32), w2)
  else
  rv_bd (f_X1_exists y w2) (fun (r3 : Int32) (w4 : rv_W) =>
  if r3 = 0 then
  some ((-1000001 : Int32), w4)
  else
  K w4))) (fun v w' => v = ra_rc x y A ∧ rv_fr 24 77 w w' ∧ rv_Rows w') := by
  rw [ra_isRule, rv_bd_some]
  cases hx : ra_iv x 12
  · rw [if_pos ra_e0, ra_rc_no (Or.inl hx)]
    exact rv_T_some.mpr ⟨rfl, rv_fr.refl, hr⟩
  · rw [if_neg ra_e1, ra_exists, rv_bd_some]
    cases hy : ra_iv y 5
    · rw [if_pos ra_e0, ra_rc_no (Or.inr hy)]
      exact rv_T_some.mpr ⟨rfl, rv_fr.refl, hr⟩
    · obtain ⟨r, hr12, rfl⟩ := ra_iv_get hx
      obtain ⟨c, hc, rfl⟩ := ra_iv_get hy
      rw [if_neg ra_e1, ra_rc_ok hr12 hc]
      exact hK r c hr12 hc rfl rfl
theorem ra_orNone {q : Nat → Bool} {w : rv_W} : f_X10_orNone (ra_lst q (-1) 5) w = some (ra_lst q (-1000000) 5, w) := by
  have e : ∀ k, k ≤ 5 → ra_lst q (-1000000) k = if ra_ln q k = 5 then -1000000 else Int32.ofNat (ra_ln q k) := by
    intro k
    induction k with
    | zero => intro _; rfl
    | succ k ih =>
      intro hk
      rw [ra_lst_s, ra_ln_s]
      by_cases z : q k = true
      · rw [if_pos z, if_pos z, if_neg (by omega)]
      · rw [if_neg z, if_neg z]; exact ih (by omega)
  unfold f_X10_orNone
  rw [ra_ln_lst (Nat.le_refl 5), e 5 (Nat.le_refl 5)]
  simp only [ra_n5_m1 ra_ln5]
  by_cases z : ra_ln q 5 = 5
  · rw [if_pos z, if_pos z]
  · rw [if_neg z, if_neg z]
    unfold ra_n5
    rw [if_neg z]
