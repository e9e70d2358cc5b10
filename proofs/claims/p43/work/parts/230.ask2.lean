/-! questions of points, pairs, rounds, orders -/
def ra_gp (r : Nat) : Bool := decide (r < 4) || r == 8
theorem e_goesByPoints {r : Nat} (hr : r < 12) (w : rv_W) : f_X10_goesByPoints (Int32.ofNat r) w = some (rv_b2 (ra_gp r), w) :=
  rv_un_eq un_X10_goesByPoints (List.all_eq_true.mp (by decide +kernel : ((List.range 12).all fun r => rv_eqr (f_X10_goesByPoints (Int32.ofNat r) rv_w0) (rv_b2 (ra_gp r))) = true) r (rv_rg hr))
def ra_gr7 (r : Nat) : Bool := r == 6 || r == 7
theorem e_goesByRounds {r : Nat} (hr : r < 12) (w : rv_W) : f_X10_goesByRounds (Int32.ofNat r) w = some (rv_b2 (ra_gr7 r), w) :=
  rv_un_eq un_X10_goesByRounds (List.all_eq_true.mp (by decide +kernel : ((List.range 12).all fun r => rv_eqr (f_X10_goesByRounds (Int32.ofNat r) rv_w0) (rv_b2 (ra_gr7 r))) = true) r (rv_rg hr))
/-- a rule and a candidate -/
def ra_rc (x y : Int32) (A : Nat → Nat → Int32) : Int32 := if ra_iv x 12 = true ∧ ra_iv y 5 = true then A x.toInt.toNat y.toInt.toNat else -1000001
theorem ra_rc_no {x y : Int32} {A : Nat → Nat → Int32} (h : ra_iv x 12 = false ∨ ra_iv y 5 = false) : ra_rc x y A = -1000001 := if_neg (fun z => by
  rcases h with h | h
  · rw [h] at z; cases z.1
  · rw [h] at z; cases z.2)
theorem ra_rc_ok {r c : Nat} {A : Nat → Nat → Int32} (hr : r < 12) (hc : c < 5) : ra_rc (Int32.ofNat r) (Int32.ofNat c) A = A r c := by
  unfold ra_rc
  rw [if_pos ⟨ra_iv_nat hr (by decide), ra_iv_nat hc (by decide)⟩, rv_n_int (by omega), rv_n_int (by omega)]
  rfl
theorem ra_crc {x y : Int32} {A : Nat → Nat → Int32} {w : rv_W} {K : rv_W → rv_R} (hr : rv_Rows w) (hK : ∀ r c, r < 12 → c < 5 → x = Int32.ofNat r → y = Int32.ofNat c → rv_T (K w) (fun v w' => v = A r c ∧ rv_fr 24 77 w w' ∧ rv_Rows w')) : rv_T (rv_bd (f_X10_isRule x w) (fun (r1 : Int32) (w2 : rv_W) =>
  if r1 = 0 then
  some ((-1000001 : Int32), w2)
  else
  rv_bd (f_X1_exists y w2) (fun (r3 : Int32) (w4 : rv_W) =>
  if r3 = 0 then
  some ((-1000001 : Int32), w4)
  else
  K w4))) (fun v w' => v = ra_rc x y A ∧ rv_fr 24 77 w w' ∧ rv_Rows w') := by
  rw [ra_isRule, rv_bd_some]
  cases hx : ra_iv x 12
  · rw [if_pos ra_e0, ra_rc_no (Or.inl hx)]
    exact rv_T_some.mpr ⟨rfl, rv_fr.refl, hr⟩
  · rw [if_neg ra_e1, ra_exists, rv_bd_some]
    cases hy : ra_iv y 5
    · rw [if_pos ra_e0, ra_rc_no (Or.inr hy)]
      exact rv_T_some.mpr ⟨rfl, rv_fr.refl, hr⟩
    · obtain ⟨r, hr12, rfl⟩ := ra_iv_get hx
      obtain ⟨c, hc, rfl⟩ := ra_iv_get hy
      rw [if_neg ra_e1, ra_rc_ok hr12 hc]
      exact hK r c hr12 hc rfl rfl
theorem c_points (x y : Int32) : ra_Sc (fun s G n m => ra_rc x y (fun r c => if ra_gp r = true ∧ rv_hs s c = true then ra_pt r s (rv_cut 0 G n) m c else -1000003)) (f_X10_points x y) := by
  intro s G n m w h hr
  dsimp only
  unfold f_X10_points
  refine ra_crc (K := fun w4 => rv_bd (f_X10_goesByPoints x w4) (fun r5 w6 => if r5 = 0 then some ((-1000003 : Int32), w6) else rv_bd (f_X1_has (w6 1 0) y w6) (fun r7 w8 => if r7 = 0 then some ((-1000003 : Int32), w8) else rv_bd (f_X10_castAll w8) (fun _ w10 => rv_bd (f_X4_take x w10) (fun _ w12 => rv_bd (f_X4_pointsOf y w12) (fun r13 w14 => some (r13, w14))))))) hr (fun r c hr12 hc hx hy => ?_)
  subst hx hy
  rw [e_goesByPoints hr12, rv_bd_some]
  cases h1 : ra_gp r
  · rw [if_pos ra_e0, if_neg (fun z => by cases z.1)]
    exact rv_T_some.mpr ⟨rfl, rv_fr.refl, hr⟩
  · rw [if_neg ra_e1, h.c0, e_hasb h.s32 hc, rv_bd_some]
    cases h2 : rv_hs s c
    · rw [if_pos ra_e0, if_neg (fun z => by cases z.2)]
      exact rv_T_some.mpr ⟨rfl, rv_fr.refl, hr⟩
    · rw [if_neg ra_e1, if_pos ⟨rfl, rfl⟩]
      refine rv_T_call (ra_castAll h.1 hr) (fun _ w2 ⟨hP, hf⟩ => ?_)
      rw [ra_take hP hr12, rv_bd_some]
      have ep : f_X4_pointsOf (Int32.ofNat c) (rv_fl 55 5 (ra_pt r s (rv_cut 0 G n) m) w2) = some (ra_pt r s (rv_cut 0 G n) m c, rv_fl 55 5 (ra_pt r s (rv_cut 0 G n) m) w2) := by
        unfold f_X4_pointsOf
        simp only [rv_nng (show c < 2147483648 by omega), if_false, rv_lt5 hc, if_true, rv_ck5 hc, rv_nn5 hc, rv_fl_at hc]
      rw [ep, rv_bd_some]
      exact rv_T_some.mpr ⟨rfl, hf.two (rv_fl_fr (by omega)), (hP.fl (by omega)).rows⟩
theorem ra_orNone {q : Nat → Bool} {w : rv_W} : f_X10_orNone (ra_lst q (-1) 5) w = some (ra_lst q (-1000000) 5, w) := by
  have e : ∀ k, k ≤ 5 → ra_lst q (-1000000) k = if ra_ln q k = 5 then -1000000 else Int32.ofNat (ra_ln q k) := by
    intro k
    induction k with
    | zero => intro _; rfl
    | succ k ih =>
      intro hk
      rw [ra_lst_s, ra_ln_s]
      by_cases z : q k = true
      · rw [if_pos z, if_pos z, if_neg (by omega)]
      · rw [if_neg z, if_neg z]; exact ih (by omega)
  unfold f_X10_orNone
  rw [ra_ln_lst (Nat.le_refl 5), e 5 (Nat.le_refl 5)]
  simp only [ra_n5_m1 ra_ln5]
  by_cases z : ra_ln q 5 = 5
  · rw [if_pos z, if_pos z]
  · rw [if_neg z, if_neg z]
    unfold ra_n5
    rw [if_neg z]
theorem c_beatsAll  : ra_Sc (fun s G n m => ra_lst (ra_ba s (ra_P s (rv_cut 0 G n) m)) (-1000000) 5) f_X10_beatsAll := by
  intro s G n m w h hr
  dsimp only
  unfold f_X10_beatsAll
  refine rv_T_call (ra_castAll h.1 hr) (fun _ w2 ⟨hP, hf⟩ => ?_)
  rw [ra_champion hP, rv_bd_some, ra_orNone, rv_bd_some]
  exact rv_T_some.mpr ⟨rfl, hf.wide (by omega) (by omega), hP.rows⟩
theorem c_losesToAll  : ra_Sc (fun s G n m => ra_lst (ra_ls s (ra_P s (rv_cut 0 G n) m)) (-1000000) 5) f_X10_losesToAll := by
  intro s G n m w h hr
  dsimp only
  unfold f_X10_losesToAll
  refine rv_T_call (ra_castAll h.1 hr) (fun _ w2 ⟨hP, hf⟩ => ?_)
  rw [ra_loser hP, rv_bd_some, ra_orNone, rv_bd_some]
  exact rv_T_some.mpr ⟨rfl, hf.wide (by omega) (by omega), hP.rows⟩
theorem c_smith  : ra_Sc (fun s G n m => Int32.ofNat (ra_sk s (ra_P s (rv_cut 0 G n) m) 30)) f_X10_smith := by
  intro s G n m w h hr
  dsimp only
  unfold f_X10_smith
  refine rv_T_call (ra_castAll h.1 hr) (fun _ w2 ⟨hP, hf⟩ => ?_)
  rw [ra_smithSet hP, rv_bd_some]
  exact rv_T_some.mpr ⟨rfl, hf.wide (by omega) (by omega), hP.rows⟩
theorem c_strength (x y : Int32) : ra_Sc (fun s G n m => ra_two s x y (fun a b => if a = b then -1000003 else Int32.ofNat (ra_fw s (ra_P s (rv_cut 0 G n) m) 5 a b))) (f_X10_strength x y) := by
  intro s G n m w h hr
  dsimp only
  unfold f_X10_strength
  refine ra_ctwo (K := fun w6 => if x = y then some ((-1000003 : Int32), w6) else rv_bd (f_X10_castAll w6) (fun _ w8 => rv_bd (f_X2_findStrengths w8) (fun _ w10 => rv_bd (f_X2_strengthOf x y w10) (fun r11 w12 => some (r11, w12))))) h hr (fun a b ha hb hx hy h1 h2 => ?_)
  subst hx hy
  simp only [rv_eq5 ha hb]
  by_cases q : a = b
  · rw [if_pos q, if_pos q]
    exact rv_T_some.mpr ⟨rfl, rv_fr.refl, hr⟩
  · rw [if_neg q, if_neg q]
    refine rv_T_call (ra_castAll h.1 hr) (fun _ w2 ⟨hP, hf⟩ => ?_)
    refine rv_T_call (ra_strengths hP) (fun _ w3 hM => ?_)
    have es : f_X2_strengthOf (Int32.ofNat a) (Int32.ofNat b) w3 = some (w3 (68 + a) b, w3) := by
      unfold f_X2_strengthOf
      rw [e_exists ha, rv_bd_some, if_neg (by decide), e_exists hb, rv_bd_some, if_neg (by decide), rv_ck5 ha, rv_ck5 hb, rv_nn5 ha, rv_nn5 hb]
    rw [es, rv_bd_some, hM.2 a b ha hb]
    have hf3 : rv_fr 53 76 w2 w3 := fun c j z => hM.1 c j (by omega)
    exact rv_T_some.mpr ⟨rfl, hf.two hf3, hf3.rows hP.rows⟩
theorem c_isLocked (x y : Int32) : ra_Sc (fun s G n m => ra_two s x y (fun a b => rv_b2 ((ra_zf (ra_P s (rv_cut 0 G n) m) (rv_sm 20 (rv_cut 0 G n))).1 a b))) (f_X10_isLocked x y) := by
  intro s G n m w h hr
  dsimp only
  unfold f_X10_isLocked
  refine ra_ctwo (K := fun w6 => rv_bd (f_X10_castAll w6) (fun _ w8 => rv_bd (f_X2_lockPairs w8) (fun _ w10 => rv_bd (f_X2_hasLocked x y w10) (fun r11 w12 => if r11 = 0 then some ((0 : Int32), w12) else some ((1 : Int32), w12))))) h hr (fun a b ha hb hx hy h1 h2 => ?_)
  subst hx hy
  refine rv_T_call (ra_castAll h.1 hr) (fun _ w2 ⟨hP, hf⟩ => ?_)
  refine rv_T_call (ra_lockPairs hP) (fun _ w3 ⟨hz, hf3⟩ => ?_)
  obtain ⟨⟨t, ht1, ht2, ht3⟩, -⟩ := hz a ha
  have es : f_X2_hasLocked (Int32.ofNat a) (Int32.ofNat b) w3 = some (rv_b2 (rv_hs t b), w3) := by
    unfold f_X2_hasLocked
    rw [if_neg (rv_n_neg (by omega)), if_pos ((rv_l5 (by omega)).mpr ha), rv_ck5 ha, rv_nn5 ha, ht1, e_hasb ht2 hb, rv_bd_some]
    cases rv_hs t b <;> rfl
  have hf4 : rv_fr 53 76 w2 w3 := fun c j z => hf3 c j (by omega) (by omega)
  rw [es, rv_bd_some, ht3 b hb]
  cases (ra_zf (ra_P s (rv_cut 0 G n) m) (rv_sm 20 (rv_cut 0 G n))).1 a b
  · exact rv_T_some.mpr ⟨rfl, hf.two hf4, hf4.rows hP.rows⟩
  · exact rv_T_some.mpr ⟨rfl, hf.two hf4, hf4.rows hP.rows⟩
