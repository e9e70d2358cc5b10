/-! questions of points, pairs, rounds, orders -/
def ra_gp (r : Nat) : Bool := decide (r < 4) || r == 8
theorem e_goesByPoints {r : Nat} (hr : r < 12) (w : rv_W) : f_X10_goesByPoints (Int32.ofNat r) w = some (rv_b2 (ra_gp r), w) :=
  rv_un_eq un_X10_goesByPoints (List.all_eq_true.mp (by decide +kernel : ((List.range 12).all fun r => rv_eqr (f_X10_goesByPoints (Int32.ofNat r) rv_w0) (rv_b2 (ra_gp r))) = true) r (rv_rg hr))
def ra_gr7 (r : Nat) : Bool := r == 6 || r == 7
theorem e_goesByRounds {r : Nat} (hr : r < 12) (w : rv_W) : f_X10_goesByRounds (Int32.ofNat r) w = some (rv_b2 (ra_gr7 r), w) :=
  rv_un_eq un_X10_goesByRounds (List.all_eq_true.mp (by decide +kernel : ((List.range 12).all fun r => rv_eqr (f_X10_goesByRounds (Int32.ofNat r) rv_w0) (rv_b2 (ra_gr7 r))) = true) r (rv_rg hr))
theorem e_hasRounds {r : Nat} (hr : r < 12) (w : rv_W) : f_X11_hasRounds (Int32.ofNat r) w = some (rv_b2 (ra_gr7 r), w) :=
  rv_un_eq un_X11_hasRounds (List.all_eq_true.mp (by decide +kernel : ((List.range 12).all fun r => rv_eqr (f_X11_hasRounds (Int32.ofNat r) rv_w0) (rv_b2 (ra_gr7 r))) = true) r (rv_rg hr))
/-- a rule and a candidate -/
def ra_rc (x y : Int32) (A : Nat → Nat → Int32) : Int32 := if ra_iv x 12 = true ∧ ra_iv y 5 = true then A x.toInt.toNat y.toInt.toNat else -1000001
theorem ra_rc_no {x y : Int32} {A : Nat → Nat → Int32} (h : ra_iv x 12 = false ∨ ra_iv y 5 = false) : ra_rc x y A = -1000001 := if_neg (fun z => by
  rcases h with h | h
  · rw [h] at z; cases z.1
  · rw [h] at z; cases z.2)
theorem ra_rc_ok {r c : Nat} {A : Nat → Nat → Int32} (hr : r < 12) (hc : c < 5) : ra_rc (Int32.ofNat r) (Int32.ofNat c) A = A r c := by
  unfold ra_rc
  rw [if_pos ⟨ra_iv_nat hr (by decide), ra_iv_nat hc (by decide)⟩, rv_n_int (by omega), rv_n_int (by omega)]
  rfl
theorem ra_crc {x y : Int32} {A : Nat → Nat → Int32} {w : rv_W} {K : rv_W → rv_R} (hr : rv_Rows w) (hK : ∀ r c, r < 12 → c < 5 → x = Int32.ofNat r → y = Int32.ofNat c → rv_T (K w) (fun v w' => v = A r c ∧ rv_fr 24 77 w w' ∧ rv_Rows w')) : rv_T (rv_bd (f_X10_isRule x w) (fun (r1 : Int32) (w2 : rv_W) =>
  if r1 = 0 then
  some ((-1000001 : Int32), w2)
  else
  rv_bd (f_X1_exists y w2) (fun (r3 : Int32) (w4 : rv_W) =>
  if r3 = 0 then
  some ((-1000001 : Int32), w4)
  else
  K w4))) (fun v w' => v = ra_rc x y A ∧ rv_fr 24 77 w w' ∧ rv_Rows w') := by
  rw [ra_isRule, rv_bd_some]
  cases hx : ra_iv x 12
  · rw [if_pos ra_e0, ra_rc_no (Or.inl hx)]
    exact rv_T_some.mpr ⟨rfl, rv_fr.refl, hr⟩
  · rw [if_neg ra_e1, ra_exists, rv_bd_some]
    cases hy : ra_iv y 5
    · rw [if_pos ra_e0, ra_rc_no (Or.inr hy)]
      exact rv_T_some.mpr ⟨rfl, rv_fr.refl, hr⟩
    · obtain ⟨r, hr12, rfl⟩ := ra_iv_get hx
      obtain ⟨c, hc, rfl⟩ := ra_iv_get hy
      rw [if_neg ra_e1, ra_rc_ok hr12 hc]
      exact hK r c hr12 hc rfl rfl
theorem ra_mrc {x y : Int32} {A : Nat → Nat → Int32} {w : rv_W} {K : rv_W → rv_R} (hK : ∀ r c, r < 12 → c < 5 → x = Int32.ofNat r → y = Int32.ofNat c → rv_T (K w) (fun v w' => v = A r c ∧ ra_f9 w w')) : rv_T (rv_bd (f_X11_isRule x w) (fun (r1 : Int32) (w2 : rv_W) =>
  if r1 = 0 then
  some ((-1000001 : Int32), w2)
  else
  rv_bd (f_X11_isCandidate y w2) (fun (r3 : Int32) (w4 : rv_W) =>
  if r3 = 0 then
  some ((-1000001 : Int32), w4)
  else
  K w4))) (fun v w' => v = ra_rc x y A ∧ ra_f9 w w') := by
  rw [ra_misRule, rv_bd_some]
  cases hx : ra_iv x 12
  · rw [if_pos ra_e0, ra_rc_no (Or.inl hx)]
    exact rv_T_some.mpr ⟨rfl, ra_f9.refl⟩
  · rw [if_neg ra_e1, ra_isCandidate, rv_bd_some]
    cases hy : ra_iv y 5
    · rw [if_pos ra_e0, ra_rc_no (Or.inr hy)]
      exact rv_T_some.mpr ⟨rfl, ra_f9.refl⟩
    · obtain ⟨r, hr12, rfl⟩ := ra_iv_get hx
      obtain ⟨c, hc, rfl⟩ := ra_iv_get hy
      rw [if_neg ra_e1, ra_rc_ok hr12 hc]
      exact hK r c hr12 hc rfl rfl
theorem q_points (x y : Int32) : ra_St (f_X10_points x y) (f_X11_points x y) := by
  refine ra_mk (fun s G n m => ra_rc x y (fun r c => if ra_gp r = true ∧ rv_hs s c = true then ra_pt r s (rv_cut 0 G n) m c else -1000003)) (fun s G n m w h hr => ?_) (fun s G n m w h => ?_)
  · unfold f_X10_points
    refine ra_crc (K := fun w4 => rv_bd (f_X10_goesByPoints x w4) (fun r5 w6 => if r5 = 0 then some ((-1000003 : Int32), w6) else rv_bd (f_X1_has (w6 1 0) y w6) (fun r7 w8 => if r7 = 0 then some ((-1000003 : Int32), w8) else rv_bd (f_X10_castAll w8) (fun _ w10 => rv_bd (f_X4_take x w10) (fun _ w12 => rv_bd (f_X4_pointsOf y w12) (fun r13 w14 => some (r13, w14))))))) hr (fun r c hr12 hc hx hy => ?_)
    subst hx hy
    rw [e_goesByPoints hr12, rv_bd_some]
    cases h1 : ra_gp r
    · rw [if_pos ra_e0, if_neg (fun z => by cases z.1)]
      exact rv_T_some.mpr ⟨rfl, rv_fr.refl, hr⟩
    · rw [if_neg ra_e1, h.c0, e_hasb h.s32 hc, rv_bd_some]
      cases h2 : rv_hs s c
      · rw [if_pos ra_e0, if_neg (fun z => by cases z.2)]
        exact rv_T_some.mpr ⟨rfl, rv_fr.refl, hr⟩
      · rw [if_neg ra_e1, if_pos ⟨rfl, rfl⟩]
        refine rv_T_call (ra_castAll h.1 hr) (fun _ w2 ⟨hP, hf⟩ => ?_)
        rw [ra_take hP hr12, rv_bd_some]
        have ep : f_X4_pointsOf (Int32.ofNat c) (rv_fl 55 5 (ra_pt r s (rv_cut 0 G n) m) w2) = some (ra_pt r s (rv_cut 0 G n) m c, rv_fl 55 5 (ra_pt r s (rv_cut 0 G n) m) w2) := by
          unfold f_X4_pointsOf
          simp only [rv_nng (show c < 2147483648 by omega), if_false, rv_lt5 hc, if_true, rv_ck5 hc, rv_nn5 hc, rv_fl_at hc]
        rw [ep, rv_bd_some]
        exact rv_T_some.mpr ⟨rfl, hf.two (rv_fl_fr (by omega)), (hP.fl (by omega)).rows⟩
  · unfold f_X11_points
    refine ra_mrc (K := fun w4 => rv_bd (f_X11_in x (0 : Int32) (3 : Int32) w4) (fun (r5 : Int32) (w6 : rv_W) =>
      rv_jn (fun  (w7 : rv_W) =>
      rv_ck (1 : Int32) 852 (
      rv_bd (f_X11_has (w7 79 (1 : Int32).toNatClampNeg) y w7) (fun (r10 : Int32) (w11 : rv_W) =>
      if r10 = 0 then
      some ((-1000003 : Int32), w11)
      else
      rv_bd (f_X11_loads  w11) (fun (r12 : Int32) (w13 : rv_W) =>
      rv_ck (1 : Int32) 852 (
      rv_bd (f_X11_applies x (w13 79 (1 : Int32).toNatClampNeg) w13) (fun (r14 : Int32) (w15 : rv_W) =>
      rv_ck y 5 (
      some ((w15 84 y.toNatClampNeg), w15)))))))) (fun (k8 : rv_W → rv_R) =>
      if r5 = 0 then
      if x = (8 : Int32) then
      k8 w6
      else
      some ((-1000003 : Int32), w6)
      else
      k8 w6))) (fun r c hr12 hc hx hy => ?_)
    subst hx hy
    have e3 : f_X11_in (Int32.ofNat r) 0 3 w = some (rv_b2 (decide (r < 4)), w) := by
      have e : f_X11_in (Int32.ofNat r) 0 3 w = _ := ra_in0 (k := 4) (by decide)
      rw [e, ra_iv_nat' (by omega)]
    have e8 : (Int32.ofNat r = 8) = (r = 8) := ra_rl hr12 (k := 8) (by omega)
    rw [e3, rv_bd_some, rv_T_jn]
    have main : ra_gp r = true → rv_T (rv_ck (1 : Int32) 852 (
      rv_bd (f_X11_has (w 79 (1 : Int32).toNatClampNeg) (Int32.ofNat c) w) (fun (r10 : Int32) (w11 : rv_W) =>
      if r10 = 0 then
      some ((-1000003 : Int32), w11)
      else
      rv_bd (f_X11_loads  w11) (fun (r12 : Int32) (w13 : rv_W) =>
      rv_ck (1 : Int32) 852 (
      rv_bd (f_X11_applies (Int32.ofNat r) (w13 79 (1 : Int32).toNatClampNeg) w13) (fun (r14 : Int32) (w15 : rv_W) =>
      rv_ck (Int32.ofNat c) 5 (
      some ((w15 84 (Int32.ofNat c).toNatClampNeg), w15)))))))) (fun v w' => v = (if ra_gp r = true ∧ rv_hs s c = true then ra_pt r s (rv_cut 0 G n) m c else -1000003) ∧ ra_f9 w w') := fun h1 => by
      rw [ra_c852, ra_nn1, h.m1, e_mhasb h.s32 hc, rv_bd_some]
      cases h2 : rv_hs s c
      · rw [if_pos ra_e0, if_neg (fun z => by cases z.2)]
        exact rv_T_some.mpr ⟨rfl, ra_f9.refl⟩
      · rw [if_neg ra_e1, if_pos ⟨h1, rfl⟩]
        refine rv_T_call (ra_loads h) (fun _ w2 ⟨_, hf, hM⟩ => ?_)
        have e1 : w2 79 1 = Int32.ofNat s := by rw [hf _ _ (by omega)]; exact h.m1
        rw [ra_c852, e1]
        refine rv_T_call (ra_applies hM h.s32 hr12) (fun v w3 ⟨hv, hf3, hap⟩ => ?_)
        rw [rv_ck5 hc, rv_nn5 hc]
        refine rv_T_some.mpr ⟨hap.1 ?_ c hc h2, (ra_ld9 hf).trans hf3.f9⟩
        unfold ra_gp at h1
        simpa using h1
    by_cases q4 : r < 4
    · rw [decide_eq_true q4, if_neg ra_e1]
      exact main (by unfold ra_gp; rw [decide_eq_true q4]; rfl)
    · rw [decide_eq_false q4, if_pos ra_e0]
      simp only [e8]
      by_cases q8 : r = 8
      · rw [if_pos q8]
        exact main (by unfold ra_gp; rw [q8]; rfl)
      · rw [if_neg q8]
        refine rv_T_some.mpr ⟨?_, ra_f9.refl⟩
        rw [if_neg (fun z => by
          have z1 := z.1
          unfold ra_gp at z1
          rw [decide_eq_false q4, beq_false_of_ne q8] at z1
          cases z1)]
theorem ra_orNone {q : Nat → Bool} {w : rv_W} : f_X10_orNone (ra_lst q (-1) 5) w = some (ra_lst q (-1000000) 5, w) := by
  have e : ∀ k, k ≤ 5 → ra_lst q (-1000000) k = if ra_ln q k = 5 then -1000000 else Int32.ofNat (ra_ln q k) := by
    intro k
    induction k with
    | zero => intro _; rfl
    | succ k ih =>
      intro hk
      rw [ra_lst_s, ra_ln_s]
      by_cases z : q k = true
      · rw [if_pos z, if_pos z, if_neg (by omega)]
      · rw [if_neg z, if_neg z]; exact ih (by omega)
  unfold f_X10_orNone
  rw [ra_ln_lst (Nat.le_refl 5), e 5 (Nat.le_refl 5)]
  simp only [ra_n5_m1 ra_ln5]
  by_cases z : ra_ln q 5 = 5
  · rw [if_pos z, if_pos z]
  · rw [if_neg z, if_neg z]
    unfold ra_n5
    rw [if_neg z]
theorem q_beatsAll : ra_St f_X10_beatsAll f_X11_beatsAll := by
  refine ra_mk (fun s G n m => ra_lst (ra_ba s (ra_P s (rv_cut 0 G n) m)) (-1000000) 5) (fun s G n m w h hr => ?_) (fun s G n m w h => ?_)
  · unfold f_X10_beatsAll
    refine rv_T_call (ra_castAll h.1 hr) (fun _ w2 ⟨hP, hf⟩ => ?_)
    rw [ra_champion hP, rv_bd_some, ra_orNone, rv_bd_some]
    exact rv_T_some.mpr ⟨rfl, hf.wide (by omega) (by omega), hP.rows⟩
  · unfold f_X11_beatsAll
    obtain ⟨w2, w4, e1, e2, hL, hf, hs1⟩ := ra_lc h
    rw [e1, rv_bd_some, e2, rv_bd_some, ra_c852, ra_nn1, hs1, ra_firstOf hL h.s32, rv_bd_some]
    have eo := @ra_orNone (ra_ba s (ra_P s (rv_cut 0 G n) m)) w4
    unfold f_X10_orNone at eo
    rw [ra_ln_lst (Nat.le_refl 5)] at eo ⊢
    simp only [ra_n5_m1 ra_ln5] at eo
    simp only [ra_n5_neg ra_ln5]
    rw [eo]
    exact rv_T_some.mpr ⟨rfl, hf⟩
theorem q_losesToAll : ra_St f_X10_losesToAll f_X11_losesToAll := by
  refine ra_mk (fun s G n m => ra_lst (ra_ls s (ra_P s (rv_cut 0 G n) m)) (-1000000) 5) (fun s G n m w h hr => ?_) (fun s G n m w h => ?_)
  · unfold f_X10_losesToAll
    refine rv_T_call (ra_castAll h.1 hr) (fun _ w2 ⟨hP, hf⟩ => ?_)
    rw [ra_loser hP, rv_bd_some, ra_orNone, rv_bd_some]
    exact rv_T_some.mpr ⟨rfl, hf.wide (by omega) (by omega), hP.rows⟩
  · obtain ⟨w2, w4, e1, e2, hL, hf, hs1⟩ := ra_lc h
    exact rv_T_of (ra_mloses e1 e2 hL hs1 h.s32) ⟨rfl, hf⟩
theorem q_smith : ra_St f_X10_smith f_X11_smith := by
  refine ra_mk (fun s G n m => Int32.ofNat (ra_sk s (ra_P s (rv_cut 0 G n) m) 30)) (fun s G n m w h hr => ?_) (fun s G n m w h => ?_)
  · unfold f_X10_smith
    refine rv_T_call (ra_castAll h.1 hr) (fun _ w2 ⟨hP, hf⟩ => ?_)
    rw [ra_smithSet hP, rv_bd_some]
    exact rv_T_some.mpr ⟨rfl, hf.wide (by omega) (by omega), hP.rows⟩
  · obtain ⟨w2, w4, e1, e2, hL, hf, hs1⟩ := ra_lc h
    exact rv_T_of (ra_msmith e1 e2 hL hs1 h.s32) ⟨rfl, hf⟩
theorem q_strength (x y : Int32) : ra_St (f_X10_strength x y) (f_X11_strength x y) := by
  refine ra_mk (fun s G n m => ra_two s x y (fun a b => if a = b then -1000003 else Int32.ofNat (ra_fw s (ra_P s (rv_cut 0 G n) m) 5 a b))) (fun s G n m w h hr => ?_) (fun s G n m w h => ?_)
  · unfold f_X10_strength
    refine ra_ctwo (K := fun w6 => if x = y then some ((-1000003 : Int32), w6) else rv_bd (f_X10_castAll w6) (fun _ w8 => rv_bd (f_X2_findStrengths w8) (fun _ w10 => rv_bd (f_X2_strengthOf x y w10) (fun r11 w12 => some (r11, w12))))) h hr (fun a b ha hb hx hy h1 h2 => ?_)
    subst hx hy
    simp only [rv_eq5 ha hb]
    by_cases q : a = b
    · rw [if_pos q, if_pos q]
      exact rv_T_some.mpr ⟨rfl, rv_fr.refl, hr⟩
    · rw [if_neg q, if_neg q]
      refine rv_T_call (ra_castAll h.1 hr) (fun _ w2 ⟨hP, hf⟩ => ?_)
      refine rv_T_call (ra_strengths hP) (fun _ w3 hM => ?_)
      have es : f_X2_strengthOf (Int32.ofNat a) (Int32.ofNat b) w3 = some (w3 (68 + a) b, w3) := by
        unfold f_X2_strengthOf
        rw [e_exists ha, rv_bd_some, if_neg (by decide), e_exists hb, rv_bd_some, if_neg (by decide), rv_ck5 ha, rv_ck5 hb, rv_nn5 ha, rv_nn5 hb]
      rw [es, rv_bd_some, hM.2 a b ha hb]
      have hf3 : rv_fr 53 76 w2 w3 := fun c j z => hM.1 c j (by omega)
      exact rv_T_some.mpr ⟨rfl, hf.two hf3, hf3.rows hP.rows⟩
  · unfold f_X11_strength
    rw [ra_noPair h, rv_bd_some, rv_T_jn]
    rcases ra_neg (s := s) (x := x) (y := y) with q | ⟨a, b, ha, hb, rfl, rfl, h1, h2⟩
    · rw [if_pos q]
      dsimp only
      rw [if_pos q]
      refine rv_T_some.mpr ⟨?_, ra_f9.refl⟩
      unfold ra_two at q ⊢
      by_cases q1 : ra_iv x 5 = true ∧ ra_iv y 5 = true
      · rw [if_pos q1] at q
        rw [if_pos q1, if_pos q1]
        by_cases q2 : rv_hs s x.toInt.toNat = true ∧ rv_hs s y.toInt.toNat = true
        · rw [if_pos q2] at q; exact absurd q (show ¬ (0 : Int32) < 0 by decide)
        · rw [if_neg q2, if_neg q2]
      · rw [if_neg q1, if_neg q1]
    · have e : ra_two s (Int32.ofNat a) (Int32.ofNat b) (fun _ _ => 0) = 0 := by rw [ra_two_ok ha hb, if_pos ⟨h1, h2⟩]
      simp only [rv_eq5 ha hb]
      have eA : ra_two s (Int32.ofNat a) (Int32.ofNat b) (fun a b => if a = b then -1000003 else Int32.ofNat (ra_fw s (ra_P s (rv_cut 0 G n) m) 5 a b)) = if a = b then -1000003 else Int32.ofNat (ra_fw s (ra_P s (rv_cut 0 G n) m) 5 a b) := by
        rw [ra_two_ok ha hb, if_pos (show rv_hs s a = true ∧ rv_hs s b = true from ⟨h1, h2⟩)]
      have z0 : ¬ (0 : Int32) < 0 := by decide
      rw [e, eA]
      simp only [z0, if_false]
      by_cases q : a = b
      · simp only [q, if_true]
        exact rv_T_some.mpr ⟨rfl, ra_f9.refl⟩
      · simp only [q, if_false]
        obtain ⟨w2, w4, e1, e2, hL, hf, hs1⟩ := ra_lc h
        rw [e1, rv_bd_some, e2, rv_bd_some, ra_c852, ra_nn1, hs1]
        refine rv_T_call (ra_mstrengths hL h.s32) (fun _ w5 ⟨hf5, hM⟩ => ?_)
        rw [ra_ix5, rv_ck25 (by omega), rv_nn25 (by omega), hM a b ha hb h1 h2]
        exact rv_T_some.mpr ⟨rfl, hf.trans hf5.f9⟩
theorem q_isLocked (x y : Int32) : ra_St (f_X10_isLocked x y) (f_X11_isLocked x y) := by
  refine ra_mk (fun s G n m => ra_two s x y (fun a b => rv_b2 ((ra_zf (ra_P s (rv_cut 0 G n) m) (rv_sm 20 (rv_cut 0 G n))).1 a b))) (fun s G n m w h hr => ?_) (fun s G n m w h => ?_)
  · unfold f_X10_isLocked
    refine ra_ctwo (K := fun w6 => rv_bd (f_X10_castAll w6) (fun _ w8 => rv_bd (f_X2_lockPairs w8) (fun _ w10 => rv_bd (f_X2_hasLocked x y w10) (fun r11 w12 => if r11 = 0 then some ((0 : Int32), w12) else some ((1 : Int32), w12))))) h hr (fun a b ha hb hx hy h1 h2 => ?_)
    subst hx hy
    refine rv_T_call (ra_castAll h.1 hr) (fun _ w2 ⟨hP, hf⟩ => ?_)
    refine rv_T_call (ra_lockPairs hP) (fun _ w3 ⟨hz, hf3⟩ => ?_)
    obtain ⟨⟨t, ht1, ht2, ht3⟩, -⟩ := hz a ha
    have es : f_X2_hasLocked (Int32.ofNat a) (Int32.ofNat b) w3 = some (rv_b2 (rv_hs t b), w3) := by
      unfold f_X2_hasLocked
      rw [if_neg (rv_n_neg (by omega)), if_pos ((rv_l5 (by omega)).mpr ha), rv_ck5 ha, rv_nn5 ha, ht1, e_hasb ht2 hb, rv_bd_some]
      cases rv_hs t b <;> rfl
    have hf4 : rv_fr 53 76 w2 w3 := fun c j z => hf3 c j (by omega) (by omega)
    rw [es, rv_bd_some, ht3 b hb]
    cases (ra_zf (ra_P s (rv_cut 0 G n) m) (rv_sm 20 (rv_cut 0 G n))).1 a b
    · exact rv_T_some.mpr ⟨rfl, hf.two hf4, hf4.rows hP.rows⟩
    · exact rv_T_some.mpr ⟨rfl, hf.two hf4, hf4.rows hP.rows⟩
  · unfold f_X11_isLocked
    refine ra_mtwo (K := fun w2 => rv_bd (f_X11_loads w2) (fun _ w4 => rv_bd (f_X11_counts w4) (fun _ w6 => rv_ck (1 : Int32) 852 (rv_bd (f_X11_locksAll (w6 79 (1 : Int32).toNatClampNeg) w6) (fun _ w8 => rv_ck (((5 : Int32) * x) + y) 25 (if (w8 86 (((5 : Int32) * x) + y).toNatClampNeg) = 0 then some ((0 : Int32), w8) else some ((1 : Int32), w8))))))) h (fun a b ha hb hx hy h1 h2 => ?_)
    subst hx hy
    obtain ⟨w2, w4, e1, e2, hL, hf, hs1⟩ := ra_lc h
    rw [e1, rv_bd_some, e2, rv_bd_some, ra_c852, ra_nn1, hs1]
    refine rv_T_call (ra_locksAll hL h.s32) (fun _ w5 ⟨hz, hf5⟩ => ?_)
    have e5 := (hz (5 * a + b) (by omega)).1
    rw [show (5 * a + b) / 5 = a by omega, show (5 * a + b) % 5 = b by omega] at e5
    rw [ra_ix5, rv_ck25 (by omega), rv_nn25 (by omega), e5]
    cases (ra_zf (ra_P s (rv_cut 0 G n) m) (rv_sm 20 (rv_cut 0 G n))).1 a b
    · exact rv_T_some.mpr ⟨rfl, hf.trans hf5.f9⟩
    · exact rv_T_some.mpr ⟨rfl, hf.trans hf5.f9⟩
