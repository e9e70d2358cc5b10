/-! the questions, one by one -/
theorem ra_Cur.G20 {s G : Nat} {n b : Nat → Nat} {w : rv_W} (h : ra_Cur s G n b w) : G ≤ 20 := h.1.2.2.2.1
theorem ra_Cur.s32 {s G : Nat} {n b : Nat → Nat} {w : rv_W} (h : ra_Cur s G n b w) : s < 32 := h.1.2.1
theorem ra_Cur.c0 {s G : Nat} {n b : Nat → Nat} {w : rv_W} (h : ra_Cur s G n b w) : w 1 0 = Int32.ofNat s := h.1.1
theorem ra_Cur.c1 {s G : Nat} {n b : Nat → Nat} {w : rv_W} (h : ra_Cur s G n b w) : w 1 1 = Int32.ofNat G := h.1.2.2.1
theorem ra_Cur.B {s G g : Nat} {n b : Nat → Nat} {w : rv_W} (h : ra_Cur s G n b w) (hg : g < G) : b g ∈ rv_B := (h.1.ok g hg).2
theorem ra_Cur.fr {s G : Nat} {n b : Nat → Nat} {w w' : rv_W} (h : ra_Cur s G n b w) (k : rv_fr 24 77 w w') : ra_Cur s G n b w' := h.kp (ra_fr_kp k)
theorem ra_holds {s G : Nat} {x : Int32} {n b : Nat → Nat} {w : rv_W} (h : ra_Cur s G n b w) : f_X8_holds 1 x w = some (rv_b2 (ra_iv x G), w) := by
  unfold f_X8_holds
  rw [h.c1]
  exact ra_rng (by have := h.G20; omega)
theorem ra_e1 : ¬ rv_b2 true = 0 := by decide
theorem ra_e0 : rv_b2 false = 0 := rfl
theorem c_standing : ra_Sc (fun s _ _ _ => Int32.ofNat s) f_X10_standing := fun s G n b w h hr => ra_stay (by unfold f_X10_standing; rfl) h.c0 hr
theorem c_groupCount : ra_Sc (fun _ G _ _ => Int32.ofNat G) f_X10_groupCount := fun s G n b w h hr => ra_stay (by unfold f_X10_groupCount; rfl) h.c1 hr
theorem c_voters (x : Int32) : ra_Sc (fun s G n b => if ra_iv x G = true then Int32.ofNat (n x.toInt.toNat) else -1000001) (f_X10_voters x) := by
  intro s G n b w h hr
  dsimp only
  unfold f_X10_voters
  rw [ra_holds h, rv_bd_some]
  cases hx : ra_iv x G
  · rw [if_pos ra_e0]
    exact rv_T_some.mpr ⟨rfl, rv_fr.refl, hr⟩
  · obtain ⟨g, hg, rfl⟩ := ra_iv_get hx
    have := h.G20
    rw [if_neg ra_e1, t_sVoters h.1 hg, rv_bd_some]
    exact rv_T_some.mpr ⟨by rw [rv_n_int (by omega)]; rfl, rv_fr.refl, hr⟩
/-- the decimal digits of a ballot -/
def ra_td (r : Nat) : Nat → Nat
  | 0 => 0
  | k + 1 => 10 * ra_td r k + rv_at r k
theorem e_toDigits {r : Nat} (hr : r ∈ rv_B) (w : rv_W) : f_X0_toDigits (Int32.ofNat r) w = some (Int32.ofNat (ra_td r (rv_ln r)), w) :=
  rv_un_eq un_X0_toDigits (List.all_eq_true.mp (by decide +kernel : ((rv_B).all fun r => rv_eqr (f_X0_toDigits (Int32.ofNat r) rv_w0) (Int32.ofNat (ra_td r (rv_ln r)))) = true) r hr)
theorem c_ballot (x : Int32) : ra_Sc (fun s G n b => if ra_iv x G = true then Int32.ofNat (ra_td (b x.toInt.toNat) (rv_ln (b x.toInt.toNat))) else -1000001) (f_X10_ballot x) := by
  intro s G n b w h hr
  dsimp only
  unfold f_X10_ballot
  rw [ra_holds h, rv_bd_some]
  cases hx : ra_iv x G
  · rw [if_pos ra_e0]
    exact rv_T_some.mpr ⟨rfl, rv_fr.refl, hr⟩
  · obtain ⟨g, hg, rfl⟩ := ra_iv_get hx
    have := h.G20
    rw [if_neg ra_e1, t_sBallot h.1 hg, rv_bd_some, e_toDigits (h.B hg), rv_bd_some]
    exact rv_T_some.mpr ⟨by rw [rv_n_int (by omega)]; rfl, rv_fr.refl, hr⟩
theorem ra_total {s G : Nat} {n b : Nat → Nat} {w : rv_W} (h : ra_Cur s G n b w) : f_X8_total 1 w = some (Int32.ofNat (rv_sm G n), w) := by
  have hG := h.G20
  unfold f_X8_total
  refine rv_E1 G (fun k => Int32.ofNat (rv_sm k n)) (fun _ => w) _ _ rfl rfl (fun ag k hk => ?_) (fun ag => ?_) (by show G < 10000; omega)
  · simp only [h.c1, ra_ltG hk hG, if_true, t_sVoters h.1 hk, rv_bd_some, rv_lt, rv_n_succ, rv_sm, Int32.ofNat_add]
  · simp only [h.c1, ra_geG, if_false]
theorem ra_cut_sm {G : Nat} {n : Nat → Nat} (hG : G ≤ 20) : rv_sm 20 (rv_cut 0 G n) = rv_sm G n := by
  rw [rv_sm_ext hG (fun i hi _ => by unfold rv_cut; rw [if_neg (by omega)])]
  exact rv_sm_congr (fun i hi => by unfold rv_cut; rw [if_pos ⟨Nat.zero_le _, hi⟩])
theorem c_allVoters  : ra_Sc (fun s G n b => Int32.ofNat (rv_sm G n)) f_X10_allVoters := by
  intro s G n b w h hr
  dsimp only
  unfold f_X10_allVoters
  rw [ra_total h, rv_bd_some]
  exact rv_T_some.mpr ⟨rfl, rv_fr.refl, hr⟩
/-- two candidates, asked for -/
def ra_two (s : Nat) (x y : Int32) (A : Nat → Nat → Int32) : Int32 := if ra_iv x 5 = true ∧ ra_iv y 5 = true then (if rv_hs s x.toInt.toNat = true ∧ rv_hs s y.toInt.toNat = true then A x.toInt.toNat y.toInt.toNat else -1000003) else -1000001
theorem ra_two_no {s : Nat} {x y : Int32} {A : Nat → Nat → Int32} (h : ra_iv x 5 = false ∨ ra_iv y 5 = false) : ra_two s x y A = -1000001 := if_neg (fun z => by
  rcases h with h | h
  · rw [h] at z; cases z.1
  · rw [h] at z; cases z.2)
theorem ra_two_ok {s a b : Nat} {A : Nat → Nat → Int32} (ha : a < 5) (hb : b < 5) : ra_two s (Int32.ofNat a) (Int32.ofNat b) A = if rv_hs s a = true ∧ rv_hs s b = true then A a b else -1000003 := by
  unfold ra_two
  rw [if_pos ⟨ra_iv_nat ha (by decide), ra_iv_nat hb (by decide)⟩, rv_n_int (by omega), rv_n_int (by omega)]
  rfl
theorem ra_bothStand {s G a b : Nat} {n m : Nat → Nat} {w : rv_W} (h : ra_Cur s G n m w) (ha : a < 5) (hb : b < 5) : f_X10_bothStand (Int32.ofNat a) (Int32.ofNat b) w = some (rv_b2 (rv_hs s a && rv_hs s b), w) := by
  unfold f_X10_bothStand
  rw [h.c0, e_hasb h.s32 ha, rv_bd_some, h.c0, e_hasb h.s32 hb, rv_bd_some]
  cases rv_hs s a <;> cases rv_hs s b <;> rfl
/-- the class's side of a question of two candidates -/
theorem ra_ctwo {s G : Nat} {x y : Int32} {n m : Nat → Nat} {A : Nat → Nat → Int32} {w : rv_W} {K : rv_W → rv_R} (h : ra_Cur s G n m w) (hr : rv_Rows w) (hK : ∀ a b, a < 5 → b < 5 → x = Int32.ofNat a → y = Int32.ofNat b → rv_hs s a = true → rv_hs s b = true → rv_T (K w) (fun v w' => v = A a b ∧ rv_fr 24 77 w w' ∧ rv_Rows w')) : rv_T (rv_bd (f_X1_exists x w) (fun (r1 : Int32) (w2 : rv_W) =>
  if r1 = 0 then
  some ((-1000001 : Int32), w2)
  else
  rv_bd (f_X1_exists y w2) (fun (r3 : Int32) (w4 : rv_W) =>
  if r3 = 0 then
  some ((-1000001 : Int32), w4)
  else
  rv_bd (f_X10_bothStand x y w4) (fun (r5 : Int32) (w6 : rv_W) =>
  if r5 = 0 then
  some ((-1000003 : Int32), w6)
  else
  K w6)))) (fun v w' => v = ra_two s x y A ∧ rv_fr 24 77 w w' ∧ rv_Rows w') := by
  rw [ra_exists, rv_bd_some]
  cases hx : ra_iv x 5
  · rw [if_pos ra_e0, ra_two_no (Or.inl hx)]
    exact rv_T_some.mpr ⟨rfl, rv_fr.refl, hr⟩
  · rw [if_neg ra_e1, ra_exists, rv_bd_some]
    cases hy : ra_iv y 5
    · rw [if_pos ra_e0, ra_two_no (Or.inr hy)]
      exact rv_T_some.mpr ⟨rfl, rv_fr.refl, hr⟩
    · obtain ⟨a, ha, rfl⟩ := ra_iv_get hx
      obtain ⟨b, hb, rfl⟩ := ra_iv_get hy
      rw [if_neg ra_e1, ra_bothStand h ha hb, rv_bd_some, ra_two_ok ha hb]
      cases h1 : rv_hs s a
      · exact rv_T_some.mpr ⟨rfl, rv_fr.refl, hr⟩
      · cases h2 : rv_hs s b
        · exact rv_T_some.mpr ⟨rfl, rv_fr.refl, hr⟩
        · rw [Bool.and_self, if_neg ra_e1, if_pos ⟨rfl, rfl⟩]
          exact hK a b ha hb rfl rfl h1 h2
theorem ra_neg {s : Nat} {x y : Int32} : (ra_two s x y (fun _ _ => 0) < 0) ∨ ∃ a b, a < 5 ∧ b < 5 ∧ x = Int32.ofNat a ∧ y = Int32.ofNat b ∧ rv_hs s a = true ∧ rv_hs s b = true := by
  cases hx : ra_iv x 5
  · left; rw [ra_two_no (Or.inl hx)]; decide
  · cases hy : ra_iv y 5
    · left; rw [ra_two_no (Or.inr hy)]; decide
    · obtain ⟨a, ha, rfl⟩ := ra_iv_get hx
      obtain ⟨b, hb, rfl⟩ := ra_iv_get hy
      by_cases q : rv_hs s a = true ∧ rv_hs s b = true
      · exact Or.inr ⟨a, b, ha, hb, rfl, rfl, q⟩
      · left; rw [ra_two_ok ha hb, if_neg q]; decide
theorem ra_two_err {s : Nat} {x y : Int32} {A B : Nat → Nat → Int32} (h : ra_two s x y A < 0) (hA : ∀ a b, ¬ A a b < 0) : ra_two s x y B = ra_two s x y A := by
  unfold ra_two at *
  by_cases q1 : ra_iv x 5 = true ∧ ra_iv y 5 = true
  · rw [if_pos q1] at h
    rw [if_pos q1, if_pos q1]
    by_cases q2 : rv_hs s x.toInt.toNat = true ∧ rv_hs s y.toInt.toNat = true
    · rw [if_pos q2] at h
      exact absurd h (hA _ _)
    · rw [if_neg q2, if_neg q2]
  · rw [if_neg q1, if_neg q1]
theorem ra_votesFor {s a b : Nat} {n m : Nat → Nat} {w : rv_W} (h : ra_PQ s n m w) (ha : a < 5) (hb : b < 5) : f_X5_votesFor (Int32.ofNat a) (Int32.ofNat b) w = some (Int32.ofNat (ra_P s n m a b), w) := by
  unfold f_X5_votesFor
  rw [e_exists ha, rv_bd_some, if_neg (by decide), e_exists hb, rv_bd_some, if_neg (by decide), rv_ck5 ha, rv_ck5 hb, rv_nn5 ha, rv_nn5 hb, h.ab ha hb]
theorem c_pair (x y : Int32) : ra_Sc (fun s G n m => ra_two s x y (fun a b => Int32.ofNat (ra_P s (rv_cut 0 G n) m a b))) (f_X10_pair x y) := by
  intro s G n m w h hr
  dsimp only
  unfold f_X10_pair
  refine ra_ctwo (K := fun w6 => rv_bd (f_X10_castAll w6) (fun _ w8 => rv_bd (f_X5_votesFor x y w8) (fun r9 w10 => some (r9, w10)))) h hr (fun a b ha hb hx hy h1 h2 => ?_)
  subst hx hy
  refine rv_T_call (ra_castAll h.1 hr) (fun _ w2 ⟨hP, hf⟩ => ?_)
  rw [ra_votesFor hP ha hb, rv_bd_some]
  exact rv_T_some.mpr ⟨rfl, hf.wide (by omega) (by omega), hP.rows⟩
/-- a rule, asked for -/
def ra_one (x : Int32) (A : Nat → Int32) : Int32 := if ra_iv x 12 = true then A x.toInt.toNat else -1000001
theorem ra_one_ok {r : Nat} {A : Nat → Int32} (hr : r < 12) : ra_one (Int32.ofNat r) A = A r := by
  unfold ra_one
  rw [if_pos (ra_iv_nat hr (by decide)), rv_n_int (by omega)]
  rfl
theorem ra_crule {x : Int32} {A : Nat → Int32} {w : rv_W} {K : rv_W → rv_R} (hr : rv_Rows w) (hK : ∀ r, r < 12 → x = Int32.ofNat r → rv_T (K w) (fun v w' => v = A r ∧ rv_fr 24 77 w w' ∧ rv_Rows w')) : rv_T (rv_bd (f_X10_isRule x w) (fun (r1 : Int32) (w2 : rv_W) =>
  if r1 = 0 then
  some ((-1000001 : Int32), w2)
  else
  K w2)) (fun v w' => v = ra_one x A ∧ rv_fr 24 77 w w' ∧ rv_Rows w') := by
  rw [ra_isRule, rv_bd_some]
  cases hx : ra_iv x 12
  · rw [if_pos ra_e0]
    unfold ra_one
    rw [if_neg (by rw [hx]; decide)]
    exact rv_T_some.mpr ⟨rfl, rv_fr.refl, hr⟩
  · obtain ⟨r, hr12, rfl⟩ := ra_iv_get hx
    rw [if_neg ra_e1, ra_one_ok hr12]
    exact hK r hr12 rfl
theorem rv_fr.two {w w' w'' : rv_W} (h : rv_fr 24 52 w w') (h2 : rv_fr 53 76 w' w'') : rv_fr 24 77 w w'' := (h.wide (by omega) (by omega)).trans (h2.wide (by omega) (by omega))
theorem rv_fr.rows {w w' : rv_W} (h : rv_fr 53 76 w w') (hr : rv_Rows w) : rv_Rows w' := hr.fr (fun c j _ _ => h c j (by omega))
theorem c_winners (x : Int32) : ra_Sc (fun s G n m => ra_one x (fun r => Int32.ofNat (ra_W r s (rv_cut 0 G n) m))) (f_X10_winners x) := by
  intro s G n m w h hr
  dsimp only
  unfold f_X10_winners
  refine ra_crule (K := fun w2 => rv_bd (f_X10_castAll w2) (fun _ w4 => rv_bd (f_X7_winnersBy x w4) (fun r5 w6 => some (r5, w6)))) hr (fun r hr12 hx => ?_)
  subst hx
  refine rv_T_call (ra_castAll h.1 hr) (fun _ w2 ⟨hP, hf⟩ => ?_)
  refine rv_T_call (ra_winnersBy hP hr12) (fun v w3 ⟨hv, hf3⟩ => ?_)
  exact rv_T_some.mpr ⟨hv, hf.two hf3, hf3.rows hP.rows⟩
theorem ra_wm_neg {r s : Nat} {n m : Nat → Nat} (hs : s < 32) : (ra_wm r s n m < 0) = (s = 0) := by
  unfold ra_wm
  by_cases q : s = 0
  · rw [if_pos q]; exact propext ⟨fun _ => q, fun _ => by decide⟩
  · rw [if_neg q]
    have := (ra_w_in (rule := r) (n := n) (m := m) hs q).1
    exact propext ⟨fun z => absurd z (rv_n_neg (by omega)), fun z => absurd z q⟩
theorem c_winner (x : Int32) : ra_Sc (fun s G n m => ra_one x (fun r => ra_wc r s (rv_cut 0 G n) m)) (f_X10_winner x) := by
  intro s G n m w h hr
  dsimp only
  unfold f_X10_winner
  refine ra_crule (K := fun w2 => rv_bd (f_X10_castAll w2) (fun _ w4 => rv_bd (f_X7_winnerBy x w4) (fun r5 w6 => some (r5, w6)))) hr (fun r hr12 hx => ?_)
  subst hx
  refine rv_T_call (ra_castAll h.1 hr) (fun _ w2 ⟨hP, hf⟩ => ?_)
  refine rv_T_call (ra_winnerBy hP hr12) (fun v w3 ⟨hv, hf3⟩ => ?_)
  exact rv_T_some.mpr ⟨hv, hf.two hf3, hf3.rows hP.rows⟩
