/-! questions of rounds and orders -/
def ra_cb (r : Nat) : Bool := r == 7
def ra_rA (s G : Nat) (n m : Nat → Nat) (r : Nat) : Int32 := if ra_gr7 r = true then Int32.ofNat (ra_rt (ra_cb r) (rv_cut 0 G n) m s) else -1000003
theorem ra_rt_le {cb : Bool} {n m : Nat → Nat} {s : Nat} (hs : s < 32) : ra_rt cb n m s ≤ 5 := by
  obtain ⟨C, hat, _⟩ := ra_cs_ok (cb := cb) (n := n) (m := m) hs
  exact hat.2.2.2.2.1
theorem ra_gr7_cb {r : Nat} (h : ra_gr7 r = true) : r = if ra_cb r = true then 7 else 6 := by
  unfold ra_gr7 at h
  unfold ra_cb
  rw [Bool.or_eq_true, beq_iff_eq, beq_iff_eq] at h
  rcases h with h | h <;> subst h <;> rfl
/-- the class has played -/
theorem ra_cplay {s G r : Nat} {n m : Nat → Nat} {w : rv_W} (h : ra_Cur s G n m w) (hr : rv_Rows w) (hg : ra_gr7 r = true) : rv_T (rv_bd (f_X10_castAll w) (fun _ w8 => f_X6_play (Int32.ofNat r) w8)) (fun _ w' => rv_fr 24 77 w w' ∧ rv_Rows w' ∧ ra_rec (ra_cb r) (rv_cut 0 G n) m s (ra_rt (ra_cb r) (rv_cut 0 G n) m s) w') := by
  refine rv_T_call (ra_castAll h.1 hr) (fun _ w2 ⟨hP, hf⟩ => ?_)
  exact (ra_play (cb := ra_cb r) hP (ra_gr7_cb hg)).mono (fun v w3 ⟨_, hf3, hrec⟩ => ⟨hf.two hf3, hf3.rows hP.rows, hrec⟩)
theorem ra_cplay' {s G r : Nat} {n m : Nat → Nat} {w : rv_W} {K : rv_W → rv_R} {Q : Int32 → rv_W → Prop} (h : ra_Cur s G n m w) (hr : rv_Rows w) (hg : ra_gr7 r = true) (hK : ∀ w', rv_fr 24 77 w w' → rv_Rows w' → ra_rec (ra_cb r) (rv_cut 0 G n) m s (ra_rt (ra_cb r) (rv_cut 0 G n) m s) w' → rv_T (K w') Q) : rv_T (rv_bd (f_X10_castAll w) (fun _ w8 => rv_bd (f_X6_play (Int32.ofNat r) w8) (fun _ w10 => K w10))) Q := by
  have e : rv_bd (f_X10_castAll w) (fun _ w8 => rv_bd (f_X6_play (Int32.ofNat r) w8) (fun _ w10 => K w10)) = rv_bd (rv_bd (f_X10_castAll w) (fun _ w8 => f_X6_play (Int32.ofNat r) w8)) (fun _ w10 => K w10) := by
    cases f_X10_castAll w with
    | none => rfl
    | some q => rfl
  rw [e]
  exact rv_T_call (ra_cplay h hr hg) (fun _ w' ⟨h1, h2, h3⟩ => hK w' h1 h2 h3)
theorem ra_mrounds {x : Int32} {s G : Nat} {n m : Nat → Nat} {w : rv_W} (h : ra_Cur s G n m w) : rv_T (f_X11_rounds x w) (fun v w' => v = ra_one x (ra_rA s G n m) ∧ ra_f9 w w' ∧ ∀ r, r < 12 → x = Int32.ofNat r → ra_gr7 r = true → ra_mrec (ra_cb r) (rv_cut 0 G n) m s (ra_rt (ra_cb r) (rv_cut 0 G n) m s) w') := by
  unfold f_X11_rounds
  rw [ra_misRule, rv_bd_some]
  cases hx : ra_iv x 12
  · rw [if_pos ra_e0]
    unfold ra_one
    rw [if_neg (by rw [hx]; decide)]
    exact rv_T_some.mpr ⟨rfl, ra_f9.refl, fun r hr hx2 => by rw [hx2, ra_iv_nat hr (by decide)] at hx; cases hx⟩
  · obtain ⟨r, hr12, rfl⟩ := ra_iv_get hx
    rw [if_neg ra_e1, ra_one_ok hr12, e_hasRounds hr12, rv_bd_some]
    unfold ra_rA
    have rr : ∀ r', r' < 12 → Int32.ofNat r = Int32.ofNat r' → r' = r := fun r' hr' e => by rw [ra_rl hr12 hr'] at e; exact e.symm
    cases h7 : ra_gr7 r
    · rw [if_pos ra_e0]
      exact rv_T_some.mpr ⟨rfl, ra_f9.refl, fun r' hr' e z => by rw [rr r' hr' e, h7] at z; cases z⟩
    · rw [if_neg ra_e1]
      refine rv_T_call (ra_now h hr12) (fun v w2 ⟨hv, hf, hM, hap⟩ => ?_)
      have hrec : ra_mrec (ra_cb r) (rv_cut 0 G n) m s (ra_rt (ra_cb r) (rv_cut 0 G n) m s) w2 := by
        have e := ra_gr7_cb h7
        cases hc : ra_cb r
        · exact hap.2.1 (by rw [hc] at e; exact e)
        · exact hap.2.2.1 (by rw [hc] at e; exact e)
      exact rv_T_some.mpr ⟨hrec.1, hf.f9, fun r' hr' e _ => by rw [rr r' hr' e]; exact hrec⟩
theorem q_rounds (x : Int32) : ra_St (f_X10_rounds x) (f_X11_rounds x) := by
  refine ra_mk (fun s G n m => ra_one x (ra_rA s G n m)) (fun s G n m w h hr => ?_) (fun s G n m w h => (ra_mrounds h).mono (fun v w' ⟨h1, h2, _⟩ => ⟨h1, h2⟩))
  unfold f_X10_rounds
  refine ra_crule (K := fun w2 => rv_bd (f_X10_goesByRounds x w2) (fun r3 w4 => if r3 = 0 then some ((-1000003 : Int32), w4) else rv_bd (f_X10_castAll w4) (fun _ w6 => rv_bd (f_X6_play x w6) (fun _ w8 => some ((w8 56 0), w8))))) hr (fun r hr12 hx => ?_)
  subst hx
  rw [e_goesByRounds hr12, rv_bd_some]
  unfold ra_rA
  cases h7 : ra_gr7 r
  · rw [if_pos ra_e0]
    exact rv_T_some.mpr ⟨rfl, rv_fr.refl, hr⟩
  · rw [if_neg ra_e1]
    refine ra_cplay' (K := fun w8 => some ((w8 56 0), w8)) h hr h7 (fun w' g1 g2 g3 => ?_)
    exact rv_T_some.mpr ⟨g3.1, g1, g2⟩
theorem ra_one_err {x : Int32} {A B : Nat → Int32} (h : ra_one x A < 0) (hA : ∀ r, r < 12 → x = Int32.ofNat r → A r < 0 → B r = A r) : ra_one x B = ra_one x A := by
  cases hx : ra_iv x 12
  · unfold ra_one
    rw [if_neg (by rw [hx]; decide), if_neg (by rw [hx]; decide)]
  · obtain ⟨r, hr12, rfl⟩ := ra_iv_get hx
    rw [ra_one_ok hr12] at h
    rw [ra_one_ok hr12, ra_one_ok hr12]
    exact hA r hr12 rfl h
theorem ra_rA_neg {s G r : Nat} {n m : Nat → Nat} (hs : s < 32) : (ra_rA s G n m r < 0) = (ra_gr7 r = false) := by
  unfold ra_rA
  have := ra_rt_le (cb := ra_cb r) (n := rv_cut 0 G n) (m := m) hs
  cases h : ra_gr7 r
  · exact propext ⟨fun _ => rfl, fun _ => by rw [if_neg (by decide)]; decide⟩
  · rw [if_pos rfl]
    exact propext ⟨fun z => absurd z (rv_n_neg (by omega)), fun z => by cases z⟩
theorem ra_cholds {K : Nat} {p : Int32} {w : rv_W} (hK : K ≤ 5) (h : w 56 0 = Int32.ofNat K) : f_X6_holds p w = some (rv_b2 (ra_iv p K), w) := by
  unfold f_X6_holds
  rw [h]
  exact ra_rng (by omega)
def ra_lA (p : Int32) (s G : Nat) (n m : Nat → Nat) (r : Nat) : Int32 := if ra_gr7 r = true then (if ra_iv p (ra_rt (ra_cb r) (rv_cut 0 G n) m s) = true then Int32.ofNat (ra_out (ra_cb r) (rv_cut 0 G n) m (ra_cs (ra_cb r) (rv_cut 0 G n) m s p.toInt.toNat)) else -1000001) else -1000003
theorem q_leaves (x p : Int32) : ra_St (f_X10_leaves x p) (f_X11_leaves x p) := by
  refine ra_mk (fun s G n m => ra_one x (ra_lA p s G n m)) (fun s G n m w h hr => ?_) (fun s G n m w h => ?_)
  · unfold f_X10_leaves
    refine ra_crule (K := fun w2 => rv_bd (f_X10_goesByRounds x w2) (fun r3 w4 => if r3 = 0 then some ((-1000003 : Int32), w4) else rv_bd (f_X10_castAll w4) (fun _ w6 => rv_bd (f_X6_play x w6) (fun _ w8 => rv_bd (f_X6_holds p w8) (fun r9 w10 => if r9 = 0 then some ((-1000001 : Int32), w10) else rv_bd (f_X6_leaver p w10) (fun r11 w12 => some (r11, w12))))))) hr (fun r hr12 hx => ?_)
    subst hx
    rw [e_goesByRounds hr12, rv_bd_some]
    unfold ra_lA
    cases h7 : ra_gr7 r
    · rw [if_pos ra_e0]
      exact rv_T_some.mpr ⟨rfl, rv_fr.refl, hr⟩
    · rw [if_neg ra_e1]
      refine ra_cplay' (K := fun w8 => rv_bd (f_X6_holds p w8) (fun r9 w10 => if r9 = 0 then some ((-1000001 : Int32), w10) else rv_bd (f_X6_leaver p w10) (fun r11 w12 => some (r11, w12)))) h hr h7 (fun w' g1 g2 g3 => ?_)
      have hrt := ra_rt_le (cb := ra_cb r) (n := rv_cut 0 G n) (m := m) h.s32
      rw [ra_cholds hrt g3.1, rv_bd_some]
      cases hp : ra_iv p (ra_rt (ra_cb r) (rv_cut 0 G n) m s)
      · rw [if_pos ra_e0]
        exact rv_T_some.mpr ⟨rfl, g1, g2⟩
      · obtain ⟨j, hj, rfl⟩ := ra_iv_get hp
        have hj5 : j < 5 := by omega
        have el : f_X6_leaver (Int32.ofNat j) w' = some (w' 57 j, w') := by
          unfold f_X6_leaver
          rw [if_neg (rv_n_neg (by omega)), if_pos ((rv_l5 (by omega)).mpr hj5), rv_ck5 hj5, rv_nn5 hj5]
        rw [if_neg ra_e1, el, rv_bd_some, (g3.2 j hj).1]
        exact rv_T_some.mpr ⟨by rw [rv_n_int (by omega)]; rfl, g1, g2⟩
  · unfold f_X11_leaves
    refine rv_T_call (ra_mrounds h) (fun v w2 ⟨hv, hf, hrec⟩ => ?_)
    rw [hv]
    by_cases q : ra_one x (ra_rA s G n m) < 0
    · rw [if_pos q]
      refine rv_T_some.mpr ⟨(ra_one_err q (fun r hr12 hx hA => ?_)).symm, hf⟩
      rw [ra_rA_neg h.s32] at hA
      unfold ra_lA ra_rA
      rw [hA]
      rfl
    · rw [if_neg q]
      cases hx : ra_iv x 12
      · unfold ra_one at q
        rw [if_neg (by rw [hx]; decide)] at q
        exact absurd (by decide) q
      · obtain ⟨r, hr12, rfl⟩ := ra_iv_get hx
        rw [ra_one_ok hr12] at q
        rw [ra_one_ok hr12, ra_one_ok hr12]
        cases h7 : ra_gr7 r
        · exact absurd (by rw [ra_rA_neg h.s32]; exact h7) q
        · have hrt := ra_rt_le (cb := ra_cb r) (n := rv_cut 0 G n) (m := m) h.s32
          have hre := hrec r hr12 rfl h7
          have eA : ra_rA s G n m r = Int32.ofNat (ra_rt (ra_cb r) (rv_cut 0 G n) m s) := by unfold ra_rA; rw [if_pos h7]
          have ei : f_X11_in p 0 (Int32.ofNat (ra_rt (ra_cb r) (rv_cut 0 G n) m s) - 1) w2 = _ := ra_in0 (k := ra_rt (ra_cb r) (rv_cut 0 G n) m s) (by omega)
          rw [eA, ei, rv_bd_some]
          unfold ra_lA
          rw [if_pos h7]
          cases hp : ra_iv p (ra_rt (ra_cb r) (rv_cut 0 G n) m s)
          · rw [if_pos ra_e0]
            exact rv_T_some.mpr ⟨rfl, hf⟩
          · obtain ⟨j, hj, rfl⟩ := ra_iv_get hp
            have hj5 : j < 5 := by omega
            rw [if_neg ra_e1, rv_ck5 hj5, rv_nn5 hj5, (hre.2 j hj).1]
            exact rv_T_some.mpr ⟨by rw [rv_n_int (by omega)]; rfl, hf⟩
theorem ra_cs_lt {cb : Bool} {n m : Nat → Nat} {s i : Nat} (hs : s < 32) (hi : i ≤ ra_rt cb n m s) : ra_cs cb n m s i < 32 := by
  cases i with
  | zero => exact hs
  | succ i =>
    have key : ∀ j, ra_cs cb n m s j < 32 := by
      intro j
      induction j with
      | zero => exact hs
      | succ j ih => exact rv_wo_lt ih
    exact key (i + 1)
def ra_tA (p : Int32) (s G : Nat) (n m : Nat → Nat) (r c : Nat) : Int32 := if ra_gr7 r = true then (if ra_iv p (ra_rt (ra_cb r) (rv_cut 0 G n) m s) = true then (if rv_hs (ra_cs (ra_cb r) (rv_cut 0 G n) m s p.toInt.toNat) c = true then Int32.ofNat (ra_x (ra_cb r) (rv_cut 0 G n) m (ra_cs (ra_cb r) (rv_cut 0 G n) m s p.toInt.toNat) c) else -1000000) else -1000001) else -1000003
theorem q_tally (x p y : Int32) : ra_St (f_X10_tally x p y) (f_X11_tally x p y) := by
  refine ra_mk (fun s G n m => ra_rc x y (ra_tA p s G n m)) (fun s G n m w h hr => ?_) (fun s G n m w h => ?_)
  · unfold f_X10_tally
    refine ra_crc (K := fun w4 => rv_bd (f_X10_goesByRounds x w4) (fun r5 w6 => if r5 = 0 then some ((-1000003 : Int32), w6) else rv_bd (f_X10_castAll w6) (fun _ w8 => rv_bd (f_X6_play x w8) (fun _ w10 => rv_bd (f_X6_holds p w10) (fun r11 w12 => if r11 = 0 then some ((-1000001 : Int32), w12) else rv_bd (f_X6_tallyOf p y w12) (fun r13 w14 => some (r13, w14))))))) hr (fun r c hr12 hc hx hy => ?_)
    subst hx hy
    rw [e_goesByRounds hr12, rv_bd_some]
    unfold ra_tA
    cases h7 : ra_gr7 r
    · rw [if_pos ra_e0]
      exact rv_T_some.mpr ⟨rfl, rv_fr.refl, hr⟩
    · rw [if_neg ra_e1]
      refine ra_cplay' (K := fun w8 => rv_bd (f_X6_holds p w8) (fun r9 w10 => if r9 = 0 then some ((-1000001 : Int32), w10) else rv_bd (f_X6_tallyOf p (Int32.ofNat c) w10) (fun r11 w12 => some (r11, w12)))) h hr h7 (fun w' g1 g2 g3 => ?_)
      have hrt := ra_rt_le (cb := ra_cb r) (n := rv_cut 0 G n) (m := m) h.s32
      rw [ra_cholds hrt g3.1, rv_bd_some]
      cases hp : ra_iv p (ra_rt (ra_cb r) (rv_cut 0 G n) m s)
      · rw [if_pos ra_e0]
        exact rv_T_some.mpr ⟨rfl, g1, g2⟩
      · obtain ⟨j, hj, rfl⟩ := ra_iv_get hp
        have hj5 : j < 5 := by omega
        have hcs := ra_cs_lt (cb := ra_cb r) (n := rv_cut 0 G n) (m := m) (i := j) h.s32 (by omega)
        obtain ⟨t1, t2, t3⟩ := g3.2 j hj
        have et : f_X6_tallyOf (Int32.ofNat j) (Int32.ofNat c) w' = some (if rv_hs (ra_cs (ra_cb r) (rv_cut 0 G n) m s j) c = true then Int32.ofNat (ra_x (ra_cb r) (rv_cut 0 G n) m (ra_cs (ra_cb r) (rv_cut 0 G n) m s j) c) else -1000000, w') := by
          unfold f_X6_tallyOf
          rw [if_neg (rv_n_neg (by omega)), if_pos ((rv_l5 (by omega)).mpr hj5), rv_ck5 hj5, rv_nn5 hj5, t2, e_hasb hcs hc, rv_bd_some]
          cases rv_hs (ra_cs (ra_cb r) (rv_cut 0 G n) m s j) c
          · rfl
          · rw [if_neg ra_e1, rv_ck5 hj5, rv_ck5 hc, rv_nn5 hc, t3 c hc]; rfl
        rw [if_neg ra_e1, et, rv_bd_some]
        exact rv_T_some.mpr ⟨by rw [rv_n_int (by omega)]; rfl, g1, g2⟩
  · unfold f_X11_tally
    refine ra_mrc (K := fun w4 => rv_bd (f_X11_rounds x w4) (fun r5 w6 => if r5 < 0 then some (r5, w6) else rv_bd (f_X11_in p (0 : Int32) (r5 - (1 : Int32)) w6) (fun r7 w8 => if r7 = 0 then some ((-1000001 : Int32), w8) else rv_ck p 5 (rv_bd (f_X11_has (w8 90 p.toNatClampNeg) y w8) (fun r9 w10 => if r9 = 0 then some ((-1000000 : Int32), w10) else rv_ck (((5 : Int32) * p) + y) 25 (some ((w10 89 (((5 : Int32) * p) + y).toNatClampNeg), w10))))))) (fun r c hr12 hc hx hy => ?_)
    subst hx hy
    refine rv_T_call (ra_mrounds h) (fun v w2 ⟨hv, hf, hrec⟩ => ?_)
    rw [hv, ra_one_ok hr12]
    unfold ra_tA
    simp only [ra_rA_neg h.s32]
    cases h7 : ra_gr7 r
    · rw [if_pos rfl]
      exact rv_T_some.mpr ⟨by unfold ra_rA; rw [if_neg (by rw [h7]; decide)]; rfl, hf⟩
    · rw [if_neg (show ¬ true = false by decide), if_pos rfl]
      have hrt := ra_rt_le (cb := ra_cb r) (n := rv_cut 0 G n) (m := m) h.s32
      have hre := hrec r hr12 rfl h7
      have eA : ra_rA s G n m r = Int32.ofNat (ra_rt (ra_cb r) (rv_cut 0 G n) m s) := by unfold ra_rA; rw [if_pos h7]
      have ei : f_X11_in p 0 (Int32.ofNat (ra_rt (ra_cb r) (rv_cut 0 G n) m s) - 1) w2 = _ := ra_in0 (k := ra_rt (ra_cb r) (rv_cut 0 G n) m s) (by omega)
      rw [eA, ei, rv_bd_some]
      cases hp : ra_iv p (ra_rt (ra_cb r) (rv_cut 0 G n) m s)
      · rw [if_pos ra_e0]
        exact rv_T_some.mpr ⟨rfl, hf⟩
      · obtain ⟨j, hj, rfl⟩ := ra_iv_get hp
        have hj5 : j < 5 := by omega
        have hcs := ra_cs_lt (cb := ra_cb r) (n := rv_cut 0 G n) (m := m) (i := j) h.s32 (by omega)
        obtain ⟨t1, t2, t3⟩ := hre.2 j hj
        rw [if_neg ra_e1, rv_ck5 hj5, rv_nn5 hj5, t2, e_mhasb hcs hc, rv_bd_some, rv_n_int (by omega), show ((j : Int)).toNat = j from rfl, if_pos rfl]
        cases rv_hs (ra_cs (ra_cb r) (rv_cut 0 G n) m s j) c
        · rw [if_pos ra_e0]
          exact rv_T_some.mpr ⟨rfl, hf⟩
        · rw [if_neg ra_e1, ra_ix5, rv_ck25 (by omega), rv_nn25 (by omega), t3 c hc]
          exact rv_T_some.mpr ⟨rfl, hf⟩
theorem q_kemenyValue : ra_St f_X10_kemenyValue f_X11_kemenyValue := by
  refine ra_mk (fun s G n m => Int32.ofNat (ra_V (ra_P s (rv_cut 0 G n) m) 5 s)) (fun s G n m w h hr => ?_) (fun s G n m w h => ?_)
  · unfold f_X10_kemenyValue
    refine rv_T_call (ra_castAll h.1 hr) (fun _ w2 ⟨hP, hf⟩ => ?_)
    refine rv_T_call (ra_weigh hP) (fun _ w3 ⟨hf3, hk⟩ => ?_)
    have hf3' : rv_fr 53 76 w2 w3 := hf3.wide (by omega) (by omega)
    have e0 : w3 1 0 = Int32.ofNat s := by rw [hf3 _ _ (by omega), hf _ _ (by omega)]; exact h.c0
    rw [e0, ra_cGreatest h.s32, rv_bd_some, hk s h.s32 (fun _ _ z => z)]
    exact rv_T_some.mpr ⟨rfl, hf.two hf3', hf3'.rows hP.rows⟩
  · unfold f_X11_kemenyValue
    refine rv_T_call (ra_now (rule := 11) h (by omega)) (fun v w2 ⟨hv, hf, hM, hap⟩ => ?_)
    rw [hv]
    simp only [ra_wm_neg h.s32]
    by_cases q : s = 0
    · rw [if_pos q, q, ra_V0]
      exact rv_T_some.mpr ⟨rfl, hf.f9⟩
    · rw [if_neg q, (hap.2.2.2 rfl q).1]
      exact rv_T_some.mpr ⟨rfl, hf.f9⟩
theorem ra_isPlace {s G : Nat} {x : Int32} {n m : Nat → Nat} {w : rv_W} (h : ra_Cur s G n m w) : f_X10_isPlace x w = some (rv_b2 (ra_iv x (rv_mn s)), w) := by
  unfold f_X10_isPlace
  rw [h.c0, e_bitCount h.s32, rv_bd_some]
  exact ra_rng (by have := @rv_mn_le s; omega)
theorem q_kemeny (x : Int32) : ra_St (f_X10_kemeny x) (f_X11_kemeny x) := by
  refine ra_mk (fun s G n m => if ra_iv x (rv_mn s) = true then Int32.ofNat (rv_lo (ra_lds (ra_P s (rv_cut 0 G n) m) (ra_gr (ra_P s (rv_cut 0 G n) m) s x.toInt.toNat))) else -1000001) (fun s G n m w h hr => ?_) (fun s G n m w h => ?_)
  · unfold f_X10_kemeny
    rw [ra_isPlace h, rv_bd_some]
    cases hx : ra_iv x (rv_mn s)
    · rw [if_pos ra_e0]
      exact rv_T_some.mpr ⟨rfl, rv_fr.refl, hr⟩
    · obtain ⟨j, hj, rfl⟩ := ra_iv_get hx
      have hmn := @rv_mn_le s
      rw [if_neg ra_e1]
      refine rv_T_call (ra_castAll h.1 hr) (fun _ w2 ⟨hP, hf⟩ => ?_)
      refine rv_T_call (ra_weigh hP) (fun _ w3 ⟨hf3, hk⟩ => ?_)
      have hf3' : rv_fr 53 76 w2 w3 := hf3.wide (by omega) (by omega)
      have hP3 : ra_PQ s (rv_cut 0 G n) m w3 := hP.fr (fun c j _ _ => hf3 c j (by omega))
      rw [ra_candidateAt hP3 hk hj, rv_bd_some]
      exact rv_T_some.mpr ⟨by rw [rv_n_int (by omega)]; rfl, hf.two hf3', hf3'.rows hP.rows⟩
  · unfold f_X11_kemeny
    refine rv_T_call (ra_now (rule := 11) h (by omega)) (fun v w2 ⟨hv, hf, hM, hap⟩ => ?_)
    have hmn := @rv_mn_le s
    have e1 : w2 79 1 = Int32.ofNat s := by rw [hf _ _ (by omega)]; exact h.m1
    have ei : f_X11_in x 0 (Int32.ofNat (rv_mn s) - 1) w2 = _ := ra_in0 (k := rv_mn s) (by omega)
    rw [ra_c852, ra_nn1, e1, e_many h.s32, rv_bd_some, ei, rv_bd_some]
    cases hx : ra_iv x (rv_mn s)
    · rw [if_pos ra_e0]
      exact rv_T_some.mpr ⟨rfl, hf.f9⟩
    · obtain ⟨j, hj, rfl⟩ := ra_iv_get hx
      have hs0 : s ≠ 0 := fun z => by rw [z] at hj; exact Nat.not_lt_zero j (show j < 0 from hj)
      rw [if_neg ra_e1, rv_ck5 (by omega), rv_nn5 (by omega), (hap.2.2.2 rfl hs0).2 j hj, ra_gl_at h.s32 hmn hj]
      exact rv_T_some.mpr ⟨by rw [rv_n_int (by omega)]; rfl, hf.f9⟩
