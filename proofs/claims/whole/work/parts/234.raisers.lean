/-! raisers -/
def ra_rb (m : Nat → Nat) (s w g : Nat) : Nat := ra_swc (m g) w (ra_da (m g) s w 5)
def ra_rsq (r s G : Nat) (n m : Nat → Nat) (g : Nat) : Bool := decide (s ≠ 0) && (decide (ra_da (m g) s (ra_w r s (rv_cut 0 G n) m) 5 ≠ 5) && decide (ra_w r s (rv_cut 0 G n) (rv_at1 m g (ra_rb m s (ra_w r s (rv_cut 0 G n) m) g)) ≠ ra_w r s (rv_cut 0 G n) m))
theorem e_placeNone {b : Nat} (hb : b ∈ rv_B) (w : rv_W) : f_X0_placeOf (Int32.ofNat b) (-1000000) w = some (-1, w) :=
  rv_un_eq un_X0_placeOf (List.all_eq_true.mp (by decide +kernel : ((rv_B).all fun b => rv_eqr (f_X0_placeOf (Int32.ofNat b) (-1000000) rv_w0) (-1)) = true) b hb)
theorem ra_n_1 {x : Nat} (hx : x < 1000) : (Int32.ofNat x < (1 : Int32)) = (x = 0) := by
  have : Int32.ofNat x < (1 : Int32) ↔ x < 1 := rv_n_lt (j := 1) (by omega) (by omega)
  exact propext (this.trans ⟨fun z => by omega, fun z => by omega⟩)
theorem ra_directlyAbove {s G g x : Nat} {n m n' : Nat → Nat} {w : rv_W} (hC : ra_Cur s G n m w) (h : ra_MP G n' m w) (hg : g < G) (hx : x < 5) : f_X11_directlyAbove (Int32.ofNat g) (Int32.ofNat x) w = some (ra_n5 (ra_da (m g) s x 5), w) := by
  unfold f_X11_directlyAbove
  refine rv_E1 5 (fun k => ra_n5 (ra_da (m g) s x k)) (fun _ => w) _ _ rfl rfl (fun ag k hk => ?_) (fun ag => ?_) (by decide)
  · have hle : ra_da (m g) s x k ≤ 5 := by
      rcases ra_da_le (b := m g) (s := s) (w := x) (k := k) (by omega) with e | e
      · omega
      · omega
    have es := @ra_da_s (m g) s x k
    have n5k : ra_n5 k = Int32.ofNat k := if_neg (by omega)
    simp only [rv_lt5 hk, if_true, ra_c852, ra_nn1, hC.m1, e_mhasb hC.s32 hk, rv_bd_some, rv_b2_0, rv_lt, rv_jn, rv_n_succ, ra_isOn h hg hx, ra_isAbove h hg hk hx, ra_n5_neg hle]
    cases h1 : rv_hs s k
    · rw [if_neg (fun z => by rw [h1, Bool.false_and] at z; cases z.1)] at es
      rw [es]
      simp
    · cases h2 : decide (rv_q (m g) x < 9)
      · rw [if_neg (fun z => by rw [h1, h2, Bool.false_and, Bool.and_false] at z; cases z.1)] at es
        rw [es]
        simp
      · cases h3 : decide (rv_q (m g) k < rv_q (m g) x)
        · rw [if_neg (fun z => by rw [h1, h2, h3, Bool.and_false, Bool.and_false] at z; cases z.1)] at es
          rw [es]
          simp
        · have hc : (rv_hs s k && (decide (rv_q (m g) x < 9) && decide (rv_q (m g) k < rv_q (m g) x))) = true := by rw [h1, h2, h3]; rfl
          simp only [Bool.true_eq_false, if_false]
          rw [if_neg (by decide)]
          by_cases h4 : ra_da (m g) s x k = 5
          · rw [if_pos ⟨hc, Or.inl h4⟩] at es
            rw [if_pos h4, es, n5k]
          · rw [if_neg h4]
            have h5 : ra_da (m g) s x k < 5 := by omega
            have en : ra_n5 (ra_da (m g) s x k) = Int32.ofNat (ra_da (m g) s x k) := if_neg h4
            rw [en, ra_isAbove h hg h5 hk, rv_bd_some]
            simp only [rv_b2_0]
            by_cases h6 : rv_q (m g) (ra_da (m g) s x k) < rv_q (m g) k
            · rw [if_pos ⟨hc, Or.inr h6⟩] at es
              rw [decide_eq_true h6, if_neg (by decide), es, n5k]
            · rw [if_neg (fun z => z.2.elim h4 h6)] at es
              rw [decide_eq_false h6, if_pos rfl, es, en]
  · rw [if_neg (by decide)]
theorem q_raisers (x : Int32) : ra_St (f_X10_raisers x) (f_X11_raisers x) := by
  refine ra_mk (fun s G n m => ra_one x (fun r => ra_gm (ra_rsq r s G n m) G)) (fun s G n m w h hr => ?_) (fun s G n m w h => ?_)
  · unfold f_X10_raisers
    refine ra_crule (K := fun w2 => rv_bd (f_X10_castAll w2) (fun _ w4 => rv_bd (f_X7_winnerBy x w4) (fun (r5 : Int32) (w6 : rv_W) =>
      rv_fx (fun _ _ _ => none) (fun (ag7 : Int32 → Int32 → rv_W → rv_R) (v9 : Int32) (v10 : Int32) (w11 : rv_W) =>
      if v10 < (w11 1 1) then
      rv_bd (f_X8_ballotOf 1 v10 w11) (fun (r12 : Int32) (w13 : rv_W) =>
      rv_bd (f_X0_within r12 (w13 1 0) w13) (fun (r14 : Int32) (w15 : rv_W) =>
      rv_bd (f_X0_placeOf r14 r5 w15) (fun (r16 : Int32) (w17 : rv_W) =>
      if r16 < (1 : Int32) then
      rv_lt (v10 + (1 : Int32)) (fun (v27 : Int32) =>
      ag7 v9 v27 w17)
      else
      rv_bd (f_X0_exchanged r14 (r16 - (1 : Int32)) w17) (fun (r18 : Int32) (w19 : rv_W) =>
      rv_bd (f_X8_votersOf 1 v10 w19) (fun (r20 : Int32) (w21 : rv_W) =>
      rv_bd (f_X10_winnerWith x v10 r20 r18 w21) (fun (r22 : Int32) (w23 : rv_W) =>
      if r22 = r5 then
      rv_lt (v10 + (1 : Int32)) (fun (v24 : Int32) =>
      ag7 v9 v24 w23)
      else
      rv_lt ((v9 ||| ((1 : Int32) <<< (v10 &&& 31)))) (fun (v25 : Int32) =>
      rv_lt (v10 + (1 : Int32)) (fun (v26 : Int32) =>
      ag7 v25 v26 w23))))))))
      else
      some (v9, w11)) rv_FU (0 : Int32) (0 : Int32) w6))) hr (fun r hr12 hx => ?_)
    subst hx
    have hG := h.G20
    refine rv_T_call (ra_castAll h.1 hr) (fun _ w2 ⟨hP, hf⟩ => ?_)
    refine rv_T_call (ra_winnerBy hP hr12) (fun v w3 ⟨hv, hf3⟩ => ?_)
    subst hv
    refine rv_T_for1 G (fun g a w' => a = ra_gm (ra_rsq r s G n m) g ∧ rv_fr 24 77 w w' ∧ ra_PQ s (rv_cut 0 G n) m w') (fun ag g a w' hg hI q => ?_) (by show G < 10000; omega) 0 _ _ ⟨rfl, hf.two hf3, hP.fr (fun c j _ _ => hf3 c j (by omega))⟩ (by omega)
    obtain ⟨rfl, hf', hP'⟩ := hI
    have hS' := h.1.cl hf'
    rw [hS'.2.2.1]
    by_cases hgG : g < G
    · have hb := h.B hgG
      have hwi := rv_wi_in hb h.s32
      rw [if_pos ((rv_n_lt (by omega) (by omega)).mpr hgG), t_sBallot hS' hgG, rv_bd_some, hS'.1, e_within hb h.s32, rv_bd_some]
      have skip : ra_rsq r s G n m g = false → rv_T (ag (ra_gm (ra_rsq r s G n m) g) (Int32.ofNat (g + 1)) w') (fun v w' => v = ra_gm (ra_rsq r s G n m) G ∧ rv_fr 24 77 w w' ∧ rv_Rows w') := fun e => q hgG _ _ ⟨by rw [ra_gm_s, if_neg (by rw [e]; decide)], hf', hP'⟩
      by_cases hs0 : s = 0
      · rw [ra_wc_0 hs0, e_placeNone hwi, rv_bd_some, if_pos (by decide), rv_T_lt, rv_n_succ]
        exact skip (by unfold ra_rsq; rw [decide_eq_false (fun z => z hs0), Bool.false_and])
      · obtain ⟨hw5, hsw⟩ := ra_w_in (rule := r) (n := rv_cut 0 G n) (m := m) h.s32 hs0
        have F3 := ra_F3 hb h.s32 hw5 hsw
        have hq := rv_q_or (rv_wi (m g) s) (ra_w r s (rv_cut 0 G n) m)
        rw [ra_wc_1 hs0, e_placeOf hwi hw5, rv_bd_some]
        by_cases hda : ra_da (m g) s (ra_w r s (rv_cut 0 G n) m) 5 = 5
        · rw [if_pos hda] at F3
          have e : ra_rsq r s G n m g = false := by unfold ra_rsq; rw [decide_eq_false (p := ra_da (m g) s (ra_w r s (rv_cut 0 G n) m) 5 ≠ 5) (fun z => z hda), Bool.false_and, Bool.and_false]
          have c1 : (if rv_q (rv_wi (m g) s) (ra_w r s (rv_cut 0 G n) m) = 9 then (-1 : Int32) else Int32.ofNat (rv_q (rv_wi (m g) s) (ra_w r s (rv_cut 0 G n) m))) < (1 : Int32) := by
            rcases F3 with z | z
            · rw [if_pos z]; decide
            · rw [if_neg (by omega), ra_n_1 (by omega)]; exact z
          rw [if_pos c1, rv_T_lt, rv_n_succ]
          exact skip e
        · rw [if_neg hda] at F3
          obtain ⟨f1, f2, f3, f4, f5, f6⟩ := F3
          have hl5 := (ra_ln_ok hwi (show 0 < 5 by omega)).2
          have q9 : rv_q (rv_wi (m g) s) (ra_w r s (rv_cut 0 G n) m) ≠ 9 := by omega
          have e1 : Int32.ofNat (rv_q (rv_wi (m g) s) (ra_w r s (rv_cut 0 G n) m)) - (1 : Int32) = Int32.ofNat (rv_q (rv_wi (m g) s) (ra_w r s (rv_cut 0 G n) m) - 1) := by
            rw [Int32.ofNat_sub _ _ (by omega)]; rfl
          rw [if_neg q9, if_neg (by rw [ra_n_1 (by omega)]; exact f1), e1, e_exchanged hwi (by omega), rv_bd_some, t_sVoters hS' hgG, rv_bd_some]
          have hda5 : ra_da (m g) s (ra_w r s (rv_cut 0 G n) m) 5 < 5 := by
            rcases ra_da_le (b := m g) (s := s) (w := ra_w r s (rv_cut 0 G n) m) (k := 5) (by omega) with z | z
            · exact absurd z hda
            · exact z
          have F1 := ra_F1 hb hw5 hda5 f4 f5
          refine rv_T_call (ra_winnerWith (m' := ra_rb m s (ra_w r s (rv_cut 0 G n) m) g) hS' hP' hr12 hgG (h.1.ok g hgG).1 (ra_F2 hwi (by omega) (by omega)).1 (fun _ => ⟨F1.1, f6.symm⟩)) (fun v w4 ⟨hv, hf4, hP4⟩ => ?_)
          subst hv
          have hf4' : rv_fr 24 77 w w4 := hf'.trans (hf4.wide (by omega) (by omega))
          have en : rv_at1 (rv_cut 0 G n) g (n g) = rv_cut 0 G n := by
            have e := ra_cut_g (n := n) hgG
            rw [← e]; exact ra_at1_id
          rw [en, ra_wc_1 hs0]
          have hw2 := (ra_w_in (rule := r) (n := rv_cut 0 G n) (m := rv_at1 m g (ra_rb m s (ra_w r s (rv_cut 0 G n) m) g)) h.s32 hs0).1
          simp only [rv_eq5 hw2 hw5]
          have e : ra_rsq r s G n m g = decide (ra_w r s (rv_cut 0 G n) (rv_at1 m g (ra_rb m s (ra_w r s (rv_cut 0 G n) m) g)) ≠ ra_w r s (rv_cut 0 G n) m) := by
            unfold ra_rsq
            rw [decide_eq_true (p := s ≠ 0) hs0, decide_eq_true (p := ra_da (m g) s (ra_w r s (rv_cut 0 G n) m) 5 ≠ 5) hda, Bool.true_and, Bool.true_and]
          by_cases z : ra_w r s (rv_cut 0 G n) (rv_at1 m g (ra_rb m s (ra_w r s (rv_cut 0 G n) m) g)) = ra_w r s (rv_cut 0 G n) m
          · rw [if_pos z, rv_T_lt, rv_n_succ]
            rw [decide_eq_false (fun y => y z)] at e
            exact q hgG _ _ ⟨by rw [ra_gm_s, if_neg (by rw [e]; decide)], hf4', hP4⟩
          · rw [if_neg z, rv_T_lt, rv_T_lt, rv_n_succ]
            rw [decide_eq_true z] at e
            exact q hgG _ _ ⟨by rw [ra_gm_s, if_pos e], hf4', hP4⟩
    · have : g = G := by omega
      subst this
      rw [if_neg (fun z => hgG ((rv_n_lt (by omega) (by omega)).mp z))]
      exact rv_T_some.mpr ⟨rfl, hf', hP'.rows⟩
  · unfold f_X11_raisers
    refine ra_mrule (K := fun w2 => rv_bd (f_X11_now x w2) (fun (r3 : Int32) (w4 : rv_W) =>
      rv_fx (fun _ _ _ => none) (fun (ag5 : Int32 → Int32 → rv_W → rv_R) (v7 : Int32) (v8 : Int32) (w9 : rv_W) =>
      if v8 < (w9 78 6) then
      if r3 < 0 then
      some (v7, w9)
      else
      rv_bd (f_X11_directlyAbove v8 r3 w9) (fun (r10 : Int32) (w11 : rv_W) =>
      if r10 < 0 then
      rv_lt (v8 + (1 : Int32)) (fun (v12 : Int32) =>
      ag5 v7 v12 w11)
      else
      rv_ck (((5 : Int32) * v8) + r3) 100 (
      rv_ck (((5 : Int32) * v8) + r10) 100 (
      rv_ck (((5 : Int32) * v8) + r3) 100 (rv_lt (rv_up w11 82 (((5 : Int32) * v8) + r3).toNatClampNeg (w11 82 (((5 : Int32) * v8) + r10).toNatClampNeg)) (fun (w13 : rv_W) =>
      rv_ck (((5 : Int32) * v8) + r10) 100 (rv_lt (rv_up w13 82 (((5 : Int32) * v8) + r10).toNatClampNeg (w11 82 (((5 : Int32) * v8) + r3).toNatClampNeg)) (fun (w14 : rv_W) =>
      rv_ck (1 : Int32) 852 (
      rv_bd (f_X11_wins x (w14 79 (1 : Int32).toNatClampNeg) w14) (fun (r15 : Int32) (w16 : rv_W) =>
      rv_jn (fun (v17 : Int32) (w18 : rv_W) =>
      rv_lt ((v7 ||| v17)) (fun (v21 : Int32) =>
      rv_bd (f_X11_loadsBallot v8 w18) (fun (r22 : Int32) (w23 : rv_W) =>
      rv_lt (v8 + (1 : Int32)) (fun (v24 : Int32) =>
      ag5 v21 v24 w23)))) (fun (k19 : Int32 → rv_W → rv_R) =>
      if r15 = r3 then
      k19 (0 : Int32) w16
      else
      k19 ((1 : Int32) <<< (v8 &&& 31)) w16))))))))))
      else
      some (v7, w9)) rv_FU (0 : Int32) (0 : Int32) w4)) (fun r hr12 hx => ?_)
    subst hx
    have hG := h.G20
    refine rv_T_call (ra_now h hr12) (fun v w2 ⟨hv, hf, hM, _⟩ => ?_)
    subst hv
    refine rv_T_for1 G (fun g a w' => a = ra_gm (ra_rsq r s G n m) g ∧ ra_f9 w w' ∧ ra_MP G (rv_cut 0 G n) m w') (fun ag g a w' hg hI q => ?_) (by show G < 10000; omega) 0 _ _ ⟨rfl, hf.f9, hM⟩ (by omega)
    obtain ⟨rfl, hf', hM'⟩ := hI
    rw [hM'.1]
    simp only [ra_wm_neg h.s32]
    by_cases hgG : g < G
    · rw [if_pos ((rv_n_lt (by omega) (by omega)).mpr hgG)]
      by_cases hs0 : s = 0
      · rw [if_pos hs0]
        refine rv_T_some.mpr ⟨?_, hf'⟩
        have z : ∀ j, ra_rsq r s G n m j = false := fun j => by unfold ra_rsq; rw [decide_eq_false (fun z => z hs0), Bool.false_and]
        rw [ra_gm_z (fun j _ => z j), ra_gm_z (fun j _ => z j)]
      · obtain ⟨hw5, hsw⟩ := ra_w_in (rule := r) (n := rv_cut 0 G n) (m := m) h.s32 hs0
        have hb := h.B hgG
        have hC' := h.f9 hf'
        have F3 := ra_F3 hb h.s32 hw5 hsw
        rw [if_neg hs0, ra_wm_1 hs0, ra_directlyAbove hC' hM' hgG hw5, rv_bd_some]
        have hle := ra_da_le (b := m g) (s := s) (w := ra_w r s (rv_cut 0 G n) m) (k := 5) (by omega)
        simp only [ra_n5_neg (show ra_da (m g) s (ra_w r s (rv_cut 0 G n) m) 5 ≤ 5 by omega)]
        by_cases hda : ra_da (m g) s (ra_w r s (rv_cut 0 G n) m) 5 = 5
        · have e : ra_rsq r s G n m g = false := by unfold ra_rsq; rw [decide_eq_false (p := ra_da (m g) s (ra_w r s (rv_cut 0 G n) m) 5 ≠ 5) (fun z => z hda), Bool.false_and, Bool.and_false]
          rw [if_pos hda, rv_T_lt, rv_n_succ]
          exact q hgG _ _ ⟨by rw [ra_gm_s, if_neg (by rw [e]; decide)], hf', hM'⟩
        · rw [if_neg hda] at F3
          obtain ⟨f1, f2, f3, f4, f5, f6⟩ := F3
          have hda5 := hle.resolve_left hda
          have F1 := ra_F1 hb hw5 hda5 f4 f5
          have en5 : ra_n5 (ra_da (m g) s (ra_w r s (rv_cut 0 G n) m) 5) = Int32.ofNat (ra_da (m g) s (ra_w r s (rv_cut 0 G n) m) 5) := if_neg hda
          have i1 : 5 * g + ra_w r s (rv_cut 0 G n) m < 100 := by omega
          have i2 : 5 * g + ra_da (m g) s (ra_w r s (rv_cut 0 G n) m) 5 < 100 := by omega
          rw [if_neg hda, en5, ra_ix5, ra_ix5, rv_n_ck i1 (by decide), rv_n_ck i2 (by decide), rv_n_ck i1 (by decide), rv_nn i1 (by decide), rv_nn i2 (by decide), rv_T_lt, rv_n_ck i2 (by decide), rv_T_lt, ra_c852, ra_nn1]
          obtain ⟨-, -, m3, -⟩ := id hM'
          obtain ⟨g1, g2, g3⟩ := m3 g hgG
          have hM2 : ra_MP G (rv_cut 0 G n) (rv_at1 m g (ra_rb m s (ra_w r s (rv_cut 0 G n) m) g)) (rv_up (rv_up w' 82 (5 * g + ra_w r s (rv_cut 0 G n) m) (w' 82 (5 * g + ra_da (m g) s (ra_w r s (rv_cut 0 G n) m) 5))) 82 (5 * g + ra_da (m g) s (ra_w r s (rv_cut 0 G n) m) 5) (w' 82 (5 * g + ra_w r s (rv_cut 0 G n) m))) := by
            refine hM'.upm F1.1 (fun c j z => by rw [rv_up_of (by omega), rv_up_of (by omega)]) (fun c hc => ?_)
            show _ = Int32.ofNat (rv_q (ra_swc (m g) (ra_w r s (rv_cut 0 G n) m) (ra_da (m g) s (ra_w r s (rv_cut 0 G n) m) 5)) c)
            rw [F1.2 c hc]
            by_cases z1 : c = ra_da (m g) s (ra_w r s (rv_cut 0 G n) m) 5
            · rw [if_pos z1, z1, rv_up_same, g3 _ hw5]
            · rw [if_neg z1, rv_up_of (by omega)]
              by_cases z2 : c = ra_w r s (rv_cut 0 G n) m
              · rw [if_pos z2, z2, rv_up_same, g3 _ hda5]
              · rw [if_neg z2, rv_up_of (by omega), g3 c hc]
          have hf2 : ra_f9 w (rv_up (rv_up w' 82 (5 * g + ra_w r s (rv_cut 0 G n) m) (w' 82 (5 * g + ra_da (m g) s (ra_w r s (rv_cut 0 G n) m) 5))) 82 (5 * g + ra_da (m g) s (ra_w r s (rv_cut 0 G n) m) 5) (w' 82 (5 * g + ra_w r s (rv_cut 0 G n) m))) := fun c j z => by rw [rv_up_ne (by omega), rv_up_ne (by omega), hf' c j z]
          rw [(h.f9 hf2).m1]
          refine rv_T_call (ra_wins hM2 h.s32 hr12) (fun v w3 ⟨hv, hf3, _⟩ => ?_)
          subst hv
          have hM3 := hf3.MP hM2
          have hf3' : ra_f9 w w3 := hf2.trans hf3.f9
          have hC3 := h.f9 hf3'
          have hw2 := (ra_w_in (rule := r) (n := rv_cut 0 G n) (m := rv_at1 m g (ra_rb m s (ra_w r s (rv_cut 0 G n) m) g)) h.s32 hs0).1
          have e : ra_rsq r s G n m g = decide (ra_w r s (rv_cut 0 G n) (rv_at1 m g (ra_rb m s (ra_w r s (rv_cut 0 G n) m) g)) ≠ ra_w r s (rv_cut 0 G n) m) := by
            unfold ra_rsq
            rw [decide_eq_true (p := s ≠ 0) hs0, decide_eq_true (p := ra_da (m g) s (ra_w r s (rv_cut 0 G n) m) 5 ≠ 5) hda, Bool.true_and, Bool.true_and]
          rw [ra_wm_1 hs0, rv_T_jn]
          simp only [rv_eq5 hw2 hw5]
          have hend : ∀ a', a' = ra_gm (ra_rsq r s G n m) (g + 1) → rv_T (rv_bd (f_X11_loadsBallot (Int32.ofNat g) w3) (fun (r22 : Int32) (w23 : rv_W) =>
              rv_lt (Int32.ofNat g + (1 : Int32)) (fun (v24 : Int32) =>
              ag a' v24 w23))) (fun v w' => v = ra_gm (ra_rsq r s G n m) G ∧ ra_f9 w w') := fun a' ha' => by
            refine rv_T_call (ra_loadsBallot hC3.2 hG hgG hb) (fun _ w4 ⟨hf4, hq4⟩ => ?_)
            rw [rv_T_lt, rv_n_succ]
            have hM4 := hM3.upm hb hf4 hq4
            rw [ra_at1_at1, ra_at1_id] at hM4
            exact q hgG _ _ ⟨ha', fun c j z => by rw [hf4 c j (by omega), hf3' c j z], hM4⟩
          by_cases z : ra_w r s (rv_cut 0 G n) (rv_at1 m g (ra_rb m s (ra_w r s (rv_cut 0 G n) m) g)) = ra_w r s (rv_cut 0 G n) m
          · rw [if_pos z]
            rw [decide_eq_false (fun y => y z)] at e
            exact hend (ra_gm (ra_rsq r s G n m) g ||| 0) (by rw [ra_gm_s, if_neg (by rw [e]; decide), rv_or0])
          · rw [if_neg z]
            rw [decide_eq_true z] at e
            exact hend _ (by rw [ra_gm_s, if_pos e])
    · have : g = G := by omega
      subst this
      rw [if_neg (fun z => hgG ((rv_n_lt (by omega) (by omega)).mp z))]
      exact rv_T_some.mpr ⟨rfl, hf'⟩
