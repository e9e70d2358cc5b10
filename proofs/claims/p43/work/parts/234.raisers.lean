/-! raisers -/
def ra_rb (m : Nat → Nat) (s w g : Nat) : Nat := ra_swc (m g) w (ra_da (m g) s w 5)
def ra_rsq (r s G : Nat) (n m : Nat → Nat) (g : Nat) : Bool := decide (s ≠ 0) && (decide (ra_da (m g) s (ra_w r s (rv_cut 0 G n) m) 5 ≠ 5) && decide (ra_w r s (rv_cut 0 G n) (rv_at1 m g (ra_rb m s (ra_w r s (rv_cut 0 G n) m) g)) ≠ ra_w r s (rv_cut 0 G n) m))
theorem e_placeNone {b : Nat} (hb : b ∈ rv_B) (w : rv_W) : f_X0_placeOf (Int32.ofNat b) (-1000000) w = some (-1, w) :=
  rv_un_eq un_X0_placeOf (List.all_eq_true.mp (by decide +kernel : ((rv_B).all fun b => rv_eqr (f_X0_placeOf (Int32.ofNat b) (-1000000) rv_w0) (-1)) = true) b hb)
theorem ra_n_1 {x : Nat} (hx : x < 1000) : (Int32.ofNat x < (1 : Int32)) = (x = 0) := by
  have : Int32.ofNat x < (1 : Int32) ↔ x < 1 := rv_n_lt (j := 1) (by omega) (by omega)
  exact propext (this.trans ⟨fun z => by omega, fun z => by omega⟩)
theorem c_raisers (x : Int32) : ra_Sc (fun s G n m => ra_one x (fun r => ra_gm (ra_rsq r s G n m) G)) (f_X10_raisers x) := by
  intro s G n m w h hr
  dsimp only
  unfold f_X10_raisers
  refine ra_crule (K := fun w2 => rv_bd (f_X10_castAll w2) (fun _ w4 => rv_bd (f_X7_winnerBy x w4) (fun (r5 : Int32) (w6 : rv_W) =>
    rv_fx (fun _ _ _ => none) (fun (ag7 : Int32 → Int32 → rv_W → rv_R) (v9 : Int32) (v10 : Int32) (w11 : rv_W) =>
    if v10 < (w11 1 1) then
    rv_bd (f_X8_ballotOf 1 v10 w11) (fun (r12 : Int32) (w13 : rv_W) =>
    rv_bd (f_X0_within r12 (w13 1 0) w13) (fun (r14 : Int32) (w15 : rv_W) =>
    rv_bd (f_X0_placeOf r14 r5 w15) (fun (r16 : Int32) (w17 : rv_W) =>
    if r16 < (1 : Int32) then
    rv_lt (v10 + (1 : Int32)) (fun (v27 : Int32) =>
    ag7 v9 v27 w17)
    else
    rv_bd (f_X0_exchanged r14 (r16 - (1 : Int32)) w17) (fun (r18 : Int32) (w19 : rv_W) =>
    rv_bd (f_X8_votersOf 1 v10 w19) (fun (r20 : Int32) (w21 : rv_W) =>
    rv_bd (f_X10_winnerWith x v10 r20 r18 w21) (fun (r22 : Int32) (w23 : rv_W) =>
    if r22 = r5 then
    rv_lt (v10 + (1 : Int32)) (fun (v24 : Int32) =>
    ag7 v9 v24 w23)
    else
    rv_lt ((v9 ||| ((1 : Int32) <<< (v10 &&& 31)))) (fun (v25 : Int32) =>
    rv_lt (v10 + (1 : Int32)) (fun (v26 : Int32) =>
    ag7 v25 v26 w23))))))))
    else
    some (v9, w11)) rv_FU (0 : Int32) (0 : Int32) w6))) hr (fun r hr12 hx => ?_)
  subst hx
  have hG := h.G20
  refine rv_T_call (ra_castAll h.1 hr) (fun _ w2 ⟨hP, hf⟩ => ?_)
  refine rv_T_call (ra_winnerBy hP hr12) (fun v w3 ⟨hv, hf3⟩ => ?_)
  subst hv
  refine rv_T_for1 G (fun g a w' => a = ra_gm (ra_rsq r s G n m) g ∧ rv_fr 24 77 w w' ∧ ra_PQ s (rv_cut 0 G n) m w') (fun ag g a w' hg hI q => ?_) (by show G < 10000; omega) 0 _ _ ⟨rfl, hf.two hf3, hP.fr (fun c j _ _ => hf3 c j (by omega))⟩ (by omega)
  obtain ⟨rfl, hf', hP'⟩ := hI
  have hS' := h.1.cl hf'
  rw [hS'.2.2.1]
  by_cases hgG : g < G
  · have hb := h.B hgG
    have hwi := rv_wi_in hb h.s32
    rw [if_pos ((rv_n_lt (by omega) (by omega)).mpr hgG), t_sBallot hS' hgG, rv_bd_some, hS'.1, e_within hb h.s32, rv_bd_some]
    have skip : ra_rsq r s G n m g = false → rv_T (ag (ra_gm (ra_rsq r s G n m) g) (Int32.ofNat (g + 1)) w') (fun v w' => v = ra_gm (ra_rsq r s G n m) G ∧ rv_fr 24 77 w w' ∧ rv_Rows w') := fun e => q hgG _ _ ⟨by rw [ra_gm_s, if_neg (by rw [e]; decide)], hf', hP'⟩
    by_cases hs0 : s = 0
    · rw [ra_wc_0 hs0, e_placeNone hwi, rv_bd_some, if_pos (by decide), rv_T_lt, rv_n_succ]
      exact skip (by unfold ra_rsq; rw [decide_eq_false (fun z => z hs0), Bool.false_and])
    · obtain ⟨hw5, hsw⟩ := ra_w_in (rule := r) (n := rv_cut 0 G n) (m := m) h.s32 hs0
      have F3 := ra_F3 hb h.s32 hw5 hsw
      have hq := rv_q_or (rv_wi (m g) s) (ra_w r s (rv_cut 0 G n) m)
      rw [ra_wc_1 hs0, e_placeOf hwi hw5, rv_bd_some]
      by_cases hda : ra_da (m g) s (ra_w r s (rv_cut 0 G n) m) 5 = 5
      · rw [if_pos hda] at F3
        have e : ra_rsq r s G n m g = false := by unfold ra_rsq; rw [decide_eq_false (p := ra_da (m g) s (ra_w r s (rv_cut 0 G n) m) 5 ≠ 5) (fun z => z hda), Bool.false_and, Bool.and_false]
        have c1 : (if rv_q (rv_wi (m g) s) (ra_w r s (rv_cut 0 G n) m) = 9 then (-1 : Int32) else Int32.ofNat (rv_q (rv_wi (m g) s) (ra_w r s (rv_cut 0 G n) m))) < (1 : Int32) := by
          rcases F3 with z | z
          · rw [if_pos z]; decide
          · rw [if_neg (by omega), ra_n_1 (by omega)]; exact z
        rw [if_pos c1, rv_T_lt, rv_n_succ]
        exact skip e
      · rw [if_neg hda] at F3
        obtain ⟨f1, f2, f3, f4, f5, f6⟩ := F3
        have hl5 := (ra_ln_ok hwi (show 0 < 5 by omega)).2
        have q9 : rv_q (rv_wi (m g) s) (ra_w r s (rv_cut 0 G n) m) ≠ 9 := by omega
        have e1 : Int32.ofNat (rv_q (rv_wi (m g) s) (ra_w r s (rv_cut 0 G n) m)) - (1 : Int32) = Int32.ofNat (rv_q (rv_wi (m g) s) (ra_w r s (rv_cut 0 G n) m) - 1) := by
          rw [Int32.ofNat_sub _ _ (by omega)]; rfl
        rw [if_neg q9, if_neg (by rw [ra_n_1 (by omega)]; exact f1), e1, e_exchanged hwi (by omega), rv_bd_some, t_sVoters hS' hgG, rv_bd_some]
        have hda5 : ra_da (m g) s (ra_w r s (rv_cut 0 G n) m) 5 < 5 := by
          rcases ra_da_le (b := m g) (s := s) (w := ra_w r s (rv_cut 0 G n) m) (k := 5) (by omega) with z | z
          · exact absurd z hda
          · exact z
        have F1 := ra_F1 hb hw5 hda5 f4 f5
        refine rv_T_call (ra_winnerWith (m' := ra_rb m s (ra_w r s (rv_cut 0 G n) m) g) hS' hP' hr12 hgG (h.1.ok g hgG).1 (ra_F2 hwi (by omega) (by omega)).1 (fun _ => ⟨F1.1, f6.symm⟩)) (fun v w4 ⟨hv, hf4, hP4⟩ => ?_)
        subst hv
        have hf4' : rv_fr 24 77 w w4 := hf'.trans (hf4.wide (by omega) (by omega))
        have en : rv_at1 (rv_cut 0 G n) g (n g) = rv_cut 0 G n := by
          have e := ra_cut_g (n := n) hgG
          rw [← e]; exact ra_at1_id
        rw [en, ra_wc_1 hs0]
        have hw2 := (ra_w_in (rule := r) (n := rv_cut 0 G n) (m := rv_at1 m g (ra_rb m s (ra_w r s (rv_cut 0 G n) m) g)) h.s32 hs0).1
        simp only [rv_eq5 hw2 hw5]
        have e : ra_rsq r s G n m g = decide (ra_w r s (rv_cut 0 G n) (rv_at1 m g (ra_rb m s (ra_w r s (rv_cut 0 G n) m) g)) ≠ ra_w r s (rv_cut 0 G n) m) := by
          unfold ra_rsq
          rw [decide_eq_true (p := s ≠ 0) hs0, decide_eq_true (p := ra_da (m g) s (ra_w r s (rv_cut 0 G n) m) 5 ≠ 5) hda, Bool.true_and, Bool.true_and]
        by_cases z : ra_w r s (rv_cut 0 G n) (rv_at1 m g (ra_rb m s (ra_w r s (rv_cut 0 G n) m) g)) = ra_w r s (rv_cut 0 G n) m
        · rw [if_pos z, rv_T_lt, rv_n_succ]
          rw [decide_eq_false (fun y => y z)] at e
          exact q hgG _ _ ⟨by rw [ra_gm_s, if_neg (by rw [e]; decide)], hf4', hP4⟩
        · rw [if_neg z, rv_T_lt, rv_T_lt, rv_n_succ]
          rw [decide_eq_true z] at e
          exact q hgG _ _ ⟨by rw [ra_gm_s, if_pos e], hf4', hP4⟩
  · have : g = G := by omega
    subst this
    rw [if_neg (fun z => hgG ((rv_n_lt (by omega) (by omega)).mp z))]
    exact rv_T_some.mpr ⟨rfl, hf', hP'.rows⟩
