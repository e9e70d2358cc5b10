theorem q_setVoters (x y : Int32) : ra_St (f_X10_setVoters x y) (f_X11_setVoters x y) := fun w h => by
  obtain ⟨⟨s, G, n, b, hC⟩, _, _, _⟩ := id h
  have hG : G ≤ 20 := hC.1.2.2.2.1
  cases hx : ra_iv x G
  · exact ra_noop h (by unfold f_X10_setVoters; rw [ra_mth hC.1, rv_bd_some, hx, if_pos ra_e0]) (by unfold f_X11_setVoters; rw [ra_mGroup hC.2 hG, rv_bd_some, hx, if_pos ra_e0])
  · have ei : ∀ w, f_X11_in y 1 100 w = _ := fun w => ra_szin (hi := 100) (w := w) (by decide)
    cases hy : ra_sz y 100
    · exact ra_noop h (by unfold f_X10_setVoters; rw [ra_mth hC.1, rv_bd_some, hx, if_neg ra_e1, ra_groupSize, rv_bd_some, hy, if_pos ra_e0]) (by unfold f_X11_setVoters; rw [ra_mGroup hC.2 hG, rv_bd_some, hx, if_neg ra_e1, ei, rv_bd_some, hy, if_pos ra_e0])
    · obtain ⟨k, hk1, hk2, rfl⟩ := ra_sz_get hy
      obtain ⟨g, hg, rfl⟩ := ra_iv_get hx
      refine ra_act (s' := s) (G' := G) (n' := rv_at1 n g k) (b' := b) (A := Int32.ofNat (n g)) h hC (by unfold f_X10_setVoters; rw [ra_mth hC.1, rv_bd_some, hx, if_neg ra_e1, ra_groupSize, rv_bd_some, hy, if_neg ra_e1]) (fun w1 hM => by unfold f_X11_setVoters; rw [ra_mGroup hM hG, rv_bd_some, hx, if_neg ra_e1, ei, rv_bd_some, hy, if_neg ra_e1]) (fun r w1 hS => ?_) (fun r w1 hM => ?_)
      · rw [t_sVoters hS hg, rv_bd_some, t_sBallot hS hg, rv_bd_some, ra_write (by omega), rv_bd_some]
        have hb := hS.2.2.2.2 g hg
        have := hS.wr hg ⟨hk1, hk2⟩ hb.2.2.2
        rw [ra_at1_id (f := b)] at this
        exact rv_T_some.mpr ⟨rfl, this, fun c j z => by rw [rv_up_of (by omega), rv_up_of (by omega)]⟩
      · have es : f_X11_sets (Int32.ofNat g) 0 (Int32.ofNat k) w1 = _ := ra_sets (k := 0) (by omega) (by omega)
        rw [ra_mof0 hM hG hg, rv_bd_some, es, rv_bd_some]
        obtain ⟨h1, h2, h3⟩ := hM
        refine rv_T_some.mpr ⟨rfl, ⟨by rw [rv_up_of (by omega), h1], by rw [rv_up_of (by omega), h2], fun i hi => ?_⟩, fun c j z => by rw [rv_up_of (by omega)]⟩
        obtain ⟨g1, g2, g3⟩ := h3 i hi
        refine ⟨?_, by rw [rv_up_of (by omega), g2], fun k hk hl => by rw [rv_up_of (by omega), g3 k hk hl]⟩
        by_cases e : i = g
        · subst e
          rw [ra_at1_same, show 142 * 0 + 2 + 7 * i = 2 + 7 * i + 0 by omega, rv_up_same]
        · rw [ra_at1_ne e, rv_up_of (by omega), g1]
/-- who stands, set -/
def ra_ss (s c : Nat) (t : Bool) : Nat := if t = true then ra_un (rv_wo s c) (2 ^ c) else rv_wo s c
theorem ra_ss_1 {s c : Nat} (hs : s < 32) (hc : c < 5) : Int32.ofNat (rv_wo s c) ||| ((1 : Int32) <<< (Int32.ofNat c &&& 31)) = Int32.ofNat (ra_ss s c true) ∧ Int32.ofNat (rv_wo s c) = Int32.ofNat (ra_ss s c false) ∧ ra_ss s c true < 32 ∧ ra_ss s c false < 32 ∧ (Int32.ofNat s &&& (((1 : Int32) <<< (Int32.ofNat c &&& 31)) ^^^ (-1 : Int32))) ||| ((1 : Int32) <<< (Int32.ofNat c &&& 31)) = Int32.ofNat (ra_ss s c true) ∧ (Int32.ofNat s &&& (((1 : Int32) <<< (Int32.ofNat c &&& 31)) ^^^ (-1 : Int32))) ||| 0 = Int32.ofNat (ra_ss s c false) ∧ (Int32.ofNat s >>> (Int32.ofNat c &&& 31)) &&& 1 = rv_b2 (rv_hs s c) :=
  of_decide_eq_true (List.all_eq_true.mp (List.all_eq_true.mp (by decide +kernel : ((List.range 32).all fun s => (List.range 5).all fun c => decide (Int32.ofNat (rv_wo s c) ||| ((1 : Int32) <<< (Int32.ofNat c &&& 31)) = Int32.ofNat (ra_ss s c true) ∧ Int32.ofNat (rv_wo s c) = Int32.ofNat (ra_ss s c false) ∧ ra_ss s c true < 32 ∧ ra_ss s c false < 32 ∧ (Int32.ofNat s &&& (((1 : Int32) <<< (Int32.ofNat c &&& 31)) ^^^ (-1 : Int32))) ||| ((1 : Int32) <<< (Int32.ofNat c &&& 31)) = Int32.ofNat (ra_ss s c true) ∧ (Int32.ofNat s &&& (((1 : Int32) <<< (Int32.ofNat c &&& 31)) ^^^ (-1 : Int32))) ||| 0 = Int32.ofNat (ra_ss s c false) ∧ (Int32.ofNat s >>> (Int32.ofNat c &&& 31)) &&& 1 = rv_b2 (rv_hs s c))) = true) s (rv_rg hs)) c (rv_rg hc))
theorem ra_ss_lt {s c : Nat} {t : Bool} (hs : s < 32) (hc : c < 5) : ra_ss s c t < 32 := by
  have h := ra_ss_1 hs hc
  cases t
  · exact h.2.2.2.1
  · exact h.2.2.1
theorem q_setStanding (x y : Int32) : ra_St (f_X10_setStanding x y) (f_X11_setStanding x y) := fun w h => by
  obtain ⟨⟨s, G, n, b, hC⟩, _, _, _⟩ := id h
  have hG : G ≤ 20 := hC.1.2.2.2.1
  have hs : s < 32 := hC.s32
  cases hx : ra_iv x 5
  · exact ra_noop h (by unfold f_X10_setStanding; rw [ra_exists, rv_bd_some, hx, if_pos ra_e0]) (by unfold f_X11_setStanding; rw [ra_isCandidate, rv_bd_some, hx, if_pos ra_e0])
  · obtain ⟨c, hc, rfl⟩ := ra_iv_get hx
    obtain ⟨t1, t2, t3, t4, t5, t6, t7⟩ := ra_ss_1 hs hc
    have hlt := ra_ss_lt (t := !decide (y = 0)) hs hc
    refine ra_act (s' := ra_ss s c (!decide (y = 0))) (G' := G) (n' := n) (b' := b) (A := rv_b2 (rv_hs s c)) h hC (by unfold f_X10_setStanding; rw [ra_exists, rv_bd_some, hx, if_neg ra_e1]) (fun w1 hM => by unfold f_X11_setStanding; rw [ra_isCandidate, rv_bd_some, hx, if_neg ra_e1]) (fun r w1 hS => ?_) (fun r w1 hM => ?_)
    · rw [hS.1, e_hasb hs hc, rv_bd_some, hS.1, e_without hs hc, rv_bd_some, rv_T_jn]
      have hend : ∀ v, v = Int32.ofNat (ra_ss s c (!decide (y = 0))) → rv_T (rv_lt (rv_up w1 1 0 v) (fun (w13 : rv_W) => if rv_b2 (rv_hs s c) = 0 then some ((0 : Int32), w13) else some ((1 : Int32), w13))) (fun v w' => v = rv_b2 (rv_hs s c) ∧ rv_ST 1 (ra_ss s c (!decide (y = 0))) G n b w' ∧ ra_hf w1 w') := fun v hv => by
        subst hv
        have e : (if rv_b2 (rv_hs s c) = 0 then some ((0 : Int32), rv_up w1 1 0 (Int32.ofNat (ra_ss s c (!decide (y = 0))))) else some ((1 : Int32), rv_up w1 1 0 (Int32.ofNat (ra_ss s c (!decide (y = 0)))))) = some (rv_b2 (rv_hs s c), rv_up w1 1 0 (Int32.ofNat (ra_ss s c (!decide (y = 0))))) := by
          cases rv_hs s c
          · rw [if_pos ra_e0]; rfl
          · rw [if_neg ra_e1]; rfl
        rw [rv_T_lt, e]
        obtain ⟨h1, h2, h3, h4, h5⟩ := hS
        refine rv_T_some.mpr ⟨rfl, ⟨rv_up_same, hlt, by rw [rv_up_of (by omega), h3], h4, fun g hg => ?_⟩, fun c' j z => by rw [rv_up_of (by omega)]⟩
        rw [rv_up_of (by omega), rv_up_of (by omega)]
        exact h5 g hg
      by_cases q : y = 0
      · rw [if_pos q]
        exact hend _ (by rw [decide_eq_true q]; exact t2)
      · rw [if_neg q]
        exact hend _ (by rw [decide_eq_false q]; exact t1)
    · have e1 : w1 79 1 = Int32.ofNat s := hM.2.1
      rw [ra_c852, ra_nn1, e1, t7, rv_T_lt, ra_c852, rv_T_jn]
      have hend : ∀ v, v = Int32.ofNat (ra_ss s c (!decide (y = 0))) → rv_T (rv_ck (1 : Int32) 852 (rv_lt (rv_up w1 79 1 v) (fun (w10 : rv_W) => some (rv_b2 (rv_hs s c), w10)))) (fun v w' => v = rv_b2 (rv_hs s c) ∧ ra_MR 0 (ra_ss s c (!decide (y = 0))) G n b w' ∧ ra_kf w1 w') := fun v hv => by
        subst hv
        rw [ra_c852, rv_T_lt]
        obtain ⟨h1, h2, h3⟩ := hM
        refine rv_T_some.mpr ⟨rfl, ⟨by rw [rv_up_of (by omega), h1], rv_up_same, fun i hi => ?_⟩, fun c j z => by rw [rv_up_of (by omega)]⟩
        obtain ⟨g1, g2, g3⟩ := h3 i hi
        exact ⟨by rw [rv_up_of (by omega), g1], by rw [rv_up_of (by omega), g2], fun k hk hl => by rw [rv_up_of (by omega), g3 k hk hl]⟩
      by_cases q : y = 0
      · rw [if_pos q]
        exact hend _ (by rw [decide_eq_true q]; exact t6)
      · rw [if_neg q]
        exact hend _ (by rw [decide_eq_false q]; exact t5)
