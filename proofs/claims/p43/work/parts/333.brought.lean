/-! the law's fourth check: a strategy brings what was told -/
theorem rq_hK {K : Nat} (hK : K ≤ 5) : 1 ≤ ra_hK K ∧ ra_hK K ≤ 5 := by
  unfold ra_hK
  split <;> omega
theorem rq_top {K : Nat} {d : Nat → ra_R} {x : ra_R} (hK : K ≤ 5) : ra_hD K d x (ra_hK K - 1) = x := by
  unfold ra_hD ra_hK
  by_cases q : K < 5
  · rw [if_pos q, if_pos q, Nat.add_sub_cancel, ra_at1_same]
  · rw [if_neg q, if_neg q]
    exact if_neg (by decide)
theorem rq_below {K : Nat} {d : Nat → ra_R} {x : ra_R} (hK : K ≤ 5) (h1 : 1 ≤ K) : 2 ≤ ra_hK K ∧ ra_hD K d x (ra_hK K - 2) = d (K - 1) := by
  unfold ra_hD ra_hK
  by_cases q : K < 5
  · rw [if_pos q, if_pos q, ra_at1_ne (by omega)]
    exact ⟨by omega, by congr 1⟩
  · rw [if_neg q, if_neg q]
    have : K = 5 := by omega
    subst this
    exact ⟨by omega, if_pos (by decide)⟩
/-- undo, where the state below is known -/
theorem rq_undo {K s G s' G' : Nat} {d : Nat → ra_R} {n b n' b' : Nat → Nat} {w : rv_W} (h : rc_I K d s G n b w) (h1 : 1 ≤ K) (e : d (K - 1) = ra_R.mk s' G' n' b') : rv_T (f_X10_undo w) (fun v w' => v = Int32.ofNat (K - 1) ∧ rc_I (K - 1) d s' G' n' b' w') := by
  obtain ⟨k, rfl⟩ : ∃ k, K = k + 1 := ⟨K - 1, by omega⟩
  rw [Nat.add_sub_cancel] at e ⊢
  refine (rc_undo h).mono (fun v w' ⟨h2, h3⟩ => ⟨h2, ?_⟩)
  rw [e] at h3
  exact h3
theorem rc_K {K : Nat} {d : Nat → ra_R} {s G : Nat} {n b : Nat → Nat} {w : rv_W} (h : rc_I K d s G n b w) : K ≤ 5 := h.2.2.1.1
/-- a ballot's digits, read again -/
theorem rq_again {r : Nat} (hr : r ∈ rv_B) (h0 : r ≠ 0) : ra_bl (Int32.ofNat (ra_td r (rv_ln r))) ≠ [] ∧ ra_oc (ra_bl (Int32.ofNat (ra_td r (rv_ln r)))) = r := by
  have t := List.all_eq_true.mp (by decide +kernel : ((rv_B).all fun r => Nat.beq r 0 || (decide (ra_bl (Int32.ofNat (ra_td r (rv_ln r))) ≠ []) && Nat.beq (ra_oc (ra_bl (Int32.ofNat (ra_td r (rv_ln r))))) r)) = true) r hr
  rw [show Nat.beq r 0 = false from Bool.eq_false_iff.mpr (fun z => h0 (Nat.eq_of_beq_eq_true z)), Bool.false_or, Bool.and_eq_true, decide_eq_true_eq] at t
  exact ⟨t.1, Nat.eq_of_beq_eq_true t.2⟩
theorem rq_take {l : List Nat} {i : Nat} (h : i < l.length) : l.take (i + 1) = l.take i ++ [ra_gd l i] := by
  induction l generalizing i with
  | nil => exact absurd h (Nat.not_lt_zero _)
  | cons a l ih =>
    cases i with
    | zero => rfl
    | succ i =>
      have := ih (i := i) (by simpa using h)
      rw [List.take_succ_cons, List.take_succ_cons, this]
      rfl
theorem rq_ps_len {s : Nat} {l : List Nat} (hs : s < 32) (h0 : s ≠ 0) (hl : l ∈ ra_ps 5 s) : l.length = rv_mn s := ((ra_pms_ok hs h0).2 l hl).1
set_option maxHeartbeats 8000000 in
set_option maxRecDepth 100000 in
theorem rq_brought {K : Nat} {d : Nat → ra_R} {s G r g : Nat} {n b : Nat → Nat} {w : rv_W} (h : rc_I K d s G n b w) (hr : r < 12) (hg : g < G) : rv_T (f_L_isBrought (Int32.ofNat r) (Int32.ofNat g) w) (fun v w' => v = 1 ∧ ∃ K' d', rc_I K' d' s G n b w') := by
  have hs := rc_s h
  have hG := rc_G h
  have hmn := @rv_mn_le s
  obtain ⟨⟨hn1, hn2⟩, hB, hB0⟩ := rq_G h hg
  unfold f_L_isBrought
  refine rc_q (c_strategy _ _) h (fun w1 h1 => ?_)
  rw [rq_rg hr hg hG]
  by_cases hF : (ra_F r s G n b g).2 = []
  · have e1 : ra_sA r s G n b g = -1000000 := if_pos hF
    rw [e1, if_pos rfl]
    exact rv_T_some.mpr ⟨rfl, K, d, h1⟩
  · have e1 : ra_sA r s G n b g = Int32.ofNat (ra_F r s G n b g).1 := if_neg hF
    obtain ⟨h0, f5, fps, fw⟩ := ra_F_5 (r := r) (n := n) (m := b) (g := g) hs hF
    have hlen := rq_ps_len hs h0 fps
    rw [e1, if_neg (by rw [rq_m1 (by omega)]; exact fun z => z)]
    refine rv_T_for1 (rv_mn s) (fun i v w' => v = Int32.ofNat (ra_dcr ((ra_F r s G n b g).2.take i) 0) ∧ rc_I K d s G n b w') (fun ag i v w2 hi hI q => ?_) (by show rv_mn s < 10000; omega) 0 _ _ ⟨rfl, h1⟩ (by omega)
    obtain ⟨rfl, h2⟩ := hI
    refine rc_q c_standing h2 (fun w3 h3 => ?_)
    rw [e_bits hs, rv_bd_some]
    by_cases hlt : i < rv_mn s
    · rw [if_pos ((rv_n_lt (by omega) (by omega)).mpr hlt)]
      refine rc_q (c_strategyAt _ _ _) h3 (fun w4 h4 => ?_)
      have e2 : ra_sB r s G n b g i = Int32.ofNat (ra_gd (ra_F r s G n b g).2 i) := if_neg hF
      rw [rq_rg hr hg hG, ra_iv_nat hlt (by omega), if_pos rfl, ra_toN (by omega), e2, rv_T_lt, rv_T_lt, rv_n_succ]
      refine q hlt _ _ ⟨?_, h4⟩
      rw [rq_take (by omega), rl_dcr_snoc, Int32.ofNat_add, Int32.ofNat_mul, Int32.ofNat_add, ← Int32.add_assoc]
      rfl
    · have : i = rv_mn s := by omega
      subst this
      rw [if_neg (fun z => hlt ((rv_n_lt (by omega) (by omega)).mp z))]
      have etk : (ra_F r s G n b g).2.take (rv_mn s) = (ra_F r s G n b g).2 := List.take_of_length_le (by omega)
      rw [etk]
      have hbl := (rl_digits hs fps).1
      refine rc_q (c_voters _) h3 (fun w4 h4 => ?_)
      refine rc_q (c_ballot _) h4 (fun w5 h5 => ?_)
      refine rc_q (c_winner _) h5 (fun w6 h6 => ?_)
      rw [ra_iv_nat hg (by omega), if_pos rfl, if_pos rfl, ra_toN (by omega), ra_one_ok hr]
      have K0 := rc_K h6
      refine rv_T_call (rc_removeGroup h6 hg) (fun v18 w7 ⟨_, h7⟩ => ?_)
      have K1 := rq_hK K0
      have T1 := rq_top (d := d) (x := ra_R.mk s G n b) K0
      generalize ra_hK K = k1 at h7 K1 T1
      generalize ra_hD K d (ra_R.mk s G n b) = d1 at h7 T1
      obtain ⟨a1, a2⟩ := rq_again hB hB0
      refine rv_T_call (rc_addGroup h7 (by omega) ⟨hn1, hn2⟩ a1) (fun v20 w8 ⟨_, h8⟩ => ?_)
      rw [a2] at h8
      obtain ⟨B2, C2⟩ := rq_below (d := d1) (x := ra_R.mk s (G - 1) (ra_sh g n) (ra_sh g b)) K1.2 K1.1
      have T2 := rq_top (d := d1) (x := ra_R.mk s (G - 1) (ra_sh g n) (ra_sh g b)) K1.2
      have K2 := rq_hK K1.2
      generalize ra_hK k1 = k2 at h8 B2 C2 T2 K2
      generalize ra_hD k1 d1 (ra_R.mk s (G - 1) (ra_sh g n) (ra_sh g b)) = d2 at h8 C2 T2
      rw [T1] at C2
      refine rc_q (c_winner _) h8 (fun w9 h9 => ?_)
      have ew : ∀ x, ra_wc r s (rv_cut 0 (G - 1 + 1) (rv_at1 (ra_sh g n) (G - 1) (n g))) (rv_at1 (ra_sh g b) (G - 1) x) = ra_wc r s (rv_cut 0 G n) (rv_at1 b g x) := fun x => by
        rw [show G - 1 + 1 = G by omega]
        exact (rp_turn hG hg).wc
      rw [ra_one_ok hr, ew, ra_at1_id, if_pos rfl]
      refine rv_T_call (rq_undo h9 (by omega) T2) (fun v24 w10 ⟨_, h10⟩ => ?_)
      refine rv_T_call (rc_addGroup h10 (by omega) ⟨hn1, hn2⟩ (by rw [hbl]; exact hF)) (fun v26 w11 ⟨_, h11⟩ => ?_)
      rw [hbl] at h11
      obtain ⟨B3, C3⟩ := rq_below (K := k2 - 1) (d := d2) (x := ra_R.mk s (G - 1) (ra_sh g n) (ra_sh g b)) (by omega) (by omega)
      have T3 := rq_top (K := k2 - 1) (d := d2) (x := ra_R.mk s (G - 1) (ra_sh g n) (ra_sh g b)) (by omega)
      have K3 := rq_hK (K := k2 - 1) (by omega)
      generalize ra_hK (k2 - 1) = k3 at h11 B3 C3 T3 K3
      generalize ra_hD (k2 - 1) d2 (ra_R.mk s (G - 1) (ra_sh g n) (ra_sh g b)) = d3 at h11 C3 T3
      rw [show k2 - 1 - 1 = k2 - 2 by omega, C2] at C3
      refine rc_q (c_winner _) h11 (fun w12 h12 => ?_)
      rw [ra_one_ok hr, ew, ra_wc_1 h0, fw, if_pos rfl]
      refine rv_T_call (rq_undo h12 (by omega) T3) (fun v30 w13 ⟨_, h13⟩ => ?_)
      refine rv_T_call (rq_undo (s' := s) (G' := G) (n' := n) (b' := b) h13 (by omega) (by rw [show k3 - 1 - 1 = k3 - 2 by omega]; exact C3)) (fun v32 w14 ⟨e32, h14⟩ => ?_)
      rw [e32, if_neg (rv_n_neg (by omega))]
      refine rc_q (c_voters _) h14 (fun w15 h15 => ?_)
      rw [ra_iv_nat hg (by omega), if_pos rfl, ra_toN (by omega), if_pos rfl]
      refine rc_q (c_ballot _) h15 (fun w16 h16 => ?_)
      rw [ra_iv_nat hg (by omega), if_pos rfl, ra_toN (by omega), if_pos rfl]
      refine rc_q (c_winner _) h16 (fun w17 h17 => ?_)
      rw [ra_one_ok hr, if_pos rfl]
      exact rv_T_some.mpr ⟨rfl, _, _, h17⟩
