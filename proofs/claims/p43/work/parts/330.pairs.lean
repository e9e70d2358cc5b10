/-! the law's first check: pairs -/
theorem rq_jn {Q : Int32 → rv_W → Prop} {α : Type} {k : α} {f : α → rv_R} (P : α → Prop) (hk : P k) (h : ∀ k', P k' → rv_T (f k') Q) : rv_T (rv_jn k f) Q := h k hk
theorem rq_t1 : (rv_b2 true = (1 : Int32)) = True := eq_true rfl
theorem rq_f1 : (rv_b2 false = (1 : Int32)) = False := eq_false (by decide)
theorem rq_10 : ((1 : Int32) = 0) = False := eq_false (by decide)
theorem rq_00 : ((0 : Int32) = 0) = True := eq_true rfl
theorem rc_pf {K : Nat} {d : Nat → ra_R} {s G : Nat} {n b : Nat → Nat} {w : rv_W} (h : rc_I K d s G n b w) : rp_pf (rv_cut 0 G n) b := by
  have hG : G ≤ 20 := h.1.2.2.2.1
  refine ⟨?_, fun g _ hne => ?_⟩
  · have : rv_sm 20 (rv_cut 0 G n) ≤ 20 * 100 := rv_sm_bd (fun g _ => by
      unfold rv_cut
      split
      · exact (h.1.2.2.2.2 g (by omega)).2.2.1.2
      · exact Nat.zero_le _)
    omega
  · have hg : g < G := by
      apply Nat.lt_of_not_le
      intro z
      exact hne (if_neg (by omega))
    exact (h.1.2.2.2.2 g hg).2.2.2.1
theorem rc_s {K : Nat} {d : Nat → ra_R} {s G : Nat} {n b : Nat → Nat} {w : rv_W} (h : rc_I K d s G n b w) : s < 32 := h.1.2.1
theorem rc_G {K : Nat} {d : Nat → ra_R} {s G : Nat} {n b : Nat → Nat} {w : rv_W} (h : rc_I K d s G n b w) : G ≤ 20 := h.1.2.2.2.1
theorem rc_N {K : Nat} {d : Nat → ra_R} {s G : Nat} {n b : Nat → Nat} {w : rv_W} (h : rc_I K d s G n b w) : rv_sm G n ≤ 2000 := by
  rw [← ra_cut_sm (rc_G h)]
  exact (rc_pf h).1
theorem rp_P_self {s a : Nat} {n m : Nat → Nat} : ra_P s n m a a = 0 := ra_S_zero (fun g _ _ => by
  rw [decide_eq_false (Nat.lt_irrefl _), Bool.and_false])
theorem rp_P_sum {s a b : Nat} {n m : Nat → Nat} : ra_P s n m a b + ra_P s n m b a ≤ rv_sm 20 n := by
  unfold ra_P ra_S
  rw [← rv_sm_add]
  refine rv_sm_le (fun g _ => ?_)
  by_cases h1 : (rv_hs s a && rv_hs s b && decide (rv_q (m g) a < rv_q (m g) b)) = true
  · rw [if_pos h1]
    by_cases h2 : (rv_hs s b && rv_hs s a && decide (rv_q (m g) b < rv_q (m g) a)) = true
    · rw [Bool.and_eq_true, decide_eq_true_eq] at h1 h2
      omega
    · rw [if_neg h2]; omega
  · rw [if_neg h1]; split <;> omega
theorem rq_two {s a b : Nat} {A : Nat → Nat → Int32} (ha : a < 5) (hb : b < 5) (h1 : rv_hs s a = true) (h2 : rv_hs s b = true) : ra_two s (Int32.ofNat a) (Int32.ofNat b) A = A a b := by
  rw [ra_two_ok ha hb, if_pos ⟨h1, h2⟩]
theorem rq_two0 {s a b : Nat} {A : Nat → Nat → Int32} (ha : a < 5) (hb : b < 5) (h : ¬ (rv_hs s a = true ∧ rv_hs s b = true)) : ra_two s (Int32.ofNat a) (Int32.ofNat b) A = -1000003 := by
  rw [ra_two_ok ha hb, if_neg h]
set_option maxHeartbeats 4000000 in
theorem rq_pairs {K : Nat} {d : Nat → ra_R} {s G : Nat} {n b : Nat → Nat} {w : rv_W} (h : rc_I K d s G n b w) : rv_T (f_L_arePairsSound w) (fun v w' => v = 1 ∧ rc_I K d s G n b w') := by
  have hs := rc_s h
  have hG := rc_G h
  have hN := rc_N h
  unfold f_L_arePairsSound
  refine rc_q c_allVoters h (fun w1 h1 => ?_)
  refine rc_q c_standing h1 (fun w2 h2 => ?_)
  try dsimp only
  refine rv_T_for 5 (fun _ w' => rc_I K d s G n b w') (fun ag x w3 hx h3 q => ?_) (by decide) 0 _ h2 (by omega)
  by_cases hx5 : x < 5
  · simp only [rv_lt5 hx5, if_true]
    refine rv_T_for 5 (fun _ w' => rc_I K d s G n b w') (fun ag2 y w4 hy h4 q2 => ?_) (by decide) 0 _ h3 (by omega)
    by_cases hy5 : y < 5
    · simp only [rv_lt5 hy5, if_true, rl_bit hs hx5, rl_bit hs hy5]
      have hend : ∀ w', rc_I K d s G n b w' → rv_T (rv_lt (Int32.ofNat y + 1) (fun (v : Int32) => ag2 v w')) (fun v w' => v = 1 ∧ rc_I K d s G n b w') := fun w' h' => by
        rw [rv_T_lt, rv_n_succ]
        exact q2 hy5 w' h'
      by_cases hb : rv_hs s x = true ∧ rv_hs s y = true
      · simp only [hb.1, hb.2, rq_t1, if_true, rv_T_jn, rq_10, if_false, rv_eq5 hx5 hy5]
        by_cases e : x = y
        · subst e
          simp only [if_true]
          refine rc_q (c_pair _ _) h4 (fun w5 h5 => ?_)
          try dsimp only
          rw [rq_two hx5 hx5 hb.1 hb.1, rp_P_self, if_pos (by decide)]
          refine rc_q (c_strength _ _) h5 (fun w6 h6 => ?_)
          try dsimp only
          rw [rq_two hx5 hx5 hb.1 hb.1, if_pos rfl, if_pos rfl]
          exact hend w6 h6
        · simp only [e, if_false]
          refine rc_q (c_pair _ _) h4 (fun w5 h5 => ?_)
          refine rc_q (c_pair _ _) h5 (fun w6 h6 => ?_)
          try dsimp only
          rw [rq_two hx5 hy5 hb.1 hb.2, rq_two hy5 hx5 hb.2 hb.1, ← Int32.ofNat_add]
          have hP := @rp_P_sum s x y (rv_cut 0 G n) b
          rw [ra_cut_sm hG] at hP
          rw [if_neg (fun z => by have := (rv_n_lt (by omega) (by omega)).mp z; omega)]
          refine rc_q (c_isLocked _ _) h6 (fun w7 h7 => ?_)
          refine rc_q (c_isLocked _ _) h7 (fun w8 h8 => ?_)
          try dsimp only
          rw [rq_two hx5 hy5 hb.1 hb.2, rq_two hy5 hx5 hb.2 hb.1]
          rw [if_neg (by
            have := @rp_locked (ra_P s (rv_cut 0 G n) b) (rv_sm 20 (rv_cut 0 G n)) x y
            cases z1 : (ra_zf (ra_P s (rv_cut 0 G n) b) (rv_sm 20 (rv_cut 0 G n))).1 x y
            · cases (ra_zf (ra_P s (rv_cut 0 G n) b) (rv_sm 20 (rv_cut 0 G n))).1 y x <;> decide
            · cases z2 : (ra_zf (ra_P s (rv_cut 0 G n) b) (rv_sm 20 (rv_cut 0 G n))).1 y x
              · decide
              · exact absurd ⟨z1, z2⟩ this)]
          have hF : ra_fw s (ra_P s (rv_cut 0 G n) b) 5 x y ≤ rv_sm G n := ra_fw_le (fun a b' => by
            have := @ra_P_le s a b' (rv_cut 0 G n) b
            rw [ra_cut_sm hG] at this
            exact this)
          refine rc_q (c_strength _ _) h8 (fun w9 h9 => ?_)
          try dsimp only
          rw [rq_two hx5 hy5 hb.1 hb.2, if_neg e, if_neg (rv_n_neg (by omega))]
          refine rc_q (c_strength _ _) h9 (fun w10 h10 => ?_)
          try dsimp only
          rw [rq_two hx5 hy5 hb.1 hb.2, if_neg e, if_neg (fun z => by have := (rv_n_lt (by omega) (by omega)).mp z; omega)]
          exact hend w10 h10
      · have hk : ∀ w', rc_I K d s G n b w' → rv_T (rv_bd (f_X10_pair (Int32.ofNat x) (Int32.ofNat y) w') (fun (r36 : Int32) (w37 : rv_W) =>
          if r36 = (-1000003 : Int32) then
          rv_bd (f_X10_isLocked (Int32.ofNat x) (Int32.ofNat y) w37) (fun (r38 : Int32) (w39 : rv_W) =>
          if r38 = (-1000003 : Int32) then
          rv_lt (Int32.ofNat y + (1 : Int32)) (fun (v40 : Int32) =>
          ag2 v40 w39)
          else
          some ((0 : Int32), w39))
          else
          some ((0 : Int32), w37))) (fun v w' => v = 1 ∧ rc_I K d s G n b w') := fun w' h' => by
          refine rc_q (c_pair _ _) h' (fun w5 h5 => ?_)
          try dsimp only
          rw [rq_two0 hx5 hy5 hb, if_pos rfl]
          refine rc_q (c_isLocked _ _) h5 (fun w6 h6 => ?_)
          try dsimp only
          rw [rq_two0 hx5 hy5 hb, if_pos rfl]
          exact hend w6 h6
        cases z1 : rv_hs s x
        · simp only [rq_f1, if_false, rv_T_jn, rq_00, if_true]
          exact hk w4 h4
        · cases z2 : rv_hs s y
          · simp only [rq_t1, rq_f1, if_false, rv_T_jn, rq_00, if_true]
            exact hk w4 h4
          · exact absurd ⟨z1, z2⟩ hb
    · have : y = 5 := by omega
      subst this
      simp only [rv_ge5, if_false]
      rw [rv_T_lt, rv_n_succ]
      exact q hx5 w4 h4
  · have : x = 5 := by omega
    subst this
    simp only [rv_ge5, if_false]
    exact rv_T_some.mpr ⟨rfl, h3⟩
