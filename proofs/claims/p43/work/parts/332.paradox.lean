/-! the law's third check: strategies and paradoxes -/
theorem rq_gm {q : Nat → Bool} {G : Nat} (hG : G ≤ 5) : ra_gm q G = Int32.ofNat (rv_ms G q) := by
  induction G with
  | zero => rfl
  | succ k ih =>
    rw [ra_gm_s, rv_ms_s, ih (by omega)]
    by_cases e : q k = true
    · rw [if_pos e, if_pos e]; exact ra_ms_or (by omega)
    · rw [if_neg e, if_neg e]
theorem rq_shr {x G : Nat} (hG : G ≤ 5) (hx : x < 2 ^ G) : (Int32.ofNat x >>> (Int32.ofNat G &&& 31)) = 0 := by
  have h32 : x < 32 := Nat.lt_of_lt_of_le hx (Nat.pow_le_pow_right (by decide) hG : 2 ^ G ≤ 2 ^ 5)
  have t := rv_all2 (p := fun x G => !Nat.blt x (2 ^ G) || decide ((Int32.ofNat x >>> (Int32.ofNat G &&& 31)) = 0)) (l := List.range 32) (m := List.range 6) (by decide +kernel) (rv_rg h32) (rv_rg (show G < 6 by omega))
  have e : Nat.blt x (2 ^ G) = true := Nat.ble_eq_true_of_le hx
  rw [e, Bool.not_true, Bool.false_or, decide_eq_true_eq] at t
  exact t
theorem rq_gm32 {q : Nat → Bool} {G : Nat} (hG : G ≤ 5) : rv_ms G q < 32 := Nat.lt_of_lt_of_le rv_ms_lt (Nat.pow_le_pow_right (by decide) hG : 2 ^ G ≤ 2 ^ 5)
theorem rq_fst {q : Nat → Bool} {f k : Nat} : ra_fst q f k = -1000000 ∨ ∃ j, k ≤ j ∧ j < k + f ∧ q j = true ∧ ra_fst q f k = Int32.ofNat j := by
  induction f generalizing k with
  | zero => exact Or.inl rfl
  | succ f ih =>
    rw [ra_fst_s]
    by_cases e : q k = true
    · rw [if_pos e]; exact Or.inr ⟨k, Nat.le_refl _, by omega, e, rfl⟩
    · rw [if_neg e]
      rcases ih (k := k + 1) with h | ⟨j, h1, h2, h3, h4⟩
      · exact Or.inl h
      · exact Or.inr ⟨j, by omega, by omega, h3, h4⟩
theorem rq_rg {r g G : Nat} {A : Nat → Nat → Int32} (hr : r < 12) (hg : g < G) (hG : G ≤ 20) : ra_rg (Int32.ofNat r) (Int32.ofNat g) G A = A r g := by
  unfold ra_rg
  rw [ra_one_ok hr, ra_iv_nat hg (by omega), if_pos rfl, ra_toN (by omega)]
theorem rq_stf {f : List Nat → Nat} {q : Nat → Nat} {L : List (List Nat)} {st : Nat × List Nat} {x : Nat} (h : q st.1 ≤ x ∧ (st.2 ≠ [] → q st.1 < x)) : q (ra_stf f q L st).1 ≤ x ∧ ((ra_stf f q L st).2 ≠ [] → q (ra_stf f q L st).1 < x) := by
  induction L generalizing st with
  | nil => exact h
  | cons l L ih =>
    rw [ra_stf_c]
    by_cases z : q (f l) < q st.1
    · rw [if_pos z]
      exact ih ⟨by show q (f l) ≤ x; omega, fun _ => by show q (f l) < x; omega⟩
    · rw [if_neg z]; exact ih h
theorem rq_F {r s G g : Nat} {n m : Nat → Nat} (h : (ra_F r s G n m g).2 ≠ []) : rv_q (m g) (ra_F r s G n m g).1 < rv_q (m g) (ra_w r s (rv_cut 0 G n) m) := by
  unfold ra_F at h ⊢
  by_cases h0 : s = 0
  · rw [if_pos h0] at h; exact absurd rfl h
  · rw [if_neg h0] at h ⊢
    exact (rq_stf (st := (ra_w r s (rv_cut 0 G n) m, [])) (x := rv_q (m g) (ra_w r s (rv_cut 0 G n) m)) ⟨Nat.le_refl _, fun z => absurd rfl z⟩).2 h
theorem rq_m1 {x : Nat} (hx : x < 1000) : (Int32.ofNat x = (-1000000 : Int32)) = False := eq_false (fun z => by
  have h := rv_n_neg (i := x) (by omega)
  rw [z] at h
  exact h (by decide))
theorem rq_G {K : Nat} {d : Nat → ra_R} {s G g : Nat} {n b : Nat → Nat} {w : rv_W} (h : rc_I K d s G n b w) (hg : g < G) : (1 ≤ n g ∧ n g ≤ 100) ∧ b g ∈ rv_B ∧ b g ≠ 0 := (h.1.2.2.2.2 g hg).2.2
set_option maxHeartbeats 8000000 in
set_option maxRecDepth 100000 in
theorem rq_paradox {K : Nat} {d : Nat → ra_R} {s G r : Nat} {n b : Nat → Nat} {w : rv_W} (h : rc_I K d s G n b w) (hG5 : G ≤ 5) (hr : r < 12) : rv_T (f_L_areParadoxesSound (Int32.ofNat r) w) (fun v w' => v = 1 ∧ rc_I K d s G n b w') := by
  have hs := rc_s h
  have hG := rc_G h
  have hp := rc_pf h
  have ez : (Int32.ofNat s = 0) = (s = 0) := rq_z (by omega)
  obtain ⟨hW32, hWs, hW0⟩ := rq_W (rule := r) (n := rv_cut 0 G n) (m := b) hs
  have e4 : (ra_wc r s (rv_cut 0 G n) b < 0) = (s = 0) := propext ⟨fun z => by
    by_cases h0 : s = 0
    · exact h0
    · rw [ra_wc_1 h0] at z
      have hw := (ra_w_in (rule := r) (n := rv_cut 0 G n) (m := b) hs h0).1
      exact absurd z (rv_n_neg (by omega)), fun z => by rw [ra_wc_0 z]; decide⟩
  unfold f_L_areParadoxesSound
  refine rc_q c_groupCount h (fun w1 h1 => ?_)
  refine rc_q (c_winner _) h1 (fun w2 h2 => ?_)
  refine rc_q (c_winners _) h2 (fun w3 h3 => ?_)
  refine rc_q c_standing h3 (fun w4 h4 => ?_)
  unfold rv_ltl
  refine rc_q (c_strategists _) h4 (fun w5 h5 => ?_)
  simp only [ra_one_ok hr]
  rw [rq_gm hG5, if_pos (rq_shr hG5 rv_ms_lt)]
  refine rc_q (c_absentees _) h5 (fun w6 h6 => ?_)
  simp only [ra_one_ok hr]
  rw [rq_gm hG5, if_pos (rq_shr hG5 rv_ms_lt)]
  refine rc_q (c_raisers _) h6 (fun w7 h7 => ?_)
  simp only [ra_one_ok hr]
  rw [rq_gm hG5, if_pos (rq_shr hG5 rv_ms_lt)]
  refine rc_q (c_spoilers _) h7 (fun w8 h8 => ?_)
  simp only [ra_one_ok hr]
  rw [rq_gm (Nat.le_refl 5)]
  have hsp : ∀ c, c < 5 → rv_hs (rv_ms 5 (ra_spq r s G n b)) c = true → rv_hs s c = true ∧ c ≠ ra_w r s (rv_cut 0 G n) b := fun c hc z => by
    rw [rv_ms_hs hc] at z
    unfold ra_spq at z
    rw [Bool.and_eq_true, Bool.and_eq_true, Bool.and_eq_true, decide_eq_true_eq, decide_eq_true_eq] at z
    exact ⟨z.2.2.1, z.2.1⟩
  refine rc_q c_standing h8 (fun w9 h9 => ?_)
  rw [if_pos (rq_mask rv_ms_lt hs (fun c hc z => (hsp c hc z).1))]
  simp only [e4]
  refine rq_jn (fun (k : rv_W → rv_R) => ∀ w', rc_I K d s G n b w' → rv_T (k w') (fun v w' => v = 1 ∧ rc_I K d s G n b w')) (fun w10 h10 => ?_) (fun k21 hk21 => ?_)
  rotate_left
  · by_cases h0 : s = 0
    · rw [if_pos h0]; exact hk21 _ h9
    · rw [if_neg h0]
      refine rc_q (c_spoilers _) h9 (fun w10 h10 => ?_)
      have hw := (ra_w_in (rule := r) (n := rv_cut 0 G n) (m := b) hs h0).1
      simp only [ra_one_ok hr]
      rw [rq_gm (Nat.le_refl 5), ra_wc_1 h0, rl_bit rv_ms_lt hw]
      have : rv_hs (rv_ms 5 (ra_spq r s G n b)) (ra_w r s (rv_cut 0 G n) b) = false := by
        rw [Bool.eq_false_iff]
        intro z
        exact (hsp _ hw z).2 rfl
      rw [this, if_neg (by decide)]
      exact hk21 _ h10
  have l2 : (Int32.ofNat r < (2 : Int32)) = (r < 2) := propext (rv_n_lt (j := 2) (by omega) (by omega))
  have l4 : (Int32.ofNat r < (4 : Int32)) = (r < 4) := propext (rv_n_lt (j := 4) (by omega) (by omega))
  have r8 : (Int32.ofNat r = (8 : Int32)) = (r = 8) := ra_rl hr (k := 8) (by decide)
  have r11 : (Int32.ofNat r = (11 : Int32)) = (r = 11) := ra_rl hr (k := 11) (by decide)
  simp only [l2, l4, r8, r11]
  refine rq_jn (fun (k : rv_W → rv_R) => ∀ w', rc_I K d s G n b w' → rv_T (k w') (fun v w' => v = 1 ∧ rc_I K d s G n b w')) (fun w11 h11 => ?_) (fun k24 hk24 => ?_)
  rotate_left
  · by_cases z : r < 2
    · rw [if_pos z]
      refine rc_q (c_absentees _) h10 (fun w11 h11 => ?_)
      have eab : ra_gm (ra_abq r s G n b) G = 0 := ra_gm_z (fun g hg => by
        unfold ra_abq
        by_cases h0 : s = 0
        · rw [decide_eq_false (fun z => z h0), Bool.false_and]
        · have hng := (rq_G h hg).1
          have := rp_stay z hs h0 hp (show g < 20 by omega) (by rw [ra_cut_g hg]; omega)
          rw [decide_eq_false this, Bool.and_false])
      simp only [ra_one_ok hr]
      rw [eab, if_pos rfl]
      refine rc_q (c_split _) h11 (fun w12 h12 => ?_)
      simp only [ra_one_ok hr]
      rw [rp_fst (fun j j1 j2 => rp_split z hs hp (by omega)), if_pos rfl]
      exact hk24 _ h12
    · rw [if_neg z]; exact hk24 _ h10
  refine rq_jn (fun (k : rv_W → rv_R) => ∀ w', rc_I K d s G n b w' → rv_T (k w') (fun v w' => v = 1 ∧ rc_I K d s G n b w')) (fun w12 h12 => ?_) (fun k27 hk27 => ?_)
  rotate_left
  · refine rq_jn (fun (k : rv_W → rv_R) => (r < 4 ∨ r = 8 ∨ r = 11) → ∀ w', rc_I K d s G n b w' → rv_T (k w') (fun v w' => v = 1 ∧ rc_I K d s G n b w')) (fun z w' h' => ?_) (fun k69 hk69 => ?_)
    · refine rc_q (c_raisers _) h' (fun w12 h12 => ?_)
      have era : ra_gm (ra_rsq r s G n b) G = 0 := ra_gm_z (fun g hg => rp_rsq z hs hp hg hG (by have := (rq_G h hg).1; omega))
      simp only [ra_one_ok hr]
      rw [era, if_pos rfl]
      exact hk27 _ h12
    · by_cases q4 : r < 4
      · rw [if_pos q4]; exact hk69 (by omega) _ h11
      · rw [if_neg q4]
        by_cases q8 : r = 8
        · rw [if_pos q8]; exact hk69 (by omega) _ h11
        · rw [if_neg q8]
          by_cases q11 : r = 11
          · rw [if_pos q11]; exact hk69 (by omega) _ h11
          · rw [if_neg q11]; exact hk27 _ h11
  refine rv_T_for G (fun _ w' => rc_I K d s G n b w') (fun ag g w13 hg h13 q => ?_) (by show G < 10000; omega) 0 _ h12 (by omega)
  by_cases hgG : g < G
  · rw [if_pos ((rv_n_lt (by omega) (by omega)).mpr hgG)]
    have hB := (rq_G h hgG).2
    have hnext : ∀ w', rc_I K d s G n b w' → rv_T (rv_lt (Int32.ofNat g + (1 : Int32)) (fun (v : Int32) => ag v w')) (fun v w' => v = 1 ∧ rc_I K d s G n b w') := fun w' h' => by
      rw [rv_T_lt, rv_n_succ]
      exact q hgG w' h'
    refine rc_q (c_strategy _ _) h13 (fun w14 h14 => ?_)
    refine rc_q (c_ballot _) h14 (fun w15 h15 => ?_)
    rw [rq_rg hr hgG hG, ra_iv_nat hgG (by omega), if_pos rfl, ra_toN (by omega), rl_bit (rq_gm32 hG5) (by omega), rv_ms_hs hgG]
    by_cases hF : (ra_F r s G n b g).2 = []
    · have e1 : ra_sA r s G n b g = -1000000 := if_pos hF
      rw [ra_stq_f hF, e1]
      simp only [rv_T_jn, rq_f1, if_false, if_true, rq_00]
      refine rc_q c_standing h15 (fun w16 h16 => ?_)
      by_cases h0 : s = 0
      · rw [if_pos (by rw [h0]; rfl)]
        exact hnext _ h16
      · rw [if_neg (fun z => h0 (by rw [ez] at z; exact z))]
        refine rc_q (c_strategyAt _ _ _) h16 (fun w17 h17 => ?_)
        have hmn : 0 < rv_mn s := Nat.pos_of_ne_zero (fun z => h0 ((ra_mn_z hs).mp z))
        have e0 : ra_iv (0 : Int32) (rv_mn s) = true := ra_iv_nat (r := 0) hmn (by have := @rv_mn_le s; omega)
        have e2 : ∀ p, ra_sB r s G n b g p = -1000000 := fun p => if_pos hF
        rw [rq_rg hr hgG hG, e0, if_pos rfl, e2, if_pos rfl]
        exact hnext _ h17
    · have e1 : ra_sA r s G n b g = Int32.ofNat (ra_F r s G n b g).1 := if_neg hF
      obtain ⟨h0, f5, -, -⟩ := ra_F_5 (r := r) (n := n) (m := b) (g := g) hs hF
      have hlt := rq_F hF
      have hw := (ra_w_in (rule := r) (n := rv_cut 0 G n) (m := b) hs h0).1
      have q9 := @ra_q_le (b g) (ra_w r s (rv_cut 0 G n) b)
      rw [ra_stq_t hF, e1]
      simp only [rv_T_jn, rq_t1, if_true, rq_10, if_false, rq_m1 (show (ra_F r s G n b g).1 < 1000 by omega)]
      rw [e_place hB.1 f5, rv_bd_some, ra_wc_1 h0, e_place hB.1 hw, rv_bd_some, if_pos ((rv_n_lt (by omega) (by omega)).mpr hlt)]
      exact hnext _ h15
  · have : g = G := by omega
    subst this
    rw [if_neg (fun z => hgG ((rv_n_lt (by omega) (by omega)).mp z))]
    refine rc_q (c_removals _) h13 (fun w14 h14 => ?_)
    simp only [ra_one_ok hr]
    refine rq_jn (fun (k : rv_W → rv_R) => ∀ w', rc_I K d s g n b w' → rv_T (k w') (fun v w' => v = 1 ∧ rc_I K d s g n b w')) (fun w15 h15 => ?_) (fun k36 hk36 => ?_)
    · refine rc_q (c_winners _) h15 (fun w16 h16 => ?_)
      refine rc_q c_standing h16 (fun w17 h17 => ?_)
      simp only [ra_one_ok hr]
      rw [if_pos (by simp [lg_cmp])]
      exact rv_T_some.mpr ⟨rfl, h17⟩
    · rcases rq_fst (q := ra_rm r s g n b) (f := 100) (k := 1) with e | ⟨v, v1, v2, v3, e⟩
      · rw [e, if_pos rfl]; exact hk36 _ h14
      · have h0 : ¬ s = 0 := fun z => by
          have : ra_rm r s g n b v = false := ra_rm_f (fun j _ => by
            unfold ra_rmq
            rw [ra_wc_0 z, ra_wc_0 z, decide_eq_false (show ¬ ((-1000000 : Int32) ≠ -1000000) from fun y => y rfl), Bool.and_false])
          rw [this] at v3
          cases v3
        rw [e]
        simp only [rq_m1 (show v < 1000 by omega), if_false, ra_100 (show v < 1000 by omega), ra_n_1 (show v < 1000 by omega)]
        rw [if_neg (by omega), if_neg (by omega), if_neg h0]
        exact hk36 _ h14
