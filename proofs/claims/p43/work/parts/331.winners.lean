/-! the law's second check: winners -/
theorem rq_lst {q : Nat → Bool} {d : Int32} {k : Nat} : ((∀ j, j < k → q j = false) ∧ ra_lst q d k = d) ∨ ∃ a, a < k ∧ q a = true ∧ ra_lst q d k = Int32.ofNat a := by
  induction k with
  | zero => exact Or.inl ⟨fun j hj => by omega, rfl⟩
  | succ k ih =>
    rw [ra_lst_s]
    by_cases e : q k = true
    · rw [if_pos e]; exact Or.inr ⟨k, by omega, e, rfl⟩
    · rw [if_neg e]
      rcases ih with ⟨i1, i2⟩ | ⟨a, i1, i2, i3⟩
      · refine Or.inl ⟨fun j hj => ?_, i2⟩
        by_cases z : j = k
        · rw [z]; exact Bool.eq_false_iff.mpr e
        · exact i1 j (by omega)
      · exact Or.inr ⟨a, by omega, i2, i3⟩
theorem rq_mask {W s : Nat} (hW : W < 32) (hs : s < 32) (h : ra_sub W s) : (Int32.ofNat W &&& (Int32.ofNat s ^^^ (-1 : Int32))) = 0 := by
  rw [e_andn hW hs, (ra_df_sub hW).mpr h]
  rfl
theorem rq_low {W : Nat} (hW : W < 32) (h0 : W ≠ 0) : (Int32.ofNat W &&& (((1 : Int32) <<< (Int32.ofNat (rv_lo W) &&& 31)) - (1 : Int32))) = 0 := by
  have t := List.all_eq_true.mp (by decide +kernel : ((List.range 32).all fun W => Nat.beq W 0 || decide ((Int32.ofNat W &&& (((1 : Int32) <<< (Int32.ofNat (rv_lo W) &&& 31)) - (1 : Int32))) = 0)) = true) W (rv_rg hW)
  rw [show Nat.beq W 0 = false from Bool.eq_false_iff.mpr (fun z => h0 (Nat.eq_of_beq_eq_true z)), Bool.false_or, decide_eq_true_eq] at t
  exact t
theorem rq_z {x : Nat} (hx : x < 1000) : (Int32.ofNat x = 0) = (x = 0) := propext (rv_n_eq (j := 0) (by omega) (by omega))
/-- what is told of the answers of a rule -/
theorem rq_W {rule s : Nat} {n m : Nat → Nat} (hs : s < 32) : ra_W rule s n m < 32 ∧ ra_sub (ra_W rule s n m) s ∧ (ra_W rule s n m = 0 ↔ s = 0) := by
  obtain ⟨h1, h2, h3⟩ := ra_W_ok (rule := rule) (n := n) (m := m) hs
  refine ⟨h1, h2, fun z => ?_, fun z => by rw [z]; exact ra_W0⟩
  by_cases h0 : s = 0
  · exact h0
  · exact absurd z (h3 h0)
theorem rq_not_both {s a : Nat} {p : Nat → Nat → Nat} (hs : s < 32) (ha : a < 5) (h1 : ra_ba s p a = true) (h2 : ra_ls s p a = true) : False := by
  have i1 := rp_ba_iff.mp h1
  have i2 := rp_ls_iff.mp h2
  have hmn := ra_mn_wo hs ha i1.1
  obtain ⟨y, hy, hsy⟩ := ra_mn_hs (C := rv_wo s a) (rv_wo_lt hs) (by omega)
  rw [rv_wo_hs hs ha hy, Bool.and_eq_true, Bool.not_eq_true', decide_eq_false_iff_not] at hsy
  have e1 := i1.2 y hy hsy.2 hsy.1
  have e2 := i2.2 y hy hsy.2 hsy.1
  omega
/-- the favourite was found, or none of the rules so far brings it -/
def rq_gd (s : Nat) (n m : Nat → Nat) (r : Nat) (v : Int32) : Prop := v = 1 ∨ (v = 0 ∧ s ≠ 0 ∧ ∀ j, j < r → ra_w j s n m ≠ ra_amx (ra_cw s n m 12) 5)
set_option maxHeartbeats 8000000 in
set_option maxRecDepth 100000 in
theorem rq_winners {K : Nat} {d : Nat → ra_R} {s G : Nat} {n b : Nat → Nat} {w : rv_W} (h : rc_I K d s G n b w) : rv_T (f_L_areWinnersSound w) (fun v w' => v = 1 ∧ rc_I K d s G n b w') := by
  have hs := rc_s h
  have hG := rc_G h
  have hN := rc_N h
  have hp := rc_pf h
  have hfav := rp_fav (n := rv_cut 0 G n) (m := b) hs
  have ez : (Int32.ofNat s = 0) = (s = 0) := rq_z (by omega)
  have hD32 : ra_sk s (ra_P s (rv_cut 0 G n) b) 30 < 32 := ra_sk_lt hs (by decide)
  have hDs := (rp_sk_ok (s := s) (p := ra_P s (rv_cut 0 G n) b) (k := 30) hs (by decide)).1
  have hD0 : (ra_sk s (ra_P s (rv_cut 0 G n) b) 30 = 0) = (s = 0) := propext ⟨fun z => by
    by_cases h0 : s = 0
    · exact h0
    · exact absurd z ((rp_sk_ok (s := s) (p := ra_P s (rv_cut 0 G n) b) (k := 30) hs (by decide)).2.2.1 h0), fun z => by rw [z]; exact rp_smith0⟩
  have hsm : ∀ (Q : Int32 → rv_W → Prop) (k : Int32 → rv_W → rv_R) (w' : rv_W), rv_T (k (if s = 0 then 1 else 0) w') Q → rv_T (if s = 0 then k 1 w' else k 0 w') Q := fun Q k w' z => by
    by_cases h0 : s = 0
    · rw [if_pos h0] at z ⊢; exact z
    · rw [if_neg h0] at z ⊢; exact z
  unfold f_L_areWinnersSound
  refine rc_q c_standing h (fun w1 h1 => ?_)
  refine rc_q c_smith h1 (fun w2 h2 => ?_)
  refine rc_q c_beatsAll h2 (fun w3 h3 => ?_)
  refine rc_q c_losesToAll h3 (fun w4 h4 => ?_)
  have hA := rq_lst (q := ra_ba s (ra_P s (rv_cut 0 G n) b)) (d := -1000000) (k := 5)
  have hL := rq_lst (q := ra_ls s (ra_P s (rv_cut 0 G n) b)) (d := -1000000) (k := 5)
  obtain ⟨A, eA⟩ : ∃ A, ra_lst (ra_ba s (ra_P s (rv_cut 0 G n) b)) (-1000000) 5 = A := ⟨_, rfl⟩
  obtain ⟨L, eL⟩ : ∃ L, ra_lst (ra_ls s (ra_P s (rv_cut 0 G n) b)) (-1000000) 5 = L := ⟨_, rfl⟩
  simp only [eA, eL] at hA hL ⊢
  refine rq_jn (fun (k : Int32 → rv_W → rv_R) => ∀ v w', rq_gd s (rv_cut 0 G n) b 0 v → rc_I K d s G n b w' → rv_T (k v w') (fun v w' => v = 1 ∧ rc_I K d s G n b w')) (fun v9 w5 hv9 h5 => ?_) (fun k11 hk11 => ?_)
  rotate_left
  · refine rq_jn (fun (k : rv_W → rv_R) => s ≠ 0 → ∀ w', rc_I K d s G n b w' → rv_T (k w') (fun v w' => v = 1 ∧ rc_I K d s G n b w')) (fun h0 w' h' => hk11 0 w' (Or.inr ⟨rfl, h0, fun j hj => by omega⟩) h') (fun k117 hk117 => ?_)
    simp only [ez]
    by_cases h0 : s = 0
    · rw [if_pos h0]
      refine rc_q c_favourite h4 (fun w6 h6 => ?_)
      rw [if_pos h0, if_pos rfl]
      exact hk11 1 w6 (Or.inl rfl) h6
    · rw [if_neg h0]
      exact hk117 h0 w4 h4
  · refine rv_T_for1 12 (fun r v w' => rq_gd s (rv_cut 0 G n) b r v ∧ rc_I K d s G n b w') (fun ag r v15 w6 hr hI q => ?_) (by decide) 0 _ _ ⟨hv9, h5⟩ (by omega)
    obtain ⟨hv, h6⟩ := hI
    simp only [ra_12 hr]
    by_cases hr12 : r < 12
    · rw [if_pos hr12]
      have r2 : (Int32.ofNat r = (2 : Int32)) = (r = 2) := ra_rl hr12 (k := 2) (by decide)
      have r3 : (Int32.ofNat r = (3 : Int32)) = (r = 3) := ra_rl hr12 (k := 3) (by decide)
      have r4 : (Int32.ofNat r = (4 : Int32)) = (r = 4) := ra_rl hr12 (k := 4) (by decide)
      have r5 : (Int32.ofNat r = (5 : Int32)) = (r = 5) := ra_rl hr12 (k := 5) (by decide)
      have r9 : (Int32.ofNat r = (9 : Int32)) = (r = 9) := ra_rl hr12 (k := 9) (by decide)
      have r10 : (Int32.ofNat r = (10 : Int32)) = (r = 10) := ra_rl hr12 (k := 10) (by decide)
      have r11 : (Int32.ofNat r = (11 : Int32)) = (r = 11) := ra_rl hr12 (k := 11) (by decide)
      refine rc_q (c_winners _) h6 (fun w7 h7 => ?_)
      refine rc_q (c_winner _) h7 (fun w8 h8 => ?_)
      simp only [ra_one_ok hr12]
      obtain ⟨hW32, hWs, hW0⟩ := rq_W (rule := r) (n := rv_cut 0 G n) (m := b) hs
      have eW : (Int32.ofNat (ra_W r s (rv_cut 0 G n) b) = 0) = (s = 0) := (rq_z (by omega)).trans (propext hW0)
      have e3 : (ra_wc r s (rv_cut 0 G n) b = -1000000) = (s = 0) := propext ⟨fun z => by
        by_cases h0 : s = 0
        · exact h0
        · rw [ra_wc_1 h0] at z
          have hw := (ra_w_in (rule := r) (n := rv_cut 0 G n) (m := b) hs h0).1
          have hh := rv_n_neg (i := ra_w r s (rv_cut 0 G n) b) (by omega)
          rw [z] at hh
          exact absurd (by decide) hh, fun z => ra_wc_0 z⟩
      have e4 : (ra_wc r s (rv_cut 0 G n) b < 0) = (s = 0) := propext ⟨fun z => by
        by_cases h0 : s = 0
        · exact h0
        · rw [ra_wc_1 h0] at z
          have hw := (ra_w_in (rule := r) (n := rv_cut 0 G n) (m := b) hs h0).1
          exact absurd z (rv_n_neg (by omega)), fun z => by rw [ra_wc_0 z]; decide⟩
      rw [if_pos (rq_mask hW32 hs hWs)]
      simp only [ez, eW, e3, e4]
      refine rq_jn (fun (k : Int32 → rv_W → rv_R) => ∀ w', rc_I K d s G n b w' → rv_T (k (if s = 0 then 1 else 0) w') (fun v w' => v = 1 ∧ rc_I K d s G n b w')) (fun w9 h9 => ?_) (fun k65 hk65 => hsm _ k65 w8 (hk65 w8 h8))
      refine rq_jn (fun (k : Int32 → rv_W → rv_R) => ∀ w', rc_I K d s G n b w' → rv_T (k (if s = 0 then 1 else 0) w') (fun v w' => v = 1 ∧ rc_I K d s G n b w')) (fun w10 h10 => ?_) (fun k69 hk69 => hsm _ k69 w9 (hk69 w9 h9))
      rw [if_pos rfl]
      refine rq_jn (fun (k : Int32 → rv_W → rv_R) => ∀ w', rc_I K d s G n b w' → rv_T (k (if s = 0 then 1 else 0) w') (fun v w' => v = 1 ∧ rc_I K d s G n b w')) (fun w11 h11 => ?_) (fun k73 hk73 => hsm _ k73 w10 (hk73 w10 h10))
      refine rq_jn (fun (k : Int32 → rv_W → rv_R) => ∀ w', rc_I K d s G n b w' → rv_T (k (if s = 0 then 1 else 0) w') (fun v w' => v = 1 ∧ rc_I K d s G n b w')) (fun w12 h12 => ?_) (fun k77 hk77 => hsm _ k77 w11 (hk77 w11 h11))
      rw [if_pos rfl]
      refine rq_jn (fun (k : rv_W → rv_R) => ∀ w', rc_I K d s G n b w' → rv_T (k w') (fun v w' => v = 1 ∧ rc_I K d s G n b w')) (fun w13 h13 => ?_) (fun k80 hk80 => ?_)
      rotate_left
      · by_cases h0 : s = 0
        · rw [if_pos h0]; exact hk80 _ h12
        · rw [if_neg h0, ra_wc_1 h0]
          have hw := ra_w_in (rule := r) (n := rv_cut 0 G n) (m := b) hs h0
          have hWn : ra_W r s (rv_cut 0 G n) b ≠ 0 := fun z => h0 (hW0.mp z)
          have hl := ra_lo_ok hW32 hWn
          rw [rl_bit hW32 hw.1]
          have hb1 : rv_hs (ra_W r s (rv_cut 0 G n) b) (ra_w r s (rv_cut 0 G n) b) = true := hl.2.1
          rw [hb1, if_neg ra_e1]
          have hlow : (Int32.ofNat (ra_W r s (rv_cut 0 G n) b) &&& (((1 : Int32) <<< (Int32.ofNat (ra_w r s (rv_cut 0 G n) b) &&& 31)) - (1 : Int32))) = 0 := rq_low hW32 hWn
          rw [if_pos hlow]
          exact hk80 _ h12
      refine rq_jn (fun (k : Int32 → rv_W → rv_R) => ∀ v w', rq_gd s (rv_cut 0 G n) b (r + 1) v → rc_I K d s G n b w' → rv_T (k v w') (fun v w' => v = 1 ∧ rc_I K d s G n b w')) (fun v82 w14 hv82 h14 => ?_) (fun k84 hk84 => ?_)
      rotate_left
      · refine rq_jn (fun (k : rv_W → rv_R) => ∀ w', rc_I K d s G n b w' → rv_T (k w') (fun v w' => v = 1 ∧ rc_I K d s G n b w')) (fun w' h' => hk84 1 w' (Or.inl rfl) h') (fun k109 hk109 => ?_)
        rcases hv with hv | ⟨hv, h0, hall⟩
        · rw [hv, if_neg (by decide)]
          exact hk109 _ h13
        · rw [if_pos hv]
          refine rq_jn (fun (k : rv_W → rv_R) => ra_w r s (rv_cut 0 G n) b ≠ ra_amx (ra_cw s (rv_cut 0 G n) b 12) 5 → ∀ w', rc_I K d s G n b w' → rv_T (k w') (fun v w' => v = 1 ∧ rc_I K d s G n b w')) (fun hne w' h' => hk84 0 w' (Or.inr ⟨rfl, h0, fun j hj => by
            by_cases e : j = r
            · rw [e]; exact hne
            · exact hall j (by omega)⟩) h') (fun k112 hk112 => ?_)
          rw [if_neg h0]
          refine rc_q c_favourite h13 (fun w15 h15 => ?_)
          rw [if_neg h0, ra_wc_1 h0]
          have hw := (ra_w_in (rule := r) (n := rv_cut 0 G n) (m := b) hs h0).1
          have ha5 := ra_amx_lt (f := ra_cw s (rv_cut 0 G n) b 12) (k := 5) (by decide)
          by_cases e : ra_w r s (rv_cut 0 G n) b = ra_amx (ra_cw s (rv_cut 0 G n) b 12) 5
          · rw [if_pos (by rw [e])]
            exact hk109 _ h15
          · rw [if_neg (fun z => e ((rv_n_eq (by omega) (by omega)).mp z))]
            exact hk112 e _ h15
      have hnext : ∀ w', rc_I K d s G n b w' → rv_T (rv_lt (Int32.ofNat r + (1 : Int32)) (fun (v : Int32) => ag v82 v w')) (fun v w' => v = 1 ∧ rc_I K d s G n b w') := fun w' h' => by
        rw [rv_T_lt, rv_n_succ]
        exact q hr12 v82 w' ⟨hv82, h'⟩
      simp only [r2, r3, r4, r5, r9, r10, r11]
      refine rq_jn (fun (k : Int32 → rv_W → rv_R) => ∀ w', rc_I K d s G n b w' → rv_T (k (if r = 2 ∨ r = 4 ∨ r = 5 ∨ r = 11 then 1 else 0) w') (fun v w' => v = 1 ∧ rc_I K d s G n b w')) (fun w15 h15 => ?_) (fun k88 hk88 => ?_)
      rotate_left
      · have t1 : (r = 2 ∨ r = 4 ∨ r = 5 ∨ r = 11) → ∀ w', rc_I K d s G n b w' → rv_T (k88 1 w') (fun v w' => v = 1 ∧ rc_I K d s G n b w') := fun z w' h' => by
          have := hk88 w' h'
          rw [if_pos z] at this
          exact this
        refine rq_jn (fun (k : rv_W → rv_R) => (r = 2 ∨ r = 4 ∨ r = 5 ∨ r = 11) → ∀ w', rc_I K d s G n b w' → rv_T (k w') (fun v w' => v = 1 ∧ rc_I K d s G n b w')) (fun z w' h' => t1 z w' h') (fun k106 hk106 => ?_)
        by_cases q2 : r = 2
        · rw [if_pos q2]; exact hk106 (by omega) _ h14
        · rw [if_neg q2]
          by_cases q4 : r = 4
          · rw [if_pos q4]; exact hk106 (by omega) _ h14
          · rw [if_neg q4]
            by_cases q5 : r = 5
            · rw [if_pos q5]; exact hk106 (by omega) _ h14
            · rw [if_neg q5]
              by_cases q11 : r = 11
              · rw [if_pos q11]; exact hk106 (by omega) _ h14
              · rw [if_neg q11]
                have := hk88 w14 h14
                rw [if_neg (by omega)] at this
                exact this
      have hby : ((if r = 2 ∨ r = 4 ∨ r = 5 ∨ r = 11 then (1 : Int32) else 0) = 0) = ¬ (r = 2 ∨ r = 4 ∨ r = 5 ∨ r = 11) := propext (by
        by_cases z : r = 2 ∨ r = 4 ∨ r = 5 ∨ r = 11
        · rw [if_pos z]; exact ⟨fun y => absurd y (by decide), fun y => absurd z y⟩
        · rw [if_neg z]; exact ⟨fun _ => z, fun _ => rfl⟩)
      simp only [hby]
      refine rq_jn (fun (k : rv_W → rv_R) => ∀ w', rc_I K d s G n b w' → rv_T (k w') (fun v w' => v = 1 ∧ rc_I K d s G n b w')) (fun w16 h16 => ?_) (fun k91 hk91 => ?_)
      rotate_left
      · rcases hA with ⟨_, hA⟩ | ⟨a, ha, hba, hA⟩
        · rw [if_pos (by rw [hA]; decide)]
          exact hk91 _ h15
        · rw [if_neg (by rw [hA]; exact rv_n_neg (by omega))]
          refine rq_jn (fun (k : rv_W → rv_R) => (r = 2 ∨ r = 3 ∨ r = 4 ∨ r = 5 ∨ r = 9 ∨ r = 10 ∨ r = 11) → ∀ w', rc_I K d s G n b w' → rv_T (k w') (fun v w' => v = 1 ∧ rc_I K d s G n b w')) (fun z w' h' => ?_) (fun k103 hk103 => ?_)
          · rw [if_pos (by rw [hA, rv_shl ha, rp_champ z hs hp ha hba])]
            exact hk91 _ h'
          · by_cases z : r = 2 ∨ r = 4 ∨ r = 5 ∨ r = 11
            · rw [if_neg (fun y => y z)]
              exact hk103 (by omega) _ h15
            · rw [if_pos z]
              by_cases q3 : r = 3
              · rw [if_pos q3]; exact hk103 (by omega) _ h15
              · rw [if_neg q3]
                by_cases q9 : r = 9
                · rw [if_pos q9]; exact hk103 (by omega) _ h15
                · rw [if_neg q9]
                  by_cases q10 : r = 10
                  · rw [if_pos q10]; exact hk103 (by omega) _ h15
                  · rw [if_neg q10]; exact hk91 _ h15
      refine rq_jn (fun (k : rv_W → rv_R) => ∀ w', rc_I K d s G n b w' → rv_T (k w') (fun v w' => v = 1 ∧ rc_I K d s G n b w')) (fun w17 h17 => ?_) (fun k94 hk94 => ?_)
      rotate_left
      · by_cases z : r = 2 ∨ r = 4 ∨ r = 5 ∨ r = 11
        · rw [if_neg (fun y => y z)]
          have hsub : ra_sub (ra_W r s (rv_cut 0 G n) b) (ra_sk s (ra_P s (rv_cut 0 G n) b) 30) := by
            by_cases h0 : s = 0
            · intro c hc y
              rw [hW0.mpr h0, ra_hs0] at y
              cases y
            · exact rp_W_sub z hs h0 (rp_smith hs h0)
          rw [if_pos (rq_mask hW32 hD32 hsub)]
          exact hk94 _ h16
        · rw [if_pos z]; exact hk94 _ h16
      rcases hL with ⟨_, hL⟩ | ⟨a, ha, hls, hL⟩
      · rw [if_pos (by rw [hL]; decide)]
        exact hnext _ h17
      · rw [if_neg (by rw [hL]; exact rv_n_neg (by omega))]
        refine rq_jn (fun (k : rv_W → rv_R) => (r = 4 ∨ r = 5 ∨ r = 10 ∨ r = 11) → ∀ w', rc_I K d s G n b w' → rv_T (k w') (fun v w' => v = 1 ∧ rc_I K d s G n b w')) (fun z w' h' => ?_) (fun k98 hk98 => ?_)
        · rw [hL, rl_bit hW32 ha, rp_last z hs hp ha hls, if_neg (by decide)]
          exact hnext _ h'
        · by_cases q4 : r = 4
          · rw [if_pos q4]; exact hk98 (by omega) _ h17
          · rw [if_neg q4]
            by_cases q5 : r = 5
            · rw [if_pos q5]; exact hk98 (by omega) _ h17
            · rw [if_neg q5]
              by_cases q10 : r = 10
              · rw [if_pos q10]; exact hk98 (by omega) _ h17
              · rw [if_neg q10]
                by_cases q11 : r = 11
                · rw [if_pos q11]; exact hk98 (by omega) _ h17
                · rw [if_neg q11]; exact hnext _ h17
    · have : r = 12 := by omega
      subst this
      rw [if_neg (by decide)]
      have hv1 : v15 = 1 := by
        rcases hv with hv | ⟨hv, h0, hall⟩
        · exact hv
        · obtain ⟨r, hr, e⟩ := hfav h0
          exact absurd e (hall r hr)
      rw [hv1, if_neg (by decide)]
      have eD : (Int32.ofNat (ra_sk s (ra_P s (rv_cut 0 G n) b) 30) = 0) = (s = 0) := (rq_z (by omega)).trans hD0
      simp only [ez, eD]
      refine rq_jn (fun (k : rv_W → rv_R) => ∀ w', rc_I K d s G n b w' → rv_T (k w') (fun v w' => v = 1 ∧ rc_I K d s G n b w')) (fun w7 h7 => ?_) (fun k19 hk19 => ?_)
      rotate_left
      · rcases hA with ⟨_, hA⟩ | ⟨a, ha, hba, hA⟩
        · rw [if_pos (by rw [hA]; decide)]
          exact hk19 _ h6
        · rw [if_neg (by rw [hA]; exact rv_n_neg (by omega)), if_pos (by rw [hA, rv_shl ha, rp_smith_one hs ha hba])]
          exact hk19 _ h6
      refine rq_jn (fun (k : Int32 → rv_W → rv_R) => ∀ w', rc_I K d s G n b w' → rv_T (k (if s = 0 then 1 else 0) w') (fun v w' => v = 1 ∧ rc_I K d s G n b w')) (fun w8 h8 => ?_) (fun k23 hk23 => hsm _ k23 w7 (hk23 w7 h7))
      refine rq_jn (fun (k : Int32 → rv_W → rv_R) => ∀ w', rc_I K d s G n b w' → rv_T (k (if s = 0 then 1 else 0) w') (fun v w' => v = 1 ∧ rc_I K d s G n b w')) (fun w9 h9 => ?_) (fun k27 hk27 => hsm _ k27 w8 (hk27 w8 h8))
      rw [if_pos rfl, if_pos (rq_mask hD32 hs hDs)]
      refine rq_jn (fun (k : rv_W → rv_R) => ∀ w', rc_I K d s G n b w' → rv_T (k w') (fun v w' => v = 1 ∧ rc_I K d s G n b w')) (fun w10 h10 => ?_) (fun k30 hk30 => ?_)
      rotate_left
      · rcases hL with ⟨_, hL⟩ | ⟨a, ha, hls, hL⟩
        · rw [if_pos (by rw [hL]; decide)]
          exact hk30 _ h9
        · rw [if_neg (by rw [hL]; exact rv_n_neg (by omega)), if_neg (fun z => by
            rcases hA with ⟨_, hA⟩ | ⟨a', ha', hba, hA⟩
            · rw [hL, hA] at z
              have := rv_n_neg (i := a) (by omega)
              rw [z] at this
              exact this (by decide)
            · rw [hL, hA] at z
              have := (rv_n_eq (by omega) (by omega)).mp z
              subst this
              exact rq_not_both hs ha hba hls)]
          exact hk30 _ h9
      rw [e_bits hs, rv_bd_some]
      have hmn := @rv_mn_le s
      refine rv_T_for1 5 (fun c v w' => v = Int32.ofNat (rv_sm c (fun j => if rv_hs s j = true then ra_bm (rv_cut 0 G n) b s j else 0)) ∧ rc_I K d s G n b w') (fun ag2 c v w11 hc hI2 q2 => ?_) (by decide) 0 _ _ ⟨rfl, h10⟩ (by omega)
      obtain ⟨rfl, h11⟩ := hI2
      by_cases hc5 : c < 5
      · simp only [rv_lt5 hc5, if_true, rl_bit hs hc5]
        have es : rv_sm (c + 1) (fun j => if rv_hs s j = true then ra_bm (rv_cut 0 G n) b s j else 0) = rv_sm c (fun j => if rv_hs s j = true then ra_bm (rv_cut 0 G n) b s j else 0) + (if rv_hs s c = true then ra_bm (rv_cut 0 G n) b s c else 0) := rfl
        cases hsc : rv_hs s c
        · simp only [rq_f1, if_false]
          rw [rv_T_lt, rv_T_lt, rv_n_succ]
          refine q2 hc5 _ _ ⟨?_, h11⟩
          rw [es, hsc, if_neg (by decide), Nat.add_zero, Int32.add_zero]
        · simp only [rq_t1, if_true]
          refine rc_q (c_points _ _) h11 (fun w12 h12 => ?_)
          have ep : ra_rc (1 : Int32) (Int32.ofNat c) (fun r c => if ra_gp r = true ∧ rv_hs s c = true then ra_pt r s (rv_cut 0 G n) b c else -1000003) = Int32.ofNat (ra_bm (rv_cut 0 G n) b s c) := by
            have e : ra_rc (1 : Int32) (Int32.ofNat c) (fun r c => if ra_gp r = true ∧ rv_hs s c = true then ra_pt r s (rv_cut 0 G n) b c else -1000003) = _ := ra_rc_ok (r := 1) (by decide) hc5
            rw [e, if_pos ⟨rfl, hsc⟩, rp_pt1, ra_bo_bm hp.2 hs ra_sub_self hc5 hsc]
          rw [ep, rv_T_lt, rv_T_lt, rv_n_succ]
          refine q2 hc5 _ _ ⟨?_, h12⟩
          rw [es, hsc, if_pos rfl, Int32.ofNat_add]
      · have : c = 5 := by omega
        subst this
        simp only [rv_ge5, if_false]
        refine rc_q c_allVoters h11 (fun w12 h12 => ?_)
        have ens : rv_sm 5 (fun j => if rv_hs s j = true then ra_bm (rv_cut 0 G n) b s j else 0) = rv_sm G n * (rv_mn s * (rv_mn s - 1)) := by
          have := rp_ns (C := s) hp.2 hs
          rw [ra_cut_sm hG] at this
          exact this
        have ev : Int32.ofNat (rv_sm 5 (fun j => if rv_hs s j = true then ra_bm (rv_cut 0 G n) b s j else 0)) = (Int32.ofNat (rv_sm G n) * Int32.ofNat (rv_mn s)) * (Int32.ofNat (rv_mn s) - (1 : Int32)) := by
          rw [ens]
          by_cases z : rv_mn s = 0
          · rw [z, Nat.zero_mul, Nat.mul_zero]
            show (0 : Int32) = (Int32.ofNat (rv_sm G n) * (0 : Int32)) * _
            rw [Int32.mul_zero, Int32.zero_mul]
          · rw [rl_n1 (by omega), ← Int32.ofNat_mul, ← Int32.ofNat_mul, Nat.mul_assoc]
        rw [if_pos ev]
        refine rc_q (c_kemeny _) h12 (fun w13 h13 => ?_)
        rw [ra_iv_nat' (by omega), decide_eq_false (Nat.lt_irrefl _), if_neg (show ¬ (false = true) by decide), if_pos rfl]
        have e6 : ra_one (6 : Int32) (ra_rA s G n b) = Int32.ofNat (rv_mn s - 1) := by
          have e : ra_one (6 : Int32) (ra_rA s G n b) = ra_rA s G n b 6 := ra_one_ok (r := 6) (by decide)
          rw [e]
          unfold ra_rA
          rw [if_pos (by decide)]
          exact congrArg Int32.ofNat (rp_rt6 hs)
        have e7 : ra_one (7 : Int32) (ra_rA s G n b) = Int32.ofNat (ra_rt true (rv_cut 0 G n) b s) := by
          have e : ra_one (7 : Int32) (ra_rA s G n b) = ra_rA s G n b 7 := ra_one_ok (r := 7) (by decide)
          rw [e]
          unfold ra_rA
          rw [if_pos (by decide)]
          rfl
        refine rc_q (c_rounds _) h13 (fun w14 h14 => ?_)
        rw [e6]
        refine rq_jn (fun (k : Int32 → rv_W → rv_R) => ∀ w', rc_I K d s G n b w' → rv_T (k (Int32.ofNat (rv_mn s - 1)) w') (fun v w' => v = 1 ∧ rc_I K d s G n b w')) (fun w15 h15 => ?_) (fun k47 hk47 => ?_)
        · rw [if_pos rfl]
          refine rc_q (c_rounds _) h15 (fun w16 h16 => ?_)
          refine rc_q (c_rounds _) h16 (fun w17 h17 => ?_)
          have h7 := rp_rt7 (n := rv_cut 0 G n) (m := b) hs
          rw [e6, e7, if_neg (fun z => by have := (rv_n_lt (by omega) (by omega)).mp z; omega)]
          exact rv_T_some.mpr ⟨rfl, h17⟩
        · by_cases z : 0 < rv_mn s
          · rw [if_pos (show (0 : Int32) < Int32.ofNat (rv_mn s) from (rv_n_lt (i := 0) (by omega) (by omega)).mpr z), rl_n1 z]
            exact hk47 _ h14
          · rw [if_neg (show ¬ (0 : Int32) < Int32.ofNat (rv_mn s) from fun y => z ((rv_n_lt (i := 0) (by omega) (by omega)).mp y))]
            have := hk47 _ h14
            rw [show rv_mn s - 1 = 0 by omega] at this
            exact this
