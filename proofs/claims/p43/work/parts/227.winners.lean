/-! all rules -/
def ra_bw (s : Nat) (n m : Nat → Nat) : Nat := if ra_ln (ra_ba s (ra_P s n m)) 5 = 5 then ra_mo s (ra_pt 1 s n m) else 2 ^ ra_ln (ra_ba s (ra_P s n m)) 5
def ra_W (rule s : Nat) (n m : Nat → Nat) : Nat := if rule = 3 then ra_mo s (fun c => -(ra_pt 3 s n m c)) else if rule = 4 then ra_sc s (ra_P s n m) else if rule = 5 then ra_rw s (ra_zf (ra_P s n m) (rv_sm 20 n)) else if rule = 6 then ra_an false n m s else if rule = 7 then ra_an true n m s else if rule = 9 then ra_bw s n m else if rule = 10 then ra_nf n m 5 s else if rule = 11 then ra_lds (ra_P s n m) s else ra_mo s (ra_pt rule s n m)
theorem rv_fr.fl {A k : Nat} {f : Nat → Int32} {w : rv_W} (h : 53 ≤ A ∧ A ≤ 76) : rv_fr 53 76 w (rv_fl A k f w) := rv_fl_fr h
theorem ra_ln5 {q : Nat → Bool} : ra_ln q 5 ≤ 5 := by
  rcases ra_ln_le (q := q) (k := 5) (by omega) with e | e
  · exact Nat.le_of_eq e
  · exact Nat.le_of_lt e.1
theorem ra_winnersBy {rule s : Nat} {n m : Nat → Nat} {w : rv_W} (h : ra_PQ s n m w) (hr : rule < 12) : rv_T (f_X7_winnersBy (Int32.ofNat rule) w) (fun v w' => v = Int32.ofNat (ra_W rule s n m) ∧ rv_fr 53 76 w w') := by
  have hs := h.s32
  have rl : ∀ k, k < 12 → (Int32.ofNat rule = Int32.ofNat k) = (rule = k) := fun k hk => ra_rl hr hk
  have r3 : (Int32.ofNat rule = 3) = (rule = 3) := rl 3 (by omega)
  have r4 : (Int32.ofNat rule = 4) = (rule = 4) := rl 4 (by omega)
  have r5 : (Int32.ofNat rule = 5) = (rule = 5) := rl 5 (by omega)
  have r6 : (Int32.ofNat rule = 6) = (rule = 6) := rl 6 (by omega)
  have r7 : (Int32.ofNat rule = 7) = (rule = 7) := rl 7 (by omega)
  have r8 : (Int32.ofNat rule = 8) = (rule = 8) := rl 8 (by omega)
  have r9 : (Int32.ofNat rule = 9) = (rule = 9) := rl 9 (by omega)
  have r10 : (Int32.ofNat rule = 10) = (rule = 10) := rl 10 (by omega)
  have r11 : (Int32.ofNat rule = 11) = (rule = 11) := rl 11 (by omega)
  have hf55 : ∀ f, rv_fr 53 76 w (rv_fl 55 5 f w) := fun f => rv_fl_fr (by omega)
  unfold f_X7_winnersBy
  rw [rv_T_jn, rv_T_jn]
  simp only [r3, r4, r5, r6, r7, r8, r9, r10, r11]
  unfold ra_W
  by_cases q3 : rule = 3
  · rw [if_pos q3, if_pos q3]
    have e := ra_take (rule := rule) h hr
    have hP := h.fl (A := 55) (k := 5) (f := ra_pt rule s n m) (by omega)
    rw [e, rv_bd_some, hP.st, ra_cfewest (x := ra_pt rule s n m) hs (fun c hc _ => rv_fl_at hc), rv_bd_some]
    exact rv_T_some.mpr ⟨by rw [q3], hf55 _⟩
  · rw [if_neg q3, if_neg q3]
    by_cases q4 : rule = 4
    · rw [if_pos q4, if_pos q4]
      refine rv_T_call (ra_strengths h) (fun _ w2 hw2 => ?_)
      have hP : ra_PQ s n m w2 := h.fr (fun c j _ _ => hw2.ge c j (by omega))
      rw [ra_strongest hP (fun a b ha hb => hw2.2 a b ha hb), rv_bd_some]
      exact rv_T_some.mpr ⟨rfl, fun c j z => hw2.1 c j (by omega)⟩
    · rw [if_neg q4, if_neg q4]
      by_cases q5 : rule = 5
      · rw [if_pos q5, if_pos q5]
        refine rv_T_call (ra_lockPairs h) (fun _ w2 hw2 => ?_)
        have hP : ra_PQ s n m w2 := h.fr (fun c j _ _ => hw2.2 c j (by omega) (by omega))
        rw [ra_sources hP hw2.1, rv_bd_some]
        exact rv_T_some.mpr ⟨rfl, fun c j z => hw2.2 c j (by omega) (by omega)⟩
      · rw [if_neg q5, if_neg q5]
        by_cases q6 : rule = 6
        · rw [if_pos q6, if_pos q6]
          refine rv_T_call (ra_play (cb := false) h (by rw [q6]; rfl)) (fun v w2 hw2 => ?_)
          exact rv_T_some.mpr ⟨hw2.1, hw2.2.1⟩
        · rw [if_neg q6, if_neg q6]
          by_cases q7 : rule = 7
          · rw [if_pos q7, if_pos q7]
            refine rv_T_call (ra_play (cb := true) h (by rw [q7]; rfl)) (fun v w2 hw2 => ?_)
            exact rv_T_some.mpr ⟨hw2.1, hw2.2.1⟩
          · rw [if_neg q7, if_neg q7]
            by_cases q9 : rule = 9
            · rw [if_pos q9, if_pos q9, ra_champion h, rv_bd_some]
              have e := ra_take (rule := 1) h (by omega)
              have e' : f_X4_take 1 w = _ := e
              have hP := h.fl (A := 55) (k := 5) (f := ra_pt 1 s n m) (by omega)
              rw [e', rv_bd_some, ra_ln_lst (by omega)]
              simp only [ra_n5_m1 ra_ln5]
              unfold ra_bw
              by_cases q : ra_ln (ra_ba s (ra_P s n m)) 5 = 5
              · rw [if_pos q, if_pos q, hP.st, ra_cmost (x := ra_pt 1 s n m) hs (fun c hc _ => rv_fl_at hc), rv_bd_some]
                exact rv_T_some.mpr ⟨rfl, hf55 _⟩
              · rw [if_neg q, if_neg q]
                refine rv_T_some.mpr ⟨?_, hf55 _⟩
                have := @ra_ln5 (ra_ba s (ra_P s n m))
                unfold ra_n5
                rw [if_neg q, rv_shl (by omega)]
            · rw [if_neg q9, if_neg q9]
              by_cases q10 : rule = 10
              · rw [if_pos q10, if_pos q10]
                refine rv_T_call (ra_cnanson h) (fun v w2 hw2 => ?_)
                exact rv_T_some.mpr hw2
              · rw [if_neg q10, if_neg q10]
                by_cases q11 : rule = 11
                · rw [if_pos q11, if_pos q11]
                  refine rv_T_call (ra_weigh h) (fun v w2 hw2 => ?_)
                  have hP : ra_PQ s n m w2 := h.fr (fun c j _ _ => hw2.1 c j (by omega))
                  rw [hP.st, ra_leaders hP hw2.2 hs (fun _ _ z => z), rv_bd_some]
                  exact rv_T_some.mpr ⟨rfl, hw2.1.wide (by omega) (by omega)⟩
                · rw [if_neg q11, if_neg q11]
                  have e := ra_take (rule := rule) h hr
                  have hP := h.fl (A := 55) (k := 5) (f := ra_pt rule s n m) (by omega)
                  rw [ite_self, e, rv_bd_some, hP.st, ra_cmost (x := ra_pt rule s n m) hs (fun c hc _ => rv_fl_at hc), rv_bd_some]
                  exact rv_T_some.mpr ⟨rfl, hf55 _⟩
/-! what holds of all winners -/
theorem ra_mo_ok {s : Nat} {x : Nat → Int32} (hs : s < 32) : ra_mo s x < 32 ∧ ra_sub (ra_mo s x) s ∧ (s ≠ 0 → ra_mo s x ≠ 0) := by
  refine ⟨ra_mo_lt, fun c hc h => ?_, fun h0 => ?_⟩
  · unfold ra_mo at h
    rw [rv_ms_hs hc, Bool.and_eq_true] at h
    exact h.1
  · obtain ⟨a, ha, hsa, h⟩ := ra_src (R := fun b a => decide (x a < x b)) hs h0 (fun a _ => decide_eq_false (by rw [Int32.lt_iff_toInt_lt]; omega)) (fun a b c _ _ _ h1 h2 => by
      rw [decide_eq_true_eq, Int32.lt_iff_toInt_lt] at *
      omega)
    refine ra_ms_ne ha ?_
    rw [hsa, Bool.true_and, rv_al_iff]
    intro b hb
    cases hsb : rv_hs s b
    · rfl
    · rw [h b hb hsb]; rfl
theorem ra_cs_ok {cb : Bool} {n m : Nat → Nat} {s : Nat} (hs : s < 32) : ∃ C, ra_at cb n m s (ra_rt cb n m s) C ∧ ra_stp cb n m C = true := by
  have key : ∀ k i C, i + k = 5 → ra_at cb n m s i C → ∃ C, ra_at cb n m s (ra_rt cb n m s) C ∧ ra_stp cb n m C = true := by
    intro k
    induction k with
    | zero =>
      intro i C hi h
      have hst : ra_stp cb n m C = true := by
        unfold ra_stp
        rw [decide_eq_true (h.2.2.2.2.2.2.2 (by omega))]; rfl
      exact ⟨C, by rw [(ra_at_stop h hst).1]; exact h, hst⟩
    | succ k ih =>
      intro i C hi h
      by_cases q : ra_stp cb n m C = true
      · exact ⟨C, by rw [(ra_at_stop h q).1]; exact h, q⟩
      · exact ih (i + 1) _ (by omega) (ra_at_next h q).1
  exact key 5 0 s (by omega) (ra_at_0 hs)
theorem ra_an_ok {cb : Bool} {n m : Nat → Nat} {s : Nat} (hs : s < 32) : ra_an cb n m s < 32 ∧ ra_sub (ra_an cb n m s) s ∧ (s ≠ 0 → ra_an cb n m s ≠ 0) := by
  obtain ⟨C, hat, hst⟩ := ra_cs_ok (cb := cb) (n := n) (m := m) hs
  rw [(ra_at_stop hat hst).2]
  have hor : rv_mn C ≤ 1 ∨ ra_mj n m C ≠ 5 := by
    unfold ra_stp at hst
    simp only [Bool.or_eq_true, Bool.and_eq_true, decide_eq_true_eq] at hst
    rcases hst with h | h
    · exact Or.inl h
    · exact Or.inr h.2
  have hl := ra_an_lt (cb := cb) hat.1 hor
  refine ⟨hl.1, fun c hc h => ?_, fun h0 => hl.2 (hat.2.2.2.2.2.2.1 h0)⟩
  unfold ra_en at h
  by_cases q : rv_mn C ≤ 1
  · rw [if_pos q] at h; exact hat.2.1 c hc h
  · rw [if_neg q] at h
    have hne := hor.resolve_left q
    rcases ra_ln_le (q := ra_mq n m C) (k := 5) (by omega) with e | e
    · exact absurd e hne
    · have e1 : ra_mj n m C < 5 := e.1
      rw [rv_hs_pow e1 hc, beq_iff_eq] at h
      subst h
      have e2 : ra_mq n m C (ra_mj n m C) = true := e.2
      unfold ra_mq at e2
      rw [decide_eq_true_eq] at e2
      refine hat.2.1 _ hc ?_
      cases z : rv_hs C (ra_mj n m C)
      · unfold ra_KC at e2
        rw [if_neg (by rw [z]; decide)] at e2
        omega
      · rfl
theorem ra_W_ok {rule s : Nat} {n m : Nat → Nat} (hs : s < 32) : ra_W rule s n m < 32 ∧ ra_sub (ra_W rule s n m) s ∧ (s ≠ 0 → ra_W rule s n m ≠ 0) := by
  unfold ra_W
  split
  · exact ra_mo_ok hs
  split
  · refine ⟨rv_ms_lt, fun c hc h => ?_, fun h0 => ra_sc_ne hs h0⟩
    unfold ra_sc at h
    rw [rv_ms_hs hc, Bool.and_eq_true] at h
    exact h.1
  split
  · refine ⟨rv_ms_lt, fun c hc h => ?_, fun h0 => ra_rw_ne hs h0 (fun a b => ra_P_le) (fun a b h => ra_S_zero (fun g _ _ => by rw [h]; simp))⟩
    unfold ra_rw at h
    rw [rv_ms_hs hc, Bool.and_eq_true] at h
    exact h.1
  split
  · exact ra_an_ok hs
  split
  · exact ra_an_ok hs
  split
  · unfold ra_bw
    by_cases q : ra_ln (ra_ba s (ra_P s n m)) 5 = 5
    · rw [if_pos q]; exact ra_mo_ok hs
    · rw [if_neg q]
      rcases ra_ln_le (q := ra_ba s (ra_P s n m)) (k := 5) (by omega) with e | e
      · exact absurd e q
      · refine ⟨rv_pow_lt e.1, fun c hc h => ?_, fun _ => Nat.ne_of_gt (Nat.two_pow_pos _)⟩
        rw [rv_hs_pow e.1 hc, beq_iff_eq] at h
        subst h
        have e2 := e.2
        unfold ra_ba at e2
        rw [Bool.and_eq_true] at e2
        exact e2.1
  split
  · exact ra_nf_ok hs
  split
  · refine ⟨ra_lds_lt, fun c hc h => ?_, fun h0 => ra_lds_ne hs h0⟩
    unfold ra_lds at h
    rw [rv_ms_hs hc, Bool.and_eq_true] at h
    exact h.1
  · exact ra_mo_ok hs
/-- the winner, or 5 -/
def ra_w (rule s : Nat) (n m : Nat → Nat) : Nat := rv_lo (ra_W rule s n m)
theorem ra_w_in {rule s : Nat} {n m : Nat → Nat} (hs : s < 32) (h0 : s ≠ 0) : ra_w rule s n m < 5 ∧ rv_hs s (ra_w rule s n m) = true := by
  have h := ra_W_ok (rule := rule) (n := n) (m := m) hs
  have h2 := ra_lo_ok h.1 (h.2.2 h0)
  exact ⟨h2.1, h.2.1 _ h2.1 h2.2.1⟩
theorem ra_W0 {rule : Nat} {n m : Nat → Nat} : ra_W rule 0 n m = 0 := by
  have h := ra_W_ok (rule := rule) (s := 0) (n := n) (m := m) (by decide)
  refine rv_hs_ext h.1 (by decide) (fun c hc => ?_)
  rw [ra_hs0]
  cases q : rv_hs (ra_W rule 0 n m) c
  · rfl
  · have := h.2.1 c hc q
    rw [ra_hs0] at this
    cases this
/-- the answer of the class, of the model -/
def ra_wc (rule s : Nat) (n m : Nat → Nat) : Int32 := if s = 0 then -1000000 else Int32.ofNat (ra_w rule s n m)
def ra_wm (rule s : Nat) (n m : Nat → Nat) : Int32 := if s = 0 then -1 else Int32.ofNat (ra_w rule s n m)
theorem ra_winnerBy {rule s : Nat} {n m : Nat → Nat} {w : rv_W} (h : ra_PQ s n m w) (hr : rule < 12) : rv_T (f_X7_winnerBy (Int32.ofNat rule) w) (fun v w' => v = ra_wc rule s n m ∧ rv_fr 53 76 w w') := by
  have hs := h.s32
  have hW := ra_W_ok (rule := rule) (n := n) (m := m) hs
  unfold f_X7_winnerBy
  refine rv_T_call (ra_winnersBy h hr) (fun v w2 ⟨hv, hf⟩ => ?_)
  rw [hv, e_lowest hW.1, rv_bd_some]
  unfold ra_wc
  by_cases q : s = 0
  · subst q
    rw [ra_W0]
    exact ⟨_, _, rfl, rfl, hf⟩
  · have hne := hW.2.2 q
    have h5 := (ra_w_in (rule := rule) (n := n) (m := m) hs q).1
    rw [if_neg hne, if_neg q]
    have e : ¬ Int32.ofNat (rv_lo (ra_W rule s n m)) = -1 := fun z => by
      have := congrArg Int32.toInt z
      rw [rv_n_int (by unfold ra_w at h5; omega), show (-1 : Int32).toInt = -1 from rfl] at this
      omega
    rw [if_neg e]
    exact ⟨_, _, rfl, rfl, hf⟩
/-! the model -/
/-- what the rules leave beside their answer -/
def ra_ap (rule s : Nat) (n m : Nat → Nat) (w' : rv_W) : Prop := (rule < 4 ∨ rule = 8 → ∀ c, c < 5 → rv_hs s c = true → w' 84 c = ra_pt rule s n m c) ∧ (rule = 6 → ra_mrec false n m s (ra_rt false n m s) w') ∧ (rule = 7 → ra_mrec true n m s (ra_rt true n m s) w') ∧ (rule = 11 → s ≠ 0 → w' 78 19 = Int32.ofNat (ra_V (ra_P s n m) 5 s) ∧ ∀ j, j < rv_mn s → w' 92 j = Int32.ofNat (ra_gd (ra_gl (ra_P s n m) 5 s) j))
