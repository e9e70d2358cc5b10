/-! ranked pairs of the model -/
def ra_zm (z : ra_Z) (w : rv_W) : Prop := ∀ k, k < 25 → w 86 k = rv_b2 (z.1 (k / 5) (k % 5)) ∧ w 87 k = rv_b2 (z.2 (k / 5) (k % 5))
theorem ra_gd1 {t : rv_R} : rv_gd ((1 : Int32) = 0 ∨ (1 : Int32) = 1) t = t := if_pos (Or.inr rfl)
theorem ra_gd0 {t : rv_R} : rv_gd ((0 : Int32) = 0 ∨ (0 : Int32) = 1) t = t := if_pos (Or.inl rfl)
theorem ra_locks {k : Nat} {z : ra_Z} {w : rv_W} (hk : k < 25) (h : ra_zm z w) (hne : k / 5 ≠ k % 5) (hc : z.2 (k % 5) (k / 5) = false) : rv_T (f_X11_locks (Int32.ofNat (k / 5)) (Int32.ofNat (k % 5)) w) (fun _ w' => ra_zm (ra_lk z k) w' ∧ ra_fm w w') := by
  have ha : k / 5 < 5 := by omega
  have hb : k % 5 < 5 := by omega
  have ek : 5 * (k / 5) + k % 5 = k := by omega
  unfold f_X11_locks
  simp only [ra_ix5, ek, rv_ck25 hk, rv_nn25 hk, rv_gd, or_true, true_or, if_true, rv_lt]
  have ez : ra_lk z k = (fun x y => z.1 x y || (x == k / 5 && y == k % 5), fun x y => z.2 x y || ((x == k / 5 || z.2 x (k / 5)) && (y == k % 5 || z.2 (k % 5) y))) := by
    unfold ra_lk
    rw [if_neg (by rw [hc]; decide)]
  have n1 : ∀ x, (ra_lk z k).2 x (k / 5) = z.2 x (k / 5) := fun x => by
    rw [ez]; dsimp only; rw [hc, beq_false_of_ne hne, Bool.or_false, Bool.and_false, Bool.or_false]
  have n2 : ∀ y, (ra_lk z k).2 (k % 5) y = z.2 (k % 5) y := fun y => by
    rw [ez]; dsimp only; rw [hc, beq_false_of_ne (Ne.symm hne), Bool.or_false, Bool.false_and, Bool.or_false]
  refine rv_T_for 25 (fun K w' => ra_fm w w' ∧ (∀ j, j < 25 → w' 86 j = rv_b2 ((ra_lk z k).1 (j / 5) (j % 5))) ∧ ∀ j, j < 25 → w' 87 j = rv_b2 (if j < K then (ra_lk z k).2 (j / 5) (j % 5) else z.2 (j / 5) (j % 5))) (fun ag K w' hK hI q => ?_) (by decide) 0 (rv_up w 86 k 1) ⟨ra_fm.refl.up (A := 86) (k := k) (by omega), fun j hj => ?_, fun j hj => ?_⟩ (by omega)
  · obtain ⟨hf, h86, h87⟩ := hI
    by_cases hK25 : K < 25
    · have hx : K / 5 < 5 := by omega
      have hy : K % 5 < 5 := by omega
      have i1 : 5 * (K / 5) + k / 5 < 25 := by omega
      have i2 : 5 * (k % 5) + K % 5 < 25 := by omega
      have r1 : w' 87 (5 * (K / 5) + k / 5) = rv_b2 (z.2 (K / 5) (k / 5)) := by
        rw [h87 _ i1, show (5 * (K / 5) + k / 5) / 5 = K / 5 by omega, show (5 * (K / 5) + k / 5) % 5 = k / 5 by omega, n1, ite_self]
      have r2 : w' 87 (5 * (k % 5) + K % 5) = rv_b2 (z.2 (k % 5) (K % 5)) := by
        rw [h87 _ i2, show (5 * (k % 5) + K % 5) / 5 = k % 5 by omega, show (5 * (k % 5) + K % 5) % 5 = K % 5 by omega, n2, ite_self]
      have r3 : w' 87 K = rv_b2 (z.2 (K / 5) (K % 5)) := by
        rw [h87 _ hK25, if_neg (Nat.lt_irrefl K)]
      simp only [rv_lt25 hK25, if_true, ra_div5 hK25, ra_mod5 hK25, rv_lt, rv_jn, rv_n_succ, rv_ck25 hK25, rv_nn25 hK25, rv_gd, or_true, true_or, rv_eq5 hx ha, rv_eq5 hy hb, ra_ix5, rv_ck25 i1, rv_ck25 i2, rv_nn25 i1, rv_nn25 i2, r1, r2, r3, rv_b2_0]
      have ev : (ra_lk z k).2 (K / 5) (K % 5) = (z.2 (K / 5) (K % 5) || ((K / 5 == k / 5 || z.2 (K / 5) (k / 5)) && (K % 5 == k % 5 || z.2 (k % 5) (K % 5)))) := by rw [ez]
      have fin : ∀ v, v = rv_b2 ((ra_lk z k).2 (K / 5) (K % 5)) → rv_T (ag (Int32.ofNat (K + 1)) (rv_up w' 87 K v)) (fun _ w' => ra_zm (ra_lk z k) w' ∧ ra_fm w w') := fun v hv => q hK25 _ ⟨hf.up (by omega), fun j hj => by rw [rv_up_ne (by decide)]; exact h86 j hj, fun j hj => by
        by_cases e : j = K
        · subst e; rw [rv_up_same, if_pos (by omega), hv]
        · rw [rv_up_of (fun z => e z.2), h87 j hj]
          by_cases e2 : j < K
          · rw [if_pos e2, if_pos (by omega)]
          · rw [if_neg e2, if_neg (by omega)]⟩
      rw [ev] at fin
      cases c1 : z.2 (K / 5) (K % 5)
      · rw [c1] at fin
        by_cases c2 : K / 5 = k / 5
        · by_cases c3 : K % 5 = k % 5
          · simp only [c2, c3, if_true, if_false, Bool.true_eq_false]
            simp only [c2, c3, beq_self_eq_true, Bool.true_or, Bool.and_true, Bool.or_true] at fin
            exact fin _ rfl
          · cases c4 : z.2 (k % 5) (K % 5)
            · simp only [c2, c3, c4, if_true, if_false]
              simp only [c2, c4, beq_false_of_ne c3, beq_self_eq_true, Bool.true_or, Bool.and_false, Bool.or_false] at fin
              exact fin _ rfl
            · simp only [c2, c3, c4, if_true, if_false, Bool.true_eq_false]
              simp only [c2, c4, beq_self_eq_true, Bool.true_or, Bool.and_true, Bool.or_true] at fin
              exact fin _ rfl
        · cases c5 : z.2 (K / 5) (k / 5)
          · simp only [c2, c5, if_true, if_false]
            simp only [c5, beq_false_of_ne c2, Bool.false_and, Bool.or_false] at fin
            exact fin _ rfl
          · by_cases c3 : K % 5 = k % 5
            · simp only [c2, c3, c5, if_true, if_false, Bool.true_eq_false]
              simp only [c3, c5, beq_self_eq_true, Bool.true_or, Bool.and_true, Bool.or_true] at fin
              exact fin _ rfl
            · cases c4 : z.2 (k % 5) (K % 5)
              · simp only [c2, c3, c4, c5, if_true, if_false, Bool.true_eq_false]
                simp only [c4, c5, beq_false_of_ne c3, Bool.and_false, Bool.or_false] at fin
                exact fin _ rfl
              · simp only [c2, c3, c4, c5, if_true, if_false, Bool.true_eq_false]
                simp only [c4, c5, Bool.and_true, Bool.or_true] at fin
                exact fin _ rfl
      · rw [c1] at fin
        simp only [Bool.true_or] at fin
        by_cases c2 : K / 5 = k / 5
        · by_cases c3 : K % 5 = k % 5
          · simp only [c2, c3, if_true, if_false, Bool.true_eq_false]
            exact fin _ rfl
          · cases c4 : z.2 (k % 5) (K % 5)
            · simp only [c2, c3, if_true, if_false, Bool.true_eq_false]
              exact fin _ rfl
            · simp only [c2, c3, if_true, if_false, Bool.true_eq_false]
              exact fin _ rfl
        · cases c5 : z.2 (K / 5) (k / 5)
          · simp only [c2, if_true, if_false, Bool.true_eq_false]
            exact fin _ rfl
          · by_cases c3 : K % 5 = k % 5
            · simp only [c2, c3, if_true, if_false, Bool.true_eq_false]
              exact fin _ rfl
            · cases c4 : z.2 (k % 5) (K % 5)
              · simp only [c2, c3, if_true, if_false, Bool.true_eq_false]
                exact fin _ rfl
              · simp only [c2, c3, if_false, Bool.true_eq_false]
                exact fin _ rfl
    · have : K = 25 := by omega
      subst this
      simp only [rv_ge25, if_false]
      refine rv_T_some.mpr ⟨fun j hj => ⟨h86 j hj, ?_⟩, hf⟩
      rw [h87 j hj, if_pos hj]
  · rw [ez]
    dsimp only
    by_cases e : j = k
    · subst e; rw [rv_up_same]; simp [rv_b2]
    · rw [rv_up_of (fun z => e z.2), (h j hj).1]
      have : (j / 5 == k / 5 && j % 5 == k % 5) = false := by
        rw [Bool.eq_false_iff]
        intro z
        simp only [Bool.and_eq_true, beq_iff_eq] at z
        omega
      rw [this, Bool.or_false]
  · rw [if_neg (by omega), rv_up_ne (by decide), (h j hj).2]
theorem ra_locksAll {G s : Nat} {n m : Nat → Nat} {w : rv_W} (h : ra_ML G n m w) (hs : s < 32) : rv_T (f_X11_locksAll (Int32.ofNat s) w) (fun _ w' => ra_zm (ra_zf (ra_P s n m) (rv_sm 20 n)) w' ∧ ra_fm w w') := by
  have hN := h.1.sum
  unfold f_X11_locksAll
  refine rv_T_for 25 (fun K w' => ra_fm w w' ∧ ∀ j, j < K → w' 86 j = 0 ∧ w' 87 j = 0) (fun ag K w' hK hI q => ?_) (by decide) 0 _ ⟨ra_fm.refl, fun j hj => by omega⟩ (by omega)
  obtain ⟨hf, hI⟩ := hI
  by_cases hK25 : K < 25
  · simp only [rv_lt25 hK25, if_true, rv_ck25 hK25, rv_nn25 hK25, rv_gd, true_or, rv_lt, rv_n_succ]
    refine q hK25 _ ⟨(hf.up (by omega)).up (by omega), fun j hj => ?_⟩
    by_cases e : j = K
    · subst e
      exact ⟨by rw [rv_up_ne (by decide), rv_up_same], rv_up_same⟩
    · obtain ⟨h1, h2⟩ := hI j (by omega)
      exact ⟨by rw [rv_up_ne (by decide), rv_up_of (fun z => e z.2), h1], by rw [rv_up_of (fun z => e z.2), rv_up_ne (by decide), h2]⟩
  · have : K = 25 := by omega
    subst this
    simp only [rv_ge25, if_false]
    have hL := h.fm hf
    rw [ra_allVotes hL.1, rv_bd_some]
    have hz0 : ra_zm ra_z0 w' := fun j hj => ⟨(hI j hj).1, (hI j hj).2⟩
    refine rv_T_fx (α := Int32 → rv_W → rv_R) (σ := Nat × rv_W) (fun t a => a (Int32.ofNat t.1) t.2) (fun t => t.1 ≤ rv_sm 20 n ∧ ra_fm w t.2 ∧ ∃ z : ra_Z, ra_zm z t.2 ∧ (ra_r2 (ra_ld2 (ra_P s n m)) t.1).foldl ra_lk z = ra_zf (ra_P s n m) (rv_sm 20 n)) (fun t => t.1) ?_ rv_FU (rv_sm 20 n, w') (by show rv_sm 20 n < 10000; omega) ⟨Nat.le_refl _, hf, ra_z0, hz0, rfl⟩
    intro ag2 ⟨L, w2⟩ hI2 q2
    obtain ⟨hLN, hf2, z, hz, hzf⟩ := hI2
    dsimp only at hLN hf2 hz hzf q2 ⊢
    have eL : ((0 : Int32) < Int32.ofNat L) = (0 < L) := propext (rv_n_lt (i := 0) (by omega) (by omega))
    simp only [eL]
    cases L with
    | zero =>
      rw [if_neg (Nat.lt_irrefl 0)]
      refine rv_T_some.mpr ⟨?_, hf2⟩
      have hzf' : z = ra_zf (ra_P s n m) (rv_sm 20 n) := hzf
      rw [← hzf']; exact hz
    | succ L =>
      rw [if_pos (Nat.succ_pos L)]
      refine rv_T_for 25 (fun K w' => ra_fm w w' ∧ ∃ z : ra_Z, ra_zm z w' ∧ (ra_r1 (ra_ld2 (ra_P s n m)) (L + 1) (25 - K) ++ ra_r2 (ra_ld2 (ra_P s n m)) L).foldl ra_lk z = ra_zf (ra_P s n m) (rv_sm 20 n)) (fun ag3 K w3 hK hI3 q3 => ?_) (by decide) 0 _ ⟨hf2, z, hz, hzf⟩ (by omega)
      obtain ⟨hf3, z3, hz3, hzf3⟩ := hI3
      have hL3 := h.fm hf3
      by_cases hK25 : K < 25
      · have ha : K / 5 < 5 := by omega
        have hb : K % 5 < 5 := by omega
        have i1 : 5 * (K % 5) + K / 5 < 25 := by omega
        have l1 := @ra_P_le s (K / 5) (K % 5) n m
        have l2 := @ra_P_le s (K % 5) (K / 5) n m
        simp only [rv_lt25 hK25, if_true, ra_div5 hK25, ra_mod5 hK25, rv_lt, rv_jn, rv_n_succ, e_mhasb hs ha, e_mhasb hs hb, rv_bd_some, rv_b2_0, ra_ix5, rv_ck25 i1, rv_nn25 i1]
        have er := @ra_r1_s (ra_ld2 (ra_P s n m)) (L + 1) (24 - K)
        rw [show 24 - K + 1 = 25 - K by omega, show 24 - (24 - K) = K by omega] at er
        rw [er] at hzf3
        have skip : ¬ ra_ld2 (ra_P s n m) K = L + 1 → rv_T (ag3 (Int32.ofNat (K + 1)) w3) (fun _ w' => ra_zm (ra_zf (ra_P s n m) (rv_sm 20 n)) w' ∧ ra_fm w w') := fun hne => by
          rw [if_neg hne] at hzf3
          exact q3 hK25 _ ⟨hf3, z3, hz3, by rw [show 25 - (K + 1) = 24 - K by omega]; exact hzf3⟩
        have off : (rv_hs s (K / 5) = false ∨ rv_hs s (K % 5) = false) → ¬ ra_ld2 (ra_P s n m) K = L + 1 := fun ho => by
          have : ra_P s n m (K / 5) (K % 5) = 0 := ra_S_zero (fun g _ _ => by rcases ho with ho | ho <;> rw [ho] <;> simp)
          unfold ra_ld2
          omega
        cases h1 : rv_hs s (K / 5)
        · simp only [if_true]
          exact skip (off (Or.inl h1))
        · cases h2 : rv_hs s (K % 5)
          · simp only [if_true, if_false, Bool.true_eq_false]
            exact skip (off (Or.inr h2))
          · simp only [if_false, Bool.true_eq_false, hL3.p ha hb h1 h2, hL3.p hb ha h2 h1, rv_bd_some, ra_leadeq (show ra_P s n m (K / 5) (K % 5) ≤ 2000 by omega) (show ra_P s n m (K % 5) (K / 5) ≤ 2000 by omega) (show L + 1 ≤ 2000 by omega) (Nat.succ_pos L)]
            by_cases q4 : ra_P s n m (K / 5) (K % 5) - ra_P s n m (K % 5) (K / 5) = L + 1
            · have q4' : ra_ld2 (ra_P s n m) K = L + 1 := q4
              rw [if_pos q4', List.cons_append, List.foldl_cons] at hzf3
              have hne := ra_ld2_ne (p := ra_P s n m) (k := K) (by omega)
              have e2 := (hz3 _ i1).2
              rw [show (5 * (K % 5) + K / 5) / 5 = K % 5 by omega, show (5 * (K % 5) + K / 5) % 5 = K / 5 by omega] at e2
              simp only [q4, if_true, e2, rv_b2_0]
              rw [if_neg (by decide)]
              by_cases h5 : z3.2 (K % 5) (K / 5) = false
              · rw [if_pos h5]
                refine rv_T_call (ra_locks hK25 hz3 hne h5) (fun _ w4 h4 => ?_)
                exact q3 hK25 _ ⟨hf3.trans h4.2, ra_lk z3 K, h4.1, by rw [show 25 - (K + 1) = 24 - K by omega]; exact hzf3⟩
              · rw [if_neg h5]
                have ez : ra_lk z3 K = z3 := by
                  unfold ra_lk
                  rw [if_pos (by simpa using h5)]
                rw [ez] at hzf3
                exact q3 hK25 _ ⟨hf3, z3, hz3, by rw [show 25 - (K + 1) = 24 - K by omega]; exact hzf3⟩
            · simp only [q4, if_false, if_true]
              exact skip q4
      · have : K = 25 := by omega
        subst this
        simp only [rv_ge25, if_false, rv_lt]
        have e1 : Int32.ofNat (L + 1) + (-1 : Int32) = Int32.ofNat L := by
          rw [Int32.ofNat_add, Int32.add_assoc]
          exact Int32.add_zero _
        rw [e1]
        exact q2 (L, w3) ⟨by dsimp only; omega, hf3, z3, hz3, hzf3⟩ (Nat.lt_succ_self L)
theorem ra_rankedPairs {G s : Nat} {n m : Nat → Nat} {w : rv_W} (h : ra_ML G n m w) (hs : s < 32) : rv_T (f_X11_rankedPairs (Int32.ofNat s) w) (fun v w' => v = Int32.ofNat (ra_rw s (ra_zf (ra_P s n m) (rv_sm 20 n))) ∧ ra_fm w w') := by
  unfold f_X11_rankedPairs
  refine rv_T_call (ra_locksAll h hs) (fun _ w2 ⟨hz, hf⟩ => ?_)
  obtain ⟨z, ez⟩ : ∃ z, z = ra_zf (ra_P s n m) (rv_sm 20 n) := ⟨_, rfl⟩
  rw [← ez] at hz ⊢
  refine rv_T_of (r := Int32.ofNat (ra_rw s z)) (w := w2) ?_ ⟨rfl, hf⟩
  refine rv_E1 5 (fun k => Int32.ofNat (rv_ms k (fun a => rv_hs s a && rv_al 5 (fun b => !z.1 b a)))) (fun _ => w2) _ _ rfl rfl (fun ag a ha => ?_) (fun ag => ?_) (by decide)
  · simp only [rv_lt5 ha, if_true, e_mhasb hs ha, rv_bd_some]
    refine rv_E1 5 (fun k => rv_b2 (rv_hs s a && rv_al k (fun b => !z.1 b a))) (fun _ => w2) _ _ rfl (by rw [rv_al, Bool.and_true]) (fun ag2 b hb => ?_) (fun ag2 => ?_) (by decide)
    · have i1 : 5 * b + a < 25 := by omega
      have e1 := (hz _ i1).1
      rw [show (5 * b + a) / 5 = b by omega, show (5 * b + a) % 5 = a by omega] at e1
      simp only [rv_lt5 hb, if_true, rv_b2_0, rv_lt, rv_n_succ, rv_al_s, ra_ix5, rv_ck25 i1, rv_nn25 i1, e1]
      cases h1 : rv_hs s a
      · simp [rv_b2]
      · cases h2 : rv_al b (fun b => !z.1 b a)
        · simp [rv_b2]
        · cases h3 : z.1 b a
          · simp [rv_b2]
          · simp [rv_b2]
    · simp only [rv_ge5, if_false, rv_b2_0, rv_lt, rv_n_succ, ra_ms_or ha, rv_or0, rv_ms_s]
      cases rv_hs s a && rv_al 5 (fun b => !z.1 b a) <;> simp
  · rw [if_neg (by decide)]; rfl
