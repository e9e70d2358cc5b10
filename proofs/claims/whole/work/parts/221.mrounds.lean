/-! the model's rounds -/
def ra_mrec (cb : Bool) (n m : Nat → Nat) (s i : Nat) (w : rv_W) : Prop := w 78 15 = Int32.ofNat i ∧ ∀ j, j < i → w 88 j = Int32.ofNat (ra_out cb n m (ra_cs cb n m s j)) ∧ w 90 j = Int32.ofNat (ra_cs cb n m s j) ∧ ∀ c, c < 5 → w 89 (5 * j + c) = Int32.ofNat (ra_x cb n m (ra_cs cb n m s j) c)
theorem ra_mrec.keep {cb : Bool} {n m : Nat → Nat} {s i : Nat} {w w' : rv_W} (h : ra_mrec cb n m s i w) (e1 : w' 78 15 = w 78 15) (e2 : ∀ c j, 88 ≤ c → c ≤ 90 → w' c j = w c j) : ra_mrec cb n m s i w' := by
  refine ⟨by rw [e1, h.1], fun j hj => ?_⟩
  obtain ⟨g1, g2, g3⟩ := h.2 j hj
  exact ⟨by rw [e2 _ _ (by omega) (by omega), g1], by rw [e2 _ _ (by omega) (by omega), g2], fun c hc => by rw [e2 _ _ (by omega) (by omega), g3 c hc]⟩
theorem ra_leave {cb : Bool} {n m : Nat → Nat} {s i : Nat} {w : rv_W} (hi : i < 5) (h : ra_mrec cb n m s i w) (hx : ∀ c, c < 5 → w 84 c = Int32.ofNat (ra_x cb n m (ra_cs cb n m s i) c)) : rv_T (f_X11_leave (Int32.ofNat (ra_cs cb n m s i)) (Int32.ofNat (ra_out cb n m (ra_cs cb n m s i))) w) (fun _ w' => ra_fm w w' ∧ ra_mrec cb n m s (i + 1) w') := by
  unfold f_X11_leave
  simp only [h.1, rv_ck5 hi, rv_nn5 hi, rv_up_ne (show (78 : Nat) ≠ 90 by decide), rv_lt]
  refine rv_T_for 5 (fun c w' => ra_fm w w' ∧ w' 78 15 = Int32.ofNat i ∧ (∀ j, j < i → w' 88 j = Int32.ofNat (ra_out cb n m (ra_cs cb n m s j)) ∧ w' 90 j = Int32.ofNat (ra_cs cb n m s j) ∧ ∀ c, c < 5 → w' 89 (5 * j + c) = Int32.ofNat (ra_x cb n m (ra_cs cb n m s j) c)) ∧ w' 88 i = Int32.ofNat (ra_out cb n m (ra_cs cb n m s i)) ∧ w' 90 i = Int32.ofNat (ra_cs cb n m s i) ∧ (∀ d, d < 5 → w' 84 d = w 84 d) ∧ ∀ d, d < c → w' 89 (5 * i + d) = Int32.ofNat (ra_x cb n m (ra_cs cb n m s i) d)) (fun ag c w' hc hI q => ?_) (by decide) 0 (rv_up (rv_up w 90 i (Int32.ofNat (ra_cs cb n m s i))) 88 i (Int32.ofNat (ra_out cb n m (ra_cs cb n m s i)))) ⟨?_, ?_, fun j hj => ?_, rv_up_same, ?_, fun d hd => ?_, fun d hd => by omega⟩ (by omega)
  · obtain ⟨hf, h1, h2, h3, h4, h5, h6⟩ := hI
    by_cases hc5 : c < 5
    · have i1 : 5 * i + c < 25 := by omega
      simp only [rv_lt5 hc5, if_true, rv_ck5 hc5, rv_nn5 hc5, h1, ra_ix5, rv_ck25 i1, rv_nn25 i1, h5 c hc5, hx c hc5, rv_n_succ]
      refine q hc5 _ ⟨hf.up (by omega), by rw [rv_up_ne (by decide), h1], fun j hj => ?_, by rw [rv_up_ne (by decide), h3], by rw [rv_up_ne (by decide), h4], fun d hd => by rw [rv_up_ne (by decide), h5 d hd], fun d hd => ?_⟩
      · obtain ⟨g1, g2, g3⟩ := h2 j hj
        exact ⟨by rw [rv_up_ne (by decide), g1], by rw [rv_up_ne (by decide), g2], fun d hd => by rw [rv_up_of (by omega), g3 d hd]⟩
      · by_cases e : d = c
        · subst e; rw [rv_up_same]
        · rw [rv_up_of (by omega), h6 d (by omega)]
    · have : c = 5 := by omega
      subst this
      simp only [rv_ge5, if_false, h1, rv_n_succ]
      refine rv_T_some.mpr ⟨hf.up (by omega), rv_up_same, fun j hj => ?_⟩
      by_cases e : j = i
      · subst e
        exact ⟨by rw [rv_up_ne (by decide), h3], by rw [rv_up_ne (by decide), h4], fun d hd => by rw [rv_up_ne (by decide), h6 d hd]⟩
      · obtain ⟨g1, g2, g3⟩ := h2 j (by omega)
        exact ⟨by rw [rv_up_ne (by decide), g1], by rw [rv_up_ne (by decide), g2], fun d hd => by rw [rv_up_ne (by decide), g3 d hd]⟩
  · exact (ra_fm.refl.up (A := 90) (by omega)).up (by omega)
  · rw [rv_up_ne (by decide), rv_up_ne (by decide), h.1]
  · obtain ⟨g1, g2, g3⟩ := h.2 j hj
    exact ⟨by rw [rv_up_of (by omega), rv_up_ne (by decide), g1], by rw [rv_up_ne (by decide), rv_up_of (by omega), g2], fun d hd => by rw [rv_up_ne (by decide), rv_up_ne (by decide), g3 d hd]⟩
  · rw [rv_up_ne (by decide), rv_up_same]
  · rw [rv_up_ne (by decide), rv_up_ne (by decide)]
theorem ra_xorbit {C c : Nat} (hC : C < 32) (hc : c < 5) (h : rv_hs C c = true) : Int32.ofNat C ^^^ ((1 : Int32) <<< (Int32.ofNat c &&& 31)) = Int32.ofNat (rv_wo C c) := by
  have key := rv_all2 (p := fun C c => !rv_hs C c || decide (Int32.ofNat C ^^^ ((1 : Int32) <<< (Int32.ofNat c &&& 31)) = Int32.ofNat (rv_wo C c))) (l := List.range 32) (m := List.range 5) (by decide +kernel) (rv_rg hC) (rv_rg hc)
  rw [h, Bool.not_true, Bool.false_or] at key
  exact of_decide_eq_true key
theorem ra_minstant {G s : Nat} {n m : Nat → Nat} {w : rv_W} (h : ra_ML G n m w) (hs : s < 32) : rv_T (f_X11_instant (Int32.ofNat s) w) (fun v w' => v = Int32.ofNat (ra_an false n m s) ∧ ra_fm w w' ∧ ra_mrec false n m s (ra_rt false n m s) w') := by
  have hN := h.1.sum
  unfold f_X11_instant
  rw [rv_T_lt]
  refine rv_T_fx (α := Int32 → rv_W → rv_R) (σ := (Nat × Nat) × rv_W) (fun t a => a (Int32.ofNat t.1.2) t.2) (fun t => ra_at false n m s t.1.1 t.1.2 ∧ ra_fm w t.2 ∧ ra_mrec false n m s t.1.1 t.2) (fun t => 5 - t.1.1) ?_ rv_FU ((0, s), rv_up w 78 15 0) (by show 5 - 0 < 10000; omega) ⟨ra_at_0 hs, ra_fm.refl.up (by omega), (show ra_mrec false n m s 0 (rv_up w 78 15 0) from ⟨rv_up_same, fun j hj => absurd hj (Nat.not_lt_zero j)⟩)⟩
  intro ag ⟨⟨i, C⟩, w'⟩ hI q
  obtain ⟨hat, hf, hrec⟩ := hI
  dsimp only at hat hf hrec q ⊢
  have hC := hat.1
  have hL := h.fm hf
  have hcs := hat.2.2.1
  have e1 : ((1 : Int32) < Int32.ofNat (rv_mn C)) = (1 < rv_mn C) := propext (rv_n_lt (i := 1) (by omega) (by have := @rv_mn_le C; omega))
  simp only [e_many hC, rv_bd_some, e1]
  by_cases hm : 1 < rv_mn C
  · rw [if_pos hm]
    have hst : ¬ ra_stp false n m C = true := fun z => by
      unfold ra_stp at z
      rw [decide_eq_false (by omega)] at z
      cases z
    obtain ⟨o1, o2⟩ := ra_out_in (cb := false) (n := n) (m := m) hC (by omega)
    have hnx := ra_at_next hat hst
    have ep := ra_pointsOfFirst (k := 1) hL.1 hC (by omega)
    have ep' : f_X11_pointsOfFirst (Int32.ofNat C) 1 w' = _ := ep
    rw [ep', rv_bd_some]
    refine rv_T_for1 5 (fun k x w2 => x = ra_n5 (ra_o1 false C (ra_x false n m C) k).1 ∧ w2 = rv_fl 84 5 (fun c => Int32.ofNat (ra_KC n m C 1 c)) w') (fun ag2 k x w2 hk hI2 q2 => ?_) (by decide) 0 _ _ ⟨rfl, rfl⟩ (by omega)
    obtain ⟨rfl, rfl⟩ := hI2
    by_cases hk5 : k < 5
    · have l1 := @ra_x_le false n m C k
      have e := @ra_o1_s false C k (ra_x false n m C)
      have n5k : ra_n5 k = Int32.ofNat k := if_neg (by omega)
      have hle := ra_o1_1 (cb := false) (C := C) (x := ra_x false n m C) (k := k) (by omega)
      simp only [rv_lt5 hk5, if_true, e_mhasb hC hk5, rv_bd_some, rv_b2_0, rv_lt, rv_jn, rv_n_succ, rv_ck5 hk5, rv_nn5 hk5, ra_n5_neg hle]
      cases h1 : rv_hs C k
      · rw [if_neg (fun z => by rw [h1] at z; cases z.1)] at e
        rw [if_pos rfl]
        exact q2 hk5 _ _ ⟨by rw [e], rfl⟩
      · rw [if_neg (show ¬ true = false by decide)]
        by_cases h2 : (ra_o1 false C (ra_x false n m C) k).1 = 5
        · rw [if_pos ⟨h1, Or.inl h2⟩] at e
          rw [if_pos h2]
          exact q2 hk5 _ _ ⟨by rw [e]; exact n5k.symm, rfl⟩
        · rw [if_neg h2]
          have ho := (ra_o1_ok (cb := false) (C := C) (x := ra_x false n m C) (k := k) (by omega)).resolve_left (fun z => h2 (by rw [z.1]))
          have ho5 : (ra_o1 false C (ra_x false n m C) k).1 < 5 := by omega
          have en : ra_n5 (ra_o1 false C (ra_x false n m C) k).1 = Int32.ofNat (ra_o1 false C (ra_x false n m C) k).1 := if_neg h2
          have v1 : Int32.ofNat (ra_KC n m C 1 (ra_o1 false C (ra_x false n m C) k).1) = Int32.ofNat (ra_o1 false C (ra_x false n m C) k).2 := by rw [ho.2.2]; rfl
          have l2 := @ra_o1_le false n m C k 2000 hN
          have e3 : (Int32.ofNat (ra_o1 false C (ra_x false n m C) k).2 < Int32.ofNat (ra_KC n m C 1 k)) = ((ra_o1 false C (ra_x false n m C) k).2 < ra_x false n m C k) := propext (rv_n_lt (by omega) (by have := @ra_KC_le n m C 1 k; omega))
          rw [en, rv_ck5 ho5, rv_nn5 ho5, rv_fl_at ho5, rv_fl_at hk5, v1]
          simp only [e3]
          by_cases h3 : (ra_o1 false C (ra_x false n m C) k).2 < ra_x false n m C k
          · rw [if_neg (fun z => z.2.elim h2 (fun z => by rw [if_neg (by decide)] at z; omega))] at e
            rw [if_pos h3]
            exact q2 hk5 _ _ ⟨by rw [e, en], rfl⟩
          · rw [if_pos ⟨h1, Or.inr (by rw [if_neg (by decide)]; omega)⟩] at e
            rw [if_neg h3]
            exact q2 hk5 _ _ ⟨by rw [e]; exact n5k.symm, rfl⟩
    · have : k = 5 := by omega
      subst this
      simp only [rv_ge5, if_false]
      have eo : ra_n5 (ra_o1 false C (ra_x false n m C) 5).1 = Int32.ofNat (ra_out false n m C) := if_neg (by unfold ra_out at o1; omega)
      rw [eo]
      have hrec2 : ra_mrec false n m s i (rv_fl 84 5 (fun c => Int32.ofNat (ra_KC n m C 1 c)) w') := hrec.keep (rv_fl_ne (by decide)) (fun c j z1 z2 => rv_fl_ne (by omega))
      have lv := ra_leave hnx.2 hrec2 (fun c hc => by rw [rv_fl_at hc, ← hcs]; rfl)
      rw [← hcs] at lv
      refine rv_T_call lv (fun _ w3 h3 => ?_)
      rw [rv_T_lt, ra_xorbit hC o1 o2]
      exact q ((i + 1, ra_nx false n m C), w3) ⟨hnx.1, (hf.fl (A := 84) (by omega)).trans h3.1, h3.2⟩ (by dsimp only; have := hnx.2; omega)
  · rw [if_neg hm]
    have hst : ra_stp false n m C = true := by
      unfold ra_stp
      rw [decide_eq_true (by omega)]; rfl
    refine rv_T_some.mpr ⟨?_, hf, ?_⟩
    · rw [(ra_at_stop hat hst).2]
      unfold ra_en
      rw [if_pos (by omega)]
    · rw [(ra_at_stop hat hst).1]; exact hrec
theorem ra_sm_cn {k x : Nat} {p : Nat → Bool} : rv_sm k (fun c => if p c = true then x else 0) = x * rv_cn k p := by
  induction k with
  | zero => rfl
  | succ k ih =>
    rw [rv_sm, rv_cn_s, ih]
    split
    · rw [Nat.mul_add, Nat.mul_one]
    · rfl
theorem ra_bal {G C : Nat} {n m : Nat → Nat} {w : rv_W} (h : ra_MP G n m w) (hC : C < 32) : rv_sm 5 (ra_KC n m C 1) = ra_S G n (fun g => decide (ra_of (m g) C < rv_mn C)) := by
  have e1 : ∀ c, ra_KC n m C 1 c = rv_sm G (fun g => if (rv_hs C c && ra_kb (m g) C 1 c) = true then n g else 0) := fun c => by
    unfold ra_KC ra_K
    by_cases hc : rv_hs C c = true
    · rw [if_pos hc, ra_S_ext h.2.1 h.2.2.2.1]
      unfold ra_S
      refine rv_sm_congr (fun g _ => ?_)
      rw [hc, Bool.true_and]
    · rw [if_neg hc]
      refine (rv_sm_zero (fun g _ => ?_)).symm
      rw [Bool.eq_false_iff.mpr hc, Bool.false_and]; rfl
  rw [rv_sm_congr (fun c _ => e1 c), rv_sm_swap]
  refine rv_sm_congr (fun g hg => ?_)
  rw [ra_sm_cn (p := fun c => rv_hs C c && ra_kb (m g) C 1 c), ra_A5 (h.2.2.1 g hg).2.1 hC]
  by_cases q : ra_of (m g) C < rv_mn C
  · rw [if_pos q, Nat.mul_one, if_pos (decide_eq_true q)]
  · rw [if_neg q, Nat.mul_zero, if_neg (by dsimp only; rw [decide_eq_false q]; decide)]
theorem ra_mmajority {G C : Nat} {n m : Nat → Nat} {w : rv_W} (h : ra_MP G n m w) (hC : C < 32) : f_X11_majority (Int32.ofNat C) w = some (ra_n5 (ra_mj n m C), rv_fl 84 5 (fun c => Int32.ofNat (ra_KC n m C 1 c)) w) := by
  have hN := h.sum
  have hG := h.2.1
  have hmn := @rv_mn_le C
  unfold f_X11_majority
  refine rv_E1 G (fun k => Int32.ofNat (ra_S k n (fun g => decide (ra_of (m g) C < rv_mn C)))) (fun _ => w) _ _ rfl rfl (fun ag g hg => ?_) (fun ag => ?_) (by show G < 10000; omega)
  · have ho : ra_of (m g) C ≤ 5 := rv_cn_le
    have e1 : (Int32.ofNat (ra_of (m g) C) < Int32.ofNat (rv_mn C)) = (ra_of (m g) C < rv_mn C) := propext (rv_n_lt (by omega) (by omega))
    simp only [h.1, ra_ltG hg hG, if_true, ra_offBallot h hg hC, e_many hC, rv_bd_some, e1, rv_ck20 (show g < 20 by omega), rv_nn20 (show g < 20 by omega), (h.2.2.1 g hg).1, rv_lt, rv_n_succ, ra_S_s, decide_eq_true_eq]
    by_cases q : ra_of (m g) C < rv_mn C
    · simp only [q, if_true, Int32.ofNat_add]
    · simp only [q, if_false, Nat.add_zero, ra_n_add0]
  · rw [h.1]
    simp only [ra_geG, if_false]
    have ep := ra_pointsOfFirst (k := 1) h hC (by omega)
    have ep' : f_X11_pointsOfFirst (Int32.ofNat C) 1 w = _ := ep
    rw [ep', rv_bd_some, ← ra_bal h hC]
    have hB : rv_sm 5 (ra_KC n m C 1) ≤ 5 * 2000 := rv_sm_bd (fun g _ => Nat.le_trans ra_KC_le hN)
    refine rv_E1 5 (fun k => ra_n5 (ra_ln (ra_mq n m C) k)) (fun _ => rv_fl 84 5 (fun c => Int32.ofNat (ra_KC n m C 1 c)) w) _ _ rfl rfl (fun ag2 c hc => ?_) (fun ag2 => ?_) (by decide)
    · have l := @ra_KC_le n m C 1 c
      have e2 : (2 : Int32) * Int32.ofNat (ra_KC n m C 1 c) = Int32.ofNat (2 * ra_KC n m C 1 c) := by rw [Int32.ofNat_mul]; rfl
      have e1 : (Int32.ofNat (rv_sm 5 (ra_KC n m C 1)) < Int32.ofNat (2 * ra_KC n m C 1 c)) = (rv_sm 5 (ra_KC n m C 1) < 2 * ra_KC n m C 1 c) := propext (rv_n_lt (by omega) (by omega))
      simp only [rv_lt5 hc, if_true, e_mhasb hC hc, rv_bd_some, rv_b2_0, rv_ck5 hc, rv_nn5 hc, rv_fl_at hc, e2, e1, rv_lt, rv_n_succ, ra_ln_s]
      have em : ra_mq n m C c = decide (rv_sm 5 (ra_KC n m C 1) < 2 * ra_KC n m C 1 c) := rfl
      cases h1 : rv_hs C c
      · have : ra_KC n m C 1 c = 0 := by unfold ra_KC; rw [if_neg (by rw [h1]; decide)]
        rw [this, decide_eq_false (by omega)] at em
        rw [if_pos rfl, em, if_neg (by decide)]
      · rw [if_neg (show ¬ true = false by decide)]
        by_cases q : rv_sm 5 (ra_KC n m C 1) < 2 * ra_KC n m C 1 c
        · rw [decide_eq_true q] at em
          rw [if_pos q, em, if_pos rfl]
          unfold ra_n5
          rw [if_neg (by omega)]
        · rw [decide_eq_false q] at em
          rw [if_neg q, em, if_neg (by decide)]
    · rw [if_neg (by decide)]; rfl
theorem ra_mcoombs {G s : Nat} {n m : Nat → Nat} {w : rv_W} (h : ra_ML G n m w) (hs : s < 32) : rv_T (f_X11_coombs (Int32.ofNat s) w) (fun v w' => v = Int32.ofNat (ra_an true n m s) ∧ ra_fm w w' ∧ ra_mrec true n m s (ra_rt true n m s) w') := by
  have hN := h.1.sum
  have hG := h.1.2.1
  unfold f_X11_coombs
  rw [rv_T_lt]
  refine rv_T_fx (α := Int32 → rv_W → rv_R) (σ := (Nat × Nat) × rv_W) (fun t a => a (Int32.ofNat t.1.2) t.2) (fun t => ra_at true n m s t.1.1 t.1.2 ∧ ra_fm w t.2 ∧ ra_mrec true n m s t.1.1 t.2) (fun t => 5 - t.1.1) ?_ rv_FU ((0, s), rv_up w 78 15 0) (by show 5 - 0 < 10000; omega) ⟨ra_at_0 hs, ra_fm.refl.up (by omega), (show ra_mrec true n m s 0 (rv_up w 78 15 0) from ⟨rv_up_same, fun j hj => absurd hj (Nat.not_lt_zero j)⟩)⟩
  intro ag ⟨⟨i, C⟩, w'⟩ hI q
  obtain ⟨hat, hf, hrec⟩ := hI
  dsimp only at hat hf hrec q ⊢
  have hC := hat.1
  have hL := h.fm hf
  have hcs := hat.2.2.1
  have e1 : ((1 : Int32) < Int32.ofNat (rv_mn C)) = (1 < rv_mn C) := propext (rv_n_lt (i := 1) (by omega) (by have := @rv_mn_le C; omega))
  have hmj : ra_mj n m C ≤ 5 := by
    rcases ra_ln_le (q := ra_mq n m C) (k := 5) (by omega) with e | e
    · exact Nat.le_of_eq e
    · exact Nat.le_of_lt e.1
  simp only [e_many hC, rv_bd_some, e1, ra_mmajority hL.1 hC, ra_n5_neg hmj]
  by_cases hm : 1 < rv_mn C
  · rw [if_pos hm]
    have hf5 : ra_fm w (rv_fl 84 5 (fun c => Int32.ofNat (ra_KC n m C 1 c)) w') := hf.fl (by omega)
    have hrec5 : ra_mrec true n m s i (rv_fl 84 5 (fun c => Int32.ofNat (ra_KC n m C 1 c)) w') := hrec.keep (rv_fl_ne (by decide)) (fun c j z1 z2 => rv_fl_ne (by omega))
    by_cases hj : ra_mj n m C = 5
    · rw [if_pos hj]
      have hst : ¬ ra_stp true n m C = true := fun z => by
        unfold ra_stp at z
        rw [decide_eq_false (by omega), decide_eq_false (fun y => y hj)] at z
        cases z
      obtain ⟨o1, o2⟩ := ra_out_in (cb := true) (n := n) (m := m) hC (by omega)
      have hnx := ra_at_next hat hst
      obtain ⟨w5, hw5⟩ : ∃ w5, w5 = rv_fl 84 5 (fun c => Int32.ofNat (ra_KC n m C 1 c)) w' := ⟨_, rfl⟩
      rw [← hw5] at hf5 hrec5 ⊢
      have hL5 := h.fm hf5
      refine rv_T_for1 5 (fun k x w2 => x = ra_n5 (ra_o1 true C (ra_x true n m C) k).1 ∧ w2 = rv_fl 84 k (fun c => Int32.ofNat (ra_L n m C c)) w5) (fun ag2 k x w2 hk hI2 q2 => ?_) (by decide) 0 _ _ ⟨rfl, rv_fl_0.symm⟩ (by omega)
      obtain ⟨rfl, rfl⟩ := hI2
      by_cases hk5 : k < 5
      · have l1 := @ra_x_le true n m C k
        have e := @ra_o1_s true C k (ra_x true n m C)
        have n5k : ra_n5 k = Int32.ofNat k := if_neg (by omega)
        have hle := ra_o1_1 (cb := true) (C := C) (x := ra_x true n m C) (k := k) (by omega)
        simp only [rv_lt5 hk5, if_true, rv_lt, rv_n_succ, rv_ck5 hk5, rv_nn5 hk5]
        refine rv_T_for G (fun g w3 => w3 = rv_up (rv_fl 84 k (fun c => Int32.ofNat (ra_L n m C c)) w5) 84 k (Int32.ofNat (ra_S g n (fun g => ra_la (m g) C k)))) (fun ag3 g w3 hg hI3 q3 => ?_) (by show G < 10000; omega) 0 _ rfl (by omega)
        subst hI3
        have hM := (hL5.1.fl (A := 84) (k := k) (f := fun c => Int32.ofNat (ra_L n m C c)) (by omega)).up (A := 84) (k := k) (v := Int32.ofNat (ra_S g n (fun g => ra_la (m g) C k))) (by omega)
        by_cases hgG : g < G
        · simp only [hM.1, ra_ltG hgG hG, if_true, ra_isLast hM hgG hk5 hC, rv_bd_some, rv_b2_0, rv_jn, rv_ck20 (show g < 20 by omega), rv_nn20 (show g < 20 by omega), (hM.2.2.1 g hgG).1, rv_up_same, rv_up_up, rv_n_succ, rv_ck5 hk5, rv_nn5 hk5, rv_lt]
          have fin : ∀ v, v = Int32.ofNat (ra_S (g + 1) n (fun g => ra_la (m g) C k)) → _ := fun v hv => q3 hgG (rv_up (rv_fl 84 k (fun c => Int32.ofNat (ra_L n m C c)) w5) 84 k v) (by rw [hv])
          cases hla : ra_la (m g) C k
          · rw [if_pos rfl]
            exact fin _ (by rw [ra_S_s, if_neg (by rw [hla]; decide), Nat.add_zero, ra_n_add0])
          · rw [if_neg (by decide)]
            exact fin _ (by rw [ra_S_s, if_pos hla, Int32.ofNat_add])
        · have : g = G := by omega
          subst this
          have eL : ra_S g n (fun g => ra_la (m g) C k) = ra_L n m C k := (ra_S_ext hG h.1.2.2.2.1).symm
          rw [eL, rv_fl_up (f := fun c => Int32.ofNat (ra_L n m C c)) rfl]
          have hM2 := hL5.1.fl (A := 84) (k := k + 1) (f := fun c => Int32.ofNat (ra_L n m C c)) (by omega)
          simp only [hM2.1, ra_geG, if_false, e_mhasb hC hk5, rv_bd_some, rv_b2_0, rv_jn, rv_lt, rv_n_succ, ra_n5_neg hle, rv_ck5 hk5, rv_nn5 hk5]
          cases h1 : rv_hs C k
          · rw [if_neg (fun z => by rw [h1] at z; cases z.1)] at e
            rw [if_pos rfl]
            exact q2 hk5 _ _ ⟨by rw [e], rfl⟩
          · rw [if_neg (show ¬ true = false by decide)]
            by_cases h2 : (ra_o1 true C (ra_x true n m C) k).1 = 5
            · rw [if_pos ⟨h1, Or.inl h2⟩] at e
              rw [if_pos h2]
              exact q2 hk5 _ _ ⟨by rw [e]; exact n5k.symm, rfl⟩
            · rw [if_neg h2]
              have ho := (ra_o1_ok (cb := true) (C := C) (x := ra_x true n m C) (k := k) (by omega)).resolve_left (fun z => h2 (by rw [z.1]))
              have ho5 : (ra_o1 true C (ra_x true n m C) k).1 < 5 := by omega
              have en : ra_n5 (ra_o1 true C (ra_x true n m C) k).1 = Int32.ofNat (ra_o1 true C (ra_x true n m C) k).1 := if_neg h2
              have v1 : Int32.ofNat (ra_L n m C (ra_o1 true C (ra_x true n m C) k).1) = Int32.ofNat (ra_o1 true C (ra_x true n m C) k).2 := by rw [ho.2.2]; rfl
              have l2 := @ra_o1_le true n m C k 2000 hN
              have e3 : (Int32.ofNat (ra_L n m C k) < Int32.ofNat (ra_o1 true C (ra_x true n m C) k).2) = (ra_x true n m C k < (ra_o1 true C (ra_x true n m C) k).2) := propext (rv_n_lt (by have : ra_L n m C k ≤ rv_sm 20 n := ra_S_le; omega) (by omega))
              rw [en, rv_ck5 ho5, rv_nn5 ho5, rv_fl_at (show (ra_o1 true C (ra_x true n m C) k).1 < k + 1 by omega), rv_fl_at (Nat.lt_succ_self k), v1]
              simp only [e3]
              by_cases h3 : ra_x true n m C k < (ra_o1 true C (ra_x true n m C) k).2
              · rw [if_neg (fun z => z.2.elim h2 (fun z => by rw [if_pos rfl] at z; omega))] at e
                rw [if_pos h3]
                exact q2 hk5 _ _ ⟨by rw [e, en], rfl⟩
              · rw [if_pos ⟨h1, Or.inr (by rw [if_pos rfl]; omega)⟩] at e
                rw [if_neg h3]
                exact q2 hk5 _ _ ⟨by rw [e]; exact n5k.symm, rfl⟩
      · have : k = 5 := by omega
        subst this
        simp only [rv_ge5, if_false]
        have eo : ra_n5 (ra_o1 true C (ra_x true n m C) 5).1 = Int32.ofNat (ra_out true n m C) := if_neg (by unfold ra_out at o1; omega)
        rw [eo]
        have hrec2 : ra_mrec true n m s i (rv_fl 84 5 (fun c => Int32.ofNat (ra_L n m C c)) w5) := hrec5.keep (rv_fl_ne (by decide)) (fun c j z1 z2 => rv_fl_ne (by omega))
        have lv := ra_leave hnx.2 hrec2 (fun c hc => by rw [rv_fl_at hc, ← hcs]; rfl)
        rw [← hcs] at lv
        refine rv_T_call lv (fun _ w3 h3 => ?_)
        rw [rv_T_lt, ra_xorbit hC o1 o2]
        exact q ((i + 1, ra_nx true n m C), w3) ⟨hnx.1, (hf5.fl (A := 84) (by omega)).trans h3.1, h3.2⟩ (by dsimp only; have := hnx.2; omega)
    · rw [if_neg hj]
      have hst : ra_stp true n m C = true := by
        unfold ra_stp
        rw [decide_eq_true hj]
        simp
      refine rv_T_some.mpr ⟨?_, hf5, ?_⟩
      · rw [(ra_at_stop hat hst).2]
        unfold ra_en ra_n5
        rw [if_neg hj, if_neg (by omega), rv_shl (by omega)]
      · rw [(ra_at_stop hat hst).1]; exact hrec5
  · rw [if_neg hm]
    have hst : ra_stp true n m C = true := by
      unfold ra_stp
      rw [decide_eq_true (by omega)]; rfl
    refine rv_T_some.mpr ⟨?_, hf, ?_⟩
    · rw [(ra_at_stop hat hst).2]
      unfold ra_en
      rw [if_pos (by omega)]
    · rw [(ra_at_stop hat hst).1]; exact hrec
