/-! spoilers, split, removals -/
theorem ra_wcm {r s x : Nat} {n m : Nat → Nat} (hs : s < 32) (hx : x < 5) : (ra_wc r s n m = Int32.ofNat x) = (ra_wm r s n m = Int32.ofNat x) := by
  by_cases q : s = 0
  · rw [ra_wc_0 q, ra_wm_0 q]
    have e1 : ¬ (-1000000 : Int32) = Int32.ofNat x := fun z => by
      have := congrArg Int32.toInt z
      rw [rv_n_int (by omega), show (-1000000 : Int32).toInt = -1000000 from rfl] at this
      omega
    have e2 : ¬ (-1 : Int32) = Int32.ofNat x := fun z => by
      have := congrArg Int32.toInt z
      rw [rv_n_int (by omega), show (-1 : Int32).toInt = -1 from rfl] at this
      omega
    exact propext ⟨fun z => absurd z e1, fun z => absurd z e2⟩
  · rw [ra_wc_1 q, ra_wm_1 q]
theorem ra_wcm2 {r s : Nat} {n m n' m' : Nat → Nat} : (ra_wc r s n m = ra_wc r s n' m') = (ra_wm r s n m = ra_wm r s n' m') := by
  by_cases q : s = 0
  · rw [ra_wc_0 q, ra_wm_0 q, ra_wc_0 q, ra_wm_0 q]; exact propext ⟨fun _ => rfl, fun _ => rfl⟩
  · rw [ra_wc_1 q, ra_wm_1 q, ra_wc_1 q, ra_wm_1 q]
def ra_spq (r s G : Nat) (n m : Nat → Nat) (c : Nat) : Bool := decide (s ≠ 0) && (decide (c ≠ ra_w r s (rv_cut 0 G n) m) && (rv_hs s c && decide (ra_wc r (rv_wo s c) (rv_cut 0 G n) m ≠ Int32.ofNat (ra_w r s (rv_cut 0 G n) m))))
theorem ra_hs_ne {s c : Nat} (h : rv_hs s c = true) : s ≠ 0 := fun z => by rw [z, ra_hs0] at h; cases h
theorem c_spoilers (x : Int32) : ra_Sc (fun s G n m => ra_one x (fun r => ra_gm (ra_spq r s G n m) 5)) (f_X10_spoilers x) := by
  intro s G n m w h hr
  dsimp only
  unfold f_X10_spoilers
  refine ra_crule (K := fun w2 => rv_bd (f_X10_castAll w2) (fun _ w4 => rv_bd (f_X7_winnerBy x w4) (fun (r5 : Int32) (w6 : rv_W) =>
    rv_fx (fun _ _ _ => none) (fun (ag7 : Int32 → Int32 → rv_W → rv_R) (v9 : Int32) (v10 : Int32) (w11 : rv_W) =>
    if v10 < (5 : Int32) then
    if v10 = r5 then
    rv_lt (v10 + (1 : Int32)) (fun (v12 : Int32) =>
    ag7 v9 v12 w11)
    else
    rv_bd (f_X1_has (w11 1 0) v10 w11) (fun (r13 : Int32) (w14 : rv_W) =>
    if r13 = 0 then
    rv_lt (v10 + (1 : Int32)) (fun (v24 : Int32) =>
    ag7 v9 v24 w14)
    else
    rv_bd (f_X1_without (w14 1 0) v10 w14) (fun (r15 : Int32) (w16 : rv_W) =>
    rv_bd (f_X10_castGroups r15 (0 : Int32) (w16 1 1) w16) (fun (r17 : Int32) (w18 : rv_W) =>
    rv_bd (f_X7_winnerBy x w18) (fun (r19 : Int32) (w20 : rv_W) =>
    if r19 = r5 then
    rv_lt (v10 + (1 : Int32)) (fun (v21 : Int32) =>
    ag7 v9 v21 w20)
    else
    rv_lt ((v9 ||| ((1 : Int32) <<< (v10 &&& 31)))) (fun (v22 : Int32) =>
    rv_lt (v10 + (1 : Int32)) (fun (v23 : Int32) =>
    ag7 v22 v23 w20))))))
    else
    some (v9, w11)) rv_FU (0 : Int32) (0 : Int32) w6))) hr (fun r hr12 hx => ?_)
  subst hx
  refine rv_T_call (ra_castAll h.1 hr) (fun _ w2 ⟨hP, hf⟩ => ?_)
  refine rv_T_call (ra_winnerBy hP hr12) (fun v w3 ⟨hv, hf3⟩ => ?_)
  subst hv
  refine rv_T_for1 5 (fun c a w' => a = ra_gm (ra_spq r s G n m) c ∧ rv_fr 24 77 w w' ∧ rv_Rows w') (fun ag c a w' hc hI q => ?_) (by decide) 0 _ _ ⟨rfl, hf.two hf3, hf3.rows hP.rows⟩ (by omega)
  obtain ⟨rfl, hf', hR'⟩ := hI
  have hS' := h.1.cl hf'
  by_cases hc5 : c < 5
  · have skip : ∀ w', rv_fr 24 77 w w' → rv_Rows w' → ra_spq r s G n m c = false → rv_T (ag (ra_gm (ra_spq r s G n m) c) (Int32.ofNat (c + 1)) w') (fun v w' => v = ra_gm (ra_spq r s G n m) 5 ∧ rv_fr 24 77 w w' ∧ rv_Rows w') := fun w' z1 z2 e => q hc5 _ _ ⟨by rw [ra_gm_s, if_neg (by rw [e]; decide)], z1, z2⟩
    simp only [rv_lt5 hc5, if_true, hS'.1, e_hasb h.s32 hc5, rv_bd_some, rv_b2_0, rv_lt, rv_n_succ]
    by_cases hs0 : s = 0
    · have e0 : ra_spq r s G n m c = false := by unfold ra_spq; rw [decide_eq_false (fun z => z hs0), Bool.false_and]
      have e1 : rv_hs s c = false := by rw [hs0]; exact ra_hs0
      simp only [e1, if_true, ite_self]
      exact skip _ hf' hR' e0
    · obtain ⟨hw5, hsw⟩ := ra_w_in (rule := r) (n := rv_cut 0 G n) (m := m) h.s32 hs0
      rw [ra_wc_1 hs0]
      simp only [rv_eq5 hc5 hw5]
      by_cases q1 : c = ra_w r s (rv_cut 0 G n) m
      · rw [if_pos q1]
        exact skip _ hf' hR' (by unfold ra_spq; rw [decide_eq_false (p := c ≠ ra_w r s (rv_cut 0 G n) m) (fun z => z q1), Bool.false_and, Bool.and_false])
      · rw [if_neg q1]
        cases h1 : rv_hs s c
        · rw [if_pos rfl]
          exact skip _ hf' hR' (by unfold ra_spq; rw [h1, Bool.false_and, Bool.and_false, Bool.and_false])
        · rw [if_neg (by decide), e_without h.s32 hc5, rv_bd_some, hS'.2.2.1]
          refine rv_T_call (ra_castGroups (lo := 0) hS' (rv_wo_lt h.s32) hR' (Nat.zero_le _) (Nat.le_refl _)) (fun _ w4 ⟨hP4, hf4⟩ => ?_)
          refine rv_T_call (ra_winnerBy hP4 hr12) (fun v w5 ⟨hv, hf5⟩ => ?_)
          subst hv
          have hf5' : rv_fr 24 77 w w5 := hf'.trans (hf4.two hf5)
          have hR5 := hf5.rows hP4.rows
          have e : ra_spq r s G n m c = decide (ra_wc r (rv_wo s c) (rv_cut 0 G n) m ≠ Int32.ofNat (ra_w r s (rv_cut 0 G n) m)) := by
            unfold ra_spq
            rw [decide_eq_true (p := s ≠ 0) hs0, decide_eq_true (p := c ≠ ra_w r s (rv_cut 0 G n) m) q1, h1, Bool.true_and, Bool.true_and, Bool.true_and]
          by_cases z : ra_wc r (rv_wo s c) (rv_cut 0 G n) m = Int32.ofNat (ra_w r s (rv_cut 0 G n) m)
          · rw [if_pos z]
            exact skip _ hf5' hR5 (by rw [e]; exact decide_eq_false (fun y => y z))
          · rw [if_neg z]
            exact q hc5 _ _ ⟨by rw [ra_gm_s, if_pos (by rw [e]; exact decide_eq_true z)], hf5', hR5⟩
  · have : c = 5 := by omega
    subst this
    simp only [rv_ge5, if_false]
    exact rv_T_some.mpr ⟨rfl, hf', hR'⟩
/-- the first one -/
def ra_fst (q : Nat → Bool) : Nat → Nat → Int32
  | 0, _ => -1000000
  | f + 1, k => if q k = true then Int32.ofNat k else ra_fst q f (k + 1)
theorem ra_fst_s {q : Nat → Bool} {f k : Nat} : ra_fst q (f + 1) k = if q k = true then Int32.ofNat k else ra_fst q f (k + 1) := rfl
theorem ra_fst_z {q : Nat → Bool} {f k : Nat} (h : ∀ j, q j = false) : ra_fst q f k = -1000000 := by
  induction f generalizing k with
  | zero => rfl
  | succ f ih => rw [ra_fst_s, if_neg (by rw [h]; decide), ih]
def ra_sq (r s G : Nat) (n m : Nat → Nat) (k : Nat) : Bool := decide (ra_wc r s (rv_cut 0 k n) m ≠ ra_wc r s (rv_cut 0 G n) m) && decide (ra_wc r s (rv_cut k G n) m = ra_wc r s (rv_cut 0 k n) m)
theorem c_split (x : Int32) : ra_Sc (fun s G n m => ra_one x (fun r => ra_fst (ra_sq r s G n m) (G - 1) 1)) (f_X10_split x) := by
  intro s G n m w h hr
  dsimp only
  unfold f_X10_split
  refine ra_crule (K := fun w2 => rv_bd (f_X10_castAll w2) (fun _ w4 => rv_bd (f_X7_winnerBy x w4) (fun (r5 : Int32) (w6 : rv_W) =>
    rv_fx (fun _ _ => none) (fun (ag7 : Int32 → rv_W → rv_R) (v9 : Int32) (w10 : rv_W) =>
    if v9 < (w10 1 1) then
    rv_bd (f_X10_castGroups (w10 1 0) (0 : Int32) v9 w10) (fun (r11 : Int32) (w12 : rv_W) =>
    rv_bd (f_X7_winnerBy x w12) (fun (r13 : Int32) (w14 : rv_W) =>
    if r13 = r5 then
    rv_lt (v9 + (1 : Int32)) (fun (v20 : Int32) =>
    ag7 v20 w14)
    else
    rv_bd (f_X10_castGroups (w14 1 0) v9 (w14 1 1) w14) (fun (r15 : Int32) (w16 : rv_W) =>
    rv_bd (f_X7_winnerBy x w16) (fun (r17 : Int32) (w18 : rv_W) =>
    if r17 = r13 then
    some (v9, w18)
    else
    rv_lt (v9 + (1 : Int32)) (fun (v19 : Int32) =>
    ag7 v19 w18)))))
    else
    some ((-1000000 : Int32), w10)) rv_FU (1 : Int32) w6))) hr (fun r hr12 hx => ?_)
  subst hx
  have hG := h.G20
  refine rv_T_call (ra_castAll h.1 hr) (fun _ w2 ⟨hP, hf⟩ => ?_)
  refine rv_T_call (ra_winnerBy hP hr12) (fun v w3 ⟨hv, hf3⟩ => ?_)
  subst hv
  refine rv_T_for (G + 1) (fun k w' => 1 ≤ k ∧ ra_fst (ra_sq r s G n m) (G - 1) 1 = ra_fst (ra_sq r s G n m) (G - k) k ∧ rv_fr 24 77 w w' ∧ rv_Rows w') (fun ag k w' hk hI q => ?_) (by show G + 1 < 10000; omega) 1 _ ⟨Nat.le_refl _, rfl, hf.two hf3, hf3.rows hP.rows⟩ (by omega)
  obtain ⟨hk1, hF, hf', hR'⟩ := hI
  have hS' := h.1.cl hf'
  rw [hS'.2.2.1]
  by_cases hkG : k < G
  · rw [show G - k = (G - (k + 1)) + 1 by omega, ra_fst_s] at hF
    rw [if_pos ((rv_n_lt (by omega) (by omega)).mpr hkG), hS'.1]
    refine rv_T_call (ra_castGroups (lo := 0) (hi := k) hS' h.s32 hR' (Nat.zero_le _) (by omega)) (fun _ w4 ⟨hP4, hf4⟩ => ?_)
    refine rv_T_call (ra_winnerBy hP4 hr12) (fun v w5 ⟨hv, hf5⟩ => ?_)
    subst hv
    have hf5' : rv_fr 24 77 w w5 := hf'.trans (hf4.two hf5)
    have hR5 := hf5.rows hP4.rows
    have hS5 := h.1.cl hf5'
    by_cases z : ra_wc r s (rv_cut 0 k n) m = ra_wc r s (rv_cut 0 G n) m
    · have e : ra_sq r s G n m k = false := by unfold ra_sq; rw [decide_eq_false (fun y => y z), Bool.false_and]
      rw [if_neg (by rw [e]; decide)] at hF
      rw [if_pos z, rv_T_lt, rv_n_succ]
      exact q (by omega) _ ⟨by omega, hF, hf5', hR5⟩
    · rw [if_neg z, hS5.1, hS5.2.2.1]
      refine rv_T_call (ra_castGroups (lo := k) (hi := G) hS5 h.s32 hR5 (by omega) (Nat.le_refl _)) (fun _ w6 ⟨hP6, hf6⟩ => ?_)
      refine rv_T_call (ra_winnerBy hP6 hr12) (fun v w7 ⟨hv, hf7⟩ => ?_)
      subst hv
      have hf7' : rv_fr 24 77 w w7 := hf5'.trans (hf6.two hf7)
      have hR7 := hf7.rows hP6.rows
      by_cases z2 : ra_wc r s (rv_cut k G n) m = ra_wc r s (rv_cut 0 k n) m
      · have e : ra_sq r s G n m k = true := by unfold ra_sq; rw [decide_eq_true (p := ra_wc r s (rv_cut 0 k n) m ≠ ra_wc r s (rv_cut 0 G n) m) z, decide_eq_true z2]; rfl
        rw [if_pos e] at hF
        rw [if_pos z2]
        exact rv_T_some.mpr ⟨hF.symm, hf7', hR7⟩
      · have e : ra_sq r s G n m k = false := by unfold ra_sq; rw [decide_eq_false z2, Bool.and_false]
        rw [if_neg (by rw [e]; decide)] at hF
        rw [if_neg z2, rv_T_lt, rv_n_succ]
        exact q (by omega) _ ⟨by omega, hF, hf7', hR7⟩
  · rw [if_neg (fun z => hkG ((rv_n_lt (by omega) (by omega)).mp z))]
    rw [show G - k = 0 by omega] at hF
    exact rv_T_some.mpr ⟨hF.symm, hf', hR'⟩
