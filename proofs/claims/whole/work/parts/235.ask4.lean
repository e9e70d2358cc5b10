/-! spoilers, split, removals -/
theorem ra_wcm {r s x : Nat} {n m : Nat → Nat} (hs : s < 32) (hx : x < 5) : (ra_wc r s n m = Int32.ofNat x) = (ra_wm r s n m = Int32.ofNat x) := by
  by_cases q : s = 0
  · rw [ra_wc_0 q, ra_wm_0 q]
    have e1 : ¬ (-1000000 : Int32) = Int32.ofNat x := fun z => by
      have := congrArg Int32.toInt z
      rw [rv_n_int (by omega), show (-1000000 : Int32).toInt = -1000000 from rfl] at this
      omega
    have e2 : ¬ (-1 : Int32) = Int32.ofNat x := fun z => by
      have := congrArg Int32.toInt z
      rw [rv_n_int (by omega), show (-1 : Int32).toInt = -1 from rfl] at this
      omega
    exact propext ⟨fun z => absurd z e1, fun z => absurd z e2⟩
  · rw [ra_wc_1 q, ra_wm_1 q]
theorem ra_wcm2 {r s : Nat} {n m n' m' : Nat → Nat} : (ra_wc r s n m = ra_wc r s n' m') = (ra_wm r s n m = ra_wm r s n' m') := by
  by_cases q : s = 0
  · rw [ra_wc_0 q, ra_wm_0 q, ra_wc_0 q, ra_wm_0 q]; exact propext ⟨fun _ => rfl, fun _ => rfl⟩
  · rw [ra_wc_1 q, ra_wm_1 q, ra_wc_1 q, ra_wm_1 q]
def ra_spq (r s G : Nat) (n m : Nat → Nat) (c : Nat) : Bool := decide (s ≠ 0) && (decide (c ≠ ra_w r s (rv_cut 0 G n) m) && (rv_hs s c && decide (ra_wc r (rv_wo s c) (rv_cut 0 G n) m ≠ Int32.ofNat (ra_w r s (rv_cut 0 G n) m))))
theorem ra_hs_ne {s c : Nat} (h : rv_hs s c = true) : s ≠ 0 := fun z => by rw [z, ra_hs0] at h; cases h
theorem q_spoilers (x : Int32) : ra_St (f_X10_spoilers x) (f_X11_spoilers x) := by
  refine ra_mk (fun s G n m => ra_one x (fun r => ra_gm (ra_spq r s G n m) 5)) (fun s G n m w h hr => ?_) (fun s G n m w h => ?_)
  · unfold f_X10_spoilers
    refine ra_crule (K := fun w2 => rv_bd (f_X10_castAll w2) (fun _ w4 => rv_bd (f_X7_winnerBy x w4) (fun (r5 : Int32) (w6 : rv_W) =>
      rv_fx (fun _ _ _ => none) (fun (ag7 : Int32 → Int32 → rv_W → rv_R) (v9 : Int32) (v10 : Int32) (w11 : rv_W) =>
      if v10 < (5 : Int32) then
      if v10 = r5 then
      rv_lt (v10 + (1 : Int32)) (fun (v12 : Int32) =>
      ag7 v9 v12 w11)
      else
      rv_bd (f_X1_has (w11 1 0) v10 w11) (fun (r13 : Int32) (w14 : rv_W) =>
      if r13 = 0 then
      rv_lt (v10 + (1 : Int32)) (fun (v24 : Int32) =>
      ag7 v9 v24 w14)
      else
      rv_bd (f_X1_without (w14 1 0) v10 w14) (fun (r15 : Int32) (w16 : rv_W) =>
      rv_bd (f_X10_castGroups r15 (0 : Int32) (w16 1 1) w16) (fun (r17 : Int32) (w18 : rv_W) =>
      rv_bd (f_X7_winnerBy x w18) (fun (r19 : Int32) (w20 : rv_W) =>
      if r19 = r5 then
      rv_lt (v10 + (1 : Int32)) (fun (v21 : Int32) =>
      ag7 v9 v21 w20)
      else
      rv_lt ((v9 ||| ((1 : Int32) <<< (v10 &&& 31)))) (fun (v22 : Int32) =>
      rv_lt (v10 + (1 : Int32)) (fun (v23 : Int32) =>
      ag7 v22 v23 w20))))))
      else
      some (v9, w11)) rv_FU (0 : Int32) (0 : Int32) w6))) hr (fun r hr12 hx => ?_)
    subst hx
    refine rv_T_call (ra_castAll h.1 hr) (fun _ w2 ⟨hP, hf⟩ => ?_)
    refine rv_T_call (ra_winnerBy hP hr12) (fun v w3 ⟨hv, hf3⟩ => ?_)
    subst hv
    refine rv_T_for1 5 (fun c a w' => a = ra_gm (ra_spq r s G n m) c ∧ rv_fr 24 77 w w' ∧ rv_Rows w') (fun ag c a w' hc hI q => ?_) (by decide) 0 _ _ ⟨rfl, hf.two hf3, hf3.rows hP.rows⟩ (by omega)
    obtain ⟨rfl, hf', hR'⟩ := hI
    have hS' := h.1.cl hf'
    by_cases hc5 : c < 5
    · have skip : ∀ w', rv_fr 24 77 w w' → rv_Rows w' → ra_spq r s G n m c = false → rv_T (ag (ra_gm (ra_spq r s G n m) c) (Int32.ofNat (c + 1)) w') (fun v w' => v = ra_gm (ra_spq r s G n m) 5 ∧ rv_fr 24 77 w w' ∧ rv_Rows w') := fun w' z1 z2 e => q hc5 _ _ ⟨by rw [ra_gm_s, if_neg (by rw [e]; decide)], z1, z2⟩
      simp only [rv_lt5 hc5, if_true, hS'.1, e_hasb h.s32 hc5, rv_bd_some, rv_b2_0, rv_lt, rv_n_succ]
      by_cases hs0 : s = 0
      · have e0 : ra_spq r s G n m c = false := by unfold ra_spq; rw [decide_eq_false (fun z => z hs0), Bool.false_and]
        have e1 : rv_hs s c = false := by rw [hs0]; exact ra_hs0
        simp only [e1, if_true, ite_self]
        exact skip _ hf' hR' e0
      · obtain ⟨hw5, hsw⟩ := ra_w_in (rule := r) (n := rv_cut 0 G n) (m := m) h.s32 hs0
        rw [ra_wc_1 hs0]
        simp only [rv_eq5 hc5 hw5]
        by_cases q1 : c = ra_w r s (rv_cut 0 G n) m
        · rw [if_pos q1]
          exact skip _ hf' hR' (by unfold ra_spq; rw [decide_eq_false (p := c ≠ ra_w r s (rv_cut 0 G n) m) (fun z => z q1), Bool.false_and, Bool.and_false])
        · rw [if_neg q1]
          cases h1 : rv_hs s c
          · rw [if_pos rfl]
            exact skip _ hf' hR' (by unfold ra_spq; rw [h1, Bool.false_and, Bool.and_false, Bool.and_false])
          · rw [if_neg (by decide), e_without h.s32 hc5, rv_bd_some, hS'.2.2.1]
            refine rv_T_call (ra_castGroups (lo := 0) hS' (rv_wo_lt h.s32) hR' (Nat.zero_le _) (Nat.le_refl _)) (fun _ w4 ⟨hP4, hf4⟩ => ?_)
            refine rv_T_call (ra_winnerBy hP4 hr12) (fun v w5 ⟨hv, hf5⟩ => ?_)
            subst hv
            have hf5' : rv_fr 24 77 w w5 := hf'.trans (hf4.two hf5)
            have hR5 := hf5.rows hP4.rows
            have e : ra_spq r s G n m c = decide (ra_wc r (rv_wo s c) (rv_cut 0 G n) m ≠ Int32.ofNat (ra_w r s (rv_cut 0 G n) m)) := by
              unfold ra_spq
              rw [decide_eq_true (p := s ≠ 0) hs0, decide_eq_true (p := c ≠ ra_w r s (rv_cut 0 G n) m) q1, h1, Bool.true_and, Bool.true_and, Bool.true_and]
            by_cases z : ra_wc r (rv_wo s c) (rv_cut 0 G n) m = Int32.ofNat (ra_w r s (rv_cut 0 G n) m)
            · rw [if_pos z]
              exact skip _ hf5' hR5 (by rw [e]; exact decide_eq_false (fun y => y z))
            · rw [if_neg z]
              exact q hc5 _ _ ⟨by rw [ra_gm_s, if_pos (by rw [e]; exact decide_eq_true z)], hf5', hR5⟩
    · have : c = 5 := by omega
      subst this
      simp only [rv_ge5, if_false]
      exact rv_T_some.mpr ⟨rfl, hf', hR'⟩
  · unfold f_X11_spoilers
    refine ra_mrule (K := fun w2 => rv_bd (f_X11_now x w2) (fun (r3 : Int32) (w4 : rv_W) =>
      rv_fx (fun _ _ _ => none) (fun (ag5 : Int32 → Int32 → rv_W → rv_R) (v7 : Int32) (v8 : Int32) (w9 : rv_W) =>
      if v8 < (5 : Int32) then
      if r3 < 0 then
      some (v7, w9)
      else
      rv_jn (fun (v10 : Int32) (w11 : rv_W) =>
      if v10 = 0 then
      rv_lt ((v7 ||| (0 : Int32))) (fun (v14 : Int32) =>
      rv_lt (v8 + (1 : Int32)) (fun (v15 : Int32) =>
      ag5 v14 v15 w11))
      else
      rv_lt ((v7 ||| ((1 : Int32) <<< (v8 &&& 31)))) (fun (v16 : Int32) =>
      rv_lt (v8 + (1 : Int32)) (fun (v17 : Int32) =>
      ag5 v16 v17 w11))) (fun (k12 : Int32 → rv_W → rv_R) =>
      rv_jn (fun  (w18 : rv_W) =>
      k12 (0 : Int32) w18) (fun (k19 : rv_W → rv_R) =>
      if v8 = r3 then
      k19 w9
      else
      rv_ck (1 : Int32) 852 (
      rv_bd (f_X11_has (w9 79 (1 : Int32).toNatClampNeg) v8 w9) (fun (r21 : Int32) (w22 : rv_W) =>
      if r21 = 0 then
      k19 w22
      else
      rv_ck (1 : Int32) 852 (
      rv_bd (f_X11_wins x ((w22 79 (1 : Int32).toNatClampNeg) &&& (((1 : Int32) <<< (v8 &&& 31)) ^^^ (-1 : Int32))) w22) (fun (r23 : Int32) (w24 : rv_W) =>
      if r23 = r3 then
      k19 w24
      else
      k12 (1 : Int32) w24))))))
      else
      some (v7, w9)) rv_FU (0 : Int32) (0 : Int32) w4)) (fun r hr12 hx => ?_)
    subst hx
    refine rv_T_call (ra_now h hr12) (fun v w2 ⟨hv, hf, hM, _⟩ => ?_)
    subst hv
    refine rv_T_for1 5 (fun c a w' => a = ra_gm (ra_spq r s G n m) c ∧ ra_f9 w w' ∧ ra_MP G (rv_cut 0 G n) m w') (fun ag c a w' hc hI q => ?_) (by decide) 0 _ _ ⟨rfl, hf.f9, hM⟩ (by omega)
    obtain ⟨rfl, hf', hM'⟩ := hI
    have hC' := h.f9 hf'
    by_cases hc5 : c < 5
    · simp only [rv_lt5 hc5, if_true, ra_wm_neg h.s32, ra_c852, ra_nn1, hC'.m1, e_mhasb h.s32 hc5, rv_bd_some, rv_b2_0, ra_and_not h.s32 hc5]
      by_cases hs0 : s = 0
      · rw [if_pos hs0]
        refine rv_T_some.mpr ⟨?_, hf'⟩
        have z : ∀ j, ra_spq r s G n m j = false := fun j => by unfold ra_spq; rw [decide_eq_false (fun z => z hs0), Bool.false_and]
        rw [ra_gm_z (fun j _ => z j), ra_gm_z (fun j _ => z j)]
      · obtain ⟨hw5, hsw⟩ := ra_w_in (rule := r) (n := rv_cut 0 G n) (m := m) h.s32 hs0
        rw [if_neg hs0, ra_wm_1 hs0]
        simp only [rv_eq5 hc5 hw5, rv_jn, rv_lt, rv_n_succ, rv_or0, if_true]
        have skip : ∀ w', ra_f9 w w' → ra_MP G (rv_cut 0 G n) m w' → ra_spq r s G n m c = false → rv_T (ag (ra_gm (ra_spq r s G n m) c) (Int32.ofNat (c + 1)) w') (fun v w' => v = ra_gm (ra_spq r s G n m) 5 ∧ ra_f9 w w') := fun w' z1 z2 e => q hc5 _ _ ⟨by rw [ra_gm_s, if_neg (by rw [e]; decide)], z1, z2⟩
        by_cases q1 : c = ra_w r s (rv_cut 0 G n) m
        · rw [if_pos q1]
          exact skip _ hf' hM' (by unfold ra_spq; rw [decide_eq_false (p := c ≠ ra_w r s (rv_cut 0 G n) m) (fun z => z q1), Bool.false_and, Bool.and_false])
        · rw [if_neg q1]
          cases h1 : rv_hs s c
          · rw [if_pos rfl]
            exact skip _ hf' hM' (by unfold ra_spq; rw [h1, Bool.false_and, Bool.and_false, Bool.and_false])
          · rw [if_neg (by decide)]
            refine rv_T_call (ra_wins hM' (rv_wo_lt h.s32) hr12) (fun v w3 ⟨hv, hf3, _⟩ => ?_)
            subst hv
            have hf3' := hf'.trans hf3.f9
            have hM3 := hf3.MP hM'
            have e : ra_spq r s G n m c = decide (ra_wc r (rv_wo s c) (rv_cut 0 G n) m ≠ Int32.ofNat (ra_w r s (rv_cut 0 G n) m)) := by
              unfold ra_spq
              rw [decide_eq_true (p := s ≠ 0) hs0, decide_eq_true (p := c ≠ ra_w r s (rv_cut 0 G n) m) q1, h1, Bool.true_and, Bool.true_and, Bool.true_and]
            simp only [← ra_wcm (r := r) (n := rv_cut 0 G n) (m := m) (rv_wo_lt (c := c) h.s32) hw5]
            by_cases z : ra_wc r (rv_wo s c) (rv_cut 0 G n) m = Int32.ofNat (ra_w r s (rv_cut 0 G n) m)
            · rw [if_pos z]
              exact skip _ hf3' hM3 (by rw [e]; exact decide_eq_false (fun y => y z))
            · rw [if_neg z, if_neg (show ¬ (1 : Int32) = 0 by decide)]
              exact q hc5 _ _ ⟨by rw [ra_gm_s, if_pos (by rw [e]; exact decide_eq_true z)], hf3', hM3⟩
    · have : c = 5 := by omega
      subst this
      simp only [rv_ge5, if_false]
      exact rv_T_some.mpr ⟨rfl, hf'⟩
/-- the first one -/
def ra_fst (q : Nat → Bool) : Nat → Nat → Int32
  | 0, _ => -1000000
  | f + 1, k => if q k = true then Int32.ofNat k else ra_fst q f (k + 1)
theorem ra_fst_s {q : Nat → Bool} {f k : Nat} : ra_fst q (f + 1) k = if q k = true then Int32.ofNat k else ra_fst q f (k + 1) := rfl
theorem ra_fst_z {q : Nat → Bool} {f k : Nat} (h : ∀ j, q j = false) : ra_fst q f k = -1000000 := by
  induction f generalizing k with
  | zero => rfl
  | succ f ih => rw [ra_fst_s, if_neg (by rw [h]; decide), ih]
def ra_sq (r s G : Nat) (n m : Nat → Nat) (k : Nat) : Bool := decide (ra_wc r s (rv_cut 0 k n) m ≠ ra_wc r s (rv_cut 0 G n) m) && decide (ra_wc r s (rv_cut k G n) m = ra_wc r s (rv_cut 0 k n) m)
theorem ra_in2 {g lo hi : Nat} {w : rv_W} (hg : g < 1000) (hl : lo < 1000) (hh : hi < 1000) : f_X11_in (Int32.ofNat g) (Int32.ofNat lo) (rv_ci hi) w = some (rv_b2 (decide (lo ≤ g ∧ g < hi)), w) := by
  unfold f_X11_in
  have ek : (rv_ci hi).toInt = (hi : Int) - 1 := by
    unfold rv_ci
    rw [← Int32.ofInt_eq_ofNat, show (1 : Int32) = Int32.ofInt 1 from rfl, ← Int32.ofInt_sub, Int32.toInt_ofInt_of_le (by omega) (by omega)]
  by_cases h1 : g < lo
  · rw [if_pos ((rv_n_lt (by omega) (by omega)).mpr h1), decide_eq_false (by omega)]; rfl
  · rw [if_neg (fun z => h1 ((rv_n_lt (by omega) (by omega)).mp z))]
    by_cases h2 : g < hi
    · rw [if_neg (by rw [Int32.lt_iff_toInt_lt, ek, rv_n_int (by omega)]; omega), decide_eq_true (by omega)]; rfl
    · rw [if_pos (by rw [Int32.lt_iff_toInt_lt, ek, rv_n_int (by omega)]; omega), decide_eq_false (by omega)]; rfl
theorem ra_winsOf {r s G lo hi : Nat} {n m n' : Nat → Nat} {w : rv_W} (hC : ra_Cur s G n m w) (h : ra_MP G n' m w) (hr : r < 12) (hl : lo < 100) (hh : hi ≤ G) : rv_T (f_X11_winsOf (Int32.ofNat r) (Int32.ofNat lo) (rv_ci hi) w) (fun v w' => v = ra_wm r s (rv_cut lo hi n) m ∧ ra_f9 w w' ∧ ra_MP G (rv_cut lo hi n) m w') := by
  have hG := hC.G20
  unfold f_X11_winsOf
  refine rv_T_for G (fun k w' => (∀ c j, c ≠ 81 → w' c j = w c j) ∧ ∀ g, g < k → w' 81 g = Int32.ofNat (rv_cut lo hi n g)) (fun ag k w' hk hI q => ?_) (by show G < 10000; omega) 0 _ ⟨fun _ _ _ => rfl, fun g hg => by omega⟩ (by omega)
  obtain ⟨hf, hI⟩ := hI
  have h6 : w' 78 6 = Int32.ofNat G := by rw [hf _ _ (by decide)]; exact h.1
  have hf9 : ra_f9 w w' := fun c j z => hf c j (by omega)
  have hC' := hC.f9 hf9
  rw [h6]
  by_cases hkG : k < G
  · rw [if_pos ((rv_n_lt (by omega) (by omega)).mpr hkG), ra_in2 (by omega) (by omega) (by omega), rv_bd_some, rv_T_jn]
    have fin : ∀ v, v = Int32.ofNat (rv_cut lo hi n k) → rv_T (rv_ck (Int32.ofNat k) 20 (rv_lt (rv_up w' 81 (Int32.ofNat k).toNatClampNeg v) (fun (w13 : rv_W) =>
        rv_lt (Int32.ofNat k + (1 : Int32)) (fun (v14 : Int32) =>
        ag v14 w13)))) (fun v w' => v = ra_wm r s (rv_cut lo hi n) m ∧ ra_f9 w w' ∧ ra_MP G (rv_cut lo hi n) m w') := fun v hv => by
      rw [rv_ck20 (by omega), rv_nn20 (by omega), rv_T_lt, rv_T_lt, rv_n_succ]
      refine q hkG _ ⟨fun c j z => by rw [rv_up_ne z, hf c j z], fun g hg => ?_⟩
      by_cases e : g = k
      · subst e; rw [rv_up_same, hv]
      · rw [rv_up_of (fun z => e z.2), hI g (by omega)]
    by_cases z : lo ≤ k ∧ k < hi
    · rw [decide_eq_true z, if_neg ra_e1, ra_of0 hC' hkG, rv_bd_some]
      exact fin _ (by unfold rv_cut; rw [if_pos z])
    · rw [decide_eq_false z, if_pos ra_e0]
      exact fin _ (by unfold rv_cut; rw [if_neg z]; rfl)
  · have : k = G := by omega
    subst this
    rw [if_neg (fun z => hkG ((rv_n_lt (by omega) (by omega)).mp z)), ra_c852, ra_nn1, hC'.m1]
    have hM2 : ra_MP k (rv_cut lo hi n) m w' := by
      obtain ⟨h1, h2, h3, h4, h5⟩ := h
      refine ⟨h6, hG, fun g hg => ?_, fun g hg => ?_, fun g => ?_⟩
      · obtain ⟨g1, g2, g3⟩ := h3 g hg
        exact ⟨hI g hg, g2, fun c hc => by rw [hf _ _ (by decide), g3 c hc]⟩
      · unfold rv_cut
        rw [if_neg (by omega)]
      · unfold rv_cut
        split
        · rename_i z; exact (hC.1.ok g (by omega)).1
        · exact Nat.zero_le _
    refine rv_T_call (ra_wins hM2 hC.s32 hr) (fun v w3 ⟨hv, hf3, _⟩ => ?_)
    exact rv_T_some.mpr ⟨hv, hf9.trans hf3.f9, hf3.MP hM2⟩
theorem q_split (x : Int32) : ra_St (f_X10_split x) (f_X11_split x) := by
  refine ra_mk (fun s G n m => ra_one x (fun r => ra_fst (ra_sq r s G n m) (G - 1) 1)) (fun s G n m w h hr => ?_) (fun s G n m w h => ?_)
  · unfold f_X10_split
    refine ra_crule (K := fun w2 => rv_bd (f_X10_castAll w2) (fun _ w4 => rv_bd (f_X7_winnerBy x w4) (fun (r5 : Int32) (w6 : rv_W) =>
      rv_fx (fun _ _ => none) (fun (ag7 : Int32 → rv_W → rv_R) (v9 : Int32) (w10 : rv_W) =>
      if v9 < (w10 1 1) then
      rv_bd (f_X10_castGroups (w10 1 0) (0 : Int32) v9 w10) (fun (r11 : Int32) (w12 : rv_W) =>
      rv_bd (f_X7_winnerBy x w12) (fun (r13 : Int32) (w14 : rv_W) =>
      if r13 = r5 then
      rv_lt (v9 + (1 : Int32)) (fun (v20 : Int32) =>
      ag7 v20 w14)
      else
      rv_bd (f_X10_castGroups (w14 1 0) v9 (w14 1 1) w14) (fun (r15 : Int32) (w16 : rv_W) =>
      rv_bd (f_X7_winnerBy x w16) (fun (r17 : Int32) (w18 : rv_W) =>
      if r17 = r13 then
      some (v9, w18)
      else
      rv_lt (v9 + (1 : Int32)) (fun (v19 : Int32) =>
      ag7 v19 w18)))))
      else
      some ((-1000000 : Int32), w10)) rv_FU (1 : Int32) w6))) hr (fun r hr12 hx => ?_)
    subst hx
    have hG := h.G20
    refine rv_T_call (ra_castAll h.1 hr) (fun _ w2 ⟨hP, hf⟩ => ?_)
    refine rv_T_call (ra_winnerBy hP hr12) (fun v w3 ⟨hv, hf3⟩ => ?_)
    subst hv
    refine rv_T_for (G + 1) (fun k w' => 1 ≤ k ∧ ra_fst (ra_sq r s G n m) (G - 1) 1 = ra_fst (ra_sq r s G n m) (G - k) k ∧ rv_fr 24 77 w w' ∧ rv_Rows w') (fun ag k w' hk hI q => ?_) (by show G + 1 < 10000; omega) 1 _ ⟨Nat.le_refl _, rfl, hf.two hf3, hf3.rows hP.rows⟩ (by omega)
    obtain ⟨hk1, hF, hf', hR'⟩ := hI
    have hS' := h.1.cl hf'
    rw [hS'.2.2.1]
    by_cases hkG : k < G
    · rw [show G - k = (G - (k + 1)) + 1 by omega, ra_fst_s] at hF
      rw [if_pos ((rv_n_lt (by omega) (by omega)).mpr hkG), hS'.1]
      refine rv_T_call (ra_castGroups (lo := 0) (hi := k) hS' h.s32 hR' (Nat.zero_le _) (by omega)) (fun _ w4 ⟨hP4, hf4⟩ => ?_)
      refine rv_T_call (ra_winnerBy hP4 hr12) (fun v w5 ⟨hv, hf5⟩ => ?_)
      subst hv
      have hf5' : rv_fr 24 77 w w5 := hf'.trans (hf4.two hf5)
      have hR5 := hf5.rows hP4.rows
      have hS5 := h.1.cl hf5'
      by_cases z : ra_wc r s (rv_cut 0 k n) m = ra_wc r s (rv_cut 0 G n) m
      · have e : ra_sq r s G n m k = false := by unfold ra_sq; rw [decide_eq_false (fun y => y z), Bool.false_and]
        rw [if_neg (by rw [e]; decide)] at hF
        rw [if_pos z, rv_T_lt, rv_n_succ]
        exact q (by omega) _ ⟨by omega, hF, hf5', hR5⟩
      · rw [if_neg z, hS5.1, hS5.2.2.1]
        refine rv_T_call (ra_castGroups (lo := k) (hi := G) hS5 h.s32 hR5 (by omega) (Nat.le_refl _)) (fun _ w6 ⟨hP6, hf6⟩ => ?_)
        refine rv_T_call (ra_winnerBy hP6 hr12) (fun v w7 ⟨hv, hf7⟩ => ?_)
        subst hv
        have hf7' : rv_fr 24 77 w w7 := hf5'.trans (hf6.two hf7)
        have hR7 := hf7.rows hP6.rows
        by_cases z2 : ra_wc r s (rv_cut k G n) m = ra_wc r s (rv_cut 0 k n) m
        · have e : ra_sq r s G n m k = true := by unfold ra_sq; rw [decide_eq_true (p := ra_wc r s (rv_cut 0 k n) m ≠ ra_wc r s (rv_cut 0 G n) m) z, decide_eq_true z2]; rfl
          rw [if_pos e] at hF
          rw [if_pos z2]
          exact rv_T_some.mpr ⟨hF.symm, hf7', hR7⟩
        · have e : ra_sq r s G n m k = false := by unfold ra_sq; rw [decide_eq_false z2, Bool.and_false]
          rw [if_neg (by rw [e]; decide)] at hF
          rw [if_neg z2, rv_T_lt, rv_n_succ]
          exact q (by omega) _ ⟨by omega, hF, hf7', hR7⟩
    · rw [if_neg (fun z => hkG ((rv_n_lt (by omega) (by omega)).mp z))]
      rw [show G - k = 0 by omega] at hF
      exact rv_T_some.mpr ⟨hF.symm, hf', hR'⟩
  · unfold f_X11_split
    refine ra_mrule (K := fun w2 => rv_bd (f_X11_now x w2) (fun (r3 : Int32) (w4 : rv_W) =>
      rv_fx (fun _ _ => none) (fun (ag5 : Int32 → rv_W → rv_R) (v7 : Int32) (w8 : rv_W) =>
      if v7 < (w8 78 6) then
      rv_bd (f_X11_winsOf x (0 : Int32) (v7 - (1 : Int32)) w8) (fun (r9 : Int32) (w10 : rv_W) =>
      if r9 = r3 then
      rv_lt (v7 + (1 : Int32)) (fun (v11 : Int32) =>
      ag5 v11 w10)
      else
      rv_bd (f_X11_winsOf x v7 ((w10 78 6) - (1 : Int32)) w10) (fun (r12 : Int32) (w13 : rv_W) =>
      if r9 = r12 then
      some (v7, w13)
      else
      rv_lt (v7 + (1 : Int32)) (fun (v14 : Int32) =>
      ag5 v14 w13)))
      else
      some ((-1000000 : Int32), w8)) rv_FU (1 : Int32) w4)) (fun r hr12 hx => ?_)
    subst hx
    have hG := h.G20
    refine rv_T_call (ra_now h hr12) (fun v w2 ⟨hv, hf, hM, _⟩ => ?_)
    subst hv
    refine rv_T_for (G + 1) (fun k w' => 1 ≤ k ∧ ra_fst (ra_sq r s G n m) (G - 1) 1 = ra_fst (ra_sq r s G n m) (G - k) k ∧ ra_f9 w w' ∧ ∃ n', ra_MP G n' m w') (fun ag k w' hk hI q => ?_) (by show G + 1 < 10000; omega) 1 _ ⟨Nat.le_refl _, rfl, hf.f9, _, hM⟩ (by omega)
    obtain ⟨hk1, hF, hf', n', hM'⟩ := hI
    have hC' := h.f9 hf'
    rw [hM'.1]
    by_cases hkG : k < G
    · rw [show G - k = (G - (k + 1)) + 1 by omega, ra_fst_s] at hF
      rw [if_pos ((rv_n_lt (by omega) (by omega)).mpr hkG)]
      refine rv_T_call (ra_winsOf (lo := 0) (hi := k) hC' hM' hr12 (by omega) (by omega)) (fun v w4 ⟨hv, hf4, hM4⟩ => ?_)
      subst hv
      have hf4' := hf'.trans hf4
      simp only [← ra_wcm2]
      by_cases z : ra_wc r s (rv_cut 0 k n) m = ra_wc r s (rv_cut 0 G n) m
      · have e : ra_sq r s G n m k = false := by unfold ra_sq; rw [decide_eq_false (fun y => y z), Bool.false_and]
        rw [if_neg (by rw [e]; decide)] at hF
        rw [if_pos z, rv_T_lt, rv_n_succ]
        exact q (by omega) _ ⟨by omega, hF, hf4', _, hM4⟩
      · rw [if_neg z, hM4.1]
        refine rv_T_call (ra_winsOf (lo := k) (hi := G) (h.f9 hf4') hM4 hr12 (by omega) (Nat.le_refl _)) (fun v w5 ⟨hv, hf5, hM5⟩ => ?_)
        subst hv
        have hf5' := hf4'.trans hf5
        simp only [← ra_wcm2]
        by_cases z2 : ra_wc r s (rv_cut k G n) m = ra_wc r s (rv_cut 0 k n) m
        · have e : ra_sq r s G n m k = true := by unfold ra_sq; rw [decide_eq_true (p := ra_wc r s (rv_cut 0 k n) m ≠ ra_wc r s (rv_cut 0 G n) m) z, decide_eq_true z2]; rfl
          rw [if_pos e] at hF
          rw [if_pos z2.symm]
          exact rv_T_some.mpr ⟨hF.symm, hf5'⟩
        · have e : ra_sq r s G n m k = false := by unfold ra_sq; rw [decide_eq_false z2, Bool.and_false]
          rw [if_neg (by rw [e]; decide)] at hF
          rw [if_neg (fun y => z2 y.symm), rv_T_lt, rv_n_succ]
          exact q (by omega) _ ⟨by omega, hF, hf5', _, hM5⟩
    · rw [if_neg (fun z => hkG ((rv_n_lt (by omega) (by omega)).mp z))]
      rw [show G - k = 0 by omega] at hF
      exact rv_T_some.mpr ⟨hF.symm, hf'⟩
