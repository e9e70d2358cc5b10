/-! the winner by points -/
/-- w has the most points X of those in s, and of several the least number -/
def rp_is (s : Nat) (X : Nat → Int) (w : Nat) : Prop := w < 5 ∧ rv_hs s w = true ∧ ∀ b, b < 5 → rv_hs s b = true → X b < X w ∨ (X b = X w ∧ w ≤ b)
theorem rp_is.u {s w w' : Nat} {X : Nat → Int} (h : rp_is s X w) (h' : rp_is s X w') : w = w' := by
  have h1 := h.2.2 w' h'.1 h'.2.1
  have h2 := h'.2.2 w h.1 h.2.1
  omega
theorem rp_is.up {s w : Nat} {X Y : Nat → Int} (h : rp_is s X w) (h1 : X w ≤ Y w) (h2 : ∀ b, b < 5 → rv_hs s b = true → b ≠ w → Y b ≤ X b) : rp_is s Y w := by
  refine ⟨h.1, h.2.1, fun b hb hs => ?_⟩
  by_cases e : b = w
  · subst e; right; omega
  · have := h.2.2 b hb hs
    have := h2 b hb hs e
    omega
theorem rp_is.add {s w : Nat} {X Y Z : Nat → Int} (h : rp_is s X w) (h' : rp_is s Y w) (e : ∀ c, c < 5 → rv_hs s c = true → Z c = X c + Y c) : rp_is s Z w := by
  refine ⟨h.1, h.2.1, fun b hb hs => ?_⟩
  have h1 := h.2.2 b hb hs
  have h2 := h'.2.2 b hb hs
  have e1 := e b hb hs
  have e2 := e w h.1 h.2.1
  omega
theorem rp_mo_hs {s a : Nat} {x : Nat → Int32} (ha : a < 5) : rv_hs (ra_mo s x) a = true ↔ rv_hs s a = true ∧ ∀ b, b < 5 → rv_hs s b = true → (x b).toInt ≤ (x a).toInt := by
  unfold ra_mo
  rw [rv_ms_hs ha, Bool.and_eq_true, rv_al_iff]
  refine and_congr_right (fun _ => ⟨fun h b hb hs => ?_, fun h b hb => ?_⟩)
  · have := h b hb
    rw [hs, Bool.not_true, Bool.false_or, Bool.not_eq_true', decide_eq_false_iff_not, Int32.lt_iff_toInt_lt] at this
    omega
  · cases hs : rv_hs s b
    · rfl
    · rw [Bool.not_true, Bool.false_or, Bool.not_eq_true', decide_eq_false_iff_not, Int32.lt_iff_toInt_lt]
      have := h b hb hs
      omega
theorem rp_mo {s : Nat} {x : Nat → Int32} {X : Nat → Int} (hs : s < 32) (h0 : s ≠ 0) (hX : ∀ c, c < 5 → rv_hs s c = true → (x c).toInt = X c) : rp_is s X (rv_lo (ra_mo s x)) := by
  obtain ⟨h1, h2, h3⟩ := ra_mo_ok (x := x) hs
  obtain ⟨l1, l2, l3⟩ := ra_lo_ok h1 (h3 h0)
  have hl := (rp_mo_hs l1).mp l2
  refine ⟨l1, hl.1, fun b hb hsb => ?_⟩
  have e1 := hX _ l1 hl.1
  have e2 := hX b hb hsb
  have := hl.2 b hb hsb
  by_cases q : X b = X (rv_lo (ra_mo s x))
  · right
    refine ⟨q, ?_⟩
    apply Nat.le_of_not_lt
    intro z
    have : rv_hs (ra_mo s x) b = true := (rp_mo_hs hb).mpr ⟨hsb, fun d hd hsd => by have := hl.2 d hd hsd; omega⟩
    rw [l3 b z] at this
    cases this
  · left; omega
/-- one has more points than all others -/
theorem rp_mo_one {s a : Nat} {x : Nat → Int32} (ha : a < 5) (hs : rv_hs s a = true) (h : ∀ b, b < 5 → rv_hs s b = true → b ≠ a → (x b).toInt < (x a).toInt) : ra_mo s x = 2 ^ a := by
  refine rv_hs_ext ra_mo_lt (rv_pow_lt ha) (fun c hc => ?_)
  rw [rv_hs_pow ha hc]
  by_cases e : c = a
  · subst e
    rw [beq_self_eq_true, rp_mo_hs hc]
    refine ⟨hs, fun b hb hsb => ?_⟩
    by_cases q : b = c
    · rw [q]; exact Int.le_refl _
    · have := h b hb hsb q; omega
  · rw [beq_false_of_ne e, Bool.eq_false_iff]
    intro z
    have z := (rp_mo_hs hc).mp z
    have := h c hc z.1 e
    have := z.2 a ha hs
    omega
theorem rp_nat_int {x : Nat} (h : x ≤ 100000) : (Int32.ofNat x).toInt = (x : Int) := rv_n_int (by omega)
theorem rp_sub_int {x y : Nat} (hx : x ≤ 2000) (hy : y ≤ 2000) : (Int32.ofNat x - Int32.ofNat y).toInt = (x : Int) - (y : Int) := by
  rw [← Int32.ofInt_eq_ofNat, ← Int32.ofInt_eq_ofNat, ← Int32.ofInt_sub, Int32.toInt_ofInt_of_le (by omega) (by omega)]
theorem rp_neg_int {x : Int32} (h1 : -2000 ≤ x.toInt) (h2 : x.toInt ≤ 2000) : (-x).toInt = -x.toInt := by
  obtain ⟨v, hv⟩ : ∃ v : Int, x.toInt = v := ⟨_, rfl⟩
  have e : x = Int32.ofInt v := by rw [← hv, Int32.ofInt_toInt]
  rw [hv] at h1 h2
  rw [e, ← Int32.ofInt_neg, Int32.toInt_ofInt_of_le (by omega) (by omega), Int32.toInt_ofInt_of_le (by omega) (by omega)]
/-! the points of each rule as numbers -/
def rp_ct (s : Nat) (p : Nat → Nat → Nat) (c b : Nat) : Nat := if c = b then 0 else if rv_hs s b = true then (if p b c < p c b then 2 else if p c b < p b c then 0 else 1) else 0
theorem rp_ct_le {s c b : Nat} {p : Nat → Nat → Nat} : rp_ct s p c b ≤ 2 := by
  unfold rp_ct
  repeat' split
  all_goals omega
theorem rp_co {s c : Nat} {p : Nat → Nat → Nat} : ra_co s p c = Int32.ofNat (rv_sm 5 (rp_ct s p c)) := by
  unfold ra_co
  rw [← rv_si_sm]
  refine rv_si_congr (fun b hb => ?_)
  unfold ra_ct rp_ct
  by_cases h1 : c = b
  · rw [if_pos h1, if_pos h1]; rfl
  · rw [if_neg h1, if_neg h1]
    by_cases h2 : rv_hs s b = true
    · rw [if_pos h2, if_pos h2]
      by_cases h3 : p b c < p c b
      · rw [if_pos h3, if_pos h3]; rfl
      · rw [if_neg h3, if_neg h3]
        by_cases h4 : p c b < p b c
        · rw [if_pos h4, if_pos h4]; rfl
        · rw [if_neg h4, if_neg h4]; rfl
    · rw [if_neg h2, if_neg h2]; rfl
theorem rp_co_le {s c : Nat} {p : Nat → Nat → Nat} : rv_sm 5 (rp_ct s p c) ≤ 10 := rv_sm_bd (c := 2) (fun g _ => rp_ct_le)
theorem rp_sm_lt {k j : Nat} {f g : Nat → Nat} (h : ∀ i, i < k → f i ≤ g i) (hj : j < k) (h2 : f j < g j) : rv_sm k f < rv_sm k g := by
  have h3 := rv_sm_set (n := k) (g := j) (f := f) (f' := fun i => if i = j then g j else f i) hj (fun i hi hne => by rw [if_neg hne])
  have h4 : rv_sm k (fun i => if i = j then g j else f i) ≤ rv_sm k g := rv_sm_le (fun i hi => by
    by_cases q : i = j
    · rw [if_pos q, q]; exact Nat.le_refl _
    · rw [if_neg q]; exact h i hi)
  rw [if_pos rfl] at h3
  omega
/-- what minimax takes: the greatest defeat, or 0 if there is no other -/
theorem rp_mm_ok {s c k : Nat} {p : Nat → Nat → Nat} (hp : ∀ a b, p a b ≤ 2000) : ((ra_mm s p c k).1 = true ∧ (ra_mm s p c k).2 = 0 ∧ ∀ b, b < k → b ≠ c → rv_hs s b = false) ∨ ((ra_mm s p c k).1 = false ∧ (∀ b, b < k → b ≠ c → rv_hs s b = true → (p b c : Int) - (p c b : Int) ≤ (ra_mm s p c k).2.toInt) ∧ ∃ b, b < k ∧ b ≠ c ∧ rv_hs s b = true ∧ (ra_mm s p c k).2.toInt = (p b c : Int) - (p c b : Int)) := by
  induction k with
  | zero => exact Or.inl ⟨rfl, rfl, fun b hb => by omega⟩
  | succ k ih =>
    rw [ra_mm_s]
    have e := rp_sub_int (hp k c) (hp c k)
    by_cases q : c = k ∨ rv_hs s k = false
    · rw [if_pos q]
      rcases ih with ⟨i1, i2, i3⟩ | ⟨i1, i2, b0, i3, i4, i5, i6⟩
      · refine Or.inl ⟨i1, i2, fun b hb hne => ?_⟩
        by_cases z : b = k
        · subst z
          rcases q with q | q
          · exact absurd q.symm hne
          · exact q
        · exact i3 b (by omega) hne
      · refine Or.inr ⟨i1, fun b hb hne hsb => ?_, b0, by omega, i4, i5, i6⟩
        by_cases z : b = k
        · subst z
          rcases q with q | q
          · exact absurd q.symm hne
          · rw [q] at hsb; cases hsb
        · exact i2 b (by omega) hne hsb
    · rw [if_neg q]
      have q1 : ¬ c = k := fun z => q (Or.inl z)
      have q2 : rv_hs s k = true := by
        cases z : rv_hs s k
        · exact absurd (Or.inr z) q
        · rfl
      refine Or.inr ⟨rfl, ?_⟩
      dsimp only
      rcases ih with ⟨i1, i2, i3⟩ | ⟨i1, i2, b0, i3, i4, i5, i6⟩
      · rw [if_pos i1, e]
        refine ⟨fun b hb hne hsb => ?_, k, by omega, fun z => q1 z.symm, q2, rfl⟩
        by_cases z : b = k
        · subst z; exact Int.le_refl _
        · rw [i3 b (by omega) hne] at hsb; cases hsb
      · rw [if_neg (by rw [i1]; decide)]
        by_cases z : (ra_mm s p c k).2 < Int32.ofNat (p k c) - Int32.ofNat (p c k)
        · rw [if_pos z, e]
          rw [Int32.lt_iff_toInt_lt, e] at z
          refine ⟨fun b hb hne hsb => ?_, k, by omega, fun z => q1 z.symm, q2, rfl⟩
          by_cases y : b = k
          · subst y; exact Int.le_refl _
          · have := i2 b (by omega) hne hsb; omega
        · rw [if_neg z]
          rw [Int32.lt_iff_toInt_lt, e] at z
          refine ⟨fun b hb hne hsb => ?_, b0, by omega, i4, i5, i6⟩
          by_cases y : b = k
          · subst y; omega
          · exact i2 b (by omega) hne hsb
theorem rp_mm_bd {s c : Nat} {p : Nat → Nat → Nat} (hp : ∀ a b, p a b ≤ 2000) : -2000 ≤ (ra_mm s p c 5).2.toInt ∧ (ra_mm s p c 5).2.toInt ≤ 2000 := by
  rcases rp_mm_ok (s := s) (c := c) (k := 5) hp with ⟨_, i2, _⟩ | ⟨_, _, b, _, _, _, i6⟩
  · rw [i2]; exact ⟨by decide, by decide⟩
  · rw [i6]
    have := hp b c
    have := hp c b
    omega
/-- the points of a rule, more being better -/
def rp_X (rule s : Nat) (n m : Nat → Nat) (c : Nat) : Int := if rule = 0 then (ra_KC n m s 1 c : Int) else if rule = 1 then (ra_bm n m s c : Int) else if rule = 2 then (rv_sm 5 (rp_ct s (ra_P s n m) c) : Int) else if rule = 3 then -(ra_mm s (ra_P s n m) c 5).2.toInt else (ra_KC n m s (ra_bu n m s) c : Int)
def rp_pts (rule : Nat) : Prop := rule < 4 ∨ rule = 8
/-- a profile: not too many voters, each ballot one -/
def rp_pf (n m : Nat → Nat) : Prop := rv_sm 20 n ≤ 2000 ∧ ∀ g, g < 20 → n g ≠ 0 → m g ∈ rv_B
theorem rp_pf.p {s a b : Nat} {n m : Nat → Nat} (h : rp_pf n m) : ra_P s n m a b ≤ 2000 := Nat.le_trans ra_P_le h.1
theorem rp_X0 {s c : Nat} {n m : Nat → Nat} : rp_X 0 s n m c = (ra_KC n m s 1 c : Int) := if_pos rfl
theorem rp_X1 {s c : Nat} {n m : Nat → Nat} : rp_X 1 s n m c = (ra_bm n m s c : Int) := by
  unfold rp_X
  rw [if_neg (by decide), if_pos rfl]
theorem rp_X2 {s c : Nat} {n m : Nat → Nat} : rp_X 2 s n m c = (rv_sm 5 (rp_ct s (ra_P s n m) c) : Int) := by
  unfold rp_X
  rw [if_neg (by decide), if_neg (by decide), if_pos rfl]
theorem rp_X3 {s c : Nat} {n m : Nat → Nat} : rp_X 3 s n m c = -(ra_mm s (ra_P s n m) c 5).2.toInt := by
  unfold rp_X
  rw [if_neg (by decide), if_neg (by decide), if_neg (by decide), if_pos rfl]
theorem rp_X8 {s c : Nat} {n m : Nat → Nat} : rp_X 8 s n m c = (ra_KC n m s (ra_bu n m s) c : Int) := by
  unfold rp_X
  rw [if_neg (by decide), if_neg (by decide), if_neg (by decide), if_neg (by decide)]
theorem rp_pt0 {s c : Nat} {n m : Nat → Nat} : ra_pt 0 s n m c = Int32.ofNat (ra_KC n m s 1 c) := if_pos rfl
theorem rp_pt1 {s c : Nat} {n m : Nat → Nat} : ra_pt 1 s n m c = ra_bo s n m s c := by
  unfold ra_pt
  rw [if_neg (by decide), if_pos rfl]
theorem rp_pt2 {s c : Nat} {n m : Nat → Nat} : ra_pt 2 s n m c = ra_co s (ra_P s n m) c := by
  unfold ra_pt
  rw [if_neg (by decide), if_neg (by decide), if_pos rfl]
theorem rp_pt3 {s c : Nat} {n m : Nat → Nat} : ra_pt 3 s n m c = (ra_mm s (ra_P s n m) c 5).2 := by
  unfold ra_pt
  rw [if_neg (by decide), if_neg (by decide), if_neg (by decide), if_pos rfl]
theorem rp_pt8 {s c : Nat} {n m : Nat → Nat} : ra_pt 8 s n m c = Int32.ofNat (ra_KC n m s (ra_bu n m s) c) := by
  unfold ra_pt
  rw [if_neg (by decide), if_neg (by decide), if_neg (by decide), if_neg (by decide)]
theorem rp_W3 {s : Nat} {n m : Nat → Nat} : ra_W 3 s n m = ra_mo s (fun c => -(ra_pt 3 s n m c)) := if_pos rfl
theorem rp_W4 {s : Nat} {n m : Nat → Nat} : ra_W 4 s n m = ra_sc s (ra_P s n m) := by
  unfold ra_W
  rw [if_neg (by decide), if_pos rfl]
theorem rp_W5 {s : Nat} {n m : Nat → Nat} : ra_W 5 s n m = ra_rw s (ra_zf (ra_P s n m) (rv_sm 20 n)) := by
  unfold ra_W
  rw [if_neg (by decide), if_neg (by decide), if_pos rfl]
theorem rp_W9 {s : Nat} {n m : Nat → Nat} : ra_W 9 s n m = ra_bw s n m := by
  unfold ra_W
  rw [if_neg (by decide), if_neg (by decide), if_neg (by decide), if_neg (by decide), if_neg (by decide), if_pos rfl]
theorem rp_W10 {s : Nat} {n m : Nat → Nat} : ra_W 10 s n m = ra_nf n m 5 s := by
  unfold ra_W
  rw [if_neg (by decide), if_neg (by decide), if_neg (by decide), if_neg (by decide), if_neg (by decide), if_neg (by decide), if_pos rfl]
theorem rp_W11 {s : Nat} {n m : Nat → Nat} : ra_W 11 s n m = ra_lds (ra_P s n m) s := by
  unfold ra_W
  rw [if_neg (by decide), if_neg (by decide), if_neg (by decide), if_neg (by decide), if_neg (by decide), if_neg (by decide), if_neg (by decide), if_pos rfl]
theorem rp_Wm {rule s : Nat} {n m : Nat → Nat} (h : rule = 0 ∨ rule = 1 ∨ rule = 2 ∨ rule = 8) : ra_W rule s n m = ra_mo s (ra_pt rule s n m) := by
  unfold ra_W
  rw [if_neg (by omega), if_neg (by omega), if_neg (by omega), if_neg (by omega), if_neg (by omega), if_neg (by omega), if_neg (by omega), if_neg (by omega)]
theorem rp_w {rule s : Nat} {n m : Nat → Nat} (hr : rp_pts rule) (hs : s < 32) (h0 : s ≠ 0) (hp : rp_pf n m) : rp_is s (rp_X rule s n m) (ra_w rule s n m) := by
  have hN := hp.1
  have hKC : ∀ k c, (Int32.ofNat (ra_KC n m s k c)).toInt = (ra_KC n m s k c : Int) := fun k c => rp_nat_int (by have := @ra_KC_le n m s k c; omega)
  unfold ra_w
  rcases (show rule = 0 ∨ rule = 1 ∨ rule = 2 ∨ rule = 3 ∨ rule = 8 by unfold rp_pts at hr; omega) with rfl | rfl | rfl | rfl | rfl
  · rw [rp_Wm (by omega)]
    exact rp_mo hs h0 (fun c _ _ => by rw [rp_pt0, rp_X0]; exact hKC 1 c)
  · rw [rp_Wm (by omega)]
    refine rp_mo hs h0 (fun c hc h => ?_)
    rw [rp_pt1, rp_X1, ra_bo_bm hp.2 hs ra_sub_self hc h]
    exact rp_nat_int (by have := @ra_bm_le n m s c hN; omega)
  · rw [rp_Wm (by omega)]
    refine rp_mo hs h0 (fun c hc h => ?_)
    rw [rp_pt2, rp_X2, rp_co]
    exact rp_nat_int (by have := @rp_co_le s c (ra_P s n m); omega)
  · rw [rp_W3]
    refine rp_mo hs h0 (fun c hc h => ?_)
    rw [rp_pt3, rp_X3]
    have := rp_mm_bd (s := s) (c := c) (p := ra_P s n m) (fun a b => hp.p)
    exact rp_neg_int this.1 this.2
  · rw [rp_Wm (by omega)]
    exact rp_mo hs h0 (fun c _ _ => by rw [rp_pt8, rp_X8]; exact hKC (ra_bu n m s) c)
