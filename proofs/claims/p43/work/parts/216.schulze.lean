/-! the strengths of paths -/
def ra_fw (s : Nat) (p : Nat → Nat → Nat) : Nat → Nat → Nat → Nat
  | 0 => fun a b => if rv_hs s a = true ∧ rv_hs s b = true ∧ p b a < p a b then p a b else 0
  | v + 1 => fun a b => max (ra_fw s p v a b) (min (ra_fw s p v a v) (ra_fw s p v v b))
theorem ra_fw_s {s v a b : Nat} {p : Nat → Nat → Nat} : ra_fw s p (v + 1) a b = max (ra_fw s p v a b) (min (ra_fw s p v a v) (ra_fw s p v v b)) := rfl
theorem ra_fw_0 {s a b : Nat} {p : Nat → Nat → Nat} : ra_fw s p 0 a b = if rv_hs s a = true ∧ rv_hs s b = true ∧ p b a < p a b then p a b else 0 := rfl
theorem ra_fw_row {s v a : Nat} {p : Nat → Nat → Nat} : ra_fw s p (v + 1) a v = ra_fw s p v a v := by
  rw [ra_fw_s]; omega
theorem ra_fw_col {s v b : Nat} {p : Nat → Nat → Nat} : ra_fw s p (v + 1) v b = ra_fw s p v v b := by
  rw [ra_fw_s]; omega
theorem ra_fw_off {s v a b : Nat} {p : Nat → Nat → Nat} (h : rv_hs s a = false ∨ rv_hs s b = false) : ra_fw s p v a b = 0 := by
  induction v generalizing a b with
  | zero =>
    rw [ra_fw_0, if_neg (fun z => ?_)]
    rcases h with h | h
    · rw [h] at z; cases z.1
    · rw [h] at z; cases z.2.1
  | succ v ih =>
    rw [ra_fw_s, ih h]
    rcases h with h | h
    · rw [ih (Or.inl h)]; omega
    · rw [ih (b := b) (Or.inr h)]; omega
theorem ra_fw_skip {s v a b : Nat} {p : Nat → Nat → Nat} (h : rv_hs s v = false) : ra_fw s p (v + 1) a b = ra_fw s p v a b := by
  rw [ra_fw_s, ra_fw_off (a := a) (b := v) (Or.inr h)]; omega
theorem ra_fw_le {s v a b N : Nat} {p : Nat → Nat → Nat} (h : ∀ a b, p a b ≤ N) : ra_fw s p v a b ≤ N := by
  induction v generalizing a b with
  | zero =>
    rw [ra_fw_0]
    split
    · exact h a b
    · exact Nat.zero_le _
  | succ v ih =>
    rw [ra_fw_s]
    have := @ih a b
    have := @ih a v
    omega
theorem ra_fw_cl {s v u a b : Nat} {p : Nat → Nat → Nat} (hu : u < v) : min (ra_fw s p v a u) (ra_fw s p v u b) ≤ ra_fw s p v a b := by
  induction v generalizing u a b with
  | zero => omega
  | succ v ih =>
    by_cases q : u = v
    · subst q
      rw [ra_fw_row, ra_fw_col, ra_fw_s]
      omega
    · have h1 := @ih u a b (by omega)
      have h2 := @ih u a v (by omega)
      have h3 := @ih u v b (by omega)
      rw [ra_fw_s, ra_fw_s, ra_fw_s]
      omega
def ra_sw (s : Nat) (p : Nat → Nat → Nat) (a b : Nat) : Bool := decide (ra_fw s p 5 a b < ra_fw s p 5 b a)
/-- who wins by the strengths -/
def ra_sc (s : Nat) (p : Nat → Nat → Nat) : Nat := rv_ms 5 (fun a => rv_hs s a && rv_al 5 (fun b => !ra_sw s p a b))
/-- somebody is not behind anybody -/
theorem ra_src {s : Nat} {R : Nat → Nat → Bool} (hs : s < 32) (h0 : s ≠ 0) (ir : ∀ a, a < 5 → R a a = false) (tr : ∀ a b c, a < 5 → b < 5 → c < 5 → R a b = true → R b c = true → R a c = true) : ∃ a, a < 5 ∧ rv_hs s a = true ∧ ∀ b, b < 5 → rv_hs s b = true → R b a = false := by
  have key : ∀ k, k ≤ 5 → (∀ c, c < k → rv_hs s c = false) ∨ ∃ a, a < k ∧ rv_hs s a = true ∧ ∀ b, b < k → rv_hs s b = true → R b a = false := by
    intro k
    induction k with
    | zero => intro _; exact Or.inl (fun c hc => by omega)
    | succ k ih =>
      intro hk
      cases hsk : rv_hs s k
      · rcases ih (by omega) with h | ⟨a, ha, hsa, h⟩
        · refine Or.inl (fun c hc => ?_)
          by_cases q : c = k
          · rw [q]; exact hsk
          · exact h c (by omega)
        · refine Or.inr ⟨a, by omega, hsa, fun b hb hsb => ?_⟩
          by_cases q : b = k
          · rw [q, hsk] at hsb; cases hsb
          · exact h b (by omega) hsb
      · rcases ih (by omega) with h | ⟨a, ha, hsa, h⟩
        · refine Or.inr ⟨k, by omega, hsk, fun b hb hsb => ?_⟩
          by_cases q : b = k
          · rw [q]; exact ir k (by omega)
          · rw [h b (by omega)] at hsb; cases hsb
        · cases hR : R k a
          · refine Or.inr ⟨a, by omega, hsa, fun b hb hsb => ?_⟩
            by_cases q : b = k
            · rw [q]; exact hR
            · exact h b (by omega) hsb
          · refine Or.inr ⟨k, by omega, hsk, fun b hb hsb => ?_⟩
            by_cases q : b = k
            · rw [q]; exact ir k (by omega)
            · rw [Bool.eq_false_iff]
              intro z
              have := tr b k a (by omega) (by omega) (by omega) z hR
              rw [h b (by omega) hsb] at this
              cases this
  rcases key 5 (by omega) with h | h
  · exfalso
    apply h0
    exact rv_hs_ext hs (by decide) (fun c hc => by rw [h c hc]; unfold rv_hs; simp)
  · exact h
theorem ra_ms_ne {p : Nat → Bool} {a : Nat} (ha : a < 5) (h : p a = true) : rv_ms 5 p ≠ 0 := fun z => by
  have := rv_ms_hs (n := 5) (p := p) ha
  rw [z, h] at this
  simp [rv_hs] at this
theorem ra_sc_ne {s : Nat} {p : Nat → Nat → Nat} (hs : s < 32) (h0 : s ≠ 0) : ra_sc s p ≠ 0 := by
  obtain ⟨a, ha, hsa, h⟩ := ra_src (R := fun b a => ra_sw s p a b) hs h0 (fun a _ => by unfold ra_sw; exact decide_eq_false (Nat.lt_irrefl _)) (fun a b c ha hb hc h1 h2 => by
    unfold ra_sw at *
    rw [decide_eq_true_eq] at *
    have e1 := @ra_fw_cl s 5 b a c p hb
    have e2 := @ra_fw_cl s 5 a c b p ha
    have e3 := @ra_fw_cl s 5 c b a p hc
    omega)
  refine ra_ms_ne ha ?_
  rw [hsa, Bool.true_and, rv_al_iff]
  intro b hb
  cases hsb : rv_hs s b
  · unfold ra_sw
    rw [ra_fw_off (Or.inr hsb), ra_fw_off (Or.inl hsb)]
    rfl
  · rw [h b hb hsb]; rfl
/-! a square of cells -/
def ra_mt (A : Nat) (M : Nat → Nat → Int32) (w w' : rv_W) : Prop := (∀ c j, ¬ (A ≤ c ∧ c < A + 5 ∧ j < 5) → w' c j = w c j) ∧ ∀ x y, x < 5 → y < 5 → w' (A + x) y = M x y
theorem ra_mt.congr {A : Nat} {M M' : Nat → Nat → Int32} {w w' : rv_W} (h : ra_mt A M w w') (e : ∀ x y, x < 5 → y < 5 → M x y = M' x y) : ra_mt A M' w w' := ⟨h.1, fun x y hx hy => by rw [h.2 x y hx hy, e x y hx hy]⟩
theorem ra_mt.up {A x y : Nat} {v : Int32} {M M' : Nat → Nat → Int32} {w w' : rv_W} (h : ra_mt A M w w') (hx : x < 5) (hy : y < 5) (e : ∀ a b, a < 5 → b < 5 → M' a b = if a = x ∧ b = y then v else M a b) : ra_mt A M' w (rv_up w' (A + x) y v) := by
  refine ⟨fun c j z => ?_, fun a b ha hb => ?_⟩
  · rw [rv_up_of (fun z2 => z (by omega)), h.1 c j z]
  · rw [e a b ha hb]
    by_cases q : a = x ∧ b = y
    · rw [if_pos q, q.1, q.2, rv_up_same]
    · rw [if_neg q, rv_up_of (by omega), h.2 a b ha hb]
theorem ra_imin {x y : Nat} (hx : x ≤ 2000) (hy : y ≤ 2000) : (if Int32.ofNat y < Int32.ofNat x then Int32.ofNat y else Int32.ofNat x) = Int32.ofNat (min x y) := by
  by_cases q : y < x
  · rw [if_pos ((rv_n_lt (by omega) (by omega)).mpr q)]; congr 1; omega
  · rw [if_neg (fun z => q ((rv_n_lt (by omega) (by omega)).mp z))]; congr 1; omega
theorem ra_imax {x y : Nat} (hx : x ≤ 2000) (hy : y ≤ 2000) : (if Int32.ofNat x < Int32.ofNat y then Int32.ofNat y else Int32.ofNat x) = Int32.ofNat (max x y) := by
  by_cases q : x < y
  · rw [if_pos ((rv_n_lt (by omega) (by omega)).mpr q)]; congr 1; omega
  · rw [if_neg (fun z => q ((rv_n_lt (by omega) (by omega)).mp z))]; congr 1; omega
def ra_kM (f g : Nat → Nat → Int32) (K : Nat) (x y : Nat) : Int32 := if 5 * x + y < K then g x y else f x y
theorem ra_kM_up {f g : Nat → Nat → Int32} {a b : Nat} {v : Int32} (ha : a < 5) (hb : b < 5) (h : v = g a b) : ∀ x y, x < 5 → y < 5 → ra_kM f g (5 * a + b + 1) x y = if x = a ∧ y = b then v else ra_kM f g (5 * a + b) x y := by
  intro x y hx hy
  unfold ra_kM
  by_cases q : x = a ∧ y = b
  · rw [if_pos q, q.1, q.2, if_pos (by omega), h]
  · rw [if_neg q]
    by_cases q2 : 5 * x + y < 5 * a + b
    · rw [if_pos q2, if_pos (by omega)]
    · rw [if_neg q2, if_neg (by omega)]
theorem ra_mt.ge {A : Nat} {M : Nat → Nat → Int32} {w w' : rv_W} (h : ra_mt A M w w') : ∀ c j, c < A → w' c j = w c j := fun c j hc => h.1 c j (by omega)
theorem ra_strengths {s : Nat} {n m : Nat → Nat} {w : rv_W} (h : ra_PQ s n m w) : rv_T (f_X2_findStrengths w) (fun _ w' => ra_mt 68 (fun a b => Int32.ofNat (ra_fw s (ra_P s n m) 5 a b)) w w') := by
  have hs := h.s32
  have hN := h.sum
  have hle : ∀ v a b, ra_fw s (ra_P s n m) v a b ≤ 2000 := fun v a b => Nat.le_trans (ra_fw_le (fun a b => ra_P_le)) hN
  unfold f_X2_findStrengths
  have hPw : ∀ {M w'}, ra_mt 68 M w w' → ra_PQ s n m w' := fun q => h.fr (fun c j _ _ => q.ge c j (by omega))
  refine rv_T_for 5 (fun a w' => ra_mt 68 (ra_kM (fun x y => w (68 + x) y) (fun x y => Int32.ofNat (ra_fw s (ra_P s n m) 0 x y)) (5 * a)) w w') (fun ag a w' ha hI q => ?_) (by decide) 0 _ ⟨fun _ _ _ => rfl, fun x y _ _ => by unfold ra_kM; rw [if_neg (by omega)]⟩ (by omega)
  by_cases ha5 : a < 5
  · simp only [rv_lt5 ha5, if_true]
    refine rv_T_for 5 (fun b w' => ra_mt 68 (ra_kM (fun x y => w (68 + x) y) (fun x y => Int32.ofNat (ra_fw s (ra_P s n m) 0 x y)) (5 * a + b)) w w') (fun ag2 b w2 hb hI2 q2 => ?_) (by decide) 0 _ hI (by omega)
    by_cases hb5 : b < 5
    · have hP := hPw hI2
      have l1 := @ra_P_le s a b n m
      have l2 := @ra_P_le s b a n m
      have e : (Int32.ofNat (ra_P s n m b a) < Int32.ofNat (ra_P s n m a b)) = (ra_P s n m b a < ra_P s n m a b) := propext (rv_n_lt (by omega) (by omega))
      simp only [rv_lt5 hb5, if_true, rv_ck5 ha5, rv_ck5 hb5, rv_nn5 ha5, rv_nn5 hb5, hP.ab ha5 hb5, hP.ab hb5 ha5, e, rv_lt, rv_jn, rv_n_succ]
      have e0 : ra_fw s (ra_P s n m) 0 a b = if ra_P s n m b a < ra_P s n m a b then ra_P s n m a b else 0 := by
        rw [ra_fw_0]
        by_cases z : ra_P s n m b a < ra_P s n m a b
        · rw [if_pos z, if_pos]
          have nz : ∀ x y, x < 5 → y < 5 → (rv_hs s x = false ∨ rv_hs s y = false) → ra_P s n m x y = 0 := fun x y _ _ hz => ra_S_zero (fun g _ _ => by rcases hz with hz | hz <;> rw [hz] <;> simp)
          refine ⟨?_, ?_, z⟩
          · cases z2 : rv_hs s a
            · rw [nz a b ha5 hb5 (Or.inl z2)] at z; omega
            · rfl
          · cases z2 : rv_hs s b
            · rw [nz a b ha5 hb5 (Or.inr z2)] at z; omega
            · rfl
        · rw [if_neg z, if_neg (fun z2 => z z2.2.2)]
      by_cases z : ra_P s n m b a < ra_P s n m a b
      · rw [if_pos z] at e0
        rw [if_pos z]
        exact q2 hb5 _ (hI2.up ha5 hb5 (ra_kM_up ha5 hb5 (by rw [e0])))
      · rw [if_neg z] at e0
        rw [if_neg z]
        exact q2 hb5 _ (hI2.up ha5 hb5 (ra_kM_up ha5 hb5 (by rw [e0]; rfl)))
    · have : b = 5 := by omega
      subst this
      simp only [rv_ge5, if_false, rv_lt, rv_n_succ]
      exact q ha5 _ (by rw [show 5 * (a + 1) = 5 * a + 5 by omega]; exact hI2)
  · have : a = 5 := by omega
    subst this
    simp only [rv_ge5, if_false]
    have hI' := hI.congr (M' := fun a b => Int32.ofNat (ra_fw s (ra_P s n m) 0 a b)) (fun x y hx hy => by unfold ra_kM; rw [if_pos (by omega)])
    clear hI
    refine rv_T_for 5 (fun v w' => ra_mt 68 (fun a b => Int32.ofNat (ra_fw s (ra_P s n m) v a b)) w w') (fun ag2 v w2 hv hI2 q2 => ?_) (by decide) 0 _ hI' (by omega)
    by_cases hv5 : v < 5
    · simp only [rv_lt5 hv5, if_true]
      refine rv_T_for 5 (fun a w' => ra_mt 68 (ra_kM (fun x y => Int32.ofNat (ra_fw s (ra_P s n m) v x y)) (fun x y => Int32.ofNat (ra_fw s (ra_P s n m) (v + 1) x y)) (5 * a)) w w') (fun ag3 a w3 ha hI3 q3 => ?_) (by decide) 0 _ (hI2.congr (fun x y _ _ => by unfold ra_kM; rw [if_neg (by omega)])) (by omega)
      by_cases ha5 : a < 5
      · simp only [rv_lt5 ha5, if_true]
        refine rv_T_for 5 (fun b w' => ra_mt 68 (ra_kM (fun x y => Int32.ofNat (ra_fw s (ra_P s n m) v x y)) (fun x y => Int32.ofNat (ra_fw s (ra_P s n m) (v + 1) x y)) (5 * a + b)) w w') (fun ag4 b w4 hb hI4 q4 => ?_) (by decide) 0 _ hI3 (by omega)
        by_cases hb5 : b < 5
        · have r1 : w4 (68 + a) v = Int32.ofNat (ra_fw s (ra_P s n m) v a v) := by
            rw [hI4.2 a v ha5 hv5]; unfold ra_kM; split
            · exact congrArg _ ra_fw_row
            · rfl
          have r2 : w4 (68 + v) b = Int32.ofNat (ra_fw s (ra_P s n m) v v b) := by
            rw [hI4.2 v b hv5 hb5]; unfold ra_kM; split
            · exact congrArg _ ra_fw_col
            · rfl
          have r3 : w4 (68 + a) b = Int32.ofNat (ra_fw s (ra_P s n m) v a b) := by
            rw [hI4.2 a b ha5 hb5]; unfold ra_kM; rw [if_neg (by omega)]
          have l1 := hle v a v
          simp only [rv_lt5 hb5, if_true, rv_ck5 ha5, rv_ck5 hb5, rv_ck5 hv5, rv_nn5 ha5, rv_nn5 hb5, rv_nn5 hv5, r1, r2, r3, ra_imin (hle v a v) (hle v v b), ra_imax (hle v a b) (show min (ra_fw s (ra_P s n m) v a v) (ra_fw s (ra_P s n m) v v b) ≤ 2000 by omega), rv_lt, rv_n_succ]
          exact q4 hb5 _ (hI4.up ha5 hb5 (ra_kM_up ha5 hb5 (by rw [ra_fw_s])))
        · have : b = 5 := by omega
          subst this
          simp only [rv_ge5, if_false, rv_lt, rv_n_succ]
          exact q3 ha5 _ (by rw [show 5 * (a + 1) = 5 * a + 5 by omega]; exact hI4)
      · have : a = 5 := by omega
        subst this
        simp only [rv_ge5, if_false, rv_lt, rv_n_succ]
        exact q2 hv5 _ (hI3.congr (fun x y hx hy => by unfold ra_kM; rw [if_pos (by omega)]))
    · have : v = 5 := by omega
      subst this
      simp only [rv_ge5, if_false]
      exact rv_T_some.mpr hI2
theorem ra_strongest {s : Nat} {n m : Nat → Nat} {w : rv_W} (h : ra_PQ s n m w) (hM : ∀ a b, a < 5 → b < 5 → w (68 + a) b = Int32.ofNat (ra_fw s (ra_P s n m) 5 a b)) : f_X2_strongest w = some (Int32.ofNat (ra_sc s (ra_P s n m)), w) := by
  have hs := h.s32
  have hN := h.sum
  have hle : ∀ a b, ra_fw s (ra_P s n m) 5 a b ≤ 2000 := fun a b => Nat.le_trans (ra_fw_le (fun a b => ra_P_le)) hN
  unfold f_X2_strongest
  rw [h.st]
  refine rv_C1 5 (fun a x w' => w' = w ∧ ∃ t, x = Int32.ofNat t ∧ t < 32 ∧ ∀ c, c < 5 → rv_hs t c = (rv_hs s c && (!decide (c < a) || rv_al 5 (fun b => !ra_sw s (ra_P s n m) c b)))) 0 _ _ ⟨rfl, s, rfl, hs, fun c hc => by simp⟩ (by omega) (by decide) (fun ag a x w' ha hI ih => ?_)
  obtain ⟨rfl, t, rfl, ht, hI⟩ := hI
  by_cases ha5 : a < 5
  · simp only [rv_lt5 ha5, if_true]
    refine rv_C1 5 (fun b x w2 => w2 = w' ∧ ∃ t, x = Int32.ofNat t ∧ t < 32 ∧ ∀ c, c < 5 → rv_hs t c = (rv_hs s c && ((!decide (c < a) || rv_al 5 (fun b => !ra_sw s (ra_P s n m) c b)) && (!decide (c = a) || rv_al b (fun b => !ra_sw s (ra_P s n m) a b))))) 0 _ _ ⟨rfl, t, rfl, ht, fun c hc => by rw [hI c hc, rv_al]; simp⟩ (by omega) (by decide) (fun ag2 b x w2 hb hI2 ih2 => ?_)
    obtain ⟨rfl, t, rfl, ht, hI2⟩ := hI2
    by_cases hb5 : b < 5
    · have e : (Int32.ofNat (ra_fw s (ra_P s n m) 5 a b) < Int32.ofNat (ra_fw s (ra_P s n m) 5 b a)) = (ra_fw s (ra_P s n m) 5 a b < ra_fw s (ra_P s n m) 5 b a) := propext (rv_n_lt (by have := hle a b; omega) (by have := hle b a; omega))
      simp only [rv_lt5 hb5, if_true, rv_ck5 ha5, rv_ck5 hb5, rv_nn5 ha5, rv_nn5 hb5, hM a b ha5 hb5, hM b a hb5 ha5, e, e_without ht ha5, rv_bd_some, rv_lt, rv_n_succ]
      by_cases z : ra_fw s (ra_P s n m) 5 a b < ra_fw s (ra_P s n m) 5 b a
      · have z2 : ra_sw s (ra_P s n m) a b = true := decide_eq_true z
        rw [if_pos z]
        refine ih2 hb5 _ _ ⟨rfl, _, rfl, rv_wo_lt ht, fun c hc => ?_⟩
        rw [rv_wo_hs ht ha5 hc, hI2 c hc, rv_al_s (n := b), z2]
        by_cases q : c = a <;> simp [q]
      · have z2 : ra_sw s (ra_P s n m) a b = false := decide_eq_false z
        rw [if_neg z]
        refine ih2 hb5 _ _ ⟨rfl, _, rfl, ht, fun c hc => ?_⟩
        rw [hI2 c hc, rv_al_s (n := b), z2]
        simp
    · have : b = 5 := by omega
      subst this
      simp only [rv_ge5, if_false, rv_lt, rv_n_succ]
      refine ih ha5 _ _ ⟨rfl, _, rfl, ht, fun c hc => ?_⟩
      rw [hI2 c hc]
      by_cases q : c = a
      · subst q; simp
      · by_cases q2 : c < a
        · have : c < a + 1 := by omega
          simp [q, q2, this]
        · have : ¬ c < a + 1 := by omega
          simp [q, q2, this]
  · have : a = 5 := by omega
    subst this
    simp only [rv_ge5, if_false]
    congr 3
    refine rv_hs_ext ht rv_ms_lt (fun c hc => ?_)
    rw [hI c hc, ra_sc, rv_ms_hs hc]
    simp [hc]
