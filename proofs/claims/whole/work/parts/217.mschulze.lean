/-! the model's frame of the rules -/
def ra_fm (w w' : rv_W) : Prop := ∀ c j, ¬ ((84 ≤ c ∧ c ≤ 92) ∨ (c = 78 ∧ (j = 15 ∨ j = 17 ∨ j = 19))) → w' c j = w c j
theorem ra_fm.refl {w : rv_W} : ra_fm w w := fun _ _ _ => rfl
theorem ra_fm.trans {w w' w'' : rv_W} (h : ra_fm w w') (h2 : ra_fm w' w'') : ra_fm w w'' := fun c j z => (h2 c j z).trans (h c j z)
theorem ra_fm.up {w w' : rv_W} {A k : Nat} {v : Int32} (h : ra_fm w w') (hA : (84 ≤ A ∧ A ≤ 92) ∨ (A = 78 ∧ (k = 15 ∨ k = 17 ∨ k = 19))) : ra_fm w (rv_up w' A k v) := fun c j z => by
  rw [rv_up_of (fun z2 => z (by omega)), h c j z]
theorem ra_fm.fl {w w' : rv_W} {A k : Nat} {f : Nat → Int32} (h : ra_fm w w') (hA : 84 ≤ A ∧ A ≤ 92) : ra_fm w (rv_fl A k f w') := fun c j z => by
  rw [rv_fl_ne (fun z2 => z (by omega)), h c j z]
theorem ra_ML.fm {G : Nat} {n m : Nat → Nat} {w w' : rv_W} (h : ra_ML G n m w) (f : ra_fm w w') : ra_ML G n m w' := by
  refine ⟨h.1.fr (f _ _ (by omega)) (fun c j z => f c j (by omega)), fun k hk => ?_⟩
  rw [f _ _ (by omega)]
  exact h.2 k hk
theorem ra_ix5d {k v : Nat} : (5 : Int32) * Int32.ofNat (k / 5) + Int32.ofNat v = Int32.ofNat (5 * (k / 5) + v) := ra_ix5
def ra_pm (s : Nat) (M M' : Nat → Nat → Nat) (K : Nat) (w : rv_W) : Prop := ∀ k, k < 25 → rv_hs s (k / 5) = true → rv_hs s (k % 5) = true → w 85 k = Int32.ofNat (if k < K then M' (k / 5) (k % 5) else M (k / 5) (k % 5))
theorem ra_mstrengths {G s : Nat} {n m : Nat → Nat} {w : rv_W} (h : ra_ML G n m w) (hs : s < 32) : rv_T (f_X11_strengths (Int32.ofNat s) w) (fun _ w' => ra_fm w w' ∧ ∀ a b, a < 5 → b < 5 → rv_hs s a = true → rv_hs s b = true → w' 85 (5 * a + b) = Int32.ofNat (ra_fw s (ra_P s n m) 5 a b)) := by
  have hN := h.1.sum
  have hle : ∀ v a b, ra_fw s (ra_P s n m) v a b ≤ 2000 := fun v a b => Nat.le_trans (ra_fw_le (fun a b => ra_P_le)) hN
  unfold f_X11_strengths
  refine rv_T_for 25 (fun K w' => ra_fm w w' ∧ ∀ k, k < K → rv_hs s (k / 5) = true → rv_hs s (k % 5) = true → w' 85 k = Int32.ofNat (ra_fw s (ra_P s n m) 0 (k / 5) (k % 5))) (fun ag K w' hK hI q => ?_) (by decide) 0 _ ⟨ra_fm.refl, fun k hk => by omega⟩ (by omega)
  obtain ⟨hf, hI⟩ := hI
  have hL := h.fm hf
  by_cases hK25 : K < 25
  · have ha : K / 5 < 5 := by omega
    have hb : K % 5 < 5 := by omega
    simp only [rv_lt25 hK25, if_true, ra_div5 hK25, ra_mod5 hK25, hL.2.beats hL.1.sum ha hb, rv_bd_some, rv_b2_0, rv_ck25 hK25, rv_nn25 hK25, hL.2 K hK25, rv_lt, rv_jn, rv_n_succ]
    have fin : ∀ v, (rv_hs s (K / 5) = true → rv_hs s (K % 5) = true → v = Int32.ofNat (ra_fw s (ra_P s n m) 0 (K / 5) (K % 5))) → rv_T (ag (Int32.ofNat (K + 1)) (rv_up w' 85 K v)) (fun _ w' => ra_fm w w' ∧ ∀ a b, a < 5 → b < 5 → rv_hs s a = true → rv_hs s b = true → w' 85 (5 * a + b) = Int32.ofNat (ra_fw s (ra_P s n m) 5 a b)) := fun v hv => q hK25 _ ⟨hf.up (by omega), fun k hk h1 h2 => by
      by_cases z : k = K
      · subst z; rw [rv_up_same]; exact hv h1 h2
      · rw [rv_up_of (by omega)]; exact hI k (by omega) h1 h2⟩
    by_cases z : ra_PU n m (K % 5) (K / 5) < ra_PU n m (K / 5) (K % 5)
    · simp only [z, decide_true, Bool.true_eq_false, if_false]
      refine fin _ (fun h1 h2 => ?_)
      rw [ra_PU_P h1 h2, ra_PU_P h2 h1] at z
      rw [ra_PU_P h1 h2, ra_fw_0, if_pos ⟨h1, h2, z⟩]
    · simp only [z, decide_false, if_true]
      refine fin _ (fun h1 h2 => ?_)
      rw [ra_PU_P h1 h2, ra_PU_P h2 h1] at z
      rw [ra_fw_0, if_neg (fun z2 => z z2.2.2)]
      rfl
  · have : K = 25 := by omega
    subst this
    simp only [rv_ge25, if_false]
    have hI' : ra_pm s (ra_fw s (ra_P s n m) 0) (ra_fw s (ra_P s n m) 0) 0 w' := fun k hk h1 h2 => by
      rw [if_neg (by omega)]; exact hI k hk h1 h2
    clear hI
    refine rv_T_for 5 (fun v w' => ra_fm w w' ∧ ra_pm s (ra_fw s (ra_P s n m) v) (ra_fw s (ra_P s n m) v) 0 w') (fun ag2 v w2 hv hI2 q2 => ?_) (by decide) 0 _ ⟨hf, hI'⟩ (by omega)
    obtain ⟨hf2, hI2⟩ := hI2
    by_cases hv5 : v < 5
    · simp only [rv_lt5 hv5, if_true]
      refine rv_T_for 25 (fun K w' => ra_fm w w' ∧ ra_pm s (ra_fw s (ra_P s n m) v) (ra_fw s (ra_P s n m) (v + 1)) K w' ∧ (K ≠ 0 → rv_hs s v = true)) (fun ag3 K w3 hK hI3 q3 => ?_) (by decide) 0 _ ⟨hf2, fun k hk h1 h2 => by rw [hI2 k hk h1 h2, if_neg (by omega), if_neg (by omega)], fun z => absurd rfl z⟩ (by omega)
      obtain ⟨hf3, hI3, hne⟩ := hI3
      by_cases hK25 : K < 25
      · have ha : K / 5 < 5 := by omega
        have hb : K % 5 < 5 := by omega
        have i1 : 5 * (K / 5) + v < 25 := by omega
        have i2 : 5 * v + K % 5 < 25 := by omega
        simp only [rv_lt25 hK25, if_true, ra_div5 hK25, ra_mod5 hK25, e_mhasb hs hv5, rv_bd_some, rv_b2_0, ra_ix5, rv_ck25 i1, rv_ck25 i2, rv_nn25 i1, rv_nn25 i2, rv_ck25 hK25, rv_nn25 hK25, rv_lt, rv_jn, rv_n_succ]
        cases hsv : rv_hs s v
        · have hK0 : K = 0 := by
            refine Decidable.byContradiction (fun z => ?_)
            rw [hne z] at hsv; cases hsv
          subst hK0
          simp only [if_true]
          refine q2 hv5 _ ⟨hf3, fun k hk h1 h2 => ?_⟩
          rw [hI3 k hk h1 h2, if_neg (by omega), if_neg (by omega), ra_fw_skip hsv]
        · simp only [Bool.true_eq_false, if_false]
          have fin : ∀ x, (rv_hs s (K / 5) = true → rv_hs s (K % 5) = true → x = Int32.ofNat (ra_fw s (ra_P s n m) (v + 1) (K / 5) (K % 5))) → rv_T (ag3 (Int32.ofNat (K + 1)) (rv_up w3 85 K x)) (fun _ w' => ra_fm w w' ∧ ∀ a b, a < 5 → b < 5 → rv_hs s a = true → rv_hs s b = true → w' 85 (5 * a + b) = Int32.ofNat (ra_fw s (ra_P s n m) 5 a b)) := fun x hx => q3 hK25 _ ⟨hf3.up (by omega), fun k hk h1 h2 => by
            by_cases z : k = K
            · subst z; rw [rv_up_same, if_pos (by omega)]; exact hx h1 h2
            · rw [rv_up_of (by omega), hI3 k hk h1 h2]
              by_cases z2 : k < K
              · rw [if_pos z2, if_pos (by omega)]
              · rw [if_neg z2, if_neg (by omega)], fun _ => hsv⟩
          have vals : rv_hs s (K / 5) = true → rv_hs s (K % 5) = true → w3 85 (5 * (K / 5) + v) = Int32.ofNat (ra_fw s (ra_P s n m) v (K / 5) v) ∧ w3 85 (5 * v + K % 5) = Int32.ofNat (ra_fw s (ra_P s n m) v v (K % 5)) ∧ w3 85 K = Int32.ofNat (ra_fw s (ra_P s n m) v (K / 5) (K % 5)) := fun h1 h2 => by
            have e1 := hI3 (5 * (K / 5) + v) i1 (by rw [show (5 * (K / 5) + v) / 5 = K / 5 by omega]; exact h1) (by rw [show (5 * (K / 5) + v) % 5 = v by omega]; exact hsv)
            have e2 := hI3 (5 * v + K % 5) i2 (by rw [show (5 * v + K % 5) / 5 = v by omega]; exact hsv) (by rw [show (5 * v + K % 5) % 5 = K % 5 by omega]; exact h2)
            have e3 := hI3 K hK25 h1 h2
            rw [show (5 * (K / 5) + v) / 5 = K / 5 by omega, show (5 * (K / 5) + v) % 5 = v by omega, ra_fw_row, ite_self] at e1
            rw [show (5 * v + K % 5) / 5 = v by omega, show (5 * v + K % 5) % 5 = K % 5 by omega, ra_fw_col, ite_self] at e2
            rw [if_neg (by omega)] at e3
            exact ⟨e1, e2, e3⟩
          have l1 := hle v (K / 5) v
          have l2 := hle v v (K % 5)
          have l3 := hle v (K / 5) (K % 5)
          have sel : ∀ x, (rv_hs s (K / 5) = true → rv_hs s (K % 5) = true → x = Int32.ofNat (min (ra_fw s (ra_P s n m) v (K / 5) v) (ra_fw s (ra_P s n m) v v (K % 5)))) → rv_T (if w3 85 K < x then ag3 (Int32.ofNat (K + 1)) (rv_up w3 85 K x) else ag3 (Int32.ofNat (K + 1)) (rv_up w3 85 K (w3 85 K))) (fun _ w' => ra_fm w w' ∧ ∀ a b, a < 5 → b < 5 → rv_hs s a = true → rv_hs s b = true → w' 85 (5 * a + b) = Int32.ofNat (ra_fw s (ra_P s n m) 5 a b)) := fun x hx => by
            by_cases z : w3 85 K < x
            · rw [if_pos z]
              refine fin _ (fun h1 h2 => ?_)
              obtain ⟨e1, e2, e3⟩ := vals h1 h2
              have hx' := hx h1 h2
              have := ra_imax (x := ra_fw s (ra_P s n m) v (K / 5) (K % 5)) (y := min (ra_fw s (ra_P s n m) v (K / 5) v) (ra_fw s (ra_P s n m) v v (K % 5))) l3 (by omega)
              rw [← hx', ← e3, if_pos z] at this
              rw [this, ra_fw_s]
            · rw [if_neg z]
              refine fin _ (fun h1 h2 => ?_)
              obtain ⟨e1, e2, e3⟩ := vals h1 h2
              have hx' := hx h1 h2
              have := ra_imax (x := ra_fw s (ra_P s n m) v (K / 5) (K % 5)) (y := min (ra_fw s (ra_P s n m) v (K / 5) v) (ra_fw s (ra_P s n m) v v (K % 5))) l3 (by omega)
              rw [← hx', ← e3, if_neg z] at this
              rw [this, ra_fw_s]
          have mn2 := ra_imin (x := ra_fw s (ra_P s n m) v v (K % 5)) (y := ra_fw s (ra_P s n m) v (K / 5) v) l2 l1
          by_cases z : w3 85 (5 * (K / 5) + v) < w3 85 (5 * v + K % 5)
          · rw [if_pos z]
            refine sel _ (fun h1 h2 => ?_)
            obtain ⟨e1, e2, e3⟩ := vals h1 h2
            rw [e1, e2] at z
            rw [if_pos z] at mn2
            rw [e1, mn2, Nat.min_comm]
          · rw [if_neg z]
            refine sel _ (fun h1 h2 => ?_)
            obtain ⟨e1, e2, e3⟩ := vals h1 h2
            rw [e1, e2] at z
            rw [if_neg z] at mn2
            rw [e2, mn2, Nat.min_comm]
      · have : K = 25 := by omega
        subst this
        simp only [rv_ge25, if_false, rv_lt, rv_n_succ]
        refine q2 hv5 _ ⟨hf3, fun k hk h1 h2 => ?_⟩
        rw [hI3 k hk h1 h2, if_pos hk, if_neg (by omega)]
    · have : v = 5 := by omega
      subst this
      simp only [rv_ge5, if_false]
      refine rv_T_some.mpr ⟨hf2, fun a b ha hb h1 h2 => ?_⟩
      have e := hI2 (5 * a + b) (by omega) (by rw [show (5 * a + b) / 5 = a by omega]; exact h1) (by rw [show (5 * a + b) % 5 = b by omega]; exact h2)
      rw [if_neg (by omega), show (5 * a + b) / 5 = a by omega, show (5 * a + b) % 5 = b by omega] at e
      exact e
theorem ra_mschulze {G s : Nat} {n m : Nat → Nat} {w : rv_W} (h : ra_ML G n m w) (hs : s < 32) : rv_T (f_X11_schulze (Int32.ofNat s) w) (fun v w' => v = Int32.ofNat (ra_sc s (ra_P s n m)) ∧ ra_fm w w') := by
  unfold f_X11_schulze
  refine rv_T_call (ra_mstrengths h hs) (fun _ w2 ⟨hf, hM⟩ => ?_)
  have hN := h.1.sum
  have hle : ∀ a b, ra_fw s (ra_P s n m) 5 a b ≤ 2000 := fun a b => Nat.le_trans (ra_fw_le (fun a b => ra_P_le)) hN
  refine rv_T_of (r := Int32.ofNat (ra_sc s (ra_P s n m))) (w := w2) ?_ ⟨rfl, hf⟩
  refine rv_E1 5 (fun k => Int32.ofNat (rv_ms k (fun a => rv_hs s a && rv_al 5 (fun b => !ra_sw s (ra_P s n m) a b)))) (fun _ => w2) _ _ rfl rfl (fun ag a ha => ?_) (fun ag => ?_) (by decide)
  · simp only [rv_lt5 ha, if_true, e_mhasb hs ha, rv_bd_some]
    refine rv_E1 5 (fun k => rv_b2 (rv_hs s a && rv_al k (fun b => !ra_sw s (ra_P s n m) a b))) (fun _ => w2) _ _ rfl (by rw [rv_al, Bool.and_true]) (fun ag2 b hb => ?_) (fun ag2 => ?_) (by decide)
    · have i1 : 5 * a + b < 25 := by omega
      have i2 : 5 * b + a < 25 := by omega
      simp only [rv_lt5 hb, if_true, e_mhasb hs hb, rv_bd_some, rv_b2_0, rv_lt, rv_jn, rv_n_succ, rv_al_s, rv_eq5 hb ha, ra_ix5, rv_ck25 i1, rv_ck25 i2, rv_nn25 i1, rv_nn25 i2]
      cases h1 : rv_hs s a
      · simp [rv_b2]
      · cases h2 : rv_al b (fun b => !ra_sw s (ra_P s n m) a b)
        · simp [rv_b2]
        · by_cases q : b = a
          · have : ra_sw s (ra_P s n m) a b = false := by unfold ra_sw; rw [q]; exact decide_eq_false (Nat.lt_irrefl _)
            rw [this]
            simp [q, rv_b2]
          · cases h3 : rv_hs s b
            · have : ra_sw s (ra_P s n m) a b = false := by unfold ra_sw; rw [ra_fw_off (Or.inr h3), ra_fw_off (Or.inl h3)]; rfl
              rw [this]
              simp [q, rv_b2]
            · have l1 := hle a b
              have l2 := hle b a
              have e : (Int32.ofNat (ra_fw s (ra_P s n m) 5 a b) < Int32.ofNat (ra_fw s (ra_P s n m) 5 b a)) = (ra_fw s (ra_P s n m) 5 a b < ra_fw s (ra_P s n m) 5 b a) := propext (rv_n_lt (by omega) (by omega))
              rw [hM a b ha hb h1 h3, hM b a hb ha h3 h1]
              simp only [e]
              unfold ra_sw
              by_cases q2 : ra_fw s (ra_P s n m) 5 a b < ra_fw s (ra_P s n m) 5 b a
              · simp [q, q2, rv_b2]
              · simp [q, q2, rv_b2]
    · simp only [rv_ge5, if_false, rv_b2_0, rv_lt, rv_n_succ, ra_ms_or ha, rv_or0, rv_ms_s]
      cases rv_hs s a && rv_al 5 (fun b => !ra_sw s (ra_P s n m) a b) <;> simp
  · rw [if_neg (by decide)]; rfl
