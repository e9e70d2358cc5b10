/-! the model's points -/
theorem ra_MC.fl {A k : Nat} {n m : Nat → Nat} {f : Nat → Int32} {w : rv_W} (h : ra_MC n m w) (hA : A ≠ 83) : ra_MC n m (rv_fl A k f w) := fun j hj => by rw [rv_fl_ne (Ne.symm hA)]; exact h j hj
theorem ra_MC.up {A k : Nat} {n m : Nat → Nat} {v : Int32} {w : rv_W} (h : ra_MC n m w) (hA : A ≠ 83) : ra_MC n m (rv_up w A k v) := fun j hj => by rw [rv_up_ne (Ne.symm hA)]; exact h j hj
/-- the model, loaded and counted -/
def ra_ML (G : Nat) (n m : Nat → Nat) (w : rv_W) : Prop := ra_MP G n m w ∧ ra_MC n m w
theorem ra_ML.fl {G A k : Nat} {n m : Nat → Nat} {f : Nat → Int32} {w : rv_W} (h : ra_ML G n m w) (hA : A ≠ 78 ∧ A ≠ 81 ∧ A ≠ 82 ∧ A ≠ 83) : ra_ML G n m (rv_fl A k f w) := ⟨h.1.fl ⟨hA.1, hA.2.1, hA.2.2.1⟩, h.2.fl hA.2.2.2⟩
theorem ra_ML.up {G A k : Nat} {n m : Nat → Nat} {v : Int32} {w : rv_W} (h : ra_ML G n m w) (hA : (A ≠ 78 ∨ k ≠ 6) ∧ A ≠ 81 ∧ A ≠ 82 ∧ A ≠ 83) : ra_ML G n m (rv_up w A k v) := ⟨h.1.up ⟨hA.1, hA.2.1, hA.2.2.1⟩, h.2.up hA.2.2.2⟩
theorem ra_ML.p {G s a b : Nat} {n m : Nat → Nat} {w : rv_W} (h : ra_ML G n m w) (ha : a < 5) (hb : b < 5) (hsa : rv_hs s a = true) (hsb : rv_hs s b = true) : f_X11_p (Int32.ofNat a) (Int32.ofNat b) w = some (Int32.ofNat (ra_P s n m a b), w) := by
  rw [h.2.p ha hb, ra_PU_P hsa hsb]
theorem ra_ML.beats {G s a b : Nat} {n m : Nat → Nat} {w : rv_W} (h : ra_ML G n m w) (ha : a < 5) (hb : b < 5) (hsa : rv_hs s a = true) (hsb : rv_hs s b = true) : f_X11_beats (Int32.ofNat a) (Int32.ofNat b) w = some (rv_b2 (decide (ra_P s n m b a < ra_P s n m a b)), w) := by
  rw [h.2.beats h.1.sum ha hb, ra_PU_P hsa hsb, ra_PU_P hsb hsa]
def ra_on (s : Nat) (f : Nat → Int32) (c : Nat) : Int32 := if rv_hs s c = true then f c else 0
theorem ra_on_t {s c : Nat} {f : Nat → Int32} (h : rv_hs s c = true) : ra_on s f c = f c := if_pos h
theorem ra_on_f {s c : Nat} {f : Nat → Int32} (h : rv_hs s c = false) : ra_on s f c = 0 := if_neg (by rw [h]; decide)
theorem ra_mcopeland {G s : Nat} {n m : Nat → Nat} {w : rv_W} (h : ra_ML G n m w) (hs : s < 32) : f_X11_copeland (Int32.ofNat s) w = some (0, rv_fl 84 5 (ra_on s (ra_co s (ra_P s n m))) w) := by
  unfold f_X11_copeland
  refine rv_E0 5 (fun k => rv_fl 84 k (ra_on s (ra_co s (ra_P s n m))) w) w rv_fl_0.symm (fun ag a ha => ?_) (fun ag => ?_) (by decide)
  · simp only [rv_lt5 ha, if_true, rv_ck5 ha, rv_nn5 ha, rv_lt, rv_n_succ]
    refine rv_C0 5 (fun b w' => w' = rv_up (rv_fl 84 a (ra_on s (ra_co s (ra_P s n m))) w) 84 a (rv_si b (ra_ct s (ra_P s n m) a)) ∧ (b ≠ 0 → rv_hs s a = true)) 0 _ ⟨rfl, fun z => absurd rfl z⟩ (by omega) (by decide) (fun ag2 b w' hb hI ih => ?_)
    obtain ⟨rfl, hI⟩ := hI
    have hP := (h.fl (A := 84) (k := a) (f := ra_on s (ra_co s (ra_P s n m))) (by omega)).up (A := 84) (k := a) (v := rv_si b (ra_ct s (ra_P s n m) a)) (by omega)
    by_cases hb5 : b < 5
    · simp only [rv_lt5 hb5, if_true, e_mhasb hs ha, e_mhasb hs hb5, rv_bd_some, rv_b2_0, rv_eq5 hb5 ha, rv_ck5 ha, rv_nn5 ha, rv_up_same, rv_up_up, rv_n_succ, rv_jn]
      by_cases hsa : rv_hs s a = true
      · simp only [hsa, Bool.true_eq_false, if_false]
        have fin : ∀ v, v = rv_si (b + 1) (ra_ct s (ra_P s n m) a) → ag2 (Int32.ofNat (b + 1)) (rv_up (rv_fl 84 a (ra_on s (ra_co s (ra_P s n m))) w) 84 a v) = ag (Int32.ofNat (a + 1)) (rv_fl 84 (a + 1) (ra_on s (ra_co s (ra_P s n m))) w) := fun v hv => ih hb5 _ ⟨by rw [hv], fun _ => hsa⟩
        have e : ra_ct s (ra_P s n m) a b = if a = b then 0 else if rv_hs s b = true then (if ra_P s n m b a < ra_P s n m a b then 2 else if ra_P s n m a b < ra_P s n m b a then 0 else 1) else 0 := rfl
        by_cases q : b = a
        · rw [if_pos q.symm] at e
          rw [if_pos q]
          exact fin _ (by rw [rv_si_s, e, ra_n_add0])
        · rw [if_neg (Ne.symm q)] at e
          rw [if_neg q]
          by_cases hsb : rv_hs s b = true
          · simp only [hsb, if_true] at e
            simp only [hsb, Bool.true_eq_false, if_false, hP.beats ha hb5 hsa hsb, hP.beats hb5 ha hsb hsa, rv_bd_some, rv_b2_0, rv_up_same, rv_up_up]
            by_cases q3 : ra_P s n m b a < ra_P s n m a b
            · rw [if_pos q3] at e
              simp only [q3, decide_true, Bool.true_eq_false, if_false]
              exact fin _ (by rw [rv_si_s, e])
            · rw [if_neg q3] at e
              by_cases q4 : ra_P s n m a b < ra_P s n m b a
              · rw [if_pos q4] at e
                simp only [q3, q4, decide_true, decide_false, Bool.true_eq_false, if_false, if_true]
                exact fin _ (by rw [rv_si_s, e])
              · rw [if_neg q4] at e
                simp only [q3, q4, decide_false, if_true]
                exact fin _ (by rw [rv_si_s, e])
          · rw [if_neg hsb] at e
            simp only [Bool.eq_false_iff.mpr hsb, if_true]
            exact fin _ (by rw [rv_si_s, e, ra_n_add0])
      · have hsa' := Bool.eq_false_iff.mpr hsa
        have hb0 : b = 0 := by
          cases b with
          | zero => rfl
          | succ b => exact absurd (hI (by omega)) hsa
        subst hb0
        simp only [hsa', if_true]
        exact congrArg _ (rv_fl_up (by rw [ra_on_f hsa']; rfl))
    · have : b = 5 := by omega
      subst this
      simp only [rv_ge5, if_false]
      exact congrArg _ (rv_fl_up (by rw [ra_on_t (hI (by omega))]; rfl))
  · rw [if_neg (by decide)]
theorem ra_mminimax {G s : Nat} {n m : Nat → Nat} {w : rv_W} (h : ra_ML G n m w) (hs : s < 32) : f_X11_minimax (Int32.ofNat s) w = some (0, rv_fl 84 5 (ra_on s (fun c => (ra_mm s (ra_P s n m) c 5).2)) w) := by
  unfold f_X11_minimax
  refine rv_E0 5 (fun k => rv_fl 84 k (ra_on s (fun c => (ra_mm s (ra_P s n m) c 5).2)) w) w rv_fl_0.symm (fun ag a ha => ?_) (fun ag => ?_) (by decide)
  · simp only [rv_lt5 ha, if_true, rv_ck5 ha, rv_nn5 ha, rv_lt, rv_n_succ]
    refine rv_C1 5 (fun b x w' => x = rv_b2 (ra_mm s (ra_P s n m) a b).1 ∧ w' = rv_up (rv_fl 84 a (ra_on s (fun c => (ra_mm s (ra_P s n m) c 5).2)) w) 84 a (ra_mm s (ra_P s n m) a b).2 ∧ (b ≠ 0 → rv_hs s a = true)) 0 _ _ ⟨rfl, rfl, fun z => absurd rfl z⟩ (by omega) (by decide) (fun ag2 b x w' hb hI ih => ?_)
    obtain ⟨rfl, rfl, hI⟩ := hI
    have hP := (h.fl (A := 84) (k := a) (f := ra_on s (fun c => (ra_mm s (ra_P s n m) c 5).2)) (by omega)).up (A := 84) (k := a) (v := (ra_mm s (ra_P s n m) a b).2) (by omega)
    by_cases hb5 : b < 5
    · simp only [rv_lt5 hb5, if_true, e_mhasb hs ha, e_mhasb hs hb5, rv_bd_some, rv_b2_0, rv_eq5 hb5 ha, rv_ck5 ha, rv_nn5 ha, rv_up_same, rv_up_up, rv_n_succ, rv_jn]
      by_cases hsa : rv_hs s a = true
      · simp only [hsa, Bool.true_eq_false, if_false]
        have e := @ra_mm_s s a b (ra_P s n m)
        have fin : ∀ x v, x = rv_b2 (ra_mm s (ra_P s n m) a (b + 1)).1 → v = (ra_mm s (ra_P s n m) a (b + 1)).2 → ag2 x (Int32.ofNat (b + 1)) (rv_up (rv_fl 84 a (ra_on s (fun c => (ra_mm s (ra_P s n m) c 5).2)) w) 84 a v) = ag (Int32.ofNat (a + 1)) (rv_fl 84 (a + 1) (ra_on s (fun c => (ra_mm s (ra_P s n m) c 5).2)) w) := fun x v hx hv => ih hb5 _ _ ⟨hx, by rw [hv], fun _ => hsa⟩
        by_cases q : b = a
        · rw [if_pos (Or.inl q.symm)] at e
          rw [if_pos q]
          exact fin _ _ (by rw [e]) (by rw [e])
        · rw [if_neg q]
          by_cases hsb : rv_hs s b = true
          · rw [if_neg (fun z => z.elim (fun z => q z.symm) (fun z => by rw [hsb] at z; cases z))] at e
            simp only [hsb, Bool.true_eq_false, if_false, hP.p ha hb5 hsa hsb, hP.p hb5 ha hsb hsa, rv_bd_some, rv_up_same, rv_up_up]
            cases q1 : (ra_mm s (ra_P s n m) a b).1
            · rw [q1, if_neg (by decide)] at e
              simp only [if_true]
              by_cases q2 : (ra_mm s (ra_P s n m) a b).2 < Int32.ofNat (ra_P s n m b a) - Int32.ofNat (ra_P s n m a b)
              · rw [if_pos q2] at e
                rw [if_pos q2]
                exact fin _ _ (by rw [e]; rfl) (by rw [e])
              · rw [if_neg q2] at e
                rw [if_neg q2]
                exact fin _ _ (by rw [e]; rfl) (by rw [e])
            · rw [q1, if_pos rfl] at e
              simp only [Bool.true_eq_false, if_false]
              exact fin _ _ (by rw [e]; rfl) (by rw [e])
          · have hsb' := Bool.eq_false_iff.mpr hsb
            rw [if_pos (Or.inr hsb')] at e
            simp only [hsb', if_true]
            exact fin _ _ (by rw [e]) (by rw [e])
      · have hsa' := Bool.eq_false_iff.mpr hsa
        have hb0 : b = 0 := by
          cases b with
          | zero => rfl
          | succ b => exact absurd (hI (by omega)) hsa
        subst hb0
        simp only [hsa', if_true]
        exact congrArg _ (rv_fl_up (by rw [ra_on_f hsa']; rfl))
    · have : b = 5 := by omega
      subst this
      simp only [rv_ge5, if_false]
      exact congrArg _ (rv_fl_up (by rw [ra_on_t (hI (by omega))]))
  · rw [if_neg (by decide)]
/-! Borda of the model -/
theorem ra_bo_bm {s C c : Nat} {n m : Nat → Nat} (hm : ∀ g, g < 20 → n g ≠ 0 → m g ∈ rv_B) (hC : C < 32) (hs : ra_sub C s) (hc : c < 5) (h : rv_hs C c = true) : ra_bo s n m C c = Int32.ofNat (ra_bm n m C c) := by
  have e : ∀ d, d < 5 → ra_bt s n m C c d = Int32.ofNat (if c = d then 0 else if rv_hs C d = true then rv_sm 20 (fun g => n g * (1 + (if rv_q (m g) c < rv_q (m g) d then 1 else 0) - (if rv_q (m g) d < rv_q (m g) c then 1 else 0))) else 0) := fun d hd => by
    unfold ra_bt
    by_cases q : c = d
    · rw [if_pos q, if_pos q]; rfl
    · rw [if_neg q, if_neg q]
      by_cases hd2 : rv_hs C d = true
      · rw [if_pos hd2, if_pos hd2]
        have l : ra_P s n m d c ≤ rv_sm 20 n := ra_P_le
        rw [← Int32.ofNat_add, ← Int32.ofNat_sub _ _ (by omega)]
        congr 1
        have key : rv_sm 20 (fun g => n g * (1 + (if rv_q (m g) c < rv_q (m g) d then 1 else 0) - (if rv_q (m g) d < rv_q (m g) c then 1 else 0))) + ra_P s n m d c = rv_sm 20 n + ra_P s n m c d := by
          unfold ra_P ra_S
          rw [← rv_sm_add, ← rv_sm_add]
          refine rv_sm_congr (fun g _ => ?_)
          rw [hs c hc h, hs d hd hd2]
          by_cases q1 : rv_q (m g) c < rv_q (m g) d
          · have q2 : ¬ rv_q (m g) d < rv_q (m g) c := by omega
            simp [q1, q2]; omega
          · by_cases q2 : rv_q (m g) d < rv_q (m g) c
            · simp [q1, q2]
            · simp [q1, q2]
        omega
      · rw [if_neg hd2, if_neg hd2]; rfl
  unfold ra_bo ra_bm
  rw [rv_si_congr e, rv_si_sm]
  congr 1
  have e2 : ∀ d, (if c = d then 0 else if rv_hs C d = true then rv_sm 20 (fun g => n g * (1 + (if rv_q (m g) c < rv_q (m g) d then 1 else 0) - (if rv_q (m g) d < rv_q (m g) c then 1 else 0))) else 0) = rv_sm 20 (fun g => n g * (if c = d then 0 else if rv_hs C d = true then 1 + (if rv_q (m g) c < rv_q (m g) d then 1 else 0) - (if rv_q (m g) d < rv_q (m g) c then 1 else 0) else 0)) := fun d => by
    by_cases q : c = d
    · simp only [q, if_true, Nat.mul_zero]
      exact (rv_sm_zero (fun _ _ => rfl)).symm
    · by_cases q2 : rv_hs C d = true
      · simp only [q, q2, if_false, if_true]
      · simp only [q, q2, if_false, Nat.mul_zero]
        exact (rv_sm_zero (fun _ _ => rfl)).symm
  rw [rv_sm_congr (fun d _ => e2 d), rv_sm_swap]
  refine rv_sm_congr (fun g hg => ?_)
  rw [rv_sm_mul]
  by_cases hn : n g = 0
  · rw [hn, Nat.zero_mul, Nat.zero_mul]
  · rw [(ra_ea_ok (hm g hg hn) hC hc h).1]
theorem ra_mborda {G C : Nat} {n m : Nat → Nat} {w : rv_W} (h : ra_MP G n m w) (hC : C < 32) : f_X11_borda (Int32.ofNat C) w = some (0, rv_fl 84 5 (ra_on C (fun c => Int32.ofNat (ra_bm n m C c))) w) := by
  have hG := h.2.1
  unfold f_X11_borda
  rw [e_many hC, rv_bd_some]
  refine rv_E0 5 (fun k => rv_fl 84 k (ra_on C (fun c => Int32.ofNat (ra_bm n m C c))) w) w rv_fl_0.symm (fun ag c hc => ?_) (fun ag => ?_) (by decide)
  · simp only [rv_lt5 hc, if_true, rv_ck5 hc, rv_nn5 hc, rv_lt, rv_n_succ]
    refine rv_C0 G (fun g w' => w' = rv_up (rv_fl 84 c (ra_on C (fun c => Int32.ofNat (ra_bm n m C c))) w) 84 c (Int32.ofNat (rv_sm g (fun g => n g * ra_ea (m g) C c))) ∧ (g ≠ 0 → rv_hs C c = true)) 0 _ ⟨rfl, fun z => absurd rfl z⟩ (by omega) (by show G < 10000; omega) (fun ag6 g w' hg hI ih => ?_)
    obtain ⟨rfl, hI⟩ := hI
    have hM := (h.fl (A := 84) (k := c) (f := ra_on C (fun c => Int32.ofNat (ra_bm n m C c))) (by omega)).up (A := 84) (k := c) (v := Int32.ofNat (rv_sm g (fun g => n g * ra_ea (m g) C c))) (by omega)
    by_cases hgG : g < G
    · have h20 : g < 20 := by omega
      simp only [hM.1, ra_ltG hgG h.2.1, if_true, e_mhasb hC hc, rv_bd_some, rv_b2_0, ra_isOn hM hgG hc, rv_jn, ra_above hM hgG hc hC, ra_offBallot hM hgG hC, rv_ck20 h20, rv_nn20 h20, (hM.2.2.1 g hgG).1, rv_ck5 hc, rv_nn5 hc, rv_up_same, rv_up_up, rv_n_succ, rv_lt]
      by_cases hcs : rv_hs C c = true
      · simp only [hcs, Bool.true_eq_false, if_false]
        have hok := ra_ea_ok (hM.2.2.1 g hgG).2.1 hC hc hcs
        have fin : ∀ v, v = Int32.ofNat (ra_ea (m g) C c) → ag6 (Int32.ofNat (g + 1)) (rv_up (rv_fl 84 c (ra_on C (fun c => Int32.ofNat (ra_bm n m C c))) w) 84 c (Int32.ofNat (rv_sm g (fun g => n g * ra_ea (m g) C c)) + Int32.ofNat (n g) * v)) = ag (Int32.ofNat (c + 1)) (rv_fl 84 (c + 1) (ra_on C (fun c => Int32.ofNat (ra_bm n m C c))) w) := fun v hv => ih hgG _ ⟨by rw [hv, ← Int32.ofNat_mul, ← Int32.ofNat_add]; rfl, fun _ => hcs⟩
        by_cases q1 : rv_q (m g) c < 9
        · have h1 := hok.2.1 q1
          simp only [q1, decide_true, Bool.true_eq_false, if_false]
          refine fin _ ?_
          unfold ra_ea
          rw [if_pos q1, Int32.ofNat_mul, Int32.ofNat_sub _ _ (by omega), Int32.ofNat_sub _ _ (by omega)]
          rfl
        · have h1 := hok.2.2 q1
          simp only [q1, decide_false, if_true]
          refine fin _ ?_
          unfold ra_ea
          rw [if_neg q1, Int32.ofNat_sub _ _ (by omega)]
          rfl
      · have hcs' := Bool.eq_false_iff.mpr hcs
        have hg0 : g = 0 := by
          cases g with
          | zero => rfl
          | succ g => exact absurd (hI (by omega)) hcs
        subst hg0
        simp only [hcs', if_true]
        exact congrArg _ (rv_fl_up (by rw [ra_on_f hcs']; rfl))
    · have : g = G := by omega
      subst this
      rw [hM.1]
      simp only [ra_geG, if_false]
      refine congrArg _ (rv_fl_up ?_)
      have e20 : rv_sm 20 (fun g => n g * ra_ea (m g) C c) = rv_sm g (fun g => n g * ra_ea (m g) C c) := rv_sm_ext hG (fun i hi _ => by rw [h.2.2.2.1 i hi, Nat.zero_mul])
      by_cases hcs : rv_hs C c = true
      · rw [ra_on_t hcs]
        unfold ra_bm
        rw [e20]
      · rw [ra_on_f (Bool.eq_false_iff.mpr hcs)]
        cases g with
        | zero => rfl
        | succ g => exact absurd (hI (by omega)) hcs
  · rw [if_neg (by decide)]
/-! Bucklin of the model -/
theorem rv_CM {α σ : Type} {bot : α} {F : α → α} {R : rv_R} (S : σ → α → rv_R) (I : σ → Prop) (ms : σ → Nat) (step : ∀ ag s, I s → (∀ s', I s' → ms s' < ms s → S s' ag = R) → S s (F ag) = R) : ∀ (n : Nat) (s : σ), ms s < n → I s → S s (rv_fx bot F n) = R
  | 0, _, h, _ => absurd h (Nat.not_lt_zero _)
  | n + 1, s, h, hI => step _ s hI (fun s' h' q => rv_CM S I ms step n s' (by omega) h')
theorem ra_mbucklin {G s : Nat} {n m : Nat → Nat} {w : rv_W} (h : ra_MP G n m w) (hs : s < 32) : f_X11_bucklin (Int32.ofNat s) w = some (0, rv_fl 84 5 (fun c => Int32.ofNat (ra_KC n m s (ra_bu n m s) c)) w) := by
  have hmn := @rv_mn_le s
  unfold f_X11_bucklin
  rw [ra_allVotes h, rv_bd_some]
  refine rv_CM (α := Int32 → Int32 → rv_W → rv_R) (σ := Nat × Bool × rv_W) (fun t a => a (Int32.ofNat t.1) (rv_b2 t.2.1) t.2.2) (fun t => (t.2.1 = true ∧ t.1 < 5 ∧ ra_bu n m s = ra_bk (ra_ex n m s) (rv_mn s) (5 - t.1) (t.1 + 1) ∧ ∃ f, t.2.2 = rv_fl 84 5 f w) ∨ (t.2.1 = false ∧ t.2.2 = rv_fl 84 5 (fun c => Int32.ofNat (ra_KC n m s (ra_bu n m s) c)) w)) (fun t => if t.2.1 = true then 6 - t.1 else 0) ?_ rv_FU (0, true, w) (by show 6 < 10000; omega) (Or.inl ⟨rfl, by show 0 < 5; omega, rfl, fun c => w 84 c, (ra_fl_id (fun _ _ => rfl)).symm⟩)
  intro ag ⟨k, on, w'⟩ hI ih
  dsimp only at hI ih ⊢
  rcases hI with ⟨rfl, hk5, hF, f, rfl⟩ | ⟨rfl, rfl⟩
  · have hM := h.fl (A := 84) (k := 5) (f := f) (by omega)
    simp only [rv_b2_0, Bool.true_eq_false, if_false, rv_lt, rv_n_succ]
    rw [ra_pointsOfFirst hM hs (by omega), rv_bd_some, e_many hs, rv_bd_some, rv_fl_fl]
    have e : (Int32.ofNat (k + 1) < Int32.ofNat (rv_mn s)) ↔ (k + 1 < rv_mn s) := rv_n_lt (by omega) (by omega)
    rw [rv_jn_if, decide_eq_decide.mpr e]
    rw [show 5 - k = (4 - k) + 1 by omega, ra_bk_s] at hF
    refine rv_E1 5 (fun j => rv_b2 (decide (k + 1 < rv_mn s) && rv_al j (fun c => !decide (Int32.ofNat (rv_sm 20 n) < 2 * Int32.ofNat (ra_KC n m s (k + 1) c))))) (fun _ => rv_fl 84 5 (fun c => Int32.ofNat (ra_KC n m s (k + 1) c)) w) _ _ rfl (by rw [rv_al, Bool.and_true]) (fun ag2 j hj => ?_) (fun ag2 => ?_) (by decide)
    · simp only [rv_lt5 hj, if_true, rv_ck5 hj, rv_nn5 hj, rv_fl_at hj, rv_b2_0, rv_al_s, rv_lt, rv_n_succ]
      by_cases q : Int32.ofNat (rv_sm 20 n) < 2 * Int32.ofNat (ra_KC n m s (k + 1) j)
      · simp only [q, if_true, decide_true, Bool.not_true, Bool.and_false, rv_b2_f]
        split <;> rfl
      · simp only [q, if_false, decide_false, Bool.not_false, Bool.and_true]
        cases decide (k + 1 < rv_mn s) && rv_al j (fun c => !decide (Int32.ofNat (rv_sm 20 n) < 2 * Int32.ofNat (ra_KC n m s (k + 1) c)))
        · simp only [if_true]; rfl
        · simp only [Bool.true_eq_false, if_false]; rfl
    · simp only [rv_ge5, if_false]
      refine ih (k + 1, decide (k + 1 < rv_mn s) && rv_al 5 (fun c => !decide (Int32.ofNat (rv_sm 20 n) < 2 * Int32.ofNat (ra_KC n m s (k + 1) c))), rv_fl 84 5 (fun c => Int32.ofNat (ra_KC n m s (k + 1) c)) w) ?_ ?_
      · by_cases q : k + 1 < rv_mn s ∧ ra_ex n m s (k + 1) = true
        · rw [if_pos q] at hF
          refine Or.inl ⟨?_, by omega, ?_, _, rfl⟩
          · rw [decide_eq_true q.1, Bool.true_and]; exact q.2
          · dsimp only
            rw [hF, show 5 - (k + 1) = 4 - k by omega]
        · rw [if_neg q] at hF
          refine Or.inr ⟨?_, by rw [hF]⟩
          dsimp only
          rw [Bool.eq_false_iff]
          intro z
          rw [Bool.and_eq_true, decide_eq_true_eq] at z
          exact q z
      · dsimp only
        simp only [if_true]
        split <;> omega
  · simp only [rv_b2_0, if_true]
