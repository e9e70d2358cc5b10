/-! rules by points: most points -/
def ra_mo (s : Nat) (x : Nat → Int32) : Nat := rv_ms 5 (fun a => rv_hs s a && rv_al 5 (fun b => !rv_hs s b || !decide (x a < x b)))
theorem ra_mo_congr {s : Nat} {x y : Nat → Int32} (h : ∀ c, c < 5 → rv_hs s c = true → x c = y c) : ra_mo s x = ra_mo s y := by
  unfold ra_mo
  refine rv_ms_congr (fun a ha => ?_)
  by_cases hsa : rv_hs s a = true
  · have e : rv_al 5 (fun b => !rv_hs s b || !decide (x a < x b)) = rv_al 5 (fun b => !rv_hs s b || !decide (y a < y b)) := rv_al_congr (fun b hb => by
      by_cases hsb : rv_hs s b = true
      · rw [h a ha hsa, h b hb hsb]
      · rw [Bool.eq_false_iff.mpr hsb, Bool.not_false, Bool.true_or, Bool.true_or])
    rw [e]
  · rw [Bool.eq_false_iff.mpr hsa, Bool.false_and, Bool.false_and]
theorem ra_mo_lt {s : Nat} {x : Nat → Int32} : ra_mo s x < 32 := rv_ms_lt
theorem rv_ms_s {n : Nat} {p : Nat → Bool} : rv_ms (n + 1) p = if p n = true then rv_ms n p + 2 ^ n else rv_ms n p := rfl
theorem ra_ms_zero {k : Nat} {p : Nat → Bool} (hp : ∀ c, c < k → p c = false) : rv_ms k p = 0 := by
  induction k with
  | zero => rfl
  | succ k ih => rw [rv_ms_s, if_neg (by rw [hp k (by omega)]; decide), ih (fun c hc => hp c (by omega))]
theorem ra_ms_or {c : Nat} {p : Nat → Bool} (hc : c < 5) : Int32.ofNat (rv_ms c p) ||| ((1 : Int32) <<< (Int32.ofNat c &&& 31)) = Int32.ofNat (rv_ms c p + 2 ^ c) := rv_or_bit rv_ms_lt hc
theorem ra_fl_id {A k : Nat} {w : rv_W} {f : Nat → Int32} (h : ∀ j, j < k → f j = w A j) : rv_fl A k f w = w := by
  funext c j
  unfold rv_fl
  by_cases q : c = A ∧ j < k
  · rw [if_pos q, h j q.2, q.1]
  · rw [if_neg q]
/-- the class's search -/
theorem ra_best {s : Nat} {sg : Int32} {y : Nat → Int32} {w : rv_W} (hs : s < 32) (hy : ∀ c, c < 5 → rv_hs s c = true → sg * w 55 c = y c) : f_X4_best (Int32.ofNat s) sg w = some (Int32.ofNat (ra_mo s y), w) := by
  unfold f_X4_best
  have lt : ∀ a b : Int32, a < b ↔ a.toInt < b.toInt := fun a b => Int32.lt_iff_toInt_lt
  have eq : ∀ a b : Int32, a = b ↔ a.toInt = b.toInt := fun a b => Int32.toInt_inj.symm
  refine rv_C2 5 (fun k f mx w' => w' = w ∧ f = Int32.ofNat (rv_ms k (fun a => rv_hs s a && decide (y a = mx))) ∧ ((∀ c, c < k → rv_hs s c = false) ∨ ((∃ a, a < k ∧ rv_hs s a = true ∧ y a = mx) ∧ ∀ b, b < k → rv_hs s b = true → ¬ mx < y b))) 0 _ _ _ ⟨rfl, rfl, Or.inl (fun c hc => by omega)⟩ (by omega) (by decide) (fun ag k f mx w' hk hI ih => ?_)
  obtain ⟨rfl, rfl, hI⟩ := hI
  by_cases hk5 : k < 5
  · simp only [rv_lt5 hk5, if_true, e_hasb hs hk5, rv_bd_some, rv_b2_0, rv_lt, rv_jn, rv_n_succ, rv_ck5 hk5, rv_nn5 hk5, ra_ms_or hk5]
    by_cases hsk : rv_hs s k = true
    · rw [hy k hk5 hsk]
      simp only [hsk, Bool.true_eq_false, if_false, if_true]
      have zero : ∀ p : Nat → Bool, (∀ c, c < k → p c = false) → rv_ms k p = 0 := fun p hp => ra_ms_zero hp
      have b1 : (0 : Int32) ||| ((1 : Int32) <<< (Int32.ofNat k &&& 31)) = Int32.ofNat (rv_ms k (fun a => rv_hs s a && decide (y a = y k)) + 2 ^ k) ∨ ∃ c, c < k ∧ rv_hs s c = true ∧ y c = y k := by
        by_cases hz : ∃ c, c < k ∧ rv_hs s c = true ∧ y c = y k
        · exact Or.inr hz
        · refine Or.inl ?_
          rw [zero _ (fun c hc => by
            rw [Bool.eq_false_iff]
            intro z
            simp only [Bool.and_eq_true, decide_eq_true_eq] at z
            exact hz ⟨c, hc, z.1, z.2⟩)]
          exact rv_or_bit (m := 0) (Nat.two_pow_pos k) hk5
      rcases hI with hI | ⟨⟨a, ha, hsa, hya⟩, hI⟩
      · rw [zero _ (fun c hc => by rw [hI c hc]; rfl)]
        rw [if_pos (by rfl)]
        refine ih hk5 _ _ _ ⟨rfl, ?_, Or.inr ⟨⟨k, by omega, hsk, rfl⟩, fun b hb hsb => ?_⟩⟩
        · rcases b1 with b1 | ⟨c, hc, hc2, _⟩
          · rw [b1, rv_ms_s, if_pos (by rw [hsk]; simp)]
          · rw [hI c hc] at hc2; cases hc2
        · by_cases hbk : b = k
          · subst hbk; rw [lt]; omega
          · rw [hI b (by omega)] at hsb; cases hsb
      · have nz : ¬ Int32.ofNat (rv_ms k (fun a => rv_hs s a && decide (y a = mx))) = 0 := fun z => by
          have h1 : rv_ms k (fun a => rv_hs s a && decide (y a = mx)) < 2 ^ k := rv_ms_lt
          have h3 : 2 ^ k ≤ 2 ^ 5 := Nat.pow_le_pow_right (by decide) (by omega)
          have h2 := (rv_n_eq (i := rv_ms k (fun a => rv_hs s a && decide (y a = mx))) (j := 0) (by omega) (by omega)).mp z
          have h4 : rv_hs (rv_ms k (fun a => rv_hs s a && decide (y a = mx))) a = true := by
            rw [rv_ms_hs ha, hsa, hya]; simp
          rw [h2] at h4
          unfold rv_hs at h4
          simp at h4
        rw [if_neg nz]
        by_cases q : mx < y k
        · simp only [q, if_true]
          refine ih hk5 _ _ _ ⟨rfl, ?_, Or.inr ⟨⟨k, by omega, hsk, rfl⟩, fun b hb hsb => ?_⟩⟩
          · rcases b1 with b1 | ⟨c, hc, hc2, hc3⟩
            · rw [b1, rv_ms_s, if_pos (by rw [hsk]; simp)]
            · have := hI c hc hc2
              rw [hc3] at this
              exact absurd q this
          · by_cases hbk : b = k
            · subst hbk; rw [lt]; omega
            · have := hI b (by omega) hsb
              rw [lt] at this q ⊢
              omega
        · simp only [q, if_false]
          by_cases q2 : y k = mx
          · simp only [q2, if_true]
            refine ih hk5 _ _ _ ⟨rfl, ?_, Or.inr ⟨⟨a, by omega, hsa, hya⟩, fun b hb hsb => ?_⟩⟩
            · rw [rv_ms_s, if_pos (by rw [hsk, q2]; simp)]
            · by_cases hbk : b = k
              · subst hbk; exact q
              · exact hI b (by omega) hsb
          · simp only [q2, if_false]
            refine ih hk5 _ _ _ ⟨rfl, ?_, Or.inr ⟨⟨a, by omega, hsa, hya⟩, fun b hb hsb => ?_⟩⟩
            · rw [rv_ms_s, if_neg (by rw [hsk]; simp [q2])]
            · by_cases hbk : b = k
              · subst hbk; exact q
              · exact hI b (by omega) hsb
    · have hsk' := Bool.eq_false_iff.mpr hsk
      simp only [hsk', if_true]
      refine ih hk5 _ _ _ ⟨rfl, ?_, ?_⟩
      · rw [rv_ms_s, if_neg (by rw [hsk']; simp)]
      · rcases hI with hI | ⟨⟨a, ha, hsa, hya⟩, hI⟩
        · refine Or.inl (fun c hc => ?_)
          by_cases hck : c = k
          · rw [hck]; exact hsk'
          · exact hI c (by omega)
        · refine Or.inr ⟨⟨a, by omega, hsa, hya⟩, fun b hb hsb => ?_⟩
          by_cases hbk : b = k
          · rw [hbk] at hsb; exact absurd hsb hsk
          · exact hI b (by omega) hsb
  · have : k = 5 := by omega
    subst this
    rw [if_neg (by decide)]
    congr 3
    unfold ra_mo
    refine rv_ms_congr (fun c hc => ?_)
    by_cases hsc : rv_hs s c = true
    · rw [hsc, Bool.true_and, Bool.true_and]
      rcases hI with hI | ⟨⟨a, ha, hsa, hya⟩, hI⟩
      · rw [hI c hc] at hsc; cases hsc
      · rw [Bool.eq_iff_iff, rv_al_iff, decide_eq_true_eq]
        refine ⟨fun h b hb => ?_, fun h => ?_⟩
        · by_cases hsb : rv_hs s b = true
          · rw [hsb, h, decide_eq_false (hI b hb hsb)]; rfl
          · rw [Bool.eq_false_iff.mpr hsb, Bool.not_false, Bool.true_or]
        · have h1 := h a ha
          rw [hsa, hya] at h1
          simp only [Bool.not_true, Bool.false_or, Bool.not_eq_true', decide_eq_false_iff_not] at h1
          have h2 := hI c hc hsc
          rw [lt] at h1 h2
          rw [eq]
          omega
    · rw [Bool.eq_false_iff.mpr hsc, Bool.false_and, Bool.false_and]
theorem ra_cmost {s : Nat} {x : Nat → Int32} {w : rv_W} (hs : s < 32) (hx : ∀ c, c < 5 → rv_hs s c = true → w 55 c = x c) : f_X4_most (Int32.ofNat s) w = some (Int32.ofNat (ra_mo s x), w) := by
  unfold f_X4_most
  rw [ra_best (y := x) hs (fun c hc h => by rw [hx c hc h, Int32.one_mul]), rv_bd_some]
theorem ra_cfewest {s : Nat} {x : Nat → Int32} {w : rv_W} (hs : s < 32) (hx : ∀ c, c < 5 → rv_hs s c = true → w 55 c = x c) : f_X4_fewest (Int32.ofNat s) w = some (Int32.ofNat (ra_mo s (fun c => -(x c))), w) := by
  unfold f_X4_fewest
  rw [ra_best (y := fun c => -(x c)) hs (fun c hc h => by rw [hx c hc h, Int32.neg_mul, Int32.one_mul]), rv_bd_some]
theorem ra_clear {A : Nat} {w : rv_W} : f_X4_clear w = some (0, rv_fl 55 5 (fun _ => 0) w) := by
  unfold f_X4_clear
  refine rv_E0 5 (fun k => rv_fl 55 k (fun _ => 0) w) w rv_fl_0.symm (fun ag k hk => ?_) (fun ag => ?_) (by decide)
  · simp only [rv_lt5 hk, if_true, rv_ck5 hk, rv_nn5 hk, rv_lt, rv_n_succ]
    exact congrArg _ (rv_fl_up rfl)
  · rw [if_neg (by decide)]
/-! Borda -/
def ra_bt (s : Nat) (n m : Nat → Nat) (C c b : Nat) : Int32 := if c = b then 0 else if rv_hs C b = true then (Int32.ofNat (rv_sm 20 n) + Int32.ofNat (ra_P s n m c b)) - Int32.ofNat (ra_P s n m b c) else 0
def ra_bo (s : Nat) (n m : Nat → Nat) (C c : Nat) : Int32 := rv_si 5 (ra_bt s n m C c)
theorem rv_si_s {n : Nat} {f : Nat → Int32} : rv_si (n + 1) f = rv_si n f + f n := rfl
theorem ra_cborda {s C : Nat} {n m : Nat → Nat} {w : rv_W} (h : ra_PQ s n m w) (hC : C < 32) : f_X4_borda (Int32.ofNat C) w = some (0, rv_fl 55 5 (ra_bo s n m C) w) := by
  unfold f_X4_borda
  refine rv_E0 5 (fun k => rv_fl 55 k (ra_bo s n m C) w) w rv_fl_0.symm (fun ag a ha => ?_) (fun ag => ?_) (by decide)
  · simp only [rv_lt5 ha, if_true, rv_ck5 ha, rv_nn5 ha, rv_lt, rv_n_succ]
    refine rv_E0 5 (fun k => rv_up (rv_fl 55 a (ra_bo s n m C) w) 55 a (rv_si k (ra_bt s n m C a))) _ rfl (fun ag2 b hb => ?_) (fun ag2 => ?_) (by decide)
    · have hP := (h.fl (A := 55) (k := a) (f := ra_bo s n m C) (by omega)).up (A := 55) (k := a) (v := rv_si b (ra_bt s n m C a)) (by omega)
      simp only [rv_lt5 hb, if_true, rv_eq5 ha hb, e_hasb hC hb, rv_bd_some, rv_b2_0, rv_ck5 ha, rv_ck5 hb, rv_nn5 ha, rv_nn5 hb, hP.all, hP.ab ha hb, hP.ab hb ha, rv_up_same, rv_up_up, rv_n_succ, rv_si_s]
      have e : ra_bt s n m C a b = if a = b then 0 else if rv_hs C b = true then (Int32.ofNat (rv_sm 20 n) + Int32.ofNat (ra_P s n m a b)) - Int32.ofNat (ra_P s n m b a) else 0 := rfl
      by_cases q : a = b
      · rw [if_pos q] at e
        rw [if_pos q, e, ra_n_add0]
      · rw [if_neg q] at e
        rw [if_neg q, e]
        by_cases q2 : rv_hs C b = true
        · simp only [q2, Bool.true_eq_false, if_false, if_true]
        · simp only [Bool.eq_false_iff.mpr q2, if_true, Bool.false_eq_true, if_false, ra_n_add0]
    · simp only [rv_ge5, if_false]
      exact congrArg _ (rv_fl_up rfl)
  · rw [if_neg (by decide)]
/-! Copeland -/
def ra_ct (s : Nat) (p : Nat → Nat → Nat) (c b : Nat) : Int32 := if c = b then 0 else if rv_hs s b = true then (if p b c < p c b then 2 else if p c b < p b c then 0 else 1) else 0
def ra_co (s : Nat) (p : Nat → Nat → Nat) (c : Nat) : Int32 := rv_si 5 (ra_ct s p c)
theorem ra_up_id {w : rv_W} {A k : Nat} {v : Int32} (h : w A k = v) : rv_up w A k v = w := by
  funext c j
  unfold rv_up
  by_cases q : c = A ∧ j = k
  · rw [if_pos q, q.1, q.2, h]
  · rw [if_neg q]
theorem ra_lead0 {x y : Nat} (hx : x ≤ 2000) (hy : y ≤ 2000) : (0 < Int32.ofNat x - Int32.ofNat y) = (y < x) := by
  rw [← Int32.ofInt_eq_ofNat, ← Int32.ofInt_eq_ofNat, ← Int32.ofInt_sub, Int32.lt_iff_toInt_lt, Int32.toInt_ofInt_of_le (by omega) (by omega), show (0 : Int32).toInt = 0 from rfl]
  exact propext (by omega)
theorem ra_lead1 {x y : Nat} (hx : x ≤ 2000) (hy : y ≤ 2000) : (Int32.ofNat x - Int32.ofNat y = 0) = (x = y) := by
  rw [← Int32.ofInt_eq_ofNat, ← Int32.ofInt_eq_ofNat, ← Int32.ofInt_sub, ← Int32.toInt_inj, Int32.toInt_ofInt_of_le (by omega) (by omega), show (0 : Int32).toInt = 0 from rfl]
  exact propext (by omega)
theorem ra_ccopeland {s : Nat} {n m : Nat → Nat} {w : rv_W} (h : ra_PQ s n m w) (h0 : ∀ c, c < 5 → w 55 c = 0) : f_X4_copeland w = some (0, rv_fl 55 5 (ra_co s (ra_P s n m)) w) := by
  have hs := h.s32
  have hN := h.sum
  unfold f_X4_copeland
  refine rv_E0 5 (fun k => rv_fl 55 k (ra_co s (ra_P s n m)) w) w rv_fl_0.symm (fun ag a ha => ?_) (fun ag => ?_) (by decide)
  · simp only [rv_lt5 ha, if_true, rv_ck5 ha, rv_nn5 ha, rv_lt, rv_n_succ]
    refine rv_E0 5 (fun k => rv_up (rv_fl 55 a (ra_co s (ra_P s n m)) w) 55 a (rv_si k (ra_ct s (ra_P s n m) a))) _ (ra_up_id (by rw [rv_fl_ge (Nat.le_refl a), h0 a ha]; rfl)).symm (fun ag2 b hb => ?_) (fun ag2 => ?_) (by decide)
    · have hP := (h.fl (A := 55) (k := a) (f := ra_co s (ra_P s n m)) (by omega)).up (A := 55) (k := a) (v := rv_si b (ra_ct s (ra_P s n m) a)) (by omega)
      have l1 := @ra_P_le s a b n m
      have l2 := @ra_P_le s b a n m
      simp only [rv_lt5 hb, if_true, rv_eq5 ha hb, hP.st, e_hasb hs hb, rv_bd_some, rv_b2_0, rv_ck5 ha, rv_ck5 hb, rv_nn5 ha, rv_nn5 hb, hP.ab ha hb, hP.ab hb ha, rv_up_same, rv_up_up, rv_n_succ, rv_si_s, rv_jn, ra_lead0 (show ra_P s n m a b ≤ 2000 by omega) (show ra_P s n m b a ≤ 2000 by omega), ra_lead1 (show ra_P s n m a b ≤ 2000 by omega) (show ra_P s n m b a ≤ 2000 by omega)]
      have e : ra_ct s (ra_P s n m) a b = if a = b then 0 else if rv_hs s b = true then (if ra_P s n m b a < ra_P s n m a b then 2 else if ra_P s n m a b < ra_P s n m b a then 0 else 1) else 0 := rfl
      by_cases q : a = b
      · rw [if_pos q] at e
        rw [if_pos q, e, ra_n_add0]
      · rw [if_neg q] at e
        rw [if_neg q, e]
        by_cases q2 : rv_hs s b = true
        · simp only [q2, Bool.true_eq_false, if_false, if_true]
          by_cases q3 : ra_P s n m b a < ra_P s n m a b
          · simp only [q3, if_true]
          · by_cases q4 : ra_P s n m a b = ra_P s n m b a
            · simp only [q4, Nat.lt_irrefl, if_true, if_false]
            · have q5 : ra_P s n m a b < ra_P s n m b a := by omega
              simp only [q3, q4, q5, if_true, if_false]
        · simp only [Bool.eq_false_iff.mpr q2, if_true, Bool.false_eq_true, if_false, ra_n_add0]
    · simp only [rv_ge5, if_false]
      exact congrArg _ (rv_fl_up rfl)
  · rw [if_neg (by decide)]
