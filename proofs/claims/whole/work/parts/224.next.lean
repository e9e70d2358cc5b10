/-! the next order -/
def ra_fi (a : Nat → Nat) : Nat → Nat
  | 0 => 0
  | k + 1 => if a (k + 1) < a k then ra_fi a k else k + 1
def ra_fj (a : Nat → Nat) (x : Nat) : Nat → Nat
  | 0 => 0
  | j + 1 => if a (j + 1) < x then ra_fj a x j else j + 1
def ra_swp (a : Nat → Nat) (i j : Nat) : Nat → Nat := fun k => if k = j then a i else if k = i then a j else a k
def ra_rvs : Nat → (Nat → Nat) → Nat → Nat → Nat → Nat
  | 0, a, _, _ => a
  | f + 1, a, lo, hi => if lo < hi then ra_rvs f (ra_swp a lo hi) (lo + 1) (hi - 1) else a
def ra_nxt (a : Nat → Nat) (n : Nat) : Option (Nat → Nat) := if ra_fi a (n - 1) = 0 then none else some (ra_rvs 5 (ra_swp a (ra_fi a (n - 1) - 1) (ra_fj a (a (ra_fi a (n - 1) - 1)) (n - 1))) (ra_fi a (n - 1)) (n - 1))
theorem ra_fi_s {a : Nat → Nat} {k : Nat} : ra_fi a (k + 1) = if a (k + 1) < a k then ra_fi a k else k + 1 := rfl
theorem ra_fj_s {a : Nat → Nat} {x j : Nat} : ra_fj a x (j + 1) = if a (j + 1) < x then ra_fj a x j else j + 1 := rfl
theorem ra_rvs_s {a : Nat → Nat} {f lo hi : Nat} : ra_rvs (f + 1) a lo hi = if lo < hi then ra_rvs f (ra_swp a lo hi) (lo + 1) (hi - 1) else a := rfl
theorem ra_fi_le {a : Nat → Nat} {k : Nat} : ra_fi a k ≤ k := by
  induction k with
  | zero => exact Nat.le_refl _
  | succ k ih => rw [ra_fi_s]; split <;> omega
/-- the first n places of a row -/
def ra_ar (A n : Nat) (a : Nat → Nat) (w w' : rv_W) : Prop := (∀ c j, c ≠ A → w' c j = w c j) ∧ ∀ j, j < n → w' A j = Int32.ofNat (a j)
theorem ra_swaps {A n i j : Nat} {a : Nat → Nat} {w w' : rv_W} (h : ra_ar A n a w w') (hn : n ≤ 5) (hi : i < n) (hj : j < n) : rv_T (f_X11_swaps A (Int32.ofNat i) (Int32.ofNat j) w') (fun _ w2 => ra_ar A n (ra_swp a i j) w w2) := by
  unfold f_X11_swaps
  simp only [rv_ck5 (show i < 5 by omega), rv_ck5 (show j < 5 by omega), rv_nn5 (show i < 5 by omega), rv_nn5 (show j < 5 by omega), rv_lt]
  refine rv_T_some.mpr ⟨fun c k hc => by rw [rv_up_ne hc, rv_up_ne hc, h.1 c k hc], fun k hk => ?_⟩
  unfold ra_swp
  by_cases e1 : k = j
  · subst e1; rw [if_pos rfl, rv_up_same, h.2 i hi]
  · rw [if_neg e1, rv_up_of (fun z => e1 z.2)]
    by_cases e2 : k = i
    · subst e2; rw [if_pos rfl, rv_up_same, h.2 j hj]
    · rw [if_neg e2, rv_up_of (fun z => e2 z.2), h.2 k hk]
theorem ra_sub1 {k : Nat} : Int32.ofNat (k + 1) + (-1 : Int32) = Int32.ofNat k := by
  rw [Int32.ofNat_add, Int32.add_assoc]
  exact Int32.add_zero _
theorem ra_swp_lt {a : Nat → Nat} {i j N : Nat} (h : ∀ k, a k < N) : ∀ k, ra_swp a i j k < N := fun k => by
  unfold ra_swp
  split
  · exact h _
  · split
    · exact h _
    · exact h _
theorem ra_next {A n : Nat} {a : Nat → Nat} {w w0 : rv_W} (h : ra_ar A n a w0 w) (hn : n ≤ 5) (hn1 : 1 ≤ n) (hb : ∀ k, a k < 10) : rv_T (f_X11_nextOf A (Int32.ofNat n) w) (fun v w' => v = rv_b2 (ra_nxt a n).isSome ∧ ra_ar A n ((ra_nxt a n).getD a) w0 w') := by
  unfold f_X11_nextOf
  have e1 : Int32.ofNat n - (2 : Int32) = rv_ci (n - 1) := by
    have := List.all_eq_true.mp (by decide +kernel : ((List.range 6).all fun n => decide (n = 0) || decide (Int32.ofNat n - (2 : Int32) = rv_ci (n - 1))) = true) n (rv_rg (by omega))
    rw [decide_eq_false (by omega), Bool.false_or] at this
    exact of_decide_eq_true this
  have e2 : Int32.ofNat n - (1 : Int32) = Int32.ofNat (n - 1) := by
    rw [Int32.ofNat_sub _ _ hn1]; rfl
  rw [rv_T_lt, e1]
  have cmp : ∀ x y, x < n → y < n → ∀ w', ra_ar A n a w0 w' → (w' A x < w' A y) = (a x < a y) := fun x y hx hy w' hw => by
    rw [hw.2 x hx, hw.2 y hy]
    exact propext (rv_n_lt (by have := hb x; omega) (by have := hb y; omega))
  refine rv_T_fx (α := Int32 → rv_W → rv_R) (σ := Nat) (fun k t => t (rv_ci k) w) (fun k => k ≤ n - 1 ∧ ra_fi a (n - 1) = ra_fi a k) (fun k => k) ?_ rv_FU (n - 1) (by show n - 1 < 10000; omega) ⟨Nat.le_refl _, rfl⟩
  intro ag k hI q
  obtain ⟨hk, hfi⟩ := hI
  rw [rv_T_jn]
  cases k with
  | zero =>
    have z : rv_ci 0 < 0 := by decide
    simp only [z, if_true]
    refine rv_T_some.mpr ?_
    have : ra_nxt a n = none := by
      unfold ra_nxt
      rw [if_pos (by rw [hfi]; rfl)]
    rw [this]
    exact ⟨rfl, h⟩
  | succ i =>
    have i1 : i + 1 < n := by omega
    simp only [rv_ci_succ, rv_nng (show i < 2147483648 by omega), if_false, rv_n_succ, rv_ck5 (show i < 5 by omega), rv_ck5 (show i + 1 < 5 by omega), rv_nn5 (show i < 5 by omega), rv_nn5 (show i + 1 < 5 by omega), cmp (i + 1) i i1 (by omega) w h]
    rw [ra_fi_s] at hfi
    by_cases q1 : a (i + 1) < a i
    · rw [if_pos q1] at hfi
      have e3 : Int32.ofNat i + (-1 : Int32) = rv_ci i := by unfold rv_ci; rw [Int32.sub_eq_add_neg]
      rw [if_pos q1, rv_T_lt, e3]
      exact q i ⟨by omega, hfi⟩ (Nat.lt_succ_self i)
    · rw [if_neg q1] at hfi
      rw [if_neg q1, rv_T_lt, e2]
      have hnx : ra_nxt a n = some (ra_rvs 5 (ra_swp a i (ra_fj a (a i) (n - 1))) (i + 1) (n - 1)) := by
        unfold ra_nxt
        rw [if_neg (by rw [hfi]; omega), hfi]
        rfl
      rw [hnx]
      refine rv_T_fx (α := Int32 → rv_W → rv_R) (σ := Nat) (fun j t => t (Int32.ofNat j) w) (fun j => i ≤ j ∧ j ≤ n - 1 ∧ ra_fj a (a i) (n - 1) = ra_fj a (a i) j) (fun j => j) ?_ rv_FU (n - 1) (by show n - 1 < 10000; omega) ⟨by omega, Nat.le_refl _, rfl⟩
      intro ag2 j hI2 q2
      obtain ⟨hij, hjn, hfj⟩ := hI2
      simp only [rv_ck5 (show i < 5 by omega), rv_ck5 (show j < 5 by omega), rv_nn5 (show i < 5 by omega), rv_nn5 (show j < 5 by omega), cmp j i (by omega) (by omega) w h]
      by_cases q3 : a j < a i
      · rw [if_pos q3, rv_T_lt]
        have hne : j ≠ i := fun z => by rw [z] at q3; omega
        obtain ⟨j', rfl⟩ : ∃ j', j = j' + 1 := ⟨j - 1, by omega⟩
        rw [ra_sub1]
        refine q2 j' ⟨by omega, by omega, ?_⟩ (Nat.lt_succ_self j')
        rw [hfj, ra_fj_s, if_pos q3]
      · rw [if_neg q3]
        have hj : ra_fj a (a i) (n - 1) = j := by
          rw [hfj]
          cases j with
          | zero => rfl
          | succ j => rw [ra_fj_s, if_neg q3]
        rw [hj]
        refine rv_T_call (ra_swaps h hn (show i < n by omega) (show j < n by omega)) (fun _ w3 h3 => ?_)
        rw [rv_T_lt, rv_T_lt]
        refine rv_T_fx (α := Int32 → Int32 → rv_W → rv_R) (σ := (Nat × Nat) × (Nat × (Nat → Nat)) × rv_W) (fun t x => x (Int32.ofNat t.1.1) (Int32.ofNat t.1.2) t.2.2) (fun t => t.1.1 ≤ n ∧ t.1.2 < n ∧ t.1.2 - t.1.1 < t.2.1.1 ∧ ra_ar A n t.2.1.2 w0 t.2.2 ∧ ra_rvs t.2.1.1 t.2.1.2 t.1.1 t.1.2 = ra_rvs 5 (ra_swp a i j) (i + 1) (n - 1)) (fun t => t.2.1.1) ?_ rv_FU ((i + 1, n - 1), (5, ra_swp a i j), w3) (by show 5 < 10000; omega) ⟨by show i + 1 ≤ n; omega, by show n - 1 < n; omega, by show n - 1 - (i + 1) < 5; omega, h3, rfl⟩
        intro ag3 ⟨⟨lo, hi⟩, ⟨f, b⟩, w4⟩ hI3 q4
        obtain ⟨hlo, hhi, hf, har, hrv⟩ := hI3
        dsimp only at hlo hhi hf har hrv q4 ⊢
        obtain ⟨f', rfl⟩ : ∃ f', f = f' + 1 := ⟨f - 1, by omega⟩
        rw [ra_rvs_s] at hrv
        have ec : (Int32.ofNat lo < Int32.ofNat hi) = (lo < hi) := propext (rv_n_lt (by omega) (by omega))
        simp only [ec]
        by_cases q5 : lo < hi
        · rw [if_pos q5] at hrv
          rw [if_pos q5]
          refine rv_T_call (ra_swaps har hn (show lo < n by omega) hhi) (fun _ w5 h5 => ?_)
          obtain ⟨hi', rfl⟩ : ∃ hi', hi = hi' + 1 := ⟨hi - 1, by omega⟩
          rw [rv_T_lt, rv_T_lt, rv_n_succ, ra_sub1]
          exact q4 ((lo + 1, hi'), (f', ra_swp b lo (hi' + 1)), w5) ⟨by dsimp only; omega, by dsimp only; omega, by dsimp only; omega, h5, by dsimp only; rw [← hrv]; rfl⟩ (by dsimp only; omega)
        · rw [if_neg q5] at hrv
          rw [if_neg q5]
          refine rv_T_some.mpr ⟨rfl, ?_⟩
          dsimp only [Option.getD_some]
          rw [← hrv]
          exact har
/-! all orders of a set -/
def ra_ps : Nat → Nat → List (List Nat)
  | 0, _ => [[]]
  | f + 1, C => if C = 0 then [[]] else (List.range 5).flatMap (fun c => if rv_hs C c = true then (ra_ps f (rv_wo C c)).map (c :: ·) else [])
def ra_gd (l : List Nat) : Nat → Nat := fun j => l.getD j 0
def ra_chk (n : Nat) : List (List Nat) → Bool
  | [] => false
  | l :: r => match r with
    | [] => (ra_nxt (ra_gd l) n).isNone
    | l' :: _ => (match ra_nxt (ra_gd l) n with
      | none => false
      | some b => (List.range n).all (fun j => b j == ra_gd l' j)) && ra_chk n r
def ra_lok (s : Nat) (l : List Nat) : Bool := l.length == rv_mn s && l.all (fun c => decide (c < 5) && rv_hs s c)
theorem ra_pms_ok {s : Nat} (hs : s < 32) (h0 : s ≠ 0) : ra_chk (rv_mn s) (ra_ps 5 s) = true ∧ ∀ l, l ∈ ra_ps 5 s → l.length = rv_mn s ∧ ∀ c, c ∈ l → c < 5 ∧ rv_hs s c = true := by
  have := List.all_eq_true.mp (by decide +kernel : ((List.range 32).all fun s => decide (s = 0) || (ra_chk (rv_mn s) (ra_ps 5 s) && (ra_ps 5 s).all (ra_lok s))) = true) s (rv_rg hs)
  rw [decide_eq_false h0, Bool.false_or, Bool.and_eq_true] at this
  refine ⟨this.1, fun l hl => ?_⟩
  have h2 := List.all_eq_true.mp this.2 l hl
  unfold ra_lok at h2
  rw [Bool.and_eq_true, beq_iff_eq] at h2
  refine ⟨h2.1, fun c hc => ?_⟩
  have h3 := List.all_eq_true.mp h2.2 c hc
  rw [Bool.and_eq_true, decide_eq_true_eq] at h3
  exact h3
/-- the members in their order -/
def ra_mb (s : Nat) : List Nat := (List.range 5).filter (fun c => rv_hs s c)
theorem ra_pms_hd {s : Nat} (hs : s < 32) (h0 : s ≠ 0) : ∃ r, ra_ps 5 s = ra_mb s :: r := by
  have := List.all_eq_true.mp (by decide +kernel : ((List.range 32).all fun s => decide (s = 0) || (ra_ps 5 s).head? == some (ra_mb s)) = true) s (rv_rg hs)
  rw [decide_eq_false h0, Bool.false_or, beq_iff_eq] at this
  cases hp : ra_ps 5 s with
  | nil => rw [hp] at this; cases this
  | cons l r =>
    rw [hp] at this
    have e : some l = some (ra_mb s) := this
    exact ⟨r, by rw [Option.some.inj e]⟩
