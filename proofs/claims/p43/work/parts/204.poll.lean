/-! the poll -/
def rv_hs (s c : Nat) : Bool := s.testBit c
theorem rv_wo_hs {s c b : Nat} (hs : s < 32) (hc : c < 5) (hb : b < 5) : rv_hs (rv_wo s c) b = (rv_hs s b && !decide (b = c)) := rv_wo_bit hs hc hb
theorem rv_hs0 {s c : Nat} : Int32.ofNat (rv_bt s c) = 0 ↔ ¬ rv_hs s c = true := rv_bt0
theorem rv_wi_hs {b s c d : Nat} (hb : b ∈ rv_B) (hs : s < 32) (hc : c < 5) (hd : d < 5) : (rv_q (rv_wi b s) c < 9 ↔ rv_hs s c = true ∧ rv_q b c < 9) ∧ (rv_hs s c = true → rv_hs s d = true → (rv_q (rv_wi b s) c < rv_q (rv_wi b s) d ↔ rv_q b c < rv_q b d)) := rv_wi_q hb hs hc hd
def rv_ab (s r a b : Nat) : Bool := rv_hs s b && decide (rv_q r a < rv_q r b)
def rv_cmpW (s r : Nat) (p : Int32) (w : rv_W) (n : Nat) : rv_W := fun c j => if c = 24 ∧ j = 1 then w c j + p else if (26 ≤ c ∧ c ≤ 30 ∧ j < 5) ∧ rv_ab s r (c - 26) j = true ∧ rv_q r (c - 26) < n then w c j + p else w c j
theorem rv_add0 {x p : Int32} (h : p = 0) : x + p = x := by rw [h]; exact Int32.add_zero x
set_option maxHeartbeats 4000000 in
theorem t_compare {s r a1 : Nat} {p : Int32} {w : rv_W} (hs : s < 32) (hr : r ∈ rv_B) (hS : w 24 0 = Int32.ofNat s) (ha : a1 ≠ 24 ∧ (a1 < 26 ∨ 30 < a1)) (hrow : p ≠ 0 → ∀ k, k < 5 → w a1 k = rv_ci (rv_at r k)) : f_X5_compare a1 p w = some (0, rv_cmpW s r p w 5) := by
  refine rv_T_eq ?_
  unfold f_X5_compare
  rw [rv_T_lt]
  have hw1 : (rv_up w 24 1 ((w 24 1) + p)) = rv_cmpW s r p w 0 := by
    funext c j
    unfold rv_up rv_cmpW
    grind
  rw [hw1]
  have h24 : rv_cmpW s r p w 0 24 0 = Int32.ofNat s := by
    rw [← hS]; unfold rv_cmpW; grind
  rw [h24]
  refine rv_T_fx (α := Int32 → Int32 → rv_W → rv_R) (σ := Nat × Nat × rv_W) (fun t a => a (Int32.ofNat t.1) (Int32.ofNat t.2.1) t.2.2) (fun t => t.2.1 ≤ 5 ∧ t.1 < 32 ∧ (∀ j, j < 5 → rv_hs t.1 j = (rv_hs s j && !decide (rv_q r j < t.2.1))) ∧ t.2.2 = rv_cmpW s r p w t.2.1) (fun t => 5 - t.2.1) ?_ rv_FU (s, 0, rv_cmpW s r p w 0) (show 5 - 0 < rv_FU by decide) ⟨by simp, hs, by simp, rfl⟩
  intro ag ⟨be, k, w6⟩ ⟨hk, hbe, hbb, hw6⟩ q
  simp only at hk hbe hbb hw6 q ⊢
  subst hw6
  by_cases hk5 : k < 5
  · rw [if_pos ((rv_l5 (by omega)).mpr hk5)]
    by_cases hp : p = 0
    · rw [if_pos hp, rv_T_some]
      refine ⟨rfl, ?_⟩
      funext c j
      unfold rv_cmpW
      simp only [rv_add0 hp, ite_self]
    · rw [if_neg hp, rv_n_ck hk5 (by decide), rv_n_nat (by omega)]
      have hrk : rv_cmpW s r p w k a1 k = rv_ci (rv_at r k) := by
        rw [← hrow hp k hk5]; unfold rv_cmpW; grind
      rw [hrk]
      have hle := rv_at_le hr hk5
      rcases hat : rv_at r k with _ | c
      · rw [rv_ci_zero, if_pos (by decide), rv_T_some]
        refine ⟨rfl, ?_⟩
        have hq : ∀ c, c < 5 → (rv_q r c < k ↔ rv_q r c < 5) := fun c hc => by
          refine ⟨fun h => by omega, fun h => ?_⟩
          refine Nat.lt_of_not_le (fun h2 => ?_)
          have := (rv_q_at hr h hc).mpr rfl
          have h3 := rv_at_end hr hk5 h hat h2
          omega
        funext c j
        unfold rv_cmpW
        grind
      · have hc5 : c < 5 := by omega
        have hqc : rv_q r c = k := (rv_q_at hr hk5 hc5).mp hat
        rw [rv_ci_succ, if_neg (rv_n_neg (by omega)), if_pos ((rv_l5 (by omega)).mpr hc5), e_without hbe hc5, rv_bd_some]
        have hwo := rv_wo_lt (c := c) hbe
        refine rv_T_for 5 (fun b w' => w' = fun c' j => if c' = 26 + c ∧ j < b ∧ rv_hs (rv_wo be c) j = true then rv_cmpW s r p w k c' j + p else rv_cmpW s r p w k c' j) (fun ag2 b w12 hb hw12 q2 => ?_) (by decide) 0 _ (by funext c' j; simp) (by omega)
        subst hw12
        by_cases hb5 : b < 5
        · rw [if_pos ((rv_l5 (by omega)).mpr hb5), e_has hwo hb5, rv_bd_some]
          by_cases hbit : rv_hs (rv_wo be c) b = true
          · rw [if_neg (fun z => rv_hs0.mp z hbit), rv_n_ck hc5 (by decide), rv_n_ck hb5 (by decide), rv_n_ck hb5 (by decide), rv_T_lt, rv_T_lt, rv_n_succ]
            refine q2 hb5 _ ?_
            rw [rv_n_nat (by omega), rv_n_nat (by omega)]
            funext c' j
            unfold rv_up
            grind
          · rw [if_pos (rv_hs0.mpr hbit), rv_T_lt, rv_n_succ]
            refine q2 hb5 _ ?_
            funext c' j
            grind
        · have hb' : b = 5 := by omega
          subst hb'
          rw [if_neg (fun z => hb5 ((rv_l5 (by omega)).mp z)), rv_T_lt, rv_n_succ]
          refine q (rv_wo be c, k + 1, _) ⟨hk5, hwo, ?_, ?_⟩ (by simp only; omega)
          · intro j hj
            simp only
            rw [rv_wo_hs hbe hc5 hj, hbb j hj]
            have : rv_q r j = k ↔ j = c := by
              rw [← rv_q_at hr hk5 hj, hat]; omega
            grind
          · show (fun c' j => if c' = 26 + c ∧ j < 5 ∧ rv_hs (rv_wo be c) j = true then rv_cmpW s r p w k c' j + p else rv_cmpW s r p w k c' j) = rv_cmpW s r p w (k + 1)
            funext c' j
            show (if c' = 26 + c ∧ j < 5 ∧ rv_hs (rv_wo be c) j = true then rv_cmpW s r p w k c' j + p else rv_cmpW s r p w k c' j) = rv_cmpW s r p w (k + 1) c' j
            have hbit := fun hj : j < 5 => rv_wo_hs hbe hc5 hj
            have hbj := hbb j
            have h1 : j < 5 → (rv_q r j = k ↔ j = c) := fun hj => by
              rw [← rv_q_at hr hk5 hj, hat]; omega
            have h2 : c' - 26 < 5 → (rv_q r (c' - 26) = k ↔ c' - 26 = c) := fun hj => by
              rw [← rv_q_at hr hk5 hj, hat]; omega
            simp only [rv_cmpW]
            by_cases h24 : c' = 24 ∧ j = 1
            · have : ¬ (c' = 26 + c ∧ j < 5 ∧ rv_hs (rv_wo be c) j = true) := by omega
              rw [if_neg this, if_pos h24, if_pos h24]
            · rw [if_neg h24, if_neg h24]
              by_cases hc' : 26 ≤ c' ∧ c' ≤ 30 ∧ j < 5
              · have g1 := hbit hc'.2.2
                have g2 := hbj hc'.2.2
                have g3 := h1 hc'.2.2
                have g4 := h2 (by omega)
                by_cases hcc : c' = 26 + c
                · have g5 : c' - 26 = c := by omega
                  have g6 := g4.mpr g5
                  have g7 : ¬ ((26 ≤ c' ∧ c' ≤ 30 ∧ j < 5) ∧ rv_ab s r (c' - 26) j = true ∧ rv_q r (c' - 26) < k) := fun z => by omega
                  rw [if_neg g7]
                  have g8 : rv_hs (rv_wo be c) j = true ↔ rv_ab s r (c' - 26) j = true := by
                    rw [g1, g2, rv_ab, g6]
                    simp only [Bool.and_eq_true, Bool.not_eq_true', decide_eq_true_eq, decide_eq_false_iff_not, g3.symm]
                    exact ⟨fun z => ⟨z.1.1, by omega⟩, fun z => ⟨⟨z.1, by omega⟩, by omega⟩⟩
                  by_cases g9 : rv_hs (rv_wo be c) j = true
                  · rw [if_pos ⟨hcc, hc'.2.2, g9⟩, if_pos ⟨hc', g8.mp g9, by omega⟩]
                  · rw [if_neg (fun z => g9 z.2.2), if_neg (fun z => g9 (g8.mpr z.2.1))]
                · have g5 : ¬ (c' - 26 = c) := by omega
                  have g6 : rv_q r (c' - 26) < k + 1 ↔ rv_q r (c' - 26) < k := by omega
                  rw [if_neg (fun z => hcc z.1)]
                  by_cases g9 : rv_ab s r (c' - 26) j = true ∧ rv_q r (c' - 26) < k
                  · rw [if_pos ⟨hc', g9⟩, if_pos ⟨hc', g9.1, g6.mpr g9.2⟩]
                  · rw [if_neg (fun z => g9 z.2), if_neg (fun z => g9 ⟨z.2.1, g6.mp z.2.2⟩)]
              · have : ¬ (c' = 26 + c ∧ j < 5 ∧ rv_hs (rv_wo be c) j = true) := by omega
                rw [if_neg this, if_neg (fun z => hc' z.1), if_neg (fun z => hc' z.1)]
  · rw [if_neg (fun z => hk5 ((rv_l5 (by omega)).mp z)), rv_T_some]
    have : k = 5 := by omega
    subst this
    exact ⟨rfl, rfl⟩

/-! sums over groups -/
def rv_sm : Nat → (Nat → Nat) → Nat
  | 0, _ => 0
  | n + 1, f => rv_sm n f + f n
theorem rv_sm_congr {n : Nat} {f g : Nat → Nat} (h : ∀ i, i < n → f i = g i) : rv_sm n f = rv_sm n g := by
  induction n with
  | zero => rfl
  | succ n ih => rw [rv_sm, rv_sm, ih (fun i hi => h i (by omega)), h n (by omega)]
theorem rv_sm_le {n : Nat} {f g : Nat → Nat} (h : ∀ i, i < n → f i ≤ g i) : rv_sm n f ≤ rv_sm n g := by
  induction n with
  | zero => exact Nat.le_refl _
  | succ n ih => rw [rv_sm, rv_sm]; exact Nat.add_le_add (ih (fun i hi => h i (by omega))) (h n (by omega))
theorem rv_sm_zero {n : Nat} {f : Nat → Nat} (h : ∀ i, i < n → f i = 0) : rv_sm n f = 0 := by
  induction n with
  | zero => rfl
  | succ n ih => rw [rv_sm, ih (fun i hi => h i (by omega)), h n (by omega)]
theorem rv_sm_mono {n m : Nat} {f : Nat → Nat} (h : n ≤ m) : rv_sm n f ≤ rv_sm m f := by
  induction m with
  | zero => have : n = 0 := by omega
            subst this; exact Nat.le_refl _
  | succ m ih =>
    by_cases h2 : n = m + 1
    · subst h2; exact Nat.le_refl _
    · exact Nat.le_trans (ih (by omega)) (Nat.le_add_right _ _)
theorem rv_sm_ext {n m : Nat} {f : Nat → Nat} (h : n ≤ m) (hz : ∀ i, n ≤ i → i < m → f i = 0) : rv_sm m f = rv_sm n f := by
  induction m with
  | zero => have : n = 0 := by omega
            subst this; rfl
  | succ m ih =>
    by_cases h2 : n = m + 1
    · subst h2; rfl
    · rw [rv_sm, ih (by omega) (fun i h1 h3 => hz i h1 (by omega)), hz m (by omega) (by omega)]; rfl
theorem rv_sm_add {n : Nat} {f g : Nat → Nat} : rv_sm n (fun i => f i + g i) = rv_sm n f + rv_sm n g := by
  induction n with
  | zero => rfl
  | succ n ih => rw [rv_sm, rv_sm, rv_sm, ih]; omega
theorem rv_sm_mul {n k : Nat} {f : Nat → Nat} : rv_sm n (fun i => k * f i) = k * rv_sm n f := by
  induction n with
  | zero => rfl
  | succ n ih => rw [rv_sm, rv_sm, ih, Nat.mul_add]
theorem rv_sm_swap {n m : Nat} {f : Nat → Nat → Nat} : rv_sm n (fun i => rv_sm m (fun j => f i j)) = rv_sm m (fun j => rv_sm n (fun i => f i j)) := by
  induction n with
  | zero => exact (rv_sm_zero (fun _ _ => rfl)).symm
  | succ n ih => simp only [rv_sm, ih, rv_sm_add]
/-- one term changed -/
def rv_at1 {α : Type} (f : Nat → α) (g : Nat) (x : α) : Nat → α := fun i => if i = g then x else f i
theorem rv_sm_set {n g : Nat} {f f' : Nat → Nat} (hg : g < n) (h : ∀ i, i < n → i ≠ g → f i = f' i) : rv_sm n f + f' g = rv_sm n f' + f g := by
  induction n with
  | zero => omega
  | succ n ih =>
    rw [rv_sm, rv_sm]
    by_cases h2 : g = n
    · subst h2
      rw [rv_sm_congr (fun i hi => h i (by omega) (by omega))]
      omega
    · have := ih (by omega) (fun i h1 h3 => h i (by omega) h3)
      have := h n (by omega) (by omega)
      omega
theorem rv_sm_pick {n g : Nat} {f : Nat → Nat} (hg : g < n) : f g ≤ rv_sm n f := by
  induction n with
  | zero => omega
  | succ n ih =>
    rw [rv_sm]
    by_cases h2 : g = n
    · subst h2; omega
    · have := ih (by omega); omega
