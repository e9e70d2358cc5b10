/-! counted loops by exact worlds and answers -/
section LOOPS
theorem rv_E0 {bot : Int32 → rv_W → rv_R} {F : (Int32 → rv_W → rv_R) → Int32 → rv_W → rv_R} {R : rv_R} (n : Nat) (W : Nat → rv_W) (w0 : rv_W) (h0 : w0 = W 0) (hs : ∀ ag i, i < n → F ag (Int32.ofNat i) (W i) = ag (Int32.ofNat (i + 1)) (W (i + 1))) (he : ∀ ag, F ag (Int32.ofNat n) (W n) = R) (hn : n < rv_FU) : rv_fx bot F rv_FU (Int32.ofNat 0) w0 = R := by
  have key : ∀ k i, i + k = n → ∀ m, k < m → rv_fx bot F m (Int32.ofNat i) (W i) = R := by
    intro k
    induction k with
    | zero => intro i hi m hm
              have : i = n := by omega
              subst this
              cases m with
              | zero => omega
              | succ m => exact he _
    | succ k ih => intro i hi m hm
                   cases m with
                   | zero => omega
                   | succ m => exact (hs _ i (by omega)).trans (ih (i + 1) (by omega) m (by omega))
  rw [h0]
  exact key n 0 (by omega) _ hn
theorem rv_E1 {bot : Int32 → Int32 → rv_W → rv_R} {F : (Int32 → Int32 → rv_W → rv_R) → Int32 → Int32 → rv_W → rv_R} {R : rv_R} (n : Nat) (A : Nat → Int32) (W : Nat → rv_W) (a0 : Int32) (w0 : rv_W) (h0 : w0 = W 0) (h1 : a0 = A 0) (hs : ∀ ag i, i < n → F ag (A i) (Int32.ofNat i) (W i) = ag (A (i + 1)) (Int32.ofNat (i + 1)) (W (i + 1))) (he : ∀ ag, F ag (A n) (Int32.ofNat n) (W n) = R) (hn : n < rv_FU) : rv_fx bot F rv_FU a0 (Int32.ofNat 0) w0 = R := by
  have key : ∀ k i, i + k = n → ∀ m, k < m → rv_fx bot F m (A i) (Int32.ofNat i) (W i) = R := by
    intro k
    induction k with
    | zero => intro i hi m hm
              have : i = n := by omega
              subst this
              cases m with
              | zero => omega
              | succ m => exact he _
    | succ k ih => intro i hi m hm
                   cases m with
                   | zero => omega
                   | succ m => exact (hs _ i (by omega)).trans (ih (i + 1) (by omega) m (by omega))
  rw [h0, h1]
  exact key n 0 (by omega) _ hn
theorem rv_E2 {bot : Int32 → Int32 → Int32 → rv_W → rv_R} {F : (Int32 → Int32 → Int32 → rv_W → rv_R) → Int32 → Int32 → Int32 → rv_W → rv_R} {R : rv_R} (n : Nat) (A B : Nat → Int32) (W : Nat → rv_W) (a0 b0 : Int32) (w0 : rv_W) (h0 : w0 = W 0) (h1 : a0 = A 0) (h2 : b0 = B 0) (hs : ∀ ag i, i < n → F ag (A i) (B i) (Int32.ofNat i) (W i) = ag (A (i + 1)) (B (i + 1)) (Int32.ofNat (i + 1)) (W (i + 1))) (he : ∀ ag, F ag (A n) (B n) (Int32.ofNat n) (W n) = R) (hn : n < rv_FU) : rv_fx bot F rv_FU a0 b0 (Int32.ofNat 0) w0 = R := by
  have key : ∀ k i, i + k = n → ∀ m, k < m → rv_fx bot F m (A i) (B i) (Int32.ofNat i) (W i) = R := by
    intro k
    induction k with
    | zero => intro i hi m hm
              have : i = n := by omega
              subst this
              cases m with
              | zero => omega
              | succ m => exact he _
    | succ k ih => intro i hi m hm
                   cases m with
                   | zero => omega
                   | succ m => exact (hs _ i (by omega)).trans (ih (i + 1) (by omega) m (by omega))
  rw [h0, h1, h2]
  exact key n 0 (by omega) _ hn
theorem rv_T_for1 {Q : Int32 → rv_W → Prop} {bot : Int32 → Int32 → rv_W → rv_R} {F : (Int32 → Int32 → rv_W → rv_R) → Int32 → Int32 → rv_W → rv_R} (n : Nat) (I : Nat → Int32 → rv_W → Prop) (step : ∀ ag i a w, i ≤ n → I i a w → (i < n → ∀ a' w', I (i + 1) a' w' → rv_T (ag a' (Int32.ofNat (i + 1)) w') Q) → rv_T (F ag a (Int32.ofNat i) w) Q) (hn : n < rv_FU) (i0 : Nat) (a0 : Int32) (w0 : rv_W) (h0 : I i0 a0 w0) (hi : i0 ≤ n) : rv_T (rv_fx bot F rv_FU a0 (Int32.ofNat i0) w0) Q := by
  refine rv_T_fx (α := Int32 → Int32 → rv_W → rv_R) (Q := Q) (σ := Nat × Int32 × rv_W) (fun s a => a s.2.1 (Int32.ofNat s.1) s.2.2) (fun s => s.1 ≤ n ∧ I s.1 s.2.1 s.2.2) (fun s => n - s.1) (fun ag s hI q => ?_) rv_FU (i0, a0, w0) (by show n - i0 < _; omega) ⟨hi, h0⟩
  refine step ag s.1 s.2.1 s.2.2 hI.1 hI.2 (fun hlt a' w' hw => ?_)
  exact q (s.1 + 1, a', w') ⟨hlt, hw⟩ (by show n - (s.1 + 1) < n - s.1; omega)
theorem rv_T_for2 {Q : Int32 → rv_W → Prop} {bot : Int32 → Int32 → Int32 → rv_W → rv_R} {F : (Int32 → Int32 → Int32 → rv_W → rv_R) → Int32 → Int32 → Int32 → rv_W → rv_R} (n : Nat) (I : Nat → Int32 → Int32 → rv_W → Prop) (step : ∀ ag i a b w, i ≤ n → I i a b w → (i < n → ∀ a' b' w', I (i + 1) a' b' w' → rv_T (ag a' b' (Int32.ofNat (i + 1)) w') Q) → rv_T (F ag a b (Int32.ofNat i) w) Q) (hn : n < rv_FU) (i0 : Nat) (a0 b0 : Int32) (w0 : rv_W) (h0 : I i0 a0 b0 w0) (hi : i0 ≤ n) : rv_T (rv_fx bot F rv_FU a0 b0 (Int32.ofNat i0) w0) Q := by
  refine rv_T_fx (α := Int32 → Int32 → Int32 → rv_W → rv_R) (Q := Q) (σ := Nat × Int32 × Int32 × rv_W) (fun s a => a s.2.1 s.2.2.1 (Int32.ofNat s.1) s.2.2.2) (fun s => s.1 ≤ n ∧ I s.1 s.2.1 s.2.2.1 s.2.2.2) (fun s => n - s.1) (fun ag s hI q => ?_) rv_FU (i0, a0, b0, w0) (by show n - i0 < _; omega) ⟨hi, h0⟩
  refine step ag s.1 s.2.1 s.2.2.1 s.2.2.2 hI.1 hI.2 (fun hlt a' b' w' hw => ?_)
  exact q (s.1 + 1, a', b', w') ⟨hlt, hw⟩ (by show n - (s.1 + 1) < n - s.1; omega)
theorem rv_C0 {bot : Int32 → rv_W → rv_R} {F : (Int32 → rv_W → rv_R) → Int32 → rv_W → rv_R} {R : rv_R} (n : Nat) (I : Nat → rv_W → Prop) (i0 : Nat) (w0 : rv_W) (h0 : I i0 w0) (hi : i0 ≤ n) (hn : n < rv_FU) (hs : ∀ ag i w, i ≤ n → I i w → (i < n → ∀ w', I (i + 1) w' → ag (Int32.ofNat (i + 1)) w' = R) → F ag (Int32.ofNat i) w = R) : rv_fx bot F rv_FU (Int32.ofNat i0) w0 = R := by
  have key : ∀ k i w, i + k = n → I i w → ∀ m, k < m → rv_fx bot F m (Int32.ofNat i) w = R := by
    intro k
    induction k with
    | zero => intro i w hi hI m hm
              cases m with
              | zero => omega
              | succ m => exact hs _ i w (by omega) hI (fun z => absurd z (by omega))
    | succ k ih => intro i w hi hI m hm
                   cases m with
                   | zero => omega
                   | succ m => exact hs _ i w (by omega) hI (fun _ w' hI' => ih (i + 1) w' (by omega) hI' m (by omega))
  exact key (n - i0) i0 w0 (by omega) h0 _ (by omega)
theorem rv_C1 {bot : Int32 → Int32 → rv_W → rv_R} {F : (Int32 → Int32 → rv_W → rv_R) → Int32 → Int32 → rv_W → rv_R} {R : rv_R} (n : Nat) (I : Nat → Int32 → rv_W → Prop) (i0 : Nat) (a0 : Int32) (w0 : rv_W) (h0 : I i0 a0 w0) (hi : i0 ≤ n) (hn : n < rv_FU) (hs : ∀ ag i a w, i ≤ n → I i a w → (i < n → ∀ a' w', I (i + 1) a' w' → ag a' (Int32.ofNat (i + 1)) w' = R) → F ag a (Int32.ofNat i) w = R) : rv_fx bot F rv_FU a0 (Int32.ofNat i0) w0 = R := by
  have key : ∀ k i a w, i + k = n → I i a w → ∀ m, k < m → rv_fx bot F m a (Int32.ofNat i) w = R := by
    intro k
    induction k with
    | zero => intro i a w hi hI m hm
              cases m with
              | zero => omega
              | succ m => exact hs _ i a w (by omega) hI (fun z => absurd z (by omega))
    | succ k ih => intro i a w hi hI m hm
                   cases m with
                   | zero => omega
                   | succ m => exact hs _ i a w (by omega) hI (fun _ a' w' hI' => ih (i + 1) a' w' (by omega) hI' m (by omega))
  exact key (n - i0) i0 a0 w0 (by omega) h0 _ (by omega)
theorem rv_C2 {bot : Int32 → Int32 → Int32 → rv_W → rv_R} {F : (Int32 → Int32 → Int32 → rv_W → rv_R) → Int32 → Int32 → Int32 → rv_W → rv_R} {R : rv_R} (n : Nat) (I : Nat → Int32 → Int32 → rv_W → Prop) (i0 : Nat) (a0 b0 : Int32) (w0 : rv_W) (h0 : I i0 a0 b0 w0) (hi : i0 ≤ n) (hn : n < rv_FU) (hs : ∀ ag i a b w, i ≤ n → I i a b w → (i < n → ∀ a' b' w', I (i + 1) a' b' w' → ag a' b' (Int32.ofNat (i + 1)) w' = R) → F ag a b (Int32.ofNat i) w = R) : rv_fx bot F rv_FU a0 b0 (Int32.ofNat i0) w0 = R := by
  have key : ∀ k i a b w, i + k = n → I i a b w → ∀ m, k < m → rv_fx bot F m a b (Int32.ofNat i) w = R := by
    intro k
    induction k with
    | zero => intro i a b w hi hI m hm
              cases m with
              | zero => omega
              | succ m => exact hs _ i a b w (by omega) hI (fun z => absurd z (by omega))
    | succ k ih => intro i a b w hi hI m hm
                   cases m with
                   | zero => omega
                   | succ m => exact hs _ i a b w (by omega) hI (fun _ a' b' w' hI' => ih (i + 1) a' b' w' (by omega) hI' m (by omega))
  exact key (n - i0) i0 a0 b0 w0 (by omega) h0 _ (by omega)
end LOOPS
/-! small numbers -/
theorem rv_nn {i n : Nat} (hi : i < n) (hn : n ≤ 1000) : (Int32.ofNat i).toNatClampNeg = i := rv_n_nat (by omega)
theorem rv_lt5 {i : Nat} (hi : i < 5) : (Int32.ofNat i < (5 : Int32)) = True := eq_true ((rv_l5 (by omega)).mpr hi)
theorem rv_ge5 : (Int32.ofNat 5 < (5 : Int32)) = False := by decide
theorem rv_lt20 {i : Nat} (hi : i < 20) : (Int32.ofNat i < (20 : Int32)) = True := eq_true ((rv_l20 (by omega)).mpr hi)
theorem rv_ge20 : (Int32.ofNat 20 < (20 : Int32)) = False := by decide
theorem rv_lt25 {i : Nat} (hi : i < 25) : (Int32.ofNat i < (25 : Int32)) = True := eq_true ((rv_l25 (by omega)).mpr hi)
theorem rv_ge25 : (Int32.ofNat 25 < (25 : Int32)) = False := by decide
theorem rv_ck5 {i : Nat} {t : rv_R} (hi : i < 5) : rv_ck (Int32.ofNat i) 5 t = t := rv_n_ck hi (by decide)
theorem rv_ck20 {i : Nat} {t : rv_R} (hi : i < 20) : rv_ck (Int32.ofNat i) 20 t = t := rv_n_ck hi (by decide)
theorem rv_ck25 {i : Nat} {t : rv_R} (hi : i < 25) : rv_ck (Int32.ofNat i) 25 t = t := rv_n_ck hi (by decide)
theorem rv_nn5 {i : Nat} (hi : i < 5) : (Int32.ofNat i).toNatClampNeg = i := rv_n_nat (by omega)
theorem rv_nn20 {i : Nat} (hi : i < 20) : (Int32.ofNat i).toNatClampNeg = i := rv_n_nat (by omega)
theorem rv_nn25 {i : Nat} (hi : i < 25) : (Int32.ofNat i).toNatClampNeg = i := rv_n_nat (by omega)
theorem rv_eq5 {i j : Nat} (hi : i < 5) (hj : j < 5) : (Int32.ofNat i = Int32.ofNat j) = (i = j) := propext (rv_n_eq (by omega) (by omega))
theorem rv_nng {i : Nat} (hi : i < 2147483648) : (Int32.ofNat i < 0) = False := eq_false (rv_n_neg hi)
theorem rv_bt1 {s c : Nat} (h : rv_hs s c = true) : rv_bt s c = 1 := if_pos h
theorem rv_bt2 {s c : Nat} (h : ¬ rv_hs s c = true) : rv_bt s c = 0 := if_neg h
theorem rv_one0 : (Int32.ofNat 1 = (0 : Int32)) = False := by decide
theorem rv_zero0 : (Int32.ofNat 0 = (0 : Int32)) = True := by decide
/-! a row of the world filled up to a place; one place set -/
def rv_fl (A k : Nat) (f : Nat → Int32) (w : rv_W) : rv_W := fun c j => if c = A ∧ j < k then f j else w c j
theorem rv_fl_0 {A : Nat} {f : Nat → Int32} {w : rv_W} : rv_fl A 0 f w = w := by
  funext c j; unfold rv_fl; rw [if_neg (by omega)]
theorem rv_fl_up {A k : Nat} {f : Nat → Int32} {w : rv_W} {v : Int32} (h : v = f k) : rv_up (rv_fl A k f w) A k v = rv_fl A (k + 1) f w := by
  funext c j; unfold rv_up rv_fl; subst h; grind
theorem rv_fl_ne {A k c j : Nat} {f : Nat → Int32} {w : rv_W} (h : c ≠ A) : rv_fl A k f w c j = w c j := by
  unfold rv_fl; rw [if_neg (fun z => h z.1)]
theorem rv_fl_at {A k j : Nat} {f : Nat → Int32} {w : rv_W} (h : j < k) : rv_fl A k f w A j = f j := by
  unfold rv_fl; rw [if_pos ⟨rfl, h⟩]
theorem rv_fl_ge {A k j : Nat} {f : Nat → Int32} {w : rv_W} (h : k ≤ j) : rv_fl A k f w A j = w A j := by
  unfold rv_fl; rw [if_neg (by omega)]
theorem rv_fl_fl {A k : Nat} {f g : Nat → Int32} {w : rv_W} : rv_fl A k f (rv_fl A k g w) = rv_fl A k f w := by
  funext c j; unfold rv_fl; grind
theorem rv_fl_congr {A k : Nat} {f g : Nat → Int32} {w : rv_W} (h : ∀ j, j < k → f j = g j) : rv_fl A k f w = rv_fl A k g w := by
  funext c j; unfold rv_fl
  by_cases q : c = A ∧ j < k
  · rw [if_pos q, if_pos q, h j q.2]
  · rw [if_neg q, if_neg q]
theorem rv_fl_fr {A k lo hi : Nat} {f : Nat → Int32} {w : rv_W} (h : lo ≤ A ∧ A ≤ hi) : rv_fr lo hi w (rv_fl A k f w) := fun c j z => rv_fl_ne (by omega)
theorem rv_up_up {w : rv_W} {A k : Nat} {x y : Int32} : rv_up (rv_up w A k x) A k y = rv_up w A k y := by
  funext c j; unfold rv_up; grind
theorem rv_up_ne {w : rv_W} {A k c j : Nat} {x : Int32} (h : c ≠ A) : rv_up w A k x c j = w c j := rv_up_of (fun z => h z.1)
theorem rv_up_fr {A k lo hi : Nat} {v : Int32} {w : rv_W} (h : lo ≤ A ∧ A ≤ hi) : rv_fr lo hi w (rv_up w A k v) := fun c j z => rv_up_ne (by omega)
/-! all below, masks, sums of ints, counts -/
def rv_al : Nat → (Nat → Bool) → Bool
  | 0, _ => true
  | n + 1, p => rv_al n p && p n
def rv_ms : Nat → (Nat → Bool) → Nat
  | 0, _ => 0
  | n + 1, p => if p n = true then rv_ms n p + 2 ^ n else rv_ms n p
def rv_si : Nat → (Nat → Int32) → Int32
  | 0, _ => 0
  | n + 1, f => rv_si n f + f n
def rv_cn : Nat → (Nat → Bool) → Nat
  | 0, _ => 0
  | n + 1, p => if p n = true then rv_cn n p + 1 else rv_cn n p
def rv_b2 (b : Bool) : Int32 := if b = true then 1 else 0
theorem rv_b2_0 {b : Bool} : (rv_b2 b = 0) = (b = false) := by cases b <;> decide
theorem rv_b2_t : rv_b2 true = 1 := rfl
theorem rv_b2_f : rv_b2 false = 0 := rfl
theorem rv_bt_b2 {s c : Nat} : Int32.ofNat (rv_bt s c) = rv_b2 (rv_hs s c) := by
  unfold rv_bt rv_b2 rv_hs; split <;> rfl
theorem rv_al_iff {n : Nat} {p : Nat → Bool} : rv_al n p = true ↔ ∀ i, i < n → p i = true := by
  induction n with
  | zero => exact ⟨fun _ i hi => by omega, fun _ => rfl⟩
  | succ n ih =>
    rw [rv_al, Bool.and_eq_true, ih]
    exact ⟨fun h i hi => by
      by_cases q : i = n
      · rw [q]; exact h.2
      · exact h.1 i (by omega), fun h => ⟨fun i hi => h i (by omega), h n (by omega)⟩⟩
theorem rv_al_congr {n : Nat} {p q : Nat → Bool} (h : ∀ i, i < n → p i = q i) : rv_al n p = rv_al n q := by
  induction n with
  | zero => rfl
  | succ n ih => rw [rv_al, rv_al, ih (fun i hi => h i (by omega)), h n (by omega)]
theorem rv_ms_lt {n : Nat} {p : Nat → Bool} : rv_ms n p < 2 ^ n := by
  induction n with
  | zero => exact Nat.one_pos
  | succ n ih => rw [rv_ms, Nat.pow_succ]; split <;> omega
theorem rv_ms_congr {n : Nat} {p q : Nat → Bool} (h : ∀ i, i < n → p i = q i) : rv_ms n p = rv_ms n q := by
  induction n with
  | zero => rfl
  | succ n ih => rw [rv_ms, rv_ms, ih (fun i hi => h i (by omega)), h n (by omega)]
theorem rv_ms_hs {n c : Nat} {p : Nat → Bool} (h : c < n) : rv_hs (rv_ms n p) c = p c := by
  unfold rv_hs
  induction n with
  | zero => omega
  | succ n ih =>
    rw [rv_ms]
    by_cases q : c = n
    · subst q
      have h1 := rv_ms_lt (n := c) (p := p)
      split
      · rename_i h2
        rw [Nat.add_comm, Nat.testBit_two_pow_add_eq, Nat.testBit_lt_two_pow h1, h2]; rfl
      · rename_i h2
        rw [Nat.testBit_lt_two_pow h1]
        cases h3 : p c
        · rfl
        · exact absurd h3 h2
    · split
      · rw [Nat.add_comm, Nat.testBit_two_pow_add_gt (by omega)]
        exact ih (by omega)
      · exact ih (by omega)
theorem rv_hs_ext {s t : Nat} (hs : s < 32) (ht : t < 32) (h : ∀ c, c < 5 → rv_hs s c = rv_hs t c) : s = t := by
  have key := rv_all2 (p := fun s t => !((List.range 5).all fun c => rv_hs s c == rv_hs t c) || s == t) (l := List.range 32) (m := List.range 32) (by decide +kernel) (rv_rg hs) (rv_rg ht)
  rw [Bool.or_eq_true] at key
  rcases key with key | key
  · exfalso
    have : ((List.range 5).all fun c => rv_hs s c == rv_hs t c) = true := List.all_eq_true.mpr (fun c hc => by rw [h c (List.mem_range.mp hc)]; exact beq_self_eq_true _)
    rw [this] at key
    cases key
  · exact eq_of_beq key
theorem rv_ms_self {s : Nat} (hs : s < 32) : rv_ms 5 (rv_hs s) = s := rv_hs_ext rv_ms_lt hs (fun c hc => rv_ms_hs hc)
theorem rv_si_congr {n : Nat} {f g : Nat → Int32} (h : ∀ i, i < n → f i = g i) : rv_si n f = rv_si n g := by
  induction n with
  | zero => rfl
  | succ n ih => rw [rv_si, rv_si, ih (fun i hi => h i (by omega)), h n (by omega)]
theorem rv_cn_congr {n : Nat} {p q : Nat → Bool} (h : ∀ i, i < n → p i = q i) : rv_cn n p = rv_cn n q := by
  induction n with
  | zero => rfl
  | succ n ih => rw [rv_cn, rv_cn, ih (fun i hi => h i (by omega)), h n (by omega)]
theorem rv_cn_le {n : Nat} {p : Nat → Bool} : rv_cn n p ≤ n := by
  induction n with
  | zero => exact Nat.le_refl _
  | succ n ih => rw [rv_cn]; split <;> omega
theorem rv_si_sm {n : Nat} {f : Nat → Nat} : rv_si n (fun i => Int32.ofNat (f i)) = Int32.ofNat (rv_sm n f) := by
  induction n with
  | zero => rfl
  | succ n ih => rw [rv_si, rv_sm, ih, Int32.ofNat_add]
/-- the mask's next bit -/
theorem rv_or_bit {m c : Nat} (hm : m < 2 ^ c) (hc : c < 5) : Int32.ofNat m ||| ((1 : Int32) <<< (Int32.ofNat c &&& 31)) = Int32.ofNat (m + 2 ^ c) := by
  have key := rv_all2 (p := fun m c => !decide (m < 2 ^ c) || decide (Int32.ofNat m ||| ((1 : Int32) <<< (Int32.ofNat c &&& 31)) = Int32.ofNat (m + 2 ^ c))) (l := List.range 32) (m := List.range 5) (by decide +kernel) (rv_rg (Nat.lt_of_lt_of_le hm (Nat.le_trans (Nat.pow_le_pow_right (by decide) (by omega : c ≤ 5)) (by decide)))) (rv_rg hc)
  rw [Bool.or_eq_true] at key
  rcases key with key | key
  · rw [decide_eq_true hm] at key; cases key
  · exact of_decide_eq_true key
theorem rv_ms_or {c : Nat} {p : Nat → Bool} (hc : c < 5) (h : p c = true) : Int32.ofNat (rv_ms c p) ||| ((1 : Int32) <<< (Int32.ofNat c &&& 31)) = Int32.ofNat (rv_ms (c + 1) p) := by
  rw [rv_or_bit rv_ms_lt hc, rv_ms, if_pos h]
theorem rv_ms_no {c : Nat} {p : Nat → Bool} (h : ¬ p c = true) : rv_ms (c + 1) p = rv_ms c p := by
  rw [rv_ms, if_neg h]
theorem rv_shl {c : Nat} (hc : c < 5) : (1 : Int32) <<< (Int32.ofNat c &&& 31) = Int32.ofNat (2 ^ c) := by
  have key := List.all_eq_true.mp (by decide +kernel : ((List.range 5).all fun c => decide ((1 : Int32) <<< (Int32.ofNat c &&& 31) = Int32.ofNat (2 ^ c))) = true) c (rv_rg hc)
  exact of_decide_eq_true key
theorem rv_or0 {x : Int32} : x ||| (0 : Int32) = x := Int32.or_zero
/-- of digits: has the set it? -/
def rv_hd (C d : Nat) : Bool := decide (d ≠ 0) && rv_hs C (d - 1)
theorem e_hasd {C d : Nat} (hC : C < 32) (hd : d ≤ 5) (w : rv_W) : f_X1_has (Int32.ofNat C) (rv_ci d) w = some (rv_b2 (rv_hd C d), w) :=
  rv_un_eq un_X1_has (rv_all2 (p := fun C d => rv_eqr (f_X1_has (Int32.ofNat C) (rv_ci d) rv_w0) (rv_b2 (rv_hd C d))) (l := List.range 32) (m := List.range 6) (by decide +kernel) (rv_rg hC) (rv_rg (by omega)))
theorem e_withoutd {C d : Nat} (hC : C < 32) (hd : d ≤ 5) (w : rv_W) : f_X1_without (Int32.ofNat C) (rv_ci d) w = some (Int32.ofNat (if d = 0 then C else rv_wo C (d - 1)), w) :=
  rv_un_eq un_X1_without (rv_all2 (p := fun C d => rv_eqr (f_X1_without (Int32.ofNat C) (rv_ci d) rv_w0) (Int32.ofNat (if d = 0 then C else rv_wo C (d - 1)))) (l := List.range 32) (m := List.range 6) (by decide +kernel) (rv_rg hC) (rv_rg (by omega)))
theorem e_hasb {s c : Nat} (hs : s < 32) (hc : c < 5) (w : rv_W) : f_X1_has (Int32.ofNat s) (Int32.ofNat c) w = some (rv_b2 (rv_hs s c), w) := by
  rw [e_has hs hc, rv_bt_b2]
