/-! the next order -/
def ra_fi (a : Nat → Nat) : Nat → Nat
  | 0 => 0
  | k + 1 => if a (k + 1) < a k then ra_fi a k else k + 1
def ra_fj (a : Nat → Nat) (x : Nat) : Nat → Nat
  | 0 => 0
  | j + 1 => if a (j + 1) < x then ra_fj a x j else j + 1
def ra_swp (a : Nat → Nat) (i j : Nat) : Nat → Nat := fun k => if k = j then a i else if k = i then a j else a k
def ra_rvs : Nat → (Nat → Nat) → Nat → Nat → Nat → Nat
  | 0, a, _, _ => a
  | f + 1, a, lo, hi => if lo < hi then ra_rvs f (ra_swp a lo hi) (lo + 1) (hi - 1) else a
def ra_nxt (a : Nat → Nat) (n : Nat) : Option (Nat → Nat) := if ra_fi a (n - 1) = 0 then none else some (ra_rvs 5 (ra_swp a (ra_fi a (n - 1) - 1) (ra_fj a (a (ra_fi a (n - 1) - 1)) (n - 1))) (ra_fi a (n - 1)) (n - 1))
theorem ra_fi_s {a : Nat → Nat} {k : Nat} : ra_fi a (k + 1) = if a (k + 1) < a k then ra_fi a k else k + 1 := rfl
theorem ra_fj_s {a : Nat → Nat} {x j : Nat} : ra_fj a x (j + 1) = if a (j + 1) < x then ra_fj a x j else j + 1 := rfl
theorem ra_rvs_s {a : Nat → Nat} {f lo hi : Nat} : ra_rvs (f + 1) a lo hi = if lo < hi then ra_rvs f (ra_swp a lo hi) (lo + 1) (hi - 1) else a := rfl
theorem ra_fi_le {a : Nat → Nat} {k : Nat} : ra_fi a k ≤ k := by
  induction k with
  | zero => exact Nat.le_refl _
  | succ k ih => rw [ra_fi_s]; split <;> omega
/-- the first n places of a row -/
def ra_ar (A n : Nat) (a : Nat → Nat) (w w' : rv_W) : Prop := (∀ c j, c ≠ A → w' c j = w c j) ∧ ∀ j, j < n → w' A j = Int32.ofNat (a j)
theorem ra_sub1 {k : Nat} : Int32.ofNat (k + 1) + (-1 : Int32) = Int32.ofNat k := by
  rw [Int32.ofNat_add, Int32.add_assoc]
  exact Int32.add_zero _
theorem ra_swp_lt {a : Nat → Nat} {i j N : Nat} (h : ∀ k, a k < N) : ∀ k, ra_swp a i j k < N := fun k => by
  unfold ra_swp
  split
  · exact h _
  · split
    · exact h _
    · exact h _
/-! all orders of a set -/
def ra_ps : Nat → Nat → List (List Nat)
  | 0, _ => [[]]
  | f + 1, C => if C = 0 then [[]] else (List.range 5).flatMap (fun c => if rv_hs C c = true then (ra_ps f (rv_wo C c)).map (c :: ·) else [])
def ra_gd (l : List Nat) : Nat → Nat := fun j => l.getD j 0
def ra_chk (n : Nat) : List (List Nat) → Bool
  | [] => false
  | l :: r => match r with
    | [] => (ra_nxt (ra_gd l) n).isNone
    | l' :: _ => (match ra_nxt (ra_gd l) n with
      | none => false
      | some b => (List.range n).all (fun j => b j == ra_gd l' j)) && ra_chk n r
def ra_lok (s : Nat) (l : List Nat) : Bool := l.length == rv_mn s && l.all (fun c => decide (c < 5) && rv_hs s c)
theorem ra_pms_ok {s : Nat} (hs : s < 32) (h0 : s ≠ 0) : ra_chk (rv_mn s) (ra_ps 5 s) = true ∧ ∀ l, l ∈ ra_ps 5 s → l.length = rv_mn s ∧ ∀ c, c ∈ l → c < 5 ∧ rv_hs s c = true := by
  have := List.all_eq_true.mp (by decide +kernel : ((List.range 32).all fun s => decide (s = 0) || (ra_chk (rv_mn s) (ra_ps 5 s) && (ra_ps 5 s).all (ra_lok s))) = true) s (rv_rg hs)
  rw [decide_eq_false h0, Bool.false_or, Bool.and_eq_true] at this
  refine ⟨this.1, fun l hl => ?_⟩
  have h2 := List.all_eq_true.mp this.2 l hl
  unfold ra_lok at h2
  rw [Bool.and_eq_true, beq_iff_eq] at h2
  refine ⟨h2.1, fun c hc => ?_⟩
  have h3 := List.all_eq_true.mp h2.2 c hc
  rw [Bool.and_eq_true, decide_eq_true_eq] at h3
  exact h3
/-- the members in their order -/
def ra_mb (s : Nat) : List Nat := (List.range 5).filter (fun c => rv_hs s c)
theorem ra_pms_hd {s : Nat} (hs : s < 32) (h0 : s ≠ 0) : ∃ r, ra_ps 5 s = ra_mb s :: r := by
  have := List.all_eq_true.mp (by decide +kernel : ((List.range 32).all fun s => decide (s = 0) || (ra_ps 5 s).head? == some (ra_mb s)) = true) s (rv_rg hs)
  rw [decide_eq_false h0, Bool.false_or, beq_iff_eq] at this
  cases hp : ra_ps 5 s with
  | nil => rw [hp] at this; cases this
  | cons l r =>
    rw [hp] at this
    have e : some l = some (ra_mb s) := this
    exact ⟨r, by rw [Option.some.inj e]⟩
