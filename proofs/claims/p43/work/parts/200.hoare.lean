/-! the readings, answered: from t comes an answer with Q -/
def rv_T (t : rv_R) (Q : Int32 → rv_W → Prop) : Prop := ∃ r w, t = some (r, w) ∧ Q r w
section HOARE
variable {t x : rv_R} {Q P Q' : Int32 → rv_W → Prop}
theorem rv_T_some {r : Int32} {w : rv_W} : rv_T (some (r, w)) Q ↔ Q r w := ⟨fun ⟨_, _, h, q⟩ => by cases h; exact q, fun q => ⟨_, _, rfl, q⟩⟩
theorem rv_T_lt {α : Type} {a : α} {k : α → rv_R} : rv_T (rv_lt a k) Q ↔ rv_T (k a) Q := Iff.rfl
theorem rv_T_jn {α : Type} {k : α} {f : α → rv_R} : rv_T (rv_jn k f) Q ↔ rv_T (f k) Q := Iff.rfl
theorem rv_T_ck {i : Int32} {n : Nat} : rv_T (rv_ck i n t) Q ↔ (0 ≤ i.toInt ∧ i.toInt < (n : Int)) ∧ rv_T t Q := by
  unfold rv_ck
  split
  · rename_i h; exact ⟨fun q => ⟨h, q⟩, fun q => q.2⟩
  · rename_i h; exact ⟨fun ⟨_, _, q, _⟩ => (by cases q), fun q => absurd q.1 h⟩
theorem rv_T_gd {c : Prop} [Decidable c] : rv_T (rv_gd c t) Q ↔ c ∧ rv_T t Q := by
  unfold rv_gd
  split
  · rename_i h; exact ⟨fun q => ⟨h, q⟩, fun q => q.2⟩
  · rename_i h; exact ⟨fun ⟨_, _, q, _⟩ => (by cases q), fun q => absurd q.1 h⟩
theorem rv_T_if {c : Prop} [Decidable c] {a b : rv_R} : rv_T (if c then a else b) Q ↔ (c → rv_T a Q) ∧ (¬ c → rv_T b Q) := by
  split
  · rename_i h; exact ⟨fun q => ⟨fun _ => q, fun z => absurd h z⟩, fun q => q.1 h⟩
  · rename_i h; exact ⟨fun q => ⟨fun z => absurd z h, fun _ => q⟩, fun q => q.2 h⟩
theorem rv_T_bd {k : Int32 → rv_W → rv_R} : rv_T (rv_bd x k) Q ↔ rv_T x (fun r w => rv_T (k r w) Q) := by
  unfold rv_bd
  cases x with
  | none => exact ⟨fun ⟨_, _, q, _⟩ => (by cases q), fun ⟨_, _, q, _⟩ => (by cases q)⟩
  | some z =>
    obtain ⟨r, w⟩ := z
    exact (rv_T_some (Q := fun r w => rv_T (k r w) Q)).symm
theorem rv_T.mono (h : rv_T t Q) (q : ∀ r w, Q r w → Q' r w) : rv_T t Q' := by
  obtain ⟨r, w, e, z⟩ := h
  exact ⟨r, w, e, q r w z⟩
theorem rv_T_call {k : Int32 → rv_W → rv_R} (h : rv_T x P) (q : ∀ r w, P r w → rv_T (k r w) Q) : rv_T (rv_bd x k) Q := rv_T_bd.mpr (h.mono q)
theorem rv_bd_some {r : Int32} {w : rv_W} {k : Int32 → rv_W → rv_R} : rv_bd (some (r, w)) k = k r w := rfl
theorem rv_T_eq {r : Int32} {w : rv_W} (h : rv_T t (fun r' w' => r' = r ∧ w' = w)) : t = some (r, w) := by
  obtain ⟨_, _, e, rfl, rfl⟩ := h
  exact e
theorem rv_T_of {r : Int32} {w : rv_W} (h : t = some (r, w)) (q : Q r w) : rv_T t Q := ⟨r, w, h, q⟩
/-- a loop: an invariant and a measure -/
theorem rv_T_fx {α σ : Type} {bot : α} {F : α → α} (S : σ → α → rv_R) (I : σ → Prop) (m : σ → Nat) (step : ∀ ag s, I s → (∀ s', I s' → m s' < m s → rv_T (S s' ag) Q) → rv_T (S s (F ag)) Q) : ∀ (n : Nat) (s : σ), m s < n → I s → rv_T (S s (rv_fx bot F n)) Q
  | 0, _, h, _ => absurd h (Nat.not_lt_zero _)
  | n + 1, s, h, hI => step _ s hI (fun s' h' q => rv_T_fx S I m step n s' (by omega) h')
/-- a counted loop with its counter as the first variable, and the world -/
theorem rv_T_for {bot : Int32 → rv_W → rv_R} {F : (Int32 → rv_W → rv_R) → Int32 → rv_W → rv_R} (n : Nat) (I : Nat → rv_W → Prop) (step : ∀ ag i w, i ≤ n → I i w → (i < n → ∀ w', I (i + 1) w' → rv_T (ag (Int32.ofNat (i + 1)) w') Q) → rv_T (F ag (Int32.ofNat i) w) Q) (hn : n < rv_FU) (i0 : Nat) (w0 : rv_W) (h0 : I i0 w0) (hi : i0 ≤ n) : rv_T (rv_fx bot F rv_FU (Int32.ofNat i0) w0) Q := by
  refine rv_T_fx (α := Int32 → rv_W → rv_R) (Q := Q) (σ := Nat × rv_W) (fun s a => a (Int32.ofNat s.1) s.2) (fun s => s.1 ≤ n ∧ I s.1 s.2) (fun s => n - s.1) (fun ag s hI q => ?_) rv_FU (i0, w0) (by show n - i0 < _; omega) ⟨hi, h0⟩
  refine step ag s.1 s.2 hI.1 hI.2 (fun hlt w' hw => ?_)
  exact q (s.1 + 1, w') ⟨hlt, hw⟩ (by show n - (s.1 + 1) < n - s.1; omega)
end HOARE
/-! ints as numbers -/
section NUM
theorem rv_n_lt {i j : Nat} (hi : i < 2147483648) (hj : j < 2147483648) : Int32.ofNat i < Int32.ofNat j ↔ i < j := Int32.ofNat_lt_iff_lt hi hj
theorem rv_n_le {i j : Nat} (hi : i < 2147483648) (hj : j < 2147483648) : Int32.ofNat i ≤ Int32.ofNat j ↔ i ≤ j := Int32.ofNat_le_iff_le hi hj
theorem rv_n_int {i : Nat} (hi : i < 2147483648) : (Int32.ofNat i).toInt = i := Int32.toInt_ofNat_of_lt hi
theorem rv_n_nat {i : Nat} (hi : i < 2147483648) : (Int32.ofNat i).toNatClampNeg = i := Int32.toNatClampNeg_ofNat_of_lt hi
theorem rv_n_eq {i j : Nat} (hi : i < 2147483648) (hj : j < 2147483648) : Int32.ofNat i = Int32.ofNat j ↔ i = j := by
  rw [← Int32.toInt_inj, rv_n_int hi, rv_n_int hj]
  omega
theorem rv_n_succ {i : Nat} : Int32.ofNat i + 1 = Int32.ofNat (i + 1) := by rw [Int32.ofNat_add]; rfl
theorem rv_n_neg {i : Nat} (hi : i < 2147483648) : ¬ (Int32.ofNat i < 0) := by
  rw [Int32.lt_iff_toInt_lt, rv_n_int hi]
  have : (0 : Int32).toInt = 0 := by decide
  omega
theorem rv_n_ck {i n : Nat} {t : rv_R} (h : i < n) (hn : n < 2147483648) : rv_ck (Int32.ofNat i) n t = t := by
  unfold rv_ck
  rw [if_pos]
  rw [rv_n_int (by omega)]
  omega
end NUM
/-! a method that reads nothing: its answer is one number -/
abbrev rv_w0 : rv_W := fun _ _ => 0
def rv_pu (t : rv_R) : Int32 := match t with
  | some (r, _) => r
  | none => 0
def rv_is (t : rv_R) : Bool := match t with
  | some _ => true
  | none => false
/-- what it answers in one world it answers in each -/
def rv_un (t t0 : rv_R) (w : rv_W) : Prop := t = t0.map (fun q => (q.1, w))
theorem rv_un_bd {x x0 : rv_R} {k : Int32 → rv_W → rv_R} {k0 : Int32 → rv_W → rv_R} {w : rv_W} (h : rv_un x x0 w) (hk : ∀ r u, rv_un (k r w) (k0 r u) w) : rv_un (rv_bd x k) (rv_bd x0 k0) w := by
  unfold rv_un at *
  subst h
  cases x0 with
  | none => rfl
  | some q => exact hk q.1 q.2
theorem rv_un_if {c : Prop} [Decidable c] {a b a0 b0 : rv_R} {w : rv_W} (h1 : rv_un a a0 w) (h2 : rv_un b b0 w) : rv_un (if c then a else b) (if c then a0 else b0) w := by
  split
  · exact h1
  · exact h2
theorem rv_un_some {r : Int32} {w u : rv_W} : rv_un (some (r, w)) (some (r, u)) w := rfl
theorem rv_un_get {t t0 : rv_R} {w : rv_W} (h : rv_un t t0 w) (i : rv_is t0 = true) : t = some (rv_pu t0, w) := by
  unfold rv_un at h
  subst h
  cases t0 with
  | none => cases i
  | some q => rfl
theorem rv_fx_ind2 {α : Type} {bot : α} {F : α → α} (P : α → α → Prop) (h0 : P bot bot) (hs : ∀ a b, P a b → P (F a) (F b)) : ∀ n, P (rv_fx bot F n) (rv_fx bot F n)
  | 0 => h0
  | n + 1 => hs _ _ (rv_fx_ind2 P h0 hs n)
