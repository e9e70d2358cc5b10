/-! arguments -/
def ra_iv (x : Int32) (k : Nat) : Bool := decide (0 ≤ x.toInt ∧ x.toInt < (k : Int))
theorem ra_iv_get {x : Int32} {k : Nat} (h : ra_iv x k = true) : ∃ r, r < k ∧ x = Int32.ofNat r := by
  unfold ra_iv at h
  rw [decide_eq_true_eq] at h
  refine ⟨x.toInt.toNat, by omega, ?_⟩
  rw [← Int32.ofInt_eq_ofNat, show ((x.toInt.toNat : Nat) : Int) = x.toInt by omega, Int32.ofInt_toInt]
theorem ra_iv_nat {r k : Nat} (h : r < k) (hk : k ≤ 2147483648) : ra_iv (Int32.ofNat r) k = true := by
  unfold ra_iv
  rw [decide_eq_true_eq, rv_n_int (by omega)]
  omega
theorem ra_iv_nat' {r k : Nat} (hr : r < 2147483648) : ra_iv (Int32.ofNat r) k = decide (r < k) := by
  unfold ra_iv
  rw [rv_n_int hr]
  exact decide_eq_decide.mpr ⟨fun h => by omega, fun h => by omega⟩
theorem ra_0int : (0 : Int32).toInt = 0 := rfl
theorem ra_rng {x : Int32} {k : Nat} {w : rv_W} (hk : k < 2147483648) : (if x < 0 then some ((0 : Int32), w) else if x < Int32.ofNat k then some ((1 : Int32), w) else some ((0 : Int32), w)) = some (rv_b2 (ra_iv x k), w) := by
  unfold ra_iv
  by_cases h1 : x < 0
  · rw [if_pos h1]
    rw [Int32.lt_iff_toInt_lt, ra_0int] at h1
    rw [decide_eq_false (by omega)]; rfl
  · rw [if_neg h1]
    rw [Int32.lt_iff_toInt_lt, ra_0int] at h1
    by_cases h2 : x < Int32.ofNat k
    · rw [if_pos h2]
      rw [Int32.lt_iff_toInt_lt, rv_n_int hk] at h2
      rw [decide_eq_true (by omega)]; rfl
    · rw [if_neg h2]
      rw [Int32.lt_iff_toInt_lt, rv_n_int hk] at h2
      rw [decide_eq_false (by omega)]; rfl
theorem ra_isRule {x : Int32} {w : rv_W} : f_X10_isRule x w = some (rv_b2 (ra_iv x 12), w) := ra_rng (k := 12) (by decide)
theorem ra_exists {x : Int32} {w : rv_W} : f_X1_exists x w = some (rv_b2 (ra_iv x 5), w) := ra_rng (k := 5) (by decide)
theorem ra_gdb {b : Bool} {t : rv_R} : rv_gd (rv_b2 b = 0 ∨ rv_b2 b = 1) t = t := if_pos (by cases b <;> decide)
/-! the model's state: row t -/
/-- the state as it is now -/
def ra_Cur (s G : Nat) (n b : Nat → Nat) (w : rv_W) : Prop := rv_ST 1 s G n b w ∧ True
def ra_kp (w w' : rv_W) : Prop := ∀ c j, c < 24 → w' c j = w c j
theorem ra_Cur.kp {s G : Nat} {n b : Nat → Nat} {w w' : rv_W} (h : ra_Cur s G n b w) (k : ra_kp w w') : ra_Cur s G n b w' := ⟨h.1.fr (fun c j hc => k c j (by omega)), trivial⟩
/-- a question of the class -/
def ra_Sc (A : Nat → Nat → (Nat → Nat) → (Nat → Nat) → Int32) (fc : rv_W → rv_R) : Prop := ∀ s G n b w, ra_Cur s G n b w → rv_Rows w → rv_T (fc w) (fun v w' => v = A s G n b ∧ rv_fr 24 77 w w' ∧ rv_Rows w')
theorem rv_Row.fr {x : Nat → Nat → Nat} {w w' : rv_W} (h : rv_Row x w) (e : ∀ c j, 33 ≤ c → c ≤ 52 → w' c j = w c j) : rv_Row x w' := fun g hg k hk => by
  rw [e _ _ (by omega) (by omega)]
  exact h g hg k hk
theorem rv_Rows.fr {w w' : rv_W} (h : rv_Rows w) (e : ∀ c j, 33 ≤ c → c ≤ 52 → w' c j = w c j) : rv_Rows w' := by
  obtain ⟨x, h⟩ := h
  exact ⟨x, h.fr e⟩
theorem ra_PQ.rows {s : Nat} {n m : Nat → Nat} {w : rv_W} (h : ra_PQ s n m w) : rv_Rows w := by
  obtain ⟨r, x, h, -⟩ := h
  exact ⟨x, h.2.2.2.2.1⟩
theorem ra_fr_kp {w w' : rv_W} (h : rv_fr 24 77 w w') : ra_kp w w' := fun c j z => h c j (by omega)
theorem ra_stay {A v : Int32} {w : rv_W} {t : rv_R} (h : t = some (v, w)) (hv : v = A) (hr : rv_Rows w) : rv_T t (fun v w' => v = A ∧ rv_fr 24 77 w w' ∧ rv_Rows w') := rv_T_of h ⟨hv, rv_fr.refl, hr⟩
/-! what is cast -/
def ra_nn' (G : Nat) (n : Nat → Nat) : Nat → Nat := rv_cut 0 G n
theorem rv_PP.PQ {s G lo hi : Nat} {n b : Nat → Nat} {w : rv_W} (h : rv_PP s (rv_cut lo hi n) (rv_cut lo hi (fun g => rv_wi (b g) s)) w) (hn : ∀ g, g < G → n g ≤ 100 ∧ b g ∈ rv_B) (hhi : hi ≤ G) : ra_PQ s (rv_cut lo hi n) b w := by
  obtain ⟨x, h⟩ := h
  refine ⟨_, x, h, fun g _ => ?_, fun g _ hne => ?_⟩
  · unfold rv_cut
    split
    · exact (hn g (by omega)).1
    · exact Nat.zero_le _
  · unfold rv_cut at hne ⊢
    split at hne
    · rename_i q
      rw [if_pos q]
      exact ⟨(hn g (by omega)).2, rfl⟩
    · exact absurd rfl hne
theorem rv_ST.ok {k s G : Nat} {n b : Nat → Nat} {w : rv_W} (h : rv_ST k s G n b w) : ∀ g, g < G → n g ≤ 100 ∧ b g ∈ rv_B := fun g hg => ⟨(h.2.2.2.2 g hg).2.2.1.2, (h.2.2.2.2 g hg).2.2.2.1⟩
theorem ra_castGroups {s t G lo hi : Nat} {n b : Nat → Nat} {w : rv_W} (h : rv_ST 1 s G n b w) (ht : t < 32) (hr : rv_Rows w) (hlo : lo ≤ hi) (hhi : hi ≤ G) : rv_T (f_X10_castGroups (Int32.ofNat t) (Int32.ofNat lo) (Int32.ofNat hi) w) (fun _ w' => ra_PQ t (rv_cut lo hi n) b w' ∧ rv_fr 24 52 w w') :=
  (t_castGroups h ht hr hlo hhi).mono (fun _ _ z => ⟨z.1.PQ h.ok hhi, z.2⟩)
theorem ra_castAll {s G : Nat} {n b : Nat → Nat} {w : rv_W} (h : rv_ST 1 s G n b w) (hr : rv_Rows w) : rv_T (f_X10_castAll w) (fun _ w' => ra_PQ s (rv_cut 0 G n) b w' ∧ rv_fr 24 52 w w') :=
  (t_castAll h hr).mono (fun _ _ z => ⟨z.1.PQ h.ok (Nat.le_refl _), z.2⟩)
/-! what is loaded -/
theorem ra_ix7 {g k : Nat} : ((2 : Int32) + (7 : Int32) * Int32.ofNat g) + Int32.ofNat k = Int32.ofNat (2 + 7 * g + k) := by
  rw [Int32.ofNat_add, Int32.ofNat_add, Int32.ofNat_mul]; rfl
theorem ra_c852' {t : rv_R} : rv_ck (0 : Int32) 852 t = t := rv_n_ck (i := 0) (by decide) (by decide)
theorem ra_ln_ok {r k : Nat} (hr : r ∈ rv_B) (hk : k < 5) : (k < rv_ln r ↔ rv_at r k ≠ 0) ∧ rv_ln r ≤ 5 := by
  have := rv_all2 (p := fun r k => decide ((k < rv_ln r ↔ rv_at r k ≠ 0) ∧ rv_ln r ≤ 5)) (l := rv_B) (m := List.range 5) (by decide +kernel) hr (rv_rg hk)
  exact of_decide_eq_true this
theorem ra_q_ln {r c : Nat} (hr : r ∈ rv_B) (hc : c < 5) : rv_q r c < rv_ln r ∨ rv_q r c = 9 := by
  have := rv_all2 (p := fun r c => decide (rv_q r c < rv_ln r ∨ rv_q r c = 9)) (l := rv_B) (m := List.range 5) (by decide +kernel) hr (rv_rg hc)
  exact of_decide_eq_true this
