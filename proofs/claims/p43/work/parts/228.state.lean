/-! arguments -/
def ra_iv (x : Int32) (k : Nat) : Bool := decide (0 ≤ x.toInt ∧ x.toInt < (k : Int))
theorem ra_iv_get {x : Int32} {k : Nat} (h : ra_iv x k = true) : ∃ r, r < k ∧ x = Int32.ofNat r := by
  unfold ra_iv at h
  rw [decide_eq_true_eq] at h
  refine ⟨x.toInt.toNat, by omega, ?_⟩
  rw [← Int32.ofInt_eq_ofNat, show ((x.toInt.toNat : Nat) : Int) = x.toInt by omega, Int32.ofInt_toInt]
theorem ra_iv_nat {r k : Nat} (h : r < k) (hk : k ≤ 2147483648) : ra_iv (Int32.ofNat r) k = true := by
  unfold ra_iv
  rw [decide_eq_true_eq, rv_n_int (by omega)]
  omega
theorem ra_iv_nat' {r k : Nat} (hr : r < 2147483648) : ra_iv (Int32.ofNat r) k = decide (r < k) := by
  unfold ra_iv
  rw [rv_n_int hr]
  exact decide_eq_decide.mpr ⟨fun h => by omega, fun h => by omega⟩
theorem ra_0int : (0 : Int32).toInt = 0 := rfl
theorem ra_rng {x : Int32} {k : Nat} {w : rv_W} (hk : k < 2147483648) : (if x < 0 then some ((0 : Int32), w) else if x < Int32.ofNat k then some ((1 : Int32), w) else some ((0 : Int32), w)) = some (rv_b2 (ra_iv x k), w) := by
  unfold ra_iv
  by_cases h1 : x < 0
  · rw [if_pos h1]
    rw [Int32.lt_iff_toInt_lt, ra_0int] at h1
    rw [decide_eq_false (by omega)]; rfl
  · rw [if_neg h1]
    rw [Int32.lt_iff_toInt_lt, ra_0int] at h1
    by_cases h2 : x < Int32.ofNat k
    · rw [if_pos h2]
      rw [Int32.lt_iff_toInt_lt, rv_n_int hk] at h2
      rw [decide_eq_true (by omega)]; rfl
    · rw [if_neg h2]
      rw [Int32.lt_iff_toInt_lt, rv_n_int hk] at h2
      rw [decide_eq_false (by omega)]; rfl
theorem ra_isRule {x : Int32} {w : rv_W} : f_X10_isRule x w = some (rv_b2 (ra_iv x 12), w) := ra_rng (k := 12) (by decide)
theorem ra_exists {x : Int32} {w : rv_W} : f_X1_exists x w = some (rv_b2 (ra_iv x 5), w) := ra_rng (k := 5) (by decide)
theorem ra_gdb {b : Bool} {t : rv_R} : rv_gd (rv_b2 b = 0 ∨ rv_b2 b = 1) t = t := if_pos (by cases b <;> decide)
/-! the model's state: row t -/
def ra_MR (t s G : Nat) (n b : Nat → Nat) (w : rv_W) : Prop := w 79 (142 * t) = Int32.ofNat G ∧ w 79 (142 * t + 1) = Int32.ofNat s ∧ ∀ g, g < G → w 79 (142 * t + 2 + 7 * g) = Int32.ofNat (n g) ∧ w 79 (142 * t + 2 + 7 * g + 1) = Int32.ofNat (rv_ln (b g)) ∧ ∀ k, k < 5 → k < rv_ln (b g) → w 79 (142 * t + 2 + 7 * g + 2 + k) = Int32.ofNat (rv_at (b g) k - 1)
theorem ra_MR.fr {t s G : Nat} {n b : Nat → Nat} {w w' : rv_W} (h : ra_MR t s G n b w) (e : ∀ j, w' 79 j = w 79 j) : ra_MR t s G n b w' := by
  obtain ⟨h1, h2, h3⟩ := h
  refine ⟨by rw [e, h1], by rw [e, h2], fun g hg => ?_⟩
  obtain ⟨g1, g2, g3⟩ := h3 g hg
  exact ⟨by rw [e, g1], by rw [e, g2], fun k hk hl => by rw [e, g3 k hk hl]⟩
/-- the state as it is now, in both -/
def ra_Cur (s G : Nat) (n b : Nat → Nat) (w : rv_W) : Prop := rv_ST 1 s G n b w ∧ ra_MR 0 s G n b w
def ra_hist (w : rv_W) : Prop := ∃ (K : Nat) (h : Nat → Nat), K ≤ 5 ∧ w 0 2 = Int32.ofNat K ∧ w 78 1 = Int32.ofNat K ∧ (∀ i, i < 5 → h i ∈ [5, 8, 11, 14, 17] ∧ w 4 i = Int32.ofNat (h i)) ∧ (∀ i j, i < 5 → j < 5 → h i = h j → i = j) ∧ ∀ i, i < K → ∃ s G n b, rv_ST (h i) s G n b w ∧ ra_MR (i + 1) s G n b w
def ra_text (w : rv_W) : Prop := ∃ (L : Nat) (x : Nat → Nat), L ≤ 100 ∧ w 20 0 = Int32.ofNat L ∧ w 78 3 = Int32.ofNat L ∧ ∀ i, i < L → x i < 256 ∧ w 21 i = Int32.ofNat (x i) ∧ w 80 i = Int32.ofNat (x i)
def ra_Inv (w : rv_W) : Prop := (∃ s G n b, ra_Cur s G n b w) ∧ ra_hist w ∧ ra_text w ∧ rv_Rows w
def ra_kp (w w' : rv_W) : Prop := ∀ c j, (c < 24 ∨ c = 79 ∨ c = 80 ∨ (c = 78 ∧ (j = 1 ∨ j = 3))) → w' c j = w c j
theorem ra_Cur.kp {s G : Nat} {n b : Nat → Nat} {w w' : rv_W} (h : ra_Cur s G n b w) (k : ra_kp w w') : ra_Cur s G n b w' := ⟨h.1.fr (fun c j hc => k c j (by omega)), h.2.fr (fun j => k 79 j (by omega))⟩
theorem ra_hist.kp {w w' : rv_W} (h : ra_hist w) (k : ra_kp w w') : ra_hist w' := by
  obtain ⟨K, hh, h1, h2, h3, h4, h5, h6⟩ := h
  refine ⟨K, hh, h1, by rw [k _ _ (by omega), h2], by rw [k _ _ (by omega), h3], fun i hi => ⟨(h4 i hi).1, by rw [k _ _ (by omega), (h4 i hi).2]⟩, h5, fun i hi => ?_⟩
  obtain ⟨s, G, n, b, g1, g2⟩ := h6 i hi
  have hm := (h4 i (by omega)).1
  simp only [List.mem_cons, List.not_mem_nil, or_false] at hm
  exact ⟨s, G, n, b, g1.fr (fun c j hc => k c j (by omega)), g2.fr (fun j => k 79 j (by omega))⟩
theorem ra_text.kp {w w' : rv_W} (h : ra_text w) (k : ra_kp w w') : ra_text w' := by
  obtain ⟨L, x, h1, h2, h3, h4⟩ := h
  exact ⟨L, x, h1, by rw [k _ _ (by omega), h2], by rw [k _ _ (by omega), h3], fun i hi => ⟨(h4 i hi).1, by rw [k _ _ (by omega), (h4 i hi).2.1], by rw [k _ _ (by omega), (h4 i hi).2.2]⟩⟩
theorem ra_Inv.kp {w w' : rv_W} (h : ra_Inv w) (k : ra_kp w w') (r : rv_Rows w') : ra_Inv w' := by
  obtain ⟨⟨s, G, n, b, h1⟩, h2, h3, -⟩ := h
  exact ⟨⟨s, G, n, b, h1.kp k⟩, h2.kp k, h3.kp k, r⟩
theorem rv_Row.fr {x : Nat → Nat → Nat} {w w' : rv_W} (h : rv_Row x w) (e : ∀ c j, 33 ≤ c → c ≤ 52 → w' c j = w c j) : rv_Row x w' := fun g hg k hk => by
  rw [e _ _ (by omega) (by omega)]
  exact h g hg k hk
theorem rv_Rows.fr {w w' : rv_W} (h : rv_Rows w) (e : ∀ c j, 33 ≤ c → c ≤ 52 → w' c j = w c j) : rv_Rows w' := by
  obtain ⟨x, h⟩ := h
  exact ⟨x, h.fr e⟩
theorem ra_PQ.rows {s : Nat} {n m : Nat → Nat} {w : rv_W} (h : ra_PQ s n m w) : rv_Rows w := by
  obtain ⟨r, x, h, -⟩ := h
  exact ⟨x, h.2.2.2.2.1⟩
/-- the model's frame of a question -/
def ra_f9 (w w' : rv_W) : Prop := ∀ c j, ¬ (81 ≤ c ∨ (c = 78 ∧ j ≠ 1 ∧ j ≠ 3)) → w' c j = w c j
theorem ra_f9.refl {w : rv_W} : ra_f9 w w := fun _ _ _ => rfl
theorem ra_f9.trans {w w' w'' : rv_W} (h : ra_f9 w w') (h2 : ra_f9 w' w'') : ra_f9 w w'' := fun c j z => (h2 c j z).trans (h c j z)
theorem ra_f8.f9 {w w' : rv_W} (h : ra_f8 w w') : ra_f9 w w' := fun c j z => h c j (by omega)
theorem ra_fm.f9 {w w' : rv_W} (h : ra_fm w w') : ra_f9 w w' := fun c j z => h c j (by omega)
theorem ra_f9.kp {w w' : rv_W} (h : ra_f9 w w') : ra_kp w w' := fun c j z => h c j (by omega)
theorem ra_fr_kp {w w' : rv_W} (h : rv_fr 24 77 w w') : ra_kp w w' := fun c j z => h c j (by omega)
/-- a question, asked of both -/
theorem ra_ask {s G : Nat} {n b : Nat → Nat} {A : Int32} {w : rv_W} {fc fm : rv_W → rv_R} (h : ra_Inv w) (hC : ra_Cur s G n b w) (hc : rv_T (fc w) (fun v w' => v = A ∧ rv_fr 24 77 w w' ∧ rv_Rows w')) (hm : ∀ w1, ra_Cur s G n b w1 → rv_T (fm w1) (fun v w' => v = A ∧ ra_f9 w1 w')) : rv_T (fc w) (fun v w1 => rv_T (fm w1) (fun v2 w2 => v = v2 ∧ ra_Inv w2)) := by
  refine hc.mono (fun v w1 ⟨hv, hf, hr⟩ => ?_)
  have hk := ra_fr_kp hf
  refine (hm w1 (hC.kp hk)).mono (fun v2 w2 ⟨hv2, hf2⟩ => ⟨by rw [hv, hv2], ?_⟩)
  refine h.kp (fun c j z => ?_) (hr.fr (fun c j _ _ => hf2 c j (by omega)))
  rw [hf2.kp c j z, hk c j z]
theorem ra_stay {A v : Int32} {w : rv_W} {t : rv_R} (h : t = some (v, w)) (hv : v = A) (hr : rv_Rows w) : rv_T t (fun v w' => v = A ∧ rv_fr 24 77 w w' ∧ rv_Rows w') := rv_T_of h ⟨hv, rv_fr.refl, hr⟩
theorem ra_mstay {A v : Int32} {w : rv_W} {t : rv_R} (h : t = some (v, w)) (hv : v = A) : rv_T t (fun v w' => v = A ∧ ra_f9 w w') := rv_T_of h ⟨hv, ra_f9.refl⟩
/-! what is cast -/
def ra_nn' (G : Nat) (n : Nat → Nat) : Nat → Nat := rv_cut 0 G n
theorem rv_PP.PQ {s G lo hi : Nat} {n b : Nat → Nat} {w : rv_W} (h : rv_PP s (rv_cut lo hi n) (rv_cut lo hi (fun g => rv_wi (b g) s)) w) (hn : ∀ g, g < G → n g ≤ 100 ∧ b g ∈ rv_B) (hhi : hi ≤ G) : ra_PQ s (rv_cut lo hi n) b w := by
  obtain ⟨x, h⟩ := h
  refine ⟨_, x, h, fun g _ => ?_, fun g _ hne => ?_⟩
  · unfold rv_cut
    split
    · exact (hn g (by omega)).1
    · exact Nat.zero_le _
  · unfold rv_cut at hne ⊢
    split at hne
    · rename_i q
      rw [if_pos q]
      exact ⟨(hn g (by omega)).2, rfl⟩
    · exact absurd rfl hne
theorem rv_ST.ok {k s G : Nat} {n b : Nat → Nat} {w : rv_W} (h : rv_ST k s G n b w) : ∀ g, g < G → n g ≤ 100 ∧ b g ∈ rv_B := fun g hg => ⟨(h.2.2.2.2 g hg).2.2.1.2, (h.2.2.2.2 g hg).2.2.2.1⟩
theorem ra_castGroups {s t G lo hi : Nat} {n b : Nat → Nat} {w : rv_W} (h : rv_ST 1 s G n b w) (ht : t < 32) (hr : rv_Rows w) (hlo : lo ≤ hi) (hhi : hi ≤ G) : rv_T (f_X10_castGroups (Int32.ofNat t) (Int32.ofNat lo) (Int32.ofNat hi) w) (fun _ w' => ra_PQ t (rv_cut lo hi n) b w' ∧ rv_fr 24 52 w w') :=
  (t_castGroups h ht hr hlo hhi).mono (fun _ _ z => ⟨z.1.PQ h.ok hhi, z.2⟩)
theorem ra_castAll {s G : Nat} {n b : Nat → Nat} {w : rv_W} (h : rv_ST 1 s G n b w) (hr : rv_Rows w) : rv_T (f_X10_castAll w) (fun _ w' => ra_PQ s (rv_cut 0 G n) b w' ∧ rv_fr 24 52 w w') :=
  (t_castAll h hr).mono (fun _ _ z => ⟨z.1.PQ h.ok (Nat.le_refl _), z.2⟩)
/-! what is loaded -/
theorem ra_ix7 {g k : Nat} : ((2 : Int32) + (7 : Int32) * Int32.ofNat g) + Int32.ofNat k = Int32.ofNat (2 + 7 * g + k) := by
  rw [Int32.ofNat_add, Int32.ofNat_add, Int32.ofNat_mul]; rfl
theorem ra_c852' {t : rv_R} : rv_ck (0 : Int32) 852 t = t := rv_n_ck (i := 0) (by decide) (by decide)
theorem ra_ln_ok {r k : Nat} (hr : r ∈ rv_B) (hk : k < 5) : (k < rv_ln r ↔ rv_at r k ≠ 0) ∧ rv_ln r ≤ 5 := by
  have := rv_all2 (p := fun r k => decide ((k < rv_ln r ↔ rv_at r k ≠ 0) ∧ rv_ln r ≤ 5)) (l := rv_B) (m := List.range 5) (by decide +kernel) hr (rv_rg hk)
  exact of_decide_eq_true this
theorem ra_q_ln {r c : Nat} (hr : r ∈ rv_B) (hc : c < 5) : rv_q r c < rv_ln r ∨ rv_q r c = 9 := by
  have := rv_all2 (p := fun r c => decide (rv_q r c < rv_ln r ∨ rv_q r c = 9)) (l := rv_B) (m := List.range 5) (by decide +kernel) hr (rv_rg hc)
  exact of_decide_eq_true this
/-- the model's frame of a rule applied to the state -/
def ra_fn (w w' : rv_W) : Prop := ∀ c j, ¬ ((81 ≤ c ∧ c ≤ 92) ∨ (c = 78 ∧ (j = 6 ∨ j = 15 ∨ j = 17 ∨ j = 19))) → w' c j = w c j
theorem ra_fn.f9 {w w' : rv_W} (h : ra_fn w w') : ra_f9 w w' := fun c j z => h c j (by omega)
theorem ra_fn.refl {w : rv_W} : ra_fn w w := fun _ _ _ => rfl
theorem ra_fn.trans {w w' w'' : rv_W} (h : ra_fn w w') (h2 : ra_fn w' w'') : ra_fn w w'' := fun c j z => (h2 c j z).trans (h c j z)
theorem ra_f8.fn {w w' : rv_W} (h : ra_f8 w w') : ra_fn w w' := fun c j z => h c j (by omega)
