/-! ranked pairs: bits of an int -/
def ra_gb (x : Int32) (k : Nat) : Bool := x.toBitVec.getLsbD k
theorem ra_gb_0 {k : Nat} : ra_gb 0 k = false := by
  unfold ra_gb
  show (0#32).getLsbD k = false
  simp
theorem ra_bv1 {y : BitVec 32} : (y &&& 1#32 = 0#32) ↔ y.getLsbD 0 = false := by
  refine ⟨fun h => ?_, fun h => ?_⟩
  · have := congrArg (fun z => z.getLsbD 0) h
    simpa using this
  · refine BitVec.eq_of_getLsbD_eq (fun i hi => ?_)
    by_cases q : i = 0
    · subst q; rw [BitVec.getLsbD_and, h, Bool.false_and]; simp
    · simp [BitVec.getLsbD_one, q]
theorem ra_gb_t {x : Int32} {k : Nat} (hk : k < 25) : ((((x.toUInt32 >>> ((Int32.ofNat k).toUInt32 &&& Int32.toUInt32 31)).toInt32) &&& (1 : Int32)) = 0) = (ra_gb x k = false) := by
  have h1 : ((Int32.ofNat k).toUInt32 &&& Int32.toUInt32 31) = UInt32.ofNat k := of_decide_eq_true (List.all_eq_true.mp (by decide +kernel : ((List.range 25).all fun k => decide (((Int32.ofNat k).toUInt32 &&& Int32.toUInt32 31) = UInt32.ofNat k)) = true) k (rv_rg hk))
  have h2 : ((UInt32.ofNat k).toBitVec % 32).toNat = k := of_decide_eq_true (List.all_eq_true.mp (by decide +kernel : ((List.range 25).all fun k => decide (((UInt32.ofNat k).toBitVec % 32).toNat = k)) = true) k (rv_rg hk))
  rw [h1, ← Int32.toBitVec_inj, Int32.toBitVec_and, UInt32.toBitVec_toInt32, UInt32.toBitVec_shiftRight, Int32.toBitVec_toUInt32, BitVec.ushiftRight_eq']
  rw [h2]
  unfold ra_gb
  refine propext (Iff.trans (ra_bv1 (y := x.toBitVec >>> k)) ?_)
  rw [BitVec.getLsbD_ushiftRight, Nat.add_zero]
theorem ra_gb_or {x : Int32} {j k : Nat} (hj : j < 25) (hk : k < 25) : ra_gb (x ||| ((1 : Int32) <<< (Int32.ofNat k &&& 31))) j = (ra_gb x j || j == k) := by
  have h1 : ra_gb ((1 : Int32) <<< (Int32.ofNat k &&& 31)) j = (j == k) := eq_of_beq (rv_all2 (p := fun j k => ra_gb ((1 : Int32) <<< (Int32.ofNat k &&& 31)) j == (j == k)) (l := List.range 25) (m := List.range 25) (by decide +kernel) (rv_rg hj) (rv_rg hk))
  rw [← h1]
  unfold ra_gb
  rw [Int32.toBitVec_or, BitVec.getLsbD_or]
/-! what is locked, what comes -/
abbrev ra_Z : Type := (Nat → Nat → Bool) × (Nat → Nat → Bool)
def ra_z0 : ra_Z := (fun _ _ => false, fun _ _ => false)
def ra_lk (z : ra_Z) (k : Nat) : ra_Z := if z.2 (k % 5) (k / 5) = true then z else (fun x y => z.1 x y || (x == k / 5 && y == k % 5), fun x y => z.2 x y || ((x == k / 5 || z.2 x (k / 5)) && (y == k % 5 || z.2 (k % 5) y)))
/-- the leads; the pairs from a place on, in their order -/
def ra_ld2 (p : Nat → Nat → Nat) (k : Nat) : Nat := p (k / 5) (k % 5) - p (k % 5) (k / 5)
def ra_r1 (f : Nat → Nat) (L : Nat) : Nat → List Nat
  | 0 => []
  | j + 1 => if f (24 - j) = L then (24 - j) :: ra_r1 f L j else ra_r1 f L j
def ra_r2 (f : Nat → Nat) : Nat → List Nat
  | 0 => []
  | L + 1 => ra_r1 f (L + 1) 25 ++ ra_r2 f L
theorem ra_r1_s {f : Nat → Nat} {L j : Nat} : ra_r1 f L (j + 1) = if f (24 - j) = L then (24 - j) :: ra_r1 f L j else ra_r1 f L j := rfl
theorem ra_r1_mem {f : Nat → Nat} {L j k : Nat} (hj : j ≤ 25) : k ∈ ra_r1 f L j ↔ 25 - j ≤ k ∧ k < 25 ∧ f k = L := by
  induction j with
  | zero => exact ⟨fun h => (by cases h), fun h => by omega⟩
  | succ j ih =>
    rw [ra_r1_s]
    have := ih (by omega)
    by_cases q : f (24 - j) = L
    · rw [if_pos q, List.mem_cons, this]
      refine ⟨fun h => ?_, fun h => ?_⟩
      · rcases h with h | h
        · subst h; exact ⟨by omega, by omega, q⟩
        · exact ⟨by omega, h.2⟩
      · by_cases q2 : k = 24 - j
        · exact Or.inl q2
        · exact Or.inr ⟨by omega, h.2⟩
    · rw [if_neg q, this]
      refine ⟨fun h => ⟨by omega, h.2⟩, fun h => ⟨?_, h.2⟩⟩
      by_cases q2 : k = 24 - j
      · subst q2; exact absurd h.2.2 q
      · omega
theorem ra_r2_mem {f : Nat → Nat} {L k : Nat} : k ∈ ra_r2 f L ↔ k < 25 ∧ 0 < f k ∧ f k ≤ L := by
  induction L with
  | zero => exact ⟨fun h => (by cases h), fun h => by omega⟩
  | succ L ih =>
    rw [ra_r2, List.mem_append, ra_r1_mem (Nat.le_refl _), ih]
    refine ⟨fun h => by omega, fun h => ?_⟩
    by_cases q : f k = L + 1
    · exact Or.inl (by omega)
    · exact Or.inr (by omega)
def ra_pr (f : Nat → Nat) (i j : Nat) : Prop := f j < f i ∨ (f i = f j ∧ i < j)
theorem ra_r1_pw {f : Nat → Nat} {L j : Nat} (hj : j ≤ 25) : (ra_r1 f L j).Pairwise (ra_pr f) := by
  induction j with
  | zero => exact List.Pairwise.nil
  | succ j ih =>
    rw [ra_r1_s]
    split
    · rename_i q
      refine List.Pairwise.cons (fun k hk => ?_) (ih (by omega))
      have := (ra_r1_mem (by omega)).mp hk
      exact Or.inr ⟨by omega, by omega⟩
    · exact ih (by omega)
theorem ra_r2_pw {f : Nat → Nat} {L : Nat} : (ra_r2 f L).Pairwise (ra_pr f) := by
  induction L with
  | zero => exact List.Pairwise.nil
  | succ L ih =>
    rw [ra_r2, List.pairwise_append]
    refine ⟨ra_r1_pw (Nat.le_refl _), ih, fun i hi j hj => ?_⟩
    have h1 := (ra_r1_mem (Nat.le_refl _)).mp hi
    have h2 := ra_r2_mem.mp hj
    exact Or.inl (by omega)
/-- how all ends -/
def ra_zf (p : Nat → Nat → Nat) (N : Nat) : ra_Z := (ra_r2 (ra_ld2 p) N).foldl ra_lk ra_z0
def ra_rw (s : Nat) (z : ra_Z) : Nat := rv_ms 5 (fun a => rv_hs s a && rv_al 5 (fun b => !z.1 b a))
def ra_ok (z : ra_Z) : Prop := (∀ x, z.2 x x = false) ∧ (∀ x y v, z.2 x y = true → z.2 y v = true → z.2 x v = true) ∧ ∀ x y, z.1 x y = true → z.2 x y = true
theorem ra_ok_lk {z : ra_Z} {k : Nat} (h : ra_ok z) (hk : k / 5 ≠ k % 5) : ra_ok (ra_lk z k) := by
  unfold ra_lk
  by_cases q : z.2 (k % 5) (k / 5) = true
  · rw [if_pos q]; exact h
  · rw [if_neg q]
    obtain ⟨h1, h2, h3⟩ := h
    have no : ∀ y, (y = k / 5 ∨ z.2 y (k / 5) = true) → (y = k % 5 ∨ z.2 (k % 5) y = true) → False := fun y e1 e2 => by
      rcases e1 with e1 | e1 <;> rcases e2 with e2 | e2
      · exact hk (e1.symm.trans e2)
      · rw [e1] at e2; exact q e2
      · rw [e2] at e1; exact q e1
      · exact q (h2 _ _ _ e2 e1)
    refine ⟨fun x => ?_, fun x y v e1 e2 => ?_, fun x y e => ?_⟩
    · rw [Bool.eq_false_iff]
      intro e
      simp only [Bool.or_eq_true, Bool.and_eq_true, beq_iff_eq] at e
      rcases e with e | e
      · rw [h1] at e; cases e
      · exact no x e.1 e.2
    · simp only [Bool.or_eq_true, Bool.and_eq_true, beq_iff_eq] at e1 e2 ⊢
      rcases e1 with e1 | ⟨e1, e1'⟩ <;> rcases e2 with e2 | ⟨e2, e2'⟩
      · exact Or.inl (h2 _ _ _ e1 e2)
      · refine Or.inr ⟨Or.inr ?_, e2'⟩
        rcases e2 with e2 | e2
        · rw [← e2]; exact e1
        · exact h2 _ _ _ e1 e2
      · refine Or.inr ⟨e1, Or.inr ?_⟩
        rcases e1' with e1' | e1'
        · rw [← e1']; exact e2
        · exact h2 _ _ _ e1' e2
      · exact absurd (no y e2 e1') (fun z => z)
    · simp only [Bool.or_eq_true, Bool.and_eq_true, beq_iff_eq] at e ⊢
      rcases e with e | e
      · exact Or.inl (h3 _ _ e)
      · exact Or.inr ⟨Or.inl e.1, Or.inl e.2⟩
theorem ra_ld2_ne {p : Nat → Nat → Nat} {k : Nat} (h : 0 < ra_ld2 p k) : k / 5 ≠ k % 5 := fun z => by
  unfold ra_ld2 at h
  rw [z] at h
  omega
theorem ra_ok_fold {p : Nat → Nat → Nat} {l : List Nat} {z : ra_Z} (h : ra_ok z) (hl : ∀ k, k ∈ l → 0 < ra_ld2 p k) : ra_ok (l.foldl ra_lk z) := by
  induction l generalizing z with
  | nil => exact h
  | cons k l ih => exact ih (ra_ok_lk h (ra_ld2_ne (hl k List.mem_cons_self))) (fun j hj => hl j (List.mem_cons_of_mem _ hj))
theorem ra_ok_zf {p : Nat → Nat → Nat} {N : Nat} : ra_ok (ra_zf p N) :=
  ra_ok_fold ⟨fun _ => rfl, fun _ _ _ h => (by cases h), fun _ _ h => (by cases h)⟩ (fun _ hk => (ra_r2_mem.mp hk).2.1)
theorem ra_rw_ne {s N : Nat} {p : Nat → Nat → Nat} (hs : s < 32) (h0 : s ≠ 0) (hp : ∀ a b, p a b ≤ N) (hoff : ∀ a b, rv_hs s a = false → p a b = 0) : ra_rw s (ra_zf p N) ≠ 0 := by
  have hok := @ra_ok_zf p N
  have hl : ∀ (l : List Nat) (z : ra_Z), (∀ a b, a < 5 → b < 5 → z.1 a b = true → rv_hs s a = true) → (∀ k, k ∈ l → k < 25 ∧ 0 < ra_ld2 p k) → ∀ a b, a < 5 → b < 5 → (l.foldl ra_lk z).1 a b = true → rv_hs s a = true := by
    intro l
    induction l with
    | nil => intro z h _; exact h
    | cons k l ih =>
      intro z h hk
      refine ih (ra_lk z k) (fun a b ha hb e => ?_) (fun j hj => hk j (List.mem_cons_of_mem _ hj))
      unfold ra_lk at e
      by_cases q : z.2 (k % 5) (k / 5) = true
      · rw [if_pos q] at e; exact h a b ha hb e
      · rw [if_neg q] at e
        simp only [Bool.or_eq_true, Bool.and_eq_true, beq_iff_eq] at e
        rcases e with e | e
        · exact h a b ha hb e
        · have hk' := (hk k List.mem_cons_self).2
          cases z2 : rv_hs s a
          · unfold ra_ld2 at hk'
            rw [← e.1, hoff a _ z2] at hk'
            omega
          · rfl
  obtain ⟨a, ha, hsa, h⟩ := ra_src (R := (ra_zf p N).2) hs h0 (fun a _ => hok.1 a) (fun a b c _ _ _ h1 h2 => hok.2.1 a b c h1 h2)
  refine ra_ms_ne ha ?_
  rw [hsa, Bool.true_and, rv_al_iff]
  intro b hb
  cases e : (ra_zf p N).1 b a
  · rfl
  · have hsb := hl (ra_r2 (ra_ld2 p) N) ra_z0 (fun _ _ _ _ h => (by cases h)) (fun k hk => ⟨(ra_r2_mem.mp hk).1, (ra_r2_mem.mp hk).2.1⟩) b a hb ha e
    have := hok.2.2 b a e
    rw [h b hb hsb] at this
    cases this
/-! the class -/
def ra_cp (f : Nat → Nat) (g : Nat → Bool) : Nat → Nat × Nat
  | 0 => (25, 0)
  | k + 1 => if (ra_cp f g k).2 < f k ∧ g k = false then (k, f k) else ra_cp f g k
theorem ra_cp_s {f : Nat → Nat} {g : Nat → Bool} {k : Nat} : ra_cp f g (k + 1) = if (ra_cp f g k).2 < f k ∧ g k = false then (k, f k) else ra_cp f g k := rfl
theorem ra_cp_ok {f : Nat → Nat} {g : Nat → Bool} {k : Nat} (hk : k ≤ 25) : (ra_cp f g k = (25, 0) ∧ ∀ j, j < k → 0 < f j → g j = true) ∨ ((ra_cp f g k).1 < k ∧ g (ra_cp f g k).1 = false ∧ (ra_cp f g k).2 = f (ra_cp f g k).1 ∧ 0 < (ra_cp f g k).2 ∧ ∀ j, j < k → g j = false → f j ≤ (ra_cp f g k).2 ∧ (f j = (ra_cp f g k).2 → (ra_cp f g k).1 ≤ j)) := by
  induction k with
  | zero => exact Or.inl ⟨rfl, fun j hj => by omega⟩
  | succ k ih =>
    rw [ra_cp_s]
    have ih := ih (by omega)
    by_cases q : (ra_cp f g k).2 < f k ∧ g k = false
    · rw [if_pos q]
      refine Or.inr ⟨by dsimp only; omega, q.2, rfl, by dsimp only; omega, fun j hj hg => ?_⟩
      dsimp only
      by_cases z : j = k
      · subst z; exact ⟨Nat.le_refl _, fun _ => Nat.le_refl _⟩
      · rcases ih with ih | ih
        · have : ¬ 0 < f j := fun e => by rw [ih.2 j (by omega) e] at hg; cases hg
          exact ⟨by omega, fun e => by omega⟩
        · have := ih.2.2.2.2 j (by omega) hg
          exact ⟨by omega, fun e => by omega⟩
    · rw [if_neg q]
      rcases ih with ih | ih
      · refine Or.inl ⟨ih.1, fun j hj h0 => ?_⟩
        by_cases z : j = k
        · subst z
          rw [ih.1] at q
          cases e : g j
          · exact absurd ⟨h0, e⟩ q
          · rfl
        · exact ih.2 j (by omega) h0
      · refine Or.inr ⟨by omega, ih.2.1, ih.2.2.1, ih.2.2.2.1, fun j hj hg => ?_⟩
        by_cases z : j = k
        · subst z
          refine ⟨?_, fun _ => by omega⟩
          have : ¬ (ra_cp f g j).2 < f j := fun e => q ⟨e, hg⟩
          omega
        · exact ih.2.2.2.2 j (by omega) hg
theorem ra_leadlt {x y z : Nat} (hx : x ≤ 2000) (hy : y ≤ 2000) (hz : z ≤ 2000) : (Int32.ofNat z < Int32.ofNat x - Int32.ofNat y) = (z < x - y) := by
  rw [← Int32.ofInt_eq_ofNat, ← Int32.ofInt_eq_ofNat, ← Int32.ofInt_eq_ofNat, ← Int32.ofInt_sub, Int32.lt_iff_toInt_lt, Int32.toInt_ofInt_of_le (by omega) (by omega), Int32.toInt_ofInt_of_le (by omega) (by omega)]
  exact propext (by omega)
theorem ra_leadeq {x y z : Nat} (hx : x ≤ 2000) (hy : y ≤ 2000) (hz : z ≤ 2000) (h0 : 0 < z) : (Int32.ofNat x - Int32.ofNat y = Int32.ofNat z) = (x - y = z) := by
  rw [← Int32.ofInt_eq_ofNat, ← Int32.ofInt_eq_ofNat, ← Int32.ofInt_eq_ofNat, ← Int32.ofInt_sub, ← Int32.toInt_inj, Int32.toInt_ofInt_of_le (by omega) (by omega), Int32.toInt_ofInt_of_le (by omega) (by omega)]
  exact propext (by omega)
theorem ra_leadval {x y : Nat} (h : y < x) : Int32.ofNat x - Int32.ofNat y = Int32.ofNat (x - y) := (Int32.ofNat_sub _ _ (by omega)).symm
def ra_cpi (x : Nat) : Int32 := if x = 25 then -1 else Int32.ofNat x
theorem ra_clearest {s : Nat} {n m : Nat → Nat} {g : Int32} {w : rv_W} (h : ra_PQ s n m w) : f_X2_clearestPair g w = some (ra_cpi (ra_cp (ra_ld2 (ra_P s n m)) (ra_gb g) 25).1, w) := by
  have hN := h.sum
  have hle : ∀ a b, ra_P s n m a b ≤ 2000 := fun a b => Nat.le_trans ra_P_le hN
  have h2le : ∀ k, (ra_cp (ra_ld2 (ra_P s n m)) (ra_gb g) k).2 ≤ 2000 := fun k => by
    induction k with
    | zero => exact Nat.zero_le _
    | succ k ih =>
      rw [ra_cp_s]
      split
      · have := hle (k / 5) (k % 5)
        show ra_ld2 _ k ≤ 2000
        unfold ra_ld2
        omega
      · exact ih
  unfold f_X2_clearestPair
  refine rv_E2 5 (fun a => ra_cpi (ra_cp (ra_ld2 (ra_P s n m)) (ra_gb g) (5 * a)).1) (fun a => Int32.ofNat (ra_cp (ra_ld2 (ra_P s n m)) (ra_gb g) (5 * a)).2) (fun _ => w) _ _ _ rfl rfl rfl (fun ag a ha => ?_) (fun ag => ?_) (by decide)
  · simp only [rv_lt5 ha, if_true]
    refine rv_E2 5 (fun b => ra_cpi (ra_cp (ra_ld2 (ra_P s n m)) (ra_gb g) (5 * a + b)).1) (fun b => Int32.ofNat (ra_cp (ra_ld2 (ra_P s n m)) (ra_gb g) (5 * a + b)).2) (fun _ => w) _ _ _ rfl rfl rfl (fun ag2 b hb => ?_) (fun ag2 => ?_) (by decide)
    · have ek : Int32.ofNat a * 5 + Int32.ofNat b = Int32.ofNat (5 * a + b) := by
        rw [← ra_ix5, Int32.mul_comm]
      have l1 := hle a b
      have l2 := hle b a
      have l3 := h2le (5 * a + b)
      have hk : 5 * a + b < 25 := by omega
      have e1 : ra_ld2 (ra_P s n m) (5 * a + b) = ra_P s n m a b - ra_P s n m b a := by
        unfold ra_ld2
        rw [show (5 * a + b) / 5 = a by omega, show (5 * a + b) % 5 = b by omega]
      simp only [rv_lt5 hb, if_true, rv_ck5 ha, rv_ck5 hb, rv_nn5 ha, rv_nn5 hb, h.ab ha hb, h.ab hb ha, rv_lt, rv_n_succ, ek, ra_leadlt l1 l2 l3, ra_gb_t hk]
      have es := @ra_cp_s (ra_ld2 (ra_P s n m)) (ra_gb g) (5 * a + b)
      rw [e1] at es
      show _ = ag2 (ra_cpi (ra_cp _ _ (5 * a + b + 1)).1) (Int32.ofNat (ra_cp _ _ (5 * a + b + 1)).2) _ _
      by_cases q1 : (ra_cp (ra_ld2 (ra_P s n m)) (ra_gb g) (5 * a + b)).2 < ra_P s n m a b - ra_P s n m b a
      · by_cases q2 : ra_gb g (5 * a + b) = false
        · rw [if_pos ⟨q1, q2⟩] at es
          rw [if_pos q1, if_pos q2, es, ra_leadval (by omega)]
          unfold ra_cpi
          rw [if_neg (by dsimp only; omega)]
        · rw [if_neg (fun z => q2 z.2)] at es
          rw [if_pos q1, if_neg q2, es]
      · rw [if_neg (fun z => q1 z.1)] at es
        rw [if_neg q1, es]
    · simp only [rv_ge5, if_false, rv_lt, rv_n_succ]
      rw [show 5 * (a + 1) = 5 * a + 5 by omega]
  · rw [if_neg (by decide)]
/-- the class's rows 73 (locked) and 74 (reached) -/
def ra_zc (z : ra_Z) (w : rv_W) : Prop := ∀ a, a < 5 → (∃ t, w 73 a = Int32.ofNat t ∧ t < 32 ∧ ∀ b, b < 5 → rv_hs t b = z.1 a b) ∧ (∃ t, w 74 a = Int32.ofNat t ∧ t < 32 ∧ ∀ b, b < 5 → rv_hs t b = z.2 a b)
theorem e_exists {c : Nat} (hc : c < 5) (w : rv_W) : f_X1_exists (Int32.ofNat c) w = some (1, w) :=
  rv_un_eq un_X1_exists (List.all_eq_true.mp (by decide +kernel : ((List.range 5).all fun c => rv_eqr (f_X1_exists (Int32.ofNat c) rv_w0) 1) = true) c (rv_rg hc))
def ra_un (s t : Nat) : Nat := rv_ms 5 (fun c => rv_hs s c || rv_hs t c)
theorem e_or {s t : Nat} (hs : s < 32) (ht : t < 32) : Int32.ofNat s ||| Int32.ofNat t = Int32.ofNat (ra_un s t) :=
  of_decide_eq_true (rv_all2 (p := fun s t => decide (Int32.ofNat s ||| Int32.ofNat t = Int32.ofNat (ra_un s t))) (l := List.range 32) (m := List.range 32) (by decide +kernel) (rv_rg hs) (rv_rg ht))
theorem ra_un_lt {s t : Nat} : ra_un s t < 32 := rv_ms_lt
theorem ra_un_hs {s t c : Nat} (hc : c < 5) : rv_hs (ra_un s t) c = (rv_hs s c || rv_hs t c) := rv_ms_hs hc
theorem ra_un_hs' {s a c : Nat} (ha : a < 5) (hc : c < 5) : rv_hs (ra_un s (2 ^ a)) c = (rv_hs s c || c == a) := by
  rw [ra_un_hs hc, rv_hs_pow ha hc]
def ra_f2 (w w' : rv_W) : Prop := ∀ c j, c ≠ 73 → c ≠ 74 → w' c j = w c j
theorem ra_lock {k : Nat} {z : ra_Z} {w : rv_W} (hk : k < 25) (h : ra_zc z w) : rv_T (f_X2_lock (Int32.ofNat (k / 5)) (Int32.ofNat (k % 5)) w) (fun _ w' => ra_zc (ra_lk z k) w' ∧ ra_f2 w w') := by
  have ha : k / 5 < 5 := by omega
  have hb : k % 5 < 5 := by omega
  unfold f_X2_lock
  obtain ⟨⟨tl, hl1, hl2, hl3⟩, -⟩ := h (k / 5) ha
  obtain ⟨-, ⟨tb, hb1, hb2, hb3⟩⟩ := h (k % 5) hb
  simp only [e_exists ha, e_exists hb, rv_bd_some, rv_ck5 hb, rv_nn5 hb, hb1, e_hasb hb2 ha, rv_b2_0, hb3 _ ha, rv_ck5 ha, rv_nn5 ha, rv_up_same, rv_up_ne (show (74 : Nat) ≠ 73 by decide), hl1, rv_shl hb, e_or hl2 (rv_pow_lt hb), e_or hb2 (rv_pow_lt hb), rv_lt]
  rw [if_neg (by decide), if_neg (by decide)]
  unfold ra_lk
  by_cases q : z.2 (k % 5) (k / 5) = true
  · rw [if_pos q, if_neg (by rw [q]; decide)]
    exact rv_T_some.mpr ⟨h, fun _ _ _ _ => rfl⟩
  · have q' := Bool.eq_false_iff.mpr q
    rw [if_neg q, if_pos q']
    refine rv_T_for 5 (fun c w' => ra_f2 w w' ∧ (∀ a, a < 5 → ∃ t, w' 73 a = Int32.ofNat t ∧ t < 32 ∧ ∀ b, b < 5 → rv_hs t b = (z.1 a b || (a == k / 5 && b == k % 5))) ∧ ∀ a, a < 5 → ∃ t, w' 74 a = Int32.ofNat t ∧ t < 32 ∧ ∀ b, b < 5 → rv_hs t b = (z.2 a b || (decide (a < c) && ((a == k / 5 || z.2 a (k / 5)) && (b == k % 5 || z.2 (k % 5) b))))) (fun ag c w' hc hI qq => ?_) (by decide) 0 _ ⟨fun c j h1 h2 => rv_up_ne h1, fun a ha' => ?_, fun a ha' => ?_⟩ (by omega)
    · obtain ⟨hf, h73, h74⟩ := hI
      by_cases hc5 : c < 5
      · obtain ⟨t, ht1, ht2, ht3⟩ := h74 c hc5
        simp only [rv_lt5 hc5, if_true, rv_ck5 hc5, rv_nn5 hc5, rv_eq5 hc5 ha, ht1, e_hasb ht2 ha, rv_bd_some, rv_b2_0, e_or ht2 (ra_un_lt (s := tb) (t := 2 ^ (k % 5))), rv_lt, rv_jn, rv_n_succ]
        have e1 : rv_hs t (k / 5) = z.2 c (k / 5) := by rw [ht3 _ ha, decide_eq_false (Nat.lt_irrefl c), Bool.false_and, Bool.or_false]
        have hit : (c == k / 5 || z.2 c (k / 5)) = true → rv_T (ag (Int32.ofNat (c + 1)) (rv_up w' 74 c (Int32.ofNat (ra_un t (ra_un tb (2 ^ (k % 5))))))) (fun _ w' => ra_zc (fun x y => z.1 x y || (x == k / 5 && y == k % 5), fun x y => z.2 x y || ((x == k / 5 || z.2 x (k / 5)) && (y == k % 5 || z.2 (k % 5) y))) w' ∧ ra_f2 w w') := fun hh => by
          refine qq hc5 _ ⟨fun c' j h1 h2 => by rw [rv_up_ne h2, hf c' j h1 h2], fun a ha' => by rw [rv_up_ne (by decide)]; exact h73 a ha', fun a ha' => ?_⟩
          by_cases e : a = c
          · subst e
            refine ⟨_, rv_up_same, ra_un_lt, fun b hb' => ?_⟩
            rw [ra_un_hs hb', ht3 b hb', ra_un_hs' hb hb', hb3 b hb', hh, decide_eq_false (Nat.lt_irrefl a), decide_eq_true (Nat.lt_succ_self a)]
            simp [Bool.or_comm]
          · obtain ⟨t', h1, h2, h3⟩ := h74 a ha'
            refine ⟨t', by rw [rv_up_of (fun z => e z.2)]; exact h1, h2, fun b hb' => ?_⟩
            rw [h3 b hb', decide_eq_decide.mpr (show a < c + 1 ↔ a < c by omega)]
        by_cases e : c = k / 5
        · rw [if_pos e]
          exact hit (by rw [e]; simp)
        · rw [if_neg e, e1]
          cases e2 : z.2 c (k / 5)
          · rw [if_pos rfl]
            refine qq hc5 _ ⟨hf, h73, fun a ha' => ?_⟩
            obtain ⟨t', h1, h2, h3⟩ := h74 a ha'
            refine ⟨t', h1, h2, fun b hb' => ?_⟩
            rw [h3 b hb']
            by_cases e3 : a = c
            · subst e3
              rw [beq_false_of_ne e, e2]
              simp
            · rw [decide_eq_decide.mpr (show a < c + 1 ↔ a < c by omega)]
          · rw [if_neg (by decide)]
            exact hit (by rw [e2]; simp)
      · have : c = 5 := by omega
        subst this
        simp only [rv_ge5, if_false]
        refine rv_T_some.mpr ⟨fun a ha' => ⟨h73 a ha', ?_⟩, hf⟩
        obtain ⟨t, h1, h2, h3⟩ := h74 a ha'
        refine ⟨t, h1, h2, fun b hb' => ?_⟩
        rw [h3 b hb', decide_eq_true ha', Bool.true_and]
    · by_cases e : a = k / 5
      · subst e
        refine ⟨_, rv_up_same, ra_un_lt, fun b hb' => ?_⟩
        rw [ra_un_hs' hb hb', hl3 b hb']
        simp
      · obtain ⟨⟨t, h1, h2, h3⟩, -⟩ := h a ha'
        refine ⟨t, by rw [rv_up_of (fun z => e z.2)]; exact h1, h2, fun b hb' => ?_⟩
        rw [h3 b hb', beq_false_of_ne e]
        simp
    · obtain ⟨-, ⟨t, h1, h2, h3⟩⟩ := h a ha'
      refine ⟨t, by rw [rv_up_ne (by decide)]; exact h1, h2, fun b hb' => ?_⟩
      rw [h3 b hb', decide_eq_false (Nat.not_lt_zero a)]
      simp
theorem ra_cn_set {n k : Nat} {p q : Nat → Bool} (hk : k < n) (hp : p k = false) (hq : q k = true) (h : ∀ j, j < n → j ≠ k → q j = p j) : rv_cn n q = rv_cn n p + 1 := by
  induction n with
  | zero => omega
  | succ n ih =>
    rw [rv_cn_s, rv_cn_s]
    by_cases e : k = n
    · subst e
      rw [hp, hq, if_pos rfl, if_neg (by decide), rv_cn_congr (fun j hj => h j (by omega) (by omega))]
    · rw [ih (by omega) (fun j hj => h j (by omega)), h n (by omega) (fun z => e z.symm)]
      split <;> rfl
theorem ra_cn_lt {n k : Nat} {p : Nat → Bool} (hk : k < n) (hp : p k = false) : rv_cn n p < n := by
  have h1 := ra_cn_set (p := p) (q := fun j => p j || j == k) hk hp (by simp) (fun j _ hj => by rw [beq_false_of_ne hj, Bool.or_false])
  have h2 := @rv_cn_le n (fun j => p j || j == k)
  omega
theorem ra_lockPairs {s : Nat} {n m : Nat → Nat} {w : rv_W} (h : ra_PQ s n m w) : rv_T (f_X2_lockPairs w) (fun _ w' => ra_zc (ra_zf (ra_P s n m) (rv_sm 20 n)) w' ∧ ra_f2 w w') := by
  unfold f_X2_lockPairs
  refine rv_T_for 5 (fun a w' => ra_f2 w w' ∧ ∀ c, c < a → w' 73 c = 0 ∧ w' 74 c = 0) (fun ag a w' ha hI q => ?_) (by decide) 0 _ ⟨fun _ _ _ _ => rfl, fun c hc => by omega⟩ (by omega)
  obtain ⟨hf, hI⟩ := hI
  by_cases ha5 : a < 5
  · simp only [rv_lt5 ha5, if_true, rv_ck5 ha5, rv_nn5 ha5, rv_lt, rv_n_succ]
    refine q ha5 _ ⟨fun c j h1 h2 => by rw [rv_up_ne h2, rv_up_ne h1, hf c j h1 h2], fun c hc => ?_⟩
    by_cases e : c = a
    · subst e
      exact ⟨by rw [rv_up_ne (by decide), rv_up_same], rv_up_same⟩
    · obtain ⟨h1, h2⟩ := hI c (by omega)
      exact ⟨by rw [rv_up_ne (by decide), rv_up_of (fun z => e z.2), h1], by rw [rv_up_of (fun z => e z.2), rv_up_ne (by decide), h2]⟩
  · have : a = 5 := by omega
    subst this
    simp only [rv_ge5, if_false]
    have hz0 : ra_zc ra_z0 w' := fun a ha => ⟨⟨0, (hI a ha).1, by decide, fun b hb => by unfold rv_hs; simp [ra_z0]⟩, ⟨0, (hI a ha).2, by decide, fun b hb => by unfold rv_hs; simp [ra_z0]⟩⟩
    have hfin : ∀ k, k ∈ ra_r2 (ra_ld2 (ra_P s n m)) (rv_sm 20 n) ↔ k < 25 ∧ 0 < ra_ld2 (ra_P s n m) k := fun k => by
      rw [ra_r2_mem]
      refine ⟨fun z => ⟨z.1, z.2.1⟩, fun z => ⟨z.1, z.2, ?_⟩⟩
      have := @ra_P_le s (k / 5) (k % 5) n m
      unfold ra_ld2
      omega
    refine rv_T_for1 25 (fun t g w' => ra_f2 w w' ∧ ∃ (z : ra_Z) (l : List Nat), ra_zc z w' ∧ l.foldl ra_lk z = ra_zf (ra_P s n m) (rv_sm 20 n) ∧ l.Pairwise (ra_pr (ra_ld2 (ra_P s n m))) ∧ (∀ k, k ∈ l ↔ k < 25 ∧ 0 < ra_ld2 (ra_P s n m) k ∧ ra_gb g k = false) ∧ rv_cn 25 (ra_gb g) = t ∧ ∀ k, k < 25 → ra_gb g k = true → 0 < ra_ld2 (ra_P s n m) k) (fun ag t g w' ht hI q => ?_) (by decide) 0 _ _ ⟨hf, ra_z0, _, hz0, rfl, ra_r2_pw, fun k => by rw [hfin, ra_gb_0]; exact ⟨fun z => ⟨z.1, z.2, rfl⟩, fun z => ⟨z.1, z.2.1⟩⟩, by rw [rv_cn_congr (q := fun _ => false) (fun i _ => ra_gb_0)]; rfl, fun k _ hk => by rw [ra_gb_0] at hk; cases hk⟩ (by omega)
    obtain ⟨hf2, z, l, hz, hl, hpw, hmem, hcn, hpos⟩ := hI
    have hP : ra_PQ s n m w' := h.fr (fun c j _ _ => hf2 c j (by omega) (by omega))
    have h00 : ra_gb g 0 = false := by
      rw [Bool.eq_false_iff]
      intro e
      have := hpos 0 (by omega) e
      simp [ra_ld2] at this
    have ht25 : t < 25 := by
      rw [← hcn]; exact ra_cn_lt (k := 0) (by omega) h00
    simp only [rv_lt25 ht25, if_true, ra_clearest hP, rv_bd_some]
    cases l with
    | nil =>
      rcases ra_cp_ok (f := ra_ld2 (ra_P s n m)) (g := ra_gb g) (k := 25) (by omega) with e | e
      · rw [e.1]
        rw [if_pos (by decide)]
        exact rv_T_some.mpr ⟨by rw [← hl]; exact hz, hf2⟩
      · exfalso
        have := (hmem _).mpr ⟨e.1, by omega, e.2.1⟩
        cases this
    | cons k l =>
      have hk := (hmem k).mp List.mem_cons_self
      rcases ra_cp_ok (f := ra_ld2 (ra_P s n m)) (g := ra_gb g) (k := 25) (by omega) with e | e
      · exfalso
        have := e.2 k hk.1 hk.2.1
        rw [hk.2.2] at this
        cases this
      · have ek : (ra_cp (ra_ld2 (ra_P s n m)) (ra_gb g) 25).1 = k := by
          have hin := (hmem _).mpr ⟨e.1, by omega, e.2.1⟩
          rcases List.mem_cons.mp hin with e2 | e2
          · exact e2
          · exfalso
            have h1 := (List.pairwise_cons.mp hpw).1 _ e2
            have h2 := e.2.2.2.2 k hk.1 hk.2.2
            unfold ra_pr at h1
            omega
        rw [ek]
        have ei : ra_cpi k = Int32.ofNat k := if_neg (by omega)
        rw [ei, if_neg (rv_n_neg (by omega)), ra_div5 hk.1, ra_mod5 hk.1, rv_T_lt]
        refine rv_T_call (ra_lock hk.1 hz) (fun _ w3 h3 => ?_)
        rw [rv_T_lt, rv_n_succ]
        refine q ht25 _ _ ⟨fun c j h1 h2 => by rw [h3.2 c j h1 h2, hf2 c j h1 h2], ra_lk z k, l, h3.1, hl, (List.pairwise_cons.mp hpw).2, fun j => ?_, ?_, fun j hj hg => ?_⟩
        · refine ⟨fun hj => ?_, fun hj => ?_⟩
          · have h4 := (hmem j).mp (List.mem_cons_of_mem _ hj)
            have h5 := (List.pairwise_cons.mp hpw).1 _ hj
            refine ⟨h4.1, h4.2.1, ?_⟩
            rw [ra_gb_or h4.1 hk.1, h4.2.2, Bool.false_or]
            refine beq_false_of_ne (fun e3 => ?_)
            subst e3
            unfold ra_pr at h5
            omega
          · rw [ra_gb_or hj.1 hk.1, Bool.or_eq_false_iff] at hj
            have h4 := (hmem j).mpr ⟨hj.1, hj.2.1, hj.2.2.1⟩
            rcases List.mem_cons.mp h4 with e2 | e2
            · rw [e2] at hj; simp at hj
            · exact e2
        · rw [← hcn]
          exact ra_cn_set hk.1 hk.2.2 (by rw [ra_gb_or hk.1 hk.1]; simp) (fun j hj hne => by rw [ra_gb_or hj hk.1, beq_false_of_ne hne, Bool.or_false])
        · rw [ra_gb_or hj hk.1, Bool.or_eq_true] at hg
          rcases hg with hg | hg
          · exact hpos j hj hg
          · rw [beq_iff_eq.mp hg]; exact hk.2.1
theorem ra_sources {s : Nat} {n m : Nat → Nat} {z : ra_Z} {w : rv_W} (h : ra_PQ s n m w) (hz : ra_zc z w) : f_X2_sources w = some (Int32.ofNat (ra_rw s z), w) := by
  have hs := h.s32
  unfold f_X2_sources
  rw [h.st]
  refine rv_C1 5 (fun a x w' => w' = w ∧ ∃ t, x = Int32.ofNat t ∧ t < 32 ∧ ∀ c, c < 5 → rv_hs t c = (rv_hs s c && rv_al a (fun b => !z.1 b c))) 0 _ _ ⟨rfl, s, rfl, hs, fun c hc => by rw [rv_al, Bool.and_true]⟩ (by omega) (by decide) (fun ag a x w' ha hI ih => ?_)
  obtain ⟨rfl, t, rfl, ht, hI⟩ := hI
  by_cases ha5 : a < 5
  · obtain ⟨⟨tl, hl1, hl2, hl3⟩, -⟩ := hz a ha5
    simp only [rv_lt5 ha5, if_true, rv_ck5 ha5, rv_nn5 ha5, hl1, e_andn ht hl2, rv_lt, rv_n_succ]
    refine ih ha5 _ _ ⟨rfl, _, rfl, rv_df_lt, fun c hc => ?_⟩
    rw [rv_df_hs hc, hI c hc, hl3 c hc, rv_al_s, Bool.and_assoc]
  · have : a = 5 := by omega
    subst this
    simp only [rv_ge5, if_false]
    congr 3
    refine rv_hs_ext ht rv_ms_lt (fun c hc => ?_)
    rw [hI c hc, ra_rw, rv_ms_hs hc]
