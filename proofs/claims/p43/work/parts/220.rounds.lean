/-! the rules by rounds -/
def ra_x (cb : Bool) (n m : Nat → Nat) (C c : Nat) : Nat := if cb = true then ra_L n m C c else ra_KC n m C 1 c
def ra_o1 (cb : Bool) (C : Nat) (x : Nat → Nat) : Nat → Nat × Nat
  | 0 => (5, 0)
  | k + 1 => if rv_hs C k = true ∧ ((ra_o1 cb C x k).1 = 5 ∨ (if cb = true then (ra_o1 cb C x k).2 ≤ x k else x k ≤ (ra_o1 cb C x k).2)) then (k, x k) else ra_o1 cb C x k
theorem ra_o1_s {cb : Bool} {C k : Nat} {x : Nat → Nat} : ra_o1 cb C x (k + 1) = if rv_hs C k = true ∧ ((ra_o1 cb C x k).1 = 5 ∨ (if cb = true then (ra_o1 cb C x k).2 ≤ x k else x k ≤ (ra_o1 cb C x k).2)) then (k, x k) else ra_o1 cb C x k := rfl
def ra_out (cb : Bool) (n m : Nat → Nat) (C : Nat) : Nat := (ra_o1 cb C (ra_x cb n m C) 5).1
theorem ra_o1_ok {cb : Bool} {C k : Nat} {x : Nat → Nat} (hk : k ≤ 5) : ((ra_o1 cb C x k) = (5, 0) ∧ ∀ c, c < k → rv_hs C c = false) ∨ ((ra_o1 cb C x k).1 < k ∧ rv_hs C (ra_o1 cb C x k).1 = true ∧ (ra_o1 cb C x k).2 = x (ra_o1 cb C x k).1) := by
  induction k with
  | zero => exact Or.inl ⟨rfl, fun c hc => by omega⟩
  | succ k ih =>
    have ih := ih (by omega)
    rw [ra_o1_s]
    by_cases q : rv_hs C k = true ∧ ((ra_o1 cb C x k).1 = 5 ∨ (if cb = true then (ra_o1 cb C x k).2 ≤ x k else x k ≤ (ra_o1 cb C x k).2))
    · rw [if_pos q]
      exact Or.inr ⟨Nat.lt_succ_self k, q.1, rfl⟩
    · rw [if_neg q]
      rcases ih with ih | ih
      · refine Or.inl ⟨ih.1, fun c hc => ?_⟩
        by_cases e : c = k
        · subst e
          cases h : rv_hs C c
          · rfl
          · exact absurd ⟨h, Or.inl (by rw [ih.1])⟩ q
        · exact ih.2 c (by omega)
      · exact Or.inr ⟨by omega, ih.2⟩
theorem ra_mn_hs {C : Nat} (hC : C < 32) (h : 0 < rv_mn C) : ∃ c, c < 5 ∧ rv_hs C c = true := by
  have key := List.all_eq_true.mp (by decide +kernel : ((List.range 32).all fun C => decide (rv_mn C = 0) || !(rv_al 5 (fun c => !rv_hs C c))) = true) C (rv_rg hC)
  rw [decide_eq_false (by omega), Bool.false_or, Bool.not_eq_true'] at key
  refine Decidable.byContradiction (fun z => ?_)
  rw [Bool.eq_false_iff] at key
  apply key
  rw [rv_al_iff]
  intro c hc
  cases e : rv_hs C c
  · rfl
  · exact absurd ⟨c, hc, e⟩ z
theorem ra_out_in {cb : Bool} {n m : Nat → Nat} {C : Nat} (hC : C < 32) (h : 0 < rv_mn C) : ra_out cb n m C < 5 ∧ rv_hs C (ra_out cb n m C) = true := by
  rcases ra_o1_ok (cb := cb) (C := C) (x := ra_x cb n m C) (k := 5) (by omega) with e | e
  · obtain ⟨c, hc, h2⟩ := ra_mn_hs hC h
    rw [e.2 c hc] at h2
    cases h2
  · exact ⟨e.1, e.2.1⟩
theorem ra_mn_wo {C c : Nat} (hC : C < 32) (hc : c < 5) (h : rv_hs C c = true) : rv_mn (rv_wo C c) + 1 = rv_mn C := by
  have key := rv_all2 (p := fun C c => !rv_hs C c || rv_mn (rv_wo C c) + 1 == rv_mn C) (l := List.range 32) (m := List.range 5) (by decide +kernel) (rv_rg hC) (rv_rg hc)
  rw [h, Bool.not_true, Bool.false_or] at key
  exact eq_of_beq key
def ra_ln (q : Nat → Bool) : Nat → Nat
  | 0 => 5
  | k + 1 => if q k = true then k else ra_ln q k
def ra_n5 (f : Nat) : Int32 := if f = 5 then -1 else Int32.ofNat f
theorem ra_ln_s {q : Nat → Bool} {k : Nat} : ra_ln q (k + 1) = if q k = true then k else ra_ln q k := rfl
theorem ra_ln_lst {q : Nat → Bool} {k : Nat} (hk : k ≤ 5) : ra_lst q (-1) k = ra_n5 (ra_ln q k) := by
  induction k with
  | zero => rfl
  | succ k ih =>
    rw [ra_lst_s, ra_ln_s]
    split
    · unfold ra_n5; rw [if_neg (by omega)]
    · exact ih (by omega)
theorem ra_ln_none {q : Nat → Bool} {k : Nat} (h : ∀ j, j < k → q j = false) : ra_ln q k = 5 := by
  induction k with
  | zero => rfl
  | succ k ih => rw [ra_ln_s, if_neg (by rw [h k (by omega)]; decide), ih (fun j hj => h j (by omega))]
theorem ra_ln_one {q : Nat → Bool} {a k : Nat} (ha : a < k) (h : q a = true) (hu : ∀ j, j < k → q j = true → j = a) : ra_ln q k = a := by
  induction k with
  | zero => omega
  | succ k ih =>
    rw [ra_ln_s]
    by_cases e : k = a
    · rw [e, if_pos h]
    · rw [if_neg (fun z => e (hu k (by omega) z)), ih (by omega) (fun j hj => hu j (by omega))]
theorem ra_ln_le {q : Nat → Bool} {k : Nat} (hk : k ≤ 5) : ra_ln q k = 5 ∨ (ra_ln q k < k ∧ q (ra_ln q k) = true) := by
  induction k with
  | zero => exact Or.inl rfl
  | succ k ih =>
    rw [ra_ln_s]
    split
    · rename_i h; exact Or.inr ⟨by omega, h⟩
    · rcases ih (by omega) with e | e
      · exact Or.inl e
      · exact Or.inr ⟨by omega, e.2⟩
theorem ra_n5_m1 {f : Nat} (h : f ≤ 5) : (ra_n5 f = -1) = (f = 5) := by
  unfold ra_n5
  by_cases q : f = 5
  · rw [if_pos q]; simp [q]
  · rw [if_neg q]
    refine propext ⟨fun z => ?_, fun z => absurd z q⟩
    have := congrArg Int32.toInt z
    rw [rv_n_int (by omega), show (-1 : Int32).toInt = -1 from rfl] at this
    omega
theorem ra_n5_neg {f : Nat} (h : f ≤ 5) : (ra_n5 f < 0) = (f = 5) := by
  unfold ra_n5
  by_cases q : f = 5
  · rw [if_pos q]; simp [q]
  · rw [if_neg q]
    exact propext ⟨fun z => absurd z (rv_n_neg (by omega)), fun z => absurd z q⟩
/-- whom more than half rank first -/
def ra_mq (n m : Nat → Nat) (C c : Nat) : Bool := decide (rv_sm 5 (ra_KC n m C 1) < 2 * ra_KC n m C 1 c)
def ra_mj (n m : Nat → Nat) (C : Nat) : Nat := ra_ln (ra_mq n m C) 5
theorem ra_sm_two {k a b : Nat} {f : Nat → Nat} (ha : a < k) (hb : b < k) (hne : a ≠ b) : f a + f b ≤ rv_sm k f := by
  induction k with
  | zero => omega
  | succ k ih =>
    rw [rv_sm]
    by_cases e1 : a = k
    · subst e1
      have := rv_sm_pick (f := f) (show b < a by omega)
      omega
    · by_cases e2 : b = k
      · subst e2
        have := rv_sm_pick (f := f) (show a < b by omega)
        omega
      · have := ih (by omega) (by omega)
        omega
theorem ra_mq_u {n m : Nat → Nat} {C a b : Nat} (ha : a < 5) (hb : b < 5) (h1 : ra_mq n m C a = true) (h2 : ra_mq n m C b = true) : b = a := by
  unfold ra_mq at h1 h2
  rw [decide_eq_true_eq] at h1 h2
  refine Decidable.byContradiction (fun z => ?_)
  have := ra_sm_two (f := ra_KC n m C 1) ha hb (fun e => z e.symm)
  omega
def ra_stp (cb : Bool) (n m : Nat → Nat) (C : Nat) : Bool := decide (rv_mn C ≤ 1) || (cb && decide (ra_mj n m C ≠ 5))
def ra_nx (cb : Bool) (n m : Nat → Nat) (C : Nat) : Nat := rv_wo C (ra_out cb n m C)
/-- the sets by rounds, and how many rounds there are -/
def ra_cs (cb : Bool) (n m : Nat → Nat) (s : Nat) : Nat → Nat
  | 0 => s
  | i + 1 => ra_nx cb n m (ra_cs cb n m s i)
def ra_rn (cb : Bool) (n m : Nat → Nat) : Nat → Nat → Nat
  | 0, _ => 0
  | f + 1, C => if ra_stp cb n m C = true then 0 else ra_rn cb n m f (ra_nx cb n m C) + 1
theorem ra_rn_s {cb : Bool} {n m : Nat → Nat} {f C : Nat} : ra_rn cb n m (f + 1) C = if ra_stp cb n m C = true then 0 else ra_rn cb n m f (ra_nx cb n m C) + 1 := rfl
theorem ra_cs_s {cb : Bool} {n m : Nat → Nat} {s i : Nat} : ra_cs cb n m s (i + 1) = ra_nx cb n m (ra_cs cb n m s i) := rfl
def ra_rt (cb : Bool) (n m : Nat → Nat) (s : Nat) : Nat := ra_rn cb n m 5 s
def ra_en (cb : Bool) (n m : Nat → Nat) (C : Nat) : Nat := if rv_mn C ≤ 1 then C else 2 ^ ra_mj n m C
def ra_an (cb : Bool) (n m : Nat → Nat) (s : Nat) : Nat := ra_en cb n m (ra_cs cb n m s (ra_rt cb n m s))
/-- where the rounds stand: round i, set C -/
def ra_at (cb : Bool) (n m : Nat → Nat) (s i C : Nat) : Prop := C < 32 ∧ ra_sub C s ∧ C = ra_cs cb n m s i ∧ (rv_mn C + i ≤ 5 ∨ rv_mn C ≤ 1) ∧ i ≤ 5 ∧ ra_rt cb n m s = i + ra_rn cb n m (5 - i) C ∧ (s ≠ 0 → C ≠ 0) ∧ (i = 5 → rv_mn C ≤ 1)
theorem ra_at_0 {cb : Bool} {n m : Nat → Nat} {s : Nat} (hs : s < 32) : ra_at cb n m s 0 s := ⟨hs, fun _ _ h => h, rfl, Or.inl (by have := @rv_mn_le s; omega), by omega, by rw [Nat.zero_add]; rfl, fun h => h, fun h => by omega⟩
theorem ra_at_stop {cb : Bool} {n m : Nat → Nat} {s i C : Nat} (h : ra_at cb n m s i C) (hst : ra_stp cb n m C = true) : ra_rt cb n m s = i ∧ ra_an cb n m s = ra_en cb n m C := by
  obtain ⟨h1, h2, h3, h4, h5, h6, h7⟩ := h
  have e : ra_rt cb n m s = i := by
    rw [h6]
    by_cases q : i = 5
    · subst q; rfl
    · rw [show 5 - i = (4 - i) + 1 by omega, ra_rn_s, if_pos hst]
      rfl
  refine ⟨e, ?_⟩
  unfold ra_an
  rw [e, ← h3]
theorem ra_mn_z {C : Nat} (hC : C < 32) : rv_mn C = 0 ↔ C = 0 := by
  have := List.all_eq_true.mp (by decide +kernel : ((List.range 32).all fun C => decide (rv_mn C = 0 ↔ C = 0)) = true) C (rv_rg hC)
  exact of_decide_eq_true this
theorem ra_at_next {cb : Bool} {n m : Nat → Nat} {s i C : Nat} (h : ra_at cb n m s i C) (hst : ¬ ra_stp cb n m C = true) : ra_at cb n m s (i + 1) (ra_nx cb n m C) ∧ i < 5 := by
  obtain ⟨h1, h2, h3, h4, h5, h6, h7, h8⟩ := h
  have hm : ¬ rv_mn C ≤ 1 := fun z => hst (by unfold ra_stp; rw [decide_eq_true z]; rfl)
  obtain ⟨o1, o2⟩ := ra_out_in (cb := cb) (n := n) (m := m) h1 (by omega)
  have hw := ra_mn_wo h1 o1 o2
  have hi : i < 5 := by omega
  refine ⟨⟨rv_wo_lt h1, fun c hc hh => ?_, by rw [ra_cs_s, ← h3], ?_, by omega, ?_, fun _ z => ?_, fun z => ?_⟩, hi⟩
  · unfold ra_nx at hh
    rw [rv_wo_hs h1 o1 hc, Bool.and_eq_true] at hh
    exact h2 c hc hh.1
  · refine Or.inl ?_
    unfold ra_nx
    omega
  · rw [h6, show 5 - i = (5 - (i + 1)) + 1 by omega, ra_rn_s, if_neg hst]
    omega
  · have := (ra_mn_z (C := ra_nx cb n m C) (rv_wo_lt h1)).mpr z
    unfold ra_nx at this
    omega
  · unfold ra_nx
    omega
theorem ra_an_lt {cb : Bool} {n m : Nat → Nat} {C : Nat} (hC : C < 32) (h : rv_mn C ≤ 1 ∨ ra_mj n m C ≠ 5) : ra_en cb n m C < 32 ∧ (C ≠ 0 → ra_en cb n m C ≠ 0) := by
  unfold ra_en
  by_cases q : rv_mn C ≤ 1
  · rw [if_pos q]; exact ⟨hC, fun z => z⟩
  · rw [if_neg q]
    have h := h.resolve_left q
    rcases ra_ln_le (q := ra_mq n m C) (k := 5) (by omega) with e | e
    · exact absurd e h
    · exact ⟨rv_pow_lt e.1, fun _ => Nat.ne_of_gt (Nat.two_pow_pos _)⟩
/-! the class's own methods of rounds -/
theorem ra_x_le {cb : Bool} {n m : Nat → Nat} {C c : Nat} : ra_x cb n m C c ≤ rv_sm 20 n := by
  unfold ra_x
  split
  · exact ra_S_le
  · unfold ra_KC
    split
    · exact ra_S_le
    · exact Nat.zero_le _
theorem ra_o1_le {cb : Bool} {n m : Nat → Nat} {C k N : Nat} (h : rv_sm 20 n ≤ N) : (ra_o1 cb C (ra_x cb n m C) k).2 ≤ N := by
  induction k with
  | zero => exact Nat.zero_le _
  | succ k ih =>
    rw [ra_o1_s]
    by_cases q : rv_hs C k = true ∧ ((ra_o1 cb C (ra_x cb n m C) k).1 = 5 ∨ (if cb = true then (ra_o1 cb C (ra_x cb n m C) k).2 ≤ ra_x cb n m C k else ra_x cb n m C k ≤ (ra_o1 cb C (ra_x cb n m C) k).2))
    · rw [if_pos q]; exact Nat.le_trans ra_x_le h
    · rw [if_neg q]; exact ih
theorem ra_o1_1 {cb : Bool} {C k : Nat} {x : Nat → Nat} (hk : k ≤ 5) : (ra_o1 cb C x k).1 ≤ 5 := by
  rcases ra_o1_ok (cb := cb) (C := C) (x := x) hk with e | e
  · rw [e.1]; exact Nat.le_refl _
  · omega
theorem ra_clr {A : Nat} {w : rv_W} : f_X6_clear A w = some (0, rv_fl A 5 (fun _ => 0) w) := by
  unfold f_X6_clear
  refine rv_E0 5 (fun k => rv_fl A k (fun _ => 0) w) w rv_fl_0.symm (fun ag k hk => ?_) (fun ag => ?_) (by decide)
  · simp only [rv_lt5 hk, if_true, rv_ck5 hk, rv_nn5 hk, rv_lt, rv_n_succ]
    exact congrArg _ (rv_fl_up rfl)
  · rw [if_neg (by decide)]
theorem ra_smallest {A C : Nat} {n m : Nat → Nat} {w : rv_W} (hC : C < 32) (hN : rv_sm 20 n ≤ 2000) (hx : ∀ c, c < 5 → w A c = Int32.ofNat (ra_x false n m C c)) : f_X6_smallest A (Int32.ofNat C) w = some (ra_n5 (ra_out false n m C), w) := by
  unfold f_X6_smallest
  refine rv_E2 5 (fun k => ra_n5 (ra_o1 false C (ra_x false n m C) k).1) (fun k => Int32.ofNat (ra_o1 false C (ra_x false n m C) k).2) (fun _ => w) _ _ _ rfl rfl rfl (fun ag k hk => ?_) (fun ag => ?_) (by decide)
  · have l1 := @ra_x_le false n m C k
    have l2 := @ra_o1_le false n m C k 2000 hN
    have e := @ra_o1_s false C k (ra_x false n m C)
    have e1 : (Int32.ofNat (ra_o1 false C (ra_x false n m C) k).2 < Int32.ofNat (ra_x false n m C k)) = ((ra_o1 false C (ra_x false n m C) k).2 < ra_x false n m C k) := propext (rv_n_lt (by omega) (by omega))
    simp only [rv_lt5 hk, if_true, e_hasb hC hk, rv_bd_some, rv_b2_0, rv_lt, rv_jn, rv_n_succ, rv_ck5 hk, rv_nn5 hk, hx k hk, ra_n5_m1 (ra_o1_1 (show k ≤ 5 by omega)), e1]
    have n5k : ra_n5 k = Int32.ofNat k := if_neg (by omega)
    cases h1 : rv_hs C k
    · rw [if_neg (fun z => by rw [h1] at z; cases z.1)] at e
      rw [e, if_pos rfl]
    · rw [if_neg (show ¬ true = false by decide)]
      by_cases h2 : (ra_o1 false C (ra_x false n m C) k).1 = 5
      · rw [if_pos ⟨h1, Or.inl h2⟩] at e
        rw [if_pos h2, e]
        dsimp only
        rw [n5k]
      · rw [if_neg h2]
        by_cases h3 : (ra_o1 false C (ra_x false n m C) k).2 < ra_x false n m C k
        · rw [if_neg (fun z => z.2.elim h2 (fun z => by rw [if_neg (by decide)] at z; omega))] at e
          rw [if_pos h3, e]
        · rw [if_pos ⟨h1, Or.inr (by rw [if_neg (by decide)]; omega)⟩] at e
          rw [if_neg h3, e]
          dsimp only
          rw [n5k]
  · rw [if_neg (by decide)]; rfl
theorem ra_greatest {A C : Nat} {n m : Nat → Nat} {w : rv_W} (hC : C < 32) (hN : rv_sm 20 n ≤ 2000) (hx : ∀ c, c < 5 → w A c = Int32.ofNat (ra_x true n m C c)) : f_X6_greatest A (Int32.ofNat C) w = some (ra_n5 (ra_out true n m C), w) := by
  unfold f_X6_greatest
  refine rv_E2 5 (fun k => ra_n5 (ra_o1 true C (ra_x true n m C) k).1) (fun k => Int32.ofNat (ra_o1 true C (ra_x true n m C) k).2) (fun _ => w) _ _ _ rfl rfl rfl (fun ag k hk => ?_) (fun ag => ?_) (by decide)
  · have l1 := @ra_x_le true n m C k
    have l2 := @ra_o1_le true n m C k 2000 hN
    have e := @ra_o1_s true C k (ra_x true n m C)
    have e1 : (Int32.ofNat (ra_x true n m C k) < Int32.ofNat (ra_o1 true C (ra_x true n m C) k).2) = (ra_x true n m C k < (ra_o1 true C (ra_x true n m C) k).2) := propext (rv_n_lt (by omega) (by omega))
    simp only [rv_lt5 hk, if_true, e_hasb hC hk, rv_bd_some, rv_b2_0, rv_lt, rv_n_succ, rv_ck5 hk, rv_nn5 hk, hx k hk, e1]
    have n5k : ra_n5 k = Int32.ofNat k := if_neg (by omega)
    cases h1 : rv_hs C k
    · rw [if_neg (fun z => by rw [h1] at z; cases z.1)] at e
      rw [e, if_pos rfl]
    · rw [if_neg (show ¬ true = false by decide)]
      by_cases h3 : ra_x true n m C k < (ra_o1 true C (ra_x true n m C) k).2
      · have h2 : ¬ (ra_o1 true C (ra_x true n m C) k).1 = 5 := fun z => by
          rcases ra_o1_ok (cb := true) (C := C) (x := ra_x true n m C) (k := k) (by omega) with q | q
          · rw [q.1] at h3; dsimp only at h3; omega
          · omega
        rw [if_neg (fun z => z.2.elim h2 (fun z => by rw [if_pos rfl] at z; omega))] at e
        rw [if_pos h3, e]
      · rw [if_pos ⟨h1, Or.inr (by rw [if_pos rfl]; omega)⟩] at e
        rw [if_neg h3, e]
        dsimp only
        rw [n5k]
  · rw [if_neg (by decide)]; rfl
theorem ra_KC_le {n m : Nat → Nat} {C k c : Nat} : ra_KC n m C k c ≤ rv_sm 20 n := by
  unfold ra_KC
  split
  · exact ra_S_le
  · exact Nat.zero_le _
theorem ra_majority {C : Nat} {n m : Nat → Nat} {w : rv_W} (hN : rv_sm 20 n ≤ 2000) (hx : ∀ c, c < 5 → w 65 c = Int32.ofNat (ra_KC n m C 1 c)) : f_X6_majority w = some (ra_n5 (ra_mj n m C), w) := by
  unfold f_X6_majority
  refine rv_E1 5 (fun k => Int32.ofNat (rv_sm k (ra_KC n m C 1))) (fun _ => w) _ _ rfl rfl (fun ag k hk => ?_) (fun ag => ?_) (by decide)
  · simp only [rv_lt5 hk, if_true, rv_ck5 hk, rv_nn5 hk, hx k hk, rv_lt, rv_n_succ, rv_sm, Int32.ofNat_add]
  · simp only [rv_ge5, if_false]
    have hB : rv_sm 5 (ra_KC n m C 1) ≤ 5 * 2000 := rv_sm_bd (fun g _ => Nat.le_trans ra_KC_le hN)
    refine rv_C0 5 (fun c w' => w' = w ∧ ∀ j, j < c → ra_mq n m C j = false) 0 _ ⟨rfl, fun j hj => by omega⟩ (by omega) (by decide) (fun ag2 c w' hc hI ih => ?_)
    obtain ⟨rfl, hI⟩ := hI
    by_cases hc5 : c < 5
    · have l := @ra_KC_le n m C 1 c
      have e2 : (2 : Int32) * Int32.ofNat (ra_KC n m C 1 c) = Int32.ofNat (2 * ra_KC n m C 1 c) := by rw [Int32.ofNat_mul]; rfl
      have e1 : (Int32.ofNat (rv_sm 5 (ra_KC n m C 1)) < Int32.ofNat (2 * ra_KC n m C 1 c)) = (rv_sm 5 (ra_KC n m C 1) < 2 * ra_KC n m C 1 c) := propext (rv_n_lt (by omega) (by omega))
      simp only [rv_lt5 hc5, if_true, rv_ck5 hc5, rv_nn5 hc5, hx c hc5, e2, e1, rv_lt, rv_n_succ]
      by_cases q : rv_sm 5 (ra_KC n m C 1) < 2 * ra_KC n m C 1 c
      · have hq : ra_mq n m C c = true := decide_eq_true q
        rw [if_pos q]
        unfold ra_mj
        rw [ra_ln_one hc5 hq (fun j hj z => ra_mq_u hc5 hj hq z)]
        unfold ra_n5
        rw [if_neg (by omega)]
      · rw [if_neg q]
        refine ih hc5 _ ⟨rfl, fun j hj => ?_⟩
        by_cases e : j = c
        · rw [e]; exact decide_eq_false q
        · exact hI j (by omega)
    · have : c = 5 := by omega
      subst this
      simp only [rv_ge5, if_false]
      unfold ra_mj
      rw [ra_ln_none hI]
      rfl
/-- what play() leaves -/
def ra_rec (cb : Bool) (n m : Nat → Nat) (s i : Nat) (w : rv_W) : Prop := w 56 0 = Int32.ofNat i ∧ ∀ j, j < i → w 57 j = Int32.ofNat (ra_out cb n m (ra_cs cb n m s j)) ∧ w 58 j = Int32.ofNat (ra_cs cb n m s j) ∧ ∀ c, c < 5 → w (60 + j) c = Int32.ofNat (ra_x cb n m (ra_cs cb n m s j) c)
theorem ra_play {cb : Bool} {rule s : Nat} {n m : Nat → Nat} {w : rv_W} (h : ra_PQ s n m w) (hr : rule = if cb = true then 7 else 6) : rv_T (f_X6_play (Int32.ofNat rule) w) (fun v w' => v = Int32.ofNat (ra_an cb n m s) ∧ rv_fr 53 76 w w' ∧ ra_rec cb n m s (ra_rt cb n m s) w') := by
  have hs := h.s32
  have hN := h.sum
  unfold f_X6_play
  rw [rv_T_lt, h.st]
  have e7 : (Int32.ofNat rule = 7) = (cb = true) := by
    rw [hr]
    cases cb <;> decide
  refine rv_T_for1 5 (fun i a w' => rv_fr 53 76 w w' ∧ ra_rec cb n m s i w' ∧ ∃ C, a = Int32.ofNat C ∧ ra_at cb n m s i C) (fun ag i a w' hi hI q => ?_) (by decide) 0 _ _ ⟨rv_up_fr (by omega), ⟨rv_up_same, fun j hj => by omega⟩, s, rfl, ra_at_0 hs⟩ (by omega)
  obtain ⟨hf, hrec, C, rfl, hat⟩ := hI
  have hC := hat.1
  have hP : ra_PQ s n m w' := h.fr (fun c j _ _ => hf c j (by omega))
  have fin : ra_stp cb n m C = true → ra_rec cb n m s (ra_rt cb n m s) w' := fun z => by rw [(ra_at_stop hat z).1]; exact hrec
  by_cases hi5 : i < 5
  · have e1 : ((1 : Int32) < Int32.ofNat (rv_mn C)) = (1 < rv_mn C) := propext (rv_n_lt (i := 1) (by omega) (by have := @rv_mn_le C; omega))
    simp only [rv_lt5 hi5, if_true, e_bitCount hC, rv_bd_some, e1]
    by_cases hm : 1 < rv_mn C
    · rw [if_pos hm]
      have cont : ∀ w2, rv_fr 53 76 w w2 → ra_rec cb n m s i w2 → ¬ ra_stp cb n m C = true → rv_T (rv_ck (Int32.ofNat i) 5 (rv_bd (f_X6_clear (60 + (Int32.ofNat i).toNatClampNeg) w2) (fun (r13 : Int32) (w14 : rv_W) =>
        rv_jn (fun  (w15 : rv_W) =>
        rv_ck (Int32.ofNat i) 5 (rv_lt (rv_up w15 58 (Int32.ofNat i).toNatClampNeg (Int32.ofNat C)) (fun (w18 : rv_W) =>
        rv_ck (Int32.ofNat i) 5 (
        rv_bd (f_X1_without (Int32.ofNat C) (w18 57 (Int32.ofNat i).toNatClampNeg) w18) (fun (r19 : Int32) (w20 : rv_W) =>
        rv_lt (rv_up w20 56 0 (Int32.ofNat i + (1 : Int32))) (fun (w21 : rv_W) =>
        rv_lt (Int32.ofNat i + (1 : Int32)) (fun (v22 : Int32) =>
        ag r19 v22 w21))))))) (fun (k16 : rv_W → rv_R) =>
        if Int32.ofNat rule = (7 : Int32) then
        rv_bd (f_X5_addLasts (Int32.ofNat C) (60 + (Int32.ofNat i).toNatClampNeg) w14) (fun (r28 : Int32) (w29 : rv_W) =>
        rv_bd (f_X6_greatest (60 + (Int32.ofNat i).toNatClampNeg) (Int32.ofNat C) w29) (fun (r30 : Int32) (w31 : rv_W) =>
        rv_ck (Int32.ofNat i) 5 (rv_lt (rv_up w31 57 (Int32.ofNat i).toNatClampNeg r30) (fun (w32 : rv_W) =>
        k16 w32))))
        else
        rv_bd (f_X5_addFirsts (Int32.ofNat C) (60 + (Int32.ofNat i).toNatClampNeg) w14) (fun (r23 : Int32) (w24 : rv_W) =>
        rv_bd (f_X6_smallest (60 + (Int32.ofNat i).toNatClampNeg) (Int32.ofNat C) w24) (fun (r25 : Int32) (w26 : rv_W) =>
        rv_ck (Int32.ofNat i) 5 (rv_lt (rv_up w26 57 (Int32.ofNat i).toNatClampNeg r25) (fun (w27 : rv_W) =>
        k16 w27)))))))) (fun v w' => v = Int32.ofNat (ra_an cb n m s) ∧ rv_fr 53 76 w w' ∧ ra_rec cb n m s (ra_rt cb n m s) w') := by
        intro w2 hf2 hrec2 hst
        obtain ⟨o1, o2⟩ := ra_out_in (cb := cb) (n := n) (m := m) hC (by omega)
        have hP2 : ra_PQ s n m w2 := h.fr (fun c j _ _ => hf2 c j (by omega))
        have hP3 := hP2.fl (A := 60 + i) (k := 5) (f := fun _ => 0) (by omega)
        have common : ∀ w3 r, r = ra_n5 (ra_out cb n m C) → w3 = rv_fl (60 + i) 5 (fun c => Int32.ofNat (ra_x cb n m C c)) w2 → rv_T (rv_bd (f_X1_without (Int32.ofNat C) (rv_up (rv_up w3 57 i r) 58 i (Int32.ofNat C) 57 i) (rv_up (rv_up w3 57 i r) 58 i (Int32.ofNat C))) (fun r19 w20 => ag r19 (Int32.ofNat (i + 1)) (rv_up w20 56 0 (Int32.ofNat (i + 1))))) (fun v w' => v = Int32.ofNat (ra_an cb n m s) ∧ rv_fr 53 76 w w' ∧ ra_rec cb n m s (ra_rt cb n m s) w') := by
          intro w3 r hr3 hw3
          have en5 : ra_n5 (ra_out cb n m C) = Int32.ofNat (ra_out cb n m C) := if_neg (by omega)
          rw [en5] at hr3
          subst hr3
          rw [rv_up_ne (show (57 : Nat) ≠ 58 by decide), rv_up_same, e_without hC o1, rv_bd_some]
          have hcs := hat.2.2.1
          refine q hi5 _ _ ⟨?_, ⟨rv_up_same, fun j hj => ?_⟩, ra_nx cb n m C, rfl, (ra_at_next hat hst).1⟩
          · intro c j z
            rw [rv_up_ne (by omega), rv_up_ne (by omega), rv_up_ne (by omega), hw3, rv_fl_ne (by omega)]
            exact hf2 c j z
          · by_cases e : j = i
            · subst e
              rw [← hcs]
              refine ⟨by rw [rv_up_ne (by decide), rv_up_ne (by decide), rv_up_same], by rw [rv_up_ne (by decide), rv_up_same], fun c hc => ?_⟩
              rw [rv_up_ne (by omega), rv_up_ne (by omega), rv_up_ne (by omega), hw3, rv_fl_at hc]
            · obtain ⟨g1, g2, g3⟩ := hrec2.2 j (by omega)
              refine ⟨by rw [rv_up_ne (by decide), rv_up_ne (by decide), rv_up_of (fun z => e z.2), hw3, rv_fl_ne (by omega), g1], by rw [rv_up_ne (by decide), rv_up_of (fun z => e z.2), rv_up_ne (by decide), hw3, rv_fl_ne (by omega), g2], fun c hc => ?_⟩
              rw [rv_up_ne (by omega), rv_up_ne (by omega), rv_up_ne (by omega), hw3, rv_fl_ne (by omega), g3 c hc]
        simp only [rv_ck5 hi5, rv_nn5 hi5, ra_clr, rv_bd_some, rv_jn, rv_lt, e7, hP3.lasts hC hat.2.1 (show 60 + i < 31 ∨ 52 < 60 + i by omega), hP3.firsts hC hat.2.1 (show 60 + i < 31 ∨ 52 < 60 + i by omega), rv_n_succ]
        cases cb
        · rw [if_neg (by decide)]
          have ew : rv_fl (60 + i) 5 (fun c => rv_fl (60 + i) 5 (fun _ => 0) w2 (60 + i) c + Int32.ofNat (ra_KC n m C 1 c)) (rv_fl (60 + i) 5 (fun _ => 0) w2) = rv_fl (60 + i) 5 (fun c => Int32.ofNat (ra_x false n m C c)) w2 := by
            rw [rv_fl_fl]
            exact rv_fl_congr (fun c hc => by rw [rv_fl_at hc, Int32.zero_add]; rfl)
          rw [ew, ra_smallest hC hN (fun c hc => rv_fl_at hc), rv_bd_some]
          exact common _ _ rfl rfl
        · rw [if_pos rfl]
          have ew : rv_fl (60 + i) 5 (fun c => rv_fl (60 + i) 5 (fun _ => 0) w2 (60 + i) c + Int32.ofNat (ra_L n m C c)) (rv_fl (60 + i) 5 (fun _ => 0) w2) = rv_fl (60 + i) 5 (fun c => Int32.ofNat (ra_x true n m C c)) w2 := by
            rw [rv_fl_fl]
            exact rv_fl_congr (fun c hc => by rw [rv_fl_at hc, Int32.zero_add]; rfl)
          rw [ew, ra_greatest hC hN (fun c hc => rv_fl_at hc), rv_bd_some]
          exact common _ _ rfl rfl
      rw [rv_T_jn]
      by_cases h7 : cb = true
      · rw [if_pos (by rw [e7]; exact h7), ra_clr, rv_bd_some]
        have hP3 := hP.fl (A := 65) (k := 5) (f := fun _ => 0) (by omega)
        have ew : rv_fl 65 5 (fun c => rv_fl 65 5 (fun _ => 0) w' 65 c + Int32.ofNat (ra_KC n m C 1 c)) (rv_fl 65 5 (fun _ => 0) w') = rv_fl 65 5 (fun c => Int32.ofNat (ra_KC n m C 1 c)) w' := by
          rw [rv_fl_fl]
          exact rv_fl_congr (fun c hc => by rw [rv_fl_at hc, Int32.zero_add])
        rw [hP3.firsts hC hat.2.1 (by omega), rv_bd_some, ew, ra_majority hN (fun c hc => rv_fl_at hc), rv_bd_some]
        have hmj : ra_mj n m C ≤ 5 := by
          rcases ra_ln_le (q := ra_mq n m C) (k := 5) (by omega) with e | e
          · exact Nat.le_of_eq e
          · exact Nat.le_of_lt e.1
        have hf5 : rv_fr 53 76 w (rv_fl 65 5 (fun c => Int32.ofNat (ra_KC n m C 1 c)) w') := hf.trans (rv_fl_fr (by omega))
        have hrec5 : ∀ i, i ≤ 5 → ra_rec cb n m s i w' → ra_rec cb n m s i (rv_fl 65 5 (fun c => Int32.ofNat (ra_KC n m C 1 c)) w') := fun i hi z => ⟨by rw [rv_fl_ne (by decide), z.1], fun j hj => by
          obtain ⟨g1, g2, g3⟩ := z.2 j hj
          exact ⟨by rw [rv_fl_ne (by decide), g1], by rw [rv_fl_ne (by decide), g2], fun c hc => by rw [rv_fl_ne (by omega), g3 c hc]⟩⟩
        by_cases hj : ra_mj n m C = 5
        · rw [if_pos (by rw [hj]; rfl)]
          refine cont _ hf5 (hrec5 i (by omega) hrec) (fun z => ?_)
          unfold ra_stp at z
          rw [decide_eq_false (by omega), decide_eq_false (fun y => y hj), Bool.and_false, Bool.or_false] at z
          cases z
        · rw [if_neg (by rw [ra_n5_m1 hmj]; exact hj)]
          have hst : ra_stp cb n m C = true := by
            unfold ra_stp
            rw [h7, decide_eq_true hj]
            simp
          refine rv_T_some.mpr ⟨?_, hf5, hrec5 _ (by rw [(ra_at_stop hat hst).1]; omega) (fin hst)⟩
          rw [(ra_at_stop hat hst).2]
          unfold ra_en ra_n5
          rw [if_neg hj, if_neg (by omega), rv_shl (by omega)]
      · rw [if_neg (by rw [e7]; exact h7)]
        refine cont w' hf hrec (fun z => ?_)
        unfold ra_stp at z
        rw [decide_eq_false (by omega), Bool.eq_false_iff.mpr h7] at z
        cases z
    · rw [if_neg hm]
      have hst : ra_stp cb n m C = true := by
        unfold ra_stp
        rw [decide_eq_true (by omega)]; rfl
      refine rv_T_some.mpr ⟨?_, hf, fin hst⟩
      rw [(ra_at_stop hat hst).2]
      unfold ra_en
      rw [if_pos (by omega)]
  · have : i = 5 := by omega
    subst this
    simp only [rv_ge5, if_false]
    have hm := hat.2.2.2.2.2.2.2 rfl
    have hst : ra_stp cb n m C = true := by
      unfold ra_stp
      rw [decide_eq_true hm]; rfl
    refine rv_T_some.mpr ⟨?_, hf, fin hst⟩
    rw [(ra_at_stop hat hst).2]
    unfold ra_en
    rw [if_pos hm]
