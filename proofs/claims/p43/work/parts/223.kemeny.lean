/-! Kemeny: values of sets -/
def ra_mx : Nat → (Nat → Nat) → Nat
  | 0, _ => 0
  | k + 1, f => max (ra_mx k f) (f k)
theorem ra_mx_s {k : Nat} {f : Nat → Nat} : ra_mx (k + 1) f = max (ra_mx k f) (f k) := rfl
theorem ra_mx_congr {k : Nat} {f g : Nat → Nat} (h : ∀ i, i < k → f i = g i) : ra_mx k f = ra_mx k g := by
  induction k with
  | zero => rfl
  | succ k ih => rw [ra_mx_s, ra_mx_s, ih (fun i hi => h i (by omega)), h k (by omega)]
theorem ra_mx_ge {k i : Nat} {f : Nat → Nat} (h : i < k) : f i ≤ ra_mx k f := by
  induction k with
  | zero => omega
  | succ k ih =>
    rw [ra_mx_s]
    by_cases e : i = k
    · subst e; omega
    · have := ih (by omega); omega
theorem ra_mx_le {k N : Nat} {f : Nat → Nat} (h : ∀ i, i < k → f i ≤ N) : ra_mx k f ≤ N := by
  induction k with
  | zero => exact Nat.zero_le _
  | succ k ih =>
    rw [ra_mx_s]
    have := ih (fun i hi => h i (by omega))
    have := h k (by omega)
    omega
theorem ra_mx_at {k : Nat} {f : Nat → Nat} (h : 0 < k) : ∃ i, i < k ∧ f i = ra_mx k f := by
  induction k with
  | zero => omega
  | succ k ih =>
    rw [ra_mx_s]
    by_cases e : ra_mx k f ≤ f k
    · exact ⟨k, by omega, by omega⟩
    · have hk : 0 < k := by
        refine Nat.pos_of_ne_zero (fun z => e ?_)
        subst z
        exact Nat.zero_le _
      obtain ⟨i, hi, e2⟩ := ih hk
      exact ⟨i, by omega, by omega⟩
def ra_sg (p : Nat → Nat → Nat) (c D : Nat) : Nat := rv_sm 5 (fun b => if rv_hs D b = true then p c b else 0)
def ra_V (p : Nat → Nat → Nat) : Nat → Nat → Nat
  | 0, _ => 0
  | f + 1, C => ra_mx 5 (fun c => if rv_hs C c = true then ra_V p f (rv_wo C c) + ra_sg p c (rv_wo C c) else 0)
theorem ra_V_s {p : Nat → Nat → Nat} {f C : Nat} : ra_V p (f + 1) C = ra_mx 5 (fun c => if rv_hs C c = true then ra_V p f (rv_wo C c) + ra_sg p c (rv_wo C c) else 0) := rfl
theorem ra_V_up {p : Nat → Nat → Nat} {f C : Nat} (hC : C < 32) (h : rv_mn C ≤ f) : ra_V p (f + 1) C = ra_V p f C := by
  induction f generalizing C with
  | zero =>
    rw [ra_V_s]
    have : ra_mx 5 (fun c => if rv_hs C c = true then ra_V p 0 (rv_wo C c) + ra_sg p c (rv_wo C c) else 0) ≤ 0 := ra_mx_le (fun c hc => by
      rw [if_neg (by rw [ra_mn0 hC (by omega) hc]; decide)]
      exact Nat.le_refl _)
    have e0 : ra_V p 0 C = 0 := rfl
    omega
  | succ f ih =>
    rw [ra_V_s, ra_V_s]
    refine ra_mx_congr (fun c hc => ?_)
    by_cases q : rv_hs C c = true
    · have := ra_mn_wo hC hc q
      rw [if_pos q, if_pos q, ih (rv_wo_lt hC) (by omega)]
    · rw [if_neg q, if_neg q]
def ra_vw (p : Nat → Nat → Nat) (C c : Nat) : Nat := ra_V p 5 (rv_wo C c) + ra_sg p c (rv_wo C c)
theorem ra_W_eq {p : Nat → Nat → Nat} {C : Nat} (hC : C < 32) : ra_V p 5 C = ra_mx 5 (fun c => if rv_hs C c = true then ra_vw p C c else 0) := by
  rw [show ra_V p 5 C = ra_V p (4 + 1) C from rfl, ra_V_s]
  refine ra_mx_congr (fun c hc => ?_)
  by_cases q : rv_hs C c = true
  · have := ra_mn_wo hC hc q
    have h5 := @rv_mn_le C
    rw [if_pos q, if_pos q]
    unfold ra_vw
    have e4 : ra_V p (4 + 1) (rv_wo C c) = ra_V p 4 (rv_wo C c) := ra_V_up (rv_wo_lt hC) (by omega)
    rw [show ra_V p 5 (rv_wo C c) = ra_V p 4 (rv_wo C c) from e4]
  · rw [if_neg q, if_neg q]
theorem ra_sg_le {p : Nat → Nat → Nat} {c D : Nat} (hp : ∀ a b, p a b ≤ 2000) : ra_sg p c D ≤ 10000 := by
  refine rv_sm_bd (k := 5) (c := 2000) (fun b _ => ?_)
  split
  · exact hp c b
  · exact Nat.zero_le _
theorem ra_V_le {p : Nat → Nat → Nat} {f C : Nat} (hp : ∀ a b, p a b ≤ 2000) : ra_V p f C ≤ 10000 * f := by
  induction f generalizing C with
  | zero => exact Nat.le_refl _
  | succ f ih =>
    rw [ra_V_s]
    refine ra_mx_le (fun c hc => ?_)
    split
    · have := @ih (rv_wo C c)
      have := @ra_sg_le p c (rv_wo C c) hp
      omega
    · exact Nat.zero_le _
def ra_lds (p : Nat → Nat → Nat) (C : Nat) : Nat := rv_ms 5 (fun c => rv_hs C c && decide (ra_vw p C c = ra_V p 5 C))
theorem ra_lds_ne {p : Nat → Nat → Nat} {C : Nat} (hC : C < 32) (h0 : C ≠ 0) : ra_lds p C ≠ 0 := by
  have e := ra_W_eq (p := p) hC
  obtain ⟨c, hc, h⟩ := ra_mx_at (k := 5) (f := fun c => if rv_hs C c = true then ra_vw p C c else 0) (by decide)
  rw [← e] at h
  cases q : rv_hs C c
  · rw [if_neg (by rw [q]; decide)] at h
    obtain ⟨d, hd, h2⟩ := ra_mn_hs hC (Nat.pos_of_ne_zero (fun z => h0 ((ra_mn_z hC).mp z)))
    have h3 := ra_mx_ge (f := fun c => if rv_hs C c = true then ra_vw p C c else 0) hd
    rw [← e] at h3
    rw [if_pos h2] at h3
    exact ra_ms_ne hd (by rw [h2, decide_eq_true (by omega)]; rfl)
  · rw [if_pos q] at h
    exact ra_ms_ne hc (by rw [q, decide_eq_true h]; rfl)
theorem ra_lds_lt {p : Nat → Nat → Nat} {C : Nat} : ra_lds p C < 32 := rv_ms_lt
theorem ra_lo_ok {C : Nat} (hC : C < 32) (h : C ≠ 0) : rv_lo C < 5 ∧ rv_hs C (rv_lo C) = true ∧ ∀ d, d < rv_lo C → rv_hs C d = false := by
  have := List.all_eq_true.mp (by decide +kernel : ((List.range 32).all fun C => decide (C = 0) || (decide (rv_lo C < 5) && rv_hs C (rv_lo C) && (List.range 5).all fun d => !decide (d < rv_lo C) || !rv_hs C d)) = true) C (rv_rg hC)
  rw [decide_eq_false h, Bool.false_or, Bool.and_eq_true, Bool.and_eq_true, decide_eq_true_eq] at this
  refine ⟨this.1.1, this.1.2, fun d hd => ?_⟩
  have h2 := List.all_eq_true.mp this.2 d (rv_rg (by omega))
  rw [decide_eq_true hd] at h2
  simpa using h2
/-- the best order, candidate by candidate -/
def ra_gr (p : Nat → Nat → Nat) (s : Nat) : Nat → Nat
  | 0 => s
  | i + 1 => rv_wo (ra_gr p s i) (rv_lo (ra_lds p (ra_gr p s i)))
theorem ra_gr_s {p : Nat → Nat → Nat} {s i : Nat} : ra_gr p s (i + 1) = rv_wo (ra_gr p s i) (rv_lo (ra_lds p (ra_gr p s i))) := rfl
theorem ra_ldc {p : Nat → Nat → Nat} {C : Nat} (hC : C < 32) (h0 : C ≠ 0) : rv_lo (ra_lds p C) < 5 ∧ rv_hs C (rv_lo (ra_lds p C)) = true ∧ ra_vw p C (rv_lo (ra_lds p C)) = ra_V p 5 C := by
  have h := ra_lo_ok ra_lds_lt (ra_lds_ne (p := p) hC h0)
  have h2 : rv_hs (ra_lds p C) (rv_lo (ra_lds p C)) = (rv_hs C (rv_lo (ra_lds p C)) && decide (ra_vw p C (rv_lo (ra_lds p C)) = ra_V p 5 C)) := rv_ms_hs h.1
  rw [h.2.1] at h2
  have h3 := h2.symm
  rw [Bool.and_eq_true, decide_eq_true_eq] at h3
  exact ⟨h.1, h3.1, h3.2⟩
theorem ra_gr_ok {p : Nat → Nat → Nat} {s i : Nat} (hs : s < 32) (hi : i ≤ rv_mn s) : ra_gr p s i < 32 ∧ ra_sub (ra_gr p s i) s ∧ rv_mn (ra_gr p s i) + i = rv_mn s := by
  induction i with
  | zero => exact ⟨hs, fun _ _ h => h, rfl⟩
  | succ i ih =>
    obtain ⟨h1, h2, h3⟩ := ih (by omega)
    have hne : ra_gr p s i ≠ 0 := fun z => by
      have := (ra_mn_z h1).mpr z
      omega
    have hl := ra_ldc (p := p) h1 hne
    have hm := ra_mn_wo h1 hl.1 hl.2.1
    refine ⟨rv_wo_lt h1, fun c hc h => ?_, by rw [ra_gr_s]; omega⟩
    rw [ra_gr_s, rv_wo_hs h1 hl.1 hc, Bool.and_eq_true] at h
    exact h2 c hc h.1
/-! the class -/
def ra_kv (p : Nat → Nat → Nat) (s : Nat) (w : rv_W) : Prop := ∀ C, C < 32 → ra_sub C s → w 76 C = Int32.ofNat (ra_V p 5 C)
theorem ra_wo_sub {C s c : Nat} (hC : C < 32) (hc : c < 5) (h : ra_sub C s) : ra_sub (rv_wo C c) s := fun d hd z => by
  rw [rv_wo_hs hC hc hd, Bool.and_eq_true] at z
  exact h d hd z.1
theorem ra_cGreatest {C : Nat} {w : rv_W} (hC : C < 32) : f_X3_greatest (Int32.ofNat C) w = some (w 76 C, w) := by
  unfold f_X3_greatest
  rw [if_neg (rv_n_neg (by omega)), if_pos (show Int32.ofNat C < (32 : Int32) from (rv_n_lt (j := 32) (by omega) (by omega)).mpr hC), rv_n_ck hC (by decide), rv_n_nat (by omega)]
theorem ra_valueWith {s C c : Nat} {n m : Nat → Nat} {w : rv_W} (h : ra_PQ s n m w) (hC : C < 32) (hc : c < 5) (hv : w 76 (rv_wo C c) = Int32.ofNat (ra_V (ra_P s n m) 5 (rv_wo C c))) : f_X3_valueWith (Int32.ofNat C) (Int32.ofNat c) w = some (Int32.ofNat (ra_vw (ra_P s n m) C c), w) := by
  have hD := rv_wo_lt (c := c) hC
  unfold f_X3_valueWith
  rw [e_without hC hc, rv_bd_some, ra_cGreatest hD, rv_bd_some, e_exists hc, rv_bd_some, if_neg (by decide), hv]
  refine rv_E1 5 (fun k => Int32.ofNat (ra_V (ra_P s n m) 5 (rv_wo C c) + rv_sm k (fun b => if rv_hs (rv_wo C c) b = true then ra_P s n m c b else 0))) (fun _ => w) _ _ rfl rfl (fun ag k hk => ?_) (fun ag => ?_) (by decide)
  · simp only [rv_lt5 hk, if_true, e_hasb hD hk, rv_bd_some, rv_b2_0, rv_ck5 hc, rv_ck5 hk, rv_nn5 hc, rv_nn5 hk, h.ab hc hk, rv_lt, rv_n_succ, rv_sm]
    cases rv_hs (rv_wo C c) k
    · simp only [if_true, Bool.false_eq_true, if_false, Nat.add_zero]
    · simp only [Bool.true_eq_false, if_false, if_true, ← Int32.ofNat_add, Nat.add_assoc]
  · rw [if_neg (by decide)]; rfl
theorem ra_imax2 {x y : Nat} (hx : x ≤ 100000) (hy : y ≤ 100000) : (if Int32.ofNat x < Int32.ofNat y then Int32.ofNat y else Int32.ofNat x) = Int32.ofNat (max x y) := by
  by_cases q : x < y
  · rw [if_pos ((rv_n_lt (by omega) (by omega)).mpr q)]; congr 1; omega
  · rw [if_neg (fun z => q ((rv_n_lt (by omega) (by omega)).mp z))]; congr 1; omega
theorem ra_df_sub {C s : Nat} (hC : C < 32) : rv_df C s = 0 ↔ ra_sub C s := by
  refine ⟨fun h c hc z => ?_, fun h => rv_hs_ext rv_df_lt (by decide) (fun c hc => ?_)⟩
  · have e := rv_df_hs (s := C) (t := s) hc
    rw [h, z] at e
    have e3 : rv_hs 0 c = false := by unfold rv_hs; simp
    rw [e3] at e
    cases q : rv_hs s c
    · rw [q] at e; cases e
    · rfl
  · have e3 : rv_hs 0 c = false := by unfold rv_hs; simp
    rw [rv_df_hs hc, e3]
    cases q : rv_hs C c
    · rfl
    · rw [h c hc q]; rfl
theorem ra_weigh {s : Nat} {n m : Nat → Nat} {w : rv_W} (h : ra_PQ s n m w) : rv_T (f_X3_weigh w) (fun _ w' => rv_fr 76 76 w w' ∧ ra_kv (ra_P s n m) s w') := by
  have hs := h.s32
  have hN := h.sum
  have hp : ∀ a b, ra_P s n m a b ≤ 2000 := fun a b => Nat.le_trans ra_P_le hN
  unfold f_X3_weigh
  refine rv_T_for 32 (fun K w' => rv_fr 76 76 w w' ∧ ∀ C, C < K → ra_sub C s → w' 76 C = Int32.ofNat (ra_V (ra_P s n m) 5 C)) (fun ag K w' hK hI q => ?_) (by decide) 0 _ ⟨rv_fr.refl, fun C hC => by omega⟩ (by omega)
  obtain ⟨hf, hI⟩ := hI
  by_cases hK32 : K < 32
  · have e32 : Int32.ofNat K < (32 : Int32) := (rv_n_lt (j := 32) (by omega) (by omega)).mpr hK32
    have eck : ∀ {t : rv_R}, rv_ck (Int32.ofNat K) 32 t = t := fun {t} => rv_n_ck hK32 (by decide)
    have enn : (Int32.ofNat K).toNatClampNeg = K := rv_n_nat (by omega)
    simp only [e32, if_true, eck, enn, rv_lt, rv_n_succ]
    refine rv_T_for 5 (fun c w2 => rv_fr 76 76 w w2 ∧ (∀ C, C < K → ra_sub C s → w2 76 C = Int32.ofNat (ra_V (ra_P s n m) 5 C)) ∧ w2 76 K = Int32.ofNat (ra_mx c (fun c => if rv_hs K c = true then ra_vw (ra_P s n m) K c else 0)) ∧ (c ≠ 0 → ra_sub K s)) (fun ag2 c w2 hc hI2 q2 => ?_) (by decide) 0 _ ⟨hf.trans (rv_up_fr (by omega)), fun C hC hsub => by rw [rv_up_of (by omega), hI C hC hsub], rv_up_same, fun z => absurd rfl z⟩ (by omega)
    obtain ⟨hf2, h2a, h2b, h2c⟩ := hI2
    have hP : ra_PQ s n m w2 := h.fr (fun c j _ _ => hf2 c j (by omega))
    have hd := @rv_df_lt K s
    have e0 : (Int32.ofNat (rv_df K s) = 0) = (rv_df K s = 0) := propext (rv_n_eq (j := 0) (by omega) (by omega))
    by_cases hc5 : c < 5
    · simp only [rv_lt5 hc5, if_true, hP.st, e_andn hK32 hs, e0, e_hasb hK32 hc5, rv_bd_some, rv_b2_0, rv_lt, rv_n_succ]
      by_cases qs : rv_df K s = 0
      · have hsub := (ra_df_sub hK32).mp qs
        rw [if_pos qs]
        have fin : ∀ w3, rv_fr 76 76 w w3 → (∀ C, C < K → ra_sub C s → w3 76 C = Int32.ofNat (ra_V (ra_P s n m) 5 C)) → w3 76 K = Int32.ofNat (ra_mx (c + 1) (fun c => if rv_hs K c = true then ra_vw (ra_P s n m) K c else 0)) → rv_T (ag2 (Int32.ofNat (c + 1)) w3) (fun _ w' => rv_fr 76 76 w w' ∧ ra_kv (ra_P s n m) s w') := fun w3 g1 g2 g3 => q2 hc5 w3 ⟨g1, g2, g3, fun _ => hsub⟩
        cases h1 : rv_hs K c
        · rw [if_pos rfl]
          refine fin w2 hf2 h2a ?_
          rw [ra_mx_s, h2b, if_neg (by rw [h1]; decide), Nat.max_zero]
        · rw [if_neg (by decide)]
          have hlt : rv_wo K c < K := by
            unfold rv_wo
            rw [if_pos (show K.testBit c = true from h1)]
            have : 0 < 2 ^ c := Nat.two_pow_pos c
            have : K ≠ 0 := fun z => by rw [z] at h1; unfold rv_hs at h1; simp at h1
            omega
          have hval := ra_valueWith hP hK32 hc5 (h2a _ hlt (ra_wo_sub hK32 hc5 hsub))
          have l1 := @ra_V_le (ra_P s n m) 5 (rv_wo K c) hp
          have l2 := @ra_sg_le (ra_P s n m) c (rv_wo K c) hp
          have l3 : ra_vw (ra_P s n m) K c ≤ 100000 := by unfold ra_vw; omega
          have l4 : ra_mx c (fun c => if rv_hs K c = true then ra_vw (ra_P s n m) K c else 0) ≤ 100000 := ra_mx_le (fun i _ => by
            split
            · have l1 := @ra_V_le (ra_P s n m) 5 (rv_wo K i) hp
              have l2 := @ra_sg_le (ra_P s n m) i (rv_wo K i) hp
              unfold ra_vw; omega
            · omega)
          simp only [eck, enn, hval, rv_bd_some, h2b, ra_imax2 l4 l3]
          refine fin _ (hf2.trans (rv_up_fr (by omega))) (fun C hC hsub => by rw [rv_up_of (by omega), h2a C hC hsub]) ?_
          rw [rv_up_same, ra_mx_s, if_pos h1]
      · rw [if_neg qs]
        have hc0 : c = 0 := by
          refine Decidable.byContradiction (fun z => qs ((ra_df_sub hK32).mpr (h2c z)))
        refine q hK32 _ ⟨hf2, fun C hC hsub => ?_⟩
        by_cases eC : C = K
        · subst eC; exact absurd ((ra_df_sub hK32).mpr hsub) qs
        · exact h2a C (by omega) hsub
    · have : c = 5 := by omega
      subst this
      simp only [rv_ge5, if_false, rv_lt, rv_n_succ]
      refine q hK32 _ ⟨hf2, fun C hC hsub => ?_⟩
      by_cases eC : C = K
      · subst eC; rw [h2b, ra_W_eq hK32]
      · exact h2a C (by omega) hsub
  · have : K = 32 := by omega
    subst this
    rw [if_neg (by decide)]
    exact rv_T_some.mpr ⟨hf, hI⟩
theorem ra_leaders {s C : Nat} {n m : Nat → Nat} {w : rv_W} (h : ra_PQ s n m w) (hk : ra_kv (ra_P s n m) s w) (hC : C < 32) (hsub : ra_sub C s) : f_X3_leaders (Int32.ofNat C) w = some (Int32.ofNat (ra_lds (ra_P s n m) C), w) := by
  have hN := h.sum
  have hp : ∀ a b, ra_P s n m a b ≤ 2000 := fun a b => Nat.le_trans ra_P_le hN
  unfold f_X3_leaders
  refine rv_E1 5 (fun k => Int32.ofNat (rv_ms k (fun c => rv_hs C c && decide (ra_vw (ra_P s n m) C c = ra_V (ra_P s n m) 5 C)))) (fun _ => w) _ _ rfl rfl (fun ag k hk5 => ?_) (fun ag => ?_) (by decide)
  · have l1 := @ra_V_le (ra_P s n m) 5 (rv_wo C k) hp
    have l2 := @ra_sg_le (ra_P s n m) k (rv_wo C k) hp
    have l3 : ra_vw (ra_P s n m) C k ≤ 100000 := by unfold ra_vw; omega
    have l4 := @ra_V_le (ra_P s n m) 5 C hp
    have e : (Int32.ofNat (ra_vw (ra_P s n m) C k) = Int32.ofNat (ra_V (ra_P s n m) 5 C)) = (ra_vw (ra_P s n m) C k = ra_V (ra_P s n m) 5 C) := propext (rv_n_eq (by omega) (by omega))
    simp only [rv_lt5 hk5, if_true, e_hasb hC hk5, rv_bd_some, rv_b2_0, ra_valueWith h hC hk5 (hk _ (rv_wo_lt hC) (ra_wo_sub hC hk5 hsub)), ra_cGreatest hC, hk C hC hsub, e, rv_lt, rv_n_succ, ra_ms_or hk5, rv_ms_s]
    cases rv_hs C k
    · simp
    · by_cases q : ra_vw (ra_P s n m) C k = ra_V (ra_P s n m) 5 C
      · simp [q]
      · simp [q]
  · rw [if_neg (by decide)]; rfl
theorem ra_candidateAt {s pl : Nat} {n m : Nat → Nat} {w : rv_W} (h : ra_PQ s n m w) (hk : ra_kv (ra_P s n m) s w) (hpl : pl < rv_mn s) : f_X3_candidateAt (Int32.ofNat pl) w = some (Int32.ofNat (rv_lo (ra_lds (ra_P s n m) (ra_gr (ra_P s n m) s pl))), w) := by
  have hs := h.s32
  have h5 := @rv_mn_le s
  unfold f_X3_candidateAt
  rw [h.st]
  refine rv_E1 pl (fun k => Int32.ofNat (ra_gr (ra_P s n m) s k)) (fun _ => w) _ _ rfl rfl (fun ag k hk2 => ?_) (fun ag => ?_) (by show pl < 10000; omega)
  · have hg := ra_gr_ok (p := ra_P s n m) hs (show k ≤ rv_mn s by omega)
    have hne : ra_gr (ra_P s n m) s k ≠ 0 := fun z => by
      have := (ra_mn_z hg.1).mpr z
      omega
    have hl := ra_ldc (p := ra_P s n m) hg.1 hne
    have e1 : (Int32.ofNat k < Int32.ofNat pl) = True := eq_true ((rv_n_lt (by omega) (by omega)).mpr hk2)
    simp only [rv_jn, e1, rv_lt5 (show k < 5 by omega), if_true, ra_leaders h hk hg.1 hg.2.1, rv_bd_some, e_lowest ra_lds_lt, ra_lds_ne (p := ra_P s n m) hg.1 hne, if_false, e_without hg.1 hl.1, rv_lt, rv_n_succ]
    rfl
  · have hg := ra_gr_ok (p := ra_P s n m) hs (show pl ≤ rv_mn s by omega)
    have hne : ra_gr (ra_P s n m) s pl ≠ 0 := fun z => by
      have := (ra_mn_z hg.1).mpr z
      omega
    simp only [rv_jn, ra_geG, if_false, ra_leaders h hk hg.1 hg.2.1, rv_bd_some, e_lowest ra_lds_lt, ra_lds_ne (p := ra_P s n m) hg.1 hne]
