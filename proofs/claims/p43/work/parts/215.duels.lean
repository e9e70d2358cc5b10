/-! who beats whom: the champion, the loser, the Smith set -/
def rv_df (s t : Nat) : Nat := rv_ms 5 (fun c => rv_hs s c && !rv_hs t c)
theorem rv_df_lt {s t : Nat} : rv_df s t < 32 := rv_ms_lt
theorem rv_df_hs {s t c : Nat} (hc : c < 5) : rv_hs (rv_df s t) c = (rv_hs s c && !rv_hs t c) := rv_ms_hs hc
theorem e_andn {s t : Nat} (hs : s < 32) (ht : t < 32) : Int32.ofNat s &&& (Int32.ofNat t ^^^ (-1 : Int32)) = Int32.ofNat (rv_df s t) :=
  of_decide_eq_true (rv_all2 (p := fun s t => decide (Int32.ofNat s &&& (Int32.ofNat t ^^^ (-1 : Int32)) = Int32.ofNat (rv_df s t))) (l := List.range 32) (m := List.range 32) (by decide +kernel) (rv_rg hs) (rv_rg ht))
theorem rv_hs_pow {a c : Nat} (ha : a < 5) (hc : c < 5) : rv_hs (2 ^ a) c = (c == a) :=
  eq_of_beq (rv_all2 (p := fun a c => rv_hs (2 ^ a) c == (c == a)) (l := List.range 5) (m := List.range 5) (by decide +kernel) (rv_rg ha) (rv_rg hc))
theorem rv_pow_lt {a : Nat} (ha : a < 5) : 2 ^ a < 32 := of_decide_eq_true (List.all_eq_true.mp (by decide : ((List.range 5).all fun a => decide (2 ^ a < 32)) = true) a (rv_rg ha))
def ra_dm (s : Nat) (p : Nat → Nat → Nat) (t : Nat) : Bool := rv_al 5 (fun a => rv_al 5 (fun b => !(rv_hs t a && (rv_hs s b && !rv_hs t b)) || decide (p b a < p a b)))
def ra_ba (s : Nat) (p : Nat → Nat → Nat) (a : Nat) : Bool := rv_hs s a && rv_al 5 (fun b => (b == a) || (!rv_hs s b || decide (p b a < p a b)))
def ra_ls (s : Nat) (p : Nat → Nat → Nat) (a : Nat) : Bool := (rv_hs s a && decide (1 < rv_mn s)) && rv_al 5 (fun b => (b == a) || (!rv_hs s b || decide (p a b < p b a)))
def ra_lst (q : Nat → Bool) (d : Int32) : Nat → Int32
  | 0 => d
  | k + 1 => if q k = true then Int32.ofNat k else ra_lst q d k
theorem ra_lst_s {q : Nat → Bool} {d : Int32} {k : Nat} : ra_lst q d (k + 1) = if q k = true then Int32.ofNat k else ra_lst q d k := rfl
theorem ra_lst_none {q : Nat → Bool} {d : Int32} {k : Nat} (h : ∀ j, j < k → q j = false) : ra_lst q d k = d := by
  induction k with
  | zero => rfl
  | succ k ih => rw [ra_lst_s, if_neg (by rw [h k (by omega)]; decide), ih (fun j hj => h j (by omega))]
theorem ra_lst_one {q : Nat → Bool} {d : Int32} {a k : Nat} (ha : a < k) (h : q a = true) (hu : ∀ j, j < k → q j = true → j = a) : ra_lst q d k = Int32.ofNat a := by
  induction k with
  | zero => omega
  | succ k ih =>
    rw [ra_lst_s]
    by_cases e : k = a
    · rw [e, if_pos h]
    · rw [if_neg (fun z => e (hu k (by omega) z)), ih (by omega) (fun j hj => hu j (by omega))]
theorem ra_ba_u {s a b : Nat} {p : Nat → Nat → Nat} (hb : b < 5) (ha : a < 5) (h : ra_ba s p a = true) (h2 : ra_ba s p b = true) : b = a := by
  unfold ra_ba at h h2
  rw [Bool.and_eq_true] at h h2
  have e1 := rv_al_iff.mp h.2 b hb
  have e2 := rv_al_iff.mp h2.2 a ha
  rw [h2.1] at e1
  rw [h.1] at e2
  simp only [Bool.not_true, Bool.false_or, Bool.or_eq_true, beq_iff_eq, decide_eq_true_eq] at e1 e2
  omega
theorem ra_ls_u {s a b : Nat} {p : Nat → Nat → Nat} (hb : b < 5) (ha : a < 5) (h : ra_ls s p a = true) (h2 : ra_ls s p b = true) : b = a := by
  unfold ra_ls at h h2
  rw [Bool.and_eq_true, Bool.and_eq_true] at h h2
  have e1 := rv_al_iff.mp h.2 b hb
  have e2 := rv_al_iff.mp h2.2 a ha
  rw [h2.1.1] at e1
  rw [h.1.1] at e2
  simp only [Bool.not_true, Bool.false_or, Bool.or_eq_true, beq_iff_eq, decide_eq_true_eq] at e1 e2
  omega
theorem ra_dm_iff {s t : Nat} {p : Nat → Nat → Nat} : ra_dm s p t = true ↔ ∀ a, a < 5 → ∀ b, b < 5 → rv_hs t a = true → rv_hs s b = true → rv_hs t b = false → p b a < p a b := by
  unfold ra_dm
  rw [rv_al_iff]
  refine ⟨fun h a ha b hb h1 h2 h3 => ?_, fun h a ha => rv_al_iff.mpr (fun b hb => ?_)⟩
  · have := rv_al_iff.mp (h a ha) b hb
    rw [h1, h2, h3] at this
    simpa using this
  · have := h a ha b hb
    cases h1 : rv_hs t a <;> cases h2 : rv_hs s b <;> cases h3 : rv_hs t b <;> simp_all
theorem ra_dm_ba {s a : Nat} {p : Nat → Nat → Nat} (ha : a < 5) (hs : rv_hs s a = true) : ra_dm s p (2 ^ a) = ra_ba s p a := by
  rw [Bool.eq_iff_iff, ra_dm_iff]
  unfold ra_ba
  rw [Bool.and_eq_true, rv_al_iff]
  refine ⟨fun h => ⟨hs, fun b hb => ?_⟩, fun h c hc b hb h1 h2 h3 => ?_⟩
  · have := h a ha b hb (by rw [rv_hs_pow ha ha]; exact beq_self_eq_true a)
    rw [rv_hs_pow ha hb] at this
    cases h2 : rv_hs s b <;> cases h3 : (b == a) <;> simp_all
  · rw [rv_hs_pow ha hc, beq_iff_eq] at h1
    subst h1
    rw [rv_hs_pow ha hb] at h3
    have := h.2 b hb
    rw [h2, h3] at this
    simpa using this
theorem ra_dm_ls {s a : Nat} {p : Nat → Nat → Nat} (h32 : s < 32) (ha : a < 5) (hs : rv_hs s a = true) : (decide (rv_wo s a ≠ 0) && ra_dm s p (rv_wo s a)) = ra_ls s p a := by
  have e : decide (rv_wo s a ≠ 0) = decide (1 < rv_mn s) := by
    have := rv_all2 (p := fun s a => !rv_hs s a || decide (rv_wo s a ≠ 0) == decide (1 < rv_mn s)) (l := List.range 32) (m := List.range 5) (by decide +kernel) (rv_rg h32) (rv_rg ha)
    rw [hs, Bool.not_true, Bool.false_or] at this
    exact eq_of_beq this
  unfold ra_ls
  rw [e, hs, Bool.true_and]
  congr 1
  rw [Bool.eq_iff_iff, ra_dm_iff, rv_al_iff]
  refine ⟨fun h b hb => ?_, fun h c hc b hb h1 h2 h3 => ?_⟩
  · have := h b hb a ha
    rw [rv_wo_hs h32 ha hb, rv_wo_hs h32 ha ha] at this
    by_cases q : b = a
    · subst q; simp
    · cases h2 : rv_hs s b
      · simp
      · simp_all
  · rw [rv_wo_hs h32 ha hc] at h1
    rw [rv_wo_hs h32 ha hb] at h3
    by_cases q : b = a
    · subst q
      by_cases q2 : c = b
      · subst q2; simp at h1
      · have := h c hc
        cases h5 : rv_hs s c
        · rw [h5] at h1; simp at h1
        · rw [h5] at this
          simp only [Bool.not_true, Bool.false_or, Bool.or_eq_true, beq_iff_eq, decide_eq_true_eq] at this
          omega
    · rw [h2] at h3
      simp [q] at h3
theorem ra_dominates {s t : Nat} {n m : Nat → Nat} {w : rv_W} (h : ra_PQ s n m w) (ht : t < 32) : f_X2_dominates (Int32.ofNat t) w = some (rv_b2 (ra_dm s (ra_P s n m) t), w) := by
  have hs := h.s32
  have hN := h.sum
  unfold f_X2_dominates
  refine rv_C0 5 (fun a w' => w' = w ∧ ∀ c, c < a → rv_al 5 (fun b => !(rv_hs t c && (rv_hs s b && !rv_hs t b)) || decide (ra_P s n m b c < ra_P s n m c b)) = true) 0 _ ⟨rfl, fun c hc => by omega⟩ (by omega) (by decide) (fun ag a w' ha hI ih => ?_)
  obtain ⟨rfl, hI⟩ := hI
  by_cases ha5 : a < 5
  · simp only [rv_lt5 ha5, if_true]
    refine rv_C0 5 (fun b w2 => w2 = w' ∧ ∀ c, c < b → (!(rv_hs t a && (rv_hs s c && !rv_hs t c)) || decide (ra_P s n m c a < ra_P s n m a c)) = true) 0 _ ⟨rfl, fun c hc => by omega⟩ (by omega) (by decide) (fun ag2 b w2 hb hI2 ih2 => ?_)
    obtain ⟨rfl, hI2⟩ := hI2
    by_cases hb5 : b < 5
    · have l1 := @ra_P_le s a b n m
      have l2 := @ra_P_le s b a n m
      have e : (Int32.ofNat (ra_P s n m b a) < Int32.ofNat (ra_P s n m a b)) = (ra_P s n m b a < ra_P s n m a b) := propext (rv_n_lt (by omega) (by omega))
      simp only [rv_lt5 hb5, if_true, e_hasb ht ha5, rv_bd_some, h.st, e_andn hs ht, e_hasb rv_df_lt hb5, rv_df_hs hb5, rv_b2_0, rv_ck5 ha5, rv_ck5 hb5, rv_nn5 ha5, rv_nn5 hb5, h.ab ha5 hb5, h.ab hb5 ha5, e, rv_lt, rv_n_succ]
      have fin : (!(rv_hs t a && (rv_hs s b && !rv_hs t b)) || decide (ra_P s n m b a < ra_P s n m a b)) = true → ag2 (Int32.ofNat (b + 1)) w2 = some (rv_b2 (ra_dm s (ra_P s n m) t), w2) := fun z => ih2 hb5 _ ⟨rfl, fun c hc => by
        by_cases q : c = b
        · rw [q]; exact z
        · exact hI2 c (by omega)⟩
      cases h1 : rv_hs t a
      · rw [h1] at fin
        simpa using fin
      · rw [h1] at fin
        cases h2 : (rv_hs s b && !rv_hs t b)
        · rw [h2] at fin
          simpa using fin
        · rw [h2] at fin
          by_cases q : ra_P s n m b a < ra_P s n m a b
          · rw [decide_eq_true q] at fin
            simpa [q] using fin
          · have hd : ra_dm s (ra_P s n m) t = false := by
              rw [Bool.eq_false_iff]
              intro z
              have z2 := rv_al_iff.mp (rv_al_iff.mp z a ha5) b hb5
              rw [h1, h2, decide_eq_false q] at z2
              cases z2
            simp only [q, Bool.true_eq_false, if_false, hd, rv_b2_f]
    · have : b = 5 := by omega
      subst this
      simp only [rv_ge5, if_false, rv_lt, rv_n_succ]
      refine ih ha5 _ ⟨rfl, fun c hc => ?_⟩
      by_cases q : c = a
      · rw [q]; exact rv_al_iff.mpr hI2
      · exact hI c (by omega)
  · have : a = 5 := by omega
    subst this
    simp only [rv_ge5, if_false]
    have hd : ra_dm s (ra_P s n m) t = true := rv_al_iff.mpr hI
    rw [hd, rv_b2_t]
theorem ra_champion {s : Nat} {n m : Nat → Nat} {w : rv_W} (h : ra_PQ s n m w) : f_X2_champion w = some (ra_lst (ra_ba s (ra_P s n m)) (-1) 5, w) := by
  have hs := h.s32
  unfold f_X2_champion
  refine rv_C0 5 (fun a w' => w' = w ∧ ∀ c, c < a → ra_ba s (ra_P s n m) c = false) 0 _ ⟨rfl, fun c hc => by omega⟩ (by omega) (by decide) (fun ag a w' ha hI ih => ?_)
  obtain ⟨rfl, hI⟩ := hI
  by_cases ha5 : a < 5
  · simp only [rv_lt5 ha5, if_true, h.st, e_hasb hs ha5, rv_bd_some, rv_b2_0, rv_shl ha5, ra_dominates h (rv_pow_lt ha5), rv_lt, rv_n_succ]
    have fin : ra_ba s (ra_P s n m) a = false → ag (Int32.ofNat (a + 1)) w' = some (ra_lst (ra_ba s (ra_P s n m)) (-1) 5, w') := fun z => ih ha5 _ ⟨rfl, fun c hc => by
      by_cases q : c = a
      · rw [q]; exact z
      · exact hI c (by omega)⟩
    cases h1 : rv_hs s a
    · simp only [if_true]
      exact fin (by unfold ra_ba; rw [h1, Bool.false_and])
    · rw [ra_dm_ba ha5 h1]
      cases h2 : ra_ba s (ra_P s n m) a
      · simp only [Bool.true_eq_false, if_true, if_false]
        exact fin h2
      · simp only [Bool.true_eq_false, if_false]
        rw [ra_lst_one ha5 h2 (fun j hj z => ra_ba_u hj ha5 h2 z)]
  · have : a = 5 := by omega
    subst this
    simp only [rv_ge5, if_false]
    rw [ra_lst_none hI]
theorem ra_loser {s : Nat} {n m : Nat → Nat} {w : rv_W} (h : ra_PQ s n m w) : f_X2_loser w = some (ra_lst (ra_ls s (ra_P s n m)) (-1) 5, w) := by
  have hs := h.s32
  unfold f_X2_loser
  refine rv_C0 5 (fun a w' => w' = w ∧ ∀ c, c < a → ra_ls s (ra_P s n m) c = false) 0 _ ⟨rfl, fun c hc => by omega⟩ (by omega) (by decide) (fun ag a w' ha hI ih => ?_)
  obtain ⟨rfl, hI⟩ := hI
  by_cases ha5 : a < 5
  · have hwo := rv_wo_lt (c := a) hs
    have e0 : (Int32.ofNat (rv_wo s a) = 0) = (rv_wo s a = 0) := propext (rv_n_eq (j := 0) (by omega) (by omega))
    simp only [rv_lt5 ha5, if_true, h.st, e_hasb hs ha5, e_without hs ha5, rv_bd_some, rv_b2_0, ra_dominates h hwo, rv_lt, rv_n_succ, e0]
    have fin : ra_ls s (ra_P s n m) a = false → ag (Int32.ofNat (a + 1)) w' = some (ra_lst (ra_ls s (ra_P s n m)) (-1) 5, w') := fun z => ih ha5 _ ⟨rfl, fun c hc => by
      by_cases q : c = a
      · rw [q]; exact z
      · exact hI c (by omega)⟩
    cases h1 : rv_hs s a
    · simp only [if_true]
      exact fin (by unfold ra_ls; rw [h1, Bool.false_and, Bool.false_and])
    · have hd := ra_dm_ls (p := ra_P s n m) hs ha5 h1
      by_cases q : rv_wo s a = 0
      · rw [decide_eq_false (fun z => z q), Bool.false_and] at hd
        simp only [Bool.true_eq_false, if_false, q, if_true]
        exact fin hd.symm
      · rw [decide_eq_true q, Bool.true_and] at hd
        rw [hd]
        cases h2 : ra_ls s (ra_P s n m) a
        · simp only [Bool.true_eq_false, if_true, if_false, q]
          exact fin h2
        · simp only [Bool.true_eq_false, if_false, q]
          rw [ra_lst_one ha5 h2 (fun j hj z => ra_ls_u hj ha5 h2 z)]
  · have : a = 5 := by omega
    subst this
    simp only [rv_ge5, if_false]
    rw [ra_lst_none hI]
/-- the smallest dominating set among the first ones -/
def ra_sk (s : Nat) (p : Nat → Nat → Nat) : Nat → Nat
  | 0 => s
  | k + 1 => if rv_df (k + 1) s = 0 ∧ rv_mn (k + 1) < rv_mn (ra_sk s p k) ∧ ra_dm s p (k + 1) = true then k + 1 else ra_sk s p k
theorem ra_sk_s {s k : Nat} {p : Nat → Nat → Nat} : ra_sk s p (k + 1) = if rv_df (k + 1) s = 0 ∧ rv_mn (k + 1) < rv_mn (ra_sk s p k) ∧ ra_dm s p (k + 1) = true then k + 1 else ra_sk s p k := rfl
theorem ra_sk_lt {s k : Nat} {p : Nat → Nat → Nat} (hs : s < 32) (hk : k < 32) : ra_sk s p k < 32 := by
  induction k with
  | zero => exact hs
  | succ k ih =>
    rw [ra_sk_s]
    split
    · exact hk
    · exact ih (by omega)
theorem ra_smithSet {s : Nat} {n m : Nat → Nat} {w : rv_W} (h : ra_PQ s n m w) : f_X2_smithSet w = some (Int32.ofNat (ra_sk s (ra_P s n m) 30), w) := by
  have hs := h.s32
  unfold f_X2_smithSet
  rw [h.st]
  refine rv_C1 31 (fun k x w' => 1 ≤ k ∧ w' = w ∧ x = Int32.ofNat (ra_sk s (ra_P s n m) (k - 1))) 1 _ _ ⟨by omega, rfl, rfl⟩ (by omega) (by decide) (fun ag k x w' hk hI ih => ?_)
  obtain ⟨hk1, rfl, rfl⟩ := hI
  by_cases hk31 : k < 31
  · have e : Int32.ofNat k < (31 : Int32) := (rv_n_lt (j := 31) (by omega) (by omega)).mpr hk31
    have hd := @rv_df_lt k s
    have e0 : (Int32.ofNat (rv_df k s) = 0) = (rv_df k s = 0) := propext (rv_n_eq (j := 0) (by omega) (by omega))
    have hb := ra_sk_lt (s := s) (k := k - 1) (p := ra_P s n m) hs (by omega)
    have l1 := @rv_mn_le k
    have l2 := @rv_mn_le (ra_sk s (ra_P s n m) (k - 1))
    have e1 : (Int32.ofNat (rv_mn k) < Int32.ofNat (rv_mn (ra_sk s (ra_P s n m) (k - 1)))) = (rv_mn k < rv_mn (ra_sk s (ra_P s n m) (k - 1))) := propext (rv_n_lt (by omega) (by omega))
    simp only [e, if_true, h.st, e_andn (show k < 32 by omega) hs, e0, ra_dominates h (show k < 32 by omega), rv_bd_some, rv_b2_0, e_bitCount (show k < 32 by omega), e_bitCount hb, e1, rv_lt, rv_n_succ]
    have es := @ra_sk_s s (k - 1) (ra_P s n m)
    rw [show k - 1 + 1 = k by omega] at es
    have fin : ∀ x, x = ra_sk s (ra_P s n m) k → ag (Int32.ofNat x) (Int32.ofNat (k + 1)) w' = some (Int32.ofNat (ra_sk s (ra_P s n m) 30), w') := fun x hx => ih hk31 _ _ ⟨by omega, rfl, by rw [hx, show k + 1 - 1 = k by omega]⟩
    by_cases q1 : rv_df k s = 0
    · cases q2 : ra_dm s (ra_P s n m) k
      · simp only [q1, if_true]
        refine fin _ ?_
        rw [es, if_neg (fun z => by rw [q2] at z; cases z.2.2)]
      · by_cases q3 : rv_mn k < rv_mn (ra_sk s (ra_P s n m) (k - 1))
        · simp only [q1, q3, if_true, Bool.true_eq_false, if_false]
          refine fin _ ?_
          rw [es, if_pos ⟨q1, q3, q2⟩]
        · simp only [q1, q3, if_true, Bool.true_eq_false, if_false]
          refine fin _ ?_
          rw [es, if_neg (fun z => q3 z.2.1)]
    · simp only [q1, if_false]
      refine fin _ ?_
      rw [es, if_neg (fun z => q1 z.1)]
  · have : k = 31 := by omega
    subst this
    rw [if_neg (by decide)]
/-! of the model -/
theorem ra_c852 {t : rv_R} : rv_ck (1 : Int32) 852 t = t := rv_n_ck (i := 1) (by decide) (by decide)
theorem ra_nn1 : (1 : Int32).toNatClampNeg = 1 := rfl
