/-! remembered -/
theorem ra_rst {k : Nat} (h : k ∈ ra_sts) : rv_st (Int32.ofNat k).toNatClampNeg := by
  rcases ra_sts_in h with rfl | rfl | rfl | rfl | rfl <;> decide
theorem ra_rnn {k : Nat} (h : k ∈ ra_sts) : (Int32.ofNat k).toNatClampNeg = k := by
  rcases ra_sts_in h with rfl | rfl | rfl | rfl | rfl <;> decide
def ra_rk (w1 : rv_W) : rv_R :=
  if (w1 0 2) < 0 then
  some (0, w1)
  else
  if (w1 0 2) < (5 : Int32) then
  rv_ck (w1 0 2) 5 (rv_gd (rv_st (w1 4 (w1 0 2).toNatClampNeg).toNatClampNeg) (
  rv_bd (f_X8_copy (w1 4 (w1 0 2).toNatClampNeg).toNatClampNeg 1 w1) (fun (r5 : Int32) (w6 : rv_W) =>
  rv_lt (rv_up w6 0 2 ((w6 0 2) + (1 : Int32))) (fun (w7 : rv_W) =>
  some (0, w7)))))
  else
  some (0, w1)
def ra_rf (w w' : rv_W) : Prop := ∀ c j, ¬ (c = 0 ∧ j = 2 ∨ 4 ≤ c ∧ c ≤ 19) → w' c j = w c j
theorem ra_rkT {K s G : Nat} {n b : Nat → Nat} {d : Nat → ra_R} {w : rv_W} (hK : K < 5) (h : ra_ch K d w) (hS : rv_ST 1 s G n b w) : rv_T (ra_rk w) (fun _ w' => ra_ch (K + 1) (rv_at1 d K (ra_R.mk s G n b)) w' ∧ ra_rf w w') := by
  obtain ⟨c1, hh, ⟨c2, c2'⟩, c3⟩ := h
  have hm := (c2 K hK).1
  unfold ra_rk
  rw [c1, if_neg (rv_n_neg (by omega)), if_pos (of_eq_true (rv_lt5 hK)), rv_ck5 hK, rv_nn5 hK, (c2 K hK).2, ra_rnn hm]
  have hk := ra_sts_in hm
  refine rv_T_gd.mpr ⟨by have := ra_rst hm; rw [ra_rnn hm] at this; exact this, ?_⟩
  refine rv_T_call (ra_copy (by omega)) (fun _ w2 ⟨hf, h0, h1, hc⟩ => ?_)
  rw [rv_T_lt, hf 0 2 (by omega), c1, rv_n_succ]
  refine rv_T_some.mpr ⟨⟨rv_up_same, hh, ⟨fun i hi => ⟨(c2 i hi).1, by rw [rv_up_of (by omega), hf _ _ (by omega), (c2 i hi).2]⟩, c2'⟩, fun i hi => ?_⟩, fun c j z => by rw [rv_up_of (by omega), hf _ _ (by omega)]⟩
  by_cases e : i = K
  · subst e
    rw [ra_at1_same]
    have := hS.copy h0 h1 hc
    exact this.fr (fun c j z => by rw [rv_up_of (by omega)])
  · rw [ra_at1_ne e]
    have hi2 : i < K := by omega
    have hmi := ra_sts_in (c2 i (by omega)).1
    have hne : hh i ≠ hh K := fun z => e (c2' i K (by omega) hK z)
    exact (c3 i hi2).fr (fun c j z => by rw [rv_up_of (by omega), hf _ _ (by omega)])
theorem ra_dropOldest {d : Nat → ra_R} {w : rv_W} (h : ra_ch 5 d w) : rv_T (f_X10_dropOldest w) (fun _ w' => ra_ch 4 (fun i => d (i + 1)) w' ∧ ∀ c j, ¬ (c = 0 ∧ j = 2 ∨ c = 4) → w' c j = w c j) := by
  obtain ⟨c1, hh, ⟨c2, c2'⟩, c3⟩ := h
  have h0 := c2 0 (by omega)
  unfold f_X10_dropOldest
  rw [ra_ck0, ra_nn0, h0.2]
  refine rv_T_gd.mpr ⟨ra_rst h0.1, ?_⟩
  refine rv_T_for 5 (fun k w' => 1 ≤ k ∧ (∀ c j, ¬ c = 4 → w' c j = w c j) ∧ (∀ j, j < 5 → w' 4 j = Int32.ofNat (if j + 1 < k then hh (j + 1) else hh j))) (fun ag k w' hk hI q => ?_) (by decide) 1 _ ⟨Nat.le_refl _, fun _ _ _ => rfl, fun j hj => by rw [if_neg (by omega)]; exact (c2 j hj).2⟩ (by omega)
  obtain ⟨k1, hf, h4⟩ := hI
  by_cases hk5 : k < 5
  · have em : Int32.ofNat k - 1 = Int32.ofNat (k - 1) := by rw [Int32.ofNat_sub _ _ k1]; rfl
    have hm := (c2 k hk5).1
    have hwk : w' 4 k = Int32.ofNat (hh k) := by rw [h4 k hk5, if_neg (by omega)]
    rw [if_pos (of_eq_true (rv_lt5 hk5)), rv_ck5 hk5, rv_nn5 hk5, hwk]
    refine rv_T_gd.mpr ⟨ra_rst hm, ?_⟩
    rw [em, rv_ck5 (by omega), rv_nn5 (by omega), rv_T_lt, rv_T_lt, rv_n_succ, ra_rnn hm]
    refine q hk5 _ ⟨by omega, fun c j z => by rw [rv_up_ne z, hf c j z], fun j hj => ?_⟩
    by_cases e : j = k - 1
    · subst e
      rw [rv_up_same, if_pos (by omega)]
      congr 2; omega
    · rw [rv_up_of (fun z => e z.2), h4 j hj]
      by_cases z : j + 1 < k
      · rw [if_pos z, if_pos (by omega)]
      · rw [if_neg z, if_neg (by omega)]
  · have : k = 5 := by omega
    subst this
    have e4 : ((5 : Int32) - (1 : Int32)) = Int32.ofNat 4 := by decide
    rw [if_neg (of_eq_false rv_ge5), e4, rv_ck5 (by omega), rv_nn5 (by omega), ra_rnn h0.1, rv_T_lt, rv_T_lt]
    refine rv_T_some.mpr ⟨⟨rv_up_same, fun i => if i < 4 then hh (i + 1) else hh 0, ⟨fun i hi => ?_, fun i j hi hj e => ?_⟩, fun i hi => ?_⟩, fun c j z => by rw [rv_up_of (by omega), rv_up_of (by omega), hf c j (by omega)]⟩
    · dsimp only
      by_cases q4 : i < 4
      · rw [if_pos q4]
        refine ⟨(c2 _ (by omega)).1, ?_⟩
        rw [rv_up_of (by omega), rv_up_of (by omega), h4 i hi, if_pos (by omega)]
      · rw [if_neg q4]
        have : i = 4 := by omega
        subst this
        exact ⟨h0.1, by rw [rv_up_of (by omega), rv_up_same]⟩
    · dsimp only at e
      by_cases q1 : i < 4
      · rw [if_pos q1] at e
        by_cases q2 : j < 4
        · rw [if_pos q2] at e
          have := c2' _ _ (by omega) (by omega) e
          omega
        · rw [if_neg q2] at e
          have := c2' _ _ (by omega) (by omega) e
          omega
      · rw [if_neg q1] at e
        by_cases q2 : j < 4
        · rw [if_pos q2] at e
          have := c2' _ _ (by omega) (by omega) e
          omega
        · omega
    · dsimp only
      rw [if_pos (by omega)]
      have hmi := ra_sts_in (c2 (i + 1) (by omega)).1
      exact (c3 (i + 1) (by omega)).fr (fun c j z => by rw [rv_up_of (by omega), rv_up_of (by omega), hf c j (by omega)])
theorem ra_remember {K s G : Nat} {n b : Nat → Nat} {d : Nat → ra_R} {w : rv_W} (hK : K ≤ 5) (h : ra_ch K d w) (hS : rv_ST 1 s G n b w) : rv_T (f_X10_remember w) (fun _ w' => ra_ch (ra_hK K) (ra_hD K d (ra_R.mk s G n b)) w' ∧ ra_rf w w') := by
  unfold f_X10_remember
  rw [rv_T_jn]
  show rv_T (if (w 0 2) < (5 : Int32) then ra_rk w else rv_bd (f_X10_dropOldest w) (fun _ w9 => ra_rk w9)) _
  have e5 : (w 0 2 < (5 : Int32)) = (K < 5) := by rw [h.1]; exact propext (rv_n_lt (j := 5) (by omega) (by omega))
  simp only [e5]
  unfold ra_hK ra_hD
  by_cases q : K < 5
  · simp only [if_pos q]
    exact ra_rkT q h hS
  · have : K = 5 := by omega
    subst this
    simp only [if_neg q]
    refine rv_T_call (ra_dropOldest h) (fun _ w2 ⟨h2, hf⟩ => ?_)
    refine (ra_rkT (by omega) h2 (hS.fr (fun c j z => hf c j (by omega)))).mono (fun _ w3 ⟨h3, hf3⟩ => ⟨?_, fun c j z => by rw [hf3 c j z, hf c j (by omega)]⟩)
    have e : rv_at1 (fun i => d (i + 1)) 4 (ra_R.mk s G n b) = fun i => if i < 4 then d (i + 1) else (if i = 4 then ra_R.mk s G n b else d (i + 1)) := by
      funext i
      unfold rv_at1
      by_cases z : i = 4
      · subst z; rfl
      · rw [if_neg z]
        dsimp only
        by_cases y : i < 4
        · rw [if_pos y]
        · rw [if_neg y]
    obtain ⟨a1, a2, a3, a4⟩ := h3
    refine ⟨a1, a2, a3, fun i hi => ?_⟩
    have := a4 i hi
    rw [e] at this
    dsimp only at this ⊢
    by_cases y : i < 4
    · rw [if_pos y] at this ⊢; exact this
    · rw [if_neg y, if_pos (by omega)] at this; rw [if_neg y]; exact this
