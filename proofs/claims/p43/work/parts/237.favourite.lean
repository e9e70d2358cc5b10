/-! favourite -/
def ra_cw (s : Nat) (n m : Nat → Nat) (k c : Nat) : Nat := rv_cn k (fun r => ra_w r s n m == c)
def ra_bst (f : Nat → Nat) : Nat → Nat × Nat
  | 0 => (5, 0)
  | c + 1 => if (ra_bst f c).2 < f c then (c, f c) else ra_bst f c
theorem ra_bst_s {f : Nat → Nat} {c : Nat} : ra_bst f (c + 1) = if (ra_bst f c).2 < f c then (c, f c) else ra_bst f c := rfl
def ra_amx (f : Nat → Nat) : Nat → Nat
  | 0 => 0
  | c + 1 => if f (ra_amx f c) < f c then c else ra_amx f c
theorem ra_amx_s {f : Nat → Nat} {c : Nat} : ra_amx f (c + 1) = if f (ra_amx f c) < f c then c else ra_amx f c := rfl
theorem ra_bst_amx {f : Nat → Nat} {k : Nat} : (ra_bst f (k + 1)).2 = f (ra_amx f (k + 1)) ∧ (ra_bst f (k + 1)).1 = (if f (ra_amx f (k + 1)) = 0 then 5 else ra_amx f (k + 1)) := by
  induction k with
  | zero =>
    have e : ra_amx f 1 = 0 := by rw [ra_amx_s]; split <;> rfl
    rw [ra_bst_s, e]
    by_cases q : 0 < f 0
    · rw [if_pos (show (ra_bst f 0).2 < f 0 from q), if_neg (by omega)]
      exact ⟨rfl, rfl⟩
    · rw [if_neg (show ¬ (ra_bst f 0).2 < f 0 from q), if_pos (by omega)]
      exact ⟨by show 0 = f 0; omega, rfl⟩
  | succ k ih =>
    rw [ra_bst_s, ra_amx_s, ih.1]
    by_cases q : f (ra_amx f (k + 1)) < f (k + 1)
    · rw [if_pos q, if_pos q, if_neg (by omega)]
      exact ⟨rfl, rfl⟩
    · rw [if_neg q, if_neg q]
      exact ih
theorem ra_amx_ge {f : Nat → Nat} {k c : Nat} (h : c < k) : f c ≤ f (ra_amx f k) := by
  induction k with
  | zero => omega
  | succ k ih =>
    rw [ra_amx_s]
    by_cases e : c = k
    · subst e
      split
      · exact Nat.le_refl _
      · omega
    · have := ih (by omega)
      split
      · omega
      · exact this
theorem ra_amx_lt {f : Nat → Nat} {k : Nat} (h : 0 < k) : ra_amx f k < k := by
  induction k with
  | zero => omega
  | succ k ih =>
    rw [ra_amx_s]
    split
    · omega
    · cases k with
      | zero => exact Nat.zero_lt_one
      | succ k => have := ih (by omega); omega
theorem ra_cw_pos {s : Nat} {n m : Nat → Nat} : 0 < ra_cw s n m 12 (ra_w 0 s n m) := by
  have : ∀ k, 0 < k → 0 < ra_cw s n m k (ra_w 0 s n m) := by
    intro k
    induction k with
    | zero => intro h; omega
    | succ k ih =>
      intro _
      unfold ra_cw at *
      rw [rv_cn_s]
      cases k with
      | zero => rw [if_pos (beq_self_eq_true _)]; exact Nat.succ_pos _
      | succ k =>
        have := ih (by omega)
        split
        · exact Nat.succ_pos _
        · exact this
  exact this 12 (by omega)
theorem ra_12 {r : Nat} (hr : r ≤ 12) : (Int32.ofNat r < (12 : Int32)) = (r < 12) := propext (rv_n_lt (j := 12) (by omega) (by omega))
theorem c_favourite  : ra_Sc (fun s G n m => if s = 0 then -1000000 else Int32.ofNat (ra_amx (ra_cw s (rv_cut 0 G n) m 12) 5)) f_X10_favourite := by
  intro s G n m w h hr
  dsimp only
  unfold f_X10_favourite
  refine rv_T_call (ra_castAll h.1 hr) (fun _ w2 ⟨hP, hf⟩ => ?_)
  refine rv_T_for 5 (fun c w' => rv_fr 24 77 w w' ∧ ra_PQ s (rv_cut 0 G n) m w' ∧ ∀ d, d < c → w' 77 d = 0) (fun ag c w' hc hI q => ?_) (by decide) 0 _ ⟨hf.wide (by omega) (by omega), hP, fun d hd => by omega⟩ (by omega)
  obtain ⟨hf', hP', h77⟩ := hI
  by_cases hc5 : c < 5
  · simp only [rv_lt5 hc5, if_true, rv_ck5 hc5, rv_nn5 hc5, rv_lt, rv_n_succ]
    refine q hc5 _ ⟨hf'.trans (rv_up_fr (by omega)), hP'.up (by omega), fun d hd => ?_⟩
    by_cases e : d = c
    · rw [e, rv_up_same]
    · rw [rv_up_of (fun z => e z.2), h77 d (by omega)]
  · have : c = 5 := by omega
    subst this
    simp only [rv_ge5, if_false]
    refine rv_T_for 12 (fun k w3 => rv_fr 24 77 w w3 ∧ ra_PQ s (rv_cut 0 G n) m w3 ∧ ∀ d, d < 5 → w3 77 d = Int32.ofNat (if s = 0 then 0 else ra_cw s (rv_cut 0 G n) m k d)) (fun ag2 k w3 hk hI2 q2 => ?_) (by decide) 0 _ ⟨hf', hP', fun d hd => by rw [h77 d hd]; split <;> rfl⟩ (by omega)
    obtain ⟨hf3, hP3, h73⟩ := hI2
    simp only [ra_12 hk]
    by_cases hk12 : k < 12
    · rw [if_pos hk12]
      refine rv_T_call (ra_winnerBy hP3 hk12) (fun v w4 ⟨hv, hf4⟩ => ?_)
      subst hv
      have hf4' : rv_fr 24 77 w w4 := hf3.trans (hf4.wide (by omega) (by omega))
      have hP4 : ra_PQ s (rv_cut 0 G n) m w4 := hP3.fr (fun c j _ _ => hf4 c j (by omega))
      have h74 : ∀ d, d < 5 → w4 77 d = Int32.ofNat (if s = 0 then 0 else ra_cw s (rv_cut 0 G n) m k d) := fun d hd => by rw [hf4 _ _ (by omega), h73 d hd]
      by_cases hs0 : s = 0
      · rw [ra_wc_0 hs0, if_pos (by decide), rv_T_lt, rv_n_succ]
        exact q2 hk12 _ ⟨hf4', hP4, fun d hd => by rw [h74 d hd, if_pos hs0, if_pos hs0]⟩
      · have hw5 := (ra_w_in (rule := k) (n := rv_cut 0 G n) (m := m) h.s32 hs0).1
        rw [ra_wc_1 hs0, if_neg (rv_n_neg (by omega)), if_pos ((rv_l5 (by omega)).mpr hw5), rv_ck5 hw5, rv_ck5 hw5, rv_nn5 hw5, rv_T_lt, rv_T_lt, rv_n_succ, h74 _ hw5, if_neg hs0, rv_n_succ]
        refine q2 hk12 _ ⟨hf4'.trans (rv_up_fr (by omega)), hP4.up (by omega), fun d hd => ?_⟩
        rw [if_neg hs0]
        have es : ra_cw s (rv_cut 0 G n) m (k + 1) d = if (ra_w k s (rv_cut 0 G n) m == d) = true then ra_cw s (rv_cut 0 G n) m k d + 1 else ra_cw s (rv_cut 0 G n) m k d := rfl
        rw [es]
        by_cases e : d = ra_w k s (rv_cut 0 G n) m
        · rw [e, rv_up_same, if_pos (beq_self_eq_true _)]
        · rw [rv_up_of (fun z => e z.2), h74 d hd, if_neg hs0, if_neg (by rw [beq_false_of_ne (fun z => e z.symm)]; decide)]
    · have : k = 12 := by omega
      subst this
      rw [if_neg (Nat.lt_irrefl 12)]
      obtain ⟨f, hfd⟩ : ∃ f : Nat → Nat, f = fun d => if s = 0 then 0 else ra_cw s (rv_cut 0 G n) m 12 d := ⟨_, rfl⟩
      have hfv : ∀ d, d < 5 → w3 77 d = Int32.ofNat (f d) := fun d hd => by rw [hfd]; exact h73 d hd
      have hf12 : ∀ d, f d ≤ 12 := fun d => by
        rw [hfd]
        show (if s = 0 then 0 else ra_cw s (rv_cut 0 G n) m 12 d) ≤ 12
        split
        · omega
        · exact rv_cn_le
      have h2le : ∀ k, (ra_bst f k).2 ≤ 12 := fun k => by
        induction k with
        | zero => exact Nat.zero_le _
        | succ k ih =>
          rw [ra_bst_s]
          split
          · exact hf12 k
          · exact ih
      refine rv_T_of (r := if (ra_bst f 5).1 = 5 then -1000000 else Int32.ofNat (ra_bst f 5).1) (w := w3) ?_ ⟨?_, hf3, hP3.rows⟩
      · refine rv_E2 5 (fun k => if (ra_bst f k).1 = 5 then -1000000 else Int32.ofNat (ra_bst f k).1) (fun k => Int32.ofNat (ra_bst f k).2) (fun _ => w3) _ _ _ rfl rfl rfl (fun ag3 c hc => ?_) (fun ag3 => ?_) (by decide)
        · have ec : (Int32.ofNat (ra_bst f c).2 < Int32.ofNat (f c)) = ((ra_bst f c).2 < f c) := propext (rv_n_lt (by have := h2le c; omega) (by have := hf12 c; omega))
          simp only [rv_lt5 hc, if_true, rv_ck5 hc, rv_nn5 hc, hfv c hc, ec, rv_lt, rv_n_succ]
          rw [ra_bst_s]
          by_cases z : (ra_bst f c).2 < f c
          · rw [if_pos z, if_pos z]
            dsimp only
            rw [if_neg (by omega)]
          · rw [if_neg z, if_neg z]
        · rw [if_neg (by decide)]
      · have hb := @ra_bst_amx f 4
        rw [hb.2]
        by_cases hs0 : s = 0
        · have : f (ra_amx f (4 + 1)) = 0 := by rw [hfd]; exact if_pos hs0
          rw [if_pos this, if_pos rfl, if_pos hs0]
        · have ef : f = ra_cw s (rv_cut 0 G n) m 12 := by rw [hfd]; funext d; exact if_neg hs0
          rw [ef, if_neg hs0]
          have h0 := (ra_w_in (rule := 0) (n := rv_cut 0 G n) (m := m) h.s32 hs0).1
          have hge := ra_amx_ge (f := ra_cw s (rv_cut 0 G n) m 12) (k := 4 + 1) h0
          have hpos := @ra_cw_pos s (rv_cut 0 G n) m
          have hlt := ra_amx_lt (f := ra_cw s (rv_cut 0 G n) m 12) (k := 4 + 1) (by omega)
          rw [if_neg (show ¬ ra_cw s (rv_cut 0 G n) m 12 (ra_amx (ra_cw s (rv_cut 0 G n) m 12) (4 + 1)) = 0 by omega), if_neg (by omega)]
