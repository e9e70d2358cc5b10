/-! minimax, Bucklin, of the class -/
def ra_mm (s : Nat) (p : Nat → Nat → Nat) (c : Nat) : Nat → Bool × Int32
  | 0 => (true, 0)
  | b + 1 => if c = b ∨ rv_hs s b = false then ra_mm s p c b else (false, if (ra_mm s p c b).1 = true then Int32.ofNat (p b c) - Int32.ofNat (p c b) else if (ra_mm s p c b).2 < Int32.ofNat (p b c) - Int32.ofNat (p c b) then Int32.ofNat (p b c) - Int32.ofNat (p c b) else (ra_mm s p c b).2)
theorem ra_mm_s {s c b : Nat} {p : Nat → Nat → Nat} : ra_mm s p c (b + 1) = if c = b ∨ rv_hs s b = false then ra_mm s p c b else (false, if (ra_mm s p c b).1 = true then Int32.ofNat (p b c) - Int32.ofNat (p c b) else if (ra_mm s p c b).2 < Int32.ofNat (p b c) - Int32.ofNat (p c b) then Int32.ofNat (p b c) - Int32.ofNat (p c b) else (ra_mm s p c b).2) := rfl
theorem ra_cminimax {s : Nat} {n m : Nat → Nat} {w : rv_W} (h : ra_PQ s n m w) (h0 : ∀ c, c < 5 → w 55 c = 0) : f_X4_minimax w = some (0, rv_fl 55 5 (fun c => (ra_mm s (ra_P s n m) c 5).2) w) := by
  have hs := h.s32
  unfold f_X4_minimax
  refine rv_E0 5 (fun k => rv_fl 55 k (fun c => (ra_mm s (ra_P s n m) c 5).2) w) w rv_fl_0.symm (fun ag a ha => ?_) (fun ag => ?_) (by decide)
  · simp only [rv_lt5 ha, if_true, rv_lt, rv_n_succ]
    refine rv_E1 5 (fun k => rv_b2 (ra_mm s (ra_P s n m) a k).1) (fun k => rv_up (rv_fl 55 a (fun c => (ra_mm s (ra_P s n m) c 5).2) w) 55 a (ra_mm s (ra_P s n m) a k).2) _ _ (ra_up_id (by rw [rv_fl_ge (Nat.le_refl a), h0 a ha]; rfl)).symm rfl (fun ag2 b hb => ?_) (fun ag2 => ?_) (by decide)
    · have hP := (h.fl (A := 55) (k := a) (f := fun c => (ra_mm s (ra_P s n m) c 5).2) (by omega)).up (A := 55) (k := a) (v := (ra_mm s (ra_P s n m) a b).2) (by omega)
      simp only [rv_lt5 hb, if_true, rv_eq5 ha hb, hP.st, e_hasb hs hb, rv_bd_some, rv_b2_0, rv_ck5 ha, rv_ck5 hb, rv_nn5 ha, rv_nn5 hb, hP.ab ha hb, hP.ab hb ha, rv_up_same, rv_up_up, rv_n_succ, rv_jn]
      rw [ra_mm_s]
      by_cases q : a = b
      · simp only [q, if_true, true_or]
      · by_cases q2 : rv_hs s b = true
        · simp only [q, q2, Bool.true_eq_false, if_false, or_false]
          cases (ra_mm s (ra_P s n m) a b).1
          · simp only [if_true, Bool.false_eq_true, if_false]
            rfl
          · simp only [if_true, Bool.true_eq_false, if_false]
            rfl
        · simp only [q, Bool.eq_false_iff.mpr q2, if_true, if_false, or_true]
    · simp only [rv_ge5, if_false]
      exact congrArg _ (rv_fl_up rfl)
  · rw [if_neg (by decide)]
/-- more than half among the first k? -/
def ra_ex (n m : Nat → Nat) (s k : Nat) : Bool := rv_al 5 (fun c => !decide (Int32.ofNat (rv_sm 20 n) < 2 * Int32.ofNat (ra_KC n m s k c)))
def ra_bk (E : Nat → Bool) (M : Nat) : Nat → Nat → Nat
  | 0, k => k
  | f + 1, k => if k < M ∧ E k = true then ra_bk E M f (k + 1) else k
theorem ra_bk_s {E : Nat → Bool} {M f k : Nat} : ra_bk E M (f + 1) k = if k < M ∧ E k = true then ra_bk E M f (k + 1) else k := rfl
theorem rv_mn_le {s : Nat} : rv_mn s ≤ 5 := by
  unfold rv_mn rv_bt
  repeat' split
  all_goals omega
def ra_bu (n m : Nat → Nat) (s : Nat) : Nat := ra_bk (ra_ex n m s) (rv_mn s) 5 1
theorem ra_mn0 {s c : Nat} (hs : s < 32) (h : rv_mn s = 0) (hc : c < 5) : rv_hs s c = false := by
  have := rv_all2 (p := fun s c => !decide (rv_mn s = 0) || !rv_hs s c) (l := List.range 32) (m := List.range 5) (by decide +kernel) (rv_rg hs) (rv_rg hc)
  rw [h] at this
  simpa using this
theorem ra_cbucklin {s : Nat} {n m : Nat → Nat} {w : rv_W} (h : ra_PQ s n m w) (h0 : ∀ c, c < 5 → w 55 c = 0) : f_X4_bucklin w = some (0, rv_fl 55 5 (fun c => Int32.ofNat (ra_KC n m s (ra_bu n m s) c)) w) := by
  have hs := h.s32
  have hmn := @rv_mn_le s
  unfold f_X4_bucklin
  rw [h.st, e_bitCount hs, rv_bd_some]
  have hz : ∀ c, c < 5 → ra_KC n m s 0 c = 0 := fun c hc => by
    unfold ra_KC
    rw [ra_K0]
    split <;> rfl
  refine rv_C0 (rv_mn s + 1) (fun k w' => 1 ≤ k ∧ w' = rv_fl 55 5 (fun c => Int32.ofNat (ra_KC n m s (k - 1) c)) w ∧ ((k ≤ rv_mn s ∧ ra_bu n m s = ra_bk (ra_ex n m s) (rv_mn s) (6 - k) k) ∨ (k = rv_mn s + 1 ∧ (ra_bu n m s = rv_mn s ∨ rv_mn s = 0)))) 1 w ⟨by omega, (ra_fl_id (fun c hc => by rw [hz c hc, h0 c hc]; rfl)).symm, ?_⟩ (by omega) (by show _ < 10000; omega) (fun ag k w' hk hI ih => ?_)
  · by_cases q : 1 ≤ rv_mn s
    · exact Or.inl ⟨q, rfl⟩
    · exact Or.inr ⟨by omega, Or.inr (by omega)⟩
  · obtain ⟨hk1, rfl, hI⟩ := hI
    have e : (Int32.ofNat (rv_mn s) < Int32.ofNat k) = (rv_mn s < k) := propext (rv_n_lt (by omega) (by omega))
    simp only [e]
    rcases hI with ⟨hkm, hF⟩ | ⟨hkm, hF⟩
    · have hk5 : k - 1 < 5 := by omega
      have hP := h.fl (A := 55) (k := 5) (f := fun c => Int32.ofNat (ra_KC n m s (k - 1) c)) (by omega)
      have ek : Int32.ofNat k - 1 = Int32.ofNat (k - 1) := by
        rw [Int32.ofNat_sub _ _ hk1]; rfl
      rw [if_neg (by omega), ek, hP.place hk5 (by omega), rv_bd_some]
      have ew : rv_fl 55 5 (fun c => rv_fl 55 5 (fun c => Int32.ofNat (ra_KC n m s (k - 1) c)) w 55 c + Int32.ofNat (ra_pl n m s (k - 1) c)) (rv_fl 55 5 (fun c => Int32.ofNat (ra_KC n m s (k - 1) c)) w) = rv_fl 55 5 (fun c => Int32.ofNat (ra_KC n m s k c)) w := by
        rw [rv_fl_fl]
        refine rv_fl_congr (fun c hc => ?_)
        rw [rv_fl_at hc, ← Int32.ofNat_add]
        congr 1
        unfold ra_KC
        by_cases hcs : rv_hs s c = true
        · have := ra_pl_sum h hc hcs hk5
          rw [show k - 1 + 1 = k by omega] at this
          rw [if_pos hcs, if_pos hcs, this]
        · rw [if_neg hcs, if_neg hcs, ra_pl_off h hc hcs hk5]
      rw [ew]
      have hP2 := h.fl (A := 55) (k := 5) (f := fun c => Int32.ofNat (ra_KC n m s k c)) (by omega)
      rw [show 6 - k = (5 - k) + 1 by omega, ra_bk_s] at hF
      refine rv_C0 5 (fun c w' => w' = rv_fl 55 5 (fun c => Int32.ofNat (ra_KC n m s k c)) w ∧ ∀ d, d < c → ¬ Int32.ofNat (rv_sm 20 n) < 2 * Int32.ofNat (ra_KC n m s k d)) 0 _ ⟨rfl, fun d hd => by omega⟩ (by omega) (by decide) (fun ag2 c w2 hc hI2 ih2 => ?_)
      obtain ⟨rfl, hI2⟩ := hI2
      by_cases hc5 : c < 5
      · simp only [rv_lt5 hc5, if_true, rv_ck5 hc5, rv_nn5 hc5, rv_fl_at hc5, hP2.all, rv_lt, rv_n_succ]
        by_cases q : Int32.ofNat (rv_sm 20 n) < 2 * Int32.ofNat (ra_KC n m s k c)
        · have hE : ¬ ra_ex n m s k = true := fun z => by
            have z2 := rv_al_iff.mp z c hc5
            rw [decide_eq_true q] at z2
            cases z2
          rw [if_neg (fun z => hE z.2)] at hF
          rw [if_pos q, hF]
        · rw [if_neg q]
          refine ih2 hc5 _ ⟨rfl, fun d hd => ?_⟩
          by_cases hdc : d = c
          · rw [hdc]; exact q
          · exact hI2 d (by omega)
      · have : c = 5 := by omega
        subst this
        simp only [rv_ge5, if_false, rv_lt, rv_n_succ]
        have hE : ra_ex n m s k = true := rv_al_iff.mpr (fun c hc => by rw [decide_eq_false (hI2 c hc)]; rfl)
        refine ih (by omega) _ ⟨by omega, by rw [show k + 1 - 1 = k by omega], ?_⟩
        by_cases q : k < rv_mn s
        · rw [if_pos ⟨q, hE⟩] at hF
          exact Or.inl ⟨by omega, by rw [hF, show 6 - (k + 1) = 5 - k by omega]⟩
        · rw [if_neg (fun z => q z.1)] at hF
          exact Or.inr ⟨by omega, Or.inl (by omega)⟩
    · rw [if_pos (by omega)]
      congr 2
      refine rv_fl_congr (fun c hc => ?_)
      rcases hF with hF | hF
      · rw [hF, show k - 1 = rv_mn s by omega]
      · unfold ra_KC
        rw [ra_mn0 hs hF hc]; rfl
/-- the points of the rules that have some -/
def ra_pt (rule s : Nat) (n m : Nat → Nat) (c : Nat) : Int32 := if rule = 0 then Int32.ofNat (ra_KC n m s 1 c) else if rule = 1 then ra_bo s n m s c else if rule = 2 then ra_co s (ra_P s n m) c else if rule = 3 then (ra_mm s (ra_P s n m) c 5).2 else Int32.ofNat (ra_KC n m s (ra_bu n m s) c)
theorem ra_sub_self {s : Nat} : ra_sub s s := fun _ _ h => h
theorem ra_rl {r k : Nat} (hr : r < 12) (hk : k < 12) : (Int32.ofNat r = Int32.ofNat k) = (r = k) := propext (rv_n_eq (by omega) (by omega))
theorem ra_take {rule s : Nat} {n m : Nat → Nat} {w : rv_W} (h : ra_PQ s n m w) (hr : rule < 12) : f_X4_take (Int32.ofNat rule) w = some (0, rv_fl 55 5 (ra_pt rule s n m) w) := by
  unfold f_X4_take
  have hP := h.fl (A := 55) (k := 5) (f := fun _ => 0) (by omega)
  have hz : ∀ c, c < 5 → rv_fl 55 5 (fun _ => 0) w 55 c = 0 := fun c hc => rv_fl_at hc
  rw [ra_clear (A := 55), rv_bd_some, hP.st, hP.firsts (A := 55) hP.s32 ra_sub_self (by omega), ra_cborda hP hP.s32, ra_ccopeland hP hz, ra_cminimax hP hz, ra_cbucklin hP hz]
  simp only [rv_bd_some, rv_fl_fl]
  have r0 : (Int32.ofNat rule = 0) = (rule = 0) := ra_rl hr (k := 0) (by omega)
  have r1 : (Int32.ofNat rule = 1) = (rule = 1) := ra_rl hr (k := 1) (by omega)
  have r2 : (Int32.ofNat rule = 2) = (rule = 2) := ra_rl hr (k := 2) (by omega)
  have r3 : (Int32.ofNat rule = 3) = (rule = 3) := ra_rl hr (k := 3) (by omega)
  simp only [r0, r1, r2, r3]
  unfold ra_pt
  by_cases q0 : rule = 0
  · simp only [q0, if_true]
    rw [rv_fl_congr (g := fun c => Int32.ofNat (ra_KC n m s 1 c)) (fun c hc => by rw [rv_fl_at hc, Int32.zero_add])]
  · by_cases q1 : rule = 1
    · simp only [q1, if_true, if_neg (show ¬ (1 : Nat) = 0 by decide)]
    · by_cases q2 : rule = 2
      · simp only [q2, if_true, if_neg (show ¬ (2 : Nat) = 0 by decide), if_neg (show ¬ (2 : Nat) = 1 by decide)]
      · by_cases q3 : rule = 3
        · simp only [q3, if_true, if_neg (show ¬ (3 : Nat) = 0 by decide), if_neg (show ¬ (3 : Nat) = 1 by decide), if_neg (show ¬ (3 : Nat) = 2 by decide)]
        · simp only [q0, q1, q2, q3, if_false]
