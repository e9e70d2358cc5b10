/-! a number of a text -/
theorem ra_sp_ok {x : Nat → Nat} {L : Nat} : ∀ d p, L - p = d → (p ≤ L → ra_sp x L p ≤ L) ∧ ra_sp x L (ra_sp x L p) = ra_sp x L p := by
  intro d
  induction d with
  | zero => intro p hd
            have e : ra_sp x L p = p := ra_sp_0 (fun z => by omega)
            rw [e, e]
            exact ⟨fun h => h, rfl⟩
  | succ d ih => intro p hd
                 by_cases q : p < L ∧ x p = 32
                 · rw [ra_sp_1 q.1 q.2]
                   have := ih (p + 1) (by omega)
                   exact ⟨fun _ => this.1 (by omega), this.2⟩
                 · have e : ra_sp x L p = p := ra_sp_0 q
                   rw [e, e]
                   exact ⟨fun h => h, rfl⟩
theorem ra_sp_le {x : Nat → Nat} {L p : Nat} (h : p ≤ L) : ra_sp x L p ≤ L := (ra_sp_ok _ p rfl).1 h
theorem ra_sp_sp {x : Nat → Nat} {L p : Nat} : ra_sp x L (ra_sp x L p) = ra_sp x L p := (ra_sp_ok _ p rfl).2
def ra_f20 (w w' : rv_W) : Prop := ∀ c j, ¬ (c = 20 ∧ j = 2) → w' c j = w c j
def ra_f24 (w w' : rv_W) : Prop := ∀ c j, ¬ (c = 78 ∧ j = 24) → w' c j = w c j
theorem ra_tc.fr {L : Nat} {x : Nat → Nat} {w w' : rv_W} (h : ra_tc L x w) (e0 : w' 20 0 = w 20 0) (e : ∀ j, w' 21 j = w 21 j) : ra_tc L x w' := ⟨h.1, by rw [e0, h.2.1], fun i hi => ⟨(h.2.2 i hi).1, by rw [e, (h.2.2 i hi).2]⟩⟩
theorem ra_tm.fr {L : Nat} {x : Nat → Nat} {w w' : rv_W} (h : ra_tm L x w) (e0 : w' 78 3 = w 78 3) (e : ∀ j, w' 80 j = w 80 j) : ra_tm L x w' := ⟨h.1, by rw [e0, h.2.1], fun i hi => ⟨(h.2.2 i hi).1, by rw [e, (h.2.2 i hi).2]⟩⟩
def ra_ne (x : Nat → Nat) (L : Nat) : Nat → Nat → Nat
  | 0, _ => 0
  | f + 1, p => if p < L ∧ ra_dg (x p) = true then ra_ne x L f (p + 1) + 1 else 0
def ra_nv (x : Nat → Nat) : Nat → Nat → Nat
  | 0, _ => 0
  | k + 1, p => 10 * ra_nv x k p + (x (p + k) - 48)
def ra_nm (x : Nat → Nat) (L p : Nat) : Nat := if ra_ne x L 4 p ≤ 3 ∧ 1 ≤ ra_nv x (ra_ne x L 4 p) p ∧ ra_nv x (ra_ne x L 4 p) p ≤ 100 then ra_nv x (ra_ne x L 4 p) p else 0
theorem ra_ne_of {x : Nat → Nat} {L : Nat} : ∀ f k p, k ≤ f → (∀ i, i < k → p + i < L ∧ ra_dg (x (p + i)) = true) → (k = f ∨ ¬ (p + k < L ∧ ra_dg (x (p + k)) = true)) → ra_ne x L f p = k := by
  intro f
  induction f with
  | zero => intro k p hk _ _
            show 0 = k
            omega
  | succ f ih =>
    intro k p hk hd hz
    cases k with
    | zero =>
      refine if_neg ?_
      rcases hz with hz | hz
      · omega
      · exact hz
    | succ k =>
      refine (if_pos (hd 0 (by omega))).trans ?_
      rw [ih k (p + 1) (by omega) (fun i hi => by rw [show p + 1 + i = p + (i + 1) by omega]; exact hd (i + 1) (by omega)) (by
        rcases hz with hz | hz
        · exact Or.inl (by omega)
        · exact Or.inr (by rw [show p + 1 + k = p + (k + 1) by omega]; exact hz))]
theorem ra_dg_iff {c : Nat} : ra_dg c = true ↔ 48 ≤ c ∧ c ≤ 57 := by
  unfold ra_dg
  exact decide_eq_true_iff
theorem ra_nv_lt {x : Nat → Nat} {k p : Nat} (h : ∀ i, i < k → ra_dg (x (p + i)) = true) : ra_nv x k p < 10 ^ k := by
  induction k with
  | zero => exact Nat.one_pos
  | succ k ih =>
    have h1 := ih (fun i hi => h i (by omega))
    have h2 := ra_dg_iff.mp (h k (by omega))
    show 10 * ra_nv x k p + (x (p + k) - 48) < 10 ^ (k + 1)
    rw [Nat.pow_succ]
    omega
theorem ra_d10 {a b : Nat} (hb : 48 ≤ b) : Int32.ofNat a * (10 : Int32) + Int32.ofNat b - (48 : Int32) = Int32.ofNat (10 * a + (b - 48)) := by
  rw [show (10 : Int32) = Int32.ofNat 10 from rfl, ← Int32.ofNat_mul, ← Int32.ofNat_add, show (48 : Int32) = Int32.ofNat 48 from rfl, ← Int32.ofNat_sub _ _ (by omega)]
  congr 1
  omega
theorem ra_sz_nat {v : Nat} (hv : v < 2147483648) : ra_sz (Int32.ofNat v) 100 = decide (1 ≤ v ∧ v ≤ 100) := by
  unfold ra_sz
  rw [rv_n_int hv]
  exact decide_eq_decide.mpr ⟨fun z => by omega, fun z => by omega⟩
theorem ra_nv_4 {x : Nat → Nat} {k p : Nat} (hk : k ≤ 4) (h : ∀ i, i < k → ra_dg (x (p + i)) = true) : ra_nv x k p < 10000 := by
  have h1 := ra_nv_lt h
  have h2 : (10 : Nat) ^ k ≤ 10 ^ 4 := Nat.pow_le_pow_right (by decide) hk
  omega
theorem ra_readNumber {L p : Nat} {x : Nat → Nat} {w : rv_W} (h : ra_tc L x w) (hp : p ≤ L) (hw : w 20 2 = Int32.ofNat p) : rv_T (f_X9_readNumber w) (fun v w' => v = Int32.ofNat (ra_nm x L p) ∧ w' 20 2 = Int32.ofNat (if ra_nm x L p = 0 then p else p + ra_ne x L 4 p) ∧ ra_f20 w w') := by
  have hL := h.1
  unfold f_X9_readNumber
  refine rv_T_fx (α := Int32 → rv_W → rv_R) (σ := Nat × rv_W) (fun t a => a (Int32.ofNat (ra_nv x t.1 p)) t.2) (fun t => t.1 ≤ 4 ∧ p + t.1 ≤ L ∧ (∀ i, i < t.1 → p + i < L ∧ ra_dg (x (p + i)) = true) ∧ t.2 20 2 = Int32.ofNat (p + t.1) ∧ ra_f20 w t.2) (fun t => 4 - t.1) ?_ rv_FU (0, w) (by show 4 - 0 < 10000; omega) ⟨Nat.zero_le 4, hp, fun i hi => absurd hi (Nat.not_lt_zero i), hw, fun _ _ _ => rfl⟩
  intro ag ⟨k, w'⟩ hI q
  obtain ⟨hk, hkL, hd, h2, hf⟩ := hI
  dsimp only at hk hkL hd h2 hf q ⊢
  have hT : ra_tc L x w' := h.fr (hf _ _ (by omega)) (fun j => hf _ _ (by omega))
  have h0 : w' 20 0 = Int32.ofNat L := hT.2.1
  have hnv : ra_nv x k p < 10000 := ra_nv_4 hk (fun i hi => (hd i hi).2)
  have hend : (k = 4 ∨ ¬ (p + k < L ∧ ra_dg (x (p + k)) = true)) → rv_T (if (3 : Int32) < (w' 20 2 - w 20 2) then rv_lt (rv_up w' 20 2 (w 20 2)) (fun w11 => some ((0 : Int32), w11)) else rv_bd (f_X10_isGroupSize (Int32.ofNat (ra_nv x k p)) w') (fun r12 w13 => if r12 = 0 then rv_lt (rv_up w13 20 2 (w 20 2)) (fun w11 => some ((0 : Int32), w11)) else some (Int32.ofNat (ra_nv x k p), w13))) (fun v w' => v = Int32.ofNat (ra_nm x L p) ∧ w' 20 2 = Int32.ofNat (if ra_nm x L p = 0 then p else p + ra_ne x L 4 p) ∧ ra_f20 w w') := fun hz => by
    have ek : ra_ne x L 4 p = k := ra_ne_of 4 k p hk hd hz
    have enm : ra_nm x L p = if k ≤ 3 ∧ 1 ≤ ra_nv x k p ∧ ra_nv x k p ≤ 100 then ra_nv x k p else 0 := by unfold ra_nm; rw [ek]
    have e3 : ((3 : Int32) < w' 20 2 - w 20 2) ↔ 3 < k := by
      rw [h2, hw, ← Int32.ofNat_sub _ _ (by omega), show p + k - p = k by omega]
      exact rv_n_lt (i := 3) (by omega) (by omega)
    by_cases c : 3 < k
    · have enm0 : ra_nm x L p = 0 := by rw [enm, if_neg (fun z => by omega)]
      rw [if_pos (e3.mpr c), rv_T_lt, enm0, if_pos rfl, hw]
      exact rv_T_some.mpr ⟨rfl, rv_up_same, fun c j z => by rw [rv_up_of z, hf c j z]⟩
    · rw [if_neg (fun z => c (e3.mp z)), ra_groupSize, rv_bd_some, ra_sz_nat (by omega)]
      by_cases c' : 1 ≤ ra_nv x k p ∧ ra_nv x k p ≤ 100
      · have enm1 : ra_nm x L p = ra_nv x k p := by rw [enm, if_pos ⟨by omega, c'⟩]
        rw [decide_eq_true c', if_neg ra_e1, enm1, if_neg (by omega), ek]
        exact rv_T_some.mpr ⟨rfl, h2, hf⟩
      · have enm0 : ra_nm x L p = 0 := by rw [enm, if_neg (fun z => c' z.2)]
        rw [decide_eq_false c', if_pos ra_e0, rv_T_lt, enm0, if_pos rfl, hw]
        exact rv_T_some.mpr ⟨rfl, rv_up_same, fun c j z => by rw [rv_up_of z, hf c j z]⟩
  have el : (w' 20 2 < w' 20 0) ↔ p + k < L := by rw [h2, h0]; exact rv_n_lt (by omega) (by omega)
  rw [rv_T_jn]
  by_cases c1 : p + k < L
  · have e4 : (w' 20 2 < w 20 2 + (4 : Int32)) ↔ k < 4 := by
      rw [h2, hw, show Int32.ofNat p + (4 : Int32) = Int32.ofNat (p + 4) by rw [Int32.ofNat_add]; rfl, rv_n_lt (by omega) (by omega)]
      omega
    rw [if_pos (el.mpr c1)]
    by_cases c2 : k < 4
    · have hx := (h.2.2 (p + k) c1).1
      rw [if_pos (e4.mpr c2), h2, ra_byteAt hT c1, rv_bd_some, ra_isDigit hx, rv_bd_some]
      cases c3 : ra_dg (x (p + k))
      · rw [if_pos ra_e0]
        exact hend (Or.inr (fun z => by rw [c3] at z; cases z.2))
      · have hdk := ra_dg_iff.mp c3
        rw [if_neg ra_e1, h2, ra_byteAt hT c1, rv_bd_some, rv_T_lt, rv_T_lt, h2, ra_d10 hdk.1, rv_n_succ]
        refine q (k + 1, rv_up w' 20 2 (Int32.ofNat (p + k + 1))) ⟨c2, by show p + (k + 1) ≤ L; omega, fun i hi => ?_, (show rv_up w' 20 2 (Int32.ofNat (p + k + 1)) 20 2 = Int32.ofNat (p + (k + 1)) from rv_up_same), fun c j z => ?_⟩ (by dsimp only; omega)
        · have hi' : i < k + 1 := hi
          by_cases e : i = k
          · subst e; exact ⟨c1, c3⟩
          · exact hd i (by omega)
        · show rv_up w' 20 2 (Int32.ofNat (p + k + 1)) c j = w c j
          rw [rv_up_of z, hf c j z]
    · rw [if_neg (fun z => c2 (e4.mp z))]
      exact hend (Or.inl (by omega))
  · rw [if_neg (fun z => c1 (el.mp z))]
    exact hend (Or.inr (fun z => c1 z.1))
theorem ra_number {L p q : Nat} {x : Nat → Nat} {w : rv_W} (h : ra_tm L x w) (hp : p ≤ L) (hw : w 78 24 = Int32.ofNat p) (hq : ra_sp x L p = q) (hqL : q < L) : rv_T (f_X11_number w) (fun v w' => v = (if ra_nm x L q = 0 then (-1 : Int32) else Int32.ofNat (ra_nm x L q)) ∧ w' 78 24 = Int32.ofNat (if ra_nm x L q = 0 then q else q + ra_ne x L 4 q) ∧ ra_f24 w w') := by
  have hL := h.1
  unfold f_X11_number
  refine rv_T_call (ra_here h hp hw) (fun r1 w2 ⟨hr1, h2, hf2⟩ => ?_)
  rw [hq] at h2 hr1
  have hT : ra_tm L x w2 := h.fr (hf2 _ _ (by omega)) (fun j => hf2 _ _ (by omega))
  have h3 : w2 78 3 = Int32.ofNat L := hT.2.1
  have hr1n : ¬ r1 < 0 := by
    rw [hr1]
    unfold ra_by
    have := (h.2.2 q hqL).1
    rw [if_pos hqL]
    exact rv_n_neg (by omega)
  rw [h2]
  refine rv_T_fx (α := Int32 → Int32 → rv_W → rv_R) (σ := Nat) (fun t a => a (Int32.ofNat (q + t)) (Int32.ofNat (ra_nv x (if t < 4 then t else 4) q)) w2) (fun t => q + t ≤ L ∧ (∀ i, i < t → q + i < L ∧ ra_dg (x (q + i)) = true)) (fun t => L - (q + t)) ?_ rv_FU 0 (by show L - (q + 0) < 10000; omega) ⟨by omega, fun i hi => absurd hi (Nat.not_lt_zero i)⟩
  intro ag k hI qq
  obtain ⟨hkL, hd⟩ := hI
  have hnv : ra_nv x (if k < 4 then k else 4) q < 10000 := by
    split
    · rename_i c; exact ra_nv_4 (by omega) (fun i hi => (hd i hi).2)
    · rename_i c; exact ra_nv_4 (by omega) (fun i hi => (hd i (by omega)).2)
  have hend : (¬ (q + k < L ∧ ra_dg (x (q + k)) = true)) → rv_T (if Int32.ofNat (q + k) = w2 78 24 then some ((-1 : Int32), w2) else if (3 : Int32) < (Int32.ofNat (q + k) - w2 78 24) then some ((-1 : Int32), w2) else rv_bd (f_X11_in (Int32.ofNat (ra_nv x (if k < 4 then k else 4) q)) (1 : Int32) (100 : Int32) w2) (fun r11 w12 => if r11 = 0 then some ((-1 : Int32), w12) else rv_lt (rv_up w12 78 24 (Int32.ofNat (q + k))) (fun w13 => some (Int32.ofNat (ra_nv x (if k < 4 then k else 4) q), w13)))) (fun v w' => v = (if ra_nm x L q = 0 then (-1 : Int32) else Int32.ofNat (ra_nm x L q)) ∧ w' 78 24 = Int32.ofNat (if ra_nm x L q = 0 then q else q + ra_ne x L 4 q) ∧ ra_f24 w w') := fun hz => by
    have eeq : (Int32.ofNat (q + k) = w2 78 24) ↔ k = 0 := by
      rw [h2, rv_n_eq (by omega) (by omega)]
      omega
    have e3 : ((3 : Int32) < Int32.ofNat (q + k) - w2 78 24) ↔ 3 < k := by
      rw [h2, ← Int32.ofNat_sub _ _ (by omega), show q + k - q = k by omega]
      exact rv_n_lt (i := 3) (by omega) (by omega)
    by_cases c0 : k = 0
    · subst c0
      have ek : ra_ne x L 4 q = 0 := ra_ne_of 4 0 q (by omega) hd (Or.inr hz)
      have enm : ra_nm x L q = 0 := by
        unfold ra_nm
        rw [ek]
        exact if_neg (fun z => absurd z.2.1 (by show ¬ 1 ≤ 0; omega))
      rw [if_pos (eeq.mpr rfl), enm, if_pos rfl, if_pos rfl]
      exact rv_T_some.mpr ⟨rfl, h2, hf2⟩
    · rw [if_neg (fun z => c0 (eeq.mp z))]
      by_cases c : 3 < k
      · have ek : ra_ne x L 4 q = 4 := ra_ne_of 4 4 q (by omega) (fun i hi => hd i (by omega)) (Or.inl rfl)
        have enm : ra_nm x L q = 0 := by
          unfold ra_nm
          rw [ek]
          exact if_neg (fun z => by omega)
        rw [if_pos (e3.mpr c), enm, if_pos rfl, if_pos rfl]
        exact rv_T_some.mpr ⟨rfl, h2, hf2⟩
      · have ek : ra_ne x L 4 q = k := ra_ne_of 4 k q (by omega) hd (Or.inr hz)
        have enm : ra_nm x L q = if k ≤ 3 ∧ 1 ≤ ra_nv x k q ∧ ra_nv x k q ≤ 100 then ra_nv x k q else 0 := by unfold ra_nm; rw [ek]
        have hnv' := hnv
        rw [if_pos (show k < 4 by omega)] at hnv'
        have ein : ∀ v : Int32, f_X11_in v 1 100 w2 = some (rv_b2 (ra_sz v 100), w2) := fun v => ra_szin (hi := 100) (by decide)
        rw [if_neg (fun z => c (e3.mp z)), if_pos (show k < 4 by omega), ein, rv_bd_some, ra_sz_nat (by omega)]
        by_cases c' : 1 ≤ ra_nv x k q ∧ ra_nv x k q ≤ 100
        · have enm1 : ra_nm x L q = ra_nv x k q := by rw [enm, if_pos ⟨by omega, c'⟩]
          rw [decide_eq_true c', if_neg ra_e1, rv_T_lt, enm1, if_neg (by omega), if_neg (by omega), ek]
          exact rv_T_some.mpr ⟨rfl, rv_up_same, fun c j z => by rw [rv_up_of z, hf2 c j z]⟩
        · have enm0 : ra_nm x L q = 0 := by rw [enm, if_neg (fun z => c' z.2)]
          rw [decide_eq_false c', if_pos ra_e0, enm0, if_pos rfl, if_pos rfl]
          exact rv_T_some.mpr ⟨rfl, h2, hf2⟩
  have el : (Int32.ofNat (q + k) < w2 78 3) ↔ q + k < L := by rw [h3]; exact rv_n_lt (by omega) (by omega)
  rw [rv_T_jn, if_neg hr1n]
  by_cases c1 : q + k < L
  · have hx := (h.2.2 (q + k) c1).1
    have ei : ∀ t : rv_R, rv_ck (Int32.ofNat (q + k)) 100 t = t := fun t => rv_n_ck (by omega) (by decide)
    have ex : w2 80 (Int32.ofNat (q + k)).toNatClampNeg = Int32.ofNat (x (q + k)) := by rw [rv_n_nat (by omega), (hT.2.2 _ c1).2]
    rw [if_pos (el.mpr c1), ei, ex, ra_inDigit hx, rv_bd_some]
    cases c3 : ra_dg (x (q + k))
    · rw [if_pos ra_e0]
      exact hend (fun z => by rw [c3] at z; cases z.2)
    · have hdk := ra_dg_iff.mp c3
      have hd' : ∀ i, i < k + 1 → q + i < L ∧ ra_dg (x (q + i)) = true := fun i hi => by
        by_cases e : i = k
        · subst e; exact ⟨c1, c3⟩
        · exact hd i (by omega)
      have e4 : (Int32.ofNat (q + k) - w2 78 24 < (4 : Int32)) ↔ k < 4 := by
        rw [h2, ← Int32.ofNat_sub _ _ (by omega), show q + k - q = k by omega]
        exact rv_n_lt (j := 4) (by omega) (by omega)
      rw [if_neg ra_e1]
      by_cases c2 : k < 4
      · rw [if_pos (e4.mpr c2), ei, rv_T_lt, rv_T_lt, ex, Int32.mul_comm, ra_d10 hdk.1, rv_n_succ]
        have := qq (k + 1) ⟨by omega, hd'⟩ (by omega)
        rw [if_pos c2]
        have e5 : (if k + 1 < 4 then k + 1 else 4) = k + 1 := by split <;> omega
        rw [e5] at this
        exact this
      · rw [if_neg (fun z => c2 (e4.mp z)), rv_T_lt, rv_n_succ, if_neg c2]
        have := qq (k + 1) ⟨by omega, hd'⟩ (by omega)
        rw [if_neg (show ¬ k + 1 < 4 by omega)] at this
        exact this
  · rw [if_neg (fun z => c1 (el.mp z))]
    exact hend (fun z => c1 z.1)
