/-! the next sign of a text -/
def ra_spf (x : Nat → Nat) (L : Nat) : Nat → Nat → Nat
  | 0, p => p
  | f + 1, p => if p < L ∧ x p = 32 then ra_spf x L f (p + 1) else p
def ra_sp (x : Nat → Nat) (L p : Nat) : Nat := ra_spf x L (L - p) p
theorem ra_sp_1 {x : Nat → Nat} {L p : Nat} (h : p < L) (e : x p = 32) : ra_sp x L p = ra_sp x L (p + 1) := by
  unfold ra_sp
  rw [show L - p = (L - (p + 1)) + 1 by omega]
  exact if_pos ⟨h, e⟩
theorem ra_sp_0 {x : Nat → Nat} {L p : Nat} (h : ¬ (p < L ∧ x p = 32)) : ra_sp x L p = p := by
  unfold ra_sp
  cases L - p with
  | zero => rfl
  | succ f => exact if_neg h
def ra_by (x : Nat → Nat) (L p : Nat) : Int32 := if p < L then Int32.ofNat (x p) else -1
def ra_tc (L : Nat) (x : Nat → Nat) (w : rv_W) : Prop := L ≤ 100 ∧ w 20 0 = Int32.ofNat L ∧ ∀ i, i < L → x i < 256 ∧ w 21 i = Int32.ofNat (x i)
def ra_tm (L : Nat) (x : Nat → Nat) (w : rv_W) : Prop := L ≤ 100 ∧ w 78 3 = Int32.ofNat L ∧ ∀ i, i < L → x i < 256 ∧ w 80 i = Int32.ofNat (x i)
theorem ra_byteAt {L p : Nat} {x : Nat → Nat} {w : rv_W} (h : ra_tc L x w) (hp : p < L) : f_X9_byteAt (Int32.ofNat p) w = some (Int32.ofNat (x p), w) := by
  have hL := h.1
  have e : Int32.ofNat p < (100 : Int32) := (rv_n_lt (j := 100) (by omega) (by omega)).mpr (by omega)
  unfold f_X9_byteAt
  rw [if_neg (rv_n_neg (by omega)), if_pos e, rv_n_ck (by omega) (by decide), rv_n_nat (by omega), (h.2.2 p hp).2]
theorem ra_next9 {L p : Nat} {x : Nat → Nat} {w : rv_W} (h : ra_tc L x w) (hp : p ≤ L) (hw : w 20 2 = Int32.ofNat p) : rv_T (f_X9_next w) (fun v w' => v = ra_by x L (ra_sp x L p) ∧ w' 20 2 = Int32.ofNat (ra_sp x L p) ∧ ∀ c j, ¬ (c = 20 ∧ j = 2) → w' c j = w c j) := by
  have hL := h.1
  unfold f_X9_next
  refine rv_T_fx (α := rv_W → rv_R) (σ := Nat × rv_W) (fun t a => a t.2) (fun t => t.1 ≤ L ∧ ra_sp x L t.1 = ra_sp x L p ∧ t.2 20 2 = Int32.ofNat t.1 ∧ ∀ c j, ¬ (c = 20 ∧ j = 2) → t.2 c j = w c j) (fun t => L - t.1) ?_ rv_FU (p, w) (by show L - p < 10000; omega) ⟨hp, rfl, hw, fun _ _ _ => rfl⟩
  intro ag ⟨k, w'⟩ hI q
  obtain ⟨hk, hn, h2, hf⟩ := hI
  dsimp only at hk hn h2 hf q ⊢
  have hT : ra_tc L x w' := ⟨hL, by rw [hf _ _ (by omega), h.2.1], fun i hi => ⟨(h.2.2 i hi).1, by rw [hf _ _ (by omega), (h.2.2 i hi).2]⟩⟩
  have el : (w' 20 2 < w' 20 0) ↔ k < L := by rw [h2, hT.2.1]; exact rv_n_lt (by omega) (by omega)
  rw [rv_T_jn]
  by_cases hkL : k < L
  · have hx := (h.2.2 k hkL).1
    have e32 : (Int32.ofNat (x k) = 32) ↔ x k = 32 := rv_n_eq (j := 32) (by omega) (by omega)
    rw [if_pos (el.mpr hkL), h2, ra_byteAt hT hkL, rv_bd_some]
    by_cases e : x k = 32
    · rw [if_pos (e32.mpr e), rv_T_lt, h2, rv_n_succ]
      exact q (k + 1, rv_up w' 20 2 (Int32.ofNat (k + 1))) ⟨hkL, by rw [← hn, ra_sp_1 hkL e], (show rv_up w' 20 2 (Int32.ofNat (k + 1)) 20 2 = Int32.ofNat (k + 1) from rv_up_same), fun c j z => by
        show rv_up w' 20 2 (Int32.ofNat (k + 1)) c j = w c j
        rw [rv_up_of z, hf c j z]⟩ (by dsimp only; omega)
    · have e0 : ra_sp x L k = k := ra_sp_0 (fun z => e z.2)
      rw [if_neg (fun z => e (e32.mp z))]
      show rv_T (if w' 20 2 < w' 20 0 then rv_bd (f_X9_byteAt (w' 20 2) w') (fun r7 w8 => some (r7, w8)) else some (-1, w')) _
      rw [if_pos (el.mpr hkL), h2, ra_byteAt hT hkL, rv_bd_some]
      refine rv_T_some.mpr ⟨?_, ?_, hf⟩
      · rw [← hn, e0]; exact (if_pos hkL).symm
      · rw [← hn, e0, h2]
  · have e0 : ra_sp x L k = k := ra_sp_0 (fun z => hkL z.1)
    rw [if_neg (fun z => hkL (el.mp z))]
    show rv_T (if w' 20 2 < w' 20 0 then rv_bd (f_X9_byteAt (w' 20 2) w') (fun r7 w8 => some (r7, w8)) else some (-1, w')) _
    rw [if_neg (fun z => hkL (el.mp z))]
    refine rv_T_some.mpr ⟨?_, ?_, hf⟩
    · rw [← hn, e0]; exact (if_neg hkL).symm
    · rw [← hn, e0, h2]
