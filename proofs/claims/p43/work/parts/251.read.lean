/-! a ballot read from its last digit -/
def ra_rd : Nat → Nat → List Nat → Nat → List Nat
  | 0, _, L, N => if N = 0 then L else []
  | f + 1, s, L, N => if N = 0 then L else if (1 ≤ N % 10 ∧ N % 10 ≤ 5) ∧ rv_hs s (N % 10 - 1) = false then ra_rd f (ra_un s (2 ^ (N % 10 - 1))) ((N % 10 - 1) :: L) (N / 10) else []
theorem ra_rd_s {f s N : Nat} {L : List Nat} : ra_rd (f + 1) s L N = if N = 0 then L else if (1 ≤ N % 10 ∧ N % 10 ≤ 5) ∧ rv_hs s (N % 10 - 1) = false then ra_rd f (ra_un s (2 ^ (N % 10 - 1))) ((N % 10 - 1) :: L) (N / 10) else [] := rfl
def ra_dc (L : List Nat) : Nat := L.foldl (fun a c => 10 * a + (c + 1)) 0
def ra_dcr : List Nat → Nat → Nat
  | [], N => N
  | c :: L, N => ra_dcr L (10 * N + (c + 1))
theorem ra_mem_add {s c : Nat} {L : List Nat} (hs : s < 32) (hc : c < 5) (h : rv_hs s c = false) (hL : L ∈ ra_ps 5 s) : (c :: L) ∈ ra_ps 5 (ra_un s (2 ^ c)) := by
  have t := List.all_eq_true.mp (List.all_eq_true.mp (List.all_eq_true.mp (by decide +kernel : ((List.range 32).all fun s => (ra_ps 5 s).all fun L => (List.range 5).all fun c => rv_hs s c || (ra_ps 5 (ra_un s (2 ^ c))).contains (c :: L)) = true) s (rv_rg hs)) L hL) c (rv_rg hc)
  rw [h, Bool.false_or] at t
  exact List.contains_iff_mem.mp t
theorem ra_rd_in {f s N : Nat} {L : List Nat} (hs : s < 32) (hL : L ∈ ra_ps 5 s) : ra_rd f s L N = [] ∨ (∃ t, t < 32 ∧ ra_rd f s L N ∈ ra_ps 5 t) ∧ ra_dcr (ra_rd f s L N) 0 = ra_dcr L N := by
  induction f generalizing s L N with
  | zero =>
    unfold ra_rd
    by_cases q : N = 0
    · rw [if_pos q, q]; exact Or.inr ⟨⟨s, hs, hL⟩, rfl⟩
    · rw [if_neg q]; exact Or.inl rfl
  | succ f ih =>
    rw [ra_rd_s]
    by_cases q : N = 0
    · rw [if_pos q, q]; exact Or.inr ⟨⟨s, hs, hL⟩, rfl⟩
    · rw [if_neg q]
      by_cases q2 : (1 ≤ N % 10 ∧ N % 10 ≤ 5) ∧ rv_hs s (N % 10 - 1) = false
      · rw [if_pos q2]
        rcases ih (N := N / 10) ra_un_lt (ra_mem_add hs (by omega) q2.2 hL) with z | ⟨z1, z2⟩
        · exact Or.inl z
        · refine Or.inr ⟨z1, z2.trans ?_⟩
          show ra_dcr L (10 * (N / 10) + (N % 10 - 1 + 1)) = ra_dcr L N
          rw [show 10 * (N / 10) + (N % 10 - 1 + 1) = N by omega]
      · rw [if_neg q2]; exact Or.inl rfl
/-- the digit -/
theorem ra_digit {N : Nat} (hN : N < 2147483648) : (Int32.ofNat N - Int32.ofNat N / (10 : Int32) * (10 : Int32)) - (1 : Int32) = rv_ci (N % 10) ∧ Int32.ofNat N / (10 : Int32) = Int32.ofNat (N / 10) := by
  have e : Int32.ofNat N / (10 : Int32) = Int32.ofNat (N / 10) := by
    rw [← Int32.toInt_inj, Int32.toInt_div, rv_n_int hN, rv_n_int (by omega), show (10 : Int32).toInt = 10 from rfl]
    rw [Int.tdiv_eq_ediv_of_nonneg (by omega)]
    have : ((N : Int) / 10) = ((N / 10 : Nat) : Int) := by omega
    rw [this, Int.bmod_eq_of_le (by omega) (by omega)]
  refine ⟨?_, e⟩
  rw [e]
  have e2 : Int32.ofNat (N / 10) * (10 : Int32) = Int32.ofNat (N / 10 * 10) := by rw [Int32.ofNat_mul]; rfl
  rw [e2, ← Int32.ofNat_sub _ _ (by omega)]
  unfold rv_ci
  rw [show N - N / 10 * 10 = N % 10 by omega]
theorem ra_ci_iv {d : Nat} (hd : d < 10) : ra_iv (rv_ci d) 5 = decide (1 ≤ d ∧ d ≤ 5) := by
  have := List.all_eq_true.mp (by decide +kernel : ((List.range 10).all fun d => ra_iv (rv_ci d) 5 == decide (1 ≤ d ∧ d ≤ 5)) = true) d (rv_rg hd)
  exact beq_iff_eq.mp this
