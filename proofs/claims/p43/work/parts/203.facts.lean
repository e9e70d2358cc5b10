/-! what is known of a ballot's places -/
theorem rv_at_le {r k : Nat} (hr : r ∈ rv_B) (hk : k < 5) : rv_at r k ≤ 5 :=
  of_decide_eq_true (rv_all2 (p := fun r k => decide (rv_at r k ≤ 5)) (l := rv_B) (m := List.range 5) (by decide +kernel) hr (rv_rg hk))
theorem rv_q_at {r k c : Nat} (hr : r ∈ rv_B) (hk : k < 5) (hc : c < 5) : rv_at r k = c + 1 ↔ rv_q r c = k := by
  have := rv_all2 (p := fun r k => (List.range 5).all fun c => decide (rv_at r k = c + 1 ↔ rv_q r c = k)) (l := rv_B) (m := List.range 5) (by decide +kernel) hr (rv_rg hk)
  exact of_decide_eq_true (List.all_eq_true.mp this c (rv_rg hc))
theorem rv_at_end {r k j : Nat} (hr : r ∈ rv_B) (hk : k < 5) (hj : j < 5) (h : rv_at r k = 0) (hkj : k ≤ j) : rv_at r j = 0 := by
  have := rv_all2 (p := fun r k => (List.range 5).all fun j => decide (rv_at r k = 0 → k ≤ j → rv_at r j = 0)) (l := rv_B) (m := List.range 5) (by decide +kernel) hr (rv_rg hk)
  exact of_decide_eq_true (List.all_eq_true.mp this j (rv_rg hj)) h hkj
theorem rv_q_or (r c : Nat) : rv_q r c < 5 ∨ rv_q r c = 9 := by
  unfold rv_q
  split
  · omega
  · split
    · omega
    · split
      · omega
      · split
        · omega
        · split <;> omega
theorem rv_wo_lt {s c : Nat} (hs : s < 32) : rv_wo s c < 32 := by
  unfold rv_wo
  split
  · exact Nat.lt_of_le_of_lt (Nat.sub_le _ _) hs
  · exact hs
theorem rv_wo_bit {s c b : Nat} (hs : s < 32) (hc : c < 5) (hb : b < 5) : (rv_wo s c).testBit b = (s.testBit b && !decide (b = c)) := by
  have := rv_all2 (p := fun s c => (List.range 5).all fun b => (rv_wo s c).testBit b == (s.testBit b && !decide (b = c))) (l := List.range 32) (m := List.range 5) (by decide +kernel) (rv_rg hs) (rv_rg hc)
  exact eq_of_beq (List.all_eq_true.mp this b (rv_rg hb))
theorem rv_wi_q {b s c d : Nat} (hb : b ∈ rv_B) (hs : s < 32) (hc : c < 5) (hd : d < 5) : (rv_q (rv_wi b s) c < 9 ↔ s.testBit c = true ∧ rv_q b c < 9) ∧ (s.testBit c = true → s.testBit d = true → (rv_q (rv_wi b s) c < rv_q (rv_wi b s) d ↔ rv_q b c < rv_q b d)) := by
  have h := rv_all2 (p := fun b s => let r := rv_wi b s; (List.range 5).all fun c => (decide (rv_q r c < 9) == (s.testBit c && decide (rv_q b c < 9))) && (!(s.testBit c) || (List.range 5).all fun d => !(s.testBit d) || decide (rv_q r c < rv_q r d) == decide (rv_q b c < rv_q b d))) (l := rv_B) (m := List.range 32) (by decide +kernel) hb (rv_rg hs)
  have h2 := List.all_eq_true.mp h c (rv_rg hc)
  rw [Bool.and_eq_true, Bool.or_eq_true] at h2
  obtain ⟨h3, h4⟩ := h2
  refine ⟨by rw [← decide_eq_true_iff (p := rv_q (rv_wi b s) c < 9), eq_of_beq h3]; simp, fun h5 h6 => ?_⟩
  rcases h4 with h4 | h4
  · simp [h5] at h4
  · have h7 := List.all_eq_true.mp h4 d (rv_rg hd)
    simpa [h6] using h7
theorem rv_wi_wi {b s t : Nat} (hb : b ∈ rv_B) (hs : s < 32) : rv_wi (rv_wi b s) s = rv_wi b s := by
  have h := rv_all2 (p := fun b s => rv_wi (rv_wi b s) s == rv_wi b s) (l := rv_B) (m := List.range 32) (by decide +kernel) hb (rv_rg hs)
  exact eq_of_beq h
theorem rv_l5 {i : Nat} (h : i < 2147483648) : Int32.ofNat i < (5 : Int32) ↔ i < 5 := rv_n_lt (j := 5) h (by decide)
theorem rv_l20 {i : Nat} (h : i < 2147483648) : Int32.ofNat i < (20 : Int32) ↔ i < 20 := rv_n_lt (j := 20) h (by decide)
theorem rv_l25 {i : Nat} (h : i < 2147483648) : Int32.ofNat i < (25 : Int32) ↔ i < 25 := rv_n_lt (j := 25) h (by decide)
theorem rv_bt0 {s c : Nat} : Int32.ofNat (rv_bt s c) = 0 ↔ ¬ s.testBit c = true := by
  unfold rv_bt
  split
  · rename_i h; exact ⟨fun z => absurd z (by decide), fun z => absurd h z⟩
  · rename_i h; exact ⟨fun _ => h, fun _ => rfl⟩
theorem rv_ci_succ {c : Nat} : rv_ci (c + 1) = Int32.ofNat c := by
  unfold rv_ci
  rw [Int32.ofNat_add]
  exact Int32.add_sub_cancel _ _
theorem rv_ci_zero : rv_ci 0 = -1 := by decide
