/-! what of one ballot counts, and the sums of it: n voters, ballots m -/
def ra_kb (b C k c : Nat) : Bool := decide (rv_q b c < 9) && decide (rv_cn 5 (fun d => rv_hs C d && decide (rv_q b d < rv_q b c)) < k)
def ra_of (b C : Nat) : Nat := rv_cn 5 (fun c => rv_hs C c && !decide (rv_q b c < 9))
def ra_lt (b C c d : Nat) : Bool := if 0 < ra_of b C then !decide (rv_q b d < 9) && decide (c < d) else decide (rv_q b c < rv_q b d)
def ra_la (b C c : Nat) : Bool := (rv_hs C c && rv_al 5 (fun d => !(rv_hs C d && ra_lt b C c d))) && (!decide (0 < ra_of b C) || !decide (rv_q b c < 9))
def ra_K (n m : Nat → Nat) (C k c : Nat) : Nat := ra_S 20 n (fun g => ra_kb (m g) C k c)
def ra_L (n m : Nat → Nat) (C c : Nat) : Nat := ra_S 20 n (fun g => ra_la (m g) C c)
def ra_P (s : Nat) (n m : Nat → Nat) (a b : Nat) : Nat := ra_S 20 n (fun g => rv_hs s a && rv_hs s b && decide (rv_q (m g) a < rv_q (m g) b))
/-- K of those in C -/
def ra_KC (n m : Nat → Nat) (C k c : Nat) : Nat := if rv_hs C c = true then ra_K n m C k c else 0
def ra_sub (C s : Nat) : Prop := ∀ c, c < 5 → rv_hs C c = true → rv_hs s c = true
theorem ra_A1 {r C c : Nat} (hr : r ∈ rv_B) (hC : C < 32) (hc : c < 5) : (ra_fd (rv_at r) C == c + 1) = (rv_hs C c && ra_kb r C 1 c) := by
  have h := rv_all2 (p := fun r C => let d := ra_fd (rv_at r) C; (List.range 5).all fun c => (d == c + 1) == (rv_hs C c && ra_kb r C 1 c)) (l := rv_B) (m := List.range 32) (by decide +kernel) hr (rv_rg hC)
  exact eq_of_beq (List.all_eq_true.mp h c (rv_rg hc))
theorem ra_A2 {r C c : Nat} (hr : r ∈ rv_B) (hC : C < 32) (hc : c < 5) : (ra_ld (rv_at r) C == c + 1) = ra_la r C c := by
  have h := rv_all2 (p := fun r C => let d := ra_ld (rv_at r) C; (List.range 5).all fun c => (d == c + 1) == ra_la r C c) (l := rv_B) (m := List.range 32) (by decide +kernel) hr (rv_rg hC)
  exact eq_of_beq (List.all_eq_true.mp h c (rv_rg hc))
theorem ra_A4 {b s c : Nat} (hb : b ∈ rv_B) (hs : s < 32) (hc : c < 5) (h : rv_hs s c = true) : rv_q (rv_wi b s) c = if rv_q b c < 9 then rv_cn 5 (fun d => rv_hs s d && decide (rv_q b d < rv_q b c)) else 9 := by
  have h2 := rv_all2 (p := fun b s => let r := rv_wi b s; (List.range 5).all fun c => !(rv_hs s c) || rv_q r c == if rv_q b c < 9 then rv_cn 5 (fun d => rv_hs s d && decide (rv_q b d < rv_q b c)) else 9) (l := rv_B) (m := List.range 32) (by decide +kernel) hb (rv_rg hs)
  have h3 := List.all_eq_true.mp h2 c (rv_rg hc)
  rw [h, Bool.not_true, Bool.false_or] at h3
  exact eq_of_beq h3
theorem ra_A5 {b C : Nat} (hb : b ∈ rv_B) (hC : C < 32) : rv_cn 5 (fun c => rv_hs C c && ra_kb b C 1 c) = if ra_of b C < rv_mn C then 1 else 0 := by
  have h := rv_all2 (p := fun b C => rv_cn 5 (fun c => rv_hs C c && ra_kb b C 1 c) == if ra_of b C < rv_mn C then 1 else 0) (l := rv_B) (m := List.range 32) (by decide +kernel) hb (rv_rg hC)
  exact eq_of_beq h
theorem ra_wi_on {b s c : Nat} (hb : b ∈ rv_B) (hs : s < 32) (hc : c < 5) (h : rv_hs s c = true) : (rv_q (rv_wi b s) c < 9) = (rv_q b c < 9) :=
  propext ((rv_wi_hs hb hs hc hc).1.trans ⟨fun z => z.2, fun z => ⟨h, z⟩⟩)
theorem ra_wi_lt {b s c d : Nat} (hb : b ∈ rv_B) (hs : s < 32) (hc : c < 5) (hd : d < 5) (h : rv_hs s c = true) (h2 : rv_hs s d = true) : (rv_q (rv_wi b s) c < rv_q (rv_wi b s) d) = (rv_q b c < rv_q b d) :=
  propext ((rv_wi_hs hb hs hc hd).2 h h2)
