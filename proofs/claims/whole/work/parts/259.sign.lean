def ra_sign (x : Nat → Nat) (L p c : Nat) : Bool := decide (ra_sp x L p < L ∧ x (ra_sp x L p) = c)
theorem ra_by_is {x : Nat → Nat} {L p c : Nat} (hx : ∀ i, i < L → x i < 256) (hc : c < 256) : (ra_by x L p = Int32.ofNat c) ↔ (p < L ∧ x p = c) := by
  unfold ra_by
  by_cases q : p < L
  · have := hx p q
    rw [if_pos q]
    exact (rv_n_eq (by omega) (by omega)).trans ⟨fun z => ⟨q, z⟩, fun z => z.2⟩
  · rw [if_neg q]
    refine ⟨fun z => ?_, fun z => absurd z.1 q⟩
    have := congrArg Int32.toInt z
    rw [rv_n_int (by omega), show (-1 : Int32).toInt = -1 from rfl] at this
    omega
theorem ra_readSign {L p c : Nat} {x : Nat → Nat} {w : rv_W} (h : ra_tc L x w) (hp : p ≤ L) (hw : w 20 2 = Int32.ofNat p) (hc : c < 256) : rv_T (f_X9_readSign (Int32.ofNat c) w) (fun v w' => v = rv_b2 (ra_sign x L p c) ∧ w' 20 2 = Int32.ofNat (if ra_sign x L p c = true then ra_sp x L p + 1 else ra_sp x L p) ∧ ∀ c j, ¬ (c = 20 ∧ j = 2) → w' c j = w c j) := by
  unfold f_X9_readSign
  refine rv_T_call (ra_next9 h hp hw) (fun v w2 ⟨hv, h2, hf⟩ => ?_)
  subst hv
  rw [rv_jn_if, decide_eq_decide.mpr (ra_by_is (fun i hi => (h.2.2 i hi).1) hc)]
  have ed : decide (ra_sp x L p < L ∧ x (ra_sp x L p) = c) = ra_sign x L p c := rfl
  rw [ed]
  cases e : ra_sign x L p c
  · rw [if_pos ra_e0, ra_gdb]
    exact rv_T_some.mpr ⟨rfl, by rw [h2, if_neg (by decide)], hf⟩
  · rw [if_neg ra_e1, rv_T_lt, ra_gdb, h2, rv_n_succ]
    exact rv_T_some.mpr ⟨rfl, by rw [rv_up_same, if_pos rfl], fun c j z => by rw [rv_up_of z, hf c j z]⟩
