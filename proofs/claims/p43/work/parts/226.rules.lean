/-! the model's Kemeny, ended -/
def ra_kJ (p : Nat → Nat → Nat) (n : Nat) (L : List (List Nat)) (x : Int32) (w : rv_W) : Prop := (L = [] ∧ w 78 19 = -1 ∧ x = 0) ∨ ∃ B M b, ra_kI p L B M b ∧ x = Int32.ofNat M ∧ w 78 19 = Int32.ofNat B ∧ B ≤ 50000 ∧ ∀ j, j < n → w 92 j = Int32.ofNat (ra_gd b j)
theorem ra_gd_lt {l : List Nat} (h : ∀ c, c ∈ l → c < 5) : ∀ k, ra_gd l k < 10 := fun k => by
  by_cases q : k < l.length
  · have := h _ (ra_gd_mem q)
    omega
  · unfold ra_gd
    rw [List.getD_eq_getElem?_getD, List.getElem?_eq_none (by omega)]
    decide
theorem ra_ps_len {s : Nat} (hs : s < 32) : (ra_ps 5 s).length ≤ 120 := of_decide_eq_true (List.all_eq_true.mp (by decide +kernel : ((List.range 32).all fun s => decide ((ra_ps 5 s).length ≤ 120)) = true) s (rv_rg hs))
theorem ra_ck0 {t : rv_R} : rv_ck (0 : Int32) 5 t = t := rv_n_ck (i := 0) (by decide) (by decide)
theorem ra_nn0 : (0 : Int32).toNatClampNeg = 0 := rfl
theorem ra_m1lt {x : Nat} (h : x ≤ 50000) : (-1 : Int32) < Int32.ofNat x := by
  rw [Int32.lt_iff_toInt_lt, rv_n_int (by omega), show (-1 : Int32).toInt = -1 from rfl]
  omega
