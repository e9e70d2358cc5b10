section MATH
variable {l : Launch} {D : va_G} {ad : Nat → Nat} {ca : Nat → ClassId} {own : String} {cc : ByteArray} {nL fr lo : Nat} {K : Nat → List (Nat × Value) → List Value → rv_W → rv_R → Prop} {lv : List (Nat × Value)} {st : List Value} {w : rv_W} {t : rv_R}
theorem rv_mmax (h : rv_Rl D ad ca l own cc nL fr lo K) (pc : Nat) {idx : Nat} {x y : Int32} (d : decode cc pc = .ok (.invokestatic idx, 3)) (hC : rv_CeS yJ9_max_7cf53 cJ9_max_7cf53 2 (some .int) 2) (hlink : Cond.methodLink own idx yJ9_max_7cf53 ∈ rv_tb) (hcat : (st.map fun v => v.category).sum ≤ 8) (hroom : 1 ≤ fr ∧ 21 ≤ lo) (n : K (pc + 3) lv (.int (if x < y then y else x) :: st) w t) : K pc lv (.int y :: .int x :: st) w t := by
  obtain ⟨p, e, R, s, m, args, below, meth, c, A, cs, sl, Q, rv, rw, hx, hb, hml, hown, hts, hK, ⟨hJ, hN⟩, hA, hR, rfl⟩ := h
  intro ht H locs ls hP hS hl
  obtain ⟨⟨hcode, hini, hd⟩, hsta⟩ := hC
  exact va_mmax hx hb (hml.trans hl.1.symm) hown (hts _ hlink) (hts _ hsta) (hts _ hini) (hts _ hcode) (Nat.le_trans hroom.1 hR.1) (Nat.le_trans (Nat.add_le_add_right hcat 13) (Nat.le_trans hroom.2 hR.2.1)) hR.2.2.1 hR.2.2.2 d (n ht H locs ls hP hS hl)
theorem rv_mmin (h : rv_Rl D ad ca l own cc nL fr lo K) (pc : Nat) {idx : Nat} {x y : Int32} (d : decode cc pc = .ok (.invokestatic idx, 3)) (hC : rv_CeS yJ9_min_7cf53 cJ9_min_7cf53 2 (some .int) 2) (hlink : Cond.methodLink own idx yJ9_min_7cf53 ∈ rv_tb) (hcat : (st.map fun v => v.category).sum ≤ 8) (hroom : 1 ≤ fr ∧ 21 ≤ lo) (n : K (pc + 3) lv (.int (if y < x then y else x) :: st) w t) : K pc lv (.int y :: .int x :: st) w t := by
  obtain ⟨p, e, R, s, m, args, below, meth, c, A, cs, sl, Q, rv, rw, hx, hb, hml, hown, hts, hK, ⟨hJ, hN⟩, hA, hR, rfl⟩ := h
  intro ht H locs ls hP hS hl
  obtain ⟨⟨hcode, hini, hd⟩, hsta⟩ := hC
  exact va_mmin hx hb (hml.trans hl.1.symm) hown (hts _ hlink) (hts _ hsta) (hts _ hini) (hts _ hcode) (Nat.le_trans hroom.1 hR.1) (Nat.le_trans (Nat.add_le_add_right hcat 13) (Nat.le_trans hroom.2 hR.2.1)) hR.2.2.1 hR.2.2.2 d (n ht H locs ls hP hS hl)
end MATH
