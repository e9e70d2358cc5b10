/-! long arithmetic, as the law's own checks use it -/
def rv_ltl (a : Int64) (k : Int64 → rv_R) : rv_R := k a
section LONGS
variable {l : Launch} {D : va_G} {ad : Nat → Nat} {ca : Nat → ClassId} {own : String} {cc : ByteArray} {nL fr lo : Nat} {K : Nat → List (Nat × Value) → List Value → rv_W → rv_R → Prop} {lv lv' : List (Nat × Value)} {st : List Value} {w : rv_W} {t : rv_R}
theorem rv_topl {pc : Nat} {a : Int64} {f : Int64 → rv_R} (n : ∀ x : Int64, K pc lv (.long x :: st) w (f x)) : K pc lv (.long a :: st) w (rv_ltl a f) := n a
theorem rv_i2l (h : rv_Rl D ad ca l own cc nL fr lo K) (pc : Nat) {x : Int32} (d : decode cc pc = .ok (.i2l, 1)) (n : K (pc + 1) lv (.long x.toInt64 :: st) w t) : K pc lv (.int x :: st) w t := by
  obtain ⟨p, e, R, s, m, args, below, meth, c, A, cs, sl, Q, rv, rw, hx, hb, hml, hown, hts, hK, ⟨hJ, hN⟩, hA, hR, rfl⟩ := h
  intro ht H locs ls hP hS hl
  exact lv_i2l hx hb d rfl (n ht H locs ls hP hS hl)
theorem rv_ldc2 (h : rv_Rl D ad ca l own cc nL fr lo K) (pc : Nat) {idx : Nat} {v : Int64} (d : decode cc pc = .ok (.ldc2_w idx, 3)) (hv : Cond.constantLong own idx v ∈ rv_tb) (n : K (pc + 3) lv (.long v :: st) w t) : K pc lv st w t := by
  obtain ⟨p, e, R, s, m, args, below, meth, c, A, cs, sl, Q, rv, rw, hx, hb, hml, hown, hts, hK, ⟨hJ, hN⟩, hA, hR, rfl⟩ := h
  intro ht H locs ls hP hS hl
  exact lv_ldc2 hx hb hown (hts _ hv) d (n ht H locs ls hP hS hl)
theorem rv_lmul (h : rv_Rl D ad ca l own cc nL fr lo K) (pc : Nat) {x y : Int64} (d : decode cc pc = .ok (.lmul, 1)) (n : K (pc + 1) lv (.long (x * y) :: st) w t) : K pc lv (.long y :: .long x :: st) w t := by
  obtain ⟨p, e, R, s, m, args, below, meth, c, A, cs, sl, Q, rv, rw, hx, hb, hml, hown, hts, hK, ⟨hJ, hN⟩, hA, hR, rfl⟩ := h
  intro ht H locs ls hP hS hl
  exact lv_lmul hx hb d (n ht H locs ls hP hS hl)
theorem rv_ladd (h : rv_Rl D ad ca l own cc nL fr lo K) (pc : Nat) {x y : Int64} (d : decode cc pc = .ok (.ladd, 1)) (n : K (pc + 1) lv (.long (x + y) :: st) w t) : K pc lv (.long y :: .long x :: st) w t := by
  obtain ⟨p, e, R, s, m, args, below, meth, c, A, cs, sl, Q, rv, rw, hx, hb, hml, hown, hts, hK, ⟨hJ, hN⟩, hA, hR, rfl⟩ := h
  intro ht H locs ls hP hS hl
  exact lv_ladd hx hb d (n ht H locs ls hP hS hl)
theorem rv_lcmp (h : rv_Rl D ad ca l own cc nL fr lo K) (pc : Nat) {x y : Int64} (d : decode cc pc = .ok (.lcmp, 1)) (n : K (pc + 1) lv (.int (lg_cmp x y) :: st) w t) : K pc lv (.long y :: .long x :: st) w t := by
  obtain ⟨p, e, R, s, m, args, below, meth, c, A, cs, sl, Q, rv, rw, hx, hb, hml, hown, hts, hK, ⟨hJ, hN⟩, hA, hR, rfl⟩ := h
  intro ht H locs ls hP hS hl
  exact W.lcmp hx hb d (n ht H locs ls hP hS hl)
theorem rv_lload (h : rv_Rl D ad ca l own cc nL fr lo K) (pc : Nat) {i : Nat} {x : Int64} (d : decode cc pc = .ok (.lload i, 2)) (k : Nat) (hk : lv[k]? = some (i, .long x)) (n : K (pc + 2) lv (.long x :: st) w t) : K pc lv st w t := by
  obtain ⟨p, e, R, s, m, args, below, meth, c, A, cs, sl, Q, rv, rw, hx, hb, hml, hown, hts, hK, ⟨hJ, hN⟩, hA, hR, rfl⟩ := h
  intro ht H locs ls hP hS hl
  exact lv_lload hx hb d (lv_at hl k hk) (n ht H locs ls hP hS hl)
theorem rv_lstore (h : rv_Rl D ad ca l own cc nL fr lo K) (pc : Nat) {i : Nat} {x : Int64} (d : decode cc pc = .ok (.lstore i, 2)) (hn : i + 1 < nL) (hv : (i, Value.long x) :: lv.filter (fun q => !(q.1 == i) && (!(q.1 == i + 1) && !(q.1 + 1 == i && q.2.category == 2))) = lv') (n : K (pc + 2) lv' st w t) : K pc lv (.long x :: st) w t := by
  obtain ⟨p, e, R, s, m, args, below, meth, c, A, cs, sl, Q, rv, rw, hx, hb, hml, hown, hts, hK, ⟨hJ, hN⟩, hA, hR, rfl⟩ := h
  intro ht H locs ls hP hS hl
  exact lv_lstore hx hb d hl hn hv (fun ls' hl' => n ht H locs ls' hP hS hl')
end LONGS
theorem rv_kl_L_70 : Cond.constantLong RL 70 (64 : Int64) ∈ rv_tb := rv_tbm 751 (by decide +kernel) rfl
