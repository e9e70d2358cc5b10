/-! the law's own rules -/
def rl_K (D : va_G) (ad : Nat → Nat) (ca : Nat → ClassId) (l : Launch) (b L : Nat) (xs : Nat → Int32) (K : Nat → List (Nat × Value) → List Value → rv_W → rv_R → Prop) : Prop :=
  rv_Rl D ad ca l RL code 4 12 478 K ∧ (∀ (pc : Nat) (lv : List (Nat × Value)) (st : List Value) (w : rv_W) (t : rv_R) (i : Int32), decode code pc = .ok (.iaload, 1) → vp_in i L → K (pc + 1) lv (.int (xs i.toNatClampNeg) :: st) w t → K pc lv (.int i :: .ref b :: st) w t) ∧ (∀ (pc : Nat) (lv : List (Nat × Value)) (st : List Value) (w : rv_W) (t : rv_R), decode code pc = .ok (.arraylength, 1) → K (pc + 1) lv (.int (Int32.ofNat L) :: st) w t → K pc lv (.ref b :: st) w t)
def rl_lv (ad : Nat → Nat) (b i : Nat) : List (Nat × Value) := [(0, .ref b), (1, .ref (ad 0)), (2, .ref (ad 78)), (3, .int (Int32.ofNat i))]
section LAW
variable {D : va_G} {ad : Nat → Nat} {ca : Nat → ClassId} {l : Launch} {b L : Nat} {xs : Nat → Int32} {K : Nat → List (Nat × Value) → List Value → rv_W → rv_R → Prop} {lv : List (Nat × Value)} {st : List Value} {w : rv_W} {t : rv_R}
theorem rl_arg (h : rl_K D ad ca l b L xs K) (hL : L ≤ 2560) (pc k : Nat) {i : Nat} (hi : i + k < L) {n0 : Int} (d0 : decode code pc = .ok (.aload_n 0, 1)) (d1 : decode code (pc + 1) = .ok (.iload_n 3, 1)) (d2 : decode code (pc + 2) = .ok (.iconst n0, 1)) (hk : Int32.ofInt n0 = Int32.ofNat k) (d3 : decode code (pc + 3) = .ok (.iadd, 1)) (d4 : decode code (pc + 4) = .ok (.iaload, 1)) (n : K (pc + 5) (rl_lv ad b i) (.int (xs (i + k)) :: st) w t) : K pc (rl_lv ad b i) st w t := by
  refine rv_aload_n h.1 pc d0 0 rfl ?_
  refine rv_iload_n h.1 (pc + 1) d1 3 rfl ?_
  refine rv_iconst h.1 (pc + 2) d2 hk ?_
  refine rv_iadd h.1 (pc + 3) d3 ?_
  rw [← Int32.ofNat_add]
  refine h.2.1 (pc + 4) _ _ _ _ _ d4 ?_ ?_
  · intro z
    rcases z with z | z
    · exact rv_n_neg (by omega) z
    · rw [rv_n_nat (by omega)] at z
      omega
  · rw [rv_n_nat (by omega)]
    exact n
theorem rl_eq (h : rl_K D ad ca l b L xs K) (pc : Nat) {x y : Int32} {off : Int} {tgt : Nat} (d : decode code pc = .ok (.if_icmp .eq off, 3)) (e0 : (pc : Int) + off = (tgt : Int)) (hv : x = y) (n : K tgt lv st w t) : K pc lv (.int y :: .int x :: st) w t := by
  have z := rv_icmp_eq (x := x) (y := y) (t1 := t) (t2 := none) h.1 pc d e0 (fun _ => n) (fun _ => rv_none h.1)
  rw [if_pos hv] at z
  exact z
theorem rl_nz (h : rl_K D ad ca l b L xs K) (pc : Nat) {x : Int32} (d0 : decode code pc = .ok (.ifCond .eq 7, 3)) (d1 : decode code (pc + 3) = .ok (.iconst 1, 1)) (d2 : decode code (pc + 4) = .ok (.goto 4, 3)) (d3 : decode code (pc + 7) = .ok (.iconst 0, 1)) (n : K (pc + 8) lv (.int (if x = 0 then 0 else 1) :: st) w t) : K pc lv (.int x :: st) w t := by
  have z := rv_if_eq (t1 := t) (t2 := t) (lv := lv) (st := st) (w := w) (x := x) (tgt := pc + 7) h.1 pc d0 (by omega) (fun c => by
    refine rv_iconst (v := 0) h.1 (pc + 7) d3 (by decide) ?_
    rw [if_pos c] at n
    exact n) (fun c => by
    refine rv_iconst (v := 1) h.1 (pc + 3) d1 (by decide) ?_
    refine rv_goto (tgt := pc + 8) h.1 (pc + 4) d2 (by omega) ?_
    rw [if_neg c] at n
    exact n)
  rw [ite_self] at z
  exact z
theorem rl_call {y : MethodName} {bb : ByteArray} {nL2 n0 fr2 lo2 idx k ci : Nat} {ty : FieldType} {fs : List (Option Nat)} {As st0 : List Value} {t1 : rv_R} {r1 : Int32} {w1 : rv_W} (h : rl_K D ad ca l b L xs K) (pc : Nat) (d : decode code pc = .ok (.invokevirtual idx, 3)) (hF : rv_Fn l D ad ca y bb nL2 (some ty) fr2 lo2 (.ref (ad k) :: As) w t1) (hC : rv_CeV y bb nL2 (some ty) n0) (hlink : Cond.methodLink RL idx y ∈ rv_tb) (hs : rv_sh k = .inl (ci, fs)) (hc : (rv_cT ci).1 = y.cls) (hcf : rv_CF ci) (hn : As.length = n0) (hst : st0 = As.reverse ++ .ref (ad k) :: st) (hcat : (st.map fun v => v.category).sum ≤ 8) (hroom : fr2 + 1 ≤ 12 ∧ 8 + (nL2 + 11) + lo2 ≤ 478) (e1 : t1 = some (r1, w1)) (n : K (pc + 3) lv (.int r1 :: st) w1 t) : K pc lv st0 w t := by
  have e : rv_bd t1 (fun r w' => @ite rv_R (r = r1 ∧ w' = w1) (Classical.propDecidable _) t none) = t := by
    rw [e1, rv_bd_some]
    exact if_pos ⟨rfl, rfl⟩
  have z : K pc lv st0 w (rv_bd t1 (fun r w' => @ite rv_R (r = r1 ∧ w' = w1) (Classical.propDecidable _) t none)) := by
    refine rv_callVi h.1 pc d hF hC hlink hs hc hcf hn hst hcat hroom (fun r w' => ?_)
    by_cases q : r = r1 ∧ w' = w1
    · rw [if_pos q, q.1, q.2]
      exact n
    · rw [if_neg q]
      exact rv_none h.1
  rw [e] at z
  exact z
theorem rl_next (h : rl_K D ad ca l b L xs K) {i : Nat} (n : K 18 (rl_lv ad b (i + 5)) [] w t) : K 1214 (rl_lv ad b i) [] w t := by
  have e : (if Int32.ofNat i + (5 : Int32) = Int32.ofNat (i + 5) then t else none) = t := if_pos (by rw [Int32.ofNat_add]; rfl)
  have z : K 1214 (rl_lv ad b i) [] w (rv_lt (Int32.ofNat i + (5 : Int32)) (fun v => if v = Int32.ofNat (i + 5) then t else none)) := by
    refine rv_iinc h.1 1214 (fun v => [(3, .int v), (0, .ref b), (1, .ref (ad 0)), (2, .ref (ad 78))]) dL_law_1214 3 rfl (by decide) (by decide) (fun v => rfl) (fun v => ?_)
    by_cases q : v = Int32.ofNat (i + 5)
    · rw [if_pos q, q]
      refine rv_goto (tgt := 18) h.1 1217 dL_law_1217 (by decide) ?_
      exact rv_sub h.1 [1, 2, 3, 0] rfl n
    · rw [if_neg q]
      exact rv_none h.1
  unfold rv_lt at z
  dsimp only at z
  rw [e] at z
  exact z
theorem rl_gt {i : Nat} (hL : L ≤ 2560) (hi : i ≤ 5000) : (Int32.ofNat L - (5 : Int32) < Int32.ofNat i) ↔ L < i + 5 := by
  have e : (Int32.ofNat L - (5 : Int32)).toInt = (L : Int) - 5 := by
    rw [← Int32.ofInt_eq_ofNat, show (5 : Int32) = Int32.ofInt 5 from rfl, ← Int32.ofInt_sub, Int32.toInt_ofInt_of_le (by omega) (by omega)]
  rw [Int32.lt_iff_toInt_lt, e, rv_n_int (by omega)]
  omega
end LAW
