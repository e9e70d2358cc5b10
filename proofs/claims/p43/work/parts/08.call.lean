section CALLS
variable (l : Launch) (D : va_G) (ad : Nat → Nat) (ca : Nat → ClassId)
def rv_Pc (av : List Value) (w : rv_W) : Array Value → State → Prop := va_Pc av (fun U => va_P D rv_cl (rv_wl ad ca w) U.heap ∧ va_K D rv_cl (rv_tys ca) U ∧ va_Nw rv_nw U)
def rv_Qc (rt : Option FieldType) (rv : Int32) (rw : rv_W) : Array Value → State → Outcome → State → Prop := match rt with
  | none => va_Qv (fun _ : Unit => True) (fun _ t => va_P D rv_cl (rv_wl ad ca rw) t.heap) (rv_A ad)
  | some _ => va_Qi (fun (r : Int32) (_ : Unit) => r = rv) (fun _ t => va_P D rv_cl (rv_wl ad ca rw) t.heap) (rv_A ad)
/-- the contract of a method that is the function t of its world: where t answers, the method does -/
def rv_Fn (y : MethodName) (cc : ByteArray) (nL : Nat) (rt : Option FieldType) (fr lo : Nat) (av : List Value) (w : rv_W) (t : rv_R) : Prop :=
  ∀ (rv : Int32) (rw : rv_W), t = some (rv, rw) → Met l y (Cond.code y cc nL rt :: rv_tb) { frames := fr, cells := 0, slots := 0, locals := lo } (rv_Pc D ad ca av w) (rv_Qc D ad ca rt rv rw) 0 0 (rv_A ad)
end CALLS
section MK
variable {l : Launch} {D : va_G} {ad : Nat → Nat} {ca : Nat → ClassId}
theorem rv_blind {av : List Value} {w : rv_W} : FrameBlind (rv_Pc D ad ca av w) := fun a U g mk q => by
  obtain ⟨q0, qP, qK, qN⟩ := q
  exact ⟨q0, qP, va_K.moved (u := U) (U := U.calling g mk a) (Vm.Alike.refl U.vm) qK, va_Nw.same (u := U) (U := U.calling g mk a) rfl rfl qN⟩
theorem rv_mk {y : MethodName} {cc : ByteArray} {nL : Nat} {rt : Option FieldType} {fr lo : Nat} {av : List Value} {w : rv_W} {t : rv_R} {lv : List (Nat × Value)} (hJ : rv_J ad) (hy : plainName y.cls = true) (hn : (lg_sl av).length ≤ nL) (hlv : lv_args 0 av = lv)
    (h : ∀ K, rv_Rl D ad ca l y.cls cc nL fr lo K → rv_Ret cc rt K → K 0 lv [] w t) : rv_Fn l D ad ca y cc nL rt fr lo av w t := by
  intro rv rw ht
  refine Met.ofW (cc := cc) (maxL := nL) (ret := rt) hy rfl ?_
  intro p e s m args below meth c s₁ B hml hv
  obtain ⟨rfl, hP, hK, hN⟩ := hv
  have hx := B.exec
  have hb := B.bytes
  have hr := B.returns
  have hts0 := atoms_spec (ws := Cond.code y cc nL rt :: rv_tb) B.pre
  have hts : ∀ w ∈ rv_tb, w.before av.toArray s = true := fun w hw => hts0 w (List.mem_cons_of_mem _ hw)
  have hown : s.vm.findClass y.cls = some m.cls := findClass_of_methodNamed B.named
  have hlocks := B.notSynchronized
  have hl := lv_entry av hn
  rw [hlv] at hl
  rw [lg_entry_eq]
  generalize (lg_sl av ++ List.replicate (nL - (lg_sl av).length) Slot.unset).toArray = ls at hl ⊢
  refine h (rv_Ok D ad ca p l e _ s m av.toArray below meth c (rv_A ad) 0 0 _ nL rv rw) ⟨p, e, _, s, m, av.toArray, below, meth, c, rv_A ad, 0, 0, _, rv, rw, hx, hb, hml, hown, hts, hK, ⟨hJ, hN⟩, fun k hk => ⟨k, hk, rfl⟩, ⟨Nat.le_refl _, Nat.le_refl _, Nat.le_refl _, Nat.le_refl _⟩, rfl⟩ ?_ ht s.heap [] ls hP va_S.rf hl
  cases rt with
  | none =>
    intro pc lv w d h1 H locs ls hP hS hl
    cases h1
    exact W.vret hx hb hr (fun t ht hW => ⟨⟨(), rfl, trivial, by show va_P D rv_cl (rv_wl ad ca rw) t.heap; rw [ht]; exact hP⟩, hS.F ht⟩) hS.2.2 d
  | some ty =>
    intro pc lv w v d hnar h1 H locs ls hP hS hl
    cases h1
    exact W.zret hx hb hr hnar (fun t ht hW => ⟨⟨_, (), rfl, rfl, by show va_P D rv_cl (rv_wl ad ca rw) t.heap; rw [ht]; exact hP⟩, hS.F ht⟩) hS.2.2 d
end MK
def rv_Ce (y : MethodName) (b : ByteArray) (nL : Nat) (rt : Option FieldType) (n : Nat) : Prop := Cond.code y b nL rt ∈ rv_tb ∧ Cond.initialized y.cls ∈ rv_tb ∧ y.cls ≠ "java/lang/invoke/MethodHandle" ∧ y.cls ≠ "java/lang/invoke/VarHandle" ∧ (parseMethodDescriptor y.desc).map (fun d => d.parameters.length) = some n
def rv_CeV (y : MethodName) (b : ByteArray) (nL : Nat) (rt : Option FieldType) (n : Nat) : Prop := rv_Ce y b nL rt n ∧ Cond.instanceMethod y ∈ rv_tb ∧ Cond.selects y.cls y y ∈ rv_tb
def rv_CeS (y : MethodName) (b : ByteArray) (nL : Nat) (rt : Option FieldType) (n : Nat) : Prop := rv_Ce y b nL rt n ∧ Cond.static y ∈ rv_tb
theorem rv_goodC {y : MethodName} {b : ByteArray} {nL : Nat} {rt : Option FieldType} (h : Cond.code y b nL rt ∈ rv_tb) : GoodIn rv_tb (Cond.code y b nL rt :: rv_tb) := fun w hw => by
  rcases List.mem_cons.mp hw with rfl | hw
  · exact rv_tbg _ h
  · exact rv_tbg _ hw
section RCALL
variable {l : Launch} {D : va_G} {ad : Nat → Nat} {ca : Nat → ClassId} {own : String} {cc : ByteArray} {nL fr lo : Nat} {K : Nat → List (Nat × Value) → List Value → rv_W → rv_R → Prop} {lv lv' : List (Nat × Value)} {st st0 As : List Value} {w : rv_W} {t t1 t2 : rv_R} {y : MethodName} {b : ByteArray} {nL2 n0 fr2 lo2 idx k ci : Nat} {ty : FieldType} {fs : List (Option Nat)} {f : Int32 → rv_W → rv_R}
theorem rv_callVi (h : rv_Rl D ad ca l own cc nL fr lo K) (pc : Nat) (d : decode cc pc = .ok (.invokevirtual idx, 3)) (hF : rv_Fn l D ad ca y b nL2 (some ty) fr2 lo2 (.ref (ad k) :: As) w t1) (hC : rv_CeV y b nL2 (some ty) n0) (hlink : Cond.methodLink own idx y ∈ rv_tb) (hs : rv_sh k = .inl (ci, fs)) (hc : (rv_cT ci).1 = y.cls) (hcf : rv_CF ci) (hn : As.length = n0) (hst : st0 = As.reverse ++ .ref (ad k) :: st) (hcat : (st.map fun v => v.category).sum ≤ 8) (hroom : fr2 + 1 ≤ fr ∧ 8 + (nL2 + 11) + lo2 ≤ lo) (n : ∀ (r : Int32) (w' : rv_W), K (pc + 3) lv (.int r :: st) w' (f r w')) : K pc lv st0 w (rv_bd t1 f) := by
  obtain ⟨p, e, R, s, m, args, below, meth, c, A, cs, sl, Q, rv, rw, hx, hb, hml, hown, hts, hK, ⟨hJ, hN⟩, hA, hR, rfl⟩ := h
  intro ht H locs ls hP hS hl
  obtain ⟨r1, w1, h1, h2⟩ := rv_bd_in ht
  obtain ⟨⟨hcode, hini, hd⟩, hinst, hsel⟩ := hC
  have hM : Met l y (Cond.code y b nL2 (some ty) :: rv_tb) { frames := fr2, cells := 0, slots := 0, locals := lo2 } (rv_Pc D ad ca (.ref (ad k) :: As) w) (va_Qi (fun (r : Int32) (_ : Unit) => r = r1) (fun _ t => va_P D rv_cl (rv_wl ad ca w1) t.heap) (rv_A ad)) 0 0 (rv_A ad) := hF r1 w1 h1
  have hcr : ∃ cell : Cell, H[ad k]? = some cell ∧ cell.vm.isStatics = false ∧ s.vm.findClass y.cls = some cell.cls := by
    rw [← hc]
    exact va_recv hK hP hcf.1 (q0 := k) (by rw [rv_wl_get (rv_obj_lt hs), rv_cell_obj hs])
  have hAA : ∀ q, rv_A ad q → A q := fun q hq => by
    obtain ⟨k, hk, rfl⟩ := hq
    exact hA k hk
  refine va_calli (va_runV (g := F0 m pc ls st0) (As := As) (rest := st) (C := y.cls) ⟨hx, hb, hml, hown, hts⟩ hM ⟨callB_of n0 hts (rv_goodC hcode) rfl rfl rfl (hts _ hini) (hts _ hlink) hd ⟨Nat.le_trans hroom.1 hR.1, Nat.le_trans hroom.2 hR.2.1⟩, hts _ hinst, hts _ hsel⟩ ⟨rv_blind, hcr, fun U hU hW => ⟨rfl, by rw [hU]; exact hP, va_K.moved hW.alike hK, va_Nw.warmM hW hN⟩⟩ rfl hn hl.1 hst (lv_room hcat) d ⟨hR.2.2.1, hR.2.2.2⟩) hS (fun q _ hq => hAA q hq) hAA (fun r u t H1 locs1 ht1 hvm hw hB hz1 hk1 hS1 => ?_)
  subst hw
  rw [ht1] at hB
  exact n r w1 h2 H1 locs1 ls hB hS1 hl
theorem rv_callVv (h : rv_Rl D ad ca l own cc nL fr lo K) (pc : Nat) (d : decode cc pc = .ok (.invokevirtual idx, 3)) (hF : rv_Fn l D ad ca y b nL2 none fr2 lo2 (.ref (ad k) :: As) w t1) (hC : rv_CeV y b nL2 none n0) (hlink : Cond.methodLink own idx y ∈ rv_tb) (hs : rv_sh k = .inl (ci, fs)) (hc : (rv_cT ci).1 = y.cls) (hcf : rv_CF ci) (hn : As.length = n0) (hst : st0 = As.reverse ++ .ref (ad k) :: st) (hcat : (st.map fun v => v.category).sum ≤ 8) (hroom : fr2 + 1 ≤ fr ∧ 8 + (nL2 + 11) + lo2 ≤ lo) (n : ∀ (r : Int32) (w' : rv_W), K (pc + 3) lv st w' (f r w')) : K pc lv st0 w (rv_bd t1 f) := by
  obtain ⟨p, e, R, s, m, args, below, meth, c, A, cs, sl, Q, rv, rw, hx, hb, hml, hown, hts, hK, ⟨hJ, hN⟩, hA, hR, rfl⟩ := h
  intro ht H locs ls hP hS hl
  obtain ⟨r1, w1, h1, h2⟩ := rv_bd_in ht
  obtain ⟨⟨hcode, hini, hd⟩, hinst, hsel⟩ := hC
  have hM : Met l y (Cond.code y b nL2 none :: rv_tb) { frames := fr2, cells := 0, slots := 0, locals := lo2 } (rv_Pc D ad ca (.ref (ad k) :: As) w) (va_Qv (fun _ : Unit => True) (fun _ t => va_P D rv_cl (rv_wl ad ca w1) t.heap) (rv_A ad)) 0 0 (rv_A ad) := hF r1 w1 h1
  have hcr : ∃ cell : Cell, H[ad k]? = some cell ∧ cell.vm.isStatics = false ∧ s.vm.findClass y.cls = some cell.cls := by
    rw [← hc]
    exact va_recv hK hP hcf.1 (q0 := k) (by rw [rv_wl_get (rv_obj_lt hs), rv_cell_obj hs])
  have hAA : ∀ q, rv_A ad q → A q := fun q hq => by
    obtain ⟨k, hk, rfl⟩ := hq
    exact hA k hk
  refine va_callv (va_runV (g := F0 m pc ls st0) (As := As) (rest := st) (C := y.cls) ⟨hx, hb, hml, hown, hts⟩ hM ⟨callB_of n0 hts (rv_goodC hcode) rfl rfl rfl (hts _ hini) (hts _ hlink) hd ⟨Nat.le_trans hroom.1 hR.1, Nat.le_trans hroom.2 hR.2.1⟩, hts _ hinst, hts _ hsel⟩ ⟨rv_blind, hcr, fun U hU hW => ⟨rfl, by rw [hU]; exact hP, va_K.moved hW.alike hK, va_Nw.warmM hW hN⟩⟩ rfl hn hl.1 hst (lv_room hcat) d ⟨hR.2.2.1, hR.2.2.2⟩) hS (fun q _ hq => hAA q hq) hAA (fun u t H1 locs1 ht1 hvm hw hB hz1 hk1 hS1 => ?_)
  rw [ht1] at hB
  exact n r1 w1 h2 H1 locs1 ls hB hS1 hl
theorem rv_callSi (h : rv_Rl D ad ca l own cc nL fr lo K) (pc : Nat) (d : decode cc pc = .ok (.invokestatic idx, 3)) (hF : rv_Fn l D ad ca y b nL2 (some ty) fr2 lo2 As w t1) (hC : rv_CeS y b nL2 (some ty) n0) (hlink : Cond.methodLink own idx y ∈ rv_tb) (hn : As.length = n0) (hst : st0 = As.reverse ++ st) (hcat : (st.map fun v => v.category).sum ≤ 8) (hroom : fr2 + 1 ≤ fr ∧ 8 + (nL2 + 11) + lo2 ≤ lo) (n : ∀ (r : Int32) (w' : rv_W), K (pc + 3) lv (.int r :: st) w' (f r w')) : K pc lv st0 w (rv_bd t1 f) := by
  obtain ⟨p, e, R, s, m, args, below, meth, c, A, cs, sl, Q, rv, rw, hx, hb, hml, hown, hts, hK, ⟨hJ, hN⟩, hA, hR, rfl⟩ := h
  intro ht H locs ls hP hS hl
  obtain ⟨r1, w1, h1, h2⟩ := rv_bd_in ht
  obtain ⟨⟨hcode, hini, hd⟩, hsta⟩ := hC
  have hM : Met l y (Cond.code y b nL2 (some ty) :: rv_tb) { frames := fr2, cells := 0, slots := 0, locals := lo2 } (rv_Pc D ad ca As w) (va_Qi (fun (r : Int32) (_ : Unit) => r = r1) (fun _ t => va_P D rv_cl (rv_wl ad ca w1) t.heap) (rv_A ad)) 0 0 (rv_A ad) := hF r1 w1 h1
  have hAA : ∀ q, rv_A ad q → A q := fun q hq => by
    obtain ⟨k, hk, rfl⟩ := hq
    exact hA k hk
  refine va_calli (va_runS (g := F0 m pc ls st0) (As := As) (rest := st) ⟨hx, hb, hml, hown, hts⟩ hM ⟨callB_of n0 hts (rv_goodC hcode) rfl rfl rfl (hts _ hini) (hts _ hlink) hd ⟨Nat.le_trans hroom.1 hR.1, Nat.le_trans hroom.2 hR.2.1⟩, hts _ hsta⟩ ⟨rv_blind, fun U hU hW => ⟨rfl, by rw [hU]; exact hP, va_K.moved hW.alike hK, va_Nw.warmM hW hN⟩⟩ rfl hn hl.1 hst (lv_room hcat) d ⟨hR.2.2.1, hR.2.2.2⟩) hS (fun q _ hq => hAA q hq) hAA (fun r u t H1 locs1 ht1 hvm hw hB hz1 hk1 hS1 => ?_)
  subst hw
  rw [ht1] at hB
  exact n r w1 h2 H1 locs1 ls hB hS1 hl
theorem rv_callSv (h : rv_Rl D ad ca l own cc nL fr lo K) (pc : Nat) (d : decode cc pc = .ok (.invokestatic idx, 3)) (hF : rv_Fn l D ad ca y b nL2 none fr2 lo2 As w t1) (hC : rv_CeS y b nL2 none n0) (hlink : Cond.methodLink own idx y ∈ rv_tb) (hn : As.length = n0) (hst : st0 = As.reverse ++ st) (hcat : (st.map fun v => v.category).sum ≤ 8) (hroom : fr2 + 1 ≤ fr ∧ 8 + (nL2 + 11) + lo2 ≤ lo) (n : ∀ (r : Int32) (w' : rv_W), K (pc + 3) lv st w' (f r w')) : K pc lv st0 w (rv_bd t1 f) := by
  obtain ⟨p, e, R, s, m, args, below, meth, c, A, cs, sl, Q, rv, rw, hx, hb, hml, hown, hts, hK, ⟨hJ, hN⟩, hA, hR, rfl⟩ := h
  intro ht H locs ls hP hS hl
  obtain ⟨r1, w1, h1, h2⟩ := rv_bd_in ht
  obtain ⟨⟨hcode, hini, hd⟩, hsta⟩ := hC
  have hM : Met l y (Cond.code y b nL2 none :: rv_tb) { frames := fr2, cells := 0, slots := 0, locals := lo2 } (rv_Pc D ad ca As w) (va_Qv (fun _ : Unit => True) (fun _ t => va_P D rv_cl (rv_wl ad ca w1) t.heap) (rv_A ad)) 0 0 (rv_A ad) := hF r1 w1 h1
  have hAA : ∀ q, rv_A ad q → A q := fun q hq => by
    obtain ⟨k, hk, rfl⟩ := hq
    exact hA k hk
  refine va_callv (va_runS (g := F0 m pc ls st0) (As := As) (rest := st) ⟨hx, hb, hml, hown, hts⟩ hM ⟨callB_of n0 hts (rv_goodC hcode) rfl rfl rfl (hts _ hini) (hts _ hlink) hd ⟨Nat.le_trans hroom.1 hR.1, Nat.le_trans hroom.2 hR.2.1⟩, hts _ hsta⟩ ⟨rv_blind, fun U hU hW => ⟨rfl, by rw [hU]; exact hP, va_K.moved hW.alike hK, va_Nw.warmM hW hN⟩⟩ rfl hn hl.1 hst (lv_room hcat) d ⟨hR.2.2.1, hR.2.2.2⟩) hS (fun q _ hq => hAA q hq) hAA (fun u t H1 locs1 ht1 hvm hw hB hz1 hk1 hS1 => ?_)
  rw [ht1] at hB
  exact n r1 w1 h2 H1 locs1 ls hB hS1 hl
theorem rv_callNSi (h : rv_Rl D ad ca l own cc nL fr lo K) (pc : Nat) (d : decode cc pc = .ok (.invokestatic idx, 3)) (hF : rv_Fn l D ad ca y b nL2 (some ty) fr2 lo2 As w t1) (hC : rv_CeS y b nL2 (some ty) n0) {host : String} (hlink : Cond.methodLinkNest own idx y host = rv_nw) (hn : As.length = n0) (hst : st0 = As.reverse ++ st) (hcat : (st.map fun v => v.category).sum ≤ 8) (hroom : fr2 + 1 ≤ fr ∧ 8 + (nL2 + 11) + lo2 ≤ lo) (n : ∀ (r : Int32) (w' : rv_W), K (pc + 3) lv (.int r :: st) w' (f r w')) : K pc lv st0 w (rv_bd t1 f) := by
  obtain ⟨p, e, R, s, m, args, below, meth, c, A, cs, sl, Q, rv, rw, hx, hb, hml, hown, hts, hK, ⟨hJ, hN⟩, hA, hR, rfl⟩ := h
  intro ht H locs ls hP hS hl
  obtain ⟨r1, w1, h1, h2⟩ := rv_bd_in ht
  obtain ⟨⟨hcode, hini, hd⟩, hsta⟩ := hC
  have hM : Met l y (Cond.code y b nL2 (some ty) :: rv_tb) { frames := fr2, cells := 0, slots := 0, locals := lo2 } (rv_Pc D ad ca As w) (va_Qi (fun (r : Int32) (_ : Unit) => r = r1) (fun _ t => va_P D rv_cl (rv_wl ad ca w1) t.heap) (rv_A ad)) 0 0 (rv_A ad) := hF r1 w1 h1
  have hAA : ∀ q, rv_A ad q → A q := fun q hq => by
    obtain ⟨k, hk, rfl⟩ := hq
    exact hA k hk
  refine va_calli (va_runSN (g := F0 m pc ls st0) (As := As) (rest := st) ⟨hx, hb, hml, hown, hts⟩ hM ⟨va_cnB n0 hts (rv_goodC hcode) rfl rfl rfl (by rw [hlink]; exact hN) (hts _ hini) hd ⟨Nat.le_trans hroom.1 hR.1, Nat.le_trans hroom.2 hR.2.1⟩, hts _ hsta, trivial⟩ ⟨rv_blind, fun U hU hW => ⟨rfl, by rw [hU]; exact hP, va_K.moved hW.alike hK, va_Nw.warmM hW hN⟩⟩ rfl hn hl.1 hst (lv_room hcat) d ⟨hR.2.2.1, hR.2.2.2⟩) hS (fun q _ hq => hAA q hq) hAA (fun r u t H1 locs1 ht1 hvm hw hB hz1 hk1 hS1 => ?_)
  subst hw
  rw [ht1] at hB
  exact n r w1 h2 H1 locs1 ls hB hS1 hl
end RCALL
