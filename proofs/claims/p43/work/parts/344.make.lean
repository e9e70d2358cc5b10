/-! an object of the system made: new, dup, its constructor -/
section MAKE
variable {p : Program} {l : Launch} {e : Env} {R : Room} {s : State} {m : MethodId} {args : Array Value} {below : List Frame} {meth : Method} {c : Code} {H : Heap} {locs : List Loc} {cells slots : Nat} {Q : State → Prop}
variable {cc : ByteArray} {pc : Nat} {ls : Array Slot} {rest : List Value} {D : va_G} {A : Nat → Prop} {H0 : Heap} {ca : Nat → ClassId} {X : va_W}
theorem rv_iblind {D : va_G} {ca : Nat → ClassId} {h0 ci sz : Nat} {d : List Value} : FrameBlind (rv_Ip D ca h0 ci d sz) := fun a U g mk q => by
  obtain ⟨q0, q1, qP, qK, qL⟩ := q
  exact ⟨q0, q1, qP, va_K.moved (u := U) (U := U.calling g mk a) (Vm.Alike.refl U.vm) qK, rv_Lk.same (u := U) (U := U.calling g mk a) rfl qL⟩
theorem rv_last1 {cl : List vw_C} {x : Nat × va_E} (hP : va_P D cl (X ++ [x]) H) : va_P D cl [x] H := rv_P_mem.mpr (fun q hq => rv_P_mem.mp hP q (List.mem_append.mpr (Or.inr hq)))
theorem rv_newN {own C host : String} {T : u_T} {N ci index index2 : Nat} {d : List Value} {ty0 : Nat → FieldType} {y : MethodName} {b : ByteArray} {nL nL2 fr2 lo2 mc ms k : Nat} {E : List Nat} (hexec : p.tables.exec = Jvm.exec) (hb : c.code = cc) (hml : c.maxLocals = nL) (hown : s.vm.findClass own = some m.cls) (hts : ∀ w ∈ rv_tb, w.before args s = true) (hK : va_K D rv_cl (rv_tys ca) s) (hL : rv_Lk s) (hP : va_P D rv_cl X H) (hD : va_D A X) (hS : va_S A H0 H locs) (hA : ∀ q, H0.size ≤ q → A q)
    (hin : ∀ w ∈ u_ws C T N, w ∈ rv_tb) (hty : ∀ k, k < N → parseFieldDescriptor (T k).2.2.1 = some (ty0 k)) (hcl : Cond.classLink own index C ∈ rv_tb) (hinst : Cond.instantiable C N ∈ rv_tb) (hini : Cond.initialized C ∈ rv_tb) (hc : rv_cl[ci]? = some (C, T, N)) (hfs : ∀ j, j < N → defaultValue (ty0 j) = vp_V d j)
    (hM : rv_In l D ca y b nL2 fr2 lo2 mc ms ci d k E) (hcode : Cond.code y b nL2 none ∈ rv_tb) (hcls : y.cls = C) (hnm : y.name = "<init>") (hinm : Cond.instanceMethod y ∈ rv_tb) (hd3 : y.cls ≠ "java/lang/invoke/MethodHandle" ∧ y.cls ≠ "java/lang/invoke/VarHandle" ∧ (parseMethodDescriptor y.desc).map (fun d => d.parameters.length) = some 0) (hlink : va_Nw (.methodLinkNest own index2 y host) s)
    (hroom : fr2 + 1 ≤ R.frames ∧ 8 + (nL2 + 11) + lo2 ≤ R.locals) (hcells : cells + 1 + mc ≤ R.cells) (hslots : slots + N + ms ≤ R.slots) (d1 : decode cc pc = .ok (.new index, 3)) (d2 : decode cc (pc + 3) = .ok (.dup, 1)) (d3 : decode cc (pc + 4) = .ok (.invokespecial index2, 3)) (hls : ls.size = nL) (hcat : (rest.map fun v => v.category).sum ≤ 7)
    (kk : ∀ (u : Nat → Nat) (H1 : Heap) (locs1 : List Loc), va_P D rv_cl (X ++ rv_sl u ca E) H1 → va_D A (X ++ rv_sl u ca E) → va_S A H0 H1 locs1 → W p l e R s m args below meth c H1 locs1 (cells + 1 + mc) (slots + N + ms) Q (F0 m (pc + 7) ls (.ref (u k) :: rest))) : W p l e R s m args below meth c H locs cells slots Q (F0 m pc ls rest) := by
  refine va_new (ci := ci) (fs := d) (C := C) (T := T) (N := N) hexec hb hts hin ty0 hty hown (hts _ hcl) (hts _ hinst) (hts _ hini) hK hP hD hS hA hc hfs (by omega) (by omega) d1 (fun q H hP hD hS => ?_)
  refine lv_dup hexec hb d2 rfl ?_
  have hF := rv_free1 hD hS hA
  have hPx := rv_last1 hP
  refine va_callv (va_runIN (As := []) (rest := .ref q :: rest) ⟨hexec, hb, hml, hown, hts⟩ (hM q H.size) ⟨va_cnB 0 hts (rv_goodC hcode) rfl rfl rfl hlink (hts _ (by rw [hcls]; exact hini)) hd3 hroom, hnm, hts _ hinm⟩ ⟨rv_iblind, fun U hU hW => ⟨rfl, by rw [hU], by rw [hU]; exact hPx, va_K.moved hW.alike hK, rv_Lk.warm hW hL⟩⟩ rfl rfl hls rfl (lv_room (by rw [List.map_cons, List.sum_cons]; show 1 + _ ≤ 8; omega)) d3 ⟨hcells, hslots⟩) hS (fun q _ h => hF q h) hF (fun u t H1 locs ht hvm hw hB hz1 hk1 hS => ?_)
  obtain ⟨hP1, hD1⟩ := hB
  rw [ht] at hP1
  obtain ⟨hP2, hD2⟩ := rv_join1 hP hD hk1 hF hP1 hD1
  rw [← hw]
  exact kk u H1 locs hP2 hD2 hS
theorem rv_newP {own C : String} {T : u_T} {N ci index index2 : Nat} {d : List Value} {ty0 : Nat → FieldType} {y : MethodName} {b : ByteArray} {nL nL2 fr2 lo2 mc ms k : Nat} {E : List Nat} (hexec : p.tables.exec = Jvm.exec) (hb : c.code = cc) (hml : c.maxLocals = nL) (hown : s.vm.findClass own = some m.cls) (hts : ∀ w ∈ rv_tb, w.before args s = true) (hK : va_K D rv_cl (rv_tys ca) s) (hL : rv_Lk s) (hP : va_P D rv_cl X H) (hD : va_D A X) (hS : va_S A H0 H locs) (hA : ∀ q, H0.size ≤ q → A q)
    (hin : ∀ w ∈ u_ws C T N, w ∈ rv_tb) (hty : ∀ k, k < N → parseFieldDescriptor (T k).2.2.1 = some (ty0 k)) (hcl : Cond.classLink own index C ∈ rv_tb) (hinst : Cond.instantiable C N ∈ rv_tb) (hini : Cond.initialized C ∈ rv_tb) (hc : rv_cl[ci]? = some (C, T, N)) (hfs : ∀ j, j < N → defaultValue (ty0 j) = vp_V d j)
    (hM : rv_In l D ca y b nL2 fr2 lo2 mc ms ci d k E) (hcode : Cond.code y b nL2 none ∈ rv_tb) (hcls : y.cls = C) (hnm : y.name = "<init>") (hinm : Cond.instanceMethod y ∈ rv_tb) (hd3 : y.cls ≠ "java/lang/invoke/MethodHandle" ∧ y.cls ≠ "java/lang/invoke/VarHandle" ∧ (parseMethodDescriptor y.desc).map (fun d => d.parameters.length) = some 0) (hlink : Cond.methodLink own index2 y ∈ rv_tb)
    (hroom : fr2 + 1 ≤ R.frames ∧ 8 + (nL2 + 11) + lo2 ≤ R.locals) (hcells : cells + 1 + mc ≤ R.cells) (hslots : slots + N + ms ≤ R.slots) (d1 : decode cc pc = .ok (.new index, 3)) (d2 : decode cc (pc + 3) = .ok (.dup, 1)) (d3 : decode cc (pc + 4) = .ok (.invokespecial index2, 3)) (hls : ls.size = nL) (hcat : (rest.map fun v => v.category).sum ≤ 7)
    (kk : ∀ (u : Nat → Nat) (H1 : Heap) (locs1 : List Loc), va_P D rv_cl (X ++ rv_sl u ca E) H1 → va_D A (X ++ rv_sl u ca E) → va_S A H0 H1 locs1 → W p l e R s m args below meth c H1 locs1 (cells + 1 + mc) (slots + N + ms) Q (F0 m (pc + 7) ls (.ref (u k) :: rest))) : W p l e R s m args below meth c H locs cells slots Q (F0 m pc ls rest) := by
  refine va_new (ci := ci) (fs := d) (C := C) (T := T) (N := N) hexec hb hts hin ty0 hty hown (hts _ hcl) (hts _ hinst) (hts _ hini) hK hP hD hS hA hc hfs (by omega) (by omega) d1 (fun q H hP hD hS => ?_)
  refine lv_dup hexec hb d2 rfl ?_
  have hF := rv_free1 hD hS hA
  have hPx := rv_last1 hP
  refine va_callv (va_runI (As := []) (rest := .ref q :: rest) ⟨hexec, hb, hml, hown, hts⟩ (hM q H.size) (cwI 0 hts (rv_goodC hcode) rfl rfl rfl (hts _ (by rw [hcls]; exact hini)) (hts _ hlink) (hts _ hinm) hnm hd3 hroom) ⟨rv_iblind, fun U hU hW => ⟨rfl, by rw [hU], by rw [hU]; exact hPx, va_K.moved hW.alike hK, rv_Lk.warm hW hL⟩⟩ rfl rfl hls rfl (lv_room (by rw [List.map_cons, List.sum_cons]; show 1 + _ ≤ 8; omega)) d3 ⟨hcells, hslots⟩) hS (fun q _ h => hF q h) hF (fun u t H1 locs ht hvm hw hB hz1 hk1 hS => ?_)
  obtain ⟨hP1, hD1⟩ := hB
  rw [ht] at hP1
  obtain ⟨hP2, hD2⟩ := rv_join1 hP hD hk1 hF hP1 hD1
  rw [← hw]
  exact kk u H1 locs hP2 hD2 hS
end MAKE
theorem rv_mix_in {E2 : List Nat} {u ad : Nat → Nat} {k : Nat} (h : k ∈ E2) : rv_mix E2 u ad k = u k := if_pos h
theorem rv_mix_out {E2 : List Nat} {u ad : Nat → Nat} {k : Nat} (h : k ∉ E2) : rv_mix E2 u ad k = ad k := if_neg h
/-- the made object itself joins its parts -/
def rv_one (k h0 : Nat) (ad : Nat → Nat) : Nat → Nat := fun i => if i = k then h0 else ad i
theorem rv_one_ne {k h0 i : Nat} {ad : Nat → Nat} (h : i ≠ k) : rv_one k h0 ad i = ad i := if_neg h
theorem rv_one_eq {k h0 : Nat} {ad : Nat → Nat} : rv_one k h0 ad k = h0 := if_pos rfl
theorem rv_head {D : va_G} {ca : Nat → ClassId} {A : Nat → Prop} {Y : va_W} {h0 k : Nat} {o : va_E} {ad : Nat → Nat} {E : List Nat} {H : Heap} (hc : rv_closed E = true) (hk : k ∉ E) (ho : va_at D rv_cl (h0, o) H → va_at D rv_cl (rv_one k h0 ad k, rv_cell (rv_one k h0 ad) ca rt_w0 k) H) (hP : va_P D rv_cl (Y ++ ((h0, o) :: rv_sl ad ca E)) H) (hD : va_D A (Y ++ ((h0, o) :: rv_sl ad ca E))) : va_P D rv_cl (Y ++ rv_sl (rv_one k h0 ad) ca (k :: E)) H ∧ va_D A (Y ++ rv_sl (rv_one k h0 ad) ca (k :: E)) := by
  have h1 : ∀ i, i ∈ E → ad i = rv_one k h0 ad i := fun i hi => (rv_one_ne (fun z => hk (by rw [← z]; exact hi))).symm
  have cl : ∀ i, i ∈ E → ∀ r, r ∈ rv_refs i → r ∈ E := fun i hi r hr => List.contains_iff_mem.mp (List.all_eq_true.mp (List.all_eq_true.mp hc i hi) r hr)
  rw [rv_P_mem] at hP
  refine ⟨rv_P_mem.mpr (fun q hq => ?_), rv_D_fst ?_ hD⟩
  · rcases List.mem_append.mp hq with h | h
    · exact hP q (List.mem_append.mpr (Or.inl h))
    · obtain ⟨i, hi, rfl⟩ := List.mem_map.mp h
      rcases List.mem_cons.mp hi with rfl | hi
      · exact ho (hP _ (List.mem_append.mpr (Or.inr List.mem_cons_self)))
      · exact rv_at_congr (h1 i hi) (fun r hr => h1 r (cl i hi r hr)) (hP _ (List.mem_append.mpr (Or.inr (List.mem_cons_of_mem _ (List.mem_map.mpr ⟨i, hi, rfl⟩)))))
  · rw [List.map_append, List.map_append]
    congr 1
    show h0 :: (rv_sl ad ca E).map (fun q => q.1) = rv_one k h0 ad k :: (E.map (fun k_1 => (rv_one k h0 ad k_1, rv_cell (rv_one k h0 ad) ca rt_w0 k_1))).map (fun q => q.1)
    rw [rv_one_eq]
    congr 1
    unfold rv_sl
    rw [List.map_map, List.map_map]
    exact List.map_congr_left (fun i hi => h1 i hi)
