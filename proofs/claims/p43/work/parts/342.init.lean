/-! constructors: contracts -/
def rv_Ip (D : va_G) (ca : Nat → ClassId) (h0 ci : Nat) (d : List Value) (sz : Nat) : Array Value → State → Prop := va_Pc [.ref h0] (fun U => U.heap.size = sz ∧ va_P D rv_cl [(h0, .inr (ci, d))] U.heap ∧ va_K D rv_cl (rv_tys ca) U ∧ rv_Lk U)
def rv_Iq (D : va_G) (ca : Nat → ClassId) (h0 ci : Nat) (d : List Value) (sz k : Nat) (E : List Nat) : Array Value → State → Outcome → State → Prop := va_Qv (fun u : Nat → Nat => u k = h0) (fun u t => va_P D rv_cl (rv_sl u ca E) t.heap ∧ va_D (va_A [(h0, .inr (ci, d))] sz) (rv_sl u ca E)) (va_A [(h0, .inr (ci, d))] sz)
def rv_In (l : Launch) (D : va_G) (ca : Nat → ClassId) (y : MethodName) (cc : ByteArray) (nL fr lo mc ms ci : Nat) (d : List Value) (k : Nat) (E : List Nat) : Prop := ∀ h0 sz : Nat, Met l y (Cond.code y cc nL none :: rv_tb) { frames := fr, cells := mc, slots := ms, locals := lo } (rv_Ip D ca h0 ci d sz) (rv_Iq D ca h0 ci d sz k E) mc ms (va_A [(h0, .inr (ci, d))] sz)
theorem rv_inmk {l : Launch} {D : va_G} {ca : Nat → ClassId} {y : MethodName} {cc : ByteArray} {nL fr lo mc ms ci : Nat} {d : List Value} {k : Nat} {E : List Nat} (hy : plainName y.cls = true) (hnm : y.name = "<init>") (hnL : 1 ≤ nL)
    (h : ∀ (p : Program) (e : Env) (s : State) (m : MethodId) (args : Array Value) (below : List Frame) (meth : Method) (c : Code) (A : Nat → Prop) (Q : State → Prop) (h0 : Nat) (ls : Array Slot), p.tables.exec = Jvm.exec → c.code = cc → c.maxLocals = nL → s.vm.findClass y.cls = some m.cls → (∀ w ∈ rv_tb, w.before args s = true) → va_K D rv_cl (rv_tys ca) s → rv_Lk s → meth.name = "<init>" → (∀ q, s.heap.size ≤ q → A q) → lv_has ls nL [(0, .ref h0)] → va_P D rv_cl [(h0, .inr (ci, d))] s.heap → va_D A [(h0, .inr (ci, d))] → (∀ (pc : Nat) (H : Heap) (locs : List Loc) (ls : Array Slot) (u : Nat → Nat), decode cc pc = .ok (.return_, 1) → va_P D rv_cl (rv_sl u ca E) H → va_D A (rv_sl u ca E) → u k = h0 → va_S A s.heap H locs → W p l e { frames := fr, cells := mc, slots := ms, locals := lo } s m args below meth c H locs mc ms Q (F0 m pc ls [])) → W p l e { frames := fr, cells := mc, slots := ms, locals := lo } s m args below meth c s.heap [] 0 0 Q (F0 m 0 ls [])) : rv_In l D ca y cc nL fr lo mc ms ci d k E := by
  intro h0 sz
  refine Met.ofW (cc := cc) (maxL := nL) (ret := none) hy rfl ?_
  intro p e s m args below meth c s₁ B hml hv
  obtain ⟨rfl, hsz, hP, hK, hL⟩ := hv
  have hx := B.exec
  have hb := B.bytes
  have hr := B.returns
  have hts0 := atoms_spec (ws := Cond.code y cc nL none :: rv_tb) B.pre
  have hts : ∀ w ∈ rv_tb, w.before #[Value.ref h0] s = true := fun w hw => hts0 w (List.mem_cons_of_mem _ hw)
  have hown : s.vm.findClass y.cls = some m.cls := findClass_of_methodNamed B.named
  have hlocks := B.notSynchronized
  have hin : meth.name = "<init>" := (name_of_methodNamed B.named B.method).1.trans hnm
  subst hsz
  have hl := lv_entry ([.ref h0]) (n := nL) hnL
  rw [lg_entry_eq]
  generalize (lg_sl ([.ref h0]) ++ List.replicate (nL - (lg_sl ([.ref h0])).length) Slot.unset).toArray = ls at hl ⊢
  have hl : lv_has ls nL [(0, .ref h0)] := hl
  refine h p e s m _ below meth c (va_A [(h0, .inr (ci, d))] s.heap.size) _ h0 ls hx hb hml hown hts hK hL hin (fun q h => Or.inr h) hl hP rv_D1 (fun pc H locs ls u hd hP9 hD9 hu hS => ?_)
  exact W.vret hx hb hr (fun t ht hW => ⟨⟨u, rfl, hu, by rw [ht]; exact hP9, hD9⟩, hS.F ht⟩) hS.2.2 hd
/-- an outer row, its rows by their cells -/
theorem rv_P_outer {D : va_G} {cl : List vw_C} {ca : Nat → ClassId} {ws : va_W} {q n i : Nat} {r g : Nat → Nat} {H : Heap} (hP : va_P D cl ws H) (hi : ws[i]? = some (q, rv_outer ca r n)) (h : ∀ j, j < n → r j = g j) : va_P D cl (ws.set i (q, .inl (ca 4, n, .inr (.inr (.inr (.inr (fun j => some (g j)))))))) H := by
  intro k x hx
  by_cases hki : k = i
  · subst hki
    rw [List.getElem?_set_self (List.getElem?_eq_some_iff.mp hi).1] at hx
    cases hx
    have h1 : H[q]? = some (vp_cell (ca 4) (n, .inr (.inr (.inr (.inr (fun i => if i < n then some (r i) else none)))))) := hP k _ hi
    show H[q]? = some (vp_cell (ca 4) (n, .inr (.inr (.inr (.inr (fun j => some (g j)))))))
    rw [h1, vp_cell_q, vp_cell_q]
    refine congrArg some (rv_arrV (fun j hj => ?_))
    rw [if_pos hj, h j hj]
  · rw [List.getElem?_set_ne (Ne.symm hki)] at hx
    exact hP k x hx
set_option maxRecDepth 100000 in
set_option maxHeartbeats 4000000 in
theorem i_X8 {l : Launch} {D : va_G} {ca : Nat → ClassId} (k : Nat) (hk : rv_st k) : rv_In l D ca yX8_init cX8_init 1 1 12 2 40 6 [.int 0, .int 0, .null, .null] k [k, k + 1, k + 2] := by
  refine rv_inmk (by decide +kernel) rfl (Nat.le_of_ble_eq_true rfl) (fun p e s m args below meth c A Q h0 ls hx hb hml hown hts hK hL hin hA hl hP hD hend => ?_)
  have hS : va_S A s.heap s.heap [] := va_S.rf
  have hown : s.vm.findClass RX8 = some m.cls := hown
  refine lv_aload_n hx hb dX8_init_0 rfl (lv_at hl 0 rfl) ?_
  refine W.objInit hx hb hown (hts _ (rv_tbm 55 (by decide +kernel) rfl)) (hts _ (rv_tbm 48 (by decide +kernel) rfl)) (hts _ (rv_tbm 49 (by decide +kernel) rfl)) rfl (by rw [hml]; exact hl.1) rfl dX8_init_1 (Nat.le_of_ble_eq_true rfl) (Nat.le_of_ble_eq_true rfl) ?_
  refine W.eq (g2 := F0 m 4 ls []) rfl ?_
  refine lv_aload_n hx hb dX8_init_4 rfl (lv_at hl 0 rfl) ?_
  refine lv_bipush (v := 31) hx hb dX8_init_5 (by decide) ?_
  refine va_put (D := D) (ci := 6) (v := .int 31) (ty := .int) (C := RX8) (T := TX8) (N := 4) hx hb hts rv_cw6 tyX8 tyX8_ok nmX8 hown hK hP hD hS 0 rfl rfl 0 (by decide) (hts _ (rv_fd_X8_9).2.2.2) (fun _ h9 => h9) rfl (by decide +kernel) rfl rfl (Nat.le_of_ble_eq_true rfl) dX8_init_7 (fun H locs hP hD hS => ?_)
  have hP : va_P D rv_cl ((h0, .inr (6, [.int 31, .int 0, .null, .null])) :: []) H := hP
  have hD : va_D A ((h0, .inr (6, [.int 31, .int 0, .null, .null])) :: []) := hD
  refine lv_aload_n hx hb dX8_init_10 rfl (lv_at hl 0 rfl) ?_
  refine lv_bipush (v := 20) hx hb dX8_init_11 (by decide) ?_
  refine va_newa (atype := .int) (ty := .int) (a0 := (20, .inl (fun _ => 0))) hx hb (hts _ (rv_tbm 71 (by decide +kernel) rfl)) rfl hK hP hD hS hA (fun _ => rfl) (by decide) (by decide) (Nat.le_of_ble_eq_true rfl) (Nat.le_of_ble_eq_true rfl) (Nat.le_of_ble_eq_true rfl) dX8_init_13 (fun q0 cA H hK1 hP hD hS => ?_)
  obtain rfl := rv_caI hK1
  clear hK1
  have hP : va_P D rv_cl ((h0, .inr (6, [.int 31, .int 0, .null, .null])) :: [(q0, .inl (ca 0, 20, .inl (fun _ => 0)))]) H := hP
  have hD : va_D A ((h0, .inr (6, [.int 31, .int 0, .null, .null])) :: [(q0, .inl (ca 0, 20, .inl (fun _ => 0)))]) := hD
  refine W.widen (k := 1) (n := 20) (by omega) (by omega) ?_
  refine va_putF (D := D) (ci := 6) (v := .ref q0) (ty := .array .int) (C := RX8) (T := TX8) (N := 4) hx hb hts rv_cw6 tyX8 tyX8_ok nmX8 hown hK hP hD hS 0 rfl rfl 2 (by decide) (hts _ (rv_fd_X8_15).2.2.2) (fun _ h9 => h9) rfl hin rfl (by decide +kernel) rfl rfl (Nat.le_of_ble_eq_true rfl) dX8_init_15 (fun H locs hP hD hS => ?_)
  have hP : va_P D rv_cl ((h0, .inr (6, [.int 31, .int 0, .ref q0, .null])) :: [(q0, .inl (ca 0, 20, .inl (fun _ => 0)))]) H := hP
  have hD : va_D A ((h0, .inr (6, [.int 31, .int 0, .ref q0, .null])) :: [(q0, .inl (ca 0, 20, .inl (fun _ => 0)))]) := hD
  refine lv_aload_n hx hb dX8_init_18 rfl (lv_at hl 0 rfl) ?_
  refine lv_bipush (v := 20) hx hb dX8_init_19 (by decide) ?_
  refine va_newa (atype := .int) (ty := .int) (a0 := (20, .inl (fun _ => 0))) hx hb (hts _ (rv_tbm 71 (by decide +kernel) rfl)) rfl hK hP hD hS hA (fun _ => rfl) (by decide) (by decide) (Nat.le_of_ble_eq_true rfl) (Nat.le_of_ble_eq_true rfl) (Nat.le_of_ble_eq_true rfl) dX8_init_21 (fun q1 cA H hK1 hP hD hS => ?_)
  obtain rfl := rv_caI hK1
  clear hK1
  have hP : va_P D rv_cl ((h0, .inr (6, [.int 31, .int 0, .ref q0, .null])) :: [(q0, .inl (ca 0, 20, .inl (fun _ => 0))), (q1, .inl (ca 0, 20, .inl (fun _ => 0)))]) H := hP
  have hD : va_D A ((h0, .inr (6, [.int 31, .int 0, .ref q0, .null])) :: [(q0, .inl (ca 0, 20, .inl (fun _ => 0))), (q1, .inl (ca 0, 20, .inl (fun _ => 0)))]) := hD
  refine W.widen (k := 2) (n := 40) (by omega) (by omega) ?_
  refine va_putF (D := D) (ci := 6) (v := .ref q1) (ty := .array .int) (C := RX8) (T := TX8) (N := 4) hx hb hts rv_cw6 tyX8 tyX8_ok nmX8 hown hK hP hD hS 0 rfl rfl 3 (by decide) (hts _ (rv_fd_X8_19).2.2.2) (fun _ h9 => h9) rfl hin rfl (by decide +kernel) rfl rfl (Nat.le_of_ble_eq_true rfl) dX8_init_23 (fun H locs hP hD hS => ?_)
  have hP : va_P D rv_cl ((h0, .inr (6, [.int 31, .int 0, .ref q0, .ref q1])) :: [(q0, .inl (ca 0, 20, .inl (fun _ => 0))), (q1, .inl (ca 0, 20, .inl (fun _ => 0)))]) H := hP
  have hD : va_D A ((h0, .inr (6, [.int 31, .int 0, .ref q0, .ref q1])) :: [(q0, .inl (ca 0, 20, .inl (fun _ => 0))), (q1, .inl (ca 0, 20, .inl (fun _ => 0)))]) := hD
  refine hend 26 H locs ls (fun i => if i = k then h0 else if i = k + 1 then q0 else q1) dX8_init_26 ?_ ?_ (if_pos rfl) hS
  · rcases hk with rfl | rfl | rfl | rfl | rfl | rfl <;> exact hP
  · rcases hk with rfl | rfl | rfl | rfl | rfl | rfl <;> exact rv_D_fst rfl hD
set_option maxRecDepth 100000 in
set_option maxHeartbeats 4000000 in
theorem i_X9 {l : Launch} {D : va_G} {ca : Nat → ClassId} : rv_In l D ca yX9_init cX9_init 1 1 12 3 140 7 [.int 0, .int 0, .int 0, .null, .null, .null] 20 [20, 21, 22, 23] := by
  refine rv_inmk (by decide +kernel) rfl (Nat.le_of_ble_eq_true rfl) (fun p e s m args below meth c A Q h0 ls hx hb hml hown hts hK hL hin hA hl hP hD hend => ?_)
  have hS : va_S A s.heap s.heap [] := va_S.rf
  have hown : s.vm.findClass RX9 = some m.cls := hown
  refine lv_aload_n hx hb dX9_init_0 rfl (lv_at hl 0 rfl) ?_
  refine W.objInit hx hb hown (hts _ (rv_tbm 78 (by decide +kernel) rfl)) (hts _ (rv_tbm 48 (by decide +kernel) rfl)) (hts _ (rv_tbm 49 (by decide +kernel) rfl)) rfl (by rw [hml]; exact hl.1) rfl dX9_init_1 (Nat.le_of_ble_eq_true rfl) (Nat.le_of_ble_eq_true rfl) ?_
  refine W.eq (g2 := F0 m 4 ls []) rfl ?_
  refine lv_aload_n hx hb dX9_init_4 rfl (lv_at hl 0 rfl) ?_
  refine lv_bipush (v := 100) hx hb dX9_init_5 (by decide) ?_
  refine va_newa (atype := .char) (ty := .char) (a0 := (100, .inl (fun _ => 0))) hx hb (hts _ (rv_tbm 99 (by decide +kernel) rfl)) rfl hK hP hD hS hA (fun _ => rfl) (by decide) (by decide) (Nat.le_of_ble_eq_true rfl) (Nat.le_of_ble_eq_true rfl) (Nat.le_of_ble_eq_true rfl) dX9_init_7 (fun q0 cA H hK1 hP hD hS => ?_)
  obtain rfl := rv_caC hK1
  clear hK1
  have hP : va_P D rv_cl ((h0, .inr (7, [.int 0, .int 0, .int 0, .null, .null, .null])) :: [(q0, .inl (ca 1, 100, .inl (fun _ => 0)))]) H := hP
  have hD : va_D A ((h0, .inr (7, [.int 0, .int 0, .int 0, .null, .null, .null])) :: [(q0, .inl (ca 1, 100, .inl (fun _ => 0)))]) := hD
  refine W.widen (k := 1) (n := 100) (by omega) (by omega) ?_
  refine va_putF (D := D) (ci := 7) (v := .ref q0) (ty := .array .char) (C := RX9) (T := TX9) (N := 6) hx hb hts rv_cw7 tyX9 tyX9_ok nmX9 hown hK hP hD hS 0 rfl rfl 3 (by decide) (hts _ (rv_fd_X9_9).2.2.2) (fun _ h9 => h9) rfl hin rfl (by decide +kernel) rfl rfl (Nat.le_of_ble_eq_true rfl) dX9_init_9 (fun H locs hP hD hS => ?_)
  have hP : va_P D rv_cl ((h0, .inr (7, [.int 0, .int 0, .int 0, .ref q0, .null, .null])) :: [(q0, .inl (ca 1, 100, .inl (fun _ => 0)))]) H := hP
  have hD : va_D A ((h0, .inr (7, [.int 0, .int 0, .int 0, .ref q0, .null, .null])) :: [(q0, .inl (ca 1, 100, .inl (fun _ => 0)))]) := hD
  refine lv_aload_n hx hb dX9_init_12 rfl (lv_at hl 0 rfl) ?_
  refine lv_bipush (v := 20) hx hb dX9_init_13 (by decide) ?_
  refine va_newa (atype := .int) (ty := .int) (a0 := (20, .inl (fun _ => 0))) hx hb (hts _ (rv_tbm 71 (by decide +kernel) rfl)) rfl hK hP hD hS hA (fun _ => rfl) (by decide) (by decide) (Nat.le_of_ble_eq_true rfl) (Nat.le_of_ble_eq_true rfl) (Nat.le_of_ble_eq_true rfl) dX9_init_15 (fun q1 cA H hK1 hP hD hS => ?_)
  obtain rfl := rv_caI hK1
  clear hK1
  have hP : va_P D rv_cl ((h0, .inr (7, [.int 0, .int 0, .int 0, .ref q0, .null, .null])) :: [(q0, .inl (ca 1, 100, .inl (fun _ => 0))), (q1, .inl (ca 0, 20, .inl (fun _ => 0)))]) H := hP
  have hD : va_D A ((h0, .inr (7, [.int 0, .int 0, .int 0, .ref q0, .null, .null])) :: [(q0, .inl (ca 1, 100, .inl (fun _ => 0))), (q1, .inl (ca 0, 20, .inl (fun _ => 0)))]) := hD
  refine W.widen (k := 2) (n := 120) (by omega) (by omega) ?_
  refine va_putF (D := D) (ci := 7) (v := .ref q1) (ty := .array .int) (C := RX9) (T := TX9) (N := 6) hx hb hts rv_cw7 tyX9 tyX9_ok nmX9 hown hK hP hD hS 0 rfl rfl 4 (by decide) (hts _ (rv_fd_X9_15).2.2.2) (fun _ h9 => h9) rfl hin rfl (by decide +kernel) rfl rfl (Nat.le_of_ble_eq_true rfl) dX9_init_17 (fun H locs hP hD hS => ?_)
  have hP : va_P D rv_cl ((h0, .inr (7, [.int 0, .int 0, .int 0, .ref q0, .ref q1, .null])) :: [(q0, .inl (ca 1, 100, .inl (fun _ => 0))), (q1, .inl (ca 0, 20, .inl (fun _ => 0)))]) H := hP
  have hD : va_D A ((h0, .inr (7, [.int 0, .int 0, .int 0, .ref q0, .ref q1, .null])) :: [(q0, .inl (ca 1, 100, .inl (fun _ => 0))), (q1, .inl (ca 0, 20, .inl (fun _ => 0)))]) := hD
  refine lv_aload_n hx hb dX9_init_20 rfl (lv_at hl 0 rfl) ?_
  refine lv_bipush (v := 20) hx hb dX9_init_21 (by decide) ?_
  refine va_newa (atype := .int) (ty := .int) (a0 := (20, .inl (fun _ => 0))) hx hb (hts _ (rv_tbm 71 (by decide +kernel) rfl)) rfl hK hP hD hS hA (fun _ => rfl) (by decide) (by decide) (Nat.le_of_ble_eq_true rfl) (Nat.le_of_ble_eq_true rfl) (Nat.le_of_ble_eq_true rfl) dX9_init_23 (fun q2 cA H hK1 hP hD hS => ?_)
  obtain rfl := rv_caI hK1
  clear hK1
  have hP : va_P D rv_cl ((h0, .inr (7, [.int 0, .int 0, .int 0, .ref q0, .ref q1, .null])) :: [(q0, .inl (ca 1, 100, .inl (fun _ => 0))), (q1, .inl (ca 0, 20, .inl (fun _ => 0))), (q2, .inl (ca 0, 20, .inl (fun _ => 0)))]) H := hP
  have hD : va_D A ((h0, .inr (7, [.int 0, .int 0, .int 0, .ref q0, .ref q1, .null])) :: [(q0, .inl (ca 1, 100, .inl (fun _ => 0))), (q1, .inl (ca 0, 20, .inl (fun _ => 0))), (q2, .inl (ca 0, 20, .inl (fun _ => 0)))]) := hD
  refine W.widen (k := 3) (n := 140) (by omega) (by omega) ?_
  refine va_putF (D := D) (ci := 7) (v := .ref q2) (ty := .array .int) (C := RX9) (T := TX9) (N := 6) hx hb hts rv_cw7 tyX9 tyX9_ok nmX9 hown hK hP hD hS 0 rfl rfl 5 (by decide) (hts _ (rv_fd_X9_19).2.2.2) (fun _ h9 => h9) rfl hin rfl (by decide +kernel) rfl rfl (Nat.le_of_ble_eq_true rfl) dX9_init_25 (fun H locs hP hD hS => ?_)
  have hP : va_P D rv_cl ((h0, .inr (7, [.int 0, .int 0, .int 0, .ref q0, .ref q1, .ref q2])) :: [(q0, .inl (ca 1, 100, .inl (fun _ => 0))), (q1, .inl (ca 0, 20, .inl (fun _ => 0))), (q2, .inl (ca 0, 20, .inl (fun _ => 0)))]) H := hP
  have hD : va_D A ((h0, .inr (7, [.int 0, .int 0, .int 0, .ref q0, .ref q1, .ref q2])) :: [(q0, .inl (ca 1, 100, .inl (fun _ => 0))), (q1, .inl (ca 0, 20, .inl (fun _ => 0))), (q2, .inl (ca 0, 20, .inl (fun _ => 0)))]) := hD
  refine hend 28 H locs ls (fun i => ([h0, q0, q1, q2] : List Nat).getD (i - 20) 0) dX9_init_28 ?_ (rv_D_fst (by show ([h0, q0, q1, q2] : List Nat) = [h0, q0, q1, q2]; rfl) hD) rfl hS
  exact hP
set_option maxRecDepth 100000 in
set_option maxHeartbeats 4000000 in
theorem i_X4 {l : Launch} {D : va_G} {ca : Nat → ClassId} : rv_In l D ca yX4_init cX4_init 1 1 12 1 5 2 [.null] 54 [54, 55] := by
  refine rv_inmk (by decide +kernel) rfl (Nat.le_of_ble_eq_true rfl) (fun p e s m args below meth c A Q h0 ls hx hb hml hown hts hK hL hin hA hl hP hD hend => ?_)
  have hS : va_S A s.heap s.heap [] := va_S.rf
  have hown : s.vm.findClass RX4 = some m.cls := hown
  refine lv_aload_n hx hb dX4_init_0 rfl (lv_at hl 0 rfl) ?_
  refine W.objInit hx hb hown (hts _ (rv_tbm 144 (by decide +kernel) rfl)) (hts _ (rv_tbm 48 (by decide +kernel) rfl)) (hts _ (rv_tbm 49 (by decide +kernel) rfl)) rfl (by rw [hml]; exact hl.1) rfl dX4_init_1 (Nat.le_of_ble_eq_true rfl) (Nat.le_of_ble_eq_true rfl) ?_
  refine W.eq (g2 := F0 m 4 ls []) rfl ?_
  refine lv_aload_n hx hb dX4_init_4 rfl (lv_at hl 0 rfl) ?_
  refine lv_iconst (v := 5) hx hb dX4_init_5 (by decide) ?_
  refine va_newa (atype := .int) (ty := .int) (a0 := (5, .inl (fun _ => 0))) hx hb (hts _ (rv_tbm 71 (by decide +kernel) rfl)) rfl hK hP hD hS hA (fun _ => rfl) (by decide) (by decide) (Nat.le_of_ble_eq_true rfl) (Nat.le_of_ble_eq_true rfl) (Nat.le_of_ble_eq_true rfl) dX4_init_6 (fun q0 cA H hK1 hP hD hS => ?_)
  obtain rfl := rv_caI hK1
  clear hK1
  have hP : va_P D rv_cl ((h0, .inr (2, [.null])) :: [(q0, .inl (ca 0, 5, .inl (fun _ => 0)))]) H := hP
  have hD : va_D A ((h0, .inr (2, [.null])) :: [(q0, .inl (ca 0, 5, .inl (fun _ => 0)))]) := hD
  refine W.widen (k := 1) (n := 5) (by omega) (by omega) ?_
  refine va_putF (D := D) (ci := 2) (v := .ref q0) (ty := .array .int) (C := RX4) (T := TX4) (N := 1) hx hb hts rv_cw2 tyX4 tyX4_ok nmX4 hown hK hP hD hS 0 rfl rfl 0 (by decide) (hts _ (rv_fd_X4_9).2.2.2) (fun _ h9 => h9) rfl hin rfl (by decide +kernel) rfl rfl (Nat.le_of_ble_eq_true rfl) dX4_init_8 (fun H locs hP hD hS => ?_)
  have hP : va_P D rv_cl ((h0, .inr (2, [.ref q0])) :: [(q0, .inl (ca 0, 5, .inl (fun _ => 0)))]) H := hP
  have hD : va_D A ((h0, .inr (2, [.ref q0])) :: [(q0, .inl (ca 0, 5, .inl (fun _ => 0)))]) := hD
  refine hend 11 H locs ls (fun i => ([h0, q0] : List Nat).getD (i - 54) 0) dX4_init_11 ?_ (rv_D_fst (by show ([h0, q0] : List Nat) = [h0, q0]; rfl) hD) rfl hS
  exact hP
set_option maxRecDepth 100000 in
set_option maxHeartbeats 4000000 in
theorem i_X3 {l : Launch} {D : va_G} {ca : Nat → ClassId} : rv_In l D ca yX3_init cX3_init 1 1 12 1 32 1 [.null] 75 [75, 76] := by
  refine rv_inmk (by decide +kernel) rfl (Nat.le_of_ble_eq_true rfl) (fun p e s m args below meth c A Q h0 ls hx hb hml hown hts hK hL hin hA hl hP hD hend => ?_)
  have hS : va_S A s.heap s.heap [] := va_S.rf
  have hown : s.vm.findClass RX3 = some m.cls := hown
  refine lv_aload_n hx hb dX3_init_0 rfl (lv_at hl 0 rfl) ?_
  refine W.objInit hx hb hown (hts _ (rv_tbm 195 (by decide +kernel) rfl)) (hts _ (rv_tbm 48 (by decide +kernel) rfl)) (hts _ (rv_tbm 49 (by decide +kernel) rfl)) rfl (by rw [hml]; exact hl.1) rfl dX3_init_1 (Nat.le_of_ble_eq_true rfl) (Nat.le_of_ble_eq_true rfl) ?_
  refine W.eq (g2 := F0 m 4 ls []) rfl ?_
  refine lv_aload_n hx hb dX3_init_4 rfl (lv_at hl 0 rfl) ?_
  refine lv_bipush (v := 32) hx hb dX3_init_5 (by decide) ?_
  refine va_newa (atype := .int) (ty := .int) (a0 := (32, .inl (fun _ => 0))) hx hb (hts _ (rv_tbm 71 (by decide +kernel) rfl)) rfl hK hP hD hS hA (fun _ => rfl) (by decide) (by decide) (Nat.le_of_ble_eq_true rfl) (Nat.le_of_ble_eq_true rfl) (Nat.le_of_ble_eq_true rfl) dX3_init_7 (fun q0 cA H hK1 hP hD hS => ?_)
  obtain rfl := rv_caI hK1
  clear hK1
  have hP : va_P D rv_cl ((h0, .inr (1, [.null])) :: [(q0, .inl (ca 0, 32, .inl (fun _ => 0)))]) H := hP
  have hD : va_D A ((h0, .inr (1, [.null])) :: [(q0, .inl (ca 0, 32, .inl (fun _ => 0)))]) := hD
  refine W.widen (k := 1) (n := 32) (by omega) (by omega) ?_
  refine va_putF (D := D) (ci := 1) (v := .ref q0) (ty := .array .int) (C := RX3) (T := TX3) (N := 1) hx hb hts rv_cw1 tyX3 tyX3_ok nmX3 hown hK hP hD hS 0 rfl rfl 0 (by decide) (hts _ (rv_fd_X3_9).2.2.2) (fun _ h9 => h9) rfl hin rfl (by decide +kernel) rfl rfl (Nat.le_of_ble_eq_true rfl) dX3_init_9 (fun H locs hP hD hS => ?_)
  have hP : va_P D rv_cl ((h0, .inr (1, [.ref q0])) :: [(q0, .inl (ca 0, 32, .inl (fun _ => 0)))]) H := hP
  have hD : va_D A ((h0, .inr (1, [.ref q0])) :: [(q0, .inl (ca 0, 32, .inl (fun _ => 0)))]) := hD
  refine hend 12 H locs ls (fun i => ([h0, q0] : List Nat).getD (i - 75) 0) dX3_init_12 ?_ (rv_D_fst (by show ([h0, q0] : List Nat) = [h0, q0]; rfl) hD) rfl hS
  exact hP
set_option maxRecDepth 100000 in
set_option maxHeartbeats 4000000 in
theorem i_X2 {l : Launch} {D : va_G} {ca : Nat → ClassId} : rv_In l D ca yX2_init cX2_init 1 1 12 8 40 0 [.null, .null, .null] 66 [66, 67, 68, 69, 70, 71, 72, 73, 74] := by
  refine rv_inmk (by decide +kernel) rfl (Nat.le_of_ble_eq_true rfl) (fun p e s m args below meth c A Q h0 ls hx hb hml hown hts hK hL hin hA hl hP hD hend => ?_)
  have hS : va_S A s.heap s.heap [] := va_S.rf
  have hown : s.vm.findClass RX2 = some m.cls := hown
  refine lv_aload_n hx hb dX2_init_0 rfl (lv_at hl 0 rfl) ?_
  refine W.objInit hx hb hown (hts _ (rv_tbm 178 (by decide +kernel) rfl)) (hts _ (rv_tbm 48 (by decide +kernel) rfl)) (hts _ (rv_tbm 49 (by decide +kernel) rfl)) rfl (by rw [hml]; exact hl.1) rfl dX2_init_1 (Nat.le_of_ble_eq_true rfl) (Nat.le_of_ble_eq_true rfl) ?_
  refine W.eq (g2 := F0 m 4 ls []) rfl ?_
  refine lv_aload_n hx hb dX2_init_4 rfl (lv_at hl 0 rfl) ?_
  refine lv_iconst (v := Int32.ofNat 5) hx hb dX2_init_5 (by decide) ?_
  refine lv_iconst (v := Int32.ofNat 5) hx hb dX2_init_6 (by decide) ?_
  refine rv_mna hx hb hown (hts _ (rv_tbm 179 (by decide +kernel) rfl)) hL.1.2 (hts _ (rv_tbm 71 (by decide +kernel) rfl)) hK hP hD hS hA 5 5 (by decide) (by decide) (Nat.le_of_ble_eq_true rfl) (Nat.le_of_ble_eq_true rfl) dX2_init_7 (fun q0 r0 H hP hD hS => ?_)
  have hP : va_P D rv_cl ((h0, .inr (0, [.null, .null, .null])) :: [(q0, rv_outer ca r0 5), (r0 0, rv_rowE ca 5), (r0 1, rv_rowE ca 5), (r0 2, rv_rowE ca 5), (r0 3, rv_rowE ca 5), (r0 4, rv_rowE ca 5)]) H := hP
  have hD : va_D A ((h0, .inr (0, [.null, .null, .null])) :: [(q0, rv_outer ca r0 5), (r0 0, rv_rowE ca 5), (r0 1, rv_rowE ca 5), (r0 2, rv_rowE ca 5), (r0 3, rv_rowE ca 5), (r0 4, rv_rowE ca 5)]) := hD
  refine W.widen (k := 6) (n := 30) (by omega) (by omega) ?_
  refine va_putF (D := D) (ci := 0) (v := .ref q0) (ty := .array (.array .int)) (C := RX2) (T := TX2) (N := 3) hx hb hts rv_cw0 tyX2 tyX2_ok nmX2 hown hK hP hD hS 0 rfl rfl 0 (by decide) (hts _ (rv_fd_X2_11).2.2.2) (fun _ h9 => h9) rfl hin rfl (by decide +kernel) rfl rfl (Nat.le_of_ble_eq_true rfl) dX2_init_11 (fun H locs hP hD hS => ?_)
  have hP : va_P D rv_cl ((h0, .inr (0, [.ref q0, .null, .null])) :: [(q0, rv_outer ca r0 5), (r0 0, rv_rowE ca 5), (r0 1, rv_rowE ca 5), (r0 2, rv_rowE ca 5), (r0 3, rv_rowE ca 5), (r0 4, rv_rowE ca 5)]) H := hP
  have hD : va_D A ((h0, .inr (0, [.ref q0, .null, .null])) :: [(q0, rv_outer ca r0 5), (r0 0, rv_rowE ca 5), (r0 1, rv_rowE ca 5), (r0 2, rv_rowE ca 5), (r0 3, rv_rowE ca 5), (r0 4, rv_rowE ca 5)]) := hD
  refine lv_aload_n hx hb dX2_init_14 rfl (lv_at hl 0 rfl) ?_
  refine lv_iconst (v := 5) hx hb dX2_init_15 (by decide) ?_
  refine va_newa (atype := .int) (ty := .int) (a0 := (5, .inl (fun _ => 0))) hx hb (hts _ (rv_tbm 71 (by decide +kernel) rfl)) rfl hK hP hD hS hA (fun _ => rfl) (by decide) (by decide) (Nat.le_of_ble_eq_true rfl) (Nat.le_of_ble_eq_true rfl) (Nat.le_of_ble_eq_true rfl) dX2_init_16 (fun q1 cA H hK1 hP hD hS => ?_)
  obtain rfl := rv_caI hK1
  clear hK1
  have hP : va_P D rv_cl ((h0, .inr (0, [.ref q0, .null, .null])) :: [(q0, rv_outer ca r0 5), (r0 0, rv_rowE ca 5), (r0 1, rv_rowE ca 5), (r0 2, rv_rowE ca 5), (r0 3, rv_rowE ca 5), (r0 4, rv_rowE ca 5), (q1, .inl (ca 0, 5, .inl (fun _ => 0)))]) H := hP
  have hD : va_D A ((h0, .inr (0, [.ref q0, .null, .null])) :: [(q0, rv_outer ca r0 5), (r0 0, rv_rowE ca 5), (r0 1, rv_rowE ca 5), (r0 2, rv_rowE ca 5), (r0 3, rv_rowE ca 5), (r0 4, rv_rowE ca 5), (q1, .inl (ca 0, 5, .inl (fun _ => 0)))]) := hD
  refine W.widen (k := 7) (n := 35) (by omega) (by omega) ?_
  refine va_putF (D := D) (ci := 0) (v := .ref q1) (ty := .array .int) (C := RX2) (T := TX2) (N := 3) hx hb hts rv_cw0 tyX2 tyX2_ok nmX2 hown hK hP hD hS 0 rfl rfl 1 (by decide) (hts _ (rv_fd_X2_16).2.2.2) (fun _ h9 => h9) rfl hin rfl (by decide +kernel) rfl rfl (Nat.le_of_ble_eq_true rfl) dX2_init_18 (fun H locs hP hD hS => ?_)
  have hP : va_P D rv_cl ((h0, .inr (0, [.ref q0, .ref q1, .null])) :: [(q0, rv_outer ca r0 5), (r0 0, rv_rowE ca 5), (r0 1, rv_rowE ca 5), (r0 2, rv_rowE ca 5), (r0 3, rv_rowE ca 5), (r0 4, rv_rowE ca 5), (q1, .inl (ca 0, 5, .inl (fun _ => 0)))]) H := hP
  have hD : va_D A ((h0, .inr (0, [.ref q0, .ref q1, .null])) :: [(q0, rv_outer ca r0 5), (r0 0, rv_rowE ca 5), (r0 1, rv_rowE ca 5), (r0 2, rv_rowE ca 5), (r0 3, rv_rowE ca 5), (r0 4, rv_rowE ca 5), (q1, .inl (ca 0, 5, .inl (fun _ => 0)))]) := hD
  refine lv_aload_n hx hb dX2_init_21 rfl (lv_at hl 0 rfl) ?_
  refine lv_iconst (v := 5) hx hb dX2_init_22 (by decide) ?_
  refine va_newa (atype := .int) (ty := .int) (a0 := (5, .inl (fun _ => 0))) hx hb (hts _ (rv_tbm 71 (by decide +kernel) rfl)) rfl hK hP hD hS hA (fun _ => rfl) (by decide) (by decide) (Nat.le_of_ble_eq_true rfl) (Nat.le_of_ble_eq_true rfl) (Nat.le_of_ble_eq_true rfl) dX2_init_23 (fun q2 cA H hK1 hP hD hS => ?_)
  obtain rfl := rv_caI hK1
  clear hK1
  have hP : va_P D rv_cl ((h0, .inr (0, [.ref q0, .ref q1, .null])) :: [(q0, rv_outer ca r0 5), (r0 0, rv_rowE ca 5), (r0 1, rv_rowE ca 5), (r0 2, rv_rowE ca 5), (r0 3, rv_rowE ca 5), (r0 4, rv_rowE ca 5), (q1, .inl (ca 0, 5, .inl (fun _ => 0))), (q2, .inl (ca 0, 5, .inl (fun _ => 0)))]) H := hP
  have hD : va_D A ((h0, .inr (0, [.ref q0, .ref q1, .null])) :: [(q0, rv_outer ca r0 5), (r0 0, rv_rowE ca 5), (r0 1, rv_rowE ca 5), (r0 2, rv_rowE ca 5), (r0 3, rv_rowE ca 5), (r0 4, rv_rowE ca 5), (q1, .inl (ca 0, 5, .inl (fun _ => 0))), (q2, .inl (ca 0, 5, .inl (fun _ => 0)))]) := hD
  refine W.widen (k := 8) (n := 40) (by omega) (by omega) ?_
  refine va_putF (D := D) (ci := 0) (v := .ref q2) (ty := .array .int) (C := RX2) (T := TX2) (N := 3) hx hb hts rv_cw0 tyX2 tyX2_ok nmX2 hown hK hP hD hS 0 rfl rfl 2 (by decide) (hts _ (rv_fd_X2_20).2.2.2) (fun _ h9 => h9) rfl hin rfl (by decide +kernel) rfl rfl (Nat.le_of_ble_eq_true rfl) dX2_init_25 (fun H locs hP hD hS => ?_)
  have hP : va_P D rv_cl ((h0, .inr (0, [.ref q0, .ref q1, .ref q2])) :: [(q0, rv_outer ca r0 5), (r0 0, rv_rowE ca 5), (r0 1, rv_rowE ca 5), (r0 2, rv_rowE ca 5), (r0 3, rv_rowE ca 5), (r0 4, rv_rowE ca 5), (q1, .inl (ca 0, 5, .inl (fun _ => 0))), (q2, .inl (ca 0, 5, .inl (fun _ => 0)))]) H := hP
  have hD : va_D A ((h0, .inr (0, [.ref q0, .ref q1, .ref q2])) :: [(q0, rv_outer ca r0 5), (r0 0, rv_rowE ca 5), (r0 1, rv_rowE ca 5), (r0 2, rv_rowE ca 5), (r0 3, rv_rowE ca 5), (r0 4, rv_rowE ca 5), (q1, .inl (ca 0, 5, .inl (fun _ => 0))), (q2, .inl (ca 0, 5, .inl (fun _ => 0)))]) := hD
  have hP := rv_P_outer (r := r0) (n := 5) (q := q0) (g := fun j => ((fun i => ([h0, q0, r0 0, r0 1, r0 2, r0 3, r0 4, q1, q2] : List Nat).getD (i - 66) 0 : Nat → Nat) (68 + j))) (i := 1) hP rfl (fun j hj => by
    rcases (show j = 0 ∨ j = 1 ∨ j = 2 ∨ j = 3 ∨ j = 4 by omega) with rfl | rfl | rfl | rfl | rfl <;> rfl)
  refine hend 28 H locs ls (fun i => ([h0, q0, r0 0, r0 1, r0 2, r0 3, r0 4, q1, q2] : List Nat).getD (i - 66) 0) dX2_init_28 ?_ (rv_D_fst (by show ([h0, q0, r0 0, r0 1, r0 2, r0 3, r0 4, q1, q2] : List Nat) = [h0, q0, r0 0, r0 1, r0 2, r0 3, r0 4, q1, q2]; rfl) hD) rfl hS
  exact hP
set_option maxRecDepth 100000 in
set_option maxHeartbeats 4000000 in
theorem i_X6 {l : Launch} {D : va_G} {ca : Nat → ClassId} : rv_In l D ca yX6_init cX6_init 1 1 12 9 45 4 [.int 0, .null, .null, .null, .null] 56 [56, 57, 58, 59, 60, 61, 62, 63, 64, 65] := by
  refine rv_inmk (by decide +kernel) rfl (Nat.le_of_ble_eq_true rfl) (fun p e s m args below meth c A Q h0 ls hx hb hml hown hts hK hL hin hA hl hP hD hend => ?_)
  have hS : va_S A s.heap s.heap [] := va_S.rf
  have hown : s.vm.findClass RX6 = some m.cls := hown
  refine lv_aload_n hx hb dX6_init_0 rfl (lv_at hl 0 rfl) ?_
  refine W.objInit hx hb hown (hts _ (rv_tbm 154 (by decide +kernel) rfl)) (hts _ (rv_tbm 48 (by decide +kernel) rfl)) (hts _ (rv_tbm 49 (by decide +kernel) rfl)) rfl (by rw [hml]; exact hl.1) rfl dX6_init_1 (Nat.le_of_ble_eq_true rfl) (Nat.le_of_ble_eq_true rfl) ?_
  refine W.eq (g2 := F0 m 4 ls []) rfl ?_
  refine lv_aload_n hx hb dX6_init_4 rfl (lv_at hl 0 rfl) ?_
  refine lv_iconst (v := 5) hx hb dX6_init_5 (by decide) ?_
  refine va_newa (atype := .int) (ty := .int) (a0 := (5, .inl (fun _ => 0))) hx hb (hts _ (rv_tbm 71 (by decide +kernel) rfl)) rfl hK hP hD hS hA (fun _ => rfl) (by decide) (by decide) (Nat.le_of_ble_eq_true rfl) (Nat.le_of_ble_eq_true rfl) (Nat.le_of_ble_eq_true rfl) dX6_init_6 (fun q0 cA H hK1 hP hD hS => ?_)
  obtain rfl := rv_caI hK1
  clear hK1
  have hP : va_P D rv_cl ((h0, .inr (4, [.int 0, .null, .null, .null, .null])) :: [(q0, .inl (ca 0, 5, .inl (fun _ => 0)))]) H := hP
  have hD : va_D A ((h0, .inr (4, [.int 0, .null, .null, .null, .null])) :: [(q0, .inl (ca 0, 5, .inl (fun _ => 0)))]) := hD
  refine W.widen (k := 1) (n := 5) (by omega) (by omega) ?_
  refine va_putF (D := D) (ci := 4) (v := .ref q0) (ty := .array .int) (C := RX6) (T := TX6) (N := 5) hx hb hts rv_cw4 tyX6 tyX6_ok nmX6 hown hK hP hD hS 0 rfl rfl 1 (by decide) (hts _ (rv_fd_X6_9).2.2.2) (fun _ h9 => h9) rfl hin rfl (by decide +kernel) rfl rfl (Nat.le_of_ble_eq_true rfl) dX6_init_8 (fun H locs hP hD hS => ?_)
  have hP : va_P D rv_cl ((h0, .inr (4, [.int 0, .ref q0, .null, .null, .null])) :: [(q0, .inl (ca 0, 5, .inl (fun _ => 0)))]) H := hP
  have hD : va_D A ((h0, .inr (4, [.int 0, .ref q0, .null, .null, .null])) :: [(q0, .inl (ca 0, 5, .inl (fun _ => 0)))]) := hD
  refine lv_aload_n hx hb dX6_init_11 rfl (lv_at hl 0 rfl) ?_
  refine lv_iconst (v := 5) hx hb dX6_init_12 (by decide) ?_
  refine va_newa (atype := .int) (ty := .int) (a0 := (5, .inl (fun _ => 0))) hx hb (hts _ (rv_tbm 71 (by decide +kernel) rfl)) rfl hK hP hD hS hA (fun _ => rfl) (by decide) (by decide) (Nat.le_of_ble_eq_true rfl) (Nat.le_of_ble_eq_true rfl) (Nat.le_of_ble_eq_true rfl) dX6_init_13 (fun q1 cA H hK1 hP hD hS => ?_)
  obtain rfl := rv_caI hK1
  clear hK1
  have hP : va_P D rv_cl ((h0, .inr (4, [.int 0, .ref q0, .null, .null, .null])) :: [(q0, .inl (ca 0, 5, .inl (fun _ => 0))), (q1, .inl (ca 0, 5, .inl (fun _ => 0)))]) H := hP
  have hD : va_D A ((h0, .inr (4, [.int 0, .ref q0, .null, .null, .null])) :: [(q0, .inl (ca 0, 5, .inl (fun _ => 0))), (q1, .inl (ca 0, 5, .inl (fun _ => 0)))]) := hD
  refine W.widen (k := 2) (n := 10) (by omega) (by omega) ?_
  refine va_putF (D := D) (ci := 4) (v := .ref q1) (ty := .array .int) (C := RX6) (T := TX6) (N := 5) hx hb hts rv_cw4 tyX6 tyX6_ok nmX6 hown hK hP hD hS 0 rfl rfl 2 (by decide) (hts _ (rv_fd_X6_15).2.2.2) (fun _ h9 => h9) rfl hin rfl (by decide +kernel) rfl rfl (Nat.le_of_ble_eq_true rfl) dX6_init_15 (fun H locs hP hD hS => ?_)
  have hP : va_P D rv_cl ((h0, .inr (4, [.int 0, .ref q0, .ref q1, .null, .null])) :: [(q0, .inl (ca 0, 5, .inl (fun _ => 0))), (q1, .inl (ca 0, 5, .inl (fun _ => 0)))]) H := hP
  have hD : va_D A ((h0, .inr (4, [.int 0, .ref q0, .ref q1, .null, .null])) :: [(q0, .inl (ca 0, 5, .inl (fun _ => 0))), (q1, .inl (ca 0, 5, .inl (fun _ => 0)))]) := hD
  refine lv_aload_n hx hb dX6_init_18 rfl (lv_at hl 0 rfl) ?_
  refine lv_iconst (v := Int32.ofNat 5) hx hb dX6_init_19 (by decide) ?_
  refine lv_iconst (v := Int32.ofNat 5) hx hb dX6_init_20 (by decide) ?_
  refine rv_mna hx hb hown (hts _ (rv_tbm 155 (by decide +kernel) rfl)) hL.1.2 (hts _ (rv_tbm 71 (by decide +kernel) rfl)) hK hP hD hS hA 5 5 (by decide) (by decide) (Nat.le_of_ble_eq_true rfl) (Nat.le_of_ble_eq_true rfl) dX6_init_21 (fun q2 r0 H hP hD hS => ?_)
  have hP : va_P D rv_cl ((h0, .inr (4, [.int 0, .ref q0, .ref q1, .null, .null])) :: [(q0, .inl (ca 0, 5, .inl (fun _ => 0))), (q1, .inl (ca 0, 5, .inl (fun _ => 0))), (q2, rv_outer ca r0 5), (r0 0, rv_rowE ca 5), (r0 1, rv_rowE ca 5), (r0 2, rv_rowE ca 5), (r0 3, rv_rowE ca 5), (r0 4, rv_rowE ca 5)]) H := hP
  have hD : va_D A ((h0, .inr (4, [.int 0, .ref q0, .ref q1, .null, .null])) :: [(q0, .inl (ca 0, 5, .inl (fun _ => 0))), (q1, .inl (ca 0, 5, .inl (fun _ => 0))), (q2, rv_outer ca r0 5), (r0 0, rv_rowE ca 5), (r0 1, rv_rowE ca 5), (r0 2, rv_rowE ca 5), (r0 3, rv_rowE ca 5), (r0 4, rv_rowE ca 5)]) := hD
  refine W.widen (k := 8) (n := 40) (by omega) (by omega) ?_
  refine va_putF (D := D) (ci := 4) (v := .ref q2) (ty := .array (.array .int)) (C := RX6) (T := TX6) (N := 5) hx hb hts rv_cw4 tyX6 tyX6_ok nmX6 hown hK hP hD hS 0 rfl rfl 3 (by decide) (hts _ (rv_fd_X6_20).2.2.2) (fun _ h9 => h9) rfl hin rfl (by decide +kernel) rfl rfl (Nat.le_of_ble_eq_true rfl) dX6_init_25 (fun H locs hP hD hS => ?_)
  have hP : va_P D rv_cl ((h0, .inr (4, [.int 0, .ref q0, .ref q1, .ref q2, .null])) :: [(q0, .inl (ca 0, 5, .inl (fun _ => 0))), (q1, .inl (ca 0, 5, .inl (fun _ => 0))), (q2, rv_outer ca r0 5), (r0 0, rv_rowE ca 5), (r0 1, rv_rowE ca 5), (r0 2, rv_rowE ca 5), (r0 3, rv_rowE ca 5), (r0 4, rv_rowE ca 5)]) H := hP
  have hD : va_D A ((h0, .inr (4, [.int 0, .ref q0, .ref q1, .ref q2, .null])) :: [(q0, .inl (ca 0, 5, .inl (fun _ => 0))), (q1, .inl (ca 0, 5, .inl (fun _ => 0))), (q2, rv_outer ca r0 5), (r0 0, rv_rowE ca 5), (r0 1, rv_rowE ca 5), (r0 2, rv_rowE ca 5), (r0 3, rv_rowE ca 5), (r0 4, rv_rowE ca 5)]) := hD
  refine lv_aload_n hx hb dX6_init_28 rfl (lv_at hl 0 rfl) ?_
  refine lv_iconst (v := 5) hx hb dX6_init_29 (by decide) ?_
  refine va_newa (atype := .int) (ty := .int) (a0 := (5, .inl (fun _ => 0))) hx hb (hts _ (rv_tbm 71 (by decide +kernel) rfl)) rfl hK hP hD hS hA (fun _ => rfl) (by decide) (by decide) (Nat.le_of_ble_eq_true rfl) (Nat.le_of_ble_eq_true rfl) (Nat.le_of_ble_eq_true rfl) dX6_init_30 (fun q3 cA H hK1 hP hD hS => ?_)
  obtain rfl := rv_caI hK1
  clear hK1
  have hP : va_P D rv_cl ((h0, .inr (4, [.int 0, .ref q0, .ref q1, .ref q2, .null])) :: [(q0, .inl (ca 0, 5, .inl (fun _ => 0))), (q1, .inl (ca 0, 5, .inl (fun _ => 0))), (q2, rv_outer ca r0 5), (r0 0, rv_rowE ca 5), (r0 1, rv_rowE ca 5), (r0 2, rv_rowE ca 5), (r0 3, rv_rowE ca 5), (r0 4, rv_rowE ca 5), (q3, .inl (ca 0, 5, .inl (fun _ => 0)))]) H := hP
  have hD : va_D A ((h0, .inr (4, [.int 0, .ref q0, .ref q1, .ref q2, .null])) :: [(q0, .inl (ca 0, 5, .inl (fun _ => 0))), (q1, .inl (ca 0, 5, .inl (fun _ => 0))), (q2, rv_outer ca r0 5), (r0 0, rv_rowE ca 5), (r0 1, rv_rowE ca 5), (r0 2, rv_rowE ca 5), (r0 3, rv_rowE ca 5), (r0 4, rv_rowE ca 5), (q3, .inl (ca 0, 5, .inl (fun _ => 0)))]) := hD
  refine W.widen (k := 9) (n := 45) (by omega) (by omega) ?_
  refine va_putF (D := D) (ci := 4) (v := .ref q3) (ty := .array .int) (C := RX6) (T := TX6) (N := 5) hx hb hts rv_cw4 tyX6 tyX6_ok nmX6 hown hK hP hD hS 0 rfl rfl 4 (by decide) (hts _ (rv_fd_X6_23).2.2.2) (fun _ h9 => h9) rfl hin rfl (by decide +kernel) rfl rfl (Nat.le_of_ble_eq_true rfl) dX6_init_32 (fun H locs hP hD hS => ?_)
  have hP : va_P D rv_cl ((h0, .inr (4, [.int 0, .ref q0, .ref q1, .ref q2, .ref q3])) :: [(q0, .inl (ca 0, 5, .inl (fun _ => 0))), (q1, .inl (ca 0, 5, .inl (fun _ => 0))), (q2, rv_outer ca r0 5), (r0 0, rv_rowE ca 5), (r0 1, rv_rowE ca 5), (r0 2, rv_rowE ca 5), (r0 3, rv_rowE ca 5), (r0 4, rv_rowE ca 5), (q3, .inl (ca 0, 5, .inl (fun _ => 0)))]) H := hP
  have hD : va_D A ((h0, .inr (4, [.int 0, .ref q0, .ref q1, .ref q2, .ref q3])) :: [(q0, .inl (ca 0, 5, .inl (fun _ => 0))), (q1, .inl (ca 0, 5, .inl (fun _ => 0))), (q2, rv_outer ca r0 5), (r0 0, rv_rowE ca 5), (r0 1, rv_rowE ca 5), (r0 2, rv_rowE ca 5), (r0 3, rv_rowE ca 5), (r0 4, rv_rowE ca 5), (q3, .inl (ca 0, 5, .inl (fun _ => 0)))]) := hD
  have hP := rv_P_outer (r := r0) (n := 5) (q := q2) (g := fun j => ((fun i => ([h0, q0, q1, q2, r0 0, r0 1, r0 2, r0 3, r0 4, q3] : List Nat).getD (i - 56) 0 : Nat → Nat) (60 + j))) (i := 3) hP rfl (fun j hj => by
    rcases (show j = 0 ∨ j = 1 ∨ j = 2 ∨ j = 3 ∨ j = 4 by omega) with rfl | rfl | rfl | rfl | rfl <;> rfl)
  refine hend 35 H locs ls (fun i => ([h0, q0, q1, q2, r0 0, r0 1, r0 2, r0 3, r0 4, q3] : List Nat).getD (i - 56) 0) dX6_init_35 ?_ (rv_D_fst (by show ([h0, q0, q1, q2, r0 0, r0 1, r0 2, r0 3, r0 4, q3] : List Nat) = [h0, q0, q1, q2, r0 0, r0 1, r0 2, r0 3, r0 4, q3]; rfl) hD) rfl hS
  exact hP
set_option maxRecDepth 100000 in
set_option maxHeartbeats 4000000 in
theorem i_X5 {l : Launch} {D : va_G} {ca : Nat → ClassId} : rv_In l D ca yX5_init cX5_init 1 1 12 28 170 3 [.int 0, .int 0, .null, .null, .null] 24 [24, 25, 26, 27, 28, 29, 30, 31, 32, 33, 34, 35, 36, 37, 38, 39, 40, 41, 42, 43, 44, 45, 46, 47, 48, 49, 50, 51, 52] := by
  refine rv_inmk (by decide +kernel) rfl (Nat.le_of_ble_eq_true rfl) (fun p e s m args below meth c A Q h0 ls hx hb hml hown hts hK hL hin hA hl hP hD hend => ?_)
  have hS : va_S A s.heap s.heap [] := va_S.rf
  have hown : s.vm.findClass RX5 = some m.cls := hown
  refine lv_aload_n hx hb dX5_init_0 rfl (lv_at hl 0 rfl) ?_
  refine W.objInit hx hb hown (hts _ (rv_tbm 105 (by decide +kernel) rfl)) (hts _ (rv_tbm 48 (by decide +kernel) rfl)) (hts _ (rv_tbm 49 (by decide +kernel) rfl)) rfl (by rw [hml]; exact hl.1) rfl dX5_init_1 (Nat.le_of_ble_eq_true rfl) (Nat.le_of_ble_eq_true rfl) ?_
  refine W.eq (g2 := F0 m 4 ls []) rfl ?_
  refine lv_aload_n hx hb dX5_init_4 rfl (lv_at hl 0 rfl) ?_
  refine lv_iconst (v := Int32.ofNat 5) hx hb dX5_init_5 (by decide) ?_
  refine lv_iconst (v := Int32.ofNat 5) hx hb dX5_init_6 (by decide) ?_
  refine rv_mna hx hb hown (hts _ (rv_tbm 106 (by decide +kernel) rfl)) hL.1.2 (hts _ (rv_tbm 71 (by decide +kernel) rfl)) hK hP hD hS hA 5 5 (by decide) (by decide) (Nat.le_of_ble_eq_true rfl) (Nat.le_of_ble_eq_true rfl) dX5_init_7 (fun q0 r0 H hP hD hS => ?_)
  have hP : va_P D rv_cl ((h0, .inr (3, [.int 0, .int 0, .null, .null, .null])) :: [(q0, rv_outer ca r0 5), (r0 0, rv_rowE ca 5), (r0 1, rv_rowE ca 5), (r0 2, rv_rowE ca 5), (r0 3, rv_rowE ca 5), (r0 4, rv_rowE ca 5)]) H := hP
  have hD : va_D A ((h0, .inr (3, [.int 0, .int 0, .null, .null, .null])) :: [(q0, rv_outer ca r0 5), (r0 0, rv_rowE ca 5), (r0 1, rv_rowE ca 5), (r0 2, rv_rowE ca 5), (r0 3, rv_rowE ca 5), (r0 4, rv_rowE ca 5)]) := hD
  refine W.widen (k := 6) (n := 30) (by omega) (by omega) ?_
  refine va_putF (D := D) (ci := 3) (v := .ref q0) (ty := .array (.array .int)) (C := RX5) (T := TX5) (N := 5) hx hb hts rv_cw3 tyX5 tyX5_ok nmX5 hown hK hP hD hS 0 rfl rfl 2 (by decide) (hts _ (rv_fd_X5_11).2.2.2) (fun _ h9 => h9) rfl hin rfl (by decide +kernel) rfl rfl (Nat.le_of_ble_eq_true rfl) dX5_init_11 (fun H locs hP hD hS => ?_)
  have hP : va_P D rv_cl ((h0, .inr (3, [.int 0, .int 0, .ref q0, .null, .null])) :: [(q0, rv_outer ca r0 5), (r0 0, rv_rowE ca 5), (r0 1, rv_rowE ca 5), (r0 2, rv_rowE ca 5), (r0 3, rv_rowE ca 5), (r0 4, rv_rowE ca 5)]) H := hP
  have hD : va_D A ((h0, .inr (3, [.int 0, .int 0, .ref q0, .null, .null])) :: [(q0, rv_outer ca r0 5), (r0 0, rv_rowE ca 5), (r0 1, rv_rowE ca 5), (r0 2, rv_rowE ca 5), (r0 3, rv_rowE ca 5), (r0 4, rv_rowE ca 5)]) := hD
  refine lv_aload_n hx hb dX5_init_14 rfl (lv_at hl 0 rfl) ?_
  refine lv_bipush (v := 20) hx hb dX5_init_15 (by decide) ?_
  refine va_newa (atype := .int) (ty := .int) (a0 := (20, .inl (fun _ => 0))) hx hb (hts _ (rv_tbm 71 (by decide +kernel) rfl)) rfl hK hP hD hS hA (fun _ => rfl) (by decide) (by decide) (Nat.le_of_ble_eq_true rfl) (Nat.le_of_ble_eq_true rfl) (Nat.le_of_ble_eq_true rfl) dX5_init_17 (fun q1 cA H hK1 hP hD hS => ?_)
  obtain rfl := rv_caI hK1
  clear hK1
  have hP : va_P D rv_cl ((h0, .inr (3, [.int 0, .int 0, .ref q0, .null, .null])) :: [(q0, rv_outer ca r0 5), (r0 0, rv_rowE ca 5), (r0 1, rv_rowE ca 5), (r0 2, rv_rowE ca 5), (r0 3, rv_rowE ca 5), (r0 4, rv_rowE ca 5), (q1, .inl (ca 0, 20, .inl (fun _ => 0)))]) H := hP
  have hD : va_D A ((h0, .inr (3, [.int 0, .int 0, .ref q0, .null, .null])) :: [(q0, rv_outer ca r0 5), (r0 0, rv_rowE ca 5), (r0 1, rv_rowE ca 5), (r0 2, rv_rowE ca 5), (r0 3, rv_rowE ca 5), (r0 4, rv_rowE ca 5), (q1, .inl (ca 0, 20, .inl (fun _ => 0)))]) := hD
  refine W.widen (k := 7) (n := 50) (by omega) (by omega) ?_
  refine va_putF (D := D) (ci := 3) (v := .ref q1) (ty := .array .int) (C := RX5) (T := TX5) (N := 5) hx hb hts rv_cw3 tyX5 tyX5_ok nmX5 hown hK hP hD hS 0 rfl rfl 3 (by decide) (hts _ (rv_fd_X5_16).2.2.2) (fun _ h9 => h9) rfl hin rfl (by decide +kernel) rfl rfl (Nat.le_of_ble_eq_true rfl) dX5_init_19 (fun H locs hP hD hS => ?_)
  have hP : va_P D rv_cl ((h0, .inr (3, [.int 0, .int 0, .ref q0, .ref q1, .null])) :: [(q0, rv_outer ca r0 5), (r0 0, rv_rowE ca 5), (r0 1, rv_rowE ca 5), (r0 2, rv_rowE ca 5), (r0 3, rv_rowE ca 5), (r0 4, rv_rowE ca 5), (q1, .inl (ca 0, 20, .inl (fun _ => 0)))]) H := hP
  have hD : va_D A ((h0, .inr (3, [.int 0, .int 0, .ref q0, .ref q1, .null])) :: [(q0, rv_outer ca r0 5), (r0 0, rv_rowE ca 5), (r0 1, rv_rowE ca 5), (r0 2, rv_rowE ca 5), (r0 3, rv_rowE ca 5), (r0 4, rv_rowE ca 5), (q1, .inl (ca 0, 20, .inl (fun _ => 0)))]) := hD
  refine lv_aload_n hx hb dX5_init_22 rfl (lv_at hl 0 rfl) ?_
  refine lv_bipush (v := Int32.ofNat 20) hx hb dX5_init_23 (by decide) ?_
  refine lv_iconst (v := Int32.ofNat 5) hx hb dX5_init_25 (by decide) ?_
  refine rv_mna hx hb hown (hts _ (rv_tbm 106 (by decide +kernel) rfl)) hL.1.2 (hts _ (rv_tbm 71 (by decide +kernel) rfl)) hK hP hD hS hA 20 5 (by decide) (by decide) (Nat.le_of_ble_eq_true rfl) (Nat.le_of_ble_eq_true rfl) dX5_init_26 (fun q2 r1 H hP hD hS => ?_)
  have hP : va_P D rv_cl ((h0, .inr (3, [.int 0, .int 0, .ref q0, .ref q1, .null])) :: [(q0, rv_outer ca r0 5), (r0 0, rv_rowE ca 5), (r0 1, rv_rowE ca 5), (r0 2, rv_rowE ca 5), (r0 3, rv_rowE ca 5), (r0 4, rv_rowE ca 5), (q1, .inl (ca 0, 20, .inl (fun _ => 0))), (q2, rv_outer ca r1 20), (r1 0, rv_rowE ca 5), (r1 1, rv_rowE ca 5), (r1 2, rv_rowE ca 5), (r1 3, rv_rowE ca 5), (r1 4, rv_rowE ca 5), (r1 5, rv_rowE ca 5), (r1 6, rv_rowE ca 5), (r1 7, rv_rowE ca 5), (r1 8, rv_rowE ca 5), (r1 9, rv_rowE ca 5), (r1 10, rv_rowE ca 5), (r1 11, rv_rowE ca 5), (r1 12, rv_rowE ca 5), (r1 13, rv_rowE ca 5), (r1 14, rv_rowE ca 5), (r1 15, rv_rowE ca 5), (r1 16, rv_rowE ca 5), (r1 17, rv_rowE ca 5), (r1 18, rv_rowE ca 5), (r1 19, rv_rowE ca 5)]) H := hP
  have hD : va_D A ((h0, .inr (3, [.int 0, .int 0, .ref q0, .ref q1, .null])) :: [(q0, rv_outer ca r0 5), (r0 0, rv_rowE ca 5), (r0 1, rv_rowE ca 5), (r0 2, rv_rowE ca 5), (r0 3, rv_rowE ca 5), (r0 4, rv_rowE ca 5), (q1, .inl (ca 0, 20, .inl (fun _ => 0))), (q2, rv_outer ca r1 20), (r1 0, rv_rowE ca 5), (r1 1, rv_rowE ca 5), (r1 2, rv_rowE ca 5), (r1 3, rv_rowE ca 5), (r1 4, rv_rowE ca 5), (r1 5, rv_rowE ca 5), (r1 6, rv_rowE ca 5), (r1 7, rv_rowE ca 5), (r1 8, rv_rowE ca 5), (r1 9, rv_rowE ca 5), (r1 10, rv_rowE ca 5), (r1 11, rv_rowE ca 5), (r1 12, rv_rowE ca 5), (r1 13, rv_rowE ca 5), (r1 14, rv_rowE ca 5), (r1 15, rv_rowE ca 5), (r1 16, rv_rowE ca 5), (r1 17, rv_rowE ca 5), (r1 18, rv_rowE ca 5), (r1 19, rv_rowE ca 5)]) := hD
  refine W.widen (k := 28) (n := 170) (by omega) (by omega) ?_
  refine va_putF (D := D) (ci := 3) (v := .ref q2) (ty := .array (.array .int)) (C := RX5) (T := TX5) (N := 5) hx hb hts rv_cw3 tyX5 tyX5_ok nmX5 hown hK hP hD hS 0 rfl rfl 4 (by decide) (hts _ (rv_fd_X5_20).2.2.2) (fun _ h9 => h9) rfl hin rfl (by decide +kernel) rfl rfl (Nat.le_of_ble_eq_true rfl) dX5_init_30 (fun H locs hP hD hS => ?_)
  have hP : va_P D rv_cl ((h0, .inr (3, [.int 0, .int 0, .ref q0, .ref q1, .ref q2])) :: [(q0, rv_outer ca r0 5), (r0 0, rv_rowE ca 5), (r0 1, rv_rowE ca 5), (r0 2, rv_rowE ca 5), (r0 3, rv_rowE ca 5), (r0 4, rv_rowE ca 5), (q1, .inl (ca 0, 20, .inl (fun _ => 0))), (q2, rv_outer ca r1 20), (r1 0, rv_rowE ca 5), (r1 1, rv_rowE ca 5), (r1 2, rv_rowE ca 5), (r1 3, rv_rowE ca 5), (r1 4, rv_rowE ca 5), (r1 5, rv_rowE ca 5), (r1 6, rv_rowE ca 5), (r1 7, rv_rowE ca 5), (r1 8, rv_rowE ca 5), (r1 9, rv_rowE ca 5), (r1 10, rv_rowE ca 5), (r1 11, rv_rowE ca 5), (r1 12, rv_rowE ca 5), (r1 13, rv_rowE ca 5), (r1 14, rv_rowE ca 5), (r1 15, rv_rowE ca 5), (r1 16, rv_rowE ca 5), (r1 17, rv_rowE ca 5), (r1 18, rv_rowE ca 5), (r1 19, rv_rowE ca 5)]) H := hP
  have hD : va_D A ((h0, .inr (3, [.int 0, .int 0, .ref q0, .ref q1, .ref q2])) :: [(q0, rv_outer ca r0 5), (r0 0, rv_rowE ca 5), (r0 1, rv_rowE ca 5), (r0 2, rv_rowE ca 5), (r0 3, rv_rowE ca 5), (r0 4, rv_rowE ca 5), (q1, .inl (ca 0, 20, .inl (fun _ => 0))), (q2, rv_outer ca r1 20), (r1 0, rv_rowE ca 5), (r1 1, rv_rowE ca 5), (r1 2, rv_rowE ca 5), (r1 3, rv_rowE ca 5), (r1 4, rv_rowE ca 5), (r1 5, rv_rowE ca 5), (r1 6, rv_rowE ca 5), (r1 7, rv_rowE ca 5), (r1 8, rv_rowE ca 5), (r1 9, rv_rowE ca 5), (r1 10, rv_rowE ca 5), (r1 11, rv_rowE ca 5), (r1 12, rv_rowE ca 5), (r1 13, rv_rowE ca 5), (r1 14, rv_rowE ca 5), (r1 15, rv_rowE ca 5), (r1 16, rv_rowE ca 5), (r1 17, rv_rowE ca 5), (r1 18, rv_rowE ca 5), (r1 19, rv_rowE ca 5)]) := hD
  have hP := rv_P_outer (r := r0) (n := 5) (q := q0) (g := fun j => ((fun i => ([h0, q0, r0 0, r0 1, r0 2, r0 3, r0 4, q1, q2, r1 0, r1 1, r1 2, r1 3, r1 4, r1 5, r1 6, r1 7, r1 8, r1 9, r1 10, r1 11, r1 12, r1 13, r1 14, r1 15, r1 16, r1 17, r1 18, r1 19] : List Nat).getD (i - 24) 0 : Nat → Nat) (26 + j))) (i := 1) hP rfl (fun j hj => by
    rcases (show j = 0 ∨ j = 1 ∨ j = 2 ∨ j = 3 ∨ j = 4 by omega) with rfl | rfl | rfl | rfl | rfl <;> rfl)
  have hP := rv_P_outer (r := r1) (n := 20) (q := q2) (g := fun j => ((fun i => ([h0, q0, r0 0, r0 1, r0 2, r0 3, r0 4, q1, q2, r1 0, r1 1, r1 2, r1 3, r1 4, r1 5, r1 6, r1 7, r1 8, r1 9, r1 10, r1 11, r1 12, r1 13, r1 14, r1 15, r1 16, r1 17, r1 18, r1 19] : List Nat).getD (i - 24) 0 : Nat → Nat) (33 + j))) (i := 8) hP rfl (fun j hj => by
    rcases (show j = 0 ∨ j = 1 ∨ j = 2 ∨ j = 3 ∨ j = 4 ∨ j = 5 ∨ j = 6 ∨ j = 7 ∨ j = 8 ∨ j = 9 ∨ j = 10 ∨ j = 11 ∨ j = 12 ∨ j = 13 ∨ j = 14 ∨ j = 15 ∨ j = 16 ∨ j = 17 ∨ j = 18 ∨ j = 19 by omega) with rfl | rfl | rfl | rfl | rfl | rfl | rfl | rfl | rfl | rfl | rfl | rfl | rfl | rfl | rfl | rfl | rfl | rfl | rfl | rfl <;> rfl)
  refine hend 33 H locs ls (fun i => ([h0, q0, r0 0, r0 1, r0 2, r0 3, r0 4, q1, q2, r1 0, r1 1, r1 2, r1 3, r1 4, r1 5, r1 6, r1 7, r1 8, r1 9, r1 10, r1 11, r1 12, r1 13, r1 14, r1 15, r1 16, r1 17, r1 18, r1 19] : List Nat).getD (i - 24) 0) dX5_init_33 ?_ (rv_D_fst (by show ([h0, q0, r0 0, r0 1, r0 2, r0 3, r0 4, q1, q2, r1 0, r1 1, r1 2, r1 3, r1 4, r1 5, r1 6, r1 7, r1 8, r1 9, r1 10, r1 11, r1 12, r1 13, r1 14, r1 15, r1 16, r1 17, r1 18, r1 19] : List Nat) = [h0, q0, r0 0, r0 1, r0 2, r0 3, r0 4, q1, q2, r1 0, r1 1, r1 2, r1 3, r1 4, r1 5, r1 6, r1 7, r1 8, r1 9, r1 10, r1 11, r1 12, r1 13, r1 14, r1 15, r1 16, r1 17, r1 18, r1 19]; rfl) hD) rfl hS
  exact hP
