theorem rv_ca_of {args : Array Value} {s : State} {t : FieldType} (h : (Cond.arrayClass t).before args s = true) (ho : ∀ C, t ≠ .object C) : ∃ c : ClassId, ArrOfT s c t ∧ va_RA s c t := by
  obtain ⟨c, k, comp, h1, h2, h3⟩ := Cond.arrayClass_spec h
  refine ⟨c, fun N z => ⟨(fun q hq => by cases hq), k, h2, comp, h3⟩, ?_⟩
  cases t <;> first | exact h1 | exact absurd rfl (ho _)
theorem rv_ca_O {s : State} {C : String} (h : va_AO C s) : ∃ c : ClassId, ArrOfT s c (.object C) ∧ va_RA s c (.object C) := by
  obtain ⟨comp, c, k, h1, h2, h3, h4, h5⟩ := Cond.arrayOver_spec h
  exact ⟨c, fun N z => ⟨(fun q hq => by cases hq), k, h3, comp, h4⟩, k, comp, h3, h4, h1, h5⟩
theorem rv_ca_A {s : State} (h : rv_AOA s) : ∃ c : ClassId, ArrOfT s c (.array .int) ∧ va_RA s c (.array .int) := by
  unfold rv_AOA at h
  rw [rv_aov_eq] at h
  have h' := beq_iff_eq.mp h
  unfold rv_aov at h'
  obtain ⟨comp, h1, h2⟩ := Option.bind_eq_some_iff.mp h'
  obtain ⟨c, h3, h4⟩ := Option.bind_eq_some_iff.mp h2
  obtain ⟨k, h5, h6⟩ := Option.map_eq_some_iff.mp h4
  cases hk : k.kind with
  | array comp2 ty =>
    simp only [hk, Bool.and_eq_true, decide_eq_true_eq] at h6
    exact ⟨c, fun N z => ⟨(fun q hq => by cases hq), k, h5, comp2, by rw [hk, h6.1]⟩, h6.2⟩
  | _ => simp only [hk] at h6; cases h6
theorem rv_Inv0 : rc_I 0 (fun _ => ra_R.mk 0 0 (fun _ => 0) (fun _ => 0)) 31 0 (fun _ => 0) (fun _ => 0) rt_w0 := by
  refine ⟨⟨rfl, by decide, rfl, Nat.zero_le _, fun g hg => absurd hg (Nat.not_lt_zero g)⟩, ⟨fun _ _ => 1, fun g hg k hk => ⟨?_, (by decide : 1 ≤ 5)⟩⟩, ⟨Nat.zero_le _, rfl, fun i => [5, 8, 11, 14, 17].getD i 0, ⟨fun i hi => ?_, fun i j hi hj => ?_⟩, fun i hi => absurd hi (Nat.not_lt_zero i)⟩, rfl⟩
  · show rt_w0 (33 + g) k = rv_ci 1
    unfold rt_w0
    rw [if_neg (by omega), if_neg (by omega), if_neg (by omega)]
    rfl
  · rcases (show i = 0 ∨ i = 1 ∨ i = 2 ∨ i = 3 ∨ i = 4 by omega) with rfl | rfl | rfl | rfl | rfl <;> exact ⟨by decide, rfl⟩
  · rcases (show i = 0 ∨ i = 1 ∨ i = 2 ∨ i = 3 ∨ i = 4 by omega) with rfl | rfl | rfl | rfl | rfl <;> rcases (show j = 0 ∨ j = 1 ∨ j = 2 ∨ j = 3 ∨ j = 4 by omega) with rfl | rfl | rfl | rfl | rfl <;> decide
theorem rv_known {args : Array Value} {s : State} (hts : ∀ w ∈ rv_tb, w.before args s = true) : ∃ D : va_G, ∀ (c : Nat) (q : vw_C), rv_cl[c]? = some q → u_Kn s q.1 q.2.1 q.2.2 (D.1 c) (D.2 c) := by
  obtain ⟨c0, s0, k0⟩ := u_known (C := RX2) (T := TX2) (N := 3) (n := 3) hts rv_cw0 (hts _ (rv_tbm 174 (by decide +kernel) rfl))
  obtain ⟨c1, s1, k1⟩ := u_known (C := RX3) (T := TX3) (N := 1) (n := 1) hts rv_cw1 (hts _ (rv_tbm 191 (by decide +kernel) rfl))
  obtain ⟨c2, s2, k2⟩ := u_known (C := RX4) (T := TX4) (N := 1) (n := 1) hts rv_cw2 (hts _ (rv_tbm 140 (by decide +kernel) rfl))
  obtain ⟨c3, s3, k3⟩ := u_known (C := RX5) (T := TX5) (N := 5) (n := 5) hts rv_cw3 (hts _ (rv_tbm 101 (by decide +kernel) rfl))
  obtain ⟨c4, s4, k4⟩ := u_known (C := RX6) (T := TX6) (N := 5) (n := 5) hts rv_cw4 (hts _ (rv_tbm 150 (by decide +kernel) rfl))
  obtain ⟨c5, s5, k5⟩ := u_known (C := RX7) (T := TX7) (N := 4) (n := 4) hts rv_cw5 (hts _ (rv_tbm 134 (by decide +kernel) rfl))
  obtain ⟨c6, s6, k6⟩ := u_known (C := RX8) (T := TX8) (N := 4) (n := 4) hts rv_cw6 (hts _ (rv_tbm 51 (by decide +kernel) rfl))
  obtain ⟨c7, s7, k7⟩ := u_known (C := RX9) (T := TX9) (N := 6) (n := 6) hts rv_cw7 (hts _ (rv_tbm 74 (by decide +kernel) rfl))
  obtain ⟨c8, s8, k8⟩ := u_known (C := RX10) (T := TX10) (N := 7) (n := 7) hts rv_cw8 (hts _ (rv_tbm 43 (by decide +kernel) rfl))
  refine ⟨(fun k => if k = 0 then c0 else if k = 1 then c1 else if k = 2 then c2 else if k = 3 then c3 else if k = 4 then c4 else if k = 5 then c5 else if k = 6 then c6 else if k = 7 then c7 else c8, fun k => if k = 0 then s0 else if k = 1 then s1 else if k = 2 then s2 else if k = 3 then s3 else if k = 4 then s4 else if k = 5 then s5 else if k = 6 then s6 else if k = 7 then s7 else s8), ?_⟩
  intro c q hq
  have hc : c < 9 := (List.getElem?_eq_some_iff.mp hq).1
  rcases (show c = 0 ∨ c = 1 ∨ c = 2 ∨ c = 3 ∨ c = 4 ∨ c = 5 ∨ c = 6 ∨ c = 7 ∨ c = 8 by omega) with rfl | rfl | rfl | rfl | rfl | rfl | rfl | rfl | rfl
  · cases hq; exact k0
  · cases hq; exact k1
  · cases hq; exact k2
  · cases hq; exact k3
  · cases hq; exact k4
  · cases hq; exact k5
  · cases hq; exact k6
  · cases hq; exact k7
  · cases hq; exact k8
theorem rl_cell {p : Program} {l : Launch} {e : Env} {R : Room} {s : State} {m : MethodId} {args : Array Value} {below : List Frame} {meth : Method} {c : Code} {A : Nat → Prop} {cs sl : Nat} {Q : State → Prop} {rv : Int32} {rw : rv_W} {D : va_G} {ad : Nat → Nat} {ca : Nat → ClassId} {b L : Nat} {xs : Nat → Int32} (hL : L ≤ 260) (hx : p.tables.exec = Jvm.exec) (hb : c.code = cL_law) (hml : c.maxLocals = 12) (hown : s.vm.findClass RL = some m.cls) (hts : ∀ w ∈ rv_tb, w.before args s = true) (hR : 1 ≤ R.frames ∧ 21 ≤ R.locals ∧ cs ≤ R.cells ∧ sl ≤ R.slots) (hX : va_X b L xs s s.heap) (hbl : b < s.heap.size) (hbA : ¬ A b) : ∀ (pc : Nat) (lv : List (Nat × Value)) (w : rv_W) (t : rv_R) (i : Int32), decode cL_law pc = .ok (.invokestatic 116, 3) → ¬ i < 0 → rv_Ok D ad ca p l e R s m args below meth c A cs sl Q 12 rv rw (pc + 3) lv [.int (rl_xc L xs i)] w t → rv_Ok D ad ca p l e R s m args below meth c A cs sl Q 12 rv rw pc lv [.int i, .ref b] w t := by
  intro pc lv w t i d hi n ht H locs ls hP hS hl
  have hcode : Cond.code yL_cell cL_cell 2 (some .int) ∈ rv_tb := rv_tbm 635 (by decide +kernel) rfl
  have hX' : va_X b L xs s H := hX.kept (hS.2.1 b hbl hbA)
  refine va_calli (va_runS (g := F0 m pc ls [.int i, .ref b]) (As := [.ref b, .int i]) (rest := []) ⟨hx, hb, hml, hown, hts⟩ (rl_cellM (D := D) (ad := ad) (ca := ca) (xs := xs) (w := w) hL hi) ⟨callB_of 2 hts (rv_goodC hcode) rfl rfl rfl (hts _ (rv_tbm 28 (by decide +kernel) rfl)) (hts _ (rv_tbm 633 (by decide +kernel) rfl)) ⟨by decide, by decide, by decide +kernel⟩ ⟨hR.1, hR.2.1⟩, hts _ (rv_tbm 634 (by decide +kernel) rfl)⟩ ⟨rl_blind, fun U hU hW => ⟨rfl, by rw [hU]; exact hP, by rw [hU]; exact va_X.moved hW.alike hX', by rw [hU]; exact Nat.lt_of_lt_of_le hbl hS.1⟩⟩ rfl rfl hl.1 rfl (lv_room (Nat.le_of_ble_eq_true rfl)) d ⟨hR.2.2.1, hR.2.2.2⟩) hS (fun q _ hq => hq.elim) (fun q hq => hq.elim) (fun r u t H1 locs1 ht1 hvm hw hB hz1 hk1 hS1 => ?_)
  subst hw
  rw [ht1] at hB
  exact n ht H1 locs1 ls hB hS1 hl
set_option maxRecDepth 100000 in
set_option maxHeartbeats 4000000 in
theorem whole_start {p : Program} {e : Env} {s : State} {m : MethodId} {below : List Frame} {meth : Method} {c : Code} (l : Launch) (hflags : l.flags = flags0) {b L : Nat} {xs : Nat → Int32} (hL : L ≤ 260) (C0 : lw_At p s m meth c b L xs) : W p l e room_1 s m #[Value.ref b] below meth c s.heap [] 0 0 (lw_Z below #[Value.ref b] s) (entryFrame m ([Value.ref b] : List Value).toArray 12) := by
  obtain ⟨hx, hb, hr, hml, hown, hts0, hX, hbl, hlocks, hgv⟩ := id C0
  have hts : ∀ w ∈ rv_tb, w.before #[Value.ref b] s = true := fun w hw => hts0 w (List.mem_filter.mp hw).1
  have hL2 : rv_Lk s := ⟨⟨va_AO.of (hts0 _ (List.mem_of_getElem? (i := 72) (by decide +kernel))), rv_AOA.of (hts0 _ (List.mem_of_getElem? (i := 107) (by decide +kernel)))⟩, ⟨va_Nw.of rfl (hts0 _ (List.mem_of_getElem? (i := 52) (by decide +kernel))), va_Nw.of rfl (hts0 _ (List.mem_of_getElem? (i := 75) (by decide +kernel))), va_Nw.of rfl (hts0 _ (List.mem_of_getElem? (i := 102) (by decide +kernel))), va_Nw.of rfl (hts0 _ (List.mem_of_getElem? (i := 135) (by decide +kernel)))⟩, va_Nw.of rfl (hts0 _ (List.mem_of_getElem? (i := 141) (by decide +kernel))), va_Nw.of rfl (hts0 _ (List.mem_of_getElem? (i := 151) (by decide +kernel))), va_Nw.of rfl (hts0 _ (List.mem_of_getElem? (i := 175) (by decide +kernel))), va_Nw.of rfl (hts0 _ (List.mem_of_getElem? (i := 192) (by decide +kernel)))⟩
  have hNw : va_Nw rv_nw s := va_Nw.of rfl (hts0 _ (List.mem_of_getElem? (i := 607) (by decide +kernel)))
  obtain ⟨D, hKn⟩ := rv_known hts
  obtain ⟨c0, r0⟩ := rv_ca_of (t := .int) (hts _ (rv_tbm 71 (by decide +kernel) rfl)) (fun C z => by cases z)
  obtain ⟨c1, r1⟩ := rv_ca_of (t := .char) (hts _ (rv_tbm 99 (by decide +kernel) rfl)) (fun C z => by cases z)
  obtain ⟨c3, r3⟩ := rv_ca_O hL2.1.1
  obtain ⟨c4, r4⟩ := rv_ca_A hL2.1.2
  obtain ⟨ca, hK⟩ : ∃ ca : Nat → ClassId, va_K D rv_cl (rv_tys ca) s := by
    refine ⟨fun k => if k = 0 then c0 else if k = 1 then c1 else if k = 2 then c0 else if k = 3 then c3 else c4, hKn, fun k q hq => ?_⟩
    have hk : k < 5 := (List.getElem?_eq_some_iff.mp hq).1
    rcases (show k = 0 ∨ k = 1 ∨ k = 2 ∨ k = 3 ∨ k = 4 by omega) with rfl | rfl | rfl | rfl | rfl
    · cases hq; exact r0
    · cases hq; exact r1
    · cases hq; exact r0
    · cases hq; exact r3
    · cases hq; exact r4
  have hA : ∀ q : Nat, s.heap.size ≤ q → (fun q : Nat => s.heap.size ≤ q) q := fun _ h => h
  have hbA : ¬ (fun q : Nat => s.heap.size ≤ q) b := Nat.not_le.mpr hbl
  have hS : va_S (fun q : Nat => s.heap.size ≤ q) s.heap s.heap [] := va_S.rf
  have hP : va_P D rv_cl [] s.heap := fun k q h => by simp at h
  have hD : va_D (fun q : Nat => s.heap.size ≤ q) [] := ⟨fun i j p q h => by simp at h, fun k q h => by simp at h⟩
  have hl := lv_entry ([.ref b]) (n := 12) (Nat.le_of_ble_eq_true rfl)
  rw [lg_entry_eq]
  generalize (lg_sl ([.ref b]) ++ List.replicate (12 - (lg_sl ([.ref b])).length) Slot.unset).toArray = ls at hl ⊢
  have hl : lv_has ls 12 [(0, .ref b)] := hl
  refine rv_newP (own := R_law) (ci := 8) (C := RX10) (T := TX10) (N := 7) (d := [.null, .null, .int 0, .null, .null, .null, .null]) (ty0 := tyX10) (E := [0, 4, 1, 2, 3, 20, 21, 22, 23, 24, 25, 26, 27, 28, 29, 30, 31, 32, 33, 34, 35, 36, 37, 38, 39, 40, 41, 42, 43, 44, 45, 46, 47, 48, 49, 50, 51, 52, 53, 54, 55, 56, 57, 58, 59, 60, 61, 62, 63, 64, 65, 66, 67, 68, 69, 70, 71, 72, 73, 74, 75, 76, 77, 5, 6, 7, 8, 9, 10, 11, 12, 13, 14, 15, 16, 17, 18, 19]) (k := 0) hx hb hml hown hts hK hL2 hP hD hS hA rv_cw8 tyX10_ok (rv_tbm 42 (by decide +kernel) rfl) (rv_tbm 43 (by decide +kernel) rfl) (rv_tbm 29 (by decide +kernel) rfl) rfl (fun j hj => by rcases (show j = 0 ∨ j = 1 ∨ j = 2 ∨ j = 3 ∨ j = 4 ∨ j = 5 ∨ j = 6 by omega) with rfl | rfl | rfl | rfl | rfl | rfl | rfl <;> rfl) i_X10 (rv_tbm 46 (by decide +kernel) rfl) rfl rfl (rv_tbm 45 (by decide +kernel) rfl) (by decide +kernel) (rv_tbm 44 (by decide +kernel) rfl) ⟨Nat.le_of_ble_eq_true rfl, Nat.le_of_ble_eq_true rfl⟩ (Nat.le_of_ble_eq_true rfl) (Nat.le_of_ble_eq_true rfl) dL_law_0 dL_law_3 dL_law_4 hl.1 (Nat.le_of_ble_eq_true rfl) (fun ad H locs hP hD hS => ?_)
  refine W.widen (k := 78) (n := 738) (by omega) (by omega) ?_
  refine lv_astore_n (lv' := [(1, .ref (ad 0)), (0, .ref b)]) hx hb dL_law_7 rfl hl (by decide) rfl (fun ls hl => ?_)
  have hE : ∀ k, k < rv_N → k ∈ ([0, 4, 1, 2, 3, 20, 21, 22, 23, 24, 25, 26, 27, 28, 29, 30, 31, 32, 33, 34, 35, 36, 37, 38, 39, 40, 41, 42, 43, 44, 45, 46, 47, 48, 49, 50, 51, 52, 53, 54, 55, 56, 57, 58, 59, 60, 61, 62, 63, 64, 65, 66, 67, 68, 69, 70, 71, 72, 73, 74, 75, 76, 77, 5, 6, 7, 8, 9, 10, 11, 12, 13, 14, 15, 16, 17, 18, 19] : List Nat) := fun k hk => List.contains_iff_mem.mp (List.all_eq_true.mp (by decide +kernel : ((List.range rv_N).all fun k => ([0, 4, 1, 2, 3, 20, 21, 22, 23, 24, 25, 26, 27, 28, 29, 30, 31, 32, 33, 34, 35, 36, 37, 38, 39, 40, 41, 42, 43, 44, 45, 46, 47, 48, 49, 50, 51, 52, 53, 54, 55, 56, 57, 58, 59, 60, 61, 62, 63, 64, 65, 66, 67, 68, 69, 70, 71, 72, 73, 74, 75, 76, 77, 5, 6, 7, 8, 9, 10, 11, 12, 13, 14, 15, 16, 17, 18, 19] : List Nat).contains k) = true) k (List.mem_range.mpr hk))
  have hP2 : va_P D rv_cl (rv_sl ad ca [0, 4, 1, 2, 3, 20, 21, 22, 23, 24, 25, 26, 27, 28, 29, 30, 31, 32, 33, 34, 35, 36, 37, 38, 39, 40, 41, 42, 43, 44, 45, 46, 47, 48, 49, 50, 51, 52, 53, 54, 55, 56, 57, 58, 59, 60, 61, 62, 63, 64, 65, 66, 67, 68, 69, 70, 71, 72, 73, 74, 75, 76, 77, 5, 6, 7, 8, 9, 10, 11, 12, 13, 14, 15, 16, 17, 18, 19]) H := hP
  have hD2 : va_D (fun q : Nat => s.heap.size ≤ q) (rv_sl ad ca [0, 4, 1, 2, 3, 20, 21, 22, 23, 24, 25, 26, 27, 28, 29, 30, 31, 32, 33, 34, 35, 36, 37, 38, 39, 40, 41, 42, 43, 44, 45, 46, 47, 48, 49, 50, 51, 52, 53, 54, 55, 56, 57, 58, 59, 60, 61, 62, 63, 64, 65, 66, 67, 68, 69, 70, 71, 72, 73, 74, 75, 76, 77, 5, 6, 7, 8, 9, 10, 11, 12, 13, 14, 15, 16, 17, 18, 19]) := hD
  generalize ([0, 4, 1, 2, 3, 20, 21, 22, 23, 24, 25, 26, 27, 28, 29, 30, 31, 32, 33, 34, 35, 36, 37, 38, 39, 40, 41, 42, 43, 44, 45, 46, 47, 48, 49, 50, 51, 52, 53, 54, 55, 56, 57, 58, 59, 60, 61, 62, 63, 64, 65, 66, 67, 68, 69, 70, 71, 72, 73, 74, 75, 76, 77, 5, 6, 7, 8, 9, 10, 11, 12, 13, 14, 15, 16, 17, 18, 19] : List Nat) = EE at hE hP2 hD2
  have hPw : va_P D rv_cl (rv_wl ad ca rt_w0) H := rv_P_mem.mpr (fun q hq => by
    obtain ⟨k, hk, rfl⟩ := List.mem_map.mp hq
    exact rv_P_mem.mp hP2 _ (List.mem_map.mpr ⟨k, hE k (List.mem_range.mp hk), rfl⟩))
  have hat : ∀ k, k < rv_N → ∃ a : Nat, EE[a]? = some k ∧ (rv_sl ad ca EE)[a]? = some (ad k, rv_cell ad ca rt_w0 k) := fun k hk => by
    obtain ⟨a, ha⟩ := List.getElem?_of_mem (hE k hk)
    exact ⟨a, ha, by unfold rv_sl; rw [List.getElem?_map, ha]; rfl⟩
  have hJ : rv_J ad := fun i j hi hj hij => by
    obtain ⟨a1, a2, a3⟩ := hat i hi
    obtain ⟨b1, b2, b3⟩ := hat j hj
    have := hD2.1 a1 b1 _ _ a3 b3 hij
    subst this
    exact Option.some.inj (a2.symm.trans b2)
  have hAd : ∀ k, k < rv_N → (fun q : Nat => s.heap.size ≤ q) (ad k) := fun k hk => by
    obtain ⟨a1, a2, a3⟩ := hat k hk
    exact hD2.2 a1 _ a3
  obtain ⟨v, w', eF, rfl⟩ := rq_law (xc := rl_xc L xs) rv_Inv0
  have hRl : rv_Rl D ad ca l RL cL_law 12 8 203 (rv_Ok D ad ca p l e room_1 s m #[Value.ref b] below meth c (fun q : Nat => s.heap.size ≤ q) 78 738 (lw_Z below #[Value.ref b] s) 12 1 w') := ⟨p, e, room_1, s, m, _, below, meth, c, _, 78, 738, _, 1, w', hx, hb, hml, hown, hts, hK, ⟨hJ, hNw⟩, hAd, ⟨Nat.le_of_ble_eq_true rfl, Nat.le_of_ble_eq_true rfl, Nat.le_of_ble_eq_true rfl, Nat.le_of_ble_eq_true rfl⟩, rfl⟩
  have hret : rv_Ret cL_law (some .boolean) (rv_Ok D ad ca p l e room_1 s m #[Value.ref b] below meth c (fun q : Nat => s.heap.size ≤ q) 78 738 (lw_Z below #[Value.ref b] s) 12 1 w') := by
    intro pc lv w v hd hnar ht H locs ls hP hS hl
    cases ht
    refine va_forget (fun q hq => hS.2.2 q hq) ?_
    refine W.widen (k := 600000) (n := 7302250) (Nat.le_of_ble_eq_true rfl) (Nat.le_of_ble_eq_true rfl) ?_
    exact lw_ret hx hb hr hlocks hd
  have hcell := rl_cell (D := D) (ad := ad) (ca := ca) (p := p) (l := l) (e := e) (R := room_1) (below := below) (meth := meth) (A := fun q : Nat => s.heap.size ≤ q) (cs := 78) (sl := 738) (Q := lw_Z below #[Value.ref b] s) (rv := 1) (rw := w') hL hx hb hml hown hts ⟨Nat.le_of_ble_eq_true rfl, Nat.le_of_ble_eq_true rfl, Nat.le_of_ble_eq_true rfl, Nat.le_of_ble_eq_true rfl⟩ hX hbl hbA
  exact fn_L_law hJ hRl hret hcell rt_w0 eF H locs ls hPw hS hl
