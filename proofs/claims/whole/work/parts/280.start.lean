theorem rv_ca_of {args : Array Value} {s : State} {t : FieldType} (h : (Cond.arrayClass t).before args s = true) (ho : ∀ C, t ≠ .object C) : ∃ c : ClassId, ArrOfT s c t ∧ va_RA s c t := by
  obtain ⟨c, k, comp, h1, h2, h3⟩ := Cond.arrayClass_spec h
  refine ⟨c, fun N z => ⟨(fun q hq => by cases hq), k, h2, comp, h3⟩, ?_⟩
  cases t <;> first | exact h1 | exact absurd rfl (ho _)
theorem rv_ca_O {s : State} {C : String} (h : va_AO C s) : ∃ c : ClassId, ArrOfT s c (.object C) ∧ va_RA s c (.object C) := by
  obtain ⟨comp, c, k, h1, h2, h3, h4, h5⟩ := Cond.arrayOver_spec h
  exact ⟨c, fun N z => ⟨(fun q hq => by cases hq), k, h3, comp, h4⟩, k, comp, h3, h4, h1, h5⟩
theorem rv_ca_A {s : State} (h : rv_AOA s) : ∃ c : ClassId, ArrOfT s c (.array .int) ∧ va_RA s c (.array .int) := by
  unfold rv_AOA at h
  rw [rv_aov_eq] at h
  have h' := beq_iff_eq.mp h
  unfold rv_aov at h'
  obtain ⟨comp, h1, h2⟩ := Option.bind_eq_some_iff.mp h'
  obtain ⟨c, h3, h4⟩ := Option.bind_eq_some_iff.mp h2
  obtain ⟨k, h5, h6⟩ := Option.map_eq_some_iff.mp h4
  cases hk : k.kind with
  | array comp2 ty =>
    simp only [hk, Bool.and_eq_true, decide_eq_true_eq] at h6
    exact ⟨c, fun N z => ⟨(fun q hq => by cases hq), k, h5, comp2, by rw [hk, h6.1]⟩, h6.2⟩
  | _ => simp only [hk] at h6; cases h6
theorem rv_Inv0 : ra_Inv rt_w0 := by
  refine ⟨⟨31, 0, fun _ => 0, fun _ => 0, ⟨rfl, by decide, rfl, Nat.zero_le _, fun g hg => absurd hg (Nat.not_lt_zero g)⟩, rfl, rfl, fun g hg => absurd hg (Nat.not_lt_zero g)⟩, ⟨0, fun i => [5, 8, 11, 14, 17].getD i 0, Nat.zero_le _, rfl, rfl, fun i hi => ?_, fun i j hi hj => ?_, fun i hi => absurd hi (Nat.not_lt_zero i)⟩, ⟨0, fun _ => 0, Nat.zero_le _, rfl, rfl, fun i hi => absurd hi (Nat.not_lt_zero i)⟩, ⟨fun _ _ => 1, fun g hg k hk => ⟨?_, (by decide : 1 ≤ 5)⟩⟩⟩
  · rcases (show i = 0 ∨ i = 1 ∨ i = 2 ∨ i = 3 ∨ i = 4 by omega) with rfl | rfl | rfl | rfl | rfl <;> exact ⟨by decide, rfl⟩
  · rcases (show i = 0 ∨ i = 1 ∨ i = 2 ∨ i = 3 ∨ i = 4 by omega) with rfl | rfl | rfl | rfl | rfl <;> rcases (show j = 0 ∨ j = 1 ∨ j = 2 ∨ j = 3 ∨ j = 4 by omega) with rfl | rfl | rfl | rfl | rfl <;> decide
  · show rt_w0 (33 + g) k = rv_ci 1
    unfold rt_w0
    rw [if_neg (by omega), if_neg (by omega), if_neg (by omega)]
    rfl
theorem rv_known {args : Array Value} {s : State} (hts : ∀ w ∈ rv_tb, w.before args s = true) : ∃ D : va_G, ∀ (c : Nat) (q : vw_C), rv_cl[c]? = some q → u_Kn s q.1 q.2.1 q.2.2 (D.1 c) (D.2 c) := by
  obtain ⟨c0, s0, k0⟩ := u_known (C := RX2) (T := TX2) (N := 3) (n := 3) hts rv_cw0 (hts _ (rv_tbm 229 (by decide +kernel) rfl))
  obtain ⟨c1, s1, k1⟩ := u_known (C := RX3) (T := TX3) (N := 1) (n := 1) hts rv_cw1 (hts _ (rv_tbm 246 (by decide +kernel) rfl))
  obtain ⟨c2, s2, k2⟩ := u_known (C := RX4) (T := TX4) (N := 1) (n := 1) hts rv_cw2 (hts _ (rv_tbm 195 (by decide +kernel) rfl))
  obtain ⟨c3, s3, k3⟩ := u_known (C := RX5) (T := TX5) (N := 5) (n := 5) hts rv_cw3 (hts _ (rv_tbm 156 (by decide +kernel) rfl))
  obtain ⟨c4, s4, k4⟩ := u_known (C := RX6) (T := TX6) (N := 5) (n := 5) hts rv_cw4 (hts _ (rv_tbm 205 (by decide +kernel) rfl))
  obtain ⟨c5, s5, k5⟩ := u_known (C := RX7) (T := TX7) (N := 4) (n := 4) hts rv_cw5 (hts _ (rv_tbm 189 (by decide +kernel) rfl))
  obtain ⟨c6, s6, k6⟩ := u_known (C := RX8) (T := TX8) (N := 4) (n := 4) hts rv_cw6 (hts _ (rv_tbm 105 (by decide +kernel) rfl))
  obtain ⟨c7, s7, k7⟩ := u_known (C := RX9) (T := TX9) (N := 6) (n := 6) hts rv_cw7 (hts _ (rv_tbm 128 (by decide +kernel) rfl))
  obtain ⟨c8, s8, k8⟩ := u_known (C := RX10) (T := TX10) (N := 7) (n := 7) hts rv_cw8 (hts _ (rv_tbm 97 (by decide +kernel) rfl))
  obtain ⟨c9, s9, k9⟩ := u_known (C := RX11) (T := TX11) (N := 27) (n := 27) hts rv_cw9 (hts _ (rv_tbm 889 (by decide +kernel) rfl))
  refine ⟨(fun k => if k = 0 then c0 else if k = 1 then c1 else if k = 2 then c2 else if k = 3 then c3 else if k = 4 then c4 else if k = 5 then c5 else if k = 6 then c6 else if k = 7 then c7 else if k = 8 then c8 else c9, fun k => if k = 0 then s0 else if k = 1 then s1 else if k = 2 then s2 else if k = 3 then s3 else if k = 4 then s4 else if k = 5 then s5 else if k = 6 then s6 else if k = 7 then s7 else if k = 8 then s8 else s9), ?_⟩
  intro c q hq
  have hc : c < 10 := (List.getElem?_eq_some_iff.mp hq).1
  rcases (show c = 0 ∨ c = 1 ∨ c = 2 ∨ c = 3 ∨ c = 4 ∨ c = 5 ∨ c = 6 ∨ c = 7 ∨ c = 8 ∨ c = 9 by omega) with rfl | rfl | rfl | rfl | rfl | rfl | rfl | rfl | rfl | rfl
  · cases hq; exact k0
  · cases hq; exact k1
  · cases hq; exact k2
  · cases hq; exact k3
  · cases hq; exact k4
  · cases hq; exact k5
  · cases hq; exact k6
  · cases hq; exact k7
  · cases hq; exact k8
  · cases hq; exact k9
set_option maxRecDepth 100000 in
set_option maxHeartbeats 4000000 in
theorem whole_start {p : Program} {e : Env} {s : State} {m : MethodId} {below : List Frame} {meth : Method} {c : Code} (l : Launch) (hflags : l.flags = flags0) {b L : Nat} {xs : Nat → Int32} (hL : L ≤ 2560) (C0 : lw_At p s m meth c b L xs) : W p l e room_1 s m #[Value.ref b] below meth c s.heap [] 0 0 (lw_Z below #[Value.ref b] s) (entryFrame m ([Value.ref b] : List Value).toArray 4) := by
  obtain ⟨hx, hb, hr, hml, hown, hts0, hX, hbl, hlocks, hgv⟩ := id C0
  have hts : ∀ w ∈ rv_tb, w.before #[Value.ref b] s = true := fun w hw => hts0 w (List.mem_filter.mp hw).1
  have hL2 : rv_Lk s := ⟨⟨va_AO.of (hts0 _ (List.mem_of_getElem? (i := 126) (by decide +kernel))), rv_AOA.of (hts0 _ (List.mem_of_getElem? (i := 162) (by decide +kernel)))⟩, ⟨va_Nw.of rfl (hts0 _ (List.mem_of_getElem? (i := 106) (by decide +kernel))), va_Nw.of rfl (hts0 _ (List.mem_of_getElem? (i := 129) (by decide +kernel))), va_Nw.of rfl (hts0 _ (List.mem_of_getElem? (i := 157) (by decide +kernel))), va_Nw.of rfl (hts0 _ (List.mem_of_getElem? (i := 190) (by decide +kernel)))⟩, va_Nw.of rfl (hts0 _ (List.mem_of_getElem? (i := 196) (by decide +kernel))), va_Nw.of rfl (hts0 _ (List.mem_of_getElem? (i := 206) (by decide +kernel))), va_Nw.of rfl (hts0 _ (List.mem_of_getElem? (i := 230) (by decide +kernel))), va_Nw.of rfl (hts0 _ (List.mem_of_getElem? (i := 247) (by decide +kernel)))⟩
  have hNw : va_Nw rv_nw s := va_Nw.of rfl (hts0 _ (List.mem_of_getElem? (i := 861) (by decide +kernel)))
  obtain ⟨D, hKn⟩ := rv_known hts
  obtain ⟨c0, r0⟩ := rv_ca_of (t := .int) (hts _ (rv_tbm 125 (by decide +kernel) rfl)) (fun C z => by cases z)
  obtain ⟨c1, r1⟩ := rv_ca_of (t := .char) (hts _ (rv_tbm 154 (by decide +kernel) rfl)) (fun C z => by cases z)
  obtain ⟨c2, r2⟩ := rv_ca_of (t := .boolean) (hts _ (rv_tbm 976 (by decide +kernel) rfl)) (fun C z => by cases z)
  obtain ⟨c3, r3⟩ := rv_ca_O hL2.1.1
  obtain ⟨c4, r4⟩ := rv_ca_A hL2.1.2
  obtain ⟨ca, hK⟩ : ∃ ca : Nat → ClassId, va_K D rv_cl (rv_tys ca) s := by
    refine ⟨fun k => if k = 0 then c0 else if k = 1 then c1 else if k = 2 then c2 else if k = 3 then c3 else c4, hKn, fun k q hq => ?_⟩
    have hk : k < 5 := (List.getElem?_eq_some_iff.mp hq).1
    rcases (show k = 0 ∨ k = 1 ∨ k = 2 ∨ k = 3 ∨ k = 4 by omega) with rfl | rfl | rfl | rfl | rfl
    · cases hq; exact r0
    · cases hq; exact r1
    · cases hq; exact r2
    · cases hq; exact r3
    · cases hq; exact r4
  have hA : ∀ q : Nat, s.heap.size ≤ q → (fun q : Nat => s.heap.size ≤ q) q := fun _ h => h
  have hbA : ¬ (fun q : Nat => s.heap.size ≤ q) b := Nat.not_le.mpr hbl
  have hS : va_S (fun q : Nat => s.heap.size ≤ q) s.heap s.heap [] := va_S.rf
  have hP : va_P D rv_cl [] s.heap := fun k q h => by simp at h
  have hD : va_D (fun q : Nat => s.heap.size ≤ q) [] := ⟨fun i j p q h => by simp at h, fun k q h => by simp at h⟩
  have hl := lv_entry ([.ref b]) (n := 4) (Nat.le_of_ble_eq_true rfl)
  rw [lg_entry_eq]
  generalize (lg_sl ([.ref b]) ++ List.replicate (4 - (lg_sl ([.ref b])).length) Slot.unset).toArray = ls at hl ⊢
  have hl : lv_has ls 4 [(0, .ref b)] := hl
  refine rv_newP (own := R_law) (ci := 8) (C := RX10) (T := TX10) (N := 7) (d := [.null, .null, .int 0, .null, .null, .null, .null]) (ty0 := tyX10) (E := [0, 4, 1, 2, 3, 20, 21, 22, 23, 24, 25, 26, 27, 28, 29, 30, 31, 32, 33, 34, 35, 36, 37, 38, 39, 40, 41, 42, 43, 44, 45, 46, 47, 48, 49, 50, 51, 52, 53, 54, 55, 56, 57, 58, 59, 60, 61, 62, 63, 64, 65, 66, 67, 68, 69, 70, 71, 72, 73, 74, 75, 76, 77, 5, 6, 7, 8, 9, 10, 11, 12, 13, 14, 15, 16, 17, 18, 19]) (k := 0) hx hb hml hown hts hK hL2 hP hD hS hA rv_cw8 tyX10_ok (rv_tbm 96 (by decide +kernel) rfl) (rv_tbm 97 (by decide +kernel) rfl) (rv_tbm 82 (by decide +kernel) rfl) rfl (fun j hj => by rcases (show j = 0 ∨ j = 1 ∨ j = 2 ∨ j = 3 ∨ j = 4 ∨ j = 5 ∨ j = 6 by omega) with rfl | rfl | rfl | rfl | rfl | rfl | rfl <;> rfl) i_X10 (rv_tbm 100 (by decide +kernel) rfl) rfl rfl (rv_tbm 99 (by decide +kernel) rfl) (by decide +kernel) (rv_tbm 98 (by decide +kernel) rfl) ⟨Nat.le_of_ble_eq_true rfl, Nat.le_of_ble_eq_true rfl⟩ (Nat.le_of_ble_eq_true rfl) (Nat.le_of_ble_eq_true rfl) dL_law_0 dL_law_3 dL_law_4 hl.1 (Nat.le_of_ble_eq_true rfl) (fun u0 H locs hP hD hS => ?_)
  refine W.widen (k := 78) (n := 738) (by omega) (by omega) ?_
  refine lv_astore_n (lv' := [(1, .ref (u0 0)), (0, .ref b)]) hx hb dL_law_7 rfl hl (by decide) rfl (fun ls hl => ?_)
  refine rv_newP (own := R_law) (ci := 9) (C := RX11) (T := TX11) (N := 27) (d := [.null, .int 0, .null, .int 0, .null, .null, .int 0, .null, .null, .null, .null, .null, .null, .null, .null, .int 0, .null, .int 0, .null, .int 0, .null, .null, .null, .int 0, .int 0, .int 0, .int 0]) (ty0 := tyX11) (E := [78, 79, 80, 81, 82, 83, 84, 85, 86, 87, 88, 89, 90, 91, 92, 93, 94, 95]) (k := 78) hx hb hml hown hts hK hL2 hP hD hS hA rv_cw9 tyX11_ok (rv_tbm 888 (by decide +kernel) rfl) (rv_tbm 889 (by decide +kernel) rfl) (rv_tbm 91 (by decide +kernel) rfl) rfl (fun j hj => by rcases (show j = 0 ∨ j = 1 ∨ j = 2 ∨ j = 3 ∨ j = 4 ∨ j = 5 ∨ j = 6 ∨ j = 7 ∨ j = 8 ∨ j = 9 ∨ j = 10 ∨ j = 11 ∨ j = 12 ∨ j = 13 ∨ j = 14 ∨ j = 15 ∨ j = 16 ∨ j = 17 ∨ j = 18 ∨ j = 19 ∨ j = 20 ∨ j = 21 ∨ j = 22 ∨ j = 23 ∨ j = 24 ∨ j = 25 ∨ j = 26 by omega) with rfl | rfl | rfl | rfl | rfl | rfl | rfl | rfl | rfl | rfl | rfl | rfl | rfl | rfl | rfl | rfl | rfl | rfl | rfl | rfl | rfl | rfl | rfl | rfl | rfl | rfl | rfl <;> rfl) i_X11 (rv_tbm 892 (by decide +kernel) rfl) rfl rfl (rv_tbm 891 (by decide +kernel) rfl) (by decide +kernel) (rv_tbm 890 (by decide +kernel) rfl) ⟨Nat.le_of_ble_eq_true rfl, Nat.le_of_ble_eq_true rfl⟩ (Nat.le_of_ble_eq_true rfl) (Nat.le_of_ble_eq_true rfl) dL_law_8 dL_law_11 dL_law_12 hl.1 (Nat.le_of_ble_eq_true rfl) (fun u1 H locs hP hD hS => ?_)
  refine W.widen (k := 96) (n := 2002) (by omega) (by omega) ?_
  refine lv_astore_n (lv' := [(2, .ref (u1 78)), (1, .ref (u0 0)), (0, .ref b)]) hx hb dL_law_15 rfl hl (by decide) rfl (fun ls hl => ?_)
  refine lv_iconst (v := 0) hx hb dL_law_16 (by decide) ?_
  refine lv_istore_n (lv' := [(3, .int 0), (2, .ref (u1 78)), (1, .ref (u0 0)), (0, .ref b)]) hx hb dL_law_17 rfl hl (by decide) rfl (fun ls hl => ?_)
  obtain ⟨hP, hD⟩ := rv_merge (X := []) (E := [0, 4, 1, 2, 3, 20, 21, 22, 23, 24, 25, 26, 27, 28, 29, 30, 31, 32, 33, 34, 35, 36, 37, 38, 39, 40, 41, 42, 43, 44, 45, 46, 47, 48, 49, 50, 51, 52, 53, 54, 55, 56, 57, 58, 59, 60, 61, 62, 63, 64, 65, 66, 67, 68, 69, 70, 71, 72, 73, 74, 75, 76, 77, 5, 6, 7, 8, 9, 10, 11, 12, 13, 14, 15, 16, 17, 18, 19]) (E2 := [78, 79, 80, 81, 82, 83, 84, 85, 86, 87, 88, 89, 90, 91, 92, 93, 94, 95]) (u := u1) (ad := u0) (by decide +kernel) (by decide +kernel) (by decide +kernel) hP hD
  have e0 : rv_mix [78, 79, 80, 81, 82, 83, 84, 85, 86, 87, 88, 89, 90, 91, 92, 93, 94, 95] u1 u0 0 = u0 0 := rv_mix_out (by decide)
  have e78 : rv_mix [78, 79, 80, 81, 82, 83, 84, 85, 86, 87, 88, 89, 90, 91, 92, 93, 94, 95] u1 u0 78 = u1 78 := rv_mix_in (by decide)
  generalize rv_mix [78, 79, 80, 81, 82, 83, 84, 85, 86, 87, 88, 89, 90, 91, 92, 93, 94, 95] u1 u0 = ad at hP hD e0 e78
  have hE : ∀ k, k < rv_N → k ∈ ([0, 4, 1, 2, 3, 20, 21, 22, 23, 24, 25, 26, 27, 28, 29, 30, 31, 32, 33, 34, 35, 36, 37, 38, 39, 40, 41, 42, 43, 44, 45, 46, 47, 48, 49, 50, 51, 52, 53, 54, 55, 56, 57, 58, 59, 60, 61, 62, 63, 64, 65, 66, 67, 68, 69, 70, 71, 72, 73, 74, 75, 76, 77, 5, 6, 7, 8, 9, 10, 11, 12, 13, 14, 15, 16, 17, 18, 19, 78, 79, 80, 81, 82, 83, 84, 85, 86, 87, 88, 89, 90, 91, 92, 93, 94, 95] : List Nat) := fun k hk => List.contains_iff_mem.mp (List.all_eq_true.mp (by decide +kernel : ((List.range rv_N).all fun k => ([0, 4, 1, 2, 3, 20, 21, 22, 23, 24, 25, 26, 27, 28, 29, 30, 31, 32, 33, 34, 35, 36, 37, 38, 39, 40, 41, 42, 43, 44, 45, 46, 47, 48, 49, 50, 51, 52, 53, 54, 55, 56, 57, 58, 59, 60, 61, 62, 63, 64, 65, 66, 67, 68, 69, 70, 71, 72, 73, 74, 75, 76, 77, 5, 6, 7, 8, 9, 10, 11, 12, 13, 14, 15, 16, 17, 18, 19, 78, 79, 80, 81, 82, 83, 84, 85, 86, 87, 88, 89, 90, 91, 92, 93, 94, 95] : List Nat).contains k) = true) k (rv_rg hk))
  have hP2 : va_P D rv_cl (rv_sl ad ca [0, 4, 1, 2, 3, 20, 21, 22, 23, 24, 25, 26, 27, 28, 29, 30, 31, 32, 33, 34, 35, 36, 37, 38, 39, 40, 41, 42, 43, 44, 45, 46, 47, 48, 49, 50, 51, 52, 53, 54, 55, 56, 57, 58, 59, 60, 61, 62, 63, 64, 65, 66, 67, 68, 69, 70, 71, 72, 73, 74, 75, 76, 77, 5, 6, 7, 8, 9, 10, 11, 12, 13, 14, 15, 16, 17, 18, 19, 78, 79, 80, 81, 82, 83, 84, 85, 86, 87, 88, 89, 90, 91, 92, 93, 94, 95]) H := hP
  have hD2 : va_D (fun q : Nat => s.heap.size ≤ q) (rv_sl ad ca [0, 4, 1, 2, 3, 20, 21, 22, 23, 24, 25, 26, 27, 28, 29, 30, 31, 32, 33, 34, 35, 36, 37, 38, 39, 40, 41, 42, 43, 44, 45, 46, 47, 48, 49, 50, 51, 52, 53, 54, 55, 56, 57, 58, 59, 60, 61, 62, 63, 64, 65, 66, 67, 68, 69, 70, 71, 72, 73, 74, 75, 76, 77, 5, 6, 7, 8, 9, 10, 11, 12, 13, 14, 15, 16, 17, 18, 19, 78, 79, 80, 81, 82, 83, 84, 85, 86, 87, 88, 89, 90, 91, 92, 93, 94, 95]) := hD
  generalize ([0, 4, 1, 2, 3, 20, 21, 22, 23, 24, 25, 26, 27, 28, 29, 30, 31, 32, 33, 34, 35, 36, 37, 38, 39, 40, 41, 42, 43, 44, 45, 46, 47, 48, 49, 50, 51, 52, 53, 54, 55, 56, 57, 58, 59, 60, 61, 62, 63, 64, 65, 66, 67, 68, 69, 70, 71, 72, 73, 74, 75, 76, 77, 5, 6, 7, 8, 9, 10, 11, 12, 13, 14, 15, 16, 17, 18, 19, 78, 79, 80, 81, 82, 83, 84, 85, 86, 87, 88, 89, 90, 91, 92, 93, 94, 95] : List Nat) = EE at hE hP2 hD2
  have hPw : va_P D rv_cl (rv_wl ad ca rt_w0) H := rv_P_mem.mpr (fun q hq => by
    obtain ⟨k, hk, rfl⟩ := List.mem_map.mp hq
    exact rv_P_mem.mp hP2 _ (List.mem_map.mpr ⟨k, hE k (List.mem_range.mp hk), rfl⟩))
  have hat : ∀ k, k < rv_N → ∃ a : Nat, EE[a]? = some k ∧ (rv_sl ad ca EE)[a]? = some (ad k, rv_cell ad ca rt_w0 k) := fun k hk => by
    obtain ⟨a, ha⟩ := List.getElem?_of_mem (hE k hk)
    exact ⟨a, ha, by unfold rv_sl; rw [List.getElem?_map, ha]; rfl⟩
  have hJ : rv_J ad := fun i j hi hj hij => by
    obtain ⟨a1, a2, a3⟩ := hat i hi
    obtain ⟨b1, b2, b3⟩ := hat j hj
    have := hD2.1 a1 b1 _ _ a3 b3 hij
    subst this
    exact Option.some.inj (a2.symm.trans b2)
  have hAd : ∀ k, k < rv_N → (fun q : Nat => s.heap.size ≤ q) (ad k) := fun k hk => by
    obtain ⟨a1, a2, a3⟩ := hat k hk
    exact hD2.2 a1 _ a3
  have hK1 : rl_K D ad ca l b L xs (rv_Ok D ad ca p l e room_1 s m #[Value.ref b] below meth c (fun q : Nat => s.heap.size ≤ q) 96 2002 (lw_Z below #[Value.ref b] s) 4 0 rt_w0) := by
    refine ⟨⟨p, e, room_1, s, m, _, below, meth, c, _, 96, 2002, _, 0, rt_w0, hx, hb, hml, hown, hts, hK, ⟨hJ, hNw⟩, hAd, ⟨Nat.le_refl _, Nat.le_refl _, Nat.le_of_ble_eq_true rfl, Nat.le_of_ble_eq_true rfl⟩, rfl⟩, ?_, ?_⟩
    · intro pc lv st w t i d hin n ht H locs ls hP hS hl
      exact va_sld hx hb hX hbl hbA hS hin d (n ht H locs ls hP hS hl)
    · intro pc lv st w t d n ht H locs ls hP hS hl
      exact va_slen hx hb hX hbl hbA hS d (n ht H locs ls hP hS hl)
  have hend : ∀ (lv : List (Nat × Value)) (w : rv_W), rv_Ok D ad ca p l e room_1 s m #[Value.ref b] below meth c (fun q : Nat => s.heap.size ≤ q) 96 2002 (lw_Z below #[Value.ref b] s) 4 0 rt_w0 1220 lv [] w (some (0, rt_w0)) := by
    intro lv w _ H locs ls hP hS hl
    refine lv_iconst (v := 1) hx hb dL_law_1220 (by decide) ?_
    refine va_forget (fun q hq => hS.2.2 q hq) ?_
    refine W.widen (k := 600000) (n := 7302250) (Nat.le_of_ble_eq_true rfl) (Nat.le_of_ble_eq_true rfl) ?_
    exact lw_ret hx hb hr hlocks dL_law_1221
  exact rl_loop hK1 hJ hL hend L 0 rt_w0 (by omega) (by omega) rv_Inv0 rfl H locs ls hPw hS (by rw [← e0, ← e78] at hl; exact lv_sub hl [3, 2, 1, 0] rfl)
