set_option maxRecDepth 100000 in
set_option maxHeartbeats 8000000 in
theorem i_X7 {l : Launch} {D : va_G} {ca : Nat → ClassId} : rv_In l D ca yX7_init cX7_init 1 2 32 23 132 5 [.null, .null, .null, .null] 53 [53, 54, 55, 56, 57, 58, 59, 60, 61, 62, 63, 64, 65, 66, 67, 68, 69, 70, 71, 72, 73, 74, 75, 76] := by
  refine rv_inmk (by decide +kernel) rfl (Nat.le_of_ble_eq_true rfl) (fun p e s m args below meth c A Q h0 ls hx hb hml hown hts hK hL hin hA hl hP hD hend => ?_)
  have hS : va_S A s.heap s.heap [] := va_S.rf
  have hown : s.vm.findClass RX7 = some m.cls := hown
  refine lv_aload_n hx hb dX7_init_0 rfl (lv_at hl 0 rfl) ?_
  refine W.objInit hx hb hown (hts _ (rv_tbm 138 (by decide +kernel) rfl)) (hts _ (rv_tbm 48 (by decide +kernel) rfl)) (hts _ (rv_tbm 49 (by decide +kernel) rfl)) rfl (by rw [hml]; exact hl.1) rfl dX7_init_1 (Nat.le_of_ble_eq_true rfl) (Nat.le_of_ble_eq_true rfl) ?_
  refine W.eq (g2 := F0 m 4 ls []) rfl ?_
  have hP : va_P D rv_cl ([(h0, .inr (5, [.null, .null, .null, .null]))] ++ rv_sl (fun _ => 0) ca []) s.heap := hP
  have hD : va_D A ([(h0, .inr (5, [.null, .null, .null, .null]))] ++ rv_sl (fun _ => 0) ca []) := hD
  refine lv_aload_n hx hb dX7_init_4 rfl (lv_at hl 0 rfl) ?_
  refine rv_newN (ci := 2) (C := RX4) (T := TX4) (N := 1) (d := [.null]) (ty0 := tyX4) (E := [54, 55]) (k := 54) hx hb hml hown hts hK hL hP hD hS hA rv_cw2 tyX4_ok (rv_tbm 139 (by decide +kernel) rfl) (rv_tbm 140 (by decide +kernel) rfl) (rv_tbm 34 (by decide +kernel) rfl) rfl (fun j hj => by rcases (show j = 0 by omega) with rfl <;> rfl) i_X4 (rv_tbm 143 (by decide +kernel) rfl) rfl rfl (rv_tbm 142 (by decide +kernel) rfl) (by decide +kernel) hL.2.2.1 ⟨Nat.le_of_ble_eq_true rfl, Nat.le_of_ble_eq_true rfl⟩ (Nat.le_of_ble_eq_true rfl) (Nat.le_of_ble_eq_true rfl) dX7_init_5 dX7_init_8 dX7_init_9 hl.1 (Nat.le_of_ble_eq_true rfl) (fun u0 H locs hP hD hS => ?_)
  refine W.widen (k := 2) (n := 6) (by omega) (by omega) ?_
  obtain ⟨hP, hD⟩ := rv_merge (X := [(h0, .inr (5, [.null, .null, .null, .null]))]) (E := []) (E2 := [54, 55]) (u := u0) (by decide +kernel) (by decide +kernel) (by decide +kernel) hP hD
  obtain ⟨a1, ha1⟩ : ∃ z, z = rv_mix [54, 55] u0 (fun _ => 0) := ⟨_, rfl⟩
  rw [← ha1] at hP hD
  have hP : va_P D rv_cl ([(h0, .inr (5, [.null, .null, .null, .null]))] ++ rv_sl a1 ca [54, 55]) H := hP
  have hD : va_D A ([(h0, .inr (5, [.null, .null, .null, .null]))] ++ rv_sl a1 ca [54, 55]) := hD
  refine va_putF (D := D) (ci := 5) (v := .ref (u0 54)) (ty := .object RX4) (C := RX7) (T := TX7) (N := 4) hx hb hts rv_cw5 tyX7 tyX7_ok nmX7 hown hK hP hD hS 0 rfl rfl 0 (by decide) (hts _ (rv_fd_X7_12).2.2.2) (fun _ h9 => h9) rfl hin rfl (by decide +kernel) rfl rfl (Nat.le_of_ble_eq_true rfl) dX7_init_12 (fun H locs hP hD hS => ?_)
  have hP : va_P D rv_cl ([(h0, .inr (5, [.ref (u0 54), .null, .null, .null]))] ++ rv_sl a1 ca [54, 55]) H := hP
  have hD : va_D A ([(h0, .inr (5, [.ref (u0 54), .null, .null, .null]))] ++ rv_sl a1 ca [54, 55]) := hD
  refine lv_aload_n hx hb dX7_init_15 rfl (lv_at hl 0 rfl) ?_
  refine rv_newN (ci := 4) (C := RX6) (T := TX6) (N := 5) (d := [.int 0, .null, .null, .null, .null]) (ty0 := tyX6) (E := [56, 57, 58, 59, 60, 61, 62, 63, 64, 65]) (k := 56) hx hb hml hown hts hK hL hP hD hS hA rv_cw4 tyX6_ok (rv_tbm 149 (by decide +kernel) rfl) (rv_tbm 150 (by decide +kernel) rfl) (rv_tbm 35 (by decide +kernel) rfl) rfl (fun j hj => by rcases (show j = 0 ∨ j = 1 ∨ j = 2 ∨ j = 3 ∨ j = 4 by omega) with rfl | rfl | rfl | rfl | rfl <;> rfl) i_X6 (rv_tbm 153 (by decide +kernel) rfl) rfl rfl (rv_tbm 152 (by decide +kernel) rfl) (by decide +kernel) hL.2.2.2.1 ⟨Nat.le_of_ble_eq_true rfl, Nat.le_of_ble_eq_true rfl⟩ (Nat.le_of_ble_eq_true rfl) (Nat.le_of_ble_eq_true rfl) dX7_init_16 dX7_init_19 dX7_init_20 hl.1 (Nat.le_of_ble_eq_true rfl) (fun u1 H locs hP hD hS => ?_)
  refine W.widen (k := 12) (n := 56) (by omega) (by omega) ?_
  obtain ⟨hP, hD⟩ := rv_merge (X := [(h0, .inr (5, [.ref (u0 54), .null, .null, .null]))]) (E := [54, 55]) (E2 := [56, 57, 58, 59, 60, 61, 62, 63, 64, 65]) (u := u1) (by decide +kernel) (by decide +kernel) (by decide +kernel) hP hD
  obtain ⟨a2, ha2⟩ : ∃ z, z = rv_mix [56, 57, 58, 59, 60, 61, 62, 63, 64, 65] u1 a1 := ⟨_, rfl⟩
  rw [← ha2] at hP hD
  have hP : va_P D rv_cl ([(h0, .inr (5, [.ref (u0 54), .null, .null, .null]))] ++ rv_sl a2 ca [54, 55, 56, 57, 58, 59, 60, 61, 62, 63, 64, 65]) H := hP
  have hD : va_D A ([(h0, .inr (5, [.ref (u0 54), .null, .null, .null]))] ++ rv_sl a2 ca [54, 55, 56, 57, 58, 59, 60, 61, 62, 63, 64, 65]) := hD
  refine va_putF (D := D) (ci := 5) (v := .ref (u1 56)) (ty := .object RX6) (C := RX7) (T := TX7) (N := 4) hx hb hts rv_cw5 tyX7 tyX7_ok nmX7 hown hK hP hD hS 0 rfl rfl 1 (by decide) (hts _ (rv_fd_X7_21).2.2.2) (fun _ h9 => h9) rfl hin rfl (by decide +kernel) rfl rfl (Nat.le_of_ble_eq_true rfl) dX7_init_23 (fun H locs hP hD hS => ?_)
  have hP : va_P D rv_cl ([(h0, .inr (5, [.ref (u0 54), .ref (u1 56), .null, .null]))] ++ rv_sl a2 ca [54, 55, 56, 57, 58, 59, 60, 61, 62, 63, 64, 65]) H := hP
  have hD : va_D A ([(h0, .inr (5, [.ref (u0 54), .ref (u1 56), .null, .null]))] ++ rv_sl a2 ca [54, 55, 56, 57, 58, 59, 60, 61, 62, 63, 64, 65]) := hD
  refine lv_aload_n hx hb dX7_init_26 rfl (lv_at hl 0 rfl) ?_
  refine rv_newN (ci := 0) (C := RX2) (T := TX2) (N := 3) (d := [.null, .null, .null]) (ty0 := tyX2) (E := [66, 67, 68, 69, 70, 71, 72, 73, 74]) (k := 66) hx hb hml hown hts hK hL hP hD hS hA rv_cw0 tyX2_ok (rv_tbm 173 (by decide +kernel) rfl) (rv_tbm 174 (by decide +kernel) rfl) (rv_tbm 36 (by decide +kernel) rfl) rfl (fun j hj => by rcases (show j = 0 ∨ j = 1 ∨ j = 2 by omega) with rfl | rfl | rfl <;> rfl) i_X2 (rv_tbm 177 (by decide +kernel) rfl) rfl rfl (rv_tbm 176 (by decide +kernel) rfl) (by decide +kernel) hL.2.2.2.2.1 ⟨Nat.le_of_ble_eq_true rfl, Nat.le_of_ble_eq_true rfl⟩ (Nat.le_of_ble_eq_true rfl) (Nat.le_of_ble_eq_true rfl) dX7_init_27 dX7_init_30 dX7_init_31 hl.1 (Nat.le_of_ble_eq_true rfl) (fun u2 H locs hP hD hS => ?_)
  refine W.widen (k := 21) (n := 99) (by omega) (by omega) ?_
  obtain ⟨hP, hD⟩ := rv_merge (X := [(h0, .inr (5, [.ref (u0 54), .ref (u1 56), .null, .null]))]) (E := [54, 55, 56, 57, 58, 59, 60, 61, 62, 63, 64, 65]) (E2 := [66, 67, 68, 69, 70, 71, 72, 73, 74]) (u := u2) (by decide +kernel) (by decide +kernel) (by decide +kernel) hP hD
  obtain ⟨a3, ha3⟩ : ∃ z, z = rv_mix [66, 67, 68, 69, 70, 71, 72, 73, 74] u2 a2 := ⟨_, rfl⟩
  rw [← ha3] at hP hD
  have hP : va_P D rv_cl ([(h0, .inr (5, [.ref (u0 54), .ref (u1 56), .null, .null]))] ++ rv_sl a3 ca [54, 55, 56, 57, 58, 59, 60, 61, 62, 63, 64, 65, 66, 67, 68, 69, 70, 71, 72, 73, 74]) H := hP
  have hD : va_D A ([(h0, .inr (5, [.ref (u0 54), .ref (u1 56), .null, .null]))] ++ rv_sl a3 ca [54, 55, 56, 57, 58, 59, 60, 61, 62, 63, 64, 65, 66, 67, 68, 69, 70, 71, 72, 73, 74]) := hD
  refine va_putF (D := D) (ci := 5) (v := .ref (u2 66)) (ty := .object RX2) (C := RX7) (T := TX7) (N := 4) hx hb hts rv_cw5 tyX7 tyX7_ok nmX7 hown hK hP hD hS 0 rfl rfl 2 (by decide) (hts _ (rv_fd_X7_28).2.2.2) (fun _ h9 => h9) rfl hin rfl (by decide +kernel) rfl rfl (Nat.le_of_ble_eq_true rfl) dX7_init_34 (fun H locs hP hD hS => ?_)
  have hP : va_P D rv_cl ([(h0, .inr (5, [.ref (u0 54), .ref (u1 56), .ref (u2 66), .null]))] ++ rv_sl a3 ca [54, 55, 56, 57, 58, 59, 60, 61, 62, 63, 64, 65, 66, 67, 68, 69, 70, 71, 72, 73, 74]) H := hP
  have hD : va_D A ([(h0, .inr (5, [.ref (u0 54), .ref (u1 56), .ref (u2 66), .null]))] ++ rv_sl a3 ca [54, 55, 56, 57, 58, 59, 60, 61, 62, 63, 64, 65, 66, 67, 68, 69, 70, 71, 72, 73, 74]) := hD
  refine lv_aload_n hx hb dX7_init_37 rfl (lv_at hl 0 rfl) ?_
  refine rv_newN (ci := 1) (C := RX3) (T := TX3) (N := 1) (d := [.null]) (ty0 := tyX3) (E := [75, 76]) (k := 75) hx hb hml hown hts hK hL hP hD hS hA rv_cw1 tyX3_ok (rv_tbm 190 (by decide +kernel) rfl) (rv_tbm 191 (by decide +kernel) rfl) (rv_tbm 37 (by decide +kernel) rfl) rfl (fun j hj => by rcases (show j = 0 by omega) with rfl <;> rfl) i_X3 (rv_tbm 194 (by decide +kernel) rfl) rfl rfl (rv_tbm 193 (by decide +kernel) rfl) (by decide +kernel) hL.2.2.2.2.2 ⟨Nat.le_of_ble_eq_true rfl, Nat.le_of_ble_eq_true rfl⟩ (Nat.le_of_ble_eq_true rfl) (Nat.le_of_ble_eq_true rfl) dX7_init_38 dX7_init_41 dX7_init_42 hl.1 (Nat.le_of_ble_eq_true rfl) (fun u3 H locs hP hD hS => ?_)
  refine W.widen (k := 23) (n := 132) (by omega) (by omega) ?_
  obtain ⟨hP, hD⟩ := rv_merge (X := [(h0, .inr (5, [.ref (u0 54), .ref (u1 56), .ref (u2 66), .null]))]) (E := [54, 55, 56, 57, 58, 59, 60, 61, 62, 63, 64, 65, 66, 67, 68, 69, 70, 71, 72, 73, 74]) (E2 := [75, 76]) (u := u3) (by decide +kernel) (by decide +kernel) (by decide +kernel) hP hD
  obtain ⟨a4, ha4⟩ : ∃ z, z = rv_mix [75, 76] u3 a3 := ⟨_, rfl⟩
  rw [← ha4] at hP hD
  have hP : va_P D rv_cl ([(h0, .inr (5, [.ref (u0 54), .ref (u1 56), .ref (u2 66), .null]))] ++ rv_sl a4 ca [54, 55, 56, 57, 58, 59, 60, 61, 62, 63, 64, 65, 66, 67, 68, 69, 70, 71, 72, 73, 74, 75, 76]) H := hP
  have hD : va_D A ([(h0, .inr (5, [.ref (u0 54), .ref (u1 56), .ref (u2 66), .null]))] ++ rv_sl a4 ca [54, 55, 56, 57, 58, 59, 60, 61, 62, 63, 64, 65, 66, 67, 68, 69, 70, 71, 72, 73, 74, 75, 76]) := hD
  refine va_putF (D := D) (ci := 5) (v := .ref (u3 75)) (ty := .object RX3) (C := RX7) (T := TX7) (N := 4) hx hb hts rv_cw5 tyX7 tyX7_ok nmX7 hown hK hP hD hS 0 rfl rfl 3 (by decide) (hts _ (rv_fd_X7_35).2.2.2) (fun _ h9 => h9) rfl hin rfl (by decide +kernel) rfl rfl (Nat.le_of_ble_eq_true rfl) dX7_init_45 (fun H locs hP hD hS => ?_)
  have hP : va_P D rv_cl ([(h0, .inr (5, [.ref (u0 54), .ref (u1 56), .ref (u2 66), .ref (u3 75)]))] ++ rv_sl a4 ca [54, 55, 56, 57, 58, 59, 60, 61, 62, 63, 64, 65, 66, 67, 68, 69, 70, 71, 72, 73, 74, 75, 76]) H := hP
  have hD : va_D A ([(h0, .inr (5, [.ref (u0 54), .ref (u1 56), .ref (u2 66), .ref (u3 75)]))] ++ rv_sl a4 ca [54, 55, 56, 57, 58, 59, 60, 61, 62, 63, 64, 65, 66, 67, 68, 69, 70, 71, 72, 73, 74, 75, 76]) := hD
  have e54 : a4 54 = u0 54 := by rw [ha4, rv_mix_out (by decide), ha3, rv_mix_out (by decide), ha2, rv_mix_out (by decide), ha1, rv_mix_in (by decide)]
  have e56 : a4 56 = u1 56 := by rw [ha4, rv_mix_out (by decide), ha3, rv_mix_out (by decide), ha2, rv_mix_in (by decide)]
  have e66 : a4 66 = u2 66 := by rw [ha4, rv_mix_out (by decide), ha3, rv_mix_in (by decide)]
  have e75 : a4 75 = u3 75 := by rw [ha4, rv_mix_in (by decide)]
  obtain ⟨hP, hD⟩ := rv_head (Y := []) (k := 53) (E := [54, 55, 56, 57, 58, 59, 60, 61, 62, 63, 64, 65, 66, 67, 68, 69, 70, 71, 72, 73, 74, 75, 76]) (by decide +kernel) (by decide) (fun z => by
    have e : rv_cell (rv_one 53 h0 a4) ca rt_w0 53 = .inr (5, [.ref (rv_one 53 h0 a4 54), .ref (rv_one 53 h0 a4 56), .ref (rv_one 53 h0 a4 66), .ref (rv_one 53 h0 a4 75)]) := rfl
    rw [rv_one_eq, e, rv_one_ne (i := 54) (by decide), rv_one_ne (i := 56) (by decide), rv_one_ne (i := 66) (by decide), rv_one_ne (i := 75) (by decide), e54, e56, e66, e75]
    exact z) hP hD
  exact hend 48 H locs ls (rv_one 53 h0 a4) dX7_init_48 hP hD rv_one_eq hS
