def f_X11_areFine (p1 : Int32) (p2 : Int32) (w : rv_W) : rv_R :=
  rv_bd (f_X11_isRule p1 w) (fun (r1 : Int32) (w2 : rv_W) =>
  if r1 = 0 then
  some ((0 : Int32), w2)
  else
  if p2 = 0 then
  some ((0 : Int32), w2)
  else
  some ((1 : Int32), w2))
set_option maxRecDepth 100000 in
set_option maxHeartbeats 4000000 in
theorem fn_X11_areFine {l : Launch} {D : va_G} {ad : Nat → Nat} {ca : Nat → ClassId} (hJ : rv_J ad) (p1 : Int32) (p2 : Int32)  (w : rv_W) : rv_Fn l D ad ca yX11_areFine cX11_areFine 2 (some .boolean) 2 42 [.int p1, .int p2] w (f_X11_areFine p1 p2 w) := by
  refine rv_mk (lv := [(0, .int p1), (1, .int p2)]) hJ (by decide +kernel) (Nat.le_of_ble_eq_true rfl) rfl (fun K h hr => ?_)
  have h : rv_Rl D ad ca l RX11 cX11_areFine 2 2 42 K := h
  unfold f_X11_areFine
  refine rv_iload_n h 0 dX11_areFine_0 0 rfl ?_
  refine rv_callSi h 1 dX11_areFine_1 (fn_X11_isRule hJ p1  w) ce_X11_isRule lk_X11_244 rfl rfl (Nat.le_of_ble_eq_true rfl) ⟨Nat.le_of_ble_eq_true rfl, Nat.le_of_ble_eq_true rfl⟩ (fun r1 w2 => ?_)
  refine rv_if_eq (tgt := 15) h 4 dX11_areFine_4 (by decide) (fun _ => ?_) (fun _ => ?_)
  · refine rv_iconst h 15 dX11_areFine_15 rv_c0 ?_
    exact rv_retz0 hr 16 dX11_areFine_16
  refine rv_iload_n h 7 dX11_areFine_7 1 rfl ?_
  refine rv_if_eq (tgt := 15) h 8 dX11_areFine_8 (by decide) (fun _ => ?_) (fun _ => ?_)
  · refine rv_iconst h 15 dX11_areFine_15 rv_c0 ?_
    exact rv_retz0 hr 16 dX11_areFine_16
  refine rv_iconst h 11 dX11_areFine_11 rv_c1 ?_
  refine rv_goto (tgt := 16) h 12 dX11_areFine_12 (by decide) ?_
  exact rv_retz1 hr 16 dX11_areFine_16
def f_X11_strategy (p1 : Int32) (p2 : Int32) (w : rv_W) : rv_R :=
  rv_bd (f_X11_isGroup p2 w) (fun (r1 : Int32) (w2 : rv_W) =>
  rv_bd (f_X11_areFine p1 r1 w2) (fun (r3 : Int32) (w4 : rv_W) =>
  if r3 = 0 then
  some ((-1000001 : Int32), w4)
  else
  rv_bd (f_X11_strategyOf p1 p2 w4) (fun (r5 : Int32) (w6 : rv_W) =>
  if r5 < 0 then
  some ((-1000000 : Int32), w6)
  else
  some (r5, w6))))
set_option maxRecDepth 100000 in
set_option maxHeartbeats 4000000 in
theorem fn_X11_strategy {l : Launch} {D : va_G} {ad : Nat → Nat} {ca : Nat → ClassId} (hJ : rv_J ad) (p1 : Int32) (p2 : Int32)  (w : rv_W) : rv_Fn l D ad ca yX11_strategy cX11_strategy 4 (some .int) 9 216 [.ref (ad 78), .int p1, .int p2] w (f_X11_strategy p1 p2 w) := by
  refine rv_mk (lv := [(0, .ref (ad 78)), (1, .int p1), (2, .int p2)]) hJ (by decide +kernel) (Nat.le_of_ble_eq_true rfl) rfl (fun K h hr => ?_)
  have h : rv_Rl D ad ca l RX11 cX11_strategy 4 9 216 K := h
  unfold f_X11_strategy
  refine rv_iload_n h 0 dX11_strategy_0 1 rfl ?_
  refine rv_aload_n h 1 dX11_strategy_1 0 rfl ?_
  refine rv_iload_n h 2 dX11_strategy_2 2 rfl ?_
  refine rv_callVi h 3 dX11_strategy_3 (fn_X11_isGroup hJ p2  w) ce_X11_isGroup lk_X11_233 rv_s78 rfl rv_cf9 rfl rfl (Nat.le_of_ble_eq_true rfl) ⟨Nat.le_of_ble_eq_true rfl, Nat.le_of_ble_eq_true rfl⟩ (fun r1 w2 => ?_)
  refine rv_callSi h 6 dX11_strategy_6 (fn_X11_areFine hJ p1 r1  w2) ce_X11_areFine lk_X11_263 rfl rfl (Nat.le_of_ble_eq_true rfl) ⟨Nat.le_of_ble_eq_true rfl, Nat.le_of_ble_eq_true rfl⟩ (fun r3 w4 => ?_)
  refine rv_if_ne (tgt := 15) h 9 dX11_strategy_9 (by decide) (fun _ => ?_) (fun _ => ?_)
  · refine rv_ldc h 12 dX11_strategy_12 rv_kc_X11_236 ?_
    exact rv_reti hr 14 dX11_strategy_14
  refine rv_aload_n h 15 dX11_strategy_15 0 rfl ?_
  refine rv_iload_n h 16 dX11_strategy_16 1 rfl ?_
  refine rv_iload_n h 17 dX11_strategy_17 2 rfl ?_
  refine rv_callVi h 18 dX11_strategy_18 (fn_X11_strategyOf hJ p1 p2  w4) ce_X11_strategyOf lk_X11_267 rv_s78 rfl rv_cf9 rfl rfl (Nat.le_of_ble_eq_true rfl) ⟨Nat.le_of_ble_eq_true rfl, Nat.le_of_ble_eq_true rfl⟩ (fun r5 w6 => ?_)
  refine rv_istore_n (lv' := [(3, .int r5), (0, .ref (ad 78)), (1, .int p1), (2, .int p2)]) h 21 dX11_strategy_21 (by decide) rfl ?_
  refine rv_iload_n h 22 dX11_strategy_22 0 rfl ?_
  refine rv_if_ge (tgt := 31) h 23 dX11_strategy_23 (by decide) (fun _ => ?_) (fun _ => ?_)
  rotate_left
  · refine rv_iload_n h 31 dX11_strategy_31 0 rfl ?_
    exact rv_reti hr 32 dX11_strategy_32
  refine rv_ldc h 26 dX11_strategy_26 rv_kc_X11_250 ?_
  refine rv_goto (tgt := 32) h 28 dX11_strategy_28 (by decide) ?_
  exact rv_reti hr 32 dX11_strategy_32
def f_X11_strategyAt (p1 : Int32) (p2 : Int32) (p3 : Int32) (w : rv_W) : rv_R :=
  rv_bd (f_X11_isGroup p2 w) (fun (r1 : Int32) (w2 : rv_W) =>
  rv_bd (f_X11_areFine p1 r1 w2) (fun (r3 : Int32) (w4 : rv_W) =>
  if r3 = 0 then
  some ((-1000001 : Int32), w4)
  else
  rv_ck (1 : Int32) 852 (
  rv_bd (f_X11_many (w4 79 (1 : Int32).toNatClampNeg) w4) (fun (r5 : Int32) (w6 : rv_W) =>
  rv_bd (f_X11_in p3 (0 : Int32) (r5 - (1 : Int32)) w6) (fun (r7 : Int32) (w8 : rv_W) =>
  if r7 = 0 then
  some ((-1000001 : Int32), w8)
  else
  rv_bd (f_X11_strategyOf p1 p2 w8) (fun (r9 : Int32) (w10 : rv_W) =>
  if r9 < 0 then
  some ((-1000000 : Int32), w10)
  else
  rv_ck p3 5 (
  some ((w10 95 p3.toNatClampNeg), w10))))))))
set_option maxRecDepth 100000 in
set_option maxHeartbeats 4000000 in
theorem fn_X11_strategyAt {l : Launch} {D : va_G} {ad : Nat → Nat} {ca : Nat → ClassId} (hJ : rv_J ad) (p1 : Int32) (p2 : Int32) (p3 : Int32)  (w : rv_W) : rv_Fn l D ad ca yX11_strategyAt cX11_strategyAt 4 (some .int) 9 216 [.ref (ad 78), .int p1, .int p2, .int p3] w (f_X11_strategyAt p1 p2 p3 w) := by
  refine rv_mk (lv := [(0, .ref (ad 78)), (1, .int p1), (2, .int p2), (3, .int p3)]) hJ (by decide +kernel) (Nat.le_of_ble_eq_true rfl) rfl (fun K h hr => ?_)
  have h : rv_Rl D ad ca l RX11 cX11_strategyAt 4 9 216 K := h
  unfold f_X11_strategyAt
  refine rv_iload_n h 0 dX11_strategyAt_0 1 rfl ?_
  refine rv_aload_n h 1 dX11_strategyAt_1 0 rfl ?_
  refine rv_iload_n h 2 dX11_strategyAt_2 2 rfl ?_
  refine rv_callVi h 3 dX11_strategyAt_3 (fn_X11_isGroup hJ p2  w) ce_X11_isGroup lk_X11_233 rv_s78 rfl rv_cf9 rfl rfl (Nat.le_of_ble_eq_true rfl) ⟨Nat.le_of_ble_eq_true rfl, Nat.le_of_ble_eq_true rfl⟩ (fun r1 w2 => ?_)
  refine rv_callSi h 6 dX11_strategyAt_6 (fn_X11_areFine hJ p1 r1  w2) ce_X11_areFine lk_X11_263 rfl rfl (Nat.le_of_ble_eq_true rfl) ⟨Nat.le_of_ble_eq_true rfl, Nat.le_of_ble_eq_true rfl⟩ (fun r3 w4 => ?_)
  refine rv_if_eq (tgt := 31) h 9 dX11_strategyAt_9 (by decide) (fun _ => ?_) (fun _ => ?_)
  · refine rv_ldc h 31 dX11_strategyAt_31 rv_kc_X11_236 ?_
    exact rv_reti hr 33 dX11_strategyAt_33
  refine rv_iload_n h 12 dX11_strategyAt_12 3 rfl ?_
  refine rv_iconst h 13 dX11_strategyAt_13 rv_c0 ?_
  refine rv_aload_n h 14 dX11_strategyAt_14 0 rfl ?_
  refine rv_getr h 15 dX11_strategyAt_15 rv_s78 rv_fd_X11_7 rfl ?_
  refine rv_iconst h 18 dX11_strategyAt_18 rv_c1 ?_
  refine rv_iald h 19 dX11_strategyAt_19 rv_s79 ?_
  refine rv_callSi h 20 dX11_strategyAt_20 (fn_X11_many hJ (w4 79 (1 : Int32).toNatClampNeg)  w4) ce_X11_many lk_X11_105 rfl rfl (Nat.le_of_ble_eq_true rfl) ⟨Nat.le_of_ble_eq_true rfl, Nat.le_of_ble_eq_true rfl⟩ (fun r5 w6 => ?_)
  refine rv_iconst h 23 dX11_strategyAt_23 rv_c1 ?_
  refine rv_isub h 24 dX11_strategyAt_24 ?_
  refine rv_callSi h 25 dX11_strategyAt_25 (fn_X11_in hJ p3 (0 : Int32) (r5 - (1 : Int32))  w6) ce_X11_in lk_X11_70 rfl rfl (Nat.le_of_ble_eq_true rfl) ⟨Nat.le_of_ble_eq_true rfl, Nat.le_of_ble_eq_true rfl⟩ (fun r7 w8 => ?_)
  refine rv_if_ne (tgt := 34) h 28 dX11_strategyAt_28 (by decide) (fun _ => ?_) (fun _ => ?_)
  · refine rv_ldc h 31 dX11_strategyAt_31 rv_kc_X11_236 ?_
    exact rv_reti hr 33 dX11_strategyAt_33
  refine rv_aload_n h 34 dX11_strategyAt_34 0 rfl ?_
  refine rv_iload_n h 35 dX11_strategyAt_35 1 rfl ?_
  refine rv_iload_n h 36 dX11_strategyAt_36 2 rfl ?_
  refine rv_callVi h 37 dX11_strategyAt_37 (fn_X11_strategyOf hJ p1 p2  w8) ce_X11_strategyOf lk_X11_267 rv_s78 rfl rv_cf9 rfl rfl (Nat.le_of_ble_eq_true rfl) ⟨Nat.le_of_ble_eq_true rfl, Nat.le_of_ble_eq_true rfl⟩ (fun r9 w10 => ?_)
  refine rv_if_ge (tgt := 48) h 40 dX11_strategyAt_40 (by decide) (fun _ => ?_) (fun _ => ?_)
  · refine rv_ldc h 43 dX11_strategyAt_43 rv_kc_X11_250 ?_
    refine rv_goto (tgt := 54) h 45 dX11_strategyAt_45 (by decide) ?_
    exact rv_reti hr 54 dX11_strategyAt_54
  refine rv_aload_n h 48 dX11_strategyAt_48 0 rfl ?_
  refine rv_getr h 49 dX11_strategyAt_49 rv_s78 rv_fd_X11_59 rfl ?_
  refine rv_iload_n h 52 dX11_strategyAt_52 3 rfl ?_
  refine rv_iald h 53 dX11_strategyAt_53 rv_s95 ?_
  exact rv_reti hr 54 dX11_strategyAt_54
def f_X11_strategists (p1 : Int32) (w : rv_W) : rv_R :=
  rv_bd (f_X11_isRule p1 w) (fun (r1 : Int32) (w2 : rv_W) =>
  if r1 = 0 then
  some ((-1000001 : Int32), w2)
  else
  rv_fx (fun _ _ _ => none) (fun (ag3 : Int32 → Int32 → rv_W → rv_R) (v5 : Int32) (v6 : Int32) (w7 : rv_W) =>
  rv_ck (0 : Int32) 852 (
  if v6 < (w7 79 (0 : Int32).toNatClampNeg) then
  rv_bd (f_X11_strategyOf p1 v6 w7) (fun (r8 : Int32) (w9 : rv_W) =>
  if r8 < 0 then
  rv_lt ((v5 ||| (0 : Int32))) (fun (v10 : Int32) =>
  rv_lt (v6 + (1 : Int32)) (fun (v11 : Int32) =>
  ag3 v10 v11 w9))
  else
  rv_lt ((v5 ||| ((1 : Int32) <<< (v6 &&& 31)))) (fun (v12 : Int32) =>
  rv_lt (v6 + (1 : Int32)) (fun (v13 : Int32) =>
  ag3 v12 v13 w9)))
  else
  some (v5, w7))) rv_FU (0 : Int32) (0 : Int32) w2)
set_option maxRecDepth 100000 in
set_option maxHeartbeats 4000000 in
theorem fn_X11_strategists {l : Launch} {D : va_G} {ad : Nat → Nat} {ca : Nat → ClassId} (hJ : rv_J ad) (p1 : Int32)  (w : rv_W) : rv_Fn l D ad ca yX11_strategists cX11_strategists 4 (some .int) 9 216 [.ref (ad 78), .int p1] w (f_X11_strategists p1 w) := by
  refine rv_mk (lv := [(0, .ref (ad 78)), (1, .int p1)]) hJ (by decide +kernel) (Nat.le_of_ble_eq_true rfl) rfl (fun K h hr => ?_)
  have h : rv_Rl D ad ca l RX11 cX11_strategists 4 9 216 K := h
  unfold f_X11_strategists
  refine rv_iload_n h 0 dX11_strategists_0 1 rfl ?_
  refine rv_callSi h 1 dX11_strategists_1 (fn_X11_isRule hJ p1  w) ce_X11_isRule lk_X11_244 rfl rfl (Nat.le_of_ble_eq_true rfl) ⟨Nat.le_of_ble_eq_true rfl, Nat.le_of_ble_eq_true rfl⟩ (fun r1 w2 => ?_)
  refine rv_if_ne (tgt := 10) h 4 dX11_strategists_4 (by decide) (fun _ => ?_) (fun _ => ?_)
  · refine rv_ldc h 7 dX11_strategists_7 rv_kc_X11_236 ?_
    exact rv_reti hr 9 dX11_strategists_9
  refine rv_iconst h 10 dX11_strategists_10 rv_c0 ?_
  refine rv_istore_n (lv' := [(2, .int (0 : Int32)), (0, .ref (ad 78)), (1, .int p1)]) h 11 dX11_strategists_11 (by decide) rfl ?_
  refine rv_iconst h 12 dX11_strategists_12 rv_c0 ?_
  refine rv_istore_n (lv' := [(3, .int (0 : Int32)), (2, .int (0 : Int32)), (0, .ref (ad 78)), (1, .int p1)]) h 13 dX11_strategists_13 (by decide) rfl ?_
  refine rv_sub h [2, 3, 1, 0] rfl ?_
  refine rv_fx_ind (fun (a0 : Int32 → Int32 → rv_W → rv_R) => ∀ (v5 : Int32) (v6 : Int32) (w7 : rv_W), K 14 [(0, .ref (ad 78)), (1, .int p1), (2, .int v5), (3, .int v6)] [] w7 (a0 v5 v6 w7)) (fun _ _ _ => rv_none h) (fun ag3 ih4 v5 v6 w7 => ?_) rv_FU (0 : Int32) (0 : Int32) w2
  refine rv_iload_n h 14 dX11_strategists_14 3 rfl ?_
  refine rv_aload_n h 15 dX11_strategists_15 0 rfl ?_
  refine rv_getr h 16 dX11_strategists_16 rv_s78 rv_fd_X11_7 rfl ?_
  refine rv_iconst h 19 dX11_strategists_19 rv_c0 ?_
  refine rv_iald h 20 dX11_strategists_20 rv_s79 ?_
  refine rv_icmp_ge (tgt := 49) h 21 dX11_strategists_21 (by decide) (fun _ => ?_) (fun _ => ?_)
  rotate_left
  · refine rv_iload_n h 49 dX11_strategists_49 2 rfl ?_
    exact rv_reti hr 50 dX11_strategists_50
  refine rv_iload_n h 24 dX11_strategists_24 2 rfl ?_
  refine rv_aload_n h 25 dX11_strategists_25 0 rfl ?_
  refine rv_iload_n h 26 dX11_strategists_26 1 rfl ?_
  refine rv_iload_n h 27 dX11_strategists_27 3 rfl ?_
  refine rv_callVi h 28 dX11_strategists_28 (fn_X11_strategyOf hJ p1 v6  w7) ce_X11_strategyOf lk_X11_267 rv_s78 rfl rv_cf9 rfl rfl (Nat.le_of_ble_eq_true rfl) ⟨Nat.le_of_ble_eq_true rfl, Nat.le_of_ble_eq_true rfl⟩ (fun r8 w9 => ?_)
  refine rv_if_lt (tgt := 40) h 31 dX11_strategists_31 (by decide) (fun _ => ?_) (fun _ => ?_)
  · refine rv_iconst h 40 dX11_strategists_40 rv_c0 ?_
    refine rv_ior h 41 dX11_strategists_41 ?_
    refine rv_top (fun v10 => ?_)
    refine rv_istore_n (lv' := [(2, .int v10), (0, .ref (ad 78)), (1, .int p1), (3, .int v6)]) h 42 dX11_strategists_42 (by decide) rfl ?_
    refine rv_iinc h 43 (fun v11 => [(3, .int v11), (2, .int v10), (0, .ref (ad 78)), (1, .int p1)]) dX11_strategists_43 3 rfl rv_c1 (by decide) (fun _ => rfl) (fun v11 => ?_)
    refine rv_goto (tgt := 14) h 46 dX11_strategists_46 (by decide) ?_
    refine rv_sub h [2, 3, 1, 0] rfl ?_
    exact ih4 v10 v11 w9
  refine rv_iconst h 34 dX11_strategists_34 rv_c1 ?_
  refine rv_iload_n h 35 dX11_strategists_35 3 rfl ?_
  refine rv_ishl h 36 dX11_strategists_36 ?_
  refine rv_goto (tgt := 41) h 37 dX11_strategists_37 (by decide) ?_
  refine rv_ior h 41 dX11_strategists_41 ?_
  refine rv_top (fun v12 => ?_)
  refine rv_istore_n (lv' := [(2, .int v12), (0, .ref (ad 78)), (1, .int p1), (3, .int v6)]) h 42 dX11_strategists_42 (by decide) rfl ?_
  refine rv_iinc h 43 (fun v13 => [(3, .int v13), (2, .int v12), (0, .ref (ad 78)), (1, .int p1)]) dX11_strategists_43 3 rfl rv_c1 (by decide) (fun _ => rfl) (fun v13 => ?_)
  refine rv_goto (tgt := 14) h 46 dX11_strategists_46 (by decide) ?_
  refine rv_sub h [2, 3, 1, 0] rfl ?_
  exact ih4 v12 v13 w9
def f_X11_absentees (p1 : Int32) (w : rv_W) : rv_R :=
  rv_bd (f_X11_isRule p1 w) (fun (r1 : Int32) (w2 : rv_W) =>
  if r1 = 0 then
  some ((-1000001 : Int32), w2)
  else
  rv_bd (f_X11_now p1 w2) (fun (r3 : Int32) (w4 : rv_W) =>
  rv_fx (fun _ _ _ => none) (fun (ag5 : Int32 → Int32 → rv_W → rv_R) (v7 : Int32) (v8 : Int32) (w9 : rv_W) =>
  if v8 < (w9 78 6) then
  if r3 < 0 then
  some (v7, w9)
  else
  rv_ck v8 20 (rv_lt (rv_up w9 81 v8.toNatClampNeg (0 : Int32)) (fun (w10 : rv_W) =>
  rv_ck (1 : Int32) 852 (
  rv_bd (f_X11_wins p1 (w10 79 (1 : Int32).toNatClampNeg) w10) (fun (r11 : Int32) (w12 : rv_W) =>
  rv_bd (f_X11_isBetter v8 r11 r3 w12) (fun (r13 : Int32) (w14 : rv_W) =>
  rv_jn (fun (v15 : Int32) (w16 : rv_W) =>
  rv_lt ((v7 ||| v15)) (fun (v19 : Int32) =>
  rv_bd (f_X11_of v8 (0 : Int32) w16) (fun (r20 : Int32) (w21 : rv_W) =>
  rv_ck v8 20 (rv_lt (rv_up w21 81 v8.toNatClampNeg r20) (fun (w22 : rv_W) =>
  rv_lt (v8 + (1 : Int32)) (fun (v23 : Int32) =>
  ag5 v19 v23 w22)))))) (fun (k17 : Int32 → rv_W → rv_R) =>
  if r13 = 0 then
  k17 (0 : Int32) w14
  else
  k17 ((1 : Int32) <<< (v8 &&& 31)) w14))))))
  else
  some (v7, w9)) rv_FU (0 : Int32) (0 : Int32) w4))
set_option maxRecDepth 100000 in
set_option maxHeartbeats 4000000 in
theorem fn_X11_absentees {l : Launch} {D : va_G} {ad : Nat → Nat} {ca : Nat → ClassId} (hJ : rv_J ad) (p1 : Int32)  (w : rv_W) : rv_Fn l D ad ca yX11_absentees cX11_absentees 6 (some .int) 8 188 [.ref (ad 78), .int p1] w (f_X11_absentees p1 w) := by
  refine rv_mk (lv := [(0, .ref (ad 78)), (1, .int p1)]) hJ (by decide +kernel) (Nat.le_of_ble_eq_true rfl) rfl (fun K h hr => ?_)
  have h : rv_Rl D ad ca l RX11 cX11_absentees 6 8 188 K := h
  unfold f_X11_absentees
  refine rv_iload_n h 0 dX11_absentees_0 1 rfl ?_
  refine rv_callSi h 1 dX11_absentees_1 (fn_X11_isRule hJ p1  w) ce_X11_isRule lk_X11_244 rfl rfl (Nat.le_of_ble_eq_true rfl) ⟨Nat.le_of_ble_eq_true rfl, Nat.le_of_ble_eq_true rfl⟩ (fun r1 w2 => ?_)
  refine rv_if_ne (tgt := 10) h 4 dX11_absentees_4 (by decide) (fun _ => ?_) (fun _ => ?_)
  · refine rv_ldc h 7 dX11_absentees_7 rv_kc_X11_236 ?_
    exact rv_reti hr 9 dX11_absentees_9
  refine rv_aload_n h 10 dX11_absentees_10 0 rfl ?_
  refine rv_iload_n h 11 dX11_absentees_11 1 rfl ?_
  refine rv_callVi h 12 dX11_absentees_12 (fn_X11_now hJ p1  w2) ce_X11_now lk_X11_247 rv_s78 rfl rv_cf9 rfl rfl (Nat.le_of_ble_eq_true rfl) ⟨Nat.le_of_ble_eq_true rfl, Nat.le_of_ble_eq_true rfl⟩ (fun r3 w4 => ?_)
  refine rv_istore_n (lv' := [(2, .int r3), (0, .ref (ad 78)), (1, .int p1)]) h 15 dX11_absentees_15 (by decide) rfl ?_
  refine rv_iconst h 16 dX11_absentees_16 rv_c0 ?_
  refine rv_istore_n (lv' := [(3, .int (0 : Int32)), (2, .int r3), (0, .ref (ad 78)), (1, .int p1)]) h 17 dX11_absentees_17 (by decide) rfl ?_
  refine rv_iconst h 18 dX11_absentees_18 rv_c0 ?_
  refine rv_istore (lv' := [(4, .int (0 : Int32)), (3, .int (0 : Int32)), (2, .int r3), (0, .ref (ad 78)), (1, .int p1)]) h 19 dX11_absentees_19 (by decide) rfl ?_
  refine rv_sub h [3, 4, 2, 1, 0] rfl ?_
  refine rv_fx_ind (fun (a0 : Int32 → Int32 → rv_W → rv_R) => ∀ (v7 : Int32) (v8 : Int32) (w9 : rv_W), K 21 [(0, .ref (ad 78)), (1, .int p1), (2, .int r3), (3, .int v7), (4, .int v8)] [] w9 (a0 v7 v8 w9)) (fun _ _ _ => rv_none h) (fun ag5 ih6 v7 v8 w9 => ?_) rv_FU (0 : Int32) (0 : Int32) w4
  refine rv_iload h 21 dX11_absentees_21 4 rfl ?_
  refine rv_aload_n h 23 dX11_absentees_23 0 rfl ?_
  refine rv_geti h 24 dX11_absentees_24 rv_s78 rv_fd_X11_78 rfl ?_
  refine rv_icmp_ge (tgt := 98) h 27 dX11_absentees_27 (by decide) (fun _ => ?_) (fun _ => ?_)
  rotate_left
  · refine rv_iload_n h 98 dX11_absentees_98 3 rfl ?_
    exact rv_reti hr 99 dX11_absentees_99
  refine rv_iload_n h 30 dX11_absentees_30 2 rfl ?_
  refine rv_if_lt (tgt := 98) h 31 dX11_absentees_31 (by decide) (fun _ => ?_) (fun _ => ?_)
  · refine rv_iload_n h 98 dX11_absentees_98 3 rfl ?_
    exact rv_reti hr 99 dX11_absentees_99
  refine rv_aload_n h 34 dX11_absentees_34 0 rfl ?_
  refine rv_getr h 35 dX11_absentees_35 rv_s78 rv_fd_X11_16 rfl ?_
  refine rv_iload h 38 dX11_absentees_38 4 rfl ?_
  refine rv_iconst h 40 dX11_absentees_40 rv_c0 ?_
  refine rv_iast h 41 dX11_absentees_41 rv_s81 (fun w10 => ?_)
  refine rv_aload_n h 42 dX11_absentees_42 0 rfl ?_
  refine rv_iload_n h 43 dX11_absentees_43 1 rfl ?_
  refine rv_aload_n h 44 dX11_absentees_44 0 rfl ?_
  refine rv_getr h 45 dX11_absentees_45 rv_s78 rv_fd_X11_7 rfl ?_
  refine rv_iconst h 48 dX11_absentees_48 rv_c1 ?_
  refine rv_iald h 49 dX11_absentees_49 rv_s79 ?_
  refine rv_callVi h 50 dX11_absentees_50 (fn_X11_wins hJ p1 (w10 79 (1 : Int32).toNatClampNeg)  w10) ce_X11_wins lk_X11_211 rv_s78 rfl rv_cf9 rfl rfl (Nat.le_of_ble_eq_true rfl) ⟨Nat.le_of_ble_eq_true rfl, Nat.le_of_ble_eq_true rfl⟩ (fun r11 w12 => ?_)
  refine rv_istore (lv' := [(5, .int r11), (0, .ref (ad 78)), (1, .int p1), (2, .int r3), (3, .int v7), (4, .int v8)]) h 53 dX11_absentees_53 (by decide) rfl ?_
  refine rv_iload_n h 55 dX11_absentees_55 4 rfl ?_
  refine rv_aload_n h 56 dX11_absentees_56 1 rfl ?_
  refine rv_iload h 57 dX11_absentees_57 5 rfl ?_
  refine rv_iload h 59 dX11_absentees_59 0 rfl ?_
  refine rv_iload_n h 61 dX11_absentees_61 3 rfl ?_
  refine rv_callVi h 62 dX11_absentees_62 (fn_X11_isBetter hJ v8 r11 r3  w12) ce_X11_isBetter lk_X11_260 rv_s78 rfl rv_cf9 rfl rfl (Nat.le_of_ble_eq_true rfl) ⟨Nat.le_of_ble_eq_true rfl, Nat.le_of_ble_eq_true rfl⟩ (fun r13 w14 => ?_)
  refine rv_join (fun (k0 : Int32 → rv_W → rv_R) => ∀ (v15 : Int32) (w16 : rv_W), K 76 [(0, .ref (ad 78)), (1, .int p1), (2, .int r3), (4, .int v8)] (.int v15 :: .int v7 :: []) w16 (k0 v15 w16)) (fun v15 w16 => ?_) (fun k17 hk18 => ?_)
  · refine rv_ior h 76 dX11_absentees_76 ?_
    refine rv_top (fun v19 => ?_)
    refine rv_istore_n (lv' := [(3, .int v19), (0, .ref (ad 78)), (1, .int p1), (2, .int r3), (4, .int v8)]) h 77 dX11_absentees_77 (by decide) rfl ?_
    refine rv_aload_n h 78 dX11_absentees_78 1 rfl ?_
    refine rv_getr h 79 dX11_absentees_79 rv_s78 rv_fd_X11_16 rfl ?_
    refine rv_iload h 82 dX11_absentees_82 4 rfl ?_
    refine rv_aload_n h 84 dX11_absentees_84 1 rfl ?_
    refine rv_iload h 85 dX11_absentees_85 4 rfl ?_
    refine rv_iconst h 87 dX11_absentees_87 rv_c0 ?_
    refine rv_callVi h 88 dX11_absentees_88 (fn_X11_of hJ v8 (0 : Int32)  w16) ce_X11_of lk_X11_81 rv_s78 rfl rv_cf9 rfl rfl (Nat.le_of_ble_eq_true rfl) ⟨Nat.le_of_ble_eq_true rfl, Nat.le_of_ble_eq_true rfl⟩ (fun r20 w21 => ?_)
    refine rv_iast h 91 dX11_absentees_91 rv_s81 (fun w22 => ?_)
    refine rv_iinc h 92 (fun v23 => [(4, .int v23), (3, .int v19), (0, .ref (ad 78)), (1, .int p1), (2, .int r3)]) dX11_absentees_92 4 rfl rv_c1 (by decide) (fun _ => rfl) (fun v23 => ?_)
    refine rv_goto (tgt := 21) h 95 dX11_absentees_95 (by decide) ?_
    refine rv_sub h [2, 3, 4, 1, 0] rfl ?_
    exact ih6 v19 v23 w22
  refine rv_if_eq (tgt := 75) h 65 dX11_absentees_65 (by decide) (fun _ => ?_) (fun _ => ?_)
  · refine rv_iconst h 75 dX11_absentees_75 rv_c0 ?_
    refine rv_sub h [1, 2, 3, 5] rfl ?_
    exact hk18 (0 : Int32) w14
  refine rv_iconst h 68 dX11_absentees_68 rv_c1 ?_
  refine rv_iload h 69 dX11_absentees_69 5 rfl ?_
  refine rv_ishl h 71 dX11_absentees_71 ?_
  refine rv_goto (tgt := 76) h 72 dX11_absentees_72 (by decide) ?_
  refine rv_sub h [1, 2, 3, 5] rfl ?_
  exact hk18 ((1 : Int32) <<< (v8 &&& 31)) w14
def f_X11_directlyAbove (p1 : Int32) (p2 : Int32) (w : rv_W) : rv_R :=
  rv_fx (fun _ _ _ => none) (fun (ag1 : Int32 → Int32 → rv_W → rv_R) (v3 : Int32) (v4 : Int32) (w5 : rv_W) =>
  if v4 < (5 : Int32) then
  rv_ck (1 : Int32) 852 (
  rv_bd (f_X11_has (w5 79 (1 : Int32).toNatClampNeg) v4 w5) (fun (r6 : Int32) (w7 : rv_W) =>
  rv_jn (fun (v8 : Int32) (w9 : rv_W) =>
  if v8 = 0 then
  rv_lt (v4 + (1 : Int32)) (fun (v12 : Int32) =>
  ag1 v3 v12 w9)
  else
  rv_jn (fun  (w13 : rv_W) =>
  rv_lt (v4 + (1 : Int32)) (fun (v16 : Int32) =>
  ag1 v4 v16 w13)) (fun (k14 : rv_W → rv_R) =>
  if v3 < 0 then
  k14 w9
  else
  rv_bd (f_X11_isAbove p1 v3 v4 w9) (fun (r17 : Int32) (w18 : rv_W) =>
  if r17 = 0 then
  rv_lt (v4 + (1 : Int32)) (fun (v19 : Int32) =>
  ag1 v3 v19 w18)
  else
  k14 w18))) (fun (k10 : Int32 → rv_W → rv_R) =>
  rv_jn (fun  (w20 : rv_W) =>
  k10 (0 : Int32) w20) (fun (k21 : rv_W → rv_R) =>
  if r6 = 0 then
  k21 w7
  else
  rv_bd (f_X11_isOn p1 p2 w7) (fun (r23 : Int32) (w24 : rv_W) =>
  if r23 = 0 then
  k21 w24
  else
  rv_bd (f_X11_isAbove p1 v4 p2 w24) (fun (r25 : Int32) (w26 : rv_W) =>
  if r25 = 0 then
  k21 w26
  else
  k10 (1 : Int32) w26))))))
  else
  some (v3, w5)) rv_FU (-1 : Int32) (0 : Int32) w
set_option maxRecDepth 100000 in
set_option maxHeartbeats 4000000 in
theorem fn_X11_directlyAbove {l : Launch} {D : va_G} {ad : Nat → Nat} {ca : Nat → ClassId} (hJ : rv_J ad) (p1 : Int32) (p2 : Int32)  (w : rv_W) : rv_Fn l D ad ca yX11_directlyAbove cX11_directlyAbove 6 (some .int) 1 23 [.ref (ad 78), .int p1, .int p2] w (f_X11_directlyAbove p1 p2 w) := by
  refine rv_mk (lv := [(0, .ref (ad 78)), (1, .int p1), (2, .int p2)]) hJ (by decide +kernel) (Nat.le_of_ble_eq_true rfl) rfl (fun K h hr => ?_)
  have h : rv_Rl D ad ca l RX11 cX11_directlyAbove 6 1 23 K := h
  unfold f_X11_directlyAbove
  refine rv_iconst h 0 dX11_directlyAbove_0 rv_cm1 ?_
  refine rv_istore_n (lv' := [(3, .int (-1 : Int32)), (0, .ref (ad 78)), (1, .int p1), (2, .int p2)]) h 1 dX11_directlyAbove_1 (by decide) rfl ?_
  refine rv_iconst h 2 dX11_directlyAbove_2 rv_c0 ?_
  refine rv_istore (lv' := [(4, .int (0 : Int32)), (3, .int (-1 : Int32)), (0, .ref (ad 78)), (1, .int p1), (2, .int p2)]) h 3 dX11_directlyAbove_3 (by decide) rfl ?_
  refine rv_sub h [2, 3, 4, 1, 0] rfl ?_
  refine rv_fx_ind (fun (a0 : Int32 → Int32 → rv_W → rv_R) => ∀ (v3 : Int32) (v4 : Int32) (w5 : rv_W), K 5 [(0, .ref (ad 78)), (1, .int p1), (2, .int p2), (3, .int v3), (4, .int v4)] [] w5 (a0 v3 v4 w5)) (fun _ _ _ => rv_none h) (fun ag1 ih2 v3 v4 w5 => ?_) rv_FU (-1 : Int32) (0 : Int32) w
  refine rv_iload h 5 dX11_directlyAbove_5 4 rfl ?_
  refine rv_iconst h 7 dX11_directlyAbove_7 rv_c5 ?_
  refine rv_icmp_ge (tgt := 85) h 8 dX11_directlyAbove_8 (by decide) (fun _ => ?_) (fun _ => ?_)
  rotate_left
  · refine rv_iload_n h 85 dX11_directlyAbove_85 3 rfl ?_
    exact rv_reti hr 86 dX11_directlyAbove_86
  refine rv_aload_n h 11 dX11_directlyAbove_11 0 rfl ?_
  refine rv_getr h 12 dX11_directlyAbove_12 rv_s78 rv_fd_X11_7 rfl ?_
  refine rv_iconst h 15 dX11_directlyAbove_15 rv_c1 ?_
  refine rv_iald h 16 dX11_directlyAbove_16 rv_s79 ?_
  refine rv_iload h 17 dX11_directlyAbove_17 4 rfl ?_
  refine rv_callSi h 19 dX11_directlyAbove_19 (fn_X11_has hJ (w5 79 (1 : Int32).toNatClampNeg) v4  w5) ce_X11_has lk_X11_74 rfl rfl (Nat.le_of_ble_eq_true rfl) ⟨Nat.le_of_ble_eq_true rfl, Nat.le_of_ble_eq_true rfl⟩ (fun r6 w7 => ?_)
  refine rv_join (fun (k0 : Int32 → rv_W → rv_R) => ∀ (v8 : Int32) (w9 : rv_W), K 50 [(0, .ref (ad 78)), (1, .int p1), (2, .int p2), (3, .int v3), (4, .int v4)] (.int v8 :: []) w9 (k0 v8 w9)) (fun v8 w9 => ?_) (fun k10 hk11 => ?_)
  · refine rv_istore (lv' := [(5, .int v8), (0, .ref (ad 78)), (1, .int p1), (2, .int p2), (3, .int v3), (4, .int v4)]) h 50 dX11_directlyAbove_50 (by decide) rfl ?_
    refine rv_iload h 52 dX11_directlyAbove_52 0 rfl ?_
    refine rv_if_eq (tgt := 77) h 54 dX11_directlyAbove_54 (by decide) (fun _ => ?_) (fun _ => ?_)
    · refine rv_iload_n h 77 dX11_directlyAbove_77 4 rfl ?_
      refine rv_istore_n (lv' := [(3, .int v3), (5, .int v8), (0, .ref (ad 78)), (1, .int p1), (2, .int p2), (4, .int v4)]) h 78 dX11_directlyAbove_78 (by decide) rfl ?_
      refine rv_iinc h 79 (fun v12 => [(4, .int v12), (3, .int v3), (5, .int v8), (0, .ref (ad 78)), (1, .int p1), (2, .int p2)]) dX11_directlyAbove_79 5 rfl rv_c1 (by decide) (fun _ => rfl) (fun v12 => ?_)
      refine rv_goto (tgt := 5) h 82 dX11_directlyAbove_82 (by decide) ?_
      refine rv_sub h [3, 4, 5, 1, 0] rfl ?_
      exact ih2 v3 v12 w9
    refine rv_iload_n h 57 dX11_directlyAbove_57 4 rfl ?_
    refine rv_join (fun (k0 : rv_W → rv_R) => ∀  (w13 : rv_W), K 72 [(0, .ref (ad 78)), (1, .int p1), (2, .int p2), (4, .int v4)] ([]) w13 (k0 w13)) (fun w13 => ?_) (fun k14 hk15 => ?_)
    · refine rv_iload h 72 dX11_directlyAbove_72 3 rfl ?_
      refine rv_goto (tgt := 78) h 74 dX11_directlyAbove_74 (by decide) ?_
      refine rv_istore_n (lv' := [(3, .int v4), (0, .ref (ad 78)), (1, .int p1), (2, .int p2), (4, .int v4)]) h 78 dX11_directlyAbove_78 (by decide) rfl ?_
      refine rv_iinc h 79 (fun v16 => [(4, .int v16), (3, .int v4), (0, .ref (ad 78)), (1, .int p1), (2, .int p2)]) dX11_directlyAbove_79 4 rfl rv_c1 (by decide) (fun _ => rfl) (fun v16 => ?_)
      refine rv_goto (tgt := 5) h 82 dX11_directlyAbove_82 (by decide) ?_
      refine rv_sub h [2, 3, 4, 1, 0] rfl ?_
      exact ih2 v4 v16 w13
    refine rv_if_lt (tgt := 72) h 58 dX11_directlyAbove_58 (by decide) (fun _ => ?_) (fun _ => ?_)
    · refine rv_sub h [1, 2, 3, 5] rfl ?_
      exact hk15 w9
    refine rv_aload_n h 61 dX11_directlyAbove_61 1 rfl ?_
    refine rv_iload_n h 62 dX11_directlyAbove_62 2 rfl ?_
    refine rv_iload_n h 63 dX11_directlyAbove_63 4 rfl ?_
    refine rv_iload h 64 dX11_directlyAbove_64 5 rfl ?_
    refine rv_callVi h 66 dX11_directlyAbove_66 (fn_X11_isAbove hJ p1 v3 v4  w9) ce_X11_isAbove lk_X11_89 rv_s78 rfl rv_cf9 rfl rfl (Nat.le_of_ble_eq_true rfl) ⟨Nat.le_of_ble_eq_true rfl, Nat.le_of_ble_eq_true rfl⟩ (fun r17 w18 => ?_)
    refine rv_if_eq (tgt := 77) h 69 dX11_directlyAbove_69 (by decide) (fun _ => ?_) (fun _ => ?_)
    rotate_left
    · refine rv_sub h [1, 2, 3, 5] rfl ?_
      exact hk15 w18
    refine rv_iload_n h 77 dX11_directlyAbove_77 4 rfl ?_
    refine rv_istore_n (lv' := [(3, .int v3), (5, .int v8), (0, .ref (ad 78)), (1, .int p1), (2, .int p2), (4, .int v4)]) h 78 dX11_directlyAbove_78 (by decide) rfl ?_
    refine rv_iinc h 79 (fun v19 => [(4, .int v19), (3, .int v3), (5, .int v8), (0, .ref (ad 78)), (1, .int p1), (2, .int p2)]) dX11_directlyAbove_79 5 rfl rv_c1 (by decide) (fun _ => rfl) (fun v19 => ?_)
    refine rv_goto (tgt := 5) h 82 dX11_directlyAbove_82 (by decide) ?_
    refine rv_sub h [3, 4, 5, 1, 0] rfl ?_
    exact ih2 v3 v19 w18
  refine rv_join (fun (k0 : rv_W → rv_R) => ∀  (w20 : rv_W), K 49 [(0, .ref (ad 78)), (1, .int p1), (2, .int p2), (3, .int v3), (4, .int v4)] ([]) w20 (k0 w20)) (fun w20 => ?_) (fun k21 hk22 => ?_)
  · refine rv_iconst h 49 dX11_directlyAbove_49 rv_c0 ?_
    refine rv_sub h [0, 1, 2, 3, 4] rfl ?_
    exact hk11 (0 : Int32) w20
  refine rv_if_eq (tgt := 49) h 22 dX11_directlyAbove_22 (by decide) (fun _ => ?_) (fun _ => ?_)
  · refine rv_sub h [0, 1, 2, 3, 4] rfl ?_
    exact hk22 w7
  refine rv_aload_n h 25 dX11_directlyAbove_25 0 rfl ?_
  refine rv_iload_n h 26 dX11_directlyAbove_26 1 rfl ?_
  refine rv_iload_n h 27 dX11_directlyAbove_27 2 rfl ?_
  refine rv_callVi h 28 dX11_directlyAbove_28 (fn_X11_isOn hJ p1 p2  w7) ce_X11_isOn lk_X11_98 rv_s78 rfl rv_cf9 rfl rfl (Nat.le_of_ble_eq_true rfl) ⟨Nat.le_of_ble_eq_true rfl, Nat.le_of_ble_eq_true rfl⟩ (fun r23 w24 => ?_)
  refine rv_if_eq (tgt := 49) h 31 dX11_directlyAbove_31 (by decide) (fun _ => ?_) (fun _ => ?_)
  · refine rv_sub h [0, 1, 2, 3, 4] rfl ?_
    exact hk22 w24
  refine rv_aload_n h 34 dX11_directlyAbove_34 0 rfl ?_
  refine rv_iload_n h 35 dX11_directlyAbove_35 1 rfl ?_
  refine rv_iload h 36 dX11_directlyAbove_36 4 rfl ?_
  refine rv_iload_n h 38 dX11_directlyAbove_38 2 rfl ?_
  refine rv_callVi h 39 dX11_directlyAbove_39 (fn_X11_isAbove hJ p1 v4 p2  w24) ce_X11_isAbove lk_X11_89 rv_s78 rfl rv_cf9 rfl rfl (Nat.le_of_ble_eq_true rfl) ⟨Nat.le_of_ble_eq_true rfl, Nat.le_of_ble_eq_true rfl⟩ (fun r25 w26 => ?_)
  refine rv_if_eq (tgt := 49) h 42 dX11_directlyAbove_42 (by decide) (fun _ => ?_) (fun _ => ?_)
  · refine rv_sub h [0, 1, 2, 3, 4] rfl ?_
    exact hk22 w26
  refine rv_iconst h 45 dX11_directlyAbove_45 rv_c1 ?_
  refine rv_goto (tgt := 50) h 46 dX11_directlyAbove_46 (by decide) ?_
  refine rv_sub h [0, 1, 2, 3, 4] rfl ?_
  exact hk11 (1 : Int32) w26
def f_X11_raisers (p1 : Int32) (w : rv_W) : rv_R :=
  rv_bd (f_X11_isRule p1 w) (fun (r1 : Int32) (w2 : rv_W) =>
  if r1 = 0 then
  some ((-1000001 : Int32), w2)
  else
  rv_bd (f_X11_now p1 w2) (fun (r3 : Int32) (w4 : rv_W) =>
  rv_fx (fun _ _ _ => none) (fun (ag5 : Int32 → Int32 → rv_W → rv_R) (v7 : Int32) (v8 : Int32) (w9 : rv_W) =>
  if v8 < (w9 78 6) then
  if r3 < 0 then
  some (v7, w9)
  else
  rv_bd (f_X11_directlyAbove v8 r3 w9) (fun (r10 : Int32) (w11 : rv_W) =>
  if r10 < 0 then
  rv_lt (v8 + (1 : Int32)) (fun (v12 : Int32) =>
  ag5 v7 v12 w11)
  else
  rv_ck (((5 : Int32) * v8) + r3) 100 (
  rv_ck (((5 : Int32) * v8) + r10) 100 (
  rv_ck (((5 : Int32) * v8) + r3) 100 (rv_lt (rv_up w11 82 (((5 : Int32) * v8) + r3).toNatClampNeg (w11 82 (((5 : Int32) * v8) + r10).toNatClampNeg)) (fun (w13 : rv_W) =>
  rv_ck (((5 : Int32) * v8) + r10) 100 (rv_lt (rv_up w13 82 (((5 : Int32) * v8) + r10).toNatClampNeg (w11 82 (((5 : Int32) * v8) + r3).toNatClampNeg)) (fun (w14 : rv_W) =>
  rv_ck (1 : Int32) 852 (
  rv_bd (f_X11_wins p1 (w14 79 (1 : Int32).toNatClampNeg) w14) (fun (r15 : Int32) (w16 : rv_W) =>
  rv_jn (fun (v17 : Int32) (w18 : rv_W) =>
  rv_lt ((v7 ||| v17)) (fun (v21 : Int32) =>
  rv_bd (f_X11_loadsBallot v8 w18) (fun (r22 : Int32) (w23 : rv_W) =>
  rv_lt (v8 + (1 : Int32)) (fun (v24 : Int32) =>
  ag5 v21 v24 w23)))) (fun (k19 : Int32 → rv_W → rv_R) =>
  if r15 = r3 then
  k19 (0 : Int32) w16
  else
  k19 ((1 : Int32) <<< (v8 &&& 31)) w16))))))))))
  else
  some (v7, w9)) rv_FU (0 : Int32) (0 : Int32) w4))
set_option maxRecDepth 100000 in
set_option maxHeartbeats 4000000 in
theorem fn_X11_raisers {l : Launch} {D : va_G} {ad : Nat → Nat} {ca : Nat → ClassId} (hJ : rv_J ad) (p1 : Int32)  (w : rv_W) : rv_Fn l D ad ca yX11_raisers cX11_raisers 7 (some .int) 8 188 [.ref (ad 78), .int p1] w (f_X11_raisers p1 w) := by
  refine rv_mk (lv := [(0, .ref (ad 78)), (1, .int p1)]) hJ (by decide +kernel) (Nat.le_of_ble_eq_true rfl) rfl (fun K h hr => ?_)
  have h : rv_Rl D ad ca l RX11 cX11_raisers 7 8 188 K := h
  unfold f_X11_raisers
  refine rv_iload_n h 0 dX11_raisers_0 1 rfl ?_
  refine rv_callSi h 1 dX11_raisers_1 (fn_X11_isRule hJ p1  w) ce_X11_isRule lk_X11_244 rfl rfl (Nat.le_of_ble_eq_true rfl) ⟨Nat.le_of_ble_eq_true rfl, Nat.le_of_ble_eq_true rfl⟩ (fun r1 w2 => ?_)
  refine rv_if_ne (tgt := 10) h 4 dX11_raisers_4 (by decide) (fun _ => ?_) (fun _ => ?_)
  · refine rv_ldc h 7 dX11_raisers_7 rv_kc_X11_236 ?_
    exact rv_reti hr 9 dX11_raisers_9
  refine rv_aload_n h 10 dX11_raisers_10 0 rfl ?_
  refine rv_iload_n h 11 dX11_raisers_11 1 rfl ?_
  refine rv_callVi h 12 dX11_raisers_12 (fn_X11_now hJ p1  w2) ce_X11_now lk_X11_247 rv_s78 rfl rv_cf9 rfl rfl (Nat.le_of_ble_eq_true rfl) ⟨Nat.le_of_ble_eq_true rfl, Nat.le_of_ble_eq_true rfl⟩ (fun r3 w4 => ?_)
  refine rv_istore_n (lv' := [(2, .int r3), (0, .ref (ad 78)), (1, .int p1)]) h 15 dX11_raisers_15 (by decide) rfl ?_
  refine rv_iconst h 16 dX11_raisers_16 rv_c0 ?_
  refine rv_istore_n (lv' := [(3, .int (0 : Int32)), (2, .int r3), (0, .ref (ad 78)), (1, .int p1)]) h 17 dX11_raisers_17 (by decide) rfl ?_
  refine rv_iconst h 18 dX11_raisers_18 rv_c0 ?_
  refine rv_istore (lv' := [(4, .int (0 : Int32)), (3, .int (0 : Int32)), (2, .int r3), (0, .ref (ad 78)), (1, .int p1)]) h 19 dX11_raisers_19 (by decide) rfl ?_
  refine rv_sub h [3, 4, 2, 1, 0] rfl ?_
  refine rv_fx_ind (fun (a0 : Int32 → Int32 → rv_W → rv_R) => ∀ (v7 : Int32) (v8 : Int32) (w9 : rv_W), K 21 [(0, .ref (ad 78)), (1, .int p1), (2, .int r3), (3, .int v7), (4, .int v8)] [] w9 (a0 v7 v8 w9)) (fun _ _ _ => rv_none h) (fun ag5 ih6 v7 v8 w9 => ?_) rv_FU (0 : Int32) (0 : Int32) w4
  refine rv_iload h 21 dX11_raisers_21 4 rfl ?_
  refine rv_aload_n h 23 dX11_raisers_23 0 rfl ?_
  refine rv_geti h 24 dX11_raisers_24 rv_s78 rv_fd_X11_78 rfl ?_
  refine rv_icmp_ge (tgt := 136) h 27 dX11_raisers_27 (by decide) (fun _ => ?_) (fun _ => ?_)
  rotate_left
  · refine rv_iload_n h 136 dX11_raisers_136 3 rfl ?_
    exact rv_reti hr 137 dX11_raisers_137
  refine rv_iload_n h 30 dX11_raisers_30 2 rfl ?_
  refine rv_if_lt (tgt := 136) h 31 dX11_raisers_31 (by decide) (fun _ => ?_) (fun _ => ?_)
  · refine rv_iload_n h 136 dX11_raisers_136 3 rfl ?_
    exact rv_reti hr 137 dX11_raisers_137
  refine rv_aload_n h 34 dX11_raisers_34 0 rfl ?_
  refine rv_iload h 35 dX11_raisers_35 4 rfl ?_
  refine rv_iload_n h 37 dX11_raisers_37 2 rfl ?_
  refine rv_callVi h 38 dX11_raisers_38 (fn_X11_directlyAbove hJ v8 r3  w9) ce_X11_directlyAbove lk_X11_270 rv_s78 rfl rv_cf9 rfl rfl (Nat.le_of_ble_eq_true rfl) ⟨Nat.le_of_ble_eq_true rfl, Nat.le_of_ble_eq_true rfl⟩ (fun r10 w11 => ?_)
  refine rv_istore (lv' := [(5, .int r10), (0, .ref (ad 78)), (1, .int p1), (2, .int r3), (3, .int v7), (4, .int v8)]) h 41 dX11_raisers_41 (by decide) rfl ?_
  refine rv_iload h 43 dX11_raisers_43 0 rfl ?_
  refine rv_if_lt (tgt := 130) h 45 dX11_raisers_45 (by decide) (fun _ => ?_) (fun _ => ?_)
  · refine rv_iinc h 130 (fun v12 => [(4, .int v12), (5, .int r10), (0, .ref (ad 78)), (1, .int p1), (2, .int r3), (3, .int v7)]) dX11_raisers_130 5 rfl rv_c1 (by decide) (fun _ => rfl) (fun v12 => ?_)
    refine rv_goto (tgt := 21) h 133 dX11_raisers_133 (by decide) ?_
    refine rv_sub h [2, 3, 4, 5, 0] rfl ?_
    exact ih6 v7 v12 w11
  refine rv_aload_n h 48 dX11_raisers_48 1 rfl ?_
  refine rv_getr h 49 dX11_raisers_49 rv_s78 rv_fd_X11_19 rfl ?_
  refine rv_iconst h 52 dX11_raisers_52 rv_c5 ?_
  refine rv_iload h 53 dX11_raisers_53 5 rfl ?_
  refine rv_imul h 55 dX11_raisers_55 ?_
  refine rv_iload_n h 56 dX11_raisers_56 3 rfl ?_
  refine rv_iadd h 57 dX11_raisers_57 ?_
  refine rv_iald h 58 dX11_raisers_58 rv_s82 ?_
  refine rv_istore (lv' := [(6, .int (w11 82 (((5 : Int32) * v8) + r3).toNatClampNeg)), (5, .int r10), (0, .ref (ad 78)), (1, .int p1), (2, .int r3), (3, .int v7), (4, .int v8)]) h 59 dX11_raisers_59 (by decide) rfl ?_
  refine rv_aload_n h 61 dX11_raisers_61 2 rfl ?_
  refine rv_getr h 62 dX11_raisers_62 rv_s78 rv_fd_X11_19 rfl ?_
  refine rv_iconst h 65 dX11_raisers_65 rv_c5 ?_
  refine rv_iload h 66 dX11_raisers_66 6 rfl ?_
  refine rv_imul h 68 dX11_raisers_68 ?_
  refine rv_iload_n h 69 dX11_raisers_69 4 rfl ?_
  refine rv_iadd h 70 dX11_raisers_70 ?_
  refine rv_aload_n h 71 dX11_raisers_71 2 rfl ?_
  refine rv_getr h 72 dX11_raisers_72 rv_s78 rv_fd_X11_19 rfl ?_
  refine rv_iconst h 75 dX11_raisers_75 rv_c5 ?_
  refine rv_iload h 76 dX11_raisers_76 6 rfl ?_
  refine rv_imul h 78 dX11_raisers_78 ?_
  refine rv_iload h 79 dX11_raisers_79 1 rfl ?_
  refine rv_iadd h 81 dX11_raisers_81 ?_
  refine rv_iald h 82 dX11_raisers_82 rv_s82 ?_
  refine rv_iast h 83 dX11_raisers_83 rv_s82 (fun w13 => ?_)
  refine rv_aload_n h 84 dX11_raisers_84 2 rfl ?_
  refine rv_getr h 85 dX11_raisers_85 rv_s78 rv_fd_X11_19 rfl ?_
  refine rv_iconst h 88 dX11_raisers_88 rv_c5 ?_
  refine rv_iload h 89 dX11_raisers_89 6 rfl ?_
  refine rv_imul h 91 dX11_raisers_91 ?_
  refine rv_iload h 92 dX11_raisers_92 1 rfl ?_
  refine rv_iadd h 94 dX11_raisers_94 ?_
  refine rv_iload h 95 dX11_raisers_95 0 rfl ?_
  refine rv_iast h 97 dX11_raisers_97 rv_s82 (fun w14 => ?_)
  refine rv_iload_n h 98 dX11_raisers_98 5 rfl ?_
  refine rv_aload_n h 99 dX11_raisers_99 2 rfl ?_
  refine rv_iload_n h 100 dX11_raisers_100 3 rfl ?_
  refine rv_aload_n h 101 dX11_raisers_101 2 rfl ?_
  refine rv_getr h 102 dX11_raisers_102 rv_s78 rv_fd_X11_7 rfl ?_
  refine rv_iconst h 105 dX11_raisers_105 rv_c1 ?_
  refine rv_iald h 106 dX11_raisers_106 rv_s79 ?_
  refine rv_callVi h 107 dX11_raisers_107 (fn_X11_wins hJ p1 (w14 79 (1 : Int32).toNatClampNeg)  w14) ce_X11_wins lk_X11_211 rv_s78 rfl rv_cf9 rfl rfl (Nat.le_of_ble_eq_true rfl) ⟨Nat.le_of_ble_eq_true rfl, Nat.le_of_ble_eq_true rfl⟩ (fun r15 w16 => ?_)
  refine rv_iload_n h 110 dX11_raisers_110 4 rfl ?_
  refine rv_join (fun (k0 : Int32 → rv_W → rv_R) => ∀ (v17 : Int32) (w18 : rv_W), K 122 [(0, .ref (ad 78)), (1, .int p1), (2, .int r3), (4, .int v8)] (.int v17 :: .int v7 :: []) w18 (k0 v17 w18)) (fun v17 w18 => ?_) (fun k19 hk20 => ?_)
  · refine rv_ior h 122 dX11_raisers_122 ?_
    refine rv_top (fun v21 => ?_)
    refine rv_istore_n (lv' := [(3, .int v21), (0, .ref (ad 78)), (1, .int p1), (2, .int r3), (4, .int v8)]) h 123 dX11_raisers_123 (by decide) rfl ?_
    refine rv_aload_n h 124 dX11_raisers_124 1 rfl ?_
    refine rv_iload h 125 dX11_raisers_125 4 rfl ?_
    refine rv_callVv h 127 dX11_raisers_127 (fn_X11_loadsBallot hJ v8  w18) ce_X11_loadsBallot lk_X11_85 rv_s78 rfl rv_cf9 rfl rfl (Nat.le_of_ble_eq_true rfl) ⟨Nat.le_of_ble_eq_true rfl, Nat.le_of_ble_eq_true rfl⟩ (fun r22 w23 => ?_)
    refine rv_iinc h 130 (fun v24 => [(4, .int v24), (3, .int v21), (0, .ref (ad 78)), (1, .int p1), (2, .int r3)]) dX11_raisers_130 4 rfl rv_c1 (by decide) (fun _ => rfl) (fun v24 => ?_)
    refine rv_goto (tgt := 21) h 133 dX11_raisers_133 (by decide) ?_
    refine rv_sub h [2, 3, 4, 1, 0] rfl ?_
    exact ih6 v21 v24 w23
  refine rv_icmp_eq (tgt := 121) h 111 dX11_raisers_111 (by decide) (fun _ => ?_) (fun _ => ?_)
  · refine rv_iconst h 121 dX11_raisers_121 rv_c0 ?_
    refine rv_sub h [2, 3, 4, 6] rfl ?_
    exact hk20 (0 : Int32) w16
  refine rv_iconst h 114 dX11_raisers_114 rv_c1 ?_
  refine rv_iload h 115 dX11_raisers_115 6 rfl ?_
  refine rv_ishl h 117 dX11_raisers_117 ?_
  refine rv_goto (tgt := 122) h 118 dX11_raisers_118 (by decide) ?_
  refine rv_sub h [2, 3, 4, 6] rfl ?_
  exact hk20 ((1 : Int32) <<< (v8 &&& 31)) w16
def f_X11_spoilers (p1 : Int32) (w : rv_W) : rv_R :=
  rv_bd (f_X11_isRule p1 w) (fun (r1 : Int32) (w2 : rv_W) =>
  if r1 = 0 then
  some ((-1000001 : Int32), w2)
  else
  rv_bd (f_X11_now p1 w2) (fun (r3 : Int32) (w4 : rv_W) =>
  rv_fx (fun _ _ _ => none) (fun (ag5 : Int32 → Int32 → rv_W → rv_R) (v7 : Int32) (v8 : Int32) (w9 : rv_W) =>
  if v8 < (5 : Int32) then
  if r3 < 0 then
  some (v7, w9)
  else
  rv_jn (fun (v10 : Int32) (w11 : rv_W) =>
  if v10 = 0 then
  rv_lt ((v7 ||| (0 : Int32))) (fun (v14 : Int32) =>
  rv_lt (v8 + (1 : Int32)) (fun (v15 : Int32) =>
  ag5 v14 v15 w11))
  else
  rv_lt ((v7 ||| ((1 : Int32) <<< (v8 &&& 31)))) (fun (v16 : Int32) =>
  rv_lt (v8 + (1 : Int32)) (fun (v17 : Int32) =>
  ag5 v16 v17 w11))) (fun (k12 : Int32 → rv_W → rv_R) =>
  rv_jn (fun  (w18 : rv_W) =>
  k12 (0 : Int32) w18) (fun (k19 : rv_W → rv_R) =>
  if v8 = r3 then
  k19 w9
  else
  rv_ck (1 : Int32) 852 (
  rv_bd (f_X11_has (w9 79 (1 : Int32).toNatClampNeg) v8 w9) (fun (r21 : Int32) (w22 : rv_W) =>
  if r21 = 0 then
  k19 w22
  else
  rv_ck (1 : Int32) 852 (
  rv_bd (f_X11_wins p1 ((w22 79 (1 : Int32).toNatClampNeg) &&& (((1 : Int32) <<< (v8 &&& 31)) ^^^ (-1 : Int32))) w22) (fun (r23 : Int32) (w24 : rv_W) =>
  if r23 = r3 then
  k19 w24
  else
  k12 (1 : Int32) w24))))))
  else
  some (v7, w9)) rv_FU (0 : Int32) (0 : Int32) w4))
set_option maxRecDepth 100000 in
set_option maxHeartbeats 4000000 in
theorem fn_X11_spoilers {l : Launch} {D : va_G} {ad : Nat → Nat} {ca : Nat → ClassId} (hJ : rv_J ad) (p1 : Int32)  (w : rv_W) : rv_Fn l D ad ca yX11_spoilers cX11_spoilers 6 (some .int) 8 188 [.ref (ad 78), .int p1] w (f_X11_spoilers p1 w) := by
  refine rv_mk (lv := [(0, .ref (ad 78)), (1, .int p1)]) hJ (by decide +kernel) (Nat.le_of_ble_eq_true rfl) rfl (fun K h hr => ?_)
  have h : rv_Rl D ad ca l RX11 cX11_spoilers 6 8 188 K := h
  unfold f_X11_spoilers
  refine rv_iload_n h 0 dX11_spoilers_0 1 rfl ?_
  refine rv_callSi h 1 dX11_spoilers_1 (fn_X11_isRule hJ p1  w) ce_X11_isRule lk_X11_244 rfl rfl (Nat.le_of_ble_eq_true rfl) ⟨Nat.le_of_ble_eq_true rfl, Nat.le_of_ble_eq_true rfl⟩ (fun r1 w2 => ?_)
  refine rv_if_ne (tgt := 10) h 4 dX11_spoilers_4 (by decide) (fun _ => ?_) (fun _ => ?_)
  · refine rv_ldc h 7 dX11_spoilers_7 rv_kc_X11_236 ?_
    exact rv_reti hr 9 dX11_spoilers_9
  refine rv_aload_n h 10 dX11_spoilers_10 0 rfl ?_
  refine rv_iload_n h 11 dX11_spoilers_11 1 rfl ?_
  refine rv_callVi h 12 dX11_spoilers_12 (fn_X11_now hJ p1  w2) ce_X11_now lk_X11_247 rv_s78 rfl rv_cf9 rfl rfl (Nat.le_of_ble_eq_true rfl) ⟨Nat.le_of_ble_eq_true rfl, Nat.le_of_ble_eq_true rfl⟩ (fun r3 w4 => ?_)
  refine rv_istore_n (lv' := [(2, .int r3), (0, .ref (ad 78)), (1, .int p1)]) h 15 dX11_spoilers_15 (by decide) rfl ?_
  refine rv_iconst h 16 dX11_spoilers_16 rv_c0 ?_
  refine rv_istore_n (lv' := [(3, .int (0 : Int32)), (2, .int r3), (0, .ref (ad 78)), (1, .int p1)]) h 17 dX11_spoilers_17 (by decide) rfl ?_
  refine rv_iconst h 18 dX11_spoilers_18 rv_c0 ?_
  refine rv_istore (lv' := [(4, .int (0 : Int32)), (3, .int (0 : Int32)), (2, .int r3), (0, .ref (ad 78)), (1, .int p1)]) h 19 dX11_spoilers_19 (by decide) rfl ?_
  refine rv_sub h [3, 4, 2, 1, 0] rfl ?_
  refine rv_fx_ind (fun (a0 : Int32 → Int32 → rv_W → rv_R) => ∀ (v7 : Int32) (v8 : Int32) (w9 : rv_W), K 21 [(0, .ref (ad 78)), (1, .int p1), (2, .int r3), (3, .int v7), (4, .int v8)] [] w9 (a0 v7 v8 w9)) (fun _ _ _ => rv_none h) (fun ag5 ih6 v7 v8 w9 => ?_) rv_FU (0 : Int32) (0 : Int32) w4
  refine rv_iload h 21 dX11_spoilers_21 4 rfl ?_
  refine rv_iconst h 23 dX11_spoilers_23 rv_c5 ?_
  refine rv_icmp_ge (tgt := 102) h 24 dX11_spoilers_24 (by decide) (fun _ => ?_) (fun _ => ?_)
  rotate_left
  · refine rv_iload_n h 102 dX11_spoilers_102 3 rfl ?_
    exact rv_reti hr 103 dX11_spoilers_103
  refine rv_iload_n h 27 dX11_spoilers_27 2 rfl ?_
  refine rv_if_lt (tgt := 102) h 28 dX11_spoilers_28 (by decide) (fun _ => ?_) (fun _ => ?_)
  · refine rv_iload_n h 102 dX11_spoilers_102 3 rfl ?_
    exact rv_reti hr 103 dX11_spoilers_103
  refine rv_iload h 31 dX11_spoilers_31 4 rfl ?_
  refine rv_iload_n h 33 dX11_spoilers_33 2 rfl ?_
  refine rv_join (fun (k0 : Int32 → rv_W → rv_R) => ∀ (v10 : Int32) (w11 : rv_W), K 78 [(0, .ref (ad 78)), (1, .int p1), (2, .int r3), (3, .int v7), (4, .int v8)] (.int v10 :: []) w11 (k0 v10 w11)) (fun v10 w11 => ?_) (fun k12 hk13 => ?_)
  · refine rv_istore (lv' := [(5, .int v10), (0, .ref (ad 78)), (1, .int p1), (2, .int r3), (3, .int v7), (4, .int v8)]) h 78 dX11_spoilers_78 (by decide) rfl ?_
    refine rv_iload_n h 80 dX11_spoilers_80 4 rfl ?_
    refine rv_iload h 81 dX11_spoilers_81 0 rfl ?_
    refine rv_if_eq (tgt := 93) h 83 dX11_spoilers_83 (by decide) (fun _ => ?_) (fun _ => ?_)
    · refine rv_iconst h 93 dX11_spoilers_93 rv_c0 ?_
      refine rv_ior h 94 dX11_spoilers_94 ?_
      refine rv_top (fun v14 => ?_)
      refine rv_istore_n (lv' := [(3, .int v14), (5, .int v10), (0, .ref (ad 78)), (1, .int p1), (2, .int r3), (4, .int v8)]) h 95 dX11_spoilers_95 (by decide) rfl ?_
      refine rv_iinc h 96 (fun v15 => [(4, .int v15), (3, .int v14), (5, .int v10), (0, .ref (ad 78)), (1, .int p1), (2, .int r3)]) dX11_spoilers_96 5 rfl rv_c1 (by decide) (fun _ => rfl) (fun v15 => ?_)
      refine rv_goto (tgt := 21) h 99 dX11_spoilers_99 (by decide) ?_
      refine rv_sub h [3, 4, 5, 1, 0] rfl ?_
      exact ih6 v14 v15 w11
    refine rv_iconst h 86 dX11_spoilers_86 rv_c1 ?_
    refine rv_iload h 87 dX11_spoilers_87 5 rfl ?_
    refine rv_ishl h 89 dX11_spoilers_89 ?_
    refine rv_goto (tgt := 94) h 90 dX11_spoilers_90 (by decide) ?_
    refine rv_ior h 94 dX11_spoilers_94 ?_
    refine rv_top (fun v16 => ?_)
    refine rv_istore_n (lv' := [(3, .int v16), (5, .int v10), (0, .ref (ad 78)), (1, .int p1), (2, .int r3), (4, .int v8)]) h 95 dX11_spoilers_95 (by decide) rfl ?_
    refine rv_iinc h 96 (fun v17 => [(4, .int v17), (3, .int v16), (5, .int v10), (0, .ref (ad 78)), (1, .int p1), (2, .int r3)]) dX11_spoilers_96 5 rfl rv_c1 (by decide) (fun _ => rfl) (fun v17 => ?_)
    refine rv_goto (tgt := 21) h 99 dX11_spoilers_99 (by decide) ?_
    refine rv_sub h [3, 4, 5, 1, 0] rfl ?_
    exact ih6 v16 v17 w11
  refine rv_join (fun (k0 : rv_W → rv_R) => ∀  (w18 : rv_W), K 77 [(0, .ref (ad 78)), (1, .int p1), (2, .int r3), (3, .int v7), (4, .int v8)] ([]) w18 (k0 w18)) (fun w18 => ?_) (fun k19 hk20 => ?_)
  · refine rv_iconst h 77 dX11_spoilers_77 rv_c0 ?_
    refine rv_sub h [0, 1, 2, 3, 4] rfl ?_
    exact hk13 (0 : Int32) w18
  refine rv_icmp_eq (tgt := 77) h 34 dX11_spoilers_34 (by decide) (fun _ => ?_) (fun _ => ?_)
  · refine rv_sub h [0, 1, 2, 3, 4] rfl ?_
    exact hk20 w9
  refine rv_aload_n h 37 dX11_spoilers_37 0 rfl ?_
  refine rv_getr h 38 dX11_spoilers_38 rv_s78 rv_fd_X11_7 rfl ?_
  refine rv_iconst h 41 dX11_spoilers_41 rv_c1 ?_
  refine rv_iald h 42 dX11_spoilers_42 rv_s79 ?_
  refine rv_iload h 43 dX11_spoilers_43 4 rfl ?_
  refine rv_callSi h 45 dX11_spoilers_45 (fn_X11_has hJ (w9 79 (1 : Int32).toNatClampNeg) v8  w9) ce_X11_has lk_X11_74 rfl rfl (Nat.le_of_ble_eq_true rfl) ⟨Nat.le_of_ble_eq_true rfl, Nat.le_of_ble_eq_true rfl⟩ (fun r21 w22 => ?_)
  refine rv_if_eq (tgt := 77) h 48 dX11_spoilers_48 (by decide) (fun _ => ?_) (fun _ => ?_)
  · refine rv_sub h [0, 1, 2, 3, 4] rfl ?_
    exact hk20 w22
  refine rv_aload_n h 51 dX11_spoilers_51 0 rfl ?_
  refine rv_iload_n h 52 dX11_spoilers_52 1 rfl ?_
  refine rv_aload_n h 53 dX11_spoilers_53 0 rfl ?_
  refine rv_getr h 54 dX11_spoilers_54 rv_s78 rv_fd_X11_7 rfl ?_
  refine rv_iconst h 57 dX11_spoilers_57 rv_c1 ?_
  refine rv_iald h 58 dX11_spoilers_58 rv_s79 ?_
  refine rv_iconst h 59 dX11_spoilers_59 rv_c1 ?_
  refine rv_iload h 60 dX11_spoilers_60 4 rfl ?_
  refine rv_ishl h 62 dX11_spoilers_62 ?_
  refine rv_iconst h 63 dX11_spoilers_63 rv_cm1 ?_
  refine rv_ixor h 64 dX11_spoilers_64 ?_
  refine rv_iand h 65 dX11_spoilers_65 ?_
  refine rv_callVi h 66 dX11_spoilers_66 (fn_X11_wins hJ p1 ((w22 79 (1 : Int32).toNatClampNeg) &&& (((1 : Int32) <<< (v8 &&& 31)) ^^^ (-1 : Int32)))  w22) ce_X11_wins lk_X11_211 rv_s78 rfl rv_cf9 rfl rfl (Nat.le_of_ble_eq_true rfl) ⟨Nat.le_of_ble_eq_true rfl, Nat.le_of_ble_eq_true rfl⟩ (fun r23 w24 => ?_)
  refine rv_iload_n h 69 dX11_spoilers_69 2 rfl ?_
  refine rv_icmp_eq (tgt := 77) h 70 dX11_spoilers_70 (by decide) (fun _ => ?_) (fun _ => ?_)
  · refine rv_sub h [0, 1, 2, 3, 4] rfl ?_
    exact hk20 w24
  refine rv_iconst h 73 dX11_spoilers_73 rv_c1 ?_
  refine rv_goto (tgt := 78) h 74 dX11_spoilers_74 (by decide) ?_
  refine rv_sub h [0, 1, 2, 3, 4] rfl ?_
  exact hk13 (1 : Int32) w24
def f_X11_winsOf (p1 : Int32) (p2 : Int32) (p3 : Int32) (w : rv_W) : rv_R :=
  rv_fx (fun _ _ => none) (fun (ag1 : Int32 → rv_W → rv_R) (v3 : Int32) (w4 : rv_W) =>
  if v3 < (w4 78 6) then
  rv_bd (f_X11_in v3 p2 p3 w4) (fun (r7 : Int32) (w8 : rv_W) =>
  rv_jn (fun (v9 : Int32) (w10 : rv_W) =>
  rv_ck v3 20 (rv_lt (rv_up w10 81 v3.toNatClampNeg v9) (fun (w13 : rv_W) =>
  rv_lt (v3 + (1 : Int32)) (fun (v14 : Int32) =>
  ag1 v14 w13)))) (fun (k11 : Int32 → rv_W → rv_R) =>
  if r7 = 0 then
  k11 (0 : Int32) w8
  else
  rv_bd (f_X11_of v3 (0 : Int32) w8) (fun (r15 : Int32) (w16 : rv_W) =>
  k11 r15 w16)))
  else
  rv_ck (1 : Int32) 852 (
  rv_bd (f_X11_wins p1 (w4 79 (1 : Int32).toNatClampNeg) w4) (fun (r5 : Int32) (w6 : rv_W) =>
  some (r5, w6)))) rv_FU (0 : Int32) w
set_option maxRecDepth 100000 in
set_option maxHeartbeats 4000000 in
theorem fn_X11_winsOf {l : Launch} {D : va_G} {ad : Nat → Nat} {ca : Nat → ClassId} (hJ : rv_J ad) (p1 : Int32) (p2 : Int32) (p3 : Int32)  (w : rv_W) : rv_Fn l D ad ca yX11_winsOf cX11_winsOf 5 (some .int) 7 167 [.ref (ad 78), .int p1, .int p2, .int p3] w (f_X11_winsOf p1 p2 p3 w) := by
  refine rv_mk (lv := [(0, .ref (ad 78)), (1, .int p1), (2, .int p2), (3, .int p3)]) hJ (by decide +kernel) (Nat.le_of_ble_eq_true rfl) rfl (fun K h hr => ?_)
  have h : rv_Rl D ad ca l RX11 cX11_winsOf 5 7 167 K := h
  unfold f_X11_winsOf
  refine rv_iconst h 0 dX11_winsOf_0 rv_c0 ?_
  refine rv_istore (lv' := [(4, .int (0 : Int32)), (0, .ref (ad 78)), (1, .int p1), (2, .int p2), (3, .int p3)]) h 1 dX11_winsOf_1 (by decide) rfl ?_
  refine rv_sub h [1, 2, 3, 4, 0] rfl ?_
  refine rv_fx_ind (fun (a0 : Int32 → rv_W → rv_R) => ∀ (v3 : Int32) (w4 : rv_W), K 3 [(0, .ref (ad 78)), (1, .int p1), (2, .int p2), (3, .int p3), (4, .int v3)] [] w4 (a0 v3 w4)) (fun _ _ => rv_none h) (fun ag1 ih2 v3 w4 => ?_) rv_FU (0 : Int32) w
  refine rv_iload h 3 dX11_winsOf_3 4 rfl ?_
  refine rv_aload_n h 5 dX11_winsOf_5 0 rfl ?_
  refine rv_geti h 6 dX11_winsOf_6 rv_s78 rv_fd_X11_78 rfl ?_
  refine rv_icmp_ge (tgt := 46) h 9 dX11_winsOf_9 (by decide) (fun _ => ?_) (fun _ => ?_)
  rotate_left
  · refine rv_aload_n h 46 dX11_winsOf_46 0 rfl ?_
    refine rv_iload_n h 47 dX11_winsOf_47 1 rfl ?_
    refine rv_aload_n h 48 dX11_winsOf_48 0 rfl ?_
    refine rv_getr h 49 dX11_winsOf_49 rv_s78 rv_fd_X11_7 rfl ?_
    refine rv_iconst h 52 dX11_winsOf_52 rv_c1 ?_
    refine rv_iald h 53 dX11_winsOf_53 rv_s79 ?_
    refine rv_callVi h 54 dX11_winsOf_54 (fn_X11_wins hJ p1 (w4 79 (1 : Int32).toNatClampNeg)  w4) ce_X11_wins lk_X11_211 rv_s78 rfl rv_cf9 rfl rfl (Nat.le_of_ble_eq_true rfl) ⟨Nat.le_of_ble_eq_true rfl, Nat.le_of_ble_eq_true rfl⟩ (fun r5 w6 => ?_)
    exact rv_reti hr 57 dX11_winsOf_57
  refine rv_aload_n h 12 dX11_winsOf_12 0 rfl ?_
  refine rv_getr h 13 dX11_winsOf_13 rv_s78 rv_fd_X11_16 rfl ?_
  refine rv_iload h 16 dX11_winsOf_16 4 rfl ?_
  refine rv_iload h 18 dX11_winsOf_18 4 rfl ?_
  refine rv_iload_n h 20 dX11_winsOf_20 2 rfl ?_
  refine rv_iload_n h 21 dX11_winsOf_21 3 rfl ?_
  refine rv_callSi h 22 dX11_winsOf_22 (fn_X11_in hJ v3 p2 p3  w4) ce_X11_in lk_X11_70 rfl rfl (Nat.le_of_ble_eq_true rfl) ⟨Nat.le_of_ble_eq_true rfl, Nat.le_of_ble_eq_true rfl⟩ (fun r7 w8 => ?_)
  refine rv_join (fun (k0 : Int32 → rv_W → rv_R) => ∀ (v9 : Int32) (w10 : rv_W), K 39 [(0, .ref (ad 78)), (1, .int p1), (2, .int p2), (3, .int p3), (4, .int v3)] (.int v9 :: .int v3 :: .ref (ad 81) :: []) w10 (k0 v9 w10)) (fun v9 w10 => ?_) (fun k11 hk12 => ?_)
  · refine rv_iast h 39 dX11_winsOf_39 rv_s81 (fun w13 => ?_)
    refine rv_iinc h 40 (fun v14 => [(4, .int v14), (0, .ref (ad 78)), (1, .int p1), (2, .int p2), (3, .int p3)]) dX11_winsOf_40 4 rfl rv_c1 (by decide) (fun _ => rfl) (fun v14 => ?_)
    refine rv_goto (tgt := 3) h 43 dX11_winsOf_43 (by decide) ?_
    refine rv_sub h [1, 2, 3, 4, 0] rfl ?_
    exact ih2 v14 w13
  refine rv_if_eq (tgt := 38) h 25 dX11_winsOf_25 (by decide) (fun _ => ?_) (fun _ => ?_)
  · refine rv_iconst h 38 dX11_winsOf_38 rv_c0 ?_
    refine rv_sub h [0, 1, 2, 3, 4] rfl ?_
    exact hk12 (0 : Int32) w8
  refine rv_aload_n h 28 dX11_winsOf_28 0 rfl ?_
  refine rv_iload h 29 dX11_winsOf_29 4 rfl ?_
  refine rv_iconst h 31 dX11_winsOf_31 rv_c0 ?_
  refine rv_callVi h 32 dX11_winsOf_32 (fn_X11_of hJ v3 (0 : Int32)  w8) ce_X11_of lk_X11_81 rv_s78 rfl rv_cf9 rfl rfl (Nat.le_of_ble_eq_true rfl) ⟨Nat.le_of_ble_eq_true rfl, Nat.le_of_ble_eq_true rfl⟩ (fun r15 w16 => ?_)
  refine rv_goto (tgt := 39) h 35 dX11_winsOf_35 (by decide) ?_
  refine rv_sub h [0, 1, 2, 3, 4] rfl ?_
  exact hk12 r15 w16
def f_X11_split (p1 : Int32) (w : rv_W) : rv_R :=
  rv_bd (f_X11_isRule p1 w) (fun (r1 : Int32) (w2 : rv_W) =>
  if r1 = 0 then
  some ((-1000001 : Int32), w2)
  else
  rv_bd (f_X11_now p1 w2) (fun (r3 : Int32) (w4 : rv_W) =>
  rv_fx (fun _ _ => none) (fun (ag5 : Int32 → rv_W → rv_R) (v7 : Int32) (w8 : rv_W) =>
  if v7 < (w8 78 6) then
  rv_bd (f_X11_winsOf p1 (0 : Int32) (v7 - (1 : Int32)) w8) (fun (r9 : Int32) (w10 : rv_W) =>
  if r9 = r3 then
  rv_lt (v7 + (1 : Int32)) (fun (v11 : Int32) =>
  ag5 v11 w10)
  else
  rv_bd (f_X11_winsOf p1 v7 ((w10 78 6) - (1 : Int32)) w10) (fun (r12 : Int32) (w13 : rv_W) =>
  if r9 = r12 then
  some (v7, w13)
  else
  rv_lt (v7 + (1 : Int32)) (fun (v14 : Int32) =>
  ag5 v14 w13)))
  else
  some ((-1000000 : Int32), w8)) rv_FU (1 : Int32) w4))
set_option maxRecDepth 100000 in
set_option maxHeartbeats 4000000 in
theorem fn_X11_split {l : Launch} {D : va_G} {ad : Nat → Nat} {ca : Nat → ClassId} (hJ : rv_J ad) (p1 : Int32)  (w : rv_W) : rv_Fn l D ad ca yX11_split cX11_split 5 (some .int) 8 191 [.ref (ad 78), .int p1] w (f_X11_split p1 w) := by
  refine rv_mk (lv := [(0, .ref (ad 78)), (1, .int p1)]) hJ (by decide +kernel) (Nat.le_of_ble_eq_true rfl) rfl (fun K h hr => ?_)
  have h : rv_Rl D ad ca l RX11 cX11_split 5 8 191 K := h
  unfold f_X11_split
  refine rv_iload_n h 0 dX11_split_0 1 rfl ?_
  refine rv_callSi h 1 dX11_split_1 (fn_X11_isRule hJ p1  w) ce_X11_isRule lk_X11_244 rfl rfl (Nat.le_of_ble_eq_true rfl) ⟨Nat.le_of_ble_eq_true rfl, Nat.le_of_ble_eq_true rfl⟩ (fun r1 w2 => ?_)
  refine rv_if_ne (tgt := 10) h 4 dX11_split_4 (by decide) (fun _ => ?_) (fun _ => ?_)
  · refine rv_ldc h 7 dX11_split_7 rv_kc_X11_236 ?_
    exact rv_reti hr 9 dX11_split_9
  refine rv_aload_n h 10 dX11_split_10 0 rfl ?_
  refine rv_iload_n h 11 dX11_split_11 1 rfl ?_
  refine rv_callVi h 12 dX11_split_12 (fn_X11_now hJ p1  w2) ce_X11_now lk_X11_247 rv_s78 rfl rv_cf9 rfl rfl (Nat.le_of_ble_eq_true rfl) ⟨Nat.le_of_ble_eq_true rfl, Nat.le_of_ble_eq_true rfl⟩ (fun r3 w4 => ?_)
  refine rv_istore_n (lv' := [(2, .int r3), (0, .ref (ad 78)), (1, .int p1)]) h 15 dX11_split_15 (by decide) rfl ?_
  refine rv_iconst h 16 dX11_split_16 rv_c1 ?_
  refine rv_istore_n (lv' := [(3, .int (1 : Int32)), (2, .int r3), (0, .ref (ad 78)), (1, .int p1)]) h 17 dX11_split_17 (by decide) rfl ?_
  refine rv_sub h [2, 3, 1, 0] rfl ?_
  refine rv_fx_ind (fun (a0 : Int32 → rv_W → rv_R) => ∀ (v7 : Int32) (w8 : rv_W), K 18 [(0, .ref (ad 78)), (1, .int p1), (2, .int r3), (3, .int v7)] [] w8 (a0 v7 w8)) (fun _ _ => rv_none h) (fun ag5 ih6 v7 w8 => ?_) rv_FU (1 : Int32) w4
  refine rv_iload_n h 18 dX11_split_18 3 rfl ?_
  refine rv_aload_n h 19 dX11_split_19 0 rfl ?_
  refine rv_geti h 20 dX11_split_20 rv_s78 rv_fd_X11_78 rfl ?_
  refine rv_icmp_ge (tgt := 68) h 23 dX11_split_23 (by decide) (fun _ => ?_) (fun _ => ?_)
  rotate_left
  · refine rv_ldc h 68 dX11_split_68 rv_kc_X11_250 ?_
    exact rv_reti hr 70 dX11_split_70
  refine rv_aload_n h 26 dX11_split_26 0 rfl ?_
  refine rv_iload_n h 27 dX11_split_27 1 rfl ?_
  refine rv_iconst h 28 dX11_split_28 rv_c0 ?_
  refine rv_iload_n h 29 dX11_split_29 3 rfl ?_
  refine rv_iconst h 30 dX11_split_30 rv_c1 ?_
  refine rv_isub h 31 dX11_split_31 ?_
  refine rv_callVi h 32 dX11_split_32 (fn_X11_winsOf hJ p1 (0 : Int32) (v7 - (1 : Int32))  w8) ce_X11_winsOf lk_X11_273 rv_s78 rfl rv_cf9 rfl rfl (Nat.le_of_ble_eq_true rfl) ⟨Nat.le_of_ble_eq_true rfl, Nat.le_of_ble_eq_true rfl⟩ (fun r9 w10 => ?_)
  refine rv_istore (lv' := [(4, .int r9), (0, .ref (ad 78)), (1, .int p1), (2, .int r3), (3, .int v7)]) h 35 dX11_split_35 (by decide) rfl ?_
  refine rv_iload h 37 dX11_split_37 0 rfl ?_
  refine rv_iload_n h 39 dX11_split_39 3 rfl ?_
  refine rv_icmp_eq (tgt := 62) h 40 dX11_split_40 (by decide) (fun _ => ?_) (fun _ => ?_)
  · refine rv_iinc h 62 (fun v11 => [(3, .int v11), (4, .int r9), (0, .ref (ad 78)), (1, .int p1), (2, .int r3)]) dX11_split_62 4 rfl rv_c1 (by decide) (fun _ => rfl) (fun v11 => ?_)
    refine rv_goto (tgt := 18) h 65 dX11_split_65 (by decide) ?_
    refine rv_sub h [2, 3, 4, 0] rfl ?_
    exact ih6 v11 w10
  refine rv_iload h 43 dX11_split_43 0 rfl ?_
  refine rv_aload_n h 45 dX11_split_45 1 rfl ?_
  refine rv_iload_n h 46 dX11_split_46 2 rfl ?_
  refine rv_iload_n h 47 dX11_split_47 4 rfl ?_
  refine rv_aload_n h 48 dX11_split_48 1 rfl ?_
  refine rv_geti h 49 dX11_split_49 rv_s78 rv_fd_X11_78 rfl ?_
  refine rv_iconst h 52 dX11_split_52 rv_c1 ?_
  refine rv_isub h 53 dX11_split_53 ?_
  refine rv_callVi h 54 dX11_split_54 (fn_X11_winsOf hJ p1 v7 ((w10 78 6) - (1 : Int32))  w10) ce_X11_winsOf lk_X11_273 rv_s78 rfl rv_cf9 rfl rfl (Nat.le_of_ble_eq_true rfl) ⟨Nat.le_of_ble_eq_true rfl, Nat.le_of_ble_eq_true rfl⟩ (fun r12 w13 => ?_)
  refine rv_icmp_ne (tgt := 62) h 57 dX11_split_57 (by decide) (fun _ => ?_) (fun _ => ?_)
  · refine rv_iload_n h 60 dX11_split_60 4 rfl ?_
    exact rv_reti hr 61 dX11_split_61
  refine rv_iinc h 62 (fun v14 => [(3, .int v14), (4, .int r9), (0, .ref (ad 78)), (1, .int p1), (2, .int r3)]) dX11_split_62 4 rfl rv_c1 (by decide) (fun _ => rfl) (fun v14 => ?_)
  refine rv_goto (tgt := 18) h 65 dX11_split_65 (by decide) ?_
  refine rv_sub h [2, 3, 4, 0] rfl ?_
  exact ih6 v14 w13
def f_X11_removals (p1 : Int32) (w : rv_W) : rv_R :=
  rv_bd (f_X11_isRule p1 w) (fun (r1 : Int32) (w2 : rv_W) =>
  if r1 = 0 then
  some ((-1000001 : Int32), w2)
  else
  rv_bd (f_X11_now p1 w2) (fun (r3 : Int32) (w4 : rv_W) =>
  rv_fx (fun _ _ => none) (fun (ag5 : Int32 → rv_W → rv_R) (v7 : Int32) (w8 : rv_W) =>
  if (100 : Int32) < v7 then
  some ((-1000000 : Int32), w8)
  else
  if r3 < 0 then
  some ((-1000000 : Int32), w8)
  else
  rv_fx (fun _ _ => none) (fun (ag9 : Int32 → rv_W → rv_R) (v11 : Int32) (w12 : rv_W) =>
  if v11 < (w12 78 6) then
  rv_ck v11 20 (
  if (w12 81 v11.toNatClampNeg) < v7 then
  rv_lt (v11 + (1 : Int32)) (fun (v14 : Int32) =>
  ag9 v14 w12)
  else
  rv_ck v11 20 (
  rv_ck v11 20 (rv_lt (rv_up w12 81 v11.toNatClampNeg ((w12 81 v11.toNatClampNeg) - v7)) (fun (w15 : rv_W) =>
  rv_ck (1 : Int32) 852 (
  rv_bd (f_X11_wins p1 (w15 79 (1 : Int32).toNatClampNeg) w15) (fun (r16 : Int32) (w17 : rv_W) =>
  rv_jn (fun (v18 : Int32) (w19 : rv_W) =>
  rv_ck v11 20 (
  rv_ck v11 20 (rv_lt (rv_up w19 81 v11.toNatClampNeg ((w19 81 v11.toNatClampNeg) + v7)) (fun (w22 : rv_W) =>
  if v18 = 0 then
  rv_lt (v11 + (1 : Int32)) (fun (v23 : Int32) =>
  ag9 v23 w22)
  else
  some (v7, w22))))) (fun (k20 : Int32 → rv_W → rv_R) =>
  if r16 = r3 then
  k20 (0 : Int32) w17
  else
  k20 (1 : Int32) w17)))))))
  else
  rv_lt (v7 + (1 : Int32)) (fun (v13 : Int32) =>
  ag5 v13 w12)) rv_FU (0 : Int32) w8) rv_FU (1 : Int32) w4))
set_option maxRecDepth 100000 in
set_option maxHeartbeats 4000000 in
theorem fn_X11_removals {l : Launch} {D : va_G} {ad : Nat → Nat} {ca : Nat → ClassId} (hJ : rv_J ad) (p1 : Int32)  (w : rv_W) : rv_Fn l D ad ca yX11_removals cX11_removals 6 (some .int) 8 188 [.ref (ad 78), .int p1] w (f_X11_removals p1 w) := by
  refine rv_mk (lv := [(0, .ref (ad 78)), (1, .int p1)]) hJ (by decide +kernel) (Nat.le_of_ble_eq_true rfl) rfl (fun K h hr => ?_)
  have h : rv_Rl D ad ca l RX11 cX11_removals 6 8 188 K := h
  unfold f_X11_removals
  refine rv_iload_n h 0 dX11_removals_0 1 rfl ?_
  refine rv_callSi h 1 dX11_removals_1 (fn_X11_isRule hJ p1  w) ce_X11_isRule lk_X11_244 rfl rfl (Nat.le_of_ble_eq_true rfl) ⟨Nat.le_of_ble_eq_true rfl, Nat.le_of_ble_eq_true rfl⟩ (fun r1 w2 => ?_)
  refine rv_if_ne (tgt := 10) h 4 dX11_removals_4 (by decide) (fun _ => ?_) (fun _ => ?_)
  · refine rv_ldc h 7 dX11_removals_7 rv_kc_X11_236 ?_
    exact rv_reti hr 9 dX11_removals_9
  refine rv_aload_n h 10 dX11_removals_10 0 rfl ?_
  refine rv_iload_n h 11 dX11_removals_11 1 rfl ?_
  refine rv_callVi h 12 dX11_removals_12 (fn_X11_now hJ p1  w2) ce_X11_now lk_X11_247 rv_s78 rfl rv_cf9 rfl rfl (Nat.le_of_ble_eq_true rfl) ⟨Nat.le_of_ble_eq_true rfl, Nat.le_of_ble_eq_true rfl⟩ (fun r3 w4 => ?_)
  refine rv_istore_n (lv' := [(2, .int r3), (0, .ref (ad 78)), (1, .int p1)]) h 15 dX11_removals_15 (by decide) rfl ?_
  refine rv_iconst h 16 dX11_removals_16 rv_c1 ?_
  refine rv_istore_n (lv' := [(3, .int (1 : Int32)), (2, .int r3), (0, .ref (ad 78)), (1, .int p1)]) h 17 dX11_removals_17 (by decide) rfl ?_
  refine rv_sub h [2, 3, 1, 0] rfl ?_
  refine rv_fx_ind (fun (a0 : Int32 → rv_W → rv_R) => ∀ (v7 : Int32) (w8 : rv_W), K 18 [(0, .ref (ad 78)), (1, .int p1), (2, .int r3), (3, .int v7)] [] w8 (a0 v7 w8)) (fun _ _ => rv_none h) (fun ag5 ih6 v7 w8 => ?_) rv_FU (1 : Int32) w4
  refine rv_iload_n h 18 dX11_removals_18 3 rfl ?_
  refine rv_bipush (v := 100) h 19 dX11_removals_19 (by decide +kernel) ?_
  refine rv_icmp_gt (tgt := 114) h 21 dX11_removals_21 (by decide) (fun _ => ?_) (fun _ => ?_)
  · refine rv_ldc h 114 dX11_removals_114 rv_kc_X11_250 ?_
    exact rv_reti hr 116 dX11_removals_116
  refine rv_iload_n h 24 dX11_removals_24 2 rfl ?_
  refine rv_if_lt (tgt := 114) h 25 dX11_removals_25 (by decide) (fun _ => ?_) (fun _ => ?_)
  · refine rv_ldc h 114 dX11_removals_114 rv_kc_X11_250 ?_
    exact rv_reti hr 116 dX11_removals_116
  refine rv_iconst h 28 dX11_removals_28 rv_c0 ?_
  refine rv_istore (lv' := [(4, .int (0 : Int32)), (0, .ref (ad 78)), (1, .int p1), (2, .int r3), (3, .int v7)]) h 29 dX11_removals_29 (by decide) rfl ?_
  refine rv_sub h [1, 2, 3, 4, 0] rfl ?_
  refine rv_fx_ind (fun (a0 : Int32 → rv_W → rv_R) => ∀ (v11 : Int32) (w12 : rv_W), K 31 [(0, .ref (ad 78)), (1, .int p1), (2, .int r3), (3, .int v7), (4, .int v11)] [] w12 (a0 v11 w12)) (fun _ _ => rv_none h) (fun ag9 ih10 v11 w12 => ?_) rv_FU (0 : Int32) w8
  refine rv_iload h 31 dX11_removals_31 4 rfl ?_
  refine rv_aload_n h 33 dX11_removals_33 0 rfl ?_
  refine rv_geti h 34 dX11_removals_34 rv_s78 rv_fd_X11_78 rfl ?_
  refine rv_icmp_ge (tgt := 108) h 37 dX11_removals_37 (by decide) (fun _ => ?_) (fun _ => ?_)
  rotate_left
  · refine rv_iinc h 108 (fun v13 => [(3, .int v13), (0, .ref (ad 78)), (1, .int p1), (2, .int r3), (4, .int v11)]) dX11_removals_108 3 rfl rv_c1 (by decide) (fun _ => rfl) (fun v13 => ?_)
    refine rv_goto (tgt := 18) h 111 dX11_removals_111 (by decide) ?_
    refine rv_sub h [1, 2, 3, 0] rfl ?_
    exact ih6 v13 w12
  refine rv_aload_n h 40 dX11_removals_40 0 rfl ?_
  refine rv_getr h 41 dX11_removals_41 rv_s78 rv_fd_X11_16 rfl ?_
  refine rv_iload h 44 dX11_removals_44 4 rfl ?_
  refine rv_iald h 46 dX11_removals_46 rv_s81 ?_
  refine rv_iload_n h 47 dX11_removals_47 3 rfl ?_
  refine rv_icmp_lt (tgt := 102) h 48 dX11_removals_48 (by decide) (fun _ => ?_) (fun _ => ?_)
  · refine rv_iinc h 102 (fun v14 => [(4, .int v14), (0, .ref (ad 78)), (1, .int p1), (2, .int r3), (3, .int v7)]) dX11_removals_102 4 rfl rv_c1 (by decide) (fun _ => rfl) (fun v14 => ?_)
    refine rv_goto (tgt := 31) h 105 dX11_removals_105 (by decide) ?_
    refine rv_sub h [1, 2, 3, 4, 0] rfl ?_
    exact ih10 v14 w12
  refine rv_aload_n h 51 dX11_removals_51 0 rfl ?_
  refine rv_getr h 52 dX11_removals_52 rv_s78 rv_fd_X11_16 rfl ?_
  refine rv_iload h 55 dX11_removals_55 4 rfl ?_
  refine rv_dup2 h 57 dX11_removals_57 rfl rfl ?_
  refine rv_iald h 58 dX11_removals_58 rv_s81 ?_
  refine rv_iload_n h 59 dX11_removals_59 3 rfl ?_
  refine rv_isub h 60 dX11_removals_60 ?_
  refine rv_iast h 61 dX11_removals_61 rv_s81 (fun w15 => ?_)
  refine rv_aload_n h 62 dX11_removals_62 0 rfl ?_
  refine rv_iload_n h 63 dX11_removals_63 1 rfl ?_
  refine rv_aload_n h 64 dX11_removals_64 0 rfl ?_
  refine rv_getr h 65 dX11_removals_65 rv_s78 rv_fd_X11_7 rfl ?_
  refine rv_iconst h 68 dX11_removals_68 rv_c1 ?_
  refine rv_iald h 69 dX11_removals_69 rv_s79 ?_
  refine rv_callVi h 70 dX11_removals_70 (fn_X11_wins hJ p1 (w15 79 (1 : Int32).toNatClampNeg)  w15) ce_X11_wins lk_X11_211 rv_s78 rfl rv_cf9 rfl rfl (Nat.le_of_ble_eq_true rfl) ⟨Nat.le_of_ble_eq_true rfl, Nat.le_of_ble_eq_true rfl⟩ (fun r16 w17 => ?_)
  refine rv_iload_n h 73 dX11_removals_73 2 rfl ?_
  refine rv_join (fun (k0 : Int32 → rv_W → rv_R) => ∀ (v18 : Int32) (w19 : rv_W), K 82 [(0, .ref (ad 78)), (1, .int p1), (2, .int r3), (3, .int v7), (4, .int v11)] (.int v18 :: []) w19 (k0 v18 w19)) (fun v18 w19 => ?_) (fun k20 hk21 => ?_)
  · refine rv_istore (lv' := [(5, .int v18), (0, .ref (ad 78)), (1, .int p1), (2, .int r3), (3, .int v7), (4, .int v11)]) h 82 dX11_removals_82 (by decide) rfl ?_
    refine rv_aload_n h 84 dX11_removals_84 1 rfl ?_
    refine rv_getr h 85 dX11_removals_85 rv_s78 rv_fd_X11_16 rfl ?_
    refine rv_iload h 88 dX11_removals_88 5 rfl ?_
    refine rv_dup2 h 90 dX11_removals_90 rfl rfl ?_
    refine rv_iald h 91 dX11_removals_91 rv_s81 ?_
    refine rv_iload_n h 92 dX11_removals_92 4 rfl ?_
    refine rv_iadd h 93 dX11_removals_93 ?_
    refine rv_iast h 94 dX11_removals_94 rv_s81 (fun w22 => ?_)
    refine rv_iload h 95 dX11_removals_95 0 rfl ?_
    refine rv_if_eq (tgt := 102) h 97 dX11_removals_97 (by decide) (fun _ => ?_) (fun _ => ?_)
    rotate_left
    · refine rv_iload_n h 100 dX11_removals_100 4 rfl ?_
      exact rv_reti hr 101 dX11_removals_101
    refine rv_iinc h 102 (fun v23 => [(4, .int v23), (5, .int v18), (0, .ref (ad 78)), (1, .int p1), (2, .int r3), (3, .int v7)]) dX11_removals_102 5 rfl rv_c1 (by decide) (fun _ => rfl) (fun v23 => ?_)
    refine rv_goto (tgt := 31) h 105 dX11_removals_105 (by decide) ?_
    refine rv_sub h [2, 3, 4, 5, 0] rfl ?_
    exact ih10 v23 w22
  refine rv_icmp_eq (tgt := 81) h 74 dX11_removals_74 (by decide) (fun _ => ?_) (fun _ => ?_)
  · refine rv_iconst h 81 dX11_removals_81 rv_c0 ?_
    refine rv_sub h [0, 1, 2, 3, 4] rfl ?_
    exact hk21 (0 : Int32) w17
  refine rv_iconst h 77 dX11_removals_77 rv_c1 ?_
  refine rv_goto (tgt := 82) h 78 dX11_removals_78 (by decide) ?_
  refine rv_sub h [0, 1, 2, 3, 4] rfl ?_
  exact hk21 (1 : Int32) w17
def f_X11_samples (p1 : Int32) (p2 : Int32) (w : rv_W) : rv_R :=
  rv_bd (f_X11_loads  w) (fun (r1 : Int32) (w2 : rv_W) =>
  rv_bd (f_X11_allVotes  w2) (fun (r3 : Int32) (w4 : rv_W) =>
  rv_fx (fun _ _ => none) (fun (ag5 : Int32 → rv_W → rv_R) (v7 : Int32) (w8 : rv_W) =>
  if v7 < (w8 78 6) then
  rv_ck v7 20 (rv_lt (rv_up w8 81 v7.toNatClampNeg (0 : Int32)) (fun (w31 : rv_W) =>
  rv_lt (v7 + (1 : Int32)) (fun (v32 : Int32) =>
  ag5 v32 w31)))
  else
  rv_fx (fun _ _ => none) (fun (ag9 : Int32 → rv_W → rv_R) (v11 : Int32) (w12 : rv_W) =>
  if v11 < p2 then
  rv_lt (rv_up w12 78 23 (((w12 78 23) * (1103515245 : Int32)) + (12345 : Int32))) (fun (w15 : rv_W) =>
  rv_gd (¬ r3 = 0) (
  rv_lt (((((w15 78 23).toUInt32 >>> ((8 : Int32).toUInt32 &&& Int32.toUInt32 31)).toInt32) - (((w15 78 23).toUInt32 >>> ((8 : Int32).toUInt32 &&& Int32.toUInt32 31)).toInt32) / r3 * r3)) (fun (v17 : Int32) =>
  rv_fx (fun _ _ _ => none) (fun (ag18 : Int32 → Int32 → rv_W → rv_R) (v20 : Int32) (v21 : Int32) (w22 : rv_W) =>
  rv_bd (f_X11_of v21 (0 : Int32) w22) (fun (r23 : Int32) (w24 : rv_W) =>
  if v20 < r23 then
  rv_ck v21 20 (
  rv_ck v21 20 (rv_lt (rv_up w24 81 v21.toNatClampNeg ((w24 81 v21.toNatClampNeg) + (1 : Int32))) (fun (w25 : rv_W) =>
  rv_lt (v11 + (1 : Int32)) (fun (v26 : Int32) =>
  ag9 v26 w25))))
  else
  rv_bd (f_X11_of v21 (0 : Int32) w24) (fun (r27 : Int32) (w28 : rv_W) =>
  rv_lt ((v20 - r27)) (fun (v29 : Int32) =>
  rv_lt (v21 + (1 : Int32)) (fun (v30 : Int32) =>
  ag18 v29 v30 w28))))) rv_FU v17 (0 : Int32) w15)))
  else
  rv_ck (1 : Int32) 852 (
  rv_bd (f_X11_wins p1 (w12 79 (1 : Int32).toNatClampNeg) w12) (fun (r13 : Int32) (w14 : rv_W) =>
  some (r13, w14)))) rv_FU (0 : Int32) w8) rv_FU (0 : Int32) w4))
set_option maxRecDepth 100000 in
set_option maxHeartbeats 4000000 in
theorem fn_X11_samples {l : Launch} {D : va_G} {ad : Nat → Nat} {ca : Nat → ClassId} (hJ : rv_J ad) (p1 : Int32) (p2 : Int32)  (w : rv_W) : rv_Fn l D ad ca yX11_samples cX11_samples 7 (some .int) 7 167 [.ref (ad 78), .int p1, .int p2] w (f_X11_samples p1 p2 w) := by
  refine rv_mk (lv := [(0, .ref (ad 78)), (1, .int p1), (2, .int p2)]) hJ (by decide +kernel) (Nat.le_of_ble_eq_true rfl) rfl (fun K h hr => ?_)
  have h : rv_Rl D ad ca l RX11 cX11_samples 7 7 167 K := h
  unfold f_X11_samples
  refine rv_aload_n h 0 dX11_samples_0 0 rfl ?_
  refine rv_callVv h 1 dX11_samples_1 (fn_X11_loads hJ   w) ce_X11_loads lk_X11_208 rv_s78 rfl rv_cf9 rfl rfl (Nat.le_of_ble_eq_true rfl) ⟨Nat.le_of_ble_eq_true rfl, Nat.le_of_ble_eq_true rfl⟩ (fun r1 w2 => ?_)
  refine rv_aload_n h 4 dX11_samples_4 0 rfl ?_
  refine rv_callVi h 5 dX11_samples_5 (fn_X11_allVotes hJ   w2) ce_X11_allVotes lk_X11_115 rv_s78 rfl rv_cf9 rfl rfl (Nat.le_of_ble_eq_true rfl) ⟨Nat.le_of_ble_eq_true rfl, Nat.le_of_ble_eq_true rfl⟩ (fun r3 w4 => ?_)
  refine rv_istore_n (lv' := [(3, .int r3), (0, .ref (ad 78)), (1, .int p1), (2, .int p2)]) h 8 dX11_samples_8 (by decide) rfl ?_
  refine rv_iconst h 9 dX11_samples_9 rv_c0 ?_
  refine rv_istore (lv' := [(4, .int (0 : Int32)), (3, .int r3), (0, .ref (ad 78)), (1, .int p1), (2, .int p2)]) h 10 dX11_samples_10 (by decide) rfl ?_
  refine rv_sub h [2, 3, 4, 1, 0] rfl ?_
  refine rv_fx_ind (fun (a0 : Int32 → rv_W → rv_R) => ∀ (v7 : Int32) (w8 : rv_W), K 12 [(0, .ref (ad 78)), (1, .int p1), (2, .int p2), (3, .int r3), (4, .int v7)] [] w8 (a0 v7 w8)) (fun _ _ => rv_none h) (fun ag5 ih6 v7 w8 => ?_) rv_FU (0 : Int32) w4
  refine rv_iload h 12 dX11_samples_12 4 rfl ?_
  refine rv_aload_n h 14 dX11_samples_14 0 rfl ?_
  refine rv_geti h 15 dX11_samples_15 rv_s78 rv_fd_X11_78 rfl ?_
  refine rv_icmp_ge (tgt := 35) h 18 dX11_samples_18 (by decide) (fun _ => ?_) (fun _ => ?_)
  · refine rv_aload_n h 21 dX11_samples_21 0 rfl ?_
    refine rv_getr h 22 dX11_samples_22 rv_s78 rv_fd_X11_16 rfl ?_
    refine rv_iload h 25 dX11_samples_25 4 rfl ?_
    refine rv_iconst h 27 dX11_samples_27 rv_c0 ?_
    refine rv_iast h 28 dX11_samples_28 rv_s81 (fun w31 => ?_)
    refine rv_iinc h 29 (fun v32 => [(4, .int v32), (0, .ref (ad 78)), (1, .int p1), (2, .int p2), (3, .int r3)]) dX11_samples_29 4 rfl rv_c1 (by decide) (fun _ => rfl) (fun v32 => ?_)
    refine rv_goto (tgt := 12) h 32 dX11_samples_32 (by decide) ?_
    refine rv_sub h [1, 2, 3, 4, 0] rfl ?_
    exact ih6 v32 w31
  refine rv_iconst h 35 dX11_samples_35 rv_c0 ?_
  refine rv_istore (lv' := [(4, .int (0 : Int32)), (0, .ref (ad 78)), (1, .int p1), (2, .int p2), (3, .int r3)]) h 36 dX11_samples_36 (by decide) rfl ?_
  refine rv_sub h [1, 2, 3, 4, 0] rfl ?_
  refine rv_fx_ind (fun (a0 : Int32 → rv_W → rv_R) => ∀ (v11 : Int32) (w12 : rv_W), K 38 [(0, .ref (ad 78)), (1, .int p1), (2, .int p2), (3, .int r3), (4, .int v11)] [] w12 (a0 v11 w12)) (fun _ _ => rv_none h) (fun ag9 ih10 v11 w12 => ?_) rv_FU (0 : Int32) w8
  refine rv_iload h 38 dX11_samples_38 4 rfl ?_
  refine rv_iload_n h 40 dX11_samples_40 2 rfl ?_
  refine rv_icmp_ge (tgt := 121) h 41 dX11_samples_41 (by decide) (fun _ => ?_) (fun _ => ?_)
  rotate_left
  · refine rv_aload_n h 121 dX11_samples_121 0 rfl ?_
    refine rv_iload_n h 122 dX11_samples_122 1 rfl ?_
    refine rv_aload_n h 123 dX11_samples_123 0 rfl ?_
    refine rv_getr h 124 dX11_samples_124 rv_s78 rv_fd_X11_7 rfl ?_
    refine rv_iconst h 127 dX11_samples_127 rv_c1 ?_
    refine rv_iald h 128 dX11_samples_128 rv_s79 ?_
    refine rv_callVi h 129 dX11_samples_129 (fn_X11_wins hJ p1 (w12 79 (1 : Int32).toNatClampNeg)  w12) ce_X11_wins lk_X11_211 rv_s78 rfl rv_cf9 rfl rfl (Nat.le_of_ble_eq_true rfl) ⟨Nat.le_of_ble_eq_true rfl, Nat.le_of_ble_eq_true rfl⟩ (fun r13 w14 => ?_)
    exact rv_reti hr 132 dX11_samples_132
  refine rv_aload_n h 44 dX11_samples_44 0 rfl ?_
  refine rv_aload_n h 45 dX11_samples_45 0 rfl ?_
  refine rv_geti h 46 dX11_samples_46 rv_s78 rv_fd_X11_276 rfl ?_
  refine rv_ldcw h 49 dX11_samples_49 rv_kc_X11_279 ?_
  refine rv_imul h 52 dX11_samples_52 ?_
  refine rv_sipush (v := 12345) h 53 dX11_samples_53 (by decide +kernel) ?_
  refine rv_iadd h 56 dX11_samples_56 ?_
  refine rv_puti h 57 dX11_samples_57 rv_s78 rv_fd_X11_276 rfl ⟨rfl, rfl⟩ (fun w15 => ?_)
  refine rv_aload_n h 60 dX11_samples_60 0 rfl ?_
  refine rv_geti h 61 dX11_samples_61 rv_s78 rv_fd_X11_276 rfl ?_
  refine rv_bipush (v := 8) h 64 dX11_samples_64 (by decide +kernel) ?_
  refine rv_iushr h 66 dX11_samples_66 ?_
  refine rv_iload_n h 67 dX11_samples_67 3 rfl ?_
  refine rv_guard h (fun hn16 => ?_)
  refine rv_irem h 68 dX11_samples_68 hn16 ?_
  refine rv_top (fun v17 => ?_)
  refine rv_istore (lv' := [(5, .int v17), (0, .ref (ad 78)), (1, .int p1), (2, .int p2), (3, .int r3), (4, .int v11)]) h 69 dX11_samples_69 (by decide) rfl ?_
  refine rv_iconst h 71 dX11_samples_71 rv_c0 ?_
  refine rv_istore (lv' := [(6, .int (0 : Int32)), (5, .int v17), (0, .ref (ad 78)), (1, .int p1), (2, .int p2), (3, .int r3), (4, .int v11)]) h 72 dX11_samples_72 (by decide) rfl ?_
  refine rv_sub h [2, 3, 4, 5, 6, 1, 0] rfl ?_
  refine rv_fx_ind (fun (a0 : Int32 → Int32 → rv_W → rv_R) => ∀ (v20 : Int32) (v21 : Int32) (w22 : rv_W), K 74 [(0, .ref (ad 78)), (1, .int p1), (2, .int p2), (3, .int r3), (4, .int v11), (5, .int v20), (6, .int v21)] [] w22 (a0 v20 v21 w22)) (fun _ _ _ => rv_none h) (fun ag18 ih19 v20 v21 w22 => ?_) rv_FU v17 (0 : Int32) w15
  refine rv_iload h 74 dX11_samples_74 5 rfl ?_
  refine rv_aload_n h 76 dX11_samples_76 0 rfl ?_
  refine rv_iload h 77 dX11_samples_77 6 rfl ?_
  refine rv_iconst h 79 dX11_samples_79 rv_c0 ?_
  refine rv_callVi h 80 dX11_samples_80 (fn_X11_of hJ v21 (0 : Int32)  w22) ce_X11_of lk_X11_81 rv_s78 rfl rv_cf9 rfl rfl (Nat.le_of_ble_eq_true rfl) ⟨Nat.le_of_ble_eq_true rfl, Nat.le_of_ble_eq_true rfl⟩ (fun r23 w24 => ?_)
  refine rv_icmp_lt (tgt := 104) h 83 dX11_samples_83 (by decide) (fun _ => ?_) (fun _ => ?_)
  · refine rv_aload_n h 104 dX11_samples_104 0 rfl ?_
    refine rv_getr h 105 dX11_samples_105 rv_s78 rv_fd_X11_16 rfl ?_
    refine rv_iload h 108 dX11_samples_108 6 rfl ?_
    refine rv_dup2 h 110 dX11_samples_110 rfl rfl ?_
    refine rv_iald h 111 dX11_samples_111 rv_s81 ?_
    refine rv_iconst h 112 dX11_samples_112 rv_c1 ?_
    refine rv_iadd h 113 dX11_samples_113 ?_
    refine rv_iast h 114 dX11_samples_114 rv_s81 (fun w25 => ?_)
    refine rv_iinc h 115 (fun v26 => [(4, .int v26), (0, .ref (ad 78)), (1, .int p1), (2, .int p2), (3, .int r3), (5, .int v20), (6, .int v21)]) dX11_samples_115 4 rfl rv_c1 (by decide) (fun _ => rfl) (fun v26 => ?_)
    refine rv_goto (tgt := 38) h 118 dX11_samples_118 (by decide) ?_
    refine rv_sub h [1, 2, 3, 4, 0] rfl ?_
    exact ih10 v26 w25
  refine rv_iload h 86 dX11_samples_86 5 rfl ?_
  refine rv_aload_n h 88 dX11_samples_88 0 rfl ?_
  refine rv_iload h 89 dX11_samples_89 6 rfl ?_
  refine rv_iconst h 91 dX11_samples_91 rv_c0 ?_
  refine rv_callVi h 92 dX11_samples_92 (fn_X11_of hJ v21 (0 : Int32)  w24) ce_X11_of lk_X11_81 rv_s78 rfl rv_cf9 rfl rfl (Nat.le_of_ble_eq_true rfl) ⟨Nat.le_of_ble_eq_true rfl, Nat.le_of_ble_eq_true rfl⟩ (fun r27 w28 => ?_)
  refine rv_isub h 95 dX11_samples_95 ?_
  refine rv_top (fun v29 => ?_)
  refine rv_istore (lv' := [(5, .int v29), (0, .ref (ad 78)), (1, .int p1), (2, .int p2), (3, .int r3), (4, .int v11), (6, .int v21)]) h 96 dX11_samples_96 (by decide) rfl ?_
  refine rv_iinc h 98 (fun v30 => [(6, .int v30), (5, .int v29), (0, .ref (ad 78)), (1, .int p1), (2, .int p2), (3, .int r3), (4, .int v11)]) dX11_samples_98 6 rfl rv_c1 (by decide) (fun _ => rfl) (fun v30 => ?_)
  refine rv_goto (tgt := 74) h 101 dX11_samples_101 (by decide) ?_
  refine rv_sub h [2, 3, 4, 5, 6, 1, 0] rfl ?_
  exact ih19 v29 v30 w28
def f_X11_sample (p1 : Int32) (p2 : Int32) (p3 : Int32) (w : rv_W) : rv_R :=
  rv_bd (f_X11_isRule p1 w) (fun (r1 : Int32) (w2 : rv_W) =>
  if r1 = 0 then
  some ((-1000001 : Int32), w2)
  else
  rv_bd (f_X11_in p3 (1 : Int32) (50 : Int32) w2) (fun (r3 : Int32) (w4 : rv_W) =>
  if r3 = 0 then
  some ((-1000002 : Int32), w4)
  else
  rv_ck (0 : Int32) 852 (
  if (w4 79 (0 : Int32).toNatClampNeg) = 0 then
  some ((-1000003 : Int32), w4)
  else
  rv_lt (rv_up w4 78 23 p2) (fun (w5 : rv_W) =>
  rv_bd (f_X11_samples p1 p3 w5) (fun (r6 : Int32) (w7 : rv_W) =>
  if r6 < 0 then
  some ((-1000000 : Int32), w7)
  else
  some (r6, w7))))))
set_option maxRecDepth 100000 in
set_option maxHeartbeats 4000000 in
theorem fn_X11_sample {l : Launch} {D : va_G} {ad : Nat → Nat} {ca : Nat → ClassId} (hJ : rv_J ad) (p1 : Int32) (p2 : Int32) (p3 : Int32)  (w : rv_W) : rv_Fn l D ad ca yX11_sample cX11_sample 5 (some .int) 8 193 [.ref (ad 78), .int p1, .int p2, .int p3] w (f_X11_sample p1 p2 p3 w) := by
  refine rv_mk (lv := [(0, .ref (ad 78)), (1, .int p1), (2, .int p2), (3, .int p3)]) hJ (by decide +kernel) (Nat.le_of_ble_eq_true rfl) rfl (fun K h hr => ?_)
  have h : rv_Rl D ad ca l RX11 cX11_sample 5 8 193 K := h
  unfold f_X11_sample
  refine rv_iload_n h 0 dX11_sample_0 1 rfl ?_
  refine rv_callSi h 1 dX11_sample_1 (fn_X11_isRule hJ p1  w) ce_X11_isRule lk_X11_244 rfl rfl (Nat.le_of_ble_eq_true rfl) ⟨Nat.le_of_ble_eq_true rfl, Nat.le_of_ble_eq_true rfl⟩ (fun r1 w2 => ?_)
  refine rv_if_ne (tgt := 10) h 4 dX11_sample_4 (by decide) (fun _ => ?_) (fun _ => ?_)
  · refine rv_ldc h 7 dX11_sample_7 rv_kc_X11_236 ?_
    exact rv_reti hr 9 dX11_sample_9
  refine rv_iload_n h 10 dX11_sample_10 3 rfl ?_
  refine rv_iconst h 11 dX11_sample_11 rv_c1 ?_
  refine rv_bipush (v := 50) h 12 dX11_sample_12 (by decide +kernel) ?_
  refine rv_callSi h 14 dX11_sample_14 (fn_X11_in hJ p3 (1 : Int32) (50 : Int32)  w2) ce_X11_in lk_X11_70 rfl rfl (Nat.le_of_ble_eq_true rfl) ⟨Nat.le_of_ble_eq_true rfl, Nat.le_of_ble_eq_true rfl⟩ (fun r3 w4 => ?_)
  refine rv_if_ne (tgt := 23) h 17 dX11_sample_17 (by decide) (fun _ => ?_) (fun _ => ?_)
  · refine rv_ldc h 20 dX11_sample_20 rv_kc_X11_225 ?_
    exact rv_reti hr 22 dX11_sample_22
  refine rv_aload_n h 23 dX11_sample_23 0 rfl ?_
  refine rv_getr h 24 dX11_sample_24 rv_s78 rv_fd_X11_7 rfl ?_
  refine rv_iconst h 27 dX11_sample_27 rv_c0 ?_
  refine rv_iald h 28 dX11_sample_28 rv_s79 ?_
  refine rv_if_ne (tgt := 35) h 29 dX11_sample_29 (by decide) (fun _ => ?_) (fun _ => ?_)
  · refine rv_ldc h 32 dX11_sample_32 rv_kc_X11_240 ?_
    exact rv_reti hr 34 dX11_sample_34
  refine rv_aload_n h 35 dX11_sample_35 0 rfl ?_
  refine rv_iload_n h 36 dX11_sample_36 2 rfl ?_
  refine rv_puti h 37 dX11_sample_37 rv_s78 rv_fd_X11_276 rfl ⟨rfl, rfl⟩ (fun w5 => ?_)
  refine rv_aload_n h 40 dX11_sample_40 0 rfl ?_
  refine rv_iload_n h 41 dX11_sample_41 1 rfl ?_
  refine rv_iload_n h 42 dX11_sample_42 3 rfl ?_
  refine rv_callVi h 43 dX11_sample_43 (fn_X11_samples hJ p1 p3  w5) ce_X11_samples lk_X11_280 rv_s78 rfl rv_cf9 rfl rfl (Nat.le_of_ble_eq_true rfl) ⟨Nat.le_of_ble_eq_true rfl, Nat.le_of_ble_eq_true rfl⟩ (fun r6 w7 => ?_)
  refine rv_istore (lv' := [(4, .int r6), (0, .ref (ad 78)), (1, .int p1), (2, .int p2), (3, .int p3)]) h 46 dX11_sample_46 (by decide) rfl ?_
  refine rv_iload h 48 dX11_sample_48 0 rfl ?_
  refine rv_if_ge (tgt := 58) h 50 dX11_sample_50 (by decide) (fun _ => ?_) (fun _ => ?_)
  rotate_left
  · refine rv_iload h 58 dX11_sample_58 0 rfl ?_
    exact rv_reti hr 60 dX11_sample_60
  refine rv_ldc h 53 dX11_sample_53 rv_kc_X11_250 ?_
  refine rv_goto (tgt := 60) h 55 dX11_sample_55 (by decide) ?_
  exact rv_reti hr 60 dX11_sample_60
def f_X11_agreeing (p1 : Int32) (p2 : Int32) (p3 : Int32) (p4 : Int32) (w : rv_W) : rv_R :=
  rv_bd (f_X11_isRule p1 w) (fun (r1 : Int32) (w2 : rv_W) =>
  if r1 = 0 then
  some ((-1000001 : Int32), w2)
  else
  rv_bd (f_X11_in p3 (1 : Int32) (50 : Int32) w2) (fun (r3 : Int32) (w4 : rv_W) =>
  if r3 = 0 then
  some ((-1000002 : Int32), w4)
  else
  rv_bd (f_X11_in p4 (1 : Int32) (20 : Int32) w4) (fun (r5 : Int32) (w6 : rv_W) =>
  if r5 = 0 then
  some ((-1000002 : Int32), w6)
  else
  rv_ck (0 : Int32) 852 (
  if (w6 79 (0 : Int32).toNatClampNeg) = 0 then
  some ((-1000003 : Int32), w6)
  else
  rv_ck (1 : Int32) 852 (
  if (w6 79 (1 : Int32).toNatClampNeg) = 0 then
  some ((-1000003 : Int32), w6)
  else
  rv_bd (f_X11_now p1 w6) (fun (r7 : Int32) (w8 : rv_W) =>
  rv_lt (rv_up w8 78 23 p2) (fun (w9 : rv_W) =>
  rv_fx (fun _ _ _ => none) (fun (ag10 : Int32 → Int32 → rv_W → rv_R) (v12 : Int32) (v13 : Int32) (w14 : rv_W) =>
  if v13 < p4 then
  rv_bd (f_X11_samples p1 p3 w14) (fun (r15 : Int32) (w16 : rv_W) =>
  if r15 = r7 then
  rv_lt ((v12 + (1 : Int32))) (fun (v19 : Int32) =>
  rv_lt (v13 + (1 : Int32)) (fun (v20 : Int32) =>
  ag10 v19 v20 w16))
  else
  rv_lt ((v12 + (0 : Int32))) (fun (v17 : Int32) =>
  rv_lt (v13 + (1 : Int32)) (fun (v18 : Int32) =>
  ag10 v17 v18 w16)))
  else
  some (v12, w14)) rv_FU (0 : Int32) (0 : Int32) w9)))))))
set_option maxRecDepth 100000 in
set_option maxHeartbeats 4000000 in
theorem fn_X11_agreeing {l : Launch} {D : va_G} {ad : Nat → Nat} {ca : Nat → ClassId} (hJ : rv_J ad) (p1 : Int32) (p2 : Int32) (p3 : Int32) (p4 : Int32)  (w : rv_W) : rv_Fn l D ad ca yX11_agreeing cX11_agreeing 8 (some .int) 8 193 [.ref (ad 78), .int p1, .int p2, .int p3, .int p4] w (f_X11_agreeing p1 p2 p3 p4 w) := by
  refine rv_mk (lv := [(0, .ref (ad 78)), (1, .int p1), (2, .int p2), (3, .int p3), (4, .int p4)]) hJ (by decide +kernel) (Nat.le_of_ble_eq_true rfl) rfl (fun K h hr => ?_)
  have h : rv_Rl D ad ca l RX11 cX11_agreeing 8 8 193 K := h
  unfold f_X11_agreeing
  refine rv_iload_n h 0 dX11_agreeing_0 1 rfl ?_
  refine rv_callSi h 1 dX11_agreeing_1 (fn_X11_isRule hJ p1  w) ce_X11_isRule lk_X11_244 rfl rfl (Nat.le_of_ble_eq_true rfl) ⟨Nat.le_of_ble_eq_true rfl, Nat.le_of_ble_eq_true rfl⟩ (fun r1 w2 => ?_)
  refine rv_if_ne (tgt := 10) h 4 dX11_agreeing_4 (by decide) (fun _ => ?_) (fun _ => ?_)
  · refine rv_ldc h 7 dX11_agreeing_7 rv_kc_X11_236 ?_
    exact rv_reti hr 9 dX11_agreeing_9
  refine rv_iload_n h 10 dX11_agreeing_10 3 rfl ?_
  refine rv_iconst h 11 dX11_agreeing_11 rv_c1 ?_
  refine rv_bipush (v := 50) h 12 dX11_agreeing_12 (by decide +kernel) ?_
  refine rv_callSi h 14 dX11_agreeing_14 (fn_X11_in hJ p3 (1 : Int32) (50 : Int32)  w2) ce_X11_in lk_X11_70 rfl rfl (Nat.le_of_ble_eq_true rfl) ⟨Nat.le_of_ble_eq_true rfl, Nat.le_of_ble_eq_true rfl⟩ (fun r3 w4 => ?_)
  refine rv_if_eq (tgt := 31) h 17 dX11_agreeing_17 (by decide) (fun _ => ?_) (fun _ => ?_)
  · refine rv_ldc h 31 dX11_agreeing_31 rv_kc_X11_225 ?_
    exact rv_reti hr 33 dX11_agreeing_33
  refine rv_iload h 20 dX11_agreeing_20 4 rfl ?_
  refine rv_iconst h 22 dX11_agreeing_22 rv_c1 ?_
  refine rv_bipush (v := 20) h 23 dX11_agreeing_23 (by decide +kernel) ?_
  refine rv_callSi h 25 dX11_agreeing_25 (fn_X11_in hJ p4 (1 : Int32) (20 : Int32)  w4) ce_X11_in lk_X11_70 rfl rfl (Nat.le_of_ble_eq_true rfl) ⟨Nat.le_of_ble_eq_true rfl, Nat.le_of_ble_eq_true rfl⟩ (fun r5 w6 => ?_)
  refine rv_if_ne (tgt := 34) h 28 dX11_agreeing_28 (by decide) (fun _ => ?_) (fun _ => ?_)
  · refine rv_ldc h 31 dX11_agreeing_31 rv_kc_X11_225 ?_
    exact rv_reti hr 33 dX11_agreeing_33
  refine rv_aload_n h 34 dX11_agreeing_34 0 rfl ?_
  refine rv_getr h 35 dX11_agreeing_35 rv_s78 rv_fd_X11_7 rfl ?_
  refine rv_iconst h 38 dX11_agreeing_38 rv_c0 ?_
  refine rv_iald h 39 dX11_agreeing_39 rv_s79 ?_
  refine rv_if_eq (tgt := 52) h 40 dX11_agreeing_40 (by decide) (fun _ => ?_) (fun _ => ?_)
  · refine rv_ldc h 52 dX11_agreeing_52 rv_kc_X11_240 ?_
    exact rv_reti hr 54 dX11_agreeing_54
  refine rv_aload_n h 43 dX11_agreeing_43 0 rfl ?_
  refine rv_getr h 44 dX11_agreeing_44 rv_s78 rv_fd_X11_7 rfl ?_
  refine rv_iconst h 47 dX11_agreeing_47 rv_c1 ?_
  refine rv_iald h 48 dX11_agreeing_48 rv_s79 ?_
  refine rv_if_ne (tgt := 55) h 49 dX11_agreeing_49 (by decide) (fun _ => ?_) (fun _ => ?_)
  · refine rv_ldc h 52 dX11_agreeing_52 rv_kc_X11_240 ?_
    exact rv_reti hr 54 dX11_agreeing_54
  refine rv_aload_n h 55 dX11_agreeing_55 0 rfl ?_
  refine rv_iload_n h 56 dX11_agreeing_56 1 rfl ?_
  refine rv_callVi h 57 dX11_agreeing_57 (fn_X11_now hJ p1  w6) ce_X11_now lk_X11_247 rv_s78 rfl rv_cf9 rfl rfl (Nat.le_of_ble_eq_true rfl) ⟨Nat.le_of_ble_eq_true rfl, Nat.le_of_ble_eq_true rfl⟩ (fun r7 w8 => ?_)
  refine rv_istore (lv' := [(5, .int r7), (0, .ref (ad 78)), (1, .int p1), (2, .int p2), (3, .int p3), (4, .int p4)]) h 60 dX11_agreeing_60 (by decide) rfl ?_
  refine rv_aload_n h 62 dX11_agreeing_62 1 rfl ?_
  refine rv_iload_n h 63 dX11_agreeing_63 3 rfl ?_
  refine rv_puti h 64 dX11_agreeing_64 rv_s78 rv_fd_X11_276 rfl ⟨rfl, rfl⟩ (fun w9 => ?_)
  refine rv_iconst h 67 dX11_agreeing_67 rv_c0 ?_
  refine rv_istore (lv' := [(6, .int (0 : Int32)), (5, .int r7), (0, .ref (ad 78)), (1, .int p1), (2, .int p2), (3, .int p3), (4, .int p4)]) h 68 dX11_agreeing_68 (by decide) rfl ?_
  refine rv_iconst h 70 dX11_agreeing_70 rv_c0 ?_
  refine rv_istore (lv' := [(7, .int (0 : Int32)), (6, .int (0 : Int32)), (5, .int r7), (0, .ref (ad 78)), (1, .int p1), (2, .int p2), (3, .int p3), (4, .int p4)]) h 71 dX11_agreeing_71 (by decide) rfl ?_
  refine rv_sub h [3, 4, 6, 7, 2, 1, 0] rfl ?_
  refine rv_fx_ind (fun (a0 : Int32 → Int32 → rv_W → rv_R) => ∀ (v12 : Int32) (v13 : Int32) (w14 : rv_W), K 73 [(0, .ref (ad 78)), (1, .int p1), (3, .int p3), (4, .int p4), (5, .int r7), (6, .int v12), (7, .int v13)] [] w14 (a0 v12 v13 w14)) (fun _ _ _ => rv_none h) (fun ag10 ih11 v12 v13 w14 => ?_) rv_FU (0 : Int32) (0 : Int32) w9
  refine rv_iload h 73 dX11_agreeing_73 6 rfl ?_
  refine rv_iload h 75 dX11_agreeing_75 3 rfl ?_
  refine rv_icmp_ge (tgt := 107) h 77 dX11_agreeing_77 (by decide) (fun _ => ?_) (fun _ => ?_)
  rotate_left
  · refine rv_iload h 107 dX11_agreeing_107 5 rfl ?_
    exact rv_reti hr 109 dX11_agreeing_109
  refine rv_iload h 80 dX11_agreeing_80 5 rfl ?_
  refine rv_aload_n h 82 dX11_agreeing_82 0 rfl ?_
  refine rv_iload_n h 83 dX11_agreeing_83 1 rfl ?_
  refine rv_iload_n h 84 dX11_agreeing_84 2 rfl ?_
  refine rv_callVi h 85 dX11_agreeing_85 (fn_X11_samples hJ p1 p3  w14) ce_X11_samples lk_X11_280 rv_s78 rfl rv_cf9 rfl rfl (Nat.le_of_ble_eq_true rfl) ⟨Nat.le_of_ble_eq_true rfl, Nat.le_of_ble_eq_true rfl⟩ (fun r15 w16 => ?_)
  refine rv_iload h 88 dX11_agreeing_88 4 rfl ?_
  refine rv_icmp_ne (tgt := 97) h 90 dX11_agreeing_90 (by decide) (fun _ => ?_) (fun _ => ?_)
  rotate_left
  · refine rv_iconst h 97 dX11_agreeing_97 rv_c0 ?_
    refine rv_iadd h 98 dX11_agreeing_98 ?_
    refine rv_top (fun v17 => ?_)
    refine rv_istore (lv' := [(6, .int v17), (0, .ref (ad 78)), (1, .int p1), (3, .int p3), (4, .int p4), (5, .int r7), (7, .int v13)]) h 99 dX11_agreeing_99 (by decide) rfl ?_
    refine rv_iinc h 101 (fun v18 => [(7, .int v18), (6, .int v17), (0, .ref (ad 78)), (1, .int p1), (3, .int p3), (4, .int p4), (5, .int r7)]) dX11_agreeing_101 6 rfl rv_c1 (by decide) (fun _ => rfl) (fun v18 => ?_)
    refine rv_goto (tgt := 73) h 104 dX11_agreeing_104 (by decide) ?_
    refine rv_sub h [2, 3, 4, 5, 6, 1, 0] rfl ?_
    exact ih11 v17 v18 w16
  refine rv_iconst h 93 dX11_agreeing_93 rv_c1 ?_
  refine rv_goto (tgt := 98) h 94 dX11_agreeing_94 (by decide) ?_
  refine rv_iadd h 98 dX11_agreeing_98 ?_
  refine rv_top (fun v19 => ?_)
  refine rv_istore (lv' := [(6, .int v19), (0, .ref (ad 78)), (1, .int p1), (3, .int p3), (4, .int p4), (5, .int r7), (7, .int v13)]) h 99 dX11_agreeing_99 (by decide) rfl ?_
  refine rv_iinc h 101 (fun v20 => [(7, .int v20), (6, .int v19), (0, .ref (ad 78)), (1, .int p1), (3, .int p3), (4, .int p4), (5, .int r7)]) dX11_agreeing_101 6 rfl rv_c1 (by decide) (fun _ => rfl) (fun v20 => ?_)
  refine rv_goto (tgt := 73) h 104 dX11_agreeing_104 (by decide) ?_
  refine rv_sub h [2, 3, 4, 5, 6, 1, 0] rfl ?_
  exact ih11 v19 v20 w16
def f_X11_undo  (w : rv_W) : rv_R :=
  if (w 78 1) = 0 then
  some ((-1000003 : Int32), w)
  else
  rv_bd (f_X11_copies (w 78 1) (0 : Int32) w) (fun (r1 : Int32) (w2 : rv_W) =>
  rv_lt (rv_up w2 78 1 ((w2 78 1) - (1 : Int32))) (fun (w3 : rv_W) =>
  some ((w3 78 1), w3)))
set_option maxRecDepth 100000 in
set_option maxHeartbeats 4000000 in
theorem fn_X11_undo {l : Launch} {D : va_G} {ad : Nat → Nat} {ca : Nat → ClassId} (hJ : rv_J ad)   (w : rv_W) : rv_Fn l D ad ca yX11_undo cX11_undo 1 (some .int) 1 23 [.ref (ad 78)] w (f_X11_undo  w) := by
  refine rv_mk (lv := [(0, .ref (ad 78))]) hJ (by decide +kernel) (Nat.le_of_ble_eq_true rfl) rfl (fun K h hr => ?_)
  have h : rv_Rl D ad ca l RX11 cX11_undo 1 1 23 K := h
  unfold f_X11_undo
  refine rv_aload_n h 0 dX11_undo_0 0 rfl ?_
  refine rv_geti h 1 dX11_undo_1 rv_s78 rv_fd_X11_62 rfl ?_
  refine rv_if_ne (tgt := 10) h 4 dX11_undo_4 (by decide) (fun _ => ?_) (fun _ => ?_)
  · refine rv_ldc h 7 dX11_undo_7 rv_kc_X11_240 ?_
    exact rv_reti hr 9 dX11_undo_9
  refine rv_aload_n h 10 dX11_undo_10 0 rfl ?_
  refine rv_aload_n h 11 dX11_undo_11 0 rfl ?_
  refine rv_geti h 12 dX11_undo_12 rv_s78 rv_fd_X11_62 rfl ?_
  refine rv_iconst h 15 dX11_undo_15 rv_c0 ?_
  refine rv_callVv h 16 dX11_undo_16 (fn_X11_copies hJ (w 78 1) (0 : Int32)  w) ce_X11_copies lk_X11_66 rv_s78 rfl rv_cf9 rfl rfl (Nat.le_of_ble_eq_true rfl) ⟨Nat.le_of_ble_eq_true rfl, Nat.le_of_ble_eq_true rfl⟩ (fun r1 w2 => ?_)
  refine rv_aload_n h 19 dX11_undo_19 0 rfl ?_
  refine rv_dup h 20 dX11_undo_20 rfl ?_
  refine rv_geti h 21 dX11_undo_21 rv_s78 rv_fd_X11_62 rfl ?_
  refine rv_iconst h 24 dX11_undo_24 rv_c1 ?_
  refine rv_isub h 25 dX11_undo_25 ?_
  refine rv_puti h 26 dX11_undo_26 rv_s78 rv_fd_X11_62 rfl ⟨rfl, rfl⟩ (fun w3 => ?_)
  refine rv_aload_n h 29 dX11_undo_29 0 rfl ?_
  refine rv_geti h 30 dX11_undo_30 rv_s78 rv_fd_X11_62 rfl ?_
  exact rv_reti hr 33 dX11_undo_33
def f_X11_type (p1 : Int32) (w : rv_W) : rv_R :=
  rv_bd (f_X11_in p1 (0 : Int32) (255 : Int32) w) (fun (r1 : Int32) (w2 : rv_W) =>
  if r1 = 0 then
  some ((-1000002 : Int32), w2)
  else
  if (w2 78 3) = (100 : Int32) then
  some ((-1000004 : Int32), w2)
  else
  rv_ck (w2 78 3) 100 (rv_lt (rv_up w2 80 (w2 78 3).toNatClampNeg p1) (fun (w3 : rv_W) =>
  rv_lt (rv_up w3 78 3 ((w3 78 3) + (1 : Int32))) (fun (w4 : rv_W) =>
  some ((w4 78 3), w4)))))
set_option maxRecDepth 100000 in
set_option maxHeartbeats 4000000 in
theorem fn_X11_type {l : Launch} {D : va_G} {ad : Nat → Nat} {ca : Nat → ClassId} (hJ : rv_J ad) (p1 : Int32)  (w : rv_W) : rv_Fn l D ad ca yX11_type cX11_type 2 (some .int) 1 22 [.ref (ad 78), .int p1] w (f_X11_type p1 w) := by
  refine rv_mk (lv := [(0, .ref (ad 78)), (1, .int p1)]) hJ (by decide +kernel) (Nat.le_of_ble_eq_true rfl) rfl (fun K h hr => ?_)
  have h : rv_Rl D ad ca l RX11 cX11_type 2 1 22 K := h
  unfold f_X11_type
  refine rv_iload_n h 0 dX11_type_0 1 rfl ?_
  refine rv_iconst h 1 dX11_type_1 rv_c0 ?_
  refine rv_sipush (v := 255) h 2 dX11_type_2 (by decide +kernel) ?_
  refine rv_callSi h 5 dX11_type_5 (fn_X11_in hJ p1 (0 : Int32) (255 : Int32)  w) ce_X11_in lk_X11_70 rfl rfl (Nat.le_of_ble_eq_true rfl) ⟨Nat.le_of_ble_eq_true rfl, Nat.le_of_ble_eq_true rfl⟩ (fun r1 w2 => ?_)
  refine rv_if_ne (tgt := 14) h 8 dX11_type_8 (by decide) (fun _ => ?_) (fun _ => ?_)
  · refine rv_ldc h 11 dX11_type_11 rv_kc_X11_225 ?_
    exact rv_reti hr 13 dX11_type_13
  refine rv_aload_n h 14 dX11_type_14 0 rfl ?_
  refine rv_geti h 15 dX11_type_15 rv_s78 rv_fd_X11_283 rfl ?_
  refine rv_bipush (v := 100) h 18 dX11_type_18 (by decide +kernel) ?_
  refine rv_icmp_ne (tgt := 26) h 20 dX11_type_20 (by decide) (fun _ => ?_) (fun _ => ?_)
  · refine rv_ldc h 23 dX11_type_23 rv_kc_X11_226 ?_
    exact rv_reti hr 25 dX11_type_25
  refine rv_aload_n h 26 dX11_type_26 0 rfl ?_
  refine rv_getr h 27 dX11_type_27 rv_s78 rv_fd_X11_13 rfl ?_
  refine rv_aload_n h 30 dX11_type_30 0 rfl ?_
  refine rv_geti h 31 dX11_type_31 rv_s78 rv_fd_X11_283 rfl ?_
  refine rv_iload_n h 34 dX11_type_34 1 rfl ?_
  refine rv_iast h 35 dX11_type_35 rv_s80 (fun w3 => ?_)
  refine rv_aload_n h 36 dX11_type_36 0 rfl ?_
  refine rv_dup h 37 dX11_type_37 rfl ?_
  refine rv_geti h 38 dX11_type_38 rv_s78 rv_fd_X11_283 rfl ?_
  refine rv_iconst h 41 dX11_type_41 rv_c1 ?_
  refine rv_iadd h 42 dX11_type_42 ?_
  refine rv_puti h 43 dX11_type_43 rv_s78 rv_fd_X11_283 rfl ⟨rfl, rfl⟩ (fun w4 => ?_)
  refine rv_aload_n h 46 dX11_type_46 0 rfl ?_
  refine rv_geti h 47 dX11_type_47 rv_s78 rv_fd_X11_283 rfl ?_
  exact rv_reti hr 50 dX11_type_50
def f_X11_clearText  (w : rv_W) : rv_R :=
  rv_lt (rv_up w 78 3 (0 : Int32)) (fun (w1 : rv_W) =>
  some ((w 78 3), w1))
set_option maxRecDepth 100000 in
set_option maxHeartbeats 4000000 in
theorem fn_X11_clearText {l : Launch} {D : va_G} {ad : Nat → Nat} {ca : Nat → ClassId} (hJ : rv_J ad)   (w : rv_W) : rv_Fn l D ad ca yX11_clearText cX11_clearText 2 (some .int) 0 0 [.ref (ad 78)] w (f_X11_clearText  w) := by
  refine rv_mk (lv := [(0, .ref (ad 78))]) hJ (by decide +kernel) (Nat.le_of_ble_eq_true rfl) rfl (fun K h hr => ?_)
  have h : rv_Rl D ad ca l RX11 cX11_clearText 2 0 0 K := h
  unfold f_X11_clearText
  refine rv_aload_n h 0 dX11_clearText_0 0 rfl ?_
  refine rv_geti h 1 dX11_clearText_1 rv_s78 rv_fd_X11_283 rfl ?_
  refine rv_istore_n (lv' := [(1, .int (w 78 3)), (0, .ref (ad 78))]) h 4 dX11_clearText_4 (by decide) rfl ?_
  refine rv_aload_n h 5 dX11_clearText_5 1 rfl ?_
  refine rv_iconst h 6 dX11_clearText_6 rv_c0 ?_
  refine rv_puti h 7 dX11_clearText_7 rv_s78 rv_fd_X11_283 rfl ⟨rfl, rfl⟩ (fun w1 => ?_)
  refine rv_iload_n h 10 dX11_clearText_10 0 rfl ?_
  exact rv_reti hr 11 dX11_clearText_11
def f_X11_here  (w : rv_W) : rv_R :=
  rv_fx (fun _ => none) (fun (ag1 : rv_W → rv_R)  (w3 : rv_W) =>
  rv_jn (fun  (w4 : rv_W) =>
  if (w4 78 24) < (w4 78 3) then
  rv_ck (w4 78 24) 100 (
  some ((w4 80 (w4 78 24).toNatClampNeg), w4))
  else
  some ((-1 : Int32), w4)) (fun (k5 : rv_W → rv_R) =>
  if (w3 78 24) < (w3 78 3) then
  rv_ck (w3 78 24) 100 (
  if (w3 80 (w3 78 24).toNatClampNeg) = (32 : Int32) then
  rv_lt (rv_up w3 78 24 ((w3 78 24) + (1 : Int32))) (fun (w7 : rv_W) =>
  ag1 w7)
  else
  k5 w3)
  else
  k5 w3)) rv_FU w
set_option maxRecDepth 100000 in
set_option maxHeartbeats 4000000 in
theorem fn_X11_here {l : Launch} {D : va_G} {ad : Nat → Nat} {ca : Nat → ClassId} (hJ : rv_J ad)   (w : rv_W) : rv_Fn l D ad ca yX11_here cX11_here 1 (some .int) 0 0 [.ref (ad 78)] w (f_X11_here  w) := by
  refine rv_mk (lv := [(0, .ref (ad 78))]) hJ (by decide +kernel) (Nat.le_of_ble_eq_true rfl) rfl (fun K h hr => ?_)
  have h : rv_Rl D ad ca l RX11 cX11_here 1 0 0 K := h
  unfold f_X11_here
  refine rv_sub h [0] rfl ?_
  refine rv_fx_ind (fun (a0 : rv_W → rv_R) => ∀  (w3 : rv_W), K 0 [(0, .ref (ad 78))] [] w3 (a0 w3)) (fun _ => rv_none h) (fun ag1 ih2 w3 => ?_) rv_FU w
  refine rv_aload_n h 0 dX11_here_0 0 rfl ?_
  refine rv_geti h 1 dX11_here_1 rv_s78 rv_fd_X11_286 rfl ?_
  refine rv_aload_n h 4 dX11_here_4 0 rfl ?_
  refine rv_geti h 5 dX11_here_5 rv_s78 rv_fd_X11_283 rfl ?_
  refine rv_join (fun (k0 : rv_W → rv_R) => ∀  (w4 : rv_W), K 38 [(0, .ref (ad 78))] ([]) w4 (k0 w4)) (fun w4 => ?_) (fun k5 hk6 => ?_)
  · refine rv_aload_n h 38 dX11_here_38 0 rfl ?_
    refine rv_geti h 39 dX11_here_39 rv_s78 rv_fd_X11_286 rfl ?_
    refine rv_aload_n h 42 dX11_here_42 0 rfl ?_
    refine rv_geti h 43 dX11_here_43 rv_s78 rv_fd_X11_283 rfl ?_
    refine rv_icmp_ge (tgt := 61) h 46 dX11_here_46 (by decide) (fun _ => ?_) (fun _ => ?_)
    rotate_left
    · refine rv_iconst h 61 dX11_here_61 rv_cm1 ?_
      exact rv_reti hr 62 dX11_here_62
    refine rv_aload_n h 49 dX11_here_49 0 rfl ?_
    refine rv_getr h 50 dX11_here_50 rv_s78 rv_fd_X11_13 rfl ?_
    refine rv_aload_n h 53 dX11_here_53 0 rfl ?_
    refine rv_geti h 54 dX11_here_54 rv_s78 rv_fd_X11_286 rfl ?_
    refine rv_iald h 57 dX11_here_57 rv_s80 ?_
    refine rv_goto (tgt := 62) h 58 dX11_here_58 (by decide) ?_
    exact rv_reti hr 62 dX11_here_62
  refine rv_icmp_ge (tgt := 38) h 8 dX11_here_8 (by decide) (fun _ => ?_) (fun _ => ?_)
  rotate_left
  · refine rv_sub h [0] rfl ?_
    exact hk6 w3
  refine rv_aload_n h 11 dX11_here_11 0 rfl ?_
  refine rv_getr h 12 dX11_here_12 rv_s78 rv_fd_X11_13 rfl ?_
  refine rv_aload_n h 15 dX11_here_15 0 rfl ?_
  refine rv_geti h 16 dX11_here_16 rv_s78 rv_fd_X11_286 rfl ?_
  refine rv_iald h 19 dX11_here_19 rv_s80 ?_
  refine rv_bipush (v := 32) h 20 dX11_here_20 (by decide +kernel) ?_
  refine rv_icmp_ne (tgt := 38) h 22 dX11_here_22 (by decide) (fun _ => ?_) (fun _ => ?_)
  rotate_left
  · refine rv_sub h [0] rfl ?_
    exact hk6 w3
  refine rv_aload_n h 25 dX11_here_25 0 rfl ?_
  refine rv_dup h 26 dX11_here_26 rfl ?_
  refine rv_geti h 27 dX11_here_27 rv_s78 rv_fd_X11_286 rfl ?_
  refine rv_iconst h 30 dX11_here_30 rv_c1 ?_
  refine rv_iadd h 31 dX11_here_31 ?_
  refine rv_puti h 32 dX11_here_32 rv_s78 rv_fd_X11_286 rfl ⟨rfl, rfl⟩ (fun w7 => ?_)
  refine rv_goto (tgt := 0) h 35 dX11_here_35 (by decide) ?_
  refine rv_sub h [0] rfl ?_
  exact ih2 w7
