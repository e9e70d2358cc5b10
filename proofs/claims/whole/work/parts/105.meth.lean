def f_X10_strategy (p1 : Int32) (p2 : Int32) (w : rv_W) : rv_R :=
  rv_bd (f_X10_isRule p1 w) (fun (r1 : Int32) (w2 : rv_W) =>
  if r1 = 0 then
  some ((-1000001 : Int32), w2)
  else
  rv_bd (f_X8_holds 1 p2 w2) (fun (r3 : Int32) (w4 : rv_W) =>
  if r3 = 0 then
  some ((-1000001 : Int32), w4)
  else
  rv_bd (f_X10_bestStrategy p1 p2 w4) (fun (r5 : Int32) (w6 : rv_W) =>
  if r5 = 0 then
  some ((-1000000 : Int32), w6)
  else
  rv_bd (f_X8_votersOf 1 p2 w6) (fun (r7 : Int32) (w8 : rv_W) =>
  rv_bd (f_X5_cast p2 r7 r5 w8) (fun (r9 : Int32) (w10 : rv_W) =>
  rv_bd (f_X7_winnerBy p1 w10) (fun (r11 : Int32) (w12 : rv_W) =>
  some (r11, w12)))))))
set_option maxRecDepth 100000 in
set_option maxHeartbeats 4000000 in
theorem fn_X10_strategy {l : Launch} {D : va_G} {ad : Nat → Nat} {ca : Nat → ClassId} (hJ : rv_J ad) (p1 : Int32) (p2 : Int32)  (w : rv_W) : rv_Fn l D ad ca yX10_strategy cX10_strategy 4 (some .int) 6 150 [.ref (ad 0), .int p1, .int p2] w (f_X10_strategy p1 p2 w) := by
  refine rv_mk (lv := [(0, .ref (ad 0)), (1, .int p1), (2, .int p2)]) hJ (by decide +kernel) (Nat.le_of_ble_eq_true rfl) rfl (fun K h hr => ?_)
  have h : rv_Rl D ad ca l RX10 cX10_strategy 4 6 150 K := h
  unfold f_X10_strategy
  refine rv_iload_n h 0 dX10_strategy_0 1 rfl ?_
  refine rv_callSi h 1 dX10_strategy_1 (fn_X10_isRule hJ p1  w) ce_X10_isRule lk_X10_128 rfl rfl (Nat.le_of_ble_eq_true rfl) ⟨Nat.le_of_ble_eq_true rfl, Nat.le_of_ble_eq_true rfl⟩ (fun r1 w2 => ?_)
  refine rv_if_eq (tgt := 18) h 4 dX10_strategy_4 (by decide) (fun _ => ?_) (fun _ => ?_)
  · refine rv_ldc h 18 dX10_strategy_18 rv_kc_X10_75 ?_
    exact rv_reti hr 20 dX10_strategy_20
  refine rv_aload_n h 7 dX10_strategy_7 0 rfl ?_
  refine rv_getr h 8 dX10_strategy_8 rv_s0 rv_fd_X10_10 rfl ?_
  refine rv_iload_n h 11 dX10_strategy_11 2 rfl ?_
  refine rv_callVi h 12 dX10_strategy_12 (fn_X8_holds hJ 1 p2 (by decide) w2) ce_X8_holds lk_X10_72 rv_s1 rfl rv_cf6 rfl rfl (Nat.le_of_ble_eq_true rfl) ⟨Nat.le_of_ble_eq_true rfl, Nat.le_of_ble_eq_true rfl⟩ (fun r3 w4 => ?_)
  refine rv_if_ne (tgt := 21) h 15 dX10_strategy_15 (by decide) (fun _ => ?_) (fun _ => ?_)
  · refine rv_ldc h 18 dX10_strategy_18 rv_kc_X10_75 ?_
    exact rv_reti hr 20 dX10_strategy_20
  refine rv_aload_n h 21 dX10_strategy_21 0 rfl ?_
  refine rv_iload_n h 22 dX10_strategy_22 1 rfl ?_
  refine rv_iload_n h 23 dX10_strategy_23 2 rfl ?_
  refine rv_callVi h 24 dX10_strategy_24 (fn_X10_bestStrategy hJ p1 p2  w4) ce_X10_bestStrategy lk_X10_228 rv_s0 rfl rv_cf8 rfl rfl (Nat.le_of_ble_eq_true rfl) ⟨Nat.le_of_ble_eq_true rfl, Nat.le_of_ble_eq_true rfl⟩ (fun r5 w6 => ?_)
  refine rv_istore_n (lv' := [(3, .int r5), (0, .ref (ad 0)), (1, .int p1), (2, .int p2)]) h 27 dX10_strategy_27 (by decide) rfl ?_
  refine rv_iload_n h 28 dX10_strategy_28 0 rfl ?_
  refine rv_if_ne (tgt := 35) h 29 dX10_strategy_29 (by decide) (fun _ => ?_) (fun _ => ?_)
  · refine rv_ldc h 32 dX10_strategy_32 rv_kc_X10_227 ?_
    exact rv_reti hr 34 dX10_strategy_34
  refine rv_aload_n h 35 dX10_strategy_35 1 rfl ?_
  refine rv_getr h 36 dX10_strategy_36 rv_s0 rv_fd_X10_30 rfl ?_
  refine rv_iload_n h 39 dX10_strategy_39 3 rfl ?_
  refine rv_aload_n h 40 dX10_strategy_40 1 rfl ?_
  refine rv_getr h 41 dX10_strategy_41 rv_s0 rv_fd_X10_10 rfl ?_
  refine rv_iload_n h 44 dX10_strategy_44 3 rfl ?_
  refine rv_callVi h 45 dX10_strategy_45 (fn_X8_votersOf hJ 1 p2 (by decide) w6) ce_X8_votersOf lk_X10_80 rv_s1 rfl rv_cf6 rfl rfl (Nat.le_of_ble_eq_true rfl) ⟨Nat.le_of_ble_eq_true rfl, Nat.le_of_ble_eq_true rfl⟩ (fun r7 w8 => ?_)
  refine rv_iload_n h 48 dX10_strategy_48 0 rfl ?_
  refine rv_callVv h 49 dX10_strategy_49 (fn_X5_cast hJ p2 r7 r5  w8) ce_X5_cast lk_X10_231 rv_s24 rfl rv_cf3 rfl rfl (Nat.le_of_ble_eq_true rfl) ⟨Nat.le_of_ble_eq_true rfl, Nat.le_of_ble_eq_true rfl⟩ (fun r9 w10 => ?_)
  refine rv_aload_n h 52 dX10_strategy_52 1 rfl ?_
  refine rv_getr h 53 dX10_strategy_53 rv_s0 rv_fd_X10_37 rfl ?_
  refine rv_iload_n h 56 dX10_strategy_56 2 rfl ?_
  refine rv_aload_n h 57 dX10_strategy_57 1 rfl ?_
  refine rv_getr h 58 dX10_strategy_58 rv_s0 rv_fd_X10_30 rfl ?_
  refine rv_callVi h 61 dX10_strategy_61 (fn_X7_winnerBy hJ p1  w10) ce_X7_winnerBy lk_X10_135 rv_s53 rfl rv_cf5 rfl rfl (Nat.le_of_ble_eq_true rfl) ⟨Nat.le_of_ble_eq_true rfl, Nat.le_of_ble_eq_true rfl⟩ (fun r11 w12 => ?_)
  exact rv_reti hr 64 dX10_strategy_64
def f_X10_strategyAt (p1 : Int32) (p2 : Int32) (p3 : Int32) (w : rv_W) : rv_R :=
  rv_bd (f_X10_isRule p1 w) (fun (r1 : Int32) (w2 : rv_W) =>
  if r1 = 0 then
  some ((-1000001 : Int32), w2)
  else
  rv_bd (f_X8_holds 1 p2 w2) (fun (r3 : Int32) (w4 : rv_W) =>
  if r3 = 0 then
  some ((-1000001 : Int32), w4)
  else
  rv_bd (f_X10_isPlace p3 w4) (fun (r5 : Int32) (w6 : rv_W) =>
  if r5 = 0 then
  some ((-1000001 : Int32), w6)
  else
  rv_bd (f_X10_bestStrategy p1 p2 w6) (fun (r7 : Int32) (w8 : rv_W) =>
  rv_bd (f_X0_at r7 p3 w8) (fun (r9 : Int32) (w10 : rv_W) =>
  rv_bd (f_X10_orNone r9 w10) (fun (r11 : Int32) (w12 : rv_W) =>
  some (r11, w12)))))))
set_option maxRecDepth 100000 in
set_option maxHeartbeats 4000000 in
theorem fn_X10_strategyAt {l : Launch} {D : va_G} {ad : Nat → Nat} {ca : Nat → ClassId} (hJ : rv_J ad) (p1 : Int32) (p2 : Int32) (p3 : Int32)  (w : rv_W) : rv_Fn l D ad ca yX10_strategyAt cX10_strategyAt 4 (some .int) 6 150 [.ref (ad 0), .int p1, .int p2, .int p3] w (f_X10_strategyAt p1 p2 p3 w) := by
  refine rv_mk (lv := [(0, .ref (ad 0)), (1, .int p1), (2, .int p2), (3, .int p3)]) hJ (by decide +kernel) (Nat.le_of_ble_eq_true rfl) rfl (fun K h hr => ?_)
  have h : rv_Rl D ad ca l RX10 cX10_strategyAt 4 6 150 K := h
  unfold f_X10_strategyAt
  refine rv_iload_n h 0 dX10_strategyAt_0 1 rfl ?_
  refine rv_callSi h 1 dX10_strategyAt_1 (fn_X10_isRule hJ p1  w) ce_X10_isRule lk_X10_128 rfl rfl (Nat.le_of_ble_eq_true rfl) ⟨Nat.le_of_ble_eq_true rfl, Nat.le_of_ble_eq_true rfl⟩ (fun r1 w2 => ?_)
  refine rv_if_eq (tgt := 26) h 4 dX10_strategyAt_4 (by decide) (fun _ => ?_) (fun _ => ?_)
  · refine rv_ldc h 26 dX10_strategyAt_26 rv_kc_X10_75 ?_
    exact rv_reti hr 28 dX10_strategyAt_28
  refine rv_aload_n h 7 dX10_strategyAt_7 0 rfl ?_
  refine rv_getr h 8 dX10_strategyAt_8 rv_s0 rv_fd_X10_10 rfl ?_
  refine rv_iload_n h 11 dX10_strategyAt_11 2 rfl ?_
  refine rv_callVi h 12 dX10_strategyAt_12 (fn_X8_holds hJ 1 p2 (by decide) w2) ce_X8_holds lk_X10_72 rv_s1 rfl rv_cf6 rfl rfl (Nat.le_of_ble_eq_true rfl) ⟨Nat.le_of_ble_eq_true rfl, Nat.le_of_ble_eq_true rfl⟩ (fun r3 w4 => ?_)
  refine rv_if_eq (tgt := 26) h 15 dX10_strategyAt_15 (by decide) (fun _ => ?_) (fun _ => ?_)
  · refine rv_ldc h 26 dX10_strategyAt_26 rv_kc_X10_75 ?_
    exact rv_reti hr 28 dX10_strategyAt_28
  refine rv_aload_n h 18 dX10_strategyAt_18 0 rfl ?_
  refine rv_iload_n h 19 dX10_strategyAt_19 3 rfl ?_
  refine rv_callVi h 20 dX10_strategyAt_20 (fn_X10_isPlace hJ p3  w4) ce_X10_isPlace lk_X10_220 rv_s0 rfl rv_cf8 rfl rfl (Nat.le_of_ble_eq_true rfl) ⟨Nat.le_of_ble_eq_true rfl, Nat.le_of_ble_eq_true rfl⟩ (fun r5 w6 => ?_)
  refine rv_if_ne (tgt := 29) h 23 dX10_strategyAt_23 (by decide) (fun _ => ?_) (fun _ => ?_)
  · refine rv_ldc h 26 dX10_strategyAt_26 rv_kc_X10_75 ?_
    exact rv_reti hr 28 dX10_strategyAt_28
  refine rv_aload_n h 29 dX10_strategyAt_29 0 rfl ?_
  refine rv_iload_n h 30 dX10_strategyAt_30 1 rfl ?_
  refine rv_iload_n h 31 dX10_strategyAt_31 2 rfl ?_
  refine rv_callVi h 32 dX10_strategyAt_32 (fn_X10_bestStrategy hJ p1 p2  w6) ce_X10_bestStrategy lk_X10_228 rv_s0 rfl rv_cf8 rfl rfl (Nat.le_of_ble_eq_true rfl) ⟨Nat.le_of_ble_eq_true rfl, Nat.le_of_ble_eq_true rfl⟩ (fun r7 w8 => ?_)
  refine rv_iload_n h 35 dX10_strategyAt_35 3 rfl ?_
  refine rv_callSi h 36 dX10_strategyAt_36 (fn_X0_at hJ r7 p3  w8) ce_X0_at lk_X10_234 rfl rfl (Nat.le_of_ble_eq_true rfl) ⟨Nat.le_of_ble_eq_true rfl, Nat.le_of_ble_eq_true rfl⟩ (fun r9 w10 => ?_)
  refine rv_callSi h 39 dX10_strategyAt_39 (fn_X10_orNone hJ r9  w10) ce_X10_orNone lk_X10_164 rfl rfl (Nat.le_of_ble_eq_true rfl) ⟨Nat.le_of_ble_eq_true rfl, Nat.le_of_ble_eq_true rfl⟩ (fun r11 w12 => ?_)
  exact rv_reti hr 42 dX10_strategyAt_42
def f_X10_strategists (p1 : Int32) (w : rv_W) : rv_R :=
  rv_bd (f_X10_isRule p1 w) (fun (r1 : Int32) (w2 : rv_W) =>
  if r1 = 0 then
  some ((-1000001 : Int32), w2)
  else
  rv_fx (fun _ _ _ => none) (fun (ag3 : Int32 → Int32 → rv_W → rv_R) (v5 : Int32) (v6 : Int32) (w7 : rv_W) =>
  if v6 < (w7 1 1) then
  rv_bd (f_X10_bestStrategy p1 v6 w7) (fun (r8 : Int32) (w9 : rv_W) =>
  if r8 = 0 then
  rv_lt (v6 + (1 : Int32)) (fun (v10 : Int32) =>
  ag3 v5 v10 w9)
  else
  rv_lt ((v5 ||| ((1 : Int32) <<< (v6 &&& 31)))) (fun (v11 : Int32) =>
  rv_lt (v6 + (1 : Int32)) (fun (v12 : Int32) =>
  ag3 v11 v12 w9)))
  else
  some (v5, w7)) rv_FU (0 : Int32) (0 : Int32) w2)
set_option maxRecDepth 100000 in
set_option maxHeartbeats 4000000 in
theorem fn_X10_strategists {l : Launch} {D : va_G} {ad : Nat → Nat} {ca : Nat → ClassId} (hJ : rv_J ad) (p1 : Int32)  (w : rv_W) : rv_Fn l D ad ca yX10_strategists cX10_strategists 4 (some .int) 6 150 [.ref (ad 0), .int p1] w (f_X10_strategists p1 w) := by
  refine rv_mk (lv := [(0, .ref (ad 0)), (1, .int p1)]) hJ (by decide +kernel) (Nat.le_of_ble_eq_true rfl) rfl (fun K h hr => ?_)
  have h : rv_Rl D ad ca l RX10 cX10_strategists 4 6 150 K := h
  unfold f_X10_strategists
  refine rv_iload_n h 0 dX10_strategists_0 1 rfl ?_
  refine rv_callSi h 1 dX10_strategists_1 (fn_X10_isRule hJ p1  w) ce_X10_isRule lk_X10_128 rfl rfl (Nat.le_of_ble_eq_true rfl) ⟨Nat.le_of_ble_eq_true rfl, Nat.le_of_ble_eq_true rfl⟩ (fun r1 w2 => ?_)
  refine rv_if_ne (tgt := 10) h 4 dX10_strategists_4 (by decide) (fun _ => ?_) (fun _ => ?_)
  · refine rv_ldc h 7 dX10_strategists_7 rv_kc_X10_75 ?_
    exact rv_reti hr 9 dX10_strategists_9
  refine rv_iconst h 10 dX10_strategists_10 rv_c0 ?_
  refine rv_istore_n (lv' := [(2, .int (0 : Int32)), (0, .ref (ad 0)), (1, .int p1)]) h 11 dX10_strategists_11 (by decide) rfl ?_
  refine rv_iconst h 12 dX10_strategists_12 rv_c0 ?_
  refine rv_istore_n (lv' := [(3, .int (0 : Int32)), (2, .int (0 : Int32)), (0, .ref (ad 0)), (1, .int p1)]) h 13 dX10_strategists_13 (by decide) rfl ?_
  refine rv_sub h [2, 3, 1, 0] rfl ?_
  refine rv_fx_ind (fun (a0 : Int32 → Int32 → rv_W → rv_R) => ∀ (v5 : Int32) (v6 : Int32) (w7 : rv_W), K 14 [(0, .ref (ad 0)), (1, .int p1), (2, .int v5), (3, .int v6)] [] w7 (a0 v5 v6 w7)) (fun _ _ _ => rv_none h) (fun ag3 ih4 v5 v6 w7 => ?_) rv_FU (0 : Int32) (0 : Int32) w2
  refine rv_iload_n h 14 dX10_strategists_14 3 rfl ?_
  refine rv_aload_n h 15 dX10_strategists_15 0 rfl ?_
  refine rv_getr h 16 dX10_strategists_16 rv_s0 rv_fd_X10_10 rfl ?_
  refine rv_geti h 19 dX10_strategists_19 rv_s1 rv_fd_X10_68 rfl ?_
  refine rv_icmp_ge (tgt := 46) h 22 dX10_strategists_22 (by decide) (fun _ => ?_) (fun _ => ?_)
  rotate_left
  · refine rv_iload_n h 46 dX10_strategists_46 2 rfl ?_
    exact rv_reti hr 47 dX10_strategists_47
  refine rv_aload_n h 25 dX10_strategists_25 0 rfl ?_
  refine rv_iload_n h 26 dX10_strategists_26 1 rfl ?_
  refine rv_iload_n h 27 dX10_strategists_27 3 rfl ?_
  refine rv_callVi h 28 dX10_strategists_28 (fn_X10_bestStrategy hJ p1 v6  w7) ce_X10_bestStrategy lk_X10_228 rv_s0 rfl rv_cf8 rfl rfl (Nat.le_of_ble_eq_true rfl) ⟨Nat.le_of_ble_eq_true rfl, Nat.le_of_ble_eq_true rfl⟩ (fun r8 w9 => ?_)
  refine rv_if_eq (tgt := 40) h 31 dX10_strategists_31 (by decide) (fun _ => ?_) (fun _ => ?_)
  · refine rv_iinc h 40 (fun v10 => [(3, .int v10), (0, .ref (ad 0)), (1, .int p1), (2, .int v5)]) dX10_strategists_40 3 rfl rv_c1 (by decide) (fun _ => rfl) (fun v10 => ?_)
    refine rv_goto (tgt := 14) h 43 dX10_strategists_43 (by decide) ?_
    refine rv_sub h [1, 2, 3, 0] rfl ?_
    exact ih4 v5 v10 w9
  refine rv_iload_n h 34 dX10_strategists_34 2 rfl ?_
  refine rv_iconst h 35 dX10_strategists_35 rv_c1 ?_
  refine rv_iload_n h 36 dX10_strategists_36 3 rfl ?_
  refine rv_ishl h 37 dX10_strategists_37 ?_
  refine rv_ior h 38 dX10_strategists_38 ?_
  refine rv_top (fun v11 => ?_)
  refine rv_istore_n (lv' := [(2, .int v11), (0, .ref (ad 0)), (1, .int p1), (3, .int v6)]) h 39 dX10_strategists_39 (by decide) rfl ?_
  refine rv_iinc h 40 (fun v12 => [(3, .int v12), (2, .int v11), (0, .ref (ad 0)), (1, .int p1)]) dX10_strategists_40 3 rfl rv_c1 (by decide) (fun _ => rfl) (fun v12 => ?_)
  refine rv_goto (tgt := 14) h 43 dX10_strategists_43 (by decide) ?_
  refine rv_sub h [2, 3, 1, 0] rfl ?_
  exact ih4 v11 v12 w9
def f_X10_winnerWith (p1 : Int32) (p2 : Int32) (p3 : Int32) (p4 : Int32) (w : rv_W) : rv_R :=
  rv_bd (f_X5_cast p2 p3 p4 w) (fun (r1 : Int32) (w2 : rv_W) =>
  rv_bd (f_X7_winnerBy p1 w2) (fun (r3 : Int32) (w4 : rv_W) =>
  rv_bd (f_X8_votersOf 1 p2 w4) (fun (r5 : Int32) (w6 : rv_W) =>
  rv_bd (f_X8_ballotOf 1 p2 w6) (fun (r7 : Int32) (w8 : rv_W) =>
  rv_bd (f_X5_cast p2 r5 r7 w8) (fun (r9 : Int32) (w10 : rv_W) =>
  some (r3, w10))))))
set_option maxRecDepth 100000 in
set_option maxHeartbeats 4000000 in
theorem fn_X10_winnerWith {l : Launch} {D : va_G} {ad : Nat → Nat} {ca : Nat → ClassId} (hJ : rv_J ad) (p1 : Int32) (p2 : Int32) (p3 : Int32) (p4 : Int32)  (w : rv_W) : rv_Fn l D ad ca yX10_winnerWith cX10_winnerWith 6 (some .int) 5 119 [.ref (ad 0), .int p1, .int p2, .int p3, .int p4] w (f_X10_winnerWith p1 p2 p3 p4 w) := by
  refine rv_mk (lv := [(0, .ref (ad 0)), (1, .int p1), (2, .int p2), (3, .int p3), (4, .int p4)]) hJ (by decide +kernel) (Nat.le_of_ble_eq_true rfl) rfl (fun K h hr => ?_)
  have h : rv_Rl D ad ca l RX10 cX10_winnerWith 6 5 119 K := h
  unfold f_X10_winnerWith
  refine rv_aload_n h 0 dX10_winnerWith_0 0 rfl ?_
  refine rv_getr h 1 dX10_winnerWith_1 rv_s0 rv_fd_X10_30 rfl ?_
  refine rv_iload_n h 4 dX10_winnerWith_4 2 rfl ?_
  refine rv_iload_n h 5 dX10_winnerWith_5 3 rfl ?_
  refine rv_iload h 6 dX10_winnerWith_6 4 rfl ?_
  refine rv_callVv h 8 dX10_winnerWith_8 (fn_X5_cast hJ p2 p3 p4  w) ce_X5_cast lk_X10_231 rv_s24 rfl rv_cf3 rfl rfl (Nat.le_of_ble_eq_true rfl) ⟨Nat.le_of_ble_eq_true rfl, Nat.le_of_ble_eq_true rfl⟩ (fun r1 w2 => ?_)
  refine rv_aload_n h 11 dX10_winnerWith_11 0 rfl ?_
  refine rv_getr h 12 dX10_winnerWith_12 rv_s0 rv_fd_X10_37 rfl ?_
  refine rv_iload_n h 15 dX10_winnerWith_15 1 rfl ?_
  refine rv_aload_n h 16 dX10_winnerWith_16 0 rfl ?_
  refine rv_getr h 17 dX10_winnerWith_17 rv_s0 rv_fd_X10_30 rfl ?_
  refine rv_callVi h 20 dX10_winnerWith_20 (fn_X7_winnerBy hJ p1  w2) ce_X7_winnerBy lk_X10_135 rv_s53 rfl rv_cf5 rfl rfl (Nat.le_of_ble_eq_true rfl) ⟨Nat.le_of_ble_eq_true rfl, Nat.le_of_ble_eq_true rfl⟩ (fun r3 w4 => ?_)
  refine rv_istore (lv' := [(5, .int r3), (0, .ref (ad 0)), (1, .int p1), (2, .int p2), (3, .int p3), (4, .int p4)]) h 23 dX10_winnerWith_23 (by decide) rfl ?_
  refine rv_aload_n h 25 dX10_winnerWith_25 1 rfl ?_
  refine rv_getr h 26 dX10_winnerWith_26 rv_s0 rv_fd_X10_30 rfl ?_
  refine rv_iload_n h 29 dX10_winnerWith_29 3 rfl ?_
  refine rv_aload_n h 30 dX10_winnerWith_30 1 rfl ?_
  refine rv_getr h 31 dX10_winnerWith_31 rv_s0 rv_fd_X10_10 rfl ?_
  refine rv_iload_n h 34 dX10_winnerWith_34 3 rfl ?_
  refine rv_callVi h 35 dX10_winnerWith_35 (fn_X8_votersOf hJ 1 p2 (by decide) w4) ce_X8_votersOf lk_X10_80 rv_s1 rfl rv_cf6 rfl rfl (Nat.le_of_ble_eq_true rfl) ⟨Nat.le_of_ble_eq_true rfl, Nat.le_of_ble_eq_true rfl⟩ (fun r5 w6 => ?_)
  refine rv_aload_n h 38 dX10_winnerWith_38 1 rfl ?_
  refine rv_getr h 39 dX10_winnerWith_39 rv_s0 rv_fd_X10_10 rfl ?_
  refine rv_iload_n h 42 dX10_winnerWith_42 3 rfl ?_
  refine rv_callVi h 43 dX10_winnerWith_43 (fn_X8_ballotOf hJ 1 p2 (by decide) w6) ce_X8_ballotOf lk_X10_83 rv_s1 rfl rv_cf6 rfl rfl (Nat.le_of_ble_eq_true rfl) ⟨Nat.le_of_ble_eq_true rfl, Nat.le_of_ble_eq_true rfl⟩ (fun r7 w8 => ?_)
  refine rv_callVv h 46 dX10_winnerWith_46 (fn_X5_cast hJ p2 r5 r7  w8) ce_X5_cast lk_X10_231 rv_s24 rfl rv_cf3 rfl rfl (Nat.le_of_ble_eq_true rfl) ⟨Nat.le_of_ble_eq_true rfl, Nat.le_of_ble_eq_true rfl⟩ (fun r9 w10 => ?_)
  refine rv_iload h 49 dX10_winnerWith_49 0 rfl ?_
  exact rv_reti hr 51 dX10_winnerWith_51
def f_X10_absentees (p1 : Int32) (w : rv_W) : rv_R :=
  rv_bd (f_X10_isRule p1 w) (fun (r1 : Int32) (w2 : rv_W) =>
  if r1 = 0 then
  some ((-1000001 : Int32), w2)
  else
  rv_bd (f_X10_castAll  w2) (fun (r3 : Int32) (w4 : rv_W) =>
  rv_bd (f_X7_winnerBy p1 w4) (fun (r5 : Int32) (w6 : rv_W) =>
  rv_fx (fun _ _ _ => none) (fun (ag7 : Int32 → Int32 → rv_W → rv_R) (v9 : Int32) (v10 : Int32) (w11 : rv_W) =>
  if v10 < (w11 1 1) then
  rv_bd (f_X10_winnerWith p1 v10 (0 : Int32) (0 : Int32) w11) (fun (r12 : Int32) (w13 : rv_W) =>
  rv_bd (f_X8_ballotOf 1 v10 w13) (fun (r14 : Int32) (w15 : rv_W) =>
  rv_bd (f_X0_prefers r14 r12 r5 w15) (fun (r16 : Int32) (w17 : rv_W) =>
  if r16 = 0 then
  rv_lt (v10 + (1 : Int32)) (fun (v18 : Int32) =>
  ag7 v9 v18 w17)
  else
  rv_lt ((v9 ||| ((1 : Int32) <<< (v10 &&& 31)))) (fun (v19 : Int32) =>
  rv_lt (v10 + (1 : Int32)) (fun (v20 : Int32) =>
  ag7 v19 v20 w17)))))
  else
  some (v9, w11)) rv_FU (0 : Int32) (0 : Int32) w6)))
set_option maxRecDepth 100000 in
set_option maxHeartbeats 4000000 in
theorem fn_X10_absentees {l : Launch} {D : va_G} {ad : Nat → Nat} {ca : Nat → ClassId} (hJ : rv_J ad) (p1 : Int32)  (w : rv_W) : rv_Fn l D ad ca yX10_absentees cX10_absentees 6 (some .int) 6 144 [.ref (ad 0), .int p1] w (f_X10_absentees p1 w) := by
  refine rv_mk (lv := [(0, .ref (ad 0)), (1, .int p1)]) hJ (by decide +kernel) (Nat.le_of_ble_eq_true rfl) rfl (fun K h hr => ?_)
  have h : rv_Rl D ad ca l RX10 cX10_absentees 6 6 144 K := h
  unfold f_X10_absentees
  refine rv_iload_n h 0 dX10_absentees_0 1 rfl ?_
  refine rv_callSi h 1 dX10_absentees_1 (fn_X10_isRule hJ p1  w) ce_X10_isRule lk_X10_128 rfl rfl (Nat.le_of_ble_eq_true rfl) ⟨Nat.le_of_ble_eq_true rfl, Nat.le_of_ble_eq_true rfl⟩ (fun r1 w2 => ?_)
  refine rv_if_ne (tgt := 10) h 4 dX10_absentees_4 (by decide) (fun _ => ?_) (fun _ => ?_)
  · refine rv_ldc h 7 dX10_absentees_7 rv_kc_X10_75 ?_
    exact rv_reti hr 9 dX10_absentees_9
  refine rv_aload_n h 10 dX10_absentees_10 0 rfl ?_
  refine rv_callVv h 11 dX10_absentees_11 (fn_X10_castAll hJ   w2) ce_X10_castAll lk_X10_122 rv_s0 rfl rv_cf8 rfl rfl (Nat.le_of_ble_eq_true rfl) ⟨Nat.le_of_ble_eq_true rfl, Nat.le_of_ble_eq_true rfl⟩ (fun r3 w4 => ?_)
  refine rv_aload_n h 14 dX10_absentees_14 0 rfl ?_
  refine rv_getr h 15 dX10_absentees_15 rv_s0 rv_fd_X10_37 rfl ?_
  refine rv_iload_n h 18 dX10_absentees_18 1 rfl ?_
  refine rv_aload_n h 19 dX10_absentees_19 0 rfl ?_
  refine rv_getr h 20 dX10_absentees_20 rv_s0 rv_fd_X10_30 rfl ?_
  refine rv_callVi h 23 dX10_absentees_23 (fn_X7_winnerBy hJ p1  w4) ce_X7_winnerBy lk_X10_135 rv_s53 rfl rv_cf5 rfl rfl (Nat.le_of_ble_eq_true rfl) ⟨Nat.le_of_ble_eq_true rfl, Nat.le_of_ble_eq_true rfl⟩ (fun r5 w6 => ?_)
  refine rv_istore_n (lv' := [(2, .int r5), (0, .ref (ad 0)), (1, .int p1)]) h 26 dX10_absentees_26 (by decide) rfl ?_
  refine rv_iconst h 27 dX10_absentees_27 rv_c0 ?_
  refine rv_istore_n (lv' := [(3, .int (0 : Int32)), (2, .int r5), (0, .ref (ad 0)), (1, .int p1)]) h 28 dX10_absentees_28 (by decide) rfl ?_
  refine rv_iconst h 29 dX10_absentees_29 rv_c0 ?_
  refine rv_istore (lv' := [(4, .int (0 : Int32)), (3, .int (0 : Int32)), (2, .int r5), (0, .ref (ad 0)), (1, .int p1)]) h 30 dX10_absentees_30 (by decide) rfl ?_
  refine rv_sub h [3, 4, 2, 1, 0] rfl ?_
  refine rv_fx_ind (fun (a0 : Int32 → Int32 → rv_W → rv_R) => ∀ (v9 : Int32) (v10 : Int32) (w11 : rv_W), K 32 [(0, .ref (ad 0)), (1, .int p1), (2, .int r5), (3, .int v9), (4, .int v10)] [] w11 (a0 v9 v10 w11)) (fun _ _ _ => rv_none h) (fun ag7 ih8 v9 v10 w11 => ?_) rv_FU (0 : Int32) (0 : Int32) w6
  refine rv_iload h 32 dX10_absentees_32 4 rfl ?_
  refine rv_aload_n h 34 dX10_absentees_34 0 rfl ?_
  refine rv_getr h 35 dX10_absentees_35 rv_s0 rv_fd_X10_10 rfl ?_
  refine rv_geti h 38 dX10_absentees_38 rv_s1 rv_fd_X10_68 rfl ?_
  refine rv_icmp_ge (tgt := 86) h 41 dX10_absentees_41 (by decide) (fun _ => ?_) (fun _ => ?_)
  rotate_left
  · refine rv_iload_n h 86 dX10_absentees_86 3 rfl ?_
    exact rv_reti hr 87 dX10_absentees_87
  refine rv_aload_n h 44 dX10_absentees_44 0 rfl ?_
  refine rv_iload_n h 45 dX10_absentees_45 1 rfl ?_
  refine rv_iload h 46 dX10_absentees_46 4 rfl ?_
  refine rv_iconst h 48 dX10_absentees_48 rv_c0 ?_
  refine rv_iconst h 49 dX10_absentees_49 rv_c0 ?_
  refine rv_callVi h 50 dX10_absentees_50 (fn_X10_winnerWith hJ p1 v10 (0 : Int32) (0 : Int32)  w11) ce_X10_winnerWith lk_X10_237 rv_s0 rfl rv_cf8 rfl rfl (Nat.le_of_ble_eq_true rfl) ⟨Nat.le_of_ble_eq_true rfl, Nat.le_of_ble_eq_true rfl⟩ (fun r12 w13 => ?_)
  refine rv_istore (lv' := [(5, .int r12), (0, .ref (ad 0)), (1, .int p1), (2, .int r5), (3, .int v9), (4, .int v10)]) h 53 dX10_absentees_53 (by decide) rfl ?_
  refine rv_aload_n h 55 dX10_absentees_55 1 rfl ?_
  refine rv_getr h 56 dX10_absentees_56 rv_s0 rv_fd_X10_10 rfl ?_
  refine rv_iload h 59 dX10_absentees_59 5 rfl ?_
  refine rv_callVi h 61 dX10_absentees_61 (fn_X8_ballotOf hJ 1 v10 (by decide) w13) ce_X8_ballotOf lk_X10_83 rv_s1 rfl rv_cf6 rfl rfl (Nat.le_of_ble_eq_true rfl) ⟨Nat.le_of_ble_eq_true rfl, Nat.le_of_ble_eq_true rfl⟩ (fun r14 w15 => ?_)
  refine rv_iload h 64 dX10_absentees_64 0 rfl ?_
  refine rv_iload_n h 66 dX10_absentees_66 3 rfl ?_
  refine rv_callSi h 67 dX10_absentees_67 (fn_X0_prefers hJ r14 r12 r5  w15) ce_X0_prefers lk_X10_241 rfl rfl (Nat.le_of_ble_eq_true rfl) ⟨Nat.le_of_ble_eq_true rfl, Nat.le_of_ble_eq_true rfl⟩ (fun r16 w17 => ?_)
  refine rv_if_eq (tgt := 80) h 70 dX10_absentees_70 (by decide) (fun _ => ?_) (fun _ => ?_)
  · refine rv_iinc h 80 (fun v18 => [(4, .int v18), (5, .int r12), (0, .ref (ad 0)), (1, .int p1), (2, .int r5), (3, .int v9)]) dX10_absentees_80 5 rfl rv_c1 (by decide) (fun _ => rfl) (fun v18 => ?_)
    refine rv_goto (tgt := 32) h 83 dX10_absentees_83 (by decide) ?_
    refine rv_sub h [2, 3, 4, 5, 0] rfl ?_
    exact ih8 v9 v18 w17
  refine rv_iload_n h 73 dX10_absentees_73 4 rfl ?_
  refine rv_iconst h 74 dX10_absentees_74 rv_c1 ?_
  refine rv_iload h 75 dX10_absentees_75 5 rfl ?_
  refine rv_ishl h 77 dX10_absentees_77 ?_
  refine rv_ior h 78 dX10_absentees_78 ?_
  refine rv_top (fun v19 => ?_)
  refine rv_istore_n (lv' := [(3, .int v19), (5, .int r12), (0, .ref (ad 0)), (1, .int p1), (2, .int r5), (4, .int v10)]) h 79 dX10_absentees_79 (by decide) rfl ?_
  refine rv_iinc h 80 (fun v20 => [(4, .int v20), (3, .int v19), (5, .int r12), (0, .ref (ad 0)), (1, .int p1), (2, .int r5)]) dX10_absentees_80 5 rfl rv_c1 (by decide) (fun _ => rfl) (fun v20 => ?_)
  refine rv_goto (tgt := 32) h 83 dX10_absentees_83 (by decide) ?_
  refine rv_sub h [3, 4, 5, 1, 0] rfl ?_
  exact ih8 v19 v20 w17
def f_X10_raisers (p1 : Int32) (w : rv_W) : rv_R :=
  rv_bd (f_X10_isRule p1 w) (fun (r1 : Int32) (w2 : rv_W) =>
  if r1 = 0 then
  some ((-1000001 : Int32), w2)
  else
  rv_bd (f_X10_castAll  w2) (fun (r3 : Int32) (w4 : rv_W) =>
  rv_bd (f_X7_winnerBy p1 w4) (fun (r5 : Int32) (w6 : rv_W) =>
  rv_fx (fun _ _ _ => none) (fun (ag7 : Int32 → Int32 → rv_W → rv_R) (v9 : Int32) (v10 : Int32) (w11 : rv_W) =>
  if v10 < (w11 1 1) then
  rv_bd (f_X8_ballotOf 1 v10 w11) (fun (r12 : Int32) (w13 : rv_W) =>
  rv_bd (f_X0_within r12 (w13 1 0) w13) (fun (r14 : Int32) (w15 : rv_W) =>
  rv_bd (f_X0_placeOf r14 r5 w15) (fun (r16 : Int32) (w17 : rv_W) =>
  if r16 < (1 : Int32) then
  rv_lt (v10 + (1 : Int32)) (fun (v27 : Int32) =>
  ag7 v9 v27 w17)
  else
  rv_bd (f_X0_exchanged r14 (r16 - (1 : Int32)) w17) (fun (r18 : Int32) (w19 : rv_W) =>
  rv_bd (f_X8_votersOf 1 v10 w19) (fun (r20 : Int32) (w21 : rv_W) =>
  rv_bd (f_X10_winnerWith p1 v10 r20 r18 w21) (fun (r22 : Int32) (w23 : rv_W) =>
  if r22 = r5 then
  rv_lt (v10 + (1 : Int32)) (fun (v24 : Int32) =>
  ag7 v9 v24 w23)
  else
  rv_lt ((v9 ||| ((1 : Int32) <<< (v10 &&& 31)))) (fun (v25 : Int32) =>
  rv_lt (v10 + (1 : Int32)) (fun (v26 : Int32) =>
  ag7 v25 v26 w23))))))))
  else
  some (v9, w11)) rv_FU (0 : Int32) (0 : Int32) w6)))
set_option maxRecDepth 100000 in
set_option maxHeartbeats 4000000 in
theorem fn_X10_raisers {l : Launch} {D : va_G} {ad : Nat → Nat} {ca : Nat → ClassId} (hJ : rv_J ad) (p1 : Int32)  (w : rv_W) : rv_Fn l D ad ca yX10_raisers cX10_raisers 8 (some .int) 6 144 [.ref (ad 0), .int p1] w (f_X10_raisers p1 w) := by
  refine rv_mk (lv := [(0, .ref (ad 0)), (1, .int p1)]) hJ (by decide +kernel) (Nat.le_of_ble_eq_true rfl) rfl (fun K h hr => ?_)
  have h : rv_Rl D ad ca l RX10 cX10_raisers 8 6 144 K := h
  unfold f_X10_raisers
  refine rv_iload_n h 0 dX10_raisers_0 1 rfl ?_
  refine rv_callSi h 1 dX10_raisers_1 (fn_X10_isRule hJ p1  w) ce_X10_isRule lk_X10_128 rfl rfl (Nat.le_of_ble_eq_true rfl) ⟨Nat.le_of_ble_eq_true rfl, Nat.le_of_ble_eq_true rfl⟩ (fun r1 w2 => ?_)
  refine rv_if_ne (tgt := 10) h 4 dX10_raisers_4 (by decide) (fun _ => ?_) (fun _ => ?_)
  · refine rv_ldc h 7 dX10_raisers_7 rv_kc_X10_75 ?_
    exact rv_reti hr 9 dX10_raisers_9
  refine rv_aload_n h 10 dX10_raisers_10 0 rfl ?_
  refine rv_callVv h 11 dX10_raisers_11 (fn_X10_castAll hJ   w2) ce_X10_castAll lk_X10_122 rv_s0 rfl rv_cf8 rfl rfl (Nat.le_of_ble_eq_true rfl) ⟨Nat.le_of_ble_eq_true rfl, Nat.le_of_ble_eq_true rfl⟩ (fun r3 w4 => ?_)
  refine rv_aload_n h 14 dX10_raisers_14 0 rfl ?_
  refine rv_getr h 15 dX10_raisers_15 rv_s0 rv_fd_X10_37 rfl ?_
  refine rv_iload_n h 18 dX10_raisers_18 1 rfl ?_
  refine rv_aload_n h 19 dX10_raisers_19 0 rfl ?_
  refine rv_getr h 20 dX10_raisers_20 rv_s0 rv_fd_X10_30 rfl ?_
  refine rv_callVi h 23 dX10_raisers_23 (fn_X7_winnerBy hJ p1  w4) ce_X7_winnerBy lk_X10_135 rv_s53 rfl rv_cf5 rfl rfl (Nat.le_of_ble_eq_true rfl) ⟨Nat.le_of_ble_eq_true rfl, Nat.le_of_ble_eq_true rfl⟩ (fun r5 w6 => ?_)
  refine rv_istore_n (lv' := [(2, .int r5), (0, .ref (ad 0)), (1, .int p1)]) h 26 dX10_raisers_26 (by decide) rfl ?_
  refine rv_iconst h 27 dX10_raisers_27 rv_c0 ?_
  refine rv_istore_n (lv' := [(3, .int (0 : Int32)), (2, .int r5), (0, .ref (ad 0)), (1, .int p1)]) h 28 dX10_raisers_28 (by decide) rfl ?_
  refine rv_iconst h 29 dX10_raisers_29 rv_c0 ?_
  refine rv_istore (lv' := [(4, .int (0 : Int32)), (3, .int (0 : Int32)), (2, .int r5), (0, .ref (ad 0)), (1, .int p1)]) h 30 dX10_raisers_30 (by decide) rfl ?_
  refine rv_sub h [3, 4, 2, 1, 0] rfl ?_
  refine rv_fx_ind (fun (a0 : Int32 → Int32 → rv_W → rv_R) => ∀ (v9 : Int32) (v10 : Int32) (w11 : rv_W), K 32 [(0, .ref (ad 0)), (1, .int p1), (2, .int r5), (3, .int v9), (4, .int v10)] [] w11 (a0 v9 v10 w11)) (fun _ _ _ => rv_none h) (fun ag7 ih8 v9 v10 w11 => ?_) rv_FU (0 : Int32) (0 : Int32) w6
  refine rv_iload h 32 dX10_raisers_32 4 rfl ?_
  refine rv_aload_n h 34 dX10_raisers_34 0 rfl ?_
  refine rv_getr h 35 dX10_raisers_35 rv_s0 rv_fd_X10_10 rfl ?_
  refine rv_geti h 38 dX10_raisers_38 rv_s1 rv_fd_X10_68 rfl ?_
  refine rv_icmp_ge (tgt := 128) h 41 dX10_raisers_41 (by decide) (fun _ => ?_) (fun _ => ?_)
  rotate_left
  · refine rv_iload_n h 128 dX10_raisers_128 3 rfl ?_
    exact rv_reti hr 129 dX10_raisers_129
  refine rv_aload_n h 44 dX10_raisers_44 0 rfl ?_
  refine rv_getr h 45 dX10_raisers_45 rv_s0 rv_fd_X10_10 rfl ?_
  refine rv_iload h 48 dX10_raisers_48 4 rfl ?_
  refine rv_callVi h 50 dX10_raisers_50 (fn_X8_ballotOf hJ 1 v10 (by decide) w11) ce_X8_ballotOf lk_X10_83 rv_s1 rfl rv_cf6 rfl rfl (Nat.le_of_ble_eq_true rfl) ⟨Nat.le_of_ble_eq_true rfl, Nat.le_of_ble_eq_true rfl⟩ (fun r12 w13 => ?_)
  refine rv_aload_n h 53 dX10_raisers_53 0 rfl ?_
  refine rv_getr h 54 dX10_raisers_54 rv_s0 rv_fd_X10_10 rfl ?_
  refine rv_geti h 57 dX10_raisers_57 rv_s1 rv_fd_X10_105 rfl ?_
  refine rv_callSi h 60 dX10_raisers_60 (fn_X0_within hJ r12 (w13 1 0)  w13) ce_X0_within lk_X10_245 rfl rfl (Nat.le_of_ble_eq_true rfl) ⟨Nat.le_of_ble_eq_true rfl, Nat.le_of_ble_eq_true rfl⟩ (fun r14 w15 => ?_)
  refine rv_istore (lv' := [(5, .int r14), (0, .ref (ad 0)), (1, .int p1), (2, .int r5), (3, .int v9), (4, .int v10)]) h 63 dX10_raisers_63 (by decide) rfl ?_
  refine rv_iload h 65 dX10_raisers_65 0 rfl ?_
  refine rv_iload_n h 67 dX10_raisers_67 3 rfl ?_
  refine rv_callSi h 68 dX10_raisers_68 (fn_X0_placeOf hJ r14 r5  w15) ce_X0_placeOf lk_X10_248 rfl rfl (Nat.le_of_ble_eq_true rfl) ⟨Nat.le_of_ble_eq_true rfl, Nat.le_of_ble_eq_true rfl⟩ (fun r16 w17 => ?_)
  refine rv_istore (lv' := [(6, .int r16), (5, .int r14), (0, .ref (ad 0)), (1, .int p1), (2, .int r5), (3, .int v9), (4, .int v10)]) h 71 dX10_raisers_71 (by decide) rfl ?_
  refine rv_iload h 73 dX10_raisers_73 0 rfl ?_
  refine rv_iconst h 75 dX10_raisers_75 rv_c1 ?_
  refine rv_icmp_ge (tgt := 82) h 76 dX10_raisers_76 (by decide) (fun _ => ?_) (fun _ => ?_)
  · refine rv_goto (tgt := 122) h 79 dX10_raisers_79 (by decide) ?_
    refine rv_iinc h 122 (fun v27 => [(4, .int v27), (6, .int r16), (5, .int r14), (0, .ref (ad 0)), (1, .int p1), (2, .int r5), (3, .int v9)]) dX10_raisers_122 6 rfl rv_c1 (by decide) (fun _ => rfl) (fun v27 => ?_)
    refine rv_goto (tgt := 32) h 125 dX10_raisers_125 (by decide) ?_
    refine rv_sub h [3, 4, 5, 6, 0] rfl ?_
    exact ih8 v9 v27 w17
  refine rv_iload h 82 dX10_raisers_82 1 rfl ?_
  refine rv_iload h 84 dX10_raisers_84 0 rfl ?_
  refine rv_iconst h 86 dX10_raisers_86 rv_c1 ?_
  refine rv_isub h 87 dX10_raisers_87 ?_
  refine rv_callSi h 88 dX10_raisers_88 (fn_X0_exchanged hJ r14 (r16 - (1 : Int32))  w17) ce_X0_exchanged lk_X10_93 rfl rfl (Nat.le_of_ble_eq_true rfl) ⟨Nat.le_of_ble_eq_true rfl, Nat.le_of_ble_eq_true rfl⟩ (fun r18 w19 => ?_)
  refine rv_istore (lv' := [(7, .int r18), (6, .int r16), (5, .int r14), (0, .ref (ad 0)), (1, .int p1), (2, .int r5), (3, .int v9), (4, .int v10)]) h 91 dX10_raisers_91 (by decide) rfl ?_
  refine rv_aload_n h 93 dX10_raisers_93 3 rfl ?_
  refine rv_iload_n h 94 dX10_raisers_94 4 rfl ?_
  refine rv_iload h 95 dX10_raisers_95 7 rfl ?_
  refine rv_aload_n h 97 dX10_raisers_97 3 rfl ?_
  refine rv_getr h 98 dX10_raisers_98 rv_s0 rv_fd_X10_10 rfl ?_
  refine rv_iload h 101 dX10_raisers_101 7 rfl ?_
  refine rv_callVi h 103 dX10_raisers_103 (fn_X8_votersOf hJ 1 v10 (by decide) w19) ce_X8_votersOf lk_X10_80 rv_s1 rfl rv_cf6 rfl rfl (Nat.le_of_ble_eq_true rfl) ⟨Nat.le_of_ble_eq_true rfl, Nat.le_of_ble_eq_true rfl⟩ (fun r20 w21 => ?_)
  refine rv_iload h 106 dX10_raisers_106 0 rfl ?_
  refine rv_callVi h 108 dX10_raisers_108 (fn_X10_winnerWith hJ p1 v10 r20 r18  w21) ce_X10_winnerWith lk_X10_237 rv_s0 rfl rv_cf8 rfl rfl (Nat.le_of_ble_eq_true rfl) ⟨Nat.le_of_ble_eq_true rfl, Nat.le_of_ble_eq_true rfl⟩ (fun r22 w23 => ?_)
  refine rv_iload_n h 111 dX10_raisers_111 5 rfl ?_
  refine rv_icmp_eq (tgt := 122) h 112 dX10_raisers_112 (by decide) (fun _ => ?_) (fun _ => ?_)
  · refine rv_iinc h 122 (fun v24 => [(4, .int v24), (7, .int r18), (6, .int r16), (5, .int r14), (0, .ref (ad 0)), (1, .int p1), (2, .int r5), (3, .int v9)]) dX10_raisers_122 7 rfl rv_c1 (by decide) (fun _ => rfl) (fun v24 => ?_)
    refine rv_goto (tgt := 32) h 125 dX10_raisers_125 (by decide) ?_
    refine rv_sub h [4, 5, 6, 7, 0] rfl ?_
    exact ih8 v9 v24 w23
  refine rv_iload_n h 115 dX10_raisers_115 6 rfl ?_
  refine rv_iconst h 116 dX10_raisers_116 rv_c1 ?_
  refine rv_iload h 117 dX10_raisers_117 7 rfl ?_
  refine rv_ishl h 119 dX10_raisers_119 ?_
  refine rv_ior h 120 dX10_raisers_120 ?_
  refine rv_top (fun v25 => ?_)
  refine rv_istore_n (lv' := [(3, .int v25), (7, .int r18), (6, .int r16), (5, .int r14), (0, .ref (ad 0)), (1, .int p1), (2, .int r5), (4, .int v10)]) h 121 dX10_raisers_121 (by decide) rfl ?_
  refine rv_iinc h 122 (fun v26 => [(4, .int v26), (3, .int v25), (7, .int r18), (6, .int r16), (5, .int r14), (0, .ref (ad 0)), (1, .int p1), (2, .int r5)]) dX10_raisers_122 7 rfl rv_c1 (by decide) (fun _ => rfl) (fun v26 => ?_)
  refine rv_goto (tgt := 32) h 125 dX10_raisers_125 (by decide) ?_
  refine rv_sub h [5, 6, 7, 1, 0] rfl ?_
  exact ih8 v25 v26 w23
def f_X10_spoilers (p1 : Int32) (w : rv_W) : rv_R :=
  rv_bd (f_X10_isRule p1 w) (fun (r1 : Int32) (w2 : rv_W) =>
  if r1 = 0 then
  some ((-1000001 : Int32), w2)
  else
  rv_bd (f_X10_castAll  w2) (fun (r3 : Int32) (w4 : rv_W) =>
  rv_bd (f_X7_winnerBy p1 w4) (fun (r5 : Int32) (w6 : rv_W) =>
  rv_fx (fun _ _ _ => none) (fun (ag7 : Int32 → Int32 → rv_W → rv_R) (v9 : Int32) (v10 : Int32) (w11 : rv_W) =>
  if v10 < (5 : Int32) then
  if v10 = r5 then
  rv_lt (v10 + (1 : Int32)) (fun (v12 : Int32) =>
  ag7 v9 v12 w11)
  else
  rv_bd (f_X1_has (w11 1 0) v10 w11) (fun (r13 : Int32) (w14 : rv_W) =>
  if r13 = 0 then
  rv_lt (v10 + (1 : Int32)) (fun (v24 : Int32) =>
  ag7 v9 v24 w14)
  else
  rv_bd (f_X1_without (w14 1 0) v10 w14) (fun (r15 : Int32) (w16 : rv_W) =>
  rv_bd (f_X10_castGroups r15 (0 : Int32) (w16 1 1) w16) (fun (r17 : Int32) (w18 : rv_W) =>
  rv_bd (f_X7_winnerBy p1 w18) (fun (r19 : Int32) (w20 : rv_W) =>
  if r19 = r5 then
  rv_lt (v10 + (1 : Int32)) (fun (v21 : Int32) =>
  ag7 v9 v21 w20)
  else
  rv_lt ((v9 ||| ((1 : Int32) <<< (v10 &&& 31)))) (fun (v22 : Int32) =>
  rv_lt (v10 + (1 : Int32)) (fun (v23 : Int32) =>
  ag7 v22 v23 w20))))))
  else
  some (v9, w11)) rv_FU (0 : Int32) (0 : Int32) w6)))
set_option maxRecDepth 100000 in
set_option maxHeartbeats 4000000 in
theorem fn_X10_spoilers {l : Launch} {D : va_G} {ad : Nat → Nat} {ca : Nat → ClassId} (hJ : rv_J ad) (p1 : Int32)  (w : rv_W) : rv_Fn l D ad ca yX10_spoilers cX10_spoilers 5 (some .int) 5 119 [.ref (ad 0), .int p1] w (f_X10_spoilers p1 w) := by
  refine rv_mk (lv := [(0, .ref (ad 0)), (1, .int p1)]) hJ (by decide +kernel) (Nat.le_of_ble_eq_true rfl) rfl (fun K h hr => ?_)
  have h : rv_Rl D ad ca l RX10 cX10_spoilers 5 5 119 K := h
  unfold f_X10_spoilers
  refine rv_iload_n h 0 dX10_spoilers_0 1 rfl ?_
  refine rv_callSi h 1 dX10_spoilers_1 (fn_X10_isRule hJ p1  w) ce_X10_isRule lk_X10_128 rfl rfl (Nat.le_of_ble_eq_true rfl) ⟨Nat.le_of_ble_eq_true rfl, Nat.le_of_ble_eq_true rfl⟩ (fun r1 w2 => ?_)
  refine rv_if_ne (tgt := 10) h 4 dX10_spoilers_4 (by decide) (fun _ => ?_) (fun _ => ?_)
  · refine rv_ldc h 7 dX10_spoilers_7 rv_kc_X10_75 ?_
    exact rv_reti hr 9 dX10_spoilers_9
  refine rv_aload_n h 10 dX10_spoilers_10 0 rfl ?_
  refine rv_callVv h 11 dX10_spoilers_11 (fn_X10_castAll hJ   w2) ce_X10_castAll lk_X10_122 rv_s0 rfl rv_cf8 rfl rfl (Nat.le_of_ble_eq_true rfl) ⟨Nat.le_of_ble_eq_true rfl, Nat.le_of_ble_eq_true rfl⟩ (fun r3 w4 => ?_)
  refine rv_aload_n h 14 dX10_spoilers_14 0 rfl ?_
  refine rv_getr h 15 dX10_spoilers_15 rv_s0 rv_fd_X10_37 rfl ?_
  refine rv_iload_n h 18 dX10_spoilers_18 1 rfl ?_
  refine rv_aload_n h 19 dX10_spoilers_19 0 rfl ?_
  refine rv_getr h 20 dX10_spoilers_20 rv_s0 rv_fd_X10_30 rfl ?_
  refine rv_callVi h 23 dX10_spoilers_23 (fn_X7_winnerBy hJ p1  w4) ce_X7_winnerBy lk_X10_135 rv_s53 rfl rv_cf5 rfl rfl (Nat.le_of_ble_eq_true rfl) ⟨Nat.le_of_ble_eq_true rfl, Nat.le_of_ble_eq_true rfl⟩ (fun r5 w6 => ?_)
  refine rv_istore_n (lv' := [(2, .int r5), (0, .ref (ad 0)), (1, .int p1)]) h 26 dX10_spoilers_26 (by decide) rfl ?_
  refine rv_iconst h 27 dX10_spoilers_27 rv_c0 ?_
  refine rv_istore_n (lv' := [(3, .int (0 : Int32)), (2, .int r5), (0, .ref (ad 0)), (1, .int p1)]) h 28 dX10_spoilers_28 (by decide) rfl ?_
  refine rv_iconst h 29 dX10_spoilers_29 rv_c0 ?_
  refine rv_istore (lv' := [(4, .int (0 : Int32)), (3, .int (0 : Int32)), (2, .int r5), (0, .ref (ad 0)), (1, .int p1)]) h 30 dX10_spoilers_30 (by decide) rfl ?_
  refine rv_sub h [3, 4, 2, 1, 0] rfl ?_
  refine rv_fx_ind (fun (a0 : Int32 → Int32 → rv_W → rv_R) => ∀ (v9 : Int32) (v10 : Int32) (w11 : rv_W), K 32 [(0, .ref (ad 0)), (1, .int p1), (2, .int r5), (3, .int v9), (4, .int v10)] [] w11 (a0 v9 v10 w11)) (fun _ _ _ => rv_none h) (fun ag7 ih8 v9 v10 w11 => ?_) rv_FU (0 : Int32) (0 : Int32) w6
  refine rv_iload h 32 dX10_spoilers_32 4 rfl ?_
  refine rv_iconst h 34 dX10_spoilers_34 rv_c5 ?_
  refine rv_icmp_ge (tgt := 115) h 35 dX10_spoilers_35 (by decide) (fun _ => ?_) (fun _ => ?_)
  rotate_left
  · refine rv_iload_n h 115 dX10_spoilers_115 3 rfl ?_
    exact rv_reti hr 116 dX10_spoilers_116
  refine rv_iload h 38 dX10_spoilers_38 4 rfl ?_
  refine rv_iload_n h 40 dX10_spoilers_40 2 rfl ?_
  refine rv_icmp_eq (tgt := 109) h 41 dX10_spoilers_41 (by decide) (fun _ => ?_) (fun _ => ?_)
  · refine rv_iinc h 109 (fun v12 => [(4, .int v12), (0, .ref (ad 0)), (1, .int p1), (2, .int r5), (3, .int v9)]) dX10_spoilers_109 4 rfl rv_c1 (by decide) (fun _ => rfl) (fun v12 => ?_)
    refine rv_goto (tgt := 32) h 112 dX10_spoilers_112 (by decide) ?_
    refine rv_sub h [1, 2, 3, 4, 0] rfl ?_
    exact ih8 v9 v12 w11
  refine rv_aload_n h 44 dX10_spoilers_44 0 rfl ?_
  refine rv_getr h 45 dX10_spoilers_45 rv_s0 rv_fd_X10_10 rfl ?_
  refine rv_geti h 48 dX10_spoilers_48 rv_s1 rv_fd_X10_105 rfl ?_
  refine rv_iload h 51 dX10_spoilers_51 4 rfl ?_
  refine rv_callSi h 53 dX10_spoilers_53 (fn_X1_has hJ (w11 1 0) v10  w11) ce_X1_has lk_X10_108 rfl rfl (Nat.le_of_ble_eq_true rfl) ⟨Nat.le_of_ble_eq_true rfl, Nat.le_of_ble_eq_true rfl⟩ (fun r13 w14 => ?_)
  refine rv_if_ne (tgt := 62) h 56 dX10_spoilers_56 (by decide) (fun _ => ?_) (fun _ => ?_)
  · refine rv_goto (tgt := 109) h 59 dX10_spoilers_59 (by decide) ?_
    refine rv_iinc h 109 (fun v24 => [(4, .int v24), (0, .ref (ad 0)), (1, .int p1), (2, .int r5), (3, .int v9)]) dX10_spoilers_109 4 rfl rv_c1 (by decide) (fun _ => rfl) (fun v24 => ?_)
    refine rv_goto (tgt := 32) h 112 dX10_spoilers_112 (by decide) ?_
    refine rv_sub h [1, 2, 3, 4, 0] rfl ?_
    exact ih8 v9 v24 w14
  refine rv_aload_n h 62 dX10_spoilers_62 0 rfl ?_
  refine rv_aload_n h 63 dX10_spoilers_63 0 rfl ?_
  refine rv_getr h 64 dX10_spoilers_64 rv_s0 rv_fd_X10_10 rfl ?_
  refine rv_geti h 67 dX10_spoilers_67 rv_s1 rv_fd_X10_105 rfl ?_
  refine rv_iload h 70 dX10_spoilers_70 4 rfl ?_
  refine rv_callSi h 72 dX10_spoilers_72 (fn_X1_without hJ (w14 1 0) v10  w14) ce_X1_without lk_X10_112 rfl rfl (Nat.le_of_ble_eq_true rfl) ⟨Nat.le_of_ble_eq_true rfl, Nat.le_of_ble_eq_true rfl⟩ (fun r15 w16 => ?_)
  refine rv_iconst h 75 dX10_spoilers_75 rv_c0 ?_
  refine rv_aload_n h 76 dX10_spoilers_76 0 rfl ?_
  refine rv_getr h 77 dX10_spoilers_77 rv_s0 rv_fd_X10_10 rfl ?_
  refine rv_geti h 80 dX10_spoilers_80 rv_s1 rv_fd_X10_68 rfl ?_
  refine rv_callVv h 83 dX10_spoilers_83 (fn_X10_castGroups hJ r15 (0 : Int32) (w16 1 1)  w16) ce_X10_castGroups lk_X10_251 rv_s0 rfl rv_cf8 rfl rfl (Nat.le_of_ble_eq_true rfl) ⟨Nat.le_of_ble_eq_true rfl, Nat.le_of_ble_eq_true rfl⟩ (fun r17 w18 => ?_)
  refine rv_aload_n h 86 dX10_spoilers_86 0 rfl ?_
  refine rv_getr h 87 dX10_spoilers_87 rv_s0 rv_fd_X10_37 rfl ?_
  refine rv_iload_n h 90 dX10_spoilers_90 1 rfl ?_
  refine rv_aload_n h 91 dX10_spoilers_91 0 rfl ?_
  refine rv_getr h 92 dX10_spoilers_92 rv_s0 rv_fd_X10_30 rfl ?_
  refine rv_callVi h 95 dX10_spoilers_95 (fn_X7_winnerBy hJ p1  w18) ce_X7_winnerBy lk_X10_135 rv_s53 rfl rv_cf5 rfl rfl (Nat.le_of_ble_eq_true rfl) ⟨Nat.le_of_ble_eq_true rfl, Nat.le_of_ble_eq_true rfl⟩ (fun r19 w20 => ?_)
  refine rv_iload_n h 98 dX10_spoilers_98 2 rfl ?_
  refine rv_icmp_eq (tgt := 109) h 99 dX10_spoilers_99 (by decide) (fun _ => ?_) (fun _ => ?_)
  · refine rv_iinc h 109 (fun v21 => [(4, .int v21), (0, .ref (ad 0)), (1, .int p1), (2, .int r5), (3, .int v9)]) dX10_spoilers_109 4 rfl rv_c1 (by decide) (fun _ => rfl) (fun v21 => ?_)
    refine rv_goto (tgt := 32) h 112 dX10_spoilers_112 (by decide) ?_
    refine rv_sub h [1, 2, 3, 4, 0] rfl ?_
    exact ih8 v9 v21 w20
  refine rv_iload_n h 102 dX10_spoilers_102 3 rfl ?_
  refine rv_iconst h 103 dX10_spoilers_103 rv_c1 ?_
  refine rv_iload h 104 dX10_spoilers_104 4 rfl ?_
  refine rv_ishl h 106 dX10_spoilers_106 ?_
  refine rv_ior h 107 dX10_spoilers_107 ?_
  refine rv_top (fun v22 => ?_)
  refine rv_istore_n (lv' := [(3, .int v22), (0, .ref (ad 0)), (1, .int p1), (2, .int r5), (4, .int v10)]) h 108 dX10_spoilers_108 (by decide) rfl ?_
  refine rv_iinc h 109 (fun v23 => [(4, .int v23), (3, .int v22), (0, .ref (ad 0)), (1, .int p1), (2, .int r5)]) dX10_spoilers_109 4 rfl rv_c1 (by decide) (fun _ => rfl) (fun v23 => ?_)
  refine rv_goto (tgt := 32) h 112 dX10_spoilers_112 (by decide) ?_
  refine rv_sub h [2, 3, 4, 1, 0] rfl ?_
  exact ih8 v22 v23 w20
def f_X10_split (p1 : Int32) (w : rv_W) : rv_R :=
  rv_bd (f_X10_isRule p1 w) (fun (r1 : Int32) (w2 : rv_W) =>
  if r1 = 0 then
  some ((-1000001 : Int32), w2)
  else
  rv_bd (f_X10_castAll  w2) (fun (r3 : Int32) (w4 : rv_W) =>
  rv_bd (f_X7_winnerBy p1 w4) (fun (r5 : Int32) (w6 : rv_W) =>
  rv_fx (fun _ _ => none) (fun (ag7 : Int32 → rv_W → rv_R) (v9 : Int32) (w10 : rv_W) =>
  if v9 < (w10 1 1) then
  rv_bd (f_X10_castGroups (w10 1 0) (0 : Int32) v9 w10) (fun (r11 : Int32) (w12 : rv_W) =>
  rv_bd (f_X7_winnerBy p1 w12) (fun (r13 : Int32) (w14 : rv_W) =>
  if r13 = r5 then
  rv_lt (v9 + (1 : Int32)) (fun (v20 : Int32) =>
  ag7 v20 w14)
  else
  rv_bd (f_X10_castGroups (w14 1 0) v9 (w14 1 1) w14) (fun (r15 : Int32) (w16 : rv_W) =>
  rv_bd (f_X7_winnerBy p1 w16) (fun (r17 : Int32) (w18 : rv_W) =>
  if r17 = r13 then
  some (v9, w18)
  else
  rv_lt (v9 + (1 : Int32)) (fun (v19 : Int32) =>
  ag7 v19 w18)))))
  else
  some ((-1000000 : Int32), w10)) rv_FU (1 : Int32) w6)))
set_option maxRecDepth 100000 in
set_option maxHeartbeats 4000000 in
theorem fn_X10_split {l : Launch} {D : va_G} {ad : Nat → Nat} {ca : Nat → ClassId} (hJ : rv_J ad) (p1 : Int32)  (w : rv_W) : rv_Fn l D ad ca yX10_split cX10_split 5 (some .int) 5 119 [.ref (ad 0), .int p1] w (f_X10_split p1 w) := by
  refine rv_mk (lv := [(0, .ref (ad 0)), (1, .int p1)]) hJ (by decide +kernel) (Nat.le_of_ble_eq_true rfl) rfl (fun K h hr => ?_)
  have h : rv_Rl D ad ca l RX10 cX10_split 5 5 119 K := h
  unfold f_X10_split
  refine rv_iload_n h 0 dX10_split_0 1 rfl ?_
  refine rv_callSi h 1 dX10_split_1 (fn_X10_isRule hJ p1  w) ce_X10_isRule lk_X10_128 rfl rfl (Nat.le_of_ble_eq_true rfl) ⟨Nat.le_of_ble_eq_true rfl, Nat.le_of_ble_eq_true rfl⟩ (fun r1 w2 => ?_)
  refine rv_if_ne (tgt := 10) h 4 dX10_split_4 (by decide) (fun _ => ?_) (fun _ => ?_)
  · refine rv_ldc h 7 dX10_split_7 rv_kc_X10_75 ?_
    exact rv_reti hr 9 dX10_split_9
  refine rv_aload_n h 10 dX10_split_10 0 rfl ?_
  refine rv_callVv h 11 dX10_split_11 (fn_X10_castAll hJ   w2) ce_X10_castAll lk_X10_122 rv_s0 rfl rv_cf8 rfl rfl (Nat.le_of_ble_eq_true rfl) ⟨Nat.le_of_ble_eq_true rfl, Nat.le_of_ble_eq_true rfl⟩ (fun r3 w4 => ?_)
  refine rv_aload_n h 14 dX10_split_14 0 rfl ?_
  refine rv_getr h 15 dX10_split_15 rv_s0 rv_fd_X10_37 rfl ?_
  refine rv_iload_n h 18 dX10_split_18 1 rfl ?_
  refine rv_aload_n h 19 dX10_split_19 0 rfl ?_
  refine rv_getr h 20 dX10_split_20 rv_s0 rv_fd_X10_30 rfl ?_
  refine rv_callVi h 23 dX10_split_23 (fn_X7_winnerBy hJ p1  w4) ce_X7_winnerBy lk_X10_135 rv_s53 rfl rv_cf5 rfl rfl (Nat.le_of_ble_eq_true rfl) ⟨Nat.le_of_ble_eq_true rfl, Nat.le_of_ble_eq_true rfl⟩ (fun r5 w6 => ?_)
  refine rv_istore_n (lv' := [(2, .int r5), (0, .ref (ad 0)), (1, .int p1)]) h 26 dX10_split_26 (by decide) rfl ?_
  refine rv_iconst h 27 dX10_split_27 rv_c1 ?_
  refine rv_istore_n (lv' := [(3, .int (1 : Int32)), (2, .int r5), (0, .ref (ad 0)), (1, .int p1)]) h 28 dX10_split_28 (by decide) rfl ?_
  refine rv_sub h [2, 3, 1, 0] rfl ?_
  refine rv_fx_ind (fun (a0 : Int32 → rv_W → rv_R) => ∀ (v9 : Int32) (w10 : rv_W), K 29 [(0, .ref (ad 0)), (1, .int p1), (2, .int r5), (3, .int v9)] [] w10 (a0 v9 w10)) (fun _ _ => rv_none h) (fun ag7 ih8 v9 w10 => ?_) rv_FU (1 : Int32) w6
  refine rv_iload_n h 29 dX10_split_29 3 rfl ?_
  refine rv_aload_n h 30 dX10_split_30 0 rfl ?_
  refine rv_getr h 31 dX10_split_31 rv_s0 rv_fd_X10_10 rfl ?_
  refine rv_geti h 34 dX10_split_34 rv_s1 rv_fd_X10_68 rfl ?_
  refine rv_icmp_ge (tgt := 120) h 37 dX10_split_37 (by decide) (fun _ => ?_) (fun _ => ?_)
  rotate_left
  · refine rv_ldc h 120 dX10_split_120 rv_kc_X10_227 ?_
    exact rv_reti hr 122 dX10_split_122
  refine rv_aload_n h 40 dX10_split_40 0 rfl ?_
  refine rv_aload_n h 41 dX10_split_41 0 rfl ?_
  refine rv_getr h 42 dX10_split_42 rv_s0 rv_fd_X10_10 rfl ?_
  refine rv_geti h 45 dX10_split_45 rv_s1 rv_fd_X10_105 rfl ?_
  refine rv_iconst h 48 dX10_split_48 rv_c0 ?_
  refine rv_iload_n h 49 dX10_split_49 3 rfl ?_
  refine rv_callVv h 50 dX10_split_50 (fn_X10_castGroups hJ (w10 1 0) (0 : Int32) v9  w10) ce_X10_castGroups lk_X10_251 rv_s0 rfl rv_cf8 rfl rfl (Nat.le_of_ble_eq_true rfl) ⟨Nat.le_of_ble_eq_true rfl, Nat.le_of_ble_eq_true rfl⟩ (fun r11 w12 => ?_)
  refine rv_aload_n h 53 dX10_split_53 0 rfl ?_
  refine rv_getr h 54 dX10_split_54 rv_s0 rv_fd_X10_37 rfl ?_
  refine rv_iload_n h 57 dX10_split_57 1 rfl ?_
  refine rv_aload_n h 58 dX10_split_58 0 rfl ?_
  refine rv_getr h 59 dX10_split_59 rv_s0 rv_fd_X10_30 rfl ?_
  refine rv_callVi h 62 dX10_split_62 (fn_X7_winnerBy hJ p1  w12) ce_X7_winnerBy lk_X10_135 rv_s53 rfl rv_cf5 rfl rfl (Nat.le_of_ble_eq_true rfl) ⟨Nat.le_of_ble_eq_true rfl, Nat.le_of_ble_eq_true rfl⟩ (fun r13 w14 => ?_)
  refine rv_istore (lv' := [(4, .int r13), (0, .ref (ad 0)), (1, .int p1), (2, .int r5), (3, .int v9)]) h 65 dX10_split_65 (by decide) rfl ?_
  refine rv_iload h 67 dX10_split_67 0 rfl ?_
  refine rv_iload_n h 69 dX10_split_69 3 rfl ?_
  refine rv_icmp_ne (tgt := 76) h 70 dX10_split_70 (by decide) (fun _ => ?_) (fun _ => ?_)
  · refine rv_goto (tgt := 114) h 73 dX10_split_73 (by decide) ?_
    refine rv_iinc h 114 (fun v20 => [(3, .int v20), (4, .int r13), (0, .ref (ad 0)), (1, .int p1), (2, .int r5)]) dX10_split_114 4 rfl rv_c1 (by decide) (fun _ => rfl) (fun v20 => ?_)
    refine rv_goto (tgt := 29) h 117 dX10_split_117 (by decide) ?_
    refine rv_sub h [2, 3, 4, 0] rfl ?_
    exact ih8 v20 w14
  refine rv_aload_n h 76 dX10_split_76 1 rfl ?_
  refine rv_aload_n h 77 dX10_split_77 1 rfl ?_
  refine rv_getr h 78 dX10_split_78 rv_s0 rv_fd_X10_10 rfl ?_
  refine rv_geti h 81 dX10_split_81 rv_s1 rv_fd_X10_105 rfl ?_
  refine rv_iload_n h 84 dX10_split_84 4 rfl ?_
  refine rv_aload_n h 85 dX10_split_85 1 rfl ?_
  refine rv_getr h 86 dX10_split_86 rv_s0 rv_fd_X10_10 rfl ?_
  refine rv_geti h 89 dX10_split_89 rv_s1 rv_fd_X10_68 rfl ?_
  refine rv_callVv h 92 dX10_split_92 (fn_X10_castGroups hJ (w14 1 0) v9 (w14 1 1)  w14) ce_X10_castGroups lk_X10_251 rv_s0 rfl rv_cf8 rfl rfl (Nat.le_of_ble_eq_true rfl) ⟨Nat.le_of_ble_eq_true rfl, Nat.le_of_ble_eq_true rfl⟩ (fun r15 w16 => ?_)
  refine rv_aload_n h 95 dX10_split_95 1 rfl ?_
  refine rv_getr h 96 dX10_split_96 rv_s0 rv_fd_X10_37 rfl ?_
  refine rv_iload_n h 99 dX10_split_99 2 rfl ?_
  refine rv_aload_n h 100 dX10_split_100 1 rfl ?_
  refine rv_getr h 101 dX10_split_101 rv_s0 rv_fd_X10_30 rfl ?_
  refine rv_callVi h 104 dX10_split_104 (fn_X7_winnerBy hJ p1  w16) ce_X7_winnerBy lk_X10_135 rv_s53 rfl rv_cf5 rfl rfl (Nat.le_of_ble_eq_true rfl) ⟨Nat.le_of_ble_eq_true rfl, Nat.le_of_ble_eq_true rfl⟩ (fun r17 w18 => ?_)
  refine rv_iload h 107 dX10_split_107 0 rfl ?_
  refine rv_icmp_ne (tgt := 114) h 109 dX10_split_109 (by decide) (fun _ => ?_) (fun _ => ?_)
  · refine rv_iload_n h 112 dX10_split_112 4 rfl ?_
    exact rv_reti hr 113 dX10_split_113
  refine rv_iinc h 114 (fun v19 => [(3, .int v19), (4, .int r13), (0, .ref (ad 0)), (1, .int p1), (2, .int r5)]) dX10_split_114 4 rfl rv_c1 (by decide) (fun _ => rfl) (fun v19 => ?_)
  refine rv_goto (tgt := 29) h 117 dX10_split_117 (by decide) ?_
  refine rv_sub h [2, 3, 4, 0] rfl ?_
  exact ih8 v19 w18
def f_X10_removals (p1 : Int32) (w : rv_W) : rv_R :=
  rv_bd (f_X10_isRule p1 w) (fun (r1 : Int32) (w2 : rv_W) =>
  if r1 = 0 then
  some ((-1000001 : Int32), w2)
  else
  rv_bd (f_X10_castAll  w2) (fun (r3 : Int32) (w4 : rv_W) =>
  rv_bd (f_X7_winnerBy p1 w4) (fun (r5 : Int32) (w6 : rv_W) =>
  rv_fx (fun _ _ => none) (fun (ag7 : Int32 → rv_W → rv_R) (v9 : Int32) (w10 : rv_W) =>
  if (100 : Int32) < v9 then
  some ((-1000000 : Int32), w10)
  else
  rv_fx (fun _ _ => none) (fun (ag11 : Int32 → rv_W → rv_R) (v13 : Int32) (w14 : rv_W) =>
  if v13 < (w14 1 1) then
  rv_bd (f_X8_votersOf 1 v13 w14) (fun (r16 : Int32) (w17 : rv_W) =>
  rv_lt ((r16 - v9)) (fun (v18 : Int32) =>
  if v18 < 0 then
  rv_lt (v13 + (1 : Int32)) (fun (v19 : Int32) =>
  ag11 v19 w17)
  else
  rv_bd (f_X8_ballotOf 1 v13 w17) (fun (r20 : Int32) (w21 : rv_W) =>
  rv_bd (f_X10_winnerWith p1 v13 v18 r20 w21) (fun (r22 : Int32) (w23 : rv_W) =>
  if r22 = r5 then
  rv_lt (v13 + (1 : Int32)) (fun (v24 : Int32) =>
  ag11 v24 w23)
  else
  some (v9, w23)))))
  else
  rv_lt (v9 + (1 : Int32)) (fun (v15 : Int32) =>
  ag7 v15 w14)) rv_FU (0 : Int32) w10) rv_FU (1 : Int32) w6)))
set_option maxRecDepth 100000 in
set_option maxHeartbeats 4000000 in
theorem fn_X10_removals {l : Launch} {D : va_G} {ad : Nat → Nat} {ca : Nat → ClassId} (hJ : rv_J ad) (p1 : Int32)  (w : rv_W) : rv_Fn l D ad ca yX10_removals cX10_removals 6 (some .int) 6 144 [.ref (ad 0), .int p1] w (f_X10_removals p1 w) := by
  refine rv_mk (lv := [(0, .ref (ad 0)), (1, .int p1)]) hJ (by decide +kernel) (Nat.le_of_ble_eq_true rfl) rfl (fun K h hr => ?_)
  have h : rv_Rl D ad ca l RX10 cX10_removals 6 6 144 K := h
  unfold f_X10_removals
  refine rv_iload_n h 0 dX10_removals_0 1 rfl ?_
  refine rv_callSi h 1 dX10_removals_1 (fn_X10_isRule hJ p1  w) ce_X10_isRule lk_X10_128 rfl rfl (Nat.le_of_ble_eq_true rfl) ⟨Nat.le_of_ble_eq_true rfl, Nat.le_of_ble_eq_true rfl⟩ (fun r1 w2 => ?_)
  refine rv_if_ne (tgt := 10) h 4 dX10_removals_4 (by decide) (fun _ => ?_) (fun _ => ?_)
  · refine rv_ldc h 7 dX10_removals_7 rv_kc_X10_75 ?_
    exact rv_reti hr 9 dX10_removals_9
  refine rv_aload_n h 10 dX10_removals_10 0 rfl ?_
  refine rv_callVv h 11 dX10_removals_11 (fn_X10_castAll hJ   w2) ce_X10_castAll lk_X10_122 rv_s0 rfl rv_cf8 rfl rfl (Nat.le_of_ble_eq_true rfl) ⟨Nat.le_of_ble_eq_true rfl, Nat.le_of_ble_eq_true rfl⟩ (fun r3 w4 => ?_)
  refine rv_aload_n h 14 dX10_removals_14 0 rfl ?_
  refine rv_getr h 15 dX10_removals_15 rv_s0 rv_fd_X10_37 rfl ?_
  refine rv_iload_n h 18 dX10_removals_18 1 rfl ?_
  refine rv_aload_n h 19 dX10_removals_19 0 rfl ?_
  refine rv_getr h 20 dX10_removals_20 rv_s0 rv_fd_X10_30 rfl ?_
  refine rv_callVi h 23 dX10_removals_23 (fn_X7_winnerBy hJ p1  w4) ce_X7_winnerBy lk_X10_135 rv_s53 rfl rv_cf5 rfl rfl (Nat.le_of_ble_eq_true rfl) ⟨Nat.le_of_ble_eq_true rfl, Nat.le_of_ble_eq_true rfl⟩ (fun r5 w6 => ?_)
  refine rv_istore_n (lv' := [(2, .int r5), (0, .ref (ad 0)), (1, .int p1)]) h 26 dX10_removals_26 (by decide) rfl ?_
  refine rv_iconst h 27 dX10_removals_27 rv_c1 ?_
  refine rv_istore_n (lv' := [(3, .int (1 : Int32)), (2, .int r5), (0, .ref (ad 0)), (1, .int p1)]) h 28 dX10_removals_28 (by decide) rfl ?_
  refine rv_sub h [2, 3, 1, 0] rfl ?_
  refine rv_fx_ind (fun (a0 : Int32 → rv_W → rv_R) => ∀ (v9 : Int32) (w10 : rv_W), K 29 [(0, .ref (ad 0)), (1, .int p1), (2, .int r5), (3, .int v9)] [] w10 (a0 v9 w10)) (fun _ _ => rv_none h) (fun ag7 ih8 v9 w10 => ?_) rv_FU (1 : Int32) w6
  refine rv_iload_n h 29 dX10_removals_29 3 rfl ?_
  refine rv_bipush (v := 100) h 30 dX10_removals_30 (by decide +kernel) ?_
  refine rv_icmp_gt (tgt := 104) h 32 dX10_removals_32 (by decide) (fun _ => ?_) (fun _ => ?_)
  · refine rv_ldc h 104 dX10_removals_104 rv_kc_X10_227 ?_
    exact rv_reti hr 106 dX10_removals_106
  refine rv_iconst h 35 dX10_removals_35 rv_c0 ?_
  refine rv_istore (lv' := [(4, .int (0 : Int32)), (0, .ref (ad 0)), (1, .int p1), (2, .int r5), (3, .int v9)]) h 36 dX10_removals_36 (by decide) rfl ?_
  refine rv_sub h [1, 2, 3, 4, 0] rfl ?_
  refine rv_fx_ind (fun (a0 : Int32 → rv_W → rv_R) => ∀ (v13 : Int32) (w14 : rv_W), K 38 [(0, .ref (ad 0)), (1, .int p1), (2, .int r5), (3, .int v9), (4, .int v13)] [] w14 (a0 v13 w14)) (fun _ _ => rv_none h) (fun ag11 ih12 v13 w14 => ?_) rv_FU (0 : Int32) w10
  refine rv_iload h 38 dX10_removals_38 4 rfl ?_
  refine rv_aload_n h 40 dX10_removals_40 0 rfl ?_
  refine rv_getr h 41 dX10_removals_41 rv_s0 rv_fd_X10_10 rfl ?_
  refine rv_geti h 44 dX10_removals_44 rv_s1 rv_fd_X10_68 rfl ?_
  refine rv_icmp_ge (tgt := 98) h 47 dX10_removals_47 (by decide) (fun _ => ?_) (fun _ => ?_)
  rotate_left
  · refine rv_iinc h 98 (fun v15 => [(3, .int v15), (0, .ref (ad 0)), (1, .int p1), (2, .int r5), (4, .int v13)]) dX10_removals_98 3 rfl rv_c1 (by decide) (fun _ => rfl) (fun v15 => ?_)
    refine rv_goto (tgt := 29) h 101 dX10_removals_101 (by decide) ?_
    refine rv_sub h [1, 2, 3, 0] rfl ?_
    exact ih8 v15 w14
  refine rv_aload_n h 50 dX10_removals_50 0 rfl ?_
  refine rv_getr h 51 dX10_removals_51 rv_s0 rv_fd_X10_10 rfl ?_
  refine rv_iload h 54 dX10_removals_54 4 rfl ?_
  refine rv_callVi h 56 dX10_removals_56 (fn_X8_votersOf hJ 1 v13 (by decide) w14) ce_X8_votersOf lk_X10_80 rv_s1 rfl rv_cf6 rfl rfl (Nat.le_of_ble_eq_true rfl) ⟨Nat.le_of_ble_eq_true rfl, Nat.le_of_ble_eq_true rfl⟩ (fun r16 w17 => ?_)
  refine rv_iload_n h 59 dX10_removals_59 3 rfl ?_
  refine rv_isub h 60 dX10_removals_60 ?_
  refine rv_top (fun v18 => ?_)
  refine rv_istore (lv' := [(5, .int v18), (0, .ref (ad 0)), (1, .int p1), (2, .int r5), (3, .int v9), (4, .int v13)]) h 61 dX10_removals_61 (by decide) rfl ?_
  refine rv_iload h 63 dX10_removals_63 0 rfl ?_
  refine rv_if_lt (tgt := 92) h 65 dX10_removals_65 (by decide) (fun _ => ?_) (fun _ => ?_)
  · refine rv_iinc h 92 (fun v19 => [(4, .int v19), (5, .int v18), (0, .ref (ad 0)), (1, .int p1), (2, .int r5), (3, .int v9)]) dX10_removals_92 5 rfl rv_c1 (by decide) (fun _ => rfl) (fun v19 => ?_)
    refine rv_goto (tgt := 38) h 95 dX10_removals_95 (by decide) ?_
    refine rv_sub h [2, 3, 4, 5, 0] rfl ?_
    exact ih12 v19 w17
  refine rv_aload_n h 68 dX10_removals_68 1 rfl ?_
  refine rv_iload_n h 69 dX10_removals_69 2 rfl ?_
  refine rv_iload h 70 dX10_removals_70 5 rfl ?_
  refine rv_iload h 72 dX10_removals_72 0 rfl ?_
  refine rv_aload_n h 74 dX10_removals_74 1 rfl ?_
  refine rv_getr h 75 dX10_removals_75 rv_s0 rv_fd_X10_10 rfl ?_
  refine rv_iload h 78 dX10_removals_78 5 rfl ?_
  refine rv_callVi h 80 dX10_removals_80 (fn_X8_ballotOf hJ 1 v13 (by decide) w17) ce_X8_ballotOf lk_X10_83 rv_s1 rfl rv_cf6 rfl rfl (Nat.le_of_ble_eq_true rfl) ⟨Nat.le_of_ble_eq_true rfl, Nat.le_of_ble_eq_true rfl⟩ (fun r20 w21 => ?_)
  refine rv_callVi h 83 dX10_removals_83 (fn_X10_winnerWith hJ p1 v13 v18 r20  w21) ce_X10_winnerWith lk_X10_237 rv_s0 rfl rv_cf8 rfl rfl (Nat.le_of_ble_eq_true rfl) ⟨Nat.le_of_ble_eq_true rfl, Nat.le_of_ble_eq_true rfl⟩ (fun r22 w23 => ?_)
  refine rv_iload_n h 86 dX10_removals_86 3 rfl ?_
  refine rv_icmp_eq (tgt := 92) h 87 dX10_removals_87 (by decide) (fun _ => ?_) (fun _ => ?_)
  rotate_left
  · refine rv_iload_n h 90 dX10_removals_90 4 rfl ?_
    exact rv_reti hr 91 dX10_removals_91
  refine rv_iinc h 92 (fun v24 => [(4, .int v24), (5, .int v18), (0, .ref (ad 0)), (1, .int p1), (2, .int r5), (3, .int v9)]) dX10_removals_92 5 rfl rv_c1 (by decide) (fun _ => rfl) (fun v24 => ?_)
  refine rv_goto (tgt := 38) h 95 dX10_removals_95 (by decide) ?_
  refine rv_sub h [2, 3, 4, 5, 0] rfl ?_
  exact ih12 v24 w23
def f_X10_isSampleSize (p1 : Int32) (w : rv_W) : rv_R :=
  if p1 < (1 : Int32) then
  some ((0 : Int32), w)
  else
  if (50 : Int32) < p1 then
  some ((0 : Int32), w)
  else
  some ((1 : Int32), w)
set_option maxRecDepth 100000 in
set_option maxHeartbeats 4000000 in
theorem fn_X10_isSampleSize {l : Launch} {D : va_G} {ad : Nat → Nat} {ca : Nat → ClassId} (hJ : rv_J ad) (p1 : Int32)  (w : rv_W) : rv_Fn l D ad ca yX10_isSampleSize cX10_isSampleSize 1 (some .boolean) 0 0 [.int p1] w (f_X10_isSampleSize p1 w) := by
  refine rv_mk (lv := [(0, .int p1)]) hJ (by decide +kernel) (Nat.le_of_ble_eq_true rfl) rfl (fun K h hr => ?_)
  have h : rv_Rl D ad ca l RX10 cX10_isSampleSize 1 0 0 K := h
  unfold f_X10_isSampleSize
  refine rv_iload_n h 0 dX10_isSampleSize_0 0 rfl ?_
  refine rv_iconst h 1 dX10_isSampleSize_1 rv_c1 ?_
  refine rv_icmp_lt (tgt := 15) h 2 dX10_isSampleSize_2 (by decide) (fun _ => ?_) (fun _ => ?_)
  · refine rv_iconst h 15 dX10_isSampleSize_15 rv_c0 ?_
    exact rv_retz0 hr 16 dX10_isSampleSize_16
  refine rv_iload_n h 5 dX10_isSampleSize_5 0 rfl ?_
  refine rv_bipush (v := 50) h 6 dX10_isSampleSize_6 (by decide +kernel) ?_
  refine rv_icmp_gt (tgt := 15) h 8 dX10_isSampleSize_8 (by decide) (fun _ => ?_) (fun _ => ?_)
  · refine rv_iconst h 15 dX10_isSampleSize_15 rv_c0 ?_
    exact rv_retz0 hr 16 dX10_isSampleSize_16
  refine rv_iconst h 11 dX10_isSampleSize_11 rv_c1 ?_
  refine rv_goto (tgt := 16) h 12 dX10_isSampleSize_12 (by decide) ?_
  exact rv_retz1 hr 16 dX10_isSampleSize_16
def f_X10_castSample (p1 : Int32) (p2 : Int32) (w : rv_W) : rv_R :=
  rv_bd (f_X5_open (w 1 0) w) (fun (r1 : Int32) (w2 : rv_W) =>
  rv_bd (f_X8_total 1 w2) (fun (r3 : Int32) (w4 : rv_W) =>
  rv_fx (fun _ _ _ => none) (fun (ag5 : Int32 → Int32 → rv_W → rv_R) (v7 : Int32) (v8 : Int32) (w9 : rv_W) =>
  if v8 < p2 then
  rv_lt (((v7 * (1103515245 : Int32)) + (12345 : Int32))) (fun (v10 : Int32) =>
  rv_jn (fun (v11 : Int32) (w12 : rv_W) =>
  rv_bd (f_X8_groupOf 1 v11 w12) (fun (r15 : Int32) (w16 : rv_W) =>
  rv_bd (f_X5_votersOf r15 w16) (fun (r17 : Int32) (w18 : rv_W) =>
  rv_bd (f_X8_ballotOf 1 r15 w18) (fun (r19 : Int32) (w20 : rv_W) =>
  rv_bd (f_X5_cast r15 (r17 + (1 : Int32)) r19 w20) (fun (r21 : Int32) (w22 : rv_W) =>
  rv_lt (v8 + (1 : Int32)) (fun (v23 : Int32) =>
  ag5 v10 v23 w22)))))) (fun (k13 : Int32 → rv_W → rv_R) =>
  if 0 < r3 then
  rv_gd (¬ r3 = 0) (
  k13 (((v10.toUInt32 >>> ((8 : Int32).toUInt32 &&& Int32.toUInt32 31)).toInt32) - ((v10.toUInt32 >>> ((8 : Int32).toUInt32 &&& Int32.toUInt32 31)).toInt32) / r3 * r3) w9)
  else
  k13 (0 : Int32) w9))
  else
  some (v7, w9)) rv_FU p1 (0 : Int32) w4))
set_option maxRecDepth 100000 in
set_option maxHeartbeats 4000000 in
theorem fn_X10_castSample {l : Launch} {D : va_G} {ad : Nat → Nat} {ca : Nat → ClassId} (hJ : rv_J ad) (p1 : Int32) (p2 : Int32)  (w : rv_W) : rv_Fn l D ad ca yX10_castSample cX10_castSample 8 (some .int) 3 72 [.ref (ad 0), .int p1, .int p2] w (f_X10_castSample p1 p2 w) := by
  refine rv_mk (lv := [(0, .ref (ad 0)), (1, .int p1), (2, .int p2)]) hJ (by decide +kernel) (Nat.le_of_ble_eq_true rfl) rfl (fun K h hr => ?_)
  have h : rv_Rl D ad ca l RX10 cX10_castSample 8 3 72 K := h
  unfold f_X10_castSample
  refine rv_aload_n h 0 dX10_castSample_0 0 rfl ?_
  refine rv_getr h 1 dX10_castSample_1 rv_s0 rv_fd_X10_30 rfl ?_
  refine rv_aload_n h 4 dX10_castSample_4 0 rfl ?_
  refine rv_getr h 5 dX10_castSample_5 rv_s0 rv_fd_X10_10 rfl ?_
  refine rv_geti h 8 dX10_castSample_8 rv_s1 rv_fd_X10_105 rfl ?_
  refine rv_callVv h 11 dX10_castSample_11 (fn_X5_open hJ (w 1 0)  w) ce_X5_open lk_X10_283 rv_s24 rfl rv_cf3 rfl rfl (Nat.le_of_ble_eq_true rfl) ⟨Nat.le_of_ble_eq_true rfl, Nat.le_of_ble_eq_true rfl⟩ (fun r1 w2 => ?_)
  refine rv_aload_n h 14 dX10_castSample_14 0 rfl ?_
  refine rv_getr h 15 dX10_castSample_15 rv_s0 rv_fd_X10_10 rfl ?_
  refine rv_callVi h 18 dX10_castSample_18 (fn_X8_total hJ 1 (by decide) w2) ce_X8_total lk_X10_115 rv_s1 rfl rv_cf6 rfl rfl (Nat.le_of_ble_eq_true rfl) ⟨Nat.le_of_ble_eq_true rfl, Nat.le_of_ble_eq_true rfl⟩ (fun r3 w4 => ?_)
  refine rv_istore_n (lv' := [(3, .int r3), (0, .ref (ad 0)), (1, .int p1), (2, .int p2)]) h 21 dX10_castSample_21 (by decide) rfl ?_
  refine rv_iload_n h 22 dX10_castSample_22 2 rfl ?_
  refine rv_istore (lv' := [(4, .int p1), (3, .int r3), (0, .ref (ad 0)), (1, .int p1), (2, .int p2)]) h 23 dX10_castSample_23 (by decide) rfl ?_
  refine rv_iconst h 25 dX10_castSample_25 rv_c0 ?_
  refine rv_istore (lv' := [(5, .int (0 : Int32)), (4, .int p1), (3, .int r3), (0, .ref (ad 0)), (1, .int p1), (2, .int p2)]) h 26 dX10_castSample_26 (by decide) rfl ?_
  refine rv_sub h [3, 5, 2, 1, 0] rfl ?_
  refine rv_fx_ind (fun (a0 : Int32 → Int32 → rv_W → rv_R) => ∀ (v7 : Int32) (v8 : Int32) (w9 : rv_W), K 28 [(0, .ref (ad 0)), (2, .int p2), (3, .int r3), (4, .int v7), (5, .int v8)] [] w9 (a0 v7 v8 w9)) (fun _ _ _ => rv_none h) (fun ag5 ih6 v7 v8 w9 => ?_) rv_FU p1 (0 : Int32) w4
  refine rv_iload h 28 dX10_castSample_28 4 rfl ?_
  refine rv_iload_n h 30 dX10_castSample_30 1 rfl ?_
  refine rv_icmp_ge (tgt := 109) h 31 dX10_castSample_31 (by decide) (fun _ => ?_) (fun _ => ?_)
  rotate_left
  · refine rv_iload h 109 dX10_castSample_109 3 rfl ?_
    exact rv_reti hr 111 dX10_castSample_111
  refine rv_iload h 34 dX10_castSample_34 3 rfl ?_
  refine rv_ldcw h 36 dX10_castSample_36 rv_kc_X10_292 ?_
  refine rv_imul h 39 dX10_castSample_39 ?_
  refine rv_sipush (v := 12345) h 40 dX10_castSample_40 (by decide +kernel) ?_
  refine rv_iadd h 43 dX10_castSample_43 ?_
  refine rv_top (fun v10 => ?_)
  refine rv_istore (lv' := [(4, .int v10), (0, .ref (ad 0)), (2, .int p2), (3, .int r3), (5, .int v8)]) h 44 dX10_castSample_44 (by decide) rfl ?_
  refine rv_iload_n h 46 dX10_castSample_46 3 rfl ?_
  refine rv_join (fun (k0 : Int32 → rv_W → rv_R) => ∀ (v11 : Int32) (w12 : rv_W), K 61 [(0, .ref (ad 0)), (2, .int p2), (3, .int r3), (4, .int v10), (5, .int v8)] (.int v11 :: []) w12 (k0 v11 w12)) (fun v11 w12 => ?_) (fun k13 hk14 => ?_)
  · refine rv_istore (lv' := [(6, .int v11), (0, .ref (ad 0)), (2, .int p2), (3, .int r3), (4, .int v10), (5, .int v8)]) h 61 dX10_castSample_61 (by decide) rfl ?_
    refine rv_aload_n h 63 dX10_castSample_63 1 rfl ?_
    refine rv_getr h 64 dX10_castSample_64 rv_s0 rv_fd_X10_10 rfl ?_
    refine rv_iload h 67 dX10_castSample_67 0 rfl ?_
    refine rv_callVi h 69 dX10_castSample_69 (fn_X8_groupOf hJ 1 v11 (by decide) w12) ce_X8_groupOf lk_X10_293 rv_s1 rfl rv_cf6 rfl rfl (Nat.le_of_ble_eq_true rfl) ⟨Nat.le_of_ble_eq_true rfl, Nat.le_of_ble_eq_true rfl⟩ (fun r15 w16 => ?_)
    refine rv_istore (lv' := [(7, .int r15), (6, .int v11), (0, .ref (ad 0)), (2, .int p2), (3, .int r3), (4, .int v10), (5, .int v8)]) h 72 dX10_castSample_72 (by decide) rfl ?_
    refine rv_aload_n h 74 dX10_castSample_74 2 rfl ?_
    refine rv_getr h 75 dX10_castSample_75 rv_s0 rv_fd_X10_30 rfl ?_
    refine rv_iload h 78 dX10_castSample_78 0 rfl ?_
    refine rv_aload_n h 80 dX10_castSample_80 2 rfl ?_
    refine rv_getr h 81 dX10_castSample_81 rv_s0 rv_fd_X10_30 rfl ?_
    refine rv_iload h 84 dX10_castSample_84 0 rfl ?_
    refine rv_callVi h 86 dX10_castSample_86 (fn_X5_votersOf hJ r15  w16) ce_X5_votersOf lk_X10_296 rv_s24 rfl rv_cf3 rfl rfl (Nat.le_of_ble_eq_true rfl) ⟨Nat.le_of_ble_eq_true rfl, Nat.le_of_ble_eq_true rfl⟩ (fun r17 w18 => ?_)
    refine rv_iconst h 89 dX10_castSample_89 rv_c1 ?_
    refine rv_iadd h 90 dX10_castSample_90 ?_
    refine rv_aload_n h 91 dX10_castSample_91 2 rfl ?_
    refine rv_getr h 92 dX10_castSample_92 rv_s0 rv_fd_X10_10 rfl ?_
    refine rv_iload h 95 dX10_castSample_95 0 rfl ?_
    refine rv_callVi h 97 dX10_castSample_97 (fn_X8_ballotOf hJ 1 r15 (by decide) w18) ce_X8_ballotOf lk_X10_83 rv_s1 rfl rv_cf6 rfl rfl (Nat.le_of_ble_eq_true rfl) ⟨Nat.le_of_ble_eq_true rfl, Nat.le_of_ble_eq_true rfl⟩ (fun r19 w20 => ?_)
    refine rv_callVv h 100 dX10_castSample_100 (fn_X5_cast hJ r15 (r17 + (1 : Int32)) r19  w20) ce_X5_cast lk_X10_231 rv_s24 rfl rv_cf3 rfl rfl (Nat.le_of_ble_eq_true rfl) ⟨Nat.le_of_ble_eq_true rfl, Nat.le_of_ble_eq_true rfl⟩ (fun r21 w22 => ?_)
    refine rv_iinc h 103 (fun v23 => [(5, .int v23), (7, .int r15), (6, .int v11), (0, .ref (ad 0)), (2, .int p2), (3, .int r3), (4, .int v10)]) dX10_castSample_103 6 rfl rv_c1 (by decide) (fun _ => rfl) (fun v23 => ?_)
    refine rv_goto (tgt := 28) h 106 dX10_castSample_106 (by decide) ?_
    refine rv_sub h [3, 4, 5, 6, 0] rfl ?_
    exact ih6 v10 v23 w22
  refine rv_if_le (tgt := 60) h 47 dX10_castSample_47 (by decide) (fun _ => ?_) (fun _ => ?_)
  rotate_left
  · refine rv_iconst h 60 dX10_castSample_60 rv_c0 ?_
    refine rv_sub h [1, 2, 3, 0, 4] rfl ?_
    exact hk14 (0 : Int32) w9
  refine rv_iload h 50 dX10_castSample_50 0 rfl ?_
  refine rv_bipush (v := 8) h 52 dX10_castSample_52 (by decide +kernel) ?_
  refine rv_iushr h 54 dX10_castSample_54 ?_
  refine rv_iload_n h 55 dX10_castSample_55 3 rfl ?_
  refine rv_guard h (fun hn24 => ?_)
  refine rv_irem h 56 dX10_castSample_56 hn24 ?_
  refine rv_goto (tgt := 61) h 57 dX10_castSample_57 (by decide) ?_
  refine rv_sub h [1, 2, 3, 0, 4] rfl ?_
  exact hk14 (((v10.toUInt32 >>> ((8 : Int32).toUInt32 &&& Int32.toUInt32 31)).toInt32) - ((v10.toUInt32 >>> ((8 : Int32).toUInt32 &&& Int32.toUInt32 31)).toInt32) / r3 * r3) w9
def f_X10_sample (p1 : Int32) (p2 : Int32) (p3 : Int32) (w : rv_W) : rv_R :=
  rv_bd (f_X10_isRule p1 w) (fun (r1 : Int32) (w2 : rv_W) =>
  if r1 = 0 then
  some ((-1000001 : Int32), w2)
  else
  rv_bd (f_X10_isSampleSize p3 w2) (fun (r3 : Int32) (w4 : rv_W) =>
  if r3 = 0 then
  some ((-1000002 : Int32), w4)
  else
  if (w4 1 1) = 0 then
  some ((-1000003 : Int32), w4)
  else
  rv_bd (f_X10_castSample p2 p3 w4) (fun (r5 : Int32) (w6 : rv_W) =>
  rv_bd (f_X7_winnerBy p1 w6) (fun (r7 : Int32) (w8 : rv_W) =>
  some (r7, w8)))))
set_option maxRecDepth 100000 in
set_option maxHeartbeats 4000000 in
theorem fn_X10_sample {l : Launch} {D : va_G} {ad : Nat → Nat} {ca : Nat → ClassId} (hJ : rv_J ad) (p1 : Int32) (p2 : Int32) (p3 : Int32)  (w : rv_W) : rv_Fn l D ad ca yX10_sample cX10_sample 4 (some .int) 5 119 [.ref (ad 0), .int p1, .int p2, .int p3] w (f_X10_sample p1 p2 p3 w) := by
  refine rv_mk (lv := [(0, .ref (ad 0)), (1, .int p1), (2, .int p2), (3, .int p3)]) hJ (by decide +kernel) (Nat.le_of_ble_eq_true rfl) rfl (fun K h hr => ?_)
  have h : rv_Rl D ad ca l RX10 cX10_sample 4 5 119 K := h
  unfold f_X10_sample
  refine rv_iload_n h 0 dX10_sample_0 1 rfl ?_
  refine rv_callSi h 1 dX10_sample_1 (fn_X10_isRule hJ p1  w) ce_X10_isRule lk_X10_128 rfl rfl (Nat.le_of_ble_eq_true rfl) ⟨Nat.le_of_ble_eq_true rfl, Nat.le_of_ble_eq_true rfl⟩ (fun r1 w2 => ?_)
  refine rv_if_ne (tgt := 10) h 4 dX10_sample_4 (by decide) (fun _ => ?_) (fun _ => ?_)
  · refine rv_ldc h 7 dX10_sample_7 rv_kc_X10_75 ?_
    exact rv_reti hr 9 dX10_sample_9
  refine rv_iload_n h 10 dX10_sample_10 3 rfl ?_
  refine rv_callSi h 11 dX10_sample_11 (fn_X10_isSampleSize hJ p3  w2) ce_X10_isSampleSize lk_X10_254 rfl rfl (Nat.le_of_ble_eq_true rfl) ⟨Nat.le_of_ble_eq_true rfl, Nat.le_of_ble_eq_true rfl⟩ (fun r3 w4 => ?_)
  refine rv_if_ne (tgt := 20) h 14 dX10_sample_14 (by decide) (fun _ => ?_) (fun _ => ?_)
  · refine rv_ldc h 17 dX10_sample_17 rv_kc_X10_55 ?_
    exact rv_reti hr 19 dX10_sample_19
  refine rv_aload_n h 20 dX10_sample_20 0 rfl ?_
  refine rv_getr h 21 dX10_sample_21 rv_s0 rv_fd_X10_10 rfl ?_
  refine rv_geti h 24 dX10_sample_24 rv_s1 rv_fd_X10_68 rfl ?_
  refine rv_if_ne (tgt := 33) h 27 dX10_sample_27 (by decide) (fun _ => ?_) (fun _ => ?_)
  · refine rv_ldc h 30 dX10_sample_30 rv_kc_X10_121 ?_
    exact rv_reti hr 32 dX10_sample_32
  refine rv_aload_n h 33 dX10_sample_33 0 rfl ?_
  refine rv_iload_n h 34 dX10_sample_34 2 rfl ?_
  refine rv_iload_n h 35 dX10_sample_35 3 rfl ?_
  refine rv_callVi h 36 dX10_sample_36 (fn_X10_castSample hJ p2 p3  w4) ce_X10_castSample lk_X10_257 rv_s0 rfl rv_cf8 rfl rfl (Nat.le_of_ble_eq_true rfl) ⟨Nat.le_of_ble_eq_true rfl, Nat.le_of_ble_eq_true rfl⟩ (fun r5 w6 => ?_)
  refine rv_pop h 39 dX10_sample_39 rfl ?_
  refine rv_aload_n h 40 dX10_sample_40 0 rfl ?_
  refine rv_getr h 41 dX10_sample_41 rv_s0 rv_fd_X10_37 rfl ?_
  refine rv_iload_n h 44 dX10_sample_44 1 rfl ?_
  refine rv_aload_n h 45 dX10_sample_45 0 rfl ?_
  refine rv_getr h 46 dX10_sample_46 rv_s0 rv_fd_X10_30 rfl ?_
  refine rv_callVi h 49 dX10_sample_49 (fn_X7_winnerBy hJ p1  w6) ce_X7_winnerBy lk_X10_135 rv_s53 rfl rv_cf5 rfl rfl (Nat.le_of_ble_eq_true rfl) ⟨Nat.le_of_ble_eq_true rfl, Nat.le_of_ble_eq_true rfl⟩ (fun r7 w8 => ?_)
  exact rv_reti hr 52 dX10_sample_52
def f_X10_agreeing (p1 : Int32) (p2 : Int32) (p3 : Int32) (p4 : Int32) (w : rv_W) : rv_R :=
  rv_bd (f_X10_isRule p1 w) (fun (r1 : Int32) (w2 : rv_W) =>
  if r1 = 0 then
  some ((-1000001 : Int32), w2)
  else
  rv_bd (f_X10_isSampleSize p3 w2) (fun (r3 : Int32) (w4 : rv_W) =>
  if r3 = 0 then
  some ((-1000002 : Int32), w4)
  else
  if p4 < (1 : Int32) then
  some ((-1000002 : Int32), w4)
  else
  if (20 : Int32) < p4 then
  some ((-1000002 : Int32), w4)
  else
  if (w4 1 1) = 0 then
  some ((-1000003 : Int32), w4)
  else
  if (w4 1 0) = 0 then
  some ((-1000003 : Int32), w4)
  else
  rv_bd (f_X10_castAll  w4) (fun (r5 : Int32) (w6 : rv_W) =>
  rv_bd (f_X7_winnerBy p1 w6) (fun (r7 : Int32) (w8 : rv_W) =>
  rv_fx (fun _ _ _ _ => none) (fun (ag9 : Int32 → Int32 → Int32 → rv_W → rv_R) (v11 : Int32) (v12 : Int32) (v13 : Int32) (w14 : rv_W) =>
  if v13 < p4 then
  rv_bd (f_X10_castSample v12 p3 w14) (fun (r15 : Int32) (w16 : rv_W) =>
  rv_bd (f_X7_winnerBy p1 w16) (fun (r17 : Int32) (w18 : rv_W) =>
  if r17 = r7 then
  rv_lt (v11 + (1 : Int32)) (fun (v20 : Int32) =>
  rv_lt (v13 + (1 : Int32)) (fun (v21 : Int32) =>
  ag9 v20 r15 v21 w18))
  else
  rv_lt (v13 + (1 : Int32)) (fun (v19 : Int32) =>
  ag9 v11 r15 v19 w18)))
  else
  some (v11, w14)) rv_FU (0 : Int32) p2 (0 : Int32) w8))))
set_option maxRecDepth 100000 in
set_option maxHeartbeats 4000000 in
theorem fn_X10_agreeing {l : Launch} {D : va_G} {ad : Nat → Nat} {ca : Nat → ClassId} (hJ : rv_J ad) (p1 : Int32) (p2 : Int32) (p3 : Int32) (p4 : Int32)  (w : rv_W) : rv_Fn l D ad ca yX10_agreeing cX10_agreeing 9 (some .int) 5 119 [.ref (ad 0), .int p1, .int p2, .int p3, .int p4] w (f_X10_agreeing p1 p2 p3 p4 w) := by
  refine rv_mk (lv := [(0, .ref (ad 0)), (1, .int p1), (2, .int p2), (3, .int p3), (4, .int p4)]) hJ (by decide +kernel) (Nat.le_of_ble_eq_true rfl) rfl (fun K h hr => ?_)
  have h : rv_Rl D ad ca l RX10 cX10_agreeing 9 5 119 K := h
  unfold f_X10_agreeing
  refine rv_iload_n h 0 dX10_agreeing_0 1 rfl ?_
  refine rv_callSi h 1 dX10_agreeing_1 (fn_X10_isRule hJ p1  w) ce_X10_isRule lk_X10_128 rfl rfl (Nat.le_of_ble_eq_true rfl) ⟨Nat.le_of_ble_eq_true rfl, Nat.le_of_ble_eq_true rfl⟩ (fun r1 w2 => ?_)
  refine rv_if_ne (tgt := 10) h 4 dX10_agreeing_4 (by decide) (fun _ => ?_) (fun _ => ?_)
  · refine rv_ldc h 7 dX10_agreeing_7 rv_kc_X10_75 ?_
    exact rv_reti hr 9 dX10_agreeing_9
  refine rv_iload_n h 10 dX10_agreeing_10 3 rfl ?_
  refine rv_callSi h 11 dX10_agreeing_11 (fn_X10_isSampleSize hJ p3  w2) ce_X10_isSampleSize lk_X10_254 rfl rfl (Nat.le_of_ble_eq_true rfl) ⟨Nat.le_of_ble_eq_true rfl, Nat.le_of_ble_eq_true rfl⟩ (fun r3 w4 => ?_)
  refine rv_if_eq (tgt := 30) h 14 dX10_agreeing_14 (by decide) (fun _ => ?_) (fun _ => ?_)
  · refine rv_ldc h 30 dX10_agreeing_30 rv_kc_X10_55 ?_
    exact rv_reti hr 32 dX10_agreeing_32
  refine rv_iload h 17 dX10_agreeing_17 4 rfl ?_
  refine rv_iconst h 19 dX10_agreeing_19 rv_c1 ?_
  refine rv_icmp_lt (tgt := 30) h 20 dX10_agreeing_20 (by decide) (fun _ => ?_) (fun _ => ?_)
  · refine rv_ldc h 30 dX10_agreeing_30 rv_kc_X10_55 ?_
    exact rv_reti hr 32 dX10_agreeing_32
  refine rv_iload h 23 dX10_agreeing_23 4 rfl ?_
  refine rv_bipush (v := 20) h 25 dX10_agreeing_25 (by decide +kernel) ?_
  refine rv_icmp_le (tgt := 33) h 27 dX10_agreeing_27 (by decide) (fun _ => ?_) (fun _ => ?_)
  · refine rv_ldc h 30 dX10_agreeing_30 rv_kc_X10_55 ?_
    exact rv_reti hr 32 dX10_agreeing_32
  refine rv_aload_n h 33 dX10_agreeing_33 0 rfl ?_
  refine rv_getr h 34 dX10_agreeing_34 rv_s0 rv_fd_X10_10 rfl ?_
  refine rv_geti h 37 dX10_agreeing_37 rv_s1 rv_fd_X10_68 rfl ?_
  refine rv_if_eq (tgt := 53) h 40 dX10_agreeing_40 (by decide) (fun _ => ?_) (fun _ => ?_)
  · refine rv_ldc h 53 dX10_agreeing_53 rv_kc_X10_121 ?_
    exact rv_reti hr 55 dX10_agreeing_55
  refine rv_aload_n h 43 dX10_agreeing_43 0 rfl ?_
  refine rv_getr h 44 dX10_agreeing_44 rv_s0 rv_fd_X10_10 rfl ?_
  refine rv_geti h 47 dX10_agreeing_47 rv_s1 rv_fd_X10_105 rfl ?_
  refine rv_if_ne (tgt := 56) h 50 dX10_agreeing_50 (by decide) (fun _ => ?_) (fun _ => ?_)
  · refine rv_ldc h 53 dX10_agreeing_53 rv_kc_X10_121 ?_
    exact rv_reti hr 55 dX10_agreeing_55
  refine rv_aload_n h 56 dX10_agreeing_56 0 rfl ?_
  refine rv_callVv h 57 dX10_agreeing_57 (fn_X10_castAll hJ   w4) ce_X10_castAll lk_X10_122 rv_s0 rfl rv_cf8 rfl rfl (Nat.le_of_ble_eq_true rfl) ⟨Nat.le_of_ble_eq_true rfl, Nat.le_of_ble_eq_true rfl⟩ (fun r5 w6 => ?_)
  refine rv_aload_n h 60 dX10_agreeing_60 0 rfl ?_
  refine rv_getr h 61 dX10_agreeing_61 rv_s0 rv_fd_X10_37 rfl ?_
  refine rv_iload_n h 64 dX10_agreeing_64 1 rfl ?_
  refine rv_aload_n h 65 dX10_agreeing_65 0 rfl ?_
  refine rv_getr h 66 dX10_agreeing_66 rv_s0 rv_fd_X10_30 rfl ?_
  refine rv_callVi h 69 dX10_agreeing_69 (fn_X7_winnerBy hJ p1  w6) ce_X7_winnerBy lk_X10_135 rv_s53 rfl rv_cf5 rfl rfl (Nat.le_of_ble_eq_true rfl) ⟨Nat.le_of_ble_eq_true rfl, Nat.le_of_ble_eq_true rfl⟩ (fun r7 w8 => ?_)
  refine rv_istore (lv' := [(5, .int r7), (0, .ref (ad 0)), (1, .int p1), (2, .int p2), (3, .int p3), (4, .int p4)]) h 72 dX10_agreeing_72 (by decide) rfl ?_
  refine rv_iconst h 74 dX10_agreeing_74 rv_c0 ?_
  refine rv_istore (lv' := [(6, .int (0 : Int32)), (5, .int r7), (0, .ref (ad 0)), (1, .int p1), (2, .int p2), (3, .int p3), (4, .int p4)]) h 75 dX10_agreeing_75 (by decide) rfl ?_
  refine rv_iload_n h 77 dX10_agreeing_77 4 rfl ?_
  refine rv_istore (lv' := [(7, .int p2), (6, .int (0 : Int32)), (5, .int r7), (0, .ref (ad 0)), (1, .int p1), (2, .int p2), (3, .int p3), (4, .int p4)]) h 78 dX10_agreeing_78 (by decide) rfl ?_
  refine rv_iconst h 80 dX10_agreeing_80 rv_c0 ?_
  refine rv_istore (lv' := [(8, .int (0 : Int32)), (7, .int p2), (6, .int (0 : Int32)), (5, .int r7), (0, .ref (ad 0)), (1, .int p1), (2, .int p2), (3, .int p3), (4, .int p4)]) h 81 dX10_agreeing_81 (by decide) rfl ?_
  refine rv_sub h [4, 5, 7, 8, 3, 2, 1, 0] rfl ?_
  refine rv_fx_ind (fun (a0 : Int32 → Int32 → Int32 → rv_W → rv_R) => ∀ (v11 : Int32) (v12 : Int32) (v13 : Int32) (w14 : rv_W), K 83 [(0, .ref (ad 0)), (1, .int p1), (3, .int p3), (4, .int p4), (5, .int r7), (6, .int v11), (7, .int v12), (8, .int v13)] [] w14 (a0 v11 v12 v13 w14)) (fun _ _ _ _ => rv_none h) (fun ag9 ih10 v11 v12 v13 w14 => ?_) rv_FU (0 : Int32) p2 (0 : Int32) w8
  refine rv_iload h 83 dX10_agreeing_83 7 rfl ?_
  refine rv_iload h 85 dX10_agreeing_85 3 rfl ?_
  refine rv_icmp_ge (tgt := 125) h 87 dX10_agreeing_87 (by decide) (fun _ => ?_) (fun _ => ?_)
  rotate_left
  · refine rv_iload h 125 dX10_agreeing_125 5 rfl ?_
    exact rv_reti hr 127 dX10_agreeing_127
  refine rv_aload_n h 90 dX10_agreeing_90 0 rfl ?_
  refine rv_iload h 91 dX10_agreeing_91 6 rfl ?_
  refine rv_iload_n h 93 dX10_agreeing_93 2 rfl ?_
  refine rv_callVi h 94 dX10_agreeing_94 (fn_X10_castSample hJ v12 p3  w14) ce_X10_castSample lk_X10_257 rv_s0 rfl rv_cf8 rfl rfl (Nat.le_of_ble_eq_true rfl) ⟨Nat.le_of_ble_eq_true rfl, Nat.le_of_ble_eq_true rfl⟩ (fun r15 w16 => ?_)
  refine rv_istore (lv' := [(7, .int r15), (0, .ref (ad 0)), (1, .int p1), (3, .int p3), (4, .int p4), (5, .int r7), (6, .int v11), (8, .int v13)]) h 97 dX10_agreeing_97 (by decide) rfl ?_
  refine rv_aload_n h 99 dX10_agreeing_99 1 rfl ?_
  refine rv_getr h 100 dX10_agreeing_100 rv_s0 rv_fd_X10_37 rfl ?_
  refine rv_iload_n h 103 dX10_agreeing_103 2 rfl ?_
  refine rv_aload_n h 104 dX10_agreeing_104 1 rfl ?_
  refine rv_getr h 105 dX10_agreeing_105 rv_s0 rv_fd_X10_30 rfl ?_
  refine rv_callVi h 108 dX10_agreeing_108 (fn_X7_winnerBy hJ p1  w16) ce_X7_winnerBy lk_X10_135 rv_s53 rfl rv_cf5 rfl rfl (Nat.le_of_ble_eq_true rfl) ⟨Nat.le_of_ble_eq_true rfl, Nat.le_of_ble_eq_true rfl⟩ (fun r17 w18 => ?_)
  refine rv_iload h 111 dX10_agreeing_111 5 rfl ?_
  refine rv_icmp_ne (tgt := 119) h 113 dX10_agreeing_113 (by decide) (fun _ => ?_) (fun _ => ?_)
  rotate_left
  · refine rv_iinc h 119 (fun v19 => [(8, .int v19), (7, .int r15), (0, .ref (ad 0)), (1, .int p1), (3, .int p3), (4, .int p4), (5, .int r7), (6, .int v11)]) dX10_agreeing_119 7 rfl rv_c1 (by decide) (fun _ => rfl) (fun v19 => ?_)
    refine rv_goto (tgt := 83) h 122 dX10_agreeing_122 (by decide) ?_
    refine rv_sub h [2, 3, 4, 5, 6, 7, 1, 0] rfl ?_
    exact ih10 v11 r15 v19 w18
  refine rv_iinc h 116 (fun v20 => [(6, .int v20), (7, .int r15), (0, .ref (ad 0)), (1, .int p1), (3, .int p3), (4, .int p4), (5, .int r7), (8, .int v13)]) dX10_agreeing_116 6 rfl rv_c1 (by decide) (fun _ => rfl) (fun v20 => ?_)
  refine rv_iinc h 119 (fun v21 => [(8, .int v21), (6, .int v20), (7, .int r15), (0, .ref (ad 0)), (1, .int p1), (3, .int p3), (4, .int p4), (5, .int r7)]) dX10_agreeing_119 7 rfl rv_c1 (by decide) (fun _ => rfl) (fun v21 => ?_)
  refine rv_goto (tgt := 83) h 122 dX10_agreeing_122 (by decide) ?_
  refine rv_sub h [3, 4, 5, 6, 7, 1, 2, 0] rfl ?_
  exact ih10 v20 r15 v21 w18
def f_X10_undo  (w : rv_W) : rv_R :=
  if (w 0 2) < (1 : Int32) then
  some ((-1000003 : Int32), w)
  else
  if (5 : Int32) < (w 0 2) then
  some ((-1000003 : Int32), w)
  else
  rv_lt (rv_up w 0 2 ((w 0 2) - (1 : Int32))) (fun (w1 : rv_W) =>
  rv_ck (w1 0 2) 5 (rv_gd (rv_st (w1 4 (w1 0 2).toNatClampNeg).toNatClampNeg) (
  rv_bd (f_X8_copy 1 ((w1 4 (w1 0 2).toNatClampNeg).toNatClampNeg) w1) (fun (r3 : Int32) (w4 : rv_W) =>
  some ((w4 0 2), w4)))))
set_option maxRecDepth 100000 in
set_option maxHeartbeats 4000000 in
theorem fn_X10_undo {l : Launch} {D : va_G} {ad : Nat → Nat} {ca : Nat → ClassId} (hJ : rv_J ad)   (w : rv_W) : rv_Fn l D ad ca yX10_undo cX10_undo 2 (some .int) 1 22 [.ref (ad 0)] w (f_X10_undo  w) := by
  refine rv_mk (lv := [(0, .ref (ad 0))]) hJ (by decide +kernel) (Nat.le_of_ble_eq_true rfl) rfl (fun K h hr => ?_)
  have h : rv_Rl D ad ca l RX10 cX10_undo 2 1 22 K := h
  unfold f_X10_undo
  refine rv_aload_n h 0 dX10_undo_0 0 rfl ?_
  refine rv_geti h 1 dX10_undo_1 rv_s0 rv_fd_X10_260 rfl ?_
  refine rv_iconst h 4 dX10_undo_4 rv_c1 ?_
  refine rv_icmp_lt (tgt := 20) h 5 dX10_undo_5 (by decide) (fun _ => ?_) (fun _ => ?_)
  · refine rv_ldc h 20 dX10_undo_20 rv_kc_X10_121 ?_
    exact rv_reti hr 22 dX10_undo_22
  refine rv_aload_n h 8 dX10_undo_8 0 rfl ?_
  refine rv_geti h 9 dX10_undo_9 rv_s0 rv_fd_X10_260 rfl ?_
  refine rv_aload_n h 12 dX10_undo_12 0 rfl ?_
  refine rv_getr h 13 dX10_undo_13 rv_s0 rv_fd_X10_16 rfl ?_
  refine rv_len (v := 5) h 16 dX10_undo_16 rv_s4 (by decide) (by decide +kernel) ?_
  refine rv_icmp_le (tgt := 23) h 17 dX10_undo_17 (by decide) (fun _ => ?_) (fun _ => ?_)
  · refine rv_ldc h 20 dX10_undo_20 rv_kc_X10_121 ?_
    exact rv_reti hr 22 dX10_undo_22
  refine rv_aload_n h 23 dX10_undo_23 0 rfl ?_
  refine rv_dup h 24 dX10_undo_24 rfl ?_
  refine rv_geti h 25 dX10_undo_25 rv_s0 rv_fd_X10_260 rfl ?_
  refine rv_iconst h 28 dX10_undo_28 rv_c1 ?_
  refine rv_isub h 29 dX10_undo_29 ?_
  refine rv_puti h 30 dX10_undo_30 rv_s0 rv_fd_X10_260 rfl ⟨rfl, rfl⟩ (fun w1 => ?_)
  refine rv_aload_n h 33 dX10_undo_33 0 rfl ?_
  refine rv_getr h 34 dX10_undo_34 rv_s0 rv_fd_X10_16 rfl ?_
  refine rv_aload_n h 37 dX10_undo_37 0 rfl ?_
  refine rv_geti h 38 dX10_undo_38 rv_s0 rv_fd_X10_260 rfl ?_
  refine rv_hald h 41 dX10_undo_41 rv_s4 (fun hi2 => ?_)
  refine rv_astore_n (lv' := [(1, .ref (ad (w1 4 (w1 0 2).toNatClampNeg).toNatClampNeg)), (0, .ref (ad 0))]) h 42 dX10_undo_42 (by decide) rfl ?_
  refine rv_aload_n h 43 dX10_undo_43 0 rfl ?_
  refine rv_ifnull h 44 dX10_undo_44 ?_
  refine rv_aload_n h 47 dX10_undo_47 1 rfl ?_
  refine rv_getr h 48 dX10_undo_48 rv_s0 rv_fd_X10_10 rfl ?_
  refine rv_aload_n h 51 dX10_undo_51 0 rfl ?_
  refine rv_callVv h 52 dX10_undo_52 (fn_X8_copy hJ 1 ((w1 4 (w1 0 2).toNatClampNeg).toNatClampNeg) (by decide) hi2 w1) ce_X8_copy lk_X10_263 rv_s1 rfl rv_cf6 rfl rfl (Nat.le_of_ble_eq_true rfl) ⟨Nat.le_of_ble_eq_true rfl, Nat.le_of_ble_eq_true rfl⟩ (fun r3 w4 => ?_)
  refine rv_aload_n h 55 dX10_undo_55 1 rfl ?_
  refine rv_geti h 56 dX10_undo_56 rv_s0 rv_fd_X10_260 rfl ?_
  exact rv_reti hr 59 dX10_undo_59
def f_X10_type (p1 : Int32) (w : rv_W) : rv_R :=
  if p1 < 0 then
  some ((-1000002 : Int32), w)
  else
  if (255 : Int32) < p1 then
  some ((-1000002 : Int32), w)
  else
  rv_bd (f_X9_put p1 w) (fun (r1 : Int32) (w2 : rv_W) =>
  if r1 = 0 then
  some ((-1000004 : Int32), w2)
  else
  some ((w2 20 0), w2))
set_option maxRecDepth 100000 in
set_option maxHeartbeats 4000000 in
theorem fn_X10_type {l : Launch} {D : va_G} {ad : Nat → Nat} {ca : Nat → ClassId} (hJ : rv_J ad) (p1 : Int32)  (w : rv_W) : rv_Fn l D ad ca yX10_type cX10_type 2 (some .int) 1 21 [.ref (ad 0), .int p1] w (f_X10_type p1 w) := by
  refine rv_mk (lv := [(0, .ref (ad 0)), (1, .int p1)]) hJ (by decide +kernel) (Nat.le_of_ble_eq_true rfl) rfl (fun K h hr => ?_)
  have h : rv_Rl D ad ca l RX10 cX10_type 2 1 21 K := h
  unfold f_X10_type
  refine rv_iload_n h 0 dX10_type_0 1 rfl ?_
  refine rv_if_lt (tgt := 11) h 1 dX10_type_1 (by decide) (fun _ => ?_) (fun _ => ?_)
  · refine rv_ldc h 11 dX10_type_11 rv_kc_X10_55 ?_
    exact rv_reti hr 13 dX10_type_13
  refine rv_iload_n h 4 dX10_type_4 1 rfl ?_
  refine rv_sipush (v := 255) h 5 dX10_type_5 (by decide +kernel) ?_
  refine rv_icmp_le (tgt := 14) h 8 dX10_type_8 (by decide) (fun _ => ?_) (fun _ => ?_)
  · refine rv_ldc h 11 dX10_type_11 rv_kc_X10_55 ?_
    exact rv_reti hr 13 dX10_type_13
  refine rv_aload_n h 14 dX10_type_14 0 rfl ?_
  refine rv_getr h 15 dX10_type_15 rv_s0 rv_fd_X10_23 rfl ?_
  refine rv_iload_n h 18 dX10_type_18 1 rfl ?_
  refine rv_callVi h 19 dX10_type_19 (fn_X9_put hJ p1  w) ce_X9_put lk_X10_267 rv_s20 rfl rv_cf7 rfl rfl (Nat.le_of_ble_eq_true rfl) ⟨Nat.le_of_ble_eq_true rfl, Nat.le_of_ble_eq_true rfl⟩ (fun r1 w2 => ?_)
  refine rv_if_eq (tgt := 35) h 22 dX10_type_22 (by decide) (fun _ => ?_) (fun _ => ?_)
  · refine rv_ldc h 35 dX10_type_35 rv_kc_X10_60 ?_
    exact rv_reti hr 37 dX10_type_37
  refine rv_aload_n h 25 dX10_type_25 0 rfl ?_
  refine rv_getr h 26 dX10_type_26 rv_s0 rv_fd_X10_23 rfl ?_
  refine rv_geti h 29 dX10_type_29 rv_s20 rv_fd_X10_270 rfl ?_
  refine rv_goto (tgt := 37) h 32 dX10_type_32 (by decide) ?_
  exact rv_reti hr 37 dX10_type_37
def f_X10_clearText  (w : rv_W) : rv_R :=
  rv_lt (rv_up w 20 0 (0 : Int32)) (fun (w1 : rv_W) =>
  some ((w 20 0), w1))
set_option maxRecDepth 100000 in
set_option maxHeartbeats 4000000 in
theorem fn_X10_clearText {l : Launch} {D : va_G} {ad : Nat → Nat} {ca : Nat → ClassId} (hJ : rv_J ad)   (w : rv_W) : rv_Fn l D ad ca yX10_clearText cX10_clearText 2 (some .int) 0 0 [.ref (ad 0)] w (f_X10_clearText  w) := by
  refine rv_mk (lv := [(0, .ref (ad 0))]) hJ (by decide +kernel) (Nat.le_of_ble_eq_true rfl) rfl (fun K h hr => ?_)
  have h : rv_Rl D ad ca l RX10 cX10_clearText 2 0 0 K := h
  unfold f_X10_clearText
  refine rv_aload_n h 0 dX10_clearText_0 0 rfl ?_
  refine rv_getr h 1 dX10_clearText_1 rv_s0 rv_fd_X10_23 rfl ?_
  refine rv_geti h 4 dX10_clearText_4 rv_s20 rv_fd_X10_270 rfl ?_
  refine rv_istore_n (lv' := [(1, .int (w 20 0)), (0, .ref (ad 0))]) h 7 dX10_clearText_7 (by decide) rfl ?_
  refine rv_aload_n h 8 dX10_clearText_8 1 rfl ?_
  refine rv_getr h 9 dX10_clearText_9 rv_s0 rv_fd_X10_23 rfl ?_
  refine rv_iconst h 12 dX10_clearText_12 rv_c0 ?_
  refine rv_puti h 13 dX10_clearText_13 rv_s20 rv_fd_X10_270 rfl ⟨rfl, rfl⟩ (fun w1 => ?_)
  refine rv_iload_n h 16 dX10_clearText_16 0 rfl ?_
  exact rv_reti hr 17 dX10_clearText_17
def f_X10_textFault  (w : rv_W) : rv_R :=
  rv_bd (f_X8_room 1 w) (fun (r1 : Int32) (w2 : rv_W) =>
  rv_bd (f_X9_read r1 w2) (fun (r3 : Int32) (w4 : rv_W) =>
  some (r3, w4)))
set_option maxRecDepth 100000 in
set_option maxHeartbeats 4000000 in
theorem fn_X10_textFault {l : Launch} {D : va_G} {ad : Nat → Nat} {ca : Nat → ClassId} (hJ : rv_J ad)   (w : rv_W) : rv_Fn l D ad ca yX10_textFault cX10_textFault 1 (some .int) 6 132 [.ref (ad 0)] w (f_X10_textFault  w) := by
  refine rv_mk (lv := [(0, .ref (ad 0))]) hJ (by decide +kernel) (Nat.le_of_ble_eq_true rfl) rfl (fun K h hr => ?_)
  have h : rv_Rl D ad ca l RX10 cX10_textFault 1 6 132 K := h
  unfold f_X10_textFault
  refine rv_aload_n h 0 dX10_textFault_0 0 rfl ?_
  refine rv_getr h 1 dX10_textFault_1 rv_s0 rv_fd_X10_23 rfl ?_
  refine rv_aload_n h 4 dX10_textFault_4 0 rfl ?_
  refine rv_getr h 5 dX10_textFault_5 rv_s0 rv_fd_X10_10 rfl ?_
  refine rv_callVi h 8 dX10_textFault_8 (fn_X8_room hJ 1 (by decide) w) ce_X8_room lk_X10_56 rv_s1 rfl rv_cf6 rfl rfl (Nat.le_of_ble_eq_true rfl) ⟨Nat.le_of_ble_eq_true rfl, Nat.le_of_ble_eq_true rfl⟩ (fun r1 w2 => ?_)
  refine rv_callVi h 11 dX10_textFault_11 (fn_X9_read hJ r1  w2) ce_X9_read lk_X10_272 rv_s20 rfl rv_cf7 rfl rfl (Nat.le_of_ble_eq_true rfl) ⟨Nat.le_of_ble_eq_true rfl, Nat.le_of_ble_eq_true rfl⟩ (fun r3 w4 => ?_)
  exact rv_reti hr 14 dX10_textFault_14
def f_X10_load  (w : rv_W) : rv_R :=
  rv_bd (f_X8_room 1 w) (fun (r1 : Int32) (w2 : rv_W) =>
  rv_bd (f_X9_read r1 w2) (fun (r3 : Int32) (w4 : rv_W) =>
  if r3 = (-1000000 : Int32) then
  rv_bd (f_X10_remember  w4) (fun (r5 : Int32) (w6 : rv_W) =>
  rv_fx (fun _ _ => none) (fun (ag7 : Int32 → rv_W → rv_R) (v9 : Int32) (w10 : rv_W) =>
  if v9 < (w10 20 1) then
  rv_bd (f_X9_votersOf v9 w10) (fun (r11 : Int32) (w12 : rv_W) =>
  rv_bd (f_X9_ballotOf v9 w12) (fun (r13 : Int32) (w14 : rv_W) =>
  rv_bd (f_X8_append 1 r11 r13 w14) (fun (r15 : Int32) (w16 : rv_W) =>
  rv_lt (v9 + (1 : Int32)) (fun (v17 : Int32) =>
  ag7 v17 w16))))
  else
  some ((w10 1 1), w10)) rv_FU (0 : Int32) w6)
  else
  some ((-1000003 : Int32), w4)))
set_option maxRecDepth 100000 in
set_option maxHeartbeats 4000000 in
theorem fn_X10_load {l : Launch} {D : va_G} {ad : Nat → Nat} {ca : Nat → ClassId} (hJ : rv_J ad)   (w : rv_W) : rv_Fn l D ad ca yX10_load cX10_load 2 (some .int) 6 132 [.ref (ad 0)] w (f_X10_load  w) := by
  refine rv_mk (lv := [(0, .ref (ad 0))]) hJ (by decide +kernel) (Nat.le_of_ble_eq_true rfl) rfl (fun K h hr => ?_)
  have h : rv_Rl D ad ca l RX10 cX10_load 2 6 132 K := h
  unfold f_X10_load
  refine rv_aload_n h 0 dX10_load_0 0 rfl ?_
  refine rv_getr h 1 dX10_load_1 rv_s0 rv_fd_X10_23 rfl ?_
  refine rv_aload_n h 4 dX10_load_4 0 rfl ?_
  refine rv_getr h 5 dX10_load_5 rv_s0 rv_fd_X10_10 rfl ?_
  refine rv_callVi h 8 dX10_load_8 (fn_X8_room hJ 1 (by decide) w) ce_X8_room lk_X10_56 rv_s1 rfl rv_cf6 rfl rfl (Nat.le_of_ble_eq_true rfl) ⟨Nat.le_of_ble_eq_true rfl, Nat.le_of_ble_eq_true rfl⟩ (fun r1 w2 => ?_)
  refine rv_callVi h 11 dX10_load_11 (fn_X9_read hJ r1  w2) ce_X9_read lk_X10_272 rv_s20 rfl rv_cf7 rfl rfl (Nat.le_of_ble_eq_true rfl) ⟨Nat.le_of_ble_eq_true rfl, Nat.le_of_ble_eq_true rfl⟩ (fun r3 w4 => ?_)
  refine rv_ldc h 14 dX10_load_14 rv_kc_X10_227 ?_
  refine rv_icmp_eq (tgt := 22) h 16 dX10_load_16 (by decide) (fun _ => ?_) (fun _ => ?_)
  rotate_left
  · refine rv_ldc h 19 dX10_load_19 rv_kc_X10_121 ?_
    exact rv_reti hr 21 dX10_load_21
  refine rv_aload_n h 22 dX10_load_22 0 rfl ?_
  refine rv_callVv h 23 dX10_load_23 (fn_X10_remember hJ   w4) ce_X10_remember lk_X10_61 rv_s0 rfl rv_cf8 rfl rfl (Nat.le_of_ble_eq_true rfl) ⟨Nat.le_of_ble_eq_true rfl, Nat.le_of_ble_eq_true rfl⟩ (fun r5 w6 => ?_)
  refine rv_iconst h 26 dX10_load_26 rv_c0 ?_
  refine rv_istore_n (lv' := [(1, .int (0 : Int32)), (0, .ref (ad 0))]) h 27 dX10_load_27 (by decide) rfl ?_
  refine rv_sub h [1, 0] rfl ?_
  refine rv_fx_ind (fun (a0 : Int32 → rv_W → rv_R) => ∀ (v9 : Int32) (w10 : rv_W), K 28 [(0, .ref (ad 0)), (1, .int v9)] [] w10 (a0 v9 w10)) (fun _ _ => rv_none h) (fun ag7 ih8 v9 w10 => ?_) rv_FU (0 : Int32) w6
  refine rv_iload_n h 28 dX10_load_28 1 rfl ?_
  refine rv_aload_n h 29 dX10_load_29 0 rfl ?_
  refine rv_getr h 30 dX10_load_30 rv_s0 rv_fd_X10_23 rfl ?_
  refine rv_geti h 33 dX10_load_33 rv_s20 rv_fd_X10_275 rfl ?_
  refine rv_icmp_ge (tgt := 68) h 36 dX10_load_36 (by decide) (fun _ => ?_) (fun _ => ?_)
  rotate_left
  · refine rv_aload_n h 68 dX10_load_68 0 rfl ?_
    refine rv_getr h 69 dX10_load_69 rv_s0 rv_fd_X10_10 rfl ?_
    refine rv_geti h 72 dX10_load_72 rv_s1 rv_fd_X10_68 rfl ?_
    exact rv_reti hr 75 dX10_load_75
  refine rv_aload_n h 39 dX10_load_39 0 rfl ?_
  refine rv_getr h 40 dX10_load_40 rv_s0 rv_fd_X10_10 rfl ?_
  refine rv_aload_n h 43 dX10_load_43 0 rfl ?_
  refine rv_getr h 44 dX10_load_44 rv_s0 rv_fd_X10_23 rfl ?_
  refine rv_iload_n h 47 dX10_load_47 1 rfl ?_
  refine rv_callVi h 48 dX10_load_48 (fn_X9_votersOf hJ v9  w10) ce_X9_votersOf lk_X10_276 rv_s20 rfl rv_cf7 rfl rfl (Nat.le_of_ble_eq_true rfl) ⟨Nat.le_of_ble_eq_true rfl, Nat.le_of_ble_eq_true rfl⟩ (fun r11 w12 => ?_)
  refine rv_aload_n h 51 dX10_load_51 0 rfl ?_
  refine rv_getr h 52 dX10_load_52 rv_s0 rv_fd_X10_23 rfl ?_
  refine rv_iload_n h 55 dX10_load_55 1 rfl ?_
  refine rv_callVi h 56 dX10_load_56 (fn_X9_ballotOf hJ v9  w12) ce_X9_ballotOf lk_X10_277 rv_s20 rfl rv_cf7 rfl rfl (Nat.le_of_ble_eq_true rfl) ⟨Nat.le_of_ble_eq_true rfl, Nat.le_of_ble_eq_true rfl⟩ (fun r13 w14 => ?_)
  refine rv_callVv h 59 dX10_load_59 (fn_X8_append hJ 1 r11 r13 (by decide) w14) ce_X8_append lk_X10_64 rv_s1 rfl rv_cf6 rfl rfl (Nat.le_of_ble_eq_true rfl) ⟨Nat.le_of_ble_eq_true rfl, Nat.le_of_ble_eq_true rfl⟩ (fun r15 w16 => ?_)
  refine rv_iinc h 62 (fun v17 => [(1, .int v17), (0, .ref (ad 0))]) dX10_load_62 1 rfl rv_c1 (by decide) (fun _ => rfl) (fun v17 => ?_)
  refine rv_goto (tgt := 28) h 65 dX10_load_65 (by decide) ?_
  refine rv_sub h [1, 0] rfl ?_
  exact ih8 v17 w16
def f_X11_in (p1 : Int32) (p2 : Int32) (p3 : Int32) (w : rv_W) : rv_R :=
  if p1 < p2 then
  some ((0 : Int32), w)
  else
  if p3 < p1 then
  some ((0 : Int32), w)
  else
  some ((1 : Int32), w)
set_option maxRecDepth 100000 in
set_option maxHeartbeats 4000000 in
theorem fn_X11_in {l : Launch} {D : va_G} {ad : Nat → Nat} {ca : Nat → ClassId} (hJ : rv_J ad) (p1 : Int32) (p2 : Int32) (p3 : Int32)  (w : rv_W) : rv_Fn l D ad ca yX11_in cX11_in 3 (some .boolean) 0 0 [.int p1, .int p2, .int p3] w (f_X11_in p1 p2 p3 w) := by
  refine rv_mk (lv := [(0, .int p1), (1, .int p2), (2, .int p3)]) hJ (by decide +kernel) (Nat.le_of_ble_eq_true rfl) rfl (fun K h hr => ?_)
  have h : rv_Rl D ad ca l RX11 cX11_in 3 0 0 K := h
  unfold f_X11_in
  refine rv_iload_n h 0 dX11_in_0 0 rfl ?_
  refine rv_iload_n h 1 dX11_in_1 1 rfl ?_
  refine rv_icmp_lt (tgt := 14) h 2 dX11_in_2 (by decide) (fun _ => ?_) (fun _ => ?_)
  · refine rv_iconst h 14 dX11_in_14 rv_c0 ?_
    exact rv_retz0 hr 15 dX11_in_15
  refine rv_iload_n h 5 dX11_in_5 0 rfl ?_
  refine rv_iload_n h 6 dX11_in_6 2 rfl ?_
  refine rv_icmp_gt (tgt := 14) h 7 dX11_in_7 (by decide) (fun _ => ?_) (fun _ => ?_)
  · refine rv_iconst h 14 dX11_in_14 rv_c0 ?_
    exact rv_retz0 hr 15 dX11_in_15
  refine rv_iconst h 10 dX11_in_10 rv_c1 ?_
  refine rv_goto (tgt := 15) h 11 dX11_in_11 (by decide) ?_
  exact rv_retz1 hr 15 dX11_in_15
def f_X11_copies (p1 : Int32) (p2 : Int32) (w : rv_W) : rv_R :=
  rv_fx (fun _ _ => none) (fun (ag1 : Int32 → rv_W → rv_R) (v3 : Int32) (w4 : rv_W) =>
  if v3 < (142 : Int32) then
  rv_ck (((142 : Int32) * p1) + v3) 852 (
  rv_ck (((142 : Int32) * p2) + v3) 852 (rv_lt (rv_up w4 79 (((142 : Int32) * p2) + v3).toNatClampNeg (w4 79 (((142 : Int32) * p1) + v3).toNatClampNeg)) (fun (w5 : rv_W) =>
  rv_lt (v3 + (1 : Int32)) (fun (v6 : Int32) =>
  ag1 v6 w5))))
  else
  some (0, w4)) rv_FU (0 : Int32) w
set_option maxRecDepth 100000 in
set_option maxHeartbeats 4000000 in
theorem fn_X11_copies {l : Launch} {D : va_G} {ad : Nat → Nat} {ca : Nat → ClassId} (hJ : rv_J ad) (p1 : Int32) (p2 : Int32)  (w : rv_W) : rv_Fn l D ad ca yX11_copies cX11_copies 4 none 0 0 [.ref (ad 78), .int p1, .int p2] w (f_X11_copies p1 p2 w) := by
  refine rv_mk (lv := [(0, .ref (ad 78)), (1, .int p1), (2, .int p2)]) hJ (by decide +kernel) (Nat.le_of_ble_eq_true rfl) rfl (fun K h hr => ?_)
  have h : rv_Rl D ad ca l RX11 cX11_copies 4 0 0 K := h
  unfold f_X11_copies
  refine rv_iconst h 0 dX11_copies_0 rv_c0 ?_
  refine rv_istore_n (lv' := [(3, .int (0 : Int32)), (0, .ref (ad 78)), (1, .int p1), (2, .int p2)]) h 1 dX11_copies_1 (by decide) rfl ?_
  refine rv_sub h [1, 2, 3, 0] rfl ?_
  refine rv_fx_ind (fun (a0 : Int32 → rv_W → rv_R) => ∀ (v3 : Int32) (w4 : rv_W), K 2 [(0, .ref (ad 78)), (1, .int p1), (2, .int p2), (3, .int v3)] [] w4 (a0 v3 w4)) (fun _ _ => rv_none h) (fun ag1 ih2 v3 w4 => ?_) rv_FU (0 : Int32) w
  refine rv_iload_n h 2 dX11_copies_2 3 rfl ?_
  refine rv_sipush (v := 142) h 3 dX11_copies_3 (by decide +kernel) ?_
  refine rv_icmp_ge (tgt := 39) h 6 dX11_copies_6 (by decide) (fun _ => ?_) (fun _ => ?_)
  rotate_left
  · exact rv_retv hr 39 dX11_copies_39
  refine rv_aload_n h 9 dX11_copies_9 0 rfl ?_
  refine rv_getr h 10 dX11_copies_10 rv_s78 rv_fd_X11_7 rfl ?_
  refine rv_sipush (v := 142) h 13 dX11_copies_13 (by decide +kernel) ?_
  refine rv_iload_n h 16 dX11_copies_16 2 rfl ?_
  refine rv_imul h 17 dX11_copies_17 ?_
  refine rv_iload_n h 18 dX11_copies_18 3 rfl ?_
  refine rv_iadd h 19 dX11_copies_19 ?_
  refine rv_aload_n h 20 dX11_copies_20 0 rfl ?_
  refine rv_getr h 21 dX11_copies_21 rv_s78 rv_fd_X11_7 rfl ?_
  refine rv_sipush (v := 142) h 24 dX11_copies_24 (by decide +kernel) ?_
  refine rv_iload_n h 27 dX11_copies_27 1 rfl ?_
  refine rv_imul h 28 dX11_copies_28 ?_
  refine rv_iload_n h 29 dX11_copies_29 3 rfl ?_
  refine rv_iadd h 30 dX11_copies_30 ?_
  refine rv_iald h 31 dX11_copies_31 rv_s79 ?_
  refine rv_iast h 32 dX11_copies_32 rv_s79 (fun w5 => ?_)
  refine rv_iinc h 33 (fun v6 => [(3, .int v6), (0, .ref (ad 78)), (1, .int p1), (2, .int p2)]) dX11_copies_33 3 rfl rv_c1 (by decide) (fun _ => rfl) (fun v6 => ?_)
  refine rv_goto (tgt := 2) h 36 dX11_copies_36 (by decide) ?_
  refine rv_sub h [1, 2, 3, 0] rfl ?_
  exact ih2 v6 w5
def f_X11_saves  (w : rv_W) : rv_R :=
  rv_fx (fun _ _ => none) (fun (ag1 : Int32 → rv_W → rv_R) (v3 : Int32) (w4 : rv_W) =>
  rv_jn (fun  (w5 : rv_W) =>
  rv_jn (fun (v8 : Int32) (w9 : rv_W) =>
  rv_lt (rv_up w9 78 1 ((w5 78 1) - v8)) (fun (w12 : rv_W) =>
  rv_lt (rv_up w12 78 1 ((w12 78 1) + (1 : Int32))) (fun (w13 : rv_W) =>
  rv_bd (f_X11_copies (0 : Int32) (w13 78 1) w13) (fun (r14 : Int32) (w15 : rv_W) =>
  some (0, w15))))) (fun (k10 : Int32 → rv_W → rv_R) =>
  if (w5 78 1) = (5 : Int32) then
  k10 (1 : Int32) w5
  else
  k10 (0 : Int32) w5)) (fun (k6 : rv_W → rv_R) =>
  if v3 < (5 : Int32) then
  if (w4 78 1) = (5 : Int32) then
  rv_bd (f_X11_copies (v3 + (1 : Int32)) v3 w4) (fun (r16 : Int32) (w17 : rv_W) =>
  rv_lt (v3 + (1 : Int32)) (fun (v18 : Int32) =>
  ag1 v18 w17))
  else
  k6 w4
  else
  k6 w4)) rv_FU (1 : Int32) w
set_option maxRecDepth 100000 in
set_option maxHeartbeats 4000000 in
theorem fn_X11_saves {l : Launch} {D : va_G} {ad : Nat → Nat} {ca : Nat → ClassId} (hJ : rv_J ad)   (w : rv_W) : rv_Fn l D ad ca yX11_saves cX11_saves 2 none 1 23 [.ref (ad 78)] w (f_X11_saves  w) := by
  refine rv_mk (lv := [(0, .ref (ad 78))]) hJ (by decide +kernel) (Nat.le_of_ble_eq_true rfl) rfl (fun K h hr => ?_)
  have h : rv_Rl D ad ca l RX11 cX11_saves 2 1 23 K := h
  unfold f_X11_saves
  refine rv_iconst h 0 dX11_saves_0 rv_c1 ?_
  refine rv_istore_n (lv' := [(1, .int (1 : Int32)), (0, .ref (ad 78))]) h 1 dX11_saves_1 (by decide) rfl ?_
  refine rv_sub h [1, 0] rfl ?_
  refine rv_fx_ind (fun (a0 : Int32 → rv_W → rv_R) => ∀ (v3 : Int32) (w4 : rv_W), K 2 [(0, .ref (ad 78)), (1, .int v3)] [] w4 (a0 v3 w4)) (fun _ _ => rv_none h) (fun ag1 ih2 v3 w4 => ?_) rv_FU (1 : Int32) w
  refine rv_iload_n h 2 dX11_saves_2 1 rfl ?_
  refine rv_iconst h 3 dX11_saves_3 rv_c5 ?_
  refine rv_join (fun (k0 : rv_W → rv_R) => ∀  (w5 : rv_W), K 29 [(0, .ref (ad 78))] ([]) w5 (k0 w5)) (fun w5 => ?_) (fun k6 hk7 => ?_)
  · refine rv_aload_n h 29 dX11_saves_29 0 rfl ?_
    refine rv_dup h 30 dX11_saves_30 rfl ?_
    refine rv_geti h 31 dX11_saves_31 rv_s78 rv_fd_X11_62 rfl ?_
    refine rv_aload_n h 34 dX11_saves_34 0 rfl ?_
    refine rv_geti h 35 dX11_saves_35 rv_s78 rv_fd_X11_62 rfl ?_
    refine rv_iconst h 38 dX11_saves_38 rv_c5 ?_
    refine rv_join (fun (k0 : Int32 → rv_W → rv_R) => ∀ (v8 : Int32) (w9 : rv_W), K 47 [(0, .ref (ad 78))] (.int v8 :: .int (w5 78 1) :: .ref (ad 78) :: []) w9 (k0 v8 w9)) (fun v8 w9 => ?_) (fun k10 hk11 => ?_)
    · refine rv_isub h 47 dX11_saves_47 ?_
      refine rv_puti h 48 dX11_saves_48 rv_s78 rv_fd_X11_62 rfl ⟨rfl, rfl⟩ (fun w12 => ?_)
      refine rv_aload_n h 51 dX11_saves_51 0 rfl ?_
      refine rv_dup h 52 dX11_saves_52 rfl ?_
      refine rv_geti h 53 dX11_saves_53 rv_s78 rv_fd_X11_62 rfl ?_
      refine rv_iconst h 56 dX11_saves_56 rv_c1 ?_
      refine rv_iadd h 57 dX11_saves_57 ?_
      refine rv_puti h 58 dX11_saves_58 rv_s78 rv_fd_X11_62 rfl ⟨rfl, rfl⟩ (fun w13 => ?_)
      refine rv_aload_n h 61 dX11_saves_61 0 rfl ?_
      refine rv_iconst h 62 dX11_saves_62 rv_c0 ?_
      refine rv_aload_n h 63 dX11_saves_63 0 rfl ?_
      refine rv_geti h 64 dX11_saves_64 rv_s78 rv_fd_X11_62 rfl ?_
      refine rv_callVv h 67 dX11_saves_67 (fn_X11_copies hJ (0 : Int32) (w13 78 1)  w13) ce_X11_copies lk_X11_66 rv_s78 rfl rv_cf9 rfl rfl (Nat.le_of_ble_eq_true rfl) ⟨Nat.le_of_ble_eq_true rfl, Nat.le_of_ble_eq_true rfl⟩ (fun r14 w15 => ?_)
      exact rv_retv hr 70 dX11_saves_70
    refine rv_icmp_ne (tgt := 46) h 39 dX11_saves_39 (by decide) (fun _ => ?_) (fun _ => ?_)
    rotate_left
    · refine rv_iconst h 46 dX11_saves_46 rv_c0 ?_
      refine rv_sub h [0] rfl ?_
      exact hk11 (0 : Int32) w5
    refine rv_iconst h 42 dX11_saves_42 rv_c1 ?_
    refine rv_goto (tgt := 47) h 43 dX11_saves_43 (by decide) ?_
    refine rv_sub h [0] rfl ?_
    exact hk11 (1 : Int32) w5
  refine rv_icmp_ge (tgt := 29) h 4 dX11_saves_4 (by decide) (fun _ => ?_) (fun _ => ?_)
  rotate_left
  · refine rv_sub h [0] rfl ?_
    exact hk7 w4
  refine rv_aload_n h 7 dX11_saves_7 0 rfl ?_
  refine rv_geti h 8 dX11_saves_8 rv_s78 rv_fd_X11_62 rfl ?_
  refine rv_iconst h 11 dX11_saves_11 rv_c5 ?_
  refine rv_icmp_ne (tgt := 29) h 12 dX11_saves_12 (by decide) (fun _ => ?_) (fun _ => ?_)
  rotate_left
  · refine rv_sub h [0] rfl ?_
    exact hk7 w4
  refine rv_aload_n h 15 dX11_saves_15 0 rfl ?_
  refine rv_iload_n h 16 dX11_saves_16 1 rfl ?_
  refine rv_iconst h 17 dX11_saves_17 rv_c1 ?_
  refine rv_iadd h 18 dX11_saves_18 ?_
  refine rv_iload_n h 19 dX11_saves_19 1 rfl ?_
  refine rv_callVv h 20 dX11_saves_20 (fn_X11_copies hJ (v3 + (1 : Int32)) v3  w4) ce_X11_copies lk_X11_66 rv_s78 rfl rv_cf9 rfl rfl (Nat.le_of_ble_eq_true rfl) ⟨Nat.le_of_ble_eq_true rfl, Nat.le_of_ble_eq_true rfl⟩ (fun r16 w17 => ?_)
  refine rv_iinc h 23 (fun v18 => [(1, .int v18), (0, .ref (ad 78))]) dX11_saves_23 1 rfl rv_c1 (by decide) (fun _ => rfl) (fun v18 => ?_)
  refine rv_goto (tgt := 2) h 26 dX11_saves_26 (by decide) ?_
  refine rv_sub h [1, 0] rfl ?_
  exact ih2 v18 w17
def f_X11_of (p1 : Int32) (p2 : Int32) (w : rv_W) : rv_R :=
  rv_ck (((2 : Int32) + ((7 : Int32) * p1)) + p2) 852 (
  some ((w 79 (((2 : Int32) + ((7 : Int32) * p1)) + p2).toNatClampNeg), w))
set_option maxRecDepth 100000 in
set_option maxHeartbeats 4000000 in
theorem fn_X11_of {l : Launch} {D : va_G} {ad : Nat → Nat} {ca : Nat → ClassId} (hJ : rv_J ad) (p1 : Int32) (p2 : Int32)  (w : rv_W) : rv_Fn l D ad ca yX11_of cX11_of 3 (some .int) 0 0 [.ref (ad 78), .int p1, .int p2] w (f_X11_of p1 p2 w) := by
  refine rv_mk (lv := [(0, .ref (ad 78)), (1, .int p1), (2, .int p2)]) hJ (by decide +kernel) (Nat.le_of_ble_eq_true rfl) rfl (fun K h hr => ?_)
  have h : rv_Rl D ad ca l RX11 cX11_of 3 0 0 K := h
  unfold f_X11_of
  refine rv_aload_n h 0 dX11_of_0 0 rfl ?_
  refine rv_getr h 1 dX11_of_1 rv_s78 rv_fd_X11_7 rfl ?_
  refine rv_iconst h 4 dX11_of_4 rv_c2 ?_
  refine rv_bipush (v := 7) h 5 dX11_of_5 (by decide +kernel) ?_
  refine rv_iload_n h 7 dX11_of_7 1 rfl ?_
  refine rv_imul h 8 dX11_of_8 ?_
  refine rv_iadd h 9 dX11_of_9 ?_
  refine rv_iload_n h 10 dX11_of_10 2 rfl ?_
  refine rv_iadd h 11 dX11_of_11 ?_
  refine rv_iald h 12 dX11_of_12 rv_s79 ?_
  exact rv_reti hr 13 dX11_of_13
