def f_X7_winnerBy (p1 : Int32) (w : rv_W) : rv_R :=
  rv_bd (f_X7_winnersBy p1 w) (fun (r1 : Int32) (w2 : rv_W) =>
  rv_bd (f_X1_lowest r1 w2) (fun (r3 : Int32) (w4 : rv_W) =>
  if r3 = (-1 : Int32) then
  some ((-1000000 : Int32), w4)
  else
  some (r3, w4)))
set_option maxRecDepth 100000 in
set_option maxHeartbeats 4000000 in
theorem fn_X7_winnerBy {l : Launch} {D : va_G} {ad : Nat → Nat} {ca : Nat → ClassId} (hJ : rv_J ad) (p1 : Int32)  (w : rv_W) : rv_Fn l D ad ca yX7_winnerBy cX7_winnerBy 4 (some .int) 4 96 [.ref (ad 53), .int p1, .ref (ad 24)] w (f_X7_winnerBy p1 w) := by
  refine rv_mk (lv := [(0, .ref (ad 53)), (1, .int p1), (2, .ref (ad 24))]) hJ (by decide +kernel) (Nat.le_of_ble_eq_true rfl) rfl (fun K h hr => ?_)
  have h : rv_Rl D ad ca l RX7 cX7_winnerBy 4 4 96 K := h
  unfold f_X7_winnerBy
  refine rv_aload_n h 0 dX7_winnerBy_0 0 rfl ?_
  refine rv_iload_n h 1 dX7_winnerBy_1 1 rfl ?_
  refine rv_aload_n h 2 dX7_winnerBy_2 2 rfl ?_
  refine rv_callVi h 3 dX7_winnerBy_3 (fn_X7_winnersBy hJ p1  w) ce_X7_winnersBy lk_X7_39 rv_s53 rfl rv_cf5 rfl rfl (Nat.le_of_ble_eq_true rfl) ⟨Nat.le_of_ble_eq_true rfl, Nat.le_of_ble_eq_true rfl⟩ (fun r1 w2 => ?_)
  refine rv_callSi h 6 dX7_winnerBy_6 (fn_X1_lowest hJ r1  w2) ce_X1_lowest lk_X7_43 rfl rfl (Nat.le_of_ble_eq_true rfl) ⟨Nat.le_of_ble_eq_true rfl, Nat.le_of_ble_eq_true rfl⟩ (fun r3 w4 => ?_)
  refine rv_istore_n (lv' := [(3, .int r3), (0, .ref (ad 53)), (1, .int p1), (2, .ref (ad 24))]) h 9 dX7_winnerBy_9 (by decide) rfl ?_
  refine rv_iload_n h 10 dX7_winnerBy_10 0 rfl ?_
  refine rv_iconst h 11 dX7_winnerBy_11 rv_cm1 ?_
  refine rv_icmp_ne (tgt := 20) h 12 dX7_winnerBy_12 (by decide) (fun _ => ?_) (fun _ => ?_)
  rotate_left
  · refine rv_iload_n h 20 dX7_winnerBy_20 0 rfl ?_
    exact rv_reti hr 21 dX7_winnerBy_21
  refine rv_ldc h 15 dX7_winnerBy_15 rv_kc_X7_49 ?_
  refine rv_goto (tgt := 21) h 17 dX7_winnerBy_17 (by decide) ?_
  exact rv_reti hr 21 dX7_winnerBy_21
def f_X8_holds (k0 : Nat) (p1 : Int32) (w : rv_W) : rv_R :=
  if p1 < 0 then
  some ((0 : Int32), w)
  else
  if p1 < (w k0 1) then
  some ((1 : Int32), w)
  else
  some ((0 : Int32), w)
set_option maxRecDepth 100000 in
set_option maxHeartbeats 4000000 in
theorem fn_X8_holds {l : Launch} {D : va_G} {ad : Nat → Nat} {ca : Nat → ClassId} (hJ : rv_J ad) (k0 : Nat) (p1 : Int32) (hk0 : rv_st k0) (w : rv_W) : rv_Fn l D ad ca yX8_holds cX8_holds 2 (some .boolean) 0 0 [.ref (ad k0), .int p1] w (f_X8_holds k0 p1 w) := by
  refine rv_mk (lv := [(0, .ref (ad k0)), (1, .int p1)]) hJ (by decide +kernel) (Nat.le_of_ble_eq_true rfl) rfl (fun K h hr => ?_)
  have h : rv_Rl D ad ca l RX8 cX8_holds 2 0 0 K := h
  unfold f_X8_holds
  refine rv_iload_n h 0 dX8_holds_0 1 rfl ?_
  refine rv_if_lt (tgt := 16) h 1 dX8_holds_1 (by decide) (fun _ => ?_) (fun _ => ?_)
  · refine rv_iconst h 16 dX8_holds_16 rv_c0 ?_
    exact rv_retz0 hr 17 dX8_holds_17
  refine rv_iload_n h 4 dX8_holds_4 1 rfl ?_
  refine rv_aload_n h 5 dX8_holds_5 0 rfl ?_
  refine rv_geti h 6 dX8_holds_6 (rv_stS hk0) rv_fd_X8_22 rfl ?_
  refine rv_icmp_ge (tgt := 16) h 9 dX8_holds_9 (by decide) (fun _ => ?_) (fun _ => ?_)
  rotate_left
  · refine rv_iconst h 16 dX8_holds_16 rv_c0 ?_
    exact rv_retz0 hr 17 dX8_holds_17
  refine rv_iconst h 12 dX8_holds_12 rv_c1 ?_
  refine rv_goto (tgt := 17) h 13 dX8_holds_13 (by decide) ?_
  exact rv_retz1 hr 17 dX8_holds_17
def f_X8_room (k0 : Nat) (w : rv_W) : rv_R :=
  some (((20 : Int32) - (w k0 1)), w)
set_option maxRecDepth 100000 in
set_option maxHeartbeats 4000000 in
theorem fn_X8_room {l : Launch} {D : va_G} {ad : Nat → Nat} {ca : Nat → ClassId} (hJ : rv_J ad) (k0 : Nat) (hk0 : rv_st k0) (w : rv_W) : rv_Fn l D ad ca yX8_room cX8_room 1 (some .int) 0 0 [.ref (ad k0)] w (f_X8_room k0 w) := by
  refine rv_mk (lv := [(0, .ref (ad k0))]) hJ (by decide +kernel) (Nat.le_of_ble_eq_true rfl) rfl (fun K h hr => ?_)
  have h : rv_Rl D ad ca l RX8 cX8_room 1 0 0 K := h
  unfold f_X8_room
  refine rv_bipush (v := 20) h 0 dX8_room_0 (by decide +kernel) ?_
  refine rv_aload_n h 2 dX8_room_2 0 rfl ?_
  refine rv_geti h 3 dX8_room_3 (rv_stS hk0) rv_fd_X8_22 rfl ?_
  refine rv_isub h 6 dX8_room_6 ?_
  exact rv_reti hr 7 dX8_room_7
def f_X8_votersOf (k0 : Nat) (p1 : Int32) (w : rv_W) : rv_R :=
  if p1 < 0 then
  some ((0 : Int32), w)
  else
  if p1 < (20 : Int32) then
  rv_ck p1 20 (
  some ((w (k0 + 1) p1.toNatClampNeg), w))
  else
  some ((0 : Int32), w)
set_option maxRecDepth 100000 in
set_option maxHeartbeats 4000000 in
theorem fn_X8_votersOf {l : Launch} {D : va_G} {ad : Nat → Nat} {ca : Nat → ClassId} (hJ : rv_J ad) (k0 : Nat) (p1 : Int32) (hk0 : rv_st k0) (w : rv_W) : rv_Fn l D ad ca yX8_votersOf cX8_votersOf 2 (some .int) 0 0 [.ref (ad k0), .int p1] w (f_X8_votersOf k0 p1 w) := by
  refine rv_mk (lv := [(0, .ref (ad k0)), (1, .int p1)]) hJ (by decide +kernel) (Nat.le_of_ble_eq_true rfl) rfl (fun K h hr => ?_)
  have h : rv_Rl D ad ca l RX8 cX8_votersOf 2 0 0 K := h
  unfold f_X8_votersOf
  refine rv_iload_n h 0 dX8_votersOf_0 1 rfl ?_
  refine rv_if_lt (tgt := 22) h 1 dX8_votersOf_1 (by decide) (fun _ => ?_) (fun _ => ?_)
  · refine rv_iconst h 22 dX8_votersOf_22 rv_c0 ?_
    exact rv_reti hr 23 dX8_votersOf_23
  refine rv_iload_n h 4 dX8_votersOf_4 1 rfl ?_
  refine rv_aload_n h 5 dX8_votersOf_5 0 rfl ?_
  refine rv_getr h 6 dX8_votersOf_6 (rv_stS hk0) rv_fd_X8_15 rfl ?_
  refine rv_len (v := 20) h 9 dX8_votersOf_9 (rv_stA hk0) (by decide) (by decide +kernel) ?_
  refine rv_icmp_ge (tgt := 22) h 10 dX8_votersOf_10 (by decide) (fun _ => ?_) (fun _ => ?_)
  rotate_left
  · refine rv_iconst h 22 dX8_votersOf_22 rv_c0 ?_
    exact rv_reti hr 23 dX8_votersOf_23
  refine rv_aload_n h 13 dX8_votersOf_13 0 rfl ?_
  refine rv_getr h 14 dX8_votersOf_14 (rv_stS hk0) rv_fd_X8_15 rfl ?_
  refine rv_iload_n h 17 dX8_votersOf_17 1 rfl ?_
  refine rv_iald h 18 dX8_votersOf_18 (rv_stA hk0) ?_
  refine rv_goto (tgt := 23) h 19 dX8_votersOf_19 (by decide) ?_
  exact rv_reti hr 23 dX8_votersOf_23
def f_X8_ballotOf (k0 : Nat) (p1 : Int32) (w : rv_W) : rv_R :=
  if p1 < 0 then
  some ((0 : Int32), w)
  else
  if p1 < (20 : Int32) then
  rv_ck p1 20 (
  some ((w (k0 + 2) p1.toNatClampNeg), w))
  else
  some ((0 : Int32), w)
set_option maxRecDepth 100000 in
set_option maxHeartbeats 4000000 in
theorem fn_X8_ballotOf {l : Launch} {D : va_G} {ad : Nat → Nat} {ca : Nat → ClassId} (hJ : rv_J ad) (k0 : Nat) (p1 : Int32) (hk0 : rv_st k0) (w : rv_W) : rv_Fn l D ad ca yX8_ballotOf cX8_ballotOf 2 (some .int) 0 0 [.ref (ad k0), .int p1] w (f_X8_ballotOf k0 p1 w) := by
  refine rv_mk (lv := [(0, .ref (ad k0)), (1, .int p1)]) hJ (by decide +kernel) (Nat.le_of_ble_eq_true rfl) rfl (fun K h hr => ?_)
  have h : rv_Rl D ad ca l RX8 cX8_ballotOf 2 0 0 K := h
  unfold f_X8_ballotOf
  refine rv_iload_n h 0 dX8_ballotOf_0 1 rfl ?_
  refine rv_if_lt (tgt := 22) h 1 dX8_ballotOf_1 (by decide) (fun _ => ?_) (fun _ => ?_)
  · refine rv_iconst h 22 dX8_ballotOf_22 rv_c0 ?_
    exact rv_reti hr 23 dX8_ballotOf_23
  refine rv_iload_n h 4 dX8_ballotOf_4 1 rfl ?_
  refine rv_aload_n h 5 dX8_ballotOf_5 0 rfl ?_
  refine rv_getr h 6 dX8_ballotOf_6 (rv_stS hk0) rv_fd_X8_19 rfl ?_
  refine rv_len (v := 20) h 9 dX8_ballotOf_9 (rv_stB hk0) (by decide) (by decide +kernel) ?_
  refine rv_icmp_ge (tgt := 22) h 10 dX8_ballotOf_10 (by decide) (fun _ => ?_) (fun _ => ?_)
  rotate_left
  · refine rv_iconst h 22 dX8_ballotOf_22 rv_c0 ?_
    exact rv_reti hr 23 dX8_ballotOf_23
  refine rv_aload_n h 13 dX8_ballotOf_13 0 rfl ?_
  refine rv_getr h 14 dX8_ballotOf_14 (rv_stS hk0) rv_fd_X8_19 rfl ?_
  refine rv_iload_n h 17 dX8_ballotOf_17 1 rfl ?_
  refine rv_iald h 18 dX8_ballotOf_18 (rv_stB hk0) ?_
  refine rv_goto (tgt := 23) h 19 dX8_ballotOf_19 (by decide) ?_
  exact rv_reti hr 23 dX8_ballotOf_23
def f_X8_write (k0 : Nat) (p1 : Int32) (p2 : Int32) (p3 : Int32) (w : rv_W) : rv_R :=
  if p1 < 0 then
  some (0, w)
  else
  if p1 < (20 : Int32) then
  rv_ck p1 20 (rv_lt (rv_up w (k0 + 1) p1.toNatClampNeg p2) (fun (w1 : rv_W) =>
  rv_ck p1 20 (rv_lt (rv_up w1 (k0 + 2) p1.toNatClampNeg p3) (fun (w2 : rv_W) =>
  some (0, w2)))))
  else
  some (0, w)
set_option maxRecDepth 100000 in
set_option maxHeartbeats 4000000 in
theorem fn_X8_write {l : Launch} {D : va_G} {ad : Nat → Nat} {ca : Nat → ClassId} (hJ : rv_J ad) (k0 : Nat) (p1 : Int32) (p2 : Int32) (p3 : Int32) (hk0 : rv_st k0) (w : rv_W) : rv_Fn l D ad ca yX8_write cX8_write 4 none 0 0 [.ref (ad k0), .int p1, .int p2, .int p3] w (f_X8_write k0 p1 p2 p3 w) := by
  refine rv_mk (lv := [(0, .ref (ad k0)), (1, .int p1), (2, .int p2), (3, .int p3)]) hJ (by decide +kernel) (Nat.le_of_ble_eq_true rfl) rfl (fun K h hr => ?_)
  have h : rv_Rl D ad ca l RX8 cX8_write 4 0 0 K := h
  unfold f_X8_write
  refine rv_iload_n h 0 dX8_write_0 1 rfl ?_
  refine rv_if_lt (tgt := 24) h 1 dX8_write_1 (by decide) (fun _ => ?_) (fun _ => ?_)
  · exact rv_retv hr 24 dX8_write_24
  refine rv_iload_n h 4 dX8_write_4 1 rfl ?_
  refine rv_bipush (v := 20) h 5 dX8_write_5 (by decide +kernel) ?_
  refine rv_icmp_ge (tgt := 24) h 7 dX8_write_7 (by decide) (fun _ => ?_) (fun _ => ?_)
  rotate_left
  · exact rv_retv hr 24 dX8_write_24
  refine rv_aload_n h 10 dX8_write_10 0 rfl ?_
  refine rv_getr h 11 dX8_write_11 (rv_stS hk0) rv_fd_X8_15 rfl ?_
  refine rv_iload_n h 14 dX8_write_14 1 rfl ?_
  refine rv_iload_n h 15 dX8_write_15 2 rfl ?_
  refine rv_iast h 16 dX8_write_16 (rv_stA hk0) (fun w1 => ?_)
  refine rv_aload_n h 17 dX8_write_17 0 rfl ?_
  refine rv_getr h 18 dX8_write_18 (rv_stS hk0) rv_fd_X8_19 rfl ?_
  refine rv_iload_n h 21 dX8_write_21 1 rfl ?_
  refine rv_iload_n h 22 dX8_write_22 3 rfl ?_
  refine rv_iast h 23 dX8_write_23 (rv_stB hk0) (fun w2 => ?_)
  exact rv_retv hr 24 dX8_write_24
def f_X8_append (k0 : Nat) (p1 : Int32) (p2 : Int32) (w : rv_W) : rv_R :=
  rv_bd (f_X8_room k0 w) (fun (r1 : Int32) (w2 : rv_W) =>
  if 0 < r1 then
  rv_bd (f_X8_write k0 (w2 k0 1) p1 p2 w2) (fun (r3 : Int32) (w4 : rv_W) =>
  rv_lt (rv_up w4 k0 1 ((w4 k0 1) + (1 : Int32))) (fun (w5 : rv_W) =>
  some (0, w5)))
  else
  some (0, w2))
set_option maxRecDepth 100000 in
set_option maxHeartbeats 4000000 in
theorem fn_X8_append {l : Launch} {D : va_G} {ad : Nat → Nat} {ca : Nat → ClassId} (hJ : rv_J ad) (k0 : Nat) (p1 : Int32) (p2 : Int32) (hk0 : rv_st k0) (w : rv_W) : rv_Fn l D ad ca yX8_append cX8_append 3 none 1 23 [.ref (ad k0), .int p1, .int p2] w (f_X8_append k0 p1 p2 w) := by
  refine rv_mk (lv := [(0, .ref (ad k0)), (1, .int p1), (2, .int p2)]) hJ (by decide +kernel) (Nat.le_of_ble_eq_true rfl) rfl (fun K h hr => ?_)
  have h : rv_Rl D ad ca l RX8 cX8_append 3 1 23 K := h
  unfold f_X8_append
  refine rv_aload_n h 0 dX8_append_0 0 rfl ?_
  refine rv_callVi h 1 dX8_append_1 (fn_X8_room hJ k0 hk0 w) ce_X8_room lk_X8_27 (rv_stS hk0) rfl rv_cf6 rfl rfl (Nat.le_of_ble_eq_true rfl) ⟨Nat.le_of_ble_eq_true rfl, Nat.le_of_ble_eq_true rfl⟩ (fun r1 w2 => ?_)
  refine rv_if_le (tgt := 27) h 4 dX8_append_4 (by decide) (fun _ => ?_) (fun _ => ?_)
  rotate_left
  · exact rv_retv hr 27 dX8_append_27
  refine rv_aload_n h 7 dX8_append_7 0 rfl ?_
  refine rv_aload_n h 8 dX8_append_8 0 rfl ?_
  refine rv_geti h 9 dX8_append_9 (rv_stS hk0) rv_fd_X8_22 rfl ?_
  refine rv_iload_n h 12 dX8_append_12 1 rfl ?_
  refine rv_iload_n h 13 dX8_append_13 2 rfl ?_
  refine rv_callVv h 14 dX8_append_14 (fn_X8_write hJ k0 (w2 k0 1) p1 p2 hk0 w2) ce_X8_write lk_X8_31 (rv_stS hk0) rfl rv_cf6 rfl rfl (Nat.le_of_ble_eq_true rfl) ⟨Nat.le_of_ble_eq_true rfl, Nat.le_of_ble_eq_true rfl⟩ (fun r3 w4 => ?_)
  refine rv_aload_n h 17 dX8_append_17 0 rfl ?_
  refine rv_dup h 18 dX8_append_18 rfl ?_
  refine rv_geti h 19 dX8_append_19 (rv_stS hk0) rv_fd_X8_22 rfl ?_
  refine rv_iconst h 22 dX8_append_22 rv_c1 ?_
  refine rv_iadd h 23 dX8_append_23 ?_
  refine rv_puti h 24 dX8_append_24 (rv_stS hk0) rv_fd_X8_22 rfl ⟨rfl, rfl⟩ (fun w5 => ?_)
  exact rv_retv hr 27 dX8_append_27
def f_X8_drop (k0 : Nat) (p1 : Int32) (w : rv_W) : rv_R :=
  rv_lt ((p1 + (1 : Int32))) (fun (v1 : Int32) =>
  rv_fx (fun _ _ => none) (fun (ag2 : Int32 → rv_W → rv_R) (v4 : Int32) (w5 : rv_W) =>
  if v4 < (w5 k0 1) then
  rv_bd (f_X8_votersOf k0 v4 w5) (fun (r7 : Int32) (w8 : rv_W) =>
  rv_bd (f_X8_ballotOf k0 v4 w8) (fun (r9 : Int32) (w10 : rv_W) =>
  rv_bd (f_X8_write k0 (v4 - (1 : Int32)) r7 r9 w10) (fun (r11 : Int32) (w12 : rv_W) =>
  rv_lt (v4 + (1 : Int32)) (fun (v13 : Int32) =>
  ag2 v13 w12))))
  else
  rv_lt (rv_up w5 k0 1 ((w5 k0 1) - (1 : Int32))) (fun (w6 : rv_W) =>
  some (0, w6))) rv_FU v1 w)
set_option maxRecDepth 100000 in
set_option maxHeartbeats 4000000 in
theorem fn_X8_drop {l : Launch} {D : va_G} {ad : Nat → Nat} {ca : Nat → ClassId} (hJ : rv_J ad) (k0 : Nat) (p1 : Int32) (hk0 : rv_st k0) (w : rv_W) : rv_Fn l D ad ca yX8_drop cX8_drop 3 none 1 23 [.ref (ad k0), .int p1] w (f_X8_drop k0 p1 w) := by
  refine rv_mk (lv := [(0, .ref (ad k0)), (1, .int p1)]) hJ (by decide +kernel) (Nat.le_of_ble_eq_true rfl) rfl (fun K h hr => ?_)
  have h : rv_Rl D ad ca l RX8 cX8_drop 3 1 23 K := h
  unfold f_X8_drop
  refine rv_iload_n h 0 dX8_drop_0 1 rfl ?_
  refine rv_iconst h 1 dX8_drop_1 rv_c1 ?_
  refine rv_iadd h 2 dX8_drop_2 ?_
  refine rv_top (fun v1 => ?_)
  refine rv_istore_n (lv' := [(2, .int v1), (0, .ref (ad k0)), (1, .int p1)]) h 3 dX8_drop_3 (by decide) rfl ?_
  refine rv_sub h [1, 0] rfl ?_
  refine rv_fx_ind (fun (a0 : Int32 → rv_W → rv_R) => ∀ (v4 : Int32) (w5 : rv_W), K 4 [(0, .ref (ad k0)), (2, .int v4)] [] w5 (a0 v4 w5)) (fun _ _ => rv_none h) (fun ag2 ih3 v4 w5 => ?_) rv_FU v1 w
  refine rv_iload_n h 4 dX8_drop_4 1 rfl ?_
  refine rv_aload_n h 5 dX8_drop_5 0 rfl ?_
  refine rv_geti h 6 dX8_drop_6 (rv_stS hk0) rv_fd_X8_22 rfl ?_
  refine rv_icmp_ge (tgt := 35) h 9 dX8_drop_9 (by decide) (fun _ => ?_) (fun _ => ?_)
  rotate_left
  · refine rv_aload_n h 35 dX8_drop_35 0 rfl ?_
    refine rv_dup h 36 dX8_drop_36 rfl ?_
    refine rv_geti h 37 dX8_drop_37 (rv_stS hk0) rv_fd_X8_22 rfl ?_
    refine rv_iconst h 40 dX8_drop_40 rv_c1 ?_
    refine rv_isub h 41 dX8_drop_41 ?_
    refine rv_puti h 42 dX8_drop_42 (rv_stS hk0) rv_fd_X8_22 rfl ⟨rfl, rfl⟩ (fun w6 => ?_)
    exact rv_retv hr 45 dX8_drop_45
  refine rv_aload_n h 12 dX8_drop_12 0 rfl ?_
  refine rv_iload_n h 13 dX8_drop_13 1 rfl ?_
  refine rv_iconst h 14 dX8_drop_14 rv_c1 ?_
  refine rv_isub h 15 dX8_drop_15 ?_
  refine rv_aload_n h 16 dX8_drop_16 0 rfl ?_
  refine rv_iload_n h 17 dX8_drop_17 1 rfl ?_
  refine rv_callVi h 18 dX8_drop_18 (fn_X8_votersOf hJ k0 v4 hk0 w5) ce_X8_votersOf lk_X8_35 (rv_stS hk0) rfl rv_cf6 rfl rfl (Nat.le_of_ble_eq_true rfl) ⟨Nat.le_of_ble_eq_true rfl, Nat.le_of_ble_eq_true rfl⟩ (fun r7 w8 => ?_)
  refine rv_aload_n h 21 dX8_drop_21 0 rfl ?_
  refine rv_iload_n h 22 dX8_drop_22 1 rfl ?_
  refine rv_callVi h 23 dX8_drop_23 (fn_X8_ballotOf hJ k0 v4 hk0 w8) ce_X8_ballotOf lk_X8_39 (rv_stS hk0) rfl rv_cf6 rfl rfl (Nat.le_of_ble_eq_true rfl) ⟨Nat.le_of_ble_eq_true rfl, Nat.le_of_ble_eq_true rfl⟩ (fun r9 w10 => ?_)
  refine rv_callVv h 26 dX8_drop_26 (fn_X8_write hJ k0 (v4 - (1 : Int32)) r7 r9 hk0 w10) ce_X8_write lk_X8_31 (rv_stS hk0) rfl rv_cf6 rfl rfl (Nat.le_of_ble_eq_true rfl) ⟨Nat.le_of_ble_eq_true rfl, Nat.le_of_ble_eq_true rfl⟩ (fun r11 w12 => ?_)
  refine rv_iinc h 29 (fun v13 => [(2, .int v13), (0, .ref (ad k0))]) dX8_drop_29 1 rfl rv_c1 (by decide) (fun _ => rfl) (fun v13 => ?_)
  refine rv_goto (tgt := 4) h 32 dX8_drop_32 (by decide) ?_
  refine rv_sub h [1, 0] rfl ?_
  exact ih3 v13 w12
def f_X8_total (k0 : Nat) (w : rv_W) : rv_R :=
  rv_fx (fun _ _ _ => none) (fun (ag1 : Int32 → Int32 → rv_W → rv_R) (v3 : Int32) (v4 : Int32) (w5 : rv_W) =>
  if v4 < (w5 k0 1) then
  rv_bd (f_X8_votersOf k0 v4 w5) (fun (r6 : Int32) (w7 : rv_W) =>
  rv_lt ((v3 + r6)) (fun (v8 : Int32) =>
  rv_lt (v4 + (1 : Int32)) (fun (v9 : Int32) =>
  ag1 v8 v9 w7)))
  else
  some (v3, w5)) rv_FU (0 : Int32) (0 : Int32) w
set_option maxRecDepth 100000 in
set_option maxHeartbeats 4000000 in
theorem fn_X8_total {l : Launch} {D : va_G} {ad : Nat → Nat} {ca : Nat → ClassId} (hJ : rv_J ad) (k0 : Nat) (hk0 : rv_st k0) (w : rv_W) : rv_Fn l D ad ca yX8_total cX8_total 3 (some .int) 1 21 [.ref (ad k0)] w (f_X8_total k0 w) := by
  refine rv_mk (lv := [(0, .ref (ad k0))]) hJ (by decide +kernel) (Nat.le_of_ble_eq_true rfl) rfl (fun K h hr => ?_)
  have h : rv_Rl D ad ca l RX8 cX8_total 3 1 21 K := h
  unfold f_X8_total
  refine rv_iconst h 0 dX8_total_0 rv_c0 ?_
  refine rv_istore_n (lv' := [(1, .int (0 : Int32)), (0, .ref (ad k0))]) h 1 dX8_total_1 (by decide) rfl ?_
  refine rv_iconst h 2 dX8_total_2 rv_c0 ?_
  refine rv_istore_n (lv' := [(2, .int (0 : Int32)), (1, .int (0 : Int32)), (0, .ref (ad k0))]) h 3 dX8_total_3 (by decide) rfl ?_
  refine rv_sub h [2, 1, 0] rfl ?_
  refine rv_fx_ind (fun (a0 : Int32 → Int32 → rv_W → rv_R) => ∀ (v3 : Int32) (v4 : Int32) (w5 : rv_W), K 4 [(0, .ref (ad k0)), (1, .int v3), (2, .int v4)] [] w5 (a0 v3 v4 w5)) (fun _ _ _ => rv_none h) (fun ag1 ih2 v3 v4 w5 => ?_) rv_FU (0 : Int32) (0 : Int32) w
  refine rv_iload_n h 4 dX8_total_4 2 rfl ?_
  refine rv_aload_n h 5 dX8_total_5 0 rfl ?_
  refine rv_geti h 6 dX8_total_6 (rv_stS hk0) rv_fd_X8_22 rfl ?_
  refine rv_icmp_ge (tgt := 26) h 9 dX8_total_9 (by decide) (fun _ => ?_) (fun _ => ?_)
  rotate_left
  · refine rv_iload_n h 26 dX8_total_26 1 rfl ?_
    exact rv_reti hr 27 dX8_total_27
  refine rv_iload_n h 12 dX8_total_12 1 rfl ?_
  refine rv_aload_n h 13 dX8_total_13 0 rfl ?_
  refine rv_iload_n h 14 dX8_total_14 2 rfl ?_
  refine rv_callVi h 15 dX8_total_15 (fn_X8_votersOf hJ k0 v4 hk0 w5) ce_X8_votersOf lk_X8_35 (rv_stS hk0) rfl rv_cf6 rfl rfl (Nat.le_of_ble_eq_true rfl) ⟨Nat.le_of_ble_eq_true rfl, Nat.le_of_ble_eq_true rfl⟩ (fun r6 w7 => ?_)
  refine rv_iadd h 18 dX8_total_18 ?_
  refine rv_top (fun v8 => ?_)
  refine rv_istore_n (lv' := [(1, .int v8), (0, .ref (ad k0)), (2, .int v4)]) h 19 dX8_total_19 (by decide) rfl ?_
  refine rv_iinc h 20 (fun v9 => [(2, .int v9), (1, .int v8), (0, .ref (ad k0))]) dX8_total_20 2 rfl rv_c1 (by decide) (fun _ => rfl) (fun v9 => ?_)
  refine rv_goto (tgt := 4) h 23 dX8_total_23 (by decide) ?_
  refine rv_sub h [2, 1, 0] rfl ?_
  exact ih2 v8 v9 w7
def f_X8_groupOf (k0 : Nat) (p1 : Int32) (w : rv_W) : rv_R :=
  rv_fx (fun _ _ _ => none) (fun (ag1 : Int32 → Int32 → rv_W → rv_R) (v3 : Int32) (v4 : Int32) (w5 : rv_W) =>
  if v4 < (w5 k0 1) then
  rv_bd (f_X8_votersOf k0 v4 w5) (fun (r6 : Int32) (w7 : rv_W) =>
  rv_lt ((v3 + r6)) (fun (v8 : Int32) =>
  if p1 < v8 then
  some (v4, w7)
  else
  rv_lt (v4 + (1 : Int32)) (fun (v9 : Int32) =>
  ag1 v8 v9 w7)))
  else
  some (((w5 k0 1) - (1 : Int32)), w5)) rv_FU (0 : Int32) (0 : Int32) w
set_option maxRecDepth 100000 in
set_option maxHeartbeats 4000000 in
theorem fn_X8_groupOf {l : Launch} {D : va_G} {ad : Nat → Nat} {ca : Nat → ClassId} (hJ : rv_J ad) (k0 : Nat) (p1 : Int32) (hk0 : rv_st k0) (w : rv_W) : rv_Fn l D ad ca yX8_groupOf cX8_groupOf 4 (some .int) 1 21 [.ref (ad k0), .int p1] w (f_X8_groupOf k0 p1 w) := by
  refine rv_mk (lv := [(0, .ref (ad k0)), (1, .int p1)]) hJ (by decide +kernel) (Nat.le_of_ble_eq_true rfl) rfl (fun K h hr => ?_)
  have h : rv_Rl D ad ca l RX8 cX8_groupOf 4 1 21 K := h
  unfold f_X8_groupOf
  refine rv_iconst h 0 dX8_groupOf_0 rv_c0 ?_
  refine rv_istore_n (lv' := [(2, .int (0 : Int32)), (0, .ref (ad k0)), (1, .int p1)]) h 1 dX8_groupOf_1 (by decide) rfl ?_
  refine rv_iconst h 2 dX8_groupOf_2 rv_c0 ?_
  refine rv_istore_n (lv' := [(3, .int (0 : Int32)), (2, .int (0 : Int32)), (0, .ref (ad k0)), (1, .int p1)]) h 3 dX8_groupOf_3 (by decide) rfl ?_
  refine rv_sub h [2, 3, 1, 0] rfl ?_
  refine rv_fx_ind (fun (a0 : Int32 → Int32 → rv_W → rv_R) => ∀ (v3 : Int32) (v4 : Int32) (w5 : rv_W), K 4 [(0, .ref (ad k0)), (1, .int p1), (2, .int v3), (3, .int v4)] [] w5 (a0 v3 v4 w5)) (fun _ _ _ => rv_none h) (fun ag1 ih2 v3 v4 w5 => ?_) rv_FU (0 : Int32) (0 : Int32) w
  refine rv_iload_n h 4 dX8_groupOf_4 3 rfl ?_
  refine rv_aload_n h 5 dX8_groupOf_5 0 rfl ?_
  refine rv_geti h 6 dX8_groupOf_6 (rv_stS hk0) rv_fd_X8_22 rfl ?_
  refine rv_icmp_ge (tgt := 33) h 9 dX8_groupOf_9 (by decide) (fun _ => ?_) (fun _ => ?_)
  rotate_left
  · refine rv_aload_n h 33 dX8_groupOf_33 0 rfl ?_
    refine rv_geti h 34 dX8_groupOf_34 (rv_stS hk0) rv_fd_X8_22 rfl ?_
    refine rv_iconst h 37 dX8_groupOf_37 rv_c1 ?_
    refine rv_isub h 38 dX8_groupOf_38 ?_
    exact rv_reti hr 39 dX8_groupOf_39
  refine rv_iload_n h 12 dX8_groupOf_12 2 rfl ?_
  refine rv_aload_n h 13 dX8_groupOf_13 0 rfl ?_
  refine rv_iload_n h 14 dX8_groupOf_14 3 rfl ?_
  refine rv_callVi h 15 dX8_groupOf_15 (fn_X8_votersOf hJ k0 v4 hk0 w5) ce_X8_votersOf lk_X8_35 (rv_stS hk0) rfl rv_cf6 rfl rfl (Nat.le_of_ble_eq_true rfl) ⟨Nat.le_of_ble_eq_true rfl, Nat.le_of_ble_eq_true rfl⟩ (fun r6 w7 => ?_)
  refine rv_iadd h 18 dX8_groupOf_18 ?_
  refine rv_top (fun v8 => ?_)
  refine rv_istore_n (lv' := [(2, .int v8), (0, .ref (ad k0)), (1, .int p1), (3, .int v4)]) h 19 dX8_groupOf_19 (by decide) rfl ?_
  refine rv_iload_n h 20 dX8_groupOf_20 2 rfl ?_
  refine rv_iload_n h 21 dX8_groupOf_21 0 rfl ?_
  refine rv_icmp_ge (tgt := 27) h 22 dX8_groupOf_22 (by decide) (fun _ => ?_) (fun _ => ?_)
  · refine rv_iload_n h 25 dX8_groupOf_25 3 rfl ?_
    exact rv_reti hr 26 dX8_groupOf_26
  refine rv_iinc h 27 (fun v9 => [(3, .int v9), (2, .int v8), (0, .ref (ad k0)), (1, .int p1)]) dX8_groupOf_27 3 rfl rv_c1 (by decide) (fun _ => rfl) (fun v9 => ?_)
  refine rv_goto (tgt := 4) h 30 dX8_groupOf_30 (by decide) ?_
  refine rv_sub h [2, 3, 1, 0] rfl ?_
  exact ih2 v8 v9 w7
def f_X8_copy (k0 : Nat) (a1 : Nat) (w : rv_W) : rv_R :=
  rv_lt (rv_up w k0 0 (w a1 0)) (fun (w1 : rv_W) =>
  rv_lt (rv_up w1 k0 1 (w1 a1 1)) (fun (w2 : rv_W) =>
  rv_fx (fun _ _ => none) (fun (ag3 : Int32 → rv_W → rv_R) (v5 : Int32) (w6 : rv_W) =>
  if v5 < (20 : Int32) then
  rv_ck v5 20 (
  rv_ck v5 20 (rv_lt (rv_up w6 (k0 + 1) v5.toNatClampNeg (w6 (a1 + 1) v5.toNatClampNeg)) (fun (w7 : rv_W) =>
  rv_ck v5 20 (
  rv_ck v5 20 (rv_lt (rv_up w7 (k0 + 2) v5.toNatClampNeg (w7 (a1 + 2) v5.toNatClampNeg)) (fun (w8 : rv_W) =>
  rv_lt (v5 + (1 : Int32)) (fun (v9 : Int32) =>
  ag3 v9 w8)))))))
  else
  some (0, w6)) rv_FU (0 : Int32) w2))
set_option maxRecDepth 100000 in
set_option maxHeartbeats 4000000 in
theorem fn_X8_copy {l : Launch} {D : va_G} {ad : Nat → Nat} {ca : Nat → ClassId} (hJ : rv_J ad) (k0 : Nat) (a1 : Nat) (hk0 : rv_st k0) (ha1 : rv_st a1) (w : rv_W) : rv_Fn l D ad ca yX8_copy cX8_copy 3 none 0 0 [.ref (ad k0), .ref (ad a1)] w (f_X8_copy k0 a1 w) := by
  refine rv_mk (lv := [(0, .ref (ad k0)), (1, .ref (ad a1))]) hJ (by decide +kernel) (Nat.le_of_ble_eq_true rfl) rfl (fun K h hr => ?_)
  have h : rv_Rl D ad ca l RX8 cX8_copy 3 0 0 K := h
  unfold f_X8_copy
  refine rv_aload_n h 0 dX8_copy_0 0 rfl ?_
  refine rv_aload_n h 1 dX8_copy_1 1 rfl ?_
  refine rv_geti h 2 dX8_copy_2 (rv_stS ha1) rv_fd_X8_9 rfl ?_
  refine rv_puti h 5 dX8_copy_5 (rv_stS hk0) rv_fd_X8_9 rfl ⟨rfl, rfl⟩ (fun w1 => ?_)
  refine rv_aload_n h 8 dX8_copy_8 0 rfl ?_
  refine rv_aload_n h 9 dX8_copy_9 1 rfl ?_
  refine rv_geti h 10 dX8_copy_10 (rv_stS ha1) rv_fd_X8_22 rfl ?_
  refine rv_puti h 13 dX8_copy_13 (rv_stS hk0) rv_fd_X8_22 rfl ⟨rfl, rfl⟩ (fun w2 => ?_)
  refine rv_iconst h 16 dX8_copy_16 rv_c0 ?_
  refine rv_istore_n (lv' := [(2, .int (0 : Int32)), (0, .ref (ad k0)), (1, .ref (ad a1))]) h 17 dX8_copy_17 (by decide) rfl ?_
  refine rv_sub h [1, 2, 0] rfl ?_
  refine rv_fx_ind (fun (a0 : Int32 → rv_W → rv_R) => ∀ (v5 : Int32) (w6 : rv_W), K 18 [(0, .ref (ad k0)), (1, .ref (ad a1)), (2, .int v5)] [] w6 (a0 v5 w6)) (fun _ _ => rv_none h) (fun ag3 ih4 v5 w6 => ?_) rv_FU (0 : Int32) w2
  refine rv_iload_n h 18 dX8_copy_18 2 rfl ?_
  refine rv_bipush (v := 20) h 19 dX8_copy_19 (by decide +kernel) ?_
  refine rv_icmp_ge (tgt := 54) h 21 dX8_copy_21 (by decide) (fun _ => ?_) (fun _ => ?_)
  rotate_left
  · exact rv_retv hr 54 dX8_copy_54
  refine rv_aload_n h 24 dX8_copy_24 0 rfl ?_
  refine rv_getr h 25 dX8_copy_25 (rv_stS hk0) rv_fd_X8_15 rfl ?_
  refine rv_iload_n h 28 dX8_copy_28 2 rfl ?_
  refine rv_aload_n h 29 dX8_copy_29 1 rfl ?_
  refine rv_getr h 30 dX8_copy_30 (rv_stS ha1) rv_fd_X8_15 rfl ?_
  refine rv_iload_n h 33 dX8_copy_33 2 rfl ?_
  refine rv_iald h 34 dX8_copy_34 (rv_stA ha1) ?_
  refine rv_iast h 35 dX8_copy_35 (rv_stA hk0) (fun w7 => ?_)
  refine rv_aload_n h 36 dX8_copy_36 0 rfl ?_
  refine rv_getr h 37 dX8_copy_37 (rv_stS hk0) rv_fd_X8_19 rfl ?_
  refine rv_iload_n h 40 dX8_copy_40 2 rfl ?_
  refine rv_aload_n h 41 dX8_copy_41 1 rfl ?_
  refine rv_getr h 42 dX8_copy_42 (rv_stS ha1) rv_fd_X8_19 rfl ?_
  refine rv_iload_n h 45 dX8_copy_45 2 rfl ?_
  refine rv_iald h 46 dX8_copy_46 (rv_stB ha1) ?_
  refine rv_iast h 47 dX8_copy_47 (rv_stB hk0) (fun w8 => ?_)
  refine rv_iinc h 48 (fun v9 => [(2, .int v9), (0, .ref (ad k0)), (1, .ref (ad a1))]) dX8_copy_48 2 rfl rv_c1 (by decide) (fun _ => rfl) (fun v9 => ?_)
  refine rv_goto (tgt := 18) h 51 dX8_copy_51 (by decide) ?_
  refine rv_sub h [1, 2, 0] rfl ?_
  exact ih4 v9 w8
def f_X9_votersOf (p1 : Int32) (w : rv_W) : rv_R :=
  if p1 < 0 then
  some ((0 : Int32), w)
  else
  if p1 < (20 : Int32) then
  rv_ck p1 20 (
  some ((w 22 p1.toNatClampNeg), w))
  else
  some ((0 : Int32), w)
set_option maxRecDepth 100000 in
set_option maxHeartbeats 4000000 in
theorem fn_X9_votersOf {l : Launch} {D : va_G} {ad : Nat → Nat} {ca : Nat → ClassId} (hJ : rv_J ad) (p1 : Int32)  (w : rv_W) : rv_Fn l D ad ca yX9_votersOf cX9_votersOf 2 (some .int) 0 0 [.ref (ad 20), .int p1] w (f_X9_votersOf p1 w) := by
  refine rv_mk (lv := [(0, .ref (ad 20)), (1, .int p1)]) hJ (by decide +kernel) (Nat.le_of_ble_eq_true rfl) rfl (fun K h hr => ?_)
  have h : rv_Rl D ad ca l RX9 cX9_votersOf 2 0 0 K := h
  unfold f_X9_votersOf
  refine rv_iload_n h 0 dX9_votersOf_0 1 rfl ?_
  refine rv_if_lt (tgt := 22) h 1 dX9_votersOf_1 (by decide) (fun _ => ?_) (fun _ => ?_)
  · refine rv_iconst h 22 dX9_votersOf_22 rv_c0 ?_
    exact rv_reti hr 23 dX9_votersOf_23
  refine rv_iload_n h 4 dX9_votersOf_4 1 rfl ?_
  refine rv_aload_n h 5 dX9_votersOf_5 0 rfl ?_
  refine rv_getr h 6 dX9_votersOf_6 rv_s20 rv_fd_X9_15 rfl ?_
  refine rv_len (v := 20) h 9 dX9_votersOf_9 rv_s22 (by decide) (by decide +kernel) ?_
  refine rv_icmp_ge (tgt := 22) h 10 dX9_votersOf_10 (by decide) (fun _ => ?_) (fun _ => ?_)
  rotate_left
  · refine rv_iconst h 22 dX9_votersOf_22 rv_c0 ?_
    exact rv_reti hr 23 dX9_votersOf_23
  refine rv_aload_n h 13 dX9_votersOf_13 0 rfl ?_
  refine rv_getr h 14 dX9_votersOf_14 rv_s20 rv_fd_X9_15 rfl ?_
  refine rv_iload_n h 17 dX9_votersOf_17 1 rfl ?_
  refine rv_iald h 18 dX9_votersOf_18 rv_s22 ?_
  refine rv_goto (tgt := 23) h 19 dX9_votersOf_19 (by decide) ?_
  exact rv_reti hr 23 dX9_votersOf_23
def f_X9_ballotOf (p1 : Int32) (w : rv_W) : rv_R :=
  if p1 < 0 then
  some ((0 : Int32), w)
  else
  if p1 < (20 : Int32) then
  rv_ck p1 20 (
  some ((w 23 p1.toNatClampNeg), w))
  else
  some ((0 : Int32), w)
set_option maxRecDepth 100000 in
set_option maxHeartbeats 4000000 in
theorem fn_X9_ballotOf {l : Launch} {D : va_G} {ad : Nat → Nat} {ca : Nat → ClassId} (hJ : rv_J ad) (p1 : Int32)  (w : rv_W) : rv_Fn l D ad ca yX9_ballotOf cX9_ballotOf 2 (some .int) 0 0 [.ref (ad 20), .int p1] w (f_X9_ballotOf p1 w) := by
  refine rv_mk (lv := [(0, .ref (ad 20)), (1, .int p1)]) hJ (by decide +kernel) (Nat.le_of_ble_eq_true rfl) rfl (fun K h hr => ?_)
  have h : rv_Rl D ad ca l RX9 cX9_ballotOf 2 0 0 K := h
  unfold f_X9_ballotOf
  refine rv_iload_n h 0 dX9_ballotOf_0 1 rfl ?_
  refine rv_if_lt (tgt := 22) h 1 dX9_ballotOf_1 (by decide) (fun _ => ?_) (fun _ => ?_)
  · refine rv_iconst h 22 dX9_ballotOf_22 rv_c0 ?_
    exact rv_reti hr 23 dX9_ballotOf_23
  refine rv_iload_n h 4 dX9_ballotOf_4 1 rfl ?_
  refine rv_aload_n h 5 dX9_ballotOf_5 0 rfl ?_
  refine rv_getr h 6 dX9_ballotOf_6 rv_s20 rv_fd_X9_19 rfl ?_
  refine rv_len (v := 20) h 9 dX9_ballotOf_9 rv_s23 (by decide) (by decide +kernel) ?_
  refine rv_icmp_ge (tgt := 22) h 10 dX9_ballotOf_10 (by decide) (fun _ => ?_) (fun _ => ?_)
  rotate_left
  · refine rv_iconst h 22 dX9_ballotOf_22 rv_c0 ?_
    exact rv_reti hr 23 dX9_ballotOf_23
  refine rv_aload_n h 13 dX9_ballotOf_13 0 rfl ?_
  refine rv_getr h 14 dX9_ballotOf_14 rv_s20 rv_fd_X9_19 rfl ?_
  refine rv_iload_n h 17 dX9_ballotOf_17 1 rfl ?_
  refine rv_iald h 18 dX9_ballotOf_18 rv_s23 ?_
  refine rv_goto (tgt := 23) h 19 dX9_ballotOf_19 (by decide) ?_
  exact rv_reti hr 23 dX9_ballotOf_23
def f_X9_byteAt (p1 : Int32) (w : rv_W) : rv_R :=
  if p1 < 0 then
  some ((-1 : Int32), w)
  else
  if p1 < (100 : Int32) then
  rv_ck p1 100 (
  some ((w 21 p1.toNatClampNeg), w))
  else
  some ((-1 : Int32), w)
set_option maxRecDepth 100000 in
set_option maxHeartbeats 4000000 in
theorem fn_X9_byteAt {l : Launch} {D : va_G} {ad : Nat → Nat} {ca : Nat → ClassId} (hJ : rv_J ad) (p1 : Int32)  (w : rv_W) : rv_Fn l D ad ca yX9_byteAt cX9_byteAt 2 (some .int) 0 0 [.ref (ad 20), .int p1] w (f_X9_byteAt p1 w) := by
  refine rv_mk (lv := [(0, .ref (ad 20)), (1, .int p1)]) hJ (by decide +kernel) (Nat.le_of_ble_eq_true rfl) rfl (fun K h hr => ?_)
  have h : rv_Rl D ad ca l RX9 cX9_byteAt 2 0 0 K := h
  unfold f_X9_byteAt
  refine rv_iload_n h 0 dX9_byteAt_0 1 rfl ?_
  refine rv_if_lt (tgt := 22) h 1 dX9_byteAt_1 (by decide) (fun _ => ?_) (fun _ => ?_)
  · refine rv_iconst h 22 dX9_byteAt_22 rv_cm1 ?_
    exact rv_reti hr 23 dX9_byteAt_23
  refine rv_iload_n h 4 dX9_byteAt_4 1 rfl ?_
  refine rv_aload_n h 5 dX9_byteAt_5 0 rfl ?_
  refine rv_getr h 6 dX9_byteAt_6 rv_s20 rv_fd_X9_9 rfl ?_
  refine rv_len (v := 100) h 9 dX9_byteAt_9 rv_s21 (by decide) (by decide +kernel) ?_
  refine rv_icmp_ge (tgt := 22) h 10 dX9_byteAt_10 (by decide) (fun _ => ?_) (fun _ => ?_)
  rotate_left
  · refine rv_iconst h 22 dX9_byteAt_22 rv_cm1 ?_
    exact rv_reti hr 23 dX9_byteAt_23
  refine rv_aload_n h 13 dX9_byteAt_13 0 rfl ?_
  refine rv_getr h 14 dX9_byteAt_14 rv_s20 rv_fd_X9_9 rfl ?_
  refine rv_iload_n h 17 dX9_byteAt_17 1 rfl ?_
  refine rv_cald h 18 dX9_byteAt_18 rv_s21 ?_
  refine rv_goto (tgt := 23) h 19 dX9_byteAt_19 (by decide) ?_
  exact rv_reti hr 23 dX9_byteAt_23
def f_X9_next  (w : rv_W) : rv_R :=
  rv_fx (fun _ => none) (fun (ag1 : rv_W → rv_R)  (w3 : rv_W) =>
  rv_jn (fun  (w4 : rv_W) =>
  if (w4 20 2) < (w4 20 0) then
  rv_bd (f_X9_byteAt (w4 20 2) w4) (fun (r7 : Int32) (w8 : rv_W) =>
  some (r7, w8))
  else
  some ((-1 : Int32), w4)) (fun (k5 : rv_W → rv_R) =>
  if (w3 20 2) < (w3 20 0) then
  rv_bd (f_X9_byteAt (w3 20 2) w3) (fun (r9 : Int32) (w10 : rv_W) =>
  if r9 = (32 : Int32) then
  rv_lt (rv_up w10 20 2 ((w10 20 2) + (1 : Int32))) (fun (w11 : rv_W) =>
  ag1 w11)
  else
  k5 w10)
  else
  k5 w3)) rv_FU w
set_option maxRecDepth 100000 in
set_option maxHeartbeats 4000000 in
theorem fn_X9_next {l : Launch} {D : va_G} {ad : Nat → Nat} {ca : Nat → ClassId} (hJ : rv_J ad)   (w : rv_W) : rv_Fn l D ad ca yX9_next cX9_next 1 (some .int) 1 21 [.ref (ad 20)] w (f_X9_next  w) := by
  refine rv_mk (lv := [(0, .ref (ad 20))]) hJ (by decide +kernel) (Nat.le_of_ble_eq_true rfl) rfl (fun K h hr => ?_)
  have h : rv_Rl D ad ca l RX9 cX9_next 1 1 21 K := h
  unfold f_X9_next
  refine rv_sub h [0] rfl ?_
  refine rv_fx_ind (fun (a0 : rv_W → rv_R) => ∀  (w3 : rv_W), K 0 [(0, .ref (ad 20))] [] w3 (a0 w3)) (fun _ => rv_none h) (fun ag1 ih2 w3 => ?_) rv_FU w
  refine rv_aload_n h 0 dX9_next_0 0 rfl ?_
  refine rv_geti h 1 dX9_next_1 rv_s20 rv_fd_X9_28 rfl ?_
  refine rv_aload_n h 4 dX9_next_4 0 rfl ?_
  refine rv_geti h 5 dX9_next_5 rv_s20 rv_fd_X9_22 rfl ?_
  refine rv_join (fun (k0 : rv_W → rv_R) => ∀  (w4 : rv_W), K 37 [(0, .ref (ad 20))] ([]) w4 (k0 w4)) (fun w4 => ?_) (fun k5 hk6 => ?_)
  · refine rv_aload_n h 37 dX9_next_37 0 rfl ?_
    refine rv_geti h 38 dX9_next_38 rv_s20 rv_fd_X9_28 rfl ?_
    refine rv_aload_n h 41 dX9_next_41 0 rfl ?_
    refine rv_geti h 42 dX9_next_42 rv_s20 rv_fd_X9_22 rfl ?_
    refine rv_icmp_ge (tgt := 59) h 45 dX9_next_45 (by decide) (fun _ => ?_) (fun _ => ?_)
    rotate_left
    · refine rv_iconst h 59 dX9_next_59 rv_cm1 ?_
      exact rv_reti hr 60 dX9_next_60
    refine rv_aload_n h 48 dX9_next_48 0 rfl ?_
    refine rv_aload_n h 49 dX9_next_49 0 rfl ?_
    refine rv_geti h 50 dX9_next_50 rv_s20 rv_fd_X9_28 rfl ?_
    refine rv_callVi h 53 dX9_next_53 (fn_X9_byteAt hJ (w4 20 2)  w4) ce_X9_byteAt lk_X9_56 rv_s20 rfl rv_cf7 rfl rfl (Nat.le_of_ble_eq_true rfl) ⟨Nat.le_of_ble_eq_true rfl, Nat.le_of_ble_eq_true rfl⟩ (fun r7 w8 => ?_)
    refine rv_goto (tgt := 60) h 56 dX9_next_56 (by decide) ?_
    exact rv_reti hr 60 dX9_next_60
  refine rv_icmp_ge (tgt := 37) h 8 dX9_next_8 (by decide) (fun _ => ?_) (fun _ => ?_)
  rotate_left
  · refine rv_sub h [0] rfl ?_
    exact hk6 w3
  refine rv_aload_n h 11 dX9_next_11 0 rfl ?_
  refine rv_aload_n h 12 dX9_next_12 0 rfl ?_
  refine rv_geti h 13 dX9_next_13 rv_s20 rv_fd_X9_28 rfl ?_
  refine rv_callVi h 16 dX9_next_16 (fn_X9_byteAt hJ (w3 20 2)  w3) ce_X9_byteAt lk_X9_56 rv_s20 rfl rv_cf7 rfl rfl (Nat.le_of_ble_eq_true rfl) ⟨Nat.le_of_ble_eq_true rfl, Nat.le_of_ble_eq_true rfl⟩ (fun r9 w10 => ?_)
  refine rv_bipush (v := 32) h 19 dX9_next_19 (by decide +kernel) ?_
  refine rv_icmp_ne (tgt := 37) h 21 dX9_next_21 (by decide) (fun _ => ?_) (fun _ => ?_)
  rotate_left
  · refine rv_sub h [0] rfl ?_
    exact hk6 w10
  refine rv_aload_n h 24 dX9_next_24 0 rfl ?_
  refine rv_dup h 25 dX9_next_25 rfl ?_
  refine rv_geti h 26 dX9_next_26 rv_s20 rv_fd_X9_28 rfl ?_
  refine rv_iconst h 29 dX9_next_29 rv_c1 ?_
  refine rv_iadd h 30 dX9_next_30 ?_
  refine rv_puti h 31 dX9_next_31 rv_s20 rv_fd_X9_28 rfl ⟨rfl, rfl⟩ (fun w11 => ?_)
  refine rv_goto (tgt := 0) h 34 dX9_next_34 (by decide) ?_
  refine rv_sub h [0] rfl ?_
  exact ih2 w11
def f_X9_isDigit (p1 : Int32) (w : rv_W) : rv_R :=
  if p1 < (48 : Int32) then
  some ((0 : Int32), w)
  else
  if (57 : Int32) < p1 then
  some ((0 : Int32), w)
  else
  some ((1 : Int32), w)
set_option maxRecDepth 100000 in
set_option maxHeartbeats 4000000 in
theorem fn_X9_isDigit {l : Launch} {D : va_G} {ad : Nat → Nat} {ca : Nat → ClassId} (hJ : rv_J ad) (p1 : Int32)  (w : rv_W) : rv_Fn l D ad ca yX9_isDigit cX9_isDigit 1 (some .boolean) 0 0 [.int p1] w (f_X9_isDigit p1 w) := by
  refine rv_mk (lv := [(0, .int p1)]) hJ (by decide +kernel) (Nat.le_of_ble_eq_true rfl) rfl (fun K h hr => ?_)
  have h : rv_Rl D ad ca l RX9 cX9_isDigit 1 0 0 K := h
  unfold f_X9_isDigit
  refine rv_iload_n h 0 dX9_isDigit_0 0 rfl ?_
  refine rv_bipush (v := 48) h 1 dX9_isDigit_1 (by decide +kernel) ?_
  refine rv_icmp_lt (tgt := 16) h 3 dX9_isDigit_3 (by decide) (fun _ => ?_) (fun _ => ?_)
  · refine rv_iconst h 16 dX9_isDigit_16 rv_c0 ?_
    exact rv_retz0 hr 17 dX9_isDigit_17
  refine rv_iload_n h 6 dX9_isDigit_6 0 rfl ?_
  refine rv_bipush (v := 57) h 7 dX9_isDigit_7 (by decide +kernel) ?_
  refine rv_icmp_gt (tgt := 16) h 9 dX9_isDigit_9 (by decide) (fun _ => ?_) (fun _ => ?_)
  · refine rv_iconst h 16 dX9_isDigit_16 rv_c0 ?_
    exact rv_retz0 hr 17 dX9_isDigit_17
  refine rv_iconst h 12 dX9_isDigit_12 rv_c1 ?_
  refine rv_goto (tgt := 17) h 13 dX9_isDigit_13 (by decide) ?_
  exact rv_retz1 hr 17 dX9_isDigit_17
def f_X10_isGroupSize (p1 : Int32) (w : rv_W) : rv_R :=
  if p1 < (1 : Int32) then
  some ((0 : Int32), w)
  else
  if (100 : Int32) < p1 then
  some ((0 : Int32), w)
  else
  some ((1 : Int32), w)
set_option maxRecDepth 100000 in
set_option maxHeartbeats 4000000 in
theorem fn_X10_isGroupSize {l : Launch} {D : va_G} {ad : Nat → Nat} {ca : Nat → ClassId} (hJ : rv_J ad) (p1 : Int32)  (w : rv_W) : rv_Fn l D ad ca yX10_isGroupSize cX10_isGroupSize 1 (some .boolean) 0 0 [.int p1] w (f_X10_isGroupSize p1 w) := by
  refine rv_mk (lv := [(0, .int p1)]) hJ (by decide +kernel) (Nat.le_of_ble_eq_true rfl) rfl (fun K h hr => ?_)
  have h : rv_Rl D ad ca l RX10 cX10_isGroupSize 1 0 0 K := h
  unfold f_X10_isGroupSize
  refine rv_iload_n h 0 dX10_isGroupSize_0 0 rfl ?_
  refine rv_iconst h 1 dX10_isGroupSize_1 rv_c1 ?_
  refine rv_icmp_lt (tgt := 15) h 2 dX10_isGroupSize_2 (by decide) (fun _ => ?_) (fun _ => ?_)
  · refine rv_iconst h 15 dX10_isGroupSize_15 rv_c0 ?_
    exact rv_retz0 hr 16 dX10_isGroupSize_16
  refine rv_iload_n h 5 dX10_isGroupSize_5 0 rfl ?_
  refine rv_bipush (v := 100) h 6 dX10_isGroupSize_6 (by decide +kernel) ?_
  refine rv_icmp_gt (tgt := 15) h 8 dX10_isGroupSize_8 (by decide) (fun _ => ?_) (fun _ => ?_)
  · refine rv_iconst h 15 dX10_isGroupSize_15 rv_c0 ?_
    exact rv_retz0 hr 16 dX10_isGroupSize_16
  refine rv_iconst h 11 dX10_isGroupSize_11 rv_c1 ?_
  refine rv_goto (tgt := 16) h 12 dX10_isGroupSize_12 (by decide) ?_
  exact rv_retz1 hr 16 dX10_isGroupSize_16
def f_X9_readNumber  (w : rv_W) : rv_R :=
  rv_fx (fun _ _ => none) (fun (ag1 : Int32 → rv_W → rv_R) (v3 : Int32) (w4 : rv_W) =>
  rv_jn (fun  (w5 : rv_W) =>
  rv_jn (fun  (w8 : rv_W) =>
  rv_lt (rv_up w8 20 2 (w 20 2)) (fun (w11 : rv_W) =>
  some ((0 : Int32), w11))) (fun (k9 : rv_W → rv_R) =>
  if (3 : Int32) < ((w5 20 2) - (w 20 2)) then
  k9 w5
  else
  rv_bd (f_X10_isGroupSize v3 w5) (fun (r12 : Int32) (w13 : rv_W) =>
  if r12 = 0 then
  k9 w13
  else
  some (v3, w13)))) (fun (k6 : rv_W → rv_R) =>
  if (w4 20 2) < (w4 20 0) then
  if (w4 20 2) < ((w 20 2) + (4 : Int32)) then
  rv_bd (f_X9_byteAt (w4 20 2) w4) (fun (r14 : Int32) (w15 : rv_W) =>
  rv_bd (f_X9_isDigit r14 w15) (fun (r16 : Int32) (w17 : rv_W) =>
  if r16 = 0 then
  k6 w17
  else
  rv_bd (f_X9_byteAt (w17 20 2) w17) (fun (r18 : Int32) (w19 : rv_W) =>
  rv_lt ((((v3 * (10 : Int32)) + r18) - (48 : Int32))) (fun (v20 : Int32) =>
  rv_lt (rv_up w19 20 2 ((w19 20 2) + (1 : Int32))) (fun (w21 : rv_W) =>
  ag1 v20 w21)))))
  else
  k6 w4
  else
  k6 w4)) rv_FU (0 : Int32) w
set_option maxRecDepth 100000 in
set_option maxHeartbeats 4000000 in
theorem fn_X9_readNumber {l : Launch} {D : va_G} {ad : Nat → Nat} {ca : Nat → ClassId} (hJ : rv_J ad)   (w : rv_W) : rv_Fn l D ad ca yX9_readNumber cX9_readNumber 3 (some .int) 1 21 [.ref (ad 20)] w (f_X9_readNumber  w) := by
  refine rv_mk (lv := [(0, .ref (ad 20))]) hJ (by decide +kernel) (Nat.le_of_ble_eq_true rfl) rfl (fun K h hr => ?_)
  have h : rv_Rl D ad ca l RX9 cX9_readNumber 3 1 21 K := h
  unfold f_X9_readNumber
  refine rv_aload_n h 0 dX9_readNumber_0 0 rfl ?_
  refine rv_geti h 1 dX9_readNumber_1 rv_s20 rv_fd_X9_28 rfl ?_
  refine rv_istore_n (lv' := [(1, .int (w 20 2)), (0, .ref (ad 20))]) h 4 dX9_readNumber_4 (by decide) rfl ?_
  refine rv_iconst h 5 dX9_readNumber_5 rv_c0 ?_
  refine rv_istore_n (lv' := [(2, .int (0 : Int32)), (1, .int (w 20 2)), (0, .ref (ad 20))]) h 6 dX9_readNumber_6 (by decide) rfl ?_
  refine rv_sub h [2, 1, 0] rfl ?_
  refine rv_fx_ind (fun (a0 : Int32 → rv_W → rv_R) => ∀ (v3 : Int32) (w4 : rv_W), K 7 [(0, .ref (ad 20)), (1, .int (w 20 2)), (2, .int v3)] [] w4 (a0 v3 w4)) (fun _ _ => rv_none h) (fun ag1 ih2 v3 w4 => ?_) rv_FU (0 : Int32) w
  refine rv_aload_n h 7 dX9_readNumber_7 0 rfl ?_
  refine rv_geti h 8 dX9_readNumber_8 rv_s20 rv_fd_X9_28 rfl ?_
  refine rv_aload_n h 11 dX9_readNumber_11 0 rfl ?_
  refine rv_geti h 12 dX9_readNumber_12 rv_s20 rv_fd_X9_22 rfl ?_
  refine rv_join (fun (k0 : rv_W → rv_R) => ∀  (w5 : rv_W), K 72 [(0, .ref (ad 20)), (1, .int (w 20 2)), (2, .int v3)] ([]) w5 (k0 w5)) (fun w5 => ?_) (fun k6 hk7 => ?_)
  · refine rv_aload_n h 72 dX9_readNumber_72 0 rfl ?_
    refine rv_geti h 73 dX9_readNumber_73 rv_s20 rv_fd_X9_28 rfl ?_
    refine rv_iload_n h 76 dX9_readNumber_76 1 rfl ?_
    refine rv_isub h 77 dX9_readNumber_77 ?_
    refine rv_iconst h 78 dX9_readNumber_78 rv_c3 ?_
    refine rv_join (fun (k0 : rv_W → rv_R) => ∀  (w8 : rv_W), K 89 [(0, .ref (ad 20)), (1, .int (w 20 2))] ([]) w8 (k0 w8)) (fun w8 => ?_) (fun k9 hk10 => ?_)
    · refine rv_aload_n h 89 dX9_readNumber_89 0 rfl ?_
      refine rv_iload_n h 90 dX9_readNumber_90 1 rfl ?_
      refine rv_puti h 91 dX9_readNumber_91 rv_s20 rv_fd_X9_28 rfl ⟨rfl, rfl⟩ (fun w11 => ?_)
      refine rv_iconst h 94 dX9_readNumber_94 rv_c0 ?_
      exact rv_reti hr 95 dX9_readNumber_95
    refine rv_icmp_gt (tgt := 89) h 79 dX9_readNumber_79 (by decide) (fun _ => ?_) (fun _ => ?_)
    · refine rv_sub h [0, 1] rfl ?_
      exact hk10 w5
    refine rv_iload_n h 82 dX9_readNumber_82 2 rfl ?_
    refine rv_callNSi h 83 dX9_readNumber_83 (fn_X10_isGroupSize hJ v3  w5) ce_X10_isGroupSize lk_X9_60 rfl rfl (Nat.le_of_ble_eq_true rfl) ⟨Nat.le_of_ble_eq_true rfl, Nat.le_of_ble_eq_true rfl⟩ (fun r12 w13 => ?_)
    refine rv_if_ne (tgt := 96) h 86 dX9_readNumber_86 (by decide) (fun _ => ?_) (fun _ => ?_)
    · refine rv_sub h [0, 1] rfl ?_
      exact hk10 w13
    refine rv_iload_n h 96 dX9_readNumber_96 2 rfl ?_
    exact rv_reti hr 97 dX9_readNumber_97
  refine rv_icmp_ge (tgt := 72) h 15 dX9_readNumber_15 (by decide) (fun _ => ?_) (fun _ => ?_)
  rotate_left
  · refine rv_sub h [0, 1, 2] rfl ?_
    exact hk7 w4
  refine rv_aload_n h 18 dX9_readNumber_18 0 rfl ?_
  refine rv_geti h 19 dX9_readNumber_19 rv_s20 rv_fd_X9_28 rfl ?_
  refine rv_iload_n h 22 dX9_readNumber_22 1 rfl ?_
  refine rv_iconst h 23 dX9_readNumber_23 rv_c4 ?_
  refine rv_iadd h 24 dX9_readNumber_24 ?_
  refine rv_icmp_ge (tgt := 72) h 25 dX9_readNumber_25 (by decide) (fun _ => ?_) (fun _ => ?_)
  rotate_left
  · refine rv_sub h [0, 1, 2] rfl ?_
    exact hk7 w4
  refine rv_aload_n h 28 dX9_readNumber_28 0 rfl ?_
  refine rv_aload_n h 29 dX9_readNumber_29 0 rfl ?_
  refine rv_geti h 30 dX9_readNumber_30 rv_s20 rv_fd_X9_28 rfl ?_
  refine rv_callVi h 33 dX9_readNumber_33 (fn_X9_byteAt hJ (w4 20 2)  w4) ce_X9_byteAt lk_X9_56 rv_s20 rfl rv_cf7 rfl rfl (Nat.le_of_ble_eq_true rfl) ⟨Nat.le_of_ble_eq_true rfl, Nat.le_of_ble_eq_true rfl⟩ (fun r14 w15 => ?_)
  refine rv_callSi h 36 dX9_readNumber_36 (fn_X9_isDigit hJ r14  w15) ce_X9_isDigit lk_X9_47 rfl rfl (Nat.le_of_ble_eq_true rfl) ⟨Nat.le_of_ble_eq_true rfl, Nat.le_of_ble_eq_true rfl⟩ (fun r16 w17 => ?_)
  refine rv_if_eq (tgt := 72) h 39 dX9_readNumber_39 (by decide) (fun _ => ?_) (fun _ => ?_)
  · refine rv_sub h [0, 1, 2] rfl ?_
    exact hk7 w17
  refine rv_iload_n h 42 dX9_readNumber_42 2 rfl ?_
  refine rv_bipush (v := 10) h 43 dX9_readNumber_43 (by decide +kernel) ?_
  refine rv_imul h 45 dX9_readNumber_45 ?_
  refine rv_aload_n h 46 dX9_readNumber_46 0 rfl ?_
  refine rv_aload_n h 47 dX9_readNumber_47 0 rfl ?_
  refine rv_geti h 48 dX9_readNumber_48 rv_s20 rv_fd_X9_28 rfl ?_
  refine rv_callVi h 51 dX9_readNumber_51 (fn_X9_byteAt hJ (w17 20 2)  w17) ce_X9_byteAt lk_X9_56 rv_s20 rfl rv_cf7 rfl rfl (Nat.le_of_ble_eq_true rfl) ⟨Nat.le_of_ble_eq_true rfl, Nat.le_of_ble_eq_true rfl⟩ (fun r18 w19 => ?_)
  refine rv_iadd h 54 dX9_readNumber_54 ?_
  refine rv_bipush (v := 48) h 55 dX9_readNumber_55 (by decide +kernel) ?_
  refine rv_isub h 57 dX9_readNumber_57 ?_
  refine rv_top (fun v20 => ?_)
  refine rv_istore_n (lv' := [(2, .int v20), (0, .ref (ad 20)), (1, .int (w 20 2))]) h 58 dX9_readNumber_58 (by decide) rfl ?_
  refine rv_aload_n h 59 dX9_readNumber_59 1 rfl ?_
  refine rv_dup h 60 dX9_readNumber_60 rfl ?_
  refine rv_geti h 61 dX9_readNumber_61 rv_s20 rv_fd_X9_28 rfl ?_
  refine rv_iconst h 64 dX9_readNumber_64 rv_c1 ?_
  refine rv_iadd h 65 dX9_readNumber_65 ?_
  refine rv_puti h 66 dX9_readNumber_66 rv_s20 rv_fd_X9_28 rfl ⟨rfl, rfl⟩ (fun w21 => ?_)
  refine rv_goto (tgt := 7) h 69 dX9_readNumber_69 (by decide) ?_
  refine rv_sub h [1, 2, 0] rfl ?_
  exact ih2 v20 w21
def f_X9_readSign (p1 : Int32) (w : rv_W) : rv_R :=
  rv_bd (f_X9_next  w) (fun (r1 : Int32) (w2 : rv_W) =>
  rv_jn (fun (v3 : Int32) (w4 : rv_W) =>
  if v3 = 0 then
  rv_gd (v3 = 0 ∨ v3 = 1) (some (v3, w4))
  else
  rv_lt (rv_up w4 20 2 ((w4 20 2) + (1 : Int32))) (fun (w7 : rv_W) =>
  rv_gd (v3 = 0 ∨ v3 = 1) (some (v3, w7)))) (fun (k5 : Int32 → rv_W → rv_R) =>
  if r1 = p1 then
  k5 (1 : Int32) w2
  else
  k5 (0 : Int32) w2))
set_option maxRecDepth 100000 in
set_option maxHeartbeats 4000000 in
theorem fn_X9_readSign {l : Launch} {D : va_G} {ad : Nat → Nat} {ca : Nat → ClassId} (hJ : rv_J ad) (p1 : Int32)  (w : rv_W) : rv_Fn l D ad ca yX9_readSign cX9_readSign 3 (some .boolean) 2 41 [.ref (ad 20), .int p1] w (f_X9_readSign p1 w) := by
  refine rv_mk (lv := [(0, .ref (ad 20)), (1, .int p1)]) hJ (by decide +kernel) (Nat.le_of_ble_eq_true rfl) rfl (fun K h hr => ?_)
  have h : rv_Rl D ad ca l RX9 cX9_readSign 3 2 41 K := h
  unfold f_X9_readSign
  refine rv_aload_n h 0 dX9_readSign_0 0 rfl ?_
  refine rv_callVi h 1 dX9_readSign_1 (fn_X9_next hJ   w) ce_X9_next lk_X9_38 rv_s20 rfl rv_cf7 rfl rfl (Nat.le_of_ble_eq_true rfl) ⟨Nat.le_of_ble_eq_true rfl, Nat.le_of_ble_eq_true rfl⟩ (fun r1 w2 => ?_)
  refine rv_iload_n h 4 dX9_readSign_4 1 rfl ?_
  refine rv_join (fun (k0 : Int32 → rv_W → rv_R) => ∀ (v3 : Int32) (w4 : rv_W), K 13 [(0, .ref (ad 20))] (.int v3 :: []) w4 (k0 v3 w4)) (fun v3 w4 => ?_) (fun k5 hk6 => ?_)
  · refine rv_istore_n (lv' := [(2, .int v3), (0, .ref (ad 20))]) h 13 dX9_readSign_13 (by decide) rfl ?_
    refine rv_iload_n h 14 dX9_readSign_14 0 rfl ?_
    refine rv_if_eq (tgt := 28) h 15 dX9_readSign_15 (by decide) (fun _ => ?_) (fun _ => ?_)
    · refine rv_iload_n h 28 dX9_readSign_28 0 rfl ?_
      exact rv_retz h hr 29 dX9_readSign_29
    refine rv_aload_n h 18 dX9_readSign_18 1 rfl ?_
    refine rv_dup h 19 dX9_readSign_19 rfl ?_
    refine rv_geti h 20 dX9_readSign_20 rv_s20 rv_fd_X9_28 rfl ?_
    refine rv_iconst h 23 dX9_readSign_23 rv_c1 ?_
    refine rv_iadd h 24 dX9_readSign_24 ?_
    refine rv_puti h 25 dX9_readSign_25 rv_s20 rv_fd_X9_28 rfl ⟨rfl, rfl⟩ (fun w7 => ?_)
    refine rv_iload_n h 28 dX9_readSign_28 0 rfl ?_
    exact rv_retz h hr 29 dX9_readSign_29
  refine rv_icmp_ne (tgt := 12) h 5 dX9_readSign_5 (by decide) (fun _ => ?_) (fun _ => ?_)
  rotate_left
  · refine rv_iconst h 12 dX9_readSign_12 rv_c0 ?_
    refine rv_sub h [0] rfl ?_
    exact hk6 (0 : Int32) w2
  refine rv_iconst h 8 dX9_readSign_8 rv_c1 ?_
  refine rv_goto (tgt := 13) h 9 dX9_readSign_9 (by decide) ?_
  refine rv_sub h [0] rfl ?_
  exact hk6 (1 : Int32) w2
def f_X9_readBallot  (w : rv_W) : rv_R :=
  rv_fx (fun _ _ _ => none) (fun (ag1 : Int32 → Int32 → rv_W → rv_R) (v3 : Int32) (v4 : Int32) (w5 : rv_W) =>
  if (5 : Int32) < v4 then
  some ((0 : Int32), w5)
  else
  rv_bd (f_X9_next  w5) (fun (r6 : Int32) (w7 : rv_W) =>
  rv_lt ((r6 - (48 : Int32))) (fun (v8 : Int32) =>
  rv_bd (f_X1_exists v8 w7) (fun (r9 : Int32) (w10 : rv_W) =>
  if r9 = 0 then
  some ((0 : Int32), w10)
  else
  rv_bd (f_X0_placeOf v3 v8 w10) (fun (r11 : Int32) (w12 : rv_W) =>
  if r11 < 0 then
  rv_bd (f_X0_append v3 v8 w12) (fun (r13 : Int32) (w14 : rv_W) =>
  rv_lt (rv_up w14 20 2 ((w14 20 2) + (1 : Int32))) (fun (w15 : rv_W) =>
  rv_bd (f_X9_readSign (62 : Int32) w15) (fun (r16 : Int32) (w17 : rv_W) =>
  if r16 = 0 then
  some (r13, w17)
  else
  rv_lt (v4 + (1 : Int32)) (fun (v18 : Int32) =>
  ag1 r13 v18 w17))))
  else
  some ((0 : Int32), w12)))))) rv_FU (0 : Int32) (0 : Int32) w
set_option maxRecDepth 100000 in
set_option maxHeartbeats 4000000 in
theorem fn_X9_readBallot {l : Launch} {D : va_G} {ad : Nat → Nat} {ca : Nat → ClassId} (hJ : rv_J ad)   (w : rv_W) : rv_Fn l D ad ca yX9_readBallot cX9_readBallot 4 (some .int) 3 63 [.ref (ad 20)] w (f_X9_readBallot  w) := by
  refine rv_mk (lv := [(0, .ref (ad 20))]) hJ (by decide +kernel) (Nat.le_of_ble_eq_true rfl) rfl (fun K h hr => ?_)
  have h : rv_Rl D ad ca l RX9 cX9_readBallot 4 3 63 K := h
  unfold f_X9_readBallot
  refine rv_iconst h 0 dX9_readBallot_0 rv_c0 ?_
  refine rv_istore_n (lv' := [(1, .int (0 : Int32)), (0, .ref (ad 20))]) h 1 dX9_readBallot_1 (by decide) rfl ?_
  refine rv_iconst h 2 dX9_readBallot_2 rv_c0 ?_
  refine rv_istore_n (lv' := [(2, .int (0 : Int32)), (1, .int (0 : Int32)), (0, .ref (ad 20))]) h 3 dX9_readBallot_3 (by decide) rfl ?_
  refine rv_sub h [2, 1, 0] rfl ?_
  refine rv_fx_ind (fun (a0 : Int32 → Int32 → rv_W → rv_R) => ∀ (v3 : Int32) (v4 : Int32) (w5 : rv_W), K 4 [(0, .ref (ad 20)), (1, .int v3), (2, .int v4)] [] w5 (a0 v3 v4 w5)) (fun _ _ _ => rv_none h) (fun ag1 ih2 v3 v4 w5 => ?_) rv_FU (0 : Int32) (0 : Int32) w
  refine rv_iload_n h 4 dX9_readBallot_4 2 rfl ?_
  refine rv_iconst h 5 dX9_readBallot_5 rv_c5 ?_
  refine rv_icmp_gt (tgt := 67) h 6 dX9_readBallot_6 (by decide) (fun _ => ?_) (fun _ => ?_)
  · refine rv_iconst h 67 dX9_readBallot_67 rv_c0 ?_
    exact rv_reti hr 68 dX9_readBallot_68
  refine rv_aload_n h 9 dX9_readBallot_9 0 rfl ?_
  refine rv_callVi h 10 dX9_readBallot_10 (fn_X9_next hJ   w5) ce_X9_next lk_X9_38 rv_s20 rfl rv_cf7 rfl rfl (Nat.le_of_ble_eq_true rfl) ⟨Nat.le_of_ble_eq_true rfl, Nat.le_of_ble_eq_true rfl⟩ (fun r6 w7 => ?_)
  refine rv_bipush (v := 48) h 13 dX9_readBallot_13 (by decide +kernel) ?_
  refine rv_isub h 15 dX9_readBallot_15 ?_
  refine rv_top (fun v8 => ?_)
  refine rv_istore_n (lv' := [(3, .int v8), (0, .ref (ad 20)), (1, .int v3), (2, .int v4)]) h 16 dX9_readBallot_16 (by decide) rfl ?_
  refine rv_iload_n h 17 dX9_readBallot_17 0 rfl ?_
  refine rv_callSi h 18 dX9_readBallot_18 (fn_X1_exists hJ v8  w7) ce_X1_exists lk_X9_63 rfl rfl (Nat.le_of_ble_eq_true rfl) ⟨Nat.le_of_ble_eq_true rfl, Nat.le_of_ble_eq_true rfl⟩ (fun r9 w10 => ?_)
  refine rv_if_eq (tgt := 32) h 21 dX9_readBallot_21 (by decide) (fun _ => ?_) (fun _ => ?_)
  · refine rv_iconst h 32 dX9_readBallot_32 rv_c0 ?_
    exact rv_reti hr 33 dX9_readBallot_33
  refine rv_iload_n h 24 dX9_readBallot_24 2 rfl ?_
  refine rv_iload_n h 25 dX9_readBallot_25 0 rfl ?_
  refine rv_callSi h 26 dX9_readBallot_26 (fn_X0_placeOf hJ v3 v8  w10) ce_X0_placeOf lk_X9_68 rfl rfl (Nat.le_of_ble_eq_true rfl) ⟨Nat.le_of_ble_eq_true rfl, Nat.le_of_ble_eq_true rfl⟩ (fun r11 w12 => ?_)
  refine rv_if_lt (tgt := 34) h 29 dX9_readBallot_29 (by decide) (fun _ => ?_) (fun _ => ?_)
  rotate_left
  · refine rv_iconst h 32 dX9_readBallot_32 rv_c0 ?_
    exact rv_reti hr 33 dX9_readBallot_33
  refine rv_iload_n h 34 dX9_readBallot_34 2 rfl ?_
  refine rv_iload_n h 35 dX9_readBallot_35 0 rfl ?_
  refine rv_callSi h 36 dX9_readBallot_36 (fn_X0_append hJ v3 v8  w12) ce_X0_append lk_X9_72 rfl rfl (Nat.le_of_ble_eq_true rfl) ⟨Nat.le_of_ble_eq_true rfl, Nat.le_of_ble_eq_true rfl⟩ (fun r13 w14 => ?_)
  refine rv_istore_n (lv' := [(1, .int r13), (3, .int v8), (0, .ref (ad 20)), (2, .int v4)]) h 39 dX9_readBallot_39 (by decide) rfl ?_
  refine rv_aload_n h 40 dX9_readBallot_40 2 rfl ?_
  refine rv_dup h 41 dX9_readBallot_41 rfl ?_
  refine rv_geti h 42 dX9_readBallot_42 rv_s20 rv_fd_X9_28 rfl ?_
  refine rv_iconst h 45 dX9_readBallot_45 rv_c1 ?_
  refine rv_iadd h 46 dX9_readBallot_46 ?_
  refine rv_puti h 47 dX9_readBallot_47 rv_s20 rv_fd_X9_28 rfl ⟨rfl, rfl⟩ (fun w15 => ?_)
  refine rv_aload_n h 50 dX9_readBallot_50 2 rfl ?_
  refine rv_bipush (v := 62) h 51 dX9_readBallot_51 (by decide +kernel) ?_
  refine rv_callVi h 53 dX9_readBallot_53 (fn_X9_readSign hJ (62 : Int32)  w15) ce_X9_readSign lk_X9_43 rv_s20 rfl rv_cf7 rfl rfl (Nat.le_of_ble_eq_true rfl) ⟨Nat.le_of_ble_eq_true rfl, Nat.le_of_ble_eq_true rfl⟩ (fun r16 w17 => ?_)
  refine rv_if_ne (tgt := 61) h 56 dX9_readBallot_56 (by decide) (fun _ => ?_) (fun _ => ?_)
  · refine rv_iload_n h 59 dX9_readBallot_59 0 rfl ?_
    exact rv_reti hr 60 dX9_readBallot_60
  refine rv_iinc h 61 (fun v18 => [(2, .int v18), (1, .int r13), (3, .int v8), (0, .ref (ad 20))]) dX9_readBallot_61 3 rfl rv_c1 (by decide) (fun _ => rfl) (fun v18 => ?_)
  refine rv_goto (tgt := 4) h 64 dX9_readBallot_64 (by decide) ?_
  refine rv_sub h [3, 1, 0] rfl ?_
  exact ih2 r13 v18 w17
def f_X9_readGroup (p1 : Int32) (w : rv_W) : rv_R :=
  rv_bd (f_X9_next  w) (fun (r1 : Int32) (w2 : rv_W) =>
  if (w2 20 1) < 0 then
  some ((0 : Int32), w2)
  else
  if (w2 20 1) < p1 then
  if (w2 20 1) < (20 : Int32) then
  rv_bd (f_X9_isDigit r1 w2) (fun (r3 : Int32) (w4 : rv_W) =>
  if r3 = 0 then
  some ((0 : Int32), w4)
  else
  rv_bd (f_X9_readNumber  w4) (fun (r5 : Int32) (w6 : rv_W) =>
  if r5 = 0 then
  some ((0 : Int32), w6)
  else
  rv_bd (f_X9_readSign (58 : Int32) w6) (fun (r7 : Int32) (w8 : rv_W) =>
  if r7 = 0 then
  some ((0 : Int32), w8)
  else
  rv_bd (f_X9_readBallot  w8) (fun (r9 : Int32) (w10 : rv_W) =>
  if r9 = 0 then
  some ((0 : Int32), w10)
  else
  rv_ck (w10 20 1) 20 (rv_lt (rv_up w10 22 (w10 20 1).toNatClampNeg r5) (fun (w11 : rv_W) =>
  rv_ck (w11 20 1) 20 (rv_lt (rv_up w11 23 (w11 20 1).toNatClampNeg r9) (fun (w12 : rv_W) =>
  rv_lt (rv_up w12 20 1 ((w12 20 1) + (1 : Int32))) (fun (w13 : rv_W) =>
  some ((1 : Int32), w13))))))))))
  else
  some ((0 : Int32), w2)
  else
  some ((0 : Int32), w2))
set_option maxRecDepth 100000 in
set_option maxHeartbeats 4000000 in
theorem fn_X9_readGroup {l : Launch} {D : va_G} {ad : Nat → Nat} {ca : Nat → ClassId} (hJ : rv_J ad) (p1 : Int32)  (w : rv_W) : rv_Fn l D ad ca yX9_readGroup cX9_readGroup 5 (some .boolean) 4 86 [.ref (ad 20), .int p1] w (f_X9_readGroup p1 w) := by
  refine rv_mk (lv := [(0, .ref (ad 20)), (1, .int p1)]) hJ (by decide +kernel) (Nat.le_of_ble_eq_true rfl) rfl (fun K h hr => ?_)
  have h : rv_Rl D ad ca l RX9 cX9_readGroup 5 4 86 K := h
  unfold f_X9_readGroup
  refine rv_aload_n h 0 dX9_readGroup_0 0 rfl ?_
  refine rv_callVi h 1 dX9_readGroup_1 (fn_X9_next hJ   w) ce_X9_next lk_X9_38 rv_s20 rfl rv_cf7 rfl rfl (Nat.le_of_ble_eq_true rfl) ⟨Nat.le_of_ble_eq_true rfl, Nat.le_of_ble_eq_true rfl⟩ (fun r1 w2 => ?_)
  refine rv_istore_n (lv' := [(2, .int r1), (0, .ref (ad 20)), (1, .int p1)]) h 4 dX9_readGroup_4 (by decide) rfl ?_
  refine rv_aload_n h 5 dX9_readGroup_5 1 rfl ?_
  refine rv_geti h 6 dX9_readGroup_6 rv_s20 rv_fd_X9_31 rfl ?_
  refine rv_if_lt (tgt := 36) h 9 dX9_readGroup_9 (by decide) (fun _ => ?_) (fun _ => ?_)
  · refine rv_iconst h 36 dX9_readGroup_36 rv_c0 ?_
    exact rv_retz0 hr 37 dX9_readGroup_37
  refine rv_aload_n h 12 dX9_readGroup_12 1 rfl ?_
  refine rv_geti h 13 dX9_readGroup_13 rv_s20 rv_fd_X9_31 rfl ?_
  refine rv_iload_n h 16 dX9_readGroup_16 2 rfl ?_
  refine rv_icmp_ge (tgt := 36) h 17 dX9_readGroup_17 (by decide) (fun _ => ?_) (fun _ => ?_)
  rotate_left
  · refine rv_iconst h 36 dX9_readGroup_36 rv_c0 ?_
    exact rv_retz0 hr 37 dX9_readGroup_37
  refine rv_aload_n h 20 dX9_readGroup_20 1 rfl ?_
  refine rv_geti h 21 dX9_readGroup_21 rv_s20 rv_fd_X9_31 rfl ?_
  refine rv_bipush (v := 20) h 24 dX9_readGroup_24 (by decide +kernel) ?_
  refine rv_icmp_ge (tgt := 36) h 26 dX9_readGroup_26 (by decide) (fun _ => ?_) (fun _ => ?_)
  rotate_left
  · refine rv_iconst h 36 dX9_readGroup_36 rv_c0 ?_
    exact rv_retz0 hr 37 dX9_readGroup_37
  refine rv_iload_n h 29 dX9_readGroup_29 0 rfl ?_
  refine rv_callSi h 30 dX9_readGroup_30 (fn_X9_isDigit hJ r1  w2) ce_X9_isDigit lk_X9_47 rfl rfl (Nat.le_of_ble_eq_true rfl) ⟨Nat.le_of_ble_eq_true rfl, Nat.le_of_ble_eq_true rfl⟩ (fun r3 w4 => ?_)
  refine rv_if_ne (tgt := 38) h 33 dX9_readGroup_33 (by decide) (fun _ => ?_) (fun _ => ?_)
  · refine rv_iconst h 36 dX9_readGroup_36 rv_c0 ?_
    exact rv_retz0 hr 37 dX9_readGroup_37
  refine rv_aload_n h 38 dX9_readGroup_38 1 rfl ?_
  refine rv_callVi h 39 dX9_readGroup_39 (fn_X9_readNumber hJ   w4) ce_X9_readNumber lk_X9_50 rv_s20 rfl rv_cf7 rfl rfl (Nat.le_of_ble_eq_true rfl) ⟨Nat.le_of_ble_eq_true rfl, Nat.le_of_ble_eq_true rfl⟩ (fun r5 w6 => ?_)
  refine rv_istore_n (lv' := [(3, .int r5), (2, .int r1), (0, .ref (ad 20)), (1, .int p1)]) h 42 dX9_readGroup_42 (by decide) rfl ?_
  refine rv_iload_n h 43 dX9_readGroup_43 0 rfl ?_
  refine rv_if_eq (tgt := 56) h 44 dX9_readGroup_44 (by decide) (fun _ => ?_) (fun _ => ?_)
  · refine rv_iconst h 56 dX9_readGroup_56 rv_c0 ?_
    exact rv_retz0 hr 57 dX9_readGroup_57
  refine rv_aload_n h 47 dX9_readGroup_47 2 rfl ?_
  refine rv_bipush (v := 58) h 48 dX9_readGroup_48 (by decide +kernel) ?_
  refine rv_callVi h 50 dX9_readGroup_50 (fn_X9_readSign hJ (58 : Int32)  w6) ce_X9_readSign lk_X9_43 rv_s20 rfl rv_cf7 rfl rfl (Nat.le_of_ble_eq_true rfl) ⟨Nat.le_of_ble_eq_true rfl, Nat.le_of_ble_eq_true rfl⟩ (fun r7 w8 => ?_)
  refine rv_if_ne (tgt := 58) h 53 dX9_readGroup_53 (by decide) (fun _ => ?_) (fun _ => ?_)
  · refine rv_iconst h 56 dX9_readGroup_56 rv_c0 ?_
    exact rv_retz0 hr 57 dX9_readGroup_57
  refine rv_aload_n h 58 dX9_readGroup_58 2 rfl ?_
  refine rv_callVi h 59 dX9_readGroup_59 (fn_X9_readBallot hJ   w8) ce_X9_readBallot lk_X9_53 rv_s20 rfl rv_cf7 rfl rfl (Nat.le_of_ble_eq_true rfl) ⟨Nat.le_of_ble_eq_true rfl, Nat.le_of_ble_eq_true rfl⟩ (fun r9 w10 => ?_)
  refine rv_istore (lv' := [(4, .int r9), (3, .int r5), (2, .int r1), (0, .ref (ad 20)), (1, .int p1)]) h 62 dX9_readGroup_62 (by decide) rfl ?_
  refine rv_iload h 64 dX9_readGroup_64 0 rfl ?_
  refine rv_if_ne (tgt := 71) h 66 dX9_readGroup_66 (by decide) (fun _ => ?_) (fun _ => ?_)
  · refine rv_iconst h 69 dX9_readGroup_69 rv_c0 ?_
    exact rv_retz0 hr 70 dX9_readGroup_70
  refine rv_aload_n h 71 dX9_readGroup_71 3 rfl ?_
  refine rv_getr h 72 dX9_readGroup_72 rv_s20 rv_fd_X9_15 rfl ?_
  refine rv_aload_n h 75 dX9_readGroup_75 3 rfl ?_
  refine rv_geti h 76 dX9_readGroup_76 rv_s20 rv_fd_X9_31 rfl ?_
  refine rv_iload_n h 79 dX9_readGroup_79 1 rfl ?_
  refine rv_iast h 80 dX9_readGroup_80 rv_s22 (fun w11 => ?_)
  refine rv_aload_n h 81 dX9_readGroup_81 3 rfl ?_
  refine rv_getr h 82 dX9_readGroup_82 rv_s20 rv_fd_X9_19 rfl ?_
  refine rv_aload_n h 85 dX9_readGroup_85 3 rfl ?_
  refine rv_geti h 86 dX9_readGroup_86 rv_s20 rv_fd_X9_31 rfl ?_
  refine rv_iload h 89 dX9_readGroup_89 0 rfl ?_
  refine rv_iast h 91 dX9_readGroup_91 rv_s23 (fun w12 => ?_)
  refine rv_aload_n h 92 dX9_readGroup_92 3 rfl ?_
  refine rv_dup h 93 dX9_readGroup_93 rfl ?_
  refine rv_geti h 94 dX9_readGroup_94 rv_s20 rv_fd_X9_31 rfl ?_
  refine rv_iconst h 97 dX9_readGroup_97 rv_c1 ?_
  refine rv_iadd h 98 dX9_readGroup_98 ?_
  refine rv_puti h 99 dX9_readGroup_99 rv_s20 rv_fd_X9_31 rfl ⟨rfl, rfl⟩ (fun w13 => ?_)
  refine rv_iconst h 102 dX9_readGroup_102 rv_c1 ?_
  exact rv_retz1 hr 103 dX9_readGroup_103
def f_X9_read (p1 : Int32) (w : rv_W) : rv_R :=
  rv_lt (rv_up w 20 2 (0 : Int32)) (fun (w1 : rv_W) =>
  rv_lt (rv_up w1 20 1 (0 : Int32)) (fun (w2 : rv_W) =>
  rv_fx (fun _ _ => none) (fun (ag3 : Int32 → rv_W → rv_R) (v5 : Int32) (w6 : rv_W) =>
  if (20 : Int32) < v5 then
  some ((w6 20 2), w6)
  else
  rv_bd (f_X9_readGroup p1 w6) (fun (r7 : Int32) (w8 : rv_W) =>
  if r7 = 0 then
  some ((w8 20 2), w8)
  else
  rv_bd (f_X9_next  w8) (fun (r9 : Int32) (w10 : rv_W) =>
  if r9 = (-1 : Int32) then
  some ((-1000000 : Int32), w10)
  else
  rv_bd (f_X9_readSign (59 : Int32) w10) (fun (r11 : Int32) (w12 : rv_W) =>
  if r11 = 0 then
  some ((w12 20 2), w12)
  else
  rv_lt (v5 + (1 : Int32)) (fun (v13 : Int32) =>
  ag3 v13 w12))))) rv_FU (0 : Int32) w2))
set_option maxRecDepth 100000 in
set_option maxHeartbeats 4000000 in
theorem fn_X9_read {l : Launch} {D : va_G} {ad : Nat → Nat} {ca : Nat → ClassId} (hJ : rv_J ad) (p1 : Int32)  (w : rv_W) : rv_Fn l D ad ca yX9_read cX9_read 3 (some .int) 5 110 [.ref (ad 20), .int p1] w (f_X9_read p1 w) := by
  refine rv_mk (lv := [(0, .ref (ad 20)), (1, .int p1)]) hJ (by decide +kernel) (Nat.le_of_ble_eq_true rfl) rfl (fun K h hr => ?_)
  have h : rv_Rl D ad ca l RX9 cX9_read 3 5 110 K := h
  unfold f_X9_read
  refine rv_aload_n h 0 dX9_read_0 0 rfl ?_
  refine rv_iconst h 1 dX9_read_1 rv_c0 ?_
  refine rv_puti h 2 dX9_read_2 rv_s20 rv_fd_X9_28 rfl ⟨rfl, rfl⟩ (fun w1 => ?_)
  refine rv_aload_n h 5 dX9_read_5 0 rfl ?_
  refine rv_iconst h 6 dX9_read_6 rv_c0 ?_
  refine rv_puti h 7 dX9_read_7 rv_s20 rv_fd_X9_31 rfl ⟨rfl, rfl⟩ (fun w2 => ?_)
  refine rv_iconst h 10 dX9_read_10 rv_c0 ?_
  refine rv_istore_n (lv' := [(2, .int (0 : Int32)), (0, .ref (ad 20)), (1, .int p1)]) h 11 dX9_read_11 (by decide) rfl ?_
  refine rv_sub h [1, 2, 0] rfl ?_
  refine rv_fx_ind (fun (a0 : Int32 → rv_W → rv_R) => ∀ (v5 : Int32) (w6 : rv_W), K 12 [(0, .ref (ad 20)), (1, .int p1), (2, .int v5)] [] w6 (a0 v5 w6)) (fun _ _ => rv_none h) (fun ag3 ih4 v5 w6 => ?_) rv_FU (0 : Int32) w2
  refine rv_iload_n h 12 dX9_read_12 2 rfl ?_
  refine rv_bipush (v := 20) h 13 dX9_read_13 (by decide +kernel) ?_
  refine rv_icmp_gt (tgt := 62) h 15 dX9_read_15 (by decide) (fun _ => ?_) (fun _ => ?_)
  · refine rv_aload_n h 62 dX9_read_62 0 rfl ?_
    refine rv_geti h 63 dX9_read_63 rv_s20 rv_fd_X9_28 rfl ?_
    exact rv_reti hr 66 dX9_read_66
  refine rv_aload_n h 18 dX9_read_18 0 rfl ?_
  refine rv_iload_n h 19 dX9_read_19 1 rfl ?_
  refine rv_callVi h 20 dX9_read_20 (fn_X9_readGroup hJ p1  w6) ce_X9_readGroup lk_X9_34 rv_s20 rfl rv_cf7 rfl rfl (Nat.le_of_ble_eq_true rfl) ⟨Nat.le_of_ble_eq_true rfl, Nat.le_of_ble_eq_true rfl⟩ (fun r7 w8 => ?_)
  refine rv_if_ne (tgt := 31) h 23 dX9_read_23 (by decide) (fun _ => ?_) (fun _ => ?_)
  · refine rv_aload_n h 26 dX9_read_26 0 rfl ?_
    refine rv_geti h 27 dX9_read_27 rv_s20 rv_fd_X9_28 rfl ?_
    exact rv_reti hr 30 dX9_read_30
  refine rv_aload_n h 31 dX9_read_31 0 rfl ?_
  refine rv_callVi h 32 dX9_read_32 (fn_X9_next hJ   w8) ce_X9_next lk_X9_38 rv_s20 rfl rv_cf7 rfl rfl (Nat.le_of_ble_eq_true rfl) ⟨Nat.le_of_ble_eq_true rfl, Nat.le_of_ble_eq_true rfl⟩ (fun r9 w10 => ?_)
  refine rv_iconst h 35 dX9_read_35 rv_cm1 ?_
  refine rv_icmp_ne (tgt := 42) h 36 dX9_read_36 (by decide) (fun _ => ?_) (fun _ => ?_)
  · refine rv_ldc h 39 dX9_read_39 rv_kc_X9_42 ?_
    exact rv_reti hr 41 dX9_read_41
  refine rv_aload_n h 42 dX9_read_42 0 rfl ?_
  refine rv_bipush (v := 59) h 43 dX9_read_43 (by decide +kernel) ?_
  refine rv_callVi h 45 dX9_read_45 (fn_X9_readSign hJ (59 : Int32)  w10) ce_X9_readSign lk_X9_43 rv_s20 rfl rv_cf7 rfl rfl (Nat.le_of_ble_eq_true rfl) ⟨Nat.le_of_ble_eq_true rfl, Nat.le_of_ble_eq_true rfl⟩ (fun r11 w12 => ?_)
  refine rv_if_ne (tgt := 56) h 48 dX9_read_48 (by decide) (fun _ => ?_) (fun _ => ?_)
  · refine rv_aload_n h 51 dX9_read_51 0 rfl ?_
    refine rv_geti h 52 dX9_read_52 rv_s20 rv_fd_X9_28 rfl ?_
    exact rv_reti hr 55 dX9_read_55
  refine rv_iinc h 56 (fun v13 => [(2, .int v13), (0, .ref (ad 20)), (1, .int p1)]) dX9_read_56 2 rfl rv_c1 (by decide) (fun _ => rfl) (fun v13 => ?_)
  refine rv_goto (tgt := 12) h 59 dX9_read_59 (by decide) ?_
  refine rv_sub h [1, 2, 0] rfl ?_
  exact ih4 v13 w12
def f_X10_dropOldest  (w : rv_W) : rv_R :=
  rv_ck (0 : Int32) 5 (rv_gd (rv_st (w 4 (0 : Int32).toNatClampNeg).toNatClampNeg) (
  rv_fx (fun _ _ => none) (fun (ag2 : Int32 → rv_W → rv_R) (v4 : Int32) (w5 : rv_W) =>
  if v4 < (5 : Int32) then
  rv_ck v4 5 (rv_gd (rv_st (w5 4 v4.toNatClampNeg).toNatClampNeg) (
  rv_ck (v4 - (1 : Int32)) 5 (rv_lt (rv_up w5 4 (v4 - (1 : Int32)).toNatClampNeg (Int32.ofNat (w5 4 v4.toNatClampNeg).toNatClampNeg)) (fun (w9 : rv_W) =>
  rv_lt (v4 + (1 : Int32)) (fun (v10 : Int32) =>
  ag2 v10 w9)))))
  else
  rv_ck ((5 : Int32) - (1 : Int32)) 5 (rv_lt (rv_up w5 4 ((5 : Int32) - (1 : Int32)).toNatClampNeg (Int32.ofNat (w 4 (0 : Int32).toNatClampNeg).toNatClampNeg)) (fun (w6 : rv_W) =>
  rv_lt (rv_up w6 0 2 ((5 : Int32) - (1 : Int32))) (fun (w7 : rv_W) =>
  some (0, w7))))) rv_FU (1 : Int32) w))
set_option maxRecDepth 100000 in
set_option maxHeartbeats 4000000 in
theorem fn_X10_dropOldest {l : Launch} {D : va_G} {ad : Nat → Nat} {ca : Nat → ClassId} (hJ : rv_J ad)   (w : rv_W) : rv_Fn l D ad ca yX10_dropOldest cX10_dropOldest 3 none 0 0 [.ref (ad 0)] w (f_X10_dropOldest  w) := by
  refine rv_mk (lv := [(0, .ref (ad 0))]) hJ (by decide +kernel) (Nat.le_of_ble_eq_true rfl) rfl (fun K h hr => ?_)
  have h : rv_Rl D ad ca l RX10 cX10_dropOldest 3 0 0 K := h
  unfold f_X10_dropOldest
  refine rv_aload_n h 0 dX10_dropOldest_0 0 rfl ?_
  refine rv_getr h 1 dX10_dropOldest_1 rv_s0 rv_fd_X10_16 rfl ?_
  refine rv_iconst h 4 dX10_dropOldest_4 rv_c0 ?_
  refine rv_hald h 5 dX10_dropOldest_5 rv_s4 (fun hi1 => ?_)
  refine rv_astore_n (lv' := [(1, .ref (ad (w 4 (0 : Int32).toNatClampNeg).toNatClampNeg)), (0, .ref (ad 0))]) h 6 dX10_dropOldest_6 (by decide) rfl ?_
  refine rv_iconst h 7 dX10_dropOldest_7 rv_c1 ?_
  refine rv_istore_n (lv' := [(2, .int (1 : Int32)), (1, .ref (ad (w 4 (0 : Int32).toNatClampNeg).toNatClampNeg)), (0, .ref (ad 0))]) h 8 dX10_dropOldest_8 (by decide) rfl ?_
  refine rv_sub h [2, 1, 0] rfl ?_
  refine rv_fx_ind (fun (a0 : Int32 → rv_W → rv_R) => ∀ (v4 : Int32) (w5 : rv_W), K 9 [(0, .ref (ad 0)), (1, .ref (ad (w 4 (0 : Int32).toNatClampNeg).toNatClampNeg)), (2, .int v4)] [] w5 (a0 v4 w5)) (fun _ _ => rv_none h) (fun ag2 ih3 v4 w5 => ?_) rv_FU (1 : Int32) w
  refine rv_iload_n h 9 dX10_dropOldest_9 2 rfl ?_
  refine rv_aload_n h 10 dX10_dropOldest_10 0 rfl ?_
  refine rv_getr h 11 dX10_dropOldest_11 rv_s0 rv_fd_X10_16 rfl ?_
  refine rv_len (v := 5) h 14 dX10_dropOldest_14 rv_s4 (by decide) (by decide +kernel) ?_
  refine rv_icmp_ge (tgt := 38) h 15 dX10_dropOldest_15 (by decide) (fun _ => ?_) (fun _ => ?_)
  · refine rv_aload_n h 18 dX10_dropOldest_18 0 rfl ?_
    refine rv_getr h 19 dX10_dropOldest_19 rv_s0 rv_fd_X10_16 rfl ?_
    refine rv_iload_n h 22 dX10_dropOldest_22 2 rfl ?_
    refine rv_iconst h 23 dX10_dropOldest_23 rv_c1 ?_
    refine rv_isub h 24 dX10_dropOldest_24 ?_
    refine rv_aload_n h 25 dX10_dropOldest_25 0 rfl ?_
    refine rv_getr h 26 dX10_dropOldest_26 rv_s0 rv_fd_X10_16 rfl ?_
    refine rv_iload_n h 29 dX10_dropOldest_29 2 rfl ?_
    refine rv_hald h 30 dX10_dropOldest_30 rv_s4 (fun hi8 => ?_)
    refine rv_hast h 31 dX10_dropOldest_31 rv_s4 hi8 (fun w9 => ?_)
    refine rv_iinc h 32 (fun v10 => [(2, .int v10), (0, .ref (ad 0)), (1, .ref (ad (w 4 (0 : Int32).toNatClampNeg).toNatClampNeg))]) dX10_dropOldest_32 2 rfl rv_c1 (by decide) (fun _ => rfl) (fun v10 => ?_)
    refine rv_goto (tgt := 9) h 35 dX10_dropOldest_35 (by decide) ?_
    refine rv_sub h [1, 2, 0] rfl ?_
    exact ih3 v10 w9
  refine rv_aload_n h 38 dX10_dropOldest_38 0 rfl ?_
  refine rv_getr h 39 dX10_dropOldest_39 rv_s0 rv_fd_X10_16 rfl ?_
  refine rv_aload_n h 42 dX10_dropOldest_42 0 rfl ?_
  refine rv_getr h 43 dX10_dropOldest_43 rv_s0 rv_fd_X10_16 rfl ?_
  refine rv_len (v := 5) h 46 dX10_dropOldest_46 rv_s4 (by decide) (by decide +kernel) ?_
  refine rv_iconst h 47 dX10_dropOldest_47 rv_c1 ?_
  refine rv_isub h 48 dX10_dropOldest_48 ?_
  refine rv_aload_n h 49 dX10_dropOldest_49 1 rfl ?_
  refine rv_hast h 50 dX10_dropOldest_50 rv_s4 hi1 (fun w6 => ?_)
  refine rv_aload_n h 51 dX10_dropOldest_51 0 rfl ?_
  refine rv_aload_n h 52 dX10_dropOldest_52 0 rfl ?_
  refine rv_getr h 53 dX10_dropOldest_53 rv_s0 rv_fd_X10_16 rfl ?_
  refine rv_len (v := 5) h 56 dX10_dropOldest_56 rv_s4 (by decide) (by decide +kernel) ?_
  refine rv_iconst h 57 dX10_dropOldest_57 rv_c1 ?_
  refine rv_isub h 58 dX10_dropOldest_58 ?_
  refine rv_puti h 59 dX10_dropOldest_59 rv_s0 rv_fd_X10_260 rfl ⟨rfl, rfl⟩ (fun w7 => ?_)
  exact rv_retv hr 62 dX10_dropOldest_62
def f_X10_remember  (w : rv_W) : rv_R :=
  rv_jn (fun  (w1 : rv_W) =>
  if (w1 0 2) < 0 then
  some (0, w1)
  else
  if (w1 0 2) < (5 : Int32) then
  rv_ck (w1 0 2) 5 (rv_gd (rv_st (w1 4 (w1 0 2).toNatClampNeg).toNatClampNeg) (
  rv_bd (f_X8_copy (w1 4 (w1 0 2).toNatClampNeg).toNatClampNeg 1 w1) (fun (r5 : Int32) (w6 : rv_W) =>
  rv_lt (rv_up w6 0 2 ((w6 0 2) + (1 : Int32))) (fun (w7 : rv_W) =>
  some (0, w7)))))
  else
  some (0, w1)) (fun (k2 : rv_W → rv_R) =>
  if (w 0 2) < (5 : Int32) then
  k2 w
  else
  rv_bd (f_X10_dropOldest  w) (fun (r8 : Int32) (w9 : rv_W) =>
  k2 w9))
set_option maxRecDepth 100000 in
set_option maxHeartbeats 4000000 in
theorem fn_X10_remember {l : Launch} {D : va_G} {ad : Nat → Nat} {ca : Nat → ClassId} (hJ : rv_J ad)   (w : rv_W) : rv_Fn l D ad ca yX10_remember cX10_remember 2 none 1 22 [.ref (ad 0)] w (f_X10_remember  w) := by
  refine rv_mk (lv := [(0, .ref (ad 0))]) hJ (by decide +kernel) (Nat.le_of_ble_eq_true rfl) rfl (fun K h hr => ?_)
  have h : rv_Rl D ad ca l RX10 cX10_remember 2 1 22 K := h
  unfold f_X10_remember
  refine rv_aload_n h 0 dX10_remember_0 0 rfl ?_
  refine rv_geti h 1 dX10_remember_1 rv_s0 rv_fd_X10_260 rfl ?_
  refine rv_aload_n h 4 dX10_remember_4 0 rfl ?_
  refine rv_getr h 5 dX10_remember_5 rv_s0 rv_fd_X10_16 rfl ?_
  refine rv_len (v := 5) h 8 dX10_remember_8 rv_s4 (by decide) (by decide +kernel) ?_
  refine rv_join (fun (k0 : rv_W → rv_R) => ∀  (w1 : rv_W), K 16 [(0, .ref (ad 0))] ([]) w1 (k0 w1)) (fun w1 => ?_) (fun k2 hk3 => ?_)
  · refine rv_aload_n h 16 dX10_remember_16 0 rfl ?_
    refine rv_geti h 17 dX10_remember_17 rv_s0 rv_fd_X10_260 rfl ?_
    refine rv_if_lt (tgt := 35) h 20 dX10_remember_20 (by decide) (fun _ => ?_) (fun _ => ?_)
    · exact rv_retv hr 35 dX10_remember_35
    refine rv_aload_n h 23 dX10_remember_23 0 rfl ?_
    refine rv_geti h 24 dX10_remember_24 rv_s0 rv_fd_X10_260 rfl ?_
    refine rv_aload_n h 27 dX10_remember_27 0 rfl ?_
    refine rv_getr h 28 dX10_remember_28 rv_s0 rv_fd_X10_16 rfl ?_
    refine rv_len (v := 5) h 31 dX10_remember_31 rv_s4 (by decide) (by decide +kernel) ?_
    refine rv_icmp_lt (tgt := 36) h 32 dX10_remember_32 (by decide) (fun _ => ?_) (fun _ => ?_)
    rotate_left
    · exact rv_retv hr 35 dX10_remember_35
    refine rv_aload_n h 36 dX10_remember_36 0 rfl ?_
    refine rv_getr h 37 dX10_remember_37 rv_s0 rv_fd_X10_16 rfl ?_
    refine rv_aload_n h 40 dX10_remember_40 0 rfl ?_
    refine rv_geti h 41 dX10_remember_41 rv_s0 rv_fd_X10_260 rfl ?_
    refine rv_hald h 44 dX10_remember_44 rv_s4 (fun hi4 => ?_)
    refine rv_astore_n (lv' := [(1, .ref (ad (w1 4 (w1 0 2).toNatClampNeg).toNatClampNeg)), (0, .ref (ad 0))]) h 45 dX10_remember_45 (by decide) rfl ?_
    refine rv_aload_n h 46 dX10_remember_46 0 rfl ?_
    refine rv_ifnull h 47 dX10_remember_47 ?_
    refine rv_aload_n h 50 dX10_remember_50 0 rfl ?_
    refine rv_aload_n h 51 dX10_remember_51 1 rfl ?_
    refine rv_getr h 52 dX10_remember_52 rv_s0 rv_fd_X10_10 rfl ?_
    refine rv_callVv h 55 dX10_remember_55 (fn_X8_copy hJ (w1 4 (w1 0 2).toNatClampNeg).toNatClampNeg 1 hi4 (by decide) w1) ce_X8_copy lk_X10_263 (rv_stS hi4) rfl rv_cf6 rfl rfl (Nat.le_of_ble_eq_true rfl) ⟨Nat.le_of_ble_eq_true rfl, Nat.le_of_ble_eq_true rfl⟩ (fun r5 w6 => ?_)
    refine rv_aload_n h 58 dX10_remember_58 1 rfl ?_
    refine rv_dup h 59 dX10_remember_59 rfl ?_
    refine rv_geti h 60 dX10_remember_60 rv_s0 rv_fd_X10_260 rfl ?_
    refine rv_iconst h 63 dX10_remember_63 rv_c1 ?_
    refine rv_iadd h 64 dX10_remember_64 ?_
    refine rv_puti h 65 dX10_remember_65 rv_s0 rv_fd_X10_260 rfl ⟨rfl, rfl⟩ (fun w7 => ?_)
    exact rv_retv hr 68 dX10_remember_68
  refine rv_icmp_lt (tgt := 16) h 9 dX10_remember_9 (by decide) (fun _ => ?_) (fun _ => ?_)
  · refine rv_sub h [0] rfl ?_
    exact hk3 w
  refine rv_aload_n h 12 dX10_remember_12 0 rfl ?_
  refine rv_callVv h 13 dX10_remember_13 (fn_X10_dropOldest hJ   w) ce_X10_dropOldest lk_X10_297 rv_s0 rfl rv_cf8 rfl rfl (Nat.le_of_ble_eq_true rfl) ⟨Nat.le_of_ble_eq_true rfl, Nat.le_of_ble_eq_true rfl⟩ (fun r8 w9 => ?_)
  refine rv_sub h [0] rfl ?_
  exact hk3 w9
def f_X10_addGroup (p1 : Int32) (p2 : Int32) (w : rv_W) : rv_R :=
  rv_bd (f_X0_fromDigits p2 w) (fun (r1 : Int32) (w2 : rv_W) =>
  rv_bd (f_X10_isGroupSize p1 w2) (fun (r3 : Int32) (w4 : rv_W) =>
  if r3 = 0 then
  some ((-1000002 : Int32), w4)
  else
  if r1 = 0 then
  some ((-1000002 : Int32), w4)
  else
  rv_bd (f_X8_room 1 w4) (fun (r5 : Int32) (w6 : rv_W) =>
  if r5 = 0 then
  some ((-1000004 : Int32), w6)
  else
  rv_bd (f_X10_remember  w6) (fun (r7 : Int32) (w8 : rv_W) =>
  rv_bd (f_X8_append 1 p1 r1 w8) (fun (r9 : Int32) (w10 : rv_W) =>
  some (((w10 1 1) - (1 : Int32)), w10))))))
set_option maxRecDepth 100000 in
set_option maxHeartbeats 4000000 in
theorem fn_X10_addGroup {l : Launch} {D : va_G} {ad : Nat → Nat} {ca : Nat → ClassId} (hJ : rv_J ad) (p1 : Int32) (p2 : Int32)  (w : rv_W) : rv_Fn l D ad ca yX10_addGroup cX10_addGroup 4 (some .int) 2 46 [.ref (ad 0), .int p1, .int p2] w (f_X10_addGroup p1 p2 w) := by
  refine rv_mk (lv := [(0, .ref (ad 0)), (1, .int p1), (2, .int p2)]) hJ (by decide +kernel) (Nat.le_of_ble_eq_true rfl) rfl (fun K h hr => ?_)
  have h : rv_Rl D ad ca l RX10 cX10_addGroup 4 2 46 K := h
  unfold f_X10_addGroup
  refine rv_iload_n h 0 dX10_addGroup_0 2 rfl ?_
  refine rv_callSi h 1 dX10_addGroup_1 (fn_X0_fromDigits hJ p2  w) ce_X0_fromDigits lk_X10_45 rfl rfl (Nat.le_of_ble_eq_true rfl) ⟨Nat.le_of_ble_eq_true rfl, Nat.le_of_ble_eq_true rfl⟩ (fun r1 w2 => ?_)
  refine rv_istore_n (lv' := [(3, .int r1), (0, .ref (ad 0)), (1, .int p1), (2, .int p2)]) h 4 dX10_addGroup_4 (by decide) rfl ?_
  refine rv_iload_n h 5 dX10_addGroup_5 2 rfl ?_
  refine rv_callSi h 6 dX10_addGroup_6 (fn_X10_isGroupSize hJ p1  w2) ce_X10_isGroupSize lk_X10_51 rfl rfl (Nat.le_of_ble_eq_true rfl) ⟨Nat.le_of_ble_eq_true rfl, Nat.le_of_ble_eq_true rfl⟩ (fun r3 w4 => ?_)
  refine rv_if_eq (tgt := 16) h 9 dX10_addGroup_9 (by decide) (fun _ => ?_) (fun _ => ?_)
  · refine rv_ldc h 16 dX10_addGroup_16 rv_kc_X10_55 ?_
    exact rv_reti hr 18 dX10_addGroup_18
  refine rv_iload_n h 12 dX10_addGroup_12 0 rfl ?_
  refine rv_if_ne (tgt := 19) h 13 dX10_addGroup_13 (by decide) (fun _ => ?_) (fun _ => ?_)
  · refine rv_ldc h 16 dX10_addGroup_16 rv_kc_X10_55 ?_
    exact rv_reti hr 18 dX10_addGroup_18
  refine rv_aload_n h 19 dX10_addGroup_19 1 rfl ?_
  refine rv_getr h 20 dX10_addGroup_20 rv_s0 rv_fd_X10_10 rfl ?_
  refine rv_callVi h 23 dX10_addGroup_23 (fn_X8_room hJ 1 (by decide) w4) ce_X8_room lk_X10_56 rv_s1 rfl rv_cf6 rfl rfl (Nat.le_of_ble_eq_true rfl) ⟨Nat.le_of_ble_eq_true rfl, Nat.le_of_ble_eq_true rfl⟩ (fun r5 w6 => ?_)
  refine rv_if_ne (tgt := 32) h 26 dX10_addGroup_26 (by decide) (fun _ => ?_) (fun _ => ?_)
  · refine rv_ldc h 29 dX10_addGroup_29 rv_kc_X10_60 ?_
    exact rv_reti hr 31 dX10_addGroup_31
  refine rv_aload_n h 32 dX10_addGroup_32 1 rfl ?_
  refine rv_callVv h 33 dX10_addGroup_33 (fn_X10_remember hJ   w6) ce_X10_remember lk_X10_61 rv_s0 rfl rv_cf8 rfl rfl (Nat.le_of_ble_eq_true rfl) ⟨Nat.le_of_ble_eq_true rfl, Nat.le_of_ble_eq_true rfl⟩ (fun r7 w8 => ?_)
  refine rv_aload_n h 36 dX10_addGroup_36 1 rfl ?_
  refine rv_getr h 37 dX10_addGroup_37 rv_s0 rv_fd_X10_10 rfl ?_
  refine rv_iload_n h 40 dX10_addGroup_40 2 rfl ?_
  refine rv_iload_n h 41 dX10_addGroup_41 0 rfl ?_
  refine rv_callVv h 42 dX10_addGroup_42 (fn_X8_append hJ 1 p1 r1 (by decide) w8) ce_X8_append lk_X10_64 rv_s1 rfl rv_cf6 rfl rfl (Nat.le_of_ble_eq_true rfl) ⟨Nat.le_of_ble_eq_true rfl, Nat.le_of_ble_eq_true rfl⟩ (fun r9 w10 => ?_)
  refine rv_aload_n h 45 dX10_addGroup_45 1 rfl ?_
  refine rv_getr h 46 dX10_addGroup_46 rv_s0 rv_fd_X10_10 rfl ?_
  refine rv_geti h 49 dX10_addGroup_49 rv_s1 rv_fd_X10_68 rfl ?_
  refine rv_iconst h 52 dX10_addGroup_52 rv_c1 ?_
  refine rv_isub h 53 dX10_addGroup_53 ?_
  exact rv_reti hr 54 dX10_addGroup_54
def f_X10_removeGroup (p1 : Int32) (w : rv_W) : rv_R :=
  rv_bd (f_X8_holds 1 p1 w) (fun (r1 : Int32) (w2 : rv_W) =>
  if r1 = 0 then
  some ((-1000001 : Int32), w2)
  else
  rv_bd (f_X10_remember  w2) (fun (r3 : Int32) (w4 : rv_W) =>
  rv_bd (f_X8_drop 1 p1 w4) (fun (r5 : Int32) (w6 : rv_W) =>
  some ((w6 1 1), w6))))
set_option maxRecDepth 100000 in
set_option maxHeartbeats 4000000 in
theorem fn_X10_removeGroup {l : Launch} {D : va_G} {ad : Nat → Nat} {ca : Nat → ClassId} (hJ : rv_J ad) (p1 : Int32)  (w : rv_W) : rv_Fn l D ad ca yX10_removeGroup cX10_removeGroup 2 (some .int) 2 45 [.ref (ad 0), .int p1] w (f_X10_removeGroup p1 w) := by
  refine rv_mk (lv := [(0, .ref (ad 0)), (1, .int p1)]) hJ (by decide +kernel) (Nat.le_of_ble_eq_true rfl) rfl (fun K h hr => ?_)
  have h : rv_Rl D ad ca l RX10 cX10_removeGroup 2 2 45 K := h
  unfold f_X10_removeGroup
  refine rv_aload_n h 0 dX10_removeGroup_0 0 rfl ?_
  refine rv_getr h 1 dX10_removeGroup_1 rv_s0 rv_fd_X10_10 rfl ?_
  refine rv_iload_n h 4 dX10_removeGroup_4 1 rfl ?_
  refine rv_callVi h 5 dX10_removeGroup_5 (fn_X8_holds hJ 1 p1 (by decide) w) ce_X8_holds lk_X10_72 rv_s1 rfl rv_cf6 rfl rfl (Nat.le_of_ble_eq_true rfl) ⟨Nat.le_of_ble_eq_true rfl, Nat.le_of_ble_eq_true rfl⟩ (fun r1 w2 => ?_)
  refine rv_if_ne (tgt := 14) h 8 dX10_removeGroup_8 (by decide) (fun _ => ?_) (fun _ => ?_)
  · refine rv_ldc h 11 dX10_removeGroup_11 rv_kc_X10_75 ?_
    exact rv_reti hr 13 dX10_removeGroup_13
  refine rv_aload_n h 14 dX10_removeGroup_14 0 rfl ?_
  refine rv_callVv h 15 dX10_removeGroup_15 (fn_X10_remember hJ   w2) ce_X10_remember lk_X10_61 rv_s0 rfl rv_cf8 rfl rfl (Nat.le_of_ble_eq_true rfl) ⟨Nat.le_of_ble_eq_true rfl, Nat.le_of_ble_eq_true rfl⟩ (fun r3 w4 => ?_)
  refine rv_aload_n h 18 dX10_removeGroup_18 0 rfl ?_
  refine rv_getr h 19 dX10_removeGroup_19 rv_s0 rv_fd_X10_10 rfl ?_
  refine rv_iload_n h 22 dX10_removeGroup_22 1 rfl ?_
  refine rv_callVv h 23 dX10_removeGroup_23 (fn_X8_drop hJ 1 p1 (by decide) w4) ce_X8_drop lk_X10_76 rv_s1 rfl rv_cf6 rfl rfl (Nat.le_of_ble_eq_true rfl) ⟨Nat.le_of_ble_eq_true rfl, Nat.le_of_ble_eq_true rfl⟩ (fun r5 w6 => ?_)
  refine rv_aload_n h 26 dX10_removeGroup_26 0 rfl ?_
  refine rv_getr h 27 dX10_removeGroup_27 rv_s0 rv_fd_X10_10 rfl ?_
  refine rv_geti h 30 dX10_removeGroup_30 rv_s1 rv_fd_X10_68 rfl ?_
  exact rv_reti hr 33 dX10_removeGroup_33
def f_X10_exchange (p1 : Int32) (p2 : Int32) (w : rv_W) : rv_R :=
  rv_bd (f_X8_holds 1 p1 w) (fun (r1 : Int32) (w2 : rv_W) =>
  if r1 = 0 then
  some ((-1000001 : Int32), w2)
  else
  rv_bd (f_X8_ballotOf 1 p1 w2) (fun (r3 : Int32) (w4 : rv_W) =>
  if p2 < 0 then
  some ((-1000001 : Int32), w4)
  else
  rv_bd (f_X0_length r3 w4) (fun (r5 : Int32) (w6 : rv_W) =>
  if p2 < (r5 - (1 : Int32)) then
  rv_bd (f_X10_remember  w6) (fun (r7 : Int32) (w8 : rv_W) =>
  rv_bd (f_X0_exchanged r3 p2 w8) (fun (r9 : Int32) (w10 : rv_W) =>
  rv_bd (f_X8_votersOf 1 p1 w10) (fun (r11 : Int32) (w12 : rv_W) =>
  rv_bd (f_X8_write 1 p1 r11 r9 w12) (fun (r13 : Int32) (w14 : rv_W) =>
  rv_bd (f_X0_toDigits r9 w14) (fun (r15 : Int32) (w16 : rv_W) =>
  some (r15, w16))))))
  else
  some ((-1000001 : Int32), w6))))
set_option maxRecDepth 100000 in
set_option maxHeartbeats 4000000 in
theorem fn_X10_exchange {l : Launch} {D : va_G} {ad : Nat → Nat} {ca : Nat → ClassId} (hJ : rv_J ad) (p1 : Int32) (p2 : Int32)  (w : rv_W) : rv_Fn l D ad ca yX10_exchange cX10_exchange 5 (some .int) 3 65 [.ref (ad 0), .int p1, .int p2] w (f_X10_exchange p1 p2 w) := by
  refine rv_mk (lv := [(0, .ref (ad 0)), (1, .int p1), (2, .int p2)]) hJ (by decide +kernel) (Nat.le_of_ble_eq_true rfl) rfl (fun K h hr => ?_)
  have h : rv_Rl D ad ca l RX10 cX10_exchange 5 3 65 K := h
  unfold f_X10_exchange
  refine rv_aload_n h 0 dX10_exchange_0 0 rfl ?_
  refine rv_getr h 1 dX10_exchange_1 rv_s0 rv_fd_X10_10 rfl ?_
  refine rv_iload_n h 4 dX10_exchange_4 1 rfl ?_
  refine rv_callVi h 5 dX10_exchange_5 (fn_X8_holds hJ 1 p1 (by decide) w) ce_X8_holds lk_X10_72 rv_s1 rfl rv_cf6 rfl rfl (Nat.le_of_ble_eq_true rfl) ⟨Nat.le_of_ble_eq_true rfl, Nat.le_of_ble_eq_true rfl⟩ (fun r1 w2 => ?_)
  refine rv_if_ne (tgt := 14) h 8 dX10_exchange_8 (by decide) (fun _ => ?_) (fun _ => ?_)
  · refine rv_ldc h 11 dX10_exchange_11 rv_kc_X10_75 ?_
    exact rv_reti hr 13 dX10_exchange_13
  refine rv_aload_n h 14 dX10_exchange_14 0 rfl ?_
  refine rv_getr h 15 dX10_exchange_15 rv_s0 rv_fd_X10_10 rfl ?_
  refine rv_iload_n h 18 dX10_exchange_18 1 rfl ?_
  refine rv_callVi h 19 dX10_exchange_19 (fn_X8_ballotOf hJ 1 p1 (by decide) w2) ce_X8_ballotOf lk_X10_83 rv_s1 rfl rv_cf6 rfl rfl (Nat.le_of_ble_eq_true rfl) ⟨Nat.le_of_ble_eq_true rfl, Nat.le_of_ble_eq_true rfl⟩ (fun r3 w4 => ?_)
  refine rv_istore_n (lv' := [(3, .int r3), (0, .ref (ad 0)), (1, .int p1), (2, .int p2)]) h 22 dX10_exchange_22 (by decide) rfl ?_
  refine rv_iload_n h 23 dX10_exchange_23 3 rfl ?_
  refine rv_if_lt (tgt := 37) h 24 dX10_exchange_24 (by decide) (fun _ => ?_) (fun _ => ?_)
  · refine rv_ldc h 37 dX10_exchange_37 rv_kc_X10_75 ?_
    exact rv_reti hr 39 dX10_exchange_39
  refine rv_iload_n h 27 dX10_exchange_27 3 rfl ?_
  refine rv_iload_n h 28 dX10_exchange_28 0 rfl ?_
  refine rv_callSi h 29 dX10_exchange_29 (fn_X0_length hJ r3  w4) ce_X0_length lk_X10_90 rfl rfl (Nat.le_of_ble_eq_true rfl) ⟨Nat.le_of_ble_eq_true rfl, Nat.le_of_ble_eq_true rfl⟩ (fun r5 w6 => ?_)
  refine rv_iconst h 32 dX10_exchange_32 rv_c1 ?_
  refine rv_isub h 33 dX10_exchange_33 ?_
  refine rv_icmp_lt (tgt := 40) h 34 dX10_exchange_34 (by decide) (fun _ => ?_) (fun _ => ?_)
  rotate_left
  · refine rv_ldc h 37 dX10_exchange_37 rv_kc_X10_75 ?_
    exact rv_reti hr 39 dX10_exchange_39
  refine rv_aload_n h 40 dX10_exchange_40 1 rfl ?_
  refine rv_callVv h 41 dX10_exchange_41 (fn_X10_remember hJ   w6) ce_X10_remember lk_X10_61 rv_s0 rfl rv_cf8 rfl rfl (Nat.le_of_ble_eq_true rfl) ⟨Nat.le_of_ble_eq_true rfl, Nat.le_of_ble_eq_true rfl⟩ (fun r7 w8 => ?_)
  refine rv_iload_n h 44 dX10_exchange_44 0 rfl ?_
  refine rv_iload_n h 45 dX10_exchange_45 3 rfl ?_
  refine rv_callSi h 46 dX10_exchange_46 (fn_X0_exchanged hJ r3 p2  w8) ce_X0_exchanged lk_X10_93 rfl rfl (Nat.le_of_ble_eq_true rfl) ⟨Nat.le_of_ble_eq_true rfl, Nat.le_of_ble_eq_true rfl⟩ (fun r9 w10 => ?_)
  refine rv_istore (lv' := [(4, .int r9), (3, .int r3), (0, .ref (ad 0)), (1, .int p1), (2, .int p2)]) h 49 dX10_exchange_49 (by decide) rfl ?_
  refine rv_aload_n h 51 dX10_exchange_51 2 rfl ?_
  refine rv_getr h 52 dX10_exchange_52 rv_s0 rv_fd_X10_10 rfl ?_
  refine rv_iload_n h 55 dX10_exchange_55 3 rfl ?_
  refine rv_aload_n h 56 dX10_exchange_56 2 rfl ?_
  refine rv_getr h 57 dX10_exchange_57 rv_s0 rv_fd_X10_10 rfl ?_
  refine rv_iload_n h 60 dX10_exchange_60 3 rfl ?_
  refine rv_callVi h 61 dX10_exchange_61 (fn_X8_votersOf hJ 1 p1 (by decide) w10) ce_X8_votersOf lk_X10_80 rv_s1 rfl rv_cf6 rfl rfl (Nat.le_of_ble_eq_true rfl) ⟨Nat.le_of_ble_eq_true rfl, Nat.le_of_ble_eq_true rfl⟩ (fun r11 w12 => ?_)
  refine rv_iload h 64 dX10_exchange_64 0 rfl ?_
  refine rv_callVv h 66 dX10_exchange_66 (fn_X8_write hJ 1 p1 r11 r9 (by decide) w12) ce_X8_write lk_X10_86 rv_s1 rfl rv_cf6 rfl rfl (Nat.le_of_ble_eq_true rfl) ⟨Nat.le_of_ble_eq_true rfl, Nat.le_of_ble_eq_true rfl⟩ (fun r13 w14 => ?_)
  refine rv_iload h 69 dX10_exchange_69 0 rfl ?_
  refine rv_callSi h 71 dX10_exchange_71 (fn_X0_toDigits hJ r9  w14) ce_X0_toDigits lk_X10_97 rfl rfl (Nat.le_of_ble_eq_true rfl) ⟨Nat.le_of_ble_eq_true rfl, Nat.le_of_ble_eq_true rfl⟩ (fun r15 w16 => ?_)
  exact rv_reti hr 74 dX10_exchange_74
def f_X10_setStanding (p1 : Int32) (p2 : Int32) (w : rv_W) : rv_R :=
  rv_bd (f_X1_exists p1 w) (fun (r1 : Int32) (w2 : rv_W) =>
  if r1 = 0 then
  some ((-1000001 : Int32), w2)
  else
  rv_bd (f_X10_remember  w2) (fun (r3 : Int32) (w4 : rv_W) =>
  rv_bd (f_X1_has (w4 1 0) p1 w4) (fun (r5 : Int32) (w6 : rv_W) =>
  rv_bd (f_X1_without (w6 1 0) p1 w6) (fun (r7 : Int32) (w8 : rv_W) =>
  rv_jn (fun (v9 : Int32) (w10 : rv_W) =>
  rv_lt (rv_up w10 1 0 v9) (fun (w13 : rv_W) =>
  if r5 = 0 then
  some ((0 : Int32), w13)
  else
  some ((1 : Int32), w13))) (fun (k11 : Int32 → rv_W → rv_R) =>
  if p2 = 0 then
  k11 r7 w8
  else
  k11 (r7 ||| ((1 : Int32) <<< (p1 &&& 31))) w8)))))
set_option maxRecDepth 100000 in
set_option maxHeartbeats 4000000 in
theorem fn_X10_setStanding {l : Launch} {D : va_G} {ad : Nat → Nat} {ca : Nat → ClassId} (hJ : rv_J ad) (p1 : Int32) (p2 : Int32)  (w : rv_W) : rv_Fn l D ad ca yX10_setStanding cX10_setStanding 5 (some .int) 2 43 [.ref (ad 0), .int p1, .int p2] w (f_X10_setStanding p1 p2 w) := by
  refine rv_mk (lv := [(0, .ref (ad 0)), (1, .int p1), (2, .int p2)]) hJ (by decide +kernel) (Nat.le_of_ble_eq_true rfl) rfl (fun K h hr => ?_)
  have h : rv_Rl D ad ca l RX10 cX10_setStanding 5 2 43 K := h
  unfold f_X10_setStanding
  refine rv_iload_n h 0 dX10_setStanding_0 1 rfl ?_
  refine rv_callSi h 1 dX10_setStanding_1 (fn_X1_exists hJ p1  w) ce_X1_exists lk_X10_100 rfl rfl (Nat.le_of_ble_eq_true rfl) ⟨Nat.le_of_ble_eq_true rfl, Nat.le_of_ble_eq_true rfl⟩ (fun r1 w2 => ?_)
  refine rv_if_ne (tgt := 10) h 4 dX10_setStanding_4 (by decide) (fun _ => ?_) (fun _ => ?_)
  · refine rv_ldc h 7 dX10_setStanding_7 rv_kc_X10_75 ?_
    exact rv_reti hr 9 dX10_setStanding_9
  refine rv_aload_n h 10 dX10_setStanding_10 0 rfl ?_
  refine rv_callVv h 11 dX10_setStanding_11 (fn_X10_remember hJ   w2) ce_X10_remember lk_X10_61 rv_s0 rfl rv_cf8 rfl rfl (Nat.le_of_ble_eq_true rfl) ⟨Nat.le_of_ble_eq_true rfl, Nat.le_of_ble_eq_true rfl⟩ (fun r3 w4 => ?_)
  refine rv_aload_n h 14 dX10_setStanding_14 0 rfl ?_
  refine rv_getr h 15 dX10_setStanding_15 rv_s0 rv_fd_X10_10 rfl ?_
  refine rv_geti h 18 dX10_setStanding_18 rv_s1 rv_fd_X10_105 rfl ?_
  refine rv_iload_n h 21 dX10_setStanding_21 1 rfl ?_
  refine rv_callSi h 22 dX10_setStanding_22 (fn_X1_has hJ (w4 1 0) p1  w4) ce_X1_has lk_X10_108 rfl rfl (Nat.le_of_ble_eq_true rfl) ⟨Nat.le_of_ble_eq_true rfl, Nat.le_of_ble_eq_true rfl⟩ (fun r5 w6 => ?_)
  refine rv_istore_n (lv' := [(3, .int r5), (0, .ref (ad 0)), (1, .int p1), (2, .int p2)]) h 25 dX10_setStanding_25 (by decide) rfl ?_
  refine rv_aload_n h 26 dX10_setStanding_26 1 rfl ?_
  refine rv_getr h 27 dX10_setStanding_27 rv_s0 rv_fd_X10_10 rfl ?_
  refine rv_geti h 30 dX10_setStanding_30 rv_s1 rv_fd_X10_105 rfl ?_
  refine rv_iload_n h 33 dX10_setStanding_33 2 rfl ?_
  refine rv_callSi h 34 dX10_setStanding_34 (fn_X1_without hJ (w6 1 0) p1  w6) ce_X1_without lk_X10_112 rfl rfl (Nat.le_of_ble_eq_true rfl) ⟨Nat.le_of_ble_eq_true rfl, Nat.le_of_ble_eq_true rfl⟩ (fun r7 w8 => ?_)
  refine rv_istore (lv' := [(4, .int r7), (3, .int r5), (0, .ref (ad 0)), (1, .int p1), (2, .int p2)]) h 37 dX10_setStanding_37 (by decide) rfl ?_
  refine rv_aload_n h 39 dX10_setStanding_39 2 rfl ?_
  refine rv_getr h 40 dX10_setStanding_40 rv_s0 rv_fd_X10_10 rfl ?_
  refine rv_iload_n h 43 dX10_setStanding_43 4 rfl ?_
  refine rv_join (fun (k0 : Int32 → rv_W → rv_R) => ∀ (v9 : Int32) (w10 : rv_W), K 58 [(3, .int r5)] (.int v9 :: .ref (ad 1) :: []) w10 (k0 v9 w10)) (fun v9 w10 => ?_) (fun k11 hk12 => ?_)
  · refine rv_puti h 58 dX10_setStanding_58 rv_s1 rv_fd_X10_105 rfl ⟨rfl, rfl⟩ (fun w13 => ?_)
    refine rv_iload_n h 61 dX10_setStanding_61 0 rfl ?_
    refine rv_if_eq (tgt := 69) h 62 dX10_setStanding_62 (by decide) (fun _ => ?_) (fun _ => ?_)
    · refine rv_iconst h 69 dX10_setStanding_69 rv_c0 ?_
      exact rv_reti hr 70 dX10_setStanding_70
    refine rv_iconst h 65 dX10_setStanding_65 rv_c1 ?_
    refine rv_goto (tgt := 70) h 66 dX10_setStanding_66 (by decide) ?_
    exact rv_reti hr 70 dX10_setStanding_70
  refine rv_if_eq (tgt := 56) h 44 dX10_setStanding_44 (by decide) (fun _ => ?_) (fun _ => ?_)
  · refine rv_iload h 56 dX10_setStanding_56 0 rfl ?_
    refine rv_sub h [1] rfl ?_
    exact hk12 r7 w8
  refine rv_iload h 47 dX10_setStanding_47 0 rfl ?_
  refine rv_iconst h 49 dX10_setStanding_49 rv_c1 ?_
  refine rv_iload_n h 50 dX10_setStanding_50 3 rfl ?_
  refine rv_ishl h 51 dX10_setStanding_51 ?_
  refine rv_ior h 52 dX10_setStanding_52 ?_
  refine rv_goto (tgt := 58) h 53 dX10_setStanding_53 (by decide) ?_
  refine rv_sub h [1] rfl ?_
  exact hk12 (r7 ||| ((1 : Int32) <<< (p1 &&& 31))) w8
def f_X10_standing  (w : rv_W) : rv_R :=
  some ((w 1 0), w)
set_option maxRecDepth 100000 in
set_option maxHeartbeats 4000000 in
theorem fn_X10_standing {l : Launch} {D : va_G} {ad : Nat → Nat} {ca : Nat → ClassId} (hJ : rv_J ad)   (w : rv_W) : rv_Fn l D ad ca yX10_standing cX10_standing 1 (some .int) 0 0 [.ref (ad 0)] w (f_X10_standing  w) := by
  refine rv_mk (lv := [(0, .ref (ad 0))]) hJ (by decide +kernel) (Nat.le_of_ble_eq_true rfl) rfl (fun K h hr => ?_)
  have h : rv_Rl D ad ca l RX10 cX10_standing 1 0 0 K := h
  unfold f_X10_standing
  refine rv_aload_n h 0 dX10_standing_0 0 rfl ?_
  refine rv_getr h 1 dX10_standing_1 rv_s0 rv_fd_X10_10 rfl ?_
  refine rv_geti h 4 dX10_standing_4 rv_s1 rv_fd_X10_105 rfl ?_
  exact rv_reti hr 7 dX10_standing_7
