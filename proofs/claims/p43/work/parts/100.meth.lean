def f_X0_at (p1 : Int32) (p2 : Int32) (w : rv_W) : rv_R :=
  if p2 < 0 then
  some ((-1 : Int32), w)
  else
  if p2 < (5 : Int32) then
  some (((((p1.toUInt32 >>> (((3 : Int32) * p2).toUInt32 &&& Int32.toUInt32 31)).toInt32) &&& (7 : Int32)) - (1 : Int32)), w)
  else
  some ((-1 : Int32), w)
set_option maxRecDepth 100000 in
set_option maxHeartbeats 4000000 in
theorem fn_X0_at {l : Launch} {D : va_G} {ad : Nat → Nat} {ca : Nat → ClassId} (hJ : rv_J ad) (p1 : Int32) (p2 : Int32)  (w : rv_W) : rv_Fn l D ad ca yX0_at cX0_at 2 (some .int) 0 0 [.int p1, .int p2] w (f_X0_at p1 p2 w) := by
  refine rv_mk (lv := [(0, .int p1), (1, .int p2)]) hJ (by decide +kernel) (Nat.le_of_ble_eq_true rfl) rfl (fun K h hr => ?_)
  have h : rv_Rl D ad ca l RX0 cX0_at 2 0 0 K := h
  unfold f_X0_at
  refine rv_iload_n h 0 dX0_at_0 1 rfl ?_
  refine rv_if_lt (tgt := 22) h 1 dX0_at_1 (by decide) (fun _ => ?_) (fun _ => ?_)
  · refine rv_iconst h 22 dX0_at_22 rv_cm1 ?_
    exact rv_reti hr 23 dX0_at_23
  refine rv_iload_n h 4 dX0_at_4 1 rfl ?_
  refine rv_iconst h 5 dX0_at_5 rv_c5 ?_
  refine rv_icmp_ge (tgt := 22) h 6 dX0_at_6 (by decide) (fun _ => ?_) (fun _ => ?_)
  rotate_left
  · refine rv_iconst h 22 dX0_at_22 rv_cm1 ?_
    exact rv_reti hr 23 dX0_at_23
  refine rv_iload_n h 9 dX0_at_9 0 rfl ?_
  refine rv_iconst h 10 dX0_at_10 rv_c3 ?_
  refine rv_iload_n h 11 dX0_at_11 1 rfl ?_
  refine rv_imul h 12 dX0_at_12 ?_
  refine rv_iushr h 13 dX0_at_13 ?_
  refine rv_bipush (v := 7) h 14 dX0_at_14 (by decide +kernel) ?_
  refine rv_iand h 16 dX0_at_16 ?_
  refine rv_iconst h 17 dX0_at_17 rv_c1 ?_
  refine rv_isub h 18 dX0_at_18 ?_
  refine rv_goto (tgt := 23) h 19 dX0_at_19 (by decide) ?_
  exact rv_reti hr 23 dX0_at_23
def f_X0_length (p1 : Int32) (w : rv_W) : rv_R :=
  rv_fx (fun _ _ => none) (fun (ag1 : Int32 → rv_W → rv_R) (v3 : Int32) (w4 : rv_W) =>
  if v3 < (5 : Int32) then
  rv_bd (f_X0_at p1 v3 w4) (fun (r5 : Int32) (w6 : rv_W) =>
  if r5 = (-1 : Int32) then
  some (v3, w6)
  else
  rv_lt (v3 + (1 : Int32)) (fun (v7 : Int32) =>
  ag1 v7 w6))
  else
  some (v3, w4)) rv_FU (0 : Int32) w
set_option maxRecDepth 100000 in
set_option maxHeartbeats 4000000 in
theorem fn_X0_length {l : Launch} {D : va_G} {ad : Nat → Nat} {ca : Nat → ClassId} (hJ : rv_J ad) (p1 : Int32)  (w : rv_W) : rv_Fn l D ad ca yX0_length cX0_length 2 (some .int) 1 21 [.int p1] w (f_X0_length p1 w) := by
  refine rv_mk (lv := [(0, .int p1)]) hJ (by decide +kernel) (Nat.le_of_ble_eq_true rfl) rfl (fun K h hr => ?_)
  have h : rv_Rl D ad ca l RX0 cX0_length 2 1 21 K := h
  unfold f_X0_length
  refine rv_iconst h 0 dX0_length_0 rv_c0 ?_
  refine rv_istore_n (lv' := [(1, .int (0 : Int32)), (0, .int p1)]) h 1 dX0_length_1 (by decide) rfl ?_
  refine rv_sub h [1, 0] rfl ?_
  refine rv_fx_ind (fun (a0 : Int32 → rv_W → rv_R) => ∀ (v3 : Int32) (w4 : rv_W), K 2 [(0, .int p1), (1, .int v3)] [] w4 (a0 v3 w4)) (fun _ _ => rv_none h) (fun ag1 ih2 v3 w4 => ?_) rv_FU (0 : Int32) w
  refine rv_iload_n h 2 dX0_length_2 1 rfl ?_
  refine rv_iconst h 3 dX0_length_3 rv_c5 ?_
  refine rv_icmp_ge (tgt := 22) h 4 dX0_length_4 (by decide) (fun _ => ?_) (fun _ => ?_)
  rotate_left
  · refine rv_iload_n h 22 dX0_length_22 1 rfl ?_
    exact rv_reti hr 23 dX0_length_23
  refine rv_iload_n h 7 dX0_length_7 0 rfl ?_
  refine rv_iload_n h 8 dX0_length_8 1 rfl ?_
  refine rv_callSi h 9 dX0_length_9 (fn_X0_at hJ p1 v3  w4) ce_X0_at lk_X0_9 rfl rfl (Nat.le_of_ble_eq_true rfl) ⟨Nat.le_of_ble_eq_true rfl, Nat.le_of_ble_eq_true rfl⟩ (fun r5 w6 => ?_)
  refine rv_iconst h 12 dX0_length_12 rv_cm1 ?_
  refine rv_icmp_eq (tgt := 22) h 13 dX0_length_13 (by decide) (fun _ => ?_) (fun _ => ?_)
  · refine rv_iload_n h 22 dX0_length_22 1 rfl ?_
    exact rv_reti hr 23 dX0_length_23
  refine rv_iinc h 16 (fun v7 => [(1, .int v7), (0, .int p1)]) dX0_length_16 1 rfl rv_c1 (by decide) (fun _ => rfl) (fun v7 => ?_)
  refine rv_goto (tgt := 2) h 19 dX0_length_19 (by decide) ?_
  refine rv_sub h [1, 0] rfl ?_
  exact ih2 v7 w6
def f_X0_placeOf (p1 : Int32) (p2 : Int32) (w : rv_W) : rv_R :=
  rv_fx (fun _ _ => none) (fun (ag1 : Int32 → rv_W → rv_R) (v3 : Int32) (w4 : rv_W) =>
  if v3 < (5 : Int32) then
  if p2 < 0 then
  some ((-1 : Int32), w4)
  else
  rv_bd (f_X0_at p1 v3 w4) (fun (r5 : Int32) (w6 : rv_W) =>
  if r5 = p2 then
  some (v3, w6)
  else
  rv_lt (v3 + (1 : Int32)) (fun (v7 : Int32) =>
  ag1 v7 w6))
  else
  some ((-1 : Int32), w4)) rv_FU (0 : Int32) w
set_option maxRecDepth 100000 in
set_option maxHeartbeats 4000000 in
theorem fn_X0_placeOf {l : Launch} {D : va_G} {ad : Nat → Nat} {ca : Nat → ClassId} (hJ : rv_J ad) (p1 : Int32) (p2 : Int32)  (w : rv_W) : rv_Fn l D ad ca yX0_placeOf cX0_placeOf 3 (some .int) 1 21 [.int p1, .int p2] w (f_X0_placeOf p1 p2 w) := by
  refine rv_mk (lv := [(0, .int p1), (1, .int p2)]) hJ (by decide +kernel) (Nat.le_of_ble_eq_true rfl) rfl (fun K h hr => ?_)
  have h : rv_Rl D ad ca l RX0 cX0_placeOf 3 1 21 K := h
  unfold f_X0_placeOf
  refine rv_iconst h 0 dX0_placeOf_0 rv_c0 ?_
  refine rv_istore_n (lv' := [(2, .int (0 : Int32)), (0, .int p1), (1, .int p2)]) h 1 dX0_placeOf_1 (by decide) rfl ?_
  refine rv_sub h [1, 2, 0] rfl ?_
  refine rv_fx_ind (fun (a0 : Int32 → rv_W → rv_R) => ∀ (v3 : Int32) (w4 : rv_W), K 2 [(0, .int p1), (1, .int p2), (2, .int v3)] [] w4 (a0 v3 w4)) (fun _ _ => rv_none h) (fun ag1 ih2 v3 w4 => ?_) rv_FU (0 : Int32) w
  refine rv_iload_n h 2 dX0_placeOf_2 2 rfl ?_
  refine rv_iconst h 3 dX0_placeOf_3 rv_c5 ?_
  refine rv_icmp_ge (tgt := 28) h 4 dX0_placeOf_4 (by decide) (fun _ => ?_) (fun _ => ?_)
  rotate_left
  · refine rv_iconst h 28 dX0_placeOf_28 rv_cm1 ?_
    exact rv_reti hr 29 dX0_placeOf_29
  refine rv_iload_n h 7 dX0_placeOf_7 1 rfl ?_
  refine rv_if_lt (tgt := 28) h 8 dX0_placeOf_8 (by decide) (fun _ => ?_) (fun _ => ?_)
  · refine rv_iconst h 28 dX0_placeOf_28 rv_cm1 ?_
    exact rv_reti hr 29 dX0_placeOf_29
  refine rv_iload_n h 11 dX0_placeOf_11 0 rfl ?_
  refine rv_iload_n h 12 dX0_placeOf_12 2 rfl ?_
  refine rv_callSi h 13 dX0_placeOf_13 (fn_X0_at hJ p1 v3  w4) ce_X0_at lk_X0_9 rfl rfl (Nat.le_of_ble_eq_true rfl) ⟨Nat.le_of_ble_eq_true rfl, Nat.le_of_ble_eq_true rfl⟩ (fun r5 w6 => ?_)
  refine rv_iload_n h 16 dX0_placeOf_16 1 rfl ?_
  refine rv_icmp_ne (tgt := 22) h 17 dX0_placeOf_17 (by decide) (fun _ => ?_) (fun _ => ?_)
  · refine rv_iload_n h 20 dX0_placeOf_20 2 rfl ?_
    exact rv_reti hr 21 dX0_placeOf_21
  refine rv_iinc h 22 (fun v7 => [(2, .int v7), (0, .int p1), (1, .int p2)]) dX0_placeOf_22 2 rfl rv_c1 (by decide) (fun _ => rfl) (fun v7 => ?_)
  refine rv_goto (tgt := 2) h 25 dX0_placeOf_25 (by decide) ?_
  refine rv_sub h [1, 2, 0] rfl ?_
  exact ih2 v7 w6
def f_X0_append (p1 : Int32) (p2 : Int32) (w : rv_W) : rv_R :=
  rv_bd (f_X0_length p1 w) (fun (r1 : Int32) (w2 : rv_W) =>
  some ((p1 ||| ((p2 + (1 : Int32)) <<< (((3 : Int32) * r1) &&& 31))), w2))
set_option maxRecDepth 100000 in
set_option maxHeartbeats 4000000 in
theorem fn_X0_append {l : Launch} {D : va_G} {ad : Nat → Nat} {ca : Nat → ClassId} (hJ : rv_J ad) (p1 : Int32) (p2 : Int32)  (w : rv_W) : rv_Fn l D ad ca yX0_append cX0_append 2 (some .int) 2 42 [.int p1, .int p2] w (f_X0_append p1 p2 w) := by
  refine rv_mk (lv := [(0, .int p1), (1, .int p2)]) hJ (by decide +kernel) (Nat.le_of_ble_eq_true rfl) rfl (fun K h hr => ?_)
  have h : rv_Rl D ad ca l RX0 cX0_append 2 2 42 K := h
  unfold f_X0_append
  refine rv_iload_n h 0 dX0_append_0 0 rfl ?_
  refine rv_iload_n h 1 dX0_append_1 1 rfl ?_
  refine rv_iconst h 2 dX0_append_2 rv_c1 ?_
  refine rv_iadd h 3 dX0_append_3 ?_
  refine rv_iconst h 4 dX0_append_4 rv_c3 ?_
  refine rv_iload_n h 5 dX0_append_5 0 rfl ?_
  refine rv_callSi h 6 dX0_append_6 (fn_X0_length hJ p1  w) ce_X0_length lk_X0_15 rfl rfl (Nat.le_of_ble_eq_true rfl) ⟨Nat.le_of_ble_eq_true rfl, Nat.le_of_ble_eq_true rfl⟩ (fun r1 w2 => ?_)
  refine rv_imul h 9 dX0_append_9 ?_
  refine rv_ishl h 10 dX0_append_10 ?_
  refine rv_ior h 11 dX0_append_11 ?_
  exact rv_reti hr 12 dX0_append_12
def f_X1_exists (p1 : Int32) (w : rv_W) : rv_R :=
  if p1 < 0 then
  some ((0 : Int32), w)
  else
  if p1 < (5 : Int32) then
  some ((1 : Int32), w)
  else
  some ((0 : Int32), w)
set_option maxRecDepth 100000 in
set_option maxHeartbeats 4000000 in
theorem fn_X1_exists {l : Launch} {D : va_G} {ad : Nat → Nat} {ca : Nat → ClassId} (hJ : rv_J ad) (p1 : Int32)  (w : rv_W) : rv_Fn l D ad ca yX1_exists cX1_exists 1 (some .boolean) 0 0 [.int p1] w (f_X1_exists p1 w) := by
  refine rv_mk (lv := [(0, .int p1)]) hJ (by decide +kernel) (Nat.le_of_ble_eq_true rfl) rfl (fun K h hr => ?_)
  have h : rv_Rl D ad ca l RX1 cX1_exists 1 0 0 K := h
  unfold f_X1_exists
  refine rv_iload_n h 0 dX1_exists_0 0 rfl ?_
  refine rv_if_lt (tgt := 13) h 1 dX1_exists_1 (by decide) (fun _ => ?_) (fun _ => ?_)
  · refine rv_iconst h 13 dX1_exists_13 rv_c0 ?_
    exact rv_retz0 hr 14 dX1_exists_14
  refine rv_iload_n h 4 dX1_exists_4 0 rfl ?_
  refine rv_iconst h 5 dX1_exists_5 rv_c5 ?_
  refine rv_icmp_ge (tgt := 13) h 6 dX1_exists_6 (by decide) (fun _ => ?_) (fun _ => ?_)
  rotate_left
  · refine rv_iconst h 13 dX1_exists_13 rv_c0 ?_
    exact rv_retz0 hr 14 dX1_exists_14
  refine rv_iconst h 9 dX1_exists_9 rv_c1 ?_
  refine rv_goto (tgt := 14) h 10 dX1_exists_10 (by decide) ?_
  exact rv_retz1 hr 14 dX1_exists_14
def f_X1_has (p1 : Int32) (p2 : Int32) (w : rv_W) : rv_R :=
  if p2 < 0 then
  some ((0 : Int32), w)
  else
  if p2 < (5 : Int32) then
  if (((p1.toUInt32 >>> (p2.toUInt32 &&& Int32.toUInt32 31)).toInt32) &&& (1 : Int32)) = 0 then
  some ((0 : Int32), w)
  else
  some ((1 : Int32), w)
  else
  some ((0 : Int32), w)
set_option maxRecDepth 100000 in
set_option maxHeartbeats 4000000 in
theorem fn_X1_has {l : Launch} {D : va_G} {ad : Nat → Nat} {ca : Nat → ClassId} (hJ : rv_J ad) (p1 : Int32) (p2 : Int32)  (w : rv_W) : rv_Fn l D ad ca yX1_has cX1_has 2 (some .boolean) 0 0 [.int p1, .int p2] w (f_X1_has p1 p2 w) := by
  refine rv_mk (lv := [(0, .int p1), (1, .int p2)]) hJ (by decide +kernel) (Nat.le_of_ble_eq_true rfl) rfl (fun K h hr => ?_)
  have h : rv_Rl D ad ca l RX1 cX1_has 2 0 0 K := h
  unfold f_X1_has
  refine rv_iload_n h 0 dX1_has_0 1 rfl ?_
  refine rv_if_lt (tgt := 21) h 1 dX1_has_1 (by decide) (fun _ => ?_) (fun _ => ?_)
  · refine rv_iconst h 21 dX1_has_21 rv_c0 ?_
    exact rv_retz0 hr 22 dX1_has_22
  refine rv_iload_n h 4 dX1_has_4 1 rfl ?_
  refine rv_iconst h 5 dX1_has_5 rv_c5 ?_
  refine rv_icmp_ge (tgt := 21) h 6 dX1_has_6 (by decide) (fun _ => ?_) (fun _ => ?_)
  rotate_left
  · refine rv_iconst h 21 dX1_has_21 rv_c0 ?_
    exact rv_retz0 hr 22 dX1_has_22
  refine rv_iload_n h 9 dX1_has_9 0 rfl ?_
  refine rv_iload_n h 10 dX1_has_10 1 rfl ?_
  refine rv_iushr h 11 dX1_has_11 ?_
  refine rv_iconst h 12 dX1_has_12 rv_c1 ?_
  refine rv_iand h 13 dX1_has_13 ?_
  refine rv_if_eq (tgt := 21) h 14 dX1_has_14 (by decide) (fun _ => ?_) (fun _ => ?_)
  · refine rv_iconst h 21 dX1_has_21 rv_c0 ?_
    exact rv_retz0 hr 22 dX1_has_22
  refine rv_iconst h 17 dX1_has_17 rv_c1 ?_
  refine rv_goto (tgt := 22) h 18 dX1_has_18 (by decide) ?_
  exact rv_retz1 hr 22 dX1_has_22
def f_X0_fromDigits (p1 : Int32) (w : rv_W) : rv_R :=
  rv_fx (fun _ _ _ _ _ => none) (fun (ag1 : Int32 → Int32 → Int32 → Int32 → rv_W → rv_R) (v3 : Int32) (v4 : Int32) (v5 : Int32) (v6 : Int32) (w7 : rv_W) =>
  rv_jn (fun  (w8 : rv_W) =>
  if v5 = 0 then
  some (v3, w8)
  else
  some ((0 : Int32), w8)) (fun (k9 : rv_W → rv_R) =>
  if v6 < (5 : Int32) then
  if 0 < v5 then
  rv_lt (((v5 - v5 / (10 : Int32) * (10 : Int32)) - (1 : Int32))) (fun (v11 : Int32) =>
  rv_bd (f_X1_exists v11 w7) (fun (r12 : Int32) (w13 : rv_W) =>
  if r12 = 0 then
  some ((0 : Int32), w13)
  else
  rv_bd (f_X1_has v4 v11 w13) (fun (r14 : Int32) (w15 : rv_W) =>
  if r14 = 0 then
  rv_lt ((v4 ||| ((1 : Int32) <<< (v11 &&& 31)))) (fun (v16 : Int32) =>
  rv_lt (((v3 <<< ((3 : Int32) &&& 31)) ||| (v11 + (1 : Int32)))) (fun (v17 : Int32) =>
  rv_lt ((v5 / (10 : Int32))) (fun (v18 : Int32) =>
  rv_lt (v6 + (1 : Int32)) (fun (v19 : Int32) =>
  ag1 v17 v16 v18 v19 w15))))
  else
  some ((0 : Int32), w15))))
  else
  k9 w7
  else
  k9 w7)) rv_FU (0 : Int32) (0 : Int32) p1 (0 : Int32) w
set_option maxRecDepth 100000 in
set_option maxHeartbeats 4000000 in
theorem fn_X0_fromDigits {l : Launch} {D : va_G} {ad : Nat → Nat} {ca : Nat → ClassId} (hJ : rv_J ad) (p1 : Int32)  (w : rv_W) : rv_Fn l D ad ca yX0_fromDigits cX0_fromDigits 6 (some .int) 1 21 [.int p1] w (f_X0_fromDigits p1 w) := by
  refine rv_mk (lv := [(0, .int p1)]) hJ (by decide +kernel) (Nat.le_of_ble_eq_true rfl) rfl (fun K h hr => ?_)
  have h : rv_Rl D ad ca l RX0 cX0_fromDigits 6 1 21 K := h
  unfold f_X0_fromDigits
  refine rv_iconst h 0 dX0_fromDigits_0 rv_c0 ?_
  refine rv_istore_n (lv' := [(1, .int (0 : Int32)), (0, .int p1)]) h 1 dX0_fromDigits_1 (by decide) rfl ?_
  refine rv_iconst h 2 dX0_fromDigits_2 rv_c0 ?_
  refine rv_istore_n (lv' := [(2, .int (0 : Int32)), (1, .int (0 : Int32)), (0, .int p1)]) h 3 dX0_fromDigits_3 (by decide) rfl ?_
  refine rv_iload_n h 4 dX0_fromDigits_4 2 rfl ?_
  refine rv_istore_n (lv' := [(3, .int p1), (2, .int (0 : Int32)), (1, .int (0 : Int32)), (0, .int p1)]) h 5 dX0_fromDigits_5 (by decide) rfl ?_
  refine rv_iconst h 6 dX0_fromDigits_6 rv_c0 ?_
  refine rv_istore (lv' := [(4, .int (0 : Int32)), (3, .int p1), (2, .int (0 : Int32)), (1, .int (0 : Int32)), (0, .int p1)]) h 7 dX0_fromDigits_7 (by decide) rfl ?_
  refine rv_sub h [3, 2, 1, 0] rfl ?_
  refine rv_fx_ind (fun (a0 : Int32 → Int32 → Int32 → Int32 → rv_W → rv_R) => ∀ (v3 : Int32) (v4 : Int32) (v5 : Int32) (v6 : Int32) (w7 : rv_W), K 9 [(1, .int v3), (2, .int v4), (3, .int v5), (4, .int v6)] [] w7 (a0 v3 v4 v5 v6 w7)) (fun _ _ _ _ _ => rv_none h) (fun ag1 ih2 v3 v4 v5 v6 w7 => ?_) rv_FU (0 : Int32) (0 : Int32) p1 (0 : Int32) w
  refine rv_iload h 9 dX0_fromDigits_9 3 rfl ?_
  refine rv_iconst h 11 dX0_fromDigits_11 rv_c5 ?_
  refine rv_join (fun (k0 : rv_W → rv_R) => ∀  (w8 : rv_W), K 73 [(1, .int v3), (3, .int v5)] ([]) w8 (k0 w8)) (fun w8 => ?_) (fun k9 hk10 => ?_)
  · refine rv_iload_n h 73 dX0_fromDigits_73 1 rfl ?_
    refine rv_if_ne (tgt := 81) h 74 dX0_fromDigits_74 (by decide) (fun _ => ?_) (fun _ => ?_)
    rotate_left
    · refine rv_iconst h 81 dX0_fromDigits_81 rv_c0 ?_
      exact rv_reti hr 82 dX0_fromDigits_82
    refine rv_iload_n h 77 dX0_fromDigits_77 0 rfl ?_
    refine rv_goto (tgt := 82) h 78 dX0_fromDigits_78 (by decide) ?_
    exact rv_reti hr 82 dX0_fromDigits_82
  refine rv_icmp_ge (tgt := 73) h 12 dX0_fromDigits_12 (by decide) (fun _ => ?_) (fun _ => ?_)
  rotate_left
  · refine rv_sub h [0, 2] rfl ?_
    exact hk10 w7
  refine rv_iload_n h 15 dX0_fromDigits_15 2 rfl ?_
  refine rv_if_le (tgt := 73) h 16 dX0_fromDigits_16 (by decide) (fun _ => ?_) (fun _ => ?_)
  rotate_left
  · refine rv_sub h [0, 2] rfl ?_
    exact hk10 w7
  refine rv_iload_n h 19 dX0_fromDigits_19 2 rfl ?_
  refine rv_bipush (v := 10) h 20 dX0_fromDigits_20 (by decide +kernel) ?_
  refine rv_irem h 22 dX0_fromDigits_22 (by decide) ?_
  refine rv_iconst h 23 dX0_fromDigits_23 rv_c1 ?_
  refine rv_isub h 24 dX0_fromDigits_24 ?_
  refine rv_top (fun v11 => ?_)
  refine rv_istore (lv' := [(5, .int v11), (1, .int v3), (2, .int v4), (3, .int v5), (4, .int v6)]) h 25 dX0_fromDigits_25 (by decide) rfl ?_
  refine rv_iload h 27 dX0_fromDigits_27 0 rfl ?_
  refine rv_callSi h 29 dX0_fromDigits_29 (fn_X1_exists hJ v11  w7) ce_X1_exists lk_X0_19 rfl rfl (Nat.le_of_ble_eq_true rfl) ⟨Nat.le_of_ble_eq_true rfl, Nat.le_of_ble_eq_true rfl⟩ (fun r12 w13 => ?_)
  refine rv_if_eq (tgt := 44) h 32 dX0_fromDigits_32 (by decide) (fun _ => ?_) (fun _ => ?_)
  · refine rv_iconst h 44 dX0_fromDigits_44 rv_c0 ?_
    exact rv_reti hr 45 dX0_fromDigits_45
  refine rv_iload_n h 35 dX0_fromDigits_35 2 rfl ?_
  refine rv_iload h 36 dX0_fromDigits_36 0 rfl ?_
  refine rv_callSi h 38 dX0_fromDigits_38 (fn_X1_has hJ v4 v11  w13) ce_X1_has lk_X0_25 rfl rfl (Nat.le_of_ble_eq_true rfl) ⟨Nat.le_of_ble_eq_true rfl, Nat.le_of_ble_eq_true rfl⟩ (fun r14 w15 => ?_)
  refine rv_if_eq (tgt := 46) h 41 dX0_fromDigits_41 (by decide) (fun _ => ?_) (fun _ => ?_)
  rotate_left
  · refine rv_iconst h 44 dX0_fromDigits_44 rv_c0 ?_
    exact rv_reti hr 45 dX0_fromDigits_45
  refine rv_iload_n h 46 dX0_fromDigits_46 2 rfl ?_
  refine rv_iconst h 47 dX0_fromDigits_47 rv_c1 ?_
  refine rv_iload h 48 dX0_fromDigits_48 0 rfl ?_
  refine rv_ishl h 50 dX0_fromDigits_50 ?_
  refine rv_ior h 51 dX0_fromDigits_51 ?_
  refine rv_top (fun v16 => ?_)
  refine rv_istore_n (lv' := [(2, .int v16), (5, .int v11), (1, .int v3), (3, .int v5), (4, .int v6)]) h 52 dX0_fromDigits_52 (by decide) rfl ?_
  refine rv_iload_n h 53 dX0_fromDigits_53 2 rfl ?_
  refine rv_iconst h 54 dX0_fromDigits_54 rv_c3 ?_
  refine rv_ishl h 55 dX0_fromDigits_55 ?_
  refine rv_iload h 56 dX0_fromDigits_56 1 rfl ?_
  refine rv_iconst h 58 dX0_fromDigits_58 rv_c1 ?_
  refine rv_iadd h 59 dX0_fromDigits_59 ?_
  refine rv_ior h 60 dX0_fromDigits_60 ?_
  refine rv_top (fun v17 => ?_)
  refine rv_istore_n (lv' := [(1, .int v17), (2, .int v16), (5, .int v11), (3, .int v5), (4, .int v6)]) h 61 dX0_fromDigits_61 (by decide) rfl ?_
  refine rv_iload_n h 62 dX0_fromDigits_62 3 rfl ?_
  refine rv_bipush (v := 10) h 63 dX0_fromDigits_63 (by decide +kernel) ?_
  refine rv_idiv h 65 dX0_fromDigits_65 (by decide) ?_
  refine rv_top (fun v18 => ?_)
  refine rv_istore_n (lv' := [(3, .int v18), (1, .int v17), (2, .int v16), (5, .int v11), (4, .int v6)]) h 66 dX0_fromDigits_66 (by decide) rfl ?_
  refine rv_iinc h 67 (fun v19 => [(4, .int v19), (3, .int v18), (1, .int v17), (2, .int v16), (5, .int v11)]) dX0_fromDigits_67 4 rfl rv_c1 (by decide) (fun _ => rfl) (fun v19 => ?_)
  refine rv_goto (tgt := 9) h 70 dX0_fromDigits_70 (by decide) ?_
  refine rv_sub h [2, 3, 1, 0] rfl ?_
  exact ih2 v17 v16 v18 v19 w15
def f_X0_toDigits (p1 : Int32) (w : rv_W) : rv_R :=
  rv_bd (f_X0_length p1 w) (fun (r1 : Int32) (w2 : rv_W) =>
  rv_fx (fun _ _ _ => none) (fun (ag3 : Int32 → Int32 → rv_W → rv_R) (v5 : Int32) (v6 : Int32) (w7 : rv_W) =>
  if v6 < r1 then
  rv_bd (f_X0_at p1 v6 w7) (fun (r8 : Int32) (w9 : rv_W) =>
  rv_lt ((((v5 * (10 : Int32)) + r8) + (1 : Int32))) (fun (v10 : Int32) =>
  rv_lt (v6 + (1 : Int32)) (fun (v11 : Int32) =>
  ag3 v10 v11 w9)))
  else
  some (v5, w7)) rv_FU (0 : Int32) (0 : Int32) w2)
set_option maxRecDepth 100000 in
set_option maxHeartbeats 4000000 in
theorem fn_X0_toDigits {l : Launch} {D : va_G} {ad : Nat → Nat} {ca : Nat → ClassId} (hJ : rv_J ad) (p1 : Int32)  (w : rv_W) : rv_Fn l D ad ca yX0_toDigits cX0_toDigits 4 (some .int) 2 42 [.int p1] w (f_X0_toDigits p1 w) := by
  refine rv_mk (lv := [(0, .int p1)]) hJ (by decide +kernel) (Nat.le_of_ble_eq_true rfl) rfl (fun K h hr => ?_)
  have h : rv_Rl D ad ca l RX0 cX0_toDigits 4 2 42 K := h
  unfold f_X0_toDigits
  refine rv_iconst h 0 dX0_toDigits_0 rv_c0 ?_
  refine rv_istore_n (lv' := [(1, .int (0 : Int32)), (0, .int p1)]) h 1 dX0_toDigits_1 (by decide) rfl ?_
  refine rv_iload_n h 2 dX0_toDigits_2 1 rfl ?_
  refine rv_callSi h 3 dX0_toDigits_3 (fn_X0_length hJ p1  w) ce_X0_length lk_X0_15 rfl rfl (Nat.le_of_ble_eq_true rfl) ⟨Nat.le_of_ble_eq_true rfl, Nat.le_of_ble_eq_true rfl⟩ (fun r1 w2 => ?_)
  refine rv_istore_n (lv' := [(2, .int r1), (1, .int (0 : Int32)), (0, .int p1)]) h 6 dX0_toDigits_6 (by decide) rfl ?_
  refine rv_iconst h 7 dX0_toDigits_7 rv_c0 ?_
  refine rv_istore_n (lv' := [(3, .int (0 : Int32)), (2, .int r1), (1, .int (0 : Int32)), (0, .int p1)]) h 8 dX0_toDigits_8 (by decide) rfl ?_
  refine rv_sub h [3, 2, 1, 0] rfl ?_
  refine rv_fx_ind (fun (a0 : Int32 → Int32 → rv_W → rv_R) => ∀ (v5 : Int32) (v6 : Int32) (w7 : rv_W), K 9 [(0, .int p1), (1, .int v5), (2, .int r1), (3, .int v6)] [] w7 (a0 v5 v6 w7)) (fun _ _ _ => rv_none h) (fun ag3 ih4 v5 v6 w7 => ?_) rv_FU (0 : Int32) (0 : Int32) w2
  refine rv_iload_n h 9 dX0_toDigits_9 3 rfl ?_
  refine rv_iload_n h 10 dX0_toDigits_10 2 rfl ?_
  refine rv_icmp_ge (tgt := 33) h 11 dX0_toDigits_11 (by decide) (fun _ => ?_) (fun _ => ?_)
  rotate_left
  · refine rv_iload_n h 33 dX0_toDigits_33 1 rfl ?_
    exact rv_reti hr 34 dX0_toDigits_34
  refine rv_iload_n h 14 dX0_toDigits_14 1 rfl ?_
  refine rv_bipush (v := 10) h 15 dX0_toDigits_15 (by decide +kernel) ?_
  refine rv_imul h 17 dX0_toDigits_17 ?_
  refine rv_iload_n h 18 dX0_toDigits_18 0 rfl ?_
  refine rv_iload_n h 19 dX0_toDigits_19 3 rfl ?_
  refine rv_callSi h 20 dX0_toDigits_20 (fn_X0_at hJ p1 v6  w7) ce_X0_at lk_X0_9 rfl rfl (Nat.le_of_ble_eq_true rfl) ⟨Nat.le_of_ble_eq_true rfl, Nat.le_of_ble_eq_true rfl⟩ (fun r8 w9 => ?_)
  refine rv_iadd h 23 dX0_toDigits_23 ?_
  refine rv_iconst h 24 dX0_toDigits_24 rv_c1 ?_
  refine rv_iadd h 25 dX0_toDigits_25 ?_
  refine rv_top (fun v10 => ?_)
  refine rv_istore_n (lv' := [(1, .int v10), (0, .int p1), (2, .int r1), (3, .int v6)]) h 26 dX0_toDigits_26 (by decide) rfl ?_
  refine rv_iinc h 27 (fun v11 => [(3, .int v11), (1, .int v10), (0, .int p1), (2, .int r1)]) dX0_toDigits_27 3 rfl rv_c1 (by decide) (fun _ => rfl) (fun v11 => ?_)
  refine rv_goto (tgt := 9) h 30 dX0_toDigits_30 (by decide) ?_
  refine rv_sub h [2, 1, 3, 0] rfl ?_
  exact ih4 v10 v11 w9
def f_X0_within (p1 : Int32) (p2 : Int32) (w : rv_W) : rv_R :=
  rv_fx (fun _ _ _ _ => none) (fun (ag1 : Int32 → Int32 → Int32 → rv_W → rv_R) (v3 : Int32) (v4 : Int32) (v5 : Int32) (w6 : rv_W) =>
  if v5 < (5 : Int32) then
  rv_bd (f_X0_at p1 v5 w6) (fun (r7 : Int32) (w8 : rv_W) =>
  rv_bd (f_X1_has p2 r7 w8) (fun (r9 : Int32) (w10 : rv_W) =>
  if r9 = 0 then
  rv_lt (v5 + (1 : Int32)) (fun (v11 : Int32) =>
  ag1 v3 v4 v11 w10)
  else
  rv_lt ((v3 ||| ((r7 + (1 : Int32)) <<< (v4 &&& 31)))) (fun (v12 : Int32) =>
  rv_lt (v4 + (3 : Int32)) (fun (v13 : Int32) =>
  rv_lt (v5 + (1 : Int32)) (fun (v14 : Int32) =>
  ag1 v12 v13 v14 w10)))))
  else
  some (v3, w6)) rv_FU (0 : Int32) (0 : Int32) (0 : Int32) w
set_option maxRecDepth 100000 in
set_option maxHeartbeats 4000000 in
theorem fn_X0_within {l : Launch} {D : va_G} {ad : Nat → Nat} {ca : Nat → ClassId} (hJ : rv_J ad) (p1 : Int32) (p2 : Int32)  (w : rv_W) : rv_Fn l D ad ca yX0_within cX0_within 6 (some .int) 1 21 [.int p1, .int p2] w (f_X0_within p1 p2 w) := by
  refine rv_mk (lv := [(0, .int p1), (1, .int p2)]) hJ (by decide +kernel) (Nat.le_of_ble_eq_true rfl) rfl (fun K h hr => ?_)
  have h : rv_Rl D ad ca l RX0 cX0_within 6 1 21 K := h
  unfold f_X0_within
  refine rv_iconst h 0 dX0_within_0 rv_c0 ?_
  refine rv_istore_n (lv' := [(2, .int (0 : Int32)), (0, .int p1), (1, .int p2)]) h 1 dX0_within_1 (by decide) rfl ?_
  refine rv_iconst h 2 dX0_within_2 rv_c0 ?_
  refine rv_istore_n (lv' := [(3, .int (0 : Int32)), (2, .int (0 : Int32)), (0, .int p1), (1, .int p2)]) h 3 dX0_within_3 (by decide) rfl ?_
  refine rv_iconst h 4 dX0_within_4 rv_c0 ?_
  refine rv_istore (lv' := [(4, .int (0 : Int32)), (3, .int (0 : Int32)), (2, .int (0 : Int32)), (0, .int p1), (1, .int p2)]) h 5 dX0_within_5 (by decide) rfl ?_
  refine rv_sub h [3, 4, 2, 1, 0] rfl ?_
  refine rv_fx_ind (fun (a0 : Int32 → Int32 → Int32 → rv_W → rv_R) => ∀ (v3 : Int32) (v4 : Int32) (v5 : Int32) (w6 : rv_W), K 7 [(0, .int p1), (1, .int p2), (2, .int v3), (3, .int v4), (4, .int v5)] [] w6 (a0 v3 v4 v5 w6)) (fun _ _ _ _ => rv_none h) (fun ag1 ih2 v3 v4 v5 w6 => ?_) rv_FU (0 : Int32) (0 : Int32) (0 : Int32) w
  refine rv_iload h 7 dX0_within_7 4 rfl ?_
  refine rv_iconst h 9 dX0_within_9 rv_c5 ?_
  refine rv_icmp_ge (tgt := 48) h 10 dX0_within_10 (by decide) (fun _ => ?_) (fun _ => ?_)
  rotate_left
  · refine rv_iload_n h 48 dX0_within_48 2 rfl ?_
    exact rv_reti hr 49 dX0_within_49
  refine rv_iload_n h 13 dX0_within_13 0 rfl ?_
  refine rv_iload h 14 dX0_within_14 4 rfl ?_
  refine rv_callSi h 16 dX0_within_16 (fn_X0_at hJ p1 v5  w6) ce_X0_at lk_X0_9 rfl rfl (Nat.le_of_ble_eq_true rfl) ⟨Nat.le_of_ble_eq_true rfl, Nat.le_of_ble_eq_true rfl⟩ (fun r7 w8 => ?_)
  refine rv_istore (lv' := [(5, .int r7), (0, .int p1), (1, .int p2), (2, .int v3), (3, .int v4), (4, .int v5)]) h 19 dX0_within_19 (by decide) rfl ?_
  refine rv_iload_n h 21 dX0_within_21 2 rfl ?_
  refine rv_iload h 22 dX0_within_22 0 rfl ?_
  refine rv_callSi h 24 dX0_within_24 (fn_X1_has hJ p2 r7  w8) ce_X1_has lk_X0_25 rfl rfl (Nat.le_of_ble_eq_true rfl) ⟨Nat.le_of_ble_eq_true rfl, Nat.le_of_ble_eq_true rfl⟩ (fun r9 w10 => ?_)
  refine rv_if_eq (tgt := 42) h 27 dX0_within_27 (by decide) (fun _ => ?_) (fun _ => ?_)
  · refine rv_iinc h 42 (fun v11 => [(4, .int v11), (5, .int r7), (0, .int p1), (1, .int p2), (2, .int v3), (3, .int v4)]) dX0_within_42 5 rfl rv_c1 (by decide) (fun _ => rfl) (fun v11 => ?_)
    refine rv_goto (tgt := 7) h 45 dX0_within_45 (by decide) ?_
    refine rv_sub h [2, 3, 4, 5, 0] rfl ?_
    exact ih2 v3 v4 v11 w10
  refine rv_iload_n h 30 dX0_within_30 3 rfl ?_
  refine rv_iload h 31 dX0_within_31 0 rfl ?_
  refine rv_iconst h 33 dX0_within_33 rv_c1 ?_
  refine rv_iadd h 34 dX0_within_34 ?_
  refine rv_iload_n h 35 dX0_within_35 4 rfl ?_
  refine rv_ishl h 36 dX0_within_36 ?_
  refine rv_ior h 37 dX0_within_37 ?_
  refine rv_top (fun v12 => ?_)
  refine rv_istore_n (lv' := [(2, .int v12), (5, .int r7), (0, .int p1), (1, .int p2), (3, .int v4), (4, .int v5)]) h 38 dX0_within_38 (by decide) rfl ?_
  refine rv_iinc h 39 (fun v13 => [(3, .int v13), (2, .int v12), (5, .int r7), (0, .int p1), (1, .int p2), (4, .int v5)]) dX0_within_39 4 rfl rv_c3 (by decide) (fun _ => rfl) (fun v13 => ?_)
  refine rv_iinc h 42 (fun v14 => [(4, .int v14), (3, .int v13), (2, .int v12), (5, .int r7), (0, .int p1), (1, .int p2)]) dX0_within_42 5 rfl rv_c1 (by decide) (fun _ => rfl) (fun v14 => ?_)
  refine rv_goto (tgt := 7) h 45 dX0_within_45 (by decide) ?_
  refine rv_sub h [4, 5, 2, 1, 0] rfl ?_
  exact ih2 v12 v13 v14 w10
def f_X0_exchanged (p1 : Int32) (p2 : Int32) (w : rv_W) : rv_R :=
  rv_bd (f_X0_at p1 p2 w) (fun (r1 : Int32) (w2 : rv_W) =>
  rv_lt ((r1 + (1 : Int32))) (fun (v3 : Int32) =>
  rv_bd (f_X0_at p1 (p2 + (1 : Int32)) w2) (fun (r4 : Int32) (w5 : rv_W) =>
  rv_lt ((r4 + (1 : Int32))) (fun (v6 : Int32) =>
  rv_lt ((v3 ^^^ v6)) (fun (v7 : Int32) =>
  some (((p1 ^^^ (v7 <<< (((3 : Int32) * p2) &&& 31))) ^^^ (v7 <<< (((3 : Int32) * (p2 + (1 : Int32))) &&& 31))), w5))))))
set_option maxRecDepth 100000 in
set_option maxHeartbeats 4000000 in
theorem fn_X0_exchanged {l : Launch} {D : va_G} {ad : Nat → Nat} {ca : Nat → ClassId} (hJ : rv_J ad) (p1 : Int32) (p2 : Int32)  (w : rv_W) : rv_Fn l D ad ca yX0_exchanged cX0_exchanged 5 (some .int) 1 21 [.int p1, .int p2] w (f_X0_exchanged p1 p2 w) := by
  refine rv_mk (lv := [(0, .int p1), (1, .int p2)]) hJ (by decide +kernel) (Nat.le_of_ble_eq_true rfl) rfl (fun K h hr => ?_)
  have h : rv_Rl D ad ca l RX0 cX0_exchanged 5 1 21 K := h
  unfold f_X0_exchanged
  refine rv_iload_n h 0 dX0_exchanged_0 0 rfl ?_
  refine rv_iload_n h 1 dX0_exchanged_1 1 rfl ?_
  refine rv_callSi h 2 dX0_exchanged_2 (fn_X0_at hJ p1 p2  w) ce_X0_at lk_X0_9 rfl rfl (Nat.le_of_ble_eq_true rfl) ⟨Nat.le_of_ble_eq_true rfl, Nat.le_of_ble_eq_true rfl⟩ (fun r1 w2 => ?_)
  refine rv_iconst h 5 dX0_exchanged_5 rv_c1 ?_
  refine rv_iadd h 6 dX0_exchanged_6 ?_
  refine rv_top (fun v3 => ?_)
  refine rv_istore_n (lv' := [(2, .int v3), (0, .int p1), (1, .int p2)]) h 7 dX0_exchanged_7 (by decide) rfl ?_
  refine rv_iload_n h 8 dX0_exchanged_8 1 rfl ?_
  refine rv_iload_n h 9 dX0_exchanged_9 2 rfl ?_
  refine rv_iconst h 10 dX0_exchanged_10 rv_c1 ?_
  refine rv_iadd h 11 dX0_exchanged_11 ?_
  refine rv_callSi h 12 dX0_exchanged_12 (fn_X0_at hJ p1 (p2 + (1 : Int32))  w2) ce_X0_at lk_X0_9 rfl rfl (Nat.le_of_ble_eq_true rfl) ⟨Nat.le_of_ble_eq_true rfl, Nat.le_of_ble_eq_true rfl⟩ (fun r4 w5 => ?_)
  refine rv_iconst h 15 dX0_exchanged_15 rv_c1 ?_
  refine rv_iadd h 16 dX0_exchanged_16 ?_
  refine rv_top (fun v6 => ?_)
  refine rv_istore_n (lv' := [(3, .int v6), (2, .int v3), (0, .int p1), (1, .int p2)]) h 17 dX0_exchanged_17 (by decide) rfl ?_
  refine rv_iload_n h 18 dX0_exchanged_18 1 rfl ?_
  refine rv_iload_n h 19 dX0_exchanged_19 0 rfl ?_
  refine rv_ixor h 20 dX0_exchanged_20 ?_
  refine rv_top (fun v7 => ?_)
  refine rv_istore (lv' := [(4, .int v7), (3, .int v6), (2, .int v3), (0, .int p1), (1, .int p2)]) h 21 dX0_exchanged_21 (by decide) rfl ?_
  refine rv_iload_n h 23 dX0_exchanged_23 3 rfl ?_
  refine rv_iload h 24 dX0_exchanged_24 0 rfl ?_
  refine rv_iconst h 26 dX0_exchanged_26 rv_c3 ?_
  refine rv_iload_n h 27 dX0_exchanged_27 4 rfl ?_
  refine rv_imul h 28 dX0_exchanged_28 ?_
  refine rv_ishl h 29 dX0_exchanged_29 ?_
  refine rv_ixor h 30 dX0_exchanged_30 ?_
  refine rv_iload h 31 dX0_exchanged_31 0 rfl ?_
  refine rv_iconst h 33 dX0_exchanged_33 rv_c3 ?_
  refine rv_iload_n h 34 dX0_exchanged_34 4 rfl ?_
  refine rv_iconst h 35 dX0_exchanged_35 rv_c1 ?_
  refine rv_iadd h 36 dX0_exchanged_36 ?_
  refine rv_imul h 37 dX0_exchanged_37 ?_
  refine rv_ishl h 38 dX0_exchanged_38 ?_
  refine rv_ixor h 39 dX0_exchanged_39 ?_
  exact rv_reti hr 40 dX0_exchanged_40
def f_X0_prefers (p1 : Int32) (p2 : Int32) (p3 : Int32) (w : rv_W) : rv_R :=
  rv_bd (f_X0_placeOf p1 p2 w) (fun (r1 : Int32) (w2 : rv_W) =>
  rv_bd (f_X0_placeOf p1 p3 w2) (fun (r3 : Int32) (w4 : rv_W) =>
  if r1 < 0 then
  some ((0 : Int32), w4)
  else
  rv_jn (fun  (w5 : rv_W) =>
  some ((1 : Int32), w5)) (fun (k6 : rv_W → rv_R) =>
  if r3 < 0 then
  k6 w4
  else
  if r1 < r3 then
  k6 w4
  else
  some ((0 : Int32), w4))))
set_option maxRecDepth 100000 in
set_option maxHeartbeats 4000000 in
theorem fn_X0_prefers {l : Launch} {D : va_G} {ad : Nat → Nat} {ca : Nat → ClassId} (hJ : rv_J ad) (p1 : Int32) (p2 : Int32) (p3 : Int32)  (w : rv_W) : rv_Fn l D ad ca yX0_prefers cX0_prefers 5 (some .boolean) 2 43 [.int p1, .int p2, .int p3] w (f_X0_prefers p1 p2 p3 w) := by
  refine rv_mk (lv := [(0, .int p1), (1, .int p2), (2, .int p3)]) hJ (by decide +kernel) (Nat.le_of_ble_eq_true rfl) rfl (fun K h hr => ?_)
  have h : rv_Rl D ad ca l RX0 cX0_prefers 5 2 43 K := h
  unfold f_X0_prefers
  refine rv_iload_n h 0 dX0_prefers_0 0 rfl ?_
  refine rv_iload_n h 1 dX0_prefers_1 1 rfl ?_
  refine rv_callSi h 2 dX0_prefers_2 (fn_X0_placeOf hJ p1 p2  w) ce_X0_placeOf lk_X0_29 rfl rfl (Nat.le_of_ble_eq_true rfl) ⟨Nat.le_of_ble_eq_true rfl, Nat.le_of_ble_eq_true rfl⟩ (fun r1 w2 => ?_)
  refine rv_istore_n (lv' := [(3, .int r1), (0, .int p1), (1, .int p2), (2, .int p3)]) h 5 dX0_prefers_5 (by decide) rfl ?_
  refine rv_iload_n h 6 dX0_prefers_6 1 rfl ?_
  refine rv_iload_n h 7 dX0_prefers_7 3 rfl ?_
  refine rv_callSi h 8 dX0_prefers_8 (fn_X0_placeOf hJ p1 p3  w2) ce_X0_placeOf lk_X0_29 rfl rfl (Nat.le_of_ble_eq_true rfl) ⟨Nat.le_of_ble_eq_true rfl, Nat.le_of_ble_eq_true rfl⟩ (fun r3 w4 => ?_)
  refine rv_istore (lv' := [(4, .int r3), (3, .int r1), (0, .int p1), (1, .int p2), (2, .int p3)]) h 11 dX0_prefers_11 (by decide) rfl ?_
  refine rv_iload_n h 13 dX0_prefers_13 1 rfl ?_
  refine rv_if_lt (tgt := 32) h 14 dX0_prefers_14 (by decide) (fun _ => ?_) (fun _ => ?_)
  · refine rv_iconst h 32 dX0_prefers_32 rv_c0 ?_
    exact rv_retz0 hr 33 dX0_prefers_33
  refine rv_iload h 17 dX0_prefers_17 0 rfl ?_
  refine rv_join (fun (k0 : rv_W → rv_R) => ∀  (w5 : rv_W), K 28 [] ([]) w5 (k0 w5)) (fun w5 => ?_) (fun k6 hk7 => ?_)
  · refine rv_iconst h 28 dX0_prefers_28 rv_c1 ?_
    refine rv_goto (tgt := 33) h 29 dX0_prefers_29 (by decide) ?_
    exact rv_retz1 hr 33 dX0_prefers_33
  refine rv_if_lt (tgt := 28) h 19 dX0_prefers_19 (by decide) (fun _ => ?_) (fun _ => ?_)
  · refine rv_sub h [] rfl ?_
    exact hk7 w4
  refine rv_iload_n h 22 dX0_prefers_22 1 rfl ?_
  refine rv_iload h 23 dX0_prefers_23 0 rfl ?_
  refine rv_icmp_ge (tgt := 32) h 25 dX0_prefers_25 (by decide) (fun _ => ?_) (fun _ => ?_)
  · refine rv_sub h [] rfl ?_
    exact hk7 w4
  refine rv_iconst h 32 dX0_prefers_32 rv_c0 ?_
  exact rv_retz0 hr 33 dX0_prefers_33
def f_X0_factorial (p1 : Int32) (w : rv_W) : rv_R :=
  rv_fx (fun _ _ _ => none) (fun (ag1 : Int32 → Int32 → rv_W → rv_R) (v3 : Int32) (v4 : Int32) (w5 : rv_W) =>
  if p1 < v4 then
  some (v3, w5)
  else
  if (5 : Int32) < v4 then
  some (v3, w5)
  else
  rv_lt ((v3 * v4)) (fun (v6 : Int32) =>
  rv_lt (v4 + (1 : Int32)) (fun (v7 : Int32) =>
  ag1 v6 v7 w5))) rv_FU (1 : Int32) (2 : Int32) w
set_option maxRecDepth 100000 in
set_option maxHeartbeats 4000000 in
theorem fn_X0_factorial {l : Launch} {D : va_G} {ad : Nat → Nat} {ca : Nat → ClassId} (hJ : rv_J ad) (p1 : Int32)  (w : rv_W) : rv_Fn l D ad ca yX0_factorial cX0_factorial 3 (some .int) 0 0 [.int p1] w (f_X0_factorial p1 w) := by
  refine rv_mk (lv := [(0, .int p1)]) hJ (by decide +kernel) (Nat.le_of_ble_eq_true rfl) rfl (fun K h hr => ?_)
  have h : rv_Rl D ad ca l RX0 cX0_factorial 3 0 0 K := h
  unfold f_X0_factorial
  refine rv_iconst h 0 dX0_factorial_0 rv_c1 ?_
  refine rv_istore_n (lv' := [(1, .int (1 : Int32)), (0, .int p1)]) h 1 dX0_factorial_1 (by decide) rfl ?_
  refine rv_iconst h 2 dX0_factorial_2 rv_c2 ?_
  refine rv_istore_n (lv' := [(2, .int (2 : Int32)), (1, .int (1 : Int32)), (0, .int p1)]) h 3 dX0_factorial_3 (by decide) rfl ?_
  refine rv_sub h [2, 1, 0] rfl ?_
  refine rv_fx_ind (fun (a0 : Int32 → Int32 → rv_W → rv_R) => ∀ (v3 : Int32) (v4 : Int32) (w5 : rv_W), K 4 [(0, .int p1), (1, .int v3), (2, .int v4)] [] w5 (a0 v3 v4 w5)) (fun _ _ _ => rv_none h) (fun ag1 ih2 v3 v4 w5 => ?_) rv_FU (1 : Int32) (2 : Int32) w
  refine rv_iload_n h 4 dX0_factorial_4 2 rfl ?_
  refine rv_iload_n h 5 dX0_factorial_5 0 rfl ?_
  refine rv_icmp_gt (tgt := 24) h 6 dX0_factorial_6 (by decide) (fun _ => ?_) (fun _ => ?_)
  · refine rv_iload_n h 24 dX0_factorial_24 1 rfl ?_
    exact rv_reti hr 25 dX0_factorial_25
  refine rv_iload_n h 9 dX0_factorial_9 2 rfl ?_
  refine rv_iconst h 10 dX0_factorial_10 rv_c5 ?_
  refine rv_icmp_gt (tgt := 24) h 11 dX0_factorial_11 (by decide) (fun _ => ?_) (fun _ => ?_)
  · refine rv_iload_n h 24 dX0_factorial_24 1 rfl ?_
    exact rv_reti hr 25 dX0_factorial_25
  refine rv_iload_n h 14 dX0_factorial_14 1 rfl ?_
  refine rv_iload_n h 15 dX0_factorial_15 2 rfl ?_
  refine rv_imul h 16 dX0_factorial_16 ?_
  refine rv_top (fun v6 => ?_)
  refine rv_istore_n (lv' := [(1, .int v6), (0, .int p1), (2, .int v4)]) h 17 dX0_factorial_17 (by decide) rfl ?_
  refine rv_iinc h 18 (fun v7 => [(2, .int v7), (1, .int v6), (0, .int p1)]) dX0_factorial_18 2 rfl rv_c1 (by decide) (fun _ => rfl) (fun v7 => ?_)
  refine rv_goto (tgt := 4) h 21 dX0_factorial_21 (by decide) ?_
  refine rv_sub h [2, 1, 0] rfl ?_
  exact ih2 v6 v7 w5
def f_J6_bitCount_0f7a4 (p1 : Int32) (w : rv_W) : rv_R :=
  rv_lt ((p1 - (((p1.toUInt32 >>> ((1 : Int32).toUInt32 &&& Int32.toUInt32 31)).toInt32) &&& (1431655765 : Int32)))) (fun (v1 : Int32) =>
  rv_lt (((v1 &&& (858993459 : Int32)) + (((v1.toUInt32 >>> ((2 : Int32).toUInt32 &&& Int32.toUInt32 31)).toInt32) &&& (858993459 : Int32)))) (fun (v2 : Int32) =>
  rv_lt (((v2 + ((v2.toUInt32 >>> ((4 : Int32).toUInt32 &&& Int32.toUInt32 31)).toInt32)) &&& (252645135 : Int32))) (fun (v3 : Int32) =>
  rv_lt ((v3 + ((v3.toUInt32 >>> ((8 : Int32).toUInt32 &&& Int32.toUInt32 31)).toInt32))) (fun (v4 : Int32) =>
  rv_lt ((v4 + ((v4.toUInt32 >>> ((16 : Int32).toUInt32 &&& Int32.toUInt32 31)).toInt32))) (fun (v5 : Int32) =>
  some ((v5 &&& (63 : Int32)), w))))))
set_option maxRecDepth 100000 in
set_option maxHeartbeats 4000000 in
theorem fn_J6_bitCount_0f7a4 {l : Launch} {D : va_G} {ad : Nat → Nat} {ca : Nat → ClassId} (hJ : rv_J ad) (p1 : Int32)  (w : rv_W) : rv_Fn l D ad ca yJ6_bitCount_0f7a4 cJ6_bitCount_0f7a4 1 (some .int) 0 0 [.int p1] w (f_J6_bitCount_0f7a4 p1 w) := by
  refine rv_mk (lv := [(0, .int p1)]) hJ (by decide +kernel) (Nat.le_of_ble_eq_true rfl) rfl (fun K h hr => ?_)
  have h : rv_Rl D ad ca l RJ6 cJ6_bitCount_0f7a4 1 0 0 K := h
  unfold f_J6_bitCount_0f7a4
  refine rv_iload_n h 0 dJ6_bitCount_0f7a4_0 0 rfl ?_
  refine rv_iload_n h 1 dJ6_bitCount_0f7a4_1 0 rfl ?_
  refine rv_iconst h 2 dJ6_bitCount_0f7a4_2 rv_c1 ?_
  refine rv_iushr h 3 dJ6_bitCount_0f7a4_3 ?_
  refine rv_ldcw h 4 dJ6_bitCount_0f7a4_4 rv_kc_J6_265 ?_
  refine rv_iand h 7 dJ6_bitCount_0f7a4_7 ?_
  refine rv_isub h 8 dJ6_bitCount_0f7a4_8 ?_
  refine rv_top (fun v1 => ?_)
  refine rv_istore_n (lv' := [(0, .int v1)]) h 9 dJ6_bitCount_0f7a4_9 (by decide) rfl ?_
  refine rv_iload_n h 10 dJ6_bitCount_0f7a4_10 0 rfl ?_
  refine rv_ldcw h 11 dJ6_bitCount_0f7a4_11 rv_kc_J6_266 ?_
  refine rv_iand h 14 dJ6_bitCount_0f7a4_14 ?_
  refine rv_iload_n h 15 dJ6_bitCount_0f7a4_15 0 rfl ?_
  refine rv_iconst h 16 dJ6_bitCount_0f7a4_16 rv_c2 ?_
  refine rv_iushr h 17 dJ6_bitCount_0f7a4_17 ?_
  refine rv_ldcw h 18 dJ6_bitCount_0f7a4_18 rv_kc_J6_266 ?_
  refine rv_iand h 21 dJ6_bitCount_0f7a4_21 ?_
  refine rv_iadd h 22 dJ6_bitCount_0f7a4_22 ?_
  refine rv_top (fun v2 => ?_)
  refine rv_istore_n (lv' := [(0, .int v2)]) h 23 dJ6_bitCount_0f7a4_23 (by decide) rfl ?_
  refine rv_iload_n h 24 dJ6_bitCount_0f7a4_24 0 rfl ?_
  refine rv_iload_n h 25 dJ6_bitCount_0f7a4_25 0 rfl ?_
  refine rv_iconst h 26 dJ6_bitCount_0f7a4_26 rv_c4 ?_
  refine rv_iushr h 27 dJ6_bitCount_0f7a4_27 ?_
  refine rv_iadd h 28 dJ6_bitCount_0f7a4_28 ?_
  refine rv_ldcw h 29 dJ6_bitCount_0f7a4_29 rv_kc_J6_267 ?_
  refine rv_iand h 32 dJ6_bitCount_0f7a4_32 ?_
  refine rv_top (fun v3 => ?_)
  refine rv_istore_n (lv' := [(0, .int v3)]) h 33 dJ6_bitCount_0f7a4_33 (by decide) rfl ?_
  refine rv_iload_n h 34 dJ6_bitCount_0f7a4_34 0 rfl ?_
  refine rv_iload_n h 35 dJ6_bitCount_0f7a4_35 0 rfl ?_
  refine rv_bipush (v := 8) h 36 dJ6_bitCount_0f7a4_36 (by decide +kernel) ?_
  refine rv_iushr h 38 dJ6_bitCount_0f7a4_38 ?_
  refine rv_iadd h 39 dJ6_bitCount_0f7a4_39 ?_
  refine rv_top (fun v4 => ?_)
  refine rv_istore_n (lv' := [(0, .int v4)]) h 40 dJ6_bitCount_0f7a4_40 (by decide) rfl ?_
  refine rv_iload_n h 41 dJ6_bitCount_0f7a4_41 0 rfl ?_
  refine rv_iload_n h 42 dJ6_bitCount_0f7a4_42 0 rfl ?_
  refine rv_bipush (v := 16) h 43 dJ6_bitCount_0f7a4_43 (by decide +kernel) ?_
  refine rv_iushr h 45 dJ6_bitCount_0f7a4_45 ?_
  refine rv_iadd h 46 dJ6_bitCount_0f7a4_46 ?_
  refine rv_top (fun v5 => ?_)
  refine rv_istore_n (lv' := [(0, .int v5)]) h 47 dJ6_bitCount_0f7a4_47 (by decide) rfl ?_
  refine rv_iload_n h 48 dJ6_bitCount_0f7a4_48 0 rfl ?_
  refine rv_bipush (v := 63) h 49 dJ6_bitCount_0f7a4_49 (by decide +kernel) ?_
  refine rv_iand h 51 dJ6_bitCount_0f7a4_51 ?_
  exact rv_reti hr 52 dJ6_bitCount_0f7a4_52
def f_X1_without (p1 : Int32) (p2 : Int32) (w : rv_W) : rv_R :=
  if p2 < 0 then
  some (p1, w)
  else
  if p2 < (5 : Int32) then
  some ((p1 &&& (((1 : Int32) <<< (p2 &&& 31)) ^^^ (-1 : Int32))), w)
  else
  some (p1, w)
set_option maxRecDepth 100000 in
set_option maxHeartbeats 4000000 in
theorem fn_X1_without {l : Launch} {D : va_G} {ad : Nat → Nat} {ca : Nat → ClassId} (hJ : rv_J ad) (p1 : Int32) (p2 : Int32)  (w : rv_W) : rv_Fn l D ad ca yX1_without cX1_without 2 (some .int) 0 0 [.int p1, .int p2] w (f_X1_without p1 p2 w) := by
  refine rv_mk (lv := [(0, .int p1), (1, .int p2)]) hJ (by decide +kernel) (Nat.le_of_ble_eq_true rfl) rfl (fun K h hr => ?_)
  have h : rv_Rl D ad ca l RX1 cX1_without 2 0 0 K := h
  unfold f_X1_without
  refine rv_iload_n h 0 dX1_without_0 1 rfl ?_
  refine rv_if_lt (tgt := 19) h 1 dX1_without_1 (by decide) (fun _ => ?_) (fun _ => ?_)
  · refine rv_iload_n h 19 dX1_without_19 0 rfl ?_
    exact rv_reti hr 20 dX1_without_20
  refine rv_iload_n h 4 dX1_without_4 1 rfl ?_
  refine rv_iconst h 5 dX1_without_5 rv_c5 ?_
  refine rv_icmp_ge (tgt := 19) h 6 dX1_without_6 (by decide) (fun _ => ?_) (fun _ => ?_)
  rotate_left
  · refine rv_iload_n h 19 dX1_without_19 0 rfl ?_
    exact rv_reti hr 20 dX1_without_20
  refine rv_iload_n h 9 dX1_without_9 0 rfl ?_
  refine rv_iconst h 10 dX1_without_10 rv_c1 ?_
  refine rv_iload_n h 11 dX1_without_11 1 rfl ?_
  refine rv_ishl h 12 dX1_without_12 ?_
  refine rv_iconst h 13 dX1_without_13 rv_cm1 ?_
  refine rv_ixor h 14 dX1_without_14 ?_
  refine rv_iand h 15 dX1_without_15 ?_
  refine rv_goto (tgt := 20) h 16 dX1_without_16 (by decide) ?_
  exact rv_reti hr 20 dX1_without_20
def f_X0_order (p1 : Int32) (p2 : Int32) (w : rv_W) : rv_R :=
  rv_bd (f_J6_bitCount_0f7a4 p1 w) (fun (r1 : Int32) (w2 : rv_W) =>
  rv_fx (fun _ _ _ _ _ => none) (fun (ag3 : Int32 → Int32 → Int32 → Int32 → rv_W → rv_R) (v5 : Int32) (v6 : Int32) (v7 : Int32) (v8 : Int32) (w9 : rv_W) =>
  if v8 < r1 then
  rv_bd (f_X0_factorial ((r1 - (1 : Int32)) - v8) w9) (fun (r10 : Int32) (w11 : rv_W) =>
  rv_fx (fun _ _ _ => none) (fun (ag12 : Int32 → Int32 → rv_W → rv_R) (v14 : Int32) (v15 : Int32) (w16 : rv_W) =>
  if v15 < (5 : Int32) then
  rv_bd (f_X1_has v6 v15 w16) (fun (r18 : Int32) (w19 : rv_W) =>
  if r18 = 0 then
  rv_lt (v15 + (1 : Int32)) (fun (v26 : Int32) =>
  ag12 v14 v26 w19)
  else
  if v14 < r10 then
  rv_lt ((v5 ||| ((v15 + (1 : Int32)) <<< (((3 : Int32) * v8) &&& 31)))) (fun (v22 : Int32) =>
  rv_bd (f_X1_without v6 v15 w19) (fun (r23 : Int32) (w24 : rv_W) =>
  rv_lt (v8 + (1 : Int32)) (fun (v25 : Int32) =>
  ag3 v22 r23 v14 v25 w24)))
  else
  rv_lt ((v14 - r10)) (fun (v20 : Int32) =>
  rv_lt (v15 + (1 : Int32)) (fun (v21 : Int32) =>
  ag12 v20 v21 w19)))
  else
  rv_lt (v8 + (1 : Int32)) (fun (v17 : Int32) =>
  ag3 v5 v6 v14 v17 w16)) rv_FU v7 (0 : Int32) w11)
  else
  some (v5, w9)) rv_FU (0 : Int32) p1 p2 (0 : Int32) w2)
set_option maxRecDepth 100000 in
set_option maxHeartbeats 4000000 in
theorem fn_X0_order {l : Launch} {D : va_G} {ad : Nat → Nat} {ca : Nat → ClassId} (hJ : rv_J ad) (p1 : Int32) (p2 : Int32)  (w : rv_W) : rv_Fn l D ad ca yX0_order cX0_order 9 (some .int) 1 22 [.int p1, .int p2] w (f_X0_order p1 p2 w) := by
  refine rv_mk (lv := [(0, .int p1), (1, .int p2)]) hJ (by decide +kernel) (Nat.le_of_ble_eq_true rfl) rfl (fun K h hr => ?_)
  have h : rv_Rl D ad ca l RX0 cX0_order 9 1 22 K := h
  unfold f_X0_order
  refine rv_iconst h 0 dX0_order_0 rv_c0 ?_
  refine rv_istore_n (lv' := [(2, .int (0 : Int32)), (0, .int p1), (1, .int p2)]) h 1 dX0_order_1 (by decide) rfl ?_
  refine rv_iload_n h 2 dX0_order_2 1 rfl ?_
  refine rv_istore_n (lv' := [(3, .int p1), (2, .int (0 : Int32)), (0, .int p1), (1, .int p2)]) h 3 dX0_order_3 (by decide) rfl ?_
  refine rv_iload_n h 4 dX0_order_4 3 rfl ?_
  refine rv_istore (lv' := [(4, .int p2), (3, .int p1), (2, .int (0 : Int32)), (0, .int p1), (1, .int p2)]) h 5 dX0_order_5 (by decide) rfl ?_
  refine rv_iload_n h 7 dX0_order_7 3 rfl ?_
  refine rv_callSi h 8 dX0_order_8 (fn_J6_bitCount_0f7a4 hJ p1  w) ce_J6_bitCount_0f7a4 lk_X0_32 rfl rfl (Nat.le_of_ble_eq_true rfl) ⟨Nat.le_of_ble_eq_true rfl, Nat.le_of_ble_eq_true rfl⟩ (fun r1 w2 => ?_)
  refine rv_istore (lv' := [(5, .int r1), (4, .int p2), (3, .int p1), (2, .int (0 : Int32)), (0, .int p1), (1, .int p2)]) h 11 dX0_order_11 (by decide) rfl ?_
  refine rv_iconst h 13 dX0_order_13 rv_c0 ?_
  refine rv_istore (lv' := [(6, .int (0 : Int32)), (5, .int r1), (4, .int p2), (3, .int p1), (2, .int (0 : Int32)), (0, .int p1), (1, .int p2)]) h 14 dX0_order_14 (by decide) rfl ?_
  refine rv_sub h [4, 3, 2, 1, 0] rfl ?_
  refine rv_fx_ind (fun (a0 : Int32 → Int32 → Int32 → Int32 → rv_W → rv_R) => ∀ (v5 : Int32) (v6 : Int32) (v7 : Int32) (v8 : Int32) (w9 : rv_W), K 16 [(2, .int v5), (3, .int v6), (4, .int v7), (5, .int r1), (6, .int v8)] [] w9 (a0 v5 v6 v7 v8 w9)) (fun _ _ _ _ _ => rv_none h) (fun ag3 ih4 v5 v6 v7 v8 w9 => ?_) rv_FU (0 : Int32) p1 p2 (0 : Int32) w2
  refine rv_iload h 16 dX0_order_16 4 rfl ?_
  refine rv_iload h 18 dX0_order_18 3 rfl ?_
  refine rv_icmp_ge (tgt := 104) h 20 dX0_order_20 (by decide) (fun _ => ?_) (fun _ => ?_)
  rotate_left
  · refine rv_iload_n h 104 dX0_order_104 0 rfl ?_
    exact rv_reti hr 105 dX0_order_105
  refine rv_iload h 23 dX0_order_23 3 rfl ?_
  refine rv_iconst h 25 dX0_order_25 rv_c1 ?_
  refine rv_isub h 26 dX0_order_26 ?_
  refine rv_iload h 27 dX0_order_27 4 rfl ?_
  refine rv_isub h 29 dX0_order_29 ?_
  refine rv_callSi h 30 dX0_order_30 (fn_X0_factorial hJ ((r1 - (1 : Int32)) - v8)  w9) ce_X0_factorial lk_X0_37 rfl rfl (Nat.le_of_ble_eq_true rfl) ⟨Nat.le_of_ble_eq_true rfl, Nat.le_of_ble_eq_true rfl⟩ (fun r10 w11 => ?_)
  refine rv_istore (lv' := [(7, .int r10), (2, .int v5), (3, .int v6), (4, .int v7), (5, .int r1), (6, .int v8)]) h 33 dX0_order_33 (by decide) rfl ?_
  refine rv_iconst h 35 dX0_order_35 rv_c0 ?_
  refine rv_istore (lv' := [(8, .int (0 : Int32)), (7, .int r10), (2, .int v5), (3, .int v6), (4, .int v7), (5, .int r1), (6, .int v8)]) h 36 dX0_order_36 (by decide) rfl ?_
  refine rv_sub h [2, 3, 4, 5, 6, 1, 0] rfl ?_
  refine rv_fx_ind (fun (a0 : Int32 → Int32 → rv_W → rv_R) => ∀ (v14 : Int32) (v15 : Int32) (w16 : rv_W), K 38 [(2, .int v5), (3, .int v6), (4, .int v14), (5, .int r1), (6, .int v8), (7, .int r10), (8, .int v15)] [] w16 (a0 v14 v15 w16)) (fun _ _ _ => rv_none h) (fun ag12 ih13 v14 v15 w16 => ?_) rv_FU v7 (0 : Int32) w11
  refine rv_iload h 38 dX0_order_38 6 rfl ?_
  refine rv_iconst h 40 dX0_order_40 rv_c5 ?_
  refine rv_icmp_ge (tgt := 98) h 41 dX0_order_41 (by decide) (fun _ => ?_) (fun _ => ?_)
  rotate_left
  · refine rv_iinc h 98 (fun v17 => [(6, .int v17), (2, .int v5), (3, .int v6), (4, .int v14), (5, .int r1), (7, .int r10), (8, .int v15)]) dX0_order_98 4 rfl rv_c1 (by decide) (fun _ => rfl) (fun v17 => ?_)
    refine rv_goto (tgt := 16) h 101 dX0_order_101 (by decide) ?_
    refine rv_sub h [1, 2, 3, 4, 0] rfl ?_
    exact ih4 v5 v6 v14 v17 w16
  refine rv_iload_n h 44 dX0_order_44 1 rfl ?_
  refine rv_iload h 45 dX0_order_45 6 rfl ?_
  refine rv_callSi h 47 dX0_order_47 (fn_X1_has hJ v6 v15  w16) ce_X1_has lk_X0_25 rfl rfl (Nat.le_of_ble_eq_true rfl) ⟨Nat.le_of_ble_eq_true rfl, Nat.le_of_ble_eq_true rfl⟩ (fun r18 w19 => ?_)
  refine rv_if_ne (tgt := 56) h 50 dX0_order_50 (by decide) (fun _ => ?_) (fun _ => ?_)
  · refine rv_goto (tgt := 92) h 53 dX0_order_53 (by decide) ?_
    refine rv_iinc h 92 (fun v26 => [(8, .int v26), (2, .int v5), (3, .int v6), (4, .int v14), (5, .int r1), (6, .int v8), (7, .int r10)]) dX0_order_92 6 rfl rv_c1 (by decide) (fun _ => rfl) (fun v26 => ?_)
    refine rv_goto (tgt := 38) h 95 dX0_order_95 (by decide) ?_
    refine rv_sub h [1, 2, 3, 4, 5, 6, 0] rfl ?_
    exact ih13 v14 v26 w19
  refine rv_iload h 56 dX0_order_56 2 rfl ?_
  refine rv_iload h 58 dX0_order_58 5 rfl ?_
  refine rv_icmp_ge (tgt := 85) h 60 dX0_order_60 (by decide) (fun _ => ?_) (fun _ => ?_)
  rotate_left
  · refine rv_iload h 85 dX0_order_85 2 rfl ?_
    refine rv_iload h 87 dX0_order_87 5 rfl ?_
    refine rv_isub h 89 dX0_order_89 ?_
    refine rv_top (fun v20 => ?_)
    refine rv_istore (lv' := [(4, .int v20), (2, .int v5), (3, .int v6), (5, .int r1), (6, .int v8), (7, .int r10), (8, .int v15)]) h 90 dX0_order_90 (by decide) rfl ?_
    refine rv_iinc h 92 (fun v21 => [(8, .int v21), (4, .int v20), (2, .int v5), (3, .int v6), (5, .int r1), (6, .int v8), (7, .int r10)]) dX0_order_92 6 rfl rv_c1 (by decide) (fun _ => rfl) (fun v21 => ?_)
    refine rv_goto (tgt := 38) h 95 dX0_order_95 (by decide) ?_
    refine rv_sub h [2, 3, 1, 4, 5, 6, 0] rfl ?_
    exact ih13 v20 v21 w19
  refine rv_iload_n h 63 dX0_order_63 0 rfl ?_
  refine rv_iload h 64 dX0_order_64 6 rfl ?_
  refine rv_iconst h 66 dX0_order_66 rv_c1 ?_
  refine rv_iadd h 67 dX0_order_67 ?_
  refine rv_iconst h 68 dX0_order_68 rv_c3 ?_
  refine rv_iload h 69 dX0_order_69 4 rfl ?_
  refine rv_imul h 71 dX0_order_71 ?_
  refine rv_ishl h 72 dX0_order_72 ?_
  refine rv_ior h 73 dX0_order_73 ?_
  refine rv_top (fun v22 => ?_)
  refine rv_istore_n (lv' := [(2, .int v22), (3, .int v6), (4, .int v14), (5, .int r1), (6, .int v8), (7, .int r10), (8, .int v15)]) h 74 dX0_order_74 (by decide) rfl ?_
  refine rv_iload_n h 75 dX0_order_75 1 rfl ?_
  refine rv_iload h 76 dX0_order_76 6 rfl ?_
  refine rv_callSi h 78 dX0_order_78 (fn_X1_without hJ v6 v15  w19) ce_X1_without lk_X0_40 rfl rfl (Nat.le_of_ble_eq_true rfl) ⟨Nat.le_of_ble_eq_true rfl, Nat.le_of_ble_eq_true rfl⟩ (fun r23 w24 => ?_)
  refine rv_istore_n (lv' := [(3, .int r23), (2, .int v22), (4, .int v14), (5, .int r1), (6, .int v8), (7, .int r10), (8, .int v15)]) h 81 dX0_order_81 (by decide) rfl ?_
  refine rv_goto (tgt := 98) h 82 dX0_order_82 (by decide) ?_
  refine rv_iinc h 98 (fun v25 => [(6, .int v25), (3, .int r23), (2, .int v22), (4, .int v14), (5, .int r1), (7, .int r10), (8, .int v15)]) dX0_order_98 4 rfl rv_c1 (by decide) (fun _ => rfl) (fun v25 => ?_)
  refine rv_goto (tgt := 16) h 101 dX0_order_101 (by decide) ?_
  refine rv_sub h [2, 1, 3, 4, 0] rfl ?_
  exact ih4 v22 r23 v14 v25 w24
def f_X1_lowest (p1 : Int32) (w : rv_W) : rv_R :=
  rv_fx (fun _ _ => none) (fun (ag1 : Int32 → rv_W → rv_R) (v3 : Int32) (w4 : rv_W) =>
  if v3 < (5 : Int32) then
  rv_bd (f_X1_has p1 v3 w4) (fun (r5 : Int32) (w6 : rv_W) =>
  if r5 = 0 then
  rv_lt (v3 + (1 : Int32)) (fun (v7 : Int32) =>
  ag1 v7 w6)
  else
  some (v3, w6))
  else
  some ((-1 : Int32), w4)) rv_FU (0 : Int32) w
set_option maxRecDepth 100000 in
set_option maxHeartbeats 4000000 in
theorem fn_X1_lowest {l : Launch} {D : va_G} {ad : Nat → Nat} {ca : Nat → ClassId} (hJ : rv_J ad) (p1 : Int32)  (w : rv_W) : rv_Fn l D ad ca yX1_lowest cX1_lowest 2 (some .int) 1 21 [.int p1] w (f_X1_lowest p1 w) := by
  refine rv_mk (lv := [(0, .int p1)]) hJ (by decide +kernel) (Nat.le_of_ble_eq_true rfl) rfl (fun K h hr => ?_)
  have h : rv_Rl D ad ca l RX1 cX1_lowest 2 1 21 K := h
  unfold f_X1_lowest
  refine rv_iconst h 0 dX1_lowest_0 rv_c0 ?_
  refine rv_istore_n (lv' := [(1, .int (0 : Int32)), (0, .int p1)]) h 1 dX1_lowest_1 (by decide) rfl ?_
  refine rv_sub h [1, 0] rfl ?_
  refine rv_fx_ind (fun (a0 : Int32 → rv_W → rv_R) => ∀ (v3 : Int32) (w4 : rv_W), K 2 [(0, .int p1), (1, .int v3)] [] w4 (a0 v3 w4)) (fun _ _ => rv_none h) (fun ag1 ih2 v3 w4 => ?_) rv_FU (0 : Int32) w
  refine rv_iload_n h 2 dX1_lowest_2 1 rfl ?_
  refine rv_iconst h 3 dX1_lowest_3 rv_c5 ?_
  refine rv_icmp_ge (tgt := 23) h 4 dX1_lowest_4 (by decide) (fun _ => ?_) (fun _ => ?_)
  rotate_left
  · refine rv_iconst h 23 dX1_lowest_23 rv_cm1 ?_
    exact rv_reti hr 24 dX1_lowest_24
  refine rv_iload_n h 7 dX1_lowest_7 0 rfl ?_
  refine rv_iload_n h 8 dX1_lowest_8 1 rfl ?_
  refine rv_callSi h 9 dX1_lowest_9 (fn_X1_has hJ p1 v3  w4) ce_X1_has lk_X1_9 rfl rfl (Nat.le_of_ble_eq_true rfl) ⟨Nat.le_of_ble_eq_true rfl, Nat.le_of_ble_eq_true rfl⟩ (fun r5 w6 => ?_)
  refine rv_if_eq (tgt := 17) h 12 dX1_lowest_12 (by decide) (fun _ => ?_) (fun _ => ?_)
  rotate_left
  · refine rv_iload_n h 15 dX1_lowest_15 1 rfl ?_
    exact rv_reti hr 16 dX1_lowest_16
  refine rv_iinc h 17 (fun v7 => [(1, .int v7), (0, .int p1)]) dX1_lowest_17 1 rfl rv_c1 (by decide) (fun _ => rfl) (fun v7 => ?_)
  refine rv_goto (tgt := 2) h 20 dX1_lowest_20 (by decide) ?_
  refine rv_sub h [1, 0] rfl ?_
  exact ih2 v7 w6
def f_X2_dominates (p2 : Int32) (w : rv_W) : rv_R :=
  rv_fx (fun _ _ => none) (fun (ag1 : Int32 → rv_W → rv_R) (v3 : Int32) (w4 : rv_W) =>
  if v3 < (5 : Int32) then
  rv_fx (fun _ _ => none) (fun (ag5 : Int32 → rv_W → rv_R) (v7 : Int32) (w8 : rv_W) =>
  if v7 < (5 : Int32) then
  rv_bd (f_X1_has p2 v3 w8) (fun (r10 : Int32) (w11 : rv_W) =>
  if r10 = 0 then
  rv_lt (v7 + (1 : Int32)) (fun (v12 : Int32) =>
  ag5 v12 w11)
  else
  rv_bd (f_X1_has ((w11 24 0) &&& (p2 ^^^ (-1 : Int32))) v7 w11) (fun (r13 : Int32) (w14 : rv_W) =>
  if r13 = 0 then
  rv_lt (v7 + (1 : Int32)) (fun (v15 : Int32) =>
  ag5 v15 w14)
  else
  rv_ck v3 5 (
  rv_ck v7 5 (
  rv_ck v7 5 (
  rv_ck v3 5 (
  if (w14 (26 + v7.toNatClampNeg) v3.toNatClampNeg) < (w14 (26 + v3.toNatClampNeg) v7.toNatClampNeg) then
  rv_lt (v7 + (1 : Int32)) (fun (v18 : Int32) =>
  ag5 v18 w14)
  else
  some ((0 : Int32), w14)))))))
  else
  rv_lt (v3 + (1 : Int32)) (fun (v9 : Int32) =>
  ag1 v9 w8)) rv_FU (0 : Int32) w4
  else
  some ((1 : Int32), w4)) rv_FU (0 : Int32) w
set_option maxRecDepth 100000 in
set_option maxHeartbeats 4000000 in
theorem fn_X2_dominates {l : Launch} {D : va_G} {ad : Nat → Nat} {ca : Nat → ClassId} (hJ : rv_J ad) (p2 : Int32)  (w : rv_W) : rv_Fn l D ad ca yX2_dominates cX2_dominates 5 (some .boolean) 1 21 [.ref (ad 66), .ref (ad 24), .int p2] w (f_X2_dominates p2 w) := by
  refine rv_mk (lv := [(0, .ref (ad 66)), (1, .ref (ad 24)), (2, .int p2)]) hJ (by decide +kernel) (Nat.le_of_ble_eq_true rfl) rfl (fun K h hr => ?_)
  have h : rv_Rl D ad ca l RX2 cX2_dominates 5 1 21 K := h
  unfold f_X2_dominates
  refine rv_iconst h 0 dX2_dominates_0 rv_c0 ?_
  refine rv_istore_n (lv' := [(3, .int (0 : Int32)), (0, .ref (ad 66)), (1, .ref (ad 24)), (2, .int p2)]) h 1 dX2_dominates_1 (by decide) rfl ?_
  refine rv_sub h [2, 3, 0] rfl ?_
  refine rv_fx_ind (fun (a0 : Int32 → rv_W → rv_R) => ∀ (v3 : Int32) (w4 : rv_W), K 2 [(1, .ref (ad 24)), (2, .int p2), (3, .int v3)] [] w4 (a0 v3 w4)) (fun _ _ => rv_none h) (fun ag1 ih2 v3 w4 => ?_) rv_FU (0 : Int32) w
  refine rv_iload_n h 2 dX2_dominates_2 2 rfl ?_
  refine rv_iconst h 3 dX2_dominates_3 rv_c5 ?_
  refine rv_icmp_ge (tgt := 75) h 4 dX2_dominates_4 (by decide) (fun _ => ?_) (fun _ => ?_)
  rotate_left
  · refine rv_iconst h 75 dX2_dominates_75 rv_c1 ?_
    exact rv_retz1 hr 76 dX2_dominates_76
  refine rv_iconst h 7 dX2_dominates_7 rv_c0 ?_
  refine rv_istore (lv' := [(4, .int (0 : Int32)), (1, .ref (ad 24)), (2, .int p2), (3, .int v3)]) h 8 dX2_dominates_8 (by decide) rfl ?_
  refine rv_sub h [1, 2, 3, 0] rfl ?_
  refine rv_fx_ind (fun (a0 : Int32 → rv_W → rv_R) => ∀ (v7 : Int32) (w8 : rv_W), K 10 [(1, .ref (ad 24)), (2, .int p2), (3, .int v3), (4, .int v7)] [] w8 (a0 v7 w8)) (fun _ _ => rv_none h) (fun ag5 ih6 v7 w8 => ?_) rv_FU (0 : Int32) w4
  refine rv_iload h 10 dX2_dominates_10 3 rfl ?_
  refine rv_iconst h 12 dX2_dominates_12 rv_c5 ?_
  refine rv_icmp_ge (tgt := 69) h 13 dX2_dominates_13 (by decide) (fun _ => ?_) (fun _ => ?_)
  rotate_left
  · refine rv_iinc h 69 (fun v9 => [(3, .int v9), (1, .ref (ad 24)), (2, .int p2), (4, .int v7)]) dX2_dominates_69 2 rfl rv_c1 (by decide) (fun _ => rfl) (fun v9 => ?_)
    refine rv_goto (tgt := 2) h 72 dX2_dominates_72 (by decide) ?_
    refine rv_sub h [1, 2, 0] rfl ?_
    exact ih2 v9 w8
  refine rv_iload_n h 16 dX2_dominates_16 1 rfl ?_
  refine rv_iload_n h 17 dX2_dominates_17 2 rfl ?_
  refine rv_callSi h 18 dX2_dominates_18 (fn_X1_has hJ p2 v3  w8) ce_X1_has lk_X2_29 rfl rfl (Nat.le_of_ble_eq_true rfl) ⟨Nat.le_of_ble_eq_true rfl, Nat.le_of_ble_eq_true rfl⟩ (fun r10 w11 => ?_)
  refine rv_if_eq (tgt := 63) h 21 dX2_dominates_21 (by decide) (fun _ => ?_) (fun _ => ?_)
  · refine rv_iinc h 63 (fun v12 => [(4, .int v12), (1, .ref (ad 24)), (2, .int p2), (3, .int v3)]) dX2_dominates_63 3 rfl rv_c1 (by decide) (fun _ => rfl) (fun v12 => ?_)
    refine rv_goto (tgt := 10) h 66 dX2_dominates_66 (by decide) ?_
    refine rv_sub h [1, 2, 3, 0] rfl ?_
    exact ih6 v12 w11
  refine rv_aload_n h 24 dX2_dominates_24 0 rfl ?_
  refine rv_geti h 25 dX2_dominates_25 rv_s24 rv_fd_X2_23 rfl ?_
  refine rv_iload_n h 28 dX2_dominates_28 1 rfl ?_
  refine rv_iconst h 29 dX2_dominates_29 rv_cm1 ?_
  refine rv_ixor h 30 dX2_dominates_30 ?_
  refine rv_iand h 31 dX2_dominates_31 ?_
  refine rv_iload h 32 dX2_dominates_32 3 rfl ?_
  refine rv_callSi h 34 dX2_dominates_34 (fn_X1_has hJ ((w11 24 0) &&& (p2 ^^^ (-1 : Int32))) v7  w11) ce_X1_has lk_X2_29 rfl rfl (Nat.le_of_ble_eq_true rfl) ⟨Nat.le_of_ble_eq_true rfl, Nat.le_of_ble_eq_true rfl⟩ (fun r13 w14 => ?_)
  refine rv_if_eq (tgt := 63) h 37 dX2_dominates_37 (by decide) (fun _ => ?_) (fun _ => ?_)
  · refine rv_iinc h 63 (fun v15 => [(4, .int v15), (1, .ref (ad 24)), (2, .int p2), (3, .int v3)]) dX2_dominates_63 3 rfl rv_c1 (by decide) (fun _ => rfl) (fun v15 => ?_)
    refine rv_goto (tgt := 10) h 66 dX2_dominates_66 (by decide) ?_
    refine rv_sub h [1, 2, 3, 0] rfl ?_
    exact ih6 v15 w14
  refine rv_aload_n h 40 dX2_dominates_40 0 rfl ?_
  refine rv_getr h 41 dX2_dominates_41 rv_s24 rv_fd_X2_49 rfl ?_
  refine rv_iload_n h 44 dX2_dominates_44 2 rfl ?_
  refine rv_aald h 45 dX2_dominates_45 rv_s25 (fun hi16 => ?_)
  refine rv_iload h 46 dX2_dominates_46 3 rfl ?_
  refine rv_iald h 48 dX2_dominates_48 (rv_row26 hi16) ?_
  refine rv_aload_n h 49 dX2_dominates_49 0 rfl ?_
  refine rv_getr h 50 dX2_dominates_50 rv_s24 rv_fd_X2_49 rfl ?_
  refine rv_iload h 53 dX2_dominates_53 3 rfl ?_
  refine rv_aald h 55 dX2_dominates_55 rv_s25 (fun hi17 => ?_)
  refine rv_iload_n h 56 dX2_dominates_56 2 rfl ?_
  refine rv_iald h 57 dX2_dominates_57 (rv_row26 hi17) ?_
  refine rv_icmp_gt (tgt := 63) h 58 dX2_dominates_58 (by decide) (fun _ => ?_) (fun _ => ?_)
  rotate_left
  · refine rv_iconst h 61 dX2_dominates_61 rv_c0 ?_
    exact rv_retz0 hr 62 dX2_dominates_62
  refine rv_iinc h 63 (fun v18 => [(4, .int v18), (1, .ref (ad 24)), (2, .int p2), (3, .int v3)]) dX2_dominates_63 3 rfl rv_c1 (by decide) (fun _ => rfl) (fun v18 => ?_)
  refine rv_goto (tgt := 10) h 66 dX2_dominates_66 (by decide) ?_
  refine rv_sub h [1, 2, 3, 0] rfl ?_
  exact ih6 v18 w14
def f_X2_champion  (w : rv_W) : rv_R :=
  rv_fx (fun _ _ => none) (fun (ag1 : Int32 → rv_W → rv_R) (v3 : Int32) (w4 : rv_W) =>
  if v3 < (5 : Int32) then
  rv_bd (f_X1_has (w4 24 0) v3 w4) (fun (r5 : Int32) (w6 : rv_W) =>
  if r5 = 0 then
  rv_lt (v3 + (1 : Int32)) (fun (v7 : Int32) =>
  ag1 v7 w6)
  else
  rv_bd (f_X2_dominates ((1 : Int32) <<< (v3 &&& 31)) w6) (fun (r8 : Int32) (w9 : rv_W) =>
  if r8 = 0 then
  rv_lt (v3 + (1 : Int32)) (fun (v10 : Int32) =>
  ag1 v10 w9)
  else
  some (v3, w9)))
  else
  some ((-1 : Int32), w4)) rv_FU (0 : Int32) w
set_option maxRecDepth 100000 in
set_option maxHeartbeats 4000000 in
theorem fn_X2_champion {l : Launch} {D : va_G} {ad : Nat → Nat} {ca : Nat → ClassId} (hJ : rv_J ad)   (w : rv_W) : rv_Fn l D ad ca yX2_champion cX2_champion 3 (some .int) 2 45 [.ref (ad 66), .ref (ad 24)] w (f_X2_champion  w) := by
  refine rv_mk (lv := [(0, .ref (ad 66)), (1, .ref (ad 24))]) hJ (by decide +kernel) (Nat.le_of_ble_eq_true rfl) rfl (fun K h hr => ?_)
  have h : rv_Rl D ad ca l RX2 cX2_champion 3 2 45 K := h
  unfold f_X2_champion
  refine rv_iconst h 0 dX2_champion_0 rv_c0 ?_
  refine rv_istore_n (lv' := [(2, .int (0 : Int32)), (0, .ref (ad 66)), (1, .ref (ad 24))]) h 1 dX2_champion_1 (by decide) rfl ?_
  refine rv_sub h [1, 2, 0] rfl ?_
  refine rv_fx_ind (fun (a0 : Int32 → rv_W → rv_R) => ∀ (v3 : Int32) (w4 : rv_W), K 2 [(0, .ref (ad 66)), (1, .ref (ad 24)), (2, .int v3)] [] w4 (a0 v3 w4)) (fun _ _ => rv_none h) (fun ag1 ih2 v3 w4 => ?_) rv_FU (0 : Int32) w
  refine rv_iload_n h 2 dX2_champion_2 2 rfl ?_
  refine rv_iconst h 3 dX2_champion_3 rv_c5 ?_
  refine rv_icmp_ge (tgt := 37) h 4 dX2_champion_4 (by decide) (fun _ => ?_) (fun _ => ?_)
  rotate_left
  · refine rv_iconst h 37 dX2_champion_37 rv_cm1 ?_
    exact rv_reti hr 38 dX2_champion_38
  refine rv_aload_n h 7 dX2_champion_7 1 rfl ?_
  refine rv_geti h 8 dX2_champion_8 rv_s24 rv_fd_X2_23 rfl ?_
  refine rv_iload_n h 11 dX2_champion_11 2 rfl ?_
  refine rv_callSi h 12 dX2_champion_12 (fn_X1_has hJ (w4 24 0) v3  w4) ce_X1_has lk_X2_29 rfl rfl (Nat.le_of_ble_eq_true rfl) ⟨Nat.le_of_ble_eq_true rfl, Nat.le_of_ble_eq_true rfl⟩ (fun r5 w6 => ?_)
  refine rv_if_eq (tgt := 31) h 15 dX2_champion_15 (by decide) (fun _ => ?_) (fun _ => ?_)
  · refine rv_iinc h 31 (fun v7 => [(2, .int v7), (0, .ref (ad 66)), (1, .ref (ad 24))]) dX2_champion_31 2 rfl rv_c1 (by decide) (fun _ => rfl) (fun v7 => ?_)
    refine rv_goto (tgt := 2) h 34 dX2_champion_34 (by decide) ?_
    refine rv_sub h [1, 2, 0] rfl ?_
    exact ih2 v7 w6
  refine rv_aload_n h 18 dX2_champion_18 0 rfl ?_
  refine rv_aload_n h 19 dX2_champion_19 1 rfl ?_
  refine rv_iconst h 20 dX2_champion_20 rv_c1 ?_
  refine rv_iload_n h 21 dX2_champion_21 2 rfl ?_
  refine rv_ishl h 22 dX2_champion_22 ?_
  refine rv_callVi h 23 dX2_champion_23 (fn_X2_dominates hJ ((1 : Int32) <<< (v3 &&& 31))  w6) ce_X2_dominates lk_X2_35 rv_s66 rfl rv_cf0 rfl rfl (Nat.le_of_ble_eq_true rfl) ⟨Nat.le_of_ble_eq_true rfl, Nat.le_of_ble_eq_true rfl⟩ (fun r8 w9 => ?_)
  refine rv_if_eq (tgt := 31) h 26 dX2_champion_26 (by decide) (fun _ => ?_) (fun _ => ?_)
  rotate_left
  · refine rv_iload_n h 29 dX2_champion_29 2 rfl ?_
    exact rv_reti hr 30 dX2_champion_30
  refine rv_iinc h 31 (fun v10 => [(2, .int v10), (0, .ref (ad 66)), (1, .ref (ad 24))]) dX2_champion_31 2 rfl rv_c1 (by decide) (fun _ => rfl) (fun v10 => ?_)
  refine rv_goto (tgt := 2) h 34 dX2_champion_34 (by decide) ?_
  refine rv_sub h [1, 2, 0] rfl ?_
  exact ih2 v10 w9
def f_X2_loser  (w : rv_W) : rv_R :=
  rv_fx (fun _ _ => none) (fun (ag1 : Int32 → rv_W → rv_R) (v3 : Int32) (w4 : rv_W) =>
  if v3 < (5 : Int32) then
  rv_bd (f_X1_without (w4 24 0) v3 w4) (fun (r5 : Int32) (w6 : rv_W) =>
  rv_bd (f_X1_has (w6 24 0) v3 w6) (fun (r7 : Int32) (w8 : rv_W) =>
  if r7 = 0 then
  rv_lt (v3 + (1 : Int32)) (fun (v9 : Int32) =>
  ag1 v9 w8)
  else
  if r5 = 0 then
  rv_lt (v3 + (1 : Int32)) (fun (v10 : Int32) =>
  ag1 v10 w8)
  else
  rv_bd (f_X2_dominates r5 w8) (fun (r11 : Int32) (w12 : rv_W) =>
  if r11 = 0 then
  rv_lt (v3 + (1 : Int32)) (fun (v13 : Int32) =>
  ag1 v13 w12)
  else
  some (v3, w12))))
  else
  some ((-1 : Int32), w4)) rv_FU (0 : Int32) w
set_option maxRecDepth 100000 in
set_option maxHeartbeats 4000000 in
theorem fn_X2_loser {l : Launch} {D : va_G} {ad : Nat → Nat} {ca : Nat → ClassId} (hJ : rv_J ad)   (w : rv_W) : rv_Fn l D ad ca yX2_loser cX2_loser 4 (some .int) 2 45 [.ref (ad 66), .ref (ad 24)] w (f_X2_loser  w) := by
  refine rv_mk (lv := [(0, .ref (ad 66)), (1, .ref (ad 24))]) hJ (by decide +kernel) (Nat.le_of_ble_eq_true rfl) rfl (fun K h hr => ?_)
  have h : rv_Rl D ad ca l RX2 cX2_loser 4 2 45 K := h
  unfold f_X2_loser
  refine rv_iconst h 0 dX2_loser_0 rv_c0 ?_
  refine rv_istore_n (lv' := [(2, .int (0 : Int32)), (0, .ref (ad 66)), (1, .ref (ad 24))]) h 1 dX2_loser_1 (by decide) rfl ?_
  refine rv_sub h [1, 2, 0] rfl ?_
  refine rv_fx_ind (fun (a0 : Int32 → rv_W → rv_R) => ∀ (v3 : Int32) (w4 : rv_W), K 2 [(0, .ref (ad 66)), (1, .ref (ad 24)), (2, .int v3)] [] w4 (a0 v3 w4)) (fun _ _ => rv_none h) (fun ag1 ih2 v3 w4 => ?_) rv_FU (0 : Int32) w
  refine rv_iload_n h 2 dX2_loser_2 2 rfl ?_
  refine rv_iconst h 3 dX2_loser_3 rv_c5 ?_
  refine rv_icmp_ge (tgt := 48) h 4 dX2_loser_4 (by decide) (fun _ => ?_) (fun _ => ?_)
  rotate_left
  · refine rv_iconst h 48 dX2_loser_48 rv_cm1 ?_
    exact rv_reti hr 49 dX2_loser_49
  refine rv_aload_n h 7 dX2_loser_7 1 rfl ?_
  refine rv_geti h 8 dX2_loser_8 rv_s24 rv_fd_X2_23 rfl ?_
  refine rv_iload_n h 11 dX2_loser_11 2 rfl ?_
  refine rv_callSi h 12 dX2_loser_12 (fn_X1_without hJ (w4 24 0) v3  w4) ce_X1_without lk_X2_39 rfl rfl (Nat.le_of_ble_eq_true rfl) ⟨Nat.le_of_ble_eq_true rfl, Nat.le_of_ble_eq_true rfl⟩ (fun r5 w6 => ?_)
  refine rv_istore_n (lv' := [(3, .int r5), (0, .ref (ad 66)), (1, .ref (ad 24)), (2, .int v3)]) h 15 dX2_loser_15 (by decide) rfl ?_
  refine rv_aload_n h 16 dX2_loser_16 2 rfl ?_
  refine rv_geti h 17 dX2_loser_17 rv_s24 rv_fd_X2_23 rfl ?_
  refine rv_iload_n h 20 dX2_loser_20 3 rfl ?_
  refine rv_callSi h 21 dX2_loser_21 (fn_X1_has hJ (w6 24 0) v3  w6) ce_X1_has lk_X2_29 rfl rfl (Nat.le_of_ble_eq_true rfl) ⟨Nat.le_of_ble_eq_true rfl, Nat.le_of_ble_eq_true rfl⟩ (fun r7 w8 => ?_)
  refine rv_if_eq (tgt := 42) h 24 dX2_loser_24 (by decide) (fun _ => ?_) (fun _ => ?_)
  · refine rv_iinc h 42 (fun v9 => [(2, .int v9), (3, .int r5), (0, .ref (ad 66)), (1, .ref (ad 24))]) dX2_loser_42 3 rfl rv_c1 (by decide) (fun _ => rfl) (fun v9 => ?_)
    refine rv_goto (tgt := 2) h 45 dX2_loser_45 (by decide) ?_
    refine rv_sub h [2, 3, 0] rfl ?_
    exact ih2 v9 w8
  refine rv_iload_n h 27 dX2_loser_27 0 rfl ?_
  refine rv_if_eq (tgt := 42) h 28 dX2_loser_28 (by decide) (fun _ => ?_) (fun _ => ?_)
  · refine rv_iinc h 42 (fun v10 => [(2, .int v10), (3, .int r5), (0, .ref (ad 66)), (1, .ref (ad 24))]) dX2_loser_42 3 rfl rv_c1 (by decide) (fun _ => rfl) (fun v10 => ?_)
    refine rv_goto (tgt := 2) h 45 dX2_loser_45 (by decide) ?_
    refine rv_sub h [2, 3, 0] rfl ?_
    exact ih2 v10 w8
  refine rv_aload_n h 31 dX2_loser_31 1 rfl ?_
  refine rv_aload_n h 32 dX2_loser_32 2 rfl ?_
  refine rv_iload_n h 33 dX2_loser_33 0 rfl ?_
  refine rv_callVi h 34 dX2_loser_34 (fn_X2_dominates hJ r5  w8) ce_X2_dominates lk_X2_35 rv_s66 rfl rv_cf0 rfl rfl (Nat.le_of_ble_eq_true rfl) ⟨Nat.le_of_ble_eq_true rfl, Nat.le_of_ble_eq_true rfl⟩ (fun r11 w12 => ?_)
  refine rv_if_eq (tgt := 42) h 37 dX2_loser_37 (by decide) (fun _ => ?_) (fun _ => ?_)
  rotate_left
  · refine rv_iload_n h 40 dX2_loser_40 3 rfl ?_
    exact rv_reti hr 41 dX2_loser_41
  refine rv_iinc h 42 (fun v13 => [(2, .int v13), (3, .int r5), (0, .ref (ad 66)), (1, .ref (ad 24))]) dX2_loser_42 3 rfl rv_c1 (by decide) (fun _ => rfl) (fun v13 => ?_)
  refine rv_goto (tgt := 2) h 45 dX2_loser_45 (by decide) ?_
  refine rv_sub h [2, 3, 0] rfl ?_
  exact ih2 v13 w12
def f_X2_smithSet  (w : rv_W) : rv_R :=
  rv_fx (fun _ _ _ => none) (fun (ag1 : Int32 → Int32 → rv_W → rv_R) (v3 : Int32) (v4 : Int32) (w5 : rv_W) =>
  if v4 < (31 : Int32) then
  if (v4 &&& ((w5 24 0) ^^^ (-1 : Int32))) = 0 then
  rv_bd (f_X2_dominates v4 w5) (fun (r7 : Int32) (w8 : rv_W) =>
  if r7 = 0 then
  rv_lt (v4 + (1 : Int32)) (fun (v9 : Int32) =>
  ag1 v3 v9 w8)
  else
  rv_bd (f_J6_bitCount_0f7a4 v4 w8) (fun (r10 : Int32) (w11 : rv_W) =>
  rv_bd (f_J6_bitCount_0f7a4 v3 w11) (fun (r12 : Int32) (w13 : rv_W) =>
  if r10 < r12 then
  rv_lt (v4 + (1 : Int32)) (fun (v15 : Int32) =>
  ag1 v4 v15 w13)
  else
  rv_lt (v4 + (1 : Int32)) (fun (v14 : Int32) =>
  ag1 v3 v14 w13))))
  else
  rv_lt (v4 + (1 : Int32)) (fun (v6 : Int32) =>
  ag1 v3 v6 w5)
  else
  some (v3, w5)) rv_FU (w 24 0) (1 : Int32) w
set_option maxRecDepth 100000 in
set_option maxHeartbeats 4000000 in
theorem fn_X2_smithSet {l : Launch} {D : va_G} {ad : Nat → Nat} {ca : Nat → ClassId} (hJ : rv_J ad)   (w : rv_W) : rv_Fn l D ad ca yX2_smithSet cX2_smithSet 4 (some .int) 2 45 [.ref (ad 66), .ref (ad 24)] w (f_X2_smithSet  w) := by
  refine rv_mk (lv := [(0, .ref (ad 66)), (1, .ref (ad 24))]) hJ (by decide +kernel) (Nat.le_of_ble_eq_true rfl) rfl (fun K h hr => ?_)
  have h : rv_Rl D ad ca l RX2 cX2_smithSet 4 2 45 K := h
  unfold f_X2_smithSet
  refine rv_aload_n h 0 dX2_smithSet_0 1 rfl ?_
  refine rv_geti h 1 dX2_smithSet_1 rv_s24 rv_fd_X2_23 rfl ?_
  refine rv_istore_n (lv' := [(2, .int (w 24 0)), (0, .ref (ad 66)), (1, .ref (ad 24))]) h 4 dX2_smithSet_4 (by decide) rfl ?_
  refine rv_iconst h 5 dX2_smithSet_5 rv_c1 ?_
  refine rv_istore_n (lv' := [(3, .int (1 : Int32)), (2, .int (w 24 0)), (0, .ref (ad 66)), (1, .ref (ad 24))]) h 6 dX2_smithSet_6 (by decide) rfl ?_
  refine rv_sub h [2, 3, 1, 0] rfl ?_
  refine rv_fx_ind (fun (a0 : Int32 → Int32 → rv_W → rv_R) => ∀ (v3 : Int32) (v4 : Int32) (w5 : rv_W), K 7 [(0, .ref (ad 66)), (1, .ref (ad 24)), (2, .int v3), (3, .int v4)] [] w5 (a0 v3 v4 w5)) (fun _ _ _ => rv_none h) (fun ag1 ih2 v3 v4 w5 => ?_) rv_FU (w 24 0) (1 : Int32) w
  refine rv_iload_n h 7 dX2_smithSet_7 3 rfl ?_
  refine rv_bipush (v := 31) h 8 dX2_smithSet_8 (by decide +kernel) ?_
  refine rv_icmp_ge (tgt := 52) h 10 dX2_smithSet_10 (by decide) (fun _ => ?_) (fun _ => ?_)
  rotate_left
  · refine rv_iload_n h 52 dX2_smithSet_52 2 rfl ?_
    exact rv_reti hr 53 dX2_smithSet_53
  refine rv_iload_n h 13 dX2_smithSet_13 3 rfl ?_
  refine rv_aload_n h 14 dX2_smithSet_14 1 rfl ?_
  refine rv_geti h 15 dX2_smithSet_15 rv_s24 rv_fd_X2_23 rfl ?_
  refine rv_iconst h 18 dX2_smithSet_18 rv_cm1 ?_
  refine rv_ixor h 19 dX2_smithSet_19 ?_
  refine rv_iand h 20 dX2_smithSet_20 ?_
  refine rv_if_ne (tgt := 46) h 21 dX2_smithSet_21 (by decide) (fun _ => ?_) (fun _ => ?_)
  rotate_left
  · refine rv_iinc h 46 (fun v6 => [(3, .int v6), (0, .ref (ad 66)), (1, .ref (ad 24)), (2, .int v3)]) dX2_smithSet_46 3 rfl rv_c1 (by decide) (fun _ => rfl) (fun v6 => ?_)
    refine rv_goto (tgt := 7) h 49 dX2_smithSet_49 (by decide) ?_
    refine rv_sub h [1, 2, 3, 0] rfl ?_
    exact ih2 v3 v6 w5
  refine rv_aload_n h 24 dX2_smithSet_24 0 rfl ?_
  refine rv_aload_n h 25 dX2_smithSet_25 1 rfl ?_
  refine rv_iload_n h 26 dX2_smithSet_26 3 rfl ?_
  refine rv_callVi h 27 dX2_smithSet_27 (fn_X2_dominates hJ v4  w5) ce_X2_dominates lk_X2_35 rv_s66 rfl rv_cf0 rfl rfl (Nat.le_of_ble_eq_true rfl) ⟨Nat.le_of_ble_eq_true rfl, Nat.le_of_ble_eq_true rfl⟩ (fun r7 w8 => ?_)
  refine rv_if_eq (tgt := 46) h 30 dX2_smithSet_30 (by decide) (fun _ => ?_) (fun _ => ?_)
  · refine rv_iinc h 46 (fun v9 => [(3, .int v9), (0, .ref (ad 66)), (1, .ref (ad 24)), (2, .int v3)]) dX2_smithSet_46 3 rfl rv_c1 (by decide) (fun _ => rfl) (fun v9 => ?_)
    refine rv_goto (tgt := 7) h 49 dX2_smithSet_49 (by decide) ?_
    refine rv_sub h [1, 2, 3, 0] rfl ?_
    exact ih2 v3 v9 w8
  refine rv_iload_n h 33 dX2_smithSet_33 3 rfl ?_
  refine rv_callSi h 34 dX2_smithSet_34 (fn_J6_bitCount_0f7a4 hJ v4  w8) ce_J6_bitCount_0f7a4 lk_X2_43 rfl rfl (Nat.le_of_ble_eq_true rfl) ⟨Nat.le_of_ble_eq_true rfl, Nat.le_of_ble_eq_true rfl⟩ (fun r10 w11 => ?_)
  refine rv_iload_n h 37 dX2_smithSet_37 2 rfl ?_
  refine rv_callSi h 38 dX2_smithSet_38 (fn_J6_bitCount_0f7a4 hJ v3  w11) ce_J6_bitCount_0f7a4 lk_X2_43 rfl rfl (Nat.le_of_ble_eq_true rfl) ⟨Nat.le_of_ble_eq_true rfl, Nat.le_of_ble_eq_true rfl⟩ (fun r12 w13 => ?_)
  refine rv_icmp_ge (tgt := 46) h 41 dX2_smithSet_41 (by decide) (fun _ => ?_) (fun _ => ?_)
  rotate_left
  · refine rv_iinc h 46 (fun v14 => [(3, .int v14), (0, .ref (ad 66)), (1, .ref (ad 24)), (2, .int v3)]) dX2_smithSet_46 3 rfl rv_c1 (by decide) (fun _ => rfl) (fun v14 => ?_)
    refine rv_goto (tgt := 7) h 49 dX2_smithSet_49 (by decide) ?_
    refine rv_sub h [1, 2, 3, 0] rfl ?_
    exact ih2 v3 v14 w13
  refine rv_iload_n h 44 dX2_smithSet_44 3 rfl ?_
  refine rv_istore_n (lv' := [(2, .int v4), (0, .ref (ad 66)), (1, .ref (ad 24)), (3, .int v4)]) h 45 dX2_smithSet_45 (by decide) rfl ?_
  refine rv_iinc h 46 (fun v15 => [(3, .int v15), (2, .int v4), (0, .ref (ad 66)), (1, .ref (ad 24))]) dX2_smithSet_46 3 rfl rv_c1 (by decide) (fun _ => rfl) (fun v15 => ?_)
  refine rv_goto (tgt := 7) h 49 dX2_smithSet_49 (by decide) ?_
  refine rv_sub h [2, 3, 1, 0] rfl ?_
  exact ih2 v4 v15 w13
def f_X2_strengthOf (p1 : Int32) (p2 : Int32) (w : rv_W) : rv_R :=
  rv_bd (f_X1_exists p1 w) (fun (r1 : Int32) (w2 : rv_W) =>
  if r1 = 0 then
  some ((0 : Int32), w2)
  else
  rv_bd (f_X1_exists p2 w2) (fun (r3 : Int32) (w4 : rv_W) =>
  if r3 = 0 then
  some ((0 : Int32), w4)
  else
  rv_ck p1 5 (
  rv_ck p2 5 (
  some ((w4 (68 + p1.toNatClampNeg) p2.toNatClampNeg), w4)))))
set_option maxRecDepth 100000 in
set_option maxHeartbeats 4000000 in
theorem fn_X2_strengthOf {l : Launch} {D : va_G} {ad : Nat → Nat} {ca : Nat → ClassId} (hJ : rv_J ad) (p1 : Int32) (p2 : Int32)  (w : rv_W) : rv_Fn l D ad ca yX2_strengthOf cX2_strengthOf 3 (some .int) 1 20 [.ref (ad 66), .int p1, .int p2] w (f_X2_strengthOf p1 p2 w) := by
  refine rv_mk (lv := [(0, .ref (ad 66)), (1, .int p1), (2, .int p2)]) hJ (by decide +kernel) (Nat.le_of_ble_eq_true rfl) rfl (fun K h hr => ?_)
  have h : rv_Rl D ad ca l RX2 cX2_strengthOf 3 1 20 K := h
  unfold f_X2_strengthOf
  refine rv_iload_n h 0 dX2_strengthOf_0 1 rfl ?_
  refine rv_callSi h 1 dX2_strengthOf_1 (fn_X1_exists hJ p1  w) ce_X1_exists lk_X2_52 rfl rfl (Nat.le_of_ble_eq_true rfl) ⟨Nat.le_of_ble_eq_true rfl, Nat.le_of_ble_eq_true rfl⟩ (fun r1 w2 => ?_)
  refine rv_if_eq (tgt := 25) h 4 dX2_strengthOf_4 (by decide) (fun _ => ?_) (fun _ => ?_)
  · refine rv_iconst h 25 dX2_strengthOf_25 rv_c0 ?_
    exact rv_reti hr 26 dX2_strengthOf_26
  refine rv_iload_n h 7 dX2_strengthOf_7 2 rfl ?_
  refine rv_callSi h 8 dX2_strengthOf_8 (fn_X1_exists hJ p2  w2) ce_X1_exists lk_X2_52 rfl rfl (Nat.le_of_ble_eq_true rfl) ⟨Nat.le_of_ble_eq_true rfl, Nat.le_of_ble_eq_true rfl⟩ (fun r3 w4 => ?_)
  refine rv_if_eq (tgt := 25) h 11 dX2_strengthOf_11 (by decide) (fun _ => ?_) (fun _ => ?_)
  · refine rv_iconst h 25 dX2_strengthOf_25 rv_c0 ?_
    exact rv_reti hr 26 dX2_strengthOf_26
  refine rv_aload_n h 14 dX2_strengthOf_14 0 rfl ?_
  refine rv_getr h 15 dX2_strengthOf_15 rv_s66 rv_fd_X2_11 rfl ?_
  refine rv_iload_n h 18 dX2_strengthOf_18 1 rfl ?_
  refine rv_aald h 19 dX2_strengthOf_19 rv_s67 (fun hi5 => ?_)
  refine rv_iload_n h 20 dX2_strengthOf_20 2 rfl ?_
  refine rv_iald h 21 dX2_strengthOf_21 (rv_row68 hi5) ?_
  refine rv_goto (tgt := 26) h 22 dX2_strengthOf_22 (by decide) ?_
  exact rv_reti hr 26 dX2_strengthOf_26
def f_X2_findStrengths  (w : rv_W) : rv_R :=
  rv_fx (fun _ _ => none) (fun (ag1 : Int32 → rv_W → rv_R) (v3 : Int32) (w4 : rv_W) =>
  if v3 < (5 : Int32) then
  rv_fx (fun _ _ => none) (fun (ag26 : Int32 → rv_W → rv_R) (v28 : Int32) (w29 : rv_W) =>
  if v28 < (5 : Int32) then
  rv_ck v3 5 (
  rv_ck v28 5 (
  rv_ck v3 5 (
  rv_ck v28 5 (
  rv_ck v3 5 (
  rv_jn (fun (v34 : Int32) (w35 : rv_W) =>
  rv_ck v28 5 (rv_lt (rv_up w35 (68 + v3.toNatClampNeg) v28.toNatClampNeg v34) (fun (w38 : rv_W) =>
  rv_lt (v28 + (1 : Int32)) (fun (v39 : Int32) =>
  ag26 v39 w38)))) (fun (k36 : Int32 → rv_W → rv_R) =>
  if (w29 (26 + v28.toNatClampNeg) v3.toNatClampNeg) < (w29 (26 + v3.toNatClampNeg) v28.toNatClampNeg) then
  k36 (w29 (26 + v3.toNatClampNeg) v28.toNatClampNeg) w29
  else
  k36 (0 : Int32) w29))))))
  else
  rv_lt (v3 + (1 : Int32)) (fun (v30 : Int32) =>
  ag1 v30 w29)) rv_FU (0 : Int32) w4
  else
  rv_fx (fun _ _ => none) (fun (ag5 : Int32 → rv_W → rv_R) (v7 : Int32) (w8 : rv_W) =>
  if v7 < (5 : Int32) then
  rv_fx (fun _ _ => none) (fun (ag9 : Int32 → rv_W → rv_R) (v11 : Int32) (w12 : rv_W) =>
  if v11 < (5 : Int32) then
  rv_fx (fun _ _ => none) (fun (ag14 : Int32 → rv_W → rv_R) (v16 : Int32) (w17 : rv_W) =>
  if v16 < (5 : Int32) then
  rv_ck v11 5 (
  rv_ck v7 5 (
  rv_ck v7 5 (
  rv_ck v16 5 (
  rv_lt ((if (w17 (68 + v7.toNatClampNeg) v16.toNatClampNeg) < (w17 (68 + v11.toNatClampNeg) v7.toNatClampNeg) then (w17 (68 + v7.toNatClampNeg) v16.toNatClampNeg) else (w17 (68 + v11.toNatClampNeg) v7.toNatClampNeg))) (fun (v21 : Int32) =>
  rv_ck v11 5 (
  rv_ck v11 5 (
  rv_ck v16 5 (
  rv_ck v16 5 (rv_lt (rv_up w17 (68 + v11.toNatClampNeg) v16.toNatClampNeg (if (w17 (68 + v11.toNatClampNeg) v16.toNatClampNeg) < v21 then v21 else (w17 (68 + v11.toNatClampNeg) v16.toNatClampNeg))) (fun (w24 : rv_W) =>
  rv_lt (v16 + (1 : Int32)) (fun (v25 : Int32) =>
  ag14 v25 w24)))))))))))
  else
  rv_lt (v11 + (1 : Int32)) (fun (v18 : Int32) =>
  ag9 v18 w17)) rv_FU (0 : Int32) w12
  else
  rv_lt (v7 + (1 : Int32)) (fun (v13 : Int32) =>
  ag5 v13 w12)) rv_FU (0 : Int32) w8
  else
  some (0, w8)) rv_FU (0 : Int32) w4) rv_FU (0 : Int32) w
set_option maxRecDepth 100000 in
set_option maxHeartbeats 4000000 in
theorem fn_X2_findStrengths {l : Launch} {D : va_G} {ad : Nat → Nat} {ca : Nat → ClassId} (hJ : rv_J ad)   (w : rv_W) : rv_Fn l D ad ca yX2_findStrengths cX2_findStrengths 6 none 1 21 [.ref (ad 66), .ref (ad 24)] w (f_X2_findStrengths  w) := by
  refine rv_mk (lv := [(0, .ref (ad 66)), (1, .ref (ad 24))]) hJ (by decide +kernel) (Nat.le_of_ble_eq_true rfl) rfl (fun K h hr => ?_)
  have h : rv_Rl D ad ca l RX2 cX2_findStrengths 6 1 21 K := h
  unfold f_X2_findStrengths
  refine rv_iconst h 0 dX2_findStrengths_0 rv_c0 ?_
  refine rv_istore_n (lv' := [(2, .int (0 : Int32)), (0, .ref (ad 66)), (1, .ref (ad 24))]) h 1 dX2_findStrengths_1 (by decide) rfl ?_
  refine rv_sub h [1, 2, 0] rfl ?_
  refine rv_fx_ind (fun (a0 : Int32 → rv_W → rv_R) => ∀ (v3 : Int32) (w4 : rv_W), K 2 [(0, .ref (ad 66)), (1, .ref (ad 24)), (2, .int v3)] [] w4 (a0 v3 w4)) (fun _ _ => rv_none h) (fun ag1 ih2 v3 w4 => ?_) rv_FU (0 : Int32) w
  refine rv_iload_n h 2 dX2_findStrengths_2 2 rfl ?_
  refine rv_iconst h 3 dX2_findStrengths_3 rv_c5 ?_
  refine rv_icmp_ge (tgt := 63) h 4 dX2_findStrengths_4 (by decide) (fun _ => ?_) (fun _ => ?_)
  · refine rv_iconst h 7 dX2_findStrengths_7 rv_c0 ?_
    refine rv_istore_n (lv' := [(3, .int (0 : Int32)), (0, .ref (ad 66)), (1, .ref (ad 24)), (2, .int v3)]) h 8 dX2_findStrengths_8 (by decide) rfl ?_
    refine rv_sub h [1, 2, 3, 0] rfl ?_
    refine rv_fx_ind (fun (a0 : Int32 → rv_W → rv_R) => ∀ (v28 : Int32) (w29 : rv_W), K 9 [(0, .ref (ad 66)), (1, .ref (ad 24)), (2, .int v3), (3, .int v28)] [] w29 (a0 v28 w29)) (fun _ _ => rv_none h) (fun ag26 ih27 v28 w29 => ?_) rv_FU (0 : Int32) w4
    refine rv_iload_n h 9 dX2_findStrengths_9 3 rfl ?_
    refine rv_iconst h 10 dX2_findStrengths_10 rv_c5 ?_
    refine rv_icmp_ge (tgt := 57) h 11 dX2_findStrengths_11 (by decide) (fun _ => ?_) (fun _ => ?_)
    rotate_left
    · refine rv_iinc h 57 (fun v30 => [(2, .int v30), (0, .ref (ad 66)), (1, .ref (ad 24)), (3, .int v28)]) dX2_findStrengths_57 2 rfl rv_c1 (by decide) (fun _ => rfl) (fun v30 => ?_)
      refine rv_goto (tgt := 2) h 60 dX2_findStrengths_60 (by decide) ?_
      refine rv_sub h [1, 2, 0] rfl ?_
      exact ih2 v30 w29
    refine rv_aload_n h 14 dX2_findStrengths_14 1 rfl ?_
    refine rv_getr h 15 dX2_findStrengths_15 rv_s24 rv_fd_X2_49 rfl ?_
    refine rv_iload_n h 18 dX2_findStrengths_18 2 rfl ?_
    refine rv_aald h 19 dX2_findStrengths_19 rv_s25 (fun hi31 => ?_)
    refine rv_iload_n h 20 dX2_findStrengths_20 3 rfl ?_
    refine rv_iald h 21 dX2_findStrengths_21 (rv_row26 hi31) ?_
    refine rv_istore (lv' := [(4, .int (w29 (26 + v3.toNatClampNeg) v28.toNatClampNeg)), (0, .ref (ad 66)), (1, .ref (ad 24)), (2, .int v3), (3, .int v28)]) h 22 dX2_findStrengths_22 (by decide) rfl ?_
    refine rv_aload_n h 24 dX2_findStrengths_24 1 rfl ?_
    refine rv_getr h 25 dX2_findStrengths_25 rv_s66 rv_fd_X2_11 rfl ?_
    refine rv_iload_n h 28 dX2_findStrengths_28 3 rfl ?_
    refine rv_aald h 29 dX2_findStrengths_29 rv_s67 (fun hi32 => ?_)
    refine rv_iload_n h 30 dX2_findStrengths_30 4 rfl ?_
    refine rv_iload h 31 dX2_findStrengths_31 0 rfl ?_
    refine rv_aload_n h 33 dX2_findStrengths_33 2 rfl ?_
    refine rv_getr h 34 dX2_findStrengths_34 rv_s24 rv_fd_X2_49 rfl ?_
    refine rv_iload_n h 37 dX2_findStrengths_37 4 rfl ?_
    refine rv_aald h 38 dX2_findStrengths_38 rv_s25 (fun hi33 => ?_)
    refine rv_iload_n h 39 dX2_findStrengths_39 3 rfl ?_
    refine rv_iald h 40 dX2_findStrengths_40 (rv_row26 hi33) ?_
    refine rv_join (fun (k0 : Int32 → rv_W → rv_R) => ∀ (v34 : Int32) (w35 : rv_W), K 50 [(0, .ref (ad 66)), (1, .ref (ad 24)), (2, .int v3), (3, .int v28)] (.int v34 :: .int v28 :: .ref (ad (68 + v3.toNatClampNeg)) :: []) w35 (k0 v34 w35)) (fun v34 w35 => ?_) (fun k36 hk37 => ?_)
    · refine rv_iast h 50 dX2_findStrengths_50 (rv_row68 hi32) (fun w38 => ?_)
      refine rv_iinc h 51 (fun v39 => [(3, .int v39), (0, .ref (ad 66)), (1, .ref (ad 24)), (2, .int v3)]) dX2_findStrengths_51 3 rfl rv_c1 (by decide) (fun _ => rfl) (fun v39 => ?_)
      refine rv_goto (tgt := 9) h 54 dX2_findStrengths_54 (by decide) ?_
      refine rv_sub h [1, 2, 3, 0] rfl ?_
      exact ih27 v39 w38
    refine rv_icmp_le (tgt := 49) h 41 dX2_findStrengths_41 (by decide) (fun _ => ?_) (fun _ => ?_)
    rotate_left
    · refine rv_iconst h 49 dX2_findStrengths_49 rv_c0 ?_
      refine rv_sub h [1, 2, 3, 4] rfl ?_
      exact hk37 (0 : Int32) w29
    refine rv_iload h 44 dX2_findStrengths_44 0 rfl ?_
    refine rv_goto (tgt := 50) h 46 dX2_findStrengths_46 (by decide) ?_
    refine rv_sub h [1, 2, 3, 4] rfl ?_
    exact hk37 (w29 (26 + v3.toNatClampNeg) v28.toNatClampNeg) w29
  refine rv_iconst h 63 dX2_findStrengths_63 rv_c0 ?_
  refine rv_istore_n (lv' := [(2, .int (0 : Int32)), (0, .ref (ad 66)), (1, .ref (ad 24))]) h 64 dX2_findStrengths_64 (by decide) rfl ?_
  refine rv_sub h [1, 0] rfl ?_
  refine rv_fx_ind (fun (a0 : Int32 → rv_W → rv_R) => ∀ (v7 : Int32) (w8 : rv_W), K 65 [(0, .ref (ad 66)), (2, .int v7)] [] w8 (a0 v7 w8)) (fun _ _ => rv_none h) (fun ag5 ih6 v7 w8 => ?_) rv_FU (0 : Int32) w4
  refine rv_iload_n h 65 dX2_findStrengths_65 1 rfl ?_
  refine rv_iconst h 66 dX2_findStrengths_66 rv_c5 ?_
  refine rv_icmp_ge (tgt := 149) h 67 dX2_findStrengths_67 (by decide) (fun _ => ?_) (fun _ => ?_)
  rotate_left
  · exact rv_retv hr 149 dX2_findStrengths_149
  refine rv_iconst h 70 dX2_findStrengths_70 rv_c0 ?_
  refine rv_istore_n (lv' := [(3, .int (0 : Int32)), (0, .ref (ad 66)), (2, .int v7)]) h 71 dX2_findStrengths_71 (by decide) rfl ?_
  refine rv_sub h [1, 2, 0] rfl ?_
  refine rv_fx_ind (fun (a0 : Int32 → rv_W → rv_R) => ∀ (v11 : Int32) (w12 : rv_W), K 72 [(0, .ref (ad 66)), (2, .int v7), (3, .int v11)] [] w12 (a0 v11 w12)) (fun _ _ => rv_none h) (fun ag9 ih10 v11 w12 => ?_) rv_FU (0 : Int32) w8
  refine rv_iload_n h 72 dX2_findStrengths_72 2 rfl ?_
  refine rv_iconst h 73 dX2_findStrengths_73 rv_c5 ?_
  refine rv_icmp_ge (tgt := 143) h 74 dX2_findStrengths_74 (by decide) (fun _ => ?_) (fun _ => ?_)
  rotate_left
  · refine rv_iinc h 143 (fun v13 => [(2, .int v13), (0, .ref (ad 66)), (3, .int v11)]) dX2_findStrengths_143 1 rfl rv_c1 (by decide) (fun _ => rfl) (fun v13 => ?_)
    refine rv_goto (tgt := 65) h 146 dX2_findStrengths_146 (by decide) ?_
    refine rv_sub h [1, 0] rfl ?_
    exact ih6 v13 w12
  refine rv_iconst h 77 dX2_findStrengths_77 rv_c0 ?_
  refine rv_istore (lv' := [(4, .int (0 : Int32)), (0, .ref (ad 66)), (2, .int v7), (3, .int v11)]) h 78 dX2_findStrengths_78 (by decide) rfl ?_
  refine rv_sub h [1, 2, 3, 0] rfl ?_
  refine rv_fx_ind (fun (a0 : Int32 → rv_W → rv_R) => ∀ (v16 : Int32) (w17 : rv_W), K 80 [(0, .ref (ad 66)), (2, .int v7), (3, .int v11), (4, .int v16)] [] w17 (a0 v16 w17)) (fun _ _ => rv_none h) (fun ag14 ih15 v16 w17 => ?_) rv_FU (0 : Int32) w12
  refine rv_iload h 80 dX2_findStrengths_80 3 rfl ?_
  refine rv_iconst h 82 dX2_findStrengths_82 rv_c5 ?_
  refine rv_icmp_ge (tgt := 137) h 83 dX2_findStrengths_83 (by decide) (fun _ => ?_) (fun _ => ?_)
  rotate_left
  · refine rv_iinc h 137 (fun v18 => [(3, .int v18), (0, .ref (ad 66)), (2, .int v7), (4, .int v16)]) dX2_findStrengths_137 2 rfl rv_c1 (by decide) (fun _ => rfl) (fun v18 => ?_)
    refine rv_goto (tgt := 72) h 140 dX2_findStrengths_140 (by decide) ?_
    refine rv_sub h [1, 2, 0] rfl ?_
    exact ih10 v18 w17
  refine rv_aload_n h 86 dX2_findStrengths_86 0 rfl ?_
  refine rv_getr h 87 dX2_findStrengths_87 rv_s66 rv_fd_X2_11 rfl ?_
  refine rv_iload_n h 90 dX2_findStrengths_90 2 rfl ?_
  refine rv_aald h 91 dX2_findStrengths_91 rv_s67 (fun hi19 => ?_)
  refine rv_iload_n h 92 dX2_findStrengths_92 1 rfl ?_
  refine rv_iald h 93 dX2_findStrengths_93 (rv_row68 hi19) ?_
  refine rv_aload_n h 94 dX2_findStrengths_94 0 rfl ?_
  refine rv_getr h 95 dX2_findStrengths_95 rv_s66 rv_fd_X2_11 rfl ?_
  refine rv_iload_n h 98 dX2_findStrengths_98 1 rfl ?_
  refine rv_aald h 99 dX2_findStrengths_99 rv_s67 (fun hi20 => ?_)
  refine rv_iload h 100 dX2_findStrengths_100 3 rfl ?_
  refine rv_iald h 102 dX2_findStrengths_102 (rv_row68 hi20) ?_
  refine rv_mmin h 103 dX2_findStrengths_103 ce_J9_min_7cf53 lk_X2_56 (Nat.le_of_ble_eq_true rfl) ⟨Nat.le_of_ble_eq_true rfl, Nat.le_of_ble_eq_true rfl⟩ ?_
  refine rv_top (fun v21 => ?_)
  refine rv_istore (lv' := [(5, .int v21), (0, .ref (ad 66)), (2, .int v7), (3, .int v11), (4, .int v16)]) h 106 dX2_findStrengths_106 (by decide) rfl ?_
  refine rv_aload_n h 108 dX2_findStrengths_108 1 rfl ?_
  refine rv_getr h 109 dX2_findStrengths_109 rv_s66 rv_fd_X2_11 rfl ?_
  refine rv_iload_n h 112 dX2_findStrengths_112 3 rfl ?_
  refine rv_aald h 113 dX2_findStrengths_113 rv_s67 (fun hi22 => ?_)
  refine rv_iload h 114 dX2_findStrengths_114 4 rfl ?_
  refine rv_aload_n h 116 dX2_findStrengths_116 1 rfl ?_
  refine rv_getr h 117 dX2_findStrengths_117 rv_s66 rv_fd_X2_11 rfl ?_
  refine rv_iload_n h 120 dX2_findStrengths_120 3 rfl ?_
  refine rv_aald h 121 dX2_findStrengths_121 rv_s67 (fun hi23 => ?_)
  refine rv_iload h 122 dX2_findStrengths_122 4 rfl ?_
  refine rv_iald h 124 dX2_findStrengths_124 (rv_row68 hi23) ?_
  refine rv_iload h 125 dX2_findStrengths_125 0 rfl ?_
  refine rv_mmax h 127 dX2_findStrengths_127 ce_J9_max_7cf53 lk_X2_61 (Nat.le_of_ble_eq_true rfl) ⟨Nat.le_of_ble_eq_true rfl, Nat.le_of_ble_eq_true rfl⟩ ?_
  refine rv_iast h 130 dX2_findStrengths_130 (rv_row68 hi22) (fun w24 => ?_)
  refine rv_iinc h 131 (fun v25 => [(4, .int v25), (5, .int v21), (0, .ref (ad 66)), (2, .int v7), (3, .int v11)]) dX2_findStrengths_131 4 rfl rv_c1 (by decide) (fun _ => rfl) (fun v25 => ?_)
  refine rv_goto (tgt := 80) h 134 dX2_findStrengths_134 (by decide) ?_
  refine rv_sub h [2, 3, 4, 0] rfl ?_
  exact ih15 v25 w24
def f_X2_strongest  (w : rv_W) : rv_R :=
  rv_fx (fun _ _ _ => none) (fun (ag1 : Int32 → Int32 → rv_W → rv_R) (v3 : Int32) (v4 : Int32) (w5 : rv_W) =>
  if v4 < (5 : Int32) then
  rv_fx (fun _ _ _ => none) (fun (ag6 : Int32 → Int32 → rv_W → rv_R) (v8 : Int32) (v9 : Int32) (w10 : rv_W) =>
  if v9 < (5 : Int32) then
  rv_ck v4 5 (
  rv_ck v9 5 (
  rv_ck v9 5 (
  rv_ck v4 5 (
  if (w10 (68 + v4.toNatClampNeg) v9.toNatClampNeg) < (w10 (68 + v9.toNatClampNeg) v4.toNatClampNeg) then
  rv_bd (f_X1_without v8 v4 w10) (fun (r15 : Int32) (w16 : rv_W) =>
  rv_lt (v9 + (1 : Int32)) (fun (v17 : Int32) =>
  ag6 r15 v17 w16))
  else
  rv_lt (v9 + (1 : Int32)) (fun (v14 : Int32) =>
  ag6 v8 v14 w10)))))
  else
  rv_lt (v4 + (1 : Int32)) (fun (v11 : Int32) =>
  ag1 v8 v11 w10)) rv_FU v3 (0 : Int32) w5
  else
  some (v3, w5)) rv_FU (w 24 0) (0 : Int32) w
set_option maxRecDepth 100000 in
set_option maxHeartbeats 4000000 in
theorem fn_X2_strongest {l : Launch} {D : va_G} {ad : Nat → Nat} {ca : Nat → ClassId} (hJ : rv_J ad)   (w : rv_W) : rv_Fn l D ad ca yX2_strongest cX2_strongest 5 (some .int) 1 21 [.ref (ad 66), .ref (ad 24)] w (f_X2_strongest  w) := by
  refine rv_mk (lv := [(0, .ref (ad 66)), (1, .ref (ad 24))]) hJ (by decide +kernel) (Nat.le_of_ble_eq_true rfl) rfl (fun K h hr => ?_)
  have h : rv_Rl D ad ca l RX2 cX2_strongest 5 1 21 K := h
  unfold f_X2_strongest
  refine rv_aload_n h 0 dX2_strongest_0 1 rfl ?_
  refine rv_geti h 1 dX2_strongest_1 rv_s24 rv_fd_X2_23 rfl ?_
  refine rv_istore_n (lv' := [(2, .int (w 24 0)), (0, .ref (ad 66)), (1, .ref (ad 24))]) h 4 dX2_strongest_4 (by decide) rfl ?_
  refine rv_iconst h 5 dX2_strongest_5 rv_c0 ?_
  refine rv_istore_n (lv' := [(3, .int (0 : Int32)), (2, .int (w 24 0)), (0, .ref (ad 66)), (1, .ref (ad 24))]) h 6 dX2_strongest_6 (by decide) rfl ?_
  refine rv_sub h [2, 1, 0] rfl ?_
  refine rv_fx_ind (fun (a0 : Int32 → Int32 → rv_W → rv_R) => ∀ (v3 : Int32) (v4 : Int32) (w5 : rv_W), K 7 [(0, .ref (ad 66)), (2, .int v3), (3, .int v4)] [] w5 (a0 v3 v4 w5)) (fun _ _ _ => rv_none h) (fun ag1 ih2 v3 v4 w5 => ?_) rv_FU (w 24 0) (0 : Int32) w
  refine rv_iload_n h 7 dX2_strongest_7 2 rfl ?_
  refine rv_iconst h 8 dX2_strongest_8 rv_c5 ?_
  refine rv_icmp_ge (tgt := 60) h 9 dX2_strongest_9 (by decide) (fun _ => ?_) (fun _ => ?_)
  rotate_left
  · refine rv_iload_n h 60 dX2_strongest_60 1 rfl ?_
    exact rv_reti hr 61 dX2_strongest_61
  refine rv_iconst h 12 dX2_strongest_12 rv_c0 ?_
  refine rv_istore (lv' := [(4, .int (0 : Int32)), (0, .ref (ad 66)), (2, .int v3), (3, .int v4)]) h 13 dX2_strongest_13 (by decide) rfl ?_
  refine rv_sub h [1, 2, 3, 0] rfl ?_
  refine rv_fx_ind (fun (a0 : Int32 → Int32 → rv_W → rv_R) => ∀ (v8 : Int32) (v9 : Int32) (w10 : rv_W), K 15 [(0, .ref (ad 66)), (2, .int v8), (3, .int v4), (4, .int v9)] [] w10 (a0 v8 v9 w10)) (fun _ _ _ => rv_none h) (fun ag6 ih7 v8 v9 w10 => ?_) rv_FU v3 (0 : Int32) w5
  refine rv_iload h 15 dX2_strongest_15 3 rfl ?_
  refine rv_iconst h 17 dX2_strongest_17 rv_c5 ?_
  refine rv_icmp_ge (tgt := 54) h 18 dX2_strongest_18 (by decide) (fun _ => ?_) (fun _ => ?_)
  rotate_left
  · refine rv_iinc h 54 (fun v11 => [(3, .int v11), (0, .ref (ad 66)), (2, .int v8), (4, .int v9)]) dX2_strongest_54 2 rfl rv_c1 (by decide) (fun _ => rfl) (fun v11 => ?_)
    refine rv_goto (tgt := 7) h 57 dX2_strongest_57 (by decide) ?_
    refine rv_sub h [1, 2, 0] rfl ?_
    exact ih2 v8 v11 w10
  refine rv_aload_n h 21 dX2_strongest_21 0 rfl ?_
  refine rv_getr h 22 dX2_strongest_22 rv_s66 rv_fd_X2_11 rfl ?_
  refine rv_iload_n h 25 dX2_strongest_25 2 rfl ?_
  refine rv_aald h 26 dX2_strongest_26 rv_s67 (fun hi12 => ?_)
  refine rv_iload h 27 dX2_strongest_27 3 rfl ?_
  refine rv_iald h 29 dX2_strongest_29 (rv_row68 hi12) ?_
  refine rv_aload_n h 30 dX2_strongest_30 0 rfl ?_
  refine rv_getr h 31 dX2_strongest_31 rv_s66 rv_fd_X2_11 rfl ?_
  refine rv_iload h 34 dX2_strongest_34 3 rfl ?_
  refine rv_aald h 36 dX2_strongest_36 rv_s67 (fun hi13 => ?_)
  refine rv_iload_n h 37 dX2_strongest_37 2 rfl ?_
  refine rv_iald h 38 dX2_strongest_38 (rv_row68 hi13) ?_
  refine rv_icmp_ge (tgt := 48) h 39 dX2_strongest_39 (by decide) (fun _ => ?_) (fun _ => ?_)
  rotate_left
  · refine rv_iinc h 48 (fun v14 => [(4, .int v14), (0, .ref (ad 66)), (2, .int v8), (3, .int v4)]) dX2_strongest_48 3 rfl rv_c1 (by decide) (fun _ => rfl) (fun v14 => ?_)
    refine rv_goto (tgt := 15) h 51 dX2_strongest_51 (by decide) ?_
    refine rv_sub h [1, 2, 3, 0] rfl ?_
    exact ih7 v8 v14 w10
  refine rv_iload_n h 42 dX2_strongest_42 1 rfl ?_
  refine rv_iload_n h 43 dX2_strongest_43 2 rfl ?_
  refine rv_callSi h 44 dX2_strongest_44 (fn_X1_without hJ v8 v4  w10) ce_X1_without lk_X2_39 rfl rfl (Nat.le_of_ble_eq_true rfl) ⟨Nat.le_of_ble_eq_true rfl, Nat.le_of_ble_eq_true rfl⟩ (fun r15 w16 => ?_)
  refine rv_istore_n (lv' := [(2, .int r15), (0, .ref (ad 66)), (3, .int v4), (4, .int v9)]) h 47 dX2_strongest_47 (by decide) rfl ?_
  refine rv_iinc h 48 (fun v17 => [(4, .int v17), (2, .int r15), (0, .ref (ad 66)), (3, .int v4)]) dX2_strongest_48 3 rfl rv_c1 (by decide) (fun _ => rfl) (fun v17 => ?_)
  refine rv_goto (tgt := 15) h 51 dX2_strongest_51 (by decide) ?_
  refine rv_sub h [2, 1, 3, 0] rfl ?_
  exact ih7 r15 v17 w16
