def f_X11_number  (w : rv_W) : rv_R :=
  rv_bd (f_X11_here  w) (fun (r1 : Int32) (w2 : rv_W) =>
  rv_fx (fun _ _ _ => none) (fun (ag3 : Int32 → Int32 → rv_W → rv_R) (v5 : Int32) (v6 : Int32) (w7 : rv_W) =>
  rv_jn (fun  (w8 : rv_W) =>
  if v5 = (w8 78 24) then
  some ((-1 : Int32), w8)
  else
  if (3 : Int32) < (v5 - (w8 78 24)) then
  some ((-1 : Int32), w8)
  else
  rv_bd (f_X11_in v6 (1 : Int32) (100 : Int32) w8) (fun (r11 : Int32) (w12 : rv_W) =>
  if r11 = 0 then
  some ((-1 : Int32), w12)
  else
  rv_lt (rv_up w12 78 24 v5) (fun (w13 : rv_W) =>
  some (v6, w13)))) (fun (k9 : rv_W → rv_R) =>
  if r1 < 0 then
  k9 w7
  else
  if v5 < (w7 78 3) then
  rv_ck v5 100 (
  rv_bd (f_X11_in (w7 80 v5.toNatClampNeg) (48 : Int32) (57 : Int32) w7) (fun (r14 : Int32) (w15 : rv_W) =>
  if r14 = 0 then
  k9 w15
  else
  if (v5 - (w15 78 24)) < (4 : Int32) then
  rv_ck v5 100 (
  rv_lt (((((10 : Int32) * v6) + (w15 80 v5.toNatClampNeg)) - (48 : Int32))) (fun (v17 : Int32) =>
  rv_lt (v5 + (1 : Int32)) (fun (v18 : Int32) =>
  ag3 v18 v17 w15)))
  else
  rv_lt (v5 + (1 : Int32)) (fun (v16 : Int32) =>
  ag3 v16 v6 w15)))
  else
  k9 w7)) rv_FU (w2 78 24) (0 : Int32) w2)
set_option maxRecDepth 100000 in
set_option maxHeartbeats 4000000 in
theorem fn_X11_number {l : Launch} {D : va_G} {ad : Nat → Nat} {ca : Nat → ClassId} (hJ : rv_J ad)   (w : rv_W) : rv_Fn l D ad ca yX11_number cX11_number 4 (some .int) 1 22 [.ref (ad 78)] w (f_X11_number  w) := by
  refine rv_mk (lv := [(0, .ref (ad 78))]) hJ (by decide +kernel) (Nat.le_of_ble_eq_true rfl) rfl (fun K h hr => ?_)
  have h : rv_Rl D ad ca l RX11 cX11_number 4 1 22 K := h
  unfold f_X11_number
  refine rv_aload_n h 0 dX11_number_0 0 rfl ?_
  refine rv_callVi h 1 dX11_number_1 (fn_X11_here hJ   w) ce_X11_here lk_X11_289 rv_s78 rfl rv_cf9 rfl rfl (Nat.le_of_ble_eq_true rfl) ⟨Nat.le_of_ble_eq_true rfl, Nat.le_of_ble_eq_true rfl⟩ (fun r1 w2 => ?_)
  refine rv_istore_n (lv' := [(1, .int r1), (0, .ref (ad 78))]) h 4 dX11_number_4 (by decide) rfl ?_
  refine rv_aload_n h 5 dX11_number_5 1 rfl ?_
  refine rv_geti h 6 dX11_number_6 rv_s78 rv_fd_X11_286 rfl ?_
  refine rv_istore_n (lv' := [(2, .int (w2 78 24)), (1, .int r1), (0, .ref (ad 78))]) h 9 dX11_number_9 (by decide) rfl ?_
  refine rv_iconst h 10 dX11_number_10 rv_c0 ?_
  refine rv_istore_n (lv' := [(3, .int (0 : Int32)), (2, .int (w2 78 24)), (1, .int r1), (0, .ref (ad 78))]) h 11 dX11_number_11 (by decide) rfl ?_
  refine rv_sub h [3, 2, 1, 0] rfl ?_
  refine rv_fx_ind (fun (a0 : Int32 → Int32 → rv_W → rv_R) => ∀ (v5 : Int32) (v6 : Int32) (w7 : rv_W), K 12 [(0, .ref (ad 78)), (1, .int r1), (2, .int v5), (3, .int v6)] [] w7 (a0 v5 v6 w7)) (fun _ _ _ => rv_none h) (fun ag3 ih4 v5 v6 w7 => ?_) rv_FU (w2 78 24) (0 : Int32) w2
  refine rv_iload_n h 12 dX11_number_12 1 rfl ?_
  refine rv_join (fun (k0 : rv_W → rv_R) => ∀  (w8 : rv_W), K 75 [(0, .ref (ad 78)), (2, .int v5), (3, .int v6)] ([]) w8 (k0 w8)) (fun w8 => ?_) (fun k9 hk10 => ?_)
  · refine rv_iload_n h 75 dX11_number_75 1 rfl ?_
    refine rv_aload_n h 76 dX11_number_76 0 rfl ?_
    refine rv_geti h 77 dX11_number_77 rv_s78 rv_fd_X11_286 rfl ?_
    refine rv_icmp_eq (tgt := 103) h 80 dX11_number_80 (by decide) (fun _ => ?_) (fun _ => ?_)
    · refine rv_iconst h 103 dX11_number_103 rv_cm1 ?_
      exact rv_reti hr 104 dX11_number_104
    refine rv_iload_n h 83 dX11_number_83 1 rfl ?_
    refine rv_aload_n h 84 dX11_number_84 0 rfl ?_
    refine rv_geti h 85 dX11_number_85 rv_s78 rv_fd_X11_286 rfl ?_
    refine rv_isub h 88 dX11_number_88 ?_
    refine rv_iconst h 89 dX11_number_89 rv_c3 ?_
    refine rv_icmp_gt (tgt := 103) h 90 dX11_number_90 (by decide) (fun _ => ?_) (fun _ => ?_)
    · refine rv_iconst h 103 dX11_number_103 rv_cm1 ?_
      exact rv_reti hr 104 dX11_number_104
    refine rv_iload_n h 93 dX11_number_93 2 rfl ?_
    refine rv_iconst h 94 dX11_number_94 rv_c1 ?_
    refine rv_bipush (v := 100) h 95 dX11_number_95 (by decide +kernel) ?_
    refine rv_callSi h 97 dX11_number_97 (fn_X11_in hJ v6 (1 : Int32) (100 : Int32)  w8) ce_X11_in lk_X11_70 rfl rfl (Nat.le_of_ble_eq_true rfl) ⟨Nat.le_of_ble_eq_true rfl, Nat.le_of_ble_eq_true rfl⟩ (fun r11 w12 => ?_)
    refine rv_if_ne (tgt := 105) h 100 dX11_number_100 (by decide) (fun _ => ?_) (fun _ => ?_)
    · refine rv_iconst h 103 dX11_number_103 rv_cm1 ?_
      exact rv_reti hr 104 dX11_number_104
    refine rv_aload_n h 105 dX11_number_105 0 rfl ?_
    refine rv_iload_n h 106 dX11_number_106 1 rfl ?_
    refine rv_puti h 107 dX11_number_107 rv_s78 rv_fd_X11_286 rfl ⟨rfl, rfl⟩ (fun w13 => ?_)
    refine rv_iload_n h 110 dX11_number_110 2 rfl ?_
    exact rv_reti hr 111 dX11_number_111
  refine rv_if_lt (tgt := 75) h 13 dX11_number_13 (by decide) (fun _ => ?_) (fun _ => ?_)
  · refine rv_sub h [0, 2, 3] rfl ?_
    exact hk10 w7
  refine rv_iload_n h 16 dX11_number_16 2 rfl ?_
  refine rv_aload_n h 17 dX11_number_17 0 rfl ?_
  refine rv_geti h 18 dX11_number_18 rv_s78 rv_fd_X11_283 rfl ?_
  refine rv_icmp_ge (tgt := 75) h 21 dX11_number_21 (by decide) (fun _ => ?_) (fun _ => ?_)
  rotate_left
  · refine rv_sub h [0, 2, 3] rfl ?_
    exact hk10 w7
  refine rv_aload_n h 24 dX11_number_24 0 rfl ?_
  refine rv_getr h 25 dX11_number_25 rv_s78 rv_fd_X11_13 rfl ?_
  refine rv_iload_n h 28 dX11_number_28 2 rfl ?_
  refine rv_iald h 29 dX11_number_29 rv_s80 ?_
  refine rv_bipush (v := 48) h 30 dX11_number_30 (by decide +kernel) ?_
  refine rv_bipush (v := 57) h 32 dX11_number_32 (by decide +kernel) ?_
  refine rv_callSi h 34 dX11_number_34 (fn_X11_in hJ (w7 80 v5.toNatClampNeg) (48 : Int32) (57 : Int32)  w7) ce_X11_in lk_X11_70 rfl rfl (Nat.le_of_ble_eq_true rfl) ⟨Nat.le_of_ble_eq_true rfl, Nat.le_of_ble_eq_true rfl⟩ (fun r14 w15 => ?_)
  refine rv_if_eq (tgt := 75) h 37 dX11_number_37 (by decide) (fun _ => ?_) (fun _ => ?_)
  · refine rv_sub h [0, 2, 3] rfl ?_
    exact hk10 w15
  refine rv_iload_n h 40 dX11_number_40 2 rfl ?_
  refine rv_aload_n h 41 dX11_number_41 0 rfl ?_
  refine rv_geti h 42 dX11_number_42 rv_s78 rv_fd_X11_286 rfl ?_
  refine rv_isub h 45 dX11_number_45 ?_
  refine rv_iconst h 46 dX11_number_46 rv_c4 ?_
  refine rv_icmp_ge (tgt := 67) h 47 dX11_number_47 (by decide) (fun _ => ?_) (fun _ => ?_)
  rotate_left
  · refine rv_iload_n h 67 dX11_number_67 3 rfl ?_
    refine rv_istore_n (lv' := [(3, .int v6), (0, .ref (ad 78)), (1, .int r1), (2, .int v5)]) h 68 dX11_number_68 (by decide) rfl ?_
    refine rv_iinc h 69 (fun v16 => [(2, .int v16), (3, .int v6), (0, .ref (ad 78)), (1, .int r1)]) dX11_number_69 3 rfl rv_c1 (by decide) (fun _ => rfl) (fun v16 => ?_)
    refine rv_goto (tgt := 12) h 72 dX11_number_72 (by decide) ?_
    refine rv_sub h [2, 3, 0, 1] rfl ?_
    exact ih4 v16 v6 w15
  refine rv_bipush (v := 10) h 50 dX11_number_50 (by decide +kernel) ?_
  refine rv_iload_n h 52 dX11_number_52 3 rfl ?_
  refine rv_imul h 53 dX11_number_53 ?_
  refine rv_aload_n h 54 dX11_number_54 0 rfl ?_
  refine rv_getr h 55 dX11_number_55 rv_s78 rv_fd_X11_13 rfl ?_
  refine rv_iload_n h 58 dX11_number_58 2 rfl ?_
  refine rv_iald h 59 dX11_number_59 rv_s80 ?_
  refine rv_iadd h 60 dX11_number_60 ?_
  refine rv_bipush (v := 48) h 61 dX11_number_61 (by decide +kernel) ?_
  refine rv_isub h 63 dX11_number_63 ?_
  refine rv_goto (tgt := 68) h 64 dX11_number_64 (by decide) ?_
  refine rv_top (fun v17 => ?_)
  refine rv_istore_n (lv' := [(3, .int v17), (0, .ref (ad 78)), (1, .int r1), (2, .int v5)]) h 68 dX11_number_68 (by decide) rfl ?_
  refine rv_iinc h 69 (fun v18 => [(2, .int v18), (3, .int v17), (0, .ref (ad 78)), (1, .int r1)]) dX11_number_69 3 rfl rv_c1 (by decide) (fun _ => rfl) (fun v18 => ?_)
  refine rv_goto (tgt := 12) h 72 dX11_number_72 (by decide) ?_
  refine rv_sub h [2, 3, 0, 1] rfl ?_
  exact ih4 v18 v17 w15
def f_X11_readsGroup  (w : rv_W) : rv_R :=
  rv_bd (f_X11_here  w) (fun (r1 : Int32) (w2 : rv_W) =>
  if r1 < 0 then
  some ((0 : Int32), w2)
  else
  rv_jn (fun  (w3 : rv_W) =>
  rv_bd (f_X11_number  w3) (fun (r6 : Int32) (w7 : rv_W) =>
  if r6 < 0 then
  some ((0 : Int32), w7)
  else
  rv_bd (f_X11_here  w7) (fun (r8 : Int32) (w9 : rv_W) =>
  if r8 = (58 : Int32) then
  rv_fx (fun _ _ _ _ => none) (fun (ag10 : Int32 → Int32 → Int32 → rv_W → rv_R) (v12 : Int32) (v13 : Int32) (v14 : Int32) (w15 : rv_W) =>
  if v14 = 0 then
  rv_jn (fun  (w16 : rv_W) =>
  rv_lt (rv_up w16 78 25 ((w16 78 25) + (1 : Int32))) (fun (w19 : rv_W) =>
  some ((1 : Int32), w19))) (fun (k17 : rv_W → rv_R) =>
  if (w15 78 26) = 0 then
  k17 w15
  else
  rv_bd (f_X11_adds r6 v12 w15) (fun (r20 : Int32) (w21 : rv_W) =>
  k17 w21))
  else
  rv_lt (rv_up w15 78 24 ((w15 78 24) + (1 : Int32))) (fun (w22 : rv_W) =>
  rv_bd (f_X11_here  w22) (fun (r23 : Int32) (w24 : rv_W) =>
  rv_lt ((r23 - (48 : Int32))) (fun (v25 : Int32) =>
  rv_bd (f_X11_isCandidate v25 w24) (fun (r26 : Int32) (w27 : rv_W) =>
  if r26 = 0 then
  some ((0 : Int32), w27)
  else
  rv_bd (f_X11_has v13 v25 w27) (fun (r28 : Int32) (w29 : rv_W) =>
  if r28 = 0 then
  rv_lt ((v13 ||| ((1 : Int32) <<< (v25 &&& 31)))) (fun (v30 : Int32) =>
  rv_lt (((((10 : Int32) * v12) + v25) + (1 : Int32))) (fun (v31 : Int32) =>
  rv_lt (rv_up w29 78 24 ((w29 78 24) + (1 : Int32))) (fun (w32 : rv_W) =>
  rv_bd (f_X11_here  w32) (fun (r33 : Int32) (w34 : rv_W) =>
  if r33 = (62 : Int32) then
  ag10 v31 v30 (1 : Int32) w34
  else
  ag10 v31 v30 (0 : Int32) w34))))
  else
  some ((0 : Int32), w29))))))) rv_FU (0 : Int32) (0 : Int32) (1 : Int32) w9
  else
  some ((0 : Int32), w9)))) (fun (k4 : rv_W → rv_R) =>
  if (w2 78 26) = 0 then
  rv_ck (0 : Int32) 852 (
  if ((w2 79 (0 : Int32).toNatClampNeg) + (w2 78 25)) = (20 : Int32) then
  some ((0 : Int32), w2)
  else
  k4 w2)
  else
  k4 w2))
set_option maxRecDepth 100000 in
set_option maxHeartbeats 4000000 in
theorem fn_X11_readsGroup {l : Launch} {D : va_G} {ad : Nat → Nat} {ca : Nat → ClassId} (hJ : rv_J ad)   (w : rv_W) : rv_Fn l D ad ca yX11_readsGroup cX11_readsGroup 7 (some .boolean) 2 49 [.ref (ad 78)] w (f_X11_readsGroup  w) := by
  refine rv_mk (lv := [(0, .ref (ad 78))]) hJ (by decide +kernel) (Nat.le_of_ble_eq_true rfl) rfl (fun K h hr => ?_)
  have h : rv_Rl D ad ca l RX11 cX11_readsGroup 7 2 49 K := h
  unfold f_X11_readsGroup
  refine rv_aload_n h 0 dX11_readsGroup_0 0 rfl ?_
  refine rv_callVi h 1 dX11_readsGroup_1 (fn_X11_here hJ   w) ce_X11_here lk_X11_289 rv_s78 rfl rv_cf9 rfl rfl (Nat.le_of_ble_eq_true rfl) ⟨Nat.le_of_ble_eq_true rfl, Nat.le_of_ble_eq_true rfl⟩ (fun r1 w2 => ?_)
  refine rv_istore_n (lv' := [(1, .int r1), (0, .ref (ad 78))]) h 4 dX11_readsGroup_4 (by decide) rfl ?_
  refine rv_iload_n h 5 dX11_readsGroup_5 0 rfl ?_
  refine rv_if_lt (tgt := 32) h 6 dX11_readsGroup_6 (by decide) (fun _ => ?_) (fun _ => ?_)
  · refine rv_iconst h 32 dX11_readsGroup_32 rv_c0 ?_
    exact rv_retz0 hr 33 dX11_readsGroup_33
  refine rv_aload_n h 9 dX11_readsGroup_9 1 rfl ?_
  refine rv_geti h 10 dX11_readsGroup_10 rv_s78 rv_fd_X11_292 rfl ?_
  refine rv_join (fun (k0 : rv_W → rv_R) => ∀  (w3 : rv_W), K 34 [(0, .ref (ad 78))] ([]) w3 (k0 w3)) (fun w3 => ?_) (fun k4 hk5 => ?_)
  · refine rv_aload_n h 34 dX11_readsGroup_34 0 rfl ?_
    refine rv_callVi h 35 dX11_readsGroup_35 (fn_X11_number hJ   w3) ce_X11_number lk_X11_299 rv_s78 rfl rv_cf9 rfl rfl (Nat.le_of_ble_eq_true rfl) ⟨Nat.le_of_ble_eq_true rfl, Nat.le_of_ble_eq_true rfl⟩ (fun r6 w7 => ?_)
    refine rv_istore_n (lv' := [(2, .int r6), (0, .ref (ad 78))]) h 38 dX11_readsGroup_38 (by decide) rfl ?_
    refine rv_iload_n h 39 dX11_readsGroup_39 0 rfl ?_
    refine rv_if_lt (tgt := 52) h 40 dX11_readsGroup_40 (by decide) (fun _ => ?_) (fun _ => ?_)
    · refine rv_iconst h 52 dX11_readsGroup_52 rv_c0 ?_
      exact rv_retz0 hr 53 dX11_readsGroup_53
    refine rv_aload_n h 43 dX11_readsGroup_43 1 rfl ?_
    refine rv_callVi h 44 dX11_readsGroup_44 (fn_X11_here hJ   w7) ce_X11_here lk_X11_289 rv_s78 rfl rv_cf9 rfl rfl (Nat.le_of_ble_eq_true rfl) ⟨Nat.le_of_ble_eq_true rfl, Nat.le_of_ble_eq_true rfl⟩ (fun r8 w9 => ?_)
    refine rv_bipush (v := 58) h 47 dX11_readsGroup_47 (by decide +kernel) ?_
    refine rv_icmp_eq (tgt := 54) h 49 dX11_readsGroup_49 (by decide) (fun _ => ?_) (fun _ => ?_)
    rotate_left
    · refine rv_iconst h 52 dX11_readsGroup_52 rv_c0 ?_
      exact rv_retz0 hr 53 dX11_readsGroup_53
    refine rv_iconst h 54 dX11_readsGroup_54 rv_c0 ?_
    refine rv_istore_n (lv' := [(3, .int (0 : Int32)), (2, .int r6), (0, .ref (ad 78))]) h 55 dX11_readsGroup_55 (by decide) rfl ?_
    refine rv_iconst h 56 dX11_readsGroup_56 rv_c0 ?_
    refine rv_istore (lv' := [(4, .int (0 : Int32)), (3, .int (0 : Int32)), (2, .int r6), (0, .ref (ad 78))]) h 57 dX11_readsGroup_57 (by decide) rfl ?_
    refine rv_iconst h 59 dX11_readsGroup_59 rv_c1 ?_
    refine rv_istore (lv' := [(5, .int (1 : Int32)), (4, .int (0 : Int32)), (3, .int (0 : Int32)), (2, .int r6), (0, .ref (ad 78))]) h 60 dX11_readsGroup_60 (by decide) rfl ?_
    refine rv_sub h [4, 3, 2, 1, 0] rfl ?_
    refine rv_fx_ind (fun (a0 : Int32 → Int32 → Int32 → rv_W → rv_R) => ∀ (v12 : Int32) (v13 : Int32) (v14 : Int32) (w15 : rv_W), K 62 [(0, .ref (ad 78)), (2, .int r6), (3, .int v12), (4, .int v13), (5, .int v14)] [] w15 (a0 v12 v13 v14 w15)) (fun _ _ _ _ => rv_none h) (fun ag10 ih11 v12 v13 v14 w15 => ?_) rv_FU (0 : Int32) (0 : Int32) (1 : Int32) w9
    refine rv_iload h 62 dX11_readsGroup_62 4 rfl ?_
    refine rv_if_eq (tgt := 154) h 64 dX11_readsGroup_64 (by decide) (fun _ => ?_) (fun _ => ?_)
    · refine rv_aload_n h 154 dX11_readsGroup_154 0 rfl ?_
      refine rv_geti h 155 dX11_readsGroup_155 rv_s78 rv_fd_X11_292 rfl ?_
      refine rv_join (fun (k0 : rv_W → rv_R) => ∀  (w16 : rv_W), K 167 [(0, .ref (ad 78))] ([]) w16 (k0 w16)) (fun w16 => ?_) (fun k17 hk18 => ?_)
      · refine rv_aload_n h 167 dX11_readsGroup_167 0 rfl ?_
        refine rv_dup h 168 dX11_readsGroup_168 rfl ?_
        refine rv_geti h 169 dX11_readsGroup_169 rv_s78 rv_fd_X11_296 rfl ?_
        refine rv_iconst h 172 dX11_readsGroup_172 rv_c1 ?_
        refine rv_iadd h 173 dX11_readsGroup_173 ?_
        refine rv_puti h 174 dX11_readsGroup_174 rv_s78 rv_fd_X11_296 rfl ⟨rfl, rfl⟩ (fun w19 => ?_)
        refine rv_iconst h 177 dX11_readsGroup_177 rv_c1 ?_
        exact rv_retz1 hr 178 dX11_readsGroup_178
      refine rv_if_eq (tgt := 167) h 158 dX11_readsGroup_158 (by decide) (fun _ => ?_) (fun _ => ?_)
      · refine rv_sub h [0] rfl ?_
        exact hk18 w15
      refine rv_aload_n h 161 dX11_readsGroup_161 0 rfl ?_
      refine rv_iload_n h 162 dX11_readsGroup_162 1 rfl ?_
      refine rv_iload_n h 163 dX11_readsGroup_163 2 rfl ?_
      refine rv_callVv h 164 dX11_readsGroup_164 (fn_X11_adds hJ r6 v12  w15) ce_X11_adds lk_X11_230 rv_s78 rfl rv_cf9 rfl rfl (Nat.le_of_ble_eq_true rfl) ⟨Nat.le_of_ble_eq_true rfl, Nat.le_of_ble_eq_true rfl⟩ (fun r20 w21 => ?_)
      refine rv_sub h [0] rfl ?_
      exact hk18 w21
    refine rv_aload_n h 67 dX11_readsGroup_67 0 rfl ?_
    refine rv_dup h 68 dX11_readsGroup_68 rfl ?_
    refine rv_geti h 69 dX11_readsGroup_69 rv_s78 rv_fd_X11_286 rfl ?_
    refine rv_iconst h 72 dX11_readsGroup_72 rv_c1 ?_
    refine rv_iadd h 73 dX11_readsGroup_73 ?_
    refine rv_puti h 74 dX11_readsGroup_74 rv_s78 rv_fd_X11_286 rfl ⟨rfl, rfl⟩ (fun w22 => ?_)
    refine rv_aload_n h 77 dX11_readsGroup_77 0 rfl ?_
    refine rv_callVi h 78 dX11_readsGroup_78 (fn_X11_here hJ   w22) ce_X11_here lk_X11_289 rv_s78 rfl rv_cf9 rfl rfl (Nat.le_of_ble_eq_true rfl) ⟨Nat.le_of_ble_eq_true rfl, Nat.le_of_ble_eq_true rfl⟩ (fun r23 w24 => ?_)
    refine rv_bipush (v := 48) h 81 dX11_readsGroup_81 (by decide +kernel) ?_
    refine rv_isub h 83 dX11_readsGroup_83 ?_
    refine rv_top (fun v25 => ?_)
    refine rv_istore (lv' := [(6, .int v25), (0, .ref (ad 78)), (2, .int r6), (3, .int v12), (4, .int v13), (5, .int v14)]) h 84 dX11_readsGroup_84 (by decide) rfl ?_
    refine rv_iload h 86 dX11_readsGroup_86 0 rfl ?_
    refine rv_callSi h 88 dX11_readsGroup_88 (fn_X11_isCandidate hJ v25  w24) ce_X11_isCandidate lk_X11_214 rfl rfl (Nat.le_of_ble_eq_true rfl) ⟨Nat.le_of_ble_eq_true rfl, Nat.le_of_ble_eq_true rfl⟩ (fun r26 w27 => ?_)
    refine rv_if_eq (tgt := 104) h 91 dX11_readsGroup_91 (by decide) (fun _ => ?_) (fun _ => ?_)
    · refine rv_iconst h 104 dX11_readsGroup_104 rv_c0 ?_
      exact rv_retz0 hr 105 dX11_readsGroup_105
    refine rv_iload h 94 dX11_readsGroup_94 4 rfl ?_
    refine rv_iload h 96 dX11_readsGroup_96 0 rfl ?_
    refine rv_callSi h 98 dX11_readsGroup_98 (fn_X11_has hJ v13 v25  w27) ce_X11_has lk_X11_74 rfl rfl (Nat.le_of_ble_eq_true rfl) ⟨Nat.le_of_ble_eq_true rfl, Nat.le_of_ble_eq_true rfl⟩ (fun r28 w29 => ?_)
    refine rv_if_eq (tgt := 106) h 101 dX11_readsGroup_101 (by decide) (fun _ => ?_) (fun _ => ?_)
    rotate_left
    · refine rv_iconst h 104 dX11_readsGroup_104 rv_c0 ?_
      exact rv_retz0 hr 105 dX11_readsGroup_105
    refine rv_iload h 106 dX11_readsGroup_106 4 rfl ?_
    refine rv_iconst h 108 dX11_readsGroup_108 rv_c1 ?_
    refine rv_iload h 109 dX11_readsGroup_109 0 rfl ?_
    refine rv_ishl h 111 dX11_readsGroup_111 ?_
    refine rv_ior h 112 dX11_readsGroup_112 ?_
    refine rv_top (fun v30 => ?_)
    refine rv_istore (lv' := [(4, .int v30), (6, .int v25), (0, .ref (ad 78)), (2, .int r6), (3, .int v12), (5, .int v14)]) h 113 dX11_readsGroup_113 (by decide) rfl ?_
    refine rv_bipush (v := 10) h 115 dX11_readsGroup_115 (by decide +kernel) ?_
    refine rv_iload_n h 117 dX11_readsGroup_117 4 rfl ?_
    refine rv_imul h 118 dX11_readsGroup_118 ?_
    refine rv_iload h 119 dX11_readsGroup_119 1 rfl ?_
    refine rv_iadd h 121 dX11_readsGroup_121 ?_
    refine rv_iconst h 122 dX11_readsGroup_122 rv_c1 ?_
    refine rv_iadd h 123 dX11_readsGroup_123 ?_
    refine rv_top (fun v31 => ?_)
    refine rv_istore_n (lv' := [(3, .int v31), (4, .int v30), (6, .int v25), (0, .ref (ad 78)), (2, .int r6), (5, .int v14)]) h 124 dX11_readsGroup_124 (by decide) rfl ?_
    refine rv_aload_n h 125 dX11_readsGroup_125 3 rfl ?_
    refine rv_dup h 126 dX11_readsGroup_126 rfl ?_
    refine rv_geti h 127 dX11_readsGroup_127 rv_s78 rv_fd_X11_286 rfl ?_
    refine rv_iconst h 130 dX11_readsGroup_130 rv_c1 ?_
    refine rv_iadd h 131 dX11_readsGroup_131 ?_
    refine rv_puti h 132 dX11_readsGroup_132 rv_s78 rv_fd_X11_286 rfl ⟨rfl, rfl⟩ (fun w32 => ?_)
    refine rv_aload_n h 135 dX11_readsGroup_135 3 rfl ?_
    refine rv_callVi h 136 dX11_readsGroup_136 (fn_X11_here hJ   w32) ce_X11_here lk_X11_289 rv_s78 rfl rv_cf9 rfl rfl (Nat.le_of_ble_eq_true rfl) ⟨Nat.le_of_ble_eq_true rfl, Nat.le_of_ble_eq_true rfl⟩ (fun r33 w34 => ?_)
    refine rv_bipush (v := 62) h 139 dX11_readsGroup_139 (by decide +kernel) ?_
    refine rv_icmp_ne (tgt := 148) h 141 dX11_readsGroup_141 (by decide) (fun _ => ?_) (fun _ => ?_)
    rotate_left
    · refine rv_iconst h 148 dX11_readsGroup_148 rv_c0 ?_
      refine rv_istore (lv' := [(5, .int (0 : Int32)), (3, .int v31), (4, .int v30), (6, .int v25), (0, .ref (ad 78)), (2, .int r6)]) h 149 dX11_readsGroup_149 (by decide) rfl ?_
      refine rv_goto (tgt := 62) h 151 dX11_readsGroup_151 (by decide) ?_
      refine rv_sub h [4, 5, 1, 2, 0] rfl ?_
      exact ih11 v31 v30 (0 : Int32) w34
    refine rv_iconst h 144 dX11_readsGroup_144 rv_c1 ?_
    refine rv_goto (tgt := 149) h 145 dX11_readsGroup_145 (by decide) ?_
    refine rv_istore (lv' := [(5, .int (1 : Int32)), (3, .int v31), (4, .int v30), (6, .int v25), (0, .ref (ad 78)), (2, .int r6)]) h 149 dX11_readsGroup_149 (by decide) rfl ?_
    refine rv_goto (tgt := 62) h 151 dX11_readsGroup_151 (by decide) ?_
    refine rv_sub h [4, 5, 1, 2, 0] rfl ?_
    exact ih11 v31 v30 (1 : Int32) w34
  refine rv_if_ne (tgt := 34) h 13 dX11_readsGroup_13 (by decide) (fun _ => ?_) (fun _ => ?_)
  rotate_left
  · refine rv_sub h [1] rfl ?_
    exact hk5 w2
  refine rv_aload_n h 16 dX11_readsGroup_16 1 rfl ?_
  refine rv_getr h 17 dX11_readsGroup_17 rv_s78 rv_fd_X11_7 rfl ?_
  refine rv_iconst h 20 dX11_readsGroup_20 rv_c0 ?_
  refine rv_iald h 21 dX11_readsGroup_21 rv_s79 ?_
  refine rv_aload_n h 22 dX11_readsGroup_22 1 rfl ?_
  refine rv_geti h 23 dX11_readsGroup_23 rv_s78 rv_fd_X11_296 rfl ?_
  refine rv_iadd h 26 dX11_readsGroup_26 ?_
  refine rv_bipush (v := 20) h 27 dX11_readsGroup_27 (by decide +kernel) ?_
  refine rv_icmp_ne (tgt := 34) h 29 dX11_readsGroup_29 (by decide) (fun _ => ?_) (fun _ => ?_)
  · refine rv_iconst h 32 dX11_readsGroup_32 rv_c0 ?_
    exact rv_retz0 hr 33 dX11_readsGroup_33
  refine rv_sub h [1] rfl ?_
  exact hk5 w2
def f_X11_readsAll (p1 : Int32) (w : rv_W) : rv_R :=
  rv_gd (p1 = 0 ∨ p1 = 1) (rv_lt (rv_up w 78 26 p1) (fun (w1 : rv_W) =>
  rv_lt (rv_up w1 78 24 (0 : Int32)) (fun (w2 : rv_W) =>
  rv_lt (rv_up w2 78 25 (0 : Int32)) (fun (w3 : rv_W) =>
  rv_bd (f_X11_readsGroup  w3) (fun (r4 : Int32) (w5 : rv_W) =>
  rv_bd (f_X11_here  w5) (fun (r6 : Int32) (w7 : rv_W) =>
  rv_fx (fun _ _ _ => none) (fun (ag8 : Int32 → Int32 → rv_W → rv_R) (v10 : Int32) (v11 : Int32) (w12 : rv_W) =>
  if v10 = 0 then
  rv_gd (v10 = 0 ∨ v10 = 1) (some (v10, w12))
  else
  if v11 = (-1 : Int32) then
  rv_gd (v10 = 0 ∨ v10 = 1) (some (v10, w12))
  else
  rv_jn (fun (v13 : Int32) (w14 : rv_W) =>
  if v13 = 0 then
  ag8 v13 v11 w14
  else
  rv_lt (rv_up w14 78 24 ((w14 78 24) + (1 : Int32))) (fun (w17 : rv_W) =>
  rv_bd (f_X11_readsGroup  w17) (fun (r18 : Int32) (w19 : rv_W) =>
  rv_bd (f_X11_here  w19) (fun (r20 : Int32) (w21 : rv_W) =>
  ag8 r18 r20 w21)))) (fun (k15 : Int32 → rv_W → rv_R) =>
  if v11 = (59 : Int32) then
  k15 (1 : Int32) w12
  else
  k15 (0 : Int32) w12)) rv_FU r4 r6 w7))))))
set_option maxRecDepth 100000 in
set_option maxHeartbeats 4000000 in
theorem fn_X11_readsAll {l : Launch} {D : va_G} {ad : Nat → Nat} {ca : Nat → ClassId} (hJ : rv_J ad) (p1 : Int32)  (w : rv_W) : rv_Fn l D ad ca yX11_readsAll cX11_readsAll 4 (some .boolean) 3 75 [.ref (ad 78), .int p1] w (f_X11_readsAll p1 w) := by
  refine rv_mk (lv := [(0, .ref (ad 78)), (1, .int p1)]) hJ (by decide +kernel) (Nat.le_of_ble_eq_true rfl) rfl (fun K h hr => ?_)
  have h : rv_Rl D ad ca l RX11 cX11_readsAll 4 3 75 K := h
  unfold f_X11_readsAll
  refine rv_aload_n h 0 dX11_readsAll_0 0 rfl ?_
  refine rv_iload_n h 1 dX11_readsAll_1 1 rfl ?_
  refine rv_putz h 2 dX11_readsAll_2 rv_s78 rv_fd_X11_292 rfl ⟨rfl, rfl⟩ (fun w1 => ?_)
  refine rv_aload_n h 5 dX11_readsAll_5 0 rfl ?_
  refine rv_iconst h 6 dX11_readsAll_6 rv_c0 ?_
  refine rv_puti h 7 dX11_readsAll_7 rv_s78 rv_fd_X11_286 rfl ⟨rfl, rfl⟩ (fun w2 => ?_)
  refine rv_aload_n h 10 dX11_readsAll_10 0 rfl ?_
  refine rv_iconst h 11 dX11_readsAll_11 rv_c0 ?_
  refine rv_puti h 12 dX11_readsAll_12 rv_s78 rv_fd_X11_296 rfl ⟨rfl, rfl⟩ (fun w3 => ?_)
  refine rv_aload_n h 15 dX11_readsAll_15 0 rfl ?_
  refine rv_callVi h 16 dX11_readsAll_16 (fn_X11_readsGroup hJ   w3) ce_X11_readsGroup lk_X11_302 rv_s78 rfl rv_cf9 rfl rfl (Nat.le_of_ble_eq_true rfl) ⟨Nat.le_of_ble_eq_true rfl, Nat.le_of_ble_eq_true rfl⟩ (fun r4 w5 => ?_)
  refine rv_istore_n (lv' := [(2, .int r4), (0, .ref (ad 78)), (1, .int p1)]) h 19 dX11_readsAll_19 (by decide) rfl ?_
  refine rv_aload_n h 20 dX11_readsAll_20 1 rfl ?_
  refine rv_callVi h 21 dX11_readsAll_21 (fn_X11_here hJ   w5) ce_X11_here lk_X11_289 rv_s78 rfl rv_cf9 rfl rfl (Nat.le_of_ble_eq_true rfl) ⟨Nat.le_of_ble_eq_true rfl, Nat.le_of_ble_eq_true rfl⟩ (fun r6 w7 => ?_)
  refine rv_istore_n (lv' := [(3, .int r6), (2, .int r4), (0, .ref (ad 78)), (1, .int p1)]) h 24 dX11_readsAll_24 (by decide) rfl ?_
  refine rv_sub h [2, 1, 0] rfl ?_
  refine rv_fx_ind (fun (a0 : Int32 → Int32 → rv_W → rv_R) => ∀ (v10 : Int32) (v11 : Int32) (w12 : rv_W), K 25 [(0, .ref (ad 78)), (2, .int v10), (3, .int v11)] [] w12 (a0 v10 v11 w12)) (fun _ _ _ => rv_none h) (fun ag8 ih9 v10 v11 w12 => ?_) rv_FU r4 r6 w7
  refine rv_iload_n h 25 dX11_readsAll_25 1 rfl ?_
  refine rv_if_eq (tgt := 73) h 26 dX11_readsAll_26 (by decide) (fun _ => ?_) (fun _ => ?_)
  · refine rv_iload_n h 73 dX11_readsAll_73 1 rfl ?_
    exact rv_retz h hr 74 dX11_readsAll_74
  refine rv_iload_n h 29 dX11_readsAll_29 2 rfl ?_
  refine rv_iconst h 30 dX11_readsAll_30 rv_cm1 ?_
  refine rv_icmp_eq (tgt := 73) h 31 dX11_readsAll_31 (by decide) (fun _ => ?_) (fun _ => ?_)
  · refine rv_iload_n h 73 dX11_readsAll_73 1 rfl ?_
    exact rv_retz h hr 74 dX11_readsAll_74
  refine rv_iload_n h 34 dX11_readsAll_34 2 rfl ?_
  refine rv_bipush (v := 59) h 35 dX11_readsAll_35 (by decide +kernel) ?_
  refine rv_join (fun (k0 : Int32 → rv_W → rv_R) => ∀ (v13 : Int32) (w14 : rv_W), K 45 [(0, .ref (ad 78)), (3, .int v11)] (.int v13 :: []) w14 (k0 v13 w14)) (fun v13 w14 => ?_) (fun k15 hk16 => ?_)
  · refine rv_istore_n (lv' := [(2, .int v13), (0, .ref (ad 78)), (3, .int v11)]) h 45 dX11_readsAll_45 (by decide) rfl ?_
    refine rv_iload_n h 46 dX11_readsAll_46 0 rfl ?_
    refine rv_if_eq (tgt := 25) h 47 dX11_readsAll_47 (by decide) (fun _ => ?_) (fun _ => ?_)
    · refine rv_sub h [1, 0, 2] rfl ?_
      exact ih9 v13 v11 w14
    refine rv_aload_n h 50 dX11_readsAll_50 1 rfl ?_
    refine rv_dup h 51 dX11_readsAll_51 rfl ?_
    refine rv_geti h 52 dX11_readsAll_52 rv_s78 rv_fd_X11_286 rfl ?_
    refine rv_iconst h 55 dX11_readsAll_55 rv_c1 ?_
    refine rv_iadd h 56 dX11_readsAll_56 ?_
    refine rv_puti h 57 dX11_readsAll_57 rv_s78 rv_fd_X11_286 rfl ⟨rfl, rfl⟩ (fun w17 => ?_)
    refine rv_aload_n h 60 dX11_readsAll_60 1 rfl ?_
    refine rv_callVi h 61 dX11_readsAll_61 (fn_X11_readsGroup hJ   w17) ce_X11_readsGroup lk_X11_302 rv_s78 rfl rv_cf9 rfl rfl (Nat.le_of_ble_eq_true rfl) ⟨Nat.le_of_ble_eq_true rfl, Nat.le_of_ble_eq_true rfl⟩ (fun r18 w19 => ?_)
    refine rv_istore_n (lv' := [(2, .int r18), (0, .ref (ad 78)), (3, .int v11)]) h 64 dX11_readsAll_64 (by decide) rfl ?_
    refine rv_aload_n h 65 dX11_readsAll_65 1 rfl ?_
    refine rv_callVi h 66 dX11_readsAll_66 (fn_X11_here hJ   w19) ce_X11_here lk_X11_289 rv_s78 rfl rv_cf9 rfl rfl (Nat.le_of_ble_eq_true rfl) ⟨Nat.le_of_ble_eq_true rfl, Nat.le_of_ble_eq_true rfl⟩ (fun r20 w21 => ?_)
    refine rv_istore_n (lv' := [(3, .int r20), (2, .int r18), (0, .ref (ad 78))]) h 69 dX11_readsAll_69 (by decide) rfl ?_
    refine rv_goto (tgt := 25) h 70 dX11_readsAll_70 (by decide) ?_
    refine rv_sub h [2, 1, 0] rfl ?_
    exact ih9 r18 r20 w21
  refine rv_icmp_ne (tgt := 44) h 37 dX11_readsAll_37 (by decide) (fun _ => ?_) (fun _ => ?_)
  rotate_left
  · refine rv_iconst h 44 dX11_readsAll_44 rv_c0 ?_
    refine rv_sub h [0, 2] rfl ?_
    exact hk16 (0 : Int32) w12
  refine rv_iconst h 40 dX11_readsAll_40 rv_c1 ?_
  refine rv_goto (tgt := 45) h 41 dX11_readsAll_41 (by decide) ?_
  refine rv_sub h [0, 2] rfl ?_
  exact hk16 (1 : Int32) w12
def f_X11_textFault  (w : rv_W) : rv_R :=
  rv_bd (f_X11_readsAll (0 : Int32) w) (fun (r1 : Int32) (w2 : rv_W) =>
  if r1 = 0 then
  some ((w2 78 24), w2)
  else
  some ((-1000000 : Int32), w2))
set_option maxRecDepth 100000 in
set_option maxHeartbeats 4000000 in
theorem fn_X11_textFault {l : Launch} {D : va_G} {ad : Nat → Nat} {ca : Nat → ClassId} (hJ : rv_J ad)   (w : rv_W) : rv_Fn l D ad ca yX11_textFault cX11_textFault 1 (some .int) 4 98 [.ref (ad 78)] w (f_X11_textFault  w) := by
  refine rv_mk (lv := [(0, .ref (ad 78))]) hJ (by decide +kernel) (Nat.le_of_ble_eq_true rfl) rfl (fun K h hr => ?_)
  have h : rv_Rl D ad ca l RX11 cX11_textFault 1 4 98 K := h
  unfold f_X11_textFault
  refine rv_aload_n h 0 dX11_textFault_0 0 rfl ?_
  refine rv_iconst h 1 dX11_textFault_1 rv_c0 ?_
  refine rv_callVi h 2 dX11_textFault_2 (fn_X11_readsAll hJ (0 : Int32)  w) ce_X11_readsAll lk_X11_306 rv_s78 rfl rv_cf9 rfl rfl (Nat.le_of_ble_eq_true rfl) ⟨Nat.le_of_ble_eq_true rfl, Nat.le_of_ble_eq_true rfl⟩ (fun r1 w2 => ?_)
  refine rv_if_eq (tgt := 13) h 5 dX11_textFault_5 (by decide) (fun _ => ?_) (fun _ => ?_)
  · refine rv_aload_n h 13 dX11_textFault_13 0 rfl ?_
    refine rv_geti h 14 dX11_textFault_14 rv_s78 rv_fd_X11_286 rfl ?_
    exact rv_reti hr 17 dX11_textFault_17
  refine rv_ldc h 8 dX11_textFault_8 rv_kc_X11_250 ?_
  refine rv_goto (tgt := 17) h 10 dX11_textFault_10 (by decide) ?_
  exact rv_reti hr 17 dX11_textFault_17
def f_X11_load  (w : rv_W) : rv_R :=
  rv_bd (f_X11_readsAll (0 : Int32) w) (fun (r1 : Int32) (w2 : rv_W) =>
  if r1 = 0 then
  some ((-1000003 : Int32), w2)
  else
  rv_bd (f_X11_saves  w2) (fun (r3 : Int32) (w4 : rv_W) =>
  rv_bd (f_X11_readsAll (1 : Int32) w4) (fun (r5 : Int32) (w6 : rv_W) =>
  rv_ck (0 : Int32) 852 (
  some ((w6 79 (0 : Int32).toNatClampNeg), w6)))))
set_option maxRecDepth 100000 in
set_option maxHeartbeats 4000000 in
theorem fn_X11_load {l : Launch} {D : va_G} {ad : Nat → Nat} {ca : Nat → ClassId} (hJ : rv_J ad)   (w : rv_W) : rv_Fn l D ad ca yX11_load cX11_load 1 (some .int) 4 98 [.ref (ad 78)] w (f_X11_load  w) := by
  refine rv_mk (lv := [(0, .ref (ad 78))]) hJ (by decide +kernel) (Nat.le_of_ble_eq_true rfl) rfl (fun K h hr => ?_)
  have h : rv_Rl D ad ca l RX11 cX11_load 1 4 98 K := h
  unfold f_X11_load
  refine rv_aload_n h 0 dX11_load_0 0 rfl ?_
  refine rv_iconst h 1 dX11_load_1 rv_c0 ?_
  refine rv_callVi h 2 dX11_load_2 (fn_X11_readsAll hJ (0 : Int32)  w) ce_X11_readsAll lk_X11_306 rv_s78 rfl rv_cf9 rfl rfl (Nat.le_of_ble_eq_true rfl) ⟨Nat.le_of_ble_eq_true rfl, Nat.le_of_ble_eq_true rfl⟩ (fun r1 w2 => ?_)
  refine rv_if_ne (tgt := 11) h 5 dX11_load_5 (by decide) (fun _ => ?_) (fun _ => ?_)
  · refine rv_ldc h 8 dX11_load_8 rv_kc_X11_240 ?_
    exact rv_reti hr 10 dX11_load_10
  refine rv_aload_n h 11 dX11_load_11 0 rfl ?_
  refine rv_callVv h 12 dX11_load_12 (fn_X11_saves hJ   w2) ce_X11_saves lk_X11_227 rv_s78 rfl rv_cf9 rfl rfl (Nat.le_of_ble_eq_true rfl) ⟨Nat.le_of_ble_eq_true rfl, Nat.le_of_ble_eq_true rfl⟩ (fun r3 w4 => ?_)
  refine rv_aload_n h 15 dX11_load_15 0 rfl ?_
  refine rv_iconst h 16 dX11_load_16 rv_c1 ?_
  refine rv_callVi h 17 dX11_load_17 (fn_X11_readsAll hJ (1 : Int32)  w4) ce_X11_readsAll lk_X11_306 rv_s78 rfl rv_cf9 rfl rfl (Nat.le_of_ble_eq_true rfl) ⟨Nat.le_of_ble_eq_true rfl, Nat.le_of_ble_eq_true rfl⟩ (fun r5 w6 => ?_)
  refine rv_pop h 20 dX11_load_20 rfl ?_
  refine rv_aload_n h 21 dX11_load_21 0 rfl ?_
  refine rv_getr h 22 dX11_load_22 rv_s78 rv_fd_X11_7 rfl ?_
  refine rv_iconst h 25 dX11_load_25 rv_c0 ?_
  refine rv_iald h 26 dX11_load_26 rv_s79 ?_
  exact rv_reti hr 27 dX11_load_27
