/-! the law's body behind its object -/
def f_L_law (xc : Int32 → Int32) (w : rv_W) : rv_R :=
  rv_gd (¬ (0 : Int32) < 0) (
  rv_bd (f_L_low (xc (0 : Int32)) (6 : Int32) w) (fun (r2 : Int32) (w3 : rv_W) =>
  rv_bd (f_X10_undo  w3) (fun (r4 : Int32) (w5 : rv_W) =>
  if r4 = (-1000003 : Int32) then
  rv_bd (f_X10_sample (0 : Int32) (1 : Int32) (1 : Int32) w5) (fun (r6 : Int32) (w7 : rv_W) =>
  if r6 = (-1000003 : Int32) then
  rv_bd (f_X10_load  w7) (fun (r8 : Int32) (w9 : rv_W) =>
  if r8 = (-1000003 : Int32) then
  rv_bd (f_X10_addGroup (1 : Int32) (0 : Int32) w9) (fun (r10 : Int32) (w11 : rv_W) =>
  if r10 = (-1000002 : Int32) then
  rv_bd (f_X10_addGroup (1 : Int32) (11 : Int32) w11) (fun (r12 : Int32) (w13 : rv_W) =>
  if r12 = (-1000002 : Int32) then
  rv_bd (f_X10_addGroup (1 : Int32) (6 : Int32) w13) (fun (r14 : Int32) (w15 : rv_W) =>
  if r14 = (-1000002 : Int32) then
  rv_bd (f_X10_addGroup (0 : Int32) (1 : Int32) w15) (fun (r16 : Int32) (w17 : rv_W) =>
  if r16 = (-1000002 : Int32) then
  rv_fx (fun _ _ _ => none) (fun (ag18 : Int32 → Int32 → rv_W → rv_R) (v20 : Int32) (v21 : Int32) (w22 : rv_W) =>
  if v21 < r2 then
  rv_gd (¬ ((1 : Int32) + v21) < 0) (
  rv_bd (f_L_low ((xc ((1 : Int32) + v21)) >>> ((27 : Int32) &&& 31)) (9 : Int32) w22) (fun (r113 : Int32) (w114 : rv_W) =>
  rv_lt (((1 : Int32) + r113)) (fun (v115 : Int32) =>
  rv_bd (f_L_ballot (xc ((1 : Int32) + v21)) w114) (fun (r116 : Int32) (w117 : rv_W) =>
  rv_bd (f_X10_addGroup v115 r116 w117) (fun (r118 : Int32) (w119 : rv_W) =>
  if r118 = v21 then
  rv_bd (f_X10_ballot v21 w119) (fun (r120 : Int32) (w121 : rv_W) =>
  rv_bd (f_L_ballot (xc ((1 : Int32) + v21)) w121) (fun (r122 : Int32) (w123 : rv_W) =>
  if r120 = r122 then
  rv_bd (f_X10_voters v21 w123) (fun (r124 : Int32) (w125 : rv_W) =>
  if r124 = v115 then
  rv_lt ((v20 + v115)) (fun (v126 : Int32) =>
  rv_lt (v21 + (1 : Int32)) (fun (v127 : Int32) =>
  ag18 v126 v127 w125))
  else
  some ((0 : Int32), w125))
  else
  some ((0 : Int32), w123)))
  else
  some ((0 : Int32), w119))))))
  else
  rv_bd (f_X10_allVoters  w22) (fun (r23 : Int32) (w24 : rv_W) =>
  if r23 = v20 then
  rv_bd (f_L_arePairsSound  w24) (fun (r25 : Int32) (w26 : rv_W) =>
  if r25 = 0 then
  some ((0 : Int32), w26)
  else
  rv_bd (f_L_areWinnersSound  w26) (fun (r27 : Int32) (w28 : rv_W) =>
  if r27 = 0 then
  some ((0 : Int32), w28)
  else
  rv_fx (fun _ _ => none) (fun (ag29 : Int32 → rv_W → rv_R) (v31 : Int32) (w32 : rv_W) =>
  if v31 < (3 : Int32) then
  rv_gd (¬ ((8 : Int32) + v31) < 0) (
  rv_bd (f_L_low (xc ((8 : Int32) + v31)) (12 : Int32) w32) (fun (r68 : Int32) (w69 : rv_W) =>
  rv_jn (fun  (w70 : rv_W) =>
  rv_jn (fun  (w73 : rv_W) =>
  rv_bd (f_L_arePairsSound  w73) (fun (r76 : Int32) (w77 : rv_W) =>
  if r76 = 0 then
  some ((0 : Int32), w77)
  else
  rv_bd (f_L_areWinnersSound  w77) (fun (r78 : Int32) (w79 : rv_W) =>
  if r78 = 0 then
  some ((0 : Int32), w79)
  else
  rv_bd (f_L_areParadoxesSound r68 w79) (fun (r80 : Int32) (w81 : rv_W) =>
  if r80 = 0 then
  some ((0 : Int32), w81)
  else
  if 0 < r2 then
  rv_bd (f_L_low ((xc ((8 : Int32) + v31)) >>> ((17 : Int32) &&& 31)) r2 w81) (fun (r83 : Int32) (w84 : rv_W) =>
  rv_bd (f_L_isBrought r68 r83 w84) (fun (r85 : Int32) (w86 : rv_W) =>
  if r85 = 0 then
  some ((0 : Int32), w86)
  else
  rv_lt (v31 + (1 : Int32)) (fun (v87 : Int32) =>
  ag29 v87 w86)))
  else
  rv_lt (v31 + (1 : Int32)) (fun (v82 : Int32) =>
  ag29 v82 w81))))) (fun (k74 : rv_W → rv_R) =>
  if 0 < r2 then
  if (((xc ((8 : Int32) + v31)) >>> ((10 : Int32) &&& 31)) &&& (1 : Int32)) = 0 then
  rv_bd (f_L_low ((xc ((8 : Int32) + v31)) >>> ((11 : Int32) &&& 31)) r2 w70) (fun (r88 : Int32) (w89 : rv_W) =>
  rv_bd (f_X10_ballot r88 w89) (fun (r90 : Int32) (w91 : rv_W) =>
  rv_bd (f_L_low ((xc ((8 : Int32) + v31)) >>> ((14 : Int32) &&& 31)) (5 : Int32) w91) (fun (r92 : Int32) (w93 : rv_W) =>
  rv_bd (f_X10_exchange r88 r92 w93) (fun (r94 : Int32) (w95 : rv_W) =>
  if 0 < r94 then
  rv_bd (f_X10_exchange r88 r92 w95) (fun (r98 : Int32) (w99 : rv_W) =>
  if r98 = r90 then
  rv_bd (f_X10_undo  w99) (fun (r100 : Int32) (w101 : rv_W) =>
  if r100 < 0 then
  some ((0 : Int32), w101)
  else
  rv_bd (f_X10_ballot r88 w101) (fun (r102 : Int32) (w103 : rv_W) =>
  if r102 = r94 then
  k74 w103
  else
  some ((0 : Int32), w103)))
  else
  some ((0 : Int32), w99))
  else
  if r94 = (-1000001 : Int32) then
  rv_bd (f_L_place r90 ((r90 - r90 / (10 : Int32) * (10 : Int32)) - (1 : Int32)) w95) (fun (r96 : Int32) (w97 : rv_W) =>
  if r92 < r96 then
  some ((0 : Int32), w97)
  else
  k74 w97)
  else
  some ((0 : Int32), w95)))))
  else
  k74 w70
  else
  k74 w70)) (fun (k71 : rv_W → rv_R) =>
  if (((xc ((8 : Int32) + v31)) >>> ((4 : Int32) &&& 31)) &&& (1 : Int32)) = 0 then
  rv_bd (f_L_low ((xc ((8 : Int32) + v31)) >>> ((5 : Int32) &&& 31)) (5 : Int32) w69) (fun (r104 : Int32) (w105 : rv_W) =>
  rv_jn (fun (v106 : Int32) (w107 : rv_W) =>
  rv_bd (f_X10_setStanding r104 v106 w107) (fun (r110 : Int32) (w111 : rv_W) =>
  k71 w111)) (fun (k108 : Int32 → rv_W → rv_R) =>
  if (((xc ((8 : Int32) + v31)) >>> ((8 : Int32) &&& 31)) &&& (3 : Int32)) = 0 then
  k108 (1 : Int32) w105
  else
  k108 (0 : Int32) w105))
  else
  k71 w69)))
  else
  rv_bd (f_L_low ((xc (0 : Int32)) >>> ((3 : Int32) &&& 31)) (12 : Int32) w32) (fun (r33 : Int32) (w34 : rv_W) =>
  rv_bd (f_X10_winner r33 w34) (fun (r35 : Int32) (w36 : rv_W) =>
  rv_jn (fun  (w37 : rv_W) =>
  rv_bd (f_X10_winner (12 : Int32) w37) (fun (r40 : Int32) (w41 : rv_W) =>
  if r40 = (-1000001 : Int32) then
  rv_bd (f_X10_points (4 : Int32) (0 : Int32) w41) (fun (r42 : Int32) (w43 : rv_W) =>
  if r42 = (-1000003 : Int32) then
  rv_bd (f_X10_points (0 : Int32) (5 : Int32) w43) (fun (r44 : Int32) (w45 : rv_W) =>
  if r44 = (-1000001 : Int32) then
  rv_bd (f_X10_rounds (5 : Int32) w45) (fun (r46 : Int32) (w47 : rv_W) =>
  if r46 = (-1000003 : Int32) then
  rv_bd (f_X10_agreeing (0 : Int32) (0 : Int32) (51 : Int32) (1 : Int32) w47) (fun (r48 : Int32) (w49 : rv_W) =>
  if r48 = (-1000002 : Int32) then
  rv_bd (f_X10_voters r2 w49) (fun (r50 : Int32) (w51 : rv_W) =>
  if r50 = (-1000001 : Int32) then
  rv_bd (f_X10_winner r33 w51) (fun (r52 : Int32) (w53 : rv_W) =>
  if r52 = r35 then
  some ((1 : Int32), w53)
  else
  some ((0 : Int32), w53))
  else
  some ((0 : Int32), w51))
  else
  some ((0 : Int32), w49))
  else
  some ((0 : Int32), w47))
  else
  some ((0 : Int32), w45))
  else
  some ((0 : Int32), w43))
  else
  some ((0 : Int32), w41))) (fun (k38 : rv_W → rv_R) =>
  if 0 < r2 then
  rv_bd (f_L_low ((xc (0 : Int32)) >>> ((7 : Int32) &&& 31)) (50 : Int32) w36) (fun (r54 : Int32) (w55 : rv_W) =>
  rv_lt (((1 : Int32) + r54)) (fun (v56 : Int32) =>
  rv_bd (f_X10_agreeing r33 (xc (0 : Int32)) v56 (5 : Int32) w55) (fun (r57 : Int32) (w58 : rv_W) =>
  rv_bd (f_X10_sample r33 (xc (0 : Int32)) v56 w58) (fun (r59 : Int32) (w60 : rv_W) =>
  if r35 < 0 then
  if r57 = (-1000003 : Int32) then
  if r59 = (-1000000 : Int32) then
  k38 w60
  else
  some ((0 : Int32), w60)
  else
  some ((0 : Int32), w60)
  else
  if r57 < 0 then
  some ((0 : Int32), w60)
  else
  if (5 : Int32) < r57 then
  some ((0 : Int32), w60)
  else
  rv_bd (f_X10_agreeing r33 (xc (0 : Int32)) v56 (1 : Int32) w60) (fun (r61 : Int32) (w62 : rv_W) =>
  rv_jn (fun (v63 : Int32) (w64 : rv_W) =>
  if r61 = v63 then
  k38 w64
  else
  some ((0 : Int32), w64)) (fun (k65 : Int32 → rv_W → rv_R) =>
  if r59 = r35 then
  k65 (1 : Int32) w62
  else
  k65 (0 : Int32) w62))))))
  else
  k38 w36)))) rv_FU (0 : Int32) w28))
  else
  some ((0 : Int32), w24))) rv_FU (0 : Int32) (0 : Int32) w17
  else
  some ((0 : Int32), w17))
  else
  some ((0 : Int32), w15))
  else
  some ((0 : Int32), w13))
  else
  some ((0 : Int32), w11))
  else
  some ((0 : Int32), w9))
  else
  some ((0 : Int32), w7))
  else
  some ((0 : Int32), w5))))
set_option maxRecDepth 100000 in
set_option maxHeartbeats 8000000 in
theorem fn_L_law {l : Launch} {D : va_G} {ad : Nat → Nat} {ca : Nat → ClassId} {b : Nat} {xc : Int32 → Int32} {K : Nat → List (Nat × Value) → List Value → rv_W → rv_R → Prop} (hJ : rv_J ad) (h : rv_Rl D ad ca l RL cL_law 12 8 203 K) (hr : rv_Ret cL_law (some .boolean) K) (hc : ∀ (pc : Nat) (lv : List (Nat × Value)) (w : rv_W) (t : rv_R) (i : Int32), decode cL_law pc = .ok (.invokestatic 116, 3) → ¬ i < 0 → K (pc + 3) lv [.int (xc i)] w t → K pc lv [.int i, .ref b] w t) (w : rv_W) : K 8 [(1, .ref (ad 0)), (0, .ref b)] [] w (f_L_law xc w) := by
  unfold f_L_law
  refine rv_aload_n h 8 dL_law_8 1 rfl ?_
  refine rv_iconst h 9 dL_law_9 rv_c0 ?_
  refine rv_guard h (fun hn1 => ?_)
  refine hc 10 _ _ _ _ dL_law_10 hn1 ?_
  refine rv_istore_n (lv' := [(2, .int (xc (0 : Int32))), (1, .ref (ad 0)), (0, .ref b)]) h 13 dL_law_13 (by decide) rfl ?_
  refine rv_iload_n h 14 dL_law_14 0 rfl ?_
  refine rv_bipush (v := 6) h 15 dL_law_15 (by decide +kernel) ?_
  refine rv_callSi h 17 dL_law_17 (fn_L_low hJ (xc (0 : Int32)) (6 : Int32)  w) ce_L_low lk_L_8 rfl rfl (Nat.le_of_ble_eq_true rfl) ⟨Nat.le_of_ble_eq_true rfl, Nat.le_of_ble_eq_true rfl⟩ (fun r2 w3 => ?_)
  refine rv_istore_n (lv' := [(3, .int r2), (2, .int (xc (0 : Int32))), (1, .ref (ad 0)), (0, .ref b)]) h 20 dL_law_20 (by decide) rfl ?_
  refine rv_aload_n h 21 dL_law_21 2 rfl ?_
  refine rv_callVi h 22 dL_law_22 (fn_X10_undo hJ   w3) ce_X10_undo lk_L_112 rv_s0 rfl rv_cf8 rfl rfl (Nat.le_of_ble_eq_true rfl) ⟨Nat.le_of_ble_eq_true rfl, Nat.le_of_ble_eq_true rfl⟩ (fun r4 w5 => ?_)
  refine rv_ldc h 25 dL_law_25 rv_kc_L_27 ?_
  refine rv_icmp_ne (tgt := 97) h 27 dL_law_27 (by decide) (fun _ => ?_) (fun _ => ?_)
  rotate_left
  · refine rv_iconst h 97 dL_law_97 rv_c0 ?_
    exact rv_retz0 hr 98 dL_law_98
  refine rv_aload_n h 30 dL_law_30 2 rfl ?_
  refine rv_iconst h 31 dL_law_31 rv_c0 ?_
  refine rv_iconst h 32 dL_law_32 rv_c1 ?_
  refine rv_iconst h 33 dL_law_33 rv_c1 ?_
  refine rv_callVi h 34 dL_law_34 (fn_X10_sample hJ (0 : Int32) (1 : Int32) (1 : Int32)  w5) ce_X10_sample lk_L_120 rv_s0 rfl rv_cf8 rfl rfl (Nat.le_of_ble_eq_true rfl) ⟨Nat.le_of_ble_eq_true rfl, Nat.le_of_ble_eq_true rfl⟩ (fun r6 w7 => ?_)
  refine rv_ldc h 37 dL_law_37 rv_kc_L_27 ?_
  refine rv_icmp_ne (tgt := 97) h 39 dL_law_39 (by decide) (fun _ => ?_) (fun _ => ?_)
  rotate_left
  · refine rv_iconst h 97 dL_law_97 rv_c0 ?_
    exact rv_retz0 hr 98 dL_law_98
  refine rv_aload_n h 42 dL_law_42 2 rfl ?_
  refine rv_callVi h 43 dL_law_43 (fn_X10_load hJ   w7) ce_X10_load lk_L_123 rv_s0 rfl rv_cf8 rfl rfl (Nat.le_of_ble_eq_true rfl) ⟨Nat.le_of_ble_eq_true rfl, Nat.le_of_ble_eq_true rfl⟩ (fun r8 w9 => ?_)
  refine rv_ldc h 46 dL_law_46 rv_kc_L_27 ?_
  refine rv_icmp_ne (tgt := 97) h 48 dL_law_48 (by decide) (fun _ => ?_) (fun _ => ?_)
  rotate_left
  · refine rv_iconst h 97 dL_law_97 rv_c0 ?_
    exact rv_retz0 hr 98 dL_law_98
  refine rv_aload_n h 51 dL_law_51 2 rfl ?_
  refine rv_iconst h 52 dL_law_52 rv_c1 ?_
  refine rv_iconst h 53 dL_law_53 rv_c0 ?_
  refine rv_callVi h 54 dL_law_54 (fn_X10_addGroup hJ (1 : Int32) (0 : Int32)  w9) ce_X10_addGroup lk_L_109 rv_s0 rfl rv_cf8 rfl rfl (Nat.le_of_ble_eq_true rfl) ⟨Nat.le_of_ble_eq_true rfl, Nat.le_of_ble_eq_true rfl⟩ (fun r10 w11 => ?_)
  refine rv_ldc h 57 dL_law_57 rv_kc_L_126 ?_
  refine rv_icmp_ne (tgt := 97) h 59 dL_law_59 (by decide) (fun _ => ?_) (fun _ => ?_)
  rotate_left
  · refine rv_iconst h 97 dL_law_97 rv_c0 ?_
    exact rv_retz0 hr 98 dL_law_98
  refine rv_aload_n h 62 dL_law_62 2 rfl ?_
  refine rv_iconst h 63 dL_law_63 rv_c1 ?_
  refine rv_bipush (v := 11) h 64 dL_law_64 (by decide +kernel) ?_
  refine rv_callVi h 66 dL_law_66 (fn_X10_addGroup hJ (1 : Int32) (11 : Int32)  w11) ce_X10_addGroup lk_L_109 rv_s0 rfl rv_cf8 rfl rfl (Nat.le_of_ble_eq_true rfl) ⟨Nat.le_of_ble_eq_true rfl, Nat.le_of_ble_eq_true rfl⟩ (fun r12 w13 => ?_)
  refine rv_ldc h 69 dL_law_69 rv_kc_L_126 ?_
  refine rv_icmp_ne (tgt := 97) h 71 dL_law_71 (by decide) (fun _ => ?_) (fun _ => ?_)
  rotate_left
  · refine rv_iconst h 97 dL_law_97 rv_c0 ?_
    exact rv_retz0 hr 98 dL_law_98
  refine rv_aload_n h 74 dL_law_74 2 rfl ?_
  refine rv_iconst h 75 dL_law_75 rv_c1 ?_
  refine rv_bipush (v := 6) h 76 dL_law_76 (by decide +kernel) ?_
  refine rv_callVi h 78 dL_law_78 (fn_X10_addGroup hJ (1 : Int32) (6 : Int32)  w13) ce_X10_addGroup lk_L_109 rv_s0 rfl rv_cf8 rfl rfl (Nat.le_of_ble_eq_true rfl) ⟨Nat.le_of_ble_eq_true rfl, Nat.le_of_ble_eq_true rfl⟩ (fun r14 w15 => ?_)
  refine rv_ldc h 81 dL_law_81 rv_kc_L_126 ?_
  refine rv_icmp_ne (tgt := 97) h 83 dL_law_83 (by decide) (fun _ => ?_) (fun _ => ?_)
  rotate_left
  · refine rv_iconst h 97 dL_law_97 rv_c0 ?_
    exact rv_retz0 hr 98 dL_law_98
  refine rv_aload_n h 86 dL_law_86 2 rfl ?_
  refine rv_iconst h 87 dL_law_87 rv_c0 ?_
  refine rv_iconst h 88 dL_law_88 rv_c1 ?_
  refine rv_callVi h 89 dL_law_89 (fn_X10_addGroup hJ (0 : Int32) (1 : Int32)  w15) ce_X10_addGroup lk_L_109 rv_s0 rfl rv_cf8 rfl rfl (Nat.le_of_ble_eq_true rfl) ⟨Nat.le_of_ble_eq_true rfl, Nat.le_of_ble_eq_true rfl⟩ (fun r16 w17 => ?_)
  refine rv_ldc h 92 dL_law_92 rv_kc_L_126 ?_
  refine rv_icmp_eq (tgt := 99) h 94 dL_law_94 (by decide) (fun _ => ?_) (fun _ => ?_)
  rotate_left
  · refine rv_iconst h 97 dL_law_97 rv_c0 ?_
    exact rv_retz0 hr 98 dL_law_98
  refine rv_iconst h 99 dL_law_99 rv_c0 ?_
  refine rv_istore (lv' := [(4, .int (0 : Int32)), (3, .int r2), (2, .int (xc (0 : Int32))), (1, .ref (ad 0)), (0, .ref b)]) h 100 dL_law_100 (by decide) rfl ?_
  refine rv_iconst h 102 dL_law_102 rv_c0 ?_
  refine rv_istore (lv' := [(5, .int (0 : Int32)), (4, .int (0 : Int32)), (3, .int r2), (2, .int (xc (0 : Int32))), (1, .ref (ad 0)), (0, .ref b)]) h 103 dL_law_103 (by decide) rfl ?_
  refine rv_sub h [5, 4, 3, 2, 1, 0] rfl ?_
  refine rv_fx_ind (fun (a0 : Int32 → Int32 → rv_W → rv_R) => ∀ (v20 : Int32) (v21 : Int32) (w22 : rv_W), K 105 [(0, .ref b), (1, .ref (ad 0)), (2, .int (xc (0 : Int32))), (3, .int r2), (4, .int v20), (5, .int v21)] [] w22 (a0 v20 v21 w22)) (fun _ _ _ => rv_none h) (fun ag18 ih19 v20 v21 w22 => ?_) rv_FU (0 : Int32) (0 : Int32) w17
  refine rv_iload h 105 dL_law_105 5 rfl ?_
  refine rv_iload_n h 107 dL_law_107 3 rfl ?_
  refine rv_icmp_ge (tgt := 191) h 108 dL_law_108 (by decide) (fun _ => ?_) (fun _ => ?_)
  · refine rv_aload_n h 111 dL_law_111 0 rfl ?_
    refine rv_iconst h 112 dL_law_112 rv_c1 ?_
    refine rv_iload h 113 dL_law_113 5 rfl ?_
    refine rv_iadd h 115 dL_law_115 ?_
    refine rv_guard h (fun hn112 => ?_)
    refine hc 116 _ _ _ _ dL_law_116 hn112 ?_
    refine rv_istore (lv' := [(6, .int (xc ((1 : Int32) + v21))), (0, .ref b), (1, .ref (ad 0)), (2, .int (xc (0 : Int32))), (3, .int r2), (4, .int v20), (5, .int v21)]) h 119 dL_law_119 (by decide) rfl ?_
    refine rv_iconst h 121 dL_law_121 rv_c1 ?_
    refine rv_iload h 122 dL_law_122 0 rfl ?_
    refine rv_bipush (v := 27) h 124 dL_law_124 (by decide +kernel) ?_
    refine rv_ishr h 126 dL_law_126 ?_
    refine rv_bipush (v := 9) h 127 dL_law_127 (by decide +kernel) ?_
    refine rv_callSi h 129 dL_law_129 (fn_L_low hJ ((xc ((1 : Int32) + v21)) >>> ((27 : Int32) &&& 31)) (9 : Int32)  w22) ce_L_low lk_L_8 rfl rfl (Nat.le_of_ble_eq_true rfl) ⟨Nat.le_of_ble_eq_true rfl, Nat.le_of_ble_eq_true rfl⟩ (fun r113 w114 => ?_)
    refine rv_iadd h 132 dL_law_132 ?_
    refine rv_top (fun v115 => ?_)
    refine rv_istore (lv' := [(7, .int v115), (6, .int (xc ((1 : Int32) + v21))), (0, .ref b), (1, .ref (ad 0)), (2, .int (xc (0 : Int32))), (3, .int r2), (4, .int v20), (5, .int v21)]) h 133 dL_law_133 (by decide) rfl ?_
    refine rv_aload_n h 135 dL_law_135 3 rfl ?_
    refine rv_iload h 136 dL_law_136 0 rfl ?_
    refine rv_iload h 138 dL_law_138 1 rfl ?_
    refine rv_callSi h 140 dL_law_140 (fn_L_ballot hJ (xc ((1 : Int32) + v21))  w114) ce_L_ballot lk_L_127 rfl rfl (Nat.le_of_ble_eq_true rfl) ⟨Nat.le_of_ble_eq_true rfl, Nat.le_of_ble_eq_true rfl⟩ (fun r116 w117 => ?_)
    refine rv_callVi h 143 dL_law_143 (fn_X10_addGroup hJ v115 r116  w117) ce_X10_addGroup lk_L_109 rv_s0 rfl rv_cf8 rfl rfl (Nat.le_of_ble_eq_true rfl) ⟨Nat.le_of_ble_eq_true rfl, Nat.le_of_ble_eq_true rfl⟩ (fun r118 w119 => ?_)
    refine rv_iload h 146 dL_law_146 7 rfl ?_
    refine rv_icmp_ne (tgt := 176) h 148 dL_law_148 (by decide) (fun _ => ?_) (fun _ => ?_)
    rotate_left
    · refine rv_iconst h 176 dL_law_176 rv_c0 ?_
      exact rv_retz0 hr 177 dL_law_177
    refine rv_aload_n h 151 dL_law_151 3 rfl ?_
    refine rv_iload h 152 dL_law_152 7 rfl ?_
    refine rv_callVi h 154 dL_law_154 (fn_X10_ballot hJ v21  w119) ce_X10_ballot lk_L_90 rv_s0 rfl rv_cf8 rfl rfl (Nat.le_of_ble_eq_true rfl) ⟨Nat.le_of_ble_eq_true rfl, Nat.le_of_ble_eq_true rfl⟩ (fun r120 w121 => ?_)
    refine rv_iload h 157 dL_law_157 1 rfl ?_
    refine rv_callSi h 159 dL_law_159 (fn_L_ballot hJ (xc ((1 : Int32) + v21))  w121) ce_L_ballot lk_L_127 rfl rfl (Nat.le_of_ble_eq_true rfl) ⟨Nat.le_of_ble_eq_true rfl, Nat.le_of_ble_eq_true rfl⟩ (fun r122 w123 => ?_)
    refine rv_icmp_ne (tgt := 176) h 162 dL_law_162 (by decide) (fun _ => ?_) (fun _ => ?_)
    rotate_left
    · refine rv_iconst h 176 dL_law_176 rv_c0 ?_
      exact rv_retz0 hr 177 dL_law_177
    refine rv_aload_n h 165 dL_law_165 3 rfl ?_
    refine rv_iload h 166 dL_law_166 7 rfl ?_
    refine rv_callVi h 168 dL_law_168 (fn_X10_voters hJ v21  w123) ce_X10_voters lk_L_103 rv_s0 rfl rv_cf8 rfl rfl (Nat.le_of_ble_eq_true rfl) ⟨Nat.le_of_ble_eq_true rfl, Nat.le_of_ble_eq_true rfl⟩ (fun r124 w125 => ?_)
    refine rv_iload h 171 dL_law_171 0 rfl ?_
    refine rv_icmp_eq (tgt := 178) h 173 dL_law_173 (by decide) (fun _ => ?_) (fun _ => ?_)
    rotate_left
    · refine rv_iconst h 176 dL_law_176 rv_c0 ?_
      exact rv_retz0 hr 177 dL_law_177
    refine rv_iload h 178 dL_law_178 6 rfl ?_
    refine rv_iload h 180 dL_law_180 0 rfl ?_
    refine rv_iadd h 182 dL_law_182 ?_
    refine rv_top (fun v126 => ?_)
    refine rv_istore (lv' := [(4, .int v126), (7, .int v115), (6, .int (xc ((1 : Int32) + v21))), (0, .ref b), (1, .ref (ad 0)), (2, .int (xc (0 : Int32))), (3, .int r2), (5, .int v21)]) h 183 dL_law_183 (by decide) rfl ?_
    refine rv_iinc h 185 (fun v127 => [(5, .int v127), (4, .int v126), (7, .int v115), (6, .int (xc ((1 : Int32) + v21))), (0, .ref b), (1, .ref (ad 0)), (2, .int (xc (0 : Int32))), (3, .int r2)]) dL_law_185 7 rfl rv_c1 (by decide) (fun _ => rfl) (fun v127 => ?_)
    refine rv_goto (tgt := 105) h 188 dL_law_188 (by decide) ?_
    refine rv_sub h [4, 5, 6, 7, 1, 0] rfl ?_
    exact ih19 v126 v127 w125
  refine rv_aload_n h 191 dL_law_191 1 rfl ?_
  refine rv_callVi h 192 dL_law_192 (fn_X10_allVoters hJ   w22) ce_X10_allVoters lk_L_15 rv_s0 rfl rv_cf8 rfl rfl (Nat.le_of_ble_eq_true rfl) ⟨Nat.le_of_ble_eq_true rfl, Nat.le_of_ble_eq_true rfl⟩ (fun r23 w24 => ?_)
  refine rv_iload h 195 dL_law_195 4 rfl ?_
  refine rv_icmp_ne (tgt := 214) h 197 dL_law_197 (by decide) (fun _ => ?_) (fun _ => ?_)
  rotate_left
  · refine rv_iconst h 214 dL_law_214 rv_c0 ?_
    exact rv_retz0 hr 215 dL_law_215
  refine rv_aload_n h 200 dL_law_200 1 rfl ?_
  refine rv_callSi h 201 dL_law_201 (fn_L_arePairsSound hJ   w24) ce_L_arePairsSound lk_L_128 rfl rfl (Nat.le_of_ble_eq_true rfl) ⟨Nat.le_of_ble_eq_true rfl, Nat.le_of_ble_eq_true rfl⟩ (fun r25 w26 => ?_)
  refine rv_if_eq (tgt := 214) h 204 dL_law_204 (by decide) (fun _ => ?_) (fun _ => ?_)
  · refine rv_iconst h 214 dL_law_214 rv_c0 ?_
    exact rv_retz0 hr 215 dL_law_215
  refine rv_aload_n h 207 dL_law_207 1 rfl ?_
  refine rv_callSi h 208 dL_law_208 (fn_L_areWinnersSound hJ   w26) ce_L_areWinnersSound lk_L_132 rfl rfl (Nat.le_of_ble_eq_true rfl) ⟨Nat.le_of_ble_eq_true rfl, Nat.le_of_ble_eq_true rfl⟩ (fun r27 w28 => ?_)
  refine rv_if_ne (tgt := 216) h 211 dL_law_211 (by decide) (fun _ => ?_) (fun _ => ?_)
  · refine rv_iconst h 214 dL_law_214 rv_c0 ?_
    exact rv_retz0 hr 215 dL_law_215
  refine rv_iconst h 216 dL_law_216 rv_c0 ?_
  refine rv_istore (lv' := [(5, .int (0 : Int32)), (0, .ref b), (1, .ref (ad 0)), (2, .int (xc (0 : Int32))), (3, .int r2), (4, .int v20)]) h 217 dL_law_217 (by decide) rfl ?_
  refine rv_sub h [1, 2, 3, 4, 0] rfl ?_
  refine rv_fx_ind (fun (a0 : Int32 → rv_W → rv_R) => ∀ (v31 : Int32) (w32 : rv_W), K 219 [(0, .ref b), (1, .ref (ad 0)), (2, .int (xc (0 : Int32))), (3, .int r2), (5, .int v31)] [] w32 (a0 v31 w32)) (fun _ _ => rv_none h) (fun ag29 ih30 v31 w32 => ?_) rv_FU (0 : Int32) w28
  refine rv_iload h 219 dL_law_219 4 rfl ?_
  refine rv_iconst h 221 dL_law_221 rv_c3 ?_
  refine rv_icmp_ge (tgt := 454) h 222 dL_law_222 (by decide) (fun _ => ?_) (fun _ => ?_)
  rotate_left
  · refine rv_iload_n h 454 dL_law_454 2 rfl ?_
    refine rv_iconst h 455 dL_law_455 rv_c3 ?_
    refine rv_ishr h 456 dL_law_456 ?_
    refine rv_bipush (v := 12) h 457 dL_law_457 (by decide +kernel) ?_
    refine rv_callSi h 459 dL_law_459 (fn_L_low hJ ((xc (0 : Int32)) >>> ((3 : Int32) &&& 31)) (12 : Int32)  w32) ce_L_low lk_L_8 rfl rfl (Nat.le_of_ble_eq_true rfl) ⟨Nat.le_of_ble_eq_true rfl, Nat.le_of_ble_eq_true rfl⟩ (fun r33 w34 => ?_)
    refine rv_istore (lv' := [(5, .int r33), (0, .ref b), (1, .ref (ad 0)), (2, .int (xc (0 : Int32))), (3, .int r2)]) h 462 dL_law_462 (by decide) rfl ?_
    refine rv_aload_n h 464 dL_law_464 2 rfl ?_
    refine rv_iload h 465 dL_law_465 0 rfl ?_
    refine rv_callVi h 467 dL_law_467 (fn_X10_winner hJ r33  w34) ce_X10_winner lk_L_51 rv_s0 rfl rv_cf8 rfl rfl (Nat.le_of_ble_eq_true rfl) ⟨Nat.le_of_ble_eq_true rfl, Nat.le_of_ble_eq_true rfl⟩ (fun r35 w36 => ?_)
    refine rv_istore (lv' := [(6, .int r35), (5, .int r33), (0, .ref b), (1, .ref (ad 0)), (2, .int (xc (0 : Int32))), (3, .int r2)]) h 470 dL_law_470 (by decide) rfl ?_
    refine rv_iload_n h 472 dL_law_472 5 rfl ?_
    refine rv_join (fun (k0 : rv_W → rv_R) => ∀  (w37 : rv_W), K 572 [(1, .ref (ad 0)), (3, .int r2), (5, .int r33), (6, .int r35)] ([]) w37 (k0 w37)) (fun w37 => ?_) (fun k38 hk39 => ?_)
    · refine rv_aload_n h 572 dL_law_572 0 rfl ?_
      refine rv_bipush (v := 12) h 573 dL_law_573 (by decide +kernel) ?_
      refine rv_callVi h 575 dL_law_575 (fn_X10_winner hJ (12 : Int32)  w37) ce_X10_winner lk_L_51 rv_s0 rfl rv_cf8 rfl rfl (Nat.le_of_ble_eq_true rfl) ⟨Nat.le_of_ble_eq_true rfl, Nat.le_of_ble_eq_true rfl⟩ (fun r40 w41 => ?_)
      refine rv_ldc h 578 dL_law_578 rv_kc_L_63 ?_
      refine rv_icmp_ne (tgt := 654) h 580 dL_law_580 (by decide) (fun _ => ?_) (fun _ => ?_)
      rotate_left
      · refine rv_iconst h 654 dL_law_654 rv_c0 ?_
        exact rv_retz0 hr 655 dL_law_655
      refine rv_aload_n h 583 dL_law_583 0 rfl ?_
      refine rv_iconst h 584 dL_law_584 rv_c4 ?_
      refine rv_iconst h 585 dL_law_585 rv_c0 ?_
      refine rv_callVi h 586 dL_law_586 (fn_X10_points hJ (4 : Int32) (0 : Int32)  w41) ce_X10_points lk_L_57 rv_s0 rfl rv_cf8 rfl rfl (Nat.le_of_ble_eq_true rfl) ⟨Nat.le_of_ble_eq_true rfl, Nat.le_of_ble_eq_true rfl⟩ (fun r42 w43 => ?_)
      refine rv_ldc h 589 dL_law_589 rv_kc_L_27 ?_
      refine rv_icmp_ne (tgt := 654) h 591 dL_law_591 (by decide) (fun _ => ?_) (fun _ => ?_)
      rotate_left
      · refine rv_iconst h 654 dL_law_654 rv_c0 ?_
        exact rv_retz0 hr 655 dL_law_655
      refine rv_aload_n h 594 dL_law_594 0 rfl ?_
      refine rv_iconst h 595 dL_law_595 rv_c0 ?_
      refine rv_iconst h 596 dL_law_596 rv_c5 ?_
      refine rv_callVi h 597 dL_law_597 (fn_X10_points hJ (0 : Int32) (5 : Int32)  w43) ce_X10_points lk_L_57 rv_s0 rfl rv_cf8 rfl rfl (Nat.le_of_ble_eq_true rfl) ⟨Nat.le_of_ble_eq_true rfl, Nat.le_of_ble_eq_true rfl⟩ (fun r44 w45 => ?_)
      refine rv_ldc h 600 dL_law_600 rv_kc_L_63 ?_
      refine rv_icmp_ne (tgt := 654) h 602 dL_law_602 (by decide) (fun _ => ?_) (fun _ => ?_)
      rotate_left
      · refine rv_iconst h 654 dL_law_654 rv_c0 ?_
        exact rv_retz0 hr 655 dL_law_655
      refine rv_aload_n h 605 dL_law_605 0 rfl ?_
      refine rv_iconst h 606 dL_law_606 rv_c5 ?_
      refine rv_callVi h 607 dL_law_607 (fn_X10_rounds hJ (5 : Int32)  w45) ce_X10_rounds lk_L_64 rv_s0 rfl rv_cf8 rfl rfl (Nat.le_of_ble_eq_true rfl) ⟨Nat.le_of_ble_eq_true rfl, Nat.le_of_ble_eq_true rfl⟩ (fun r46 w47 => ?_)
      refine rv_ldc h 610 dL_law_610 rv_kc_L_27 ?_
      refine rv_icmp_ne (tgt := 654) h 612 dL_law_612 (by decide) (fun _ => ?_) (fun _ => ?_)
      rotate_left
      · refine rv_iconst h 654 dL_law_654 rv_c0 ?_
        exact rv_retz0 hr 655 dL_law_655
      refine rv_aload_n h 615 dL_law_615 0 rfl ?_
      refine rv_iconst h 616 dL_law_616 rv_c0 ?_
      refine rv_iconst h 617 dL_law_617 rv_c0 ?_
      refine rv_bipush (v := 51) h 618 dL_law_618 (by decide +kernel) ?_
      refine rv_iconst h 620 dL_law_620 rv_c1 ?_
      refine rv_callVi h 621 dL_law_621 (fn_X10_agreeing hJ (0 : Int32) (0 : Int32) (51 : Int32) (1 : Int32)  w47) ce_X10_agreeing lk_L_150 rv_s0 rfl rv_cf8 rfl rfl (Nat.le_of_ble_eq_true rfl) ⟨Nat.le_of_ble_eq_true rfl, Nat.le_of_ble_eq_true rfl⟩ (fun r48 w49 => ?_)
      refine rv_ldc h 624 dL_law_624 rv_kc_L_126 ?_
      refine rv_icmp_ne (tgt := 654) h 626 dL_law_626 (by decide) (fun _ => ?_) (fun _ => ?_)
      rotate_left
      · refine rv_iconst h 654 dL_law_654 rv_c0 ?_
        exact rv_retz0 hr 655 dL_law_655
      refine rv_aload_n h 629 dL_law_629 0 rfl ?_
      refine rv_iload_n h 630 dL_law_630 1 rfl ?_
      refine rv_callVi h 631 dL_law_631 (fn_X10_voters hJ r2  w49) ce_X10_voters lk_L_103 rv_s0 rfl rv_cf8 rfl rfl (Nat.le_of_ble_eq_true rfl) ⟨Nat.le_of_ble_eq_true rfl, Nat.le_of_ble_eq_true rfl⟩ (fun r50 w51 => ?_)
      refine rv_ldc h 634 dL_law_634 rv_kc_L_63 ?_
      refine rv_icmp_ne (tgt := 654) h 636 dL_law_636 (by decide) (fun _ => ?_) (fun _ => ?_)
      rotate_left
      · refine rv_iconst h 654 dL_law_654 rv_c0 ?_
        exact rv_retz0 hr 655 dL_law_655
      refine rv_aload_n h 639 dL_law_639 0 rfl ?_
      refine rv_iload h 640 dL_law_640 2 rfl ?_
      refine rv_callVi h 642 dL_law_642 (fn_X10_winner hJ r33  w51) ce_X10_winner lk_L_51 rv_s0 rfl rv_cf8 rfl rfl (Nat.le_of_ble_eq_true rfl) ⟨Nat.le_of_ble_eq_true rfl, Nat.le_of_ble_eq_true rfl⟩ (fun r52 w53 => ?_)
      refine rv_iload h 645 dL_law_645 3 rfl ?_
      refine rv_icmp_ne (tgt := 654) h 647 dL_law_647 (by decide) (fun _ => ?_) (fun _ => ?_)
      rotate_left
      · refine rv_iconst h 654 dL_law_654 rv_c0 ?_
        exact rv_retz0 hr 655 dL_law_655
      refine rv_iconst h 650 dL_law_650 rv_c1 ?_
      refine rv_goto (tgt := 655) h 651 dL_law_651 (by decide) ?_
      exact rv_retz1 hr 655 dL_law_655
    refine rv_if_le (tgt := 572) h 473 dL_law_473 (by decide) (fun _ => ?_) (fun _ => ?_)
    rotate_left
    · refine rv_sub h [3, 5, 1, 0] rfl ?_
      exact hk39 w36
    refine rv_iconst h 476 dL_law_476 rv_c1 ?_
    refine rv_iload_n h 477 dL_law_477 4 rfl ?_
    refine rv_bipush (v := 7) h 478 dL_law_478 (by decide +kernel) ?_
    refine rv_ishr h 480 dL_law_480 ?_
    refine rv_bipush (v := 50) h 481 dL_law_481 (by decide +kernel) ?_
    refine rv_callSi h 483 dL_law_483 (fn_L_low hJ ((xc (0 : Int32)) >>> ((7 : Int32) &&& 31)) (50 : Int32)  w36) ce_L_low lk_L_8 rfl rfl (Nat.le_of_ble_eq_true rfl) ⟨Nat.le_of_ble_eq_true rfl, Nat.le_of_ble_eq_true rfl⟩ (fun r54 w55 => ?_)
    refine rv_iadd h 486 dL_law_486 ?_
    refine rv_top (fun v56 => ?_)
    refine rv_istore (lv' := [(7, .int v56), (6, .int r35), (5, .int r33), (0, .ref b), (1, .ref (ad 0)), (2, .int (xc (0 : Int32))), (3, .int r2)]) h 487 dL_law_487 (by decide) rfl ?_
    refine rv_aload_n h 489 dL_law_489 4 rfl ?_
    refine rv_iload h 490 dL_law_490 2 rfl ?_
    refine rv_iload_n h 492 dL_law_492 5 rfl ?_
    refine rv_iload h 493 dL_law_493 0 rfl ?_
    refine rv_iconst h 495 dL_law_495 rv_c5 ?_
    refine rv_callVi h 496 dL_law_496 (fn_X10_agreeing hJ r33 (xc (0 : Int32)) v56 (5 : Int32)  w55) ce_X10_agreeing lk_L_150 rv_s0 rfl rv_cf8 rfl rfl (Nat.le_of_ble_eq_true rfl) ⟨Nat.le_of_ble_eq_true rfl, Nat.le_of_ble_eq_true rfl⟩ (fun r57 w58 => ?_)
    refine rv_istore (lv' := [(8, .int r57), (7, .int v56), (6, .int r35), (5, .int r33), (0, .ref b), (1, .ref (ad 0)), (2, .int (xc (0 : Int32))), (3, .int r2)]) h 499 dL_law_499 (by decide) rfl ?_
    refine rv_aload_n h 501 dL_law_501 5 rfl ?_
    refine rv_iload h 502 dL_law_502 3 rfl ?_
    refine rv_iload_n h 504 dL_law_504 6 rfl ?_
    refine rv_iload h 505 dL_law_505 1 rfl ?_
    refine rv_callVi h 507 dL_law_507 (fn_X10_sample hJ r33 (xc (0 : Int32)) v56  w58) ce_X10_sample lk_L_120 rv_s0 rfl rv_cf8 rfl rfl (Nat.le_of_ble_eq_true rfl) ⟨Nat.le_of_ble_eq_true rfl, Nat.le_of_ble_eq_true rfl⟩ (fun r59 w60 => ?_)
    refine rv_istore (lv' := [(9, .int r59), (8, .int r57), (7, .int v56), (6, .int r35), (5, .int r33), (0, .ref b), (1, .ref (ad 0)), (2, .int (xc (0 : Int32))), (3, .int r2)]) h 510 dL_law_510 (by decide) rfl ?_
    refine rv_iload h 512 dL_law_512 3 rfl ?_
    refine rv_if_ge (tgt := 534) h 514 dL_law_514 (by decide) (fun _ => ?_) (fun _ => ?_)
    · refine rv_iload h 517 dL_law_517 1 rfl ?_
      refine rv_ldc h 519 dL_law_519 rv_kc_L_27 ?_
      refine rv_icmp_ne (tgt := 570) h 521 dL_law_521 (by decide) (fun _ => ?_) (fun _ => ?_)
      rotate_left
      · refine rv_iconst h 570 dL_law_570 rv_c0 ?_
        exact rv_retz0 hr 571 dL_law_571
      refine rv_iload h 524 dL_law_524 0 rfl ?_
      refine rv_ldc h 526 dL_law_526 rv_kc_L_46 ?_
      refine rv_icmp_eq (tgt := 572) h 528 dL_law_528 (by decide) (fun _ => ?_) (fun _ => ?_)
      · refine rv_sub h [6, 8, 4, 3] rfl ?_
        exact hk39 w60
      refine rv_goto (tgt := 570) h 531 dL_law_531 (by decide) ?_
      refine rv_iconst h 570 dL_law_570 rv_c0 ?_
      exact rv_retz0 hr 571 dL_law_571
    refine rv_iload h 534 dL_law_534 1 rfl ?_
    refine rv_if_lt (tgt := 570) h 536 dL_law_536 (by decide) (fun _ => ?_) (fun _ => ?_)
    · refine rv_iconst h 570 dL_law_570 rv_c0 ?_
      exact rv_retz0 hr 571 dL_law_571
    refine rv_iload h 539 dL_law_539 1 rfl ?_
    refine rv_iconst h 541 dL_law_541 rv_c5 ?_
    refine rv_icmp_gt (tgt := 570) h 542 dL_law_542 (by decide) (fun _ => ?_) (fun _ => ?_)
    · refine rv_iconst h 570 dL_law_570 rv_c0 ?_
      exact rv_retz0 hr 571 dL_law_571
    refine rv_aload_n h 545 dL_law_545 6 rfl ?_
    refine rv_iload h 546 dL_law_546 4 rfl ?_
    refine rv_iload_n h 548 dL_law_548 7 rfl ?_
    refine rv_iload h 549 dL_law_549 2 rfl ?_
    refine rv_iconst h 551 dL_law_551 rv_c1 ?_
    refine rv_callVi h 552 dL_law_552 (fn_X10_agreeing hJ r33 (xc (0 : Int32)) v56 (1 : Int32)  w60) ce_X10_agreeing lk_L_150 rv_s0 rfl rv_cf8 rfl rfl (Nat.le_of_ble_eq_true rfl) ⟨Nat.le_of_ble_eq_true rfl, Nat.le_of_ble_eq_true rfl⟩ (fun r61 w62 => ?_)
    refine rv_iload h 555 dL_law_555 0 rfl ?_
    refine rv_iload h 557 dL_law_557 3 rfl ?_
    refine rv_join (fun (k0 : Int32 → rv_W → rv_R) => ∀ (v63 : Int32) (w64 : rv_W), K 567 [(1, .ref (ad 0)), (3, .int r2), (5, .int r33), (6, .int r35)] (.int v63 :: .int r61 :: []) w64 (k0 v63 w64)) (fun v63 w64 => ?_) (fun k65 hk66 => ?_)
    · refine rv_icmp_eq (tgt := 572) h 567 dL_law_567 (by decide) (fun _ => ?_) (fun _ => ?_)
      · refine rv_sub h [0, 1, 2, 3] rfl ?_
        exact hk39 w64
      refine rv_iconst h 570 dL_law_570 rv_c0 ?_
      exact rv_retz0 hr 571 dL_law_571
    refine rv_icmp_ne (tgt := 566) h 559 dL_law_559 (by decide) (fun _ => ?_) (fun _ => ?_)
    rotate_left
    · refine rv_iconst h 566 dL_law_566 rv_c0 ?_
      refine rv_sub h [6, 8, 4, 3] rfl ?_
      exact hk66 (0 : Int32) w62
    refine rv_iconst h 562 dL_law_562 rv_c1 ?_
    refine rv_goto (tgt := 567) h 563 dL_law_563 (by decide) ?_
    refine rv_sub h [6, 8, 4, 3] rfl ?_
    exact hk66 (1 : Int32) w62
  refine rv_aload_n h 225 dL_law_225 0 rfl ?_
  refine rv_bipush (v := 8) h 226 dL_law_226 (by decide +kernel) ?_
  refine rv_iload h 228 dL_law_228 4 rfl ?_
  refine rv_iadd h 230 dL_law_230 ?_
  refine rv_guard h (fun hn67 => ?_)
  refine hc 231 _ _ _ _ dL_law_231 hn67 ?_
  refine rv_istore (lv' := [(6, .int (xc ((8 : Int32) + v31))), (0, .ref b), (1, .ref (ad 0)), (2, .int (xc (0 : Int32))), (3, .int r2), (5, .int v31)]) h 234 dL_law_234 (by decide) rfl ?_
  refine rv_iload h 236 dL_law_236 0 rfl ?_
  refine rv_bipush (v := 12) h 238 dL_law_238 (by decide +kernel) ?_
  refine rv_callSi h 240 dL_law_240 (fn_L_low hJ (xc ((8 : Int32) + v31)) (12 : Int32)  w32) ce_L_low lk_L_8 rfl rfl (Nat.le_of_ble_eq_true rfl) ⟨Nat.le_of_ble_eq_true rfl, Nat.le_of_ble_eq_true rfl⟩ (fun r68 w69 => ?_)
  refine rv_istore (lv' := [(7, .int r68), (6, .int (xc ((8 : Int32) + v31))), (0, .ref b), (1, .ref (ad 0)), (2, .int (xc (0 : Int32))), (3, .int r2), (5, .int v31)]) h 243 dL_law_243 (by decide) rfl ?_
  refine rv_iload h 245 dL_law_245 1 rfl ?_
  refine rv_iconst h 247 dL_law_247 rv_c4 ?_
  refine rv_ishr h 248 dL_law_248 ?_
  refine rv_iconst h 249 dL_law_249 rv_c1 ?_
  refine rv_iand h 250 dL_law_250 ?_
  refine rv_join (fun (k0 : rv_W → rv_R) => ∀  (w70 : rv_W), K 282 [(0, .ref b), (1, .ref (ad 0)), (2, .int (xc (0 : Int32))), (3, .int r2), (5, .int v31), (6, .int (xc ((8 : Int32) + v31))), (7, .int r68)] ([]) w70 (k0 w70)) (fun w70 => ?_) (fun k71 hk72 => ?_)
  · refine rv_iload_n h 282 dL_law_282 3 rfl ?_
    refine rv_join (fun (k0 : rv_W → rv_R) => ∀  (w73 : rv_W), K 401 [(0, .ref b), (1, .ref (ad 0)), (2, .int (xc (0 : Int32))), (3, .int r2), (5, .int v31), (6, .int (xc ((8 : Int32) + v31))), (7, .int r68)] ([]) w73 (k0 w73)) (fun w73 => ?_) (fun k74 hk75 => ?_)
    · refine rv_aload_n h 401 dL_law_401 1 rfl ?_
      refine rv_callSi h 402 dL_law_402 (fn_L_arePairsSound hJ   w73) ce_L_arePairsSound lk_L_128 rfl rfl (Nat.le_of_ble_eq_true rfl) ⟨Nat.le_of_ble_eq_true rfl, Nat.le_of_ble_eq_true rfl⟩ (fun r76 w77 => ?_)
      refine rv_if_eq (tgt := 446) h 405 dL_law_405 (by decide) (fun _ => ?_) (fun _ => ?_)
      · refine rv_iconst h 446 dL_law_446 rv_c0 ?_
        exact rv_retz0 hr 447 dL_law_447
      refine rv_aload_n h 408 dL_law_408 1 rfl ?_
      refine rv_callSi h 409 dL_law_409 (fn_L_areWinnersSound hJ   w77) ce_L_areWinnersSound lk_L_132 rfl rfl (Nat.le_of_ble_eq_true rfl) ⟨Nat.le_of_ble_eq_true rfl, Nat.le_of_ble_eq_true rfl⟩ (fun r78 w79 => ?_)
      refine rv_if_eq (tgt := 446) h 412 dL_law_412 (by decide) (fun _ => ?_) (fun _ => ?_)
      · refine rv_iconst h 446 dL_law_446 rv_c0 ?_
        exact rv_retz0 hr 447 dL_law_447
      refine rv_aload_n h 415 dL_law_415 1 rfl ?_
      refine rv_iload h 416 dL_law_416 6 rfl ?_
      refine rv_callSi h 418 dL_law_418 (fn_L_areParadoxesSound hJ r68  w79) ce_L_areParadoxesSound lk_L_142 rfl rfl (Nat.le_of_ble_eq_true rfl) ⟨Nat.le_of_ble_eq_true rfl, Nat.le_of_ble_eq_true rfl⟩ (fun r80 w81 => ?_)
      refine rv_if_eq (tgt := 446) h 421 dL_law_421 (by decide) (fun _ => ?_) (fun _ => ?_)
      · refine rv_iconst h 446 dL_law_446 rv_c0 ?_
        exact rv_retz0 hr 447 dL_law_447
      refine rv_iload_n h 424 dL_law_424 3 rfl ?_
      refine rv_if_le (tgt := 448) h 425 dL_law_425 (by decide) (fun _ => ?_) (fun _ => ?_)
      rotate_left
      · refine rv_iinc h 448 (fun v82 => [(5, .int v82), (0, .ref b), (1, .ref (ad 0)), (2, .int (xc (0 : Int32))), (3, .int r2), (6, .int (xc ((8 : Int32) + v31))), (7, .int r68)]) dL_law_448 4 rfl rv_c1 (by decide) (fun _ => rfl) (fun v82 => ?_)
        refine rv_goto (tgt := 219) h 451 dL_law_451 (by decide) ?_
        refine rv_sub h [1, 2, 3, 4, 0] rfl ?_
        exact ih30 v82 w81
      refine rv_aload_n h 428 dL_law_428 1 rfl ?_
      refine rv_iload h 429 dL_law_429 6 rfl ?_
      refine rv_iload h 431 dL_law_431 5 rfl ?_
      refine rv_bipush (v := 17) h 433 dL_law_433 (by decide +kernel) ?_
      refine rv_ishr h 435 dL_law_435 ?_
      refine rv_iload_n h 436 dL_law_436 3 rfl ?_
      refine rv_callSi h 437 dL_law_437 (fn_L_low hJ ((xc ((8 : Int32) + v31)) >>> ((17 : Int32) &&& 31)) r2  w81) ce_L_low lk_L_8 rfl rfl (Nat.le_of_ble_eq_true rfl) ⟨Nat.le_of_ble_eq_true rfl, Nat.le_of_ble_eq_true rfl⟩ (fun r83 w84 => ?_)
      refine rv_callSi h 440 dL_law_440 (fn_L_isBrought hJ r68 r83  w84) ce_L_isBrought lk_L_146 rfl rfl (Nat.le_of_ble_eq_true rfl) ⟨Nat.le_of_ble_eq_true rfl, Nat.le_of_ble_eq_true rfl⟩ (fun r85 w86 => ?_)
      refine rv_if_ne (tgt := 448) h 443 dL_law_443 (by decide) (fun _ => ?_) (fun _ => ?_)
      · refine rv_iconst h 446 dL_law_446 rv_c0 ?_
        exact rv_retz0 hr 447 dL_law_447
      refine rv_iinc h 448 (fun v87 => [(5, .int v87), (0, .ref b), (1, .ref (ad 0)), (2, .int (xc (0 : Int32))), (3, .int r2), (6, .int (xc ((8 : Int32) + v31))), (7, .int r68)]) dL_law_448 4 rfl rv_c1 (by decide) (fun _ => rfl) (fun v87 => ?_)
      refine rv_goto (tgt := 219) h 451 dL_law_451 (by decide) ?_
      refine rv_sub h [1, 2, 3, 4, 0] rfl ?_
      exact ih30 v87 w86
    refine rv_if_le (tgt := 401) h 283 dL_law_283 (by decide) (fun _ => ?_) (fun _ => ?_)
    rotate_left
    · refine rv_sub h [0, 1, 2, 3, 4, 5, 6] rfl ?_
      exact hk75 w70
    refine rv_iload h 286 dL_law_286 5 rfl ?_
    refine rv_bipush (v := 10) h 288 dL_law_288 (by decide +kernel) ?_
    refine rv_ishr h 290 dL_law_290 ?_
    refine rv_iconst h 291 dL_law_291 rv_c1 ?_
    refine rv_iand h 292 dL_law_292 ?_
    refine rv_if_ne (tgt := 401) h 293 dL_law_293 (by decide) (fun _ => ?_) (fun _ => ?_)
    rotate_left
    · refine rv_sub h [0, 1, 2, 3, 4, 5, 6] rfl ?_
      exact hk75 w70
    refine rv_iload h 296 dL_law_296 5 rfl ?_
    refine rv_bipush (v := 11) h 298 dL_law_298 (by decide +kernel) ?_
    refine rv_ishr h 300 dL_law_300 ?_
    refine rv_iload_n h 301 dL_law_301 3 rfl ?_
    refine rv_callSi h 302 dL_law_302 (fn_L_low hJ ((xc ((8 : Int32) + v31)) >>> ((11 : Int32) &&& 31)) r2  w70) ce_L_low lk_L_8 rfl rfl (Nat.le_of_ble_eq_true rfl) ⟨Nat.le_of_ble_eq_true rfl, Nat.le_of_ble_eq_true rfl⟩ (fun r88 w89 => ?_)
    refine rv_istore (lv' := [(8, .int r88), (0, .ref b), (1, .ref (ad 0)), (2, .int (xc (0 : Int32))), (3, .int r2), (5, .int v31), (6, .int (xc ((8 : Int32) + v31))), (7, .int r68)]) h 305 dL_law_305 (by decide) rfl ?_
    refine rv_aload_n h 307 dL_law_307 2 rfl ?_
    refine rv_iload h 308 dL_law_308 0 rfl ?_
    refine rv_callVi h 310 dL_law_310 (fn_X10_ballot hJ r88  w89) ce_X10_ballot lk_L_90 rv_s0 rfl rv_cf8 rfl rfl (Nat.le_of_ble_eq_true rfl) ⟨Nat.le_of_ble_eq_true rfl, Nat.le_of_ble_eq_true rfl⟩ (fun r90 w91 => ?_)
    refine rv_istore (lv' := [(9, .int r90), (8, .int r88), (0, .ref b), (1, .ref (ad 0)), (2, .int (xc (0 : Int32))), (3, .int r2), (5, .int v31), (6, .int (xc ((8 : Int32) + v31))), (7, .int r68)]) h 313 dL_law_313 (by decide) rfl ?_
    refine rv_iload h 315 dL_law_315 7 rfl ?_
    refine rv_bipush (v := 14) h 317 dL_law_317 (by decide +kernel) ?_
    refine rv_ishr h 319 dL_law_319 ?_
    refine rv_iconst h 320 dL_law_320 rv_c5 ?_
    refine rv_callSi h 321 dL_law_321 (fn_L_low hJ ((xc ((8 : Int32) + v31)) >>> ((14 : Int32) &&& 31)) (5 : Int32)  w91) ce_L_low lk_L_8 rfl rfl (Nat.le_of_ble_eq_true rfl) ⟨Nat.le_of_ble_eq_true rfl, Nat.le_of_ble_eq_true rfl⟩ (fun r92 w93 => ?_)
    refine rv_istore (lv' := [(10, .int r92), (9, .int r90), (8, .int r88), (0, .ref b), (1, .ref (ad 0)), (2, .int (xc (0 : Int32))), (3, .int r2), (5, .int v31), (6, .int (xc ((8 : Int32) + v31))), (7, .int r68)]) h 324 dL_law_324 (by decide) rfl ?_
    refine rv_aload_n h 326 dL_law_326 4 rfl ?_
    refine rv_iload h 327 dL_law_327 2 rfl ?_
    refine rv_iload h 329 dL_law_329 0 rfl ?_
    refine rv_callVi h 331 dL_law_331 (fn_X10_exchange hJ r88 r92  w93) ce_X10_exchange lk_L_139 rv_s0 rfl rv_cf8 rfl rfl (Nat.le_of_ble_eq_true rfl) ⟨Nat.le_of_ble_eq_true rfl, Nat.le_of_ble_eq_true rfl⟩ (fun r94 w95 => ?_)
    refine rv_istore (lv' := [(11, .int r94), (10, .int r92), (9, .int r90), (8, .int r88), (0, .ref b), (1, .ref (ad 0)), (2, .int (xc (0 : Int32))), (3, .int r2), (5, .int v31), (6, .int (xc ((8 : Int32) + v31))), (7, .int r68)]) h 334 dL_law_334 (by decide) rfl ?_
    refine rv_iload h 336 dL_law_336 0 rfl ?_
    refine rv_if_le (tgt := 375) h 338 dL_law_338 (by decide) (fun _ => ?_) (fun _ => ?_)
    rotate_left
    · refine rv_iload h 375 dL_law_375 0 rfl ?_
      refine rv_ldc h 377 dL_law_377 rv_kc_L_63 ?_
      refine rv_icmp_ne (tgt := 399) h 379 dL_law_379 (by decide) (fun _ => ?_) (fun _ => ?_)
      rotate_left
      · refine rv_iconst h 399 dL_law_399 rv_c0 ?_
        exact rv_retz0 hr 400 dL_law_400
      refine rv_iload h 382 dL_law_382 2 rfl ?_
      refine rv_iload h 384 dL_law_384 2 rfl ?_
      refine rv_bipush (v := 10) h 386 dL_law_386 (by decide +kernel) ?_
      refine rv_irem h 388 dL_law_388 (by decide) ?_
      refine rv_iconst h 389 dL_law_389 rv_c1 ?_
      refine rv_isub h 390 dL_law_390 ?_
      refine rv_callSi h 391 dL_law_391 (fn_L_place hJ r90 ((r90 - r90 / (10 : Int32) * (10 : Int32)) - (1 : Int32))  w95) ce_L_place lk_L_93 rfl rfl (Nat.le_of_ble_eq_true rfl) ⟨Nat.le_of_ble_eq_true rfl, Nat.le_of_ble_eq_true rfl⟩ (fun r96 w97 => ?_)
      refine rv_iload h 394 dL_law_394 1 rfl ?_
      refine rv_icmp_le (tgt := 401) h 396 dL_law_396 (by decide) (fun _ => ?_) (fun _ => ?_)
      · refine rv_iconst h 399 dL_law_399 rv_c0 ?_
        exact rv_retz0 hr 400 dL_law_400
      refine rv_sub h [4, 5, 6, 7, 8, 9, 10] rfl ?_
      exact hk75 w97
    refine rv_aload_n h 341 dL_law_341 5 rfl ?_
    refine rv_iload h 342 dL_law_342 3 rfl ?_
    refine rv_iload h 344 dL_law_344 1 rfl ?_
    refine rv_callVi h 346 dL_law_346 (fn_X10_exchange hJ r88 r92  w95) ce_X10_exchange lk_L_139 rv_s0 rfl rv_cf8 rfl rfl (Nat.le_of_ble_eq_true rfl) ⟨Nat.le_of_ble_eq_true rfl, Nat.le_of_ble_eq_true rfl⟩ (fun r98 w99 => ?_)
    refine rv_iload h 349 dL_law_349 2 rfl ?_
    refine rv_icmp_ne (tgt := 399) h 351 dL_law_351 (by decide) (fun _ => ?_) (fun _ => ?_)
    rotate_left
    · refine rv_iconst h 399 dL_law_399 rv_c0 ?_
      exact rv_retz0 hr 400 dL_law_400
    refine rv_aload_n h 354 dL_law_354 5 rfl ?_
    refine rv_callVi h 355 dL_law_355 (fn_X10_undo hJ   w99) ce_X10_undo lk_L_112 rv_s0 rfl rv_cf8 rfl rfl (Nat.le_of_ble_eq_true rfl) ⟨Nat.le_of_ble_eq_true rfl, Nat.le_of_ble_eq_true rfl⟩ (fun r100 w101 => ?_)
    refine rv_if_lt (tgt := 399) h 358 dL_law_358 (by decide) (fun _ => ?_) (fun _ => ?_)
    · refine rv_iconst h 399 dL_law_399 rv_c0 ?_
      exact rv_retz0 hr 400 dL_law_400
    refine rv_aload_n h 361 dL_law_361 5 rfl ?_
    refine rv_iload h 362 dL_law_362 3 rfl ?_
    refine rv_callVi h 364 dL_law_364 (fn_X10_ballot hJ r88  w101) ce_X10_ballot lk_L_90 rv_s0 rfl rv_cf8 rfl rfl (Nat.le_of_ble_eq_true rfl) ⟨Nat.le_of_ble_eq_true rfl, Nat.le_of_ble_eq_true rfl⟩ (fun r102 w103 => ?_)
    refine rv_iload h 367 dL_law_367 0 rfl ?_
    refine rv_icmp_eq (tgt := 401) h 369 dL_law_369 (by decide) (fun _ => ?_) (fun _ => ?_)
    · refine rv_sub h [4, 5, 6, 7, 8, 9, 10] rfl ?_
      exact hk75 w103
    refine rv_goto (tgt := 399) h 372 dL_law_372 (by decide) ?_
    refine rv_iconst h 399 dL_law_399 rv_c0 ?_
    exact rv_retz0 hr 400 dL_law_400
  refine rv_if_ne (tgt := 282) h 251 dL_law_251 (by decide) (fun _ => ?_) (fun _ => ?_)
  rotate_left
  · refine rv_sub h [2, 3, 4, 5, 6, 1, 0] rfl ?_
    exact hk72 w69
  refine rv_aload_n h 254 dL_law_254 3 rfl ?_
  refine rv_iload h 255 dL_law_255 1 rfl ?_
  refine rv_iconst h 257 dL_law_257 rv_c5 ?_
  refine rv_ishr h 258 dL_law_258 ?_
  refine rv_iconst h 259 dL_law_259 rv_c5 ?_
  refine rv_callSi h 260 dL_law_260 (fn_L_low hJ ((xc ((8 : Int32) + v31)) >>> ((5 : Int32) &&& 31)) (5 : Int32)  w69) ce_L_low lk_L_8 rfl rfl (Nat.le_of_ble_eq_true rfl) ⟨Nat.le_of_ble_eq_true rfl, Nat.le_of_ble_eq_true rfl⟩ (fun r104 w105 => ?_)
  refine rv_iload h 263 dL_law_263 1 rfl ?_
  refine rv_bipush (v := 8) h 265 dL_law_265 (by decide +kernel) ?_
  refine rv_ishr h 267 dL_law_267 ?_
  refine rv_iconst h 268 dL_law_268 rv_c3 ?_
  refine rv_iand h 269 dL_law_269 ?_
  refine rv_join (fun (k0 : Int32 → rv_W → rv_R) => ∀ (v106 : Int32) (w107 : rv_W), K 278 [(0, .ref b), (1, .ref (ad 0)), (2, .int (xc (0 : Int32))), (3, .int r2), (5, .int v31), (6, .int (xc ((8 : Int32) + v31))), (7, .int r68)] (.int v106 :: .int r104 :: .ref (ad 0) :: []) w107 (k0 v106 w107)) (fun v106 w107 => ?_) (fun k108 hk109 => ?_)
  · refine rv_callVi h 278 dL_law_278 (fn_X10_setStanding hJ r104 v106  w107) ce_X10_setStanding lk_L_135 rv_s0 rfl rv_cf8 rfl rfl (Nat.le_of_ble_eq_true rfl) ⟨Nat.le_of_ble_eq_true rfl, Nat.le_of_ble_eq_true rfl⟩ (fun r110 w111 => ?_)
    refine rv_pop h 281 dL_law_281 rfl ?_
    refine rv_sub h [0, 1, 2, 3, 4, 5, 6] rfl ?_
    exact hk72 w111
  refine rv_if_ne (tgt := 277) h 270 dL_law_270 (by decide) (fun _ => ?_) (fun _ => ?_)
  rotate_left
  · refine rv_iconst h 277 dL_law_277 rv_c0 ?_
    refine rv_sub h [2, 3, 4, 5, 6, 1, 0] rfl ?_
    exact hk109 (0 : Int32) w105
  refine rv_iconst h 273 dL_law_273 rv_c1 ?_
  refine rv_goto (tgt := 278) h 274 dL_law_274 (by decide) ?_
  refine rv_sub h [2, 3, 4, 5, 6, 1, 0] rfl ?_
  exact hk109 (1 : Int32) w105
