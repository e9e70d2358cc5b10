def f_L_areParadoxesSound (p2 : Int32) (w : rv_W) : rv_R :=
  rv_bd (f_X10_groupCount  w) (fun (r1 : Int32) (w2 : rv_W) =>
  rv_bd (f_X10_winner p2 w2) (fun (r3 : Int32) (w4 : rv_W) =>
  rv_bd (f_X10_winners p2 w4) (fun (r5 : Int32) (w6 : rv_W) =>
  rv_bd (f_X10_standing  w6) (fun (r7 : Int32) (w8 : rv_W) =>
  rv_ltl ((((r5).toInt64 * (64 : Int64)) + (r7).toInt64)) (fun (g9 : Int64) =>
  rv_bd (f_X10_strategists p2 w8) (fun (r10 : Int32) (w11 : rv_W) =>
  if (r10 >>> (r1 &&& 31)) = 0 then
  rv_bd (f_X10_absentees p2 w11) (fun (r12 : Int32) (w13 : rv_W) =>
  if (r12 >>> (r1 &&& 31)) = 0 then
  rv_bd (f_X10_raisers p2 w13) (fun (r14 : Int32) (w15 : rv_W) =>
  if (r14 >>> (r1 &&& 31)) = 0 then
  rv_bd (f_X10_spoilers p2 w15) (fun (r16 : Int32) (w17 : rv_W) =>
  rv_bd (f_X10_standing  w17) (fun (r18 : Int32) (w19 : rv_W) =>
  if (r16 &&& (r18 ^^^ (-1 : Int32))) = 0 then
  rv_jn (fun  (w20 : rv_W) =>
  rv_jn (fun  (w23 : rv_W) =>
  rv_jn (fun  (w26 : rv_W) =>
  rv_fx (fun _ _ => none) (fun (ag29 : Int32 → rv_W → rv_R) (v31 : Int32) (w32 : rv_W) =>
  if v31 < r1 then
  rv_bd (f_X10_strategy p2 v31 w32) (fun (r42 : Int32) (w43 : rv_W) =>
  rv_bd (f_X10_ballot v31 w43) (fun (r44 : Int32) (w45 : rv_W) =>
  rv_jn (fun (v46 : Int32) (w47 : rv_W) =>
  rv_jn (fun (v50 : Int32) (w51 : rv_W) =>
  if v46 = v50 then
  rv_jn (fun  (w54 : rv_W) =>
  if v46 = 0 then
  rv_bd (f_X10_standing  w54) (fun (r58 : Int32) (w59 : rv_W) =>
  if r58 = 0 then
  rv_lt (v31 + (1 : Int32)) (fun (v60 : Int32) =>
  ag29 v60 w59)
  else
  rv_bd (f_X10_strategyAt p2 v31 (0 : Int32) w59) (fun (r61 : Int32) (w62 : rv_W) =>
  if r61 = (-1000000 : Int32) then
  rv_lt (v31 + (1 : Int32)) (fun (v63 : Int32) =>
  ag29 v63 w62)
  else
  some ((0 : Int32), w62)))
  else
  rv_lt (v31 + (1 : Int32)) (fun (v57 : Int32) =>
  ag29 v57 w54)) (fun (k55 : rv_W → rv_R) =>
  if v46 = 0 then
  k55 w51
  else
  rv_bd (f_L_place r44 r42 w51) (fun (r64 : Int32) (w65 : rv_W) =>
  rv_bd (f_L_place r44 r3 w65) (fun (r66 : Int32) (w67 : rv_W) =>
  if r64 < r66 then
  k55 w67
  else
  some ((0 : Int32), w67))))
  else
  some ((0 : Int32), w51)) (fun (k52 : Int32 → rv_W → rv_R) =>
  if r42 = (-1000000 : Int32) then
  k52 (0 : Int32) w47
  else
  k52 (1 : Int32) w47)) (fun (k48 : Int32 → rv_W → rv_R) =>
  if ((r10 >>> (v31 &&& 31)) &&& (1 : Int32)) = (1 : Int32) then
  k48 (1 : Int32) w45
  else
  k48 (0 : Int32) w45)))
  else
  rv_bd (f_X10_removals p2 w32) (fun (r33 : Int32) (w34 : rv_W) =>
  rv_jn (fun  (w35 : rv_W) =>
  rv_bd (f_X10_winners p2 w35) (fun (r38 : Int32) (w39 : rv_W) =>
  rv_bd (f_X10_standing  w39) (fun (r40 : Int32) (w41 : rv_W) =>
  if (lg_cmp (((r38).toInt64 * (64 : Int64)) + (r40).toInt64) g9) = 0 then
  some ((1 : Int32), w41)
  else
  some ((0 : Int32), w41)))) (fun (k36 : rv_W → rv_R) =>
  if r33 = (-1000000 : Int32) then
  k36 w34
  else
  if r33 < (1 : Int32) then
  some ((0 : Int32), w34)
  else
  if (100 : Int32) < r33 then
  some ((0 : Int32), w34)
  else
  if r3 < 0 then
  some ((0 : Int32), w34)
  else
  k36 w34))) rv_FU (0 : Int32) w26) (fun (k27 : rv_W → rv_R) =>
  rv_jn (fun  (w68 : rv_W) =>
  rv_bd (f_X10_raisers p2 w68) (fun (r71 : Int32) (w72 : rv_W) =>
  if r71 = 0 then
  k27 w72
  else
  some ((0 : Int32), w72))) (fun (k69 : rv_W → rv_R) =>
  if p2 < (4 : Int32) then
  k69 w23
  else
  if p2 = (8 : Int32) then
  k69 w23
  else
  if p2 = (11 : Int32) then
  k69 w23
  else
  k27 w23))) (fun (k24 : rv_W → rv_R) =>
  if p2 < (2 : Int32) then
  rv_bd (f_X10_absentees p2 w20) (fun (r73 : Int32) (w74 : rv_W) =>
  if r73 = 0 then
  rv_bd (f_X10_split p2 w74) (fun (r75 : Int32) (w76 : rv_W) =>
  if r75 = (-1000000 : Int32) then
  k24 w76
  else
  some ((0 : Int32), w76))
  else
  some ((0 : Int32), w74))
  else
  k24 w20)) (fun (k21 : rv_W → rv_R) =>
  if r3 < 0 then
  k21 w19
  else
  rv_bd (f_X10_spoilers p2 w19) (fun (r77 : Int32) (w78 : rv_W) =>
  if ((r77 >>> (r3 &&& 31)) &&& (1 : Int32)) = (1 : Int32) then
  some ((0 : Int32), w78)
  else
  k21 w78))
  else
  some ((0 : Int32), w19)))
  else
  some ((0 : Int32), w15))
  else
  some ((0 : Int32), w13))
  else
  some ((0 : Int32), w11)))))))
set_option maxRecDepth 100000 in
set_option maxHeartbeats 4000000 in
theorem fn_L_areParadoxesSound {l : Launch} {D : va_G} {ad : Nat → Nat} {ca : Nat → ClassId} (hJ : rv_J ad) (p2 : Int32)  (w : rv_W) : rv_Fn l D ad ca yL_areParadoxesSound cL_areParadoxesSound 11 (some .boolean) 7 173 [.ref (ad 0), .int p2] w (f_L_areParadoxesSound p2 w) := by
  refine rv_mk (lv := [(0, .ref (ad 0)), (1, .int p2)]) hJ (by decide +kernel) (Nat.le_of_ble_eq_true rfl) rfl (fun K h hr => ?_)
  have h : rv_Rl D ad ca l RL cL_areParadoxesSound 11 7 173 K := h
  unfold f_L_areParadoxesSound
  refine rv_aload_n h 0 dL_areParadoxesSound_0 0 rfl ?_
  refine rv_callVi h 1 dL_areParadoxesSound_1 (fn_X10_groupCount hJ   w) ce_X10_groupCount lk_L_67 rv_s0 rfl rv_cf8 rfl rfl (Nat.le_of_ble_eq_true rfl) ⟨Nat.le_of_ble_eq_true rfl, Nat.le_of_ble_eq_true rfl⟩ (fun r1 w2 => ?_)
  refine rv_istore_n (lv' := [(2, .int r1), (0, .ref (ad 0)), (1, .int p2)]) h 4 dL_areParadoxesSound_4 (by decide) rfl ?_
  refine rv_aload_n h 5 dL_areParadoxesSound_5 1 rfl ?_
  refine rv_iload_n h 6 dL_areParadoxesSound_6 2 rfl ?_
  refine rv_callVi h 7 dL_areParadoxesSound_7 (fn_X10_winner hJ p2  w2) ce_X10_winner lk_L_51 rv_s0 rfl rv_cf8 rfl rfl (Nat.le_of_ble_eq_true rfl) ⟨Nat.le_of_ble_eq_true rfl, Nat.le_of_ble_eq_true rfl⟩ (fun r3 w4 => ?_)
  refine rv_istore_n (lv' := [(3, .int r3), (2, .int r1), (0, .ref (ad 0)), (1, .int p2)]) h 10 dL_areParadoxesSound_10 (by decide) rfl ?_
  refine rv_aload_n h 11 dL_areParadoxesSound_11 2 rfl ?_
  refine rv_iload_n h 12 dL_areParadoxesSound_12 3 rfl ?_
  refine rv_callVi h 13 dL_areParadoxesSound_13 (fn_X10_winners hJ p2  w4) ce_X10_winners lk_L_47 rv_s0 rfl rv_cf8 rfl rfl (Nat.le_of_ble_eq_true rfl) ⟨Nat.le_of_ble_eq_true rfl, Nat.le_of_ble_eq_true rfl⟩ (fun r5 w6 => ?_)
  refine rv_i2l h 16 dL_areParadoxesSound_16 ?_
  refine rv_ldc2 h 17 dL_areParadoxesSound_17 rv_kl_L_70 ?_
  refine rv_lmul h 20 dL_areParadoxesSound_20 ?_
  refine rv_aload_n h 21 dL_areParadoxesSound_21 2 rfl ?_
  refine rv_callVi h 22 dL_areParadoxesSound_22 (fn_X10_standing hJ   w6) ce_X10_standing lk_L_21 rv_s0 rfl rv_cf8 rfl rfl (Nat.le_of_ble_eq_true rfl) ⟨Nat.le_of_ble_eq_true rfl, Nat.le_of_ble_eq_true rfl⟩ (fun r7 w8 => ?_)
  refine rv_i2l h 25 dL_areParadoxesSound_25 ?_
  refine rv_ladd h 26 dL_areParadoxesSound_26 ?_
  refine rv_topl (fun g9 => ?_)
  refine rv_lstore (lv' := [(4, .long g9), (3, .int r3), (2, .int r1), (0, .ref (ad 0)), (1, .int p2)]) h 27 dL_areParadoxesSound_27 (by decide) rfl ?_
  refine rv_aload_n h 29 dL_areParadoxesSound_29 3 rfl ?_
  refine rv_iload_n h 30 dL_areParadoxesSound_30 4 rfl ?_
  refine rv_callVi h 31 dL_areParadoxesSound_31 (fn_X10_strategists hJ p2  w8) ce_X10_strategists lk_L_72 rv_s0 rfl rv_cf8 rfl rfl (Nat.le_of_ble_eq_true rfl) ⟨Nat.le_of_ble_eq_true rfl, Nat.le_of_ble_eq_true rfl⟩ (fun r10 w11 => ?_)
  refine rv_istore (lv' := [(6, .int r10), (4, .long g9), (3, .int r3), (2, .int r1), (0, .ref (ad 0)), (1, .int p2)]) h 34 dL_areParadoxesSound_34 (by decide) rfl ?_
  refine rv_iload h 36 dL_areParadoxesSound_36 0 rfl ?_
  refine rv_iload_n h 38 dL_areParadoxesSound_38 3 rfl ?_
  refine rv_ishr h 39 dL_areParadoxesSound_39 ?_
  refine rv_if_ne (tgt := 95) h 40 dL_areParadoxesSound_40 (by decide) (fun _ => ?_) (fun _ => ?_)
  rotate_left
  · refine rv_iconst h 95 dL_areParadoxesSound_95 rv_c0 ?_
    exact rv_retz0 hr 96 dL_areParadoxesSound_96
  refine rv_aload_n h 43 dL_areParadoxesSound_43 4 rfl ?_
  refine rv_iload_n h 44 dL_areParadoxesSound_44 5 rfl ?_
  refine rv_callVi h 45 dL_areParadoxesSound_45 (fn_X10_absentees hJ p2  w11) ce_X10_absentees lk_L_75 rv_s0 rfl rv_cf8 rfl rfl (Nat.le_of_ble_eq_true rfl) ⟨Nat.le_of_ble_eq_true rfl, Nat.le_of_ble_eq_true rfl⟩ (fun r12 w13 => ?_)
  refine rv_iload_n h 48 dL_areParadoxesSound_48 3 rfl ?_
  refine rv_ishr h 49 dL_areParadoxesSound_49 ?_
  refine rv_if_ne (tgt := 95) h 50 dL_areParadoxesSound_50 (by decide) (fun _ => ?_) (fun _ => ?_)
  rotate_left
  · refine rv_iconst h 95 dL_areParadoxesSound_95 rv_c0 ?_
    exact rv_retz0 hr 96 dL_areParadoxesSound_96
  refine rv_aload_n h 53 dL_areParadoxesSound_53 4 rfl ?_
  refine rv_iload_n h 54 dL_areParadoxesSound_54 5 rfl ?_
  refine rv_callVi h 55 dL_areParadoxesSound_55 (fn_X10_raisers hJ p2  w13) ce_X10_raisers lk_L_78 rv_s0 rfl rv_cf8 rfl rfl (Nat.le_of_ble_eq_true rfl) ⟨Nat.le_of_ble_eq_true rfl, Nat.le_of_ble_eq_true rfl⟩ (fun r14 w15 => ?_)
  refine rv_iload_n h 58 dL_areParadoxesSound_58 3 rfl ?_
  refine rv_ishr h 59 dL_areParadoxesSound_59 ?_
  refine rv_if_ne (tgt := 95) h 60 dL_areParadoxesSound_60 (by decide) (fun _ => ?_) (fun _ => ?_)
  rotate_left
  · refine rv_iconst h 95 dL_areParadoxesSound_95 rv_c0 ?_
    exact rv_retz0 hr 96 dL_areParadoxesSound_96
  refine rv_aload_n h 63 dL_areParadoxesSound_63 4 rfl ?_
  refine rv_iload_n h 64 dL_areParadoxesSound_64 5 rfl ?_
  refine rv_callVi h 65 dL_areParadoxesSound_65 (fn_X10_spoilers hJ p2  w15) ce_X10_spoilers lk_L_81 rv_s0 rfl rv_cf8 rfl rfl (Nat.le_of_ble_eq_true rfl) ⟨Nat.le_of_ble_eq_true rfl, Nat.le_of_ble_eq_true rfl⟩ (fun r16 w17 => ?_)
  refine rv_aload_n h 68 dL_areParadoxesSound_68 4 rfl ?_
  refine rv_callVi h 69 dL_areParadoxesSound_69 (fn_X10_standing hJ   w17) ce_X10_standing lk_L_21 rv_s0 rfl rv_cf8 rfl rfl (Nat.le_of_ble_eq_true rfl) ⟨Nat.le_of_ble_eq_true rfl, Nat.le_of_ble_eq_true rfl⟩ (fun r18 w19 => ?_)
  refine rv_iconst h 72 dL_areParadoxesSound_72 rv_cm1 ?_
  refine rv_ixor h 73 dL_areParadoxesSound_73 ?_
  refine rv_iand h 74 dL_areParadoxesSound_74 ?_
  refine rv_if_ne (tgt := 95) h 75 dL_areParadoxesSound_75 (by decide) (fun _ => ?_) (fun _ => ?_)
  rotate_left
  · refine rv_iconst h 95 dL_areParadoxesSound_95 rv_c0 ?_
    exact rv_retz0 hr 96 dL_areParadoxesSound_96
  refine rv_iload_n h 78 dL_areParadoxesSound_78 2 rfl ?_
  refine rv_join (fun (k0 : rv_W → rv_R) => ∀  (w20 : rv_W), K 97 [(0, .ref (ad 0)), (1, .int p2), (2, .int r1), (3, .int r3), (4, .long g9), (6, .int r10)] ([]) w20 (k0 w20)) (fun w20 => ?_) (fun k21 hk22 => ?_)
  · refine rv_iload_n h 97 dL_areParadoxesSound_97 1 rfl ?_
    refine rv_iconst h 98 dL_areParadoxesSound_98 rv_c2 ?_
    refine rv_join (fun (k0 : rv_W → rv_R) => ∀  (w23 : rv_W), K 120 [(0, .ref (ad 0)), (1, .int p2), (2, .int r1), (3, .int r3), (4, .long g9), (6, .int r10)] ([]) w23 (k0 w23)) (fun w23 => ?_) (fun k24 hk25 => ?_)
    · refine rv_iload_n h 120 dL_areParadoxesSound_120 1 rfl ?_
      refine rv_iconst h 121 dL_areParadoxesSound_121 rv_c4 ?_
      refine rv_join (fun (k0 : rv_W → rv_R) => ∀  (w26 : rv_W), K 147 [(0, .ref (ad 0)), (1, .int p2), (2, .int r1), (3, .int r3), (4, .long g9), (6, .int r10)] ([]) w26 (k0 w26)) (fun w26 => ?_) (fun k27 hk28 => ?_)
      · refine rv_iconst h 147 dL_areParadoxesSound_147 rv_c0 ?_
        refine rv_istore (lv' := [(7, .int (0 : Int32)), (0, .ref (ad 0)), (1, .int p2), (2, .int r1), (3, .int r3), (4, .long g9), (6, .int r10)]) h 148 dL_areParadoxesSound_148 (by decide) rfl ?_
        refine rv_sub h [1, 2, 3, 4, 5, 6, 0] rfl ?_
        refine rv_fx_ind (fun (a0 : Int32 → rv_W → rv_R) => ∀ (v31 : Int32) (w32 : rv_W), K 150 [(0, .ref (ad 0)), (1, .int p2), (2, .int r1), (3, .int r3), (4, .long g9), (6, .int r10), (7, .int v31)] [] w32 (a0 v31 w32)) (fun _ _ => rv_none h) (fun ag29 ih30 v31 w32 => ?_) rv_FU (0 : Int32) w26
        refine rv_iload h 150 dL_areParadoxesSound_150 6 rfl ?_
        refine rv_iload_n h 152 dL_areParadoxesSound_152 2 rfl ?_
        refine rv_icmp_ge (tgt := 262) h 153 dL_areParadoxesSound_153 (by decide) (fun _ => ?_) (fun _ => ?_)
        rotate_left
        · refine rv_aload_n h 262 dL_areParadoxesSound_262 0 rfl ?_
          refine rv_iload_n h 263 dL_areParadoxesSound_263 1 rfl ?_
          refine rv_callVi h 264 dL_areParadoxesSound_264 (fn_X10_removals hJ p2  w32) ce_X10_removals lk_L_100 rv_s0 rfl rv_cf8 rfl rfl (Nat.le_of_ble_eq_true rfl) ⟨Nat.le_of_ble_eq_true rfl, Nat.le_of_ble_eq_true rfl⟩ (fun r33 w34 => ?_)
          refine rv_istore (lv' := [(7, .int r33), (0, .ref (ad 0)), (1, .int p2), (2, .int r1), (3, .int r3), (4, .long g9), (6, .int r10)]) h 267 dL_areParadoxesSound_267 (by decide) rfl ?_
          refine rv_iload h 269 dL_areParadoxesSound_269 0 rfl ?_
          refine rv_ldc h 271 dL_areParadoxesSound_271 rv_kc_L_46 ?_
          refine rv_join (fun (k0 : rv_W → rv_R) => ∀  (w35 : rv_W), K 295 [(0, .ref (ad 0)), (1, .int p2), (4, .long g9)] ([]) w35 (k0 w35)) (fun w35 => ?_) (fun k36 hk37 => ?_)
          · refine rv_aload_n h 295 dL_areParadoxesSound_295 0 rfl ?_
            refine rv_iload_n h 296 dL_areParadoxesSound_296 1 rfl ?_
            refine rv_callVi h 297 dL_areParadoxesSound_297 (fn_X10_winners hJ p2  w35) ce_X10_winners lk_L_47 rv_s0 rfl rv_cf8 rfl rfl (Nat.le_of_ble_eq_true rfl) ⟨Nat.le_of_ble_eq_true rfl, Nat.le_of_ble_eq_true rfl⟩ (fun r38 w39 => ?_)
            refine rv_i2l h 300 dL_areParadoxesSound_300 ?_
            refine rv_ldc2 h 301 dL_areParadoxesSound_301 rv_kl_L_70 ?_
            refine rv_lmul h 304 dL_areParadoxesSound_304 ?_
            refine rv_aload_n h 305 dL_areParadoxesSound_305 0 rfl ?_
            refine rv_callVi h 306 dL_areParadoxesSound_306 (fn_X10_standing hJ   w39) ce_X10_standing lk_L_21 rv_s0 rfl rv_cf8 rfl rfl (Nat.le_of_ble_eq_true rfl) ⟨Nat.le_of_ble_eq_true rfl, Nat.le_of_ble_eq_true rfl⟩ (fun r40 w41 => ?_)
            refine rv_i2l h 309 dL_areParadoxesSound_309 ?_
            refine rv_ladd h 310 dL_areParadoxesSound_310 ?_
            refine rv_lload h 311 dL_areParadoxesSound_311 2 rfl ?_
            refine rv_lcmp h 313 dL_areParadoxesSound_313 ?_
            refine rv_if_ne (tgt := 321) h 314 dL_areParadoxesSound_314 (by decide) (fun _ => ?_) (fun _ => ?_)
            rotate_left
            · refine rv_iconst h 321 dL_areParadoxesSound_321 rv_c0 ?_
              exact rv_retz0 hr 322 dL_areParadoxesSound_322
            refine rv_iconst h 317 dL_areParadoxesSound_317 rv_c1 ?_
            refine rv_goto (tgt := 322) h 318 dL_areParadoxesSound_318 (by decide) ?_
            exact rv_retz1 hr 322 dL_areParadoxesSound_322
          refine rv_icmp_eq (tgt := 295) h 273 dL_areParadoxesSound_273 (by decide) (fun _ => ?_) (fun _ => ?_)
          · refine rv_sub h [1, 2, 5] rfl ?_
            exact hk37 w34
          refine rv_iload h 276 dL_areParadoxesSound_276 0 rfl ?_
          refine rv_iconst h 278 dL_areParadoxesSound_278 rv_c1 ?_
          refine rv_icmp_lt (tgt := 293) h 279 dL_areParadoxesSound_279 (by decide) (fun _ => ?_) (fun _ => ?_)
          · refine rv_iconst h 293 dL_areParadoxesSound_293 rv_c0 ?_
            exact rv_retz0 hr 294 dL_areParadoxesSound_294
          refine rv_iload h 282 dL_areParadoxesSound_282 0 rfl ?_
          refine rv_bipush (v := 100) h 284 dL_areParadoxesSound_284 (by decide +kernel) ?_
          refine rv_icmp_gt (tgt := 293) h 286 dL_areParadoxesSound_286 (by decide) (fun _ => ?_) (fun _ => ?_)
          · refine rv_iconst h 293 dL_areParadoxesSound_293 rv_c0 ?_
            exact rv_retz0 hr 294 dL_areParadoxesSound_294
          refine rv_iload_n h 289 dL_areParadoxesSound_289 4 rfl ?_
          refine rv_if_ge (tgt := 295) h 290 dL_areParadoxesSound_290 (by decide) (fun _ => ?_) (fun _ => ?_)
          · refine rv_iconst h 293 dL_areParadoxesSound_293 rv_c0 ?_
            exact rv_retz0 hr 294 dL_areParadoxesSound_294
          refine rv_sub h [1, 2, 5] rfl ?_
          exact hk37 w34
        refine rv_aload_n h 156 dL_areParadoxesSound_156 0 rfl ?_
        refine rv_iload_n h 157 dL_areParadoxesSound_157 1 rfl ?_
        refine rv_iload h 158 dL_areParadoxesSound_158 6 rfl ?_
        refine rv_callVi h 160 dL_areParadoxesSound_160 (fn_X10_strategy hJ p2 v31  w32) ce_X10_strategy lk_L_87 rv_s0 rfl rv_cf8 rfl rfl (Nat.le_of_ble_eq_true rfl) ⟨Nat.le_of_ble_eq_true rfl, Nat.le_of_ble_eq_true rfl⟩ (fun r42 w43 => ?_)
        refine rv_istore (lv' := [(8, .int r42), (0, .ref (ad 0)), (1, .int p2), (2, .int r1), (3, .int r3), (4, .long g9), (6, .int r10), (7, .int v31)]) h 163 dL_areParadoxesSound_163 (by decide) rfl ?_
        refine rv_aload_n h 165 dL_areParadoxesSound_165 1 rfl ?_
        refine rv_iload h 166 dL_areParadoxesSound_166 7 rfl ?_
        refine rv_callVi h 168 dL_areParadoxesSound_168 (fn_X10_ballot hJ v31  w43) ce_X10_ballot lk_L_90 rv_s0 rfl rv_cf8 rfl rfl (Nat.le_of_ble_eq_true rfl) ⟨Nat.le_of_ble_eq_true rfl, Nat.le_of_ble_eq_true rfl⟩ (fun r44 w45 => ?_)
        refine rv_istore (lv' := [(9, .int r44), (8, .int r42), (0, .ref (ad 0)), (1, .int p2), (2, .int r1), (3, .int r3), (4, .long g9), (6, .int r10), (7, .int v31)]) h 171 dL_areParadoxesSound_171 (by decide) rfl ?_
        refine rv_iload h 173 dL_areParadoxesSound_173 7 rfl ?_
        refine rv_iload h 175 dL_areParadoxesSound_175 8 rfl ?_
        refine rv_ishr h 177 dL_areParadoxesSound_177 ?_
        refine rv_iconst h 178 dL_areParadoxesSound_178 rv_c1 ?_
        refine rv_iand h 179 dL_areParadoxesSound_179 ?_
        refine rv_iconst h 180 dL_areParadoxesSound_180 rv_c1 ?_
        refine rv_join (fun (k0 : Int32 → rv_W → rv_R) => ∀ (v46 : Int32) (w47 : rv_W), K 189 [(0, .ref (ad 0)), (1, .int p2), (2, .int r1), (3, .int r3), (4, .long g9), (6, .int r10), (7, .int v31), (8, .int r42), (9, .int r44)] (.int v46 :: []) w47 (k0 v46 w47)) (fun v46 w47 => ?_) (fun k48 hk49 => ?_)
        · refine rv_istore (lv' := [(10, .int v46), (0, .ref (ad 0)), (1, .int p2), (2, .int r1), (3, .int r3), (4, .long g9), (6, .int r10), (7, .int v31), (8, .int r42), (9, .int r44)]) h 189 dL_areParadoxesSound_189 (by decide) rfl ?_
          refine rv_iload h 191 dL_areParadoxesSound_191 0 rfl ?_
          refine rv_iload h 193 dL_areParadoxesSound_193 8 rfl ?_
          refine rv_ldc h 195 dL_areParadoxesSound_195 rv_kc_L_46 ?_
          refine rv_join (fun (k0 : Int32 → rv_W → rv_R) => ∀ (v50 : Int32) (w51 : rv_W), K 205 [(0, .ref (ad 0)), (1, .int p2), (2, .int r1), (3, .int r3), (4, .long g9), (6, .int r10), (7, .int v31), (8, .int r42), (9, .int r44), (10, .int v46)] (.int v50 :: .int v46 :: []) w51 (k0 v50 w51)) (fun v50 w51 => ?_) (fun k52 hk53 => ?_)
          · refine rv_icmp_ne (tgt := 254) h 205 dL_areParadoxesSound_205 (by decide) (fun _ => ?_) (fun _ => ?_)
            rotate_left
            · refine rv_iconst h 254 dL_areParadoxesSound_254 rv_c0 ?_
              exact rv_retz0 hr 255 dL_areParadoxesSound_255
            refine rv_iload h 208 dL_areParadoxesSound_208 9 rfl ?_
            refine rv_join (fun (k0 : rv_W → rv_R) => ∀  (w54 : rv_W), K 229 [(0, .ref (ad 0)), (1, .int p2), (2, .int r1), (3, .int r3), (4, .long g9), (6, .int r10), (7, .int v31), (10, .int v46)] ([]) w54 (k0 w54)) (fun w54 => ?_) (fun k55 hk56 => ?_)
            · refine rv_iload h 229 dL_areParadoxesSound_229 7 rfl ?_
              refine rv_if_ne (tgt := 256) h 231 dL_areParadoxesSound_231 (by decide) (fun _ => ?_) (fun _ => ?_)
              rotate_left
              · refine rv_iinc h 256 (fun v57 => [(7, .int v57), (0, .ref (ad 0)), (1, .int p2), (2, .int r1), (3, .int r3), (4, .long g9), (6, .int r10), (10, .int v46)]) dL_areParadoxesSound_256 6 rfl rv_c1 (by decide) (fun _ => rfl) (fun v57 => ?_)
                refine rv_goto (tgt := 150) h 259 dL_areParadoxesSound_259 (by decide) ?_
                refine rv_sub h [1, 2, 3, 4, 5, 6, 0] rfl ?_
                exact ih30 v57 w54
              refine rv_aload_n h 234 dL_areParadoxesSound_234 0 rfl ?_
              refine rv_callVi h 235 dL_areParadoxesSound_235 (fn_X10_standing hJ   w54) ce_X10_standing lk_L_21 rv_s0 rfl rv_cf8 rfl rfl (Nat.le_of_ble_eq_true rfl) ⟨Nat.le_of_ble_eq_true rfl, Nat.le_of_ble_eq_true rfl⟩ (fun r58 w59 => ?_)
              refine rv_if_eq (tgt := 256) h 238 dL_areParadoxesSound_238 (by decide) (fun _ => ?_) (fun _ => ?_)
              · refine rv_iinc h 256 (fun v60 => [(7, .int v60), (0, .ref (ad 0)), (1, .int p2), (2, .int r1), (3, .int r3), (4, .long g9), (6, .int r10), (10, .int v46)]) dL_areParadoxesSound_256 6 rfl rv_c1 (by decide) (fun _ => rfl) (fun v60 => ?_)
                refine rv_goto (tgt := 150) h 259 dL_areParadoxesSound_259 (by decide) ?_
                refine rv_sub h [1, 2, 3, 4, 5, 6, 0] rfl ?_
                exact ih30 v60 w59
              refine rv_aload_n h 241 dL_areParadoxesSound_241 0 rfl ?_
              refine rv_iload_n h 242 dL_areParadoxesSound_242 1 rfl ?_
              refine rv_iload h 243 dL_areParadoxesSound_243 6 rfl ?_
              refine rv_iconst h 245 dL_areParadoxesSound_245 rv_c0 ?_
              refine rv_callVi h 246 dL_areParadoxesSound_246 (fn_X10_strategyAt hJ p2 v31 (0 : Int32)  w59) ce_X10_strategyAt lk_L_96 rv_s0 rfl rv_cf8 rfl rfl (Nat.le_of_ble_eq_true rfl) ⟨Nat.le_of_ble_eq_true rfl, Nat.le_of_ble_eq_true rfl⟩ (fun r61 w62 => ?_)
              refine rv_ldc h 249 dL_areParadoxesSound_249 rv_kc_L_46 ?_
              refine rv_icmp_eq (tgt := 256) h 251 dL_areParadoxesSound_251 (by decide) (fun _ => ?_) (fun _ => ?_)
              rotate_left
              · refine rv_iconst h 254 dL_areParadoxesSound_254 rv_c0 ?_
                exact rv_retz0 hr 255 dL_areParadoxesSound_255
              refine rv_iinc h 256 (fun v63 => [(7, .int v63), (0, .ref (ad 0)), (1, .int p2), (2, .int r1), (3, .int r3), (4, .long g9), (6, .int r10), (10, .int v46)]) dL_areParadoxesSound_256 6 rfl rv_c1 (by decide) (fun _ => rfl) (fun v63 => ?_)
              refine rv_goto (tgt := 150) h 259 dL_areParadoxesSound_259 (by decide) ?_
              refine rv_sub h [1, 2, 3, 4, 5, 6, 0] rfl ?_
              exact ih30 v63 w62
            refine rv_if_eq (tgt := 229) h 210 dL_areParadoxesSound_210 (by decide) (fun _ => ?_) (fun _ => ?_)
            · refine rv_sub h [0, 1, 2, 3, 4, 5, 6, 9] rfl ?_
              exact hk56 w51
            refine rv_iload h 213 dL_areParadoxesSound_213 8 rfl ?_
            refine rv_iload h 215 dL_areParadoxesSound_215 7 rfl ?_
            refine rv_callSi h 217 dL_areParadoxesSound_217 (fn_L_place hJ r44 r42  w51) ce_L_place lk_L_93 rfl rfl (Nat.le_of_ble_eq_true rfl) ⟨Nat.le_of_ble_eq_true rfl, Nat.le_of_ble_eq_true rfl⟩ (fun r64 w65 => ?_)
            refine rv_iload h 220 dL_areParadoxesSound_220 8 rfl ?_
            refine rv_iload_n h 222 dL_areParadoxesSound_222 3 rfl ?_
            refine rv_callSi h 223 dL_areParadoxesSound_223 (fn_L_place hJ r44 r3  w65) ce_L_place lk_L_93 rfl rfl (Nat.le_of_ble_eq_true rfl) ⟨Nat.le_of_ble_eq_true rfl, Nat.le_of_ble_eq_true rfl⟩ (fun r66 w67 => ?_)
            refine rv_icmp_ge (tgt := 254) h 226 dL_areParadoxesSound_226 (by decide) (fun _ => ?_) (fun _ => ?_)
            · refine rv_sub h [0, 1, 2, 3, 4, 5, 6, 9] rfl ?_
              exact hk56 w67
            refine rv_iconst h 254 dL_areParadoxesSound_254 rv_c0 ?_
            exact rv_retz0 hr 255 dL_areParadoxesSound_255
          refine rv_icmp_eq (tgt := 204) h 197 dL_areParadoxesSound_197 (by decide) (fun _ => ?_) (fun _ => ?_)
          · refine rv_iconst h 204 dL_areParadoxesSound_204 rv_c0 ?_
            refine rv_sub h [1, 2, 3, 4, 5, 6, 7, 8, 9, 0] rfl ?_
            exact hk53 (0 : Int32) w47
          refine rv_iconst h 200 dL_areParadoxesSound_200 rv_c1 ?_
          refine rv_goto (tgt := 205) h 201 dL_areParadoxesSound_201 (by decide) ?_
          refine rv_sub h [1, 2, 3, 4, 5, 6, 7, 8, 9, 0] rfl ?_
          exact hk53 (1 : Int32) w47
        refine rv_icmp_ne (tgt := 188) h 181 dL_areParadoxesSound_181 (by decide) (fun _ => ?_) (fun _ => ?_)
        rotate_left
        · refine rv_iconst h 188 dL_areParadoxesSound_188 rv_c0 ?_
          refine rv_sub h [2, 3, 4, 5, 6, 7, 8, 1, 0] rfl ?_
          exact hk49 (0 : Int32) w45
        refine rv_iconst h 184 dL_areParadoxesSound_184 rv_c1 ?_
        refine rv_goto (tgt := 189) h 185 dL_areParadoxesSound_185 (by decide) ?_
        refine rv_sub h [2, 3, 4, 5, 6, 7, 8, 1, 0] rfl ?_
        exact hk49 (1 : Int32) w45
      refine rv_join (fun (k0 : rv_W → rv_R) => ∀  (w68 : rv_W), K 137 [(0, .ref (ad 0)), (1, .int p2), (2, .int r1), (3, .int r3), (4, .long g9), (6, .int r10)] ([]) w68 (k0 w68)) (fun w68 => ?_) (fun k69 hk70 => ?_)
      · refine rv_aload_n h 137 dL_areParadoxesSound_137 0 rfl ?_
        refine rv_iload_n h 138 dL_areParadoxesSound_138 1 rfl ?_
        refine rv_callVi h 139 dL_areParadoxesSound_139 (fn_X10_raisers hJ p2  w68) ce_X10_raisers lk_L_78 rv_s0 rfl rv_cf8 rfl rfl (Nat.le_of_ble_eq_true rfl) ⟨Nat.le_of_ble_eq_true rfl, Nat.le_of_ble_eq_true rfl⟩ (fun r71 w72 => ?_)
        refine rv_if_eq (tgt := 147) h 142 dL_areParadoxesSound_142 (by decide) (fun _ => ?_) (fun _ => ?_)
        · refine rv_sub h [0, 1, 2, 3, 4, 5] rfl ?_
          exact hk28 w72
        refine rv_iconst h 145 dL_areParadoxesSound_145 rv_c0 ?_
        exact rv_retz0 hr 146 dL_areParadoxesSound_146
      refine rv_icmp_lt (tgt := 137) h 122 dL_areParadoxesSound_122 (by decide) (fun _ => ?_) (fun _ => ?_)
      · refine rv_sub h [0, 1, 2, 3, 4, 5] rfl ?_
        exact hk70 w23
      refine rv_iload_n h 125 dL_areParadoxesSound_125 1 rfl ?_
      refine rv_bipush (v := 8) h 126 dL_areParadoxesSound_126 (by decide +kernel) ?_
      refine rv_icmp_eq (tgt := 137) h 128 dL_areParadoxesSound_128 (by decide) (fun _ => ?_) (fun _ => ?_)
      · refine rv_sub h [0, 1, 2, 3, 4, 5] rfl ?_
        exact hk70 w23
      refine rv_iload_n h 131 dL_areParadoxesSound_131 1 rfl ?_
      refine rv_bipush (v := 11) h 132 dL_areParadoxesSound_132 (by decide +kernel) ?_
      refine rv_icmp_ne (tgt := 147) h 134 dL_areParadoxesSound_134 (by decide) (fun _ => ?_) (fun _ => ?_)
      · refine rv_sub h [0, 1, 2, 3, 4, 5] rfl ?_
        exact hk70 w23
      refine rv_sub h [0, 1, 2, 3, 4, 5] rfl ?_
      exact hk28 w23
    refine rv_icmp_ge (tgt := 120) h 99 dL_areParadoxesSound_99 (by decide) (fun _ => ?_) (fun _ => ?_)
    rotate_left
    · refine rv_sub h [0, 1, 2, 3, 4, 5] rfl ?_
      exact hk25 w20
    refine rv_aload_n h 102 dL_areParadoxesSound_102 0 rfl ?_
    refine rv_iload_n h 103 dL_areParadoxesSound_103 1 rfl ?_
    refine rv_callVi h 104 dL_areParadoxesSound_104 (fn_X10_absentees hJ p2  w20) ce_X10_absentees lk_L_75 rv_s0 rfl rv_cf8 rfl rfl (Nat.le_of_ble_eq_true rfl) ⟨Nat.le_of_ble_eq_true rfl, Nat.le_of_ble_eq_true rfl⟩ (fun r73 w74 => ?_)
    refine rv_if_ne (tgt := 145) h 107 dL_areParadoxesSound_107 (by decide) (fun _ => ?_) (fun _ => ?_)
    rotate_left
    · refine rv_iconst h 145 dL_areParadoxesSound_145 rv_c0 ?_
      exact rv_retz0 hr 146 dL_areParadoxesSound_146
    refine rv_aload_n h 110 dL_areParadoxesSound_110 0 rfl ?_
    refine rv_iload_n h 111 dL_areParadoxesSound_111 1 rfl ?_
    refine rv_callVi h 112 dL_areParadoxesSound_112 (fn_X10_split hJ p2  w74) ce_X10_split lk_L_84 rv_s0 rfl rv_cf8 rfl rfl (Nat.le_of_ble_eq_true rfl) ⟨Nat.le_of_ble_eq_true rfl, Nat.le_of_ble_eq_true rfl⟩ (fun r75 w76 => ?_)
    refine rv_ldc h 115 dL_areParadoxesSound_115 rv_kc_L_46 ?_
    refine rv_icmp_ne (tgt := 145) h 117 dL_areParadoxesSound_117 (by decide) (fun _ => ?_) (fun _ => ?_)
    · refine rv_sub h [0, 1, 2, 3, 4, 5] rfl ?_
      exact hk25 w76
    refine rv_iconst h 145 dL_areParadoxesSound_145 rv_c0 ?_
    exact rv_retz0 hr 146 dL_areParadoxesSound_146
  refine rv_if_lt (tgt := 97) h 79 dL_areParadoxesSound_79 (by decide) (fun _ => ?_) (fun _ => ?_)
  · refine rv_sub h [4, 5, 3, 2, 1, 0] rfl ?_
    exact hk22 w19
  refine rv_aload_n h 82 dL_areParadoxesSound_82 4 rfl ?_
  refine rv_iload_n h 83 dL_areParadoxesSound_83 5 rfl ?_
  refine rv_callVi h 84 dL_areParadoxesSound_84 (fn_X10_spoilers hJ p2  w19) ce_X10_spoilers lk_L_81 rv_s0 rfl rv_cf8 rfl rfl (Nat.le_of_ble_eq_true rfl) ⟨Nat.le_of_ble_eq_true rfl, Nat.le_of_ble_eq_true rfl⟩ (fun r77 w78 => ?_)
  refine rv_iload_n h 87 dL_areParadoxesSound_87 2 rfl ?_
  refine rv_ishr h 88 dL_areParadoxesSound_88 ?_
  refine rv_iconst h 89 dL_areParadoxesSound_89 rv_c1 ?_
  refine rv_iand h 90 dL_areParadoxesSound_90 ?_
  refine rv_iconst h 91 dL_areParadoxesSound_91 rv_c1 ?_
  refine rv_icmp_ne (tgt := 97) h 92 dL_areParadoxesSound_92 (by decide) (fun _ => ?_) (fun _ => ?_)
  · refine rv_iconst h 95 dL_areParadoxesSound_95 rv_c0 ?_
    exact rv_retz0 hr 96 dL_areParadoxesSound_96
  refine rv_sub h [4, 5, 3, 2, 1, 0] rfl ?_
  exact hk22 w78
def f_L_isBrought (p2 : Int32) (p3 : Int32) (w : rv_W) : rv_R :=
  rv_bd (f_X10_strategy p2 p3 w) (fun (r1 : Int32) (w2 : rv_W) =>
  if r1 = (-1000000 : Int32) then
  some ((1 : Int32), w2)
  else
  rv_fx (fun _ _ _ => none) (fun (ag3 : Int32 → Int32 → rv_W → rv_R) (v5 : Int32) (v6 : Int32) (w7 : rv_W) =>
  rv_bd (f_X10_standing  w7) (fun (r8 : Int32) (w9 : rv_W) =>
  rv_bd (f_L_bits r8 w9) (fun (r10 : Int32) (w11 : rv_W) =>
  if v6 < r10 then
  rv_bd (f_X10_strategyAt p2 p3 v6 w11) (fun (r40 : Int32) (w41 : rv_W) =>
  rv_lt (((((10 : Int32) * v5) + r40) + (1 : Int32))) (fun (v42 : Int32) =>
  rv_lt (v6 + (1 : Int32)) (fun (v43 : Int32) =>
  ag3 v42 v43 w41)))
  else
  rv_bd (f_X10_voters p3 w11) (fun (r12 : Int32) (w13 : rv_W) =>
  rv_bd (f_X10_ballot p3 w13) (fun (r14 : Int32) (w15 : rv_W) =>
  rv_bd (f_X10_winner p2 w15) (fun (r16 : Int32) (w17 : rv_W) =>
  rv_bd (f_X10_removeGroup p3 w17) (fun (r18 : Int32) (w19 : rv_W) =>
  rv_bd (f_X10_addGroup r12 r14 w19) (fun (r20 : Int32) (w21 : rv_W) =>
  rv_bd (f_X10_winner p2 w21) (fun (r22 : Int32) (w23 : rv_W) =>
  if r22 = r16 then
  rv_bd (f_X10_undo  w23) (fun (r24 : Int32) (w25 : rv_W) =>
  rv_bd (f_X10_addGroup r12 v5 w25) (fun (r26 : Int32) (w27 : rv_W) =>
  rv_bd (f_X10_winner p2 w27) (fun (r28 : Int32) (w29 : rv_W) =>
  if r28 = r1 then
  rv_bd (f_X10_undo  w29) (fun (r30 : Int32) (w31 : rv_W) =>
  rv_bd (f_X10_undo  w31) (fun (r32 : Int32) (w33 : rv_W) =>
  if r32 < 0 then
  some ((0 : Int32), w33)
  else
  rv_bd (f_X10_voters p3 w33) (fun (r34 : Int32) (w35 : rv_W) =>
  if r34 = r12 then
  rv_bd (f_X10_ballot p3 w35) (fun (r36 : Int32) (w37 : rv_W) =>
  if r36 = r14 then
  rv_bd (f_X10_winner p2 w37) (fun (r38 : Int32) (w39 : rv_W) =>
  if r38 = r16 then
  some ((1 : Int32), w39)
  else
  some ((0 : Int32), w39))
  else
  some ((0 : Int32), w37))
  else
  some ((0 : Int32), w35))))
  else
  some ((0 : Int32), w29))))
  else
  some ((0 : Int32), w23)))))))))) rv_FU (0 : Int32) (0 : Int32) w2)
set_option maxRecDepth 100000 in
set_option maxHeartbeats 4000000 in
theorem fn_L_isBrought {l : Launch} {D : va_G} {ad : Nat → Nat} {ca : Nat → ClassId} (hJ : rv_J ad) (p2 : Int32) (p3 : Int32)  (w : rv_W) : rv_Fn l D ad ca yL_isBrought cL_isBrought 8 (some .boolean) 7 173 [.ref (ad 0), .int p2, .int p3] w (f_L_isBrought p2 p3 w) := by
  refine rv_mk (lv := [(0, .ref (ad 0)), (1, .int p2), (2, .int p3)]) hJ (by decide +kernel) (Nat.le_of_ble_eq_true rfl) rfl (fun K h hr => ?_)
  have h : rv_Rl D ad ca l RL cL_isBrought 8 7 173 K := h
  unfold f_L_isBrought
  refine rv_aload_n h 0 dL_isBrought_0 0 rfl ?_
  refine rv_iload_n h 1 dL_isBrought_1 1 rfl ?_
  refine rv_iload_n h 2 dL_isBrought_2 2 rfl ?_
  refine rv_callVi h 3 dL_isBrought_3 (fn_X10_strategy hJ p2 p3  w) ce_X10_strategy lk_L_87 rv_s0 rfl rv_cf8 rfl rfl (Nat.le_of_ble_eq_true rfl) ⟨Nat.le_of_ble_eq_true rfl, Nat.le_of_ble_eq_true rfl⟩ (fun r1 w2 => ?_)
  refine rv_istore_n (lv' := [(3, .int r1), (0, .ref (ad 0)), (1, .int p2), (2, .int p3)]) h 6 dL_isBrought_6 (by decide) rfl ?_
  refine rv_iload_n h 7 dL_isBrought_7 0 rfl ?_
  refine rv_ldc h 8 dL_isBrought_8 rv_kc_L_46 ?_
  refine rv_icmp_ne (tgt := 15) h 10 dL_isBrought_10 (by decide) (fun _ => ?_) (fun _ => ?_)
  · refine rv_iconst h 13 dL_isBrought_13 rv_c1 ?_
    exact rv_retz1 hr 14 dL_isBrought_14
  refine rv_iconst h 15 dL_isBrought_15 rv_c0 ?_
  refine rv_istore (lv' := [(4, .int (0 : Int32)), (3, .int r1), (0, .ref (ad 0)), (1, .int p2), (2, .int p3)]) h 16 dL_isBrought_16 (by decide) rfl ?_
  refine rv_iconst h 18 dL_isBrought_18 rv_c0 ?_
  refine rv_istore (lv' := [(5, .int (0 : Int32)), (4, .int (0 : Int32)), (3, .int r1), (0, .ref (ad 0)), (1, .int p2), (2, .int p3)]) h 19 dL_isBrought_19 (by decide) rfl ?_
  refine rv_sub h [3, 4, 5, 2, 1, 0] rfl ?_
  refine rv_fx_ind (fun (a0 : Int32 → Int32 → rv_W → rv_R) => ∀ (v5 : Int32) (v6 : Int32) (w7 : rv_W), K 21 [(0, .ref (ad 0)), (1, .int p2), (2, .int p3), (3, .int r1), (4, .int v5), (5, .int v6)] [] w7 (a0 v5 v6 w7)) (fun _ _ _ => rv_none h) (fun ag3 ih4 v5 v6 w7 => ?_) rv_FU (0 : Int32) (0 : Int32) w2
  refine rv_iload h 21 dL_isBrought_21 5 rfl ?_
  refine rv_aload_n h 23 dL_isBrought_23 0 rfl ?_
  refine rv_callVi h 24 dL_isBrought_24 (fn_X10_standing hJ   w7) ce_X10_standing lk_L_21 rv_s0 rfl rv_cf8 rfl rfl (Nat.le_of_ble_eq_true rfl) ⟨Nat.le_of_ble_eq_true rfl, Nat.le_of_ble_eq_true rfl⟩ (fun r8 w9 => ?_)
  refine rv_callSi h 27 dL_isBrought_27 (fn_L_bits hJ r8  w9) ce_L_bits lk_L_54 rfl rfl (Nat.le_of_ble_eq_true rfl) ⟨Nat.le_of_ble_eq_true rfl, Nat.le_of_ble_eq_true rfl⟩ (fun r10 w11 => ?_)
  refine rv_icmp_ge (tgt := 57) h 30 dL_isBrought_30 (by decide) (fun _ => ?_) (fun _ => ?_)
  · refine rv_bipush (v := 10) h 33 dL_isBrought_33 (by decide +kernel) ?_
    refine rv_iload h 35 dL_isBrought_35 4 rfl ?_
    refine rv_imul h 37 dL_isBrought_37 ?_
    refine rv_aload_n h 38 dL_isBrought_38 0 rfl ?_
    refine rv_iload_n h 39 dL_isBrought_39 1 rfl ?_
    refine rv_iload_n h 40 dL_isBrought_40 2 rfl ?_
    refine rv_iload h 41 dL_isBrought_41 5 rfl ?_
    refine rv_callVi h 43 dL_isBrought_43 (fn_X10_strategyAt hJ p2 p3 v6  w11) ce_X10_strategyAt lk_L_96 rv_s0 rfl rv_cf8 rfl rfl (Nat.le_of_ble_eq_true rfl) ⟨Nat.le_of_ble_eq_true rfl, Nat.le_of_ble_eq_true rfl⟩ (fun r40 w41 => ?_)
    refine rv_iadd h 46 dL_isBrought_46 ?_
    refine rv_iconst h 47 dL_isBrought_47 rv_c1 ?_
    refine rv_iadd h 48 dL_isBrought_48 ?_
    refine rv_top (fun v42 => ?_)
    refine rv_istore (lv' := [(4, .int v42), (0, .ref (ad 0)), (1, .int p2), (2, .int p3), (3, .int r1), (5, .int v6)]) h 49 dL_isBrought_49 (by decide) rfl ?_
    refine rv_iinc h 51 (fun v43 => [(5, .int v43), (4, .int v42), (0, .ref (ad 0)), (1, .int p2), (2, .int p3), (3, .int r1)]) dL_isBrought_51 5 rfl rv_c1 (by decide) (fun _ => rfl) (fun v43 => ?_)
    refine rv_goto (tgt := 21) h 54 dL_isBrought_54 (by decide) ?_
    refine rv_sub h [2, 3, 4, 5, 1, 0] rfl ?_
    exact ih4 v42 v43 w41
  refine rv_aload_n h 57 dL_isBrought_57 0 rfl ?_
  refine rv_iload_n h 58 dL_isBrought_58 2 rfl ?_
  refine rv_callVi h 59 dL_isBrought_59 (fn_X10_voters hJ p3  w11) ce_X10_voters lk_L_103 rv_s0 rfl rv_cf8 rfl rfl (Nat.le_of_ble_eq_true rfl) ⟨Nat.le_of_ble_eq_true rfl, Nat.le_of_ble_eq_true rfl⟩ (fun r12 w13 => ?_)
  refine rv_istore (lv' := [(5, .int r12), (0, .ref (ad 0)), (1, .int p2), (2, .int p3), (3, .int r1), (4, .int v5)]) h 62 dL_isBrought_62 (by decide) rfl ?_
  refine rv_aload_n h 64 dL_isBrought_64 1 rfl ?_
  refine rv_iload_n h 65 dL_isBrought_65 3 rfl ?_
  refine rv_callVi h 66 dL_isBrought_66 (fn_X10_ballot hJ p3  w13) ce_X10_ballot lk_L_90 rv_s0 rfl rv_cf8 rfl rfl (Nat.le_of_ble_eq_true rfl) ⟨Nat.le_of_ble_eq_true rfl, Nat.le_of_ble_eq_true rfl⟩ (fun r14 w15 => ?_)
  refine rv_istore (lv' := [(6, .int r14), (5, .int r12), (0, .ref (ad 0)), (1, .int p2), (2, .int p3), (3, .int r1), (4, .int v5)]) h 69 dL_isBrought_69 (by decide) rfl ?_
  refine rv_aload_n h 71 dL_isBrought_71 2 rfl ?_
  refine rv_iload_n h 72 dL_isBrought_72 3 rfl ?_
  refine rv_callVi h 73 dL_isBrought_73 (fn_X10_winner hJ p2  w15) ce_X10_winner lk_L_51 rv_s0 rfl rv_cf8 rfl rfl (Nat.le_of_ble_eq_true rfl) ⟨Nat.le_of_ble_eq_true rfl, Nat.le_of_ble_eq_true rfl⟩ (fun r16 w17 => ?_)
  refine rv_istore (lv' := [(7, .int r16), (6, .int r14), (5, .int r12), (0, .ref (ad 0)), (1, .int p2), (2, .int p3), (3, .int r1), (4, .int v5)]) h 76 dL_isBrought_76 (by decide) rfl ?_
  refine rv_aload_n h 78 dL_isBrought_78 3 rfl ?_
  refine rv_iload_n h 79 dL_isBrought_79 5 rfl ?_
  refine rv_callVi h 80 dL_isBrought_80 (fn_X10_removeGroup hJ p3  w17) ce_X10_removeGroup lk_L_106 rv_s0 rfl rv_cf8 rfl rfl (Nat.le_of_ble_eq_true rfl) ⟨Nat.le_of_ble_eq_true rfl, Nat.le_of_ble_eq_true rfl⟩ (fun r18 w19 => ?_)
  refine rv_pop h 83 dL_isBrought_83 rfl ?_
  refine rv_aload_n h 84 dL_isBrought_84 3 rfl ?_
  refine rv_iload h 85 dL_isBrought_85 2 rfl ?_
  refine rv_iload h 87 dL_isBrought_87 1 rfl ?_
  refine rv_callVi h 89 dL_isBrought_89 (fn_X10_addGroup hJ r12 r14  w19) ce_X10_addGroup lk_L_109 rv_s0 rfl rv_cf8 rfl rfl (Nat.le_of_ble_eq_true rfl) ⟨Nat.le_of_ble_eq_true rfl, Nat.le_of_ble_eq_true rfl⟩ (fun r20 w21 => ?_)
  refine rv_pop h 92 dL_isBrought_92 rfl ?_
  refine rv_aload_n h 93 dL_isBrought_93 3 rfl ?_
  refine rv_iload_n h 94 dL_isBrought_94 4 rfl ?_
  refine rv_callVi h 95 dL_isBrought_95 (fn_X10_winner hJ p2  w21) ce_X10_winner lk_L_51 rv_s0 rfl rv_cf8 rfl rfl (Nat.le_of_ble_eq_true rfl) ⟨Nat.le_of_ble_eq_true rfl, Nat.le_of_ble_eq_true rfl⟩ (fun r22 w23 => ?_)
  refine rv_iload h 98 dL_isBrought_98 0 rfl ?_
  refine rv_icmp_eq (tgt := 105) h 100 dL_isBrought_100 (by decide) (fun _ => ?_) (fun _ => ?_)
  rotate_left
  · refine rv_iconst h 103 dL_isBrought_103 rv_c0 ?_
    exact rv_retz0 hr 104 dL_isBrought_104
  refine rv_aload_n h 105 dL_isBrought_105 3 rfl ?_
  refine rv_callVi h 106 dL_isBrought_106 (fn_X10_undo hJ   w23) ce_X10_undo lk_L_112 rv_s0 rfl rv_cf8 rfl rfl (Nat.le_of_ble_eq_true rfl) ⟨Nat.le_of_ble_eq_true rfl, Nat.le_of_ble_eq_true rfl⟩ (fun r24 w25 => ?_)
  refine rv_pop h 109 dL_isBrought_109 rfl ?_
  refine rv_aload_n h 110 dL_isBrought_110 3 rfl ?_
  refine rv_iload h 111 dL_isBrought_111 2 rfl ?_
  refine rv_iload h 113 dL_isBrought_113 7 rfl ?_
  refine rv_callVi h 115 dL_isBrought_115 (fn_X10_addGroup hJ r12 v5  w25) ce_X10_addGroup lk_L_109 rv_s0 rfl rv_cf8 rfl rfl (Nat.le_of_ble_eq_true rfl) ⟨Nat.le_of_ble_eq_true rfl, Nat.le_of_ble_eq_true rfl⟩ (fun r26 w27 => ?_)
  refine rv_pop h 118 dL_isBrought_118 rfl ?_
  refine rv_aload_n h 119 dL_isBrought_119 3 rfl ?_
  refine rv_iload_n h 120 dL_isBrought_120 4 rfl ?_
  refine rv_callVi h 121 dL_isBrought_121 (fn_X10_winner hJ p2  w27) ce_X10_winner lk_L_51 rv_s0 rfl rv_cf8 rfl rfl (Nat.le_of_ble_eq_true rfl) ⟨Nat.le_of_ble_eq_true rfl, Nat.le_of_ble_eq_true rfl⟩ (fun r28 w29 => ?_)
  refine rv_iload_n h 124 dL_isBrought_124 6 rfl ?_
  refine rv_icmp_eq (tgt := 130) h 125 dL_isBrought_125 (by decide) (fun _ => ?_) (fun _ => ?_)
  rotate_left
  · refine rv_iconst h 128 dL_isBrought_128 rv_c0 ?_
    exact rv_retz0 hr 129 dL_isBrought_129
  refine rv_aload_n h 130 dL_isBrought_130 3 rfl ?_
  refine rv_callVi h 131 dL_isBrought_131 (fn_X10_undo hJ   w29) ce_X10_undo lk_L_112 rv_s0 rfl rv_cf8 rfl rfl (Nat.le_of_ble_eq_true rfl) ⟨Nat.le_of_ble_eq_true rfl, Nat.le_of_ble_eq_true rfl⟩ (fun r30 w31 => ?_)
  refine rv_pop h 134 dL_isBrought_134 rfl ?_
  refine rv_aload_n h 135 dL_isBrought_135 3 rfl ?_
  refine rv_callVi h 136 dL_isBrought_136 (fn_X10_undo hJ   w31) ce_X10_undo lk_L_112 rv_s0 rfl rv_cf8 rfl rfl (Nat.le_of_ble_eq_true rfl) ⟨Nat.le_of_ble_eq_true rfl, Nat.le_of_ble_eq_true rfl⟩ (fun r32 w33 => ?_)
  refine rv_if_lt (tgt := 176) h 139 dL_isBrought_139 (by decide) (fun _ => ?_) (fun _ => ?_)
  · refine rv_iconst h 176 dL_isBrought_176 rv_c0 ?_
    exact rv_retz0 hr 177 dL_isBrought_177
  refine rv_aload_n h 142 dL_isBrought_142 3 rfl ?_
  refine rv_iload_n h 143 dL_isBrought_143 5 rfl ?_
  refine rv_callVi h 144 dL_isBrought_144 (fn_X10_voters hJ p3  w33) ce_X10_voters lk_L_103 rv_s0 rfl rv_cf8 rfl rfl (Nat.le_of_ble_eq_true rfl) ⟨Nat.le_of_ble_eq_true rfl, Nat.le_of_ble_eq_true rfl⟩ (fun r34 w35 => ?_)
  refine rv_iload h 147 dL_isBrought_147 2 rfl ?_
  refine rv_icmp_ne (tgt := 176) h 149 dL_isBrought_149 (by decide) (fun _ => ?_) (fun _ => ?_)
  rotate_left
  · refine rv_iconst h 176 dL_isBrought_176 rv_c0 ?_
    exact rv_retz0 hr 177 dL_isBrought_177
  refine rv_aload_n h 152 dL_isBrought_152 3 rfl ?_
  refine rv_iload_n h 153 dL_isBrought_153 5 rfl ?_
  refine rv_callVi h 154 dL_isBrought_154 (fn_X10_ballot hJ p3  w35) ce_X10_ballot lk_L_90 rv_s0 rfl rv_cf8 rfl rfl (Nat.le_of_ble_eq_true rfl) ⟨Nat.le_of_ble_eq_true rfl, Nat.le_of_ble_eq_true rfl⟩ (fun r36 w37 => ?_)
  refine rv_iload h 157 dL_isBrought_157 1 rfl ?_
  refine rv_icmp_ne (tgt := 176) h 159 dL_isBrought_159 (by decide) (fun _ => ?_) (fun _ => ?_)
  rotate_left
  · refine rv_iconst h 176 dL_isBrought_176 rv_c0 ?_
    exact rv_retz0 hr 177 dL_isBrought_177
  refine rv_aload_n h 162 dL_isBrought_162 3 rfl ?_
  refine rv_iload_n h 163 dL_isBrought_163 4 rfl ?_
  refine rv_callVi h 164 dL_isBrought_164 (fn_X10_winner hJ p2  w37) ce_X10_winner lk_L_51 rv_s0 rfl rv_cf8 rfl rfl (Nat.le_of_ble_eq_true rfl) ⟨Nat.le_of_ble_eq_true rfl, Nat.le_of_ble_eq_true rfl⟩ (fun r38 w39 => ?_)
  refine rv_iload h 167 dL_isBrought_167 0 rfl ?_
  refine rv_icmp_ne (tgt := 176) h 169 dL_isBrought_169 (by decide) (fun _ => ?_) (fun _ => ?_)
  rotate_left
  · refine rv_iconst h 176 dL_isBrought_176 rv_c0 ?_
    exact rv_retz0 hr 177 dL_isBrought_177
  refine rv_iconst h 172 dL_isBrought_172 rv_c1 ?_
  refine rv_goto (tgt := 177) h 173 dL_isBrought_173 (by decide) ?_
  exact rv_retz1 hr 177 dL_isBrought_177
