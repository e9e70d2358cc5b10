def f_X11_fewest (p1 : Int32) (w : rv_W) : rv_R :=
  rv_fx (fun _ _ => none) (fun (ag1 : Int32 → rv_W → rv_R) (v3 : Int32) (w4 : rv_W) =>
  if v3 < (5 : Int32) then
  rv_ck v3 5 (
  rv_ck v3 5 (rv_lt (rv_up w4 84 v3.toNatClampNeg (-(w4 84 v3.toNatClampNeg))) (fun (w13 : rv_W) =>
  rv_lt (v3 + (1 : Int32)) (fun (v14 : Int32) =>
  ag1 v14 w13))))
  else
  rv_bd (f_X11_most p1 w4) (fun (r5 : Int32) (w6 : rv_W) =>
  rv_fx (fun _ _ => none) (fun (ag7 : Int32 → rv_W → rv_R) (v9 : Int32) (w10 : rv_W) =>
  if v9 < (5 : Int32) then
  rv_ck v9 5 (
  rv_ck v9 5 (rv_lt (rv_up w10 84 v9.toNatClampNeg (-(w10 84 v9.toNatClampNeg))) (fun (w11 : rv_W) =>
  rv_lt (v9 + (1 : Int32)) (fun (v12 : Int32) =>
  ag7 v12 w11))))
  else
  some (r5, w10)) rv_FU (0 : Int32) w6)) rv_FU (0 : Int32) w
set_option maxRecDepth 100000 in
set_option maxHeartbeats 4000000 in
theorem fn_X11_fewest {l : Launch} {D : va_G} {ad : Nat → Nat} {ca : Nat → ClassId} (hJ : rv_J ad) (p1 : Int32)  (w : rv_W) : rv_Fn l D ad ca yX11_fewest cX11_fewest 4 (some .int) 2 46 [.ref (ad 78), .int p1] w (f_X11_fewest p1 w) := by
  refine rv_mk (lv := [(0, .ref (ad 78)), (1, .int p1)]) hJ (by decide +kernel) (Nat.le_of_ble_eq_true rfl) rfl (fun K h hr => ?_)
  have h : rv_Rl D ad ca l RX11 cX11_fewest 4 2 46 K := h
  unfold f_X11_fewest
  refine rv_iconst h 0 dX11_fewest_0 rv_c0 ?_
  refine rv_istore_n (lv' := [(2, .int (0 : Int32)), (0, .ref (ad 78)), (1, .int p1)]) h 1 dX11_fewest_1 (by decide) rfl ?_
  refine rv_sub h [1, 2, 0] rfl ?_
  refine rv_fx_ind (fun (a0 : Int32 → rv_W → rv_R) => ∀ (v3 : Int32) (w4 : rv_W), K 2 [(0, .ref (ad 78)), (1, .int p1), (2, .int v3)] [] w4 (a0 v3 w4)) (fun _ _ => rv_none h) (fun ag1 ih2 v3 w4 => ?_) rv_FU (0 : Int32) w
  refine rv_iload_n h 2 dX11_fewest_2 2 rfl ?_
  refine rv_iconst h 3 dX11_fewest_3 rv_c5 ?_
  refine rv_icmp_ge (tgt := 26) h 4 dX11_fewest_4 (by decide) (fun _ => ?_) (fun _ => ?_)
  · refine rv_aload_n h 7 dX11_fewest_7 0 rfl ?_
    refine rv_getr h 8 dX11_fewest_8 rv_s78 rv_fd_X11_25 rfl ?_
    refine rv_iload_n h 11 dX11_fewest_11 2 rfl ?_
    refine rv_aload_n h 12 dX11_fewest_12 0 rfl ?_
    refine rv_getr h 13 dX11_fewest_13 rv_s78 rv_fd_X11_25 rfl ?_
    refine rv_iload_n h 16 dX11_fewest_16 2 rfl ?_
    refine rv_iald h 17 dX11_fewest_17 rv_s84 ?_
    refine rv_ineg h 18 dX11_fewest_18 ?_
    refine rv_iast h 19 dX11_fewest_19 rv_s84 (fun w13 => ?_)
    refine rv_iinc h 20 (fun v14 => [(2, .int v14), (0, .ref (ad 78)), (1, .int p1)]) dX11_fewest_20 2 rfl rv_c1 (by decide) (fun _ => rfl) (fun v14 => ?_)
    refine rv_goto (tgt := 2) h 23 dX11_fewest_23 (by decide) ?_
    refine rv_sub h [1, 2, 0] rfl ?_
    exact ih2 v14 w13
  refine rv_aload_n h 26 dX11_fewest_26 0 rfl ?_
  refine rv_iload_n h 27 dX11_fewest_27 1 rfl ?_
  refine rv_callVi h 28 dX11_fewest_28 (fn_X11_most hJ p1  w4) ce_X11_most lk_X11_112 rv_s78 rfl rv_cf9 rfl rfl (Nat.le_of_ble_eq_true rfl) ⟨Nat.le_of_ble_eq_true rfl, Nat.le_of_ble_eq_true rfl⟩ (fun r5 w6 => ?_)
  refine rv_istore_n (lv' := [(2, .int r5), (0, .ref (ad 78)), (1, .int p1)]) h 31 dX11_fewest_31 (by decide) rfl ?_
  refine rv_iconst h 32 dX11_fewest_32 rv_c0 ?_
  refine rv_istore_n (lv' := [(3, .int (0 : Int32)), (2, .int r5), (0, .ref (ad 78)), (1, .int p1)]) h 33 dX11_fewest_33 (by decide) rfl ?_
  refine rv_sub h [2, 1, 0] rfl ?_
  refine rv_fx_ind (fun (a0 : Int32 → rv_W → rv_R) => ∀ (v9 : Int32) (w10 : rv_W), K 34 [(0, .ref (ad 78)), (2, .int r5), (3, .int v9)] [] w10 (a0 v9 w10)) (fun _ _ => rv_none h) (fun ag7 ih8 v9 w10 => ?_) rv_FU (0 : Int32) w6
  refine rv_iload_n h 34 dX11_fewest_34 2 rfl ?_
  refine rv_iconst h 35 dX11_fewest_35 rv_c5 ?_
  refine rv_icmp_ge (tgt := 58) h 36 dX11_fewest_36 (by decide) (fun _ => ?_) (fun _ => ?_)
  rotate_left
  · refine rv_iload_n h 58 dX11_fewest_58 1 rfl ?_
    exact rv_reti hr 59 dX11_fewest_59
  refine rv_aload_n h 39 dX11_fewest_39 0 rfl ?_
  refine rv_getr h 40 dX11_fewest_40 rv_s78 rv_fd_X11_25 rfl ?_
  refine rv_iload_n h 43 dX11_fewest_43 2 rfl ?_
  refine rv_aload_n h 44 dX11_fewest_44 0 rfl ?_
  refine rv_getr h 45 dX11_fewest_45 rv_s78 rv_fd_X11_25 rfl ?_
  refine rv_iload_n h 48 dX11_fewest_48 2 rfl ?_
  refine rv_iald h 49 dX11_fewest_49 rv_s84 ?_
  refine rv_ineg h 50 dX11_fewest_50 ?_
  refine rv_iast h 51 dX11_fewest_51 rv_s84 (fun w11 => ?_)
  refine rv_iinc h 52 (fun v12 => [(3, .int v12), (0, .ref (ad 78)), (2, .int r5)]) dX11_fewest_52 2 rfl rv_c1 (by decide) (fun _ => rfl) (fun v12 => ?_)
  refine rv_goto (tgt := 34) h 55 dX11_fewest_55 (by decide) ?_
  refine rv_sub h [1, 2, 0] rfl ?_
  exact ih8 v12 w11
def f_X11_bucklin (p1 : Int32) (w : rv_W) : rv_R :=
  rv_bd (f_X11_allVotes  w) (fun (r1 : Int32) (w2 : rv_W) =>
  rv_fx (fun _ _ _ => none) (fun (ag3 : Int32 → Int32 → rv_W → rv_R) (v5 : Int32) (v6 : Int32) (w7 : rv_W) =>
  if v6 = 0 then
  some (0, w7)
  else
  rv_lt (v5 + (1 : Int32)) (fun (v8 : Int32) =>
  rv_bd (f_X11_pointsOfFirst p1 v8 w7) (fun (r9 : Int32) (w10 : rv_W) =>
  rv_bd (f_X11_many p1 w10) (fun (r11 : Int32) (w12 : rv_W) =>
  rv_jn (fun (v13 : Int32) (w14 : rv_W) =>
  rv_fx (fun _ _ _ => none) (fun (ag17 : Int32 → Int32 → rv_W → rv_R) (v19 : Int32) (v20 : Int32) (w21 : rv_W) =>
  if v20 < (5 : Int32) then
  if v19 = 0 then
  rv_lt (v20 + (1 : Int32)) (fun (v22 : Int32) =>
  ag17 (0 : Int32) v22 w21)
  else
  rv_ck v20 5 (
  if r1 < ((2 : Int32) * (w21 84 v20.toNatClampNeg)) then
  rv_lt (v20 + (1 : Int32)) (fun (v23 : Int32) =>
  ag17 (0 : Int32) v23 w21)
  else
  rv_lt (v20 + (1 : Int32)) (fun (v24 : Int32) =>
  ag17 (1 : Int32) v24 w21))
  else
  ag3 v8 v19 w21) rv_FU v13 (0 : Int32) w14) (fun (k15 : Int32 → rv_W → rv_R) =>
  if v8 < r11 then
  k15 (1 : Int32) w12
  else
  k15 (0 : Int32) w12))))) rv_FU (0 : Int32) (1 : Int32) w2)
set_option maxRecDepth 100000 in
set_option maxHeartbeats 4000000 in
theorem fn_X11_bucklin {l : Launch} {D : va_G} {ad : Nat → Nat} {ca : Nat → ClassId} (hJ : rv_J ad) (p1 : Int32)  (w : rv_W) : rv_Fn l D ad ca yX11_bucklin cX11_bucklin 6 none 3 72 [.ref (ad 78), .int p1] w (f_X11_bucklin p1 w) := by
  refine rv_mk (lv := [(0, .ref (ad 78)), (1, .int p1)]) hJ (by decide +kernel) (Nat.le_of_ble_eq_true rfl) rfl (fun K h hr => ?_)
  have h : rv_Rl D ad ca l RX11 cX11_bucklin 6 3 72 K := h
  unfold f_X11_bucklin
  refine rv_aload_n h 0 dX11_bucklin_0 0 rfl ?_
  refine rv_callVi h 1 dX11_bucklin_1 (fn_X11_allVotes hJ   w) ce_X11_allVotes lk_X11_115 rv_s78 rfl rv_cf9 rfl rfl (Nat.le_of_ble_eq_true rfl) ⟨Nat.le_of_ble_eq_true rfl, Nat.le_of_ble_eq_true rfl⟩ (fun r1 w2 => ?_)
  refine rv_istore_n (lv' := [(2, .int r1), (0, .ref (ad 78)), (1, .int p1)]) h 4 dX11_bucklin_4 (by decide) rfl ?_
  refine rv_iconst h 5 dX11_bucklin_5 rv_c0 ?_
  refine rv_istore_n (lv' := [(3, .int (0 : Int32)), (2, .int r1), (0, .ref (ad 78)), (1, .int p1)]) h 6 dX11_bucklin_6 (by decide) rfl ?_
  refine rv_iconst h 7 dX11_bucklin_7 rv_c1 ?_
  refine rv_istore (lv' := [(4, .int (1 : Int32)), (3, .int (0 : Int32)), (2, .int r1), (0, .ref (ad 78)), (1, .int p1)]) h 8 dX11_bucklin_8 (by decide) rfl ?_
  refine rv_sub h [3, 4, 2, 1, 0] rfl ?_
  refine rv_fx_ind (fun (a0 : Int32 → Int32 → rv_W → rv_R) => ∀ (v5 : Int32) (v6 : Int32) (w7 : rv_W), K 10 [(0, .ref (ad 78)), (1, .int p1), (2, .int r1), (3, .int v5), (4, .int v6)] [] w7 (a0 v5 v6 w7)) (fun _ _ _ => rv_none h) (fun ag3 ih4 v5 v6 w7 => ?_) rv_FU (0 : Int32) (1 : Int32) w2
  refine rv_iload h 10 dX11_bucklin_10 4 rfl ?_
  refine rv_if_eq (tgt := 82) h 12 dX11_bucklin_12 (by decide) (fun _ => ?_) (fun _ => ?_)
  · exact rv_retv hr 82 dX11_bucklin_82
  refine rv_iinc h 15 (fun v8 => [(3, .int v8), (0, .ref (ad 78)), (1, .int p1), (2, .int r1), (4, .int v6)]) dX11_bucklin_15 3 rfl rv_c1 (by decide) (fun _ => rfl) (fun v8 => ?_)
  refine rv_aload_n h 18 dX11_bucklin_18 1 rfl ?_
  refine rv_iload_n h 19 dX11_bucklin_19 2 rfl ?_
  refine rv_iload_n h 20 dX11_bucklin_20 0 rfl ?_
  refine rv_callVv h 21 dX11_bucklin_21 (fn_X11_pointsOfFirst hJ p1 v8  w7) ce_X11_pointsOfFirst lk_X11_119 rv_s78 rfl rv_cf9 rfl rfl (Nat.le_of_ble_eq_true rfl) ⟨Nat.le_of_ble_eq_true rfl, Nat.le_of_ble_eq_true rfl⟩ (fun r9 w10 => ?_)
  refine rv_iload_n h 24 dX11_bucklin_24 0 rfl ?_
  refine rv_iload_n h 25 dX11_bucklin_25 2 rfl ?_
  refine rv_callSi h 26 dX11_bucklin_26 (fn_X11_many hJ p1  w10) ce_X11_many lk_X11_105 rfl rfl (Nat.le_of_ble_eq_true rfl) ⟨Nat.le_of_ble_eq_true rfl, Nat.le_of_ble_eq_true rfl⟩ (fun r11 w12 => ?_)
  refine rv_join (fun (k0 : Int32 → rv_W → rv_R) => ∀ (v13 : Int32) (w14 : rv_W), K 37 [(0, .ref (ad 78)), (1, .int p1), (2, .int r1), (3, .int v8)] (.int v13 :: []) w14 (k0 v13 w14)) (fun v13 w14 => ?_) (fun k15 hk16 => ?_)
  · refine rv_istore (lv' := [(4, .int v13), (0, .ref (ad 78)), (1, .int p1), (2, .int r1), (3, .int v8)]) h 37 dX11_bucklin_37 (by decide) rfl ?_
    refine rv_iconst h 39 dX11_bucklin_39 rv_c0 ?_
    refine rv_istore (lv' := [(5, .int (0 : Int32)), (4, .int v13), (0, .ref (ad 78)), (1, .int p1), (2, .int r1), (3, .int v8)]) h 40 dX11_bucklin_40 (by decide) rfl ?_
    refine rv_sub h [2, 3, 4, 5, 1, 0] rfl ?_
    refine rv_fx_ind (fun (a0 : Int32 → Int32 → rv_W → rv_R) => ∀ (v19 : Int32) (v20 : Int32) (w21 : rv_W), K 42 [(0, .ref (ad 78)), (1, .int p1), (2, .int r1), (3, .int v8), (4, .int v19), (5, .int v20)] [] w21 (a0 v19 v20 w21)) (fun _ _ _ => rv_none h) (fun ag17 ih18 v19 v20 w21 => ?_) rv_FU v13 (0 : Int32) w14
    refine rv_iload h 42 dX11_bucklin_42 5 rfl ?_
    refine rv_iconst h 44 dX11_bucklin_44 rv_c5 ?_
    refine rv_icmp_ge (tgt := 79) h 45 dX11_bucklin_45 (by decide) (fun _ => ?_) (fun _ => ?_)
    rotate_left
    · refine rv_goto (tgt := 10) h 79 dX11_bucklin_79 (by decide) ?_
      refine rv_sub h [0, 1, 2, 3, 4] rfl ?_
      exact ih4 v8 v19 w21
    refine rv_iload h 48 dX11_bucklin_48 4 rfl ?_
    refine rv_if_eq (tgt := 70) h 50 dX11_bucklin_50 (by decide) (fun _ => ?_) (fun _ => ?_)
    · refine rv_iconst h 70 dX11_bucklin_70 rv_c0 ?_
      refine rv_istore (lv' := [(4, .int (0 : Int32)), (0, .ref (ad 78)), (1, .int p1), (2, .int r1), (3, .int v8), (5, .int v20)]) h 71 dX11_bucklin_71 (by decide) rfl ?_
      refine rv_iinc h 73 (fun v22 => [(5, .int v22), (4, .int (0 : Int32)), (0, .ref (ad 78)), (1, .int p1), (2, .int r1), (3, .int v8)]) dX11_bucklin_73 5 rfl rv_c1 (by decide) (fun _ => rfl) (fun v22 => ?_)
      refine rv_goto (tgt := 42) h 76 dX11_bucklin_76 (by decide) ?_
      refine rv_sub h [2, 3, 4, 5, 1, 0] rfl ?_
      exact ih18 (0 : Int32) v22 w21
    refine rv_iconst h 53 dX11_bucklin_53 rv_c2 ?_
    refine rv_aload_n h 54 dX11_bucklin_54 0 rfl ?_
    refine rv_getr h 55 dX11_bucklin_55 rv_s78 rv_fd_X11_25 rfl ?_
    refine rv_iload h 58 dX11_bucklin_58 5 rfl ?_
    refine rv_iald h 60 dX11_bucklin_60 rv_s84 ?_
    refine rv_imul h 61 dX11_bucklin_61 ?_
    refine rv_iload_n h 62 dX11_bucklin_62 2 rfl ?_
    refine rv_icmp_gt (tgt := 70) h 63 dX11_bucklin_63 (by decide) (fun _ => ?_) (fun _ => ?_)
    · refine rv_iconst h 70 dX11_bucklin_70 rv_c0 ?_
      refine rv_istore (lv' := [(4, .int (0 : Int32)), (0, .ref (ad 78)), (1, .int p1), (2, .int r1), (3, .int v8), (5, .int v20)]) h 71 dX11_bucklin_71 (by decide) rfl ?_
      refine rv_iinc h 73 (fun v23 => [(5, .int v23), (4, .int (0 : Int32)), (0, .ref (ad 78)), (1, .int p1), (2, .int r1), (3, .int v8)]) dX11_bucklin_73 5 rfl rv_c1 (by decide) (fun _ => rfl) (fun v23 => ?_)
      refine rv_goto (tgt := 42) h 76 dX11_bucklin_76 (by decide) ?_
      refine rv_sub h [2, 3, 4, 5, 1, 0] rfl ?_
      exact ih18 (0 : Int32) v23 w21
    refine rv_iconst h 66 dX11_bucklin_66 rv_c1 ?_
    refine rv_goto (tgt := 71) h 67 dX11_bucklin_67 (by decide) ?_
    refine rv_istore (lv' := [(4, .int (1 : Int32)), (0, .ref (ad 78)), (1, .int p1), (2, .int r1), (3, .int v8), (5, .int v20)]) h 71 dX11_bucklin_71 (by decide) rfl ?_
    refine rv_iinc h 73 (fun v24 => [(5, .int v24), (4, .int (1 : Int32)), (0, .ref (ad 78)), (1, .int p1), (2, .int r1), (3, .int v8)]) dX11_bucklin_73 5 rfl rv_c1 (by decide) (fun _ => rfl) (fun v24 => ?_)
    refine rv_goto (tgt := 42) h 76 dX11_bucklin_76 (by decide) ?_
    refine rv_sub h [2, 3, 4, 5, 1, 0] rfl ?_
    exact ih18 (1 : Int32) v24 w21
  refine rv_icmp_ge (tgt := 36) h 29 dX11_bucklin_29 (by decide) (fun _ => ?_) (fun _ => ?_)
  rotate_left
  · refine rv_iconst h 36 dX11_bucklin_36 rv_c0 ?_
    refine rv_sub h [1, 2, 3, 0] rfl ?_
    exact hk16 (0 : Int32) w12
  refine rv_iconst h 32 dX11_bucklin_32 rv_c1 ?_
  refine rv_goto (tgt := 37) h 33 dX11_bucklin_33 (by decide) ?_
  refine rv_sub h [1, 2, 3, 0] rfl ?_
  exact hk16 (1 : Int32) w12
def f_X11_strengths (p1 : Int32) (w : rv_W) : rv_R :=
  rv_fx (fun _ _ => none) (fun (ag1 : Int32 → rv_W → rv_R) (v3 : Int32) (w4 : rv_W) =>
  if v3 < (25 : Int32) then
  rv_bd (f_X11_beats (v3 / (5 : Int32)) (v3 - v3 / (5 : Int32) * (5 : Int32)) w4) (fun (r27 : Int32) (w28 : rv_W) =>
  rv_jn (fun (v29 : Int32) (w30 : rv_W) =>
  rv_ck v3 25 (rv_lt (rv_up w30 85 v3.toNatClampNeg v29) (fun (w33 : rv_W) =>
  rv_lt (v3 + (1 : Int32)) (fun (v34 : Int32) =>
  ag1 v34 w33)))) (fun (k31 : Int32 → rv_W → rv_R) =>
  if r27 = 0 then
  k31 (0 : Int32) w28
  else
  rv_ck v3 25 (
  k31 (w28 83 v3.toNatClampNeg) w28)))
  else
  rv_fx (fun _ _ => none) (fun (ag5 : Int32 → rv_W → rv_R) (v7 : Int32) (w8 : rv_W) =>
  if v7 < (5 : Int32) then
  rv_fx (fun _ _ => none) (fun (ag9 : Int32 → rv_W → rv_R) (v11 : Int32) (w12 : rv_W) =>
  if v11 < (25 : Int32) then
  rv_bd (f_X11_has p1 v7 w12) (fun (r14 : Int32) (w15 : rv_W) =>
  if r14 = 0 then
  rv_lt (v7 + (1 : Int32)) (fun (v16 : Int32) =>
  ag5 v16 w15)
  else
  rv_ck (((5 : Int32) * (v11 / (5 : Int32))) + v7) 25 (
  rv_ck (((5 : Int32) * v7) + (v11 - v11 / (5 : Int32) * (5 : Int32))) 25 (
  rv_jn (fun (v17 : Int32) (w18 : rv_W) =>
  rv_ck v11 25 (
  rv_jn (fun (v21 : Int32) (w22 : rv_W) =>
  rv_ck v11 25 (rv_lt (rv_up w22 85 v11.toNatClampNeg v21) (fun (w25 : rv_W) =>
  rv_lt (v11 + (1 : Int32)) (fun (v26 : Int32) =>
  ag9 v26 w25)))) (fun (k23 : Int32 → rv_W → rv_R) =>
  if (w18 85 v11.toNatClampNeg) < v17 then
  k23 v17 w18
  else
  rv_ck v11 25 (
  k23 (w18 85 v11.toNatClampNeg) w18)))) (fun (k19 : Int32 → rv_W → rv_R) =>
  if (w15 85 (((5 : Int32) * (v11 / (5 : Int32))) + v7).toNatClampNeg) < (w15 85 (((5 : Int32) * v7) + (v11 - v11 / (5 : Int32) * (5 : Int32))).toNatClampNeg) then
  k19 (w15 85 (((5 : Int32) * (v11 / (5 : Int32))) + v7).toNatClampNeg) w15
  else
  k19 (w15 85 (((5 : Int32) * v7) + (v11 - v11 / (5 : Int32) * (5 : Int32))).toNatClampNeg) w15))))
  else
  rv_lt (v7 + (1 : Int32)) (fun (v13 : Int32) =>
  ag5 v13 w12)) rv_FU (0 : Int32) w8
  else
  some (0, w8)) rv_FU (0 : Int32) w4) rv_FU (0 : Int32) w
set_option maxRecDepth 100000 in
set_option maxHeartbeats 4000000 in
theorem fn_X11_strengths {l : Launch} {D : va_G} {ad : Nat → Nat} {ca : Nat → ClassId} (hJ : rv_J ad) (p1 : Int32)  (w : rv_W) : rv_Fn l D ad ca yX11_strengths cX11_strengths 7 none 2 44 [.ref (ad 78), .int p1] w (f_X11_strengths p1 w) := by
  refine rv_mk (lv := [(0, .ref (ad 78)), (1, .int p1)]) hJ (by decide +kernel) (Nat.le_of_ble_eq_true rfl) rfl (fun K h hr => ?_)
  have h : rv_Rl D ad ca l RX11 cX11_strengths 7 2 44 K := h
  unfold f_X11_strengths
  refine rv_iconst h 0 dX11_strengths_0 rv_c0 ?_
  refine rv_istore_n (lv' := [(2, .int (0 : Int32)), (0, .ref (ad 78)), (1, .int p1)]) h 1 dX11_strengths_1 (by decide) rfl ?_
  refine rv_sub h [1, 2, 0] rfl ?_
  refine rv_fx_ind (fun (a0 : Int32 → rv_W → rv_R) => ∀ (v3 : Int32) (w4 : rv_W), K 2 [(0, .ref (ad 78)), (1, .int p1), (2, .int v3)] [] w4 (a0 v3 w4)) (fun _ _ => rv_none h) (fun ag1 ih2 v3 w4 => ?_) rv_FU (0 : Int32) w
  refine rv_iload_n h 2 dX11_strengths_2 2 rfl ?_
  refine rv_bipush (v := 25) h 3 dX11_strengths_3 (by decide +kernel) ?_
  refine rv_icmp_ge (tgt := 43) h 5 dX11_strengths_5 (by decide) (fun _ => ?_) (fun _ => ?_)
  · refine rv_aload_n h 8 dX11_strengths_8 0 rfl ?_
    refine rv_getr h 9 dX11_strengths_9 rv_s78 rv_fd_X11_28 rfl ?_
    refine rv_iload_n h 12 dX11_strengths_12 2 rfl ?_
    refine rv_aload_n h 13 dX11_strengths_13 0 rfl ?_
    refine rv_iload_n h 14 dX11_strengths_14 2 rfl ?_
    refine rv_iconst h 15 dX11_strengths_15 rv_c5 ?_
    refine rv_idiv h 16 dX11_strengths_16 (by decide) ?_
    refine rv_iload_n h 17 dX11_strengths_17 2 rfl ?_
    refine rv_iconst h 18 dX11_strengths_18 rv_c5 ?_
    refine rv_irem h 19 dX11_strengths_19 (by decide) ?_
    refine rv_callVi h 20 dX11_strengths_20 (fn_X11_beats hJ (v3 / (5 : Int32)) (v3 - v3 / (5 : Int32) * (5 : Int32))  w4) ce_X11_beats lk_X11_95 rv_s78 rfl rv_cf9 rfl rfl (Nat.le_of_ble_eq_true rfl) ⟨Nat.le_of_ble_eq_true rfl, Nat.le_of_ble_eq_true rfl⟩ (fun r27 w28 => ?_)
    refine rv_join (fun (k0 : Int32 → rv_W → rv_R) => ∀ (v29 : Int32) (w30 : rv_W), K 36 [(0, .ref (ad 78)), (1, .int p1), (2, .int v3)] (.int v29 :: .int v3 :: .ref (ad 85) :: []) w30 (k0 v29 w30)) (fun v29 w30 => ?_) (fun k31 hk32 => ?_)
    · refine rv_iast h 36 dX11_strengths_36 rv_s85 (fun w33 => ?_)
      refine rv_iinc h 37 (fun v34 => [(2, .int v34), (0, .ref (ad 78)), (1, .int p1)]) dX11_strengths_37 2 rfl rv_c1 (by decide) (fun _ => rfl) (fun v34 => ?_)
      refine rv_goto (tgt := 2) h 40 dX11_strengths_40 (by decide) ?_
      refine rv_sub h [1, 2, 0] rfl ?_
      exact ih2 v34 w33
    refine rv_if_eq (tgt := 35) h 23 dX11_strengths_23 (by decide) (fun _ => ?_) (fun _ => ?_)
    · refine rv_iconst h 35 dX11_strengths_35 rv_c0 ?_
      refine rv_sub h [0, 1, 2] rfl ?_
      exact hk32 (0 : Int32) w28
    refine rv_aload_n h 26 dX11_strengths_26 0 rfl ?_
    refine rv_getr h 27 dX11_strengths_27 rv_s78 rv_fd_X11_22 rfl ?_
    refine rv_iload_n h 30 dX11_strengths_30 2 rfl ?_
    refine rv_iald h 31 dX11_strengths_31 rv_s83 ?_
    refine rv_goto (tgt := 36) h 32 dX11_strengths_32 (by decide) ?_
    refine rv_sub h [0, 1, 2] rfl ?_
    exact hk32 (w28 83 v3.toNatClampNeg) w28
  refine rv_iconst h 43 dX11_strengths_43 rv_c0 ?_
  refine rv_istore_n (lv' := [(2, .int (0 : Int32)), (0, .ref (ad 78)), (1, .int p1)]) h 44 dX11_strengths_44 (by decide) rfl ?_
  refine rv_sub h [1, 2, 0] rfl ?_
  refine rv_fx_ind (fun (a0 : Int32 → rv_W → rv_R) => ∀ (v7 : Int32) (w8 : rv_W), K 45 [(0, .ref (ad 78)), (1, .int p1), (2, .int v7)] [] w8 (a0 v7 w8)) (fun _ _ => rv_none h) (fun ag5 ih6 v7 w8 => ?_) rv_FU (0 : Int32) w4
  refine rv_iload_n h 45 dX11_strengths_45 2 rfl ?_
  refine rv_iconst h 46 dX11_strengths_46 rv_c5 ?_
  refine rv_icmp_ge (tgt := 150) h 47 dX11_strengths_47 (by decide) (fun _ => ?_) (fun _ => ?_)
  rotate_left
  · exact rv_retv hr 150 dX11_strengths_150
  refine rv_iconst h 50 dX11_strengths_50 rv_c0 ?_
  refine rv_istore_n (lv' := [(3, .int (0 : Int32)), (0, .ref (ad 78)), (1, .int p1), (2, .int v7)]) h 51 dX11_strengths_51 (by decide) rfl ?_
  refine rv_sub h [1, 2, 3, 0] rfl ?_
  refine rv_fx_ind (fun (a0 : Int32 → rv_W → rv_R) => ∀ (v11 : Int32) (w12 : rv_W), K 52 [(0, .ref (ad 78)), (1, .int p1), (2, .int v7), (3, .int v11)] [] w12 (a0 v11 w12)) (fun _ _ => rv_none h) (fun ag9 ih10 v11 w12 => ?_) rv_FU (0 : Int32) w8
  refine rv_iload_n h 52 dX11_strengths_52 3 rfl ?_
  refine rv_bipush (v := 25) h 53 dX11_strengths_53 (by decide +kernel) ?_
  refine rv_icmp_ge (tgt := 144) h 55 dX11_strengths_55 (by decide) (fun _ => ?_) (fun _ => ?_)
  rotate_left
  · refine rv_iinc h 144 (fun v13 => [(2, .int v13), (0, .ref (ad 78)), (1, .int p1), (3, .int v11)]) dX11_strengths_144 2 rfl rv_c1 (by decide) (fun _ => rfl) (fun v13 => ?_)
    refine rv_goto (tgt := 45) h 147 dX11_strengths_147 (by decide) ?_
    refine rv_sub h [1, 2, 0] rfl ?_
    exact ih6 v13 w12
  refine rv_iload_n h 58 dX11_strengths_58 1 rfl ?_
  refine rv_iload_n h 59 dX11_strengths_59 2 rfl ?_
  refine rv_callSi h 60 dX11_strengths_60 (fn_X11_has hJ p1 v7  w12) ce_X11_has lk_X11_74 rfl rfl (Nat.le_of_ble_eq_true rfl) ⟨Nat.le_of_ble_eq_true rfl, Nat.le_of_ble_eq_true rfl⟩ (fun r14 w15 => ?_)
  refine rv_if_eq (tgt := 144) h 63 dX11_strengths_63 (by decide) (fun _ => ?_) (fun _ => ?_)
  · refine rv_iinc h 144 (fun v16 => [(2, .int v16), (0, .ref (ad 78)), (1, .int p1), (3, .int v11)]) dX11_strengths_144 2 rfl rv_c1 (by decide) (fun _ => rfl) (fun v16 => ?_)
    refine rv_goto (tgt := 45) h 147 dX11_strengths_147 (by decide) ?_
    refine rv_sub h [1, 2, 0] rfl ?_
    exact ih6 v16 w15
  refine rv_aload_n h 66 dX11_strengths_66 0 rfl ?_
  refine rv_getr h 67 dX11_strengths_67 rv_s78 rv_fd_X11_28 rfl ?_
  refine rv_iconst h 70 dX11_strengths_70 rv_c5 ?_
  refine rv_iload_n h 71 dX11_strengths_71 3 rfl ?_
  refine rv_iconst h 72 dX11_strengths_72 rv_c5 ?_
  refine rv_idiv h 73 dX11_strengths_73 (by decide) ?_
  refine rv_imul h 74 dX11_strengths_74 ?_
  refine rv_iload_n h 75 dX11_strengths_75 2 rfl ?_
  refine rv_iadd h 76 dX11_strengths_76 ?_
  refine rv_iald h 77 dX11_strengths_77 rv_s85 ?_
  refine rv_istore (lv' := [(4, .int (w15 85 (((5 : Int32) * (v11 / (5 : Int32))) + v7).toNatClampNeg)), (0, .ref (ad 78)), (1, .int p1), (2, .int v7), (3, .int v11)]) h 78 dX11_strengths_78 (by decide) rfl ?_
  refine rv_aload_n h 80 dX11_strengths_80 1 rfl ?_
  refine rv_getr h 81 dX11_strengths_81 rv_s78 rv_fd_X11_28 rfl ?_
  refine rv_iconst h 84 dX11_strengths_84 rv_c5 ?_
  refine rv_iload_n h 85 dX11_strengths_85 3 rfl ?_
  refine rv_imul h 86 dX11_strengths_86 ?_
  refine rv_iload_n h 87 dX11_strengths_87 4 rfl ?_
  refine rv_iconst h 88 dX11_strengths_88 rv_c5 ?_
  refine rv_irem h 89 dX11_strengths_89 (by decide) ?_
  refine rv_iadd h 90 dX11_strengths_90 ?_
  refine rv_iald h 91 dX11_strengths_91 rv_s85 ?_
  refine rv_istore (lv' := [(5, .int (w15 85 (((5 : Int32) * v7) + (v11 - v11 / (5 : Int32) * (5 : Int32))).toNatClampNeg)), (4, .int (w15 85 (((5 : Int32) * (v11 / (5 : Int32))) + v7).toNatClampNeg)), (0, .ref (ad 78)), (1, .int p1), (2, .int v7), (3, .int v11)]) h 92 dX11_strengths_92 (by decide) rfl ?_
  refine rv_iload h 94 dX11_strengths_94 1 rfl ?_
  refine rv_iload h 96 dX11_strengths_96 0 rfl ?_
  refine rv_join (fun (k0 : Int32 → rv_W → rv_R) => ∀ (v17 : Int32) (w18 : rv_W), K 108 [(0, .ref (ad 78)), (1, .int p1), (2, .int v7), (3, .int v11)] (.int v17 :: []) w18 (k0 v17 w18)) (fun v17 w18 => ?_) (fun k19 hk20 => ?_)
  · refine rv_istore (lv' := [(6, .int v17), (0, .ref (ad 78)), (1, .int p1), (2, .int v7), (3, .int v11)]) h 108 dX11_strengths_108 (by decide) rfl ?_
    refine rv_aload_n h 110 dX11_strengths_110 1 rfl ?_
    refine rv_getr h 111 dX11_strengths_111 rv_s78 rv_fd_X11_28 rfl ?_
    refine rv_iload_n h 114 dX11_strengths_114 4 rfl ?_
    refine rv_iload h 115 dX11_strengths_115 0 rfl ?_
    refine rv_aload_n h 117 dX11_strengths_117 1 rfl ?_
    refine rv_getr h 118 dX11_strengths_118 rv_s78 rv_fd_X11_28 rfl ?_
    refine rv_iload_n h 121 dX11_strengths_121 4 rfl ?_
    refine rv_iald h 122 dX11_strengths_122 rv_s85 ?_
    refine rv_join (fun (k0 : Int32 → rv_W → rv_R) => ∀ (v21 : Int32) (w22 : rv_W), K 137 [(0, .ref (ad 78)), (1, .int p1), (2, .int v7), (3, .int v11)] (.int v21 :: .int v11 :: .ref (ad 85) :: []) w22 (k0 v21 w22)) (fun v21 w22 => ?_) (fun k23 hk24 => ?_)
    · refine rv_iast h 137 dX11_strengths_137 rv_s85 (fun w25 => ?_)
      refine rv_iinc h 138 (fun v26 => [(3, .int v26), (0, .ref (ad 78)), (1, .int p1), (2, .int v7)]) dX11_strengths_138 3 rfl rv_c1 (by decide) (fun _ => rfl) (fun v26 => ?_)
      refine rv_goto (tgt := 52) h 141 dX11_strengths_141 (by decide) ?_
      refine rv_sub h [1, 2, 3, 0] rfl ?_
      exact ih10 v26 w25
    refine rv_icmp_le (tgt := 131) h 123 dX11_strengths_123 (by decide) (fun _ => ?_) (fun _ => ?_)
    · refine rv_iload h 126 dX11_strengths_126 0 rfl ?_
      refine rv_goto (tgt := 137) h 128 dX11_strengths_128 (by decide) ?_
      refine rv_sub h [1, 2, 3, 4] rfl ?_
      exact hk24 v17 w18
    refine rv_aload_n h 131 dX11_strengths_131 1 rfl ?_
    refine rv_getr h 132 dX11_strengths_132 rv_s78 rv_fd_X11_28 rfl ?_
    refine rv_iload_n h 135 dX11_strengths_135 4 rfl ?_
    refine rv_iald h 136 dX11_strengths_136 rv_s85 ?_
    refine rv_sub h [1, 2, 3, 4] rfl ?_
    exact hk24 (w18 85 v11.toNatClampNeg) w18
  refine rv_icmp_ge (tgt := 106) h 98 dX11_strengths_98 (by decide) (fun _ => ?_) (fun _ => ?_)
  rotate_left
  · refine rv_iload h 106 dX11_strengths_106 0 rfl ?_
    refine rv_sub h [2, 3, 4, 5] rfl ?_
    exact hk20 (w15 85 (((5 : Int32) * v7) + (v11 - v11 / (5 : Int32) * (5 : Int32))).toNatClampNeg) w15
  refine rv_iload h 101 dX11_strengths_101 1 rfl ?_
  refine rv_goto (tgt := 108) h 103 dX11_strengths_103 (by decide) ?_
  refine rv_sub h [2, 3, 4, 5] rfl ?_
  exact hk20 (w15 85 (((5 : Int32) * (v11 / (5 : Int32))) + v7).toNatClampNeg) w15
def f_X11_schulze (p1 : Int32) (w : rv_W) : rv_R :=
  rv_bd (f_X11_strengths p1 w) (fun (r1 : Int32) (w2 : rv_W) =>
  rv_fx (fun _ _ _ => none) (fun (ag3 : Int32 → Int32 → rv_W → rv_R) (v5 : Int32) (v6 : Int32) (w7 : rv_W) =>
  if v6 < (5 : Int32) then
  rv_bd (f_X11_has p1 v6 w7) (fun (r8 : Int32) (w9 : rv_W) =>
  rv_fx (fun _ _ _ => none) (fun (ag10 : Int32 → Int32 → rv_W → rv_R) (v12 : Int32) (v13 : Int32) (w14 : rv_W) =>
  if v13 < (5 : Int32) then
  if v12 = 0 then
  rv_lt (v13 + (1 : Int32)) (fun (v19 : Int32) =>
  ag10 (0 : Int32) v19 w14)
  else
  rv_jn (fun  (w20 : rv_W) =>
  rv_lt (v13 + (1 : Int32)) (fun (v23 : Int32) =>
  ag10 (1 : Int32) v23 w20)) (fun (k21 : rv_W → rv_R) =>
  if v13 = v6 then
  k21 w14
  else
  rv_bd (f_X11_has p1 v13 w14) (fun (r24 : Int32) (w25 : rv_W) =>
  if r24 = 0 then
  k21 w25
  else
  rv_ck (((5 : Int32) * v6) + v13) 25 (
  rv_ck (((5 : Int32) * v13) + v6) 25 (
  if (w25 85 (((5 : Int32) * v6) + v13).toNatClampNeg) < (w25 85 (((5 : Int32) * v13) + v6).toNatClampNeg) then
  rv_lt (v13 + (1 : Int32)) (fun (v26 : Int32) =>
  ag10 (0 : Int32) v26 w25)
  else
  k21 w25))))
  else
  if v12 = 0 then
  rv_lt ((v5 ||| (0 : Int32))) (fun (v15 : Int32) =>
  rv_lt (v6 + (1 : Int32)) (fun (v16 : Int32) =>
  ag3 v15 v16 w14))
  else
  rv_lt ((v5 ||| ((1 : Int32) <<< (v6 &&& 31)))) (fun (v17 : Int32) =>
  rv_lt (v6 + (1 : Int32)) (fun (v18 : Int32) =>
  ag3 v17 v18 w14))) rv_FU r8 (0 : Int32) w9)
  else
  some (v5, w7)) rv_FU (0 : Int32) (0 : Int32) w2)
set_option maxRecDepth 100000 in
set_option maxHeartbeats 4000000 in
theorem fn_X11_schulze {l : Launch} {D : va_G} {ad : Nat → Nat} {ca : Nat → ClassId} (hJ : rv_J ad) (p1 : Int32)  (w : rv_W) : rv_Fn l D ad ca yX11_schulze cX11_schulze 6 (some .int) 3 70 [.ref (ad 78), .int p1] w (f_X11_schulze p1 w) := by
  refine rv_mk (lv := [(0, .ref (ad 78)), (1, .int p1)]) hJ (by decide +kernel) (Nat.le_of_ble_eq_true rfl) rfl (fun K h hr => ?_)
  have h : rv_Rl D ad ca l RX11 cX11_schulze 6 3 70 K := h
  unfold f_X11_schulze
  refine rv_aload_n h 0 dX11_schulze_0 0 rfl ?_
  refine rv_iload_n h 1 dX11_schulze_1 1 rfl ?_
  refine rv_callVv h 2 dX11_schulze_2 (fn_X11_strengths hJ p1  w) ce_X11_strengths lk_X11_122 rv_s78 rfl rv_cf9 rfl rfl (Nat.le_of_ble_eq_true rfl) ⟨Nat.le_of_ble_eq_true rfl, Nat.le_of_ble_eq_true rfl⟩ (fun r1 w2 => ?_)
  refine rv_iconst h 5 dX11_schulze_5 rv_c0 ?_
  refine rv_istore_n (lv' := [(2, .int (0 : Int32)), (0, .ref (ad 78)), (1, .int p1)]) h 6 dX11_schulze_6 (by decide) rfl ?_
  refine rv_iconst h 7 dX11_schulze_7 rv_c0 ?_
  refine rv_istore_n (lv' := [(3, .int (0 : Int32)), (2, .int (0 : Int32)), (0, .ref (ad 78)), (1, .int p1)]) h 8 dX11_schulze_8 (by decide) rfl ?_
  refine rv_sub h [2, 3, 1, 0] rfl ?_
  refine rv_fx_ind (fun (a0 : Int32 → Int32 → rv_W → rv_R) => ∀ (v5 : Int32) (v6 : Int32) (w7 : rv_W), K 9 [(0, .ref (ad 78)), (1, .int p1), (2, .int v5), (3, .int v6)] [] w7 (a0 v5 v6 w7)) (fun _ _ _ => rv_none h) (fun ag3 ih4 v5 v6 w7 => ?_) rv_FU (0 : Int32) (0 : Int32) w2
  refine rv_iload_n h 9 dX11_schulze_9 3 rfl ?_
  refine rv_iconst h 10 dX11_schulze_10 rv_c5 ?_
  refine rv_icmp_ge (tgt := 109) h 11 dX11_schulze_11 (by decide) (fun _ => ?_) (fun _ => ?_)
  rotate_left
  · refine rv_iload_n h 109 dX11_schulze_109 2 rfl ?_
    exact rv_reti hr 110 dX11_schulze_110
  refine rv_iload_n h 14 dX11_schulze_14 1 rfl ?_
  refine rv_iload_n h 15 dX11_schulze_15 3 rfl ?_
  refine rv_callSi h 16 dX11_schulze_16 (fn_X11_has hJ p1 v6  w7) ce_X11_has lk_X11_74 rfl rfl (Nat.le_of_ble_eq_true rfl) ⟨Nat.le_of_ble_eq_true rfl, Nat.le_of_ble_eq_true rfl⟩ (fun r8 w9 => ?_)
  refine rv_istore (lv' := [(4, .int r8), (0, .ref (ad 78)), (1, .int p1), (2, .int v5), (3, .int v6)]) h 19 dX11_schulze_19 (by decide) rfl ?_
  refine rv_iconst h 21 dX11_schulze_21 rv_c0 ?_
  refine rv_istore (lv' := [(5, .int (0 : Int32)), (4, .int r8), (0, .ref (ad 78)), (1, .int p1), (2, .int v5), (3, .int v6)]) h 22 dX11_schulze_22 (by decide) rfl ?_
  refine rv_sub h [2, 3, 4, 5, 1, 0] rfl ?_
  refine rv_fx_ind (fun (a0 : Int32 → Int32 → rv_W → rv_R) => ∀ (v12 : Int32) (v13 : Int32) (w14 : rv_W), K 24 [(0, .ref (ad 78)), (1, .int p1), (2, .int v5), (3, .int v6), (4, .int v12), (5, .int v13)] [] w14 (a0 v12 v13 w14)) (fun _ _ _ => rv_none h) (fun ag10 ih11 v12 v13 w14 => ?_) rv_FU r8 (0 : Int32) w9
  refine rv_iload h 24 dX11_schulze_24 5 rfl ?_
  refine rv_iconst h 26 dX11_schulze_26 rv_c5 ?_
  refine rv_icmp_ge (tgt := 88) h 27 dX11_schulze_27 (by decide) (fun _ => ?_) (fun _ => ?_)
  rotate_left
  · refine rv_iload_n h 88 dX11_schulze_88 2 rfl ?_
    refine rv_iload h 89 dX11_schulze_89 4 rfl ?_
    refine rv_if_eq (tgt := 100) h 91 dX11_schulze_91 (by decide) (fun _ => ?_) (fun _ => ?_)
    · refine rv_iconst h 100 dX11_schulze_100 rv_c0 ?_
      refine rv_ior h 101 dX11_schulze_101 ?_
      refine rv_top (fun v15 => ?_)
      refine rv_istore_n (lv' := [(2, .int v15), (0, .ref (ad 78)), (1, .int p1), (3, .int v6), (4, .int v12), (5, .int v13)]) h 102 dX11_schulze_102 (by decide) rfl ?_
      refine rv_iinc h 103 (fun v16 => [(3, .int v16), (2, .int v15), (0, .ref (ad 78)), (1, .int p1), (4, .int v12), (5, .int v13)]) dX11_schulze_103 3 rfl rv_c1 (by decide) (fun _ => rfl) (fun v16 => ?_)
      refine rv_goto (tgt := 9) h 106 dX11_schulze_106 (by decide) ?_
      refine rv_sub h [2, 3, 1, 0] rfl ?_
      exact ih4 v15 v16 w14
    refine rv_iconst h 94 dX11_schulze_94 rv_c1 ?_
    refine rv_iload_n h 95 dX11_schulze_95 3 rfl ?_
    refine rv_ishl h 96 dX11_schulze_96 ?_
    refine rv_goto (tgt := 101) h 97 dX11_schulze_97 (by decide) ?_
    refine rv_ior h 101 dX11_schulze_101 ?_
    refine rv_top (fun v17 => ?_)
    refine rv_istore_n (lv' := [(2, .int v17), (0, .ref (ad 78)), (1, .int p1), (3, .int v6), (4, .int v12), (5, .int v13)]) h 102 dX11_schulze_102 (by decide) rfl ?_
    refine rv_iinc h 103 (fun v18 => [(3, .int v18), (2, .int v17), (0, .ref (ad 78)), (1, .int p1), (4, .int v12), (5, .int v13)]) dX11_schulze_103 3 rfl rv_c1 (by decide) (fun _ => rfl) (fun v18 => ?_)
    refine rv_goto (tgt := 9) h 106 dX11_schulze_106 (by decide) ?_
    refine rv_sub h [2, 3, 1, 0] rfl ?_
    exact ih4 v17 v18 w14
  refine rv_iload h 30 dX11_schulze_30 4 rfl ?_
  refine rv_if_eq (tgt := 79) h 32 dX11_schulze_32 (by decide) (fun _ => ?_) (fun _ => ?_)
  · refine rv_iconst h 79 dX11_schulze_79 rv_c0 ?_
    refine rv_istore (lv' := [(4, .int (0 : Int32)), (0, .ref (ad 78)), (1, .int p1), (2, .int v5), (3, .int v6), (5, .int v13)]) h 80 dX11_schulze_80 (by decide) rfl ?_
    refine rv_iinc h 82 (fun v19 => [(5, .int v19), (4, .int (0 : Int32)), (0, .ref (ad 78)), (1, .int p1), (2, .int v5), (3, .int v6)]) dX11_schulze_82 5 rfl rv_c1 (by decide) (fun _ => rfl) (fun v19 => ?_)
    refine rv_goto (tgt := 24) h 85 dX11_schulze_85 (by decide) ?_
    refine rv_sub h [2, 3, 4, 5, 1, 0] rfl ?_
    exact ih11 (0 : Int32) v19 w14
  refine rv_iload h 35 dX11_schulze_35 5 rfl ?_
  refine rv_iload_n h 37 dX11_schulze_37 3 rfl ?_
  refine rv_join (fun (k0 : rv_W → rv_R) => ∀  (w20 : rv_W), K 75 [(0, .ref (ad 78)), (1, .int p1), (2, .int v5), (3, .int v6), (5, .int v13)] ([]) w20 (k0 w20)) (fun w20 => ?_) (fun k21 hk22 => ?_)
  · refine rv_iconst h 75 dX11_schulze_75 rv_c1 ?_
    refine rv_goto (tgt := 80) h 76 dX11_schulze_76 (by decide) ?_
    refine rv_istore (lv' := [(4, .int (1 : Int32)), (0, .ref (ad 78)), (1, .int p1), (2, .int v5), (3, .int v6), (5, .int v13)]) h 80 dX11_schulze_80 (by decide) rfl ?_
    refine rv_iinc h 82 (fun v23 => [(5, .int v23), (4, .int (1 : Int32)), (0, .ref (ad 78)), (1, .int p1), (2, .int v5), (3, .int v6)]) dX11_schulze_82 5 rfl rv_c1 (by decide) (fun _ => rfl) (fun v23 => ?_)
    refine rv_goto (tgt := 24) h 85 dX11_schulze_85 (by decide) ?_
    refine rv_sub h [2, 3, 4, 5, 1, 0] rfl ?_
    exact ih11 (1 : Int32) v23 w20
  refine rv_icmp_eq (tgt := 75) h 38 dX11_schulze_38 (by decide) (fun _ => ?_) (fun _ => ?_)
  · refine rv_sub h [0, 1, 2, 3, 5] rfl ?_
    exact hk22 w14
  refine rv_iload_n h 41 dX11_schulze_41 1 rfl ?_
  refine rv_iload h 42 dX11_schulze_42 5 rfl ?_
  refine rv_callSi h 44 dX11_schulze_44 (fn_X11_has hJ p1 v13  w14) ce_X11_has lk_X11_74 rfl rfl (Nat.le_of_ble_eq_true rfl) ⟨Nat.le_of_ble_eq_true rfl, Nat.le_of_ble_eq_true rfl⟩ (fun r24 w25 => ?_)
  refine rv_if_eq (tgt := 75) h 47 dX11_schulze_47 (by decide) (fun _ => ?_) (fun _ => ?_)
  · refine rv_sub h [0, 1, 2, 3, 5] rfl ?_
    exact hk22 w25
  refine rv_aload_n h 50 dX11_schulze_50 0 rfl ?_
  refine rv_getr h 51 dX11_schulze_51 rv_s78 rv_fd_X11_28 rfl ?_
  refine rv_iconst h 54 dX11_schulze_54 rv_c5 ?_
  refine rv_iload_n h 55 dX11_schulze_55 3 rfl ?_
  refine rv_imul h 56 dX11_schulze_56 ?_
  refine rv_iload h 57 dX11_schulze_57 5 rfl ?_
  refine rv_iadd h 59 dX11_schulze_59 ?_
  refine rv_iald h 60 dX11_schulze_60 rv_s85 ?_
  refine rv_aload_n h 61 dX11_schulze_61 0 rfl ?_
  refine rv_getr h 62 dX11_schulze_62 rv_s78 rv_fd_X11_28 rfl ?_
  refine rv_iconst h 65 dX11_schulze_65 rv_c5 ?_
  refine rv_iload h 66 dX11_schulze_66 5 rfl ?_
  refine rv_imul h 68 dX11_schulze_68 ?_
  refine rv_iload_n h 69 dX11_schulze_69 3 rfl ?_
  refine rv_iadd h 70 dX11_schulze_70 ?_
  refine rv_iald h 71 dX11_schulze_71 rv_s85 ?_
  refine rv_icmp_lt (tgt := 79) h 72 dX11_schulze_72 (by decide) (fun _ => ?_) (fun _ => ?_)
  rotate_left
  · refine rv_sub h [0, 1, 2, 3, 5] rfl ?_
    exact hk22 w25
  refine rv_iconst h 79 dX11_schulze_79 rv_c0 ?_
  refine rv_istore (lv' := [(4, .int (0 : Int32)), (0, .ref (ad 78)), (1, .int p1), (2, .int v5), (3, .int v6), (5, .int v13)]) h 80 dX11_schulze_80 (by decide) rfl ?_
  refine rv_iinc h 82 (fun v26 => [(5, .int v26), (4, .int (0 : Int32)), (0, .ref (ad 78)), (1, .int p1), (2, .int v5), (3, .int v6)]) dX11_schulze_82 5 rfl rv_c1 (by decide) (fun _ => rfl) (fun v26 => ?_)
  refine rv_goto (tgt := 24) h 85 dX11_schulze_85 (by decide) ?_
  refine rv_sub h [2, 3, 4, 5, 1, 0] rfl ?_
  exact ih11 (0 : Int32) v26 w25
def f_X11_locks (p1 : Int32) (p2 : Int32) (w : rv_W) : rv_R :=
  rv_ck (((5 : Int32) * p1) + p2) 25 (rv_gd ((1 : Int32) = 0 ∨ (1 : Int32) = 1) (rv_lt (rv_up w 86 (((5 : Int32) * p1) + p2).toNatClampNeg (1 : Int32)) (fun (w1 : rv_W) =>
  rv_fx (fun _ _ => none) (fun (ag2 : Int32 → rv_W → rv_R) (v4 : Int32) (w5 : rv_W) =>
  if v4 < (25 : Int32) then
  rv_lt ((v4 / (5 : Int32))) (fun (v6 : Int32) =>
  rv_lt ((v4 - v4 / (5 : Int32) * (5 : Int32))) (fun (v7 : Int32) =>
  rv_jn (fun (v8 : Int32) (w9 : rv_W) =>
  rv_ck v4 25 (
  rv_jn (fun  (w12 : rv_W) =>
  rv_ck v4 25 (rv_gd ((1 : Int32) = 0 ∨ (1 : Int32) = 1) (rv_lt (rv_up w12 87 v4.toNatClampNeg (1 : Int32)) (fun (w15 : rv_W) =>
  rv_lt (v4 + (1 : Int32)) (fun (v16 : Int32) =>
  ag2 v16 w15))))) (fun (k13 : rv_W → rv_R) =>
  if (w9 87 v4.toNatClampNeg) = 0 then
  if v8 = 0 then
  rv_ck v4 25 (rv_gd ((0 : Int32) = 0 ∨ (0 : Int32) = 1) (rv_lt (rv_up w9 87 v4.toNatClampNeg (0 : Int32)) (fun (w17 : rv_W) =>
  rv_lt (v4 + (1 : Int32)) (fun (v18 : Int32) =>
  ag2 v18 w17))))
  else
  k13 w9
  else
  k13 w9))) (fun (k10 : Int32 → rv_W → rv_R) =>
  rv_jn (fun  (w19 : rv_W) =>
  k10 (0 : Int32) w19) (fun (k20 : rv_W → rv_R) =>
  rv_jn (fun  (w22 : rv_W) =>
  rv_jn (fun  (w25 : rv_W) =>
  k10 (1 : Int32) w25) (fun (k26 : rv_W → rv_R) =>
  if v7 = p2 then
  k26 w22
  else
  rv_ck (((5 : Int32) * p2) + v7) 25 (
  if (w22 87 (((5 : Int32) * p2) + v7).toNatClampNeg) = 0 then
  k20 w22
  else
  k26 w22))) (fun (k23 : rv_W → rv_R) =>
  if v6 = p1 then
  k23 w5
  else
  rv_ck (((5 : Int32) * v6) + p1) 25 (
  if (w5 87 (((5 : Int32) * v6) + p1).toNatClampNeg) = 0 then
  k20 w5
  else
  k23 w5))))))
  else
  some (0, w5)) rv_FU (0 : Int32) w1)))
set_option maxRecDepth 100000 in
set_option maxHeartbeats 4000000 in
theorem fn_X11_locks {l : Launch} {D : va_G} {ad : Nat → Nat} {ca : Nat → ClassId} (hJ : rv_J ad) (p1 : Int32) (p2 : Int32)  (w : rv_W) : rv_Fn l D ad ca yX11_locks cX11_locks 7 none 0 0 [.ref (ad 78), .int p1, .int p2] w (f_X11_locks p1 p2 w) := by
  refine rv_mk (lv := [(0, .ref (ad 78)), (1, .int p1), (2, .int p2)]) hJ (by decide +kernel) (Nat.le_of_ble_eq_true rfl) rfl (fun K h hr => ?_)
  have h : rv_Rl D ad ca l RX11 cX11_locks 7 0 0 K := h
  unfold f_X11_locks
  refine rv_aload_n h 0 dX11_locks_0 0 rfl ?_
  refine rv_getr h 1 dX11_locks_1 rv_s78 rv_fd_X11_31 rfl ?_
  refine rv_iconst h 4 dX11_locks_4 rv_c5 ?_
  refine rv_iload_n h 5 dX11_locks_5 1 rfl ?_
  refine rv_imul h 6 dX11_locks_6 ?_
  refine rv_iload_n h 7 dX11_locks_7 2 rfl ?_
  refine rv_iadd h 8 dX11_locks_8 ?_
  refine rv_iconst h 9 dX11_locks_9 rv_c1 ?_
  refine rv_zast h 10 dX11_locks_10 rv_s86 (fun w1 => ?_)
  refine rv_iconst h 11 dX11_locks_11 rv_c0 ?_
  refine rv_istore_n (lv' := [(3, .int (0 : Int32)), (0, .ref (ad 78)), (1, .int p1), (2, .int p2)]) h 12 dX11_locks_12 (by decide) rfl ?_
  refine rv_sub h [1, 2, 3, 0] rfl ?_
  refine rv_fx_ind (fun (a0 : Int32 → rv_W → rv_R) => ∀ (v4 : Int32) (w5 : rv_W), K 13 [(0, .ref (ad 78)), (1, .int p1), (2, .int p2), (3, .int v4)] [] w5 (a0 v4 w5)) (fun _ _ => rv_none h) (fun ag2 ih3 v4 w5 => ?_) rv_FU (0 : Int32) w1
  refine rv_iload_n h 13 dX11_locks_13 3 rfl ?_
  refine rv_bipush (v := 25) h 14 dX11_locks_14 (by decide +kernel) ?_
  refine rv_icmp_ge (tgt := 107) h 16 dX11_locks_16 (by decide) (fun _ => ?_) (fun _ => ?_)
  rotate_left
  · exact rv_retv hr 107 dX11_locks_107
  refine rv_iload_n h 19 dX11_locks_19 3 rfl ?_
  refine rv_iconst h 20 dX11_locks_20 rv_c5 ?_
  refine rv_idiv h 21 dX11_locks_21 (by decide) ?_
  refine rv_top (fun v6 => ?_)
  refine rv_istore (lv' := [(4, .int v6), (0, .ref (ad 78)), (1, .int p1), (2, .int p2), (3, .int v4)]) h 22 dX11_locks_22 (by decide) rfl ?_
  refine rv_iload_n h 24 dX11_locks_24 4 rfl ?_
  refine rv_iconst h 25 dX11_locks_25 rv_c5 ?_
  refine rv_irem h 26 dX11_locks_26 (by decide) ?_
  refine rv_top (fun v7 => ?_)
  refine rv_istore (lv' := [(5, .int v7), (4, .int v6), (0, .ref (ad 78)), (1, .int p1), (2, .int p2), (3, .int v4)]) h 27 dX11_locks_27 (by decide) rfl ?_
  refine rv_iload h 29 dX11_locks_29 1 rfl ?_
  refine rv_iload_n h 31 dX11_locks_31 3 rfl ?_
  refine rv_join (fun (k0 : Int32 → rv_W → rv_R) => ∀ (v8 : Int32) (w9 : rv_W), K 74 [(0, .ref (ad 78)), (1, .int p1), (2, .int p2), (3, .int v4)] (.int v8 :: []) w9 (k0 v8 w9)) (fun v8 w9 => ?_) (fun k10 hk11 => ?_)
  · refine rv_istore (lv' := [(6, .int v8), (0, .ref (ad 78)), (1, .int p1), (2, .int p2), (3, .int v4)]) h 74 dX11_locks_74 (by decide) rfl ?_
    refine rv_aload_n h 76 dX11_locks_76 1 rfl ?_
    refine rv_getr h 77 dX11_locks_77 rv_s78 rv_fd_X11_35 rfl ?_
    refine rv_iload_n h 80 dX11_locks_80 4 rfl ?_
    refine rv_aload_n h 81 dX11_locks_81 1 rfl ?_
    refine rv_getr h 82 dX11_locks_82 rv_s78 rv_fd_X11_35 rfl ?_
    refine rv_iload_n h 85 dX11_locks_85 4 rfl ?_
    refine rv_zald h 86 dX11_locks_86 rv_s87 ?_
    refine rv_join (fun (k0 : rv_W → rv_R) => ∀  (w12 : rv_W), K 95 [(0, .ref (ad 78)), (1, .int p1), (2, .int p2), (3, .int v4)] (.int v4 :: .ref (ad 87) :: []) w12 (k0 w12)) (fun w12 => ?_) (fun k13 hk14 => ?_)
    · refine rv_iconst h 95 dX11_locks_95 rv_c1 ?_
      refine rv_goto (tgt := 100) h 96 dX11_locks_96 (by decide) ?_
      refine rv_zast h 100 dX11_locks_100 rv_s87 (fun w15 => ?_)
      refine rv_iinc h 101 (fun v16 => [(3, .int v16), (0, .ref (ad 78)), (1, .int p1), (2, .int p2)]) dX11_locks_101 3 rfl rv_c1 (by decide) (fun _ => rfl) (fun v16 => ?_)
      refine rv_goto (tgt := 13) h 104 dX11_locks_104 (by decide) ?_
      refine rv_sub h [1, 2, 3, 0] rfl ?_
      exact ih3 v16 w15
    refine rv_if_ne (tgt := 95) h 87 dX11_locks_87 (by decide) (fun _ => ?_) (fun _ => ?_)
    rotate_left
    · refine rv_sub h [1, 2, 3, 4] rfl ?_
      exact hk14 w9
    refine rv_iload h 90 dX11_locks_90 0 rfl ?_
    refine rv_if_eq (tgt := 99) h 92 dX11_locks_92 (by decide) (fun _ => ?_) (fun _ => ?_)
    rotate_left
    · refine rv_sub h [1, 2, 3, 4] rfl ?_
      exact hk14 w9
    refine rv_iconst h 99 dX11_locks_99 rv_c0 ?_
    refine rv_zast h 100 dX11_locks_100 rv_s87 (fun w17 => ?_)
    refine rv_iinc h 101 (fun v18 => [(3, .int v18), (6, .int v8), (0, .ref (ad 78)), (1, .int p1), (2, .int p2)]) dX11_locks_101 4 rfl rv_c1 (by decide) (fun _ => rfl) (fun v18 => ?_)
    refine rv_goto (tgt := 13) h 104 dX11_locks_104 (by decide) ?_
    refine rv_sub h [2, 3, 4, 0] rfl ?_
    exact ih3 v18 w17
  refine rv_join (fun (k0 : rv_W → rv_R) => ∀  (w19 : rv_W), K 73 [(0, .ref (ad 78)), (1, .int p1), (2, .int p2), (3, .int v4)] ([]) w19 (k0 w19)) (fun w19 => ?_) (fun k20 hk21 => ?_)
  · refine rv_iconst h 73 dX11_locks_73 rv_c0 ?_
    refine rv_sub h [0, 1, 2, 3] rfl ?_
    exact hk11 (0 : Int32) w19
  refine rv_join (fun (k0 : rv_W → rv_R) => ∀  (w22 : rv_W), K 49 [(0, .ref (ad 78)), (1, .int p1), (2, .int p2), (3, .int v4), (5, .int v7)] ([]) w22 (k0 w22)) (fun w22 => ?_) (fun k23 hk24 => ?_)
  · refine rv_iload h 49 dX11_locks_49 4 rfl ?_
    refine rv_iload_n h 51 dX11_locks_51 2 rfl ?_
    refine rv_join (fun (k0 : rv_W → rv_R) => ∀  (w25 : rv_W), K 69 [(0, .ref (ad 78)), (1, .int p1), (2, .int p2), (3, .int v4)] ([]) w25 (k0 w25)) (fun w25 => ?_) (fun k26 hk27 => ?_)
    · refine rv_iconst h 69 dX11_locks_69 rv_c1 ?_
      refine rv_goto (tgt := 74) h 70 dX11_locks_70 (by decide) ?_
      refine rv_sub h [0, 1, 2, 3] rfl ?_
      exact hk11 (1 : Int32) w25
    refine rv_icmp_eq (tgt := 69) h 52 dX11_locks_52 (by decide) (fun _ => ?_) (fun _ => ?_)
    · refine rv_sub h [0, 1, 2, 3] rfl ?_
      exact hk27 w22
    refine rv_aload_n h 55 dX11_locks_55 0 rfl ?_
    refine rv_getr h 56 dX11_locks_56 rv_s78 rv_fd_X11_35 rfl ?_
    refine rv_iconst h 59 dX11_locks_59 rv_c5 ?_
    refine rv_iload_n h 60 dX11_locks_60 2 rfl ?_
    refine rv_imul h 61 dX11_locks_61 ?_
    refine rv_iload h 62 dX11_locks_62 4 rfl ?_
    refine rv_iadd h 64 dX11_locks_64 ?_
    refine rv_zald h 65 dX11_locks_65 rv_s87 ?_
    refine rv_if_eq (tgt := 73) h 66 dX11_locks_66 (by decide) (fun _ => ?_) (fun _ => ?_)
    · refine rv_sub h [0, 1, 2, 3] rfl ?_
      exact hk21 w22
    refine rv_sub h [0, 1, 2, 3] rfl ?_
    exact hk27 w22
  refine rv_icmp_eq (tgt := 49) h 32 dX11_locks_32 (by decide) (fun _ => ?_) (fun _ => ?_)
  · refine rv_sub h [2, 3, 4, 5, 0] rfl ?_
    exact hk24 w5
  refine rv_aload_n h 35 dX11_locks_35 2 rfl ?_
  refine rv_getr h 36 dX11_locks_36 rv_s78 rv_fd_X11_35 rfl ?_
  refine rv_iconst h 39 dX11_locks_39 rv_c5 ?_
  refine rv_iload h 40 dX11_locks_40 1 rfl ?_
  refine rv_imul h 42 dX11_locks_42 ?_
  refine rv_iload_n h 43 dX11_locks_43 3 rfl ?_
  refine rv_iadd h 44 dX11_locks_44 ?_
  refine rv_zald h 45 dX11_locks_45 rv_s87 ?_
  refine rv_if_eq (tgt := 73) h 46 dX11_locks_46 (by decide) (fun _ => ?_) (fun _ => ?_)
  · refine rv_sub h [2, 3, 4, 5] rfl ?_
    exact hk21 w5
  refine rv_sub h [2, 3, 4, 5, 0] rfl ?_
  exact hk24 w5
def f_X11_locksAll (p1 : Int32) (w : rv_W) : rv_R :=
  rv_fx (fun _ _ => none) (fun (ag1 : Int32 → rv_W → rv_R) (v3 : Int32) (w4 : rv_W) =>
  if v3 < (25 : Int32) then
  rv_ck v3 25 (rv_gd ((0 : Int32) = 0 ∨ (0 : Int32) = 1) (rv_lt (rv_up w4 86 v3.toNatClampNeg (0 : Int32)) (fun (w38 : rv_W) =>
  rv_ck v3 25 (rv_gd ((0 : Int32) = 0 ∨ (0 : Int32) = 1) (rv_lt (rv_up w38 87 v3.toNatClampNeg (0 : Int32)) (fun (w39 : rv_W) =>
  rv_lt (v3 + (1 : Int32)) (fun (v40 : Int32) =>
  ag1 v40 w39)))))))
  else
  rv_bd (f_X11_allVotes  w4) (fun (r5 : Int32) (w6 : rv_W) =>
  rv_fx (fun _ _ => none) (fun (ag7 : Int32 → rv_W → rv_R) (v9 : Int32) (w10 : rv_W) =>
  if 0 < v9 then
  rv_fx (fun _ _ => none) (fun (ag11 : Int32 → rv_W → rv_R) (v13 : Int32) (w14 : rv_W) =>
  if v13 < (25 : Int32) then
  rv_lt ((v13 / (5 : Int32))) (fun (v16 : Int32) =>
  rv_lt ((v13 - v13 / (5 : Int32) * (5 : Int32))) (fun (v17 : Int32) =>
  rv_bd (f_X11_has p1 v16 w14) (fun (r18 : Int32) (w19 : rv_W) =>
  rv_jn (fun (v20 : Int32) (w21 : rv_W) =>
  if v20 = 0 then
  rv_lt (v13 + (1 : Int32)) (fun (v24 : Int32) =>
  ag11 v24 w21)
  else
  rv_ck (((5 : Int32) * v17) + v16) 25 (
  if (w21 87 (((5 : Int32) * v17) + v16).toNatClampNeg) = 0 then
  rv_bd (f_X11_locks v16 v17 w21) (fun (r26 : Int32) (w27 : rv_W) =>
  rv_lt (v13 + (1 : Int32)) (fun (v28 : Int32) =>
  ag11 v28 w27))
  else
  rv_lt (v13 + (1 : Int32)) (fun (v25 : Int32) =>
  ag11 v25 w21))) (fun (k22 : Int32 → rv_W → rv_R) =>
  rv_jn (fun  (w29 : rv_W) =>
  k22 (0 : Int32) w29) (fun (k30 : rv_W → rv_R) =>
  if r18 = 0 then
  k30 w19
  else
  rv_bd (f_X11_has p1 v17 w19) (fun (r32 : Int32) (w33 : rv_W) =>
  if r32 = 0 then
  k30 w33
  else
  rv_bd (f_X11_p v16 v17 w33) (fun (r34 : Int32) (w35 : rv_W) =>
  rv_bd (f_X11_p v17 v16 w35) (fun (r36 : Int32) (w37 : rv_W) =>
  if (r34 - r36) = v9 then
  k22 (1 : Int32) w37
  else
  k30 w37))))))))
  else
  rv_lt (v9 + (-1 : Int32)) (fun (v15 : Int32) =>
  ag7 v15 w14)) rv_FU (0 : Int32) w10
  else
  some (0, w10)) rv_FU r5 w6)) rv_FU (0 : Int32) w
set_option maxRecDepth 100000 in
set_option maxHeartbeats 4000000 in
theorem fn_X11_locksAll {l : Launch} {D : va_G} {ad : Nat → Nat} {ca : Nat → ClassId} (hJ : rv_J ad) (p1 : Int32)  (w : rv_W) : rv_Fn l D ad ca yX11_locksAll cX11_locksAll 7 none 1 26 [.ref (ad 78), .int p1] w (f_X11_locksAll p1 w) := by
  refine rv_mk (lv := [(0, .ref (ad 78)), (1, .int p1)]) hJ (by decide +kernel) (Nat.le_of_ble_eq_true rfl) rfl (fun K h hr => ?_)
  have h : rv_Rl D ad ca l RX11 cX11_locksAll 7 1 26 K := h
  unfold f_X11_locksAll
  refine rv_iconst h 0 dX11_locksAll_0 rv_c0 ?_
  refine rv_istore_n (lv' := [(2, .int (0 : Int32)), (0, .ref (ad 78)), (1, .int p1)]) h 1 dX11_locksAll_1 (by decide) rfl ?_
  refine rv_sub h [1, 2, 0] rfl ?_
  refine rv_fx_ind (fun (a0 : Int32 → rv_W → rv_R) => ∀ (v3 : Int32) (w4 : rv_W), K 2 [(0, .ref (ad 78)), (1, .int p1), (2, .int v3)] [] w4 (a0 v3 w4)) (fun _ _ => rv_none h) (fun ag1 ih2 v3 w4 => ?_) rv_FU (0 : Int32) w
  refine rv_iload_n h 2 dX11_locksAll_2 2 rfl ?_
  refine rv_bipush (v := 25) h 3 dX11_locksAll_3 (by decide +kernel) ?_
  refine rv_icmp_ge (tgt := 28) h 5 dX11_locksAll_5 (by decide) (fun _ => ?_) (fun _ => ?_)
  · refine rv_aload_n h 8 dX11_locksAll_8 0 rfl ?_
    refine rv_getr h 9 dX11_locksAll_9 rv_s78 rv_fd_X11_31 rfl ?_
    refine rv_iload_n h 12 dX11_locksAll_12 2 rfl ?_
    refine rv_iconst h 13 dX11_locksAll_13 rv_c0 ?_
    refine rv_zast h 14 dX11_locksAll_14 rv_s86 (fun w38 => ?_)
    refine rv_aload_n h 15 dX11_locksAll_15 0 rfl ?_
    refine rv_getr h 16 dX11_locksAll_16 rv_s78 rv_fd_X11_35 rfl ?_
    refine rv_iload_n h 19 dX11_locksAll_19 2 rfl ?_
    refine rv_iconst h 20 dX11_locksAll_20 rv_c0 ?_
    refine rv_zast h 21 dX11_locksAll_21 rv_s87 (fun w39 => ?_)
    refine rv_iinc h 22 (fun v40 => [(2, .int v40), (0, .ref (ad 78)), (1, .int p1)]) dX11_locksAll_22 2 rfl rv_c1 (by decide) (fun _ => rfl) (fun v40 => ?_)
    refine rv_goto (tgt := 2) h 25 dX11_locksAll_25 (by decide) ?_
    refine rv_sub h [1, 2, 0] rfl ?_
    exact ih2 v40 w39
  refine rv_aload_n h 28 dX11_locksAll_28 0 rfl ?_
  refine rv_callVi h 29 dX11_locksAll_29 (fn_X11_allVotes hJ   w4) ce_X11_allVotes lk_X11_115 rv_s78 rfl rv_cf9 rfl rfl (Nat.le_of_ble_eq_true rfl) ⟨Nat.le_of_ble_eq_true rfl, Nat.le_of_ble_eq_true rfl⟩ (fun r5 w6 => ?_)
  refine rv_istore_n (lv' := [(2, .int r5), (0, .ref (ad 78)), (1, .int p1)]) h 32 dX11_locksAll_32 (by decide) rfl ?_
  refine rv_sub h [1, 2, 0] rfl ?_
  refine rv_fx_ind (fun (a0 : Int32 → rv_W → rv_R) => ∀ (v9 : Int32) (w10 : rv_W), K 33 [(0, .ref (ad 78)), (1, .int p1), (2, .int v9)] [] w10 (a0 v9 w10)) (fun _ _ => rv_none h) (fun ag7 ih8 v9 w10 => ?_) rv_FU r5 w6
  refine rv_iload_n h 33 dX11_locksAll_33 2 rfl ?_
  refine rv_if_le (tgt := 141) h 34 dX11_locksAll_34 (by decide) (fun _ => ?_) (fun _ => ?_)
  rotate_left
  · exact rv_retv hr 141 dX11_locksAll_141
  refine rv_iconst h 37 dX11_locksAll_37 rv_c0 ?_
  refine rv_istore_n (lv' := [(3, .int (0 : Int32)), (0, .ref (ad 78)), (1, .int p1), (2, .int v9)]) h 38 dX11_locksAll_38 (by decide) rfl ?_
  refine rv_sub h [1, 2, 3, 0] rfl ?_
  refine rv_fx_ind (fun (a0 : Int32 → rv_W → rv_R) => ∀ (v13 : Int32) (w14 : rv_W), K 39 [(0, .ref (ad 78)), (1, .int p1), (2, .int v9), (3, .int v13)] [] w14 (a0 v13 w14)) (fun _ _ => rv_none h) (fun ag11 ih12 v13 w14 => ?_) rv_FU (0 : Int32) w10
  refine rv_iload_n h 39 dX11_locksAll_39 3 rfl ?_
  refine rv_bipush (v := 25) h 40 dX11_locksAll_40 (by decide +kernel) ?_
  refine rv_icmp_ge (tgt := 135) h 42 dX11_locksAll_42 (by decide) (fun _ => ?_) (fun _ => ?_)
  rotate_left
  · refine rv_iinc h 135 (fun v15 => [(2, .int v15), (0, .ref (ad 78)), (1, .int p1), (3, .int v13)]) dX11_locksAll_135 2 rfl rv_cm1 (by decide) (fun _ => rfl) (fun v15 => ?_)
    refine rv_goto (tgt := 33) h 138 dX11_locksAll_138 (by decide) ?_
    refine rv_sub h [1, 2, 0] rfl ?_
    exact ih8 v15 w14
  refine rv_iload_n h 45 dX11_locksAll_45 3 rfl ?_
  refine rv_iconst h 46 dX11_locksAll_46 rv_c5 ?_
  refine rv_idiv h 47 dX11_locksAll_47 (by decide) ?_
  refine rv_top (fun v16 => ?_)
  refine rv_istore (lv' := [(4, .int v16), (0, .ref (ad 78)), (1, .int p1), (2, .int v9), (3, .int v13)]) h 48 dX11_locksAll_48 (by decide) rfl ?_
  refine rv_iload_n h 50 dX11_locksAll_50 4 rfl ?_
  refine rv_iconst h 51 dX11_locksAll_51 rv_c5 ?_
  refine rv_irem h 52 dX11_locksAll_52 (by decide) ?_
  refine rv_top (fun v17 => ?_)
  refine rv_istore (lv' := [(5, .int v17), (4, .int v16), (0, .ref (ad 78)), (1, .int p1), (2, .int v9), (3, .int v13)]) h 53 dX11_locksAll_53 (by decide) rfl ?_
  refine rv_iload_n h 55 dX11_locksAll_55 3 rfl ?_
  refine rv_iload h 56 dX11_locksAll_56 1 rfl ?_
  refine rv_callSi h 58 dX11_locksAll_58 (fn_X11_has hJ p1 v16  w14) ce_X11_has lk_X11_74 rfl rfl (Nat.le_of_ble_eq_true rfl) ⟨Nat.le_of_ble_eq_true rfl, Nat.le_of_ble_eq_true rfl⟩ (fun r18 w19 => ?_)
  refine rv_join (fun (k0 : Int32 → rv_W → rv_R) => ∀ (v20 : Int32) (w21 : rv_W), K 99 [(0, .ref (ad 78)), (1, .int p1), (2, .int v9), (3, .int v13), (4, .int v16), (5, .int v17)] (.int v20 :: []) w21 (k0 v20 w21)) (fun v20 w21 => ?_) (fun k22 hk23 => ?_)
  · refine rv_istore (lv' := [(6, .int v20), (0, .ref (ad 78)), (1, .int p1), (2, .int v9), (3, .int v13), (4, .int v16), (5, .int v17)]) h 99 dX11_locksAll_99 (by decide) rfl ?_
    refine rv_iload h 101 dX11_locksAll_101 0 rfl ?_
    refine rv_if_eq (tgt := 129) h 103 dX11_locksAll_103 (by decide) (fun _ => ?_) (fun _ => ?_)
    · refine rv_iinc h 129 (fun v24 => [(3, .int v24), (6, .int v20), (0, .ref (ad 78)), (1, .int p1), (2, .int v9), (4, .int v16), (5, .int v17)]) dX11_locksAll_129 4 rfl rv_c1 (by decide) (fun _ => rfl) (fun v24 => ?_)
      refine rv_goto (tgt := 39) h 132 dX11_locksAll_132 (by decide) ?_
      refine rv_sub h [2, 3, 4, 0] rfl ?_
      exact ih12 v24 w21
    refine rv_aload_n h 106 dX11_locksAll_106 1 rfl ?_
    refine rv_getr h 107 dX11_locksAll_107 rv_s78 rv_fd_X11_35 rfl ?_
    refine rv_iconst h 110 dX11_locksAll_110 rv_c5 ?_
    refine rv_iload h 111 dX11_locksAll_111 6 rfl ?_
    refine rv_imul h 113 dX11_locksAll_113 ?_
    refine rv_iload h 114 dX11_locksAll_114 5 rfl ?_
    refine rv_iadd h 116 dX11_locksAll_116 ?_
    refine rv_zald h 117 dX11_locksAll_117 rv_s87 ?_
    refine rv_if_ne (tgt := 129) h 118 dX11_locksAll_118 (by decide) (fun _ => ?_) (fun _ => ?_)
    rotate_left
    · refine rv_iinc h 129 (fun v25 => [(3, .int v25), (6, .int v20), (0, .ref (ad 78)), (1, .int p1), (2, .int v9), (4, .int v16), (5, .int v17)]) dX11_locksAll_129 4 rfl rv_c1 (by decide) (fun _ => rfl) (fun v25 => ?_)
      refine rv_goto (tgt := 39) h 132 dX11_locksAll_132 (by decide) ?_
      refine rv_sub h [2, 3, 4, 0] rfl ?_
      exact ih12 v25 w21
    refine rv_aload_n h 121 dX11_locksAll_121 1 rfl ?_
    refine rv_iload h 122 dX11_locksAll_122 5 rfl ?_
    refine rv_iload h 124 dX11_locksAll_124 6 rfl ?_
    refine rv_callVv h 126 dX11_locksAll_126 (fn_X11_locks hJ v16 v17  w21) ce_X11_locks lk_X11_125 rv_s78 rfl rv_cf9 rfl rfl (Nat.le_of_ble_eq_true rfl) ⟨Nat.le_of_ble_eq_true rfl, Nat.le_of_ble_eq_true rfl⟩ (fun r26 w27 => ?_)
    refine rv_iinc h 129 (fun v28 => [(3, .int v28), (6, .int v20), (0, .ref (ad 78)), (1, .int p1), (2, .int v9), (4, .int v16), (5, .int v17)]) dX11_locksAll_129 4 rfl rv_c1 (by decide) (fun _ => rfl) (fun v28 => ?_)
    refine rv_goto (tgt := 39) h 132 dX11_locksAll_132 (by decide) ?_
    refine rv_sub h [2, 3, 4, 0] rfl ?_
    exact ih12 v28 w27
  refine rv_join (fun (k0 : rv_W → rv_R) => ∀  (w29 : rv_W), K 98 [(0, .ref (ad 78)), (1, .int p1), (2, .int v9), (3, .int v13), (4, .int v16), (5, .int v17)] ([]) w29 (k0 w29)) (fun w29 => ?_) (fun k30 hk31 => ?_)
  · refine rv_iconst h 98 dX11_locksAll_98 rv_c0 ?_
    refine rv_sub h [0, 1, 2, 3, 4, 5] rfl ?_
    exact hk23 (0 : Int32) w29
  refine rv_if_eq (tgt := 98) h 61 dX11_locksAll_61 (by decide) (fun _ => ?_) (fun _ => ?_)
  · refine rv_sub h [2, 3, 4, 5, 1, 0] rfl ?_
    exact hk31 w19
  refine rv_iload_n h 64 dX11_locksAll_64 3 rfl ?_
  refine rv_iload h 65 dX11_locksAll_65 0 rfl ?_
  refine rv_callSi h 67 dX11_locksAll_67 (fn_X11_has hJ p1 v17  w19) ce_X11_has lk_X11_74 rfl rfl (Nat.le_of_ble_eq_true rfl) ⟨Nat.le_of_ble_eq_true rfl, Nat.le_of_ble_eq_true rfl⟩ (fun r32 w33 => ?_)
  refine rv_if_eq (tgt := 98) h 70 dX11_locksAll_70 (by decide) (fun _ => ?_) (fun _ => ?_)
  · refine rv_sub h [2, 3, 4, 5, 1, 0] rfl ?_
    exact hk31 w33
  refine rv_aload_n h 73 dX11_locksAll_73 2 rfl ?_
  refine rv_iload h 74 dX11_locksAll_74 1 rfl ?_
  refine rv_iload h 76 dX11_locksAll_76 0 rfl ?_
  refine rv_callVi h 78 dX11_locksAll_78 (fn_X11_p hJ v16 v17  w33) ce_X11_p lk_X11_92 rv_s78 rfl rv_cf9 rfl rfl (Nat.le_of_ble_eq_true rfl) ⟨Nat.le_of_ble_eq_true rfl, Nat.le_of_ble_eq_true rfl⟩ (fun r34 w35 => ?_)
  refine rv_aload_n h 81 dX11_locksAll_81 2 rfl ?_
  refine rv_iload h 82 dX11_locksAll_82 0 rfl ?_
  refine rv_iload h 84 dX11_locksAll_84 1 rfl ?_
  refine rv_callVi h 86 dX11_locksAll_86 (fn_X11_p hJ v17 v16  w35) ce_X11_p lk_X11_92 rv_s78 rfl rv_cf9 rfl rfl (Nat.le_of_ble_eq_true rfl) ⟨Nat.le_of_ble_eq_true rfl, Nat.le_of_ble_eq_true rfl⟩ (fun r36 w37 => ?_)
  refine rv_isub h 89 dX11_locksAll_89 ?_
  refine rv_iload_n h 90 dX11_locksAll_90 4 rfl ?_
  refine rv_icmp_ne (tgt := 98) h 91 dX11_locksAll_91 (by decide) (fun _ => ?_) (fun _ => ?_)
  rotate_left
  · refine rv_sub h [2, 3, 4, 5, 1, 0] rfl ?_
    exact hk31 w37
  refine rv_iconst h 94 dX11_locksAll_94 rv_c1 ?_
  refine rv_goto (tgt := 99) h 95 dX11_locksAll_95 (by decide) ?_
  refine rv_sub h [2, 3, 4, 5, 1, 0] rfl ?_
  exact hk23 (1 : Int32) w37
def f_X11_rankedPairs (p1 : Int32) (w : rv_W) : rv_R :=
  rv_bd (f_X11_locksAll p1 w) (fun (r1 : Int32) (w2 : rv_W) =>
  rv_fx (fun _ _ _ => none) (fun (ag3 : Int32 → Int32 → rv_W → rv_R) (v5 : Int32) (v6 : Int32) (w7 : rv_W) =>
  if v6 < (5 : Int32) then
  rv_bd (f_X11_has p1 v6 w7) (fun (r8 : Int32) (w9 : rv_W) =>
  rv_fx (fun _ _ _ => none) (fun (ag10 : Int32 → Int32 → rv_W → rv_R) (v12 : Int32) (v13 : Int32) (w14 : rv_W) =>
  if v13 < (5 : Int32) then
  if v12 = 0 then
  rv_lt (v13 + (1 : Int32)) (fun (v19 : Int32) =>
  ag10 (0 : Int32) v19 w14)
  else
  rv_ck (((5 : Int32) * v13) + v6) 25 (
  if (w14 86 (((5 : Int32) * v13) + v6).toNatClampNeg) = 0 then
  rv_lt (v13 + (1 : Int32)) (fun (v21 : Int32) =>
  ag10 (1 : Int32) v21 w14)
  else
  rv_lt (v13 + (1 : Int32)) (fun (v20 : Int32) =>
  ag10 (0 : Int32) v20 w14))
  else
  if v12 = 0 then
  rv_lt ((v5 ||| (0 : Int32))) (fun (v15 : Int32) =>
  rv_lt (v6 + (1 : Int32)) (fun (v16 : Int32) =>
  ag3 v15 v16 w14))
  else
  rv_lt ((v5 ||| ((1 : Int32) <<< (v6 &&& 31)))) (fun (v17 : Int32) =>
  rv_lt (v6 + (1 : Int32)) (fun (v18 : Int32) =>
  ag3 v17 v18 w14))) rv_FU r8 (0 : Int32) w9)
  else
  some (v5, w7)) rv_FU (0 : Int32) (0 : Int32) w2)
set_option maxRecDepth 100000 in
set_option maxHeartbeats 4000000 in
theorem fn_X11_rankedPairs {l : Launch} {D : va_G} {ad : Nat → Nat} {ca : Nat → ClassId} (hJ : rv_J ad) (p1 : Int32)  (w : rv_W) : rv_Fn l D ad ca yX11_rankedPairs cX11_rankedPairs 6 (some .int) 2 52 [.ref (ad 78), .int p1] w (f_X11_rankedPairs p1 w) := by
  refine rv_mk (lv := [(0, .ref (ad 78)), (1, .int p1)]) hJ (by decide +kernel) (Nat.le_of_ble_eq_true rfl) rfl (fun K h hr => ?_)
  have h : rv_Rl D ad ca l RX11 cX11_rankedPairs 6 2 52 K := h
  unfold f_X11_rankedPairs
  refine rv_aload_n h 0 dX11_rankedPairs_0 0 rfl ?_
  refine rv_iload_n h 1 dX11_rankedPairs_1 1 rfl ?_
  refine rv_callVv h 2 dX11_rankedPairs_2 (fn_X11_locksAll hJ p1  w) ce_X11_locksAll lk_X11_128 rv_s78 rfl rv_cf9 rfl rfl (Nat.le_of_ble_eq_true rfl) ⟨Nat.le_of_ble_eq_true rfl, Nat.le_of_ble_eq_true rfl⟩ (fun r1 w2 => ?_)
  refine rv_iconst h 5 dX11_rankedPairs_5 rv_c0 ?_
  refine rv_istore_n (lv' := [(2, .int (0 : Int32)), (0, .ref (ad 78)), (1, .int p1)]) h 6 dX11_rankedPairs_6 (by decide) rfl ?_
  refine rv_iconst h 7 dX11_rankedPairs_7 rv_c0 ?_
  refine rv_istore_n (lv' := [(3, .int (0 : Int32)), (2, .int (0 : Int32)), (0, .ref (ad 78)), (1, .int p1)]) h 8 dX11_rankedPairs_8 (by decide) rfl ?_
  refine rv_sub h [2, 3, 1, 0] rfl ?_
  refine rv_fx_ind (fun (a0 : Int32 → Int32 → rv_W → rv_R) => ∀ (v5 : Int32) (v6 : Int32) (w7 : rv_W), K 9 [(0, .ref (ad 78)), (1, .int p1), (2, .int v5), (3, .int v6)] [] w7 (a0 v5 v6 w7)) (fun _ _ _ => rv_none h) (fun ag3 ih4 v5 v6 w7 => ?_) rv_FU (0 : Int32) (0 : Int32) w2
  refine rv_iload_n h 9 dX11_rankedPairs_9 3 rfl ?_
  refine rv_iconst h 10 dX11_rankedPairs_10 rv_c5 ?_
  refine rv_icmp_ge (tgt := 83) h 11 dX11_rankedPairs_11 (by decide) (fun _ => ?_) (fun _ => ?_)
  rotate_left
  · refine rv_iload_n h 83 dX11_rankedPairs_83 2 rfl ?_
    exact rv_reti hr 84 dX11_rankedPairs_84
  refine rv_iload_n h 14 dX11_rankedPairs_14 1 rfl ?_
  refine rv_iload_n h 15 dX11_rankedPairs_15 3 rfl ?_
  refine rv_callSi h 16 dX11_rankedPairs_16 (fn_X11_has hJ p1 v6  w7) ce_X11_has lk_X11_74 rfl rfl (Nat.le_of_ble_eq_true rfl) ⟨Nat.le_of_ble_eq_true rfl, Nat.le_of_ble_eq_true rfl⟩ (fun r8 w9 => ?_)
  refine rv_istore (lv' := [(4, .int r8), (0, .ref (ad 78)), (1, .int p1), (2, .int v5), (3, .int v6)]) h 19 dX11_rankedPairs_19 (by decide) rfl ?_
  refine rv_iconst h 21 dX11_rankedPairs_21 rv_c0 ?_
  refine rv_istore (lv' := [(5, .int (0 : Int32)), (4, .int r8), (0, .ref (ad 78)), (1, .int p1), (2, .int v5), (3, .int v6)]) h 22 dX11_rankedPairs_22 (by decide) rfl ?_
  refine rv_sub h [2, 3, 4, 5, 1, 0] rfl ?_
  refine rv_fx_ind (fun (a0 : Int32 → Int32 → rv_W → rv_R) => ∀ (v12 : Int32) (v13 : Int32) (w14 : rv_W), K 24 [(0, .ref (ad 78)), (1, .int p1), (2, .int v5), (3, .int v6), (4, .int v12), (5, .int v13)] [] w14 (a0 v12 v13 w14)) (fun _ _ _ => rv_none h) (fun ag10 ih11 v12 v13 w14 => ?_) rv_FU r8 (0 : Int32) w9
  refine rv_iload h 24 dX11_rankedPairs_24 5 rfl ?_
  refine rv_iconst h 26 dX11_rankedPairs_26 rv_c5 ?_
  refine rv_icmp_ge (tgt := 62) h 27 dX11_rankedPairs_27 (by decide) (fun _ => ?_) (fun _ => ?_)
  rotate_left
  · refine rv_iload_n h 62 dX11_rankedPairs_62 2 rfl ?_
    refine rv_iload h 63 dX11_rankedPairs_63 4 rfl ?_
    refine rv_if_eq (tgt := 74) h 65 dX11_rankedPairs_65 (by decide) (fun _ => ?_) (fun _ => ?_)
    · refine rv_iconst h 74 dX11_rankedPairs_74 rv_c0 ?_
      refine rv_ior h 75 dX11_rankedPairs_75 ?_
      refine rv_top (fun v15 => ?_)
      refine rv_istore_n (lv' := [(2, .int v15), (0, .ref (ad 78)), (1, .int p1), (3, .int v6), (4, .int v12), (5, .int v13)]) h 76 dX11_rankedPairs_76 (by decide) rfl ?_
      refine rv_iinc h 77 (fun v16 => [(3, .int v16), (2, .int v15), (0, .ref (ad 78)), (1, .int p1), (4, .int v12), (5, .int v13)]) dX11_rankedPairs_77 3 rfl rv_c1 (by decide) (fun _ => rfl) (fun v16 => ?_)
      refine rv_goto (tgt := 9) h 80 dX11_rankedPairs_80 (by decide) ?_
      refine rv_sub h [2, 3, 1, 0] rfl ?_
      exact ih4 v15 v16 w14
    refine rv_iconst h 68 dX11_rankedPairs_68 rv_c1 ?_
    refine rv_iload_n h 69 dX11_rankedPairs_69 3 rfl ?_
    refine rv_ishl h 70 dX11_rankedPairs_70 ?_
    refine rv_goto (tgt := 75) h 71 dX11_rankedPairs_71 (by decide) ?_
    refine rv_ior h 75 dX11_rankedPairs_75 ?_
    refine rv_top (fun v17 => ?_)
    refine rv_istore_n (lv' := [(2, .int v17), (0, .ref (ad 78)), (1, .int p1), (3, .int v6), (4, .int v12), (5, .int v13)]) h 76 dX11_rankedPairs_76 (by decide) rfl ?_
    refine rv_iinc h 77 (fun v18 => [(3, .int v18), (2, .int v17), (0, .ref (ad 78)), (1, .int p1), (4, .int v12), (5, .int v13)]) dX11_rankedPairs_77 3 rfl rv_c1 (by decide) (fun _ => rfl) (fun v18 => ?_)
    refine rv_goto (tgt := 9) h 80 dX11_rankedPairs_80 (by decide) ?_
    refine rv_sub h [2, 3, 1, 0] rfl ?_
    exact ih4 v17 v18 w14
  refine rv_iload h 30 dX11_rankedPairs_30 4 rfl ?_
  refine rv_if_eq (tgt := 53) h 32 dX11_rankedPairs_32 (by decide) (fun _ => ?_) (fun _ => ?_)
  · refine rv_iconst h 53 dX11_rankedPairs_53 rv_c0 ?_
    refine rv_istore (lv' := [(4, .int (0 : Int32)), (0, .ref (ad 78)), (1, .int p1), (2, .int v5), (3, .int v6), (5, .int v13)]) h 54 dX11_rankedPairs_54 (by decide) rfl ?_
    refine rv_iinc h 56 (fun v19 => [(5, .int v19), (4, .int (0 : Int32)), (0, .ref (ad 78)), (1, .int p1), (2, .int v5), (3, .int v6)]) dX11_rankedPairs_56 5 rfl rv_c1 (by decide) (fun _ => rfl) (fun v19 => ?_)
    refine rv_goto (tgt := 24) h 59 dX11_rankedPairs_59 (by decide) ?_
    refine rv_sub h [2, 3, 4, 5, 1, 0] rfl ?_
    exact ih11 (0 : Int32) v19 w14
  refine rv_aload_n h 35 dX11_rankedPairs_35 0 rfl ?_
  refine rv_getr h 36 dX11_rankedPairs_36 rv_s78 rv_fd_X11_31 rfl ?_
  refine rv_iconst h 39 dX11_rankedPairs_39 rv_c5 ?_
  refine rv_iload h 40 dX11_rankedPairs_40 5 rfl ?_
  refine rv_imul h 42 dX11_rankedPairs_42 ?_
  refine rv_iload_n h 43 dX11_rankedPairs_43 3 rfl ?_
  refine rv_iadd h 44 dX11_rankedPairs_44 ?_
  refine rv_zald h 45 dX11_rankedPairs_45 rv_s86 ?_
  refine rv_if_ne (tgt := 53) h 46 dX11_rankedPairs_46 (by decide) (fun _ => ?_) (fun _ => ?_)
  rotate_left
  · refine rv_iconst h 53 dX11_rankedPairs_53 rv_c0 ?_
    refine rv_istore (lv' := [(4, .int (0 : Int32)), (0, .ref (ad 78)), (1, .int p1), (2, .int v5), (3, .int v6), (5, .int v13)]) h 54 dX11_rankedPairs_54 (by decide) rfl ?_
    refine rv_iinc h 56 (fun v20 => [(5, .int v20), (4, .int (0 : Int32)), (0, .ref (ad 78)), (1, .int p1), (2, .int v5), (3, .int v6)]) dX11_rankedPairs_56 5 rfl rv_c1 (by decide) (fun _ => rfl) (fun v20 => ?_)
    refine rv_goto (tgt := 24) h 59 dX11_rankedPairs_59 (by decide) ?_
    refine rv_sub h [2, 3, 4, 5, 1, 0] rfl ?_
    exact ih11 (0 : Int32) v20 w14
  refine rv_iconst h 49 dX11_rankedPairs_49 rv_c1 ?_
  refine rv_goto (tgt := 54) h 50 dX11_rankedPairs_50 (by decide) ?_
  refine rv_istore (lv' := [(4, .int (1 : Int32)), (0, .ref (ad 78)), (1, .int p1), (2, .int v5), (3, .int v6), (5, .int v13)]) h 54 dX11_rankedPairs_54 (by decide) rfl ?_
  refine rv_iinc h 56 (fun v21 => [(5, .int v21), (4, .int (1 : Int32)), (0, .ref (ad 78)), (1, .int p1), (2, .int v5), (3, .int v6)]) dX11_rankedPairs_56 5 rfl rv_c1 (by decide) (fun _ => rfl) (fun v21 => ?_)
  refine rv_goto (tgt := 24) h 59 dX11_rankedPairs_59 (by decide) ?_
  refine rv_sub h [2, 3, 4, 5, 1, 0] rfl ?_
  exact ih11 (1 : Int32) v21 w14
def f_X11_leave (p1 : Int32) (p2 : Int32) (w : rv_W) : rv_R :=
  rv_ck (w 78 15) 5 (rv_lt (rv_up w 90 (w 78 15).toNatClampNeg p1) (fun (w1 : rv_W) =>
  rv_ck (w1 78 15) 5 (rv_lt (rv_up w1 88 (w1 78 15).toNatClampNeg p2) (fun (w2 : rv_W) =>
  rv_fx (fun _ _ => none) (fun (ag3 : Int32 → rv_W → rv_R) (v5 : Int32) (w6 : rv_W) =>
  if v5 < (5 : Int32) then
  rv_ck v5 5 (
  rv_ck (((5 : Int32) * (w6 78 15)) + v5) 25 (rv_lt (rv_up w6 89 (((5 : Int32) * (w6 78 15)) + v5).toNatClampNeg (w6 84 v5.toNatClampNeg)) (fun (w8 : rv_W) =>
  rv_lt (v5 + (1 : Int32)) (fun (v9 : Int32) =>
  ag3 v9 w8))))
  else
  rv_lt (rv_up w6 78 15 ((w6 78 15) + (1 : Int32))) (fun (w7 : rv_W) =>
  some (0, w7))) rv_FU (0 : Int32) w2))))
set_option maxRecDepth 100000 in
set_option maxHeartbeats 4000000 in
theorem fn_X11_leave {l : Launch} {D : va_G} {ad : Nat → Nat} {ca : Nat → ClassId} (hJ : rv_J ad) (p1 : Int32) (p2 : Int32)  (w : rv_W) : rv_Fn l D ad ca yX11_leave cX11_leave 4 none 0 0 [.ref (ad 78), .int p1, .int p2] w (f_X11_leave p1 p2 w) := by
  refine rv_mk (lv := [(0, .ref (ad 78)), (1, .int p1), (2, .int p2)]) hJ (by decide +kernel) (Nat.le_of_ble_eq_true rfl) rfl (fun K h hr => ?_)
  have h : rv_Rl D ad ca l RX11 cX11_leave 4 0 0 K := h
  unfold f_X11_leave
  refine rv_aload_n h 0 dX11_leave_0 0 rfl ?_
  refine rv_getr h 1 dX11_leave_1 rv_s78 rv_fd_X11_44 rfl ?_
  refine rv_aload_n h 4 dX11_leave_4 0 rfl ?_
  refine rv_geti h 5 dX11_leave_5 rv_s78 rv_fd_X11_131 rfl ?_
  refine rv_iload_n h 8 dX11_leave_8 1 rfl ?_
  refine rv_iast h 9 dX11_leave_9 rv_s90 (fun w1 => ?_)
  refine rv_aload_n h 10 dX11_leave_10 0 rfl ?_
  refine rv_getr h 11 dX11_leave_11 rv_s78 rv_fd_X11_38 rfl ?_
  refine rv_aload_n h 14 dX11_leave_14 0 rfl ?_
  refine rv_geti h 15 dX11_leave_15 rv_s78 rv_fd_X11_131 rfl ?_
  refine rv_iload_n h 18 dX11_leave_18 2 rfl ?_
  refine rv_iast h 19 dX11_leave_19 rv_s88 (fun w2 => ?_)
  refine rv_iconst h 20 dX11_leave_20 rv_c0 ?_
  refine rv_istore_n (lv' := [(3, .int (0 : Int32)), (0, .ref (ad 78)), (1, .int p1), (2, .int p2)]) h 21 dX11_leave_21 (by decide) rfl ?_
  refine rv_sub h [1, 0] rfl ?_
  refine rv_fx_ind (fun (a0 : Int32 → rv_W → rv_R) => ∀ (v5 : Int32) (w6 : rv_W), K 22 [(0, .ref (ad 78)), (3, .int v5)] [] w6 (a0 v5 w6)) (fun _ _ => rv_none h) (fun ag3 ih4 v5 w6 => ?_) rv_FU (0 : Int32) w2
  refine rv_iload_n h 22 dX11_leave_22 1 rfl ?_
  refine rv_iconst h 23 dX11_leave_23 rv_c5 ?_
  refine rv_icmp_ge (tgt := 52) h 24 dX11_leave_24 (by decide) (fun _ => ?_) (fun _ => ?_)
  rotate_left
  · refine rv_aload_n h 52 dX11_leave_52 0 rfl ?_
    refine rv_dup h 53 dX11_leave_53 rfl ?_
    refine rv_geti h 54 dX11_leave_54 rv_s78 rv_fd_X11_131 rfl ?_
    refine rv_iconst h 57 dX11_leave_57 rv_c1 ?_
    refine rv_iadd h 58 dX11_leave_58 ?_
    refine rv_puti h 59 dX11_leave_59 rv_s78 rv_fd_X11_131 rfl ⟨rfl, rfl⟩ (fun w7 => ?_)
    exact rv_retv hr 62 dX11_leave_62
  refine rv_aload_n h 27 dX11_leave_27 0 rfl ?_
  refine rv_getr h 28 dX11_leave_28 rv_s78 rv_fd_X11_41 rfl ?_
  refine rv_iconst h 31 dX11_leave_31 rv_c5 ?_
  refine rv_aload_n h 32 dX11_leave_32 0 rfl ?_
  refine rv_geti h 33 dX11_leave_33 rv_s78 rv_fd_X11_131 rfl ?_
  refine rv_imul h 36 dX11_leave_36 ?_
  refine rv_iload_n h 37 dX11_leave_37 1 rfl ?_
  refine rv_iadd h 38 dX11_leave_38 ?_
  refine rv_aload_n h 39 dX11_leave_39 0 rfl ?_
  refine rv_getr h 40 dX11_leave_40 rv_s78 rv_fd_X11_25 rfl ?_
  refine rv_iload_n h 43 dX11_leave_43 1 rfl ?_
  refine rv_iald h 44 dX11_leave_44 rv_s84 ?_
  refine rv_iast h 45 dX11_leave_45 rv_s89 (fun w8 => ?_)
  refine rv_iinc h 46 (fun v9 => [(3, .int v9), (0, .ref (ad 78))]) dX11_leave_46 1 rfl rv_c1 (by decide) (fun _ => rfl) (fun v9 => ?_)
  refine rv_goto (tgt := 22) h 49 dX11_leave_49 (by decide) ?_
  refine rv_sub h [1, 0] rfl ?_
  exact ih4 v9 w8
def f_X11_instant (p1 : Int32) (w : rv_W) : rv_R :=
  rv_lt (rv_up w 78 15 (0 : Int32)) (fun (w1 : rv_W) =>
  rv_fx (fun _ _ => none) (fun (ag2 : Int32 → rv_W → rv_R) (v4 : Int32) (w5 : rv_W) =>
  rv_bd (f_X11_many v4 w5) (fun (r6 : Int32) (w7 : rv_W) =>
  if (1 : Int32) < r6 then
  rv_bd (f_X11_pointsOfFirst v4 (1 : Int32) w7) (fun (r8 : Int32) (w9 : rv_W) =>
  rv_fx (fun _ _ _ => none) (fun (ag10 : Int32 → Int32 → rv_W → rv_R) (v12 : Int32) (v13 : Int32) (w14 : rv_W) =>
  if v13 < (5 : Int32) then
  rv_bd (f_X11_has v4 v13 w14) (fun (r18 : Int32) (w19 : rv_W) =>
  if r18 = 0 then
  rv_lt (v13 + (1 : Int32)) (fun (v20 : Int32) =>
  ag10 v12 v20 w19)
  else
  rv_jn (fun  (w21 : rv_W) =>
  rv_lt (v13 + (1 : Int32)) (fun (v24 : Int32) =>
  ag10 v13 v24 w21)) (fun (k22 : rv_W → rv_R) =>
  if v12 < 0 then
  k22 w19
  else
  rv_ck v13 5 (
  rv_ck v12 5 (
  if (w19 84 v12.toNatClampNeg) < (w19 84 v13.toNatClampNeg) then
  rv_lt (v13 + (1 : Int32)) (fun (v25 : Int32) =>
  ag10 v12 v25 w19)
  else
  k22 w19))))
  else
  rv_bd (f_X11_leave v4 v12 w14) (fun (r15 : Int32) (w16 : rv_W) =>
  rv_lt ((v4 ^^^ ((1 : Int32) <<< (v12 &&& 31)))) (fun (v17 : Int32) =>
  ag2 v17 w16))) rv_FU (-1 : Int32) (0 : Int32) w9)
  else
  some (v4, w7))) rv_FU p1 w1)
set_option maxRecDepth 100000 in
set_option maxHeartbeats 4000000 in
theorem fn_X11_instant {l : Launch} {D : va_G} {ad : Nat → Nat} {ca : Nat → ClassId} (hJ : rv_J ad) (p1 : Int32)  (w : rv_W) : rv_Fn l D ad ca yX11_instant cX11_instant 5 (some .int) 3 72 [.ref (ad 78), .int p1] w (f_X11_instant p1 w) := by
  refine rv_mk (lv := [(0, .ref (ad 78)), (1, .int p1)]) hJ (by decide +kernel) (Nat.le_of_ble_eq_true rfl) rfl (fun K h hr => ?_)
  have h : rv_Rl D ad ca l RX11 cX11_instant 5 3 72 K := h
  unfold f_X11_instant
  refine rv_iload_n h 0 dX11_instant_0 1 rfl ?_
  refine rv_istore_n (lv' := [(2, .int p1), (0, .ref (ad 78)), (1, .int p1)]) h 1 dX11_instant_1 (by decide) rfl ?_
  refine rv_aload_n h 2 dX11_instant_2 1 rfl ?_
  refine rv_iconst h 3 dX11_instant_3 rv_c0 ?_
  refine rv_puti h 4 dX11_instant_4 rv_s78 rv_fd_X11_131 rfl ⟨rfl, rfl⟩ (fun w1 => ?_)
  refine rv_sub h [1, 0] rfl ?_
  refine rv_fx_ind (fun (a0 : Int32 → rv_W → rv_R) => ∀ (v4 : Int32) (w5 : rv_W), K 7 [(0, .ref (ad 78)), (2, .int v4)] [] w5 (a0 v4 w5)) (fun _ _ => rv_none h) (fun ag2 ih3 v4 w5 => ?_) rv_FU p1 w1
  refine rv_iload_n h 7 dX11_instant_7 1 rfl ?_
  refine rv_callSi h 8 dX11_instant_8 (fn_X11_many hJ v4  w5) ce_X11_many lk_X11_105 rfl rfl (Nat.le_of_ble_eq_true rfl) ⟨Nat.le_of_ble_eq_true rfl, Nat.le_of_ble_eq_true rfl⟩ (fun r6 w7 => ?_)
  refine rv_iconst h 11 dX11_instant_11 rv_c1 ?_
  refine rv_icmp_le (tgt := 89) h 12 dX11_instant_12 (by decide) (fun _ => ?_) (fun _ => ?_)
  rotate_left
  · refine rv_iload_n h 89 dX11_instant_89 1 rfl ?_
    exact rv_reti hr 90 dX11_instant_90
  refine rv_aload_n h 15 dX11_instant_15 0 rfl ?_
  refine rv_iload_n h 16 dX11_instant_16 1 rfl ?_
  refine rv_iconst h 17 dX11_instant_17 rv_c1 ?_
  refine rv_callVv h 18 dX11_instant_18 (fn_X11_pointsOfFirst hJ v4 (1 : Int32)  w7) ce_X11_pointsOfFirst lk_X11_119 rv_s78 rfl rv_cf9 rfl rfl (Nat.le_of_ble_eq_true rfl) ⟨Nat.le_of_ble_eq_true rfl, Nat.le_of_ble_eq_true rfl⟩ (fun r8 w9 => ?_)
  refine rv_iconst h 21 dX11_instant_21 rv_cm1 ?_
  refine rv_istore_n (lv' := [(3, .int (-1 : Int32)), (0, .ref (ad 78)), (2, .int v4)]) h 22 dX11_instant_22 (by decide) rfl ?_
  refine rv_iconst h 23 dX11_instant_23 rv_c0 ?_
  refine rv_istore (lv' := [(4, .int (0 : Int32)), (3, .int (-1 : Int32)), (0, .ref (ad 78)), (2, .int v4)]) h 24 dX11_instant_24 (by decide) rfl ?_
  refine rv_sub h [2, 3, 1, 0] rfl ?_
  refine rv_fx_ind (fun (a0 : Int32 → Int32 → rv_W → rv_R) => ∀ (v12 : Int32) (v13 : Int32) (w14 : rv_W), K 26 [(0, .ref (ad 78)), (2, .int v4), (3, .int v12), (4, .int v13)] [] w14 (a0 v12 v13 w14)) (fun _ _ _ => rv_none h) (fun ag10 ih11 v12 v13 w14 => ?_) rv_FU (-1 : Int32) (0 : Int32) w9
  refine rv_iload h 26 dX11_instant_26 3 rfl ?_
  refine rv_iconst h 28 dX11_instant_28 rv_c5 ?_
  refine rv_icmp_ge (tgt := 74) h 29 dX11_instant_29 (by decide) (fun _ => ?_) (fun _ => ?_)
  rotate_left
  · refine rv_aload_n h 74 dX11_instant_74 0 rfl ?_
    refine rv_iload_n h 75 dX11_instant_75 1 rfl ?_
    refine rv_iload_n h 76 dX11_instant_76 2 rfl ?_
    refine rv_callVv h 77 dX11_instant_77 (fn_X11_leave hJ v4 v12  w14) ce_X11_leave lk_X11_134 rv_s78 rfl rv_cf9 rfl rfl (Nat.le_of_ble_eq_true rfl) ⟨Nat.le_of_ble_eq_true rfl, Nat.le_of_ble_eq_true rfl⟩ (fun r15 w16 => ?_)
    refine rv_iload_n h 80 dX11_instant_80 1 rfl ?_
    refine rv_iconst h 81 dX11_instant_81 rv_c1 ?_
    refine rv_iload_n h 82 dX11_instant_82 2 rfl ?_
    refine rv_ishl h 83 dX11_instant_83 ?_
    refine rv_ixor h 84 dX11_instant_84 ?_
    refine rv_top (fun v17 => ?_)
    refine rv_istore_n (lv' := [(2, .int v17), (0, .ref (ad 78)), (3, .int v12), (4, .int v13)]) h 85 dX11_instant_85 (by decide) rfl ?_
    refine rv_goto (tgt := 7) h 86 dX11_instant_86 (by decide) ?_
    refine rv_sub h [1, 0] rfl ?_
    exact ih3 v17 w16
  refine rv_iload_n h 32 dX11_instant_32 1 rfl ?_
  refine rv_iload h 33 dX11_instant_33 3 rfl ?_
  refine rv_callSi h 35 dX11_instant_35 (fn_X11_has hJ v4 v13  w14) ce_X11_has lk_X11_74 rfl rfl (Nat.le_of_ble_eq_true rfl) ⟨Nat.le_of_ble_eq_true rfl, Nat.le_of_ble_eq_true rfl⟩ (fun r18 w19 => ?_)
  refine rv_if_eq (tgt := 66) h 38 dX11_instant_38 (by decide) (fun _ => ?_) (fun _ => ?_)
  · refine rv_iload_n h 66 dX11_instant_66 2 rfl ?_
    refine rv_istore_n (lv' := [(3, .int v12), (0, .ref (ad 78)), (2, .int v4), (4, .int v13)]) h 67 dX11_instant_67 (by decide) rfl ?_
    refine rv_iinc h 68 (fun v20 => [(4, .int v20), (3, .int v12), (0, .ref (ad 78)), (2, .int v4)]) dX11_instant_68 3 rfl rv_c1 (by decide) (fun _ => rfl) (fun v20 => ?_)
    refine rv_goto (tgt := 26) h 71 dX11_instant_71 (by decide) ?_
    refine rv_sub h [2, 3, 1, 0] rfl ?_
    exact ih11 v12 v20 w19
  refine rv_iload_n h 41 dX11_instant_41 2 rfl ?_
  refine rv_join (fun (k0 : rv_W → rv_R) => ∀  (w21 : rv_W), K 61 [(0, .ref (ad 78)), (2, .int v4), (4, .int v13)] ([]) w21 (k0 w21)) (fun w21 => ?_) (fun k22 hk23 => ?_)
  · refine rv_iload h 61 dX11_instant_61 2 rfl ?_
    refine rv_goto (tgt := 67) h 63 dX11_instant_63 (by decide) ?_
    refine rv_istore_n (lv' := [(3, .int v13), (0, .ref (ad 78)), (2, .int v4), (4, .int v13)]) h 67 dX11_instant_67 (by decide) rfl ?_
    refine rv_iinc h 68 (fun v24 => [(4, .int v24), (3, .int v13), (0, .ref (ad 78)), (2, .int v4)]) dX11_instant_68 3 rfl rv_c1 (by decide) (fun _ => rfl) (fun v24 => ?_)
    refine rv_goto (tgt := 26) h 71 dX11_instant_71 (by decide) ?_
    refine rv_sub h [2, 3, 1, 0] rfl ?_
    exact ih11 v13 v24 w21
  refine rv_if_lt (tgt := 61) h 42 dX11_instant_42 (by decide) (fun _ => ?_) (fun _ => ?_)
  · refine rv_sub h [0, 1, 3] rfl ?_
    exact hk23 w19
  refine rv_aload_n h 45 dX11_instant_45 0 rfl ?_
  refine rv_getr h 46 dX11_instant_46 rv_s78 rv_fd_X11_25 rfl ?_
  refine rv_iload h 49 dX11_instant_49 3 rfl ?_
  refine rv_iald h 51 dX11_instant_51 rv_s84 ?_
  refine rv_aload_n h 52 dX11_instant_52 0 rfl ?_
  refine rv_getr h 53 dX11_instant_53 rv_s78 rv_fd_X11_25 rfl ?_
  refine rv_iload_n h 56 dX11_instant_56 2 rfl ?_
  refine rv_iald h 57 dX11_instant_57 rv_s84 ?_
  refine rv_icmp_gt (tgt := 66) h 58 dX11_instant_58 (by decide) (fun _ => ?_) (fun _ => ?_)
  rotate_left
  · refine rv_sub h [0, 1, 3] rfl ?_
    exact hk23 w19
  refine rv_iload_n h 66 dX11_instant_66 2 rfl ?_
  refine rv_istore_n (lv' := [(3, .int v12), (0, .ref (ad 78)), (2, .int v4), (4, .int v13)]) h 67 dX11_instant_67 (by decide) rfl ?_
  refine rv_iinc h 68 (fun v25 => [(4, .int v25), (3, .int v12), (0, .ref (ad 78)), (2, .int v4)]) dX11_instant_68 3 rfl rv_c1 (by decide) (fun _ => rfl) (fun v25 => ?_)
  refine rv_goto (tgt := 26) h 71 dX11_instant_71 (by decide) ?_
  refine rv_sub h [2, 3, 1, 0] rfl ?_
  exact ih11 v12 v25 w19
def f_X11_isLast (p1 : Int32) (p2 : Int32) (p3 : Int32) (w : rv_W) : rv_R :=
  rv_bd (f_X11_has p3 p2 w) (fun (r1 : Int32) (w2 : rv_W) =>
  rv_bd (f_X11_offBallot p1 p3 w2) (fun (r3 : Int32) (w4 : rv_W) =>
  rv_jn (fun (v5 : Int32) (w6 : rv_W) =>
  rv_fx (fun _ _ _ => none) (fun (ag9 : Int32 → Int32 → rv_W → rv_R) (v11 : Int32) (v12 : Int32) (w13 : rv_W) =>
  if v12 < (5 : Int32) then
  rv_jn (fun (v19 : Int32) (w20 : rv_W) =>
  if v11 = 0 then
  rv_lt (v12 + (1 : Int32)) (fun (v23 : Int32) =>
  ag9 (0 : Int32) v23 w20)
  else
  rv_bd (f_X11_has p3 v12 w20) (fun (r24 : Int32) (w25 : rv_W) =>
  rv_jn (fun  (w26 : rv_W) =>
  rv_lt (v12 + (1 : Int32)) (fun (v29 : Int32) =>
  ag9 (1 : Int32) v29 w26)) (fun (k27 : rv_W → rv_R) =>
  if r24 = 0 then
  k27 w25
  else
  if v19 = 0 then
  k27 w25
  else
  rv_lt (v12 + (1 : Int32)) (fun (v30 : Int32) =>
  ag9 (0 : Int32) v30 w25)))) (fun (k21 : Int32 → rv_W → rv_R) =>
  if v5 = 0 then
  rv_bd (f_X11_isAbove p1 p2 v12 w13) (fun (r31 : Int32) (w32 : rv_W) =>
  k21 r31 w32)
  else
  rv_bd (f_X11_isOn p1 v12 w13) (fun (r33 : Int32) (w34 : rv_W) =>
  rv_jn (fun  (w35 : rv_W) =>
  k21 (0 : Int32) w35) (fun (k36 : rv_W → rv_R) =>
  if r33 = 0 then
  if p2 < v12 then
  k21 (1 : Int32) w34
  else
  k36 w34
  else
  k36 w34)))
  else
  if v11 = 0 then
  some ((0 : Int32), w13)
  else
  rv_jn (fun  (w14 : rv_W) =>
  some ((1 : Int32), w14)) (fun (k15 : rv_W → rv_R) =>
  if v5 = 0 then
  k15 w13
  else
  rv_bd (f_X11_isOn p1 p2 w13) (fun (r17 : Int32) (w18 : rv_W) =>
  if r17 = 0 then
  k15 w18
  else
  some ((0 : Int32), w18)))) rv_FU r1 (0 : Int32) w6) (fun (k7 : Int32 → rv_W → rv_R) =>
  if 0 < r3 then
  k7 (1 : Int32) w4
  else
  k7 (0 : Int32) w4)))
set_option maxRecDepth 100000 in
set_option maxHeartbeats 4000000 in
theorem fn_X11_isLast {l : Launch} {D : va_G} {ad : Nat → Nat} {ca : Nat → ClassId} (hJ : rv_J ad) (p1 : Int32) (p2 : Int32) (p3 : Int32)  (w : rv_W) : rv_Fn l D ad ca yX11_isLast cX11_isLast 8 (some .boolean) 2 46 [.ref (ad 78), .int p1, .int p2, .int p3] w (f_X11_isLast p1 p2 p3 w) := by
  refine rv_mk (lv := [(0, .ref (ad 78)), (1, .int p1), (2, .int p2), (3, .int p3)]) hJ (by decide +kernel) (Nat.le_of_ble_eq_true rfl) rfl (fun K h hr => ?_)
  have h : rv_Rl D ad ca l RX11 cX11_isLast 8 2 46 K := h
  unfold f_X11_isLast
  refine rv_iload_n h 0 dX11_isLast_0 3 rfl ?_
  refine rv_iload_n h 1 dX11_isLast_1 2 rfl ?_
  refine rv_callSi h 2 dX11_isLast_2 (fn_X11_has hJ p3 p2  w) ce_X11_has lk_X11_74 rfl rfl (Nat.le_of_ble_eq_true rfl) ⟨Nat.le_of_ble_eq_true rfl, Nat.le_of_ble_eq_true rfl⟩ (fun r1 w2 => ?_)
  refine rv_istore (lv' := [(4, .int r1), (0, .ref (ad 78)), (1, .int p1), (2, .int p2), (3, .int p3)]) h 5 dX11_isLast_5 (by decide) rfl ?_
  refine rv_aload_n h 7 dX11_isLast_7 1 rfl ?_
  refine rv_iload_n h 8 dX11_isLast_8 2 rfl ?_
  refine rv_iload_n h 9 dX11_isLast_9 4 rfl ?_
  refine rv_callVi h 10 dX11_isLast_10 (fn_X11_offBallot hJ p1 p3  w2) ce_X11_offBallot lk_X11_109 rv_s78 rfl rv_cf9 rfl rfl (Nat.le_of_ble_eq_true rfl) ⟨Nat.le_of_ble_eq_true rfl, Nat.le_of_ble_eq_true rfl⟩ (fun r3 w4 => ?_)
  refine rv_join (fun (k0 : Int32 → rv_W → rv_R) => ∀ (v5 : Int32) (w6 : rv_W), K 21 [(0, .ref (ad 78)), (1, .int p1), (2, .int p2), (3, .int p3), (4, .int r1)] (.int v5 :: []) w6 (k0 v5 w6)) (fun v5 w6 => ?_) (fun k7 hk8 => ?_)
  · refine rv_istore (lv' := [(5, .int v5), (0, .ref (ad 78)), (1, .int p1), (2, .int p2), (3, .int p3), (4, .int r1)]) h 21 dX11_isLast_21 (by decide) rfl ?_
    refine rv_iconst h 23 dX11_isLast_23 rv_c0 ?_
    refine rv_istore (lv' := [(6, .int (0 : Int32)), (5, .int v5), (0, .ref (ad 78)), (1, .int p1), (2, .int p2), (3, .int p3), (4, .int r1)]) h 24 dX11_isLast_24 (by decide) rfl ?_
    refine rv_sub h [2, 3, 4, 5, 6, 1, 0] rfl ?_
    refine rv_fx_ind (fun (a0 : Int32 → Int32 → rv_W → rv_R) => ∀ (v11 : Int32) (v12 : Int32) (w13 : rv_W), K 26 [(0, .ref (ad 78)), (1, .int p1), (2, .int p2), (3, .int p3), (4, .int v11), (5, .int v5), (6, .int v12)] [] w13 (a0 v11 v12 w13)) (fun _ _ _ => rv_none h) (fun ag9 ih10 v11 v12 w13 => ?_) rv_FU r1 (0 : Int32) w6
    refine rv_iload h 26 dX11_isLast_26 6 rfl ?_
    refine rv_iconst h 28 dX11_isLast_28 rv_c5 ?_
    refine rv_icmp_ge (tgt := 103) h 29 dX11_isLast_29 (by decide) (fun _ => ?_) (fun _ => ?_)
    rotate_left
    · refine rv_iload h 103 dX11_isLast_103 4 rfl ?_
      refine rv_if_eq (tgt := 126) h 105 dX11_isLast_105 (by decide) (fun _ => ?_) (fun _ => ?_)
      · refine rv_iconst h 126 dX11_isLast_126 rv_c0 ?_
        exact rv_retz0 hr 127 dX11_isLast_127
      refine rv_iload h 108 dX11_isLast_108 5 rfl ?_
      refine rv_join (fun (k0 : rv_W → rv_R) => ∀  (w14 : rv_W), K 122 [] ([]) w14 (k0 w14)) (fun w14 => ?_) (fun k15 hk16 => ?_)
      · refine rv_iconst h 122 dX11_isLast_122 rv_c1 ?_
        refine rv_goto (tgt := 127) h 123 dX11_isLast_123 (by decide) ?_
        exact rv_retz1 hr 127 dX11_isLast_127
      refine rv_if_eq (tgt := 122) h 110 dX11_isLast_110 (by decide) (fun _ => ?_) (fun _ => ?_)
      · refine rv_sub h [] rfl ?_
        exact hk16 w13
      refine rv_aload_n h 113 dX11_isLast_113 0 rfl ?_
      refine rv_iload_n h 114 dX11_isLast_114 1 rfl ?_
      refine rv_iload_n h 115 dX11_isLast_115 2 rfl ?_
      refine rv_callVi h 116 dX11_isLast_116 (fn_X11_isOn hJ p1 p2  w13) ce_X11_isOn lk_X11_98 rv_s78 rfl rv_cf9 rfl rfl (Nat.le_of_ble_eq_true rfl) ⟨Nat.le_of_ble_eq_true rfl, Nat.le_of_ble_eq_true rfl⟩ (fun r17 w18 => ?_)
      refine rv_if_ne (tgt := 126) h 119 dX11_isLast_119 (by decide) (fun _ => ?_) (fun _ => ?_)
      · refine rv_sub h [] rfl ?_
        exact hk16 w18
      refine rv_iconst h 126 dX11_isLast_126 rv_c0 ?_
      exact rv_retz0 hr 127 dX11_isLast_127
    refine rv_iload h 32 dX11_isLast_32 5 rfl ?_
    refine rv_join (fun (k0 : Int32 → rv_W → rv_R) => ∀ (v19 : Int32) (w20 : rv_W), K 69 [(0, .ref (ad 78)), (1, .int p1), (2, .int p2), (3, .int p3), (4, .int v11), (5, .int v5), (6, .int v12)] (.int v19 :: []) w20 (k0 v19 w20)) (fun v19 w20 => ?_) (fun k21 hk22 => ?_)
    · refine rv_istore (lv' := [(7, .int v19), (0, .ref (ad 78)), (1, .int p1), (2, .int p2), (3, .int p3), (4, .int v11), (5, .int v5), (6, .int v12)]) h 69 dX11_isLast_69 (by decide) rfl ?_
      refine rv_iload h 71 dX11_isLast_71 5 rfl ?_
      refine rv_if_eq (tgt := 94) h 73 dX11_isLast_73 (by decide) (fun _ => ?_) (fun _ => ?_)
      · refine rv_iconst h 94 dX11_isLast_94 rv_c0 ?_
        refine rv_istore (lv' := [(4, .int (0 : Int32)), (7, .int v19), (0, .ref (ad 78)), (1, .int p1), (2, .int p2), (3, .int p3), (5, .int v5), (6, .int v12)]) h 95 dX11_isLast_95 (by decide) rfl ?_
        refine rv_iinc h 97 (fun v23 => [(6, .int v23), (4, .int (0 : Int32)), (7, .int v19), (0, .ref (ad 78)), (1, .int p1), (2, .int p2), (3, .int p3), (5, .int v5)]) dX11_isLast_97 7 rfl rv_c1 (by decide) (fun _ => rfl) (fun v23 => ?_)
        refine rv_goto (tgt := 26) h 100 dX11_isLast_100 (by decide) ?_
        refine rv_sub h [3, 4, 5, 6, 1, 7, 0] rfl ?_
        exact ih10 (0 : Int32) v23 w20
      refine rv_iload_n h 76 dX11_isLast_76 4 rfl ?_
      refine rv_iload h 77 dX11_isLast_77 7 rfl ?_
      refine rv_callSi h 79 dX11_isLast_79 (fn_X11_has hJ p3 v12  w20) ce_X11_has lk_X11_74 rfl rfl (Nat.le_of_ble_eq_true rfl) ⟨Nat.le_of_ble_eq_true rfl, Nat.le_of_ble_eq_true rfl⟩ (fun r24 w25 => ?_)
      refine rv_join (fun (k0 : rv_W → rv_R) => ∀  (w26 : rv_W), K 90 [(0, .ref (ad 78)), (1, .int p1), (2, .int p2), (3, .int p3), (5, .int v5), (6, .int v12)] ([]) w26 (k0 w26)) (fun w26 => ?_) (fun k27 hk28 => ?_)
      · refine rv_iconst h 90 dX11_isLast_90 rv_c1 ?_
        refine rv_goto (tgt := 95) h 91 dX11_isLast_91 (by decide) ?_
        refine rv_istore (lv' := [(4, .int (1 : Int32)), (0, .ref (ad 78)), (1, .int p1), (2, .int p2), (3, .int p3), (5, .int v5), (6, .int v12)]) h 95 dX11_isLast_95 (by decide) rfl ?_
        refine rv_iinc h 97 (fun v29 => [(6, .int v29), (4, .int (1 : Int32)), (0, .ref (ad 78)), (1, .int p1), (2, .int p2), (3, .int p3), (5, .int v5)]) dX11_isLast_97 6 rfl rv_c1 (by decide) (fun _ => rfl) (fun v29 => ?_)
        refine rv_goto (tgt := 26) h 100 dX11_isLast_100 (by decide) ?_
        refine rv_sub h [2, 3, 4, 5, 1, 6, 0] rfl ?_
        exact ih10 (1 : Int32) v29 w26
      refine rv_if_eq (tgt := 90) h 82 dX11_isLast_82 (by decide) (fun _ => ?_) (fun _ => ?_)
      · refine rv_sub h [1, 2, 3, 4, 6, 7] rfl ?_
        exact hk28 w25
      refine rv_iload h 85 dX11_isLast_85 0 rfl ?_
      refine rv_if_ne (tgt := 94) h 87 dX11_isLast_87 (by decide) (fun _ => ?_) (fun _ => ?_)
      · refine rv_sub h [1, 2, 3, 4, 6, 7] rfl ?_
        exact hk28 w25
      refine rv_iconst h 94 dX11_isLast_94 rv_c0 ?_
      refine rv_istore (lv' := [(4, .int (0 : Int32)), (7, .int v19), (0, .ref (ad 78)), (1, .int p1), (2, .int p2), (3, .int p3), (5, .int v5), (6, .int v12)]) h 95 dX11_isLast_95 (by decide) rfl ?_
      refine rv_iinc h 97 (fun v30 => [(6, .int v30), (4, .int (0 : Int32)), (7, .int v19), (0, .ref (ad 78)), (1, .int p1), (2, .int p2), (3, .int p3), (5, .int v5)]) dX11_isLast_97 7 rfl rv_c1 (by decide) (fun _ => rfl) (fun v30 => ?_)
      refine rv_goto (tgt := 26) h 100 dX11_isLast_100 (by decide) ?_
      refine rv_sub h [3, 4, 5, 6, 1, 7, 0] rfl ?_
      exact ih10 (0 : Int32) v30 w25
    refine rv_if_eq (tgt := 61) h 34 dX11_isLast_34 (by decide) (fun _ => ?_) (fun _ => ?_)
    · refine rv_aload_n h 61 dX11_isLast_61 0 rfl ?_
      refine rv_iload_n h 62 dX11_isLast_62 1 rfl ?_
      refine rv_iload_n h 63 dX11_isLast_63 2 rfl ?_
      refine rv_iload h 64 dX11_isLast_64 6 rfl ?_
      refine rv_callVi h 66 dX11_isLast_66 (fn_X11_isAbove hJ p1 p2 v12  w13) ce_X11_isAbove lk_X11_89 rv_s78 rfl rv_cf9 rfl rfl (Nat.le_of_ble_eq_true rfl) ⟨Nat.le_of_ble_eq_true rfl, Nat.le_of_ble_eq_true rfl⟩ (fun r31 w32 => ?_)
      refine rv_sub h [0, 1, 2, 3, 4, 5, 6] rfl ?_
      exact hk22 r31 w32
    refine rv_aload_n h 37 dX11_isLast_37 0 rfl ?_
    refine rv_iload_n h 38 dX11_isLast_38 1 rfl ?_
    refine rv_iload h 39 dX11_isLast_39 6 rfl ?_
    refine rv_callVi h 41 dX11_isLast_41 (fn_X11_isOn hJ p1 v12  w13) ce_X11_isOn lk_X11_98 rv_s78 rfl rv_cf9 rfl rfl (Nat.le_of_ble_eq_true rfl) ⟨Nat.le_of_ble_eq_true rfl, Nat.le_of_ble_eq_true rfl⟩ (fun r33 w34 => ?_)
    refine rv_join (fun (k0 : rv_W → rv_R) => ∀  (w35 : rv_W), K 57 [(0, .ref (ad 78)), (1, .int p1), (2, .int p2), (3, .int p3), (4, .int v11), (5, .int v5), (6, .int v12)] ([]) w35 (k0 w35)) (fun w35 => ?_) (fun k36 hk37 => ?_)
    · refine rv_iconst h 57 dX11_isLast_57 rv_c0 ?_
      refine rv_goto (tgt := 69) h 58 dX11_isLast_58 (by decide) ?_
      refine rv_sub h [0, 1, 2, 3, 4, 5, 6] rfl ?_
      exact hk22 (0 : Int32) w35
    refine rv_if_ne (tgt := 57) h 44 dX11_isLast_44 (by decide) (fun _ => ?_) (fun _ => ?_)
    rotate_left
    · refine rv_sub h [0, 1, 2, 3, 4, 5, 6] rfl ?_
      exact hk37 w34
    refine rv_iload h 47 dX11_isLast_47 6 rfl ?_
    refine rv_iload_n h 49 dX11_isLast_49 2 rfl ?_
    refine rv_icmp_le (tgt := 57) h 50 dX11_isLast_50 (by decide) (fun _ => ?_) (fun _ => ?_)
    rotate_left
    · refine rv_sub h [0, 1, 2, 3, 4, 5, 6] rfl ?_
      exact hk37 w34
    refine rv_iconst h 53 dX11_isLast_53 rv_c1 ?_
    refine rv_goto (tgt := 69) h 54 dX11_isLast_54 (by decide) ?_
    refine rv_sub h [0, 1, 2, 3, 4, 5, 6] rfl ?_
    exact hk22 (1 : Int32) w34
  refine rv_if_le (tgt := 20) h 13 dX11_isLast_13 (by decide) (fun _ => ?_) (fun _ => ?_)
  rotate_left
  · refine rv_iconst h 20 dX11_isLast_20 rv_c0 ?_
    refine rv_sub h [1, 2, 3, 4, 0] rfl ?_
    exact hk8 (0 : Int32) w4
  refine rv_iconst h 16 dX11_isLast_16 rv_c1 ?_
  refine rv_goto (tgt := 21) h 17 dX11_isLast_17 (by decide) ?_
  refine rv_sub h [1, 2, 3, 4, 0] rfl ?_
  exact hk8 (1 : Int32) w4
def f_X11_majority (p1 : Int32) (w : rv_W) : rv_R :=
  rv_fx (fun _ _ _ => none) (fun (ag1 : Int32 → Int32 → rv_W → rv_R) (v3 : Int32) (v4 : Int32) (w5 : rv_W) =>
  if v4 < (w5 78 6) then
  rv_bd (f_X11_offBallot v4 p1 w5) (fun (r18 : Int32) (w19 : rv_W) =>
  rv_bd (f_X11_many p1 w19) (fun (r20 : Int32) (w21 : rv_W) =>
  if r18 < r20 then
  rv_ck v4 20 (
  rv_lt ((v3 + (w21 81 v4.toNatClampNeg))) (fun (v24 : Int32) =>
  rv_lt (v4 + (1 : Int32)) (fun (v25 : Int32) =>
  ag1 v24 v25 w21)))
  else
  rv_lt ((v3 + (0 : Int32))) (fun (v22 : Int32) =>
  rv_lt (v4 + (1 : Int32)) (fun (v23 : Int32) =>
  ag1 v22 v23 w21))))
  else
  rv_bd (f_X11_pointsOfFirst p1 (1 : Int32) w5) (fun (r6 : Int32) (w7 : rv_W) =>
  rv_fx (fun _ _ _ => none) (fun (ag8 : Int32 → Int32 → rv_W → rv_R) (v10 : Int32) (v11 : Int32) (w12 : rv_W) =>
  if v11 < (5 : Int32) then
  rv_bd (f_X11_has p1 v11 w12) (fun (r13 : Int32) (w14 : rv_W) =>
  if r13 = 0 then
  rv_lt (v11 + (1 : Int32)) (fun (v15 : Int32) =>
  ag8 v10 v15 w14)
  else
  rv_ck v11 5 (
  if v3 < ((2 : Int32) * (w14 84 v11.toNatClampNeg)) then
  rv_lt (v11 + (1 : Int32)) (fun (v17 : Int32) =>
  ag8 v11 v17 w14)
  else
  rv_lt (v11 + (1 : Int32)) (fun (v16 : Int32) =>
  ag8 v10 v16 w14)))
  else
  some (v10, w12)) rv_FU (-1 : Int32) (0 : Int32) w7)) rv_FU (0 : Int32) (0 : Int32) w
set_option maxRecDepth 100000 in
set_option maxHeartbeats 4000000 in
theorem fn_X11_majority {l : Launch} {D : va_G} {ad : Nat → Nat} {ca : Nat → ClassId} (hJ : rv_J ad) (p1 : Int32)  (w : rv_W) : rv_Fn l D ad ca yX11_majority cX11_majority 5 (some .int) 3 72 [.ref (ad 78), .int p1] w (f_X11_majority p1 w) := by
  refine rv_mk (lv := [(0, .ref (ad 78)), (1, .int p1)]) hJ (by decide +kernel) (Nat.le_of_ble_eq_true rfl) rfl (fun K h hr => ?_)
  have h : rv_Rl D ad ca l RX11 cX11_majority 5 3 72 K := h
  unfold f_X11_majority
  refine rv_iconst h 0 dX11_majority_0 rv_c0 ?_
  refine rv_istore_n (lv' := [(2, .int (0 : Int32)), (0, .ref (ad 78)), (1, .int p1)]) h 1 dX11_majority_1 (by decide) rfl ?_
  refine rv_iconst h 2 dX11_majority_2 rv_c0 ?_
  refine rv_istore_n (lv' := [(3, .int (0 : Int32)), (2, .int (0 : Int32)), (0, .ref (ad 78)), (1, .int p1)]) h 3 dX11_majority_3 (by decide) rfl ?_
  refine rv_sub h [2, 3, 1, 0] rfl ?_
  refine rv_fx_ind (fun (a0 : Int32 → Int32 → rv_W → rv_R) => ∀ (v3 : Int32) (v4 : Int32) (w5 : rv_W), K 4 [(0, .ref (ad 78)), (1, .int p1), (2, .int v3), (3, .int v4)] [] w5 (a0 v3 v4 w5)) (fun _ _ _ => rv_none h) (fun ag1 ih2 v3 v4 w5 => ?_) rv_FU (0 : Int32) (0 : Int32) w
  refine rv_iload_n h 4 dX11_majority_4 3 rfl ?_
  refine rv_aload_n h 5 dX11_majority_5 0 rfl ?_
  refine rv_geti h 6 dX11_majority_6 rv_s78 rv_fd_X11_78 rfl ?_
  refine rv_icmp_ge (tgt := 44) h 9 dX11_majority_9 (by decide) (fun _ => ?_) (fun _ => ?_)
  · refine rv_iload_n h 12 dX11_majority_12 2 rfl ?_
    refine rv_aload_n h 13 dX11_majority_13 0 rfl ?_
    refine rv_iload_n h 14 dX11_majority_14 3 rfl ?_
    refine rv_iload_n h 15 dX11_majority_15 1 rfl ?_
    refine rv_callVi h 16 dX11_majority_16 (fn_X11_offBallot hJ v4 p1  w5) ce_X11_offBallot lk_X11_109 rv_s78 rfl rv_cf9 rfl rfl (Nat.le_of_ble_eq_true rfl) ⟨Nat.le_of_ble_eq_true rfl, Nat.le_of_ble_eq_true rfl⟩ (fun r18 w19 => ?_)
    refine rv_iload_n h 19 dX11_majority_19 1 rfl ?_
    refine rv_callSi h 20 dX11_majority_20 (fn_X11_many hJ p1  w19) ce_X11_many lk_X11_105 rfl rfl (Nat.le_of_ble_eq_true rfl) ⟨Nat.le_of_ble_eq_true rfl, Nat.le_of_ble_eq_true rfl⟩ (fun r20 w21 => ?_)
    refine rv_icmp_ge (tgt := 35) h 23 dX11_majority_23 (by decide) (fun _ => ?_) (fun _ => ?_)
    rotate_left
    · refine rv_iconst h 35 dX11_majority_35 rv_c0 ?_
      refine rv_iadd h 36 dX11_majority_36 ?_
      refine rv_top (fun v22 => ?_)
      refine rv_istore_n (lv' := [(2, .int v22), (0, .ref (ad 78)), (1, .int p1), (3, .int v4)]) h 37 dX11_majority_37 (by decide) rfl ?_
      refine rv_iinc h 38 (fun v23 => [(3, .int v23), (2, .int v22), (0, .ref (ad 78)), (1, .int p1)]) dX11_majority_38 3 rfl rv_c1 (by decide) (fun _ => rfl) (fun v23 => ?_)
      refine rv_goto (tgt := 4) h 41 dX11_majority_41 (by decide) ?_
      refine rv_sub h [2, 3, 1, 0] rfl ?_
      exact ih2 v22 v23 w21
    refine rv_aload_n h 26 dX11_majority_26 0 rfl ?_
    refine rv_getr h 27 dX11_majority_27 rv_s78 rv_fd_X11_16 rfl ?_
    refine rv_iload_n h 30 dX11_majority_30 3 rfl ?_
    refine rv_iald h 31 dX11_majority_31 rv_s81 ?_
    refine rv_goto (tgt := 36) h 32 dX11_majority_32 (by decide) ?_
    refine rv_iadd h 36 dX11_majority_36 ?_
    refine rv_top (fun v24 => ?_)
    refine rv_istore_n (lv' := [(2, .int v24), (0, .ref (ad 78)), (1, .int p1), (3, .int v4)]) h 37 dX11_majority_37 (by decide) rfl ?_
    refine rv_iinc h 38 (fun v25 => [(3, .int v25), (2, .int v24), (0, .ref (ad 78)), (1, .int p1)]) dX11_majority_38 3 rfl rv_c1 (by decide) (fun _ => rfl) (fun v25 => ?_)
    refine rv_goto (tgt := 4) h 41 dX11_majority_41 (by decide) ?_
    refine rv_sub h [2, 3, 1, 0] rfl ?_
    exact ih2 v24 v25 w21
  refine rv_aload_n h 44 dX11_majority_44 0 rfl ?_
  refine rv_iload_n h 45 dX11_majority_45 1 rfl ?_
  refine rv_iconst h 46 dX11_majority_46 rv_c1 ?_
  refine rv_callVv h 47 dX11_majority_47 (fn_X11_pointsOfFirst hJ p1 (1 : Int32)  w5) ce_X11_pointsOfFirst lk_X11_119 rv_s78 rfl rv_cf9 rfl rfl (Nat.le_of_ble_eq_true rfl) ⟨Nat.le_of_ble_eq_true rfl, Nat.le_of_ble_eq_true rfl⟩ (fun r6 w7 => ?_)
  refine rv_iconst h 50 dX11_majority_50 rv_cm1 ?_
  refine rv_istore_n (lv' := [(3, .int (-1 : Int32)), (0, .ref (ad 78)), (1, .int p1), (2, .int v3)]) h 51 dX11_majority_51 (by decide) rfl ?_
  refine rv_iconst h 52 dX11_majority_52 rv_c0 ?_
  refine rv_istore (lv' := [(4, .int (0 : Int32)), (3, .int (-1 : Int32)), (0, .ref (ad 78)), (1, .int p1), (2, .int v3)]) h 53 dX11_majority_53 (by decide) rfl ?_
  refine rv_sub h [2, 3, 4, 1, 0] rfl ?_
  refine rv_fx_ind (fun (a0 : Int32 → Int32 → rv_W → rv_R) => ∀ (v10 : Int32) (v11 : Int32) (w12 : rv_W), K 55 [(0, .ref (ad 78)), (1, .int p1), (2, .int v3), (3, .int v10), (4, .int v11)] [] w12 (a0 v10 v11 w12)) (fun _ _ _ => rv_none h) (fun ag8 ih9 v10 v11 w12 => ?_) rv_FU (-1 : Int32) (0 : Int32) w7
  refine rv_iload h 55 dX11_majority_55 4 rfl ?_
  refine rv_iconst h 57 dX11_majority_57 rv_c5 ?_
  refine rv_icmp_ge (tgt := 96) h 58 dX11_majority_58 (by decide) (fun _ => ?_) (fun _ => ?_)
  rotate_left
  · refine rv_iload_n h 96 dX11_majority_96 3 rfl ?_
    exact rv_reti hr 97 dX11_majority_97
  refine rv_iload_n h 61 dX11_majority_61 1 rfl ?_
  refine rv_iload h 62 dX11_majority_62 4 rfl ?_
  refine rv_callSi h 64 dX11_majority_64 (fn_X11_has hJ p1 v11  w12) ce_X11_has lk_X11_74 rfl rfl (Nat.le_of_ble_eq_true rfl) ⟨Nat.le_of_ble_eq_true rfl, Nat.le_of_ble_eq_true rfl⟩ (fun r13 w14 => ?_)
  refine rv_if_eq (tgt := 88) h 67 dX11_majority_67 (by decide) (fun _ => ?_) (fun _ => ?_)
  · refine rv_iload_n h 88 dX11_majority_88 3 rfl ?_
    refine rv_istore_n (lv' := [(3, .int v10), (0, .ref (ad 78)), (1, .int p1), (2, .int v3), (4, .int v11)]) h 89 dX11_majority_89 (by decide) rfl ?_
    refine rv_iinc h 90 (fun v15 => [(4, .int v15), (3, .int v10), (0, .ref (ad 78)), (1, .int p1), (2, .int v3)]) dX11_majority_90 4 rfl rv_c1 (by decide) (fun _ => rfl) (fun v15 => ?_)
    refine rv_goto (tgt := 55) h 93 dX11_majority_93 (by decide) ?_
    refine rv_sub h [2, 3, 4, 1, 0] rfl ?_
    exact ih9 v10 v15 w14
  refine rv_iconst h 70 dX11_majority_70 rv_c2 ?_
  refine rv_aload_n h 71 dX11_majority_71 0 rfl ?_
  refine rv_getr h 72 dX11_majority_72 rv_s78 rv_fd_X11_25 rfl ?_
  refine rv_iload h 75 dX11_majority_75 4 rfl ?_
  refine rv_iald h 77 dX11_majority_77 rv_s84 ?_
  refine rv_imul h 78 dX11_majority_78 ?_
  refine rv_iload_n h 79 dX11_majority_79 2 rfl ?_
  refine rv_icmp_le (tgt := 88) h 80 dX11_majority_80 (by decide) (fun _ => ?_) (fun _ => ?_)
  rotate_left
  · refine rv_iload_n h 88 dX11_majority_88 3 rfl ?_
    refine rv_istore_n (lv' := [(3, .int v10), (0, .ref (ad 78)), (1, .int p1), (2, .int v3), (4, .int v11)]) h 89 dX11_majority_89 (by decide) rfl ?_
    refine rv_iinc h 90 (fun v16 => [(4, .int v16), (3, .int v10), (0, .ref (ad 78)), (1, .int p1), (2, .int v3)]) dX11_majority_90 4 rfl rv_c1 (by decide) (fun _ => rfl) (fun v16 => ?_)
    refine rv_goto (tgt := 55) h 93 dX11_majority_93 (by decide) ?_
    refine rv_sub h [2, 3, 4, 1, 0] rfl ?_
    exact ih9 v10 v16 w14
  refine rv_iload h 83 dX11_majority_83 4 rfl ?_
  refine rv_goto (tgt := 89) h 85 dX11_majority_85 (by decide) ?_
  refine rv_istore_n (lv' := [(3, .int v11), (0, .ref (ad 78)), (1, .int p1), (2, .int v3), (4, .int v11)]) h 89 dX11_majority_89 (by decide) rfl ?_
  refine rv_iinc h 90 (fun v17 => [(4, .int v17), (3, .int v11), (0, .ref (ad 78)), (1, .int p1), (2, .int v3)]) dX11_majority_90 4 rfl rv_c1 (by decide) (fun _ => rfl) (fun v17 => ?_)
  refine rv_goto (tgt := 55) h 93 dX11_majority_93 (by decide) ?_
  refine rv_sub h [2, 3, 4, 1, 0] rfl ?_
  exact ih9 v11 v17 w14
