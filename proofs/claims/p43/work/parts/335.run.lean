/-! the law's run -/
theorem rq_xx {r p : Nat} (hr : r ∈ rv_B) (hp : p < 4) (h : p + 1 < rv_ln r) : ra_xc (ra_xc r p) p = r := by
  have t := rv_all2 (p := fun r p => !Nat.blt (p + 1) (rv_ln r) || Nat.beq (ra_xc (ra_xc r p) p) r) (l := rv_B) (m := List.range 4) (by decide +kernel) hr (rv_rg hp)
  have e : Nat.blt (p + 1) (rv_ln r) = true := Nat.ble_eq_true_of_le h
  rw [e, Bool.not_true, Bool.false_or] at t
  exact Nat.eq_of_beq_eq_true t
theorem rq_td {r : Nat} (hr : r ∈ rv_B) (h0 : r ≠ 0) : 0 < ra_td r (rv_ln r) ∧ ra_td r (rv_ln r) < 100000 := by
  have t := List.all_eq_true.mp (by decide +kernel : ((rv_B).all fun r => Nat.beq r 0 || (Nat.blt 0 (ra_td r (rv_ln r)) && Nat.blt (ra_td r (rv_ln r)) 100000)) = true) r hr
  rw [show Nat.beq r 0 = false from Bool.eq_false_iff.mpr (fun z => h0 (Nat.eq_of_beq_eq_true z)), Bool.false_or, Bool.and_eq_true] at t
  exact ⟨Nat.le_of_ble_eq_true t.1, Nat.le_of_ble_eq_true t.2⟩
theorem rq_agc {r s G S i : Nat} {n m : Nat → Nat} {y : Int32} : ∃ x, x ≤ i ∧ ra_agc r s G n m y S i = Int32.ofNat x := by
  induction i with
  | zero => exact ⟨0, Nat.le_refl _, rfl⟩
  | succ i ih =>
    obtain ⟨x, hx, e⟩ := ih
    rw [ra_agc_s, e]
    by_cases q : ra_wc r s (ra_cnt n G (ra_sek y S i) S) m = ra_wc r s (rv_cut 0 G n) m
    · rw [if_pos q, rv_n_succ]; exact ⟨x + 1, by omega, rfl⟩
    · rw [if_neg q]; exact ⟨x, by omega, rfl⟩
theorem rq_sz {S hi : Nat} (h1 : 1 ≤ S) (h2 : S ≤ hi) (h3 : hi ≤ 1000) : ra_sz (Int32.ofNat S) hi = true := by
  unfold ra_sz
  rw [decide_eq_true_eq, rv_n_int (by omega)]
  omega
theorem rq_wneg {r s : Nat} {n m : Nat → Nat} (hs : s < 32) : (ra_wc r s n m < 0) = (s = 0) := propext ⟨fun z => by
    by_cases h0 : s = 0
    · exact h0
    · rw [ra_wc_1 h0] at z
      have hw := (ra_w_in (rule := r) (n := n) (m := m) hs h0).1
      exact absurd z (rv_n_neg (by omega)), fun z => by rw [ra_wc_0 z]; decide⟩
/-- groups of the law's, so many: some state of a run -/
def rq_st (M : Nat) (w : rv_W) : Prop := ∃ K d s n b, rc_I K d s M n b w
theorem rq_exch {K : Nat} {d : Nat → ra_R} {s G g p : Nat} {n b : Nat → Nat} {w : rv_W} {k : rv_W → rv_R} (h : rc_I K d s G n b w) (hg : g < G) (hp : p < 5) (hk : ∀ w', rq_st G w' → rv_T (k w') (fun v _ => v = 1)) : rv_T (rv_bd (f_X10_exchange (Int32.ofNat g) (Int32.ofNat p) w) (fun (r94 : Int32) (w95 : rv_W) =>
  if 0 < r94 then
  rv_bd (f_X10_exchange (Int32.ofNat g) (Int32.ofNat p) w95) (fun (r98 : Int32) (w99 : rv_W) =>
  if r98 = Int32.ofNat (ra_td (b g) (rv_ln (b g))) then
  rv_bd (f_X10_undo  w99) (fun (r100 : Int32) (w101 : rv_W) =>
  if r100 < 0 then
  some ((0 : Int32), w101)
  else
  rv_bd (f_X10_ballot (Int32.ofNat g) w101) (fun (r102 : Int32) (w103 : rv_W) =>
  if r102 = r94 then
  k w103
  else
  some ((0 : Int32), w103)))
  else
  some ((0 : Int32), w99))
  else
  if r94 = (-1000001 : Int32) then
  rv_bd (f_L_place (Int32.ofNat (ra_td (b g) (rv_ln (b g)))) ((Int32.ofNat (ra_td (b g) (rv_ln (b g))) - Int32.ofNat (ra_td (b g) (rv_ln (b g))) / (10 : Int32) * (10 : Int32)) - (1 : Int32)) w95) (fun (r96 : Int32) (w97 : rv_W) =>
  if Int32.ofNat p < r96 then
  some ((0 : Int32), w97)
  else
  k w97)
  else
  some ((0 : Int32), w95))) (fun v _ => v = 1) := by
  have hG := rc_G h
  obtain ⟨hn, hB, hB0⟩ := rq_G h hg
  have hl5 := (ra_ln_ok hB (show 0 < 5 by omega)).2
  by_cases hlt : p < rv_ln (b g) - 1
  · have hX := ra_xc_ok hB (show p < 4 by omega) (by omega)
    have htd := rq_td hX.1 hX.2.1
    refine rv_T_call (rc_exchange h hg hlt) (fun v w1 ⟨e1, h1⟩ => ?_)
    subst e1
    rw [if_pos (show (0 : Int32) < Int32.ofNat (ra_td (ra_xc (b g) p) (rv_ln (ra_xc (b g) p))) from (rv_n_lt (i := 0) (by omega) (by omega)).mpr htd.1)]
    have hlt2 : p < rv_ln (rv_at1 b g (ra_xc (b g) p) g) - 1 := by rw [ra_at1_same, hX.2.2.1]; exact hlt
    have K1 := rc_K h1
    refine rv_T_call (rc_exchange h1 hg hlt2) (fun v w2 ⟨e2, h2⟩ => ?_)
    rw [ra_at1_same, rq_xx hB (by omega) (by omega)] at e2
    rw [e2, if_pos rfl]
    have T := rq_top (d := ra_hD K d (ra_R.mk s G n b)) (x := ra_R.mk s G n (rv_at1 b g (ra_xc (b g) p))) K1
    refine rv_T_call (rq_undo h2 (rq_hK K1).1 T) (fun v w3 ⟨e3, h3⟩ => ?_)
    have := (rq_hK K1).2
    rw [e3, if_neg (rv_n_neg (by omega))]
    refine rc_q (c_ballot _) h3 (fun w4 h4 => ?_)
    rw [ra_iv_nat hg (by omega), if_pos rfl, ra_toN (by omega), ra_at1_same, if_pos rfl]
    exact hk w4 ⟨_, _, _, _, _, h4⟩
  · have e0 : ra_iv (Int32.ofNat p) (rv_ln (b g) - 1) = false := by
      rw [ra_iv_nat' (by omega)]
      exact decide_eq_false hlt
    rw [rc_exchange0 h hg e0, rv_bd_some, if_neg (by decide), if_pos rfl, e_placeLast hB hB0, rv_bd_some, if_neg (fun z => by have := (rv_n_lt (by omega) (by omega)).mp z; omega)]
    exact hk w ⟨_, _, _, _, _, h⟩
set_option maxHeartbeats 8000000 in
set_option maxRecDepth 100000 in
theorem rq_end {K : Nat} {d : Nat → ra_R} {s M : Nat} {n b : Nat → Nat} {w : rv_W} {z : Int32} (h : rc_I K d s M n b w) (hM : M < 6) : rv_T (rv_bd (f_L_low (z >>> ((3 : Int32) &&& 31)) (12 : Int32) w) (fun (r33 : Int32) (w34 : rv_W) =>
  rv_bd (f_X10_winner r33 w34) (fun (r35 : Int32) (w36 : rv_W) =>
  rv_jn (fun  (w37 : rv_W) =>
  rv_bd (f_X10_winner (12 : Int32) w37) (fun (r40 : Int32) (w41 : rv_W) =>
  if r40 = (-1000001 : Int32) then
  rv_bd (f_X10_points (4 : Int32) (0 : Int32) w41) (fun (r42 : Int32) (w43 : rv_W) =>
  if r42 = (-1000003 : Int32) then
  rv_bd (f_X10_points (0 : Int32) (5 : Int32) w43) (fun (r44 : Int32) (w45 : rv_W) =>
  if r44 = (-1000001 : Int32) then
  rv_bd (f_X10_rounds (5 : Int32) w45) (fun (r46 : Int32) (w47 : rv_W) =>
  if r46 = (-1000003 : Int32) then
  rv_bd (f_X10_agreeing (0 : Int32) (0 : Int32) (51 : Int32) (1 : Int32) w47) (fun (r48 : Int32) (w49 : rv_W) =>
  if r48 = (-1000002 : Int32) then
  rv_bd (f_X10_voters (Int32.ofNat M) w49) (fun (r50 : Int32) (w51 : rv_W) =>
  if r50 = (-1000001 : Int32) then
  rv_bd (f_X10_winner r33 w51) (fun (r52 : Int32) (w53 : rv_W) =>
  if r52 = r35 then
  some ((1 : Int32), w53)
  else
  some ((0 : Int32), w53))
  else
  some ((0 : Int32), w51))
  else
  some ((0 : Int32), w49))
  else
  some ((0 : Int32), w47))
  else
  some ((0 : Int32), w45))
  else
  some ((0 : Int32), w43))
  else
  some ((0 : Int32), w41))) (fun (k38 : rv_W → rv_R) =>
  if 0 < Int32.ofNat M then
  rv_bd (f_L_low (z >>> ((7 : Int32) &&& 31)) (50 : Int32) w36) (fun (r54 : Int32) (w55 : rv_W) =>
  rv_lt (((1 : Int32) + r54)) (fun (v56 : Int32) =>
  rv_bd (f_X10_agreeing r33 z v56 (5 : Int32) w55) (fun (r57 : Int32) (w58 : rv_W) =>
  rv_bd (f_X10_sample r33 z v56 w58) (fun (r59 : Int32) (w60 : rv_W) =>
  if r35 < 0 then
  if r57 = (-1000003 : Int32) then
  if r59 = (-1000000 : Int32) then
  k38 w60
  else
  some ((0 : Int32), w60)
  else
  some ((0 : Int32), w60)
  else
  if r57 < 0 then
  some ((0 : Int32), w60)
  else
  if (5 : Int32) < r57 then
  some ((0 : Int32), w60)
  else
  rv_bd (f_X10_agreeing r33 z v56 (1 : Int32) w60) (fun (r61 : Int32) (w62 : rv_W) =>
  rv_jn (fun (v63 : Int32) (w64 : rv_W) =>
  if r61 = v63 then
  k38 w64
  else
  some ((0 : Int32), w64)) (fun (k65 : Int32 → rv_W → rv_R) =>
  if r59 = r35 then
  k65 (1 : Int32) w62
  else
  k65 (0 : Int32) w62))))))
  else
  k38 w36)))) (fun v _ => v = 1) := by
  have hs := rc_s h
  obtain ⟨r, hr, er⟩ := rl_low (z >>> ((3 : Int32) &&& 31)) (T := 12) (by decide) (by decide)
  have er' : f_L_low (z >>> ((3 : Int32) &&& 31)) (12 : Int32) w = some (Int32.ofNat r, w) := er w
  rw [er', rv_bd_some]
  refine rc_q (c_winner _) h (fun w1 h1 => ?_)
  simp only [ra_one_ok hr]
  refine rq_jn (fun (k : rv_W → rv_R) => ∀ w', rc_I K d s M n b w' → rv_T (k w') (fun v _ => v = 1)) (fun w2 h2 => ?_) (fun k38 hk38 => ?_)
  · refine rc_q (c_winner _) h2 (fun w3 h3 => ?_)
    have e12 : ∀ A, ra_one (12 : Int32) A = -1000001 := fun A => if_neg (by decide)
    rw [e12, if_pos rfl]
    refine rc_q (c_points _ _) h3 (fun w4 h4 => ?_)
    have e40 : ∀ A, ra_rc (4 : Int32) (0 : Int32) A = A 4 0 := fun A => ra_rc_ok (r := 4) (c := 0) (by decide) (by decide)
    rw [e40, if_neg (show ¬ (ra_gp 4 = true ∧ rv_hs s 0 = true) from fun y => absurd y.1 (by decide)), if_pos rfl]
    refine rc_q (c_points _ _) h4 (fun w5 h5 => ?_)
    rw [ra_rc_no (Or.inr (by decide)), if_pos rfl]
    refine rc_q (c_rounds _) h5 (fun w6 h6 => ?_)
    have e5 : ∀ A, ra_one (5 : Int32) A = A 5 := fun A => ra_one_ok (r := 5) (by decide)
    rw [e5, show ra_rA s M n b 5 = -1000003 from if_neg (by decide), if_pos rfl]
    refine rc_q (c_agreeing _ _ _ _) h6 (fun w7 h7 => ?_)
    have e0 : ∀ A, ra_one (0 : Int32) A = A 0 := fun A => ra_one_ok (r := 0) (by decide)
    rw [e0, ra_agA_no (Or.inl (by decide)), if_pos rfl]
    refine rc_q (c_voters _) h7 (fun w8 h8 => ?_)
    rw [ra_iv_nat' (by omega), decide_eq_false (Nat.lt_irrefl _), if_neg (show ¬ (false = true) by decide), if_pos rfl]
    refine rc_q (c_winner _) h8 (fun w9 h9 => ?_)
    rw [ra_one_ok hr, if_pos rfl]
    exact rv_T_some.mpr rfl
  · by_cases hM0 : 0 < M
    · rw [if_pos (show (0 : Int32) < Int32.ofNat M from (rv_n_lt (i := 0) (by omega) (by omega)).mpr hM0)]
      obtain ⟨S, hS, eS⟩ := rl_low (z >>> ((7 : Int32) &&& 31)) (T := 50) (by decide) (by decide)
      have eS' : f_L_low (z >>> ((7 : Int32) &&& 31)) (50 : Int32) w1 = some (Int32.ofNat S, w1) := eS w1
      have e1 : (1 : Int32) + Int32.ofNat S = Int32.ofNat (S + 1) := by rw [Int32.add_comm, rv_n_succ]
      rw [eS', rv_bd_some, rv_T_lt, e1]
      have hsz : ra_sz (Int32.ofNat (S + 1)) 50 = true := rq_sz (by omega) (by omega) (by omega)
      have h5 : ra_sz (5 : Int32) 20 = true := by decide
      have h1' : ra_sz (1 : Int32) 20 = true := by decide
      refine rc_q (c_agreeing _ _ _ _) h1 (fun w2 h2 => ?_)
      refine rc_q (c_sample _ _ _) h2 (fun w3 h3 => ?_)
      simp only [ra_one_ok hr, rq_wneg hs]
      rw [ra_saA_1 hsz (by omega) (by omega)]
      by_cases h0 : s = 0
      · rw [if_pos h0, ra_agA_0 hsz h5 (Or.inr h0), if_pos rfl, ra_wc_0 h0, if_pos rfl]
        exact hk38 _ h3
      · rw [if_neg h0]
        have ea : ra_agA z (Int32.ofNat (S + 1)) (5 : Int32) s M n b r = ra_agc r s M n b z (S + 1) 5 := ra_agA_1 (M := 5) hsz h5 (by omega) (by omega) (by omega)
        obtain ⟨x, hx, ex⟩ := rq_agc (r := r) (s := s) (G := M) (n := n) (m := b) (y := z) (S := S + 1) (i := 5)
        rw [ea, ex, if_neg (rv_n_neg (by omega)), if_neg (fun y => by have := (rv_n_lt (i := 5) (by omega) (by omega)).mp y; omega)]
        refine rc_q (c_agreeing _ _ _ _) h3 (fun w4 h4 => ?_)
        have ea1 : ra_agA z (Int32.ofNat (S + 1)) (1 : Int32) s M n b r = ra_agc r s M n b z (S + 1) 1 := ra_agA_1 (M := 1) hsz h1' (by omega) (by omega) (by omega)
        rw [ra_one_ok hr, ea1]
        have ec : ra_agc r s M n b z (S + 1) 1 = if ra_wc r s (ra_cnt n M z (S + 1)) b = ra_wc r s (rv_cut 0 M n) b then 1 else 0 := by
          rw [ra_agc_s]
          rfl
        rw [ec, rv_T_jn]
        by_cases q : ra_wc r s (ra_cnt n M z (S + 1)) b = ra_wc r s (rv_cut 0 M n) b
        · rw [if_pos q, if_pos q]
          dsimp only
          rw [if_pos rfl]
          exact hk38 _ h4
        · rw [if_neg q, if_neg q]
          dsimp only
          rw [if_pos rfl]
          exact hk38 _ h4
    · rw [if_neg (show ¬ (0 : Int32) < Int32.ofNat M from fun y => hM0 ((rv_n_lt (i := 0) (by omega) (by omega)).mp y))]
      exact hk38 _ h1
