/-! the law answers 1 -/
set_option maxHeartbeats 8000000 in
set_option maxRecDepth 100000 in
theorem rq_turn {M t : Nat} {xc : Int32 → Int32} {w : rv_W} {ag : Int32 → rv_W → rv_R} (hM : M < 6) (ht : t < 3) (h : rq_st M w) (hnext : ∀ w', rq_st M w' → rv_T (rv_lt (Int32.ofNat t + (1 : Int32)) (fun (v : Int32) => ag v w')) (fun v _ => v = 1)) : rv_T (rv_gd (¬ ((8 : Int32) + Int32.ofNat t) < 0) (
  rv_bd (f_L_low (xc ((8 : Int32) + Int32.ofNat t)) (12 : Int32) w) (fun (r68 : Int32) (w69 : rv_W) =>
  rv_jn (fun  (w70 : rv_W) =>
  rv_jn (fun  (w73 : rv_W) =>
  rv_bd (f_L_arePairsSound  w73) (fun (r76 : Int32) (w77 : rv_W) =>
  if r76 = 0 then
  some ((0 : Int32), w77)
  else
  rv_bd (f_L_areWinnersSound  w77) (fun (r78 : Int32) (w79 : rv_W) =>
  if r78 = 0 then
  some ((0 : Int32), w79)
  else
  rv_bd (f_L_areParadoxesSound r68 w79) (fun (r80 : Int32) (w81 : rv_W) =>
  if r80 = 0 then
  some ((0 : Int32), w81)
  else
  if 0 < Int32.ofNat M then
  rv_bd (f_L_low ((xc ((8 : Int32) + Int32.ofNat t)) >>> ((17 : Int32) &&& 31)) (Int32.ofNat M) w81) (fun (r83 : Int32) (w84 : rv_W) =>
  rv_bd (f_L_isBrought r68 r83 w84) (fun (r85 : Int32) (w86 : rv_W) =>
  if r85 = 0 then
  some ((0 : Int32), w86)
  else
  rv_lt (Int32.ofNat t + (1 : Int32)) (fun (v87 : Int32) =>
  ag v87 w86)))
  else
  rv_lt (Int32.ofNat t + (1 : Int32)) (fun (v82 : Int32) =>
  ag v82 w81))))) (fun (k74 : rv_W → rv_R) =>
  if 0 < Int32.ofNat M then
  if (((xc ((8 : Int32) + Int32.ofNat t)) >>> ((10 : Int32) &&& 31)) &&& (1 : Int32)) = 0 then
  rv_bd (f_L_low ((xc ((8 : Int32) + Int32.ofNat t)) >>> ((11 : Int32) &&& 31)) (Int32.ofNat M) w70) (fun (r88 : Int32) (w89 : rv_W) =>
  rv_bd (f_X10_ballot r88 w89) (fun (r90 : Int32) (w91 : rv_W) =>
  rv_bd (f_L_low ((xc ((8 : Int32) + Int32.ofNat t)) >>> ((14 : Int32) &&& 31)) (5 : Int32) w91) (fun (r92 : Int32) (w93 : rv_W) =>
  rv_bd (f_X10_exchange r88 r92 w93) (fun (r94 : Int32) (w95 : rv_W) =>
  if 0 < r94 then
  rv_bd (f_X10_exchange r88 r92 w95) (fun (r98 : Int32) (w99 : rv_W) =>
  if r98 = r90 then
  rv_bd (f_X10_undo  w99) (fun (r100 : Int32) (w101 : rv_W) =>
  if r100 < 0 then
  some ((0 : Int32), w101)
  else
  rv_bd (f_X10_ballot r88 w101) (fun (r102 : Int32) (w103 : rv_W) =>
  if r102 = r94 then
  k74 w103
  else
  some ((0 : Int32), w103)))
  else
  some ((0 : Int32), w99))
  else
  if r94 = (-1000001 : Int32) then
  rv_bd (f_L_place r90 ((r90 - r90 / (10 : Int32) * (10 : Int32)) - (1 : Int32)) w95) (fun (r96 : Int32) (w97 : rv_W) =>
  if r92 < r96 then
  some ((0 : Int32), w97)
  else
  k74 w97)
  else
  some ((0 : Int32), w95)))))
  else
  k74 w70
  else
  k74 w70)) (fun (k71 : rv_W → rv_R) =>
  if (((xc ((8 : Int32) + Int32.ofNat t)) >>> ((4 : Int32) &&& 31)) &&& (1 : Int32)) = 0 then
  rv_bd (f_L_low ((xc ((8 : Int32) + Int32.ofNat t)) >>> ((5 : Int32) &&& 31)) (5 : Int32) w69) (fun (r104 : Int32) (w105 : rv_W) =>
  rv_jn (fun (v106 : Int32) (w107 : rv_W) =>
  rv_bd (f_X10_setStanding r104 v106 w107) (fun (r110 : Int32) (w111 : rv_W) =>
  k71 w111)) (fun (k108 : Int32 → rv_W → rv_R) =>
  if (((xc ((8 : Int32) + Int32.ofNat t)) >>> ((8 : Int32) &&& 31)) &&& (3 : Int32)) = 0 then
  k108 (1 : Int32) w105
  else
  k108 (0 : Int32) w105))
  else
  k71 w69)))) (fun v _ => v = 1) := by
  have e8 : (8 : Int32) + Int32.ofNat t = Int32.ofNat (t + 8) := by rw [Int32.add_comm, Int32.ofNat_add]; rfl
  rw [e8]
  generalize xc (Int32.ofNat (t + 8)) = y
  refine rv_T_gd.mpr ⟨rv_n_neg (by omega), ?_⟩
  obtain ⟨r, hr, er⟩ := rl_low y (T := 12) (by decide) (by decide)
  have er' : ∀ w, f_L_low y (12 : Int32) w = some (Int32.ofNat r, w) := er
  rw [er', rv_bd_some]
  have hMz : (0 < Int32.ofNat M) = (0 < M) := propext (rv_n_lt (i := 0) (by omega) (by omega))
  simp only [hMz]
  refine rq_jn (fun (k : rv_W → rv_R) => ∀ w', rq_st M w' → rv_T (k w') (fun v _ => v = 1)) (fun w1 h1 => ?_) (fun k71 hk71 => ?_)
  · refine rq_jn (fun (k : rv_W → rv_R) => ∀ w', rq_st M w' → rv_T (k w') (fun v _ => v = 1)) (fun w2 h2 => ?_) (fun k74 hk74 => ?_)
    · obtain ⟨K, d, s, n, b, h2⟩ := h2
      refine rv_T_call (rq_pairs h2) (fun v w3 ⟨e3, h3⟩ => ?_)
      rw [e3, if_neg (by decide)]
      refine rv_T_call (rq_winners h3) (fun v w4 ⟨e4, h4⟩ => ?_)
      rw [e4, if_neg (by decide)]
      refine rv_T_call (rq_paradox h4 (by omega) hr) (fun v w5 ⟨e5, h5⟩ => ?_)
      rw [e5, if_neg (by decide)]
      by_cases hM0 : 0 < M
      · rw [if_pos hM0]
        obtain ⟨g, hg, eg⟩ := rl_low (y >>> ((17 : Int32) &&& 31)) (T := M) (by omega) hM0
        rw [eg, rv_bd_some]
        refine rv_T_call (rq_brought h5 hr hg) (fun v w6 ⟨e6, K', d', h6⟩ => ?_)
        rw [e6, if_neg (by decide)]
        exact hnext w6 ⟨_, _, _, _, _, h6⟩
      · rw [if_neg hM0]
        exact hnext w5 ⟨_, _, _, _, _, h5⟩
    · by_cases hM0 : 0 < M
      · rw [if_pos hM0]
        by_cases q : ((y >>> ((10 : Int32) &&& 31)) &&& (1 : Int32)) = 0
        · rw [if_pos q]
          obtain ⟨g, hg, eg⟩ := rl_low (y >>> ((11 : Int32) &&& 31)) (T := M) (by omega) hM0
          rw [eg, rv_bd_some]
          obtain ⟨K, d, s, n, b, h1⟩ := h1
          refine rc_q (c_ballot _) h1 (fun w2 h2 => ?_)
          have hG := rc_G h1
          rw [ra_iv_nat hg (by omega), if_pos rfl, ra_toN (by omega)]
          obtain ⟨p, hp, ep⟩ := rl_low (y >>> ((14 : Int32) &&& 31)) (T := 5) (by decide) (by decide)
          have ep' : f_L_low (y >>> ((14 : Int32) &&& 31)) (5 : Int32) w2 = some (Int32.ofNat p, w2) := ep w2
          rw [ep', rv_bd_some]
          exact rq_exch h2 hg hp hk74
        · rw [if_neg q]; exact hk74 w1 h1
      · rw [if_neg hM0]; exact hk74 w1 h1
  · by_cases q : ((y >>> ((4 : Int32) &&& 31)) &&& (1 : Int32)) = 0
    · rw [if_pos q]
      obtain ⟨c, hc, ec⟩ := rl_low (y >>> ((5 : Int32) &&& 31)) (T := 5) (by decide) (by decide)
      have ec' : f_L_low (y >>> ((5 : Int32) &&& 31)) (5 : Int32) w = some (Int32.ofNat c, w) := ec w
      rw [ec', rv_bd_some]
      refine rq_jn (fun (k : Int32 → rv_W → rv_R) => ∀ v w', rq_st M w' → rv_T (k v w') (fun v _ => v = 1)) (fun v w1 h1 => ?_) (fun k108 hk108 => ?_)
      · obtain ⟨K, d, s, n, b, h1⟩ := h1
        exact rv_T_call (rc_setStanding h1 hc) (fun v w2 ⟨_, h2⟩ => hk71 w2 ⟨_, _, _, _, _, h2⟩)
      · by_cases q2 : ((y >>> ((8 : Int32) &&& 31)) &&& (3 : Int32)) = 0
        · rw [if_pos q2]; exact hk108 1 w h
        · rw [if_neg q2]; exact hk108 0 w h
    · rw [if_neg q]; exact hk71 w h
set_option maxHeartbeats 8000000 in
set_option maxRecDepth 100000 in
theorem rq_law {xc : Int32 → Int32} {d : Nat → ra_R} {n b : Nat → Nat} {w : rv_W} (h : rc_I 0 d 31 0 n b w) : rv_T (f_L_law xc w) (fun v _ => v = 1) := by
  unfold f_L_law
  refine rv_T_gd.mpr ⟨by decide, ?_⟩
  obtain ⟨M, hM, eM⟩ := rl_low (xc (0 : Int32)) (T := 6) (by decide) (by decide)
  have eM' : f_L_low (xc (0 : Int32)) (6 : Int32) w = some (Int32.ofNat M, w) := eM w
  rw [eM', rv_bd_some, rc_undo0 h, rv_bd_some, if_pos rfl]
  refine rc_q (c_sample _ _ _) h (fun w1 h1 => ?_)
  have e0 : ∀ A, ra_one (0 : Int32) A = A 0 := fun A => ra_one_ok (r := 0) (by decide)
  rw [e0, ra_saA_0 (by decide) rfl, if_pos rfl]
  refine rv_T_call (rc_load h1) (fun v w2 ⟨e2, h2⟩ => ?_)
  rw [e2, if_pos rfl, rc_addGroup0 (Or.inr (by decide)), rv_bd_some, if_pos rfl, rc_addGroup0 (Or.inr (by decide)), rv_bd_some, if_pos rfl, rc_addGroup0 (Or.inr (by decide)), rv_bd_some, if_pos rfl, rc_addGroup0 (Or.inl (by decide)), rv_bd_some, if_pos rfl]
  refine rv_T_for1 M (fun g v w' => ∃ K d n b, rc_I K d 31 g n b w' ∧ v = Int32.ofNat (rv_sm g n)) (fun ag g v w3 hg hI q => ?_) (by show M < 10000; omega) 0 _ _ ⟨0, d, n, b, h2, rfl⟩ (by omega)
  obtain ⟨K, d3, n3, b3, h3, rfl⟩ := hI
  by_cases hgM : g < M
  · rw [if_pos ((rv_n_lt (by omega) (by omega)).mpr hgM)]
    have e1 : (1 : Int32) + Int32.ofNat g = Int32.ofNat (g + 1) := by rw [Int32.add_comm, rv_n_succ]
    rw [e1]
    refine rv_T_gd.mpr ⟨rv_n_neg (by omega), ?_⟩
    generalize xc (Int32.ofNat (g + 1)) = y
    obtain ⟨v, hv, ev⟩ := rl_low (y >>> ((27 : Int32) &&& 31)) (T := 9) (by decide) (by decide)
    have ev' : f_L_low (y >>> ((27 : Int32) &&& 31)) (9 : Int32) w3 = some (Int32.ofNat v, w3) := ev w3
    have e1v : (1 : Int32) + Int32.ofNat v = Int32.ofNat (v + 1) := by rw [Int32.add_comm, rv_n_succ]
    obtain ⟨t, L, ht, hL, hL0, eL⟩ := rl_ballot y
    obtain ⟨d1, d2, d4⟩ := rl_digits ht hL
    rw [ev', rv_bd_some, rv_T_lt, e1v, eL, rv_bd_some]
    refine rv_T_call (rc_addGroup h3 (by omega) (show 1 ≤ v + 1 ∧ v + 1 ≤ 100 by omega) (by rw [d1]; exact hL0)) (fun v4 w4 ⟨e4, h4⟩ => ?_)
    rw [e4, if_pos rfl]
    rw [d1] at h4
    refine rc_q (c_ballot _) h4 (fun w5 h5 => ?_)
    rw [ra_iv_nat (show g < g + 1 by omega) (by omega), if_pos rfl, ra_toN (by omega), ra_at1_same, eL, rv_bd_some, d2, if_pos rfl]
    refine rc_q (c_voters _) h5 (fun w6 h6 => ?_)
    rw [ra_iv_nat (show g < g + 1 by omega) (by omega), if_pos rfl, ra_toN (by omega), ra_at1_same, if_pos rfl, rv_T_lt, rv_T_lt, rv_n_succ]
    refine q hgM _ _ ⟨_, _, _, _, h6, ?_⟩
    have es : rv_sm (g + 1) (rv_at1 n3 g (v + 1)) = rv_sm g n3 + (v + 1) := by
      show rv_sm g (rv_at1 n3 g (v + 1)) + rv_at1 n3 g (v + 1) g = _
      rw [ra_at1_same, rv_sm_congr (f := rv_at1 n3 g (v + 1)) (g := n3) (fun i hi => ra_at1_ne (by omega))]
    rw [es]
    exact (Int32.ofNat_add _ _).symm
  · have : g = M := by omega
    subst this
    rw [if_neg (fun z => hgM ((rv_n_lt (by omega) (by omega)).mp z))]
    refine rc_q c_allVoters h3 (fun w4 h4 => ?_)
    rw [if_pos rfl]
    refine rv_T_call (rq_pairs h4) (fun v w5 ⟨e5, h5⟩ => ?_)
    rw [e5, if_neg (by decide)]
    refine rv_T_call (rq_winners h5) (fun v w6 ⟨e6, h6⟩ => ?_)
    rw [e6, if_neg (by decide)]
    refine rv_T_for 3 (fun _ w' => rq_st g w') (fun ag2 t w7 ht hI2 q2 => ?_) (by decide) 0 _ ⟨_, _, _, _, _, h6⟩ (by omega)
    have e3 : (Int32.ofNat t < (3 : Int32)) = (t < 3) := propext (rv_n_lt (j := 3) (by omega) (by omega))
    simp only [e3]
    by_cases ht3 : t < 3
    · rw [if_pos ht3]
      exact rq_turn hM ht3 hI2 (fun w' h' => by
        rw [rv_T_lt, rv_n_succ]
        exact q2 ht3 w' h')
    · rw [if_neg ht3]
      obtain ⟨K7, d7, s7, n7, b7, h7⟩ := hI2
      exact rq_end h7 hM
