/-! the model's Kemeny, ended -/
def ra_kJ (p : Nat → Nat → Nat) (n : Nat) (L : List (List Nat)) (x : Int32) (w : rv_W) : Prop := (L = [] ∧ w 78 19 = -1 ∧ x = 0) ∨ ∃ B M b, ra_kI p L B M b ∧ x = Int32.ofNat M ∧ w 78 19 = Int32.ofNat B ∧ B ≤ 50000 ∧ ∀ j, j < n → w 92 j = Int32.ofNat (ra_gd b j)
theorem ra_gd_lt {l : List Nat} (h : ∀ c, c ∈ l → c < 5) : ∀ k, ra_gd l k < 10 := fun k => by
  by_cases q : k < l.length
  · have := h _ (ra_gd_mem q)
    omega
  · unfold ra_gd
    rw [List.getD_eq_getElem?_getD, List.getElem?_eq_none (by omega)]
    decide
theorem ra_ps_len {s : Nat} (hs : s < 32) : (ra_ps 5 s).length ≤ 120 := of_decide_eq_true (List.all_eq_true.mp (by decide +kernel : ((List.range 32).all fun s => decide ((ra_ps 5 s).length ≤ 120)) = true) s (rv_rg hs))
theorem ra_ck0 {t : rv_R} : rv_ck (0 : Int32) 5 t = t := rv_n_ck (i := 0) (by decide) (by decide)
theorem ra_nn0 : (0 : Int32).toNatClampNeg = 0 := rfl
theorem ra_m1lt {x : Nat} (h : x ≤ 50000) : (-1 : Int32) < Int32.ofNat x := by
  rw [Int32.lt_iff_toInt_lt, rv_n_int (by omega), show (-1 : Int32).toInt = -1 from rfl]
  omega
theorem ra_kemenyOf {G s : Nat} {n m : Nat → Nat} {w : rv_W} (h : ra_ML G n m w) (hs : s < 32) : rv_T (f_X11_kemenyOf (Int32.ofNat s) w) (fun v w' => v = Int32.ofNat (ra_lds (ra_P s n m) s) ∧ ra_fm w w' ∧ (s ≠ 0 → w' 78 19 = Int32.ofNat (ra_V (ra_P s n m) 5 s) ∧ ∀ j, j < rv_mn s → w' 92 j = Int32.ofNat (ra_gd (ra_gl (ra_P s n m) 5 s) j))) := by
  have hN := h.1.sum
  have hp : ∀ a b, ra_P s n m a b ≤ 2000 := fun a b => Nat.le_trans ra_P_le hN
  have hmn := @rv_mn_le s
  unfold f_X11_kemenyOf
  refine rv_T_call (ra_firstOrder hs) (fun _ w2 ⟨hf, h17, h91⟩ => ?_)
  rw [rv_T_lt]
  have e0 : (0 < (rv_up w2 78 19 (-1)) 78 17) ↔ 0 < rv_mn s := by
    rw [rv_up_of (by decide), h17]
    exact rv_n_lt (i := 0) (by omega) (by omega)
  rw [rv_jn_if, decide_eq_decide.mpr e0]
  have hf2 : ra_fm w (rv_up w2 78 19 (-1)) := fun c j z => by rw [rv_up_of (by omega), hf c j (by omega)]
  by_cases hs0 : s = 0
  · subst hs0
    have : rv_mn 0 = 0 := by decide
    rw [decide_eq_false (show ¬ 0 < rv_mn 0 by omega)]
    have z : ra_lds (ra_P 0 n m) 0 = 0 := ra_ms_zero (fun c _ => by rw [ra_hs0]; rfl)
    rw [z]
    exact ⟨_, _, rfl, rfl, hf2, fun z => absurd rfl z⟩
  · have hm0 : 0 < rv_mn s := Nat.pos_of_ne_zero (fun z => hs0 ((ra_mn_z hs).mp z))
    rw [decide_eq_true hm0]
    obtain ⟨hchk, hlok⟩ := ra_pms_ok hs hs0
    obtain ⟨r0, hr0⟩ := ra_pms_hd hs hs0
    have hlen := ra_ps_len hs
    refine rv_T_fx (α := Int32 → Int32 → rv_W → rv_R) (σ := (List (List Nat) × List (List Nat)) × (Int32 × rv_W)) (fun t a => a t.2.1 (rv_b2 (!t.1.2.isEmpty)) t.2.2) (fun t => t.1.1 ++ t.1.2 = ra_ps 5 s ∧ ra_fm w t.2.2 ∧ t.2.2 78 17 = Int32.ofNat (rv_mn s) ∧ (∀ l r, t.1.2 = l :: r → ra_chk (rv_mn s) (l :: r) = true ∧ ∀ j, j < rv_mn s → t.2.2 91 j = Int32.ofNat (ra_gd l j)) ∧ ra_kJ (ra_P s n m) (rv_mn s) t.1.1 t.2.1 t.2.2) (fun t => t.1.2.length) ?_ rv_FU (([], ra_mb s :: r0), ((0 : Int32), rv_up w2 78 19 (-1))) ?_ ⟨hr0.symm, hf2, by show rv_up w2 78 19 (-1) 78 17 = _; rw [rv_up_of (by decide), h17], fun l r e => ?_, (show ra_kJ (ra_P s n m) (rv_mn s) [] 0 (rv_up w2 78 19 (-1)) from Or.inl ⟨rfl, rv_up_same, rfl⟩)⟩
    · intro ag ⟨⟨L1, L2⟩, ⟨x, w'⟩⟩ hI q
      obtain ⟨hL, hfm, hw17, hcur, hJ⟩ := hI
      dsimp only at hL hfm hw17 hcur hJ q ⊢
      cases L2 with
      | nil =>
        rw [List.append_nil] at hL
        subst hL
        simp only [List.isEmpty_nil, Bool.not_true, rv_b2_0, if_true]
        rcases hJ with hJ | ⟨B, M, b, hk, hx, h19, hB, h92⟩
        · rw [hr0] at hJ; cases hJ.1
        · obtain ⟨e1, e2, e3⟩ := ra_kI_fin hs hs0 hk
          subst e1 e2 e3
          exact rv_T_some.mpr ⟨hx, hfm, fun _ => ⟨h19, h92⟩⟩
      | cons l r =>
        obtain ⟨hck, hw91⟩ := hcur l r rfl
        have hlm : l ∈ ra_ps 5 s := by rw [← hL]; exact List.mem_append_right _ List.mem_cons_self
        obtain ⟨hll, hlin⟩ := hlok l hlm
        have hL1 : ∀ k, k ∈ L1 → k ∈ ra_ps 5 s := fun k hk => by rw [← hL]; exact List.mem_append_left _ hk
        have hLL := h.fm hfm
        have hvl : ra_vl (ra_P s n m) l ≤ 50000 := by
          have e1 := ra_P1 (p := ra_P s n m) hs hmn hlm
          have e2 := @ra_V_le (ra_P s n m) 5 s hp
          omega
        have hov := ra_orderValue (s := s) hLL (by omega) hlin (by rw [hw17, hll]) (fun j hj => hw91 j (by omega))
        have hd : l.headD 9 = ra_gd l 0 := by
          cases l with
          | nil => rw [← hll] at hm0; cases hm0
          | cons c l => rfl
        have hd5 : ra_gd l 0 < 5 := (hlin _ (ra_gd_mem (by omega))).1
        simp only [List.isEmpty_cons, Bool.not_false, rv_b2_0, Bool.true_eq_false, if_false, hov, rv_bd_some]
        -- what follows the new best
        have cont : ∀ x1 w1, ra_fm w w1 → w1 78 17 = Int32.ofNat (rv_mn s) → (∀ j, j < rv_mn s → w1 91 j = Int32.ofNat (ra_gd l j)) → ra_kJ (ra_P s n m) (rv_mn s) (L1 ++ [l]) x1 w1 → rv_T (rv_bd (f_X11_nextOf 91 (w1 78 17) w1) (fun r24 w25 => ag x1 r24 w25)) (fun v w' => v = Int32.ofNat (ra_lds (ra_P s n m) s) ∧ ra_fm w w' ∧ (s ≠ 0 → w' 78 19 = Int32.ofNat (ra_V (ra_P s n m) 5 s) ∧ ∀ j, j < rv_mn s → w' 92 j = Int32.ofNat (ra_gd (ra_gl (ra_P s n m) 5 s) j))) := by
          intro x1 w1 g1 g2 g3 g4
          rw [g2]
          refine rv_T_call (ra_next (w0 := w1) (a := ra_gd l) ⟨fun _ _ _ => rfl, g3⟩ hmn hm0 (ra_gd_lt (fun c hc => (hlin c hc).1))) (fun v w5 h5 => ?_)
          obtain ⟨hv, har⟩ := h5
          have hf5 : ra_fm w w5 := fun c j z => by rw [har.1 c j (by omega), g1 c j z]
          have e17 : w5 78 17 = Int32.ofNat (rv_mn s) := by rw [har.1 _ _ (by decide), g2]
          have hJ5 : ra_kJ (ra_P s n m) (rv_mn s) (L1 ++ [l]) x1 w5 := by
            rcases g4 with g4 | ⟨B, M, b, hk, hx, h19, hB, h92⟩
            · exact absurd g4.1 (by simp)
            · exact Or.inr ⟨B, M, b, hk, hx, by rw [har.1 _ _ (by decide), h19], hB, fun j hj => by rw [har.1 _ _ (by decide), h92 j hj]⟩
          cases r with
          | nil =>
            have hnone : (ra_nxt (ra_gd l) (rv_mn s)).isNone = true := hck
            rw [Option.isNone_iff_eq_none.mp hnone] at hv
            rw [hv]
            exact q ((L1 ++ [l], []), (x1, w5)) ⟨by rw [List.append_assoc]; exact hL, hf5, e17, fun l' r' e => (by cases e), hJ5⟩ (by dsimp only; exact Nat.lt_succ_self 0)
          | cons l' r =>
            have hck' : ((match ra_nxt (ra_gd l) (rv_mn s) with
              | none => false
              | some b => (List.range (rv_mn s)).all (fun j => b j == ra_gd l' j)) && ra_chk (rv_mn s) (l' :: r)) = true := hck
            rw [Bool.and_eq_true] at hck'
            cases hnx : ra_nxt (ra_gd l) (rv_mn s) with
            | none => rw [hnx] at hck'; cases hck'.1
            | some b =>
              rw [hnx] at hck' hv har
              rw [hv]
              refine q ((L1 ++ [l], l' :: r), (x1, w5)) ⟨by rw [List.append_assoc]; exact hL, hf5, e17, fun l2 r2 e => ?_, hJ5⟩ (by dsimp only; simp)
              dsimp only at e ⊢
              cases e
              refine ⟨hck'.2, fun j hj => ?_⟩
              have e1 := har.2 j hj
              have e2 := List.all_eq_true.mp hck'.1 j (List.mem_range.mpr hj)
              rw [beq_iff_eq] at e2
              rw [e1, ← e2]
              rfl
        have grow : (w' 78 19 < Int32.ofNat (ra_vl (ra_P s n m) l)) → (∀ k, k ∈ L1 → ra_vl (ra_P s n m) k < ra_vl (ra_P s n m) l) → rv_T (rv_jn (fun (v15 : Int32) (w16 : rv_W) =>
            rv_jn (fun (v19 : Int32) (w20 : rv_W) =>
            rv_lt ((v15 ||| v19)) (fun (v23 : Int32) =>
            rv_bd (f_X11_nextOf 91 (w20 78 17) w20) (fun (r24 : Int32) (w25 : rv_W) =>
            ag v23 r24 w25))) (fun (k21 : Int32 → rv_W → rv_R) =>
            if Int32.ofNat (ra_vl (ra_P s n m) l) = (w16 78 19) then
            rv_ck (0 : Int32) 5 (
            k21 ((1 : Int32) <<< ((w16 91 (0 : Int32).toNatClampNeg) &&& 31)) w16)
            else
            k21 (0 : Int32) w16)) (fun (k17 : Int32 → rv_W → rv_R) =>
            if (w' 78 19) < Int32.ofNat (ra_vl (ra_P s n m) l) then
            rv_lt (rv_up w' 78 19 (Int32.ofNat (ra_vl (ra_P s n m) l))) (fun (w26 : rv_W) =>
            rv_fx (fun _ _ => none) (fun (ag27 : Int32 → rv_W → rv_R) (v29 : Int32) (w30 : rv_W) =>
            if v29 < (w30 78 17) then
            rv_ck v29 5 (
            rv_ck v29 5 (rv_lt (rv_up w30 92 v29.toNatClampNeg (w30 91 v29.toNatClampNeg)) (fun (w31 : rv_W) =>
            rv_lt (v29 + (1 : Int32)) (fun (v32 : Int32) =>
            ag27 v32 w31))))
            else
            k17 (0 : Int32) w30) rv_FU (0 : Int32) w26)
            else
            k17 x w')) (fun v w' => v = Int32.ofNat (ra_lds (ra_P s n m) s) ∧ ra_fm w w' ∧ (s ≠ 0 → w' 78 19 = Int32.ofNat (ra_V (ra_P s n m) 5 s) ∧ ∀ j, j < rv_mn s → w' 92 j = Int32.ofNat (ra_gd (ra_gl (ra_P s n m) 5 s) j))) := by
          intro hlt hall
          rw [rv_T_jn, if_pos hlt, rv_T_lt]
          refine rv_T_for (rv_mn s) (fun k w3 => ra_fm w w3 ∧ w3 78 17 = Int32.ofNat (rv_mn s) ∧ w3 78 19 = Int32.ofNat (ra_vl (ra_P s n m) l) ∧ (∀ j, j < rv_mn s → w3 91 j = Int32.ofNat (ra_gd l j)) ∧ ∀ j, j < k → w3 92 j = Int32.ofNat (ra_gd l j)) (fun ag3 k w3 hk hI3 q3 => ?_) (by show rv_mn s < 10000; omega) 0 _ ⟨hfm.up (by omega), by rw [rv_up_of (by decide), hw17], rv_up_same, fun j hj => by rw [rv_up_ne (by decide), hw91 j hj], fun j hj => by omega⟩ (by omega)
          obtain ⟨g1, g2, g3, g4, g5⟩ := hI3
          by_cases hkn : k < rv_mn s
          · have lt : (Int32.ofNat k < Int32.ofNat (rv_mn s)) = True := eq_true ((rv_n_lt (by omega) (by omega)).mpr hkn)
            simp only [g2, lt, if_true, rv_ck5 (show k < 5 by omega), rv_nn5 (show k < 5 by omega), rv_lt, rv_n_succ]
            refine q3 hkn _ ⟨g1.up (by omega), by rw [rv_up_ne (by decide), g2], by rw [rv_up_ne (by decide), g3], fun j hj => by rw [rv_up_ne (by decide), g4 j hj], fun j hj => ?_⟩
            by_cases e : j = k
            · subst e; rw [rv_up_same, g4 j hkn]
            · rw [rv_up_of (fun z => e z.2), g5 j (by omega)]
          · have : k = rv_mn s := by omega
            subst this
            simp only [g2, ra_geG, if_false, g3, if_true, ra_ck0, ra_nn0, g4 0 hm0, rv_shl hd5, rv_jn, rv_lt]
            rw [← g2]
            refine cont _ w3 g1 g2 g4 (Or.inr ⟨ra_vl (ra_P s n m) l, 2 ^ l.headD 9, l, ra_kI_up (by omega) hall, ?_, g3, hvl, g5⟩)
            rw [hd]
            have := e_or (s := 0) (t := 2 ^ ra_gd l 0) (by decide) (rv_pow_lt hd5)
            have e2 : ra_un 0 (2 ^ ra_gd l 0) = 2 ^ ra_gd l 0 := rv_hs_ext ra_un_lt (rv_pow_lt hd5) (fun c hc => by rw [ra_un_hs hc, ra_hs0, Bool.false_or])
            rw [e2] at this
            exact this
        rcases hJ with ⟨rfl, h19, rfl⟩ | ⟨B, M, b, hk, hx, h19, hB, h92⟩
        · exact grow (by rw [h19]; exact ra_m1lt hvl) (fun k hk => by cases hk)
        · have eLt : (Int32.ofNat B < Int32.ofNat (ra_vl (ra_P s n m) l)) = (B < ra_vl (ra_P s n m) l) := propext (rv_n_lt (by omega) (by omega))
          have eEq : (Int32.ofNat (ra_vl (ra_P s n m) l) = Int32.ofNat B) = (ra_vl (ra_P s n m) l = B) := propext (rv_n_eq (by omega) (by omega))
          by_cases q1 : B < ra_vl (ra_P s n m) l
          · refine grow (by rw [h19, eLt]; exact q1) (fun k hk2 => ?_)
            have := hk.1 k hk2
            omega
          · rw [rv_T_jn]
            simp only [h19, eLt, q1, if_false, rv_jn, eEq, ra_ck0, ra_nn0, hw91 0 hm0, rv_shl hd5, rv_lt]
            by_cases q2 : ra_vl (ra_P s n m) l = B
            · simp only [q2, if_true]
              refine cont _ w' hfm hw17 hw91 (Or.inr ⟨B, _, b, ra_kI_eq (by omega) hk q2, ?_, h19, hB, h92⟩)
              rw [hx, hd, e_or hk.2.2.1 (rv_pow_lt hd5)]
            · simp only [q2, if_false]
              refine cont _ w' hfm hw17 hw91 (Or.inr ⟨B, M, b, ra_kI_lt hk (by omega), ?_, h19, hB, h92⟩)
              rw [hx, rv_or0]
    · show (ra_mb s :: r0).length < 10000
      rw [← hr0]
      omega
    · cases e
      refine ⟨by rw [← hr0]; exact hchk, fun j hj => ?_⟩
      show rv_up w2 78 19 (-1) 91 j = _
      rw [rv_up_ne (by decide), h91 j hj]
