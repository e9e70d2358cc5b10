/-! neighbours exchanged -/
theorem ra_xc_ok {r p : Nat} (hr : r ∈ rv_B) (hp : p < 4) (h : p + 1 < rv_ln r) : ra_xc r p ∈ rv_B ∧ ra_xc r p ≠ 0 ∧ rv_ln (ra_xc r p) = rv_ln r ∧ ∀ k, k < 5 → rv_at (ra_xc r p) k = if k = p then rv_at r (p + 1) else if k = p + 1 then rv_at r p else rv_at r k := by
  have h1 := (ra_F2 hr hp h).1
  have t := rv_all2 (p := fun r p => !Nat.ble (p + 2) (rv_ln r) || (!Nat.beq (ra_xc r p) 0 && Nat.beq (rv_ln (ra_xc r p)) (rv_ln r) && (List.range 5).all fun k => Nat.beq (rv_at (ra_xc r p) k) (if Nat.beq k p then rv_at r (p + 1) else if Nat.beq k (p + 1) then rv_at r p else rv_at r k))) (l := rv_B) (m := List.range 4) (by decide +kernel) hr (rv_rg hp)
  rw [Nat.ble_eq_true_of_le (by omega), Bool.not_true, Bool.false_or, Bool.and_eq_true, Bool.and_eq_true] at t
  refine ⟨h1, fun z => ?_, Nat.eq_of_beq_eq_true t.1.2, fun k hk => ?_⟩
  · have := t.1.1
    rw [z] at this
    cases this
  · have e := Nat.eq_of_beq_eq_true (List.all_eq_true.mp t.2 k (rv_rg hk))
    rw [e]
    by_cases q : k = p
    · rw [if_pos q, if_pos (by rw [q]; exact Nat.beq_refl p)]
    · rw [if_neg q, if_neg (fun z => q (Nat.eq_of_beq_eq_true z))]
      by_cases q2 : k = p + 1
      · rw [if_pos q2, if_pos (by rw [q2]; exact Nat.beq_refl _)]
      · rw [if_neg q2, if_neg (fun z => q2 (Nat.eq_of_beq_eq_true z))]
theorem ra_mof2 {s G g k : Nat} {n b : Nat → Nat} {w : rv_W} (h : ra_MR 0 s G n b w) (hG : G ≤ 20) (hg : g < G) (hk5 : k < 5) (hk : k < rv_ln (b g)) : f_X11_of (Int32.ofNat g) (Int32.ofNat (2 + k)) w = some (Int32.ofNat (rv_at (b g) k - 1), w) := by
  have g1 := (h.2.2 g hg).2.2 k hk5 hk
  rw [show 142 * 0 + 2 + 7 * g + 2 + k = 2 + 7 * g + (2 + k) by omega] at g1
  rw [ra_of7 (by omega) (by omega), g1]
theorem ra_mBallot {s G g : Nat} {n b : Nat → Nat} {w : rv_W} (h : ra_MR 0 s G n b w) (hG : G ≤ 20) (hg : g < G) (hb : b g ∈ rv_B) : f_X11_ballotOf (Int32.ofNat g) w = some (Int32.ofNat (ra_td (b g) (rv_ln (b g))), w) := by
  have hl := (ra_ln_ok hb (show 0 < 5 by omega)).2
  unfold f_X11_ballotOf
  refine rv_E1 (rv_ln (b g)) (fun k => Int32.ofNat (ra_td (b g) k)) (fun _ => w) _ _ rfl rfl (fun ag k hk => ?_) (fun ag => ?_) (by show rv_ln (b g) < 10000; omega)
  · have ha := (ra_ln_ok hb (show k < 5 by omega)).1.mp hk
    have e2 : (2 : Int32) + Int32.ofNat k = Int32.ofNat (2 + k) := by rw [Int32.ofNat_add]; rfl
    rw [ra_mof1 h hG hg, rv_bd_some, if_pos ((rv_n_lt (by omega) (by omega)).mpr hk), e2, ra_mof2 h hG hg (by omega) hk, rv_bd_some, rv_lt, rv_lt, rv_n_succ]
    congr 1
    rw [ra_td, show rv_at (b g) k = (rv_at (b g) k - 1) + 1 by omega, ← Nat.add_assoc, Int32.ofNat_add, Int32.ofNat_add, Int32.ofNat_mul, Nat.add_sub_cancel]
    rfl
  · rw [ra_mof1 h hG hg, rv_bd_some]
    simp only [ra_geG, if_false]
theorem ra_ln_pos {r : Nat} (hr : r ∈ rv_B) (h : r ≠ 0) : 1 ≤ rv_ln r := by
  have t := List.all_eq_true.mp (by decide +kernel : (rv_B.all fun r => Nat.beq r 0 || Nat.ble 1 (rv_ln r)) = true) r hr
  rw [Bool.or_eq_true] at t
  rcases t with t | t
  · exact absurd (Nat.eq_of_beq_eq_true t) h
  · exact Nat.le_of_ble_eq_true t
theorem q_exchange (x y : Int32) : ra_St (f_X10_exchange x y) (f_X11_exchange x y) := fun w h => by
  obtain ⟨⟨s, G, n, b, hC⟩, _, _, _⟩ := id h
  have hG : G ≤ 20 := hC.1.2.2.2.1
  cases hx : ra_iv x G
  · exact ra_noop h (by unfold f_X10_exchange; rw [ra_mth hC.1, rv_bd_some, hx, if_pos ra_e0]) (by unfold f_X11_exchange; rw [ra_mGroup hC.2 hG, rv_bd_some, hx, if_pos ra_e0])
  · obtain ⟨g, hg, rfl⟩ := ra_iv_get hx
    have hb := hC.B hg
    have hb0 : b g ≠ 0 := (hC.1.2.2.2.2 g hg).2.2.2.2
    have hl1 := ra_ln_pos hb hb0
    have hl5 := (ra_ln_ok hb (show 0 < 5 by omega)).2
    have ei : ∀ w, f_X11_in y 0 (Int32.ofNat (rv_ln (b g)) - 2) w = some (rv_b2 (ra_iv y (rv_ln (b g) - 1)), w) := fun w => by
      have e : Int32.ofNat (rv_ln (b g)) - 2 = rv_ci (rv_ln (b g) - 1) := by
        unfold rv_ci
        rw [← ra_pred hl1, Int32.sub_sub]
        rfl
      rw [e]
      exact ra_in0 (by omega)
    have ec : ∀ w : rv_W, (if y < 0 then some ((0 : Int32), w) else if y < Int32.ofNat (rv_ln (b g) - 1) then some ((1 : Int32), w) else some ((0 : Int32), w)) = some (rv_b2 (ra_iv y (rv_ln (b g) - 1)), w) := fun w => ra_rng (by omega)
    have em1 : Int32.ofNat (rv_ln (b g)) - 1 = Int32.ofNat (rv_ln (b g) - 1) := ra_pred hl1
    cases hy : ra_iv y (rv_ln (b g) - 1)
    · refine ra_noop (A := -1000001) h ?_ (by unfold f_X11_exchange; rw [ra_mGroup hC.2 hG, rv_bd_some, hx, if_neg ra_e1, ra_mof1 hC.2 hG hg, rv_bd_some, ei, rv_bd_some, hy, if_pos ra_e0])
      unfold f_X10_exchange
      have := ec w
      rw [hy] at this
      rw [ra_mth hC.1, rv_bd_some, hx, if_neg ra_e1, t_sBallot hC.1 hg, rv_bd_some]
      by_cases q1 : y < 0
      · rw [if_pos q1]
      · rw [if_neg q1, e_length hb, rv_bd_some, em1]
        rw [if_neg q1] at this
        by_cases q2 : y < Int32.ofNat (rv_ln (b g) - 1)
        · rw [if_pos q2] at this
          cases Option.some.inj this
        · rw [if_neg q2]
    · obtain ⟨p, hp, rfl⟩ := ra_iv_get hy
      have hX := ra_xc_ok hb (show p < 4 by omega) (by omega)
      have hXl := hX.2.2.1
      refine ra_act (s' := s) (G' := G) (n' := n) (b' := rv_at1 b g (ra_xc (b g) p)) (A := Int32.ofNat (ra_td (ra_xc (b g) p) (rv_ln (ra_xc (b g) p)))) h hC (by
        unfold f_X10_exchange
        have e2 : Int32.ofNat p < Int32.ofNat (rv_ln (b g) - 1) := (rv_n_lt (by omega) (by omega)).mpr hp
        rw [ra_mth hC.1, rv_bd_some, hx, if_neg ra_e1, t_sBallot hC.1 hg, rv_bd_some, if_neg (rv_n_neg (by omega)), e_length hb, rv_bd_some, em1, if_pos e2]) (fun w1 hM => by
        unfold f_X11_exchange
        rw [ra_mGroup hM hG, rv_bd_some, hx, if_neg ra_e1, ra_mof1 hM hG hg, rv_bd_some, ei, rv_bd_some, hy, if_neg ra_e1]) (fun r w1 hS => ?_) (fun r w1 hM => ?_)
      · rw [e_exchanged hb (by omega), rv_bd_some, t_sVoters hS hg, rv_bd_some, ra_hwr (by omega), rv_bd_some, e_toDigits hX.1, rv_bd_some]
        have hn := (hS.2.2.2.2 g hg).2.2.1
        have := hS.wr hg hn ⟨hX.1, hX.2.1⟩
        rw [ra_at1_id (f := n)] at this
        exact rv_T_some.mpr ⟨rfl, this, fun c j z => by rw [rv_up_of (by omega), rv_up_of (by omega)]⟩
      · have e2 : (2 : Int32) + Int32.ofNat p = Int32.ofNat (2 + p) := by rw [Int32.ofNat_add]; rfl
        have e3 : (3 : Int32) + Int32.ofNat p = Int32.ofNat (2 + (p + 1)) := by rw [show 2 + (p + 1) = 3 + p by omega, Int32.ofNat_add]; rfl
        rw [e2, e3, ra_mof2 hM hG hg (by omega) (by omega), rv_bd_some, ra_mof2 hM hG hg (by omega) (by omega), rv_bd_some, ra_sets (by omega) (by omega), rv_bd_some, ra_sets (by omega) (by omega), rv_bd_some]
        have hM2 : ra_MR 0 s G n (rv_at1 b g (ra_xc (b g) p)) (rv_up (rv_up w1 79 (2 + 7 * g + (2 + p)) (Int32.ofNat (rv_at (b g) (p + 1) - 1))) 79 (2 + 7 * g + (2 + (p + 1))) (Int32.ofNat (rv_at (b g) p - 1))) := by
          obtain ⟨h1, h2, h3⟩ := hM
          refine ⟨by rw [rv_up_of (by omega), rv_up_of (by omega), h1], by rw [rv_up_of (by omega), rv_up_of (by omega), h2], fun i hi => ?_⟩
          obtain ⟨g1, g2, g3⟩ := h3 i hi
          by_cases e : i = g
          · subst e
            rw [ra_at1_same, hXl]
            refine ⟨by rw [rv_up_of (by omega), rv_up_of (by omega), g1], by rw [rv_up_of (by omega), rv_up_of (by omega), g2], fun k hk hl => ?_⟩
            rw [hX.2.2.2 k hk]
            by_cases q1 : k = p
            · rw [if_pos q1, rv_up_of (by omega), q1, show 142 * 0 + 2 + 7 * i + 2 + p = 2 + 7 * i + (2 + p) by omega, rv_up_same]
            · rw [if_neg q1]
              by_cases q2 : k = p + 1
              · rw [if_pos q2, q2, show 142 * 0 + 2 + 7 * i + 2 + (p + 1) = 2 + 7 * i + (2 + (p + 1)) by omega, rv_up_same]
              · rw [if_neg q2, rv_up_of (by omega), rv_up_of (by omega), g3 k hk hl]
          · rw [ra_at1_ne e]
            refine ⟨by rw [rv_up_of (by omega), rv_up_of (by omega), g1], by rw [rv_up_of (by omega), rv_up_of (by omega), g2], fun k hk hl => by rw [rv_up_of (by omega), rv_up_of (by omega), g3 k hk hl]⟩
        have hB := ra_mBallot hM2 hG hg (by rw [ra_at1_same]; exact hX.1)
        rw [ra_at1_same] at hB
        rw [hB, rv_bd_some]
        exact rv_T_some.mpr ⟨rfl, hM2, fun c j z => by rw [rv_up_of (by omega), rv_up_of (by omega)]⟩
