theorem ra_bl_ok {x : Int32} : ra_bl x = [] ∨ ∃ t, t < 32 ∧ ra_bl x ∈ ra_ps 5 t ∧ x = Int32.ofNat (ra_dcr (ra_bl x) 0) := by
  unfold ra_bl
  by_cases hx : 0 < x
  · rw [if_pos hx]
    have hx2 : 0 < x.toInt := by rw [Int32.lt_iff_toInt_lt] at hx; exact hx
    rcases ra_rd_in (f := 5) (s := 0) (N := x.toInt.toNat) (L := []) (by omega) (by decide) with z | ⟨⟨t, z1, z2⟩, z3⟩
    · exact Or.inl z
    · refine Or.inr ⟨t, z1, z2, ?_⟩
      have e : ra_dcr [] x.toInt.toNat = x.toInt.toNat := rfl
      rw [z3, e, ← Int32.ofInt_eq_ofNat, show ((x.toInt.toNat : Nat) : Int) = x.toInt by omega, Int32.ofInt_toInt]
  · rw [if_neg hx]; exact Or.inl rfl
theorem rv_ST.ap {s G k r : Nat} {n b : Nat → Nat} {w : rv_W} (h : rv_ST 1 s G n b w) (hG : G < 20) (hk : 1 ≤ k ∧ k ≤ 100) (hr : r ∈ rv_B ∧ r ≠ 0) : rv_ST 1 s (G + 1) (rv_at1 n G k) (rv_at1 b G r) (rv_up (rv_up (rv_up w 2 G (Int32.ofNat k)) 3 G (Int32.ofNat r)) 1 1 (Int32.ofNat (G + 1))) := by
  obtain ⟨h1, h2, h3, h4, h5⟩ := h
  refine ⟨by rw [rv_up_of (by omega), rv_up_of (by omega), rv_up_of (by omega), h1], h2, rv_up_same, by omega, fun i hi => ?_⟩
  by_cases e : i = G
  · subst e
    rw [ra_at1_same, ra_at1_same]
    exact ⟨by rw [rv_up_of (by omega), rv_up_of (by omega), rv_up_same], by rw [rv_up_of (by omega), rv_up_same], hk, hr.1, hr.2⟩
  · rw [ra_at1_ne e, ra_at1_ne e]
    obtain ⟨g1, g2, g3⟩ := h5 i (by omega)
    exact ⟨by rw [rv_up_of (by omega), rv_up_of (by omega), rv_up_of (by omega), g1], by rw [rv_up_of (by omega), rv_up_of (by omega), rv_up_of (by omega), g2], g3⟩
theorem ra_room {s G : Nat} {n b : Nat → Nat} {w : rv_W} (h : rv_ST 1 s G n b w) : f_X8_room 1 w = some (Int32.ofNat (20 - G), w) := by
  have hG : G ≤ 20 := h.2.2.2.1
  unfold f_X8_room
  rw [h.2.2.1, Int32.ofNat_sub _ _ hG]
  rfl
theorem q_addGroup (x y : Int32) : ra_St (f_X10_addGroup x y) (f_X11_addGroup x y) := fun w h => by
  obtain ⟨⟨s, G, n, b, hC⟩, _, _, _⟩ := id h
  have hG : G ≤ 20 := hC.1.2.2.2.1
  have ed : ∀ w, f_X0_fromDigits y w = some (Int32.ofNat (ra_oc (ra_bl y)), w) := fun w => ra_eqT ra_fromDigits
  have eb : ∀ w, f_X11_isBallot y w = some (rv_b2 (!(ra_bl y).isEmpty), w) := fun w => ra_eqT ra_isBallot
  have ei : ∀ w, f_X11_in x 1 100 w = _ := fun w => ra_szin (hi := 100) (w := w) (by decide)
  cases hx : ra_sz x 100
  · exact ra_noop (A := -1000002) h (by unfold f_X10_addGroup; rw [ed, rv_bd_some, ra_groupSize, rv_bd_some, hx, if_pos ra_e0]) (by unfold f_X11_addGroup; rw [ei, rv_bd_some, hx, if_pos ra_e0])
  · rcases ra_bl_ok (x := y) with z | ⟨t, ht, hL, hN⟩
    · exact ra_noop (A := -1000002) h (by unfold f_X10_addGroup; rw [ed, rv_bd_some, ra_groupSize, rv_bd_some, hx, if_neg ra_e1, z, if_pos (by decide)]) (by unfold f_X11_addGroup; rw [ei, rv_bd_some, hx, if_neg ra_e1, eb, rv_bd_some, z, if_pos (by decide)])
    · by_cases z : ra_bl y = []
      · exact ra_noop (A := -1000002) h (by unfold f_X10_addGroup; rw [ed, rv_bd_some, ra_groupSize, rv_bd_some, hx, if_neg ra_e1, z, if_pos (by decide)]) (by unfold f_X11_addGroup; rw [ei, rv_bd_some, hx, if_neg ra_e1, eb, rv_bd_some, z, if_pos (by decide)])
      · have ho := ra_oc_ok ht hL
        have hB := rv_B_lt ho.1
        have hne : ¬ Int32.ofNat (ra_oc (ra_bl y)) = 0 := fun q => ho.2.1 z ((rv_n_eq (j := 0) (by omega) (by omega)).mp q)
        have hie : (!(ra_bl y).isEmpty) = true := by
          cases e : ra_bl y with
          | nil => exact absurd e z
          | cons _ _ => rfl
        have em20 : ∀ w1, ra_MR 0 s G n b w1 → (w1 79 0 = 20 ↔ G = 20) := fun w1 hM => by
          have : w1 79 0 = Int32.ofNat G := hM.1
          rw [this]
          exact rv_n_eq (j := 20) (by omega) (by omega)
        have er : (Int32.ofNat (20 - G) = 0) ↔ G = 20 := (rv_n_eq (j := 0) (by omega) (by omega)).trans ⟨fun q => by omega, fun q => by omega⟩
        by_cases hG20 : G = 20
        · exact ra_noop (A := -1000004) h (by unfold f_X10_addGroup; rw [ed, rv_bd_some, ra_groupSize, rv_bd_some, hx, if_neg ra_e1, if_neg hne, ra_room hC.1, rv_bd_some, if_pos (er.mpr hG20)]) (by unfold f_X11_addGroup; rw [ei, rv_bd_some, hx, if_neg ra_e1, eb, rv_bd_some, hie, if_neg ra_e1, ra_c852', ra_nn0, if_pos ((em20 w hC.2).mpr hG20)])
        · obtain ⟨k, hk1, hk2, rfl⟩ := ra_sz_get hx
          refine ra_act (s' := s) (G' := G + 1) (n' := rv_at1 n G k) (b' := rv_at1 b G (ra_oc (ra_bl y))) (A := Int32.ofNat G) h hC (by unfold f_X10_addGroup; rw [ed, rv_bd_some, ra_groupSize, rv_bd_some, hx, if_neg ra_e1, if_neg hne, ra_room hC.1, rv_bd_some, if_neg (fun q => hG20 (er.mp q))]) (fun w1 hM => by unfold f_X11_addGroup; rw [ei, rv_bd_some, hx, if_neg ra_e1, eb, rv_bd_some, hie, if_neg ra_e1, ra_c852', ra_nn0, if_neg (fun q => hG20 ((em20 w1 hM).mp q))]) (fun r w1 hS => ?_) (fun r w1 hM => ?_)
          · have e1 : w1 1 1 = Int32.ofNat G := hS.2.2.1
            have e0 : 0 < Int32.ofNat (20 - G) := (rv_n_lt (i := 0) (by omega) (by omega)).mpr (by omega)
            unfold f_X8_append
            rw [ra_room hS, rv_bd_some, if_pos e0, e1, ra_hwr (by omega), rv_bd_some]
            have ea := hS.ap (by omega) ⟨hk1, hk2⟩ ⟨ho.1, ho.2.1 z⟩
            refine rv_T_call (P := fun v w' => w' = rv_up (rv_up (rv_up w1 2 G (Int32.ofNat k)) 3 G (Int32.ofNat (ra_oc (ra_bl y)))) 1 1 (Int32.ofNat (G + 1))) ?_ (fun v w' hw => ?_)
            · rw [rv_T_lt, rv_up_of (by omega), rv_up_of (by omega), e1, rv_n_succ]
              exact rv_T_some.mpr rfl
            · subst hw
              rw [rv_up_same, ra_pred (by omega)]
              exact rv_T_some.mpr ⟨rfl, ea, fun c j z => by rw [rv_up_of (by omega), rv_up_of (by omega), rv_up_of (by omega)]⟩
          · have hA := ra_adds (v := k) hM (by omega) ht hL z
            rw [← hN] at hA
            refine rv_T_call hA (fun v w' ⟨h2, hf⟩ => ?_)
            have e0 : w' 79 0 = Int32.ofNat (G + 1) := h2.1
            rw [ra_c852', e0, ra_pred (by omega)]
            exact rv_T_some.mpr ⟨rfl, h2, hf⟩
