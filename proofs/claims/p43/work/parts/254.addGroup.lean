theorem ra_bl_ok {x : Int32} : ra_bl x = [] ∨ ∃ t, t < 32 ∧ ra_bl x ∈ ra_ps 5 t ∧ x = Int32.ofNat (ra_dcr (ra_bl x) 0) := by
  unfold ra_bl
  by_cases hx : 0 < x
  · rw [if_pos hx]
    have hx2 : 0 < x.toInt := by rw [Int32.lt_iff_toInt_lt] at hx; exact hx
    rcases ra_rd_in (f := 5) (s := 0) (N := x.toInt.toNat) (L := []) (by omega) (by decide) with z | ⟨⟨t, z1, z2⟩, z3⟩
    · exact Or.inl z
    · refine Or.inr ⟨t, z1, z2, ?_⟩
      have e : ra_dcr [] x.toInt.toNat = x.toInt.toNat := rfl
      rw [z3, e, ← Int32.ofInt_eq_ofNat, show ((x.toInt.toNat : Nat) : Int) = x.toInt by omega, Int32.ofInt_toInt]
  · rw [if_neg hx]; exact Or.inl rfl
theorem rv_ST.ap {s G k r : Nat} {n b : Nat → Nat} {w : rv_W} (h : rv_ST 1 s G n b w) (hG : G < 20) (hk : 1 ≤ k ∧ k ≤ 100) (hr : r ∈ rv_B ∧ r ≠ 0) : rv_ST 1 s (G + 1) (rv_at1 n G k) (rv_at1 b G r) (rv_up (rv_up (rv_up w 2 G (Int32.ofNat k)) 3 G (Int32.ofNat r)) 1 1 (Int32.ofNat (G + 1))) := by
  obtain ⟨h1, h2, h3, h4, h5⟩ := h
  refine ⟨by rw [rv_up_of (by omega), rv_up_of (by omega), rv_up_of (by omega), h1], h2, rv_up_same, by omega, fun i hi => ?_⟩
  by_cases e : i = G
  · subst e
    rw [ra_at1_same, ra_at1_same]
    exact ⟨by rw [rv_up_of (by omega), rv_up_of (by omega), rv_up_same], by rw [rv_up_of (by omega), rv_up_same], hk, hr.1, hr.2⟩
  · rw [ra_at1_ne e, ra_at1_ne e]
    obtain ⟨g1, g2, g3⟩ := h5 i (by omega)
    exact ⟨by rw [rv_up_of (by omega), rv_up_of (by omega), rv_up_of (by omega), g1], by rw [rv_up_of (by omega), rv_up_of (by omega), rv_up_of (by omega), g2], g3⟩
theorem ra_room {s G : Nat} {n b : Nat → Nat} {w : rv_W} (h : rv_ST 1 s G n b w) : f_X8_room 1 w = some (Int32.ofNat (20 - G), w) := by
  have hG : G ≤ 20 := h.2.2.2.1
  unfold f_X8_room
  rw [h.2.2.1, Int32.ofNat_sub _ _ hG]
  rfl
