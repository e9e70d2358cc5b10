/-! a group removed -/
def ra_sh (g : Nat) (f : Nat → Nat) (i : Nat) : Nat := if i < g then f i else f (i + 1)
theorem ra_hvo {i : Nat} {w : rv_W} (hi : i < 20) : f_X8_votersOf 1 (Int32.ofNat i) w = some (w 2 i, w) := by
  unfold f_X8_votersOf
  have e : Int32.ofNat i < (20 : Int32) := (rv_n_lt (j := 20) (by omega) (by omega)).mpr hi
  rw [if_neg (rv_n_neg (by omega)), if_pos e, rv_ck20 hi, rv_nn20 hi]
theorem ra_hbo {i : Nat} {w : rv_W} (hi : i < 20) : f_X8_ballotOf 1 (Int32.ofNat i) w = some (w 3 i, w) := by
  unfold f_X8_ballotOf
  have e : Int32.ofNat i < (20 : Int32) := (rv_n_lt (j := 20) (by omega) (by omega)).mpr hi
  rw [if_neg (rv_n_neg (by omega)), if_pos e, rv_ck20 hi, rv_nn20 hi]
theorem ra_hwr {g : Nat} {x y : Int32} {w : rv_W} (hg : g < 20) : f_X8_write 1 (Int32.ofNat g) x y w = some (0, rv_up (rv_up w 2 g x) 3 g y) := by
  unfold f_X8_write
  have e : Int32.ofNat g < (20 : Int32) := (rv_n_lt (j := 20) (by omega) (by omega)).mpr hg
  rw [if_neg (rv_n_neg (by omega)), if_pos e]
  simp only [rv_ck20 hg, rv_nn20 hg, rv_lt]
theorem ra_pred {i : Nat} (h : 1 ≤ i) : Int32.ofNat i - 1 = Int32.ofNat (i - 1) := by rw [Int32.ofNat_sub _ _ h]; rfl
theorem ra_hdrop {s G g : Nat} {n b : Nat → Nat} {w : rv_W} (h : rv_ST 1 s G n b w) (hg : g < G) : rv_T (f_X8_drop 1 (Int32.ofNat g) w) (fun _ w' => rv_ST 1 s (G - 1) (ra_sh g n) (ra_sh g b) w' ∧ ra_hf w w') := by
  obtain ⟨h1, h2, h3, h4, h5⟩ := h
  unfold f_X8_drop
  rw [rv_T_lt, rv_n_succ]
  refine rv_T_for G (fun k w' => g + 1 ≤ k ∧ ra_hf w w' ∧ w' 1 0 = Int32.ofNat s ∧ w' 1 1 = Int32.ofNat G ∧ ∀ i, i < G → w' 2 i = Int32.ofNat (if g ≤ i ∧ i + 1 < k then n (i + 1) else n i) ∧ w' 3 i = Int32.ofNat (if g ≤ i ∧ i + 1 < k then b (i + 1) else b i)) (fun ag k w' hk hI q => ?_) (by show G < 10000; omega) (g + 1) _ ⟨Nat.le_refl _, fun _ _ _ => rfl, h1, h3, fun i hi => by rw [if_neg (by omega), if_neg (by omega)]; exact ⟨(h5 i hi).1, (h5 i hi).2.1⟩⟩ (by omega)
  obtain ⟨k1, hf, g0, g1, gc⟩ := hI
  rw [g1]
  by_cases hkG : k < G
  · have c := gc k hkG
    rw [if_neg (by omega), if_neg (by omega)] at c
    rw [if_pos ((rv_n_lt (by omega) (by omega)).mpr hkG), ra_hvo (by omega), rv_bd_some, ra_hbo (by omega), rv_bd_some, ra_pred (by omega), ra_hwr (by omega), rv_bd_some, rv_T_lt, rv_n_succ]
    refine q hkG _ ⟨by omega, fun c j z => by rw [rv_up_of (by omega), rv_up_of (by omega), hf c j z], by rw [rv_up_of (by omega), rv_up_of (by omega), g0], by rw [rv_up_of (by omega), rv_up_of (by omega), g1], fun i hi => ?_⟩
    by_cases e : i = k - 1
    · have e2 : i + 1 = k := by omega
      rw [if_pos (by omega), if_pos (by omega), e2, e]
      exact ⟨by rw [rv_up_of (by omega), rv_up_same, c.1], by rw [rv_up_same, c.2]⟩
    · rw [rv_up_of (by omega), rv_up_of (by omega), rv_up_of (by omega), rv_up_of (by omega)]
      have := gc i hi
      by_cases z : g ≤ i ∧ i + 1 < k
      · rw [if_pos z, if_pos z] at this
        rw [if_pos (by omega), if_pos (by omega)]
        exact this
      · rw [if_neg z, if_neg z] at this
        rw [if_neg (by omega), if_neg (by omega)]
        exact this
  · have : k = G := by omega
    subst this
    rw [if_neg (fun z => hkG ((rv_n_lt (by omega) (by omega)).mp z)), rv_T_lt, ra_pred (by omega)]
    refine rv_T_some.mpr ⟨⟨by rw [rv_up_of (by omega), g0], h2, rv_up_same, by omega, fun i hi => ?_⟩, fun c j z => by rw [rv_up_of (by omega), hf c j z]⟩
    have := gc i (by omega)
    rw [rv_up_of (by omega), rv_up_of (by omega)]
    unfold ra_sh
    by_cases z : i < g
    · rw [if_neg (by omega), if_neg (by omega)] at this
      rw [if_pos z, if_pos z]
      exact ⟨this.1, this.2, (h5 i (by omega)).2.2⟩
    · rw [if_pos (by omega), if_pos (by omega)] at this
      rw [if_neg z, if_neg z]
      exact ⟨this.1, this.2, (h5 (i + 1) (by omega)).2.2⟩
