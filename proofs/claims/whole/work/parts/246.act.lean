/-! a change, recorded by both -/
def ra_hf (w w' : rv_W) : Prop := ∀ c j, ¬ (1 ≤ c ∧ c ≤ 3) → w' c j = w c j
def ra_kf (w w' : rv_W) : Prop := ∀ c j, ¬ (c = 79 ∧ j < 142) → w' c j = w c j
theorem ra_noop {A : Int32} {w : rv_W} {fc fm : rv_W → rv_R} (h : ra_Inv w) (e1 : fc w = some (A, w)) (e2 : fm w = some (A, w)) : rv_T (fc w) (fun v w1 => rv_T (fm w1) (fun v2 w2 => v = v2 ∧ ra_Inv w2)) := by
  rw [e1]
  refine rv_T_some.mpr ?_
  rw [e2]
  exact rv_T_some.mpr ⟨rfl, h⟩
theorem ra_hK_le {K : Nat} (h : K ≤ 5) : ra_hK K ≤ 5 := by
  unfold ra_hK
  split <;> omega
theorem ra_text.fr {w w' : rv_W} (h : ra_text w) (e1 : ∀ c j, c = 20 ∧ j = 0 ∨ c = 21 ∨ c = 78 ∧ j = 3 ∨ c = 80 → w' c j = w c j) : ra_text w' := by
  obtain ⟨L, x, h1, h2, h3, h4⟩ := h
  exact ⟨L, x, h1, by rw [e1 _ _ (by omega), h2], by rw [e1 _ _ (by omega), h3], fun i hi => ⟨(h4 i hi).1, by rw [e1 _ _ (by omega), (h4 i hi).2.1], by rw [e1 _ _ (by omega), (h4 i hi).2.2]⟩⟩
theorem ra_act {s G s' G' : Nat} {n b n' b' : Nat → Nat} {A : Int32} {w : rv_W} {fc fm : rv_W → rv_R} {kc km : Int32 → rv_W → rv_R} (h : ra_Inv w) (hC : ra_Cur s G n b w) (ec : fc w = rv_bd (f_X10_remember w) kc) (em : ∀ w1, ra_MR 0 s G n b w1 → fm w1 = rv_bd (f_X11_saves w1) km) (hc : ∀ r w1, rv_ST 1 s G n b w1 → rv_T (kc r w1) (fun v w' => v = A ∧ rv_ST 1 s' G' n' b' w' ∧ ra_hf w1 w')) (hm : ∀ r w1, ra_MR 0 s G n b w1 → rv_T (km r w1) (fun v w' => v = A ∧ ra_MR 0 s' G' n' b' w' ∧ ra_kf w1 w')) : rv_T (fc w) (fun v w1 => rv_T (fm w1) (fun v2 w2 => v = v2 ∧ ra_Inv w2)) := by
  obtain ⟨_, hH, hT, hR⟩ := id h
  obtain ⟨K, d, hK, hch, hmh⟩ := ra_hist_get hH
  have hG : G ≤ 20 := hC.1.2.2.2.1
  have hK' := ra_hK_le hK
  rw [ec]
  refine rv_T_call (ra_remember hK hch hC.1) (fun r w1 ⟨h1, hf1⟩ => ?_)
  have hS1 : rv_ST 1 s G n b w1 := hC.1.fr (fun c j z => hf1 c j (by omega))
  refine (hc r w1 hS1).mono (fun v w2 ⟨hv, hS2, hf2⟩ => ?_)
  have f12 : ∀ c j, 20 ≤ c → w2 c j = w c j := fun c j z => by rw [hf2 c j (by omega), hf1 c j (by omega)]
  have hM2 : ra_MR 0 s G n b w2 := hC.2.fr (fun j => f12 _ _ (by omega))
  have hmh2 : ra_mh K d w2 := ⟨by rw [f12 _ _ (by omega), hmh.1], fun i hi => ⟨(hmh.2 i hi).1, (hmh.2 i hi).2.fr (fun j => f12 _ _ (by omega))⟩⟩
  have hch2 : ra_ch (ra_hK K) (ra_hD K d (ra_R.mk s G n b)) w2 := h1.fr hK' (hf2 _ _ (by omega)) (fun c j z1 z2 => hf2 c j (by omega))
  rw [em w2 hM2]
  refine rv_T_call (ra_saves hK hG hmh2 hM2) (fun r3 w3 ⟨h3, hf3⟩ => ?_)
  refine (hm r3 w3 (hM2.mf hG hf3)).mono (fun v4 w4 ⟨hv4, hM4, hf4⟩ => ⟨by rw [hv, hv4], ?_⟩)
  have f24 : ∀ c j, ¬ (c = 78 ∧ j = 1 ∨ c = 79) → w4 c j = w2 c j := fun c j z => by rw [hf4 c j (by omega), hf3 c j (by omega)]
  refine ⟨⟨s', G', n', b', hS2.fr (fun c j z => f24 c j (by omega)), hM4⟩, ra_hist_mk hK' (hch2.fr hK' (f24 _ _ (by omega)) (fun c j z1 z2 => f24 c j (by omega))) ⟨by rw [hf4 _ _ (by omega), h3.1], fun i hi => ⟨(h3.2 i hi).1, (h3.2 i hi).2.frr (h3.2 i hi).1 (fun j hj => hf4 _ _ (by omega))⟩⟩, hT.fr (fun c j z => by rw [f24 c j (by omega), f12 c j (by omega)]), hR.fr (fun c j z1 z2 => by rw [f24 c j (by omega), f12 c j (by omega)])⟩
/-! the model's rows -/
theorem ra_mGroup {s G : Nat} {x : Int32} {n b : Nat → Nat} {w : rv_W} (h : ra_MR 0 s G n b w) (hG : G ≤ 20) : f_X11_isGroup x w = some (rv_b2 (ra_iv x G), w) := by
  unfold f_X11_isGroup
  have e : f_X11_in x 0 (Int32.ofNat G - 1) w = some (rv_b2 (ra_iv x G), w) := ra_in0 (by omega)
  have e0 : w 79 0 = Int32.ofNat G := h.1
  rw [ra_c852', ra_nn0, e0, e, rv_bd_some, ra_gdb]
theorem ra_mof0 {s G g : Nat} {n b : Nat → Nat} {w : rv_W} (h : ra_MR 0 s G n b w) (hG : G ≤ 20) (hg : g < G) : f_X11_of (Int32.ofNat g) 0 w = some (Int32.ofNat (n g), w) := by
  have e1 : f_X11_of (Int32.ofNat g) 0 w = _ := ra_of7 (k := 0) (by omega) (by omega)
  have g1 := (h.2.2 g hg).1
  rw [show 142 * 0 + 2 + 7 * g = 2 + 7 * g + 0 by omega] at g1
  rw [e1, g1]
theorem ra_mof1 {s G g : Nat} {n b : Nat → Nat} {w : rv_W} (h : ra_MR 0 s G n b w) (hG : G ≤ 20) (hg : g < G) : f_X11_of (Int32.ofNat g) 1 w = some (Int32.ofNat (rv_ln (b g)), w) := by
  have e1 : f_X11_of (Int32.ofNat g) 1 w = _ := ra_of7 (k := 1) (by omega) (by omega)
  have g1 := (h.2.2 g hg).2.1
  rw [show 142 * 0 + 2 + 7 * g + 1 = 2 + 7 * g + 1 by omega] at g1
  rw [e1, g1]
theorem ra_sets {g k : Nat} {v : Int32} {w : rv_W} (hg : g < 20) (hk : k < 7) : f_X11_sets (Int32.ofNat g) (Int32.ofNat k) v w = some (0, rv_up w 79 (2 + 7 * g + k) v) := by
  unfold f_X11_sets
  rw [ra_ix7, rv_n_ck (by omega) (by omega), rv_n_nat (by omega)]
  rfl
theorem ra_mth {s G : Nat} {x : Int32} {n b : Nat → Nat} {w : rv_W} (h : rv_ST 1 s G n b w) : f_X8_holds 1 x w = some (rv_b2 (ra_iv x G), w) := by
  have hG : G ≤ 20 := h.2.2.2.1
  unfold f_X8_holds
  rw [h.2.2.1]
  exact ra_rng (k := G) (by omega)
/-! voters set -/
theorem ra_write {g k r : Nat} {w : rv_W} (hg : g < 20) : f_X8_write 1 (Int32.ofNat g) (Int32.ofNat k) (Int32.ofNat r) w = some (0, rv_up (rv_up w 2 g (Int32.ofNat k)) 3 g (Int32.ofNat r)) := by
  unfold f_X8_write
  have e : Int32.ofNat g < (20 : Int32) := (rv_n_lt (j := 20) (by omega) (by omega)).mpr hg
  rw [if_neg (rv_n_neg (by omega)), if_pos e]
  simp only [rv_ck20 hg, rv_nn20 hg, rv_lt]
theorem rv_ST.wr {s G g k r : Nat} {n b : Nat → Nat} {w : rv_W} (h : rv_ST 1 s G n b w) (hg : g < G) (hk : 1 ≤ k ∧ k ≤ 100) (hr : r ∈ rv_B ∧ r ≠ 0) : rv_ST 1 s G (rv_at1 n g k) (rv_at1 b g r) (rv_up (rv_up w 2 g (Int32.ofNat k)) 3 g (Int32.ofNat r)) := by
  obtain ⟨h1, h2, h3, h4, h5⟩ := h
  refine ⟨by rw [rv_up_of (by omega), rv_up_of (by omega), h1], h2, by rw [rv_up_of (by omega), rv_up_of (by omega), h3], h4, fun i hi => ?_⟩
  by_cases e : i = g
  · subst e
    rw [ra_at1_same, ra_at1_same]
    exact ⟨by rw [rv_up_of (by omega), rv_up_same], rv_up_same, hk, hr.1, hr.2⟩
  · rw [ra_at1_ne e, ra_at1_ne e]
    obtain ⟨g1, g2, g3⟩ := h5 i hi
    exact ⟨by rw [rv_up_of (by omega), rv_up_of (by omega), g1], by rw [rv_up_of (by omega), rv_up_of (by omega), g2], g3⟩
