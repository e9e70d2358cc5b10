/-! removals -/
def ra_rmq (r s G : Nat) (n m : Nat → Nat) (v g : Nat) : Bool := decide (v ≤ n g) && decide (ra_wc r s (rv_at1 (rv_cut 0 G n) g (n g - v)) m ≠ ra_wc r s (rv_cut 0 G n) m)
def ra_rm (r s G : Nat) (n m : Nat → Nat) (v : Nat) : Bool := !rv_al G (fun g => !ra_rmq r s G n m v g)
theorem ra_subneg {x y : Nat} (hx : x ≤ 2000) (hy : y ≤ 2000) : (Int32.ofNat x - Int32.ofNat y < 0) = (x < y) := by
  rw [← Int32.ofInt_eq_ofNat, ← Int32.ofInt_eq_ofNat, ← Int32.ofInt_sub, Int32.lt_iff_toInt_lt, Int32.toInt_ofInt_of_le (by omega) (by omega), show (0 : Int32).toInt = 0 from rfl]
  exact propext (by omega)
theorem ra_100 {k : Nat} (hk : k < 1000) : ((100 : Int32) < Int32.ofNat k) = (100 < k) := propext (rv_n_lt (i := 100) (by omega) (by omega))
theorem ra_rm_f {r s G v : Nat} {n m : Nat → Nat} (h : ∀ g, g < G → ra_rmq r s G n m v g = false) : ra_rm r s G n m v = false := by
  unfold ra_rm
  rw [rv_al_iff.mpr (fun g hg => by rw [h g hg]; rfl)]
  rfl
theorem ra_rm_t {r s G v g : Nat} {n m : Nat → Nat} (hg : g < G) (h : ra_rmq r s G n m v g = true) : ra_rm r s G n m v = true := by
  unfold ra_rm
  rw [Bool.not_eq_true', Bool.eq_false_iff]
  intro z
  have := rv_al_iff.mp z g hg
  rw [h] at this
  cases this
theorem q_removals (x : Int32) : ra_St (f_X10_removals x) (f_X11_removals x) := by
  refine ra_mk (fun s G n m => ra_one x (fun r => ra_fst (ra_rm r s G n m) 100 1)) (fun s G n m w h hr => ?_) (fun s G n m w h => ?_)
  · unfold f_X10_removals
    refine ra_crule (K := fun w2 => rv_bd (f_X10_castAll w2) (fun _ w4 => rv_bd (f_X7_winnerBy x w4) (fun (r5 : Int32) (w6 : rv_W) =>
      rv_fx (fun _ _ => none) (fun (ag7 : Int32 → rv_W → rv_R) (v9 : Int32) (w10 : rv_W) =>
      if (100 : Int32) < v9 then
      some ((-1000000 : Int32), w10)
      else
      rv_fx (fun _ _ => none) (fun (ag11 : Int32 → rv_W → rv_R) (v13 : Int32) (w14 : rv_W) =>
      if v13 < (w14 1 1) then
      rv_bd (f_X8_votersOf 1 v13 w14) (fun (r16 : Int32) (w17 : rv_W) =>
      rv_lt ((r16 - v9)) (fun (v18 : Int32) =>
      if v18 < 0 then
      rv_lt (v13 + (1 : Int32)) (fun (v19 : Int32) =>
      ag11 v19 w17)
      else
      rv_bd (f_X8_ballotOf 1 v13 w17) (fun (r20 : Int32) (w21 : rv_W) =>
      rv_bd (f_X10_winnerWith x v13 v18 r20 w21) (fun (r22 : Int32) (w23 : rv_W) =>
      if r22 = r5 then
      rv_lt (v13 + (1 : Int32)) (fun (v24 : Int32) =>
      ag11 v24 w23)
      else
      some (v9, w23)))))
      else
      rv_lt (v9 + (1 : Int32)) (fun (v15 : Int32) =>
      ag7 v15 w14)) rv_FU (0 : Int32) w10) rv_FU (1 : Int32) w6))) hr (fun r hr12 hx => ?_)
    subst hx
    have hG := h.G20
    refine rv_T_call (ra_castAll h.1 hr) (fun _ w2 ⟨hP, hf⟩ => ?_)
    refine rv_T_call (ra_winnerBy hP hr12) (fun v w3 ⟨hv, hf3⟩ => ?_)
    subst hv
    refine rv_T_for 101 (fun k w' => 1 ≤ k ∧ ra_fst (ra_rm r s G n m) 100 1 = ra_fst (ra_rm r s G n m) (101 - k) k ∧ rv_fr 24 77 w w' ∧ ra_PQ s (rv_cut 0 G n) m w') (fun ag k w' hk hI q => ?_) (by decide) 1 _ ⟨Nat.le_refl _, rfl, hf.two hf3, hP.fr (fun c j _ _ => hf3 c j (by omega))⟩ (by omega)
    obtain ⟨hk1, hF, hf', hP'⟩ := hI
    simp only [ra_100 (show k < 1000 by omega)]
    by_cases hk100 : 100 < k
    · rw [if_pos hk100]
      rw [show 101 - k = 0 by omega] at hF
      exact rv_T_some.mpr ⟨hF.symm, hf', hP'.rows⟩
    · rw [show 101 - k = (101 - (k + 1)) + 1 by omega, ra_fst_s (f := 101 - (k + 1)) (k := k)] at hF
      rw [if_neg hk100]
      refine rv_T_for G (fun g w' => (∀ j, j < g → ra_rmq r s G n m k j = false) ∧ rv_fr 24 77 w w' ∧ ra_PQ s (rv_cut 0 G n) m w') (fun ag2 g w4 hg hI2 q2 => ?_) (by show G < 10000; omega) 0 _ ⟨fun j hj => by omega, hf', hP'⟩ (by omega)
      obtain ⟨hno, hf4, hP4⟩ := hI2
      have hS4 := h.1.cl hf4
      rw [hS4.2.2.1]
      by_cases hgG : g < G
      · have hok := h.1.ok g hgG
        have next : ∀ w', rv_fr 24 77 w w' → ra_PQ s (rv_cut 0 G n) m w' → ra_rmq r s G n m k g = false → rv_T (ag2 (Int32.ofNat (g + 1)) w') (fun v w' => v = ra_fst (ra_rm r s G n m) 100 1 ∧ rv_fr 24 77 w w' ∧ rv_Rows w') := fun w' z1 z2 e => q2 hgG _ ⟨fun j hj => by
          by_cases ej : j = g
          · rw [ej]; exact e
          · exact hno j (by omega), z1, z2⟩
        rw [if_pos ((rv_n_lt (by omega) (by omega)).mpr hgG), t_sVoters hS4 hgG, rv_bd_some, rv_T_lt]
        simp only [ra_subneg (show n g ≤ 2000 by omega) (show k ≤ 2000 by omega)]
        by_cases hlt : n g < k
        · rw [if_pos hlt, rv_T_lt, rv_n_succ]
          exact next _ hf4 hP4 (by unfold ra_rmq; rw [decide_eq_false (by omega), Bool.false_and])
        · rw [if_neg hlt, t_sBallot hS4 hgG, rv_bd_some, (Int32.ofNat_sub _ _ (show k ≤ n g by omega)).symm]
          refine rv_T_call (ra_winnerWith (m' := m g) hS4 hP4 hr12 hgG (by omega) hok.2 (fun _ => ⟨hok.2, rfl⟩)) (fun v w5 ⟨hv, hf5, hP5⟩ => ?_)
          subst hv
          have hf5' : rv_fr 24 77 w w5 := hf4.trans (hf5.wide (by omega) (by omega))
          rw [ra_at1_id]
          have e : ra_rmq r s G n m k g = decide (ra_wc r s (rv_at1 (rv_cut 0 G n) g (n g - k)) m ≠ ra_wc r s (rv_cut 0 G n) m) := by
            unfold ra_rmq; rw [decide_eq_true (show k ≤ n g by omega), Bool.true_and]
          by_cases z : ra_wc r s (rv_at1 (rv_cut 0 G n) g (n g - k)) m = ra_wc r s (rv_cut 0 G n) m
          · rw [if_pos z, rv_T_lt, rv_n_succ]
            exact next _ hf5' hP5 (by rw [e]; exact decide_eq_false (fun y => y z))
          · rw [if_neg z]
            have et : ra_rmq r s G n m k g = true := by rw [e]; exact decide_eq_true z
            rw [if_pos (ra_rm_t hgG et)] at hF
            exact rv_T_some.mpr ⟨hF.symm, hf5', hP5.rows⟩
      · have : g = G := by omega
        subst this
        rw [if_neg (fun z => hgG ((rv_n_lt (by omega) (by omega)).mp z)), rv_T_lt, rv_n_succ]
        rw [if_neg (by rw [ra_rm_f hno]; decide)] at hF
        exact q (by omega) _ ⟨by omega, hF, hf4, hP4⟩
  · unfold f_X11_removals
    refine ra_mrule (K := fun w2 => rv_bd (f_X11_now x w2) (fun (r3 : Int32) (w4 : rv_W) =>
      rv_fx (fun _ _ => none) (fun (ag5 : Int32 → rv_W → rv_R) (v7 : Int32) (w8 : rv_W) =>
      if (100 : Int32) < v7 then
      some ((-1000000 : Int32), w8)
      else
      if r3 < 0 then
      some ((-1000000 : Int32), w8)
      else
      rv_fx (fun _ _ => none) (fun (ag9 : Int32 → rv_W → rv_R) (v11 : Int32) (w12 : rv_W) =>
      if v11 < (w12 78 6) then
      rv_ck v11 20 (
      if (w12 81 v11.toNatClampNeg) < v7 then
      rv_lt (v11 + (1 : Int32)) (fun (v14 : Int32) =>
      ag9 v14 w12)
      else
      rv_ck v11 20 (
      rv_ck v11 20 (rv_lt (rv_up w12 81 v11.toNatClampNeg ((w12 81 v11.toNatClampNeg) - v7)) (fun (w15 : rv_W) =>
      rv_ck (1 : Int32) 852 (
      rv_bd (f_X11_wins x (w15 79 (1 : Int32).toNatClampNeg) w15) (fun (r16 : Int32) (w17 : rv_W) =>
      rv_jn (fun (v18 : Int32) (w19 : rv_W) =>
      rv_ck v11 20 (
      rv_ck v11 20 (rv_lt (rv_up w19 81 v11.toNatClampNeg ((w19 81 v11.toNatClampNeg) + v7)) (fun (w22 : rv_W) =>
      if v18 = 0 then
      rv_lt (v11 + (1 : Int32)) (fun (v23 : Int32) =>
      ag9 v23 w22)
      else
      some (v7, w22))))) (fun (k20 : Int32 → rv_W → rv_R) =>
      if r16 = r3 then
      k20 (0 : Int32) w17
      else
      k20 (1 : Int32) w17)))))))
      else
      rv_lt (v7 + (1 : Int32)) (fun (v13 : Int32) =>
      ag5 v13 w12)) rv_FU (0 : Int32) w8) rv_FU (1 : Int32) w4)) (fun r hr12 hx => ?_)
    subst hx
    have hG := h.G20
    refine rv_T_call (ra_now h hr12) (fun v w2 ⟨hv, hf, hM, _⟩ => ?_)
    subst hv
    refine rv_T_for 101 (fun k w' => 1 ≤ k ∧ ra_fst (ra_rm r s G n m) 100 1 = ra_fst (ra_rm r s G n m) (101 - k) k ∧ ra_f9 w w' ∧ ra_MP G (rv_cut 0 G n) m w') (fun ag k w' hk hI q => ?_) (by decide) 1 _ ⟨Nat.le_refl _, rfl, hf.f9, hM⟩ (by omega)
    obtain ⟨hk1, hF, hf', hM'⟩ := hI
    simp only [ra_100 (show k < 1000 by omega), ra_wm_neg h.s32]
    by_cases hk100 : 100 < k
    · rw [if_pos hk100]
      rw [show 101 - k = 0 by omega] at hF
      exact rv_T_some.mpr ⟨hF.symm, hf'⟩
    · rw [if_neg hk100]
      by_cases hs0 : s = 0
      · rw [if_pos hs0]
        refine rv_T_some.mpr ⟨(ra_fst_z (fun j => ra_rm_f (fun g _ => ?_))).symm, hf'⟩
        unfold ra_rmq
        rw [ra_wc_0 hs0, ra_wc_0 hs0, decide_eq_false (p := (-1000000 : Int32) ≠ -1000000) (fun z => z rfl), Bool.and_false]
      · rw [show 101 - k = (101 - (k + 1)) + 1 by omega, ra_fst_s (f := 101 - (k + 1)) (k := k)] at hF
        rw [if_neg hs0]
        refine rv_T_for G (fun g w' => (∀ j, j < g → ra_rmq r s G n m k j = false) ∧ ra_f9 w w' ∧ ra_MP G (rv_cut 0 G n) m w') (fun ag2 g w4 hg hI2 q2 => ?_) (by show G < 10000; omega) 0 _ ⟨fun j hj => by omega, hf', hM'⟩ (by omega)
        obtain ⟨hno, hf4, hM4⟩ := hI2
        have hC4 := h.f9 hf4
        rw [hM4.1]
        by_cases hgG : g < G
        · have hok := h.1.ok g hgG
          have hv := (hM4.2.2.1 g hgG).1
          rw [ra_cut_g hgG] at hv
          have next : ∀ w', ra_f9 w w' → ra_MP G (rv_cut 0 G n) m w' → ra_rmq r s G n m k g = false → rv_T (ag2 (Int32.ofNat (g + 1)) w') (fun v w' => v = ra_fst (ra_rm r s G n m) 100 1 ∧ ra_f9 w w') := fun w' z1 z2 e => q2 hgG _ ⟨fun j hj => by
            by_cases ej : j = g
            · rw [ej]; exact e
            · exact hno j (by omega), z1, z2⟩
          have elt : (Int32.ofNat (n g) < Int32.ofNat k) = (n g < k) := propext (rv_n_lt (by omega) (by omega))
          rw [if_pos ((rv_n_lt (by omega) (by omega)).mpr hgG)]
          simp only [rv_ck20 (show g < 20 by omega), rv_nn20 (show g < 20 by omega), hv, elt, rv_lt, rv_n_succ]
          by_cases hlt : n g < k
          · rw [if_pos hlt]
            exact next _ hf4 hM4 (by unfold ra_rmq; rw [decide_eq_false (by omega), Bool.false_and])
          · rw [if_neg hlt, ra_c852, ra_nn1, (Int32.ofNat_sub _ _ (show k ≤ n g by omega)).symm, rv_up_ne (show (79 : Nat) ≠ 81 by decide), hC4.m1]
            have hM5 := hM4.upn (k := n g - k) hgG (by omega)
            refine rv_T_call (ra_wins hM5 h.s32 hr12) (fun v w6 ⟨hv6, hf6, _⟩ => ?_)
            subst hv6
            have hM6 := hf6.MP hM5
            have hf6' : ra_f9 w w6 := fun c j z => by rw [hf6.f9 c j z, rv_up_ne (by omega), hf4 c j z]
            have hv7 := (hM6.2.2.1 g hgG).1
            rw [ra_at1_same] at hv7
            have esum : Int32.ofNat (n g - k) + Int32.ofNat k = Int32.ofNat (n g) := by
              rw [← Int32.ofNat_add]; congr 1; omega
            have hM7 : ra_MP G (rv_cut 0 G n) m (rv_up w6 81 g (Int32.ofNat (n g))) := by
              refine (hM6.upn (k := n g) hgG hok.1).same ?_ rfl
              rw [ra_at1_at1, ← ra_cut_g (n := n) hgG]
              exact ra_at1_id
            have hf7 : ra_f9 w (rv_up w6 81 g (Int32.ofNat (n g))) := fun c j z => by rw [rv_up_ne (by omega), hf6' c j z]
            have e : ra_rmq r s G n m k g = decide (ra_wc r s (rv_at1 (rv_cut 0 G n) g (n g - k)) m ≠ ra_wc r s (rv_cut 0 G n) m) := by
              unfold ra_rmq; rw [decide_eq_true (show k ≤ n g by omega), Bool.true_and]
            rw [rv_T_jn]
            simp only [← ra_wcm2, hv7, esum]
            by_cases z : ra_wc r s (rv_at1 (rv_cut 0 G n) g (n g - k)) m = ra_wc r s (rv_cut 0 G n) m
            · rw [if_pos z, if_pos trivial]
              exact next _ hf7 hM7 (by rw [e]; exact decide_eq_false (fun y => y z))
            · rw [if_neg z, if_neg (show ¬ (1 : Int32) = 0 by decide)]
              have et : ra_rmq r s G n m k g = true := by rw [e]; exact decide_eq_true z
              rw [if_pos (ra_rm_t hgG et)] at hF
              exact rv_T_some.mpr ⟨hF.symm, hf7⟩
        · have : g = G := by omega
          subst this
          rw [if_neg (fun z => hgG ((rv_n_lt (by omega) (by omega)).mp z)), rv_T_lt, rv_n_succ]
          rw [if_neg (by rw [ra_rm_f hno]; decide)] at hF
          exact q (by omega) _ ⟨by omega, hF, hf4, hM4⟩
