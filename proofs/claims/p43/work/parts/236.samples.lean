/-! removals -/
def ra_rmq (r s G : Nat) (n m : Nat → Nat) (v g : Nat) : Bool := decide (v ≤ n g) && decide (ra_wc r s (rv_at1 (rv_cut 0 G n) g (n g - v)) m ≠ ra_wc r s (rv_cut 0 G n) m)
def ra_rm (r s G : Nat) (n m : Nat → Nat) (v : Nat) : Bool := !rv_al G (fun g => !ra_rmq r s G n m v g)
theorem ra_subneg {x y : Nat} (hx : x ≤ 2000) (hy : y ≤ 2000) : (Int32.ofNat x - Int32.ofNat y < 0) = (x < y) := by
  rw [← Int32.ofInt_eq_ofNat, ← Int32.ofInt_eq_ofNat, ← Int32.ofInt_sub, Int32.lt_iff_toInt_lt, Int32.toInt_ofInt_of_le (by omega) (by omega), show (0 : Int32).toInt = 0 from rfl]
  exact propext (by omega)
theorem ra_100 {k : Nat} (hk : k < 1000) : ((100 : Int32) < Int32.ofNat k) = (100 < k) := propext (rv_n_lt (i := 100) (by omega) (by omega))
theorem ra_rm_f {r s G v : Nat} {n m : Nat → Nat} (h : ∀ g, g < G → ra_rmq r s G n m v g = false) : ra_rm r s G n m v = false := by
  unfold ra_rm
  rw [rv_al_iff.mpr (fun g hg => by rw [h g hg]; rfl)]
  rfl
theorem ra_rm_t {r s G v g : Nat} {n m : Nat → Nat} (hg : g < G) (h : ra_rmq r s G n m v g = true) : ra_rm r s G n m v = true := by
  unfold ra_rm
  rw [Bool.not_eq_true', Bool.eq_false_iff]
  intro z
  have := rv_al_iff.mp z g hg
  rw [h] at this
  cases this
theorem c_removals (x : Int32) : ra_Sc (fun s G n m => ra_one x (fun r => ra_fst (ra_rm r s G n m) 100 1)) (f_X10_removals x) := by
  intro s G n m w h hr
  dsimp only
  unfold f_X10_removals
  refine ra_crule (K := fun w2 => rv_bd (f_X10_castAll w2) (fun _ w4 => rv_bd (f_X7_winnerBy x w4) (fun (r5 : Int32) (w6 : rv_W) =>
    rv_fx (fun _ _ => none) (fun (ag7 : Int32 → rv_W → rv_R) (v9 : Int32) (w10 : rv_W) =>
    if (100 : Int32) < v9 then
    some ((-1000000 : Int32), w10)
    else
    rv_fx (fun _ _ => none) (fun (ag11 : Int32 → rv_W → rv_R) (v13 : Int32) (w14 : rv_W) =>
    if v13 < (w14 1 1) then
    rv_bd (f_X8_votersOf 1 v13 w14) (fun (r16 : Int32) (w17 : rv_W) =>
    rv_lt ((r16 - v9)) (fun (v18 : Int32) =>
    if v18 < 0 then
    rv_lt (v13 + (1 : Int32)) (fun (v19 : Int32) =>
    ag11 v19 w17)
    else
    rv_bd (f_X8_ballotOf 1 v13 w17) (fun (r20 : Int32) (w21 : rv_W) =>
    rv_bd (f_X10_winnerWith x v13 v18 r20 w21) (fun (r22 : Int32) (w23 : rv_W) =>
    if r22 = r5 then
    rv_lt (v13 + (1 : Int32)) (fun (v24 : Int32) =>
    ag11 v24 w23)
    else
    some (v9, w23)))))
    else
    rv_lt (v9 + (1 : Int32)) (fun (v15 : Int32) =>
    ag7 v15 w14)) rv_FU (0 : Int32) w10) rv_FU (1 : Int32) w6))) hr (fun r hr12 hx => ?_)
  subst hx
  have hG := h.G20
  refine rv_T_call (ra_castAll h.1 hr) (fun _ w2 ⟨hP, hf⟩ => ?_)
  refine rv_T_call (ra_winnerBy hP hr12) (fun v w3 ⟨hv, hf3⟩ => ?_)
  subst hv
  refine rv_T_for 101 (fun k w' => 1 ≤ k ∧ ra_fst (ra_rm r s G n m) 100 1 = ra_fst (ra_rm r s G n m) (101 - k) k ∧ rv_fr 24 77 w w' ∧ ra_PQ s (rv_cut 0 G n) m w') (fun ag k w' hk hI q => ?_) (by decide) 1 _ ⟨Nat.le_refl _, rfl, hf.two hf3, hP.fr (fun c j _ _ => hf3 c j (by omega))⟩ (by omega)
  obtain ⟨hk1, hF, hf', hP'⟩ := hI
  simp only [ra_100 (show k < 1000 by omega)]
  by_cases hk100 : 100 < k
  · rw [if_pos hk100]
    rw [show 101 - k = 0 by omega] at hF
    exact rv_T_some.mpr ⟨hF.symm, hf', hP'.rows⟩
  · rw [show 101 - k = (101 - (k + 1)) + 1 by omega, ra_fst_s (f := 101 - (k + 1)) (k := k)] at hF
    rw [if_neg hk100]
    refine rv_T_for G (fun g w' => (∀ j, j < g → ra_rmq r s G n m k j = false) ∧ rv_fr 24 77 w w' ∧ ra_PQ s (rv_cut 0 G n) m w') (fun ag2 g w4 hg hI2 q2 => ?_) (by show G < 10000; omega) 0 _ ⟨fun j hj => by omega, hf', hP'⟩ (by omega)
    obtain ⟨hno, hf4, hP4⟩ := hI2
    have hS4 := h.1.cl hf4
    rw [hS4.2.2.1]
    by_cases hgG : g < G
    · have hok := h.1.ok g hgG
      have next : ∀ w', rv_fr 24 77 w w' → ra_PQ s (rv_cut 0 G n) m w' → ra_rmq r s G n m k g = false → rv_T (ag2 (Int32.ofNat (g + 1)) w') (fun v w' => v = ra_fst (ra_rm r s G n m) 100 1 ∧ rv_fr 24 77 w w' ∧ rv_Rows w') := fun w' z1 z2 e => q2 hgG _ ⟨fun j hj => by
        by_cases ej : j = g
        · rw [ej]; exact e
        · exact hno j (by omega), z1, z2⟩
      rw [if_pos ((rv_n_lt (by omega) (by omega)).mpr hgG), t_sVoters hS4 hgG, rv_bd_some, rv_T_lt]
      simp only [ra_subneg (show n g ≤ 2000 by omega) (show k ≤ 2000 by omega)]
      by_cases hlt : n g < k
      · rw [if_pos hlt, rv_T_lt, rv_n_succ]
        exact next _ hf4 hP4 (by unfold ra_rmq; rw [decide_eq_false (by omega), Bool.false_and])
      · rw [if_neg hlt, t_sBallot hS4 hgG, rv_bd_some, (Int32.ofNat_sub _ _ (show k ≤ n g by omega)).symm]
        refine rv_T_call (ra_winnerWith (m' := m g) hS4 hP4 hr12 hgG (by omega) hok.2 (fun _ => ⟨hok.2, rfl⟩)) (fun v w5 ⟨hv, hf5, hP5⟩ => ?_)
        subst hv
        have hf5' : rv_fr 24 77 w w5 := hf4.trans (hf5.wide (by omega) (by omega))
        rw [ra_at1_id]
        have e : ra_rmq r s G n m k g = decide (ra_wc r s (rv_at1 (rv_cut 0 G n) g (n g - k)) m ≠ ra_wc r s (rv_cut 0 G n) m) := by
          unfold ra_rmq; rw [decide_eq_true (show k ≤ n g by omega), Bool.true_and]
        by_cases z : ra_wc r s (rv_at1 (rv_cut 0 G n) g (n g - k)) m = ra_wc r s (rv_cut 0 G n) m
        · rw [if_pos z, rv_T_lt, rv_n_succ]
          exact next _ hf5' hP5 (by rw [e]; exact decide_eq_false (fun y => y z))
        · rw [if_neg z]
          have et : ra_rmq r s G n m k g = true := by rw [e]; exact decide_eq_true z
          rw [if_pos (ra_rm_t hgG et)] at hF
          exact rv_T_some.mpr ⟨hF.symm, hf5', hP5.rows⟩
    · have : g = G := by omega
      subst this
      rw [if_neg (fun z => hgG ((rv_n_lt (by omega) (by omega)).mp z)), rv_T_lt, rv_n_succ]
      rw [if_neg (by rw [ra_rm_f hno]; decide)] at hF
      exact q (by omega) _ ⟨by omega, hF, hf4, hP4⟩
