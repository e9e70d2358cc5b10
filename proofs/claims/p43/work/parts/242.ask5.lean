/-! strategies, asked for -/
theorem ra_F_5 {r s G g : Nat} {n m : Nat → Nat} (hs : s < 32) (h : (ra_F r s G n m g).2 ≠ []) : s ≠ 0 ∧ (ra_F r s G n m g).1 < 5 ∧ (ra_F r s G n m g).2 ∈ ra_ps 5 s ∧ ra_w r s (rv_cut 0 G n) (rv_at1 m g (ra_oc (ra_F r s G n m g).2)) = (ra_F r s G n m g).1 := by
  rcases ra_F_ok (r := r) (s := s) (G := G) (n := n) (m := m) (g := g) with z | ⟨z1, z2, z3⟩
  · exact absurd z h
  · have e : (ra_F r s G n m g).1 = ra_w r s (rv_cut 0 G n) (rv_at1 m g (ra_oc (ra_F r s G n m g).2)) := z3
    refine ⟨z1, ?_, z2, e.symm⟩
    rw [e]
    exact (ra_w_in hs z1).1
theorem rv_B_lt {b : Nat} (h : b ∈ rv_B) : b < 1000000 := of_decide_eq_true (List.all_eq_true.mp (by decide +kernel : (rv_B.all fun b => decide (b < 1000000)) = true) b h)
theorem ra_oc_B {r s G g : Nat} {n m : Nat → Nat} (hs : s < 32) : ra_oc (ra_F r s G n m g).2 ∈ rv_B ∧ (Int32.ofNat (ra_oc (ra_F r s G n m g).2) = 0 ↔ (ra_F r s G n m g).2 = []) := by
  by_cases q : (ra_F r s G n m g).2 = []
  · rw [q]; exact ⟨rv_B0, fun _ => rfl, fun _ => rfl⟩
  · have h := ra_oc_ok hs (ra_F_5 hs q).2.2.1
    refine ⟨h.1, fun z => ?_, fun z => absurd z q⟩
    have hl := rv_B_lt h.1
    exact absurd ((rv_n_eq (i := ra_oc (ra_F r s G n m g).2) (j := 0) (by omega) (by omega)).mp z) (h.2.1 q)
def ra_sA (r s G : Nat) (n m : Nat → Nat) (g : Nat) : Int32 := if (ra_F r s G n m g).2 = [] then -1000000 else Int32.ofNat (ra_F r s G n m g).1
def ra_sB (r s G : Nat) (n m : Nat → Nat) (g p : Nat) : Int32 := if (ra_F r s G n m g).2 = [] then -1000000 else Int32.ofNat (ra_gd (ra_F r s G n m g).2 p)
def ra_rg (x y : Int32) (G : Nat) (A : Nat → Nat → Int32) : Int32 := ra_one x (fun r => if ra_iv y G = true then A r y.toInt.toNat else -1000001)
theorem c_strategy (x y : Int32) : ra_Sc (fun s G n m => ra_rg x y G (fun r g => ra_sA r s G n m g)) (f_X10_strategy x y) := by
  intro s G n m w h hr
  dsimp only
  unfold f_X10_strategy
  refine ra_crule (K := fun w2 => rv_bd (f_X8_holds 1 y w2) (fun (r3 : Int32) (w4 : rv_W) =>
    if r3 = 0 then
    some ((-1000001 : Int32), w4)
    else
    rv_bd (f_X10_bestStrategy x y w4) (fun (r5 : Int32) (w6 : rv_W) =>
    if r5 = 0 then
    some ((-1000000 : Int32), w6)
    else
    rv_bd (f_X8_votersOf 1 y w6) (fun (r7 : Int32) (w8 : rv_W) =>
    rv_bd (f_X5_cast y r7 r5 w8) (fun (r9 : Int32) (w10 : rv_W) =>
    rv_bd (f_X7_winnerBy x w10) (fun (r11 : Int32) (w12 : rv_W) =>
    some (r11, w12))))))) hr (fun r hr12 hx => ?_)
  subst hx
  rw [ra_holds h, rv_bd_some]
  cases hy : ra_iv y G
  · rw [if_pos ra_e0]
    exact rv_T_some.mpr ⟨(if_neg (by decide)).symm, rv_fr.refl, hr⟩
  · obtain ⟨g, hg, rfl⟩ := ra_iv_get hy
    have hG := h.G20
    rw [if_neg ra_e1]
    refine rv_T_call (ra_bestStrategy h hr hr12 hg) (fun v w2 ⟨hv, hf, hR, b, hP⟩ => ?_)
    subst hv
    rw [if_pos rfl, rv_n_int (by omega)]
    have e0 := ra_oc_B (r := r) (s := s) (G := G) (n := n) (m := m) (g := g) h.s32
    show rv_T _ (fun v w' => v = ra_sA r s G n m g ∧ _ ∧ _)
    by_cases q : (ra_F r s G n m g).2 = []
    · rw [if_pos (e0.2.mpr q)]
      exact rv_T_some.mpr ⟨(if_pos q).symm, hf, hR⟩
    · have hF := ra_F_5 h.s32 q
      rw [if_neg (fun z => q (e0.2.mp z)), t_sVoters (h.1.cl hf) hg, rv_bd_some]
      refine rv_T_call (hP.cast (b' := ra_oc (ra_F r s G n m g).2) (by omega) (h.1.ok g hg).1 e0.1 (fun _ => ⟨e0.1, rfl⟩)) (fun _ w3 ⟨hP3, hf3⟩ => ?_)
      refine rv_T_call (ra_winnerBy hP3 hr12) (fun v w4 ⟨hv, hf4⟩ => ?_)
      have en : rv_at1 (rv_cut 0 G n) g (n g) = rv_cut 0 G n := by
        rw [← ra_cut_g (n := n) hg]; exact ra_at1_id
      rw [ra_at1_at1, en, ra_wc_1 hF.1, hF.2.2.2] at hv
      refine rv_T_some.mpr ⟨?_, hf.trans (hf3.two hf4), hf4.rows hP3.rows⟩
      rw [hv]; exact (if_neg q).symm
def ra_stq (r s G : Nat) (n m : Nat → Nat) (g : Nat) : Bool := !(ra_F r s G n m g).2.isEmpty
theorem ra_stq_f {r s G g : Nat} {n m : Nat → Nat} (h : (ra_F r s G n m g).2 = []) : ra_stq r s G n m g = false := by unfold ra_stq; rw [h]; rfl
theorem ra_stq_t {r s G g : Nat} {n m : Nat → Nat} (h : (ra_F r s G n m g).2 ≠ []) : ra_stq r s G n m g = true := by
  unfold ra_stq
  cases e : (ra_F r s G n m g).2 with
  | nil => exact absurd e h
  | cons _ _ => rfl
theorem c_strategists (x : Int32) : ra_Sc (fun s G n m => ra_one x (fun r => ra_gm (ra_stq r s G n m) G)) (f_X10_strategists x) := by
  intro s G n m w h hr
  dsimp only
  unfold f_X10_strategists
  refine ra_crule (K := fun w2 => rv_fx (fun _ _ _ => none) (fun (ag3 : Int32 → Int32 → rv_W → rv_R) (v5 : Int32) (v6 : Int32) (w7 : rv_W) =>
    if v6 < (w7 1 1) then
    rv_bd (f_X10_bestStrategy x v6 w7) (fun (r8 : Int32) (w9 : rv_W) =>
    if r8 = 0 then
    rv_lt (v6 + (1 : Int32)) (fun (v10 : Int32) =>
    ag3 v5 v10 w9)
    else
    rv_lt ((v5 ||| ((1 : Int32) <<< (v6 &&& 31)))) (fun (v11 : Int32) =>
    rv_lt (v6 + (1 : Int32)) (fun (v12 : Int32) =>
    ag3 v11 v12 w9)))
    else
    some (v5, w7)) rv_FU (0 : Int32) (0 : Int32) w2) hr (fun r hr12 hx => ?_)
  subst hx
  have hG := h.G20
  refine rv_T_for1 G (fun g a w' => a = ra_gm (ra_stq r s G n m) g ∧ rv_fr 24 77 w w' ∧ rv_Rows w') (fun ag g a w' hg hI q => ?_) (by show G < 10000; omega) 0 _ _ ⟨rfl, rv_fr.refl, hr⟩ (by omega)
  obtain ⟨rfl, hf, hR⟩ := hI
  rw [(h.1.cl hf).2.2.1]
  by_cases hgG : g < G
  · rw [if_pos ((rv_n_lt (by omega) (by omega)).mpr hgG)]
    refine rv_T_call (ra_bestStrategy (h.fr hf) hR hr12 hgG) (fun v w2 ⟨hv, hf2, hR2, _⟩ => ?_)
    subst hv
    have e0 := ra_oc_B (r := r) (s := s) (G := G) (n := n) (m := m) (g := g) h.s32
    by_cases z : (ra_F r s G n m g).2 = []
    · rw [if_pos (e0.2.mpr z), rv_T_lt, rv_n_succ]
      exact q hgG _ _ ⟨by rw [ra_gm_s, if_neg (by rw [ra_stq_f z]; decide)], hf.trans hf2, hR2⟩
    · rw [if_neg (fun y => z (e0.2.mp y)), rv_T_lt, rv_T_lt, rv_n_succ]
      exact q hgG _ _ ⟨by rw [ra_gm_s, if_pos (ra_stq_t z)], hf.trans hf2, hR2⟩
  · have : g = G := by omega
    subst this
    rw [if_neg (fun z => hgG ((rv_n_lt (by omega) (by omega)).mp z))]
    exact rv_T_some.mpr ⟨rfl, hf, hR⟩
theorem ra_sB_c {r s G g p : Nat} {n m : Nat → Nat} {w : rv_W} (hs : s < 32) (hp : p < rv_mn s) : rv_bd (f_X0_at (Int32.ofNat (ra_oc (ra_F r s G n m g).2)) (Int32.ofNat p) w) (fun r9 w10 => f_X10_orNone r9 w10) = some (ra_sB r s G n m g p, w) := by
  have hmn := @rv_mn_le s
  have h0 := ra_oc_B (r := r) (s := s) (G := G) (n := n) (m := m) (g := g) hs
  rw [e_at h0.1 (show p < 5 by omega), rv_bd_some]
  unfold f_X10_orNone ra_sB
  by_cases q : (ra_F r s G n m g).2 = []
  · rw [if_pos q, q]
    have : rv_at (ra_oc []) p = 0 := List.all_eq_true.mp (by decide +kernel : ((List.range 5).all fun p => decide (rv_at (ra_oc []) p = 0)) = true) p (rv_rg (by omega)) |> of_decide_eq_true
    rw [this]
    rfl
  · have hF := ra_F_5 hs q
    have ho := (ra_oc_ok hs hF.2.2.1).2.2 p (by omega)
    have hl := ((ra_pms_ok hs hF.1).2 _ hF.2.2.1)
    rw [if_pos (by rw [hl.1]; exact hp)] at ho
    have hgd : ra_gd (ra_F r s G n m g).2 p < 5 := (hl.2 _ (ra_gd_mem (by rw [hl.1]; exact hp))).1
    rw [if_neg q, ho, rv_ci_succ, if_neg]
    intro z
    have := congrArg Int32.toInt z
    rw [rv_n_int (by omega), show (-1 : Int32).toInt = -1 from rfl] at this
    omega
theorem c_strategyAt (x y p : Int32) : ra_Sc (fun s G n m => ra_rg x y G (fun r g => if ra_iv p (rv_mn s) = true then ra_sB r s G n m g p.toInt.toNat else -1000001)) (f_X10_strategyAt x y p) := by
  intro s G n m w h hr
  dsimp only
  unfold f_X10_strategyAt
  refine ra_crule (K := fun w2 => rv_bd (f_X8_holds 1 y w2) (fun (r3 : Int32) (w4 : rv_W) =>
    if r3 = 0 then
    some ((-1000001 : Int32), w4)
    else
    rv_bd (f_X10_isPlace p w4) (fun (r5 : Int32) (w6 : rv_W) =>
    if r5 = 0 then
    some ((-1000001 : Int32), w6)
    else
    rv_bd (f_X10_bestStrategy x y w6) (fun (r7 : Int32) (w8 : rv_W) =>
    rv_bd (f_X0_at r7 p w8) (fun (r9 : Int32) (w10 : rv_W) =>
    rv_bd (f_X10_orNone r9 w10) (fun (r11 : Int32) (w12 : rv_W) =>
    some (r11, w12))))))) hr (fun r hr12 hx => ?_)
  subst hx
  rw [ra_holds h, rv_bd_some]
  cases hy : ra_iv y G
  · rw [if_pos ra_e0]
    exact rv_T_some.mpr ⟨(if_neg (by decide)).symm, rv_fr.refl, hr⟩
  · obtain ⟨g, hg, rfl⟩ := ra_iv_get hy
    have hG := h.G20
    have hmn := @rv_mn_le s
    rw [if_neg ra_e1, ra_isPlace h, rv_bd_some, if_pos rfl, rv_n_int (by omega)]
    cases hp : ra_iv p (rv_mn s)
    · rw [if_pos ra_e0]
      exact rv_T_some.mpr ⟨(if_neg (by decide)).symm, rv_fr.refl, hr⟩
    · obtain ⟨k, hk, rfl⟩ := ra_iv_get hp
      rw [if_neg ra_e1]
      show rv_T _ (fun v w' => v = (if true = true then ra_sB r s G n m g (Int32.ofNat k).toInt.toNat else -1000001) ∧ _ ∧ _)
      rw [if_pos rfl, rv_n_int (by omega)]
      refine rv_T_call (ra_bestStrategy h hr hr12 hg) (fun v w2 ⟨hv, hf, hR, _⟩ => ?_)
      subst hv
      have e := ra_sB_c (r := r) (G := G) (n := n) (m := m) (g := g) (w := w2) h.s32 hk
      have h0 := ra_oc_B (r := r) (s := s) (G := G) (n := n) (m := m) (g := g) h.s32
      rw [e_at h0.1 (show k < 5 by omega), rv_bd_some] at e ⊢
      rw [e, rv_bd_some]
      exact rv_T_some.mpr ⟨rfl, hf, hR⟩
