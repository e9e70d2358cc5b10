/-! a group changed -/
theorem ra_at1_same {α : Type} {f : Nat → α} {g : Nat} {x : α} : rv_at1 f g x g = x := if_pos rfl
theorem ra_at1_ne {α : Type} {f : Nat → α} {g i : Nat} {x : α} (h : i ≠ g) : rv_at1 f g x i = f i := if_neg h
theorem ra_at1_back {α : Type} {f : Nat → α} {g : Nat} {x : α} : rv_at1 (rv_at1 f g x) g (f g) = f := by
  funext i
  unfold rv_at1
  by_cases q : i = g
  · rw [if_pos q, q]
  · rw [if_neg q, if_neg q]
theorem ra_at1_at1 {α : Type} {f : Nat → α} {g : Nat} {x y : α} : rv_at1 (rv_at1 f g x) g y = rv_at1 f g y := by
  funext i
  unfold rv_at1
  by_cases q : i = g
  · rw [if_pos q, if_pos q]
  · rw [if_neg q, if_neg q, if_neg q]
theorem ra_PQ.cast {s g k b b' : Nat} {n m : Nat → Nat} {w : rv_W} (h : ra_PQ s n m w) (hg : g < 20) (hk : k ≤ 100) (hb : b ∈ rv_B) (hb' : k ≠ 0 → b' ∈ rv_B ∧ rv_wi b s = rv_wi b' s) : rv_T (f_X5_cast (Int32.ofNat g) (Int32.ofNat k) (Int32.ofNat b) w) (fun _ w' => ra_PQ s (rv_at1 n g k) (rv_at1 m g b') w' ∧ rv_fr 24 52 w w') := by
  obtain ⟨r, x, h, h2, h3⟩ := h
  refine (rv_PP_cast ⟨x, h⟩ hg hb).mono (fun _ w' ⟨hp, hf⟩ => ⟨?_, hf⟩)
  obtain ⟨x', hp⟩ := hp
  refine ⟨_, x', hp, fun i hi => ?_, fun i hi hne => ?_⟩
  · by_cases e : i = g
    · rw [e, ra_at1_same]; exact hk
    · rw [ra_at1_ne e]; exact h2 i hi
  · by_cases e : i = g
    · subst e
      rw [ra_at1_same] at hne ⊢
      rw [ra_at1_same]
      exact hb' hne
    · rw [ra_at1_ne e] at hne ⊢
      rw [ra_at1_ne e]
      exact h3 i hi hne
theorem ra_PQ.same {s : Nat} {n n' m m' : Nat → Nat} {w : rv_W} (h : ra_PQ s n m w) (e1 : n = n') (e2 : m = m') : ra_PQ s n' m' w := by
  subst e1 e2; exact h
theorem ra_cut_g {G g : Nat} {n : Nat → Nat} (hg : g < G) : rv_cut 0 G n g = n g := if_pos ⟨Nat.zero_le _, hg⟩
theorem ra_winnerWith {rule s G g k b' m' : Nat} {n m : Nat → Nat} {w : rv_W} (hS : rv_ST 1 s G n m w) (hP : ra_PQ s (rv_cut 0 G n) m w) (hr : rule < 12) (hg : g < G) (hk : k ≤ 100) (hb : b' ∈ rv_B) (hb' : k ≠ 0 → m' ∈ rv_B ∧ rv_wi b' s = rv_wi m' s) : rv_T (f_X10_winnerWith (Int32.ofNat rule) (Int32.ofNat g) (Int32.ofNat k) (Int32.ofNat b') w) (fun v w' => v = ra_wc rule s (rv_at1 (rv_cut 0 G n) g k) (rv_at1 m g m') ∧ rv_fr 24 76 w w' ∧ ra_PQ s (rv_cut 0 G n) m w') := by
  have hG : G ≤ 20 := hS.2.2.2.1
  unfold f_X10_winnerWith
  refine rv_T_call (hP.cast (by omega) hk hb hb') (fun _ w2 ⟨h2, f2⟩ => ?_)
  refine rv_T_call (ra_winnerBy h2 hr) (fun v w3 ⟨hv, f3⟩ => ?_)
  have hS3 : rv_ST 1 s G n m w3 := hS.fr (fun c j hc => by rw [f3 c j (by omega), f2 c j (by omega)])
  rw [t_sVoters hS3 hg, rv_bd_some, t_sBallot hS3 hg, rv_bd_some]
  have hP3 : ra_PQ s (rv_at1 (rv_cut 0 G n) g k) (rv_at1 m g m') w3 := h2.fr (fun c j _ _ => f3 c j (by omega))
  have hok := hS.ok g hg
  refine rv_T_call (hP3.cast (b' := m g) (by omega) hok.1 hok.2 (fun _ => ⟨hok.2, rfl⟩)) (fun _ w4 ⟨h4, f4⟩ => ?_)
  refine rv_T_some.mpr ⟨hv, ?_, h4.same ?_ ?_⟩
  · exact ((f2.wide (by omega) (by omega)).trans (f3.wide (by omega) (by omega))).trans (f4.wide (by omega) (by omega))
  · have e := ra_cut_g (n := n) hg
    rw [← e]; exact ra_at1_back
  · exact ra_at1_back
theorem rv_fr.rows24 {w w' : rv_W} (h : ∃ s n m, ra_PQ s n m w') : rv_Rows w' := by
  obtain ⟨s, n, m, h⟩ := h
  exact h.rows
/-! the model -/
/-! which candidate is preferred -/
theorem e_prefers {b x y : Nat} (hb : b ∈ rv_B) (hx : x < 5) (hy : y < 5) (w : rv_W) : f_X0_prefers (Int32.ofNat b) (Int32.ofNat x) (Int32.ofNat y) w = some (rv_b2 (decide (rv_q b x < rv_q b y)), w) := by
  unfold f_X0_prefers
  have h1 := rv_q_or b x
  have h2 := rv_q_or b y
  rw [e_placeOf hb hx, rv_bd_some, e_placeOf hb hy, rv_bd_some]
  by_cases q1 : rv_q b x = 9
  · rw [if_pos q1, if_pos (by decide), decide_eq_false (by omega)]; rfl
  · rw [if_neg q1, if_neg (rv_n_neg (by omega))]
    show (if (if rv_q b y = 9 then (-1 : Int32) else Int32.ofNat (rv_q b y)) < 0 then some ((1 : Int32), w) else _) = _
    by_cases q2 : rv_q b y = 9
    · rw [if_pos q2, if_pos (by decide), decide_eq_true (by omega)]; rfl
    · rw [if_neg q2, if_neg (rv_n_neg (by omega))]
      by_cases q3 : rv_q b x < rv_q b y
      · rw [if_pos ((rv_n_lt (by omega) (by omega)).mpr q3), decide_eq_true q3]; rfl
      · rw [if_neg (fun z => q3 ((rv_n_lt (by omega) (by omega)).mp z)), decide_eq_false q3]; rfl
theorem e_prefNone {b : Nat} (hb : b ∈ rv_B) (w : rv_W) : f_X0_prefers (Int32.ofNat b) (-1000000) (-1000000) w = some (0, w) :=
  rv_un_eq un_X0_prefers (List.all_eq_true.mp (by decide +kernel : ((rv_B).all fun b => rv_eqr (f_X0_prefers (Int32.ofNat b) (-1000000) (-1000000) rv_w0) 0) = true) b hb)
/-- the groups of which q holds -/
def ra_gm (q : Nat → Bool) : Nat → Int32
  | 0 => 0
  | k + 1 => if q k = true then ra_gm q k ||| ((1 : Int32) <<< (Int32.ofNat k &&& 31)) else ra_gm q k
theorem ra_gm_s {q : Nat → Bool} {k : Nat} : ra_gm q (k + 1) = if q k = true then ra_gm q k ||| ((1 : Int32) <<< (Int32.ofNat k &&& 31)) else ra_gm q k := rfl
theorem ra_gm_z {q : Nat → Bool} {k : Nat} (h : ∀ j, j < k → q j = false) : ra_gm q k = 0 := by
  induction k with
  | zero => rfl
  | succ k ih => rw [ra_gm_s, if_neg (by rw [h k (by omega)]; decide), ih (fun j hj => h j (by omega))]
def ra_abq (r s G : Nat) (n m : Nat → Nat) (g : Nat) : Bool := decide (s ≠ 0) && decide (rv_q (m g) (ra_w r s (rv_at1 (rv_cut 0 G n) g 0) m) < rv_q (m g) (ra_w r s (rv_cut 0 G n) m))
theorem ra_wc_1 {r s : Nat} {n m : Nat → Nat} (h : s ≠ 0) : ra_wc r s n m = Int32.ofNat (ra_w r s n m) := if_neg h
theorem ra_wm_1 {r s : Nat} {n m : Nat → Nat} (h : s ≠ 0) : ra_wm r s n m = Int32.ofNat (ra_w r s n m) := if_neg h
theorem ra_wc_0 {r s : Nat} {n m : Nat → Nat} (h : s = 0) : ra_wc r s n m = -1000000 := if_pos h
theorem ra_wm_0 {r s : Nat} {n m : Nat → Nat} (h : s = 0) : ra_wm r s n m = -1 := if_pos h
theorem ra_at1_id {α : Type} {f : Nat → α} {g : Nat} : rv_at1 f g (f g) = f := by
  funext i
  unfold rv_at1
  by_cases q : i = g
  · rw [if_pos q, q]
  · rw [if_neg q]
theorem rv_ST.cl {s G : Nat} {n m : Nat → Nat} {w w' : rv_W} (h : rv_ST 1 s G n m w) (hf : rv_fr 24 77 w w') : rv_ST 1 s G n m w' := h.fr (fun c j hc => hf c j (by omega))
theorem c_absentees (x : Int32) : ra_Sc (fun s G n m => ra_one x (fun r => ra_gm (ra_abq r s G n m) G)) (f_X10_absentees x) := by
  intro s G n m w h hr
  dsimp only
  unfold f_X10_absentees
  refine ra_crule (K := fun w2 => rv_bd (f_X10_castAll w2) (fun _ w4 => rv_bd (f_X7_winnerBy x w4) (fun (r5 : Int32) (w6 : rv_W) =>
    rv_fx (fun _ _ _ => none) (fun (ag7 : Int32 → Int32 → rv_W → rv_R) (v9 : Int32) (v10 : Int32) (w11 : rv_W) =>
    if v10 < (w11 1 1) then
    rv_bd (f_X10_winnerWith x v10 (0 : Int32) (0 : Int32) w11) (fun (r12 : Int32) (w13 : rv_W) =>
    rv_bd (f_X8_ballotOf 1 v10 w13) (fun (r14 : Int32) (w15 : rv_W) =>
    rv_bd (f_X0_prefers r14 r12 r5 w15) (fun (r16 : Int32) (w17 : rv_W) =>
    if r16 = 0 then
    rv_lt (v10 + (1 : Int32)) (fun (v18 : Int32) =>
    ag7 v9 v18 w17)
    else
    rv_lt ((v9 ||| ((1 : Int32) <<< (v10 &&& 31)))) (fun (v19 : Int32) =>
    rv_lt (v10 + (1 : Int32)) (fun (v20 : Int32) =>
    ag7 v19 v20 w17)))))
    else
    some (v9, w11)) rv_FU (0 : Int32) (0 : Int32) w6))) hr (fun r hr12 hx => ?_)
  subst hx
  have hG := h.G20
  refine rv_T_call (ra_castAll h.1 hr) (fun _ w2 ⟨hP, hf⟩ => ?_)
  refine rv_T_call (ra_winnerBy hP hr12) (fun v w3 ⟨hv, hf3⟩ => ?_)
  subst hv
  refine rv_T_for1 G (fun g a w' => a = ra_gm (ra_abq r s G n m) g ∧ rv_fr 24 77 w w' ∧ ra_PQ s (rv_cut 0 G n) m w') (fun ag g a w' hg hI q => ?_) (by show G < 10000; omega) 0 _ _ ⟨rfl, hf.two hf3, hP.fr (fun c j _ _ => hf3 c j (by omega))⟩ (by omega)
  obtain ⟨rfl, hf', hP'⟩ := hI
  have hS' := h.1.cl hf'
  rw [hS'.2.2.1]
  by_cases hgG : g < G
  · rw [if_pos ((rv_n_lt (by omega) (by omega)).mpr hgG)]
    refine rv_T_call (ra_winnerWith (k := 0) (b' := 0) (m' := m g) hS' hP' hr12 hgG (by omega) rv_B0 (fun z => absurd rfl z)) (fun v w4 ⟨hv, hf4, hP4⟩ => ?_)
    subst hv
    have hf4' : rv_fr 24 77 w w4 := hf'.trans (hf4.wide (by omega) (by omega))
    have hS4 := h.1.cl hf4'
    rw [t_sBallot hS4 hgG, rv_bd_some, ra_at1_id]
    have eq1 : ∀ t : Bool, f_X0_prefers (Int32.ofNat (m g)) (ra_wc r s (rv_at1 (rv_cut 0 G n) g 0) m) (ra_wc r s (rv_cut 0 G n) m) w4 = some (rv_b2 (ra_abq r s G n m g), w4) := fun _ => by
      unfold ra_abq
      by_cases hs0 : s = 0
      · rw [ra_wc_0 hs0, ra_wc_0 hs0, e_prefNone (h.B hgG), decide_eq_false (fun z => z hs0)]; rfl
      · rw [ra_wc_1 hs0, ra_wc_1 hs0, e_prefers (h.B hgG) (ra_w_in h.s32 hs0).1 (ra_w_in h.s32 hs0).1, decide_eq_true (p := s ≠ 0) hs0, Bool.true_and]
    rw [eq1 true, rv_bd_some]
    cases e : ra_abq r s G n m g
    · rw [if_pos ra_e0, rv_T_lt, rv_n_succ]
      exact q hgG _ _ ⟨by rw [ra_gm_s, if_neg (by rw [e]; decide)], hf4', hP4⟩
    · rw [if_neg ra_e1, rv_T_lt, rv_T_lt, rv_n_succ]
      exact q hgG _ _ ⟨by rw [ra_gm_s, if_pos e], hf4', hP4⟩
  · have : g = G := by omega
    subst this
    rw [if_neg (fun z => hgG ((rv_n_lt (by omega) (by omega)).mp z))]
    exact rv_T_some.mpr ⟨rfl, hf', hP'.rows⟩
