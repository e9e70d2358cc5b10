/-! a group changed -/
theorem ra_at1_same {α : Type} {f : Nat → α} {g : Nat} {x : α} : rv_at1 f g x g = x := if_pos rfl
theorem ra_at1_ne {α : Type} {f : Nat → α} {g i : Nat} {x : α} (h : i ≠ g) : rv_at1 f g x i = f i := if_neg h
theorem ra_at1_back {α : Type} {f : Nat → α} {g : Nat} {x : α} : rv_at1 (rv_at1 f g x) g (f g) = f := by
  funext i
  unfold rv_at1
  by_cases q : i = g
  · rw [if_pos q, q]
  · rw [if_neg q, if_neg q]
theorem ra_at1_at1 {α : Type} {f : Nat → α} {g : Nat} {x y : α} : rv_at1 (rv_at1 f g x) g y = rv_at1 f g y := by
  funext i
  unfold rv_at1
  by_cases q : i = g
  · rw [if_pos q, if_pos q]
  · rw [if_neg q, if_neg q, if_neg q]
theorem ra_PQ.cast {s g k b b' : Nat} {n m : Nat → Nat} {w : rv_W} (h : ra_PQ s n m w) (hg : g < 20) (hk : k ≤ 100) (hb : b ∈ rv_B) (hb' : k ≠ 0 → b' ∈ rv_B ∧ rv_wi b s = rv_wi b' s) : rv_T (f_X5_cast (Int32.ofNat g) (Int32.ofNat k) (Int32.ofNat b) w) (fun _ w' => ra_PQ s (rv_at1 n g k) (rv_at1 m g b') w' ∧ rv_fr 24 52 w w') := by
  obtain ⟨r, x, h, h2, h3⟩ := h
  refine (rv_PP_cast ⟨x, h⟩ hg hb).mono (fun _ w' ⟨hp, hf⟩ => ⟨?_, hf⟩)
  obtain ⟨x', hp⟩ := hp
  refine ⟨_, x', hp, fun i hi => ?_, fun i hi hne => ?_⟩
  · by_cases e : i = g
    · rw [e, ra_at1_same]; exact hk
    · rw [ra_at1_ne e]; exact h2 i hi
  · by_cases e : i = g
    · subst e
      rw [ra_at1_same] at hne ⊢
      rw [ra_at1_same]
      exact hb' hne
    · rw [ra_at1_ne e] at hne ⊢
      rw [ra_at1_ne e]
      exact h3 i hi hne
theorem ra_PQ.same {s : Nat} {n n' m m' : Nat → Nat} {w : rv_W} (h : ra_PQ s n m w) (e1 : n = n') (e2 : m = m') : ra_PQ s n' m' w := by
  subst e1 e2; exact h
theorem ra_cut_g {G g : Nat} {n : Nat → Nat} (hg : g < G) : rv_cut 0 G n g = n g := if_pos ⟨Nat.zero_le _, hg⟩
theorem ra_winnerWith {rule s G g k b' m' : Nat} {n m : Nat → Nat} {w : rv_W} (hS : rv_ST 1 s G n m w) (hP : ra_PQ s (rv_cut 0 G n) m w) (hr : rule < 12) (hg : g < G) (hk : k ≤ 100) (hb : b' ∈ rv_B) (hb' : k ≠ 0 → m' ∈ rv_B ∧ rv_wi b' s = rv_wi m' s) : rv_T (f_X10_winnerWith (Int32.ofNat rule) (Int32.ofNat g) (Int32.ofNat k) (Int32.ofNat b') w) (fun v w' => v = ra_wc rule s (rv_at1 (rv_cut 0 G n) g k) (rv_at1 m g m') ∧ rv_fr 24 76 w w' ∧ ra_PQ s (rv_cut 0 G n) m w') := by
  have hG : G ≤ 20 := hS.2.2.2.1
  unfold f_X10_winnerWith
  refine rv_T_call (hP.cast (by omega) hk hb hb') (fun _ w2 ⟨h2, f2⟩ => ?_)
  refine rv_T_call (ra_winnerBy h2 hr) (fun v w3 ⟨hv, f3⟩ => ?_)
  have hS3 : rv_ST 1 s G n m w3 := hS.fr (fun c j hc => by rw [f3 c j (by omega), f2 c j (by omega)])
  rw [t_sVoters hS3 hg, rv_bd_some, t_sBallot hS3 hg, rv_bd_some]
  have hP3 : ra_PQ s (rv_at1 (rv_cut 0 G n) g k) (rv_at1 m g m') w3 := h2.fr (fun c j _ _ => f3 c j (by omega))
  have hok := hS.ok g hg
  refine rv_T_call (hP3.cast (b' := m g) (by omega) hok.1 hok.2 (fun _ => ⟨hok.2, rfl⟩)) (fun _ w4 ⟨h4, f4⟩ => ?_)
  refine rv_T_some.mpr ⟨hv, ?_, h4.same ?_ ?_⟩
  · exact ((f2.wide (by omega) (by omega)).trans (f3.wide (by omega) (by omega))).trans (f4.wide (by omega) (by omega))
  · have e := ra_cut_g (n := n) hg
    rw [← e]; exact ra_at1_back
  · exact ra_at1_back
theorem rv_fr.rows24 {w w' : rv_W} (h : ∃ s n m, ra_PQ s n m w') : rv_Rows w' := by
  obtain ⟨s, n, m, h⟩ := h
  exact h.rows
/-! the model -/
theorem ra_MP.upn {G g k : Nat} {n m : Nat → Nat} {w : rv_W} (h : ra_MP G n m w) (hg : g < G) (hk : k ≤ 100) : ra_MP G (rv_at1 n g k) m (rv_up w 81 g (Int32.ofNat k)) := by
  obtain ⟨h1, h2, h3, h4, h5⟩ := h
  refine ⟨by rw [rv_up_ne (by decide), h1], h2, fun i hi => ?_, fun i hi => ?_, fun i => ?_⟩
  · obtain ⟨g1, g2, g3⟩ := h3 i hi
    refine ⟨?_, g2, fun c hc => by rw [rv_up_ne (by decide), g3 c hc]⟩
    by_cases e : i = g
    · subst e; rw [rv_up_same, ra_at1_same]
    · rw [rv_up_of (fun z => e z.2), ra_at1_ne e, g1]
  · rw [ra_at1_ne (by omega), h4 i hi]
  · by_cases e : i = g
    · rw [e, ra_at1_same]; exact hk
    · rw [ra_at1_ne e]; exact h5 i
theorem ra_MP.upm {G g b : Nat} {n m : Nat → Nat} {w w' : rv_W} (h : ra_MP G n m w) (hb : b ∈ rv_B) (hf : ∀ c j, ¬ (c = 82 ∧ 5 * g ≤ j ∧ j < 5 * g + 5) → w' c j = w c j) (hq : ∀ c, c < 5 → w' 82 (5 * g + c) = Int32.ofNat (rv_q b c)) : ra_MP G n (rv_at1 m g b) w' := by
  obtain ⟨h1, h2, h3, h4, h5⟩ := h
  refine ⟨by rw [hf _ _ (by omega), h1], h2, fun i hi => ?_, h4, h5⟩
  obtain ⟨g1, g2, g3⟩ := h3 i hi
  by_cases e : i = g
  · subst e
    rw [ra_at1_same]
    exact ⟨by rw [hf _ _ (by omega), g1], hb, hq⟩
  · rw [ra_at1_ne e]
    exact ⟨by rw [hf _ _ (by omega), g1], g2, fun c hc => by rw [hf _ _ (by omega), g3 c hc]⟩
theorem ra_MP.same {G : Nat} {n n' m m' : Nat → Nat} {w : rv_W} (h : ra_MP G n m w) (e1 : n = n') (e2 : m = m') : ra_MP G n' m' w := by
  subst e1 e2; exact h
theorem ra_MP.fn {G : Nat} {n m : Nat → Nat} {w w' : rv_W} (h : ra_MP G n m w) (hf : ra_f8 w w') : ra_MP G n m w' := hf.MP h
/-! which candidate is preferred -/
theorem e_prefers {b x y : Nat} (hb : b ∈ rv_B) (hx : x < 5) (hy : y < 5) (w : rv_W) : f_X0_prefers (Int32.ofNat b) (Int32.ofNat x) (Int32.ofNat y) w = some (rv_b2 (decide (rv_q b x < rv_q b y)), w) := by
  unfold f_X0_prefers
  have h1 := rv_q_or b x
  have h2 := rv_q_or b y
  rw [e_placeOf hb hx, rv_bd_some, e_placeOf hb hy, rv_bd_some]
  by_cases q1 : rv_q b x = 9
  · rw [if_pos q1, if_pos (by decide), decide_eq_false (by omega)]; rfl
  · rw [if_neg q1, if_neg (rv_n_neg (by omega))]
    show (if (if rv_q b y = 9 then (-1 : Int32) else Int32.ofNat (rv_q b y)) < 0 then some ((1 : Int32), w) else _) = _
    by_cases q2 : rv_q b y = 9
    · rw [if_pos q2, if_pos (by decide), decide_eq_true (by omega)]; rfl
    · rw [if_neg q2, if_neg (rv_n_neg (by omega))]
      by_cases q3 : rv_q b x < rv_q b y
      · rw [if_pos ((rv_n_lt (by omega) (by omega)).mpr q3), decide_eq_true q3]; rfl
      · rw [if_neg (fun z => q3 ((rv_n_lt (by omega) (by omega)).mp z)), decide_eq_false q3]; rfl
theorem e_prefNone {b : Nat} (hb : b ∈ rv_B) (w : rv_W) : f_X0_prefers (Int32.ofNat b) (-1000000) (-1000000) w = some (0, w) :=
  rv_un_eq un_X0_prefers (List.all_eq_true.mp (by decide +kernel : ((rv_B).all fun b => rv_eqr (f_X0_prefers (Int32.ofNat b) (-1000000) (-1000000) rv_w0) 0) = true) b hb)
/-- the groups of which q holds -/
def ra_gm (q : Nat → Bool) : Nat → Int32
  | 0 => 0
  | k + 1 => if q k = true then ra_gm q k ||| ((1 : Int32) <<< (Int32.ofNat k &&& 31)) else ra_gm q k
theorem ra_gm_s {q : Nat → Bool} {k : Nat} : ra_gm q (k + 1) = if q k = true then ra_gm q k ||| ((1 : Int32) <<< (Int32.ofNat k &&& 31)) else ra_gm q k := rfl
theorem ra_gm_z {q : Nat → Bool} {k : Nat} (h : ∀ j, j < k → q j = false) : ra_gm q k = 0 := by
  induction k with
  | zero => rfl
  | succ k ih => rw [ra_gm_s, if_neg (by rw [h k (by omega)]; decide), ih (fun j hj => h j (by omega))]
def ra_abq (r s G : Nat) (n m : Nat → Nat) (g : Nat) : Bool := decide (s ≠ 0) && decide (rv_q (m g) (ra_w r s (rv_at1 (rv_cut 0 G n) g 0) m) < rv_q (m g) (ra_w r s (rv_cut 0 G n) m))
theorem ra_wc_1 {r s : Nat} {n m : Nat → Nat} (h : s ≠ 0) : ra_wc r s n m = Int32.ofNat (ra_w r s n m) := if_neg h
theorem ra_wm_1 {r s : Nat} {n m : Nat → Nat} (h : s ≠ 0) : ra_wm r s n m = Int32.ofNat (ra_w r s n m) := if_neg h
theorem ra_wc_0 {r s : Nat} {n m : Nat → Nat} (h : s = 0) : ra_wc r s n m = -1000000 := if_pos h
theorem ra_wm_0 {r s : Nat} {n m : Nat → Nat} (h : s = 0) : ra_wm r s n m = -1 := if_pos h
theorem ra_at1_id {α : Type} {f : Nat → α} {g : Nat} : rv_at1 f g (f g) = f := by
  funext i
  unfold rv_at1
  by_cases q : i = g
  · rw [if_pos q, q]
  · rw [if_neg q]
theorem rv_ST.cl {s G : Nat} {n m : Nat → Nat} {w w' : rv_W} (h : rv_ST 1 s G n m w) (hf : rv_fr 24 77 w w') : rv_ST 1 s G n m w' := h.fr (fun c j hc => hf c j (by omega))
