/-! a group of a text -/
def rt_go (x : Nat → Nat) (L p : Nat) : Bool × Nat × List Nat × Nat :=
  if ra_nm x L (ra_sp x L p) = 0 then (false, 0, [], ra_sp x L p) else
  if ra_sign x L (ra_sp x L p + ra_ne x L 4 (ra_sp x L p)) 58 = true then ((rt_rb x L 6 0 [] (ra_sp x L (ra_sp x L p + ra_ne x L 4 (ra_sp x L p)) + 1)).1, ra_nm x L (ra_sp x L p), (rt_rb x L 6 0 [] (ra_sp x L (ra_sp x L p + ra_ne x L 4 (ra_sp x L p)) + 1)).2.1, (rt_rb x L 6 0 [] (ra_sp x L (ra_sp x L p + ra_ne x L 4 (ra_sp x L p)) + 1)).2.2) else (false, 0, [], ra_sp x L (ra_sp x L p + ra_ne x L 4 (ra_sp x L p)))
theorem rt_go_0 {x : Nat → Nat} {L p q : Nat} (e : ra_sp x L p = q) (h : ra_nm x L q = 0) : rt_go x L p = (false, 0, [], q) := by
  unfold rt_go
  rw [e, if_pos h]
theorem rt_go_1 {x : Nat → Nat} {L p q : Nat} (e : ra_sp x L p = q) (h : ra_nm x L q ≠ 0) (h2 : ra_sign x L (q + ra_ne x L 4 q) 58 = false) : rt_go x L p = (false, 0, [], ra_sp x L (q + ra_ne x L 4 q)) := by
  unfold rt_go
  rw [e, if_neg h, if_neg (by rw [h2]; decide)]
theorem rt_go_2 {x : Nat → Nat} {L p q : Nat} (e : ra_sp x L p = q) (h : ra_nm x L q ≠ 0) (h2 : ra_sign x L (q + ra_ne x L 4 q) 58 = true) : rt_go x L p = ((rt_rb x L 6 0 [] (ra_sp x L (q + ra_ne x L 4 q) + 1)).1, ra_nm x L q, (rt_rb x L 6 0 [] (ra_sp x L (q + ra_ne x L 4 q) + 1)).2.1, (rt_rb x L 6 0 [] (ra_sp x L (q + ra_ne x L 4 q) + 1)).2.2) := by
  unfold rt_go
  rw [e, if_neg h, if_pos h2]
theorem ra_ne_le {x : Nat → Nat} {L : Nat} : ∀ f p, p ≤ L → p + ra_ne x L f p ≤ L := by
  intro f
  induction f with
  | zero => intro p hp; exact hp
  | succ f ih =>
    intro p hp
    unfold ra_ne
    by_cases c : p < L ∧ ra_dg (x p) = true
    · rw [if_pos c]
      have := ih (p + 1) (by omega)
      omega
    · rw [if_neg c]; exact hp
theorem ra_nm_pos {x : Nat → Nat} {L q : Nat} (h : ra_nm x L q ≠ 0) : (q < L ∧ ra_dg (x q) = true) ∧ 1 ≤ ra_nm x L q ∧ ra_nm x L q ≤ 100 := by
  unfold ra_nm at h ⊢
  by_cases c : ra_ne x L 4 q ≤ 3 ∧ 1 ≤ ra_nv x (ra_ne x L 4 q) q ∧ ra_nv x (ra_ne x L 4 q) q ≤ 100
  · rw [if_pos c]
    refine ⟨?_, c.2⟩
    by_cases c2 : q < L ∧ ra_dg (x q) = true
    · exact c2
    · exfalso
      have e : ra_ne x L 4 q = 0 := if_neg c2
      rw [e] at c
      exact absurd c.2.1 (by show ¬ 1 ≤ 0; omega)
  · rw [if_neg c] at h
    exact absurd rfl h
theorem rt_go_ok {x : Nat → Nat} {L p : Nat} (hp : p ≤ L) : ra_sp x L (rt_go x L p).2.2.2 = (rt_go x L p).2.2.2 ∧ (rt_go x L p).2.2.2 ≤ L ∧ ((rt_go x L p).1 = true → (1 ≤ (rt_go x L p).2.1 ∧ (rt_go x L p).2.1 ≤ 100) ∧ ∃ t, t < 32 ∧ (rt_go x L p).2.2.1 ∈ ra_ps 5 t ∧ (rt_go x L p).2.2.1 ≠ []) := by
  generalize e : ra_sp x L p = q
  have hq : q ≤ L := e ▸ ra_sp_le hp
  have hqn := ra_ne_le (x := x) 4 q hq
  by_cases c1 : ra_nm x L q = 0
  · rw [rt_go_0 e c1]
    exact ⟨e ▸ ra_sp_sp, hq, fun z => by cases z⟩
  · cases c2 : ra_sign x L (q + ra_ne x L 4 q) 58
    · rw [rt_go_1 e c1 c2]
      exact ⟨ra_sp_sp, ra_sp_le hqn, fun z => by cases z⟩
    · have h2 := (ra_sign_iff.mp c2).1
      have := rt_rb_ok (x := x) (L := L) 6 0 [] (ra_sp x L (q + ra_ne x L 4 q) + 1) (by decide) (by decide)
      rw [rt_go_2 e c1 c2]
      exact ⟨this.1, this.2.1 h2, fun z => ⟨(ra_nm_pos c1).2, this.2.2 z⟩⟩
def ra_f22 (i : Nat) (w w' : rv_W) : Prop := ∀ c j, ¬ (c = 20 ∧ (j = 1 ∨ j = 2)) → ¬ ((c = 22 ∨ c = 23) ∧ j = i) → w' c j = w c j
theorem ra_readGroup {L p i R : Nat} {x : Nat → Nat} {w : rv_W} (h : ra_tc L x w) (hp : p ≤ L) (hw : w 20 2 = Int32.ofNat p) (hi : w 20 1 = Int32.ofNat i) (hR : R ≤ 20) (hiR : i ≤ R) : rv_T (f_X9_readGroup (Int32.ofNat R) w) (fun v w' => v = rv_b2 (decide (i < R) && (rt_go x L p).1) ∧ w' 20 2 = Int32.ofNat (if i < R then (rt_go x L p).2.2.2 else ra_sp x L p) ∧ ra_f22 i w w' ∧ ((decide (i < R) && (rt_go x L p).1) = true → w' 20 1 = Int32.ofNat (i + 1) ∧ w' 22 i = Int32.ofNat (rt_go x L p).2.1 ∧ w' 23 i = Int32.ofNat (ra_oc (rt_go x L p).2.2.1))) := by
  have hL := h.1
  unfold f_X9_readGroup
  refine rv_T_call (ra_next9 h hp hw) (fun v w2 ⟨hv, h2, hf2⟩ => ?_)
  generalize e : ra_sp x L p = q at hv h2 ⊢
  have hq : q ≤ L := e ▸ ra_sp_le hp
  have hT2 : ra_tc L x w2 := h.fr (hf2 _ _ (by omega)) (fun j => hf2 _ _ (by omega))
  have hi2 : w2 20 1 = Int32.ofNat i := by rw [hf2 _ _ (by omega), hi]
  have hF : ∀ {w'}, ra_f20 w w' → ra_f22 i w w' := fun z c j z1 z2 => z c j (by omega)
  rw [hi2, if_neg (rv_n_neg (by omega))]
  by_cases c0 : i < R
  · rw [if_pos ((rv_n_lt (by omega) (by omega)).mpr c0), if_pos (show Int32.ofNat i < (20 : Int32) from (rv_n_lt (j := 20) (by omega) (by omega)).mpr (by omega)), decide_eq_true c0, Bool.true_and, if_pos c0, hv]
    have hfail : ra_nm x L q = 0 → rv_T (some ((0 : Int32), w2)) (fun v w' => v = rv_b2 (rt_go x L p).1 ∧ w' 20 2 = Int32.ofNat (rt_go x L p).2.2.2 ∧ ra_f22 i w w' ∧ ((rt_go x L p).1 = true → w' 20 1 = Int32.ofNat (i + 1) ∧ w' 22 i = Int32.ofNat (rt_go x L p).2.1 ∧ w' 23 i = Int32.ofNat (ra_oc (rt_go x L p).2.2.1))) := fun z => by
      rw [rt_go_0 e z]
      exact rv_T_some.mpr ⟨rfl, h2, hF hf2, fun z => by cases z⟩
    by_cases c1 : q < L ∧ ra_dg (x q) = true
    · have eby : ra_by x L q = Int32.ofNat (x q) := if_pos c1.1
      rw [eby, ra_isDigit (h.2.2 q c1.1).1, rv_bd_some, c1.2, if_neg ra_e1]
      refine rv_T_call (ra_readNumber hT2 hq h2) (fun v3 w3 ⟨hv3, h23, hf3⟩ => ?_)
      have hf13 : ra_f20 w w3 := fun c j z => (hf3 c j z).trans (hf2 c j z)
      rw [hv3]
      by_cases c2 : ra_nm x L q = 0
      · rw [c2] at h23 ⊢
        rw [if_pos rfl] at h23
        rw [if_pos (by decide), rt_go_0 e c2]
        exact rv_T_some.mpr ⟨rfl, h23, hF hf13, fun z => by cases z⟩
      · have hnm := (ra_nm_pos c2).2
        rw [if_neg c2] at h23
        rw [if_neg (show ¬ Int32.ofNat (ra_nm x L q) = 0 from fun z => c2 ((rv_n_eq (j := 0) (by omega) (by omega)).mp z))]
        have hT3 : ra_tc L x w3 := h.fr (hf13 _ _ (by omega)) (fun j => hf13 _ _ (by omega))
        have hqn := ra_ne_le (x := x) 4 q hq
        refine rv_T_call (ra_readSign (c := 58) hT3 hqn h23 (by decide)) (fun v4 w4 ⟨hv4, h24, hf4⟩ => ?_)
        have hf14 : ra_f20 w w4 := fun c j z => (hf4 c j z).trans (hf13 c j z)
        rw [hv4]
        cases c3 : ra_sign x L (q + ra_ne x L 4 q) 58
        · rw [c3, if_neg (by decide)] at h24
          rw [if_pos ra_e0, rt_go_1 e c2 c3]
          exact rv_T_some.mpr ⟨rfl, h24, hF hf14, fun z => by cases z⟩
        · have h3 := (ra_sign_iff.mp c3).1
          rw [c3, if_pos rfl] at h24
          rw [if_neg ra_e1, rt_go_2 e c2 c3]
          have hT4 : ra_tc L x w4 := h.fr (hf14 _ _ (by omega)) (fun j => hf14 _ _ (by omega))
          have hok := rt_rb_ok (x := x) (L := L) 6 0 [] (ra_sp x L (q + ra_ne x L 4 q) + 1) (by decide) (by decide)
          refine rv_T_call (ra_readBallot hT4 h3 h24) (fun v5 w5 ⟨hv5, h25, hf5⟩ => ?_)
          have hf15 : ra_f20 w w5 := fun c j z => (hf5 c j z).trans (hf14 c j z)
          rw [hv5]
          generalize rt_rb x L 6 0 [] (ra_sp x L (q + ra_ne x L 4 q) + 1) = B at h25 hok ⊢
          cases c4 : B.1
          · rw [if_pos (show Int32.ofNat (if false = true then ra_oc B.2.1 else 0) = 0 from rfl)]
            exact rv_T_some.mpr ⟨rfl, h25, hF hf15, fun z => by cases z⟩
          · obtain ⟨t, ht, hl, hne⟩ := hok.2.2 c4
            have ho := ra_oc_ok ht hl
            have hB := rv_B_lt ho.1
            have hi5 : w5 20 1 = Int32.ofNat i := by rw [hf15 _ _ (by omega), hi]
            rw [if_neg (show ¬ Int32.ofNat (if true = true then ra_oc B.2.1 else 0) = 0 from fun z => ho.2.1 hne ((rv_n_eq (j := 0) (by omega) (by omega)).mp z)), show (if true = true then ra_oc B.2.1 else 0) = ra_oc B.2.1 from if_pos rfl, hi5, rv_n_ck (show i < 20 by omega) (by decide), rv_T_lt, rv_n_nat (by omega), rv_up_of (by omega), hi5, rv_n_ck (show i < 20 by omega) (by decide), rv_T_lt, rv_T_lt, rv_n_nat (by omega), rv_up_of (by omega), rv_up_of (by omega), hi5, rv_n_succ]
            refine rv_T_some.mpr ⟨rfl, by rw [rv_up_of (by omega), rv_up_of (by omega), rv_up_of (by omega), h25], fun c j z1 z2 => ?_, fun _ => ⟨rv_up_same, by rw [rv_up_of (by omega), rv_up_of (by omega), rv_up_same], by rw [rv_up_of (by omega), rv_up_same]⟩⟩
            rw [rv_up_of (by omega), rv_up_of (by omega), rv_up_of (by omega), hf15 c j (by omega)]
    · have c2 : ra_nm x L q = 0 := by
        by_cases z : ra_nm x L q = 0
        · exact z
        · exact absurd (ra_nm_pos z).1 c1
      have ed : f_X9_isDigit (ra_by x L q) w2 = some (0, w2) := by
        by_cases c3 : q < L
        · have eby : ra_by x L q = Int32.ofNat (x q) := if_pos c3
          have : ra_dg (x q) = false := by
            cases z : ra_dg (x q)
            · rfl
            · exact absurd ⟨c3, z⟩ c1
          rw [eby, ra_isDigit (h.2.2 q c3).1, this]
          rfl
        · have eby : ra_by x L q = -1 := if_neg c3
          rw [eby]
          unfold f_X9_isDigit
          rw [if_pos (by decide)]
      rw [ed, rv_bd_some, if_pos rfl]
      exact hfail c2
  · have e0 : decide (i < R) = false := decide_eq_false c0
    rw [if_neg (fun z => c0 ((rv_n_lt (by omega) (by omega)).mp z)), e0, Bool.false_and, if_neg c0]
    exact rv_T_some.mpr ⟨rfl, h2, hF hf2, fun z => by cases z⟩
