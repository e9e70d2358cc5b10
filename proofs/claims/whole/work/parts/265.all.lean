/-! a whole text -/
def rt_P (x : Nat → Nat) (L : Nat) : Nat → Nat
  | 0 => 0
  | i + 1 => (rt_go x L (rt_P x L i)).2.2.2 + 1
def ra_g (x : Nat → Nat) (L i : Nat) : Bool × Nat × List Nat × Nat := rt_go x L (rt_P x L i)
def ra_good (x : Nat → Nat) (L R i : Nat) : Prop := i < R ∧ (ra_g x L i).1 = true ∧ ra_sign x L (ra_g x L i).2.2.2 59 = true
def ra_last (x : Nat → Nat) (L R e : Nat) : Prop := (∀ j, j < e → ra_good x L R j) ∧ ¬ ra_good x L R e
def ra_suc (x : Nat → Nat) (L R e : Nat) : Bool := decide (e < R) && (ra_g x L e).1 && decide (¬ (ra_g x L e).2.2.2 < L)
def ra_fp (x : Nat → Nat) (L R e : Nat) : Nat := if e < R then (ra_g x L e).2.2.2 else ra_sp x L (rt_P x L e)
theorem ra_last_un {x : Nat → Nat} {L R e e' : Nat} (h : ra_last x L R e) (h' : ra_last x L R e') : e = e' := by
  rcases Nat.lt_trichotomy e e' with z | z | z
  · exact absurd (h'.1 e z) h.2
  · exact z
  · exact absurd (h.1 e' z) h'.2
theorem rt_P_le {x : Nat → Nat} {L R : Nat} : ∀ i, (∀ j, j < i → ra_good x L R j) → rt_P x L i ≤ L := by
  intro i
  induction i with
  | zero => intro _; exact Nat.zero_le L
  | succ i ih =>
    intro hj
    have h1 := ih (fun j z => hj j (by omega))
    have h2 := rt_go_ok (x := x) h1
    have h3 := (ra_sign_iff.mp (hj i (by omega)).2.2).1
    have h4 : ra_sp x L (ra_g x L i).2.2.2 = (ra_g x L i).2.2.2 := h2.1
    rw [h4] at h3
    exact h3
theorem ra_g_ok {x : Nat → Nat} {L R i : Nat} (h : ∀ j, j < i → ra_good x L R j) : ra_sp x L (ra_g x L i).2.2.2 = (ra_g x L i).2.2.2 ∧ (ra_g x L i).2.2.2 ≤ L ∧ ((ra_g x L i).1 = true → (1 ≤ (ra_g x L i).2.1 ∧ (ra_g x L i).2.1 ≤ 100) ∧ ∃ t, t < 32 ∧ (ra_g x L i).2.2.1 ∈ ra_ps 5 t ∧ (ra_g x L i).2.2.1 ≠ []) := rt_go_ok (rt_P_le i h)
theorem ra_fp_ok {x : Nat → Nat} {L R i : Nat} (h : ∀ j, j < i → ra_good x L R j) : ra_sp x L (ra_fp x L R i) = ra_fp x L R i ∧ ra_fp x L R i ≤ L := by
  unfold ra_fp
  have := ra_g_ok h
  by_cases c : i < R
  · rw [if_pos c]; exact ⟨this.1, this.2.1⟩
  · rw [if_neg c]; exact ⟨ra_sp_sp, ra_sp_le (rt_P_le i h)⟩
theorem ra_by_m1 {x : Nat → Nat} {L q : Nat} (hx : ∀ i, i < L → x i < 256) : (ra_by x L q = -1) ↔ ¬ q < L := by
  unfold ra_by
  by_cases c : q < L
  · have := hx q c
    rw [if_pos c]
    refine ⟨fun z => ?_, fun z => absurd c z⟩
    have z2 := congrArg Int32.toInt z
    rw [rv_n_int (by omega), show (-1 : Int32).toInt = -1 from rfl] at z2
    omega
  · rw [if_neg c]
    exact ⟨fun _ => c, fun _ => rfl⟩
theorem ra_read {L R : Nat} {x : Nat → Nat} {w : rv_W} (h : ra_tc L x w) (hR : R ≤ 20) : rv_T (f_X9_read (Int32.ofNat R) w) (fun v w' => ∃ e, ra_last x L R e ∧ v = (if ra_suc x L R e = true then (-1000000 : Int32) else Int32.ofNat (ra_fp x L R e)) ∧ (ra_suc x L R e = true → w' 20 1 = Int32.ofNat (e + 1) ∧ ∀ j, j < e + 1 → w' 22 j = Int32.ofNat (ra_g x L j).2.1 ∧ w' 23 j = Int32.ofNat (ra_oc (ra_g x L j).2.2.1)) ∧ ∀ c j, ¬ (c = 20 ∧ (j = 1 ∨ j = 2)) → c ≠ 22 → c ≠ 23 → w' c j = w c j) := by
  have hL := h.1
  have hxb : ∀ i, i < L → x i < 256 := fun i hi => (h.2.2 i hi).1
  unfold f_X9_read
  rw [rv_T_lt, rv_T_lt]
  refine rv_T_fx (α := Int32 → rv_W → rv_R) (σ := Nat × rv_W) (fun t a => a (Int32.ofNat t.1) t.2) (fun t => t.1 ≤ R ∧ (∀ j, j < t.1 → ra_good x L R j) ∧ t.2 20 2 = Int32.ofNat (rt_P x L t.1) ∧ t.2 20 1 = Int32.ofNat t.1 ∧ (∀ j, j < t.1 → t.2 22 j = Int32.ofNat (ra_g x L j).2.1 ∧ t.2 23 j = Int32.ofNat (ra_oc (ra_g x L j).2.2.1)) ∧ ∀ c j, ¬ (c = 20 ∧ (j = 1 ∨ j = 2)) → c ≠ 22 → c ≠ 23 → t.2 c j = w c j) (fun t => R - t.1) ?_ rv_FU (0, rv_up (rv_up w 20 2 (0 : Int32)) 20 1 (0 : Int32)) (by show R - 0 < 10000; omega) ⟨Nat.zero_le R, fun j hj => absurd hj (Nat.not_lt_zero j), by show rv_up (rv_up w 20 2 (0 : Int32)) 20 1 (0 : Int32) 20 2 = Int32.ofNat 0; rw [rv_up_of (by omega), rv_up_same]; rfl, (show rv_up (rv_up w 20 2 (0 : Int32)) 20 1 (0 : Int32) 20 1 = Int32.ofNat 0 from rv_up_same), fun j hj => absurd hj (Nat.not_lt_zero j), fun c j z1 z2 z3 => by
    show rv_up (rv_up w 20 2 (0 : Int32)) 20 1 (0 : Int32) c j = w c j
    rw [rv_up_of (by omega), rv_up_of (by omega)]⟩
  intro ag ⟨i, w'⟩ hI q
  obtain ⟨hi, hg, h2, h1, hc, hf⟩ := hI
  dsimp only at hi hg h2 h1 hc hf q ⊢
  have hT : ra_tc L x w' := h.fr (hf _ _ (by omega) (by omega) (by omega)) (fun j => hf _ _ (by omega) (by omega) (by omega))
  have hP := rt_P_le i hg
  have hgo := ra_g_ok hg
  rw [if_neg (fun z => by have := (rv_n_lt (i := 20) (by omega) (by omega)).mp z; omega)]
  refine rv_T_call (ra_readGroup hT hP h2 h1 hR hi) (fun v2 w2 ⟨hv2, h22, hf2, hs2⟩ => ?_)
  have eg : rt_go x L (rt_P x L i) = ra_g x L i := rfl
  rw [eg] at hv2 h22 hs2
  have hf12 : ∀ c j, ¬ (c = 20 ∧ (j = 1 ∨ j = 2)) → c ≠ 22 → c ≠ 23 → w2 c j = w c j := fun c j z1 z2 z3 => (hf2 c j z1 (by omega)).trans (hf c j z1 z2 z3)
  have hT2 : ra_tc L x w2 := h.fr (hf12 _ _ (by omega) (by omega) (by omega)) (fun j => hf12 _ _ (by omega) (by omega) (by omega))
  have efp : (if i < R then (ra_g x L i).2.2.2 else ra_sp x L (rt_P x L i)) = ra_fp x L R i := rfl
  rw [efp] at h22
  rw [hv2]
  cases c1 : (decide (i < R) && (ra_g x L i).1)
  · have hs0 : ra_suc x L R i = false := by unfold ra_suc; rw [c1, Bool.false_and]
    rw [if_pos ra_e0]
    refine rv_T_some.mpr ⟨i, ⟨hg, fun z => ?_⟩, by rw [hs0, if_neg (by decide), h22], fun z => (by rw [hs0] at z; cases z), hf12⟩
    rw [decide_eq_true z.1, z.2.1] at c1
    cases c1
  · obtain ⟨s1, s2, s3⟩ := hs2 c1
    rw [Bool.and_eq_true] at c1
    have hiR : i < R := of_decide_eq_true c1.1
    have efp2 : ra_fp x L R i = (ra_g x L i).2.2.2 := if_pos hiR
    rw [efp2] at h22
    have hc2 : ∀ j, j < i + 1 → w2 22 j = Int32.ofNat (ra_g x L j).2.1 ∧ w2 23 j = Int32.ofNat (ra_oc (ra_g x L j).2.2.1) := fun j hj => by
      by_cases ej : j = i
      · subst ej; exact ⟨s2, s3⟩
      · rw [hf2 22 j (by omega) (by omega), hf2 23 j (by omega) (by omega)]
        exact hc j (by omega)
    rw [if_neg ra_e1]
    refine rv_T_call (ra_next9 hT2 hgo.2.1 h22) (fun v3 w3 ⟨hv3, h23, hf3⟩ => ?_)
    rw [hgo.1] at hv3 h23
    have hf13 : ∀ c j, ¬ (c = 20 ∧ (j = 1 ∨ j = 2)) → c ≠ 22 → c ≠ 23 → w3 c j = w c j := fun c j z1 z2 z3 => (hf3 c j (by omega)).trans (hf12 c j z1 z2 z3)
    have hT3 : ra_tc L x w3 := h.fr (hf13 _ _ (by omega) (by omega) (by omega)) (fun j => hf13 _ _ (by omega) (by omega) (by omega))
    rw [hv3]
    by_cases c2 : (ra_g x L i).2.2.2 < L
    · have hs0 : ra_suc x L R i = false := by unfold ra_suc; rw [show decide (¬ (ra_g x L i).2.2.2 < L) = false from decide_eq_false (fun z => z c2), Bool.and_false]
      rw [if_neg (fun z => (ra_by_m1 hxb).mp z c2)]
      refine rv_T_call (ra_readSign (c := 59) hT3 hgo.2.1 h23 (by decide)) (fun v4 w4 ⟨hv4, h24, hf4⟩ => ?_)
      have hf14 : ∀ c j, ¬ (c = 20 ∧ (j = 1 ∨ j = 2)) → c ≠ 22 → c ≠ 23 → w4 c j = w c j := fun c j z1 z2 z3 => (hf4 c j (by omega)).trans (hf13 c j z1 z2 z3)
      rw [hgo.1] at h24
      rw [hv4]
      cases c3 : ra_sign x L (ra_g x L i).2.2.2 59
      · rw [c3, if_neg (by decide)] at h24
        rw [if_pos ra_e0]
        exact rv_T_some.mpr ⟨i, ⟨hg, fun z => (by have z2 := z.2.2; rw [c3] at z2; cases z2)⟩, by rw [hs0, if_neg (by decide), h24, efp2], fun z => (by rw [hs0] at z; cases z), hf14⟩
      · rw [c3, if_pos rfl] at h24
        rw [if_neg ra_e1, rv_T_lt, rv_n_succ]
        refine q (i + 1, w4) ⟨hiR, fun j hj => ?_, h24, ?_, fun j hj => ?_, hf14⟩ (by dsimp only; omega)
        · by_cases ej : j = i
          · subst ej; exact ⟨hiR, c1.2, c3⟩
          · have hj' : j < i + 1 := hj
            exact hg j (by omega)
        · show w4 20 1 = Int32.ofNat (i + 1)
          rw [hf4 _ _ (by omega), hf3 _ _ (by omega), s1]
        · show w4 22 j = _ ∧ w4 23 j = _
          rw [hf4 22 j (by omega), hf4 23 j (by omega), hf3 22 j (by omega), hf3 23 j (by omega)]
          exact hc2 j hj
    · have hs1 : ra_suc x L R i = true := by unfold ra_suc; rw [show decide (¬ (ra_g x L i).2.2.2 < L) = true from decide_eq_true c2, show decide (i < R) = true from decide_eq_true hiR, c1.2]; rfl
      rw [if_pos ((ra_by_m1 hxb).mpr c2)]
      refine rv_T_some.mpr ⟨i, ⟨hg, fun z => ?_⟩, by rw [hs1, if_pos rfl], fun _ => ⟨by rw [hf3 _ _ (by omega), s1], fun j hj => ?_⟩, hf13⟩
      · have := (ra_sign_iff.mp z.2.2).1
        rw [hgo.1] at this
        exact c2 this
      · rw [hf3 22 j (by omega), hf3 23 j (by omega)]
        exact hc2 j hj
