/-! whole orders: neighbours exchanged -/
theorem rp_ps_s {f C : Nat} {l : List Nat} : l ∈ ra_ps (f + 1) C ↔ (C = 0 ∧ l = []) ∨ (C ≠ 0 ∧ ∃ c l', c < 5 ∧ rv_hs C c = true ∧ l' ∈ ra_ps f (rv_wo C c) ∧ l = c :: l') := by
  by_cases h : C = 0
  · subst h
    constructor
    · intro q; exact Or.inl ⟨rfl, ra_ps_0 q⟩
    · rintro (⟨_, rfl⟩ | ⟨h, _⟩)
      · show [] ∈ (if (0 : Nat) = 0 then [[]] else _)
        rw [if_pos rfl]; exact List.mem_singleton.mpr rfl
      · exact absurd rfl h
  · rw [ra_ps_mem h]
    constructor
    · intro q; exact Or.inr ⟨h, q⟩
    · rintro (⟨h2, _⟩ | ⟨_, q⟩)
      · exact absurd h2 h
      · exact q
theorem rp_wo_comm {C x y : Nat} (hC : C < 32) (hx : x < 5) (hy : y < 5) : rv_wo (rv_wo C x) y = rv_wo (rv_wo C y) x := by
  refine rv_hs_ext (rv_wo_lt (rv_wo_lt hC)) (rv_wo_lt (rv_wo_lt hC)) (fun c hc => ?_)
  rw [rv_wo_hs (rv_wo_lt hC) hy hc, rv_wo_hs hC hx hc, rv_wo_hs (rv_wo_lt hC) hx hc, rv_wo_hs hC hy hc, Bool.and_assoc, Bool.and_assoc, Bool.and_comm (!decide (c = x))]
theorem rp_ne0 {C x : Nat} (h : rv_hs C x = true) : C ≠ 0 := fun z => by rw [z, ra_hs0] at h; cases h
/-- an order with neighbours exchanged is one -/
theorem rp_ps_swap {f C x y : Nat} {l1 l2 : List Nat} (hC : C < 32) (h : l1 ++ x :: y :: l2 ∈ ra_ps f C) : l1 ++ y :: x :: l2 ∈ ra_ps f C := by
  induction f generalizing C l1 with
  | zero =>
    have : l1 ++ x :: y :: l2 = [] := List.mem_singleton.mp h
    cases l1 <;> cases this
  | succ f ih =>
    rcases rp_ps_s.mp h with ⟨_, e⟩ | ⟨hC0, c, l', hc, hs, hl', e⟩
    · cases l1 <;> cases e
    · cases l1 with
      | cons a l1 =>
        injection e with e1 e2
        subst e1
        rw [← e2] at hl'
        exact rp_ps_s.mpr (Or.inr ⟨hC0, a, _, hc, hs, ih (rv_wo_lt hC) hl', rfl⟩)
      | nil =>
        injection e with e1 e2
        subst e1
        rw [← e2] at hl'
        cases f with
        | zero =>
          have : y :: l2 = [] := List.mem_singleton.mp hl'
          cases this
        | succ f =>
          rcases rp_ps_s.mp hl' with ⟨_, e⟩ | ⟨hC1, d, l3, hd, hsd, hl3, e⟩
          · cases e
          · injection e with e1 e2
            subst e1
            subst e2
            rw [rv_wo_hs hC hc hd, Bool.and_eq_true] at hsd
            have hne : y ≠ x := by
              have := hsd.2
              rw [Bool.not_eq_true', decide_eq_false_iff_not] at this
              exact this
            have hx2 : rv_hs (rv_wo C y) x = true := by
              rw [rv_wo_hs hC hd hc, hs, Bool.true_and, Bool.not_eq_true', decide_eq_false_iff_not]
              exact fun z => hne z.symm
            refine rp_ps_s.mpr (Or.inr ⟨hC0, y, x :: l2, hd, hsd.1, rp_ps_s.mpr (Or.inr ⟨rp_ne0 hx2, x, l2, hc, hx2, ?_, rfl⟩), rfl⟩)
            rw [rp_wo_comm hC hd hc]
            exact hl3
theorem rp_vl_swap {p : Nat → Nat → Nat} {x y : Nat} {l1 l2 : List Nat} : ra_vl p (l1 ++ y :: x :: l2) + p x y = ra_vl p (l1 ++ x :: y :: l2) + p y x := by
  induction l1 with
  | nil =>
    show ((x :: l2).map (p y)).sum + ((l2.map (p x)).sum + ra_vl p l2) + p x y = ((y :: l2).map (p x)).sum + ((l2.map (p y)).sum + ra_vl p l2) + p y x
    rw [List.map_cons, List.map_cons, List.sum_cons, List.sum_cons]
    omega
  | cons a l1 ih =>
    have e : ((l1 ++ y :: x :: l2).map (p a)).sum = ((l1 ++ x :: y :: l2).map (p a)).sum := by
      rw [List.map_append, List.map_append, List.sum_append, List.sum_append, List.map_cons, List.map_cons, List.map_cons, List.map_cons, List.sum_cons, List.sum_cons, List.sum_cons, List.sum_cons]
      omega
    show ((l1 ++ y :: x :: l2).map (p a)).sum + ra_vl p (l1 ++ y :: x :: l2) + p x y = ((l1 ++ x :: y :: l2).map (p a)).sum + ra_vl p (l1 ++ x :: y :: l2) + p y x
    omega
/-- all of a set are in its orders -/
theorem rp_ps_in {f C : Nat} {l : List Nat} (hC : C < 32) (hf : rv_mn C ≤ f) (h : l ∈ ra_ps f C) {c : Nat} (hc : c < 5) (hs : rv_hs C c = true) : c ∈ l := by
  have e := ra_ps_sum (g := fun b => if b = c then 1 else 0) hC hf h
  by_cases q : c ∈ l
  · exact q
  · exfalso
    have e0 : (l.map (fun b => if b = c then 1 else 0)).sum = 0 := by
      have : ∀ L : List Nat, c ∉ L → (L.map (fun b => if b = c then 1 else 0)).sum = 0 := fun L => by
        induction L with
        | nil => intro _; rfl
        | cons a L ih =>
          intro hn
          rw [List.map_cons, List.sum_cons, ih (fun z => hn (List.mem_cons_of_mem _ z)), if_neg (fun z => hn (by rw [z]; exact List.mem_cons_self))]
      exact this l q
    have := rv_sm_pick (f := fun b => if rv_hs C b = true then (if b = c then 1 else 0) else 0) hc
    rw [← e, e0, if_pos hs, if_pos rfl] at this
    omega
theorem rp_ps_all {f C : Nat} {l : List Nat} (h : l ∈ ra_ps f C) : ∀ c, c ∈ l → c < 5 ∧ (C < 32 → rv_hs C c = true) := by
  induction f generalizing C l with
  | zero =>
    have : l = [] := List.mem_singleton.mp h
    subst this
    intro c hc; cases hc
  | succ f ih =>
    rcases rp_ps_s.mp h with ⟨_, rfl⟩ | ⟨hC0, d, l', hd, hs, hl', rfl⟩
    · intro c hc; cases hc
    · intro c hc
      rcases List.mem_cons.mp hc with rfl | hc
      · exact ⟨hd, fun _ => hs⟩
      · have := ih hl' c hc
        refine ⟨this.1, fun hC => ?_⟩
        have h2 := this.2 (rv_wo_lt hC)
        rw [rv_wo_hs hC hd this.1, Bool.and_eq_true] at h2
        exact h2.1
/-- from one outside S to one of S there are neighbours from outside into S -/
theorem rp_cross {S : Nat} {l : List Nat} {x : Nat} (h : rv_hs S x = false) (h2 : ∃ y, y ∈ l ∧ rv_hs S y = true) : ∃ l1 a b l2, x :: l = l1 ++ a :: b :: l2 ∧ rv_hs S a = false ∧ rv_hs S b = true := by
  induction l generalizing x with
  | nil => obtain ⟨y, hy, _⟩ := h2; cases hy
  | cons c l ih =>
    by_cases q : rv_hs S c = true
    · exact ⟨[], x, c, l, rfl, h, q⟩
    · obtain ⟨y, hy, hSy⟩ := h2
      have hy : y ∈ l := by
        rcases List.mem_cons.mp hy with rfl | hy
        · exact absurd hSy q
        · exact hy
      obtain ⟨l1, a, b, l2, e, e1, e2⟩ := ih (Bool.eq_false_iff.mpr q) ⟨y, hy, hSy⟩
      exact ⟨x :: l1, a, b, l2, by rw [e]; rfl, e1, e2⟩
theorem rp_lds_hs {p : Nat → Nat → Nat} {C c : Nat} (hC : C < 32) (h0 : C ≠ 0) (hc : c < 5) : rv_hs (ra_lds p C) c = true ↔ ∃ l, c :: l ∈ ra_ps 5 C ∧ ra_vl p (c :: l) = ra_V p 5 C := by
  rw [← ra_P3 hC h0 hc, List.any_eq_true]
  constructor
  · rintro ⟨l, hl, e⟩
    rw [Bool.and_eq_true] at e
    have e1 := eq_of_beq e.1
    have e2 := eq_of_beq e.2
    cases l with
    | nil => have : (9 : Nat) = c := e1; omega
    | cons a l =>
      have : a = c := e1
      subst this
      exact ⟨l, hl, e2⟩
  · rintro ⟨l, hl, e⟩
    exact ⟨_, hl, by rw [e]; show (c == c && _) = true; rw [beq_self_eq_true, beq_self_eq_true]; rfl⟩
theorem rp_lds_sub {s S : Nat} {p : Nat → Nat → Nat} (hs : s < 32) (h0 : s ≠ 0) (h : rp_dom s S p) : ra_sub (ra_lds p s) S := fun x hx hw => by
  obtain ⟨l, hl, hv⟩ := (rp_lds_hs hs h0 hx).mp hw
  cases hS : rv_hs S x
  · obtain ⟨y, hy, hSy⟩ := h.2.1
    have hmn : rv_mn s ≤ 5 := rv_mn_le
    have hyl : y ∈ l := by
      rcases List.mem_cons.mp (rp_ps_in hs hmn hl hy (h.1 y hy hSy)) with e | e
      · rw [e, hS] at hSy; cases hSy
      · exact e
    obtain ⟨l1, a, b, l2, e, ha, hb⟩ := rp_cross hS ⟨y, hyl, hSy⟩
    rw [e] at hl hv
    have h1 := rp_ps_swap hs hl
    have h2 := ra_P1 (p := p) hs hmn h1
    have h3 := @rp_vl_swap p a b l1 l2
    have ha5 := rp_ps_all hl a (by simp)
    have hb5 := rp_ps_all hl b (by simp)
    have := h.2.2 b a hb5.1 ha5.1 hb (ha5.2 hs) ha
    omega
  · rfl
/-- the winners by pairs are in every set that dominates -/
theorem rp_W_sub {rule s S : Nat} {n m : Nat → Nat} (hr : rule = 2 ∨ rule = 4 ∨ rule = 5 ∨ rule = 11) (hs : s < 32) (h0 : s ≠ 0) (h : rp_dom s S (ra_P s n m)) : ra_sub (ra_W rule s n m) S := by
  rcases hr with rfl | rfl | rfl | rfl
  · rw [rp_Wm (by omega)]
    have e : ra_mo s (ra_pt 2 s n m) = ra_mo s (ra_co s (ra_P s n m)) := ra_mo_congr (fun c _ _ => rp_pt2)
    rw [e]
    exact rp_co_sub h
  · rw [rp_W4]; exact rp_sc_sub h
  · rw [rp_W5]; exact rp_rw_sub h (Nat.le_refl _)
  · rw [rp_W11]; exact rp_lds_sub hs h0 h
