/-! values of orders -/
def ra_vl (p : Nat → Nat → Nat) : List Nat → Nat
  | [] => 0
  | c :: l => (l.map (p c)).sum + ra_vl p l
theorem ra_ps_mem {f C : Nat} {l : List Nat} (h0 : C ≠ 0) : l ∈ ra_ps (f + 1) C ↔ ∃ c l', c < 5 ∧ rv_hs C c = true ∧ l' ∈ ra_ps f (rv_wo C c) ∧ l = c :: l' := by
  rw [ra_ps, if_neg h0, List.mem_flatMap]
  refine ⟨fun ⟨c, hc, hl⟩ => ?_, fun ⟨c, l', hc, h1, h2, h3⟩ => ⟨c, List.mem_range.mpr hc, ?_⟩⟩
  · by_cases q : rv_hs C c = true
    · rw [if_pos q] at hl
      obtain ⟨l', h1, h2⟩ := List.mem_map.mp hl
      exact ⟨c, l', List.mem_range.mp hc, q, h1, h2.symm⟩
    · rw [if_neg q] at hl; cases hl
  · rw [if_pos h1]
    exact List.mem_map.mpr ⟨l', h2, h3.symm⟩
theorem ra_ps_0 {f : Nat} {l : List Nat} (h : l ∈ ra_ps f 0) : l = [] := by
  cases f with
  | zero => exact List.mem_singleton.mp h
  | succ f =>
    rw [ra_ps, if_pos rfl] at h
    exact List.mem_singleton.mp h
theorem ra_hs0 {c : Nat} : rv_hs 0 c = false := by unfold rv_hs; simp
theorem ra_ps_sum {f C : Nat} {l : List Nat} {g : Nat → Nat} (hC : C < 32) (hf : rv_mn C ≤ f) (h : l ∈ ra_ps f C) : (l.map g).sum = rv_sm 5 (fun b => if rv_hs C b = true then g b else 0) := by
  induction f generalizing C l with
  | zero =>
    have := (ra_mn_z hC).mp (by omega)
    subst this
    rw [ra_ps_0 h]
    refine (rv_sm_zero (fun b _ => ?_)).symm
    rw [ra_hs0]; rfl
  | succ f ih =>
    by_cases h0 : C = 0
    · subst h0
      rw [ra_ps_0 h]
      refine (rv_sm_zero (fun b _ => ?_)).symm
      rw [ra_hs0]; rfl
    · obtain ⟨c, l', hc, h1, h2, rfl⟩ := (ra_ps_mem h0).mp h
      have hm := ra_mn_wo hC hc h1
      have e := ih (rv_wo_lt hC) (by omega) h2
      rw [List.map_cons, List.sum_cons, e]
      have key := rv_sm_set (n := 5) (g := c) (f := fun b => if rv_hs C b = true then g b else 0) (f' := fun b => if rv_hs (rv_wo C c) b = true then g b else 0) hc (fun i hi hne => by
        rw [rv_wo_hs hC hc hi, decide_eq_false hne]; simp)
      rw [if_pos h1, rv_wo_hs hC hc hc, decide_eq_true rfl] at key
      simp only [Bool.not_true, Bool.and_false, Bool.false_eq_true, if_false] at key
      omega
theorem ra_V_any {p : Nat → Nat → Nat} {f C : Nat} (hC : C < 32) (h1 : rv_mn C ≤ f) (h2 : f ≤ 5) : ra_V p f C = ra_V p 5 C := by
  have key : ∀ k, f + k ≤ 5 → ra_V p (f + k) C = ra_V p f C := by
    intro k
    induction k with
    | zero => intro _; rfl
    | succ k ih => intro hk; rw [← ih (by omega)]; exact ra_V_up hC (show rv_mn C ≤ f + k by omega)
  have := key (5 - f) (by omega)
  rw [show f + (5 - f) = 5 by omega] at this
  exact this.symm
theorem ra_vl_cons {p : Nat → Nat → Nat} {f C c : Nat} {l : List Nat} (hC : C < 32) (hf : rv_mn (rv_wo C c) ≤ f) (h : l ∈ ra_ps f (rv_wo C c)) : ra_vl p (c :: l) = ra_vl p l + ra_sg p c (rv_wo C c) := by
  rw [ra_vl, ra_ps_sum (rv_wo_lt hC) hf h, Nat.add_comm]
  rfl
theorem ra_vw_le {p : Nat → Nat → Nat} {C c : Nat} (hC : C < 32) (hc : c < 5) (h : rv_hs C c = true) : ra_vw p C c ≤ ra_V p 5 C := by
  rw [ra_W_eq hC]
  have := ra_mx_ge (f := fun c => if rv_hs C c = true then ra_vw p C c else 0) hc
  rw [if_pos h] at this
  exact this
theorem ra_P1 {p : Nat → Nat → Nat} {f C : Nat} {l : List Nat} (hC : C < 32) (hf : rv_mn C ≤ f) (h : l ∈ ra_ps f C) : ra_vl p l ≤ ra_V p 5 C := by
  induction f generalizing C l with
  | zero =>
    have := (ra_mn_z hC).mp (by omega)
    subst this
    rw [ra_ps_0 h]; exact Nat.zero_le _
  | succ f ih =>
    by_cases h0 : C = 0
    · subst h0
      rw [ra_ps_0 h]; exact Nat.zero_le _
    · obtain ⟨c, l', hc, h1, h2, rfl⟩ := (ra_ps_mem h0).mp h
      have hm := ra_mn_wo hC hc h1
      have e := ih (rv_wo_lt hC) (by omega) h2
      have e2 := ra_vw_le (p := p) hC hc h1
      rw [ra_vl_cons hC (by omega) h2]
      unfold ra_vw at e2
      omega
/-- the best order as a list -/
def ra_gl (p : Nat → Nat → Nat) : Nat → Nat → List Nat
  | 0, _ => []
  | f + 1, C => if C = 0 then [] else rv_lo (ra_lds p C) :: ra_gl p f (rv_wo C (rv_lo (ra_lds p C)))
theorem ra_V0 {p : Nat → Nat → Nat} : ra_V p 5 0 = 0 := by
  have : ra_V p 0 0 = ra_V p 5 0 := ra_V_any (by decide) (by decide) (by decide)
  rw [← this]; rfl
theorem ra_P2 {p : Nat → Nat → Nat} {f C : Nat} (hC : C < 32) (hf : rv_mn C ≤ f) : (ra_ps f C).find? (fun l => ra_vl p l == ra_V p 5 C) = some (ra_gl p f C) := by
  induction f generalizing C with
  | zero =>
    have := (ra_mn_z hC).mp (by omega)
    subst this
    rw [ra_ps, ra_V0]
    rfl
  | succ f ih =>
    by_cases h0 : C = 0
    · subst h0
      rw [ra_ps, if_pos rfl, ra_gl, if_pos rfl, ra_V0]
      rfl
    · have hl := ra_lo_ok ra_lds_lt (ra_lds_ne (p := p) hC h0)
      have hc := ra_ldc (p := p) hC h0
      rw [ra_gl, if_neg h0]
      generalize hc0 : rv_lo (ra_lds p C) = c0 at hl hc
      have miss : ∀ c, c < c0 → (if rv_hs C c = true then (ra_ps f (rv_wo C c)).map (c :: ·) else []).find? (fun l => ra_vl p l == ra_V p 5 C) = none := fun c hcc => by
        by_cases q : rv_hs C c = true
        · rw [if_pos q, List.find?_eq_none]
          intro l hlm z
          obtain ⟨l', h1, rfl⟩ := List.mem_map.mp hlm
          have hm := ra_mn_wo hC (show c < 5 by omega) q
          have e1 := ra_vl_cons (p := p) hC (show rv_mn (rv_wo C c) ≤ f by omega) h1
          have e2 := ra_P1 (p := p) (rv_wo_lt hC) (show rv_mn (rv_wo C c) ≤ f by omega) h1
          have e3 := ra_vw_le (p := p) hC (show c < 5 by omega) q
          rw [beq_iff_eq] at z
          have e4 : ra_vw p C c = ra_V p 5 C := by
            unfold ra_vw at e3 ⊢
            omega
          have e5 := hl.2.2 c hcc
          have e6 : rv_hs (ra_lds p C) c = (rv_hs C c && decide (ra_vw p C c = ra_V p 5 C)) := rv_ms_hs (show c < 5 by omega)
          rw [e5, q, decide_eq_true e4] at e6
          cases e6
        · rw [if_neg q]; rfl
      have hit : (if rv_hs C c0 = true then (ra_ps f (rv_wo C c0)).map (c0 :: ·) else []).find? (fun l => ra_vl p l == ra_V p 5 C) = some (c0 :: ra_gl p f (rv_wo C c0)) := by
        rw [if_pos hc.2.1, List.find?_map]
        have hm := ra_mn_wo hC hc.1 hc.2.1
        have ih' := ih (C := rv_wo C c0) (rv_wo_lt hC) (by omega)
        have e : (ra_ps f (rv_wo C c0)).find? ((fun l => ra_vl p l == ra_V p 5 C) ∘ (c0 :: ·)) = (ra_ps f (rv_wo C c0)).find? (fun l => ra_vl p l == ra_V p 5 (rv_wo C c0)) := by
          have cg : ∀ (L : List (List Nat)), (∀ l, l ∈ L → l ∈ ra_ps f (rv_wo C c0)) → L.find? ((fun l => ra_vl p l == ra_V p 5 C) ∘ (c0 :: ·)) = L.find? (fun l => ra_vl p l == ra_V p 5 (rv_wo C c0)) := by
            intro L
            induction L with
            | nil => intro _; rfl
            | cons l L ihL =>
              intro hL
              have e1 := ra_vl_cons (p := p) hC (show rv_mn (rv_wo C c0) ≤ f by omega) (hL l List.mem_cons_self)
              have e2 : (((fun l => ra_vl p l == ra_V p 5 C) ∘ (c0 :: ·)) l) = (ra_vl p l == ra_V p 5 (rv_wo C c0)) := by
                show (ra_vl p (c0 :: l) == ra_V p 5 C) = _
                rw [e1, ← hc.2.2]
                unfold ra_vw
                rw [Bool.eq_iff_iff, beq_iff_eq, beq_iff_eq]
                omega
              rw [List.find?_cons, List.find?_cons, e2, ihL (fun l hl => hL l (List.mem_cons_of_mem _ hl))]
          exact cg _ (fun _ h => h)
        rw [e, ih']
        rfl
      rw [ra_ps, if_neg h0, show List.range 5 = [0, 1, 2, 3, 4] from rfl]
      simp only [List.flatMap_cons, List.flatMap_nil, List.find?_append]
      have h5 := hc.1
      rcases c0 with _ | _ | _ | _ | _ | c0
      · rw [hit]; rfl
      · rw [miss 0 (by omega), hit]; rfl
      · rw [miss 0 (by omega), miss 1 (by omega), hit]; rfl
      · rw [miss 0 (by omega), miss 1 (by omega), miss 2 (by omega), hit]; rfl
      · rw [miss 0 (by omega), miss 1 (by omega), miss 2 (by omega), miss 3 (by omega), hit]; rfl
      · omega
theorem ra_P3 {p : Nat → Nat → Nat} {C c : Nat} (hC : C < 32) (h0 : C ≠ 0) (hc : c < 5) : (ra_ps 5 C).any (fun l => l.headD 9 == c && ra_vl p l == ra_V p 5 C) = rv_hs (ra_lds p C) c := by
  have e6 : rv_hs (ra_lds p C) c = (rv_hs C c && decide (ra_vw p C c = ra_V p 5 C)) := rv_ms_hs hc
  have h5 := @rv_mn_le C
  rw [e6, Bool.eq_iff_iff, List.any_eq_true]
  refine ⟨fun ⟨l, hl, h⟩ => ?_, fun h => ?_⟩
  · obtain ⟨d, l', hd, h1, h2, rfl⟩ := (ra_ps_mem (f := 4) h0).mp hl
    rw [Bool.and_eq_true, beq_iff_eq, beq_iff_eq] at h
    obtain ⟨h3, h4⟩ := h
    have h3' : d = c := h3
    subst h3'
    have hm := ra_mn_wo hC hd h1
    have e1 := ra_vl_cons (p := p) hC (show rv_mn (rv_wo C d) ≤ 4 by omega) h2
    have e2 := ra_P1 (p := p) (rv_wo_lt hC) (show rv_mn (rv_wo C d) ≤ 4 by omega) h2
    have e3 := ra_vw_le (p := p) hC hd h1
    rw [h1, decide_eq_true (by unfold ra_vw at e3 ⊢; omega)]
    rfl
  · rw [Bool.and_eq_true, decide_eq_true_eq] at h
    have hm := ra_mn_wo hC hc h.1
    have hfind := ra_P2 (p := p) (f := 4) (rv_wo_lt (c := c) hC) (by omega)
    have hin := List.mem_of_find?_eq_some hfind
    have hv := List.find?_some hfind
    rw [beq_iff_eq] at hv
    refine ⟨c :: ra_gl p 4 (rv_wo C c), (ra_ps_mem (f := 4) h0).mpr ⟨c, _, hc, h.1, hin, rfl⟩, ?_⟩
    rw [Bool.and_eq_true, beq_iff_eq, beq_iff_eq]
    refine ⟨rfl, ?_⟩
    rw [ra_vl_cons hC (by omega) hin, hv]
    exact h.2
/-- a candidate of the best order -/
theorem ra_gl_at {p : Nat → Nat → Nat} {f C i : Nat} (hC : C < 32) (hf : rv_mn C ≤ f) (hi : i < rv_mn C) : ra_gd (ra_gl p f C) i = rv_lo (ra_lds p (ra_gr p C i)) := by
  have gr_shift : ∀ (D c : Nat) (i : Nat), c = rv_lo (ra_lds p D) → ra_gr p (rv_wo D c) i = ra_gr p D (i + 1) := by
    intro D c i hc
    induction i with
    | zero => rw [ra_gr_s, hc]; rfl
    | succ i ih => rw [ra_gr_s, ra_gr_s, ih]
  induction f generalizing C i with
  | zero => omega
  | succ f ih =>
    have h0 : C ≠ 0 := fun z => by rw [(ra_mn_z hC).mpr z] at hi; omega
    have hc := ra_ldc (p := p) hC h0
    have hm := ra_mn_wo hC hc.1 hc.2.1
    rw [ra_gl, if_neg h0]
    cases i with
    | zero => rfl
    | succ i =>
      show ra_gd (ra_gl p f (rv_wo C (rv_lo (ra_lds p C)))) i = _
      rw [ih (rv_wo_lt hC) (by omega) (by omega), gr_shift C _ i rfl]
/-! the model's Kemeny -/
theorem ra_drop {l : List Nat} {i : Nat} (h : i < l.length) : l.drop i = ra_gd l i :: l.drop (i + 1) := by
  rw [List.drop_eq_getElem_cons h]
  unfold ra_gd
  rw [List.getD_eq_getElem?_getD, List.getElem?_eq_getElem h]
  rfl
theorem ra_gd_mem {l : List Nat} {i : Nat} (h : i < l.length) : ra_gd l i ∈ l := by
  unfold ra_gd
  rw [List.getD_eq_getElem?_getD, List.getElem?_eq_getElem h]
  exact List.getElem_mem h
theorem ra_mb_ok {s j : Nat} (hs : s < 32) (hj : j < rv_mn s) : ra_gd (ra_mb s) j < 5 ∧ rv_hs s (ra_gd (ra_mb s) j) = true ∧ rv_cn (ra_gd (ra_mb s) j) (rv_hs s) = j := by
  have := List.all_eq_true.mp (by decide +kernel : ((List.range 32).all fun s => (List.range (rv_mn s)).all fun j => decide (ra_gd (ra_mb s) j < 5) && rv_hs s (ra_gd (ra_mb s) j) && rv_cn (ra_gd (ra_mb s) j) (rv_hs s) == j) = true) s (rv_rg hs)
  have h2 := List.all_eq_true.mp this j (List.mem_range.mpr hj)
  rw [Bool.and_eq_true, Bool.and_eq_true, decide_eq_true_eq, beq_iff_eq] at h2
  exact ⟨h2.1.1, h2.1.2, h2.2⟩
theorem ra_cn_mn {s : Nat} (hs : s < 32) : rv_cn 5 (rv_hs s) = rv_mn s := of_decide_eq_true (List.all_eq_true.mp (by decide +kernel : ((List.range 32).all fun s => decide (rv_cn 5 (rv_hs s) = rv_mn s)) = true) s (rv_rg hs))
theorem ra_cn_mono {p : Nat → Bool} {a b : Nat} (h : a ≤ b) : rv_cn a p ≤ rv_cn b p := by
  induction b with
  | zero => have : a = 0 := by omega
            subst this; exact Nat.le_refl _
  | succ b ih =>
    by_cases e : a = b + 1
    · subst e; exact Nat.le_refl _
    · rw [rv_cn_s]
      have := ih (by omega)
      split <;> omega
/-- what stands after some orders -/
def ra_kI (p : Nat → Nat → Nat) (L : List (List Nat)) (B M : Nat) (b : List Nat) : Prop := (∀ l, l ∈ L → ra_vl p l ≤ B) ∧ L.find? (fun l => ra_vl p l == B) = some b ∧ M < 32 ∧ ∀ c, c < 5 → rv_hs M c = L.any (fun l => l.headD 9 == c && ra_vl p l == B)
theorem ra_kI_up {p : Nat → Nat → Nat} {L : List (List Nat)} {l : List Nat} (hc : l.headD 9 < 5) (h : ∀ k, k ∈ L → ra_vl p k < ra_vl p l) : ra_kI p (L ++ [l]) (ra_vl p l) (2 ^ l.headD 9) l := by
  refine ⟨fun k hk => ?_, ?_, rv_pow_lt hc, fun c hc5 => ?_⟩
  · rcases List.mem_append.mp hk with hk | hk
    · exact Nat.le_of_lt (h k hk)
    · rw [List.mem_singleton.mp hk]; exact Nat.le_refl _
  · rw [List.find?_append, List.find?_eq_none.mpr (fun k hk z => by
      rw [beq_iff_eq] at z
      have := h k hk
      omega)]
    simp
  · rw [rv_hs_pow hc hc5, List.any_append]
    have : L.any (fun k => k.headD 9 == c && ra_vl p k == ra_vl p l) = false := by
      rw [List.any_eq_false]
      intro k hk z
      rw [Bool.and_eq_true, beq_iff_eq, beq_iff_eq] at z
      have := h k hk
      omega
    rw [this]
    simp only [List.any_cons, List.any_nil, Bool.or_false, Bool.false_or, beq_self_eq_true, Bool.and_true]
    rw [Bool.eq_iff_iff, beq_iff_eq, beq_iff_eq]
    exact ⟨fun z => z.symm, fun z => z.symm⟩
theorem ra_kI_eq {p : Nat → Nat → Nat} {L : List (List Nat)} {l b : List Nat} {B M : Nat} (hc : l.headD 9 < 5) (h : ra_kI p L B M b) (e : ra_vl p l = B) : ra_kI p (L ++ [l]) B (ra_un M (2 ^ l.headD 9)) b := by
  obtain ⟨h1, h2, h3, h4⟩ := h
  refine ⟨fun k hk => ?_, ?_, ra_un_lt, fun c hc5 => ?_⟩
  · rcases List.mem_append.mp hk with hk | hk
    · exact h1 k hk
    · rw [List.mem_singleton.mp hk]; omega
  · rw [List.find?_append, h2]; rfl
  · rw [ra_un_hs' hc hc5, h4 c hc5, List.any_append]
    simp only [List.any_cons, List.any_nil, Bool.or_false, e, beq_self_eq_true, Bool.and_true]
    congr 1
    rw [Bool.eq_iff_iff, beq_iff_eq, beq_iff_eq]
    exact ⟨fun z => z.symm, fun z => z.symm⟩
theorem ra_kI_lt {p : Nat → Nat → Nat} {L : List (List Nat)} {l b : List Nat} {B M : Nat} (h : ra_kI p L B M b) (e : ra_vl p l < B) : ra_kI p (L ++ [l]) B M b := by
  obtain ⟨h1, h2, h3, h4⟩ := h
  refine ⟨fun k hk => ?_, ?_, h3, fun c hc5 => ?_⟩
  · rcases List.mem_append.mp hk with hk | hk
    · exact h1 k hk
    · rw [List.mem_singleton.mp hk]; omega
  · rw [List.find?_append, h2]; rfl
  · rw [h4 c hc5, List.any_append]
    simp only [List.any_cons, List.any_nil, Bool.or_false]
    rw [beq_false_of_ne (show ra_vl p l ≠ B by omega), Bool.and_false, Bool.or_false]
theorem ra_kI_fin {p : Nat → Nat → Nat} {s B M : Nat} {b : List Nat} (hs : s < 32) (h0 : s ≠ 0) (h : ra_kI p (ra_ps 5 s) B M b) : B = ra_V p 5 s ∧ M = ra_lds p s ∧ b = ra_gl p 5 s := by
  obtain ⟨h1, h2, h3, h4⟩ := h
  have h5 := @rv_mn_le s
  have f := ra_P2 (p := p) (f := 5) hs h5
  have e1 := ra_P1 (p := p) hs h5 (List.mem_of_find?_eq_some h2)
  have e2 := List.find?_some h2
  have e3 := h1 _ (List.mem_of_find?_eq_some f)
  have e4 := List.find?_some f
  rw [beq_iff_eq] at e2 e4
  have eB : B = ra_V p 5 s := by omega
  subst eB
  rw [f] at h2
  refine ⟨rfl, rv_hs_ext h3 ra_lds_lt (fun c hc => ?_), (Option.some.inj h2).symm⟩
  rw [h4 c hc, ra_P3 hs h0 hc]
