/-! Borda's points out of pairs -/
def rp_b1 (n m : Nat → Nat) (c d : Nat) : Nat := rv_sm 20 (fun g => n g * (1 + (if rv_q (m g) c < rv_q (m g) d then 1 else 0) - (if rv_q (m g) d < rv_q (m g) c then 1 else 0)))
theorem rp_b1_ok {n m : Nat → Nat} {c d : Nat} : rp_b1 n m c d + ra_PU n m d c = rv_sm 20 n + ra_PU n m c d := by
  unfold rp_b1 ra_PU ra_S
  rw [← rv_sm_add, ← rv_sm_add]
  refine rv_sm_congr (fun g _ => ?_)
  by_cases h1 : rv_q (m g) c < rv_q (m g) d
  · rw [if_pos h1, if_neg (show ¬ rv_q (m g) d < rv_q (m g) c by omega), if_neg (by rw [decide_eq_true_eq]; omega), if_pos (by rw [decide_eq_true_eq]; exact h1)]
    omega
  · rw [if_neg h1, if_neg (show ¬ decide (rv_q (m g) c < rv_q (m g) d) = true by rw [decide_eq_true_eq]; exact h1)]
    by_cases h2 : rv_q (m g) d < rv_q (m g) c
    · rw [if_pos h2, if_pos (by rw [decide_eq_true_eq]; exact h2)]
      omega
    · rw [if_neg h2, if_neg (by rw [decide_eq_true_eq]; exact h2)]
      omega
theorem rp_bm_eq {n m : Nat → Nat} {C c : Nat} (hm : ∀ g, g < 20 → n g ≠ 0 → m g ∈ rv_B) (hC : C < 32) (hc : c < 5) (h : rv_hs C c = true) : ra_bm n m C c = rv_sm 5 (fun d => if c = d then 0 else if rv_hs C d = true then rp_b1 n m c d else 0) := by
  unfold ra_bm
  have e1 : ∀ g, g < 20 → n g * ra_ea (m g) C c = rv_sm 5 (fun d => n g * (if c = d then 0 else if rv_hs C d = true then 1 + (if rv_q (m g) c < rv_q (m g) d then 1 else 0) - (if rv_q (m g) d < rv_q (m g) c then 1 else 0) else 0)) := fun g hg => by
    rw [rv_sm_mul]
    by_cases h0 : n g = 0
    · rw [h0, Nat.zero_mul, Nat.zero_mul]
    · rw [(ra_ea_ok (hm g hg h0) hC hc h).1]
  rw [rv_sm_congr e1, rv_sm_swap]
  refine rv_sm_congr (fun d _ => ?_)
  by_cases q : c = d
  · rw [if_pos q]
    exact rv_sm_zero (fun g _ => by rw [if_pos q, Nat.mul_zero])
  · rw [if_neg q]
    by_cases q2 : rv_hs C d = true
    · rw [if_pos q2]
      unfold rp_b1
      exact rv_sm_congr (fun g _ => by rw [if_neg q, if_pos q2])
    · rw [if_neg q2]
      exact rv_sm_zero (fun g _ => by rw [if_neg q, if_neg q2, Nat.mul_zero])
def rp_cc (C c : Nat) : Nat := rv_sm 5 (fun d => if c = d then 0 else if rv_hs C d = true then 1 else 0)
theorem rp_cc_ok {C c : Nat} (hC : C < 32) (hc : c < 5) (h : rv_hs C c = true) : rp_cc C c + 1 = rv_mn C := by
  have := rv_all2 (p := fun C c => !rv_hs C c || decide (rp_cc C c + 1 = rv_mn C)) (l := List.range 32) (m := List.range 5) (by decide +kernel) (rv_rg hC) (rv_rg hc)
  rw [h, Bool.not_true, Bool.false_or, decide_eq_true_eq] at this
  exact this
theorem rp_sm_const {k x : Nat} {p : Nat → Nat → Prop} [∀ a b, Decidable (p a b)] {c : Nat} {q : Nat → Bool} : rv_sm k (fun d => if p c d then 0 else if q d = true then x else 0) = x * rv_sm k (fun d => if p c d then 0 else if q d = true then 1 else 0) := by
  rw [← rv_sm_mul]
  refine rv_sm_congr (fun d _ => ?_)
  by_cases h1 : p c d
  · rw [if_pos h1, if_pos h1, Nat.mul_zero]
  · rw [if_neg h1, if_neg h1]
    by_cases h2 : q d = true
    · rw [if_pos h2, if_pos h2, Nat.mul_one]
    · rw [if_neg h2, if_neg h2, Nat.mul_zero]
/-- the sum of all points -/
theorem rp_ns {n m : Nat → Nat} {C : Nat} (hm : ∀ g, g < 20 → n g ≠ 0 → m g ∈ rv_B) (hC : C < 32) : ra_ns n m C = rv_sm 20 n * (rv_mn C * (rv_mn C - 1)) := by
  have e1 : ra_ns n m C = rv_sm 5 (fun c => rv_sm 5 (fun d => if rv_hs C c = true then (if c = d then 0 else if rv_hs C d = true then rp_b1 n m c d else 0) else 0)) := by
    unfold ra_ns
    refine rv_sm_congr (fun c hc => ?_)
    by_cases h : rv_hs C c = true
    · rw [if_pos h, rp_bm_eq hm hC hc h]
      exact rv_sm_congr (fun d _ => by rw [if_pos h])
    · rw [if_neg h]
      exact (rv_sm_zero (fun d _ => if_neg h)).symm
  have e2 : ra_ns n m C = rv_sm 5 (fun c => rv_sm 5 (fun d => if rv_hs C d = true then (if d = c then 0 else if rv_hs C c = true then rp_b1 n m d c else 0) else 0)) := by
    rw [e1]
    exact rv_sm_swap (n := 5) (m := 5) (f := fun c d => if rv_hs C c = true then (if c = d then 0 else if rv_hs C d = true then rp_b1 n m c d else 0) else 0)
  have e3 : ra_ns n m C + ra_ns n m C = rv_sm 5 (fun c => rv_sm 5 (fun d => (2 * rv_sm 20 n) * (if rv_hs C c = true then (if c = d then 0 else if rv_hs C d = true then 1 else 0) else 0))) := by
    rw (config := { occs := .pos [1] }) [e1]
    rw [e2, ← rv_sm_add]
    refine rv_sm_congr (fun c _ => ?_)
    rw [← rv_sm_add]
    refine rv_sm_congr (fun d _ => ?_)
    by_cases h1 : rv_hs C c = true
    · by_cases h2 : rv_hs C d = true
      · by_cases h3 : c = d
        · subst h3
          simp only [if_true, h1, Nat.mul_zero]
        · have h4 : ¬ d = c := fun z => h3 z.symm
          simp only [h1, h2, h3, h4, if_true, if_false]
          have := @rp_b1_ok n m c d
          have := @rp_b1_ok n m d c
          omega
      · simp only [h1, h2, if_true, if_false]
        by_cases h3 : c = d
        · simp only [h3, if_true]; rfl
        · simp only [h3, if_false]; rfl
    · simp only [h1, if_false]
      by_cases h2 : rv_hs C d = true
      · simp only [h2, if_true]
        by_cases h3 : d = c
        · simp only [h3, if_true]; rfl
        · simp only [h3, if_false]; rfl
      · simp only [h2, if_false]; rfl
  have e4 : rv_sm 5 (fun c => rv_sm 5 (fun d => if rv_hs C c = true then (if c = d then 0 else if rv_hs C d = true then 1 else 0) else 0)) = rv_mn C * (rv_mn C - 1) := by
    have := List.all_eq_true.mp (by decide +kernel : ((List.range 32).all fun C => decide (rv_sm 5 (fun c => rv_sm 5 (fun d => if rv_hs C c = true then (if c = d then 0 else if rv_hs C d = true then 1 else 0) else 0)) = rv_mn C * (rv_mn C - 1))) = true) C (rv_rg hC)
    exact of_decide_eq_true this
  have e5 : rv_sm 5 (fun c => rv_sm 5 (fun d => (2 * rv_sm 20 n) * (if rv_hs C c = true then (if c = d then 0 else if rv_hs C d = true then 1 else 0) else 0))) = (2 * rv_sm 20 n) * (rv_mn C * (rv_mn C - 1)) := by
    rw [← e4, ← rv_sm_mul (n := 5) (k := 2 * rv_sm 20 n)]
    exact rv_sm_congr (fun c _ => rv_sm_mul)
  rw [e5, Nat.mul_assoc] at e3
  omega
/-! who beats all, who loses to all -/
theorem rp_ba_iff {s a : Nat} {p : Nat → Nat → Nat} : ra_ba s p a = true ↔ rv_hs s a = true ∧ ∀ b, b < 5 → b ≠ a → rv_hs s b = true → p b a < p a b := by
  unfold ra_ba
  rw [Bool.and_eq_true, rv_al_iff]
  refine and_congr_right (fun _ => ⟨fun h b hb hne hs => ?_, fun h b hb => ?_⟩)
  · have := h b hb
    rw [beq_false_of_ne hne, Bool.false_or, hs, Bool.not_true, Bool.false_or, decide_eq_true_eq] at this
    exact this
  · by_cases e : b = a
    · rw [e, beq_self_eq_true, Bool.true_or]
    · rw [beq_false_of_ne e, Bool.false_or]
      cases hs : rv_hs s b
      · rfl
      · rw [Bool.not_true, Bool.false_or, decide_eq_true_eq]
        exact h b hb e hs
theorem rp_ls_iff {s a : Nat} {p : Nat → Nat → Nat} : ra_ls s p a = true ↔ (rv_hs s a = true ∧ 1 < rv_mn s) ∧ ∀ b, b < 5 → b ≠ a → rv_hs s b = true → p a b < p b a := by
  unfold ra_ls
  rw [Bool.and_eq_true, rv_al_iff, Bool.and_eq_true, decide_eq_true_eq]
  refine and_congr_right (fun _ => ⟨fun h b hb hne hs => ?_, fun h b hb => ?_⟩)
  · have := h b hb
    rw [beq_false_of_ne hne, Bool.false_or, hs, Bool.not_true, Bool.false_or, decide_eq_true_eq] at this
    exact this
  · by_cases e : b = a
    · rw [e, beq_self_eq_true, Bool.true_or]
    · rw [beq_false_of_ne e, Bool.false_or]
      cases hs : rv_hs s b
      · rfl
      · rw [Bool.not_true, Bool.false_or, decide_eq_true_eq]
        exact h b hb e hs
theorem rp_ba_dom {s a : Nat} {p : Nat → Nat → Nat} (ha : a < 5) (h : ra_ba s p a = true) : rp_dom s (2 ^ a) p := by
  have h := rp_ba_iff.mp h
  refine ⟨fun c hc e => ?_, ⟨a, ha, by rw [rv_hs_pow ha ha, beq_self_eq_true]⟩, fun x y hx hy h1 h2 h3 => ?_⟩
  · rw [rv_hs_pow ha hc] at e
    rw [eq_of_beq e]; exact h.1
  · rw [rv_hs_pow ha hx] at h1
    rw [rv_hs_pow ha hy] at h3
    rw [eq_of_beq h1]
    exact h.2 y hy (fun e => by rw [e, beq_self_eq_true] at h3; cases h3) h2
theorem rp_ls_dom {s a : Nat} {p : Nat → Nat → Nat} (hs : s < 32) (ha : a < 5) (h : ra_ls s p a = true) : rp_dom s (rv_wo s a) p := by
  have h := rp_ls_iff.mp h
  have hmn := ra_mn_wo hs ha h.1.1
  obtain ⟨y, hy, hsy⟩ := ra_mn_hs (C := rv_wo s a) (rv_wo_lt hs) (by omega)
  refine ⟨fun c hc e => ?_, ⟨y, hy, hsy⟩, fun x y hx hy h1 h2 h3 => ?_⟩
  · rw [rv_wo_hs hs ha hc, Bool.and_eq_true] at e
    exact e.1
  · rw [rv_wo_hs hs ha hx, Bool.and_eq_true, Bool.not_eq_true', decide_eq_false_iff_not] at h1
    rw [rv_wo_hs hs ha hy, h2, Bool.true_and, Bool.not_eq_false', decide_eq_true_eq] at h3
    rw [h3]
    exact h.2 x hx h1.2 h1.1
theorem rp_one {W a : Nat} (hW : W < 32) (ha : a < 5) (h0 : W ≠ 0) (h : ra_sub W (2 ^ a)) : W = 2 ^ a := by
  have hu : ∀ c, c < 5 → rv_hs W c = true → c = a := fun c hc hw => by
    have := h c hc hw
    rw [rv_hs_pow ha hc] at this
    exact eq_of_beq this
  refine rv_hs_ext hW (rv_pow_lt ha) (fun c hc => ?_)
  rw [rv_hs_pow ha hc]
  by_cases e : c = a
  · subst e
    obtain ⟨d, hd, hwd⟩ := ra_mn_hs hW (Nat.pos_of_ne_zero (fun z => h0 ((ra_mn_z hW).mp z)))
    have := hu d hd hwd
    subst this
    rw [hwd, beq_self_eq_true]
  · rw [beq_false_of_ne e, Bool.eq_false_iff]
    exact fun z => e (hu c hc z)
/-! Nanson -/
theorem rp_bm_ge {n m : Nat → Nat} {C a : Nat} (hm : ∀ g, g < 20 → n g ≠ 0 → m g ∈ rv_B) (hC : C < 32) (ha : a < 5) (h : rv_hs C a = true) (h2 : 1 < rv_mn C) (hb : ∀ d, d < 5 → d ≠ a → rv_hs C d = true → ra_PU n m d a < ra_PU n m a d) : ra_ns n m C < ra_bm n m C a * rv_mn C := by
  have h1 : (rv_sm 20 n + 1) * (rv_mn C - 1) ≤ ra_bm n m C a := by
    have e : (rv_sm 20 n + 1) * (rv_mn C - 1) = rv_sm 5 (fun d => if a = d then 0 else if rv_hs C d = true then rv_sm 20 n + 1 else 0) := by
      rw [rp_sm_const (p := fun x y => x = y) (q := rv_hs C), show rv_mn C - 1 = rp_cc C a by have := rp_cc_ok hC ha h; omega]
      rfl
    rw [e, rp_bm_eq hm hC ha h]
    refine rv_sm_le (fun d hd => ?_)
    by_cases q : a = d
    · rw [if_pos q, if_pos q]; exact Nat.le_refl _
    · rw [if_neg q, if_neg q]
      by_cases q2 : rv_hs C d = true
      · rw [if_pos q2, if_pos q2]
        have := hb d hd (fun z => q z.symm) q2
        have := @rp_b1_ok n m a d
        omega
      · rw [if_neg q2, if_neg q2]; exact Nat.le_refl _
  rw [rp_ns hm hC]
  have h3 : (rv_sm 20 n + 1) * (rv_mn C - 1) * rv_mn C ≤ ra_bm n m C a * rv_mn C := Nat.mul_le_mul_right _ h1
  have h4 : (rv_sm 20 n + 1) * (rv_mn C - 1) * rv_mn C = rv_sm 20 n * (rv_mn C * (rv_mn C - 1)) + (rv_mn C - 1) * rv_mn C := by
    rw [Nat.add_mul, Nat.add_mul, Nat.one_mul, Nat.mul_assoc, Nat.mul_comm (rv_mn C - 1) (rv_mn C)]
  have h5 : 0 < (rv_mn C - 1) * rv_mn C := Nat.mul_pos (by omega) (by omega)
  omega
theorem rp_bm_lt {n m : Nat → Nat} {C a : Nat} (hm : ∀ g, g < 20 → n g ≠ 0 → m g ∈ rv_B) (hC : C < 32) (ha : a < 5) (h : rv_hs C a = true) (h2 : 1 < rv_mn C) (hb : ∀ d, d < 5 → d ≠ a → rv_hs C d = true → ra_PU n m a d < ra_PU n m d a) : ra_bm n m C a * rv_mn C < ra_ns n m C := by
  have h1 : ra_bm n m C a ≤ (rv_sm 20 n - 1) * (rv_mn C - 1) := by
    have e : (rv_sm 20 n - 1) * (rv_mn C - 1) = rv_sm 5 (fun d => if a = d then 0 else if rv_hs C d = true then rv_sm 20 n - 1 else 0) := by
      rw [rp_sm_const (p := fun x y => x = y) (q := rv_hs C), show rv_mn C - 1 = rp_cc C a by have := rp_cc_ok hC ha h; omega]
      rfl
    rw [e, rp_bm_eq hm hC ha h]
    refine rv_sm_le (fun d hd => ?_)
    by_cases q : a = d
    · rw [if_pos q, if_pos q]; exact Nat.le_refl _
    · rw [if_neg q, if_neg q]
      by_cases q2 : rv_hs C d = true
      · rw [if_pos q2, if_pos q2]
        have := hb d hd (fun z => q z.symm) q2
        have := @rp_b1_ok n m a d
        omega
      · rw [if_neg q2, if_neg q2]; exact Nat.le_refl _
  have hmn := ra_mn_wo hC ha h
  obtain ⟨y, hy, hsy⟩ := ra_mn_hs (C := rv_wo C a) (rv_wo_lt hC) (by omega)
  rw [rv_wo_hs hC ha hy, Bool.and_eq_true, Bool.not_eq_true', decide_eq_false_iff_not] at hsy
  have hN : 1 ≤ rv_sm 20 n := by
    have := hb y hy hsy.2 hsy.1
    have := @ra_PU_le n m y a
    omega
  rw [rp_ns hm hC]
  have h3 : ra_bm n m C a * rv_mn C ≤ (rv_sm 20 n - 1) * (rv_mn C - 1) * rv_mn C := Nat.mul_le_mul_right _ h1
  obtain ⟨N, hN⟩ : ∃ N, rv_sm 20 n = N + 1 := ⟨rv_sm 20 n - 1, by omega⟩
  rw [hN, Nat.add_sub_cancel] at h3
  rw [hN]
  have h4 : (N + 1) * (rv_mn C * (rv_mn C - 1)) = N * (rv_mn C - 1) * rv_mn C + (rv_mn C - 1) * rv_mn C := by
    rw [Nat.add_mul, Nat.one_mul, Nat.mul_assoc, Nat.mul_comm (rv_mn C - 1) (rv_mn C)]
  have h5 : 0 < (rv_mn C - 1) * rv_mn C := Nat.mul_pos (by omega) (by omega)
  omega
theorem rp_nn_hs {n m : Nat → Nat} {C c : Nat} (hc : c < 5) : rv_hs (ra_nn n m C) c = true ↔ rv_hs C c = true ∧ ¬ ra_bm n m C c * rv_mn C < ra_ns n m C := by
  unfold ra_nn ra_nb
  rw [rv_df_hs hc, rv_ms_hs hc]
  cases rv_hs C c
  · simp
  · simp
theorem rp_nn_sub {n m : Nat → Nat} {C : Nat} : ra_sub (ra_nn n m C) C := fun c hc h => ((rp_nn_hs hc).mp h).1
theorem rp_nn_mn {n m : Nat → Nat} {C : Nat} (hC : C < 32) : ra_nn n m C = C ∨ rv_mn (ra_nn n m C) < rv_mn C := ra_df_mn hC ra_nb_lt
theorem rp_nf_fix {n m : Nat → Nat} {f C : Nat} (hC : C < 32) (hf : rv_mn C ≤ f) : ra_nn n m (ra_nf n m f C) = ra_nf n m f C := by
  induction f generalizing C with
  | zero =>
    have : C = 0 := (ra_mn_z hC).mp (by omega)
    subst this
    show ra_nn n m 0 = 0
    exact rv_hs_ext ra_nn_lt (by decide) (fun c hc => by
      rw [ra_hs0, Bool.eq_false_iff]
      intro z
      have := ((rp_nn_hs hc).mp z).1
      rw [ra_hs0] at this
      cases this)
  | succ f ih =>
    rw [ra_nf_s]
    by_cases q : ra_nn n m C = C
    · rw [if_pos q, q]
    · rw [if_neg q]
      rcases rp_nn_mn (n := n) (m := m) hC with z | z
      · exact absurd z q
      · exact ih ra_nn_lt (by omega)
theorem rp_nf_in {n m : Nat → Nat} {f C a : Nat} (hm : ∀ g, g < 20 → n g ≠ 0 → m g ∈ rv_B) (hC : C < 32) (ha : a < 5) (h : rv_hs C a = true) (hb : ∀ d, d < 5 → d ≠ a → rv_hs C d = true → ra_PU n m d a < ra_PU n m a d) : rv_hs (ra_nf n m f C) a = true := by
  induction f generalizing C with
  | zero => exact h
  | succ f ih =>
    rw [ra_nf_s]
    by_cases q : ra_nn n m C = C
    · rw [if_pos q]; exact h
    · rw [if_neg q]
      refine ih ra_nn_lt ((rp_nn_hs ha).mpr ⟨h, ?_⟩) (fun d hd hne hs => hb d hd hne (rp_nn_sub d hd hs))
      by_cases h2 : 1 < rv_mn C
      · have := rp_bm_ge hm hC ha h h2 hb
        omega
      · rw [rp_ns hm hC, show rv_mn C - 1 = 0 by omega, Nat.mul_zero, Nat.mul_zero]
        exact Nat.not_lt_zero _
theorem rp_nf_one {n m : Nat → Nat} {s a : Nat} (hm : ∀ g, g < 20 → n g ≠ 0 → m g ∈ rv_B) (hs : s < 32) (ha : a < 5) (h : rv_hs s a = true) (hb : ∀ d, d < 5 → d ≠ a → rv_hs s d = true → ra_PU n m d a < ra_PU n m a d) : ra_nf n m 5 s = 2 ^ a := by
  obtain ⟨k1, k2, k3⟩ := ra_nf_ok (n := n) (m := m) (f := 5) hs
  have hin := rp_nf_in (f := 5) hm hs ha h hb
  have hfix := rp_nf_fix (n := n) (m := m) (f := 5) hs rv_mn_le
  have hb' : ∀ d, d < 5 → d ≠ a → rv_hs (ra_nf n m 5 s) d = true → ra_PU n m d a < ra_PU n m a d := fun d hd hne hsd => hb d hd hne (k2 d hd hsd)
  generalize ra_nf n m 5 s = C at k1 k2 k3 hin hfix hb'
  by_cases h2 : 1 < rv_mn C
  · exfalso
    have h3 := rp_bm_ge hm k1 ha hin h2 hb'
    have h4 : rv_sm 5 (fun c => if rv_hs C c = true then ra_ns n m C else 0) < rv_sm 5 (fun c => if rv_hs C c = true then ra_bm n m C c * rv_mn C else 0) := by
      refine rp_sm_lt (fun c hc => ?_) ha ?_
      · by_cases q : rv_hs C c = true
        · rw [if_pos q, if_pos q]
          rw [← hfix] at q
          have := ((rp_nn_hs hc).mp q).2
          omega
        · rw [if_neg q, if_neg q]; exact Nat.le_refl _
      · rw [if_pos hin, if_pos hin]; exact h3
    have e1 : rv_sm 5 (fun c => if rv_hs C c = true then ra_ns n m C else 0) = ra_ns n m C * rv_mn C := by
      rw [ra_sm_cn, ra_cn_mn k1]
    have e2 : rv_sm 5 (fun c => if rv_hs C c = true then ra_bm n m C c * rv_mn C else 0) = rv_mn C * ra_ns n m C := by
      unfold ra_ns
      rw [← rv_sm_mul]
      refine rv_sm_congr (fun c _ => ?_)
      by_cases q : rv_hs C c = true
      · rw [if_pos q, if_pos q, Nat.mul_comm]
      · rw [if_neg q, if_neg q, Nat.mul_zero]
    rw [e1, e2, Nat.mul_comm] at h4
    exact Nat.lt_irrefl _ h4
  · refine rv_hs_ext k1 (rv_pow_lt ha) (fun c hc => ?_)
    rw [rv_hs_pow ha hc]
    by_cases e : c = a
    · rw [e, hin, beq_self_eq_true]
    · rw [beq_false_of_ne e, Bool.eq_false_iff]
      intro z
      have h3 := ra_mn_wo k1 ha hin
      have h4 : rv_hs (rv_wo C a) c = true := by
        rw [rv_wo_hs k1 ha hc, z, Bool.true_and, Bool.not_eq_true', decide_eq_false_iff_not]
        exact e
      have h5 := ra_mn_wo (rv_wo_lt k1) hc h4
      omega
theorem rp_nf_sub {n m : Nat → Nat} {f C : Nat} (hC : C < 32) : ra_sub (ra_nf n m f C) C := (ra_nf_ok hC).2.1
theorem rp_nf_not {n m : Nat → Nat} {s a : Nat} (hm : ∀ g, g < 20 → n g ≠ 0 → m g ∈ rv_B) (hs : s < 32) (ha : a < 5) (h : rv_hs s a = true) (h2 : 1 < rv_mn s) (hb : ∀ d, d < 5 → d ≠ a → rv_hs s d = true → ra_PU n m a d < ra_PU n m d a) : rv_hs (ra_nf n m 5 s) a = false := by
  have h3 := rp_bm_lt hm hs ha h h2 hb
  have h4 : rv_hs (ra_nn n m s) a = false := Bool.eq_false_iff.mpr (fun z => ((rp_nn_hs ha).mp z).2 h3)
  rw [ra_nf_s, if_neg (fun z => by rw [z, h] at h4; cases h4), Bool.eq_false_iff]
  intro z
  have := rp_nf_sub (n := n) (m := m) (f := 4) ra_nn_lt a ha z
  rw [h4] at this
  cases this
/-! together -/
theorem rp_champ {rule s a : Nat} {n m : Nat → Nat} (hr : rule = 2 ∨ rule = 3 ∨ rule = 4 ∨ rule = 5 ∨ rule = 9 ∨ rule = 10 ∨ rule = 11) (hs : s < 32) (hp : rp_pf n m) (ha : a < 5) (h : ra_ba s (ra_P s n m) a = true) : ra_W rule s n m = 2 ^ a := by
  have hi := rp_ba_iff.mp h
  have h0 : s ≠ 0 := rp_ne0 hi.1
  have hd := rp_ba_dom ha h
  by_cases q : rule = 2 ∨ rule = 4 ∨ rule = 5 ∨ rule = 11
  · have hw := ra_W_ok (rule := rule) (n := n) (m := m) hs
    exact rp_one hw.1 ha (hw.2.2 h0) (rp_W_sub q hs h0 hd)
  · rcases (show rule = 3 ∨ rule = 9 ∨ rule = 10 by omega) with rfl | rfl | rfl
    · rw [rp_W3]
      refine rp_mo_one ha hi.1 (fun b hb hsb hne => ?_)
      have hpp : ∀ a b, ra_P s n m a b ≤ 2000 := fun a b => hp.p
      have b1 := rp_mm_bd (s := s) (c := b) hpp
      have b2 := rp_mm_bd (s := s) (c := a) hpp
      rw [rp_pt3, rp_pt3, rp_neg_int b1.1 b1.2, rp_neg_int b2.1 b2.2]
      have hab := hi.2 b hb hne hsb
      have h1 : (ra_P s n m a b : Int) - ra_P s n m b a ≤ (ra_mm s (ra_P s n m) b 5).2.toInt := by
        rcases rp_mm_ok (s := s) (c := b) (k := 5) hpp with ⟨_, _, i3⟩ | ⟨_, i2, _⟩
        · rw [i3 a ha (fun z => hne z.symm)] at hi; cases hi.1
        · exact i2 a ha (fun z => hne z.symm) hi.1
      have h2 : (ra_mm s (ra_P s n m) a 5).2.toInt ≤ 0 := by
        rcases rp_mm_ok (s := s) (c := a) (k := 5) hpp with ⟨_, i2, _⟩ | ⟨_, _, d, i3, i4, i5, i6⟩
        · rw [i2]; decide
        · have := hi.2 d i3 i4 i5
          omega
      omega
    · rw [rp_W9]
      unfold ra_bw
      have e : ra_ln (ra_ba s (ra_P s n m)) 5 = a := ra_ln_one ha h (fun j hj hb => ra_ba_u hj ha h hb)
      rw [e, if_neg (by omega)]
    · rw [rp_W10]
      refine rp_nf_one hp.2 hs ha hi.1 (fun d hd hne hsd => ?_)
      rw [ra_PU_P hsd hi.1, ra_PU_P hi.1 hsd]
      exact hi.2 d hd hne hsd
theorem rp_last {rule s a : Nat} {n m : Nat → Nat} (hr : rule = 4 ∨ rule = 5 ∨ rule = 10 ∨ rule = 11) (hs : s < 32) (hp : rp_pf n m) (ha : a < 5) (h : ra_ls s (ra_P s n m) a = true) : rv_hs (ra_W rule s n m) a = false := by
  have hi := rp_ls_iff.mp h
  have h0 : s ≠ 0 := rp_ne0 hi.1.1
  by_cases q : rule = 10
  · subst q
    rw [rp_W10]
    refine rp_nf_not hp.2 hs ha hi.1.1 hi.1.2 (fun d hd hne hsd => ?_)
    rw [ra_PU_P hsd hi.1.1, ra_PU_P hi.1.1 hsd]
    exact hi.2 d hd hne hsd
  · rw [Bool.eq_false_iff]
    intro z
    have := rp_W_sub (show rule = 2 ∨ rule = 4 ∨ rule = 5 ∨ rule = 11 by omega) hs h0 (rp_ls_dom hs ha h) a ha z
    rw [rv_wo_hs hs ha ha, Bool.and_eq_true, Bool.not_eq_true', decide_eq_false_iff_not] at this
    exact this.2 rfl
