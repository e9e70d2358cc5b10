/-! a set that dominates holds the winners by pairs -/
/-- each in S beats each of s that is not in S; S is not empty -/
def rp_dom (s S : Nat) (p : Nat → Nat → Nat) : Prop := ra_sub S s ∧ (∃ y, y < 5 ∧ rv_hs S y = true) ∧ ∀ a b, a < 5 → b < 5 → rv_hs S a = true → rv_hs s b = true → rv_hs S b = false → p b a < p a b
theorem rp_off {s a b : Nat} {n m : Nat → Nat} (h : rv_hs s a = false ∨ rv_hs s b = false) : ra_P s n m a b = 0 := ra_S_zero (fun g _ _ => by
  rcases h with h | h
  · rw [h]; rfl
  · rw [h, Bool.and_false]; rfl)
theorem rp_hs_of {s a b : Nat} {n m : Nat → Nat} (h : 0 < ra_P s n m a b) : rv_hs s a = true ∧ rv_hs s b = true := by
  constructor
  · cases q : rv_hs s a
    · rw [rp_off (Or.inl q)] at h; omega
    · rfl
  · cases q : rv_hs s b
    · rw [rp_off (Or.inr q)] at h; omega
    · rfl
/-! Schulze -/
theorem rp_fw_up {s v k a b : Nat} {p : Nat → Nat → Nat} : ra_fw s p v a b ≤ ra_fw s p (v + k) a b := by
  induction k with
  | zero => exact Nat.le_refl _
  | succ k ih => rw [← Nat.add_assoc, ra_fw_s]; exact Nat.le_trans ih (Nat.le_max_left _ _)
theorem rp_fw_0 {s S v x y : Nat} {p : Nat → Nat → Nat} (h : rp_dom s S p) (hv : v ≤ 5) (hx : x < 5) (hy : y < 5) (h1 : rv_hs S x = false) (h2 : rv_hs S y = true) : ra_fw s p v x y = 0 := by
  induction v generalizing x y with
  | zero =>
    rw [ra_fw_0]
    by_cases q : rv_hs s x = true ∧ rv_hs s y = true ∧ p y x < p x y
    · have := h.2.2 y x hy hx h2 q.1 h1
      omega
    · rw [if_neg q]
  | succ v ih =>
    rw [ra_fw_s, ih (by omega) hx hy h1 h2, Nat.zero_max]
    by_cases q : rv_hs S v = true
    · rw [ih (by omega) hx (by omega) h1 q, Nat.zero_min]
    · rw [ih (by omega) (show v < 5 by omega) hy (Bool.eq_false_iff.mpr q) h2, Nat.min_zero]
theorem rp_sc_sub {s S : Nat} {p : Nat → Nat → Nat} (h : rp_dom s S p) : ra_sub (ra_sc s p) S := fun x hx hw => by
  unfold ra_sc at hw
  rw [rv_ms_hs hx, Bool.and_eq_true, rv_al_iff] at hw
  cases hS : rv_hs S x
  · obtain ⟨y, hy, hSy⟩ := h.2.1
    have h1 := rp_fw_0 h (Nat.le_refl 5) hx hy hS hSy
    have hb := h.2.2 y x hy hx hSy hw.1 hS
    have h2 : ra_fw s p 0 y x = p y x := by rw [ra_fw_0, if_pos ⟨h.1 y hy hSy, hw.1, hb⟩]
    have h3 := @rp_fw_up s 0 5 y x p
    have h4 := hw.2 y hy
    unfold ra_sw at h4
    rw [Nat.zero_add] at h3
    rw [Bool.not_eq_true', decide_eq_false_iff_not] at h4
    omega
  · rfl
/-! ranked pairs -/
/-- no way by locked pairs from outside into S -/
def rp_cl (S : Nat) (z : ra_Z) : Prop := ∀ x y, z.2 x y = true → rv_hs S y = true → rv_hs S x = true
theorem rp_lk_1 {z : ra_Z} {k x y : Nat} (h : z.1 x y = true) : (ra_lk z k).1 x y = true := by
  unfold ra_lk
  by_cases q : z.2 (k % 5) (k / 5) = true
  · rw [if_pos q]; exact h
  · rw [if_neg q]
    show (z.1 x y || (x == k / 5 && y == k % 5)) = true
    rw [h, Bool.true_or]
theorem rp_fold_1 {l : List Nat} {z : ra_Z} {x y : Nat} (h : z.1 x y = true) : (l.foldl ra_lk z).1 x y = true := by
  induction l generalizing z with
  | nil => exact h
  | cons k l ih => exact ih (rp_lk_1 h)
theorem rp_lk_cl {S k : Nat} {z : ra_Z} (h : rp_cl S z) (hk : rv_hs S (k % 5) = true → rv_hs S (k / 5) = true) : rp_cl S (ra_lk z k) := by
  unfold ra_lk
  by_cases q : z.2 (k % 5) (k / 5) = true
  · rw [if_pos q]; exact h
  · rw [if_neg q]
    intro x y hxy hy
    have hxy : (z.2 x y || ((x == k / 5 || z.2 x (k / 5)) && (y == k % 5 || z.2 (k % 5) y))) = true := hxy
    rcases Bool.or_eq_true_iff.mp hxy with e | e
    · exact h x y e hy
    · rw [Bool.and_eq_true] at e
      have h5 : rv_hs S (k % 5) = true := by
        rcases Bool.or_eq_true_iff.mp e.2 with e2 | e2
        · rw [← eq_of_beq e2]; exact hy
        · exact h _ _ e2 hy
      rcases Bool.or_eq_true_iff.mp e.1 with e1 | e1
      · rw [eq_of_beq e1]; exact hk h5
      · exact h _ _ e1 (hk h5)
theorem rp_fold_cl {S : Nat} {l : List Nat} {z : ra_Z} (h : rp_cl S z) (hl : ∀ k, k ∈ l → rv_hs S (k % 5) = true → rv_hs S (k / 5) = true) : rp_cl S (l.foldl ra_lk z) ∧ ∀ k, k ∈ l → rv_hs S (k / 5) = true → rv_hs S (k % 5) = false → (l.foldl ra_lk z).1 (k / 5) (k % 5) = true := by
  induction l generalizing z with
  | nil => exact ⟨h, fun k hk => by cases hk⟩
  | cons j l ih =>
    have h1 := rp_lk_cl h (hl j List.mem_cons_self)
    obtain ⟨i1, i2⟩ := ih h1 (fun k hk => hl k (List.mem_cons_of_mem _ hk))
    refine ⟨i1, fun k hk h5 h6 => ?_⟩
    rcases List.mem_cons.mp hk with rfl | hk
    · refine rp_fold_1 (l := l) (z := ra_lk z k) ?_
      unfold ra_lk
      by_cases q : z.2 (k % 5) (k / 5) = true
      · have := h _ _ q h5
        rw [h6] at this
        cases this
      · rw [if_neg q]
        show (z.1 (k / 5) (k % 5) || (k / 5 == k / 5 && k % 5 == k % 5)) = true
        rw [beq_self_eq_true, beq_self_eq_true, Bool.and_self, Bool.or_true]
    · exact i2 k hk h5 h6
theorem rp_zf_dom {s S N x y : Nat} {n m : Nat → Nat} (h : rp_dom s S (ra_P s n m)) (hN : rv_sm 20 n ≤ N) (hx : x < 5) (hy : y < 5) (h1 : rv_hs S x = true) (h2 : rv_hs s y = true) (h3 : rv_hs S y = false) : (ra_zf (ra_P s n m) N).1 x y = true := by
  have hp := h.2.2 x y hx hy h1 h2 h3
  have hq := @ra_P_le s x y n m
  obtain ⟨-, h5⟩ := rp_fold_cl (S := S) (l := ra_r2 (ra_ld2 (ra_P s n m)) N) (z := ra_z0) (fun x y e => by cases e) (fun k hk e => by
    obtain ⟨k1, k2, k3⟩ := ra_r2_mem.mp hk
    unfold ra_ld2 at k2
    cases q : rv_hs S (k / 5)
    · have hs := rp_hs_of (s := s) (n := n) (m := m) (a := k / 5) (b := k % 5) (by omega)
      have := h.2.2 (k % 5) (k / 5) (by omega) (by omega) e hs.1 q
      omega
    · rfl)
  have hk : 5 * x + y ∈ ra_r2 (ra_ld2 (ra_P s n m)) N := ra_r2_mem.mpr (by
    unfold ra_ld2
    rw [show (5 * x + y) / 5 = x by omega, show (5 * x + y) % 5 = y by omega]
    omega)
  have := h5 _ hk
  rw [show (5 * x + y) / 5 = x by omega, show (5 * x + y) % 5 = y by omega] at this
  exact this h1 h3
theorem rp_rw_sub {s S N : Nat} {n m : Nat → Nat} (h : rp_dom s S (ra_P s n m)) (hN : rv_sm 20 n ≤ N) : ra_sub (ra_rw s (ra_zf (ra_P s n m) N)) S := fun x hx hw => by
  unfold ra_rw at hw
  rw [rv_ms_hs hx, Bool.and_eq_true, rv_al_iff] at hw
  cases hS : rv_hs S x
  · obtain ⟨y, hy, hSy⟩ := h.2.1
    have h1 := rp_zf_dom h hN hy hx hSy hw.1 hS
    have h2 := hw.2 y hy
    rw [h1] at h2
    cases h2
  · rfl
/-- of two pairs one way and back, one at most is locked -/
theorem rp_locked {p : Nat → Nat → Nat} {N a b : Nat} : ¬ ((ra_zf p N).1 a b = true ∧ (ra_zf p N).1 b a = true) := fun h => by
  obtain ⟨k1, k2, k3⟩ := @ra_ok_zf p N
  have := k2 a b a (k3 a b h.1) (k3 b a h.2)
  rw [k1 a] at this
  cases this
/-! Copeland -/
theorem rp_co_sub {s S : Nat} {p : Nat → Nat → Nat} (h : rp_dom s S p) : ra_sub (ra_mo s (ra_co s p)) S := fun x hx hw => by
  have hw := (rp_mo_hs hx).mp hw
  cases hS : rv_hs S x
  · obtain ⟨y, hy, hSy⟩ := h.2.1
    have h1 := hw.2 y hy (h.1 y hy hSy)
    rw [rp_co, rp_co, rp_nat_int (by have := @rp_co_le s y p; omega), rp_nat_int (by have := @rp_co_le s x p; omega)] at h1
    have hxy := h.2.2 y x hy hx hSy hw.1 hS
    have h2 : rv_sm 5 (rp_ct s p x) < rv_sm 5 (rp_ct s p y) := by
      refine rp_sm_lt (fun d hd => ?_) hx ?_
      · by_cases hSd : rv_hs S d = true
        · have h0 : rp_ct s p x d = 0 := by
            unfold rp_ct
            by_cases e : x = d
            · rw [if_pos e]
            · have := h.2.2 d x hd hx hSd hw.1 hS
              rw [if_neg e, if_pos (h.1 d hd hSd), if_neg (by omega), if_pos this]
          omega
        · have hSd := Bool.eq_false_iff.mpr hSd
          by_cases hsd : rv_hs s d = true
          · have := h.2.2 y d hy hd hSy hsd hSd
            have h0 : rp_ct s p y d = 2 := by
              unfold rp_ct
              have e : ¬ y = d := fun e => by rw [e, hSd] at hSy; cases hSy
              rw [if_neg e, if_pos hsd, if_pos this]
            have := @rp_ct_le s x d p
            omega
          · have h0 : rp_ct s p x d = 0 := by
              unfold rp_ct
              by_cases e : x = d
              · rw [if_pos e]
              · rw [if_neg e, if_neg hsd]
            omega
      · have h0 : rp_ct s p x x = 0 := if_pos rfl
        have h3 : rp_ct s p y x = 2 := by
          unfold rp_ct
          have e : ¬ y = x := fun e => by rw [e, hS] at hSy; cases hSy
          rw [if_neg e, if_pos hw.1, if_pos hxy]
        omega
    omega
  · rfl
