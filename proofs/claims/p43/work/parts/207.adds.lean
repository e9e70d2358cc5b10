/-! what the poll adds to a row: by digits, then by ballots -/
/-- the first digit in a set, from place k on -/
def ra_fd (x : Nat → Nat) (C : Nat) : Nat := if rv_hd C (x 0) = true then x 0 else if rv_hd C (x 1) = true then x 1 else if rv_hd C (x 2) = true then x 2 else if rv_hd C (x 3) = true then x 3 else if rv_hd C (x 4) = true then x 4 else 0
/-- the sum over the first k groups of those of whom p holds -/
def ra_S (k : Nat) (n : Nat → Nat) (p : Nat → Bool) : Nat := rv_sm k (fun g => if p g = true then n g else 0)
theorem ra_S_congr {k : Nat} {n : Nat → Nat} {p q : Nat → Bool} (h : ∀ g, g < k → n g ≠ 0 → p g = q g) : ra_S k n p = ra_S k n q := by
  refine rv_sm_congr (fun g hg => ?_)
  by_cases h0 : n g = 0
  · rw [h0]; simp
  · rw [h g hg h0]
theorem ra_S_le {k : Nat} {n : Nat → Nat} {p : Nat → Bool} : ra_S k n p ≤ rv_sm k n := by
  refine rv_sm_le (fun g _ => ?_)
  split
  · exact Nat.le_refl _
  · exact Nat.zero_le _
theorem ra_S_mono {k : Nat} {n : Nat → Nat} {p q : Nat → Bool} (h : ∀ g, g < k → p g = true → q g = true) : ra_S k n p ≤ ra_S k n q := by
  refine rv_sm_le (fun g hg => ?_)
  split
  · rename_i h1; rw [if_pos (h g hg h1)]; exact Nat.le_refl _
  · exact Nat.zero_le _
/-- a row, added to by sums over groups -/
def ra_ad (A k : Nat) (f : Nat → Nat → Nat) (w : rv_W) : rv_W := fun c j => if c = A ∧ j < 5 then w A j + Int32.ofNat (f k j) else w c j
def ra_fx (n : Nat → Nat) (x : Nat → Nat → Nat) (C : Nat) (k c : Nat) : Nat := ra_S k n (fun g => ra_fd (x g) C == c + 1)
theorem rv_ci_lt0 {d : Nat} (h : d ≤ 5) : (rv_ci d < 0) = (d = 0) := by
  have := List.all_eq_true.mp (by decide +kernel : ((List.range 6).all fun d => decide ((rv_ci d < 0) ↔ (d = 0))) = true) d (rv_rg (by omega))
  exact propext (of_decide_eq_true this)
theorem rv_ci_lt5 {d : Nat} (h : d ≤ 5) : rv_ci d < (5 : Int32) := by
  have := List.all_eq_true.mp (by decide +kernel : ((List.range 6).all fun d => decide (rv_ci d < (5 : Int32))) = true) d (rv_rg (by omega))
  exact of_decide_eq_true this
theorem rv_ci_p {d : Nat} (h : d ≠ 0) : rv_ci d = Int32.ofNat (d - 1) := by
  obtain ⟨e, rfl⟩ : ∃ e, d = e + 1 := ⟨d - 1, by omega⟩
  exact rv_ci_succ
theorem ra_ad_0 {A : Nat} {f : Nat → Nat → Nat} {w : rv_W} (h : ∀ c, f 0 c = 0) : ra_ad A 0 f w = w := by
  funext c j; unfold ra_ad
  split
  · rename_i q; rw [h, q.1]; exact Int32.add_zero _
  · rfl
theorem ra_ad_s {A k c : Nat} {n : Nat → Nat} {p : Nat → Nat → Bool} {w : rv_W} (hc : c < 5) (h1 : p k c = true) (h2 : ∀ j, j < 5 → j ≠ c → p k j = false) : rv_up (ra_ad A k (fun k j => ra_S k n (fun g => p g j)) w) A c (ra_ad A k (fun k j => ra_S k n (fun g => p g j)) w A c + Int32.ofNat (n k)) = ra_ad A (k + 1) (fun k j => ra_S k n (fun g => p g j)) w := by
  funext c' j
  have e : ∀ j, ra_S (k + 1) n (fun g => p g j) = ra_S k n (fun g => p g j) + if p k j = true then n k else 0 := fun j => rfl
  unfold rv_up
  by_cases q : c' = A ∧ j = c
  · obtain ⟨rfl, rfl⟩ := q
    rw [if_pos ⟨rfl, rfl⟩]
    unfold ra_ad
    dsimp only
    rw [if_pos ⟨rfl, hc⟩, if_pos ⟨rfl, hc⟩, e, if_pos h1, Int32.ofNat_add, Int32.add_assoc]
  · rw [if_neg q]
    unfold ra_ad
    dsimp only
    by_cases q2 : c' = A ∧ j < 5
    · rw [if_pos q2, if_pos q2, e, if_neg (by rw [h2 j q2.2 (fun z => q ⟨q2.1, z⟩)]; decide), Nat.add_zero]
    · rw [if_neg q2, if_neg q2]
theorem ra_ad_n {A k : Nat} {n : Nat → Nat} {p : Nat → Nat → Bool} {w : rv_W} (h2 : ∀ j, j < 5 → p k j = false) : ra_ad A k (fun k j => ra_S k n (fun g => p g j)) w = ra_ad A (k + 1) (fun k j => ra_S k n (fun g => p g j)) w := by
  funext c' j
  have e : ∀ j, ra_S (k + 1) n (fun g => p g j) = ra_S k n (fun g => p g j) + if p k j = true then n k else 0 := fun j => rfl
  unfold ra_ad
  dsimp only
  by_cases q2 : c' = A ∧ j < 5
  · rw [if_pos q2, if_pos q2, e, if_neg (by rw [h2 j q2.2]; decide), Nat.add_zero]
  · rw [if_neg q2, if_neg q2]
theorem ra_ad_ne {A k c j : Nat} {f : Nat → Nat → Nat} {w : rv_W} (h : c ≠ A) : ra_ad A k f w c j = w c j := if_neg (fun z => h z.1)
/-- the digit at a place is in the set and none before: then it is the first -/
theorem ra_fd_at {x : Nat → Nat} {C k : Nat} (hk : k < 5) (h : rv_hd C (x k) = true) (hb : ∀ j, j < k → rv_hd C (x j) = false) : ra_fd x C = x k := by
  unfold ra_fd
  rcases k with _ | _ | _ | _ | _ | k
  · rw [if_pos h]
  · rw [if_neg (by rw [hb 0 (by omega)]; decide), if_pos h]
  · rw [if_neg (by rw [hb 0 (by omega)]; decide), if_neg (by rw [hb 1 (by omega)]; decide), if_pos h]
  · rw [if_neg (by rw [hb 0 (by omega)]; decide), if_neg (by rw [hb 1 (by omega)]; decide), if_neg (by rw [hb 2 (by omega)]; decide), if_pos h]
  · rw [if_neg (by rw [hb 0 (by omega)]; decide), if_neg (by rw [hb 1 (by omega)]; decide), if_neg (by rw [hb 2 (by omega)]; decide), if_neg (by rw [hb 3 (by omega)]; decide), if_pos h]
  · omega
theorem ra_fd_no {x : Nat → Nat} {C : Nat} (hb : ∀ j, j < 5 → rv_hd C (x j) = false) : ra_fd x C = 0 := by
  unfold ra_fd
  rw [if_neg (by rw [hb 0 (by omega)]; decide), if_neg (by rw [hb 1 (by omega)]; decide), if_neg (by rw [hb 2 (by omega)]; decide), if_neg (by rw [hb 3 (by omega)]; decide), if_neg (by rw [hb 4 (by omega)]; decide)]
theorem rv_hd_pos {C d : Nat} (h : rv_hd C d = true) : d ≠ 0 := by
  unfold rv_hd at h
  simp only [Bool.and_eq_true, decide_eq_true_eq] at h
  exact h.1
theorem t_addFirsts {C A : Nat} {n : Nat → Nat} {x : Nat → Nat → Nat} {w : rv_W} (hC : C < 32) (hA : A < 31 ∨ 52 < A) (hn : ∀ g, g < 20 → w 31 g = Int32.ofNat (n g)) (hx : rv_Row x w) : f_X5_addFirsts (Int32.ofNat C) A w = some (0, ra_ad A 20 (ra_fx n x C) w) := by
  unfold f_X5_addFirsts
  refine rv_E0 20 (fun k => ra_ad A k (ra_fx n x C) w) w (ra_ad_0 (fun _ => rfl)).symm (fun ag g hg => ?_) (fun ag => ?_) (by decide)
  · rw [if_pos ((rv_l20 (by omega)).mpr hg)]
    have hpl : ∀ k, k < 5 → ra_ad A g (ra_fx n x C) w (33 + g) k = rv_ci (x g k) := fun k hk => by
      rw [ra_ad_ne (by omega)]; exact (hx g hg k hk).1
    refine rv_C0 5 (fun k w' => w' = ra_ad A g (ra_fx n x C) w ∧ ∀ j, j < k → rv_hd C (x g j) = false) 0 _ ⟨rfl, fun j hj => by omega⟩ (by omega) (by decide) (fun ag5 k w8 hk5 hI ih => ?_)
    obtain ⟨rfl, hb⟩ := hI
    by_cases hk : k < 5
    · have hd := (hx g hg k hk).2
      simp only [rv_lt5 hk, if_true, rv_ck20 hg, rv_ck5 hk, rv_nn20 hg, rv_nn5 hk, hpl k hk, e_hasd hC hd, rv_bd_some, rv_lt, rv_n_succ]
      by_cases h : rv_hd C (x g k) = true
      · have hp := rv_hd_pos h
        have hp5 : x g k - 1 < 5 := by omega
        simp only [h, rv_b2_0, rv_ci_lt0 hd, hp, rv_ci_lt5 hd, if_true, if_false, rv_ci_p hp, rv_ck5 hp5, rv_nn5 hp5, Bool.true_eq_false, rv_nng (show x g k - 1 < 2147483648 by omega), rv_lt5 hp5]
        refine congrArg _ ?_
        have e1 := ra_fd_at hk h hb
        rw [ra_ad_ne (c := 31) (by omega), hn g hg]
        refine ra_ad_s (p := fun g c => ra_fd (x g) C == c + 1) (by omega) ?_ (fun j hj hne => ?_)
        · rw [e1]; exact beq_iff_eq.mpr (by omega)
        · rw [e1]; exact beq_false_of_ne (by omega)
      · have h' : rv_hd C (x g k) = false := by simpa using h
        simp only [h', rv_b2_0, if_true]
        refine ih hk _ ⟨rfl, fun j hj => ?_⟩
        by_cases hjk : j = k
        · rw [hjk]; exact h'
        · exact hb j (by omega)
    · have : k = 5 := by omega
      subst this
      simp only [rv_ge5, if_false, rv_lt, rv_n_succ]
      refine congrArg _ ?_
      refine ra_ad_n (p := fun g c => ra_fd (x g) C == c + 1) (fun j hj => ?_)
      rw [ra_fd_no hb]
      exact beq_false_of_ne (by omega)
  · rw [if_neg (by decide)]
/-- the digit at one place -/
def ra_px (n : Nat → Nat) (x : Nat → Nat → Nat) (p : Nat) (k c : Nat) : Nat := ra_S k n (fun g => x g p == c + 1)
theorem t_addPlace {p A : Nat} {n : Nat → Nat} {x : Nat → Nat → Nat} {w : rv_W} (hp : p < 5) (hA : A < 31 ∨ 52 < A) (hn : ∀ g, g < 20 → w 31 g = Int32.ofNat (n g)) (hx : rv_Row x w) : f_X5_addPlace (Int32.ofNat p) A w = some (0, ra_ad A 20 (ra_px n x p) w) := by
  unfold f_X5_addPlace
  refine rv_E0 20 (fun k => ra_ad A k (ra_px n x p) w) w (ra_ad_0 (fun _ => rfl)).symm (fun ag g hg => ?_) (fun ag => ?_) (by decide)
  · have hd := (hx g hg p hp).2
    have hpl : ra_ad A g (ra_px n x p) w (33 + g) p = rv_ci (x g p) := by
      rw [ra_ad_ne (by omega)]; exact (hx g hg p hp).1
    simp only [rv_lt20 hg, if_true, rv_nng (show p < 2147483648 by omega), if_false, rv_lt5 hp, rv_ck20 hg, rv_ck5 hp, rv_nn20 hg, rv_nn5 hp, hpl, rv_ci_lt0 hd, rv_ci_lt5 hd, rv_lt, rv_n_succ]
    by_cases h : x g p = 0
    · simp only [h, if_true]
      refine congrArg _ ?_
      refine ra_ad_n (p := fun g c => x g p == c + 1) (fun j hj => ?_)
      rw [h]; exact beq_false_of_ne (by omega)
    · have hp5 : x g p - 1 < 5 := by omega
      simp only [h, if_false, rv_ci_p h, rv_ck5 hp5, rv_nn5 hp5]
      refine congrArg _ ?_
      rw [ra_ad_ne (c := 31) (by omega), hn g hg]
      refine ra_ad_s (p := fun g c => x g p == c + 1) (by omega) ?_ (fun j hj hne => ?_)
      · exact beq_iff_eq.mpr (by omega)
      · exact beq_false_of_ne (by omega)
  · rw [if_neg (by decide)]
/-! the last one of a row, of a set: on it, or the greatest one missing -/
def ra_l1 (C : Nat) (x : Nat → Nat) : Nat → Nat
  | 0 => 0
  | k + 1 => if rv_hd C (x k) = true then x k else ra_l1 C x k
def ra_m1 (C : Nat) (x : Nat → Nat) : Nat → Nat
  | 0 => C
  | k + 1 => if x k = 0 then ra_m1 C x k else rv_wo (ra_m1 C x k) (x k - 1)
def ra_l2 (M d : Nat) : Nat → Nat
  | 0 => d
  | c + 1 => if rv_hs M c = true then c + 1 else ra_l2 M d c
def ra_ld (x : Nat → Nat) (C : Nat) : Nat := ra_l2 (ra_m1 C x 5) (ra_l1 C x 5) 5
def ra_lx (n : Nat → Nat) (x : Nat → Nat → Nat) (C : Nat) (k c : Nat) : Nat := ra_S k n (fun g => ra_ld (x g) C == c + 1)
theorem ra_l1_le {C : Nat} {x : Nat → Nat} {k : Nat} (h : ∀ j, j < k → x j ≤ 5) : ra_l1 C x k ≤ 5 := by
  induction k with
  | zero => exact Nat.zero_le _
  | succ k ih =>
    rw [ra_l1]
    split
    · exact h k (by omega)
    · exact ih (fun j hj => h j (by omega))
theorem ra_m1_lt {C : Nat} {x : Nat → Nat} {k : Nat} (hC : C < 32) : ra_m1 C x k < 32 := by
  induction k with
  | zero => exact hC
  | succ k ih =>
    rw [ra_m1]
    split
    · exact ih
    · exact rv_wo_lt ih
theorem ra_l2_le {M d k : Nat} (hd : d ≤ 5) (hk : k ≤ 5) : ra_l2 M d k ≤ 5 := by
  induction k with
  | zero => exact hd
  | succ k ih =>
    rw [ra_l2]
    split
    · omega
    · exact ih (by omega)
theorem t_addLasts {C A : Nat} {n : Nat → Nat} {x : Nat → Nat → Nat} {w : rv_W} (hC : C < 32) (hA : A < 31 ∨ 52 < A) (hn : ∀ g, g < 20 → w 31 g = Int32.ofNat (n g)) (hx : rv_Row x w) : f_X5_addLasts (Int32.ofNat C) A w = some (0, ra_ad A 20 (ra_lx n x C) w) := by
  unfold f_X5_addLasts
  refine rv_E0 20 (fun k => ra_ad A k (ra_lx n x C) w) w (ra_ad_0 (fun _ => rfl)).symm (fun ag g hg => ?_) (fun ag => ?_) (by decide)
  · rw [if_pos ((rv_l20 (by omega)).mpr hg)]
    have hpl : ∀ k, k < 5 → ra_ad A g (ra_lx n x C) w (33 + g) k = rv_ci (x g k) := fun k hk => by
      rw [ra_ad_ne (by omega)]; exact (hx g hg k hk).1
    have hx5 : ∀ j, j < 5 → x g j ≤ 5 := fun j hj => (hx g hg j hj).2
    refine rv_E2 5 (fun k => rv_ci (ra_l1 C (x g) k)) (fun k => Int32.ofNat (ra_m1 C (x g) k)) (fun _ => ra_ad A g (ra_lx n x C) w) _ _ _ rfl (show -1 = rv_ci 0 from by decide) rfl (fun ag5 k hk => ?_) (fun ag5 => ?_) (by decide)
    · have hd := (hx g hg k hk).2
      simp only [rv_lt5 hk, if_true, rv_ck20 hg, rv_ck5 hk, rv_nn20 hg, rv_nn5 hk, hpl k hk, e_hasd hC hd, e_withoutd (ra_m1_lt hC) hd, rv_bd_some, rv_lt, rv_jn, rv_n_succ, rv_b2_0]
      rw [ra_l1, ra_m1]
      by_cases h : rv_hd C (x g k) = true
      · simp only [h, if_true, if_false, Bool.true_eq_false]
      · have h' : rv_hd C (x g k) = false := by simpa using h
        simp only [h', if_true, if_false, Bool.false_eq_true]
    · rw [if_neg (by decide)]
      have hM := ra_m1_lt (x := x g) (k := 5) hC
      have hL := ra_l1_le (C := C) (x := x g) (k := 5) hx5
      refine rv_E1 5 (fun k => rv_ci (ra_l2 (ra_m1 C (x g) 5) (ra_l1 C (x g) 5) k)) (fun _ => ra_ad A g (ra_lx n x C) w) _ _ rfl rfl (fun ag5 k hk => ?_) (fun ag5 => ?_) (by decide)
      · simp only [rv_lt5 hk, if_true, e_hasb hM hk, rv_bd_some, rv_lt, rv_jn, rv_n_succ, rv_b2_0]
        rw [ra_l2]
        by_cases h : rv_hs (ra_m1 C (x g) 5) k = true
        · simp only [h, if_true, if_false, Bool.true_eq_false, rv_ci_succ]
        · have h' : rv_hs (ra_m1 C (x g) 5) k = false := by simpa using h
          simp only [h', if_true, if_false, Bool.false_eq_true]
      · have hd : ra_ld (x g) C ≤ 5 := ra_l2_le hL (by omega)
        show (if Int32.ofNat 5 < (5 : Int32) then _ else if rv_ci (ra_ld (x g) C) < 0 then _ else _) = _
        simp only [rv_ge5, if_false, rv_ci_lt0 hd, rv_ci_lt5 hd, if_true, rv_ck20 hg, rv_nn20 hg, rv_lt, rv_n_succ]
        by_cases h : ra_ld (x g) C = 0
        · simp only [h, if_true]
          refine congrArg _ ?_
          refine ra_ad_n (p := fun g c => ra_ld (x g) C == c + 1) (fun j hj => ?_)
          rw [h]; exact beq_false_of_ne (by omega)
        · have hp5 : ra_ld (x g) C - 1 < 5 := by omega
          have e2 : rv_ci (ra_l2 (ra_m1 C (x g) 5) (ra_l1 C (x g) 5) 5) = Int32.ofNat (ra_ld (x g) C - 1) := rv_ci_p h
          simp only [h, if_false, e2, rv_ck5 hp5, rv_nn5 hp5, rv_lt5 hp5, if_true]
          refine congrArg _ ?_
          rw [ra_ad_ne (c := 31) (by omega), hn g hg]
          refine ra_ad_s (p := fun g c => ra_ld (x g) C == c + 1) (by omega) ?_ (fun j hj hne => ?_)
          · exact beq_iff_eq.mpr (by omega)
          · exact beq_false_of_ne (by omega)
  · rw [if_neg (by decide)]
