/-! paradoxes that rules don't have: who stays at home, parts that agree (plurality and Borda) -/
theorem rp_cn_ge {k i : Nat} {p : Nat → Bool} (hi : i < k) (h : p i = true) : 0 < rv_cn k p := by
  induction k with
  | zero => omega
  | succ k ih =>
    rw [rv_cn_s]
    by_cases q : p k = true
    · rw [if_pos q]; omega
    · rw [if_neg q]
      exact ih (by
        by_cases e : i = k
        · rw [e] at h; exact absurd h q
        · omega)
theorem rp_cn_mono {k : Nat} {p q : Nat → Bool} (h : ∀ i, i < k → p i = true → q i = true) : rv_cn k p ≤ rv_cn k q := by
  induction k with
  | zero => exact Nat.le_refl _
  | succ k ih =>
    rw [rv_cn_s, rv_cn_s]
    have := ih (fun i hi => h i (by omega))
    by_cases e : p k = true
    · rw [if_pos e, if_pos (h k (by omega) e)]; omega
    · rw [if_neg e]; split <;> omega
theorem rp_kb_no {b C x y : Nat} (hx : x < 5) (hCx : rv_hs C x = true) (h : rv_q b x < rv_q b y) : ra_kb b C 1 y = false := by
  unfold ra_kb
  have := rp_cn_ge (k := 5) (p := fun d => rv_hs C d && decide (rv_q b d < rv_q b y)) hx (by rw [hCx, decide_eq_true h]; rfl)
  rw [decide_eq_false (show ¬ rv_cn 5 (fun d => rv_hs C d && decide (rv_q b d < rv_q b y)) < 1 by omega), Bool.and_false]
theorem rp_ea_lt {b C x y : Nat} (hb : b ∈ rv_B) (hC : C < 32) (hx : x < 5) (hy : y < 5) (hCx : rv_hs C x = true) (hCy : rv_hs C y = true) (h : rv_q b x < rv_q b y) : ra_ea b C y < ra_ea b C x := by
  rw [← (ra_ea_ok hb hC hx hCx).1, ← (ra_ea_ok hb hC hy hCy).1]
  refine rp_sm_lt (fun d hd => ?_) hy ?_
  · by_cases e1 : y = d
    · rw [if_pos e1]; exact Nat.zero_le _
    · rw [if_neg e1]
      by_cases hCd : rv_hs C d = true
      · rw [if_pos hCd]
        by_cases e2 : x = d
        · subst e2
          rw [if_pos rfl, if_neg (show ¬ rv_q b y < rv_q b x by omega), if_pos h]
          omega
        · rw [if_neg e2, if_pos hCd]
          split <;> split <;> split <;> split <;> omega
      · rw [if_neg hCd]; exact Nat.zero_le _
  · rw [if_pos rfl, if_neg (show ¬ x = y by intro z; rw [z] at h; omega), if_pos hCy, if_pos h, if_neg (show ¬ rv_q b y < rv_q b x by omega)]
    omega
theorem rp_off_S {g : Nat} {n m : Nat → Nat} {f : Nat → Nat} (hg : g < 20) : rv_sm 20 (fun i => n i * f (m i)) = rv_sm 20 (fun i => rv_at1 n g 0 i * f (m i)) + n g * f (m g) := by
  have := rv_sm_set (n := 20) (g := g) (f := fun i => n i * f (m i)) (f' := fun i => rv_at1 n g 0 i * f (m i)) hg (fun i _ hne => by rw [ra_at1_ne hne])
  rw [ra_at1_same, Nat.zero_mul] at this
  omega
theorem rp_S_mul {k : Nat} {n : Nat → Nat} {q : Nat → Bool} : ra_S k n q = rv_sm k (fun i => n i * (if q i = true then 1 else 0)) := by
  unfold ra_S
  refine rv_sm_congr (fun g _ => ?_)
  by_cases z : q g = true
  · rw [if_pos z, if_pos z, Nat.mul_one]
  · rw [if_neg z, if_neg z, Nat.mul_zero]
theorem rp_at0 {g : Nat} {n m : Nat → Nat} (hg : g < 20) (h : rp_pf n m) : rp_pf (rv_at1 n g 0) m := by
  refine ⟨Nat.le_trans (rv_sm_le (fun i _ => ?_)) h.1, fun i hi hne => ?_⟩
  · by_cases e : i = g
    · rw [e, ra_at1_same]; exact Nat.zero_le _
    · rw [ra_at1_ne e]; exact Nat.le_refl _
  · by_cases e : i = g
    · rw [e, ra_at1_same] at hne; exact absurd rfl hne
    · rw [ra_at1_ne e] at hne; exact h.2 i hi hne
theorem rp_stay {rule s g : Nat} {n m : Nat → Nat} (hr : rule < 2) (hs : s < 32) (h0 : s ≠ 0) (hp : rp_pf n m) (hg : g < 20) (hng : n g ≠ 0) : ¬ rv_q (m g) (ra_w rule s (rv_at1 n g 0) m) < rv_q (m g) (ra_w rule s n m) := fun hq => by
  have h1 := rp_w (rule := rule) (Or.inl (by omega)) hs h0 hp
  have h2 := rp_w (rule := rule) (Or.inl (by omega)) hs h0 (rp_at0 hg hp)
  have hb := hp.2 g hg hng
  generalize ra_w rule s n m = w at hq h1
  generalize ra_w rule s (rv_at1 n g 0) m = w' at hq h2
  have a1 := h1.2.2 w' h2.1 h2.2.1
  have a2 := h2.2.2 w h1.1 h1.2.1
  have hne : w ≠ w' := fun z => by rw [z] at hq; omega
  rcases (show rule = 0 ∨ rule = 1 by omega) with rfl | rfl
  · rw [rp_X0, rp_X0] at a1 a2
    have e : ∀ c, rv_hs s c = true → ra_KC n m s 1 c = ra_KC (rv_at1 n g 0) m s 1 c + n g * (if ra_kb (m g) s 1 c = true then 1 else 0) := fun c hc => by
      unfold ra_KC ra_K
      rw [if_pos hc, if_pos hc, rp_S_mul, rp_S_mul]
      exact rp_off_S (f := fun r => if ra_kb r s 1 c = true then 1 else 0) hg
    have e1 := e w h1.2.1
    have e2 := e w' h2.2.1
    rw [rp_kb_no h2.1 h2.2.1 hq, if_neg (by decide), Nat.mul_zero] at e1
    omega
  · rw [rp_X1, rp_X1] at a1 a2
    have e : ∀ c, ra_bm n m s c = ra_bm (rv_at1 n g 0) m s c + n g * ra_ea (m g) s c := fun c => rp_off_S (f := fun r => ra_ea r s c) hg
    have e1 := e w
    have e2 := e w'
    have h3 := rp_ea_lt hb hs h2.1 h1.1 h2.2.1 h1.2.1 hq
    have h4 : n g * ra_ea (m g) s w < n g * ra_ea (m g) s w' := Nat.mul_lt_mul_of_pos_left h3 (Nat.pos_of_ne_zero hng)
    omega
/-- parts of a profile -/
theorem rp_cut_pf {lo hi G : Nat} {n m : Nat → Nat} (hp : rp_pf (rv_cut 0 G n) m) (hh : hi ≤ G) : rp_pf (rv_cut lo hi n) m := by
  have e : ∀ i, rv_cut lo hi n i ≠ 0 → rv_cut 0 G n i = rv_cut lo hi n i := fun i hne => by
    unfold rv_cut at hne ⊢
    by_cases q : lo ≤ i ∧ i < hi
    · rw [if_pos q, if_pos ⟨Nat.zero_le _, by omega⟩]
    · rw [if_neg q] at hne; exact absurd rfl hne
  refine ⟨Nat.le_trans (rv_sm_le (fun i _ => ?_)) hp.1, fun i h20 hne => hp.2 i h20 (by rw [e i hne]; exact hne)⟩
  by_cases q : rv_cut lo hi n i = 0
  · rw [q]; exact Nat.zero_le _
  · rw [e i q]; exact Nat.le_refl _
theorem rp_cut_add {k G : Nat} {n : Nat → Nat} (hk : k ≤ G) (i : Nat) : rv_cut 0 G n i = rv_cut 0 k n i + rv_cut k G n i := by
  unfold rv_cut
  by_cases q1 : i < k
  · rw [if_pos ⟨Nat.zero_le _, by omega⟩, if_pos ⟨Nat.zero_le _, q1⟩, if_neg (by omega)]
    omega
  · by_cases q2 : i < G
    · rw [if_pos ⟨Nat.zero_le _, q2⟩, if_neg (by omega), if_pos (by omega)]
      omega
    · rw [if_neg (by omega), if_neg (by omega), if_neg (by omega)]
theorem rp_cut_sum {k G : Nat} {n m : Nat → Nat} {f : Nat → Nat} (hk : k ≤ G) : rv_sm 20 (fun i => rv_cut 0 G n i * f (m i)) = rv_sm 20 (fun i => rv_cut 0 k n i * f (m i)) + rv_sm 20 (fun i => rv_cut k G n i * f (m i)) := by
  rw [← rv_sm_add]
  exact rv_sm_congr (fun i _ => by rw [rp_cut_add hk i, Nat.add_mul])
theorem rp_split {rule s G k : Nat} {n m : Nat → Nat} (hr : rule < 2) (hs : s < 32) (hp : rp_pf (rv_cut 0 G n) m) (hk : k ≤ G) : ra_sq rule s G n m k = false := by
  unfold ra_sq
  by_cases h0 : s = 0
  · subst h0
    rw [ra_wc_0 rfl, ra_wc_0 rfl, decide_eq_false (show ¬ ((-1000000 : Int32) ≠ -1000000) from fun z => z rfl), Bool.false_and]
  · rw [ra_wc_1 h0, ra_wc_1 h0, ra_wc_1 h0]
    have h1 := rp_w (rule := rule) (Or.inl (by omega)) hs h0 (rp_cut_pf (lo := 0) (hi := k) hp hk)
    have h2 := rp_w (rule := rule) (Or.inl (by omega)) hs h0 (rp_cut_pf (lo := k) (hi := G) hp (Nat.le_refl _))
    have h3 := rp_w (rule := rule) (Or.inl (by omega)) hs h0 hp
    have e : ∀ c, c < 5 → rv_hs s c = true → rp_X rule s (rv_cut 0 G n) m c = rp_X rule s (rv_cut 0 k n) m c + rp_X rule s (rv_cut k G n) m c := fun c hc hsc => by
      rcases (show rule = 0 ∨ rule = 1 by omega) with rfl | rfl
      · rw [rp_X0, rp_X0, rp_X0]
        unfold ra_KC ra_K
        rw [if_pos hsc, if_pos hsc, if_pos hsc, rp_S_mul, rp_S_mul, rp_S_mul]
        have := rp_cut_sum (n := n) (m := m) (f := fun r => if ra_kb r s 1 c = true then 1 else 0) hk
        omega
      · rw [rp_X1, rp_X1, rp_X1]
        have := rp_cut_sum (n := n) (m := m) (f := fun r => ra_ea r s c) hk
        unfold ra_bm
        omega
    by_cases q : Int32.ofNat (ra_w rule s (rv_cut k G n) m) = Int32.ofNat (ra_w rule s (rv_cut 0 k n) m)
    · have q2 := (rv_n_eq (by have := h2.1; omega) (by have := h1.1; omega)).mp q
      rw [q2] at h2
      have := (h1.add h2 e).u h3
      rw [this, decide_eq_false (fun z => z rfl), Bool.false_and]
    · rw [decide_eq_false q, Bool.and_false]
theorem rp_fst {q : Nat → Bool} {f k : Nat} (h : ∀ j, k ≤ j → j < k + f → q j = false) : ra_fst q f k = -1000000 := by
  induction f generalizing k with
  | zero => rfl
  | succ f ih => rw [ra_fst_s, if_neg (by rw [h k (Nat.le_refl _) (by omega)]; decide), ih (fun j h1 h2 => h j (by omega) (by omega))]
