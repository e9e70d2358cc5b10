/-! the poll by the ballots as they are: lemmas -/
theorem ra_B1 {b s C k c : Nat} (hb : b ∈ rv_B) (hs : s < 32) (hC : ra_sub C s) (hc : c < 5) (h : rv_hs C c = true) : ra_kb (rv_wi b s) C k c = ra_kb b C k c := by
  unfold ra_kb
  rw [decide_eq_decide.mpr (iff_of_eq (ra_wi_on hb hs hc (hC c hc h)))]
  rw [rv_cn_congr (fun d hd => by
    by_cases h2 : rv_hs C d = true
    · rw [decide_eq_decide.mpr (iff_of_eq (ra_wi_lt hb hs hd hc (hC d hd h2) (hC c hc h)))]
    · rw [Bool.eq_false_iff.mpr h2, Bool.false_and, Bool.false_and])]
theorem ra_B0 {b s C : Nat} (hb : b ∈ rv_B) (hs : s < 32) (hC : ra_sub C s) : ra_of (rv_wi b s) C = ra_of b C := by
  unfold ra_of
  refine rv_cn_congr (fun c hc => ?_)
  by_cases h2 : rv_hs C c = true
  · rw [decide_eq_decide.mpr (iff_of_eq (ra_wi_on hb hs hc (hC c hc h2)))]
  · rw [Bool.eq_false_iff.mpr h2, Bool.false_and, Bool.false_and]
theorem ra_B2 {b s C c : Nat} (hb : b ∈ rv_B) (hs : s < 32) (hC : ra_sub C s) (hc : c < 5) : ra_la (rv_wi b s) C c = ra_la b C c := by
  unfold ra_la
  rw [ra_B0 hb hs hC]
  by_cases h : rv_hs C c = true
  · rw [decide_eq_decide.mpr (iff_of_eq (ra_wi_on hb hs hc (hC c hc h)))]
    rw [rv_al_congr (q := fun d => !(rv_hs C d && ra_lt b C c d)) (fun d hd => by
      by_cases h2 : rv_hs C d = true
      · unfold ra_lt
        rw [ra_B0 hb hs hC, decide_eq_decide.mpr (iff_of_eq (ra_wi_on hb hs hd (hC d hd h2))), decide_eq_decide.mpr (iff_of_eq (ra_wi_lt hb hs hc hd (hC c hc h) (hC d hd h2)))]
      · rw [Bool.eq_false_iff.mpr h2, Bool.false_and, Bool.false_and])]
  · rw [Bool.eq_false_iff.mpr h, Bool.false_and, Bool.false_and, Bool.false_and, Bool.false_and]
/-! the poll by the ballots as they are -/
def ra_PQ (s : Nat) (n m : Nat → Nat) (w : rv_W) : Prop := ∃ r x, rv_PI s n r x w ∧ (∀ g, g < 20 → n g ≤ 100) ∧ ∀ g, g < 20 → n g ≠ 0 → m g ∈ rv_B ∧ r g = rv_wi (m g) s
theorem rv_PI.fr {s : Nat} {n r : Nat → Nat} {x : Nat → Nat → Nat} {w w' : rv_W} (h : rv_PI s n r x w) (e : ∀ c j, 24 ≤ c → c ≤ 52 → w' c j = w c j) : rv_PI s n r x w' := by
  obtain ⟨hs, h0, h1, h31, hrow, hrB, hx, hon, hab⟩ := h
  refine ⟨hs, by rw [e _ _ (by omega) (by omega), h0], by rw [e _ _ (by omega) (by omega), h1], fun g hg => by rw [e _ _ (by omega) (by omega), h31 g hg], fun g hg k hk => ?_, hrB, hx, hon, fun a ha b hb => by rw [e _ _ (by omega) (by omega), hab a ha b hb]⟩
  rw [e _ _ (by omega) (by omega)]
  exact hrow g hg k hk
theorem ra_PQ.fr {s : Nat} {n m : Nat → Nat} {w w' : rv_W} (h : ra_PQ s n m w) (e : ∀ c j, 24 ≤ c → c ≤ 52 → w' c j = w c j) : ra_PQ s n m w' := by
  obtain ⟨r, x, h, h2⟩ := h
  exact ⟨r, x, h.fr e, h2⟩
theorem ra_PQ.fl {s A k : Nat} {n m : Nat → Nat} {f : Nat → Int32} {w : rv_W} (h : ra_PQ s n m w) (hA : A < 24 ∨ 52 < A) : ra_PQ s n m (rv_fl A k f w) := h.fr (fun c j _ _ => rv_fl_ne (by omega))
theorem ra_PQ.up {s A k : Nat} {n m : Nat → Nat} {v : Int32} {w : rv_W} (h : ra_PQ s n m w) (hA : A < 24 ∨ 52 < A) : ra_PQ s n m (rv_up w A k v) := h.fr (fun c j _ _ => rv_up_ne (by omega))
theorem ra_PQ.s32 {s : Nat} {n m : Nat → Nat} {w : rv_W} (h : ra_PQ s n m w) : s < 32 := by
  obtain ⟨r, x, h, h2⟩ := h
  exact h.1
theorem ra_PQ.st {s : Nat} {n m : Nat → Nat} {w : rv_W} (h : ra_PQ s n m w) : w 24 0 = Int32.ofNat s := by
  obtain ⟨r, x, h, h2⟩ := h
  exact h.2.1
theorem ra_PQ.all {s : Nat} {n m : Nat → Nat} {w : rv_W} (h : ra_PQ s n m w) : w 24 1 = Int32.ofNat (rv_sm 20 n) := by
  obtain ⟨r, x, h, h2⟩ := h
  exact h.2.2.1
theorem rv_sm_bd {k c : Nat} {f : Nat → Nat} (h : ∀ g, g < k → f g ≤ c) : rv_sm k f ≤ k * c := by
  induction k with
  | zero => exact Nat.zero_le _
  | succ k ih =>
    rw [rv_sm, Nat.succ_mul]
    exact Nat.add_le_add (ih (fun g hg => h g (by omega))) (h k (by omega))
theorem ra_PQ.sum {s : Nat} {n m : Nat → Nat} {w : rv_W} (h : ra_PQ s n m w) : rv_sm 20 n ≤ 2000 := by
  obtain ⟨r, x, h, h2, _⟩ := h
  exact rv_sm_bd (c := 100) h2
theorem ra_P_le {s a b : Nat} {n m : Nat → Nat} : ra_P s n m a b ≤ rv_sm 20 n := ra_S_le
theorem ra_PQ.ab {s a b : Nat} {n m : Nat → Nat} {w : rv_W} (h : ra_PQ s n m w) (ha : a < 5) (hb : b < 5) : w (26 + a) b = Int32.ofNat (ra_P s n m a b) := by
  obtain ⟨r, x, h, h2, h3⟩ := h
  obtain ⟨hs, h0, h1, h31, hrow, hrB, hx, hon, hab⟩ := h
  rw [hab a ha b hb]
  congr 1
  refine ra_S_congr (p := fun g => rv_ab s (r g) a b) (fun g hg hn => ?_)
  obtain ⟨hm, hr⟩ := h3 g hg hn
  unfold rv_ab
  rw [hr]
  have e := rv_wi_hs hm hs ha ha
  have e2 := rv_wi_hs hm hs ha hb
  by_cases hsb : rv_hs s b = true
  · by_cases hsa : rv_hs s a = true
    · rw [hsa, hsb, decide_eq_decide.mpr (e2.2 hsa hsb), Bool.true_and, Bool.true_and, Bool.true_and]
    · have : ¬ rv_q (rv_wi (m g) s) a < 9 := fun z => hsa (e.1.mp z).1
      have h9 := rv_q_or (rv_wi (m g) s) a
      have h8 := rv_q_or (rv_wi (m g) s) b
      rw [decide_eq_false (by omega), Bool.eq_false_iff.mpr hsa]
      simp
  · rw [Bool.eq_false_iff.mpr hsb]
    simp
theorem ra_fd_congr {x y : Nat → Nat} {C : Nat} (h : ∀ k, k < 5 → x k = y k) : ra_fd x C = ra_fd y C := by
  unfold ra_fd
  rw [h 0 (by omega), h 1 (by omega), h 2 (by omega), h 3 (by omega), h 4 (by omega)]
theorem ra_l1_congr {x y : Nat → Nat} {C k : Nat} (h : ∀ j, j < k → x j = y j) : ra_l1 C x k = ra_l1 C y k := by
  induction k with
  | zero => rfl
  | succ k ih => rw [ra_l1, ra_l1, ih (fun j hj => h j (by omega)), h k (by omega)]
theorem ra_m1_congr {x y : Nat → Nat} {C k : Nat} (h : ∀ j, j < k → x j = y j) : ra_m1 C x k = ra_m1 C y k := by
  induction k with
  | zero => rfl
  | succ k ih => rw [ra_m1, ra_m1, ih (fun j hj => h j (by omega)), h k (by omega)]
theorem ra_ld_congr {x y : Nat → Nat} {C : Nat} (h : ∀ k, k < 5 → x k = y k) : ra_ld x C = ra_ld y C := by
  unfold ra_ld
  rw [ra_l1_congr h, ra_m1_congr h]
theorem ra_ad_fl {A : Nat} {f : Nat → Nat → Nat} {w : rv_W} {h : Nat → Nat} (e : ∀ c, c < 5 → f 20 c = h c) : ra_ad A 20 f w = rv_fl A 5 (fun c => w A c + Int32.ofNat (h c)) w := by
  funext c j
  unfold ra_ad rv_fl
  by_cases q : c = A ∧ j < 5
  · rw [if_pos q, if_pos q, e j q.2]
  · rw [if_neg q, if_neg q]
theorem ra_S_zero {k : Nat} {n : Nat → Nat} {p : Nat → Bool} (h : ∀ g, g < k → n g ≠ 0 → p g = false) : ra_S k n p = 0 := by
  have : ra_S k n p = ra_S k n (fun _ => false) := ra_S_congr h
  rw [this]
  exact rv_sm_zero (fun g _ => rfl)
theorem ra_S_add {k : Nat} {n : Nat → Nat} {p q r : Nat → Bool} (h : ∀ g, g < k → n g ≠ 0 → r g = (p g || q g) ∧ (p g && q g) = false) : ra_S k n p + ra_S k n q = ra_S k n r := by
  induction k with
  | zero => rfl
  | succ k ih =>
    have e : ∀ p : Nat → Bool, ra_S (k + 1) n p = ra_S k n p + if p k = true then n k else 0 := fun _ => rfl
    rw [e, e, e, ← ih (fun g hg => h g (by omega))]
    by_cases hn : n k = 0
    · rw [hn]; simp
    · obtain ⟨h1, h2⟩ := h k (by omega) hn
      rw [h1]
      cases hp : p k <;> cases hq : q k
      · simp
      · simp; omega
      · simp; omega
      · rw [hp, hq] at h2; cases h2
theorem ra_PQ.firsts {s C A : Nat} {n m : Nat → Nat} {w : rv_W} (h : ra_PQ s n m w) (hC : C < 32) (hs : ra_sub C s) (hA : A < 31 ∨ 52 < A) : f_X5_addFirsts (Int32.ofNat C) A w = some (0, rv_fl A 5 (fun c => w A c + Int32.ofNat (ra_KC n m C 1 c)) w) := by
  obtain ⟨r, x, h, h2, h3⟩ := h
  obtain ⟨hs32, h0, h1, h31, hrow, hrB, hx, hon, hab⟩ := h
  rw [t_addFirsts hC hA h31 hrow, ra_ad_fl (fun c hc => ?_)]
  unfold ra_fx ra_KC ra_K
  by_cases hcc : rv_hs C c = true
  · rw [if_pos hcc]
    refine ra_S_congr (fun g hg hn => ?_)
    obtain ⟨hm, hr⟩ := h3 g hg hn
    rw [ra_fd_congr (hx g hg hn), hr, ra_A1 (rv_wi_in hm hs32) hC hc, hcc, Bool.true_and, ra_B1 hm hs32 hs hc hcc]
  · rw [if_neg hcc]
    refine ra_S_zero (fun g hg hn => ?_)
    obtain ⟨hm, hr⟩ := h3 g hg hn
    rw [ra_fd_congr (hx g hg hn), hr, ra_A1 (rv_wi_in hm hs32) hC hc, Bool.eq_false_iff.mpr hcc, Bool.false_and]
theorem ra_PQ.lasts {s C A : Nat} {n m : Nat → Nat} {w : rv_W} (h : ra_PQ s n m w) (hC : C < 32) (hs : ra_sub C s) (hA : A < 31 ∨ 52 < A) : f_X5_addLasts (Int32.ofNat C) A w = some (0, rv_fl A 5 (fun c => w A c + Int32.ofNat (ra_L n m C c)) w) := by
  obtain ⟨r, x, h, h2, h3⟩ := h
  obtain ⟨hs32, h0, h1, h31, hrow, hrB, hx, hon, hab⟩ := h
  rw [t_addLasts hC hA h31 hrow, ra_ad_fl (fun c hc => ?_)]
  refine ra_S_congr (fun g hg hn => ?_)
  obtain ⟨hm, hr⟩ := h3 g hg hn
  rw [ra_ld_congr (hx g hg hn), hr, ra_A2 (rv_wi_in hm hs32) hC hc, ra_B2 hm hs32 hs hc]
/-- those at a place: with those before it they are the first so many -/
def ra_pl (n m : Nat → Nat) (s k c : Nat) : Nat := ra_S 20 n (fun g => rv_q (rv_wi (m g) s) c == k)
theorem ra_PQ.place {s k A : Nat} {n m : Nat → Nat} {w : rv_W} (h : ra_PQ s n m w) (hk : k < 5) (hA : A < 31 ∨ 52 < A) : f_X5_addPlace (Int32.ofNat k) A w = some (0, rv_fl A 5 (fun c => w A c + Int32.ofNat (ra_pl n m s k c)) w) := by
  obtain ⟨r, x, h, h2, h3⟩ := h
  obtain ⟨hs32, h0, h1, h31, hrow, hrB, hx, hon, hab⟩ := h
  rw [t_addPlace hk hA h31 hrow, ra_ad_fl (fun c hc => ?_)]
  refine ra_S_congr (fun g hg hn => ?_)
  obtain ⟨hm, hr⟩ := h3 g hg hn
  rw [hx g hg hn k hk, hr]
  have := rv_q_at (rv_wi_in hm hs32) hk hc
  rw [Bool.eq_iff_iff, beq_iff_eq, beq_iff_eq]
  exact this
theorem ra_pl_sum {s k c : Nat} {n m : Nat → Nat} {w : rv_W} (h : ra_PQ s n m w) (hc : c < 5) (hcs : rv_hs s c = true) (hk : k < 5) : ra_K n m s k c + ra_pl n m s k c = ra_K n m s (k + 1) c := by
  obtain ⟨r, x, h, h2, h3⟩ := h
  refine ra_S_add (fun g hg hn => ?_)
  obtain ⟨hm, hr⟩ := h3 g hg hn
  have e := ra_A4 hm h.1 hc hcs
  unfold ra_kb
  rw [e]
  by_cases h9 : rv_q (m g) c < 9
  · rw [if_pos h9, decide_eq_true h9, Bool.true_and, Bool.true_and]
    generalize rv_cn 5 (fun d => rv_hs s d && decide (rv_q (m g) d < rv_q (m g) c)) = z
    by_cases h7 : z < k
    · rw [decide_eq_true h7, decide_eq_true (show z < k + 1 by omega), beq_false_of_ne (show z ≠ k by omega)]
      exact ⟨rfl, rfl⟩
    · by_cases h6 : z = k
      · rw [h6, decide_eq_false (Nat.lt_irrefl k), decide_eq_true (Nat.lt_succ_self k), beq_self_eq_true]
        exact ⟨rfl, rfl⟩
      · rw [decide_eq_false h7, decide_eq_false (show ¬ z < k + 1 by omega), beq_false_of_ne h6]
        exact ⟨rfl, rfl⟩
  · rw [if_neg h9, decide_eq_false h9, beq_false_of_ne (show 9 ≠ k by omega)]
    exact ⟨rfl, rfl⟩
theorem ra_pl_off {s k c : Nat} {n m : Nat → Nat} {w : rv_W} (h : ra_PQ s n m w) (hc : c < 5) (hcs : ¬ rv_hs s c = true) (hk : k < 5) : ra_pl n m s k c = 0 := by
  obtain ⟨r, x, h, h2, h3⟩ := h
  refine ra_S_zero (fun g hg hn => ?_)
  obtain ⟨hm, hr⟩ := h3 g hg hn
  have e := rv_wi_hs hm h.1 hc hc
  have : ¬ rv_q (rv_wi (m g) s) c < 9 := fun z => hcs (e.1.mp z).1
  exact beq_false_of_ne (by omega)
theorem ra_K0 {s c : Nat} {n m : Nat → Nat} : ra_K n m s 0 c = 0 := ra_S_zero (fun g _ _ => by unfold ra_kb; rw [decide_eq_false (Nat.not_lt_zero _), Bool.and_false])
