/-! a winner raised by one place: plurality, Borda, Copeland, minimax, Bucklin, Kemeny -/
/-- b' is b with w and the one directly above it in s, o, exchanged -/
def rp_rs (s b b' w o : Nat) : Prop := (w < 5 ∧ rv_hs s w = true ∧ o < 5 ∧ rv_hs s o = true) ∧ (b ∈ rv_B ∧ b' ∈ rv_B) ∧ (rv_q b w < 9 ∧ rv_q b o < rv_q b w ∧ ∀ c, c < 5 → rv_hs s c = true → rv_q b c < rv_q b w → rv_q b c ≤ rv_q b o) ∧ ∀ c, c < 5 → rv_q b' c = if c = o then rv_q b w else if c = w then rv_q b o else rv_q b c
section RAISE
variable {s b b' w o : Nat}
theorem rp_rs.ne (h : rp_rs s b b' w o) : w ≠ o := fun z => by have := h.2.2.1.2.1; rw [z] at this; omega
theorem rp_rs.qo (h : rp_rs s b b' w o) : rv_q b' o = rv_q b w := by rw [h.2.2.2 o h.1.2.2.1, if_pos rfl]
theorem rp_rs.qw (h : rp_rs s b b' w o) : rv_q b' w = rv_q b o := by rw [h.2.2.2 w h.1.1, if_neg h.ne, if_pos rfl]
theorem rp_rs.qc (h : rp_rs s b b' w o) {c : Nat} (hc : c < 5) (h1 : c ≠ w) (h2 : c ≠ o) : rv_q b' c = rv_q b c := by rw [h.2.2.2 c hc, if_neg h2, if_neg h1]
/-- no other of s is between -/
theorem rp_rs.bt (h : rp_rs s b b' w o) {c : Nat} (hc : c < 5) (hs : rv_hs s c = true) (h1 : c ≠ w) (h2 : c ≠ o) : (rv_q b w < rv_q b c ∧ rv_q b o < rv_q b c) ∨ (rv_q b c < rv_q b w ∧ rv_q b c < rv_q b o) := by
  obtain ⟨⟨hw, -, ho, -⟩, ⟨hb, -⟩, ⟨h9, hlt, hn⟩, -⟩ := h
  have e1 : rv_q b c ≠ rv_q b w := fun z => h1 (ra_q_u hb hc hw z (by omega))
  have e2 : rv_q b c ≠ rv_q b o := fun z => h2 (ra_q_u hb hc ho z (by omega))
  have := hn c hc hs
  omega
theorem rp_rs.q9 (h : rp_rs s b b' w o) {c : Nat} (hc : c < 5) : rv_q b' c < 9 ↔ rv_q b c < 9 := by
  have h9 := h.2.2.1.1
  have hl := h.2.2.1.2.1
  by_cases e1 : c = w
  · rw [e1, h.qw]; omega
  · by_cases e2 : c = o
    · rw [e2, h.qo]; omega
    · rw [h.qc hc e1 e2]
def rp_rk (s b c : Nat) : Nat := rv_cn 5 (fun d => rv_hs s d && decide (rv_q b d < rv_q b c))
theorem rp_rs.rkw (h : rp_rs s b b' w o) : rp_rk s b' w ≤ rp_rk s b w := by
  refine rp_cn_mono (fun d hd z => ?_)
  rw [Bool.and_eq_true, decide_eq_true_eq] at z ⊢
  refine ⟨z.1, ?_⟩
  have z2 := z.2
  rw [h.qw] at z2
  have hl := h.2.2.1.2.1
  by_cases e1 : d = w
  · rw [e1, h.qw] at z2; omega
  · by_cases e2 : d = o
    · rw [e2, h.qo] at z2; omega
    · rw [h.qc hd e1 e2] at z2; omega
theorem rp_rs.rkc (h : rp_rs s b b' w o) {c : Nat} (hc : c < 5) (hs : rv_hs s c = true) (hne : c ≠ w) : rp_rk s b c ≤ rp_rk s b' c := by
  have hl := h.2.2.1.2.1
  refine rp_cn_mono (fun d hd z => ?_)
  rw [Bool.and_eq_true, decide_eq_true_eq] at z ⊢
  refine ⟨z.1, ?_⟩
  have z2 := z.2
  by_cases e0 : c = o
  · subst e0
    rw [h.qo]
    by_cases e1 : d = w
    · rw [e1] at z2; omega
    · by_cases e2 : d = c
      · rw [e2] at z2; omega
      · rw [h.qc hd e1 e2]; omega
  · rw [h.qc hc hne e0]
    have hbt := h.bt hc hs hne e0
    by_cases e1 : d = w
    · rw [e1] at z2; rw [e1, h.qw]; omega
    · by_cases e2 : d = o
      · rw [e2] at z2; rw [e2, h.qo]; omega
      · rw [h.qc hd e1 e2]; exact z2
theorem rp_rs.kbw (h : rp_rs s b b' w o) {k : Nat} (z : ra_kb b s k w = true) : ra_kb b' s k w = true := by
  unfold ra_kb at z ⊢
  rw [Bool.and_eq_true, decide_eq_true_eq, decide_eq_true_eq] at z ⊢
  have := h.rkw
  unfold rp_rk at this
  exact ⟨(h.q9 h.1.1).mpr z.1, by omega⟩
theorem rp_rs.kbc (h : rp_rs s b b' w o) {k c : Nat} (hc : c < 5) (hs : rv_hs s c = true) (hne : c ≠ w) (z : ra_kb b' s k c = true) : ra_kb b s k c = true := by
  unfold ra_kb at z ⊢
  rw [Bool.and_eq_true, decide_eq_true_eq, decide_eq_true_eq] at z ⊢
  have := h.rkc hc hs hne
  unfold rp_rk at this
  exact ⟨(h.q9 hc).mp z.1, by omega⟩
theorem rp_rs.of (h : rp_rs s b b' w o) : ra_of b' s = ra_of b s := by
  unfold ra_of
  refine rv_cn_congr (fun c hc => ?_)
  have := h.q9 hc
  by_cases q : rv_q b c < 9
  · rw [decide_eq_true q, decide_eq_true (this.mpr q)]
  · rw [decide_eq_false q, decide_eq_false (fun z => q (this.mp z))]
theorem rp_rs.eaw (h : rp_rs s b b' w o) : ra_ea b s w ≤ ra_ea b' s w := by
  have h9 := h.2.2.1.1
  have := h.rkw
  unfold rp_rk at this
  unfold ra_ea
  rw [if_pos h9, if_pos ((h.q9 h.1.1).mpr h9)]
  omega
theorem rp_rs.eac (h : rp_rs s b b' w o) {c : Nat} (hc : c < 5) (hs : rv_hs s c = true) (hne : c ≠ w) : ra_ea b' s c ≤ ra_ea b s c := by
  have := h.rkc hc hs hne
  unfold rp_rk at this
  unfold ra_ea
  rw [h.of]
  by_cases q : rv_q b c < 9
  · rw [if_pos q, if_pos ((h.q9 hc).mpr q)]
    omega
  · rw [if_neg q, if_neg (fun z => q ((h.q9 hc).mp z))]
    exact Nat.le_refl _
end RAISE
/-- p' is p with v more for w against o, v less the other way -/
def rp_im (s w o v : Nat) (p p' : Nat → Nat → Nat) : Prop := (w ≠ o ∧ p' w o = p w o + v ∧ p' o w + v = p o w) ∧ ∀ c d, c < 5 → d < 5 → ¬ (c = w ∧ d = o) → ¬ (c = o ∧ d = w) → p' c d = p c d
theorem rp_im_of {s w o g b' : Nat} {n m : Nat → Nat} (hg : g < 20) (h : rp_rs s (m g) b' w o) : rp_im s w o (n g) (ra_P s n m) (ra_P s n (rv_at1 m g b')) := by
  have hset : ∀ c d, ra_P s n m c d + n g * (if (rv_hs s c && rv_hs s d && decide (rv_q b' c < rv_q b' d)) = true then 1 else 0) = ra_P s n (rv_at1 m g b') c d + n g * (if (rv_hs s c && rv_hs s d && decide (rv_q (m g) c < rv_q (m g) d)) = true then 1 else 0) := fun c d => by
    unfold ra_P
    rw [rp_S_mul, rp_S_mul]
    have := rv_sm_set (n := 20) (g := g) (f := fun i => n i * (if (rv_hs s c && rv_hs s d && decide (rv_q (m i) c < rv_q (m i) d)) = true then 1 else 0)) (f' := fun i => n i * (if (rv_hs s c && rv_hs s d && decide (rv_q (rv_at1 m g b' i) c < rv_q (rv_at1 m g b' i) d)) = true then 1 else 0)) hg (fun i _ hne => by rw [ra_at1_ne hne])
    rw [ra_at1_same] at this
    exact this
  have hl := h.2.2.1.2.1
  have hsw := h.1.2.1
  have hso := h.1.2.2.2
  refine ⟨⟨h.ne, ?_, ?_⟩, fun c d hc hd h1 h2 => ?_⟩
  · have := hset w o
    rw [hsw, hso, h.qw, h.qo, if_pos (by rw [decide_eq_true hl]; rfl), if_neg (by rw [decide_eq_false (show ¬ rv_q (m g) w < rv_q (m g) o by omega)]; decide)] at this
    omega
  · have := hset o w
    rw [hsw, hso, h.qw, h.qo, if_neg (by rw [decide_eq_false (show ¬ rv_q (m g) w < rv_q (m g) o by omega)]; decide), if_pos (by rw [decide_eq_true hl]; rfl)] at this
    omega
  · have := hset c d
    have e : (rv_hs s c && rv_hs s d && decide (rv_q b' c < rv_q b' d)) = (rv_hs s c && rv_hs s d && decide (rv_q (m g) c < rv_q (m g) d)) := by
      cases hsc : rv_hs s c
      · rfl
      · cases hsd : rv_hs s d
        · rfl
        · rw [Bool.and_self, Bool.true_and, Bool.true_and]
          apply decide_eq_decide.mpr
          by_cases c1 : c = w
          · subst c1
            have d1 : d ≠ o := fun z => h1 ⟨rfl, z⟩
            by_cases d2 : d = c
            · subst d2; omega
            · rw [h.qw, h.qc hd d2 d1]
              have := h.bt hd hsd d2 d1
              omega
          · by_cases c2 : c = o
            · subst c2
              have d1 : d ≠ w := fun z => h2 ⟨rfl, z⟩
              by_cases d2 : d = c
              · subst d2; omega
              · rw [h.qo, h.qc hd d1 d2]
                have := h.bt hd hsd d1 d2
                omega
            · rw [h.qc hc c1 c2]
              have hbc := h.bt hc hsc c1 c2
              by_cases d1 : d = w
              · rw [d1, h.qw]; omega
              · by_cases d2 : d = o
                · rw [d2, h.qo]; omega
                · rw [h.qc hd d1 d2]
    rw [e] at this
    omega
section IM
variable {s w o v : Nat} {p p' : Nat → Nat → Nat}
theorem rp_im.le (h : rp_im s w o v p p') {d : Nat} (hw : w < 5) (hd : d < 5) : p w d ≤ p' w d ∧ p' d w ≤ p d w := by
  obtain ⟨⟨h0, h1, h2⟩, h3⟩ := h
  by_cases e : d = o
  · subst e; omega
  · rw [h3 w d hw hd (fun z => e z.2) (fun z => h0 z.1), h3 d w hd hw (fun z => h0 z.2) (fun z => e z.1)]
    exact ⟨Nat.le_refl _, Nat.le_refl _⟩
theorem rp_im.eq (h : rp_im s w o v p p') {c d : Nat} (hc : c < 5) (hd : d < 5) (h1 : c ≠ w) (h2 : d ≠ w) : p' c d = p c d := h.2 c d hc hd (fun z => h1 z.1) (fun z => h2 z.2)
theorem rp_im.dn (h : rp_im s w o v p p') {c d : Nat} (hw : w < 5) (hc : c < 5) (hd : d < 5) (h1 : c ≠ w) : p' c d ≤ p c d ∧ p d c ≤ p' d c := by
  by_cases e : d = w
  · subst e; have := h.le hw hc; exact ⟨this.2, this.1⟩
  · rw [h.eq hc hd h1 e, h.eq hd hc e h1]; exact ⟨Nat.le_refl _, Nat.le_refl _⟩
theorem rp_im.cow (h : rp_im s w o v p p') (hw : w < 5) : rv_sm 5 (rp_ct s p w) ≤ rv_sm 5 (rp_ct s p' w) := by
  refine rv_sm_le (fun d hd => ?_)
  have := h.le hw hd
  unfold rp_ct
  by_cases e : w = d
  · rw [if_pos e]; exact Nat.zero_le _
  · rw [if_neg e, if_neg e]
    by_cases q : rv_hs s d = true
    · rw [if_pos q, if_pos q]
      split <;> split <;> (try split) <;> (try split) <;> omega
    · rw [if_neg q]; exact Nat.zero_le _
theorem rp_im.coc (h : rp_im s w o v p p') (hw : w < 5) {c : Nat} (hc : c < 5) (hne : c ≠ w) : rv_sm 5 (rp_ct s p' c) ≤ rv_sm 5 (rp_ct s p c) := by
  refine rv_sm_le (fun d hd => ?_)
  have := h.dn hw hc hd hne
  unfold rp_ct
  by_cases e : c = d
  · rw [if_pos e]; exact Nat.zero_le _
  · rw [if_neg e, if_neg e]
    by_cases q : rv_hs s d = true
    · rw [if_pos q, if_pos q]
      split <;> split <;> (try split) <;> (try split) <;> omega
    · rw [if_neg q]; exact Nat.zero_le _
theorem rp_im.mmw (h : rp_im s w o v p p') (hw : w < 5) (hp : ∀ a b, p a b ≤ 2000) (hp' : ∀ a b, p' a b ≤ 2000) : (ra_mm s p' w 5).2.toInt ≤ (ra_mm s p w 5).2.toInt := by
  rcases rp_mm_ok (s := s) (c := w) (k := 5) hp' with ⟨_, i2, i3⟩ | ⟨_, _, d, i3, i4, i5, i6⟩
  · rcases rp_mm_ok (s := s) (c := w) (k := 5) hp with ⟨_, j2, _⟩ | ⟨_, _, d, j3, j4, j5, _⟩
    · rw [i2, j2]; exact Int.le_refl _
    · rw [i3 d j3 j4] at j5; cases j5
  · rcases rp_mm_ok (s := s) (c := w) (k := 5) hp with ⟨_, _, j3⟩ | ⟨_, j2, _⟩
    · rw [j3 d i3 i4] at i5; cases i5
    · have := j2 d i3 i4 i5
      have := h.le hw i3
      omega
theorem rp_im.mmc (h : rp_im s w o v p p') (hw : w < 5) (hp : ∀ a b, p a b ≤ 2000) (hp' : ∀ a b, p' a b ≤ 2000) {c : Nat} (hc : c < 5) (hne : c ≠ w) : (ra_mm s p c 5).2.toInt ≤ (ra_mm s p' c 5).2.toInt := by
  rcases rp_mm_ok (s := s) (c := c) (k := 5) hp with ⟨_, i2, i3⟩ | ⟨_, _, d, i3, i4, i5, i6⟩
  · rcases rp_mm_ok (s := s) (c := c) (k := 5) hp' with ⟨_, j2, _⟩ | ⟨_, _, d, j3, j4, j5, _⟩
    · rw [i2, j2]; exact Int.le_refl _
    · rw [i3 d j3 j4] at j5; cases j5
  · rcases rp_mm_ok (s := s) (c := c) (k := 5) hp' with ⟨_, _, j3⟩ | ⟨_, j2, _⟩
    · rw [j3 d i3 i4] at i5; cases i5
    · have := j2 d i3 i4 i5
      have := h.dn hw hc i3 hne
      omega
/-! Kemeny -/
def rp_ct1 (x : Nat) (l : List Nat) : Nat := (l.map (fun b => if b = x then 1 else 0)).sum
theorem rp_ct1_c {x c : Nat} {l : List Nat} : rp_ct1 x (c :: l) = (if c = x then 1 else 0) + rp_ct1 x l := by
  unfold rp_ct1
  rw [List.map_cons, List.sum_cons]
theorem rp_im.sw (h : rp_im s w o v p p') (hw : w < 5) {l : List Nat} (hl : ∀ c, c ∈ l → c < 5) : (l.map (p' w)).sum = (l.map (p w)).sum + v * rp_ct1 o l := by
  induction l with
  | nil => rfl
  | cons a l ih =>
    rw [List.map_cons, List.map_cons, List.sum_cons, List.sum_cons, rp_ct1_c, ih (fun c hc => hl c (List.mem_cons_of_mem _ hc)), Nat.mul_add]
    by_cases e : a = o
    · subst e
      rw [if_pos rfl, h.1.2.1]
      omega
    · rw [if_neg e, h.2 w a hw (hl a List.mem_cons_self) (fun z => e z.2) (fun z => h.1.1 z.1)]
      omega
theorem rp_im.sc (h : rp_im s w o v p p') (hw : w < 5) {c : Nat} (hc : c < 5) (hne : c ≠ w) {l : List Nat} (hl : ∀ c, c ∈ l → c < 5) : (l.map (p' c)).sum ≤ (l.map (p c)).sum := by
  induction l with
  | nil => exact Nat.le_refl _
  | cons a l ih =>
    rw [List.map_cons, List.map_cons, List.sum_cons, List.sum_cons]
    have := ih (fun c hc => hl c (List.mem_cons_of_mem _ hc))
    have := (h.dn hw hc (hl a List.mem_cons_self) hne).1
    omega
theorem rp_im.se (h : rp_im s w o v p p') {a : Nat} {l : List Nat} (ha : a < 5) (hne : a ≠ w) (hl : ∀ c, c ∈ l → c < 5) (hc : rp_ct1 w l = 0) : (l.map (p' a)).sum = (l.map (p a)).sum := by
  induction l with
  | nil => rfl
  | cons b l ih =>
    rw [rp_ct1_c] at hc
    have hb : b ≠ w := fun z => by rw [if_pos z] at hc; omega
    rw [List.map_cons, List.map_cons, List.sum_cons, List.sum_cons, ih (fun c hc => hl c (List.mem_cons_of_mem _ hc)) (by omega), h.eq ha (hl b List.mem_cons_self) hne hb]
theorem rp_im.v0 (h : rp_im s w o v p p') {l : List Nat} (hl : ∀ c, c ∈ l → c < 5) (hc : rp_ct1 w l = 0) : ra_vl p' l = ra_vl p l := by
  induction l with
  | nil => rfl
  | cons a l ih =>
    rw [rp_ct1_c] at hc
    have ha : a ≠ w := fun z => by rw [if_pos z] at hc; omega
    have hl' : ∀ c, c ∈ l → c < 5 := fun c hc => hl c (List.mem_cons_of_mem _ hc)
    show (l.map (p' a)).sum + ra_vl p' l = (l.map (p a)).sum + ra_vl p l
    rw [h.se (hl a List.mem_cons_self) ha hl' (by omega), ih hl' (by omega)]
theorem rp_im.vle (h : rp_im s w o v p p') (hw : w < 5) {l : List Nat} (hl : ∀ c, c ∈ l → c < 5) (hc : rp_ct1 w l ≤ 1) (ho : rp_ct1 o l ≤ 1) : ra_vl p' l ≤ ra_vl p l + v := by
  induction l with
  | nil => exact Nat.zero_le _
  | cons a l ih =>
    rw [rp_ct1_c] at hc ho
    have hl' : ∀ c, c ∈ l → c < 5 := fun c hc => hl c (List.mem_cons_of_mem _ hc)
    show (l.map (p' a)).sum + ra_vl p' l ≤ (l.map (p a)).sum + ra_vl p l + v
    by_cases e : a = w
    · rw [if_pos e] at hc
      rw [h.v0 hl' (by omega), e, h.sw hw hl']
      have h1 : v * rp_ct1 o l ≤ v * 1 := Nat.mul_le_mul_left v (by omega)
      omega
    · have h1 := h.sc hw (hl a List.mem_cons_self) e hl'
      have h2 := ih hl' (by omega) (by omega)
      omega
theorem rp_im.veq (h : rp_im s w o v p p') (hw : w < 5) {l : List Nat} (hl : ∀ c, c ∈ l → c < 5) (hc : rp_ct1 w l = 0) (ho : rp_ct1 o l = 1) : ra_vl p' (w :: l) = ra_vl p (w :: l) + v := by
  show (l.map (p' w)).sum + ra_vl p' l = (l.map (p w)).sum + ra_vl p l + v
  rw [h.v0 hl hc, h.sw hw hl, ho, Nat.mul_one]
  omega
theorem rp_ct1_ps {C c : Nat} {l : List Nat} (hC : C < 32) (hc : c < 5) (h : l ∈ ra_ps 5 C) : rp_ct1 c l = if rv_hs C c = true then 1 else 0 := by
  unfold rp_ct1
  rw [ra_ps_sum hC rv_mn_le h]
  have h2 : rv_sm 5 (fun b => if rv_hs C b = true then (if b = c then 1 else 0) else 0) = rv_sm 5 (fun b => if b = c then (if rv_hs C c = true then 1 else 0) else 0) := rv_sm_congr (fun b _ => by
    by_cases e : b = c
    · rw [e, if_pos rfl, if_pos rfl]
    · rw [if_neg e, if_neg e]
      split <;> rfl)
  rw [h2]
  have := rv_sm_set (n := 5) (g := c) (f := fun b => if b = c then (if rv_hs C c = true then 1 else 0) else 0) (f' := fun _ => 0) hc (fun i _ hne => if_neg hne)
  rw [rv_sm_zero (f := fun _ => 0) (fun _ _ => rfl), if_pos rfl] at this
  omega
theorem rp_im.kem (h : rp_im s w o v p p') (hs : s < 32) (hso : rv_hs s o = true) (ho5 : o < 5) (hlo : rv_lo (ra_lds p s) = w) (h0 : s ≠ 0) : rv_lo (ra_lds p' s) = w := by
  obtain ⟨l1, l2, l3⟩ := ra_lo_ok (C := ra_lds p s) ra_lds_lt (ra_lds_ne hs h0)
  obtain ⟨m1, m2, m3⟩ := ra_lo_ok (C := ra_lds p' s) ra_lds_lt (ra_lds_ne hs h0)
  rw [hlo] at l1 l2 l3
  have c1 : ∀ c l, c :: l ∈ ra_ps 5 s → rp_ct1 w (c :: l) ≤ 1 ∧ rp_ct1 o (c :: l) ≤ 1 := fun c l hl => by
    rw [rp_ct1_ps hs l1 hl, rp_ct1_ps hs ho5 hl]
    constructor <;> split <;> omega
  obtain ⟨l, hl, hv⟩ := (rp_lds_hs hs h0 l1).mp l2
  have hlw := rp_ps_all hl
  have hsw := (hlw w List.mem_cons_self).2 hs
  have cw := rp_ct1_ps hs l1 hl
  have co := rp_ct1_ps hs ho5 hl
  rw [rp_ct1_c, if_pos rfl, if_pos hsw] at cw
  rw [rp_ct1_c, if_neg h.1.1, if_pos hso] at co
  have e1 := h.veq l1 (fun c hc => (hlw c (List.mem_cons_of_mem _ hc)).1) (by omega) (by omega)
  have e2 := ra_P1 (p := p') hs rv_mn_le hl
  obtain ⟨l', hl', hv'⟩ := (rp_lds_hs hs h0 m1).mp m2
  have k1 := c1 _ _ hl'
  have e3 := h.vle l1 (fun c hc => (rp_ps_all hl' c hc).1) k1.1 k1.2
  have e4 := ra_P1 (p := p) hs rv_mn_le hl'
  have i1 : rv_hs (ra_lds p s) (rv_lo (ra_lds p' s)) = true := (rp_lds_hs hs h0 m1).mpr ⟨l', hl', by omega⟩
  have i2 : rv_hs (ra_lds p' s) w = true := (rp_lds_hs hs h0 l1).mpr ⟨l, hl, by omega⟩
  apply Nat.le_antisymm
  · apply Nat.le_of_not_lt
    intro z
    rw [m3 w z] at i2
    cases i2
  · apply Nat.le_of_not_lt
    intro z
    rw [l3 _ z] at i1
    cases i1
end IM
/-! Bucklin -/
theorem rp_bk {E : Nat → Bool} {M f k : Nat} (hf : M ≤ k + f) : k ≤ ra_bk E M f k ∧ (∀ j, k ≤ j → j < ra_bk E M f k → j < M ∧ E j = true) ∧ ¬ (ra_bk E M f k < M ∧ E (ra_bk E M f k) = true) := by
  induction f generalizing k with
  | zero =>
    have e : ra_bk E M 0 k = k := rfl
    rw [e]
    exact ⟨Nat.le_refl _, fun j h1 h2 => by omega, fun z => by omega⟩
  | succ f ih =>
    rw [ra_bk_s]
    by_cases q : k < M ∧ E k = true
    · rw [if_pos q]
      obtain ⟨i1, i2, i3⟩ := ih (k := k + 1) (by omega)
      refine ⟨by omega, fun j h1 h2 => ?_, i3⟩
      by_cases e : j = k
      · rw [e]; exact q
      · exact i2 j (by omega) h2
    · rw [if_neg q]
      exact ⟨Nat.le_refl _, fun j h1 h2 => by omega, q⟩
theorem rp_ex {n m : Nat → Nat} {s k : Nat} (hN : rv_sm 20 n ≤ 2000) : ra_ex n m s k = true ↔ ∀ c, c < 5 → 2 * ra_KC n m s k c ≤ rv_sm 20 n := by
  unfold ra_ex
  rw [rv_al_iff]
  have e : ∀ c, (Int32.ofNat (rv_sm 20 n) < 2 * Int32.ofNat (ra_KC n m s k c)) = (rv_sm 20 n < 2 * ra_KC n m s k c) := fun c => by
    have h2 : (2 : Int32) * Int32.ofNat (ra_KC n m s k c) = Int32.ofNat (2 * ra_KC n m s k c) := by rw [Int32.ofNat_mul]; rfl
    rw [h2]
    have := @ra_KC_le n m s k c
    exact propext (rv_n_lt (by omega) (by omega))
  constructor
  · intro h c hc
    have := h c hc
    simp only [e] at this
    rw [Bool.not_eq_true', decide_eq_false_iff_not] at this
    omega
  · intro h c hc
    have := h c hc
    simp only [e]
    rw [Bool.not_eq_true', decide_eq_false_iff_not]
    omega
theorem rp_buck {n m m' : Nat → Nat} {s w : Nat} (hN : rv_sm 20 n ≤ 2000) (h : rp_is s (fun c => (ra_KC n m s (ra_bu n m s) c : Int)) w) (hw : ∀ k, ra_KC n m s k w ≤ ra_KC n m' s k w) (hc : ∀ k c, c < 5 → c ≠ w → ra_KC n m' s k c ≤ ra_KC n m s k c) : rp_is s (fun c => (ra_KC n m' s (ra_bu n m' s) c : Int)) w := by
  have hmn := @rv_mn_le s
  obtain ⟨b1, b2, b3⟩ := rp_bk (E := ra_ex n m s) (M := rv_mn s) (f := 5) (k := 1) (by omega)
  obtain ⟨d1, d2, d3⟩ := rp_bk (E := ra_ex n m' s) (M := rv_mn s) (f := 5) (k := 1) (by omega)
  have e1 : ra_bk (ra_ex n m s) (rv_mn s) 5 1 = ra_bu n m s := rfl
  have e2 : ra_bk (ra_ex n m' s) (rv_mn s) 5 1 = ra_bu n m' s := rfl
  rw [e1] at b1 b2 b3
  rw [e2] at d1 d2 d3
  generalize ra_bu n m s = k0 at h b1 b2 b3
  generalize ra_bu n m' s = k1 at d1 d2 d3
  rcases Nat.lt_trichotomy k1 k0 with z | z | z
  · obtain ⟨x1, x2⟩ := b2 k1 d1 z
    have hA := (rp_ex hN).mp x2
    have hB : 2 * ra_KC n m' s k1 w ≤ rv_sm 20 n → False := fun q => d3 ⟨x1, (rp_ex hN).mpr (fun c hc5 => by
      by_cases e : c = w
      · rw [e]; exact q
      · have := hc k1 c hc5 e
        have := hA c hc5
        omega)⟩
    refine ⟨h.1, h.2.1, fun b hb hsb => ?_⟩
    by_cases e : b = w
    · subst e; right; omega
    · left
      have := hc k1 b hb e
      have := hA b hb
      have : ¬ 2 * ra_KC n m' s k1 w ≤ rv_sm 20 n := hB
      show (ra_KC n m' s k1 b : Int) < (ra_KC n m' s k1 w : Int)
      omega
  · subst z
    exact h.up (by have := hw k1; omega) (fun b hb _ hne => by have := hc k1 b hb hne; omega)
  · exfalso
    obtain ⟨x1, x2⟩ := d2 k0 b1 z
    have hB := (rp_ex hN).mp x2
    refine b3 ⟨x1, (rp_ex hN).mpr (fun c hc5 => ?_)⟩
    have hBw := hB w h.1
    have hw0 := hw k0
    by_cases hsc : rv_hs s c = true
    · have := h.2.2 c hc5 hsc
      dsimp only at this
      omega
    · have : ra_KC n m s k0 c = 0 := if_neg hsc
      omega
/-! together -/
theorem rp_raise_KC {s w o g b' k : Nat} {n m : Nat → Nat} (h : rp_rs s (m g) b' w o) : ra_KC n m s k w ≤ ra_KC n (rv_at1 m g b') s k w ∧ ∀ c, c < 5 → c ≠ w → ra_KC n (rv_at1 m g b') s k c ≤ ra_KC n m s k c := by
  constructor
  · unfold ra_KC ra_K
    rw [if_pos h.1.2.1, if_pos h.1.2.1]
    refine ra_S_mono (fun i _ z => ?_)
    by_cases e : i = g
    · rw [e, ra_at1_same]; rw [e] at z; exact h.kbw z
    · rw [ra_at1_ne e]; exact z
  · intro c hc hne
    unfold ra_KC ra_K
    by_cases hs : rv_hs s c = true
    · rw [if_pos hs, if_pos hs]
      refine ra_S_mono (fun i _ z => ?_)
      by_cases e : i = g
      · rw [e, ra_at1_same] at z; rw [e]; exact h.kbc hc hs hne z
      · rw [ra_at1_ne e] at z; exact z
    · rw [if_neg hs, if_neg hs]; exact Nat.le_refl _
theorem rp_raise_pf {g b' : Nat} {n m : Nat → Nat} (hp : rp_pf n m) (hb : b' ∈ rv_B) : rp_pf n (rv_at1 m g b') := ⟨hp.1, fun i hi hne => by
  by_cases e : i = g
  · rw [e, ra_at1_same]; exact hb
  · rw [ra_at1_ne e]; exact hp.2 i hi hne⟩
theorem rp_raise {rule s o g b' : Nat} {n m : Nat → Nat} (hr : rule < 4 ∨ rule = 8 ∨ rule = 11) (hs : s < 32) (h0 : s ≠ 0) (hp : rp_pf n m) (hg : g < 20) (h : rp_rs s (m g) b' (ra_w rule s n m) o) : ra_w rule s n (rv_at1 m g b') = ra_w rule s n m := by
  have him := rp_im_of (n := n) hg h
  have hpp : ∀ a b, ra_P s n m a b ≤ 2000 := fun a b => hp.p
  have hp' := rp_raise_pf (g := g) hp h.2.1.2
  have hpp' : ∀ a b, ra_P s n (rv_at1 m g b') a b ≤ 2000 := fun a b => hp'.p
  have hw5 := h.1.1
  by_cases q : rule = 11
  · subst q
    unfold ra_w at him ⊢
    rw [rp_W11] at him ⊢
    rw [rp_W11]
    exact him.kem hs h.1.2.2.2 h.1.2.2.1 rfl h0
  · have hr' : rp_pts rule := by unfold rp_pts; omega
    have h1 := rp_w hr' hs h0 hp
    have h2 := rp_w hr' hs h0 hp'
    refine (rp_is.u ?_ h2).symm
    rcases (show rule = 0 ∨ rule = 1 ∨ rule = 2 ∨ rule = 3 ∨ rule = 8 by omega) with rfl | rfl | rfl | rfl | rfl
    · have hk := rp_raise_KC (n := n) (k := 1) h
      refine h1.up ?_ (fun c hc _ hne => ?_)
      · rw [rp_X0, rp_X0]; have := hk.1; omega
      · rw [rp_X0, rp_X0]; have := hk.2 c hc hne; omega
    · refine h1.up ?_ (fun c hc hsc hne => ?_)
      · rw [rp_X1, rp_X1]
        have : ra_bm n m s (ra_w 1 s n m) ≤ ra_bm n (rv_at1 m g b') s (ra_w 1 s n m) := rv_sm_le (fun i _ => by
          refine Nat.mul_le_mul_left _ ?_
          by_cases e : i = g
          · rw [e, ra_at1_same]; exact h.eaw
          · rw [ra_at1_ne e]; exact Nat.le_refl _)
        omega
      · rw [rp_X1, rp_X1]
        have : ra_bm n (rv_at1 m g b') s c ≤ ra_bm n m s c := rv_sm_le (fun i _ => by
          refine Nat.mul_le_mul_left _ ?_
          by_cases e : i = g
          · rw [e, ra_at1_same]; exact h.eac hc hsc hne
          · rw [ra_at1_ne e]; exact Nat.le_refl _)
        omega
    · refine h1.up ?_ (fun c hc hsc hne => ?_)
      · rw [rp_X2, rp_X2]; have := him.cow hw5; omega
      · rw [rp_X2, rp_X2]; have := him.coc hw5 hc hne; omega
    · refine h1.up ?_ (fun c hc hsc hne => ?_)
      · rw [rp_X3, rp_X3]; have := him.mmw hw5 hpp hpp'; omega
      · rw [rp_X3, rp_X3]; have := him.mmc hw5 hpp hpp' hc hne; omega
    · have hX : ∀ m : Nat → Nat, rp_X 8 s n m = fun c => (ra_KC n m s (ra_bu n m s) c : Int) := fun m => funext (fun c => rp_X8)
      rw [hX] at h1 ⊢
      exact rp_buck hp.1 h1 (fun k => (rp_raise_KC h).1) (fun k c hc hne => (rp_raise_KC h).2 c hc hne)
theorem rp_rsq {rule s G g : Nat} {n m : Nat → Nat} (hr : rule < 4 ∨ rule = 8 ∨ rule = 11) (hs : s < 32) (hp : rp_pf (rv_cut 0 G n) m) (hg : g < G) (hG : G ≤ 20) (hng : n g ≠ 0) : ra_rsq rule s G n m g = false := by
  unfold ra_rsq
  by_cases h0 : s = 0
  · rw [decide_eq_false (fun z => z h0), Bool.false_and]
  · by_cases q : ra_da (m g) s (ra_w rule s (rv_cut 0 G n) m) 5 = 5
    · simp only [q, ne_eq, not_true_eq_false, decide_false, Bool.false_and, Bool.and_false]
    · have hb := hp.2 g (by omega) (by rw [ra_cut_g hg]; exact hng)
      have hw := ra_w_in (rule := rule) (n := rv_cut 0 G n) (m := m) hs h0
      rcases ra_da_ok (b := m g) (s := s) (w := ra_w rule s (rv_cut 0 G n) m) (k := 5) (Nat.le_refl 5) with ⟨z, -⟩ | ⟨z1, z2, z3, z4, z5⟩
      · exact absurd z q
      · have hF := ra_F1 hb hw.1 z1 z3 (by omega)
        have hrs : rp_rs s (m g) (ra_rb m s (ra_w rule s (rv_cut 0 G n) m) g) (ra_w rule s (rv_cut 0 G n) m) (ra_da (m g) s (ra_w rule s (rv_cut 0 G n) m) 5) := ⟨⟨hw.1, hw.2, z1, z2⟩, ⟨hb, hF.1⟩, ⟨z3, z4, z5⟩, hF.2⟩
        have := rp_raise hr hs h0 hp (show g < 20 by omega) hrs
        simp only [this, ne_eq, not_true_eq_false, decide_false, Bool.and_false]
