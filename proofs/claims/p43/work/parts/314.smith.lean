/-! the Smith set -/
theorem rp_sk_ok {s k : Nat} {p : Nat → Nat → Nat} (hs : s < 32) (hk : k < 32) : ra_sub (ra_sk s p k) s ∧ ra_dm s p (ra_sk s p k) = true ∧ (s ≠ 0 → ra_sk s p k ≠ 0) ∧ ∀ t, 1 ≤ t → t ≤ k → ra_sub t s → ra_dm s p t = true → rv_mn (ra_sk s p k) ≤ rv_mn t := by
  induction k with
  | zero =>
    refine ⟨fun _ _ h => h, ra_dm_iff.mpr (fun a _ b _ _ h1 h2 => ?_), fun h => h, fun t h1 h2 => by omega⟩
    have h2 : rv_hs s b = false := h2
    rw [h1] at h2; cases h2
  | succ k ih =>
    obtain ⟨i1, i2, i3, i4⟩ := ih (by omega)
    rw [ra_sk_s]
    by_cases q : rv_df (k + 1) s = 0 ∧ rv_mn (k + 1) < rv_mn (ra_sk s p k) ∧ ra_dm s p (k + 1) = true
    · rw [if_pos q]
      refine ⟨(ra_df_sub hk).mp q.1, q.2.2, fun _ => by omega, fun t h1 h2 h3 h4 => ?_⟩
      by_cases e : t = k + 1
      · rw [e]; exact Nat.le_refl _
      · have := i4 t h1 (by omega) h3 h4
        omega
    · rw [if_neg q]
      refine ⟨i1, i2, i3, fun t h1 h2 h3 h4 => ?_⟩
      by_cases e : t = k + 1
      · subst e
        apply Nat.le_of_not_lt
        intro z
        exact q ⟨(ra_df_sub hk).mpr h3, z, h4⟩
      · exact i4 t h1 (by omega) h3 h4
theorem rp_smith {s : Nat} {p : Nat → Nat → Nat} (hs : s < 32) (h0 : s ≠ 0) : rp_dom s (ra_sk s p 30) p := by
  obtain ⟨i1, i2, i3, -⟩ := rp_sk_ok (p := p) (k := 30) hs (by decide)
  have hlt : ra_sk s p 30 < 32 := ra_sk_lt hs (by decide)
  exact ⟨i1, ra_mn_hs hlt (Nat.pos_of_ne_zero (fun z => i3 h0 ((ra_mn_z hlt).mp z))), fun a b ha hb h1 h2 h3 => ra_dm_iff.mp i2 a ha b hb h1 h2 h3⟩
theorem rp_smith0 {p : Nat → Nat → Nat} : ra_sk 0 p 30 = 0 := by
  have h := (rp_sk_ok (s := 0) (p := p) (k := 30) (by decide) (by decide)).1
  refine rv_hs_ext (ra_sk_lt (by decide) (by decide)) (by decide) (fun c hc => ?_)
  rw [ra_hs0, Bool.eq_false_iff]
  intro z
  have := h c hc z
  rw [ra_hs0] at this
  cases this
theorem rp_smith_one {s a : Nat} {p : Nat → Nat → Nat} (hs : s < 32) (ha : a < 5) (h : ra_ba s p a = true) : ra_sk s p 30 = 2 ^ a := by
  have hi := rp_ba_iff.mp h
  have h0 : s ≠ 0 := rp_ne0 hi.1
  have hd := rp_ba_dom ha h
  obtain ⟨i1, i2, i3, i4⟩ := rp_sk_ok (p := p) (k := 30) hs (by decide)
  have hlt : ra_sk s p 30 < 32 := ra_sk_lt hs (by decide)
  have hD := rp_smith (p := p) hs h0
  have hpw : 1 ≤ 2 ^ a ∧ 2 ^ a ≤ 30 ∧ rv_mn (2 ^ a) = 1 := of_decide_eq_true (List.all_eq_true.mp (by decide +kernel : ((List.range 5).all fun a => decide (1 ≤ 2 ^ a ∧ 2 ^ a ≤ 30 ∧ rv_mn (2 ^ a) = 1)) = true) a (rv_rg ha))
  have h1 := i4 (2 ^ a) hpw.1 hpw.2.1 hd.1 (ra_dm_iff.mpr (fun x hx y hy e1 e2 e3 => hd.2.2 x y hx hy e1 e2 e3))
  rw [hpw.2.2] at h1
  have haD : rv_hs (ra_sk s p 30) a = true := by
    cases q : rv_hs (ra_sk s p 30) a
    · obtain ⟨y, hy, hDy⟩ := hD.2.1
      have e1 := hD.2.2 y a hy ha hDy hi.1 q
      have e2 := hi.2 y hy (fun z => by rw [z, q] at hDy; cases hDy) (i1 y hy hDy)
      omega
    · rfl
  refine rp_one hlt ha (i3 h0) (fun c hc hDc => ?_)
  rw [rv_hs_pow ha hc]
  by_cases e : c = a
  · rw [e, beq_self_eq_true]
  · exfalso
    have h3 := ra_mn_wo hlt ha haD
    have h4 : rv_hs (rv_wo (ra_sk s p 30) a) c = true := by
      rw [rv_wo_hs hlt ha hc, hDc, Bool.true_and, Bool.not_eq_true', decide_eq_false_iff_not]
      exact e
    have h5 := ra_mn_wo (rv_wo_lt hlt) hc h4
    omega
/-! how many rounds -/
theorem rp_rn6 {n m : Nat → Nat} {f C : Nat} (hC : C < 32) (hf : rv_mn C ≤ f + 1) : ra_rn false n m f C = rv_mn C - 1 := by
  induction f generalizing C with
  | zero => show 0 = _; omega
  | succ f ih =>
    rw [ra_rn_s]
    by_cases q : rv_mn C ≤ 1
    · rw [if_pos (by unfold ra_stp; rw [decide_eq_true q, Bool.true_or])]
      omega
    · rw [if_neg (by unfold ra_stp; rw [decide_eq_false q, Bool.false_or, Bool.false_and]; decide)]
      obtain ⟨h1, h2⟩ := ra_out_in (cb := false) (n := n) (m := m) hC (by omega)
      have h3 := ra_mn_wo hC h1 h2
      unfold ra_nx
      rw [ih (rv_wo_lt hC) (by omega)]
      omega
theorem rp_rn7 {n m : Nat → Nat} {f C : Nat} (hC : C < 32) (hf : rv_mn C ≤ f + 1) : ra_rn true n m f C ≤ rv_mn C - 1 := by
  induction f generalizing C with
  | zero => show 0 ≤ _; omega
  | succ f ih =>
    rw [ra_rn_s]
    by_cases q : ra_stp true n m C = true
    · rw [if_pos q]; omega
    · rw [if_neg q]
      have q1 : ¬ rv_mn C ≤ 1 := fun z => q (by unfold ra_stp; rw [decide_eq_true z, Bool.true_or])
      obtain ⟨h1, h2⟩ := ra_out_in (cb := true) (n := n) (m := m) hC (by omega)
      have h3 := ra_mn_wo hC h1 h2
      have := ih (C := ra_nx true n m C) (rv_wo_lt hC) (by unfold ra_nx; omega)
      unfold ra_nx at this ⊢
      omega
theorem rp_rt6 {n m : Nat → Nat} {s : Nat} (hs : s < 32) : ra_rt false n m s = rv_mn s - 1 := rp_rn6 hs (by have := @rv_mn_le s; omega)
theorem rp_rt7 {n m : Nat → Nat} {s : Nat} (hs : s < 32) : ra_rt true n m s ≤ rv_mn s - 1 := rp_rn7 hs (by have := @rv_mn_le s; omega)
/-! the favourite wins by a rule -/
theorem rp_cn_pos {k : Nat} {p : Nat → Bool} (h : 0 < rv_cn k p) : ∃ i, i < k ∧ p i = true := by
  induction k with
  | zero => exact absurd h (Nat.lt_irrefl 0)
  | succ k ih =>
    rw [rv_cn_s] at h
    by_cases q : p k = true
    · exact ⟨k, by omega, q⟩
    · rw [if_neg q] at h
      obtain ⟨i, hi, e⟩ := ih h
      exact ⟨i, by omega, e⟩
theorem rp_fav {s : Nat} {n m : Nat → Nat} (hs : s < 32) (h0 : s ≠ 0) : ∃ r, r < 12 ∧ ra_w r s n m = ra_amx (ra_cw s n m 12) 5 := by
  have h1 := @ra_cw_pos s n m
  have h2 := ra_amx_ge (f := ra_cw s n m 12) (k := 5) (ra_w_in (rule := 0) (n := n) (m := m) hs h0).1
  obtain ⟨r, hr, e⟩ := rp_cn_pos (k := 12) (p := fun r => ra_w r s n m == ra_amx (ra_cw s n m 12) 5) (by
    show 0 < ra_cw s n m 12 (ra_amx (ra_cw s n m 12) 5)
    omega)
  exact ⟨r, hr, eq_of_beq e⟩
/-! the voters' order does not count -/
def rp_same (n m n' m' : Nat → Nat) : Prop := ∀ f : Nat → Nat, rv_sm 20 (fun g => n g * f (m g)) = rv_sm 20 (fun g => n' g * f (m' g))
theorem rp_same.S {n m n' m' : Nat → Nat} (h : rp_same n m n' m') (q : Nat → Bool) : ra_S 20 n (fun g => q (m g)) = ra_S 20 n' (fun g => q (m' g)) := by
  have e : ∀ n m : Nat → Nat, ra_S 20 n (fun g => q (m g)) = rv_sm 20 (fun g => n g * (if q (m g) = true then 1 else 0)) := fun n m => by
    unfold ra_S
    refine rv_sm_congr (fun g _ => ?_)
    by_cases z : q (m g) = true
    · rw [if_pos z, if_pos z, Nat.mul_one]
    · rw [if_neg z, if_neg z, Nat.mul_zero]
  rw [e, e]
  exact h (fun r => if q r = true then 1 else 0)
theorem rp_same.N {n m n' m' : Nat → Nat} (h : rp_same n m n' m') : rv_sm 20 n = rv_sm 20 n' := by
  have := h (fun _ => 1)
  simpa using this
theorem rp_same.P {s : Nat} {n m n' m' : Nat → Nat} (h : rp_same n m n' m') : ra_P s n m = ra_P s n' m' := by
  funext a b
  exact h.S (fun r => rv_hs s a && rv_hs s b && decide (rv_q r a < rv_q r b))
theorem rp_same.K {n m n' m' : Nat → Nat} (h : rp_same n m n' m') : ra_KC n m = ra_KC n' m' := by
  funext C k c
  unfold ra_KC ra_K
  rw [h.S (fun r => ra_kb r C k c)]
theorem rp_same.L {n m n' m' : Nat → Nat} (h : rp_same n m n' m') : ra_L n m = ra_L n' m' := by
  funext C c
  exact h.S (fun r => ra_la r C c)
theorem rp_same.bm {n m n' m' : Nat → Nat} (h : rp_same n m n' m') : ra_bm n m = ra_bm n' m' := by
  funext C c
  exact h (fun r => ra_ea r C c)
theorem rp_same.x {n m n' m' : Nat → Nat} (h : rp_same n m n' m') {cb : Bool} : ra_x cb n m = ra_x cb n' m' := by
  funext C c
  unfold ra_x
  rw [h.L, h.K]
theorem rp_same.out {n m n' m' : Nat → Nat} (h : rp_same n m n' m') {cb : Bool} : ra_out cb n m = ra_out cb n' m' := by
  funext C
  unfold ra_out
  rw [h.x]
theorem rp_same.mj {n m n' m' : Nat → Nat} (h : rp_same n m n' m') : ra_mj n m = ra_mj n' m' := by
  funext C
  have e : ra_mq n m = ra_mq n' m' := by
    funext C c
    unfold ra_mq
    rw [h.K]
  unfold ra_mj
  rw [e]
theorem rp_same.nx {n m n' m' : Nat → Nat} (h : rp_same n m n' m') {cb : Bool} : ra_nx cb n m = ra_nx cb n' m' := by
  funext C
  unfold ra_nx
  rw [h.out]
theorem rp_same.stp {n m n' m' : Nat → Nat} (h : rp_same n m n' m') {cb : Bool} : ra_stp cb n m = ra_stp cb n' m' := by
  funext C
  unfold ra_stp
  rw [h.mj]
theorem rp_same.cs {n m n' m' : Nat → Nat} (h : rp_same n m n' m') {cb : Bool} {s i : Nat} : ra_cs cb n m s i = ra_cs cb n' m' s i := by
  induction i with
  | zero => rfl
  | succ i ih => rw [ra_cs_s, ra_cs_s, ih, h.nx]
theorem rp_same.rn {n m n' m' : Nat → Nat} (h : rp_same n m n' m') {cb : Bool} {f C : Nat} : ra_rn cb n m f C = ra_rn cb n' m' f C := by
  induction f generalizing C with
  | zero => rfl
  | succ f ih => rw [ra_rn_s, ra_rn_s, ih, h.nx, h.stp]
theorem rp_same.an {n m n' m' : Nat → Nat} (h : rp_same n m n' m') {cb : Bool} {s : Nat} : ra_an cb n m s = ra_an cb n' m' s := by
  unfold ra_an ra_rt ra_en
  rw [h.rn, h.cs, h.mj]
theorem rp_same.nn {n m n' m' : Nat → Nat} (h : rp_same n m n' m') : ra_nn n m = ra_nn n' m' := by
  funext C
  unfold ra_nn ra_nb ra_ns
  rw [h.bm]
theorem rp_same.nf {n m n' m' : Nat → Nat} (h : rp_same n m n' m') {f C : Nat} : ra_nf n m f C = ra_nf n' m' f C := by
  induction f generalizing C with
  | zero => rfl
  | succ f ih => rw [ra_nf_s, ra_nf_s, ih, h.nn]
theorem rp_same.bo {n m n' m' : Nat → Nat} (h : rp_same n m n' m') {s C c : Nat} : ra_bo s n m C c = ra_bo s n' m' C c := by
  have e : ra_bt s n m C c = ra_bt s n' m' C c := by
    funext b
    unfold ra_bt
    rw [h.N, h.P]
  unfold ra_bo
  rw [e]
theorem rp_same.bu {n m n' m' : Nat → Nat} (h : rp_same n m n' m') {s : Nat} : ra_bu n m s = ra_bu n' m' s := by
  have e : ra_ex n m s = ra_ex n' m' s := by
    funext k
    unfold ra_ex
    rw [h.N, h.K]
  unfold ra_bu
  rw [e]
theorem rp_same.pt {n m n' m' : Nat → Nat} (h : rp_same n m n' m') {rule s : Nat} : ra_pt rule s n m = ra_pt rule s n' m' := by
  funext c
  unfold ra_pt
  rw [h.K, h.bo, h.P, h.bu]
theorem rp_same.W {n m n' m' : Nat → Nat} (h : rp_same n m n' m') {rule s : Nat} : ra_W rule s n m = ra_W rule s n' m' := by
  unfold ra_W ra_bw
  rw [h.pt, h.pt, h.pt, h.P, h.N, h.an, h.an, h.nf]
theorem rp_same.wc {n m n' m' : Nat → Nat} (h : rp_same n m n' m') {rule s : Nat} : ra_wc rule s n m = ra_wc rule s n' m' := by
  unfold ra_wc ra_w
  rw [h.W]
/-! a group taken out and put at the end -/
theorem rp_sm_sh {G g : Nat} {f : Nat → Nat} (hg : g < G) : rv_sm (G - 1) (ra_sh g f) + f g = rv_sm G f := by
  obtain ⟨k, rfl⟩ : ∃ k, G = k + 1 := ⟨G - 1, by omega⟩
  rw [Nat.add_sub_cancel]
  induction k with
  | zero =>
    have : g = 0 := by omega
    subst this
    rfl
  | succ k ih =>
    have e : rv_sm (k + 1) (ra_sh g f) = rv_sm k (ra_sh g f) + ra_sh g f k := rfl
    have e2 : rv_sm (k + 1 + 1) f = rv_sm (k + 1) f + f (k + 1) := rfl
    by_cases q : g = k + 1
    · subst q
      have e3 : rv_sm (k + 1) (ra_sh (k + 1) f) = rv_sm (k + 1) f := rv_sm_congr (fun i hi => if_pos hi)
      rw [e3, e2]
    · have h1 := ih (by omega)
      have e4 : ra_sh g f k = f (k + 1) := if_neg (by omega)
      rw [e, e2, e4]
      omega
theorem rp_turn {G g x : Nat} {n b : Nat → Nat} (hG : G ≤ 20) (hg : g < G) : rp_same (rv_cut 0 G (rv_at1 (ra_sh g n) (G - 1) (n g))) (rv_at1 (ra_sh g b) (G - 1) x) (rv_cut 0 G n) (rv_at1 b g x) := fun f => by
  have c1 : ∀ (n' m' : Nat → Nat), rv_sm 20 (fun i => rv_cut 0 G n' i * f (m' i)) = rv_sm G (fun i => n' i * f (m' i)) := fun n' m' => by
    rw [rv_sm_ext (n := G) (m := 20) hG (fun i hi _ => by
      have : rv_cut 0 G n' i = 0 := if_neg (by omega)
      rw [this, Nat.zero_mul])]
    refine rv_sm_congr (fun i hi => ?_)
    have : rv_cut 0 G n' i = n' i := if_pos ⟨Nat.zero_le _, hi⟩
    rw [this]
  rw [c1, c1, ← rp_sm_sh (f := fun i => n i * f (rv_at1 b g x i)) hg]
  obtain ⟨k, rfl⟩ : ∃ k, G = k + 1 := ⟨G - 1, by omega⟩
  rw [Nat.add_sub_cancel]
  show rv_sm k (fun i => rv_at1 (ra_sh g n) k (n g) i * f (rv_at1 (ra_sh g b) k x i)) + rv_at1 (ra_sh g n) k (n g) k * f (rv_at1 (ra_sh g b) k x k) = _
  rw [ra_at1_same, ra_at1_same]
  have e : rv_sm k (fun i => rv_at1 (ra_sh g n) k (n g) i * f (rv_at1 (ra_sh g b) k x i)) = rv_sm k (ra_sh g (fun i => n i * f (rv_at1 b g x i))) := by
    refine rv_sm_congr (fun i hi => ?_)
    rw [ra_at1_ne (by omega), ra_at1_ne (by omega)]
    unfold ra_sh
    by_cases q : i < g
    · rw [if_pos q, if_pos q, if_pos q]
      show n i * f (b i) = n i * f (rv_at1 b g x i)
      rw [ra_at1_ne (by omega)]
    · rw [if_neg q, if_neg q, if_neg q]
      show n (i + 1) * f (b (i + 1)) = n (i + 1) * f (rv_at1 b g x (i + 1))
      rw [ra_at1_ne (by omega)]
  rw [e]
  show _ + n g * f x = _ + n g * f (rv_at1 b g x g)
  rw [ra_at1_same]
