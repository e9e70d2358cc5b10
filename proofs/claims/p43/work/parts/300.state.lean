/-! the state of a run of the law: what its calls keep -/
def rc_I (K : Nat) (d : Nat → ra_R) (s G : Nat) (n b : Nat → Nat) (w : rv_W) : Prop := rv_ST 1 s G n b w ∧ rv_Rows w ∧ (K ≤ 5 ∧ ra_ch K d w) ∧ w 20 0 = 0
theorem rc_ask {K : Nat} {d : Nat → ra_R} {s G : Nat} {n b : Nat → Nat} {w : rv_W} {A : Nat → Nat → (Nat → Nat) → (Nat → Nat) → Int32} {fc : rv_W → rv_R} (h : rc_I K d s G n b w) (hA : ra_Sc A fc) : rv_T (fc w) (fun v w' => v = A s G n b ∧ rc_I K d s G n b w') :=
  (hA s G n b w ⟨h.1, trivial⟩ h.2.1).mono (fun v w' ⟨hv, hf, hr⟩ => ⟨hv, h.1.fr (fun c j z => hf c j (by omega)), hr, ⟨h.2.2.1.1, h.2.2.1.2.fr h.2.2.1.1 (hf _ _ (by omega)) (fun c j _ _ => hf c j (by omega))⟩, by rw [hf _ _ (by omega)]; exact h.2.2.2⟩)
/-- a question, and what comes behind it -/
theorem rc_q {K : Nat} {d : Nat → ra_R} {s G : Nat} {n b : Nat → Nat} {w : rv_W} {A : Nat → Nat → (Nat → Nat) → (Nat → Nat) → Int32} {fc : rv_W → rv_R} {k : Int32 → rv_W → rv_R} {Q : Int32 → rv_W → Prop} (hA : ra_Sc A fc) (h : rc_I K d s G n b w) (hk : ∀ w', rc_I K d s G n b w' → rv_T (k (A s G n b) w') Q) : rv_T (rv_bd (fc w) k) Q :=
  rv_T_call (rc_ask h hA) (fun v w' ⟨hv, h'⟩ => by rw [hv]; exact hk w' h')
theorem rc_noop {K : Nat} {d : Nat → ra_R} {s G : Nat} {n b : Nat → Nat} {w : rv_W} {A : Int32} {t : rv_R} (h : rc_I K d s G n b w) (e : t = some (A, w)) : rv_T t (fun v w' => v = A ∧ rc_I K d s G n b w') := rv_T_of e ⟨rfl, h⟩
theorem rc_act {K : Nat} {d : Nat → ra_R} {s G : Nat} {n b : Nat → Nat} {w : rv_W} {s' G' : Nat} {n' b' : Nat → Nat} {A : Int32} {fc : rv_W → rv_R} {kc : Int32 → rv_W → rv_R} (h : rc_I K d s G n b w) (ec : fc w = rv_bd (f_X10_remember w) kc) (hc : ∀ r w1, rv_ST 1 s G n b w1 → rv_T (kc r w1) (fun v w' => v = A ∧ rv_ST 1 s' G' n' b' w' ∧ ra_hf w1 w')) : rv_T (fc w) (fun v w' => v = A ∧ rc_I (ra_hK K) (ra_hD K d (ra_R.mk s G n b)) s' G' n' b' w') := by
  obtain ⟨hS, hR, ⟨hK, hch⟩, hT⟩ := h
  rw [ec]
  refine rv_T_call (ra_remember hK hch hS) (fun r w1 ⟨h1, hf1⟩ => ?_)
  have hS1 : rv_ST 1 s G n b w1 := hS.fr (fun c j z => hf1 c j (by omega))
  refine (hc r w1 hS1).mono (fun v w2 ⟨hv, hS2, hf2⟩ => ⟨hv, hS2, ?_, ⟨ra_hK_le hK, h1.fr (ra_hK_le hK) (hf2 _ _ (by omega)) (fun c j z1 z2 => hf2 c j (by omega))⟩, ?_⟩)
  · exact hR.fr (fun c j z1 z2 => by rw [hf2 c j (by omega), hf1 c j (by omega)])
  · rw [hf2 _ _ (by omega), hf1 _ _ (by omega), hT]
theorem rc_undo0 {d : Nat → ra_R} {s G : Nat} {n b : Nat → Nat} {w : rv_W} (h : rc_I 0 d s G n b w) : f_X10_undo w = some (-1000003, w) := by
  have e1 : (w 0 2 < (1 : Int32)) := by rw [h.2.2.1.2.1]; decide
  unfold f_X10_undo
  rw [if_pos e1]
theorem rc_undo {k : Nat} {d : Nat → ra_R} {s G : Nat} {n b : Nat → Nat} {w : rv_W} (h : rc_I (k + 1) d s G n b w) : rv_T (f_X10_undo w) (fun v w' => v = Int32.ofNat k ∧ rc_I k d (d k).s (d k).G (d k).n (d k).b w') := by
  obtain ⟨hS, hR, ⟨hK, hch⟩, hT⟩ := h
  have e1 : (w 0 2 < (1 : Int32)) ↔ k + 1 < 1 := by rw [hch.1]; exact rv_n_lt (j := 1) (by omega) (by omega)
  have e5 : ((5 : Int32) < w 0 2) ↔ 5 < k + 1 := by rw [hch.1]; exact rv_n_lt (i := 5) (by omega) (by omega)
  have ep : Int32.ofNat (k + 1) - 1 = Int32.ofNat k := ra_pred (by omega)
  obtain ⟨c1, hh, ⟨c2, c2'⟩, c3⟩ := hch
  have hm := (c2 k (by omega)).1
  have hk := ra_sts_in hm
  unfold f_X10_undo
  rw [if_neg (fun z => by have := e1.mp z; omega), if_neg (fun z => by have := e5.mp z; omega), rv_T_lt, c1, ep, rv_up_same, rv_ck5 (by omega), rv_nn5 (by omega), rv_up_of (by omega), (c2 k (by omega)).2]
  refine rv_T_gd.mpr ⟨ra_rst hm, ?_⟩
  rw [ra_rnn hm]
  refine rv_T_call (ra_copy (by omega)) (fun _ w2 ⟨hf, h0, h1, hc⟩ => ?_)
  have hS0 : rv_ST (hh k) (d k).s (d k).G (d k).n (d k).b (rv_up w 0 2 (Int32.ofNat k)) := (c3 k (by omega)).fr (fun c j z => by rw [rv_up_of (by omega)])
  have hS2 := hS0.copy h0 h1 hc
  have f2 : ∀ c j, ¬ (1 ≤ c ∧ c ≤ 3) → ¬ (c = 0 ∧ j = 2) → w2 c j = w c j := fun c j z y => by rw [hf c j (by omega), rv_up_of (by omega)]
  have h02 : w2 0 2 = Int32.ofNat k := by rw [hf _ _ (by omega), rv_up_same]
  rw [h02]
  refine rv_T_some.mpr ⟨rfl, hS2, hR.fr (fun c j z1 z2 => f2 c j (by omega) (by omega)), ⟨by omega, h02, hh, ⟨fun i hi => ⟨(c2 i hi).1, by rw [f2 _ _ (by omega) (by omega), (c2 i hi).2]⟩, c2'⟩, fun i hi => ?_⟩, by rw [f2 _ _ (by omega) (by omega), hT]⟩
  have hmi := ra_sts_in (c2 i (by omega)).1
  exact (c3 i (by omega)).fr (fun c j z => f2 c j (by omega) (by omega))
theorem rc_setStanding {K : Nat} {d : Nat → ra_R} {s G : Nat} {n b : Nat → Nat} {w : rv_W} {c : Nat} {y : Int32} (h : rc_I K d s G n b w) (hc : c < 5) : rv_T (f_X10_setStanding (Int32.ofNat c) y w) (fun v w' => v = rv_b2 (rv_hs s c) ∧ rc_I (ra_hK K) (ra_hD K d (ra_R.mk s G n b)) (ra_ss s c (!decide (y = 0))) G n b w') := by
  have hs : s < 32 := h.1.2.1
  have hx : ra_iv (Int32.ofNat c) 5 = true := ra_iv_nat hc (by decide)
  obtain ⟨t1, t2, t3, t4, t5, t6, t7⟩ := ra_ss_1 hs hc
  have hlt := ra_ss_lt (t := !decide (y = 0)) hs hc
  refine rc_act (s' := ra_ss s c (!decide (y = 0))) (G' := G) (n' := n) (b' := b) (A := rv_b2 (rv_hs s c)) (fc := f_X10_setStanding (Int32.ofNat c) y) h (by unfold f_X10_setStanding; rw [ra_exists, rv_bd_some, hx, if_neg ra_e1]) (fun r w1 hS => ?_)
  rw [hS.1, e_hasb hs hc, rv_bd_some, hS.1, e_without hs hc, rv_bd_some, rv_T_jn]
  have hend : ∀ v, v = Int32.ofNat (ra_ss s c (!decide (y = 0))) → rv_T (rv_lt (rv_up w1 1 0 v) (fun (w13 : rv_W) => if rv_b2 (rv_hs s c) = 0 then some ((0 : Int32), w13) else some ((1 : Int32), w13))) (fun v w' => v = rv_b2 (rv_hs s c) ∧ rv_ST 1 (ra_ss s c (!decide (y = 0))) G n b w' ∧ ra_hf w1 w') := fun v hv => by
    subst hv
    have e : (if rv_b2 (rv_hs s c) = 0 then some ((0 : Int32), rv_up w1 1 0 (Int32.ofNat (ra_ss s c (!decide (y = 0))))) else some ((1 : Int32), rv_up w1 1 0 (Int32.ofNat (ra_ss s c (!decide (y = 0)))))) = some (rv_b2 (rv_hs s c), rv_up w1 1 0 (Int32.ofNat (ra_ss s c (!decide (y = 0))))) := by
      cases rv_hs s c
      · rw [if_pos ra_e0]; rfl
      · rw [if_neg ra_e1]; rfl
    rw [rv_T_lt, e]
    obtain ⟨h1, h2, h3, h4, h5⟩ := hS
    refine rv_T_some.mpr ⟨rfl, ⟨rv_up_same, hlt, by rw [rv_up_of (by omega), h3], h4, fun g hg => ?_⟩, fun c' j z => by rw [rv_up_of (by omega)]⟩
    rw [rv_up_of (by omega), rv_up_of (by omega)]
    exact h5 g hg
  by_cases q : y = 0
  · rw [if_pos q]
    exact hend _ (by rw [decide_eq_true q]; exact t2)
  · rw [if_neg q]
    exact hend _ (by rw [decide_eq_false q]; exact t1)
theorem rc_removeGroup {K : Nat} {d : Nat → ra_R} {s G : Nat} {n b : Nat → Nat} {w : rv_W} {g : Nat} (h : rc_I K d s G n b w) (hg : g < G) : rv_T (f_X10_removeGroup (Int32.ofNat g) w) (fun v w' => v = Int32.ofNat (G - 1) ∧ rc_I (ra_hK K) (ra_hD K d (ra_R.mk s G n b)) s (G - 1) (ra_sh g n) (ra_sh g b) w') := by
  have hG : G ≤ 20 := h.1.2.2.2.1
  have hx : ra_iv (Int32.ofNat g) G = true := ra_iv_nat hg (by omega)
  refine rc_act (s' := s) (G' := G - 1) (n' := ra_sh g n) (b' := ra_sh g b) (A := Int32.ofNat (G - 1)) (fc := f_X10_removeGroup (Int32.ofNat g)) h (by unfold f_X10_removeGroup; rw [ra_mth h.1, rv_bd_some, hx, if_neg ra_e1]) (fun r w1 hS => ?_)
  exact rv_T_call (ra_hdrop hS hg) (fun _ w2 ⟨h2, hf⟩ => rv_T_some.mpr ⟨h2.2.2.1, h2, hf⟩)
/-- exchange, refused and done -/
theorem rc_exchange0 {K : Nat} {d : Nat → ra_R} {s G : Nat} {n b : Nat → Nat} {w : rv_W} {g : Nat} {y : Int32} (h : rc_I K d s G n b w) (hg : g < G) (hy : ra_iv y (rv_ln (b g) - 1) = false) : f_X10_exchange (Int32.ofNat g) y w = some (-1000001, w) := by
  have hG : G ≤ 20 := h.1.2.2.2.1
  have hx : ra_iv (Int32.ofNat g) G = true := ra_iv_nat hg (by omega)
  have hb := (h.1.2.2.2.2 g hg).2.2.2.1
  have hb0 := (h.1.2.2.2.2 g hg).2.2.2.2
  have hl1 := ra_ln_pos hb hb0
  have hl5 := (ra_ln_ok hb (show 0 < 5 by omega)).2
  have em1 : Int32.ofNat (rv_ln (b g)) - 1 = Int32.ofNat (rv_ln (b g) - 1) := ra_pred hl1
  have this : (if y < 0 then some ((0 : Int32), w) else if y < Int32.ofNat (rv_ln (b g) - 1) then some ((1 : Int32), w) else some ((0 : Int32), w)) = some (rv_b2 (ra_iv y (rv_ln (b g) - 1)), w) := ra_rng (by omega)
  unfold f_X10_exchange
  rw [hy] at this
  rw [ra_mth h.1, rv_bd_some, hx, if_neg ra_e1, t_sBallot h.1 hg, rv_bd_some]
  by_cases q1 : y < 0
  · rw [if_pos q1]
  · rw [if_neg q1, e_length hb, rv_bd_some, em1]
    rw [if_neg q1] at this
    by_cases q2 : y < Int32.ofNat (rv_ln (b g) - 1)
    · rw [if_pos q2] at this
      cases Option.some.inj this
    · rw [if_neg q2]
theorem rc_exchange {K : Nat} {d : Nat → ra_R} {s G : Nat} {n b : Nat → Nat} {w : rv_W} {g p : Nat} (h : rc_I K d s G n b w) (hg : g < G) (hp : p < rv_ln (b g) - 1) : rv_T (f_X10_exchange (Int32.ofNat g) (Int32.ofNat p) w) (fun v w' => v = Int32.ofNat (ra_td (ra_xc (b g) p) (rv_ln (ra_xc (b g) p))) ∧ rc_I (ra_hK K) (ra_hD K d (ra_R.mk s G n b)) s G n (rv_at1 b g (ra_xc (b g) p)) w') := by
  have hG : G ≤ 20 := h.1.2.2.2.1
  have hx : ra_iv (Int32.ofNat g) G = true := ra_iv_nat hg (by omega)
  have hb := (h.1.2.2.2.2 g hg).2.2.2.1
  have hb0 := (h.1.2.2.2.2 g hg).2.2.2.2
  have hl1 := ra_ln_pos hb hb0
  have hl5 := (ra_ln_ok hb (show 0 < 5 by omega)).2
  have em1 : Int32.ofNat (rv_ln (b g)) - 1 = Int32.ofNat (rv_ln (b g) - 1) := ra_pred hl1
  have hX := ra_xc_ok hb (show p < 4 by omega) (by omega)
  refine rc_act (s' := s) (G' := G) (n' := n) (b' := rv_at1 b g (ra_xc (b g) p)) (A := Int32.ofNat (ra_td (ra_xc (b g) p) (rv_ln (ra_xc (b g) p)))) (fc := f_X10_exchange (Int32.ofNat g) (Int32.ofNat p)) h (by
    unfold f_X10_exchange
    have e2 : Int32.ofNat p < Int32.ofNat (rv_ln (b g) - 1) := (rv_n_lt (by omega) (by omega)).mpr hp
    rw [ra_mth h.1, rv_bd_some, hx, if_neg ra_e1, t_sBallot h.1 hg, rv_bd_some, if_neg (rv_n_neg (by omega)), e_length hb, rv_bd_some, em1, if_pos e2]) (fun r w1 hS => ?_)
  rw [e_exchanged hb (by omega), rv_bd_some, t_sVoters hS hg, rv_bd_some, ra_hwr (by omega), rv_bd_some, e_toDigits hX.1, rv_bd_some]
  have hn := (hS.2.2.2.2 g hg).2.2.1
  have := hS.wr hg hn ⟨hX.1, hX.2.1⟩
  rw [ra_at1_id (f := n)] at this
  exact rv_T_some.mpr ⟨rfl, this, fun c j z => by rw [rv_up_of (by omega), rv_up_of (by omega)]⟩
/-- addGroup, refused and done -/
theorem rc_addGroup0 {x y : Int32} {w : rv_W} (h : ra_sz x 100 = false ∨ ra_bl y = []) : f_X10_addGroup x y w = some (-1000002, w) := by
  have ed : ∀ w, f_X0_fromDigits y w = some (Int32.ofNat (ra_oc (ra_bl y)), w) := fun w => ra_eqT ra_fromDigits
  unfold f_X10_addGroup
  rw [ed, rv_bd_some, ra_groupSize, rv_bd_some]
  cases hx : ra_sz x 100
  · rw [if_pos ra_e0]
  · rcases h with h | z
    · rw [h] at hx; cases hx
    · rw [if_neg ra_e1, z, if_pos (by decide)]
theorem rc_addGroup {K : Nat} {d : Nat → ra_R} {s G : Nat} {n b : Nat → Nat} {w : rv_W} {k : Nat} {y : Int32} (h : rc_I K d s G n b w) (hG20 : G < 20) (hk : 1 ≤ k ∧ k ≤ 100) (z : ra_bl y ≠ []) : rv_T (f_X10_addGroup (Int32.ofNat k) y w) (fun v w' => v = Int32.ofNat G ∧ rc_I (ra_hK K) (ra_hD K d (ra_R.mk s G n b)) s (G + 1) (rv_at1 n G k) (rv_at1 b G (ra_oc (ra_bl y))) w') := by
  have ed : ∀ w, f_X0_fromDigits y w = some (Int32.ofNat (ra_oc (ra_bl y)), w) := fun w => ra_eqT ra_fromDigits
  have hx : ra_sz (Int32.ofNat k) 100 = true := by
    unfold ra_sz
    rw [decide_eq_true_eq, rv_n_int (by omega)]
    omega
  rcases ra_bl_ok (x := y) with q | ⟨t, ht, hL, hN⟩
  · exact absurd q z
  have ho := ra_oc_ok ht hL
  have hB := rv_B_lt ho.1
  have hne : ¬ Int32.ofNat (ra_oc (ra_bl y)) = 0 := fun q => ho.2.1 z ((rv_n_eq (j := 0) (by omega) (by omega)).mp q)
  have er : (Int32.ofNat (20 - G) = 0) ↔ G = 20 := (rv_n_eq (j := 0) (by omega) (by omega)).trans ⟨fun q => by omega, fun q => by omega⟩
  refine rc_act (s' := s) (G' := G + 1) (n' := rv_at1 n G k) (b' := rv_at1 b G (ra_oc (ra_bl y))) (A := Int32.ofNat G) (fc := f_X10_addGroup (Int32.ofNat k) y) h (by unfold f_X10_addGroup; rw [ed, rv_bd_some, ra_groupSize, rv_bd_some, hx, if_neg ra_e1, if_neg hne, ra_room h.1, rv_bd_some, if_neg (fun q => by have := er.mp q; omega)]) (fun r w1 hS => ?_)
  have e1 : w1 1 1 = Int32.ofNat G := hS.2.2.1
  have e0 : 0 < Int32.ofNat (20 - G) := (rv_n_lt (i := 0) (by omega) (by omega)).mpr (by omega)
  unfold f_X8_append
  rw [ra_room hS, rv_bd_some, if_pos e0, e1, ra_hwr (by omega), rv_bd_some]
  have ea := hS.ap (by omega) hk ⟨ho.1, ho.2.1 z⟩
  refine rv_T_call (P := fun v w' => w' = rv_up (rv_up (rv_up w1 2 G (Int32.ofNat k)) 3 G (Int32.ofNat (ra_oc (ra_bl y)))) 1 1 (Int32.ofNat (G + 1))) ?_ (fun v w' hw => ?_)
  · rw [rv_T_lt, rv_up_of (by omega), rv_up_of (by omega), e1, rv_n_succ]
    exact rv_T_some.mpr rfl
  · subst hw
    rw [rv_up_same, ra_pred (by omega)]
    exact rv_T_some.mpr ⟨rfl, ea, fun c j z => by rw [rv_up_of (by omega), rv_up_of (by omega), rv_up_of (by omega)]⟩
theorem rc_fx {α : Type} {bot : α} {F : α → α} : rv_fx bot F rv_FU = F (rv_fx bot F 9999) := rfl
/-- load with an empty text -/
theorem rc_load {K : Nat} {d : Nat → ra_R} {s G : Nat} {n b : Nat → Nat} {w : rv_W} (h : rc_I K d s G n b w) : rv_T (f_X10_load w) (fun v w' => v = -1000003 ∧ rc_I K d s G n b w') := by
  obtain ⟨hS, hR, ⟨hK, hch⟩, hT⟩ := h
  have hG := hS.2.2.2.1
  unfold f_X10_load
  rw [ra_room hS, rv_bd_some]
  have e20 : (rv_up (rv_up w 20 2 (0 : Int32)) 20 1 (0 : Int32)) 20 0 = 0 := by rw [rv_up_of (by omega), rv_up_of (by omega), hT]
  have e22 : (rv_up (rv_up w 20 2 (0 : Int32)) 20 1 (0 : Int32)) 20 2 = 0 := by rw [rv_up_of (by omega), rv_up_same]
  have e21 : (rv_up (rv_up w 20 2 (0 : Int32)) 20 1 (0 : Int32)) 20 1 = 0 := rv_up_same
  have en : f_X9_next (rv_up (rv_up w 20 2 (0 : Int32)) 20 1 (0 : Int32)) = some (-1, rv_up (rv_up w 20 2 (0 : Int32)) 20 1 (0 : Int32)) := by
    unfold f_X9_next
    show rv_jn _ _ = _
    unfold rv_jn
    dsimp only
    rw [e20, e22, if_neg (by decide), if_neg (by decide)]
  have eg : f_X9_readGroup (Int32.ofNat (20 - G)) (rv_up (rv_up w 20 2 (0 : Int32)) 20 1 (0 : Int32)) = some (0, rv_up (rv_up w 20 2 (0 : Int32)) 20 1 (0 : Int32)) := by
    unfold f_X9_readGroup
    rw [en, rv_bd_some, e21, if_neg (by decide)]
    by_cases q : (0 : Int32) < Int32.ofNat (20 - G)
    · rw [if_pos q, if_pos (by decide)]
      unfold f_X9_isDigit
      rw [if_pos (by decide), rv_bd_some, if_pos rfl]
    · rw [if_neg q]
  have er : f_X9_read (Int32.ofNat (20 - G)) w = some (0, rv_up (rv_up w 20 2 (0 : Int32)) 20 1 (0 : Int32)) := by
    unfold f_X9_read rv_lt
    dsimp only
    rw [rc_fx, if_neg (by decide), eg, rv_bd_some, if_pos rfl, e22]
  rw [er, rv_bd_some, if_neg (by decide)]
  refine rv_T_some.mpr ⟨rfl, hS.fr (fun c j z => by rw [rv_up_of (by omega), rv_up_of (by omega)]), hR.fr (fun c j z1 z2 => by rw [rv_up_of (by omega), rv_up_of (by omega)]), ⟨hK, hch.fr hK (by rw [rv_up_of (by omega), rv_up_of (by omega)]) (fun c j z1 z2 => by rw [rv_up_of (by omega), rv_up_of (by omega)])⟩, e20⟩
