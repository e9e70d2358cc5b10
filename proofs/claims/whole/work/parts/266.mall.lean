/-! the model's reading of a whole text -/
def ra_f26 (w w' : rv_W) : Prop := ∀ c j, ¬ (c = 78 ∧ 24 ≤ j ∧ j ≤ 26) → w' c j = w c j
theorem ra_mStep0 {Q : Int32 → rv_W → Prop} {k : Int32 → Int32 → rv_W → rv_R} {L i R G : Nat} {x : Nat → Nat} {w : rv_W} (h : ra_tm L x w) (hg : ∀ j, j < i → ra_good x L R j) (hw : w 78 24 = Int32.ofNat (rt_P x L i)) (ha : w 78 26 = 0) (h5 : w 78 25 = Int32.ofNat i) (h0 : w 79 0 = Int32.ofNat G) (hGR : G + R = 20) (hiR : i ≤ R) (hk : ∀ w', w' 78 24 = Int32.ofNat (ra_fp x L R i) → ra_f25 w w' → ((decide (i < R) && (ra_g x L i).1) = true → w' 78 25 = Int32.ofNat (i + 1)) → rv_T (k (rv_b2 (decide (i < R) && (ra_g x L i).1)) (ra_by x L (ra_fp x L R i)) w') Q) : rv_T (rv_bd (f_X11_readsGroup w) (fun r4 w5 => rv_bd (f_X11_here w5) (fun r6 w7 => k r4 r6 w7))) Q := by
  have hfp := ra_fp_ok hg
  refine rv_T_call (ra_mGroup0 h (rt_P_le i hg) hw ha h5 h0 hGR hiR) (fun v2 w2 ⟨hv2, h22, hf2, hs2⟩ => ?_)
  have hT2 : ra_tm L x w2 := h.fr (hf2 _ _ (by omega)) (fun j => hf2 _ _ (by omega))
  refine rv_T_call (ra_here hT2 hfp.2 h22) (fun v3 w3 ⟨hv3, h23, hf3⟩ => ?_)
  rw [hfp.1] at hv3 h23
  rw [hv2, hv3]
  exact hk w3 h23 (fun c j z => (hf3 c j (by omega)).trans (hf2 c j z)) (fun z => by rw [hf3 _ _ (by omega)]; exact hs2 z)
theorem ra_mRead0 {L R G : Nat} {x : Nat → Nat} {w : rv_W} (h : ra_tm L x w) (h0 : w 79 0 = Int32.ofNat G) (hGR : G + R = 20) : rv_T (f_X11_readsAll (0 : Int32) w) (fun v w' => ∃ e, ra_last x L R e ∧ v = rv_b2 (ra_suc x L R e) ∧ (ra_suc x L R e = false → w' 78 24 = Int32.ofNat (ra_fp x L R e)) ∧ ra_f26 w w') := by
  have hL := h.1
  have hxb : ∀ i, i < L → x i < 256 := fun i hi => (h.2.2 i hi).1
  unfold f_X11_readsAll
  refine rv_T_gd.mpr ⟨Or.inl rfl, ?_⟩
  rw [rv_T_lt, rv_T_lt, rv_T_lt]
  have hf0 : ra_f26 w (rv_up (rv_up (rv_up w 78 26 (0 : Int32)) 78 24 (0 : Int32)) 78 25 (0 : Int32)) := fun c j z => by rw [rv_up_of (by omega), rv_up_of (by omega), rv_up_of (by omega)]
  have hT0 := h.fr (hf0 _ _ (by omega)) (fun j => hf0 _ _ (by omega))
  refine ra_mStep0 (i := 0) (R := R) (G := G) hT0 (fun j hj => absurd hj (Nat.not_lt_zero j)) (by rw [rv_up_of (by omega), rv_up_same]; rfl) (by rw [rv_up_of (by omega), rv_up_of (by omega), rv_up_same]) rv_up_same (by rw [hf0 _ _ (by omega), h0]) hGR (Nat.zero_le R) (fun w1 g24 gf g25 => ?_)
  have fin : ∀ (i : Nat) (wa wb : rv_W), ra_f25 wa wb → ra_f26 w wa → ra_f26 w wb := fun i wa wb z1 z2 c j z => (z1 c j (by omega)).trans (z2 c j z)
  have nb : ∀ i, (∀ j, j < i → ra_good x L R j) → (decide (i < R) && (ra_g x L i).1) = false → ¬ ra_good x L R i ∧ ra_suc x L R i = false := fun i _ hz => ⟨(fun z => by
    rw [decide_eq_true z.1, z.2.1] at hz
    cases hz), (by unfold ra_suc; rw [hz, Bool.false_and])⟩
  refine rv_T_fx (α := Int32 → Int32 → rv_W → rv_R) (σ := (Bool × Nat) × rv_W) (fun t a => a (rv_b2 t.1.1) (ra_by x L (ra_fp x L R t.1.2)) t.2) (fun t => t.1.2 ≤ R ∧ (∀ j, j < t.1.2 → ra_good x L R j) ∧ t.2 78 24 = Int32.ofNat (ra_fp x L R t.1.2) ∧ t.2 78 26 = 0 ∧ ra_f26 w t.2 ∧ (t.1.1 = true → (decide (t.1.2 < R) && (ra_g x L t.1.2).1) = true ∧ t.2 78 25 = Int32.ofNat (t.1.2 + 1)) ∧ (t.1.1 = false → ¬ ra_good x L R t.1.2 ∧ ra_suc x L R t.1.2 = false)) (fun t => 2 * (R - t.1.2) + (if t.1.1 = true then 1 else 0)) ?_ rv_FU ((decide (0 < R) && (ra_g x L 0).1, 0), w1) (by show 2 * (R - 0) + (if (decide (0 < R) && (ra_g x L 0).1) = true then 1 else 0) < 10000; split <;> omega) ⟨Nat.zero_le R, fun j hj => absurd hj (Nat.not_lt_zero j), g24, by show w1 78 26 = 0; rw [gf _ _ (by omega), rv_up_of (by omega), rv_up_of (by omega), rv_up_same], fin 0 _ _ gf hf0, fun z => ⟨z, g25 z⟩, fun z => nb 0 (fun j hj => absurd hj (Nat.not_lt_zero j)) z⟩
  intro ag ⟨⟨bb, i⟩, w'⟩ hI q
  obtain ⟨hi, hg, h4, h6, hf, ht, hz⟩ := hI
  dsimp only at hi hg h4 h6 hf ht hz q ⊢
  have hgo := ra_g_ok hg
  cases bb
  · obtain ⟨z1, z2⟩ := hz rfl
    rw [if_pos ra_e0, ra_gdb]
    exact rv_T_some.mpr ⟨i, ⟨hg, z1⟩, by rw [z2], fun _ => h4, hf⟩
  · obtain ⟨c1, h5⟩ := ht rfl
    have c1' := c1
    rw [Bool.and_eq_true] at c1'
    have hiR : i < R := of_decide_eq_true c1'.1
    have efp : ra_fp x L R i = (ra_g x L i).2.2.2 := if_pos hiR
    rw [efp] at h4 ⊢
    rw [if_neg ra_e1]
    by_cases c2 : (ra_g x L i).2.2.2 < L
    · have hs0 : ra_suc x L R i = false := by unfold ra_suc; rw [show decide (¬ (ra_g x L i).2.2.2 < L) = false from decide_eq_false (fun z => z c2), Bool.and_false]
      have e59 : (ra_by x L (ra_g x L i).2.2.2 = (59 : Int32)) ↔ ra_sign x L (ra_g x L i).2.2.2 59 = true := by
        have := (ra_by_is (x := x) (L := L) (p := (ra_g x L i).2.2.2) (c := 59) hxb (by decide))
        refine this.trans (Iff.trans ?_ ra_sign_iff.symm)
        rw [hgo.1]
      rw [if_neg (fun z => (ra_by_m1 hxb).mp z c2), rv_T_jn]
      cases c3 : ra_sign x L (ra_g x L i).2.2.2 59
      · rw [if_neg (fun z => (by have z2 := e59.mp z; rw [c3] at z2; cases z2))]
        show rv_T (if (0 : Int32) = 0 then ag 0 (ra_by x L (ra_g x L i).2.2.2) w' else rv_lt (rv_up w' 78 24 (w' 78 24 + (1 : Int32))) (fun w17 => rv_bd (f_X11_readsGroup w17) (fun r18 w19 => rv_bd (f_X11_here w19) (fun r20 w21 => ag r18 r20 w21)))) _
        rw [if_pos rfl]
        have := q ((false, i), w') ⟨hi, hg, by dsimp only; rw [efp]; exact h4, h6, hf, (fun z => absurd (show false = true from z) Bool.false_ne_true), fun _ => ⟨fun z => (by have z2 := z.2.2; rw [c3] at z2; cases z2), hs0⟩⟩ (by dsimp only; rw [if_neg (by decide), if_pos rfl]; omega)
        dsimp only at this
        rw [efp] at this
        exact this
      · rw [if_pos (e59.mpr c3)]
        show rv_T (if (1 : Int32) = 0 then ag 1 (ra_by x L (ra_g x L i).2.2.2) w' else rv_lt (rv_up w' 78 24 (w' 78 24 + (1 : Int32))) (fun w17 => rv_bd (f_X11_readsGroup w17) (fun r18 w19 => rv_bd (f_X11_here w19) (fun r20 w21 => ag r18 r20 w21)))) _
        rw [if_neg (by decide), rv_T_lt, h4, rv_n_succ]
        have hg' : ∀ j, j < i + 1 → ra_good x L R j := fun j hj => by
          by_cases ej : j = i
          · subst ej; exact ⟨hiR, c1'.2, c3⟩
          · exact hg j (by omega)
        have hT : ra_tm L x (rv_up w' 78 24 (Int32.ofNat ((ra_g x L i).2.2.2 + 1))) := h.fr (by rw [rv_up_of (by omega), hf _ _ (by omega)]) (fun j => by rw [rv_up_of (by omega), hf _ _ (by omega)])
        refine ra_mStep0 (i := i + 1) (R := R) (G := G) hT hg' rv_up_same (by rw [rv_up_of (by omega), h6]) (by rw [rv_up_of (by omega), h5]) (by rw [rv_up_of (by omega), hf _ _ (by omega), h0]) hGR hiR (fun w2 k24 kf k25 => ?_)
        exact q ((decide (i + 1 < R) && (ra_g x L (i + 1)).1, i + 1), w2) ⟨hiR, hg', k24, by dsimp only; rw [kf _ _ (by omega), rv_up_of (by omega), h6], fin 0 _ _ kf (fun c j z => by rw [rv_up_of (by omega), hf c j z]), fun z => ⟨z, k25 z⟩, fun z => nb (i + 1) hg' z⟩ (by dsimp only; rw [if_pos rfl]; split <;> omega)
    · have hs1 : ra_suc x L R i = true := by unfold ra_suc; rw [show decide (¬ (ra_g x L i).2.2.2 < L) = true from decide_eq_true c2, c1]; rfl
      rw [if_pos ((ra_by_m1 hxb).mpr c2), ra_gdb]
      refine rv_T_some.mpr ⟨i, ⟨hg, fun z => ?_⟩, by rw [hs1], fun z => (by rw [hs1] at z; cases z), hf⟩
      have := (ra_sign_iff.mp z.2.2).1
      rw [hgo.1] at this
      exact c2 this
/-! groups appended -/
def rt_ap (n : Nat → Nat) (G k : Nat) (y : Nat → Nat) : Nat → Nat := fun i => if G ≤ i ∧ i < G + k then y (i - G) else n i
theorem rt_ap_0 {n y : Nat → Nat} {G : Nat} : rt_ap n G 0 y = n := by
  funext i
  exact if_neg (by omega)
theorem rt_ap_s {n y : Nat → Nat} {G k : Nat} : rv_at1 (rt_ap n G k y) (G + k) (y k) = rt_ap n G (k + 1) y := by
  funext i
  unfold rv_at1 rt_ap
  by_cases c : i = G + k
  · rw [if_pos c, if_pos (by omega), show i - G = k by omega]
  · rw [if_neg c]
    by_cases c2 : G ≤ i ∧ i < G + k
    · rw [if_pos c2, if_pos (by omega)]
    · rw [if_neg c2, if_neg (by omega)]
def rt_yv (x : Nat → Nat) (L j : Nat) : Nat := (ra_g x L j).2.1
def rt_yb (x : Nat → Nat) (L j : Nat) : Nat := ra_oc (ra_g x L j).2.2.1
theorem ra_mStep1 {Q : Int32 → rv_W → Prop} {k : Int32 → Int32 → rv_W → rv_R} {L i R s G : Nat} {x n b : Nat → Nat} {w : rv_W} (h : ra_tm L x w) (hg : ∀ j, j < i → ra_good x L R j) (hok : (ra_g x L i).1 = true) (hw : w 78 24 = Int32.ofNat (rt_P x L i)) (ha : w 78 26 = 1) (hM : ra_MR 0 s (G + i) (rt_ap n G i (rt_yv x L)) (rt_ap b G i (rt_yb x L)) w) (hGi : G + i < 20) (hk : ∀ w', w' 78 24 = Int32.ofNat (ra_g x L i).2.2.2 → ra_MR 0 s (G + (i + 1)) (rt_ap n G (i + 1) (rt_yv x L)) (rt_ap b G (i + 1) (rt_yb x L)) w' → (∀ c j, ¬ (c = 78 ∧ (j = 24 ∨ j = 25)) → ¬ (c = 79 ∧ j < 142) → w' c j = w c j) → rv_T (k (1 : Int32) (ra_by x L (ra_g x L i).2.2.2) w') Q) : rv_T (rv_bd (f_X11_readsGroup w) (fun r4 w5 => rv_bd (f_X11_here w5) (fun r6 w7 => k r4 r6 w7))) Q := by
  have hgo := ra_g_ok hg
  refine rv_T_call (ra_mGroup1 h (rt_P_le i hg) hw ha hM hGi hok) (fun v2 w2 ⟨hv2, h22, h2M, hf2⟩ => ?_)
  have eg : rt_go x L (rt_P x L i) = ra_g x L i := rfl
  rw [eg] at h22 h2M
  have hT2 : ra_tm L x w2 := h.fr (hf2 _ _ (by omega) (by omega)) (fun j => hf2 _ _ (by omega) (by omega))
  refine rv_T_call (ra_here hT2 hgo.2.1 h22) (fun v3 w3 ⟨hv3, h23, hf3⟩ => ?_)
  rw [hgo.1] at hv3 h23
  rw [hv2, hv3]
  refine hk w3 h23 ?_ (fun c j z z2 => (hf3 c j (by omega)).trans (hf2 c j z z2))
  have e1 : rv_at1 (rt_ap n G i (rt_yv x L)) (G + i) (ra_g x L i).2.1 = rt_ap n G (i + 1) (rt_yv x L) := rt_ap_s (y := rt_yv x L)
  have e2 : rv_at1 (rt_ap b G i (rt_yb x L)) (G + i) (ra_oc (ra_g x L i).2.2.1) = rt_ap b G (i + 1) (rt_yb x L) := rt_ap_s (y := rt_yb x L)
  rw [e1, e2, Nat.add_assoc] at h2M
  exact h2M.fr (fun j => hf3 _ _ (by omega))
theorem ra_mRead1 {L R s G e : Nat} {x n b : Nat → Nat} {w : rv_W} (h : ra_tm L x w) (hM : ra_MR 0 s G n b w) (hl : ra_last x L R e) (hs : ra_suc x L R e = true) (hGe : G + e < 20) : rv_T (f_X11_readsAll (1 : Int32) w) (fun _ w' => ra_MR 0 s (G + (e + 1)) (rt_ap n G (e + 1) (rt_yv x L)) (rt_ap b G (e + 1) (rt_yb x L)) w' ∧ ∀ c j, ¬ (c = 78 ∧ 24 ≤ j ∧ j ≤ 26) → ¬ (c = 79 ∧ j < 142) → w' c j = w c j) := by
  have hL := h.1
  have hxb : ∀ i, i < L → x i < 256 := fun i hi => (h.2.2 i hi).1
  have hs' := hs
  unfold ra_suc at hs'
  rw [Bool.and_eq_true, Bool.and_eq_true, decide_eq_true_eq, decide_eq_true_eq] at hs'
  have hok : ∀ i, i ≤ e → (ra_g x L i).1 = true := fun i hi => by
    by_cases c : i = e
    · rw [c]; exact hs'.1.2
    · exact (hl.1 i (by omega)).2.1
  have hgg : ∀ i, i ≤ e → ∀ j, j < i → ra_good x L R j := fun i hi j hj => hl.1 j (by omega)
  unfold f_X11_readsAll
  refine rv_T_gd.mpr ⟨Or.inr rfl, ?_⟩
  rw [rv_T_lt, rv_T_lt, rv_T_lt]
  have hf0 : ra_f26 w (rv_up (rv_up (rv_up w 78 26 (1 : Int32)) 78 24 (0 : Int32)) 78 25 (0 : Int32)) := fun c j z => by rw [rv_up_of (by omega), rv_up_of (by omega), rv_up_of (by omega)]
  have hT0 := h.fr (hf0 _ _ (by omega)) (fun j => hf0 _ _ (by omega))
  refine ra_mStep1 (i := 0) (R := R) (s := s) (G := G) (n := n) (b := b) hT0 (fun j hj => absurd hj (Nat.not_lt_zero j)) (hok 0 (Nat.zero_le e)) (by rw [rv_up_of (by omega), rv_up_same]; rfl) (by rw [rv_up_of (by omega), rv_up_of (by omega), rv_up_same]) (by rw [rt_ap_0, rt_ap_0]; exact hM.fr (fun j => hf0 _ _ (by omega))) (by omega) (fun w1 g24 gM gf => ?_)
  refine rv_T_fx (α := Int32 → Int32 → rv_W → rv_R) (σ := Nat × rv_W) (fun t a => a (1 : Int32) (ra_by x L (ra_g x L t.1).2.2.2) t.2) (fun t => t.1 ≤ e ∧ t.2 78 24 = Int32.ofNat (ra_g x L t.1).2.2.2 ∧ t.2 78 26 = 1 ∧ ra_MR 0 s (G + (t.1 + 1)) (rt_ap n G (t.1 + 1) (rt_yv x L)) (rt_ap b G (t.1 + 1) (rt_yb x L)) t.2 ∧ ∀ c j, ¬ (c = 78 ∧ 24 ≤ j ∧ j ≤ 26) → ¬ (c = 79 ∧ j < 142) → t.2 c j = w c j) (fun t => e - t.1) ?_ rv_FU (0, w1) (by show e - 0 < 10000; omega) ⟨Nat.zero_le e, g24, by show w1 78 26 = 1; rw [gf _ _ (by omega) (by omega), rv_up_of (by omega), rv_up_of (by omega), rv_up_same], gM, fun c j z1 z2 => by
    show w1 c j = w c j
    rw [gf c j (by omega) z2, hf0 c j z1]⟩
  intro ag ⟨i, w'⟩ hI q
  obtain ⟨hi, h4, h6, hMi, hf⟩ := hI
  dsimp only at hi h4 h6 hMi hf q ⊢
  have hgo := ra_g_ok (hgg i hi)
  rw [if_neg (by decide)]
  by_cases c : i = e
  · subst c
    rw [if_pos ((ra_by_m1 hxb).mpr hs'.2)]
    refine rv_T_gd.mpr ⟨Or.inr rfl, rv_T_some.mpr ⟨hMi, hf⟩⟩
  · have hgi := hl.1 i (by omega)
    have hsg := ra_sign_iff.mp hgi.2.2
    rw [hgo.1] at hsg
    have e59 : ra_by x L (ra_g x L i).2.2.2 = (59 : Int32) := (ra_by_is (c := 59) hxb (by decide)).mpr hsg
    rw [if_neg (fun z => (ra_by_m1 hxb).mp z hsg.1), rv_T_jn, if_pos e59]
    show rv_T (if (1 : Int32) = 0 then ag 1 (ra_by x L (ra_g x L i).2.2.2) w' else rv_lt (rv_up w' 78 24 (w' 78 24 + (1 : Int32))) (fun w17 => rv_bd (f_X11_readsGroup w17) (fun r18 w19 => rv_bd (f_X11_here w19) (fun r20 w21 => ag r18 r20 w21)))) _
    rw [if_neg (by decide), rv_T_lt, h4, rv_n_succ]
    have hT : ra_tm L x (rv_up w' 78 24 (Int32.ofNat ((ra_g x L i).2.2.2 + 1))) := h.fr (by rw [rv_up_of (by omega), hf _ _ (by omega) (by omega)]) (fun j => by rw [rv_up_of (by omega), hf _ _ (by omega) (by omega)])
    refine ra_mStep1 (i := i + 1) (R := R) (s := s) (G := G) (n := n) (b := b) hT (hgg (i + 1) (by omega)) (hok (i + 1) (by omega)) rv_up_same (by rw [rv_up_of (by omega), h6]) (hMi.fr (fun j => rv_up_of (by omega))) (by omega) (fun w2 k24 kM kf => ?_)
    exact q (i + 1, w2) ⟨by dsimp only; omega, k24, by dsimp only; rw [kf _ _ (by omega) (by omega), rv_up_of (by omega), h6], kM, fun c j z1 z2 => by
      dsimp only
      rw [kf c j (by omega) z2, rv_up_of (by omega), hf c j z1 z2]⟩ (by dsimp only; omega)
