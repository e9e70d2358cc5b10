/-! the model's reading of a ballot -/
def ra_mbE (r6 v12 : Int32) (w15 : rv_W) : rv_R :=
  rv_jn (fun  (w16 : rv_W) =>
  rv_lt (rv_up w16 78 25 ((w16 78 25) + (1 : Int32))) (fun (w19 : rv_W) =>
  some ((1 : Int32), w19))) (fun (k17 : rv_W → rv_R) =>
  if (w15 78 26) = 0 then
  k17 w15
  else
  rv_bd (f_X11_adds r6 v12 w15) (fun (r20 : Int32) (w21 : rv_W) =>
  k17 w21))
def ra_mbF (r6 : Int32) (ag10 : Int32 → Int32 → Int32 → rv_W → rv_R) (v12 : Int32) (v13 : Int32) (v14 : Int32) (w15 : rv_W) : rv_R :=
  if v14 = 0 then
  ra_mbE r6 v12 w15
  else
  rv_lt (rv_up w15 78 24 ((w15 78 24) + (1 : Int32))) (fun (w22 : rv_W) =>
  rv_bd (f_X11_here  w22) (fun (r23 : Int32) (w24 : rv_W) =>
  rv_lt ((r23 - (48 : Int32))) (fun (v25 : Int32) =>
  rv_bd (f_X11_isCandidate v25 w24) (fun (r26 : Int32) (w27 : rv_W) =>
  if r26 = 0 then
  some ((0 : Int32), w27)
  else
  rv_bd (f_X11_has v13 v25 w27) (fun (r28 : Int32) (w29 : rv_W) =>
  if r28 = 0 then
  rv_lt ((v13 ||| ((1 : Int32) <<< (v25 &&& 31)))) (fun (v30 : Int32) =>
  rv_lt (((((10 : Int32) * v12) + v25) + (1 : Int32))) (fun (v31 : Int32) =>
  rv_lt (rv_up w29 78 24 ((w29 78 24) + (1 : Int32))) (fun (w32 : rv_W) =>
  rv_bd (f_X11_here  w32) (fun (r33 : Int32) (w34 : rv_W) =>
  if r33 = (62 : Int32) then
  ag10 v31 v30 (1 : Int32) w34
  else
  ag10 v31 v30 (0 : Int32) w34))))
  else
  some ((0 : Int32), w29))))))
theorem ra_dcr_app {c : Nat} : ∀ (l : List Nat) (N : Nat), ra_dcr (l ++ [c]) N = 10 * ra_dcr l N + (c + 1) := by
  intro l
  induction l with
  | nil => intro N; rfl
  | cons a l ih => intro N; exact ih _
theorem ra_mballot {Q : Int32 → rv_W → Prop} {L p0 : Nat} {x : Nat → Nat} {w : rv_W} {r6 : Int32} (h : ra_tm L x w) (hp0 : p0 < L) (hw : w 78 24 = Int32.ofNat p0) (hno : (rt_rb x L 6 0 [] (p0 + 1)).1 = false → ∀ w', w' 78 24 = Int32.ofNat (rt_rb x L 6 0 [] (p0 + 1)).2.2 → ra_f24 w w' → Q 0 w') (hyes : (rt_rb x L 6 0 [] (p0 + 1)).1 = true → ∀ w', w' 78 24 = Int32.ofNat (rt_rb x L 6 0 [] (p0 + 1)).2.2 → ra_f24 w w' → rv_T (ra_mbE r6 (Int32.ofNat (ra_dcr (rt_rb x L 6 0 [] (p0 + 1)).2.1 0)) w') Q) : rv_T (rv_fx (fun _ _ _ _ => none) (ra_mbF r6) rv_FU (0 : Int32) (0 : Int32) (1 : Int32) w) Q := by
  have hL := h.1
  revert hno hyes
  generalize hR : rt_rb x L 6 0 [] (p0 + 1) = R
  intro hno hyes
  refine rv_T_fx (α := Int32 → Int32 → Int32 → rv_W → rv_R) (σ := Bool × ((Nat × List Nat) × (Nat × rv_W))) (fun t a => a (Int32.ofNat (ra_dcr t.2.1.2 0)) (Int32.ofNat t.2.1.1) (rv_b2 t.1) t.2.2.2) (fun t => t.2.1.1 < 32 ∧ t.2.1.2 ∈ ra_ps 5 t.2.1.1 ∧ t.2.2.2 78 24 = Int32.ofNat t.2.2.1 ∧ ra_f24 w t.2.2.2 ∧ (t.1 = true → t.2.2.1 < L ∧ rt_rb x L (6 - rv_mn t.2.1.1) t.2.1.1 t.2.1.2 (t.2.2.1 + 1) = R) ∧ (t.1 = false → R = (true, t.2.1.2, t.2.2.1))) (fun t => 6 - rv_mn t.2.1.1) ?_ rv_FU (true, ((0, []), (p0, w))) (by show 6 - rv_mn 0 < 10000; omega) ⟨(by decide : 0 < 32), (by decide : ([] : List Nat) ∈ ra_ps 5 0), hw, fun _ _ _ => rfl, fun _ => ⟨hp0, by show rt_rb x L (6 - rv_mn 0) 0 [] (p0 + 1) = R; rw [show 6 - rv_mn 0 = 6 by decide]; exact hR⟩, fun z => by cases z⟩
  intro ag ⟨bb, ⟨⟨s, l⟩, ⟨p, w'⟩⟩⟩ hI q
  obtain ⟨hs, hl, h2, hf, ht, hz⟩ := hI
  dsimp only at hs hl h2 hf ht hz q ⊢
  unfold ra_mbF
  cases bb
  · have eR := hz rfl
    rw [if_pos ra_e0]
    have := hyes (by rw [eR]) w' (by rw [eR]; exact h2) hf
    rw [eR] at this
    exact this
  · obtain ⟨hp, hrb⟩ := ht rfl
    have hT : ra_tm L x w' := h.fr (hf _ _ (by omega)) (fun j => hf _ _ (by omega))
    have hm5 := ra_mn_le hs
    obtain ⟨f, ef⟩ : ∃ f, 6 - rv_mn s = f + 1 := ⟨5 - rv_mn s, by omega⟩
    rw [ef, rt_rb_s] at hrb
    rw [if_neg ra_e1, rv_T_lt, h2, rv_n_succ]
    have hT1 : ra_tm L x (rv_up w' 78 24 (Int32.ofNat (p + 1))) := hT.fr (rv_up_of (by omega)) (fun j => rv_up_of (by omega))
    refine rv_T_call (ra_here hT1 (show p + 1 ≤ L by omega) rv_up_same) (fun v w2 ⟨hv, h22, hf2⟩ => ?_)
    have hf12 : ra_f24 w w2 := fun c j z => by rw [hf2 c j z, rv_up_of z, hf c j z]
    have hT2 : ra_tm L x w2 := h.fr (hf12 _ _ (by omega)) (fun j => hf12 _ _ (by omega))
    rw [rv_T_lt, hv, ra_isCandidate, rv_bd_some]
    by_cases c0 : ra_sp x L (p + 1) < L
    · have hx := (h.2.2 _ c0).1
      have eby : ra_by x L (ra_sp x L (p + 1)) = Int32.ofNat (x (ra_sp x L (p + 1))) := if_pos c0
      rw [eby, ra_by_c hx]
      by_cases c1 : 48 ≤ x (ra_sp x L (p + 1)) ∧ x (ra_sp x L (p + 1)) ≤ 52
      · have hc : x (ra_sp x L (p + 1)) - 48 < 5 := by omega
        rw [decide_eq_true c1, if_neg ra_e1, ra_sub48 c1.1, e_mhasb hs hc, rv_bd_some]
        cases c2 : rv_hs s (x (ra_sp x L (p + 1)) - 48)
        · rw [if_pos ⟨c0, c1, c2⟩] at hrb
          have hma := ra_mem_app hs hc c2 hl
          have emn := ra_un_mn hs hc c2
          have ed : (10 : Int32) * Int32.ofNat (ra_dcr l 0) + Int32.ofNat (x (ra_sp x L (p + 1)) - 48) + (1 : Int32) = Int32.ofNat (ra_dcr (l ++ [x (ra_sp x L (p + 1)) - 48]) 0) := by
            rw [ra_dcr_app, show (10 : Int32) = Int32.ofNat 10 from rfl, ← Int32.ofNat_mul, ← Int32.ofNat_add, rv_n_succ]
            rfl
          rw [if_pos ra_e0, rv_T_lt, rv_T_lt, rv_T_lt, ra_or_bit hs hc, ed, h22, rv_n_succ]
          have hT3 : ra_tm L x (rv_up w2 78 24 (Int32.ofNat (ra_sp x L (p + 1) + 1))) := hT2.fr (rv_up_of (by omega)) (fun j => rv_up_of (by omega))
          refine rv_T_call (ra_here hT3 (show ra_sp x L (p + 1) + 1 ≤ L by omega) rv_up_same) (fun v4 w4 ⟨hv4, h24, hf4⟩ => ?_)
          have hf14 : ra_f24 w w4 := fun c j z => by rw [hf4 c j z, rv_up_of z, hf12 c j z]
          have e62 : (v4 = (62 : Int32)) ↔ ra_sign x L (ra_sp x L (p + 1) + 1) 62 = true := by
            rw [hv4]
            exact (ra_by_is (c := 62) (fun i hi => (h.2.2 i hi).1) (by decide)).trans ra_sign_iff.symm
          by_cases c3 : ra_sign x L (ra_sp x L (p + 1) + 1) 62 = true
          · rw [if_pos c3] at hrb
            rw [if_pos (e62.mpr c3)]
            exact q (true, ((ra_un s (2 ^ (x (ra_sp x L (p + 1)) - 48)), l ++ [x (ra_sp x L (p + 1)) - 48]), (ra_sp x L (ra_sp x L (p + 1) + 1), w4))) ⟨ra_un_lt, hma, h24, hf14, fun _ => ⟨(ra_sign_iff.mp c3).1, by dsimp only; rw [emn, show 6 - (rv_mn s + 1) = f by omega]; exact hrb⟩, fun z => by cases z⟩ (by dsimp only; omega)
          · rw [if_neg c3] at hrb
            rw [if_neg (fun z => c3 (e62.mp z))]
            exact q (false, ((ra_un s (2 ^ (x (ra_sp x L (p + 1)) - 48)), l ++ [x (ra_sp x L (p + 1)) - 48]), (ra_sp x L (ra_sp x L (p + 1) + 1), w4))) ⟨ra_un_lt, hma, h24, hf14, (fun z => absurd (show false = true from z) Bool.false_ne_true), fun _ => hrb.symm⟩ (by dsimp only; omega)
        · rw [if_neg (fun z => by rw [c2] at z; cases z.2.2)] at hrb
          rw [if_neg ra_e1]
          exact rv_T_some.mpr (hno (by rw [← hrb]) w2 (by rw [← hrb]; exact h22) hf12)
      · rw [if_neg (fun z => c1 z.2.1)] at hrb
        rw [decide_eq_false c1, if_pos ra_e0]
        exact rv_T_some.mpr (hno (by rw [← hrb]) w2 (by rw [← hrb]; exact h22) hf12)
    · rw [if_neg (fun z => c0 z.1)] at hrb
      have eby : ra_by x L (ra_sp x L (p + 1)) = -1 := if_neg c0
      rw [eby, ra_c49, if_pos ra_e0]
      exact rv_T_some.mpr (hno (by rw [← hrb]) w2 (by rw [← hrb]; exact h22) hf12)
