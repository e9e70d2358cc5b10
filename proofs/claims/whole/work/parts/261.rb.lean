/-! a ballot of a text -/
def rt_rb (x : Nat → Nat) (L : Nat) : Nat → Nat → List Nat → Nat → Bool × List Nat × Nat
  | 0, _, l, p => (false, l, ra_sp x L p)
  | f + 1, s, l, p => if ra_sp x L p < L ∧ (48 ≤ x (ra_sp x L p) ∧ x (ra_sp x L p) ≤ 52) ∧ rv_hs s (x (ra_sp x L p) - 48) = false then (if ra_sign x L (ra_sp x L p + 1) 62 = true then rt_rb x L f (ra_un s (2 ^ (x (ra_sp x L p) - 48))) (l ++ [x (ra_sp x L p) - 48]) (ra_sp x L (ra_sp x L p + 1) + 1) else (true, l ++ [x (ra_sp x L p) - 48], ra_sp x L (ra_sp x L p + 1))) else (false, l, ra_sp x L p)
theorem rt_rb_s {x : Nat → Nat} {L f s p : Nat} {l : List Nat} : rt_rb x L (f + 1) s l p = if ra_sp x L p < L ∧ (48 ≤ x (ra_sp x L p) ∧ x (ra_sp x L p) ≤ 52) ∧ rv_hs s (x (ra_sp x L p) - 48) = false then (if ra_sign x L (ra_sp x L p + 1) 62 = true then rt_rb x L f (ra_un s (2 ^ (x (ra_sp x L p) - 48))) (l ++ [x (ra_sp x L p) - 48]) (ra_sp x L (ra_sp x L p + 1) + 1) else (true, l ++ [x (ra_sp x L p) - 48], ra_sp x L (ra_sp x L p + 1))) else (false, l, ra_sp x L p) := rfl
theorem ra_sign_iff {x : Nat → Nat} {L p c : Nat} : ra_sign x L p c = true ↔ ra_sp x L p < L ∧ x (ra_sp x L p) = c := decide_eq_true_iff
theorem ra_mem_app {s c : Nat} {l : List Nat} (hs : s < 32) (hc : c < 5) (h : rv_hs s c = false) (hl : l ∈ ra_ps 5 s) : l ++ [c] ∈ ra_ps 5 (ra_un s (2 ^ c)) := by
  have t := List.all_eq_true.mp (List.all_eq_true.mp (List.all_eq_true.mp (by decide +kernel : ((List.range 32).all fun s => (ra_ps 5 s).all fun l => (List.range 5).all fun c => rv_hs s c || (ra_ps 5 (ra_un s (2 ^ c))).contains (l ++ [c])) = true) s (rv_rg hs)) l hl) c (rv_rg hc)
  rw [h, Bool.false_or] at t
  exact List.contains_iff_mem.mp t
theorem ra_q_hs {s c : Nat} {l : List Nat} (hs : s < 32) (hc : c < 5) (hl : l ∈ ra_ps 5 s) : Nat.beq (rv_q (ra_oc l) c) 9 = !(rv_hs s c) := by
  have t := List.all_eq_true.mp (List.all_eq_true.mp (List.all_eq_true.mp (by decide +kernel : ((List.range 32).all fun s => (ra_ps 5 s).all fun l => (List.range 5).all fun c => (Nat.beq (rv_q (ra_oc l) c) 9 == !(rv_hs s c))) = true) s (rv_rg hs)) l hl) c (rv_rg hc)
  exact beq_iff_eq.mp t
theorem ra_oc_app {s c : Nat} {l : List Nat} (hs : s < 32) (hc : c < 5) (h : rv_hs s c = false) (hl : l ∈ ra_ps 5 s) : Int32.ofNat (ra_oc l) ||| ((Int32.ofNat c + (1 : Int32)) <<< (((3 : Int32) * Int32.ofNat (rv_ln (ra_oc l))) &&& 31)) = Int32.ofNat (ra_oc (l ++ [c])) := by
  have t := List.all_eq_true.mp (List.all_eq_true.mp (List.all_eq_true.mp (by decide +kernel : ((List.range 32).all fun s => (ra_ps 5 s).all fun l => (List.range 5).all fun c => rv_hs s c || decide (Int32.ofNat (ra_oc l) ||| ((Int32.ofNat c + (1 : Int32)) <<< (((3 : Int32) * Int32.ofNat (rv_ln (ra_oc l))) &&& 31)) = Int32.ofNat (ra_oc (l ++ [c])))) = true) s (rv_rg hs)) l hl) c (rv_rg hc)
  rw [h, Bool.false_or] at t
  exact of_decide_eq_true t
theorem rt_rb_ok {x : Nat → Nat} {L : Nat} : ∀ f s l p, s < 32 → l ∈ ra_ps 5 s → ra_sp x L (rt_rb x L f s l p).2.2 = (rt_rb x L f s l p).2.2 ∧ (p ≤ L → (rt_rb x L f s l p).2.2 ≤ L) ∧ ((rt_rb x L f s l p).1 = true → ∃ t, t < 32 ∧ (rt_rb x L f s l p).2.1 ∈ ra_ps 5 t ∧ (rt_rb x L f s l p).2.1 ≠ []) := by
  intro f
  induction f with
  | zero => intro s l p hs hl
            exact ⟨ra_sp_sp, fun h => ra_sp_le h, fun z => by cases z⟩
  | succ f ih =>
    intro s l p hs hl
    rw [rt_rb_s]
    by_cases c1 : ra_sp x L p < L ∧ (48 ≤ x (ra_sp x L p) ∧ x (ra_sp x L p) ≤ 52) ∧ rv_hs s (x (ra_sp x L p) - 48) = false
    · have hc : x (ra_sp x L p) - 48 < 5 := by omega
      have hm := ra_mem_app hs hc c1.2.2 hl
      rw [if_pos c1]
      by_cases c2 : ra_sign x L (ra_sp x L p + 1) 62 = true
      · rw [if_pos c2]
        have := ih _ _ (ra_sp x L (ra_sp x L p + 1) + 1) ra_un_lt hm
        have h2 := (ra_sign_iff.mp c2).1
        exact ⟨this.1, fun _ => this.2.1 (by omega), this.2.2⟩
      · rw [if_neg c2]
        exact ⟨ra_sp_sp, fun h => ra_sp_le (by omega), fun _ => ⟨_, ra_un_lt, hm, fun z => List.append_ne_nil_of_right_ne_nil l (List.cons_ne_nil _ _) z⟩⟩
    · rw [if_neg c1]
      exact ⟨ra_sp_sp, fun h => ra_sp_le h, fun z => by cases z⟩
theorem ra_by_c {b : Nat} (hb : b < 256) : ra_iv (Int32.ofNat b - (48 : Int32)) 5 = decide (48 ≤ b ∧ b ≤ 52) :=
  beq_iff_eq.mp (List.all_eq_true.mp (by decide +kernel : ((List.range 256).all fun b => ra_iv (Int32.ofNat b - (48 : Int32)) 5 == decide (48 ≤ b ∧ b ≤ 52)) = true) b (rv_rg hb))
theorem ra_sub48 {b : Nat} (h : 48 ≤ b) : Int32.ofNat b - (48 : Int32) = Int32.ofNat (b - 48) := by
  rw [show (48 : Int32) = Int32.ofNat 48 from rfl, ← Int32.ofNat_sub _ _ h]
theorem ra_c49 : ra_iv ((-1 : Int32) - (48 : Int32)) 5 = false := by decide
theorem ra_mn_le {s : Nat} (hs : s < 32) : rv_mn s ≤ 5 :=
  Nat.le_of_ble_eq_true (List.all_eq_true.mp (by decide +kernel : ((List.range 32).all fun s => Nat.ble (rv_mn s) 5) = true) s (rv_rg hs))
theorem ra_readBallot {L p0 : Nat} {x : Nat → Nat} {w : rv_W} (h : ra_tc L x w) (hp0 : p0 ≤ L) (hw : w 20 2 = Int32.ofNat p0) : rv_T (f_X9_readBallot w) (fun v w' => v = Int32.ofNat (if (rt_rb x L 6 0 [] p0).1 = true then ra_oc (rt_rb x L 6 0 [] p0).2.1 else 0) ∧ w' 20 2 = Int32.ofNat (rt_rb x L 6 0 [] p0).2.2 ∧ ra_f20 w w') := by
  have hL := h.1
  unfold f_X9_readBallot
  generalize hR : rt_rb x L 6 0 [] p0 = R
  refine rv_T_fx (α := Int32 → Int32 → rv_W → rv_R) (σ := (Nat × List Nat) × (Nat × Nat × rv_W)) (fun t a => a (Int32.ofNat (ra_oc t.1.2)) (Int32.ofNat t.2.2.1) t.2.2.2) (fun t => t.1.1 < 32 ∧ t.1.2 ∈ ra_ps 5 t.1.1 ∧ t.2.1 ≤ L ∧ t.2.2.2 20 2 = Int32.ofNat t.2.1 ∧ ra_f20 w t.2.2.2 ∧ rt_rb x L (6 - rv_mn t.1.1) t.1.1 t.1.2 t.2.1 = R ∧ t.2.2.1 = rv_mn t.1.1) (fun t => 6 - rv_mn t.1.1) ?_ rv_FU ((0, []), (p0, 0, w)) (by show 6 - rv_mn 0 < 10000; omega) ⟨(by decide : 0 < 32), (by decide : ([] : List Nat) ∈ ra_ps 5 0), hp0, hw, fun _ _ _ => rfl, by show rt_rb x L (6 - rv_mn 0) 0 [] p0 = R; rw [show 6 - rv_mn 0 = 6 by decide]; exact hR, (by decide : 0 = rv_mn 0)⟩
  intro ag ⟨⟨s, l⟩, ⟨p, n, w'⟩⟩ hI q
  obtain ⟨hs, hl, hp, h2, hf, hrb, hn⟩ := hI
  dsimp only at hs hl hp h2 hf hrb hn q ⊢
  subst hn
  have hT : ra_tc L x w' := h.fr (hf _ _ (by omega)) (fun j => hf _ _ (by omega))
  have hm5 := ra_mn_le hs
  have hmn : ¬ (5 : Int32) < Int32.ofNat (rv_mn s) := fun z => by have := (rv_n_lt (i := 5) (by omega) (by omega)).mp z; omega
  obtain ⟨f, ef⟩ : ∃ f, 6 - rv_mn s = f + 1 := ⟨5 - rv_mn s, by omega⟩
  rw [ef, rt_rb_s] at hrb
  rw [if_neg hmn]
  refine rv_T_call (ra_next9 hT hp h2) (fun v w2 ⟨hv, h22, hf2⟩ => ?_)
  have hf12 : ra_f20 w w2 := fun c j z => (hf2 c j z).trans (hf c j z)
  have hT2 : ra_tc L x w2 := h.fr (hf12 _ _ (by omega)) (fun j => hf12 _ _ (by omega))
  rw [rv_T_lt, hv, ra_exists, rv_bd_some]
  by_cases c0 : ra_sp x L p < L
  · have hx := (h.2.2 _ c0).1
    have eby : ra_by x L (ra_sp x L p) = Int32.ofNat (x (ra_sp x L p)) := if_pos c0
    rw [eby, ra_by_c hx]
    by_cases c1 : 48 ≤ x (ra_sp x L p) ∧ x (ra_sp x L p) ≤ 52
    · have hc : x (ra_sp x L p) - 48 < 5 := by omega
      have ho := ra_oc_ok hs hl
      have hpl : ∀ w, f_X0_placeOf (Int32.ofNat (ra_oc l)) (Int32.ofNat (x (ra_sp x L p) - 48)) w = some (if rv_q (ra_oc l) (x (ra_sp x L p) - 48) = 9 then -1 else Int32.ofNat (rv_q (ra_oc l) (x (ra_sp x L p) - 48)), w) := fun w => e_placeOf ho.1 hc w
      have hqh := ra_q_hs hs hc hl
      rw [decide_eq_true c1, if_neg ra_e1, ra_sub48 c1.1, hpl, rv_bd_some]
      cases c2 : rv_hs s (x (ra_sp x L p) - 48)
      · rw [c2] at hqh
        have e9 : rv_q (ra_oc l) (x (ra_sp x L p) - 48) = 9 := Nat.eq_of_beq_eq_true hqh
        rw [if_pos ⟨c0, c1, c2⟩] at hrb
        have hap : ∀ w, f_X0_append (Int32.ofNat (ra_oc l)) (Int32.ofNat (x (ra_sp x L p) - 48)) w = some (Int32.ofNat (ra_oc (l ++ [x (ra_sp x L p) - 48])), w) := fun w => by
          unfold f_X0_append
          rw [e_length ho.1, rv_bd_some, ra_oc_app hs hc c2 hl]
        have hma := ra_mem_app hs hc c2 hl
        have hoa := ra_oc_ok ra_un_lt hma
        rw [if_pos e9, if_pos (by decide), hap, rv_bd_some, rv_T_lt, h22, rv_n_succ]
        have hsp1 : ra_sp x L (ra_sp x L p + 1) ≤ L := ra_sp_le (by omega)
        have hT3 : ra_tc L x (rv_up w2 20 2 (Int32.ofNat (ra_sp x L p + 1))) := hT2.fr (rv_up_of (by omega)) (fun j => rv_up_of (by omega))
        refine rv_T_call (ra_readSign (c := 62) hT3 (show ra_sp x L p + 1 ≤ L by omega) rv_up_same (by decide)) (fun v4 w4 ⟨hv4, h24, hf4⟩ => ?_)
        have hf14 : ra_f20 w w4 := fun c j z => by rw [hf4 c j z, rv_up_of z, hf12 c j z]
        rw [hv4]
        cases c3 : ra_sign x L (ra_sp x L p + 1) 62
        · rw [c3, if_neg (by decide)] at hrb
          rw [c3, if_neg (by decide)] at h24
          rw [if_pos ra_e0, ← hrb]
          exact rv_T_some.mpr ⟨by rw [if_pos rfl], h24, hf14⟩
        · have hlt := (ra_sign_iff.mp c3).1
          rw [c3, if_pos rfl] at hrb
          rw [c3, if_pos rfl] at h24
          rw [if_neg ra_e1, rv_T_lt, rv_n_succ]
          have emn := ra_un_mn hs hc c2
          exact q ((ra_un s (2 ^ (x (ra_sp x L p) - 48)), l ++ [x (ra_sp x L p) - 48]), (ra_sp x L (ra_sp x L p + 1) + 1, rv_mn s + 1, w4)) ⟨ra_un_lt, hma, by dsimp only; omega, h24, hf14, by dsimp only; rw [emn, show 6 - (rv_mn s + 1) = f by omega]; exact hrb, emn.symm⟩ (by dsimp only; omega)
      · rw [c2] at hqh
        have e9 : ¬ rv_q (ra_oc l) (x (ra_sp x L p) - 48) = 9 := fun z => by rw [z] at hqh; cases hqh
        have hq5 : rv_q (ra_oc l) (x (ra_sp x L p) - 48) < 10 := by
          rcases ra_q_ln ho.1 hc with z | z
          · have := (ra_ln_ok ho.1 hc).2
            omega
          · exact absurd z e9
        rw [if_neg (fun z => by rw [c2] at z; cases z.2.2)] at hrb
        rw [if_neg e9, if_neg (rv_n_neg (by omega)), ← hrb]
        exact rv_T_some.mpr ⟨rfl, h22, hf12⟩
    · rw [if_neg (fun z => c1 z.2.1)] at hrb
      rw [decide_eq_false c1, if_pos ra_e0, ← hrb]
      exact rv_T_some.mpr ⟨rfl, h22, hf12⟩
  · rw [if_neg (fun z => c0 z.1)] at hrb
    have eby : ra_by x L (ra_sp x L p) = -1 := if_neg c0
    rw [eby, ra_c49, if_pos ra_e0, ← hrb]
    exact rv_T_some.mpr ⟨rfl, h22, hf12⟩
