/-! orders as ballots -/
def ra_oc : List Nat → Nat
  | [] => 0
  | c :: l => (c + 1) + 8 * ra_oc l
theorem ra_oc_ok {s : Nat} {l : List Nat} (hs : s < 32) (hl : l ∈ ra_ps 5 s) : ra_oc l ∈ rv_B ∧ (l ≠ [] → ra_oc l ≠ 0) ∧ ∀ k, k < 5 → rv_at (ra_oc l) k = if k < l.length then ra_gd l k + 1 else 0 := by
  have h := List.all_eq_true.mp (List.all_eq_true.mp (by decide +kernel : ((List.range 32).all fun s => (ra_ps 5 s).all fun l => ra_bits.testBit (ra_oc l) && (l.isEmpty || !Nat.beq (ra_oc l) 0) && (List.range 5).all fun k => Nat.beq (rv_at (ra_oc l) k) (if k < l.length then ra_gd l k + 1 else 0)) = true) s (rv_rg hs)) l hl
  rw [Bool.and_eq_true, Bool.and_eq_true] at h
  refine ⟨ra_bits_in h.1.1, fun hne z => ?_, fun k hk => Nat.eq_of_beq_eq_true (List.all_eq_true.mp h.2 k (rv_rg hk))⟩
  have h2 := h.1.2
  rw [z] at h2
  cases l with
  | nil => exact hne rfl
  | cons c l => cases h2
theorem e_order {s i : Nat} (hs : s < 32) (hi : i < (ra_ps 5 s).length) (w : rv_W) : f_X0_order (Int32.ofNat s) (Int32.ofNat i) w = some (Int32.ofNat (ra_oc ((ra_ps 5 s).getD i [])), w) :=
  rv_un_eq un_X0_order (List.all_eq_true.mp (List.all_eq_true.mp (by decide +kernel : ((List.range 32).all fun s => (List.range (ra_ps 5 s).length).all fun i => rv_eqr (f_X0_order (Int32.ofNat s) (Int32.ofNat i) rv_w0) (Int32.ofNat (ra_oc ((ra_ps 5 s).getD i [])))) = true) s (rv_rg hs)) i (List.mem_range.mpr hi))
theorem e_factorial {s : Nat} (hs : s < 32) (w : rv_W) : f_X0_factorial (Int32.ofNat (rv_mn s)) w = some (Int32.ofNat (ra_ps 5 s).length, w) :=
  rv_un_eq un_X0_factorial (List.all_eq_true.mp (by decide +kernel : ((List.range 32).all fun s => rv_eqr (f_X0_factorial (Int32.ofNat (rv_mn s)) rv_w0) (Int32.ofNat (ra_ps 5 s).length)) = true) s (rv_rg hs))
/-- the best strategy, orders gone through; none: [] -/
def ra_stf (f : List Nat → Nat) (q : Nat → Nat) : List (List Nat) → Nat × List Nat → Nat × List Nat
  | [], st => st
  | l :: r, st => ra_stf f q r (if q (f l) < q st.1 then (f l, l) else st)
theorem ra_stf_c {f : List Nat → Nat} {q : Nat → Nat} {l : List Nat} {r : List (List Nat)} {st : Nat × List Nat} : ra_stf f q (l :: r) st = ra_stf f q r (if q (f l) < q st.1 then (f l, l) else st) := rfl
theorem ra_stf_no {f : List Nat → Nat} {q : Nat → Nat} {L : List (List Nat)} {st : Nat × List Nat} (h : ∀ l, ¬ q (f l) < q st.1) : ra_stf f q L st = st := by
  induction L with
  | nil => rfl
  | cons l r ih => rw [ra_stf_c, if_neg (h l), ih]
theorem ra_stf_ok {f : List Nat → Nat} {q : Nat → Nat} {L M : List (List Nat)} {st : Nat × List Nat} (hL : ∀ l, l ∈ L → l ∈ M) (h : st.2 = [] ∨ (st.2 ∈ M ∧ st.1 = f st.2)) : (ra_stf f q L st).2 = [] ∨ ((ra_stf f q L st).2 ∈ M ∧ (ra_stf f q L st).1 = f (ra_stf f q L st).2) := by
  induction L generalizing st with
  | nil => exact h
  | cons l r ih =>
    rw [ra_stf_c]
    refine ih (fun k hk => hL k (List.mem_cons_of_mem _ hk)) ?_
    split
    · exact Or.inr ⟨hL l List.mem_cons_self, rfl⟩
    · exact h
def ra_fl' (r s G : Nat) (n m : Nat → Nat) (g : Nat) (l : List Nat) : Nat := ra_w r s (rv_cut 0 G n) (rv_at1 m g (ra_oc l))
def ra_F (r s G : Nat) (n m : Nat → Nat) (g : Nat) : Nat × List Nat := if s = 0 then (5, []) else ra_stf (ra_fl' r s G n m g) (rv_q (m g)) (ra_ps 5 s) (ra_w r s (rv_cut 0 G n) m, [])
theorem ra_F_ok {r s G g : Nat} {n m : Nat → Nat} : (ra_F r s G n m g).2 = [] ∨ (s ≠ 0 ∧ (ra_F r s G n m g).2 ∈ ra_ps 5 s ∧ (ra_F r s G n m g).1 = ra_fl' r s G n m g (ra_F r s G n m g).2) := by
  unfold ra_F
  by_cases q : s = 0
  · rw [if_pos q]; exact Or.inl rfl
  · rw [if_neg q]
    rcases ra_stf_ok (f := ra_fl' r s G n m g) (q := rv_q (m g)) (L := ra_ps 5 s) (M := ra_ps 5 s) (st := (ra_w r s (rv_cut 0 G n) m, [])) (fun _ h => h) (Or.inl rfl) with h | h
    · exact Or.inl h
    · exact Or.inr ⟨q, h⟩
theorem ra_ps_ne {s : Nat} {l : List Nat} (hs : s < 32) (h0 : s ≠ 0) (hl : l ∈ ra_ps 5 s) : l ≠ [] := fun z => by
  have := (ra_pms_ok hs h0).2 l hl
  rw [z] at this
  have h1 := this.1
  exact h0 ((ra_mn_z hs).mp h1.symm)
theorem ra_dropL {L : List (List Nat)} {i : Nat} (h : i < L.length) : L.drop i = L.getD i [] :: L.drop (i + 1) := by
  rw [List.drop_eq_getElem_cons h, List.getD_eq_getElem?_getD, List.getElem?_eq_getElem h]
  rfl
theorem ra_getL {L : List (List Nat)} {i : Nat} (h : i < L.length) : L.getD i [] ∈ L := by
  rw [List.getD_eq_getElem?_getD, List.getElem?_eq_getElem h]
  exact List.getElem_mem h
theorem ra_stv {f : List Nat → Nat} {q : Nat → Nat} {L : List (List Nat)} {st : Nat × List Nat} {P : Nat → Prop} (hf : ∀ l, P (f l)) (h : P st.1) : P (ra_stf f q L st).1 := by
  induction L generalizing st with
  | nil => exact h
  | cons l r ih =>
    rw [ra_stf_c]
    refine ih ?_
    split
    · exact hf l
    · exact h
/-! the class -/
theorem ra_bestStrategy {r s G g : Nat} {n m : Nat → Nat} {w : rv_W} (h : ra_Cur s G n m w) (hr : rv_Rows w) (hr12 : r < 12) (hg : g < G) : rv_T (f_X10_bestStrategy (Int32.ofNat r) (Int32.ofNat g) w) (fun v w' => v = Int32.ofNat (ra_oc (ra_F r s G n m g).2) ∧ rv_fr 24 77 w w' ∧ rv_Rows w' ∧ ∃ b, ra_PQ s (rv_cut 0 G n) (rv_at1 m g b) w') := by
  have hG := h.G20
  have hs := h.s32
  have hb := h.B hg
  have hwi := rv_wi_in hb hs
  have hok := h.1.ok g hg
  have hmn := @rv_mn_le s
  have hlen := ra_ps_len hs
  unfold f_X10_bestStrategy
  refine rv_T_call (ra_castAll h.1 hr) (fun _ w2 ⟨hP, hf⟩ => ?_)
  have hS2 : rv_ST 1 s G n m w2 := h.1.cl (hf.wide (by omega) (by omega))
  rw [t_sVoters hS2 hg, rv_bd_some, t_sBallot hS2 hg, rv_bd_some, hS2.1, e_within hb hs, rv_bd_some]
  have ea : f_X0_at (Int32.ofNat (rv_wi (m g) s)) 0 w2 = some (rv_ci (rv_at (rv_wi (m g) s) 0), w2) := e_at (b := 0) hwi (by omega) w2
  rw [ea, rv_bd_some]
  refine rv_T_call (ra_winnerBy hP hr12) (fun v w3 ⟨hv, hf3⟩ => ?_)
  subst hv
  have hf3' : rv_fr 24 77 w w3 := hf.two hf3
  have hS3 := h.1.cl hf3'
  have hP3 : ra_PQ s (rv_cut 0 G n) m w3 := hP.fr (fun c j _ _ => hf3 c j (by omega))
  rw [hS3.1, e_bitCount hs, rv_bd_some, e_factorial hs, rv_bd_some]
  have en : rv_at1 (rv_cut 0 G n) g (n g) = rv_cut 0 G n := by
    rw [← ra_cut_g (n := n) hg]; exact ra_at1_id
  refine rv_T_fx (α := Int32 → Int32 → Int32 → rv_W → rv_R) (σ := (Nat × (Nat × List Nat)) × rv_W) (fun t a => a (if s = 0 then -1000000 else Int32.ofNat t.1.2.1) (Int32.ofNat (ra_oc t.1.2.2)) (Int32.ofNat t.1.1) t.2) (fun t => t.1.1 ≤ (ra_ps 5 s).length ∧ rv_fr 24 77 w t.2 ∧ (∃ b, ra_PQ s (rv_cut 0 G n) (rv_at1 m g b) t.2) ∧ (if s = 0 then t.1.2.2 = [] else (t.1.2.1 < 5 ∧ rv_hs s t.1.2.1 = true ∧ ra_stf (ra_fl' r s G n m g) (rv_q (m g)) ((ra_ps 5 s).drop t.1.1) t.1.2 = ra_F r s G n m g))) (fun t => (ra_ps 5 s).length - t.1.1) ?_ rv_FU ((0, (ra_w r s (rv_cut 0 G n) m, [])), w3) (by show (ra_ps 5 s).length - 0 < 10000; omega) ⟨Nat.zero_le _, hf3', ⟨m g, hP3.same rfl ra_at1_id.symm⟩, ?_⟩
  · intro ag ⟨⟨i, ⟨best, fd⟩⟩, w4⟩ hI q
    obtain ⟨hi, hf4, ⟨b0, hP4⟩, hst⟩ := hI
    dsimp only at hi hf4 hP4 hst q ⊢
    have hS4 := h.1.cl hf4
    have el : (Int32.ofNat i < Int32.ofNat (ra_ps 5 s).length) = (i < (ra_ps 5 s).length) := propext (rv_n_lt (by omega) (by omega))
    simp only [el, hS4.1]
    by_cases hiL : i < (ra_ps 5 s).length
    · rw [if_pos hiL]
      have hmem := ra_getL hiL
      have hlc := ra_oc_ok hs hmem
      by_cases hs0 : s = 0
      · have hfd : fd = [] := by rw [if_pos hs0] at hst; exact hst
        have hF : (ra_F r s G n m g).2 = [] := by unfold ra_F; rw [if_pos hs0]
        have nfav : ¬ (-1000000 : Int32) = rv_ci (rv_at (rv_wi (m g) s) 0) := fun z => by
          have hle := rv_at_le hwi (show 0 < 5 by omega)
          have := List.all_eq_true.mp (by decide +kernel : ((List.range 6).all fun d => !decide ((-1000000 : Int32) = rv_ci d)) = true) (rv_at (rv_wi (m g) s) 0) (rv_rg (by omega))
          rw [decide_eq_true z] at this
          cases this
        rw [if_pos hs0, if_neg nfav, e_order hs hiL, rv_bd_some]
        refine rv_T_call (hP4.cast (b' := ra_oc ((ra_ps 5 s).getD i [])) (by omega) hok.1 hlc.1 (fun _ => ⟨hlc.1, rfl⟩)) (fun _ w5 ⟨hP5, hf5⟩ => ?_)
        refine rv_T_call (ra_winnerBy hP5 hr12) (fun v w6 ⟨hv, hf6⟩ => ?_)
        rw [hv, ra_wc_0 hs0, e_prefNone hwi, rv_bd_some, if_pos rfl, rv_T_lt, rv_n_succ]
        have hq := q ((i + 1, (best, fd)), w6) ⟨by dsimp only; omega, hf4.trans (hf5.two hf6), ⟨ra_oc ((ra_ps 5 s).getD i []), (hP5.fr (fun c j _ _ => hf6 c j (by omega))).same en ra_at1_at1⟩, by dsimp only; rw [if_pos hs0]; exact hfd⟩ (by dsimp only; omega)
        dsimp only at hq
        rw [if_pos hs0] at hq
        exact hq
      · rw [if_neg hs0] at hst
        obtain ⟨hb5, hbs, hF⟩ := hst
        have ebw := ra_wi_on hb hs hb5 hbs
        rw [if_neg hs0]
        by_cases hfav : Int32.ofNat best = rv_ci (rv_at (rv_wi (m g) s) 0)
        · rw [if_pos hfav]
          -- nobody is preferred to the favourite
          have hat : rv_at (rv_wi (m g) s) 0 ≠ 0 := fun z => by
            rw [z] at hfav
            have := congrArg Int32.toInt hfav
            rw [rv_n_int (by omega), show (rv_ci 0).toInt = -1 from rfl] at this
            omega
          have hq0 : rv_q (rv_wi (m g) s) best = 0 := by
            rw [rv_ci_p hat] at hfav
            have hle := rv_at_le hwi (show 0 < 5 by omega)
            have e := (rv_n_eq (by omega) (by omega)).mp hfav
            exact (rv_q_at hwi (by omega) hb5).mp (by omega)
          have hno : ∀ l, ¬ rv_q (m g) (ra_fl' r s G n m g l) < rv_q (m g) best := fun l z => by
            have hw := ra_w_in (rule := r) (n := rv_cut 0 G n) (m := rv_at1 m g (ra_oc l)) hs hs0
            have := (ra_wi_lt hb hs hw.1 hb5 hw.2 hbs).mpr z
            omega
          rw [ra_stf_no (st := (best, fd)) hno] at hF
          refine rv_T_some.mpr ⟨by rw [← hF], hf4, hP4.rows, b0, hP4⟩
        · rw [if_neg hfav, e_order hs hiL, rv_bd_some]
          refine rv_T_call (hP4.cast (b' := ra_oc ((ra_ps 5 s).getD i [])) (by omega) hok.1 hlc.1 (fun _ => ⟨hlc.1, rfl⟩)) (fun _ w5 ⟨hP5, hf5⟩ => ?_)
          have hP5' := hP5.same en ra_at1_at1
          refine rv_T_call (ra_winnerBy hP5' hr12) (fun v w6 ⟨hv, hf6⟩ => ?_)
          have hw := ra_w_in (rule := r) (n := rv_cut 0 G n) (m := rv_at1 m g (ra_oc ((ra_ps 5 s).getD i []))) hs hs0
          have epl := ra_wi_lt hb hs hw.1 hb5 hw.2 hbs
          rw [hv, ra_wc_1 hs0, e_prefers hwi hw.1 hb5, rv_bd_some, decide_eq_decide.mpr (iff_of_eq epl)]
          rw [ra_dropL hiL, ra_stf_c] at hF
          have hf6' := hf4.trans (hf5.two hf6)
          have hP6 : ra_PQ s (rv_cut 0 G n) (rv_at1 m g (ra_oc ((ra_ps 5 s).getD i []))) w6 := hP5'.fr (fun c j _ _ => hf6 c j (by omega))
          by_cases z : rv_q (m g) (ra_w r s (rv_cut 0 G n) (rv_at1 m g (ra_oc ((ra_ps 5 s).getD i [])))) < rv_q (m g) best
          · have z' : rv_q (m g) (ra_fl' r s G n m g ((ra_ps 5 s).getD i [])) < rv_q (m g) (best, fd).1 := z
            rw [if_pos z'] at hF
            rw [decide_eq_true z, if_neg ra_e1, rv_T_lt, rv_n_succ]
            have hq := q ((i + 1, (ra_w r s (rv_cut 0 G n) (rv_at1 m g (ra_oc ((ra_ps 5 s).getD i []))), (ra_ps 5 s).getD i [])), w6) ⟨by dsimp only; omega, hf6', ⟨_, hP6⟩, by dsimp only; rw [if_neg hs0]; exact ⟨hw.1, hw.2, hF⟩⟩ (by dsimp only; omega)
            dsimp only at hq
            rw [if_neg hs0] at hq
            exact hq
          · have z' : ¬ rv_q (m g) (ra_fl' r s G n m g ((ra_ps 5 s).getD i [])) < rv_q (m g) (best, fd).1 := z
            rw [if_neg z'] at hF
            rw [decide_eq_false z, if_pos ra_e0, rv_T_lt, rv_n_succ]
            have hq := q ((i + 1, (best, fd)), w6) ⟨by dsimp only; omega, hf6', ⟨_, hP6⟩, by dsimp only; rw [if_neg hs0]; exact ⟨hb5, hbs, hF⟩⟩ (by dsimp only; omega)
            dsimp only at hq
            rw [if_neg hs0] at hq
            exact hq
    · rw [if_neg hiL]
      refine rv_T_some.mpr ⟨?_, hf4, hP4.rows, b0, hP4⟩
      by_cases hs0 : s = 0
      · rw [if_pos hs0] at hst
        rw [hst]
        unfold ra_F
        rw [if_pos hs0]
      · rw [if_neg hs0] at hst
        have hF := hst.2.2
        rw [List.drop_of_length_le (by omega)] at hF
        rw [← hF]
        rfl
  · dsimp only
    by_cases hs0 : s = 0
    · rw [if_pos hs0]
    · rw [if_neg hs0]
      have hw := ra_w_in (rule := r) (n := rv_cut 0 G n) (m := m) hs hs0
      refine ⟨hw.1, hw.2, ?_⟩
      unfold ra_F
      rw [if_neg hs0]
      rfl
