/-! the model's best strategy -/
def ra_pos (l : List Nat) : Nat → Nat → Nat
  | 0, _ => 9
  | k + 1, c => if c = ra_gd l k then k else ra_pos l k c
theorem ra_pos_s {l : List Nat} {k c : Nat} : ra_pos l (k + 1) c = if c = ra_gd l k then k else ra_pos l k c := rfl
theorem ra_pos_ok {s : Nat} {l : List Nat} (hs : s < 32) (hl : l ∈ ra_ps 5 s) : ∀ c, c < 5 → rv_q (ra_oc l) c = ra_pos l (rv_mn s) c := fun c hc =>
  Nat.eq_of_beq_eq_true (List.all_eq_true.mp (List.all_eq_true.mp (List.all_eq_true.mp (by decide +kernel : ((List.range 32).all fun s => (ra_ps 5 s).all fun l => (List.range 5).all fun c => Nat.beq (rv_q (ra_oc l) c) (ra_pos l (rv_mn s) c)) = true) s (rv_rg hs)) l hl) c (rv_rg hc))
def ra_sP (r s G : Nat) (n m : Nat → Nat) (g : Nat) (w : rv_W) (v : Int32) (w' : rv_W) : Prop := v = (if (ra_F r s G n m g).2 = [] then -1 else Int32.ofNat (ra_F r s G n m g).1) ∧ ra_f9 w w' ∧ ((ra_F r s G n m g).2 ≠ [] → ∀ j, j < rv_mn s → w' 95 j = Int32.ofNat (ra_gd (ra_F r s G n m g).2 j))
theorem ra_strategyOf {r s G g : Nat} {n m : Nat → Nat} {w : rv_W} (h : ra_Cur s G n m w) (hr12 : r < 12) (hg : g < G) : rv_T (f_X11_strategyOf (Int32.ofNat r) (Int32.ofNat g) w) (ra_sP r s G n m g w) := by
  have hG := h.G20
  have hs := h.s32
  have hb := h.B hg
  have hmn := @rv_mn_le s
  unfold f_X11_strategyOf
  refine rv_T_call (ra_now h hr12) (fun v w2 ⟨hv, hf, hM, _⟩ => ?_)
  subst hv
  simp only [ra_wm_neg hs]
  by_cases hs0 : s = 0
  · rw [if_pos hs0]
    have e : (ra_F r s G n m g).2 = [] := by unfold ra_F; rw [if_pos hs0]
    exact rv_T_some.mpr ⟨by rw [if_pos e], hf.f9, fun z => absurd e z⟩
  · rw [if_neg hs0, ra_wm_1 hs0]
    have hm0 : 0 < rv_mn s := Nat.pos_of_ne_zero (fun z => hs0 ((ra_mn_z hs).mp z))
    obtain ⟨hw5, hsw⟩ := ra_w_in (rule := r) (n := rv_cut 0 G n) (m := m) hs hs0
    obtain ⟨hchk, hlok⟩ := ra_pms_ok hs hs0
    obtain ⟨r0, hr0⟩ := ra_pms_hd hs hs0
    have hlen := ra_ps_len hs
    refine rv_T_for1 5 (fun c a w' => a = Int32.ofNat (rv_cn c (rv_hs s)) ∧ (∀ c j, ¬ c = 94 → w' c j = w2 c j) ∧ ∀ d, d < c → rv_hs s d = true → w' 94 (rv_cn d (rv_hs s)) = Int32.ofNat d) (fun ag c a w' hc hI q => ?_) (by decide) 0 _ _ ⟨rfl, fun _ _ _ => rfl, fun d hd => by omega⟩ (by omega)
    obtain ⟨rfl, hfw, h94⟩ := hI
    have hf' : ra_f9 w w' := fun c j z => by rw [hfw c j (by omega), hf.f9 c j z]
    by_cases hc5 : c < 5
    · have hcn := @rv_cn_le c (rv_hs s)
      have hcn5 : rv_cn c (rv_hs s) < 5 := by omega
      simp only [rv_lt5 hc5, if_true, ra_c852, ra_nn1, (h.f9 hf').m1, e_mhasb hs hc5, rv_bd_some, rv_b2_0, rv_ck5 hcn5, rv_nn5 hcn5, rv_lt, rv_n_succ]
      cases h1 : rv_hs s c
      · rw [if_pos rfl]
        refine q hc5 _ _ ⟨by rw [rv_cn_s, if_neg (by rw [h1]; decide)], hfw, fun d hd hh => ?_⟩
        by_cases e : d = c
        · subst e; rw [h1] at hh; cases hh
        · exact h94 d (by omega) hh
      · rw [if_neg (by decide)]
        refine q hc5 _ _ ⟨by rw [rv_cn_s, if_pos h1], fun c' j z => by rw [rv_up_ne (by omega), hfw c' j z], fun d hd hh => ?_⟩
        by_cases e : d = c
        · subst e; rw [rv_up_same]
        · have hlt : rv_cn d (rv_hs s) < rv_cn c (rv_hs s) := by
            have := ra_cn_mono (p := rv_hs s) (show d + 1 ≤ c by omega)
            rw [rv_cn_s, if_pos hh] at this
            omega
          rw [rv_up_of (by omega), h94 d (by omega) hh]
    · have : c = 5 := by omega
      subst this
      simp only [rv_ge5, if_false, ra_cn_mn hs]
      have hM' : ra_MP G (rv_cut 0 G n) (rv_at1 m g (m g)) w' := (hM.fr (hfw _ _ (by decide)) (fun c j z => hfw c j (by omega))).same rfl ra_at1_id.symm
      have en : rv_cut 0 G n = rv_cut 0 G n := rfl
      refine rv_T_fx (α := Int32 → Int32 → Int32 → rv_W → rv_R) (σ := (List (List Nat) × (Nat × List Nat)) × rv_W) (fun t a => a (Int32.ofNat t.1.2.1) (rv_b2 (!t.1.2.2.isEmpty)) (rv_b2 (!t.1.1.isEmpty)) t.2) (fun t => (∀ l, l ∈ t.1.1 → l ∈ ra_ps 5 s) ∧ ra_f9 w t.2 ∧ (∃ b, ra_MP G (rv_cut 0 G n) (rv_at1 m g b) t.2) ∧ (∀ l r, t.1.1 = l :: r → ra_chk (rv_mn s) (l :: r) = true ∧ ∀ j, j < rv_mn s → t.2 94 j = Int32.ofNat (ra_gd l j)) ∧ t.1.2.1 < 5 ∧ (t.1.2.2 ≠ [] → ∀ j, j < rv_mn s → t.2 95 j = Int32.ofNat (ra_gd t.1.2.2 j)) ∧ ra_stf (ra_fl' r s G n m g) (rv_q (m g)) t.1.1 t.1.2 = ra_F r s G n m g) (fun t => t.1.1.length) ?_ rv_FU ((ra_mb s :: r0, (ra_w r s (rv_cut 0 G n) m, [])), w') (by show (ra_mb s :: r0).length < 10000; rw [← hr0]; omega) ⟨fun l hl => by rw [hr0]; exact hl, hf', ⟨_, hM'⟩, fun l r e => ?_, hw5, fun z => absurd rfl z, ?_⟩
      · intro ag2 ⟨⟨L, ⟨best, fd⟩⟩, w3⟩ hI q2
        obtain ⟨hL, hf3, ⟨b0, hM3⟩, hcur, hb5, h95, hF⟩ := hI
        dsimp only at hL hf3 hM3 hcur hb5 h95 hF q2 ⊢
        cases L with
        | nil =>
          simp only [List.isEmpty_nil, Bool.not_true, rv_b2_0, if_true]
          have hF' : (best, fd) = ra_F r s G n m g := hF
          cases fd with
          | nil =>
            simp only [List.isEmpty_nil, Bool.not_true, if_true]
            refine rv_T_some.mpr ⟨?_, hf3, fun z => ?_⟩
            · rw [← hF', if_pos rfl]
            · rw [← hF'] at z; exact absurd rfl z
          | cons c l =>
            simp only [List.isEmpty_cons, Bool.not_false, Bool.true_eq_false, if_false]
            refine rv_T_some.mpr ⟨?_, hf3, fun z => ?_⟩
            · rw [← hF', if_neg (fun z => by cases z)]
            · rw [← hF']; exact h95 (fun z => by cases z)
        | cons l rr =>
          obtain ⟨hck, hw94⟩ := hcur l rr rfl
          have hlm : l ∈ ra_ps 5 s := hL l List.mem_cons_self
          obtain ⟨hll, hlin⟩ := hlok l hlm
          have hoc := ra_oc_ok hs hlm
          simp only [List.isEmpty_cons, Bool.not_false, rv_b2_0, Bool.true_eq_false, if_false]
          refine rv_T_for 5 (fun k w4 => (∀ c j, ¬ (c = 82 ∧ 5 * g ≤ j ∧ j < 5 * g + 5) → w4 c j = w3 c j) ∧ ∀ c, c < k → w4 82 (5 * g + c) = 9) (fun ag3 k w4 hk hI3 q3 => ?_) (by decide) 0 _ ⟨fun _ _ _ => rfl, fun c hc => by omega⟩ (by omega)
          obtain ⟨hf4, h82⟩ := hI3
          by_cases hk5 : k < 5
          · have i1 : 5 * g + k < 100 := by omega
            simp only [rv_lt5 hk5, if_true, ra_ix5, rv_n_ck i1 (show 100 < 2147483648 by decide), rv_nn i1 (show 100 ≤ 1000 by decide), rv_lt, rv_n_succ]
            refine q3 hk5 _ ⟨fun c j z => by rw [rv_up_of (by omega), hf4 c j z], fun c hc => ?_⟩
            by_cases e : c = k
            · subst e; exact rv_up_same
            · rw [rv_up_of (by omega), h82 c (by omega)]
          · have : k = 5 := by omega
            subst this
            simp only [rv_ge5, if_false]
            refine rv_T_for (rv_mn s) (fun k w5 => (∀ c j, ¬ (c = 82 ∧ 5 * g ≤ j ∧ j < 5 * g + 5) → w5 c j = w3 c j) ∧ ∀ c, c < 5 → w5 82 (5 * g + c) = Int32.ofNat (ra_pos l k c)) (fun ag4 k w5 hk2 hI4 q4 => ?_) (by show rv_mn s < 10000; omega) 0 _ ⟨hf4, fun c hc => h82 c hc⟩ (by omega)
            obtain ⟨hf5, h82'⟩ := hI4
            by_cases hkn : k < rv_mn s
            · have hgd : ra_gd l k < 5 := (hlin _ (ra_gd_mem (by omega))).1
              have i1 : 5 * g + ra_gd l k < 100 := by omega
              have e94 : w5 94 k = Int32.ofNat (ra_gd l k) := by rw [hf5 _ _ (by omega), hw94 k hkn]
              have lt : (Int32.ofNat k < Int32.ofNat (rv_mn s)) = True := eq_true ((rv_n_lt (by omega) (by omega)).mpr hkn)
              simp only [lt, if_true, rv_ck5 (show k < 5 by omega), rv_nn5 (show k < 5 by omega), e94, ra_ix5, rv_n_ck i1 (show 100 < 2147483648 by decide), rv_nn i1 (show 100 ≤ 1000 by decide), rv_lt, rv_n_succ]
              refine q4 hkn _ ⟨fun c j z => by rw [rv_up_of (by omega), hf5 c j z], fun c hc => ?_⟩
              rw [ra_pos_s]
              by_cases e : c = ra_gd l k
              · rw [if_pos e, e, rv_up_same]
              · rw [if_neg e, rv_up_of (by omega), h82' c hc]
            · have : k = rv_mn s := by omega
              subst this
              have hM5 : ra_MP G (rv_cut 0 G n) (rv_at1 m g (ra_oc l)) w5 := (hM3.upm hoc.1 hf5 (fun c hc => by rw [h82' c hc, ra_pos_ok hs hlm c hc])).same rfl ra_at1_at1
              have hf5' : ra_f9 w w5 := fun c j z => by rw [hf5 c j (by omega), hf3 c j z]
              simp only [ra_geG, if_false, ra_c852, ra_nn1, (h.f9 hf5').m1]
              refine rv_T_call (ra_wins hM5 hs hr12) (fun v w6 ⟨hv, hf6, _⟩ => ?_)
              have hw := ra_w_in (rule := r) (n := rv_cut 0 G n) (m := rv_at1 m g (ra_oc l)) hs hs0
              rw [hv, ra_wm_1 hs0]
              have hM6 := hf6.MP hM5
              have hf6' : ra_f9 w w6 := hf5'.trans hf6.f9
              refine rv_T_call (ra_isBetter (h.f9 hf6') hM6 hg hw.1 hb5) (fun v w7 ⟨hv, hf7, hM7⟩ => ?_)
              subst hv
              have hM7' := hM7.same rfl ra_at1_at1
              have hf7' : ra_f9 w w7 := fun c j z => by rw [hf7 c j (by omega), hf6' c j z]
              have e94 : ∀ j, j < rv_mn s → w7 94 j = Int32.ofNat (ra_gd l j) := fun j hj => by rw [hf7 _ _ (by omega), hf6 _ _ (by omega), hf5 _ _ (by omega), hw94 j hj]
              have e95 : ∀ j, w7 95 j = w3 95 j := fun j => by rw [hf7 _ _ (by omega), hf6 _ _ (by omega), hf5 _ _ (by omega)]
              have cont : ∀ best' fd' w8, ra_f9 w w8 → (∃ b, ra_MP G (rv_cut 0 G n) (rv_at1 m g b) w8) → (∀ j, j < rv_mn s → w8 94 j = Int32.ofNat (ra_gd l j)) → best' < 5 → (fd' ≠ [] → ∀ j, j < rv_mn s → w8 95 j = Int32.ofNat (ra_gd fd' j)) → ra_stf (ra_fl' r s G n m g) (rv_q (m g)) rr (best', fd') = ra_F r s G n m g → rv_T (rv_bd (f_X11_nextOf 94 (Int32.ofNat (rv_mn s)) w8) (fun (r31 : Int32) (w32 : rv_W) => ag2 (Int32.ofNat best') (rv_b2 (!fd'.isEmpty)) r31 w32)) (ra_sP r s G n m g w) := by
                intro best' fd' w8 g1 ⟨b1, g2⟩ g3 g4 g5 g6
                refine rv_T_call (ra_next (A := 94) (w0 := w8) (a := ra_gd l) ⟨fun _ _ _ => rfl, g3⟩ hmn hm0 (ra_gd_lt (fun c hc => (hlin c hc).1))) (fun v w9 h9 => ?_)
                obtain ⟨hv, har⟩ := h9
                have hf9 : ra_f9 w w9 := fun c j z => by rw [har.1 c j (by omega), g1 c j z]
                have hM9 : ra_MP G (rv_cut 0 G n) (rv_at1 m g b1) w9 := g2.fr (har.1 _ _ (by omega)) (fun c j z => har.1 c j (by omega))
                have h959 : fd' ≠ [] → ∀ j, j < rv_mn s → w9 95 j = Int32.ofNat (ra_gd fd' j) := fun z j hj => by rw [har.1 _ _ (by omega), g5 z j hj]
                have hLr : ∀ k, k ∈ rr → k ∈ ra_ps 5 s := fun k hk => hL k (List.mem_cons_of_mem _ hk)
                cases rr with
                | nil =>
                  have hnone : (ra_nxt (ra_gd l) (rv_mn s)).isNone = true := hck
                  rw [Option.isNone_iff_eq_none.mp hnone] at hv
                  rw [hv]
                  exact q2 (([], (best', fd')), w9) ⟨hLr, hf9, ⟨_, hM9⟩, fun l' r' e => (by cases e), g4, h959, g6⟩ (by dsimp only; exact Nat.lt_succ_self 0)
                | cons l' rr =>
                  have hck' : ((match ra_nxt (ra_gd l) (rv_mn s) with
                    | none => false
                    | some b => (List.range (rv_mn s)).all (fun j => b j == ra_gd l' j)) && ra_chk (rv_mn s) (l' :: rr)) = true := hck
                  rw [Bool.and_eq_true] at hck'
                  cases hnx : ra_nxt (ra_gd l) (rv_mn s) with
                  | none => rw [hnx] at hck'; cases hck'.1
                  | some b =>
                    rw [hnx] at hck' hv har
                    rw [hv]
                    refine q2 ((l' :: rr, (best', fd')), w9) ⟨hLr, hf9, ⟨_, hM9⟩, fun l2 r2 e => ?_, g4, h959, g6⟩ (by dsimp only; simp)
                    dsimp only at e ⊢
                    cases e
                    refine ⟨hck'.2, fun j hj => ?_⟩
                    have e1 := har.2 j hj
                    have e2 := List.all_eq_true.mp hck'.1 j (List.mem_range.mpr hj)
                    rw [beq_iff_eq] at e2
                    rw [e1, ← e2]
                    rfl
              rw [ra_stf_c] at hF
              rw [rv_T_jn]
              by_cases z : rv_q (m g) (ra_w r s (rv_cut 0 G n) (rv_at1 m g (ra_oc l))) < rv_q (m g) best
              · have z' : rv_q (m g) (ra_fl' r s G n m g l) < rv_q (m g) (best, fd).1 := z
                rw [if_pos z'] at hF
                rw [decide_eq_true z, if_neg ra_e1]
                refine rv_T_for (rv_mn s) (fun k w8 => (∀ c j, ¬ c = 95 → w8 c j = w7 c j) ∧ ∀ j, j < k → w8 95 j = Int32.ofNat (ra_gd l j)) (fun ag5 k w8 hk3 hI5 q5 => ?_) (by show rv_mn s < 10000; omega) 0 _ ⟨fun _ _ _ => rfl, fun j hj => by omega⟩ (by omega)
                obtain ⟨g1, g2⟩ := hI5
                by_cases hkn : k < rv_mn s
                · have lt : (Int32.ofNat k < Int32.ofNat (rv_mn s)) = True := eq_true ((rv_n_lt (by omega) (by omega)).mpr hkn)
                  simp only [lt, if_true, rv_ck5 (show k < 5 by omega), rv_nn5 (show k < 5 by omega), rv_lt, rv_n_succ]
                  refine q5 hkn _ ⟨fun c j z => by rw [rv_up_ne z, g1 c j z], fun j hj => ?_⟩
                  by_cases e : j = k
                  · subst e; rw [rv_up_same, g1 _ _ (by decide), e94 j hkn]
                  · rw [rv_up_of (fun z => e z.2), g2 j (by omega)]
                · have : k = rv_mn s := by omega
                  subst this
                  simp only [ra_geG, if_false]
                  have ee := cont (ra_w r s (rv_cut 0 G n) (rv_at1 m g (ra_oc l))) l w8 (fun c j z => by rw [g1 c j (by omega), hf7' c j z]) ⟨_, hM7'.fr (g1 _ _ (by decide)) (fun c j z => g1 c j (by omega))⟩ (fun j hj => by rw [g1 _ _ (by decide), e94 j hj]) hw.1 (fun _ => g2) hF
                  have el : (!l.isEmpty) = true := by
                    cases l with
                    | nil => exact absurd rfl (ra_ps_ne hs hs0 hlm)
                    | cons _ _ => rfl
                  rw [el] at ee
                  exact ee
              · have z' : ¬ rv_q (m g) (ra_fl' r s G n m g l) < rv_q (m g) (best, fd).1 := z
                rw [if_neg z'] at hF
                rw [decide_eq_false z, if_pos ra_e0]
                exact cont best fd w7 hf7' ⟨_, hM7'⟩ e94 hb5 (fun z j hj => by rw [e95, h95 z j hj]) hF
      · dsimp only at e ⊢
        cases e
        rw [← hr0]
        refine ⟨hchk, fun j hj => ?_⟩
        obtain ⟨g1, g2, g3⟩ := ra_mb_ok hs hj
        have := h94 _ g1 g2
        rw [g3] at this
        exact this
      · dsimp only
        unfold ra_F
        rw [if_neg hs0, hr0]
