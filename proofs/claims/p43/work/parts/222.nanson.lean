/-! Nanson -/
def ra_ns (n m : Nat → Nat) (C : Nat) : Nat := rv_sm 5 (fun c => if rv_hs C c = true then ra_bm n m C c else 0)
def ra_nb (n m : Nat → Nat) (C : Nat) : Nat := rv_ms 5 (fun c => rv_hs C c && decide (ra_bm n m C c * rv_mn C < ra_ns n m C))
def ra_nn (n m : Nat → Nat) (C : Nat) : Nat := rv_df C (ra_nb n m C)
def ra_nf (n m : Nat → Nat) : Nat → Nat → Nat
  | 0, C => C
  | f + 1, C => if ra_nn n m C = C then C else ra_nf n m f (ra_nn n m C)
theorem ra_nf_s {n m : Nat → Nat} {f C : Nat} : ra_nf n m (f + 1) C = if ra_nn n m C = C then C else ra_nf n m f (ra_nn n m C) := rfl
theorem ra_ea_le {b C c : Nat} : ra_ea b C c ≤ 8 := by
  have h1 := @rv_mn_le C
  have h2 : ra_of b C ≤ 5 := rv_cn_le
  unfold ra_ea
  split <;> omega
theorem ra_bm_le {n m : Nat → Nat} {C c : Nat} (hN : rv_sm 20 n ≤ 2000) : ra_bm n m C c ≤ 16000 := by
  have : ra_bm n m C c ≤ rv_sm 20 (fun g => 8 * n g) := rv_sm_le (fun g _ => by rw [Nat.mul_comm]; exact Nat.mul_le_mul_right _ ra_ea_le)
  rw [rv_sm_mul] at this
  omega
theorem ra_ns_le {n m : Nat → Nat} {C : Nat} (hN : rv_sm 20 n ≤ 2000) : ra_ns n m C ≤ 80000 := by
  refine rv_sm_bd (k := 5) (c := 16000) (fun c _ => ?_)
  split
  · exact ra_bm_le hN
  · exact Nat.zero_le _
theorem ra_df_mn {C B : Nat} (hC : C < 32) (hB : B < 32) : rv_df C B = C ∨ rv_mn (rv_df C B) < rv_mn C := by
  have := rv_all2 (p := fun C B => decide (rv_df C B = C ∨ rv_mn (rv_df C B) < rv_mn C)) (l := List.range 32) (m := List.range 32) (by decide +kernel) (rv_rg hC) (rv_rg hB)
  exact of_decide_eq_true this
theorem ra_df_0 {C : Nat} (hC : C < 32) : rv_df C 0 = C := of_decide_eq_true (List.all_eq_true.mp (by decide +kernel : ((List.range 32).all fun C => decide (rv_df C 0 = C)) = true) C (rv_rg hC))
theorem ra_nb_lt {n m : Nat → Nat} {C : Nat} : ra_nb n m C < 32 := rv_ms_lt
theorem ra_nn_lt {n m : Nat → Nat} {C : Nat} : ra_nn n m C < 32 := rv_df_lt
theorem ra_mn_sm {C : Nat} : rv_mn C = rv_sm 5 (fun c => if rv_hs C c = true then 1 else 0) := by
  unfold rv_mn rv_bt rv_hs
  simp only [rv_sm]
  omega
theorem ra_nn_ne {n m : Nat → Nat} {C : Nat} (hC : C < 32) (h0 : C ≠ 0) : ra_nn n m C ≠ 0 := fun z => by
  have hall : ∀ c, c < 5 → rv_hs C c = true → ra_bm n m C c * rv_mn C < ra_ns n m C := fun c hc h => by
    have e := rv_df_hs (s := C) (t := ra_nb n m C) hc
    rw [show rv_df C (ra_nb n m C) = 0 from z] at e
    have e2 : rv_hs (ra_nb n m C) c = (rv_hs C c && decide (ra_bm n m C c * rv_mn C < ra_ns n m C)) := rv_ms_hs hc
    rw [e2, h] at e
    have e3 : rv_hs 0 c = false := by unfold rv_hs; simp
    rw [e3] at e
    simpa using e
  have hsum : rv_sm 5 (fun c => rv_mn C * (if rv_hs C c = true then ra_bm n m C c else 0)) + rv_sm 5 (fun c => if rv_hs C c = true then 1 else 0) ≤ rv_sm 5 (fun c => ra_ns n m C * (if rv_hs C c = true then 1 else 0)) := by
    rw [← rv_sm_add]
    refine rv_sm_le (fun c hc => ?_)
    by_cases h : rv_hs C c = true
    · have := hall c hc h
      rw [if_pos h, if_pos h, Nat.mul_one, Nat.mul_comm]
      omega
    · rw [if_neg h, if_neg h]; omega
  rw [rv_sm_mul, rv_sm_mul, ← ra_mn_sm] at hsum
  have e : rv_sm 5 (fun c => if rv_hs C c = true then ra_bm n m C c else 0) = ra_ns n m C := rfl
  rw [e, Nat.mul_comm] at hsum
  have : rv_mn C ≠ 0 := fun z => h0 ((ra_mn_z hC).mp z)
  omega
theorem ra_nf_ok {n m : Nat → Nat} {f C : Nat} (hC : C < 32) : ra_nf n m f C < 32 ∧ ra_sub (ra_nf n m f C) C ∧ (C ≠ 0 → ra_nf n m f C ≠ 0) := by
  induction f generalizing C with
  | zero => exact ⟨hC, fun _ _ h => h, fun h => h⟩
  | succ f ih =>
    rw [ra_nf_s]
    by_cases q : ra_nn n m C = C
    · rw [if_pos q]; exact ⟨hC, fun _ _ h => h, fun h => h⟩
    · rw [if_neg q]
      have i := ih (C := ra_nn n m C) ra_nn_lt
      refine ⟨i.1, fun c hc h => ?_, fun h0 => i.2.2 (ra_nn_ne hC h0)⟩
      have := i.2.1 c hc h
      unfold ra_nn at this
      rw [rv_df_hs hc, Bool.and_eq_true] at this
      exact this.1
theorem ra_belowAverage {C : Nat} {n m : Nat → Nat} {w : rv_W} (hN : rv_sm 20 n ≤ 2000) (hC : C < 32) (hx : ∀ c, c < 5 → rv_hs C c = true → w 55 c = Int32.ofNat (ra_bm n m C c)) : f_X4_belowAverage (Int32.ofNat C) w = some (Int32.ofNat (ra_nb n m C), w) := by
  unfold f_X4_belowAverage
  have hS := ra_ns_le (m := m) (C := C) hN
  have hmn := @rv_mn_le C
  refine rv_E1 5 (fun k => Int32.ofNat (rv_sm k (fun c => if rv_hs C c = true then ra_bm n m C c else 0))) (fun _ => w) _ _ rfl rfl (fun ag k hk => ?_) (fun ag => ?_) (by decide)
  · simp only [rv_lt5 hk, if_true, e_hasb hC hk, rv_bd_some, rv_b2_0, rv_lt, rv_n_succ, rv_ck5 hk, rv_nn5 hk, rv_sm]
    cases h1 : rv_hs C k
    · simp only [if_true, Bool.false_eq_true, if_false, Nat.add_zero, ra_n_add0]
    · simp only [Bool.true_eq_false, if_false, if_true, hx k hk h1, Int32.ofNat_add]
  · simp only [rv_ge5, if_false, e_bitCount hC, rv_bd_some]
    have eS : rv_sm 5 (fun c => if rv_hs C c = true then ra_bm n m C c else 0) = ra_ns n m C := rfl
    rw [eS]
    refine rv_E1 5 (fun k => Int32.ofNat (rv_ms k (fun c => rv_hs C c && decide (ra_bm n m C c * rv_mn C < ra_ns n m C)))) (fun _ => w) _ _ rfl rfl (fun ag k hk => ?_) (fun ag => ?_) (by decide)
    · simp only [rv_lt5 hk, if_true, e_hasb hC hk, rv_bd_some, rv_b2_0, rv_lt, rv_n_succ, rv_ck5 hk, rv_nn5 hk, ra_ms_or hk, rv_ms_s]
      cases h1 : rv_hs C k
      · simp
      · have hb := ra_bm_le (m := m) (C := C) (c := k) hN
        have hp : ra_bm n m C k * rv_mn C ≤ 16000 * 5 := Nat.mul_le_mul hb hmn
        have e : (Int32.ofNat (ra_bm n m C k) * Int32.ofNat (rv_mn C) < Int32.ofNat (ra_ns n m C)) = (ra_bm n m C k * rv_mn C < ra_ns n m C) := by
          rw [← Int32.ofNat_mul]
          exact propext (rv_n_lt (by omega) (by omega))
        simp only [Bool.true_eq_false, if_false, hx k hk h1, e]
        by_cases q : ra_bm n m C k * rv_mn C < ra_ns n m C
        · simp [q]
        · simp [q]
    · rw [if_neg (by decide)]; rfl
theorem ra_PQ.mB {s : Nat} {n m : Nat → Nat} {w : rv_W} (h : ra_PQ s n m w) : ∀ g, g < 20 → n g ≠ 0 → m g ∈ rv_B := by
  obtain ⟨r, x, h, h2, h3⟩ := h
  exact fun g hg hn => (h3 g hg hn).1
theorem ra_cnanson {s : Nat} {n m : Nat → Nat} {w : rv_W} (h : ra_PQ s n m w) : rv_T (f_X4_nanson w) (fun v w' => v = Int32.ofNat (ra_nf n m 5 s) ∧ rv_fr 53 76 w w') := by
  have hs := h.s32
  have hN := h.sum
  unfold f_X4_nanson
  rw [h.st]
  refine rv_T_for1 5 (fun i a w' => rv_fr 53 76 w w' ∧ ∃ C, a = Int32.ofNat C ∧ C < 32 ∧ ra_sub C s ∧ ra_nf n m (5 - i) C = ra_nf n m 5 s) (fun ag i a w' hi hI q => ?_) (by decide) 0 _ _ ⟨rv_fr.refl, s, rfl, hs, fun _ _ z => z, rfl⟩ (by omega)
  obtain ⟨hf, C, rfl, hC, hsub, hF⟩ := hI
  have hP : ra_PQ s n m w' := h.fr (fun c j _ _ => hf c j (by omega))
  by_cases hi5 : i < 5
  · have hb := @ra_nb_lt n m C
    have e0 : (Int32.ofNat (ra_nb n m C) = 0) = (ra_nb n m C = 0) := propext (rv_n_eq (j := 0) (by omega) (by omega))
    simp only [rv_lt5 hi5, if_true, ra_cborda hP hC, rv_bd_some, ra_belowAverage (m := m) (w := rv_fl 55 5 (ra_bo s n m C) w') hN hC (fun c hc hh => by rw [rv_fl_at hc, ra_bo_bm h.mB hC hsub hc hh]), e0, e_andn hC hb, rv_lt, rv_n_succ]
    rw [show 5 - i = (5 - (i + 1)) + 1 by omega, ra_nf_s] at hF
    have hf2 : rv_fr 53 76 w (rv_fl 55 5 (ra_bo s n m C) w') := hf.trans (rv_fl_fr (by omega))
    by_cases q0 : ra_nb n m C = 0
    · rw [if_pos q0]
      rw [if_pos (by unfold ra_nn; rw [q0]; exact ra_df_0 hC)] at hF
      exact rv_T_some.mpr ⟨by rw [hF], hf2⟩
    · rw [if_neg q0]
      refine q hi5 _ _ ⟨hf2, ra_nn n m C, rfl, ra_nn_lt, fun c hc hh => ?_, ?_⟩
      · unfold ra_nn at hh
        rw [rv_df_hs hc, Bool.and_eq_true] at hh
        exact hsub c hc hh.1
      · by_cases q1 : ra_nn n m C = C
        · rw [if_pos q1] at hF
          rw [q1, ← hF]
          cases 5 - (i + 1) with
          | zero => rfl
          | succ f => rw [ra_nf_s, if_pos q1]
        · rw [if_neg q1] at hF
          exact hF
  · have : i = 5 := by omega
    subst this
    simp only [rv_ge5, if_false]
    exact rv_T_some.mpr ⟨by rw [← hF]; rfl, hf⟩
theorem ra_and_not {R c : Nat} (hR : R < 32) (hc : c < 5) : Int32.ofNat R &&& (((1 : Int32) <<< (Int32.ofNat c &&& 31)) ^^^ (-1 : Int32)) = Int32.ofNat (rv_wo R c) :=
  of_decide_eq_true (rv_all2 (p := fun R c => decide (Int32.ofNat R &&& (((1 : Int32) <<< (Int32.ofNat c &&& 31)) ^^^ (-1 : Int32)) = Int32.ofNat (rv_wo R c))) (l := List.range 32) (m := List.range 5) (by decide +kernel) (rv_rg hR) (rv_rg hc))
theorem ra_and_31 {R : Nat} (hR : R < 32) : Int32.ofNat R &&& (31 : Int32) = Int32.ofNat R :=
  of_decide_eq_true (List.all_eq_true.mp (by decide +kernel : ((List.range 32).all fun R => decide (Int32.ofNat R &&& (31 : Int32) = Int32.ofNat R)) = true) R (rv_rg hR))
