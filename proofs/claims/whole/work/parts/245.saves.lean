/-! remembered by the model -/
def ra_sv (w5 : rv_W) : rv_R :=
  rv_jn (fun (v8 : Int32) (w9 : rv_W) =>
  rv_lt (rv_up w9 78 1 ((w5 78 1) - v8)) (fun (w12 : rv_W) =>
  rv_lt (rv_up w12 78 1 ((w12 78 1) + (1 : Int32))) (fun (w13 : rv_W) =>
  rv_bd (f_X11_copies (0 : Int32) (w13 78 1) w13) (fun (r14 : Int32) (w15 : rv_W) =>
  some (0, w15))))) (fun (k10 : Int32 → rv_W → rv_R) =>
  if (w5 78 1) = (5 : Int32) then
  k10 (1 : Int32) w5
  else
  k10 (0 : Int32) w5)
def ra_mf (w w' : rv_W) : Prop := ∀ c j, ¬ (c = 78 ∧ j = 1 ∨ c = 79 ∧ 142 ≤ j) → w' c j = w c j
theorem ra_MR.mf {s G : Nat} {n b : Nat → Nat} {w w' : rv_W} (h : ra_MR 0 s G n b w) (hG : G ≤ 20) (hf : ra_mf w w') : ra_MR 0 s G n b w' := h.frr hG (fun j hj => hf _ _ (by omega))
theorem ra_sv_1 {K s G : Nat} {n b : Nat → Nat} {d : Nat → ra_R} {w : rv_W} {x : Int32} (hx : Int32.ofNat (K + 1) = x - 0 + 1 ∨ Int32.ofNat (K + 1) = x - 1 + 1) (hK : K < 5) (hG : G ≤ 20) (h : ∀ i, i < K → (d i).G ≤ 20 ∧ ra_MR (i + 1) (d i).s (d i).G (d i).n (d i).b w) (hS : ra_MR 0 s G n b w) : rv_T (rv_bd (f_X11_copies (0 : Int32) (Int32.ofNat (K + 1)) (rv_up w 78 1 (Int32.ofNat (K + 1)))) (fun (r14 : Int32) (w15 : rv_W) => some (0, w15))) (fun _ w' => ra_mh (K + 1) (rv_at1 d K (ra_R.mk s G n b)) w' ∧ ra_mf w w') := by
  refine rv_T_call (ra_copies (t := 0) (u := K + 1) (by omega) (by omega) (by omega)) (fun _ w2 ⟨hf, hc⟩ => ?_)
  refine rv_T_some.mpr ⟨⟨by rw [hf _ _ (by omega), rv_up_same], fun i hi => ?_⟩, fun c j z => by rw [hf _ _ (by omega), rv_up_of (by omega)]⟩
  by_cases e : i = K
  · subst e
    rw [ra_at1_same]
    refine ⟨hG, hS.copy hG (fun j hj => ?_)⟩
    rw [hc j hj, rv_up_of (by omega)]
  · rw [ra_at1_ne e]
    have hi2 : i < K := by omega
    exact ⟨(h i hi2).1, (h i hi2).2.frr (h i hi2).1 (fun j hj => by rw [hf _ _ (by omega), rv_up_of (by omega)])⟩
theorem ra_up_up {w : rv_W} {k j : Nat} {x y : Int32} : rv_up (rv_up w k j x) k j y = rv_up w k j y := by
  funext c i
  by_cases e : c = k ∧ i = j
  · rw [e.1, e.2, rv_up_same, rv_up_same]
  · rw [rv_up_of e, rv_up_of e, rv_up_of e]
theorem ra_svT {K s G : Nat} {n b : Nat → Nat} {d : Nat → ra_R} {w : rv_W} (hG : G ≤ 20) (hS : ra_MR 0 s G n b w) (h : (K < 5 ∧ w 78 1 = Int32.ofNat K) ∨ (K = 4 ∧ w 78 1 = 5)) (hm : ∀ i, i < K → (d i).G ≤ 20 ∧ ra_MR (i + 1) (d i).s (d i).G (d i).n (d i).b w) : rv_T (ra_sv w) (fun _ w' => ra_mh (K + 1) (rv_at1 d K (ra_R.mk s G n b)) w' ∧ ra_mf w w') := by
  unfold ra_sv
  rw [rv_T_jn]
  rcases h with ⟨hK, h1⟩ | ⟨hK, h1⟩
  · have e5 : ¬ w 78 1 = 5 := by
      rw [h1]
      exact fun z => by have := (rv_n_eq (i := K) (j := 5) (by omega) (by omega)).mp z; omega
    rw [if_neg e5, rv_T_lt, rv_T_lt, rv_up_same, ra_up_up, rv_up_same, h1, Int32.sub_zero, rv_n_succ]
    exact ra_sv_1 (x := Int32.ofNat K) (Or.inl (by rw [Int32.sub_zero, rv_n_succ])) hK hG hm hS
  · subst hK
    have e : (5 : Int32) - 1 + 1 = Int32.ofNat (4 + 1) := by decide
    rw [if_pos h1, rv_T_lt, rv_T_lt, rv_up_same, ra_up_up, rv_up_same, h1, e]
    exact ra_sv_1 (x := 5) (Or.inr e.symm) (by omega) hG hm hS
theorem ra_saves {K s G : Nat} {n b : Nat → Nat} {d : Nat → ra_R} {w : rv_W} (hK : K ≤ 5) (hG : G ≤ 20) (h : ra_mh K d w) (hS : ra_MR 0 s G n b w) : rv_T (f_X11_saves w) (fun _ w' => ra_mh (ra_hK K) (ra_hD K d (ra_R.mk s G n b)) w' ∧ ra_mf w w') := by
  unfold f_X11_saves
  refine rv_T_for 5 (fun k w' => 1 ≤ k ∧ (K < 5 → k = 1) ∧ w' 78 1 = Int32.ofNat K ∧ ra_mf w w' ∧ ∀ i, i < K → (if i + 1 < k then (d (i + 1)).G ≤ 20 ∧ ra_MR (i + 1) (d (i + 1)).s (d (i + 1)).G (d (i + 1)).n (d (i + 1)).b w' else (d i).G ≤ 20 ∧ ra_MR (i + 1) (d i).s (d i).G (d i).n (d i).b w')) (fun ag k w' hk hI q => ?_) (by decide) 1 _ ⟨Nat.le_refl _, fun _ => rfl, h.1, fun _ _ _ => rfl, fun i hi => by rw [if_neg (by omega)]; exact h.2 i hi⟩ (by omega)
  obtain ⟨k1, kK, h1, hf, hm⟩ := hI
  rw [rv_T_jn]
  have e5 : (w' 78 1 = (5 : Int32)) ↔ K = 5 := by
    rw [h1]; exact rv_n_eq (i := K) (j := 5) (by omega) (by omega)
  have hS' := hS.mf hG hf
  by_cases q5 : K = 5
  · subst q5
    by_cases hk5 : k < 5
    · rw [if_pos (of_eq_true (rv_lt5 hk5)), if_pos (e5.mpr rfl), rv_n_succ]
      refine rv_T_call (ra_copies (t := k + 1) (u := k) (by omega) (by omega) (by omega)) (fun _ w2 ⟨hf2, hc⟩ => ?_)
      rw [rv_T_lt]
      refine q hk5 w2 ⟨by omega, fun z => by omega, by rw [hf2 _ _ (by omega), h1], fun c j z => by rw [hf2 c j (by omega), hf c j z], fun i hi => ?_⟩
      have hmi := hm i hi
      by_cases e : i + 1 = k
      · rw [if_pos (by omega)]
        have hk' := hm (i + 1) (by omega)
        rw [if_neg (by omega)] at hk'
        refine ⟨hk'.1, ?_⟩
        rw [e] at hk' ⊢
        exact hk'.2.copy hk'.1 hc
      · by_cases z : i + 1 < k
        · rw [if_pos z] at hmi
          rw [if_pos (by omega)]
          exact ⟨hmi.1, hmi.2.frr hmi.1 (fun j hj => hf2 _ _ (by omega))⟩
        · rw [if_neg z] at hmi
          rw [if_neg (by omega)]
          exact ⟨hmi.1, hmi.2.frr hmi.1 (fun j hj => hf2 _ _ (by omega))⟩
    · have : k = 5 := by omega
      subst this
      rw [if_neg (of_eq_false rv_ge5)]
      refine (ra_svT (d := fun i => d (i + 1)) (K := 4) hG hS' (Or.inr ⟨rfl, h1⟩) (fun i hi => ?_)).mono (fun _ w3 ⟨h3, hf3⟩ => ⟨?_, fun c j z => by rw [hf3 c j z, hf c j z]⟩)
      · have := hm i (by omega)
        rw [if_pos (by omega)] at this
        exact this
      · refine ⟨h3.1, fun i hi => ?_⟩
        have := h3.2 i hi
        unfold ra_hD
        rw [if_neg (by omega)]
        by_cases y : i < 4
        · rw [ra_at1_ne (by omega)] at this
          rw [if_pos y]; exact this
        · have : i = 4 := by
            have : i < 5 := hi
            omega
          subst this
          rw [ra_at1_same] at this
          rw [if_neg y]; exact this
  · have hK5 : K < 5 := by omega
    have := kK hK5
    subst this
    rw [if_pos (of_eq_true (rv_lt5 (i := 1) (by omega))), if_neg (fun z => q5 (e5.mp z))]
    unfold ra_hK ra_hD
    rw [if_pos hK5, if_pos hK5]
    refine (ra_svT hG hS' (Or.inl ⟨hK5, h1⟩) (fun i hi => ?_)).mono (fun _ w3 ⟨h3, hf3⟩ => ⟨h3, fun c j z => by rw [hf3 c j z, hf c j z]⟩)
    have := hm i hi
    rw [if_neg (by omega)] at this
    exact this
