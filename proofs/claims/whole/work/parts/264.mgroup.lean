/-! the model's reading of a group -/
def ra_mgK (w3 : rv_W) : rv_R :=
  rv_bd (f_X11_number  w3) (fun (r6 : Int32) (w7 : rv_W) =>
  if r6 < 0 then
  some ((0 : Int32), w7)
  else
  rv_bd (f_X11_here  w7) (fun (r8 : Int32) (w9 : rv_W) =>
  if r8 = (58 : Int32) then
  rv_fx (fun _ _ _ _ => none) (ra_mbF r6) rv_FU (0 : Int32) (0 : Int32) (1 : Int32) w9
  else
  some ((0 : Int32), w9)))
theorem ra_mgrest {Q : Int32 → rv_W → Prop} {L p q : Nat} {x : Nat → Nat} {w : rv_W} (h : ra_tm L x w) (e : ra_sp x L p = q) (hq : q < L) (hw : w 78 24 = Int32.ofNat q) (hno : (rt_go x L p).1 = false → ∀ w', w' 78 24 = Int32.ofNat (rt_go x L p).2.2.2 → ra_f24 w w' → Q 0 w') (hyes : (rt_go x L p).1 = true → ∀ w', w' 78 24 = Int32.ofNat (rt_go x L p).2.2.2 → ra_f24 w w' → rv_T (ra_mbE (Int32.ofNat (rt_go x L p).2.1) (Int32.ofNat (ra_dcr (rt_go x L p).2.2.1 0)) w') Q) : rv_T (ra_mgK w) Q := by
  have hL := h.1
  have eq : ra_sp x L q = q := e ▸ ra_sp_sp
  unfold ra_mgK
  refine rv_T_call (ra_number h (show q ≤ L by omega) hw eq hq) (fun v3 w3 ⟨hv3, h23, hf3⟩ => ?_)
  rw [hv3]
  by_cases c2 : ra_nm x L q = 0
  · rw [rt_go_0 e c2] at hno
    rw [if_pos c2] at h23
    rw [if_pos c2, if_pos (by decide)]
    exact rv_T_some.mpr (hno rfl w3 h23 hf3)
  · have hnm := (ra_nm_pos c2).2
    rw [if_neg c2] at h23
    rw [if_neg c2, if_neg (rv_n_neg (by omega))]
    have hT3 : ra_tm L x w3 := h.fr (hf3 _ _ (by omega)) (fun j => hf3 _ _ (by omega))
    have hqn := ra_ne_le (x := x) 4 q (show q ≤ L by omega)
    refine rv_T_call (ra_here hT3 hqn h23) (fun v4 w4 ⟨hv4, h24, hf4⟩ => ?_)
    have hf14 : ra_f24 w w4 := fun c j z => (hf4 c j z).trans (hf3 c j z)
    have e58 : (v4 = (58 : Int32)) ↔ ra_sign x L (q + ra_ne x L 4 q) 58 = true := by
      rw [hv4]
      exact (ra_by_is (c := 58) (fun i hi => (h.2.2 i hi).1) (by decide)).trans ra_sign_iff.symm
    cases c3 : ra_sign x L (q + ra_ne x L 4 q) 58
    · rw [rt_go_1 e c2 c3] at hno
      rw [if_neg (fun z => by have := e58.mp z; rw [c3] at this; cases this)]
      exact rv_T_some.mpr (hno rfl w4 h24 hf14)
    · have h3 := (ra_sign_iff.mp c3).1
      rw [rt_go_2 e c2 c3] at hno hyes
      dsimp only at hno hyes
      rw [if_pos (e58.mpr c3)]
      have hT4 : ra_tm L x w4 := h.fr (hf14 _ _ (by omega)) (fun j => hf14 _ _ (by omega))
      exact ra_mballot hT4 h3 h24 (fun z w' z1 z2 => hno z w' z1 (fun c j y => (z2 c j y).trans (hf14 c j y))) (fun z w' z1 z2 => hyes z w' z1 (fun c j y => (z2 c j y).trans (hf14 c j y)))
def ra_f25 (w w' : rv_W) : Prop := ∀ c j, ¬ (c = 78 ∧ (j = 24 ∨ j = 25)) → w' c j = w c j
theorem ra_by_neg {x : Nat → Nat} {L q : Nat} (hx : ∀ i, i < L → x i < 256) : (ra_by x L q < 0) ↔ ¬ q < L := by
  unfold ra_by
  by_cases c : q < L
  · have := hx q c
    rw [if_pos c]
    exact ⟨fun z => absurd z (rv_n_neg (by omega)), fun z => absurd c z⟩
  · rw [if_neg c]
    exact ⟨fun _ => c, fun _ => by decide⟩
theorem ra_mGroup0 {L p i R G : Nat} {x : Nat → Nat} {w : rv_W} (h : ra_tm L x w) (hp : p ≤ L) (hw : w 78 24 = Int32.ofNat p) (ha : w 78 26 = 0) (h5 : w 78 25 = Int32.ofNat i) (h0 : w 79 0 = Int32.ofNat G) (hGR : G + R = 20) (hiR : i ≤ R) : rv_T (f_X11_readsGroup w) (fun v w' => v = rv_b2 (decide (i < R) && (rt_go x L p).1) ∧ w' 78 24 = Int32.ofNat (if i < R then (rt_go x L p).2.2.2 else ra_sp x L p) ∧ ra_f25 w w' ∧ ((decide (i < R) && (rt_go x L p).1) = true → w' 78 25 = Int32.ofNat (i + 1))) := by
  have hL := h.1
  unfold f_X11_readsGroup
  refine rv_T_call (ra_here h hp hw) (fun v w2 ⟨hv, h2, hf2⟩ => ?_)
  generalize e : ra_sp x L p = q at hv h2 ⊢
  have hq : q ≤ L := e ▸ ra_sp_le hp
  have hT2 : ra_tm L x w2 := h.fr (hf2 _ _ (by omega)) (fun j => hf2 _ _ (by omega))
  have hF : ∀ {w'}, ra_f24 w w' → ra_f25 w w' := fun z c j z1 => z c j (by omega)
  rw [hv]
  by_cases cq : q < L
  · rw [if_neg (fun z => (ra_by_neg (fun i hi => (h.2.2 i hi).1)).mp z cq), rv_T_jn, hf2 78 26 (by omega), ha, if_pos rfl, ra_c852', ra_nn0, hf2 79 0 (by omega), h0, hf2 78 25 (by omega), h5, ← Int32.ofNat_add]
    have e20 : (Int32.ofNat (G + i) = (20 : Int32)) ↔ G + i = 20 := rv_n_eq (j := 20) (by omega) (by omega)
    by_cases c0 : i < R
    · rw [if_neg (fun z => by have := e20.mp z; omega), decide_eq_true c0, Bool.true_and, if_pos c0]
      refine ra_mgrest hT2 e cq h2 (fun z w' z1 z2 => ?_) (fun z w' z1 z2 => ?_)
      · rw [z]
        exact ⟨rfl, z1, hF (fun c j y => (z2 c j y).trans (hf2 c j y)), fun y => by cases y⟩
      · have f25 : w' 78 25 = Int32.ofNat i := by rw [z2 _ _ (by omega), hf2 _ _ (by omega), h5]
        unfold ra_mbE
        rw [rv_T_jn, z2 78 26 (by omega), hf2 78 26 (by omega), ha, if_pos rfl, rv_T_lt, f25, rv_n_succ, z]
        exact rv_T_some.mpr ⟨rfl, by rw [rv_up_of (by omega), z1], fun c j y => by rw [rv_up_of (by omega), z2 c j (by omega), hf2 c j (by omega)], fun _ => rv_up_same⟩
    · rw [if_pos (e20.mpr (by omega)), decide_eq_false c0, Bool.false_and, if_neg c0]
      exact rv_T_some.mpr ⟨rfl, h2, hF hf2, fun y => by cases y⟩
  · have c2 : ra_nm x L q = 0 := by
      by_cases z : ra_nm x L q = 0
      · exact z
      · exact absurd (ra_nm_pos z).1.1 cq
    rw [if_pos ((ra_by_neg (fun i hi => (h.2.2 i hi).1)).mpr cq), rt_go_0 e c2, Bool.and_false]
    exact rv_T_some.mpr ⟨rfl, by rw [h2, ite_self], hF hf2, fun y => by cases y⟩
theorem ra_mGroup1 {L p s G : Nat} {x n b : Nat → Nat} {w : rv_W} (h : ra_tm L x w) (hp : p ≤ L) (hw : w 78 24 = Int32.ofNat p) (ha : w 78 26 = 1) (hM : ra_MR 0 s G n b w) (hG : G < 20) (hgo : (rt_go x L p).1 = true) : rv_T (f_X11_readsGroup w) (fun v w' => v = 1 ∧ w' 78 24 = Int32.ofNat (rt_go x L p).2.2.2 ∧ ra_MR 0 s (G + 1) (rv_at1 n G (rt_go x L p).2.1) (rv_at1 b G (ra_oc (rt_go x L p).2.2.1)) w' ∧ ∀ c j, ¬ (c = 78 ∧ (j = 24 ∨ j = 25)) → ¬ (c = 79 ∧ j < 142) → w' c j = w c j) := by
  have hL := h.1
  obtain ⟨t, ht, hl, hne⟩ := ((rt_go_ok (x := x) hp).2.2 hgo).2
  unfold f_X11_readsGroup
  refine rv_T_call (ra_here h hp hw) (fun v w2 ⟨hv, h2, hf2⟩ => ?_)
  generalize e : ra_sp x L p = q at hv h2 ⊢
  have hT2 : ra_tm L x w2 := h.fr (hf2 _ _ (by omega)) (fun j => hf2 _ _ (by omega))
  have cq : q < L := by
    by_cases c2 : ra_nm x L q = 0
    · rw [rt_go_0 e c2] at hgo
      cases hgo
    · exact (ra_nm_pos c2).1.1
  rw [hv, if_neg (fun z => (ra_by_neg (fun i hi => (h.2.2 i hi).1)).mp z cq), rv_T_jn, hf2 78 26 (by omega), ha, if_neg (by decide)]
  refine ra_mgrest hT2 e cq h2 (fun z w' z1 z2 => ?_) (fun z w' z1 z2 => ?_)
  · rw [hgo] at z
    cases z
  · have hM' : ra_MR 0 s G n b w' := hM.fr (fun j => by rw [z2 _ _ (by omega), hf2 _ _ (by omega)])
    unfold ra_mbE
    rw [rv_T_jn, z2 78 26 (by omega), hf2 78 26 (by omega), ha, if_neg (by decide)]
    refine rv_T_call (ra_adds hM' hG ht hl hne) (fun v3 w3 ⟨h3, hf3⟩ => ?_)
    rw [rv_T_lt]
    refine rv_T_some.mpr ⟨rfl, by rw [rv_up_of (by omega), hf3 _ _ (by omega), z1], h3.fr (fun j => rv_up_of (by omega)), fun c j y1 y2 => ?_⟩
    rw [rv_up_of (by omega), hf3 c j y2, z2 c j (by omega), hf2 c j (by omega)]
