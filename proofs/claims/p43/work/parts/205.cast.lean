/-! what the poll holds: s stands, group g has n g voters whose ballot is r g; x are its rows' digits -/
def rv_Row (x : Nat → Nat → Nat) (w : rv_W) : Prop := ∀ g, g < 20 → ∀ k, k < 5 → w (33 + g) k = rv_ci (x g k) ∧ x g k ≤ 5
def rv_P2 (s : Nat) (n r : Nat → Nat) (a b : Nat) : Nat := rv_sm 20 (fun g => if rv_ab s (r g) a b = true then n g else 0)
def rv_PI (s : Nat) (n r : Nat → Nat) (x : Nat → Nat → Nat) (w : rv_W) : Prop :=
  s < 32 ∧ w 24 0 = Int32.ofNat s ∧ w 24 1 = Int32.ofNat (rv_sm 20 n) ∧ (∀ g, g < 20 → w 31 g = Int32.ofNat (n g)) ∧ rv_Row x w ∧ (∀ g, g < 20 → r g ∈ rv_B) ∧ (∀ g, g < 20 → n g ≠ 0 → ∀ k, k < 5 → x g k = rv_at (r g) k) ∧ (∀ g, g < 20 → ∀ c, c < 5 → rv_q (r g) c < 9 → rv_hs s c = true) ∧ (∀ a, a < 5 → ∀ b, b < 5 → w (26 + a) b = Int32.ofNat (rv_P2 s n r a b))
/-- alike but in cells from lo to hi -/
def rv_fr (lo hi : Nat) (w w' : rv_W) : Prop := ∀ c k, (c < lo ∨ hi < c) → w' c k = w c k
theorem rv_fr.refl {lo hi : Nat} {w : rv_W} : rv_fr lo hi w w := fun _ _ _ => rfl
theorem rv_fr.trans {lo hi : Nat} {w w' w'' : rv_W} (h : rv_fr lo hi w w') (h2 : rv_fr lo hi w' w'') : rv_fr lo hi w w'' := fun c k z => (h2 c k z).trans (h c k z)
theorem rv_fr.wide {lo hi lo' hi' : Nat} {w w' : rv_W} (h : rv_fr lo hi w w') (h1 : lo' ≤ lo) (h2 : hi ≤ hi') : rv_fr lo' hi' w w' := fun c k z => h c k (by omega)
theorem rv_cmp_all {s r : Nat} {p : Int32} {w : rv_W} {n : Nat} : rv_cmpW s r p w n 24 1 = w 24 1 + p := by
  unfold rv_cmpW; rw [if_pos ⟨rfl, rfl⟩]
theorem rv_cmp_of {s r : Nat} {p : Int32} {w : rv_W} {n c j : Nat} (h : ¬ (c = 24 ∧ j = 1)) (h2 : c < 26 ∨ 30 < c) : rv_cmpW s r p w n c j = w c j := by
  unfold rv_cmpW; rw [if_neg h, if_neg (fun z => by omega)]
theorem rv_cmp_ab {s r : Nat} {p : Int32} {w : rv_W} {a b : Nat} (ha : a < 5) (hb : b < 5) : rv_cmpW s r p w 5 (26 + a) b = if rv_ab s r a b = true then w (26 + a) b + p else w (26 + a) b := by
  unfold rv_cmpW
  rw [if_neg (by omega), show 26 + a - 26 = a by omega]
  by_cases h : rv_ab s r a b = true
  · have h1 : rv_q r a < rv_q r b := by
      unfold rv_ab at h
      simp only [Bool.and_eq_true, decide_eq_true_eq] at h
      exact h.2
    have := rv_q_or r a
    have := rv_q_or r b
    rw [if_pos h, if_pos ⟨by omega, h, by omega⟩]
  · rw [if_neg h, if_neg (fun z => h z.2.1)]
theorem rv_i_upd {a a' o m : Nat} (h : a' + o = a + m) : Int32.ofNat a + -Int32.ofNat o + Int32.ofNat m = Int32.ofNat a' := by
  have h2 : Int32.ofNat a' + Int32.ofNat o = Int32.ofNat a + Int32.ofNat m := by rw [← Int32.ofNat_add, ← Int32.ofNat_add, h]
  grind
theorem rv_up_same {w : rv_W} {k j : Nat} {v : Int32} : rv_up w k j v k j = v := by
  unfold rv_up; rw [if_pos ⟨rfl, rfl⟩]
theorem rv_up_of {w : rv_W} {k j k' j' : Nat} {v : Int32} (h : ¬ (k' = k ∧ j' = j)) : rv_up w k j v k' j' = w k' j' := by
  unfold rv_up; rw [if_neg h]
theorem rv_n_neg0 {i : Nat} (h : -Int32.ofNat i ≠ 0) : i ≠ 0 := fun z => h (by rw [z]; decide)
theorem rv_n_ne0 {i : Nat} (h : Int32.ofNat i ≠ 0) : i ≠ 0 := fun z => h (by rw [z]; decide)
theorem rv_wi_on {b s c : Nat} (hb : b ∈ rv_B) (hs : s < 32) (hc : c < 5) (h : rv_q (rv_wi b s) c < 9) : rv_hs s c = true := ((rv_wi_hs hb hs hc hc).1.mp h).1
def rv_castW (s r o r' g m : Nat) (w : rv_W) : rv_W := rv_cmpW s r' (Int32.ofNat m) (fun c j => if c = 33 + g ∧ j < 5 then rv_ci (rv_at r' j) else rv_up (rv_cmpW s r (-Int32.ofNat o) w 5) 31 g (Int32.ofNat m) c j) 5
set_option maxHeartbeats 4000000 in
theorem t_castW {s g m b : Nat} {n r : Nat → Nat} {x : Nat → Nat → Nat} {w : rv_W} (h : rv_PI s n r x w) (hg : g < 20) (hb : b ∈ rv_B) : f_X5_cast (Int32.ofNat g) (Int32.ofNat m) (Int32.ofNat b) w = some (0, rv_castW s (r g) (n g) (rv_wi b s) g m w) := by
  obtain ⟨hs, h0, h1, h31, hrow, hrB, hx, hon, hab⟩ := h
  refine rv_T_eq ?_
  unfold f_X5_cast
  rw [if_neg (rv_n_neg (by omega)), if_pos ((rv_l20 (by omega)).mpr hg), rv_n_ck hg (by decide), rv_n_ck hg (by decide), rv_n_nat (by omega), h31 g hg]
  rw [t_compare hs (hrB g hg) h0 (by omega) (fun hp k hk => by rw [(hrow g hg k hk).1, hx g hg (rv_n_neg0 hp) k hk]), rv_bd_some, rv_n_ck hg (by decide), rv_T_lt]
  have hw4 : rv_up (rv_cmpW s (r g) (-Int32.ofNat (n g)) w 5) 31 g (Int32.ofNat m) 24 0 = Int32.ofNat s := by
    rw [rv_up_of (by omega), rv_cmp_of (by omega) (by omega), h0]
  rw [hw4, e_within hb hs, rv_bd_some]
  have hr' := rv_wi_in hb hs
  refine rv_T_for 5 (fun k w' => w' = fun c j => if c = 33 + g ∧ j < k then rv_ci (rv_at (rv_wi b s) j) else rv_up (rv_cmpW s (r g) (-Int32.ofNat (n g)) w 5) 31 g (Int32.ofNat m) c j) (fun ag k w10 hk hw10 q => ?_) (by decide) 0 _ (by funext c j; simp) (by omega)
  subst hw10
  by_cases hk5 : k < 5
  · rw [if_pos ((rv_l5 (by omega)).mpr hk5), rv_n_ck hg (by decide), e_at hr' hk5, rv_bd_some, rv_n_ck hk5 (by decide), rv_T_lt, rv_T_lt, rv_n_succ]
    refine q hk5 _ ?_
    rw [rv_n_nat (by omega)]
    funext c j
    unfold rv_up
    grind
  · have hk' : k = 5 := by omega
    subst hk'
    rw [if_neg (by decide), rv_n_ck hg (by decide), t_compare hs hr' (by rw [if_neg (by omega)]; exact hw4) (by omega) (fun _ k hk => by rw [if_pos ⟨rfl, hk⟩]), rv_bd_some, rv_T_some]
    exact ⟨rfl, rfl⟩
theorem t_cast {s g m b : Nat} {n r : Nat → Nat} {x : Nat → Nat → Nat} {w : rv_W} (h : rv_PI s n r x w) (hg : g < 20) (hb : b ∈ rv_B) : rv_T (f_X5_cast (Int32.ofNat g) (Int32.ofNat m) (Int32.ofNat b) w) (fun _ w' => rv_PI s (rv_at1 n g m) (rv_at1 r g (rv_wi b s)) (rv_at1 x g (rv_at (rv_wi b s))) w' ∧ rv_fr 24 52 w w') := by
  refine rv_T_of (t_castW h hg hb) ?_
  obtain ⟨hs, h0, h1, h31, hrow, hrB, hx, hon, hab⟩ := h
  have hr' := rv_wi_in hb hs
  refine ⟨⟨hs, ?_, ?_, ?_, ?_, ?_, ?_, ?_, ?_⟩, ?_⟩
  · unfold rv_castW
    rw [rv_cmp_of (by omega) (by omega), if_neg (by omega), rv_up_of (by omega), rv_cmp_of (by omega) (by omega), h0]
  · unfold rv_castW
    rw [rv_cmp_all, if_neg (by omega), rv_up_of (by omega), rv_cmp_all, h1]
    refine rv_i_upd ?_
    have := rv_sm_set (n := 20) (g := g) (f := rv_at1 n g m) (f' := n) hg (fun i _ hi => by unfold rv_at1; rw [if_neg hi])
    unfold rv_at1 at this ⊢
    rw [if_pos rfl] at this
    omega
  · intro k hk
    unfold rv_castW rv_at1
    rw [rv_cmp_of (by omega) (by omega), if_neg (by omega)]
    by_cases hkg : k = g
    · subst hkg; rw [rv_up_same, if_pos rfl]
    · rw [rv_up_of (by omega), rv_cmp_of (by omega) (by omega), h31 k hk, if_neg hkg]
  · intro k hk j hj
    unfold rv_castW rv_at1
    rw [rv_cmp_of (by omega) (by omega)]
    by_cases hkg : k = g
    · subst hkg
      rw [if_pos ⟨rfl, hj⟩, if_pos rfl]
      exact ⟨rfl, rv_at_le hr' hj⟩
    · rw [if_neg (by omega), rv_up_of (by omega), rv_cmp_of (by omega) (by omega), if_neg hkg]
      exact hrow k hk j hj
  · intro k hk
    unfold rv_at1
    split
    · exact hr'
    · exact hrB k hk
  · intro k hk hn j hj
    unfold rv_at1 at hn ⊢
    by_cases hkg : k = g
    · rw [if_pos hkg, if_pos hkg]
    · rw [if_neg hkg] at hn
      rw [if_neg hkg, if_neg hkg, hx k hk hn j hj]
  · intro k hk c hc hq
    unfold rv_at1 at hq
    by_cases hkg : k = g
    · rw [if_pos hkg] at hq
      exact rv_wi_on hb hs hc hq
    · rw [if_neg hkg] at hq
      exact hon k hk c hc hq
  · intro a ha c hc
    unfold rv_castW
    rw [rv_cmp_ab ha hc]
    simp only [show ¬ (26 + a = 33 + g ∧ c < 5) by omega, if_false]
    rw [rv_up_of (by omega), rv_cmp_ab ha hc, hab a ha c hc]
    have := rv_sm_set (n := 20) (g := g) (f := fun k => if rv_ab s (rv_at1 r g (rv_wi b s) k) a c = true then rv_at1 n g m k else 0) (f' := fun k => if rv_ab s (r k) a c = true then n k else 0) hg (fun i _ hi => by unfold rv_at1; rw [if_neg hi, if_neg hi])
    have e1 : rv_at1 r g (rv_wi b s) g = rv_wi b s := by unfold rv_at1; rw [if_pos rfl]
    have e2 : rv_at1 n g m g = m := by unfold rv_at1; rw [if_pos rfl]
    simp only [e1, e2] at this
    have key : Int32.ofNat (rv_P2 s n r a c) + -Int32.ofNat (if rv_ab s (r g) a c = true then n g else 0) + Int32.ofNat (if rv_ab s (rv_wi b s) a c = true then m else 0) = Int32.ofNat (rv_P2 s (rv_at1 n g m) (rv_at1 r g (rv_wi b s)) a c) := by
      refine rv_i_upd ?_
      unfold rv_P2
      exact this
    rw [← key]
    have z : -Int32.ofNat 0 = 0 := by decide
    have z2 : Int32.ofNat 0 = 0 := by decide
    by_cases h8 : rv_ab s (r g) a c = true
    · by_cases h9 : rv_ab s (rv_wi b s) a c = true
      · simp only [h8, h9, if_true]
      · simp only [h8, h9, if_true, if_false, z2, Int32.add_zero, Bool.false_eq_true]
    · by_cases h9 : rv_ab s (rv_wi b s) a c = true
      · simp only [h8, h9, if_true, if_false, z, Int32.add_zero, Bool.false_eq_true]
      · simp only [h8, h9, if_false, z2, Int32.neg_zero, Int32.add_zero, Bool.false_eq_true]
  · intro c k hc
    unfold rv_castW
    rw [rv_cmp_of (by omega) (by omega), if_neg (by omega), rv_up_of (by omega), rv_cmp_of (by omega) (by omega)]

def rv_opW (s : Nat) (w : rv_W) (i : Nat) : rv_W := fun c j => if c = 24 ∧ j = 0 then Int32.ofNat s else if c = 24 ∧ j = 1 then 0 else if c = 31 ∧ j < i then 0 else w c j
def rv_opV (w : rv_W) (a : Nat) : rv_W := fun c j => if (26 ≤ c ∧ c < 26 + a) ∧ j < 5 then 0 else w c j
theorem t_open {s : Nat} {w : rv_W} : f_X5_open (Int32.ofNat s) w = some (0, rv_opV (rv_opW s w 20) 5) := by
  refine rv_T_eq ?_
  unfold f_X5_open
  rw [rv_T_lt, rv_T_lt]
  refine rv_T_for 20 (fun i w' => w' = rv_opW s w i) (fun ag i w6 hi hw q => ?_) (by decide) 0 _ (by funext c j; unfold rv_up rv_opW; grind) (by omega)
  subst hw
  by_cases h : i < 20
  · rw [if_pos ((rv_l20 (by omega)).mpr h), rv_n_ck h (by decide), rv_T_lt, rv_T_lt, rv_n_succ, rv_n_nat (by omega)]
    refine q h _ ?_
    funext c j; unfold rv_up rv_opW; grind
  · have hi' : i = 20 := by omega
    subst hi'
    rw [if_neg (by decide)]
    refine rv_T_for 5 (fun a w' => w' = rv_opV (rv_opW s w 20) a) (fun ag2 a w10 ha hw q2 => ?_) (by decide) 0 _ (by funext c j; unfold rv_opV; grind) (by omega)
    subst hw
    by_cases ha5 : a < 5
    · rw [if_pos ((rv_l5 (by omega)).mpr ha5)]
      refine rv_T_for 5 (fun b w' => w' = fun c j => if c = 26 + a ∧ j < b then 0 else rv_opV (rv_opW s w 20) a c j) (fun ag3 b w14 hb hw q3 => ?_) (by decide) 0 _ (by funext c j; grind) (by omega)
      subst hw
      by_cases hb5 : b < 5
      · rw [if_pos ((rv_l5 (by omega)).mpr hb5), rv_n_ck ha5 (by decide), rv_n_ck hb5 (by decide), rv_T_lt, rv_T_lt, rv_n_succ, rv_n_nat (by omega), rv_n_nat (by omega)]
        refine q3 hb5 _ ?_
        funext c j; unfold rv_up; grind
      · have hb' : b = 5 := by omega
        subst hb'
        rw [if_neg (by decide), rv_T_lt, rv_n_succ]
        refine q2 ha5 _ ?_
        funext c j; unfold rv_opV; grind
    · have ha' : a = 5 := by omega
      subst ha'
      rw [if_neg (by decide), rv_T_some]
      exact ⟨rfl, rfl⟩
def rv_PP (s : Nat) (n r : Nat → Nat) (w : rv_W) : Prop := ∃ x, rv_PI s n r x w
/-- the poll's rows are rows of digits -/
def rv_Rows (w : rv_W) : Prop := ∃ x, rv_Row x w
theorem rv_PP.rows {s : Nat} {n r : Nat → Nat} {w : rv_W} (h : rv_PP s n r w) : rv_Rows w := by
  obtain ⟨x, h⟩ := h
  exact ⟨x, h.2.2.2.2.1⟩
theorem rv_B0 : 0 ∈ rv_B := by decide
theorem rv_q0 {c : Nat} : ¬ rv_q 0 c < 9 := by
  have : rv_q 0 c = 9 := by
    unfold rv_q rv_at
    simp
  omega
theorem t_open' {s : Nat} {w : rv_W} (hs : s < 32) (h : rv_Rows w) : rv_T (f_X5_open (Int32.ofNat s) w) (fun _ w' => rv_PP s (fun _ => 0) (fun _ => 0) w' ∧ rv_fr 24 52 w w') := by
  refine rv_T_of t_open ?_
  obtain ⟨x, hx⟩ := h
  have z : rv_sm 20 (fun _ => 0) = 0 := rv_sm_zero (fun _ _ => rfl)
  refine ⟨⟨x, hs, ?_, ?_, ?_, ?_, fun g _ => rv_B0, fun g hg h => absurd rfl h, fun g hg c hc h => absurd h rv_q0, ?_⟩, ?_⟩
  · unfold rv_opV rv_opW; grind
  · rw [z]; unfold rv_opV rv_opW; grind
  · intro g hg; unfold rv_opV rv_opW; grind
  · intro g hg k hk
    rw [← (hx g hg k hk).1]
    refine ⟨?_, (hx g hg k hk).2⟩
    unfold rv_opV rv_opW; grind
  · intro a ha b hb
    have : rv_P2 s (fun _ => 0) (fun _ => 0) a b = 0 := rv_sm_zero (fun _ _ => by split <;> rfl)
    rw [this]
    unfold rv_opV rv_opW; grind
  · intro c k hc
    unfold rv_opV rv_opW; grind
/-- a state in the cells from k on: s stands, G groups -/
def rv_ST (k s G : Nat) (n b : Nat → Nat) (w : rv_W) : Prop := w k 0 = Int32.ofNat s ∧ s < 32 ∧ w k 1 = Int32.ofNat G ∧ G ≤ 20 ∧ ∀ g, g < G → w (k + 1) g = Int32.ofNat (n g) ∧ w (k + 2) g = Int32.ofNat (b g) ∧ (1 ≤ n g ∧ n g ≤ 100) ∧ b g ∈ rv_B ∧ b g ≠ 0
theorem rv_ST.fr {k s G : Nat} {n b : Nat → Nat} {w w' : rv_W} (h : rv_ST k s G n b w) (he : ∀ c j, (k ≤ c ∧ c ≤ k + 2) → w' c j = w c j) : rv_ST k s G n b w' := by
  obtain ⟨h1, h2, h3, h4, h5⟩ := h
  refine ⟨by rw [he k 0 (by omega), h1], h2, by rw [he k 1 (by omega), h3], h4, fun g hg => ?_⟩
  rw [he (k + 1) g (by omega), he (k + 2) g (by omega)]
  exact h5 g hg
theorem t_sVoters {k s G g : Nat} {n b : Nat → Nat} {w : rv_W} (h : rv_ST k s G n b w) (hg : g < G) : f_X8_votersOf k (Int32.ofNat g) w = some (Int32.ofNat (n g), w) := by
  obtain ⟨h1, h2, h3, h4, h5⟩ := h
  unfold f_X8_votersOf
  rw [if_neg (rv_n_neg (by omega)), if_pos ((rv_l20 (by omega)).mpr (by omega)), rv_n_ck (by omega) (by decide), rv_n_nat (by omega), (h5 g hg).1]
theorem t_sBallot {k s G g : Nat} {n b : Nat → Nat} {w : rv_W} (h : rv_ST k s G n b w) (hg : g < G) : f_X8_ballotOf k (Int32.ofNat g) w = some (Int32.ofNat (b g), w) := by
  obtain ⟨h1, h2, h3, h4, h5⟩ := h
  unfold f_X8_ballotOf
  rw [if_neg (rv_n_neg (by omega)), if_pos ((rv_l20 (by omega)).mpr (by omega)), rv_n_ck (by omega) (by decide), rv_n_nat (by omega), (h5 g hg).2.1]
/-- of groups those from lo on, below hi -/
def rv_cut (lo hi : Nat) (n : Nat → Nat) : Nat → Nat := fun g => if lo ≤ g ∧ g < hi then n g else 0
theorem rv_PP_cast {s g m b : Nat} {n r : Nat → Nat} {w : rv_W} (h : rv_PP s n r w) (hg : g < 20) (hb : b ∈ rv_B) : rv_T (f_X5_cast (Int32.ofNat g) (Int32.ofNat m) (Int32.ofNat b) w) (fun _ w' => rv_PP s (rv_at1 n g m) (rv_at1 r g (rv_wi b s)) w' ∧ rv_fr 24 52 w w') := by
  obtain ⟨x, h⟩ := h
  exact (t_cast h hg hb).mono (fun _ _ z => ⟨⟨_, z.1⟩, z.2⟩)
theorem t_castGroups {s t G lo hi : Nat} {n b : Nat → Nat} {w : rv_W} (h : rv_ST 1 s G n b w) (ht : t < 32) (hr : rv_Rows w) (hlo : lo ≤ hi) (hhi : hi ≤ G) : rv_T (f_X10_castGroups (Int32.ofNat t) (Int32.ofNat lo) (Int32.ofNat hi) w) (fun _ w' => rv_PP t (rv_cut lo hi n) (rv_cut lo hi (fun g => rv_wi (b g) t)) w' ∧ rv_fr 24 52 w w') := by
  unfold f_X10_castGroups
  refine rv_T_call (t_open' ht hr) (fun _ w2 h2 => ?_)
  have hG : G ≤ 20 := h.2.2.2.1
  refine rv_T_for hi (fun i w' => lo ≤ i ∧ rv_PP t (rv_cut lo i n) (rv_cut lo i (fun g => rv_wi (b g) t)) w' ∧ rv_fr 24 52 w w') (fun ag i w6 hi6 hw q => ?_) (by have : rv_FU = 10000 := rfl; omega) lo _ ⟨Nat.le_refl _, ?_, h2.2⟩ hlo
  · obtain ⟨hl, hp, hf⟩ := hw
    have hst := h.fr (fun c j hc => hf c j (by omega))
    by_cases hih : i < hi
    · rw [if_pos ((rv_n_lt (by omega) (by omega)).mpr hih), t_sVoters hst (by omega), rv_bd_some, t_sBallot hst (by omega), rv_bd_some]
      obtain ⟨h1, _, h3, h4, h5⟩ := h
      refine rv_T_call (rv_PP_cast hp (by omega) (h5 i (by omega)).2.2.2.1) (fun _ w12 h12 => ?_)
      rw [rv_T_lt, rv_n_succ]
      refine q hih _ ⟨by omega, ?_, hf.trans h12.2⟩
      have e1 : rv_at1 (rv_cut lo i n) i (n i) = rv_cut lo (i + 1) n := by
        funext g; unfold rv_at1 rv_cut; grind
      have e2 : rv_at1 (rv_cut lo i (fun g => rv_wi (b g) t)) i (rv_wi (b i) t) = rv_cut lo (i + 1) (fun g => rv_wi (b g) t) := by
        funext g; unfold rv_at1 rv_cut; grind
      rw [← e1, ← e2]
      exact h12.1
    · have : i = hi := by omega
      subst this
      rw [if_neg (fun z => hih ((rv_n_lt (by omega) (by omega)).mp z)), rv_T_some]
      exact ⟨hp, hf⟩
  · have e1 : ∀ f : Nat → Nat, rv_cut lo lo f = fun _ => 0 := fun f => by
      funext g; unfold rv_cut; grind
    rw [e1, e1]
    exact h2.1
theorem t_castAll {s G : Nat} {n b : Nat → Nat} {w : rv_W} (h : rv_ST 1 s G n b w) (hr : rv_Rows w) : rv_T (f_X10_castAll w) (fun _ w' => rv_PP s (rv_cut 0 G n) (rv_cut 0 G (fun g => rv_wi (b g) s)) w' ∧ rv_fr 24 52 w w') := by
  unfold f_X10_castAll
  rw [h.1, h.2.2.1]
  refine rv_T_call (t_castGroups (lo := 0) h h.2.1 hr (by omega) (Nat.le_refl _)) (fun _ w' h' => ?_)
  rw [rv_T_some]
  exact h'
