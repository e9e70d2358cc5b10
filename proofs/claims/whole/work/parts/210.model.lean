/-! the model's profile: G groups, n voters, ballots m -/
def ra_MP (G : Nat) (n m : Nat → Nat) (w : rv_W) : Prop := w 78 6 = Int32.ofNat G ∧ G ≤ 20 ∧ (∀ g, g < G → w 81 g = Int32.ofNat (n g) ∧ m g ∈ rv_B ∧ ∀ c, c < 5 → w 82 (5 * g + c) = Int32.ofNat (rv_q (m g) c)) ∧ (∀ g, G ≤ g → n g = 0) ∧ ∀ g, n g ≤ 100
theorem ra_MP.fr {G : Nat} {n m : Nat → Nat} {w w' : rv_W} (h : ra_MP G n m w) (e : w' 78 6 = w 78 6) (e2 : ∀ c j, c = 81 ∨ c = 82 → w' c j = w c j) : ra_MP G n m w' := by
  obtain ⟨h1, h2, h3, h4⟩ := h
  refine ⟨by rw [e, h1], h2, fun g hg => ?_, h4⟩
  rw [e2 81 g (Or.inl rfl)]
  exact ⟨(h3 g hg).1, (h3 g hg).2.1, fun c hc => by rw [e2 82 _ (Or.inr rfl)]; exact (h3 g hg).2.2 c hc⟩
theorem ra_MP.fl {G A k : Nat} {n m : Nat → Nat} {f : Nat → Int32} {w : rv_W} (h : ra_MP G n m w) (hA : A ≠ 78 ∧ A ≠ 81 ∧ A ≠ 82) : ra_MP G n m (rv_fl A k f w) := h.fr (rv_fl_ne (by omega)) (fun c j z => rv_fl_ne (by omega))
theorem ra_MP.up {G A k : Nat} {n m : Nat → Nat} {v : Int32} {w : rv_W} (h : ra_MP G n m w) (hA : (A ≠ 78 ∨ k ≠ 6) ∧ A ≠ 81 ∧ A ≠ 82) : ra_MP G n m (rv_up w A k v) := h.fr (rv_up_of (by omega)) (fun c j z => rv_up_ne (by omega))
theorem ra_ix5 {g c : Nat} : (5 : Int32) * Int32.ofNat g + Int32.ofNat c = Int32.ofNat (5 * g + c) := by
  rw [Int32.ofNat_add, Int32.ofNat_mul]; rfl
theorem ra_q_le {r c : Nat} : rv_q r c ≤ 9 := by
  have := rv_q_or r c; omega
theorem ra_ltG {g G : Nat} (hg : g < G) (hG : G ≤ 20) : (Int32.ofNat g < Int32.ofNat G) = True := eq_true ((rv_n_lt (by omega) (by omega)).mpr hg)
theorem ra_geG {G : Nat} : (Int32.ofNat G < Int32.ofNat G) = False := eq_false (fun h => by
  rw [Int32.lt_iff_toInt_lt] at h; omega)
theorem ra_isOn {G g c : Nat} {n m : Nat → Nat} {w : rv_W} (h : ra_MP G n m w) (hg : g < G) (hc : c < 5) : f_X11_isOn (Int32.ofNat g) (Int32.ofNat c) w = some (rv_b2 (decide (rv_q (m g) c < 9)), w) := by
  obtain ⟨h1, h2, h3, h4⟩ := h
  unfold f_X11_isOn
  have e : Int32.ofNat (rv_q (m g) c) < (9 : Int32) ↔ rv_q (m g) c < 9 := rv_n_lt (j := 9) (by have := @ra_q_le (m g) c; omega) (by omega)
  rw [ra_ix5, rv_n_ck (by omega) (by omega), rv_n_nat (by omega), (h3 g hg).2.2 c hc]
  by_cases q : rv_q (m g) c < 9
  · rw [if_pos (e.mpr q), decide_eq_true q, rv_b2_t]
  · rw [if_neg (fun z => q (e.mp z)), decide_eq_false q, rv_b2_f]
theorem ra_isAbove {G g c d : Nat} {n m : Nat → Nat} {w : rv_W} (h : ra_MP G n m w) (hg : g < G) (hc : c < 5) (hd : d < 5) : f_X11_isAbove (Int32.ofNat g) (Int32.ofNat c) (Int32.ofNat d) w = some (rv_b2 (decide (rv_q (m g) c < rv_q (m g) d)), w) := by
  obtain ⟨h1, h2, h3, h4⟩ := h
  unfold f_X11_isAbove
  have e : Int32.ofNat (rv_q (m g) c) < Int32.ofNat (rv_q (m g) d) ↔ rv_q (m g) c < rv_q (m g) d := rv_n_lt (by have := @ra_q_le (m g) c; omega) (by have := @ra_q_le (m g) d; omega)
  rw [ra_ix5, ra_ix5, rv_n_ck (by omega) (by omega), rv_n_ck (by omega) (by omega), rv_n_nat (by omega), rv_n_nat (by omega), (h3 g hg).2.2 c hc, (h3 g hg).2.2 d hd]
  by_cases q : rv_q (m g) c < rv_q (m g) d
  · rw [if_pos (e.mpr q), decide_eq_true q, rv_b2_t]
  · rw [if_neg (fun z => q (e.mp z)), decide_eq_false q, rv_b2_f]
theorem ra_n_add0 {x : Int32} : x + (0 : Int32) = x := Int32.add_zero x
theorem rv_cn_s {n : Nat} {p : Nat → Bool} : rv_cn (n + 1) p = if p n = true then rv_cn n p + 1 else rv_cn n p := rfl
theorem ra_above {G g c C : Nat} {n m : Nat → Nat} {w : rv_W} (h : ra_MP G n m w) (hg : g < G) (hc : c < 5) (hC : C < 32) : f_X11_above (Int32.ofNat g) (Int32.ofNat c) (Int32.ofNat C) w = some (Int32.ofNat (rv_cn 5 (fun d => rv_hs C d && decide (rv_q (m g) d < rv_q (m g) c))), w) := by
  unfold f_X11_above
  refine rv_E1 5 (fun k => Int32.ofNat (rv_cn k (fun d => rv_hs C d && decide (rv_q (m g) d < rv_q (m g) c)))) (fun _ => w) _ _ rfl rfl (fun ag k hk => ?_) (fun ag => ?_) (by decide)
  · simp only [rv_lt5 hk, if_true, e_mhasb hC hk, rv_bd_some, ra_isAbove h hg hk hc, rv_lt, rv_jn, rv_n_succ, rv_b2_0, ra_n_add0, rv_cn_s]
    cases rv_hs C k <;> cases decide (rv_q (m g) k < rv_q (m g) c) <;> simp
  · rw [if_neg (by decide)]
theorem ra_offBallot {G g C : Nat} {n m : Nat → Nat} {w : rv_W} (h : ra_MP G n m w) (hg : g < G) (hC : C < 32) : f_X11_offBallot (Int32.ofNat g) (Int32.ofNat C) w = some (Int32.ofNat (ra_of (m g) C), w) := by
  unfold f_X11_offBallot
  refine rv_E1 5 (fun k => Int32.ofNat (rv_cn k (fun c => rv_hs C c && !decide (rv_q (m g) c < 9)))) (fun _ => w) _ _ rfl rfl (fun ag k hk => ?_) (fun ag => ?_) (by decide)
  · simp only [rv_lt5 hk, if_true, e_mhasb hC hk, rv_bd_some, ra_isOn h hg hk, rv_lt, rv_jn, rv_n_succ, rv_b2_0, ra_n_add0, rv_cn_s]
    cases rv_hs C k <;> cases decide (rv_q (m g) k < 9) <;> simp
  · rw [if_neg (by decide)]; rfl
theorem ra_eq5 {i j : Nat} (hi : i < 5) (hj : j < 5) : (Int32.ofNat i < Int32.ofNat j) = (i < j) := propext (rv_n_lt (by omega) (by omega))
theorem rv_al_s {n : Nat} {p : Nat → Bool} : rv_al (n + 1) p = (rv_al n p && p n) := rfl
theorem rv_jn_if {c : Prop} [Decidable c] {K : Int32 → rv_W → rv_R} {w : rv_W} : rv_jn K (fun k => if c then k 1 w else k 0 w) = K (rv_b2 (decide c)) w := by
  show (if c then K 1 w else K 0 w) = K (rv_b2 (decide c)) w
  by_cases h : c
  · rw [if_pos h, decide_eq_true h]; rfl
  · rw [if_neg h, decide_eq_false h]; rfl
theorem ra_isLast {G g c C : Nat} {n m : Nat → Nat} {w : rv_W} (h : ra_MP G n m w) (hg : g < G) (hc : c < 5) (hC : C < 32) : f_X11_isLast (Int32.ofNat g) (Int32.ofNat c) (Int32.ofNat C) w = some (rv_b2 (ra_la (m g) C c), w) := by
  unfold f_X11_isLast
  have ho : ra_of (m g) C ≤ 5 := rv_cn_le
  have e0 : (0 < Int32.ofNat (ra_of (m g) C)) ↔ 0 < ra_of (m g) C := rv_n_lt (i := 0) (by omega) (by omega)
  rw [e_mhasb hC hc, rv_bd_some, ra_offBallot h hg hC, rv_bd_some]
  rw [rv_jn_if, decide_eq_decide.mpr e0]
  obtain ⟨b, hb⟩ : ∃ b, b = decide (0 < ra_of (m g) C) := ⟨_, rfl⟩
  rw [← hb]
  refine rv_E1 5 (fun k => rv_b2 (rv_hs C c && rv_al k (fun d => !(rv_hs C d && ra_lt (m g) C c d)))) (fun _ => w) _ _ rfl (by rw [rv_al, Bool.and_true]) (fun ag k hk => ?_) (fun ag => ?_) (by decide)
  · simp only [rv_lt5 hk, if_true, e_mhasb hC hk, rv_bd_some, ra_isOn h hg hk, ra_isAbove h hg hc hk, rv_lt, rv_jn, rv_n_succ, rv_b2_0, rv_al_s, ra_eq5 hc hk]
    unfold ra_lt
    cases b
    · have hb' : ¬ 0 < ra_of (m g) C := of_decide_eq_false hb.symm
      simp only [hb', if_true, if_false]
      cases rv_hs C c <;> cases rv_al k (fun d => !(rv_hs C d && decide (rv_q (m g) c < rv_q (m g) d))) <;> cases rv_hs C k <;> cases decide (rv_q (m g) c < rv_q (m g) k) <;> simp [rv_b2]
    · have hb' : 0 < ra_of (m g) C := of_decide_eq_true hb.symm
      simp only [hb', if_true, if_false, Bool.true_eq_false]
      by_cases hck : c < k
      · simp only [hck, if_true, decide_true, Bool.and_true]
        cases rv_hs C c <;> cases rv_al k (fun d => !(rv_hs C d && (!decide (rv_q (m g) d < 9) && decide (c < d)))) <;> cases rv_hs C k <;> cases decide (rv_q (m g) k < 9) <;> simp [rv_b2]
      · simp only [hck, if_false, decide_false, Bool.and_false]
        cases rv_hs C c <;> cases rv_al k (fun d => !(rv_hs C d && (!decide (rv_q (m g) d < 9) && decide (c < d)))) <;> cases rv_hs C k <;> cases decide (rv_q (m g) k < 9) <;> simp [rv_b2]
  · simp only [rv_ge5, if_false, rv_b2_0, ra_isOn h hg hc, rv_bd_some, rv_jn]
    unfold ra_la
    cases rv_hs C c && rv_al 5 (fun d => !(rv_hs C d && ra_lt (m g) C c d)) <;> subst hb <;> cases decide (0 < ra_of (m g) C) <;> cases decide (rv_q (m g) c < 9) <;> simp [rv_b2]
theorem ra_S_ext {G : Nat} {n : Nat → Nat} {p : Nat → Bool} (hG : G ≤ 20) (h : ∀ g, G ≤ g → n g = 0) : ra_S 20 n p = ra_S G n p := rv_sm_ext hG (fun i hi _ => by rw [h i hi]; simp)
theorem ra_MP.ext {G : Nat} {n m : Nat → Nat} {w : rv_W} (h : ra_MP G n m w) : rv_sm 20 n = rv_sm G n := rv_sm_ext h.2.1 (fun i hi _ => h.2.2.2.1 i hi)
theorem ra_MP.sum {G : Nat} {n m : Nat → Nat} {w : rv_W} (h : ra_MP G n m w) : rv_sm 20 n ≤ 2000 := rv_sm_bd (c := 100) (fun g _ => h.2.2.2.2 g)
theorem ra_allVotes {G : Nat} {n m : Nat → Nat} {w : rv_W} (h : ra_MP G n m w) : f_X11_allVotes w = some (Int32.ofNat (rv_sm 20 n), w) := by
  rw [h.ext]
  have hG := h.2.1
  unfold f_X11_allVotes
  refine rv_E1 G (fun k => Int32.ofNat (rv_sm k n)) (fun _ => w) _ _ rfl rfl (fun ag k hk => ?_) (fun ag => ?_) (by show G < 10000; omega)
  · simp only [h.1, ra_ltG hk h.2.1, if_true, rv_ck20 (show k < 20 by omega), rv_nn20 (show k < 20 by omega), (h.2.2.1 k hk).1, rv_lt, rv_n_succ, rv_sm, Int32.ofNat_add]
  · simp only [h.1, ra_geG, if_false]
theorem ra_S_s {k : Nat} {n : Nat → Nat} {p : Nat → Bool} : ra_S (k + 1) n p = ra_S k n p + if p k = true then n k else 0 := rfl
/-- the pairs, of all candidates -/
def ra_PU (n m : Nat → Nat) (a b : Nat) : Nat := ra_S 20 n (fun g => decide (rv_q (m g) a < rv_q (m g) b))
theorem ra_div5 {k : Nat} (hk : k < 25) : Int32.ofNat k / 5 = Int32.ofNat (k / 5) :=
  of_decide_eq_true (List.all_eq_true.mp (by decide +kernel : ((List.range 25).all fun k => decide (Int32.ofNat k / 5 = Int32.ofNat (k / 5))) = true) k (rv_rg hk))
theorem ra_mod5 {k : Nat} (hk : k < 25) : Int32.ofNat k - Int32.ofNat (k / 5) * 5 = Int32.ofNat (k % 5) :=
  of_decide_eq_true (List.all_eq_true.mp (by decide +kernel : ((List.range 25).all fun k => decide (Int32.ofNat k - Int32.ofNat (k / 5) * 5 = Int32.ofNat (k % 5))) = true) k (rv_rg hk))
theorem rv_up_same' {w : rv_W} {A k : Nat} {v : Int32} : rv_up w A k v A k = v := rv_up_same
theorem ra_counts {G : Nat} {n m : Nat → Nat} {w : rv_W} (h : ra_MP G n m w) : f_X11_counts w = some (0, rv_fl 83 25 (fun k => Int32.ofNat (ra_PU n m (k / 5) (k % 5))) w) := by
  have hG := h.2.1
  unfold f_X11_counts
  refine rv_E0 25 (fun k => rv_fl 83 k (fun k => Int32.ofNat (ra_PU n m (k / 5) (k % 5))) w) w rv_fl_0.symm (fun ag k hk => ?_) (fun ag => ?_) (by decide)
  · simp only [rv_lt25 hk, if_true, rv_ck25 hk, rv_nn25 hk, rv_lt, rv_n_succ, ra_div5 hk, ra_mod5 hk]
    refine rv_E0 G (fun g => rv_up (rv_fl 83 k (fun k => Int32.ofNat (ra_PU n m (k / 5) (k % 5))) w) 83 k (Int32.ofNat (ra_S g n (fun g => decide (rv_q (m g) (k / 5) < rv_q (m g) (k % 5)))))) _ rfl (fun ag6 g hg => ?_) (fun ag6 => ?_) (by show G < 10000; omega)
    · have hM := (h.fl (A := 83) (k := k) (f := fun k => Int32.ofNat (ra_PU n m (k / 5) (k % 5))) (by omega)).up (A := 83) (k := k) (v := Int32.ofNat (ra_S g n (fun g => decide (rv_q (m g) (k / 5) < rv_q (m g) (k % 5))))) (by omega)
      simp only [hM.1, ra_ltG hg h.2.1, if_true, ra_isAbove hM hg (show k / 5 < 5 by omega) (show k % 5 < 5 by omega), rv_bd_some, rv_jn, rv_b2_0, rv_ck20 (show g < 20 by omega), rv_nn20 (show g < 20 by omega), (hM.2.2.1 g hg).1, rv_up_same, rv_up_up, rv_n_succ, rv_ck25 hk, rv_nn25 hk, rv_lt]
      by_cases q : rv_q (m g) (k / 5) < rv_q (m g) (k % 5)
      · simp only [q, decide_true, Bool.true_eq_false, if_false, ra_S_s, if_true, Int32.ofNat_add]
      · simp only [q, decide_false, if_true, ra_S_s, Bool.false_eq_true, if_false, Nat.add_zero, ra_n_add0]
    · rw [rv_up_ne (show (78 : Nat) ≠ 83 by decide), rv_fl_ne (show (78 : Nat) ≠ 83 by decide), h.1]
      simp only [ra_geG, if_false]
      refine congrArg _ (rv_fl_up ?_)
      unfold ra_PU
      rw [ra_S_ext hG h.2.2.2.1]
  · rw [if_neg (by decide)]
/-- what holds after counts() -/
def ra_MC (n m : Nat → Nat) (w : rv_W) : Prop := ∀ k, k < 25 → w 83 k = Int32.ofNat (ra_PU n m (k / 5) (k % 5))
theorem ra_MC.p {n m : Nat → Nat} {a b : Nat} {w : rv_W} (h : ra_MC n m w) (ha : a < 5) (hb : b < 5) : f_X11_p (Int32.ofNat a) (Int32.ofNat b) w = some (Int32.ofNat (ra_PU n m a b), w) := by
  unfold f_X11_p
  rw [ra_ix5, rv_n_ck (by omega) (by omega), rv_n_nat (by omega), h (5 * a + b) (by omega), show (5 * a + b) / 5 = a by omega, show (5 * a + b) % 5 = b by omega]
theorem ra_PU_le {n m : Nat → Nat} {a b : Nat} : ra_PU n m a b ≤ rv_sm 20 n := ra_S_le
theorem ra_MC.beats {n m : Nat → Nat} {a b : Nat} {w : rv_W} (h : ra_MC n m w) (hn : rv_sm 20 n ≤ 2000) (ha : a < 5) (hb : b < 5) : f_X11_beats (Int32.ofNat a) (Int32.ofNat b) w = some (rv_b2 (decide (ra_PU n m b a < ra_PU n m a b)), w) := by
  have h1 := @ra_PU_le n m a b
  have h2 := @ra_PU_le n m b a
  unfold f_X11_beats
  rw [h.p ha hb, rv_bd_some, h.p hb ha, rv_bd_some]
  have e : Int32.ofNat (ra_PU n m b a) < Int32.ofNat (ra_PU n m a b) ↔ ra_PU n m b a < ra_PU n m a b := rv_n_lt (by omega) (by omega)
  by_cases q : ra_PU n m b a < ra_PU n m a b
  · rw [if_pos (e.mpr q), decide_eq_true q, rv_b2_t]
  · rw [if_neg (fun z => q (e.mp z)), decide_eq_false q, rv_b2_f]
theorem ra_PU_P {s a b : Nat} {n m : Nat → Nat} (ha : rv_hs s a = true) (hb : rv_hs s b = true) : ra_PU n m a b = ra_P s n m a b := by
  unfold ra_PU ra_P
  rw [ha, hb]
  rfl
theorem ra_pointsOfFirst {G C k : Nat} {n m : Nat → Nat} {w : rv_W} (h : ra_MP G n m w) (hC : C < 32) (hk5 : k ≤ 100) : f_X11_pointsOfFirst (Int32.ofNat C) (Int32.ofNat k) w = some (0, rv_fl 84 5 (fun c => Int32.ofNat (ra_KC n m C k c)) w) := by
  have hG := h.2.1
  unfold f_X11_pointsOfFirst
  refine rv_E0 5 (fun c => rv_fl 84 c (fun c => Int32.ofNat (ra_KC n m C k c)) w) w rv_fl_0.symm (fun ag c hc => ?_) (fun ag => ?_) (by decide)
  · simp only [rv_lt5 hc, if_true, rv_ck5 hc, rv_nn5 hc, rv_lt, rv_n_succ]
    refine rv_C0 G (fun g w' => w' = rv_up (rv_fl 84 c (fun c => Int32.ofNat (ra_KC n m C k c)) w) 84 c (Int32.ofNat (ra_S g n (fun g => ra_kb (m g) C k c))) ∧ (g ≠ 0 → rv_hs C c = true)) 0 _ ⟨rfl, fun z => absurd rfl z⟩ (by omega) (by show G < 10000; omega) (fun ag6 g w' hg hI ih => ?_)
    obtain ⟨rfl, hI⟩ := hI
    have hM := (h.fl (A := 84) (k := c) (f := fun c => Int32.ofNat (ra_KC n m C k c)) (by omega)).up (A := 84) (k := c) (v := Int32.ofNat (ra_S g n (fun g => ra_kb (m g) C k c))) (by omega)
    by_cases hgG : g < G
    · have h20 : g < 20 := by omega
      have hle := @rv_cn_le 5 (fun d => rv_hs C d && decide (rv_q (m g) d < rv_q (m g) c))
      have e : (Int32.ofNat (rv_cn 5 (fun d => rv_hs C d && decide (rv_q (m g) d < rv_q (m g) c))) < Int32.ofNat k) = (rv_cn 5 (fun d => rv_hs C d && decide (rv_q (m g) d < rv_q (m g) c)) < k) := propext (rv_n_lt (by omega) (by omega))
      simp only [hM.1, ra_ltG hgG h.2.1, if_true, e_mhasb hC hc, rv_bd_some, rv_b2_0, ra_isOn hM hgG hc, rv_jn, ra_above hM hgG hc hC, e, rv_ck20 h20, rv_nn20 h20, (hM.2.2.1 g hgG).1, rv_ck5 hc, rv_nn5 hc, rv_up_same, rv_up_up, rv_n_succ, rv_lt]
      by_cases hcs : rv_hs C c = true
      · simp only [hcs, Bool.true_eq_false, if_false]
        have fin : ∀ v, v = Int32.ofNat (ra_S (g + 1) n (fun g => ra_kb (m g) C k c)) → ag6 (Int32.ofNat (g + 1)) (rv_up (rv_fl 84 c (fun c => Int32.ofNat (ra_KC n m C k c)) w) 84 c v) = ag (Int32.ofNat (c + 1)) (rv_fl 84 (c + 1) (fun c => Int32.ofNat (ra_KC n m C k c)) w) := fun v hv => ih hgG _ ⟨by rw [hv], fun _ => hcs⟩
        by_cases q1 : rv_q (m g) c < 9
        · by_cases q2 : rv_cn 5 (fun d => rv_hs C d && decide (rv_q (m g) d < rv_q (m g) c)) < k
          · simp only [q1, q2, decide_true, Bool.true_eq_false, if_false, if_true]
            refine fin _ ?_
            rw [ra_S_s, Int32.ofNat_add]
            unfold ra_kb
            rw [decide_eq_true q1, decide_eq_true q2]; rfl
          · simp only [q1, q2, decide_true, Bool.true_eq_false, if_false]
            refine fin _ ?_
            rw [ra_S_s, Int32.ofNat_add]
            unfold ra_kb
            rw [decide_eq_true q1, decide_eq_false q2]; rfl
        · simp only [q1, decide_false, if_true]
          refine fin _ ?_
          rw [ra_S_s, Int32.ofNat_add]
          unfold ra_kb
          rw [decide_eq_false q1]; rfl
      · have hcs' := Bool.eq_false_iff.mpr hcs
        have hg0 : g = 0 := by
          cases g with
          | zero => rfl
          | succ g => exact absurd (hI (by omega)) hcs
        subst hg0
        simp only [hcs', if_true]
        refine congrArg _ (rv_fl_up ?_)
        unfold ra_KC
        rw [if_neg hcs]; rfl
    · have : g = G := by omega
      subst this
      rw [hM.1]
      simp only [ra_geG, if_false]
      refine congrArg _ (rv_fl_up ?_)
      unfold ra_KC ra_K
      by_cases hcs : rv_hs C c = true
      · rw [if_pos hcs, ra_S_ext hG h.2.2.2.1]
      · rw [if_neg hcs]
        cases g with
        | zero => rfl
        | succ g => exact absurd (hI (by omega)) hcs
  · rw [if_neg (by decide)]
