/-! the model's profile: G groups, n voters, ballots m -/
theorem ra_ix5 {g c : Nat} : (5 : Int32) * Int32.ofNat g + Int32.ofNat c = Int32.ofNat (5 * g + c) := by
  rw [Int32.ofNat_add, Int32.ofNat_mul]; rfl
theorem ra_q_le {r c : Nat} : rv_q r c ≤ 9 := by
  have := rv_q_or r c; omega
theorem ra_ltG {g G : Nat} (hg : g < G) (hG : G ≤ 20) : (Int32.ofNat g < Int32.ofNat G) = True := eq_true ((rv_n_lt (by omega) (by omega)).mpr hg)
theorem ra_geG {G : Nat} : (Int32.ofNat G < Int32.ofNat G) = False := eq_false (fun h => by
  rw [Int32.lt_iff_toInt_lt] at h; omega)
theorem ra_n_add0 {x : Int32} : x + (0 : Int32) = x := Int32.add_zero x
theorem rv_cn_s {n : Nat} {p : Nat → Bool} : rv_cn (n + 1) p = if p n = true then rv_cn n p + 1 else rv_cn n p := rfl
theorem ra_eq5 {i j : Nat} (hi : i < 5) (hj : j < 5) : (Int32.ofNat i < Int32.ofNat j) = (i < j) := propext (rv_n_lt (by omega) (by omega))
theorem rv_al_s {n : Nat} {p : Nat → Bool} : rv_al (n + 1) p = (rv_al n p && p n) := rfl
theorem rv_jn_if {c : Prop} [Decidable c] {K : Int32 → rv_W → rv_R} {w : rv_W} : rv_jn K (fun k => if c then k 1 w else k 0 w) = K (rv_b2 (decide c)) w := by
  show (if c then K 1 w else K 0 w) = K (rv_b2 (decide c)) w
  by_cases h : c
  · rw [if_pos h, decide_eq_true h]; rfl
  · rw [if_neg h, decide_eq_false h]; rfl
theorem ra_S_ext {G : Nat} {n : Nat → Nat} {p : Nat → Bool} (hG : G ≤ 20) (h : ∀ g, G ≤ g → n g = 0) : ra_S 20 n p = ra_S G n p := rv_sm_ext hG (fun i hi _ => by rw [h i hi]; simp)
theorem ra_S_s {k : Nat} {n : Nat → Nat} {p : Nat → Bool} : ra_S (k + 1) n p = ra_S k n p + if p k = true then n k else 0 := rfl
/-- the pairs, of all candidates -/
def ra_PU (n m : Nat → Nat) (a b : Nat) : Nat := ra_S 20 n (fun g => decide (rv_q (m g) a < rv_q (m g) b))
theorem ra_div5 {k : Nat} (hk : k < 25) : Int32.ofNat k / 5 = Int32.ofNat (k / 5) :=
  of_decide_eq_true (List.all_eq_true.mp (by decide +kernel : ((List.range 25).all fun k => decide (Int32.ofNat k / 5 = Int32.ofNat (k / 5))) = true) k (rv_rg hk))
theorem ra_mod5 {k : Nat} (hk : k < 25) : Int32.ofNat k - Int32.ofNat (k / 5) * 5 = Int32.ofNat (k % 5) :=
  of_decide_eq_true (List.all_eq_true.mp (by decide +kernel : ((List.range 25).all fun k => decide (Int32.ofNat k - Int32.ofNat (k / 5) * 5 = Int32.ofNat (k % 5))) = true) k (rv_rg hk))
theorem rv_up_same' {w : rv_W} {A k : Nat} {v : Int32} : rv_up w A k v A k = v := rv_up_same
/-- what holds after counts() -/
def ra_MC (n m : Nat → Nat) (w : rv_W) : Prop := ∀ k, k < 25 → w 83 k = Int32.ofNat (ra_PU n m (k / 5) (k % 5))
theorem ra_PU_le {n m : Nat → Nat} {a b : Nat} : ra_PU n m a b ≤ rv_sm 20 n := ra_S_le
theorem ra_PU_P {s a b : Nat} {n m : Nat → Nat} (ha : rv_hs s a = true) (hb : rv_hs s b = true) : ra_PU n m a b = ra_P s n m a b := by
  unfold ra_PU ra_P
  rw [ha, hb]
  rfl
