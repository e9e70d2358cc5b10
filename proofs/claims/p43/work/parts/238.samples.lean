/-! samples -/
def ra_sd1 (y : Int32) : Int32 := y * 1103515245 + 12345
def ra_sdn (y : Int32) : Nat → Int32
  | 0 => y
  | k + 1 => ra_sd1 (ra_sdn y k)
def ra_yv (y : Int32) : Nat := (y.toUInt32 >>> ((8 : Int32).toUInt32 &&& Int32.toUInt32 31)).toNat
theorem ra_yv_lt {y : Int32} : ra_yv y < 16777216 := by
  unfold ra_yv
  have e : ((8 : Int32).toUInt32 &&& Int32.toUInt32 31) = 8 := by decide
  rw [e, UInt32.toNat_shiftRight, show (8 : UInt32).toNat % 32 = 8 from rfl, Nat.shiftRight_eq_div_pow]
  have := y.toUInt32.toNat_lt
  omega
theorem ra_yv_eq {y : Int32} : (y.toUInt32 >>> ((8 : Int32).toUInt32 &&& Int32.toUInt32 31)).toInt32 = Int32.ofNat (ra_yv y) := by
  unfold ra_yv
  rw [← UInt32.toInt32_ofNat', UInt32.ofNat_toNat]
theorem ra_vot {y : Int32} {T : Nat} (hT : T ≤ 2000) (h0 : 0 < T) : (y.toUInt32 >>> ((8 : Int32).toUInt32 &&& Int32.toUInt32 31)).toInt32 - (y.toUInt32 >>> ((8 : Int32).toUInt32 &&& Int32.toUInt32 31)).toInt32 / Int32.ofNat T * Int32.ofNat T = Int32.ofNat (ra_yv y % T) := by
  have h := @ra_yv_lt y
  have hd := Nat.div_add_mod (ra_yv y) T
  have hc := Nat.mul_comm T (ra_yv y / T)
  rw [ra_yv_eq, ← Int32.ofNat_div (by omega) (by omega), ← Int32.ofNat_mul, ← Int32.ofNat_sub _ _ (by omega)]
  congr 1
  omega
/-- the group of a voter, from group k on -/
def ra_go (n : Nat → Nat) (V : Nat) : Nat → Nat → Nat
  | 0, k => k
  | f + 1, k => if V < rv_sm (k + 1) n then k else ra_go n V f (k + 1)
theorem ra_go_s {n : Nat → Nat} {V f k : Nat} : ra_go n V (f + 1) k = if V < rv_sm (k + 1) n then k else ra_go n V f (k + 1) := rfl
def ra_gv (n : Nat → Nat) (G V : Nat) : Nat := ra_go n V G 0
theorem ra_go_lt {n : Nat → Nat} {V G f k : Nat} (hk : f + k = G) (h0 : 0 < f) (hV : V < rv_sm G n) : ra_go n V f k < G := by
  induction f generalizing k with
  | zero => omega
  | succ f ih =>
    rw [ra_go_s]
    split
    · omega
    · rename_i z
      by_cases e : f = 0
      · subst e
        have : k + 1 = G := by omega
        rw [this] at z
        exact absurd hV z
      · exact ih (by omega) (by omega)
def ra_cnt (n : Nat → Nat) (G : Nat) (y : Int32) : Nat → Nat → Nat
  | 0 => fun _ => 0
  | k + 1 => rv_at1 (ra_cnt n G y k) (ra_gv n G (ra_yv (ra_sdn y (k + 1)) % rv_sm G n)) (ra_cnt n G y k (ra_gv n G (ra_yv (ra_sdn y (k + 1)) % rv_sm G n)) + 1)
theorem ra_cnt_le {n : Nat → Nat} {G : Nat} {y : Int32} {k g : Nat} : ra_cnt n G y k g ≤ k := by
  induction k generalizing g with
  | zero => exact Nat.le_refl _
  | succ k ih =>
    show rv_at1 _ _ _ g ≤ k + 1
    unfold rv_at1
    split
    · exact Nat.succ_le_succ ih
    · exact Nat.le_succ_of_le ih
theorem ra_smG {s G : Nat} {n m : Nat → Nat} {w : rv_W} (h : ra_Cur s G n m w) : rv_sm G n ≤ 2000 ∧ (0 < G → 0 < rv_sm G n) := by
  have hG := h.G20
  refine ⟨?_, fun h0 => ?_⟩
  · have := rv_sm_bd (k := G) (c := 100) (fun g hg => (h.1.ok g hg).1)
    omega
  · have := rv_sm_pick (f := n) h0
    have := (h.1.2.2.2.2 0 h0).2.2.1.1
    omega
theorem ra_groupOf {s G V : Nat} {n m : Nat → Nat} {w : rv_W} (h : rv_ST 1 s G n m w) (hV : V < rv_sm G n) (hT : rv_sm G n ≤ 2000) (hG0 : 0 < G) : f_X8_groupOf 1 (Int32.ofNat V) w = some (Int32.ofNat (ra_gv n G V), w) := by
  have hG : G ≤ 20 := h.2.2.2.1
  unfold f_X8_groupOf
  refine rv_C1 G (fun g a w' => w' = w ∧ a = Int32.ofNat (rv_sm g n) ∧ ra_gv n G V = ra_go n V (G - g) g ∧ (g = 0 ∨ rv_sm g n ≤ V)) 0 _ _ ⟨rfl, rfl, rfl, Or.inl rfl⟩ (by omega) (by show G < 10000; omega) (fun ag g a w' hg hI ih => ?_)
  obtain ⟨rfl, rfl, hF, hle⟩ := hI
  have hmono := rv_sm_mono (f := n) hg
  by_cases hgG : g < G
  · have hm1 := rv_sm_mono (f := n) (show g + 1 ≤ G by omega)
    have e1 : rv_sm (g + 1) n = rv_sm g n + n g := rfl
    have ec : (Int32.ofNat V < Int32.ofNat (rv_sm (g + 1) n)) = (V < rv_sm (g + 1) n) := propext (rv_n_lt (by omega) (by omega))
    rw [show G - g = (G - (g + 1)) + 1 by omega, ra_go_s (f := G - (g + 1)) (k := g)] at hF
    simp only [h.2.2.1, ra_ltG hgG hG, if_true, t_sVoters h hgG, rv_bd_some, rv_lt, rv_n_succ, ← Int32.ofNat_add, ← e1, ec]
    by_cases z : V < rv_sm (g + 1) n
    · rw [if_pos z] at hF
      rw [if_pos z, hF]
    · rw [if_neg z] at hF
      rw [if_neg z]
      exact ih hgG _ _ ⟨rfl, rfl, hF, Or.inr (by omega)⟩
  · have : g = G := by omega
    subst this
    rcases hle with hle | hle
    · omega
    · omega
theorem ra_castSample {s G S : Nat} {y : Int32} {n m : Nat → Nat} {w : rv_W} (h : ra_Cur s G n m w) (hr : rv_Rows w) (hG0 : 0 < G) (hS : S ≤ 50) : rv_T (f_X10_castSample y (Int32.ofNat S) w) (fun v w' => v = ra_sdn y S ∧ ra_PQ s (ra_cnt n G y S) m w' ∧ rv_fr 24 52 w w') := by
  have hG := h.G20
  obtain ⟨hT, hT0⟩ := ra_smG h
  have hT0 := hT0 hG0
  unfold f_X10_castSample
  rw [h.c0]
  refine rv_T_call (t_open' h.s32 hr) (fun _ w2 ⟨hp, hf⟩ => ?_)
  have hP0 : ra_PQ s (ra_cnt n G y 0) m w2 := by
    obtain ⟨x, hp⟩ := hp
    exact ⟨_, x, hp, fun g _ => Nat.zero_le _, fun g _ hne => absurd rfl hne⟩
  have hC2 : ra_Cur s G n m w2 := h.fr (hf.wide (by omega) (by omega))
  rw [ra_total hC2, rv_bd_some]
  have e0 : ((0 : Int32) < Int32.ofNat (rv_sm G n)) := (rv_n_lt (i := 0) (by omega) (by omega)).mpr hT0
  have en0 : ¬ Int32.ofNat (rv_sm G n) = 0 := fun z => by
    have := (rv_n_eq (j := 0) (by omega) (by omega)).mp z
    omega
  refine rv_T_for1 S (fun k a w' => a = ra_sdn y k ∧ rv_fr 24 52 w w' ∧ ra_PQ s (ra_cnt n G y k) m w') (fun ag k a w' hk hI q => ?_) (by show S < 10000; omega) 0 _ _ ⟨rfl, hf, hP0⟩ (by omega)
  obtain ⟨rfl, hf', hP'⟩ := hI
  have hC' : ra_Cur s G n m w' := h.fr (hf'.wide (by omega) (by omega))
  by_cases hkS : k < S
  · have lt : (Int32.ofNat k < Int32.ofNat S) := (rv_n_lt (by omega) (by omega)).mpr hkS
    have es : ra_sdn y k * 1103515245 + 12345 = ra_sdn y (k + 1) := rfl
    rw [if_pos lt, rv_T_lt, es, rv_T_jn, if_pos e0]
    have egd : ∀ t, rv_gd (¬ Int32.ofNat (rv_sm G n) = 0) t = t := fun t => if_pos en0
    rw [egd, ra_vot hT hT0]
    have hV := Nat.mod_lt (ra_yv (ra_sdn y (k + 1))) hT0
    have hg := ra_go_lt (n := n) (f := G) (k := 0) rfl hG0 hV
    have hg' : ra_gv n G (ra_yv (ra_sdn y (k + 1)) % rv_sm G n) < G := hg
    dsimp only
    rw [ra_groupOf hC'.1 hV hT hG0, rv_bd_some]
    obtain ⟨g, eg⟩ : ∃ g, g = ra_gv n G (ra_yv (ra_sdn y (k + 1)) % rv_sm G n) := ⟨_, rfl⟩
    have ecnt : ra_cnt n G y (k + 1) = rv_at1 (ra_cnt n G y k) g (ra_cnt n G y k g + 1) := by rw [eg]; rfl
    rw [← eg] at hg' ⊢
    have h31 : w' 31 g = Int32.ofNat (ra_cnt n G y k g) := by
      obtain ⟨r, x, hp, _⟩ := hP'
      exact hp.2.2.2.1 g (by omega)
    have ev : f_X5_votersOf (Int32.ofNat g) w' = some (Int32.ofNat (ra_cnt n G y k g), w') := by
      unfold f_X5_votersOf
      rw [if_neg (rv_n_neg (by omega)), if_pos ((rv_l20 (by omega)).mpr (by omega)), rv_ck20 (by omega), rv_nn20 (by omega), h31]
    have hle := @ra_cnt_le n G y k g
    have hb := h.B hg'
    rw [ev, rv_bd_some, t_sBallot hC'.1 hg', rv_bd_some, rv_n_succ]
    refine rv_T_call (hP'.cast (b' := m g) (by omega) (by omega) hb (fun _ => ⟨hb, rfl⟩)) (fun _ w4 ⟨h4, f4⟩ => ?_)
    rw [rv_T_lt, rv_n_succ]
    refine q hkS _ _ ⟨rfl, hf'.trans f4, h4.same ?_ ra_at1_id⟩
    rw [ecnt]
  · have : k = S := by omega
    subst this
    rw [if_neg (fun z => hkS ((rv_n_lt (by omega) (by omega)).mp z))]
    exact rv_T_some.mpr ⟨rfl, hP', hf'⟩
/-- a number from 1 to hi -/
def ra_sz (x : Int32) (hi : Nat) : Bool := decide (1 ≤ x.toInt ∧ x.toInt ≤ (hi : Int))
theorem ra_sz_get {x : Int32} {hi : Nat} (h : ra_sz x hi = true) : ∃ S, 1 ≤ S ∧ S ≤ hi ∧ x = Int32.ofNat S := by
  unfold ra_sz at h
  rw [decide_eq_true_eq] at h
  refine ⟨x.toInt.toNat, by omega, by omega, ?_⟩
  rw [← Int32.ofInt_eq_ofNat, show ((x.toInt.toNat : Nat) : Int) = x.toInt by omega, Int32.ofInt_toInt]
theorem ra_szin {x : Int32} {hi : Nat} {w : rv_W} (hh : hi < 1000) : (if x < (1 : Int32) then some ((0 : Int32), w) else if Int32.ofNat hi < x then some ((0 : Int32), w) else some ((1 : Int32), w)) = some (rv_b2 (ra_sz x hi), w) := by
  unfold ra_sz
  have e1 : (x < (1 : Int32)) ↔ x.toInt < 1 := by rw [Int32.lt_iff_toInt_lt]; rfl
  have e2 : (Int32.ofNat hi < x) ↔ (hi : Int) < x.toInt := by rw [Int32.lt_iff_toInt_lt, rv_n_int (by omega)]
  by_cases h1 : x.toInt < 1
  · rw [if_pos (e1.mpr h1), decide_eq_false (by omega)]; rfl
  · rw [if_neg (fun z => h1 (e1.mp z))]
    by_cases h2 : (hi : Int) < x.toInt
    · rw [if_pos (e2.mpr h2), decide_eq_false (by omega)]; rfl
    · rw [if_neg (fun z => h2 (e2.mp z)), decide_eq_true (by omega)]; rfl
theorem ra_sampSize {x : Int32} {w : rv_W} : f_X10_isSampleSize x w = some (rv_b2 (ra_sz x 50), w) := ra_szin (hi := 50) (by decide)
theorem ra_groupSize {x : Int32} {w : rv_W} : f_X10_isGroupSize x w = some (rv_b2 (ra_sz x 100), w) := ra_szin (hi := 100) (by decide)
theorem ra_G0 {G : Nat} (hG : G ≤ 20) : (Int32.ofNat G = 0) = (G = 0) := propext (rv_n_eq (j := 0) (by omega) (by omega))
theorem ra_toN {S : Nat} (h : S < 2147483648) : (Int32.ofNat S).toInt.toNat = S := by
  rw [rv_n_int h]; rfl
def ra_saA (y z : Int32) (s G : Nat) (n m : Nat → Nat) (r : Nat) : Int32 := if ra_sz z 50 = true then (if G = 0 then -1000003 else ra_wc r s (ra_cnt n G y z.toInt.toNat) m) else -1000002
theorem ra_saA_no {y z : Int32} {s G r : Nat} {n m : Nat → Nat} (h : ra_sz z 50 = false) : ra_saA y z s G n m r = -1000002 := if_neg (by rw [h]; decide)
theorem ra_saA_0 {y z : Int32} {s G r : Nat} {n m : Nat → Nat} (h : ra_sz z 50 = true) (hG : G = 0) : ra_saA y z s G n m r = -1000003 := by
  unfold ra_saA
  rw [if_pos h, if_pos hG]
theorem ra_saA_1 {y : Int32} {s G r S : Nat} {n m : Nat → Nat} (h : ra_sz (Int32.ofNat S) 50 = true) (hG : ¬ G = 0) (hS : S < 1000) : ra_saA y (Int32.ofNat S) s G n m r = ra_wc r s (ra_cnt n G y S) m := by
  unfold ra_saA
  rw [if_pos h, if_neg hG, ra_toN (by omega)]
theorem c_sample (x y z : Int32) : ra_Sc (fun s G n m => ra_one x (ra_saA y z s G n m)) (f_X10_sample x y z) := by
  intro s G n m w h hr
  dsimp only
  unfold f_X10_sample
  refine ra_crule (K := fun w2 => rv_bd (f_X10_isSampleSize z w2) (fun r3 w4 => if r3 = 0 then some ((-1000002 : Int32), w4) else if (w4 1 1) = 0 then some ((-1000003 : Int32), w4) else rv_bd (f_X10_castSample y z w4) (fun _ w6 => rv_bd (f_X7_winnerBy x w6) (fun r7 w8 => some (r7, w8))))) hr (fun r hr12 hx => ?_)
  subst hx
  rw [ra_sampSize, rv_bd_some]
  cases hz : ra_sz z 50
  · rw [if_pos ra_e0, ra_saA_no hz]
    exact rv_T_some.mpr ⟨rfl, rv_fr.refl, hr⟩
  · obtain ⟨S, hS1, hS2, rfl⟩ := ra_sz_get hz
    rw [if_neg ra_e1, h.c1]
    simp only [ra_G0 h.G20]
    by_cases hG0 : G = 0
    · rw [if_pos hG0, ra_saA_0 hz hG0]
      exact rv_T_some.mpr ⟨rfl, rv_fr.refl, hr⟩
    · rw [if_neg hG0, ra_saA_1 hz hG0 (by omega)]
      refine rv_T_call (ra_castSample h hr (by omega) hS2) (fun _ w2 ⟨_, hP, hf⟩ => ?_)
      refine rv_T_call (ra_winnerBy hP hr12) (fun v w3 ⟨hv, hf3⟩ => ?_)
      exact rv_T_some.mpr ⟨hv, hf.two hf3, hf3.rows hP.rows⟩
