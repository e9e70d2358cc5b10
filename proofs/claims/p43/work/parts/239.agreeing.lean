/-! agreeing -/
def ra_sek (y : Int32) (S : Nat) : Nat → Int32
  | 0 => y
  | i + 1 => ra_sdn (ra_sek y S i) S
def ra_agc (r s G : Nat) (n m : Nat → Nat) (y : Int32) (S : Nat) : Nat → Int32
  | 0 => 0
  | i + 1 => if ra_wc r s (ra_cnt n G (ra_sek y S i) S) m = ra_wc r s (rv_cut 0 G n) m then ra_agc r s G n m y S i + 1 else ra_agc r s G n m y S i
theorem ra_agc_s {r s G S i : Nat} {n m : Nat → Nat} {y : Int32} : ra_agc r s G n m y S (i + 1) = if ra_wc r s (ra_cnt n G (ra_sek y S i) S) m = ra_wc r s (rv_cut 0 G n) m then ra_agc r s G n m y S i + 1 else ra_agc r s G n m y S i := rfl
def ra_agA (y z t : Int32) (s G : Nat) (n m : Nat → Nat) (r : Nat) : Int32 := if ra_sz z 50 = true ∧ ra_sz t 20 = true then (if G = 0 ∨ s = 0 then -1000003 else ra_agc r s G n m y z.toInt.toNat t.toInt.toNat) else -1000002
theorem ra_agA_no {y z t : Int32} {s G r : Nat} {n m : Nat → Nat} (h : ra_sz z 50 = false ∨ ra_sz t 20 = false) : ra_agA y z t s G n m r = -1000002 := if_neg (fun q => by
  rcases h with h | h
  · rw [h] at q; cases q.1
  · rw [h] at q; cases q.2)
theorem ra_agA_0 {y z t : Int32} {s G r : Nat} {n m : Nat → Nat} (h : ra_sz z 50 = true) (h2 : ra_sz t 20 = true) (hG : G = 0 ∨ s = 0) : ra_agA y z t s G n m r = -1000003 := by
  unfold ra_agA
  rw [if_pos ⟨h, h2⟩, if_pos hG]
theorem ra_agA_1 {y : Int32} {s G r S M : Nat} {n m : Nat → Nat} (h : ra_sz (Int32.ofNat S) 50 = true) (h2 : ra_sz (Int32.ofNat M) 20 = true) (hG : ¬ (G = 0 ∨ s = 0)) (hS : S < 1000) (hM : M < 1000) : ra_agA y (Int32.ofNat S) (Int32.ofNat M) s G n m r = ra_agc r s G n m y S M := by
  unfold ra_agA
  rw [if_pos ⟨h, h2⟩, if_neg hG, ra_toN (by omega), ra_toN (by omega)]
theorem ra_sz20 {t : Int32} : ((t < (1 : Int32)) ∨ ((20 : Int32) < t)) ↔ ra_sz t 20 = false := by
  unfold ra_sz
  rw [decide_eq_false_iff_not, Int32.lt_iff_toInt_lt, Int32.lt_iff_toInt_lt, show (1 : Int32).toInt = 1 from rfl, show (20 : Int32).toInt = 20 from rfl]
  exact ⟨fun h => by omega, fun h => by omega⟩
theorem c_agreeing (x y z t : Int32) : ra_Sc (fun s G n m => ra_one x (ra_agA y z t s G n m)) (f_X10_agreeing x y z t) := by
  intro s G n m w h hr
  dsimp only
  unfold f_X10_agreeing
  refine ra_crule (K := fun w2 => rv_bd (f_X10_isSampleSize z w2) (fun (r3 : Int32) (w4 : rv_W) =>
    if r3 = 0 then
    some ((-1000002 : Int32), w4)
    else
    if t < (1 : Int32) then
    some ((-1000002 : Int32), w4)
    else
    if (20 : Int32) < t then
    some ((-1000002 : Int32), w4)
    else
    if (w4 1 1) = 0 then
    some ((-1000003 : Int32), w4)
    else
    if (w4 1 0) = 0 then
    some ((-1000003 : Int32), w4)
    else
    rv_bd (f_X10_castAll  w4) (fun (r5 : Int32) (w6 : rv_W) =>
    rv_bd (f_X7_winnerBy x w6) (fun (r7 : Int32) (w8 : rv_W) =>
    rv_fx (fun _ _ _ _ => none) (fun (ag9 : Int32 → Int32 → Int32 → rv_W → rv_R) (v11 : Int32) (v12 : Int32) (v13 : Int32) (w14 : rv_W) =>
    if v13 < t then
    rv_bd (f_X10_castSample v12 z w14) (fun (r15 : Int32) (w16 : rv_W) =>
    rv_bd (f_X7_winnerBy x w16) (fun (r17 : Int32) (w18 : rv_W) =>
    if r17 = r7 then
    rv_lt (v11 + (1 : Int32)) (fun (v20 : Int32) =>
    rv_lt (v13 + (1 : Int32)) (fun (v21 : Int32) =>
    ag9 v20 r15 v21 w18))
    else
    rv_lt (v13 + (1 : Int32)) (fun (v19 : Int32) =>
    ag9 v11 r15 v19 w18)))
    else
    some (v11, w14)) rv_FU (0 : Int32) y (0 : Int32) w8)))) hr (fun r hr12 hx => ?_)
  subst hx
  rw [ra_sampSize, rv_bd_some]
  cases hz : ra_sz z 50
  · rw [if_pos ra_e0, ra_agA_no (Or.inl hz)]
    exact rv_T_some.mpr ⟨rfl, rv_fr.refl, hr⟩
  · rw [if_neg ra_e1]
    by_cases ht : ra_sz t 20 = false
    · have hA : ra_agA y z t s G n m r = -1000002 := ra_agA_no (Or.inr ht)
      rw [hA]
      by_cases t1 : t < (1 : Int32)
      · rw [if_pos t1]
        exact rv_T_some.mpr ⟨rfl, rv_fr.refl, hr⟩
      · rw [if_neg t1, if_pos ((ra_sz20.mpr ht).resolve_left t1)]
        exact rv_T_some.mpr ⟨rfl, rv_fr.refl, hr⟩
    · have hno : ¬ ((t < (1 : Int32)) ∨ ((20 : Int32) < t)) := fun q => ht (ra_sz20.mp q)
      have ht' : ra_sz t 20 = true := by simpa using ht
      rw [if_neg (fun q => hno (Or.inl q)), if_neg (fun q => hno (Or.inr q)), h.c1, h.c0]
      have es0 : (Int32.ofNat s = 0) = (s = 0) := propext (rv_n_eq (j := 0) (by have := h.s32; omega) (by omega))
      simp only [ra_G0 h.G20, es0]
      by_cases hG0 : G = 0
      · rw [if_pos hG0, ra_agA_0 hz ht' (Or.inl hG0)]
        exact rv_T_some.mpr ⟨rfl, rv_fr.refl, hr⟩
      · by_cases hs0 : s = 0
        · rw [if_neg hG0, if_pos hs0, ra_agA_0 hz ht' (Or.inr hs0)]
          exact rv_T_some.mpr ⟨rfl, rv_fr.refl, hr⟩
        · obtain ⟨S, hS1, hS2, rfl⟩ := ra_sz_get hz
          obtain ⟨M, hM1, hM2, rfl⟩ := ra_sz_get ht'
          rw [if_neg hG0, if_neg hs0, ra_agA_1 hz ht' (fun q => q.elim hG0 hs0) (by omega) (by omega)]
          refine rv_T_call (ra_castAll h.1 hr) (fun _ w2 ⟨hP, hf⟩ => ?_)
          refine rv_T_call (ra_winnerBy hP hr12) (fun v w3 ⟨hv, hf3⟩ => ?_)
          subst hv
          refine rv_T_for2 M (fun i a b w' => a = ra_agc r s G n m y S i ∧ b = ra_sek y S i ∧ rv_fr 24 77 w w' ∧ rv_Rows w') (fun ag i a b w' hi hI q => ?_) (by show M < 10000; omega) 0 _ _ _ ⟨rfl, rfl, hf.two hf3, hf3.rows hP.rows⟩ (by omega)
          obtain ⟨rfl, rfl, hf', hR'⟩ := hI
          by_cases hiM : i < M
          · rw [if_pos ((rv_n_lt (by omega) (by omega)).mpr hiM)]
            refine rv_T_call (ra_castSample (h.fr hf') hR' (by omega) hS2) (fun v w4 ⟨hv4, hP4, hf4⟩ => ?_)
            subst hv4
            refine rv_T_call (ra_winnerBy hP4 hr12) (fun v w5 ⟨hv5, hf5⟩ => ?_)
            subst hv5
            have hf5' : rv_fr 24 77 w w5 := hf'.trans (hf4.two hf5)
            by_cases e : ra_wc r s (ra_cnt n G (ra_sek y S i) S) m = ra_wc r s (rv_cut 0 G n) m
            · rw [if_pos e, rv_T_lt, rv_T_lt, rv_n_succ]
              exact q hiM _ _ _ ⟨by rw [ra_agc_s, if_pos e], rfl, hf5', hf5.rows hP4.rows⟩
            · rw [if_neg e, rv_T_lt, rv_n_succ]
              exact q hiM _ _ _ ⟨by rw [ra_agc_s, if_neg e], rfl, hf5', hf5.rows hP4.rows⟩
          · have : i = M := by omega
            subst this
            rw [if_neg (fun z => hiM ((rv_n_lt (by omega) (by omega)).mp z))]
            exact rv_T_some.mpr ⟨rfl, hf', hR'⟩
