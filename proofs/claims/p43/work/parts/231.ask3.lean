/-! questions of rounds and orders -/
def ra_cb (r : Nat) : Bool := r == 7
def ra_rA (s G : Nat) (n m : Nat → Nat) (r : Nat) : Int32 := if ra_gr7 r = true then Int32.ofNat (ra_rt (ra_cb r) (rv_cut 0 G n) m s) else -1000003
theorem ra_rt_le {cb : Bool} {n m : Nat → Nat} {s : Nat} (hs : s < 32) : ra_rt cb n m s ≤ 5 := by
  obtain ⟨C, hat, _⟩ := ra_cs_ok (cb := cb) (n := n) (m := m) hs
  exact hat.2.2.2.2.1
theorem ra_gr7_cb {r : Nat} (h : ra_gr7 r = true) : r = if ra_cb r = true then 7 else 6 := by
  unfold ra_gr7 at h
  unfold ra_cb
  rw [Bool.or_eq_true, beq_iff_eq, beq_iff_eq] at h
  rcases h with h | h <;> subst h <;> rfl
/-- the class has played -/
theorem ra_cplay {s G r : Nat} {n m : Nat → Nat} {w : rv_W} (h : ra_Cur s G n m w) (hr : rv_Rows w) (hg : ra_gr7 r = true) : rv_T (rv_bd (f_X10_castAll w) (fun _ w8 => f_X6_play (Int32.ofNat r) w8)) (fun _ w' => rv_fr 24 77 w w' ∧ rv_Rows w' ∧ ra_rec (ra_cb r) (rv_cut 0 G n) m s (ra_rt (ra_cb r) (rv_cut 0 G n) m s) w') := by
  refine rv_T_call (ra_castAll h.1 hr) (fun _ w2 ⟨hP, hf⟩ => ?_)
  exact (ra_play (cb := ra_cb r) hP (ra_gr7_cb hg)).mono (fun v w3 ⟨_, hf3, hrec⟩ => ⟨hf.two hf3, hf3.rows hP.rows, hrec⟩)
theorem ra_cplay' {s G r : Nat} {n m : Nat → Nat} {w : rv_W} {K : rv_W → rv_R} {Q : Int32 → rv_W → Prop} (h : ra_Cur s G n m w) (hr : rv_Rows w) (hg : ra_gr7 r = true) (hK : ∀ w', rv_fr 24 77 w w' → rv_Rows w' → ra_rec (ra_cb r) (rv_cut 0 G n) m s (ra_rt (ra_cb r) (rv_cut 0 G n) m s) w' → rv_T (K w') Q) : rv_T (rv_bd (f_X10_castAll w) (fun _ w8 => rv_bd (f_X6_play (Int32.ofNat r) w8) (fun _ w10 => K w10))) Q := by
  have e : rv_bd (f_X10_castAll w) (fun _ w8 => rv_bd (f_X6_play (Int32.ofNat r) w8) (fun _ w10 => K w10)) = rv_bd (rv_bd (f_X10_castAll w) (fun _ w8 => f_X6_play (Int32.ofNat r) w8)) (fun _ w10 => K w10) := by
    cases f_X10_castAll w with
    | none => rfl
    | some q => rfl
  rw [e]
  exact rv_T_call (ra_cplay h hr hg) (fun _ w' ⟨h1, h2, h3⟩ => hK w' h1 h2 h3)
theorem c_rounds (x : Int32) : ra_Sc (fun s G n m => ra_one x (ra_rA s G n m)) (f_X10_rounds x) := by
  intro s G n m w h hr
  dsimp only
  unfold f_X10_rounds
  refine ra_crule (K := fun w2 => rv_bd (f_X10_goesByRounds x w2) (fun r3 w4 => if r3 = 0 then some ((-1000003 : Int32), w4) else rv_bd (f_X10_castAll w4) (fun _ w6 => rv_bd (f_X6_play x w6) (fun _ w8 => some ((w8 56 0), w8))))) hr (fun r hr12 hx => ?_)
  subst hx
  rw [e_goesByRounds hr12, rv_bd_some]
  unfold ra_rA
  cases h7 : ra_gr7 r
  · rw [if_pos ra_e0]
    exact rv_T_some.mpr ⟨rfl, rv_fr.refl, hr⟩
  · rw [if_neg ra_e1]
    refine ra_cplay' (K := fun w8 => some ((w8 56 0), w8)) h hr h7 (fun w' g1 g2 g3 => ?_)
    exact rv_T_some.mpr ⟨g3.1, g1, g2⟩
theorem ra_one_err {x : Int32} {A B : Nat → Int32} (h : ra_one x A < 0) (hA : ∀ r, r < 12 → x = Int32.ofNat r → A r < 0 → B r = A r) : ra_one x B = ra_one x A := by
  cases hx : ra_iv x 12
  · unfold ra_one
    rw [if_neg (by rw [hx]; decide), if_neg (by rw [hx]; decide)]
  · obtain ⟨r, hr12, rfl⟩ := ra_iv_get hx
    rw [ra_one_ok hr12] at h
    rw [ra_one_ok hr12, ra_one_ok hr12]
    exact hA r hr12 rfl h
theorem ra_rA_neg {s G r : Nat} {n m : Nat → Nat} (hs : s < 32) : (ra_rA s G n m r < 0) = (ra_gr7 r = false) := by
  unfold ra_rA
  have := ra_rt_le (cb := ra_cb r) (n := rv_cut 0 G n) (m := m) hs
  cases h : ra_gr7 r
  · exact propext ⟨fun _ => rfl, fun _ => by rw [if_neg (by decide)]; decide⟩
  · rw [if_pos rfl]
    exact propext ⟨fun z => absurd z (rv_n_neg (by omega)), fun z => by cases z⟩
def ra_lA (p : Int32) (s G : Nat) (n m : Nat → Nat) (r : Nat) : Int32 := if ra_gr7 r = true then (if ra_iv p (ra_rt (ra_cb r) (rv_cut 0 G n) m s) = true then Int32.ofNat (ra_out (ra_cb r) (rv_cut 0 G n) m (ra_cs (ra_cb r) (rv_cut 0 G n) m s p.toInt.toNat)) else -1000001) else -1000003
theorem ra_cs_lt {cb : Bool} {n m : Nat → Nat} {s i : Nat} (hs : s < 32) (hi : i ≤ ra_rt cb n m s) : ra_cs cb n m s i < 32 := by
  cases i with
  | zero => exact hs
  | succ i =>
    have key : ∀ j, ra_cs cb n m s j < 32 := by
      intro j
      induction j with
      | zero => exact hs
      | succ j ih => exact rv_wo_lt ih
    exact key (i + 1)
def ra_tA (p : Int32) (s G : Nat) (n m : Nat → Nat) (r c : Nat) : Int32 := if ra_gr7 r = true then (if ra_iv p (ra_rt (ra_cb r) (rv_cut 0 G n) m s) = true then (if rv_hs (ra_cs (ra_cb r) (rv_cut 0 G n) m s p.toInt.toNat) c = true then Int32.ofNat (ra_x (ra_cb r) (rv_cut 0 G n) m (ra_cs (ra_cb r) (rv_cut 0 G n) m s p.toInt.toNat) c) else -1000000) else -1000001) else -1000003
theorem ra_isPlace {s G : Nat} {x : Int32} {n m : Nat → Nat} {w : rv_W} (h : ra_Cur s G n m w) : f_X10_isPlace x w = some (rv_b2 (ra_iv x (rv_mn s)), w) := by
  unfold f_X10_isPlace
  rw [h.c0, e_bitCount h.s32, rv_bd_some]
  exact ra_rng (by have := @rv_mn_le s; omega)
theorem c_kemeny (x : Int32) : ra_Sc (fun s G n m => if ra_iv x (rv_mn s) = true then Int32.ofNat (rv_lo (ra_lds (ra_P s (rv_cut 0 G n) m) (ra_gr (ra_P s (rv_cut 0 G n) m) s x.toInt.toNat))) else -1000001) (f_X10_kemeny x) := by
  intro s G n m w h hr
  dsimp only
  unfold f_X10_kemeny
  rw [ra_isPlace h, rv_bd_some]
  cases hx : ra_iv x (rv_mn s)
  · rw [if_pos ra_e0]
    exact rv_T_some.mpr ⟨rfl, rv_fr.refl, hr⟩
  · obtain ⟨j, hj, rfl⟩ := ra_iv_get hx
    have hmn := @rv_mn_le s
    rw [if_neg ra_e1]
    refine rv_T_call (ra_castAll h.1 hr) (fun _ w2 ⟨hP, hf⟩ => ?_)
    refine rv_T_call (ra_weigh hP) (fun _ w3 ⟨hf3, hk⟩ => ?_)
    have hf3' : rv_fr 53 76 w2 w3 := hf3.wide (by omega) (by omega)
    have hP3 : ra_PQ s (rv_cut 0 G n) m w3 := hP.fr (fun c j _ _ => hf3 c j (by omega))
    rw [ra_candidateAt hP3 hk hj, rv_bd_some]
    exact rv_T_some.mpr ⟨by rw [rv_n_int (by omega)]; rfl, hf.two hf3', hf3'.rows hP.rows⟩
