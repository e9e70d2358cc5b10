/-! the law's own helpers -/
set_option maxRecDepth 100000 in
theorem un_L_bits {p1 : Int32} {w u : rv_W} : rv_un (f_L_bits p1 w) (f_L_bits p1 u) w := by
  unfold f_L_bits
  repeat' (with_reducible first | exact rv_un_some | apply rv_un_if | (refine rv_un_bd ?_ (fun _ _ => ?_)) | refine rv_un_lt ?_ | refine rv_un_jn ?_ | refine rv_un_gd ?_ | (refine rv_fx_ind3 (α := Int32 → Int32 → rv_W → rv_R) (fun x y => ∀ (p0 p1 : Int32) (w u : rv_W), rv_un (x p0 p1 w) (y p0 p1 u) w) (fun _ _ _ _ => rv_un_none) (fun x0 y0 h0 p0 p1 w u => ?_) _ _ _ _ _) | exact h0 _ _ _ _ | fail)
theorem un_L_place {p1 p2 : Int32} {w u : rv_W} : rv_un (f_L_place p1 p2 w) (f_L_place p1 p2 u) w := by
  unfold f_L_place
  repeat' (with_reducible first | exact rv_un_some | apply rv_un_if | (refine rv_un_bd ?_ (fun _ _ => ?_)) | refine rv_un_lt ?_ | refine rv_un_jn ?_ | refine rv_un_gd ?_ | (refine rv_fx_ind3 (α := Int32 → Int32 → Int32 → rv_W → rv_R) (fun x y => ∀ (p0 p1 p2 : Int32) (w u : rv_W), rv_un (x p0 p1 p2 w) (y p0 p1 p2 u) w) (fun _ _ _ _ _ => rv_un_none) (fun x0 y0 h0 p0 p1 p2 w u => ?_) _ _ _ _ _ _) | exact h0 _ _ _ _ _ | fail)
theorem un_L_low {p1 p2 : Int32} {w u : rv_W} : rv_un (f_L_low p1 p2 w) (f_L_low p1 p2 u) w := by
  unfold f_L_low
  repeat' (with_reducible first | exact rv_un_some | apply rv_un_if | refine rv_un_gd ?_ | fail)
theorem un_L_ballot {p1 : Int32} {w u : rv_W} : rv_un (f_L_ballot p1 w) (f_L_ballot p1 u) w := by
  unfold f_L_ballot
  repeat' (with_reducible first | exact rv_un_some | apply rv_un_if | exact un_L_low | (refine rv_un_bd ?_ (fun _ _ => ?_)) | refine rv_un_lt ?_ | refine rv_un_jn ?_ | refine rv_un_gd ?_ | (refine rv_fx_ind3 (α := Int32 → Int32 → Int32 → Int32 → rv_W → rv_R) (fun x y => ∀ (p0 p1 p2 p3 : Int32) (w u : rv_W), rv_un (x p0 p1 p2 p3 w) (y p0 p1 p2 p3 u) w) (fun _ _ _ _ _ _ => rv_un_none) (fun x0 y0 h0 p0 p1 p2 p3 w u => ?_) _ _ _ _ _ _ _) | exact h0 _ _ _ _ _ _ | (refine rv_fx_ind3 (α := Int32 → Int32 → rv_W → rv_R) (fun x y => ∀ (p0 p1 : Int32) (w u : rv_W), rv_un (x p0 p1 w) (y p0 p1 u) w) (fun _ _ _ _ => rv_un_none) (fun x1 y1 h1 p0 p1 w u => ?_) _ _ _ _ _) | exact h1 _ _ _ _ | fail)
theorem e_bits {a : Nat} (ha : a < 32) (w : rv_W) : f_L_bits (Int32.ofNat a) w = some (Int32.ofNat (rv_mn a), w) :=
  rv_un_eq un_L_bits (List.all_eq_true.mp (by decide +kernel : ((List.range 32).all fun a => rv_eqr (f_L_bits (Int32.ofNat a) rv_w0) (Int32.ofNat (rv_mn a))) = true) a (rv_rg ha))
theorem e_place {r c : Nat} (hr : r ∈ rv_B) (hc : c < 5) (w : rv_W) : f_L_place (Int32.ofNat (ra_td r (rv_ln r))) (Int32.ofNat c) w = some (Int32.ofNat (rv_q r c), w) :=
  rv_un_eq un_L_place (rv_all2 (p := fun r c => rv_eqr (f_L_place (Int32.ofNat (ra_td r (rv_ln r))) (Int32.ofNat c) rv_w0) (Int32.ofNat (rv_q r c))) (l := rv_B) (m := List.range 5) (by decide +kernel) hr (rv_rg hc))
/-- the last candidate's place -/
theorem e_placeLast {r : Nat} (hr : r ∈ rv_B) (h0 : r ≠ 0) (w : rv_W) : f_L_place (Int32.ofNat (ra_td r (rv_ln r))) ((Int32.ofNat (ra_td r (rv_ln r)) - Int32.ofNat (ra_td r (rv_ln r)) / (10 : Int32) * (10 : Int32)) - (1 : Int32)) w = some (Int32.ofNat (rv_ln r - 1), w) := by
  have t := List.all_eq_true.mp (by decide +kernel : ((rv_B).all fun r => Nat.beq r 0 || rv_eqr (f_L_place (Int32.ofNat (ra_td r (rv_ln r))) ((Int32.ofNat (ra_td r (rv_ln r)) - Int32.ofNat (ra_td r (rv_ln r)) / (10 : Int32) * (10 : Int32)) - (1 : Int32)) rv_w0) (Int32.ofNat (rv_ln r - 1))) = true) r hr
  have e : Nat.beq r 0 = false := Bool.eq_false_iff.mpr (fun z => h0 (Nat.eq_of_beq_eq_true z))
  rw [e, Bool.false_or] at t
  exact rv_un_eq un_L_place t
theorem rl_bit {s c : Nat} (hs : s < 32) (hc : c < 5) : ((Int32.ofNat s >>> (Int32.ofNat c &&& 31)) &&& (1 : Int32)) = rv_b2 (rv_hs s c) :=
  of_decide_eq_true (rv_all2 (p := fun s c => decide (((Int32.ofNat s >>> (Int32.ofNat c &&& 31)) &&& (1 : Int32)) = rv_b2 (rv_hs s c))) (l := List.range 32) (m := List.range 5) (by decide +kernel) (rv_rg hs) (rv_rg hc))
/-! orders as digits and as codes -/
theorem rl_digits {t : Nat} {L : List Nat} (ht : t < 32) (hL : L ∈ ra_ps 5 t) : ra_bl (Int32.ofNat (ra_dcr L 0)) = L ∧ ra_td (ra_oc L) (rv_ln (ra_oc L)) = ra_dcr L 0 ∧ ra_dcr L 0 < 100000 := by
  have := List.all_eq_true.mp (List.all_eq_true.mp (by decide +kernel : ((List.range 32).all fun t => (ra_ps 5 t).all fun L => decide (ra_bl (Int32.ofNat (ra_dcr L 0)) = L) && decide (ra_td (ra_oc L) (rv_ln (ra_oc L)) = ra_dcr L 0) && decide (ra_dcr L 0 < 100000)) = true) t (rv_rg ht)) L hL
  rw [Bool.and_eq_true, Bool.and_eq_true, decide_eq_true_eq, decide_eq_true_eq, decide_eq_true_eq] at this
  exact ⟨this.1.1, this.1.2, this.2⟩
theorem rl_snoc {s c : Nat} {L : List Nat} (hs : s < 32) (hc : c < 5) (h : rv_hs s c = false) (hL : L ∈ ra_ps 5 s) : (L ++ [c]) ∈ ra_ps 5 (ra_un s (2 ^ c)) := by
  have t := List.all_eq_true.mp (List.all_eq_true.mp (List.all_eq_true.mp (by decide +kernel : ((List.range 32).all fun s => (ra_ps 5 s).all fun L => (List.range 5).all fun c => rv_hs s c || (ra_ps 5 (ra_un s (2 ^ c))).contains (L ++ [c])) = true) s (rv_rg hs)) L hL) c (rv_rg hc)
  rw [h, Bool.false_or] at t
  exact List.contains_iff_mem.mp t
theorem rl_dcr_snoc {L : List Nat} {N c : Nat} : ra_dcr (L ++ [c]) N = 10 * ra_dcr L N + (c + 1) := by
  induction L generalizing N with
  | nil => rfl
  | cons a L ih => exact ih
/-! the numbers that the law draws -/
theorem rl_and {y m : Int32} {M : Nat} (hm : m.toUInt32.toNat = M) : ∃ N, N ≤ M ∧ y &&& m = Int32.ofNat N := by
  refine ⟨(y &&& m).toUInt32.toNat, ?_, ?_⟩
  · rw [Int32.toUInt32_and, UInt32.toNat_and, ← hm]
    exact Nat.and_le_right
  · rw [← UInt32.toInt32_ofNat', UInt32.ofNat_toNat]
    rfl
theorem rl_mod {N T : Nat} (hN : N < 2147483648) (hT : T ≤ 1000) (h0 : 0 < T) : Int32.ofNat N - Int32.ofNat N / Int32.ofNat T * Int32.ofNat T = Int32.ofNat (N % T) ∧ Int32.ofNat N / Int32.ofNat T = Int32.ofNat (N / T) := by
  have hd := Nat.div_add_mod N T
  have hc := Nat.mul_comm T (N / T)
  have e : Int32.ofNat N / Int32.ofNat T = Int32.ofNat (N / T) := (Int32.ofNat_div (by omega) (by omega)).symm
  refine ⟨?_, e⟩
  rw [e, ← Int32.ofNat_mul, ← Int32.ofNat_sub _ _ (by omega)]
  congr 1
  omega
theorem rl_low (y : Int32) {T : Nat} (hT : T ≤ 1000) (h0 : 0 < T) : ∃ v, v < T ∧ ∀ w, f_L_low y (Int32.ofNat T) w = some (Int32.ofNat v, w) := by
  obtain ⟨N, hN, e⟩ := rl_and (y := y) (m := (2147483647 : Int32)) (M := 2147483647) rfl
  refine ⟨N % T, Nat.mod_lt _ h0, fun w => ?_⟩
  unfold f_L_low
  have hne : ¬ Int32.ofNat T = 0 := fun z => by
    have := (rv_n_eq (j := 0) (by omega) (by omega)).mp z
    omega
  rw [e, (rl_mod (by omega) hT h0).1]
  exact if_pos hne
/-! the law's ballot: some of the candidates in some order -/
def rl_cnt (s c : Nat) : Nat := rv_cn 5 (fun j => decide (c ≤ j) && rv_hs s j)
theorem rl_cnt_s {s c : Nat} (hs : s < 32) (hc : c < 5) : rl_cnt s c = (if rv_hs s c = true then 1 else 0) + rl_cnt s (c + 1) ∧ rl_cnt s 5 = 0 ∧ rl_cnt s 0 = rv_mn s :=
  of_decide_eq_true (rv_all2 (p := fun s c => decide (rl_cnt s c = (if rv_hs s c = true then 1 else 0) + rl_cnt s (c + 1) ∧ rl_cnt s 5 = 0 ∧ rl_cnt s 0 = rv_mn s)) (l := List.range 32) (m := List.range 5) (by decide +kernel) (rv_rg hs) (rv_rg hc))
theorem rl_rest {t : Nat} (ht : t < 32) : rv_mn (rv_df 31 t) + rv_mn t = 5 :=
  of_decide_eq_true (List.all_eq_true.mp (by decide +kernel : ((List.range 32).all fun t => decide (rv_mn (rv_df 31 t) + rv_mn t = 5)) = true) t (rv_rg ht))
theorem rl_rest_c {t c : Nat} (ht : t < 32) (hc : c < 5) : rv_hs (rv_df 31 t) c = !rv_hs t c ∧ rv_wo (rv_df 31 t) c = rv_df 31 (ra_un t (2 ^ c)) :=
  of_decide_eq_true (rv_all2 (p := fun t c => decide (rv_hs (rv_df 31 t) c = !rv_hs t c ∧ rv_wo (rv_df 31 t) c = rv_df 31 (ra_un t (2 ^ c)))) (l := List.range 32) (m := List.range 5) (by decide +kernel) (rv_rg ht) (rv_rg hc))
theorem rl_s31 {t : Nat} (ht : t < 32) : rv_df 31 t = 31 - t :=
  of_decide_eq_true (List.all_eq_true.mp (by decide +kernel : ((List.range 32).all fun t => decide (rv_df 31 t = 31 - t)) = true) t (rv_rg ht))
theorem rl_n1 {i : Nat} (h : 0 < i) : Int32.ofNat i - 1 = Int32.ofNat (i - 1) := by rw [Int32.ofNat_sub _ _ h]; rfl
theorem rl_ballot0 (y : Int32) : rv_T (f_L_ballot y rv_w0) (fun v w' => ∃ t L, t < 32 ∧ L ∈ ra_ps 5 t ∧ L ≠ [] ∧ v = Int32.ofNat (ra_dcr L 0)) := by
  obtain ⟨v0, hv0, e0⟩ := rl_low y (T := 5) (by decide) (by decide)
  obtain ⟨N, hN, eN⟩ := rl_and (y := y >>> ((3 : Int32) &&& 31)) (m := (16777215 : Int32)) (M := 16777215) rfl
  unfold f_L_ballot
  have e0' : f_L_low y (5 : Int32) rv_w0 = some (Int32.ofNat v0, rv_w0) := e0 rv_w0
  rw [e0', rv_bd_some, rv_T_lt, rv_T_lt, eN]
  have e1 : (1 : Int32) + Int32.ofNat v0 = Int32.ofNat (v0 + 1) := by rw [Int32.add_comm, rv_n_succ]
  have e7 : Int32.ofNat N + (7 : Int32) = Int32.ofNat (N + 7) := by rw [Int32.ofNat_add]; rfl
  rw [e1, e7]
  refine rv_T_fx (α := Int32 → Int32 → Int32 → Int32 → rv_W → rv_R) (σ := (Nat × Nat) × (List Nat × Nat)) (fun z a => a (Int32.ofNat (31 - z.1.1)) (Int32.ofNat (ra_dcr z.2.1 0)) (Int32.ofNat z.2.2) (Int32.ofNat z.1.2) rv_w0) (fun z => z.1.1 < 32 ∧ z.2.1 ∈ ra_ps 5 z.1.1 ∧ rv_mn z.1.1 = z.1.2 ∧ z.1.2 ≤ v0 + 1 ∧ z.2.2 < 2147483648) (fun z => v0 + 1 - z.1.2) ?_ rv_FU ((0, 0), ([], N + 7)) (by show v0 + 1 - 0 < 10000; omega) ⟨(by decide : 0 < 32), (by decide : ([] : List Nat) ∈ ra_ps 5 0), (by decide +kernel : rv_mn 0 = 0), Nat.zero_le _, by show N + 7 < 2147483648; omega⟩
  intro ag ⟨⟨t, k⟩, ⟨L, Y⟩⟩ hI q
  obtain ⟨ht, hL, hk, hk1, hY⟩ := hI
  dsimp only at ht hL hk hk1 hY q ⊢
  rw [← rl_s31 ht]
  by_cases hlt : k < v0 + 1
  · rw [if_pos ((rv_n_lt (by omega) (by omega)).mpr hlt)]
    have e5 : (5 : Int32) - Int32.ofNat k = Int32.ofNat (5 - k) := by
      rw [Int32.ofNat_sub _ _ (show k ≤ 5 by omega)]; rfl
    have hne : ¬ Int32.ofNat (5 - k) = 0 := fun z => by
      have := (rv_n_eq (j := 0) (by omega) (by omega)).mp z
      omega
    rw [e5]
    refine rv_T_gd.mpr ⟨hne, ?_⟩
    obtain ⟨m1, m2⟩ := rl_mod (N := Y) (T := 5 - k) hY (by omega) (by omega)
    rw [m1, m2, rv_T_lt]
    refine rv_T_gd.mpr ⟨hne, ?_⟩
    rw [rv_T_lt]
    have hmod : Y % (5 - k) < 5 - k := Nat.mod_lt _ (by omega)
    have hdiv : Y / (5 - k) ≤ Y := Nat.div_le_self _ _
    have hrest := rl_rest ht
    have hlt32 : rv_df 31 t < 32 := rv_df_lt
    refine rv_T_fx (α := Int32 → Int32 → rv_W → rv_R) (σ := Nat × Nat) (fun z a => a (Int32.ofNat z.1) (Int32.ofNat z.2) rv_w0) (fun z => z.2 < 5 ∧ z.1 < rl_cnt (rv_df 31 t) z.2) (fun z => 5 - z.2) ?_ rv_FU (Y % (5 - k), 0) (by show 5 - 0 < 10000; omega) ⟨(by decide : 0 < 5), by rw [(rl_cnt_s hlt32 (show 0 < 5 by decide)).2.2]; omega⟩
    intro ag2 ⟨sk, c⟩ hI2 q2
    obtain ⟨hc, hsk⟩ := hI2
    dsimp only at hc hsk q2 ⊢
    obtain ⟨n1, n2, n3⟩ := rl_cnt_s hlt32 hc
    rw [rl_bit hlt32 hc, rv_T_jn]
    have hc2 : ∀ sk', sk' < rl_cnt (rv_df 31 t) (c + 1) → c + 1 < 5 := fun sk' z => by
      by_cases y5 : c + 1 = 5
      · rw [y5, n2] at z; omega
      · omega
    cases hb : rv_hs (rv_df 31 t) c
    · rw [if_pos ra_e0]
      dsimp only
      rw [hb] at n1
      rw [rv_T_lt, rv_T_lt, rv_n_succ, show Int32.ofNat sk - rv_b2 false = Int32.ofNat sk from Int32.sub_zero _]
      rw [if_neg (by decide)] at n1
      exact q2 (sk, c + 1) ⟨hc2 sk (by omega), by show sk < rl_cnt (rv_df 31 t) (c + 1); omega⟩ (by show 5 - (c + 1) < 5 - c; omega)
    · rw [if_neg (by decide)]
      rw [hb, if_pos rfl] at n1
      by_cases h0 : 0 < sk
      · rw [if_pos (show (0 : Int32) < Int32.ofNat sk from (rv_n_lt (i := 0) (by omega) (by have := @rv_cn_le 5 (fun j => decide (c ≤ j) && rv_hs (rv_df 31 t) j); unfold rl_cnt at hsk; omega)).mpr h0)]
        dsimp only
        rw [rv_T_lt, rv_T_lt, rv_n_succ, show Int32.ofNat sk - rv_b2 true = Int32.ofNat (sk - 1) from rl_n1 h0]
        exact q2 (sk - 1, c + 1) ⟨hc2 (sk - 1) (by omega), by show sk - 1 < rl_cnt (rv_df 31 t) (c + 1); omega⟩ (by show 5 - (c + 1) < 5 - c; omega)
      · have : sk = 0 := by omega
        subst this
        rw [if_neg (by decide), rv_T_lt, rv_T_lt, rv_T_lt, ra_and_not hlt32 hc]
        obtain ⟨r1, r2⟩ := rl_rest_c ht hc
        rw [r2]
        rw [hb] at r1
        have hsc : rv_hs t c = false := by
          cases z : rv_hs t c
          · rfl
          · rw [z] at r1; cases r1
        have ev : (((10 : Int32) * Int32.ofNat (ra_dcr L 0)) + Int32.ofNat c) + (1 : Int32) = Int32.ofNat (ra_dcr (L ++ [c]) 0) := by
          rw [rl_dcr_snoc, Int32.ofNat_add, Int32.ofNat_mul, Int32.ofNat_add, ← Int32.add_assoc]
          rfl
        rw [ev, rv_n_succ, rl_s31 ra_un_lt]
        exact q ((ra_un t (2 ^ c), k + 1), (L ++ [c], Y / (5 - k))) ⟨ra_un_lt, rl_snoc ht hc hsc hL, by show rv_mn (ra_un t (2 ^ c)) = k + 1; rw [ra_un_mn ht hc hsc, hk], by show k + 1 ≤ v0 + 1; omega, by show Y / (5 - k) < 2147483648; omega⟩ (by show v0 + 1 - (k + 1) < v0 + 1 - k; omega)
  · rw [if_neg (fun z => hlt ((rv_n_lt (by omega) (by omega)).mp z))]
    refine rv_T_some.mpr ⟨t, L, ht, hL, fun z => ?_, rfl⟩
    subst z
    by_cases z : t = 0
    · subst z
      have : rv_mn 0 = 0 := by decide +kernel
      omega
    · exact ra_ps_ne ht z hL rfl
theorem rl_ballot (y : Int32) : ∃ t L, t < 32 ∧ L ∈ ra_ps 5 t ∧ L ≠ [] ∧ ∀ w, f_L_ballot y w = some (Int32.ofNat (ra_dcr L 0), w) := by
  obtain ⟨v, w', e, t, L, ht, hL, h0, rfl⟩ := rl_ballot0 y
  refine ⟨t, L, ht, hL, h0, fun w => ?_⟩
  have h : f_L_ballot y w = (f_L_ballot y rv_w0).map (fun q => (q.1, w)) := un_L_ballot
  rw [h, e]
  rfl
