/-! a group added -/
theorem ra_eqT {t : rv_R} {v : Int32} {w : rv_W} (h : rv_T t (fun v' w' => v' = v ∧ w' = w)) : t = some (v, w) := by
  obtain ⟨r, w2, e, h1, h2⟩ := h
  rw [e, h1, h2]
def ra_V10 (m k : Nat) : Nat := if k < m then 10 ^ (m - 1 - k) else 0
def ra_addP (L : List Nat) : Bool := L.isEmpty || (Nat.beq (rv_ln (ra_oc L)) L.length && Nat.ble L.length 5 && (List.range 5).all fun k => !Nat.blt k L.length || (decide (((Int32.ofNat (ra_dcr L 0) / Int32.ofNat (ra_V10 L.length k)) - (Int32.ofNat (ra_dcr L 0) / Int32.ofNat (ra_V10 L.length k)) / (10 : Int32) * (10 : Int32)) - (1 : Int32) = Int32.ofNat (ra_gd L k)) && decide (Int32.ofNat (ra_V10 L.length k) / (10 : Int32) = Int32.ofNat (ra_V10 L.length (k + 1))) && decide (0 < Int32.ofNat (ra_V10 L.length k)) && (decide (Int32.ofNat (ra_dcr L 0) / (10 : Int32) < Int32.ofNat (10 ^ k)) == decide (k + 1 = L.length)) && decide (Int32.ofNat (10 ^ k) * (10 : Int32) = Int32.ofNat (10 ^ (k + 1)))))
theorem ra_addT {s : Nat} {L : List Nat} (hs : s < 32) (hL : L ∈ ra_ps 5 s) (h0 : L ≠ []) : rv_ln (ra_oc L) = L.length ∧ L.length ≤ 5 ∧ ∀ k, k < L.length → ((Int32.ofNat (ra_dcr L 0) / Int32.ofNat (ra_V10 L.length k)) - (Int32.ofNat (ra_dcr L 0) / Int32.ofNat (ra_V10 L.length k)) / (10 : Int32) * (10 : Int32)) - (1 : Int32) = Int32.ofNat (ra_gd L k) ∧ Int32.ofNat (ra_V10 L.length k) / (10 : Int32) = Int32.ofNat (ra_V10 L.length (k + 1)) ∧ 0 < Int32.ofNat (ra_V10 L.length k) ∧ (Int32.ofNat (ra_dcr L 0) / (10 : Int32) < Int32.ofNat (10 ^ k) ↔ k + 1 = L.length) ∧ Int32.ofNat (10 ^ k) * (10 : Int32) = Int32.ofNat (10 ^ (k + 1)) := by
  have t := List.all_eq_true.mp (List.all_eq_true.mp (by decide +kernel : ((List.range 32).all fun s => (ra_ps 5 s).all ra_addP) = true) s (rv_rg hs)) L hL
  unfold ra_addP at t
  have e : L.isEmpty = false := by
    cases L with
    | nil => exact absurd rfl h0
    | cons _ _ => rfl
  rw [e, Bool.false_or, Bool.and_eq_true, Bool.and_eq_true] at t
  have h5 : L.length ≤ 5 := Nat.le_of_ble_eq_true t.1.2
  refine ⟨Nat.eq_of_beq_eq_true t.1.1, h5, fun k hk => ?_⟩
  have u := List.all_eq_true.mp t.2 k (rv_rg (by omega))
  have eb : Nat.blt k L.length = true := Nat.ble_eq_true_of_le hk
  rw [eb, Bool.not_true, Bool.false_or, Bool.and_eq_true, Bool.and_eq_true, Bool.and_eq_true, Bool.and_eq_true] at u
  refine ⟨of_decide_eq_true u.1.1.1.1, of_decide_eq_true u.1.1.1.2, of_decide_eq_true u.1.1.2, ?_, of_decide_eq_true u.2⟩
  exact decide_eq_decide.mp (beq_iff_eq.mp u.1.2)
theorem ra_adds {s G t v : Nat} {n b : Nat → Nat} {L : List Nat} {w : rv_W} (h : ra_MR 0 s G n b w) (hG : G < 20) (ht : t < 32) (hL : L ∈ ra_ps 5 t) (h0 : L ≠ []) : rv_T (f_X11_adds (Int32.ofNat v) (Int32.ofNat (ra_dcr L 0)) w) (fun _ w' => ra_MR 0 s (G + 1) (rv_at1 n G v) (rv_at1 b G (ra_oc L)) w' ∧ ra_kf w w') := by
  obtain ⟨t1, t2, t3⟩ := ra_addT ht hL h0
  have hpos : 0 < L.length := by
    cases L with
    | nil => exact absurd rfl h0
    | cons _ _ => exact Nat.succ_pos _
  have w0 : w 79 0 = Int32.ofNat G := h.1
  unfold f_X11_adds
  rw [ra_c852', ra_nn0, w0]
  refine rv_T_fx (α := Int32 → rv_W → rv_R) (σ := Nat) (fun j a => a (Int32.ofNat (10 ^ j)) w) (fun j => j < L.length) (fun j => 5 - j) ?_ rv_FU 0 (by show 5 - 0 < 10000; omega) hpos
  intro ag j hj q
  obtain ⟨-, -, -, u4, u5⟩ := t3 j hj
  by_cases hjm : j + 1 = L.length
  · rw [if_pos (u4.mpr hjm)]
    have eV : 10 ^ j = ra_V10 L.length 0 := by
      unfold ra_V10
      rw [if_pos hpos]
      congr 1; omega
    rw [eV]
    refine rv_T_fx (α := Int32 → Int32 → rv_W → rv_R) (σ := Nat × rv_W) (fun t a => a (Int32.ofNat t.1) (Int32.ofNat (ra_V10 L.length t.1)) t.2) (fun t => t.1 ≤ L.length ∧ (∀ c i, ¬ (c = 79 ∧ 2 + 7 * G + 2 ≤ i ∧ i < 2 + 7 * G + 7) → t.2 c i = w c i) ∧ ∀ k, k < t.1 → t.2 79 (2 + 7 * G + (2 + k)) = Int32.ofNat (ra_gd L k)) (fun t => L.length - t.1) ?_ rv_FU (0, w) (by show L.length - 0 < 10000; omega) ⟨Nat.zero_le _, fun _ _ _ => rfl, fun k hk => absurd hk (Nat.not_lt_zero k)⟩
    intro ag2 ⟨k, w'⟩ hI q2
    obtain ⟨hk, hf, hc⟩ := hI
    dsimp only at hk hf hc q2 ⊢
    have ek : (2 : Int32) + Int32.ofNat k = Int32.ofNat (2 + k) := by rw [Int32.ofNat_add]; rfl
    by_cases hkm : k < L.length
    · obtain ⟨v1, v2, v3, -, -⟩ := t3 k hkm
      rw [if_pos v3]
      refine rv_T_gd.mpr ⟨fun z => by rw [z] at v3; exact absurd v3 (by decide), ?_⟩
      rw [v1, ek, ra_sets (by omega) (by omega), rv_bd_some, rv_T_lt, rv_T_lt, v2, rv_n_succ]
      refine q2 (k + 1, rv_up w' 79 (2 + 7 * G + (2 + k)) (Int32.ofNat (ra_gd L k))) ⟨by dsimp only; omega, fun c i z => ?_, fun d hd => ?_⟩ (by dsimp only; omega)
      · show rv_up w' 79 (2 + 7 * G + (2 + k)) (Int32.ofNat (ra_gd L k)) c i = w c i
        rw [rv_up_of (by omega), hf c i z]
      · have hd' : d < k + 1 := hd
        show rv_up w' 79 (2 + 7 * G + (2 + k)) (Int32.ofNat (ra_gd L k)) 79 (2 + 7 * G + (2 + d)) = Int32.ofNat (ra_gd L d)
        by_cases e : d = k
        · subst e; exact rv_up_same
        · rw [rv_up_of (by omega), hc d (by omega)]
    · have : k = L.length := by omega
      subst this
      have eV0 : ra_V10 L.length L.length = 0 := if_neg (by omega)
      have s0 : ∀ (v : Int32) w, f_X11_sets (Int32.ofNat G) 0 v w = some (0, rv_up w 79 (2 + 7 * G + 0) v) := fun v w => ra_sets (k := 0) (by omega) (by omega)
      have s1 : ∀ (v : Int32) w, f_X11_sets (Int32.ofNat G) 1 v w = some (0, rv_up w 79 (2 + 7 * G + 1) v) := fun v w => ra_sets (k := 1) (by omega) (by omega)
      rw [eV0, if_neg (by decide), s0, rv_bd_some, s1, rv_bd_some, ra_c852', ra_c852', rv_T_lt, rv_up_of (by omega), rv_up_of (by omega), hf 79 0 (by omega), w0, rv_n_succ]
      obtain ⟨h1, h2, h3⟩ := h
      refine rv_T_some.mpr ⟨⟨rv_up_same, by rw [rv_up_of (by omega), rv_up_of (by omega), rv_up_of (by omega), hf _ _ (by omega), h2], fun i hi => ?_⟩, fun c i z => by rw [rv_up_of (by omega), rv_up_of (by omega), rv_up_of (by omega), hf c i (by omega)]⟩
      by_cases e : i = G
      · subst e
        rw [ra_at1_same, ra_at1_same, t1]
        refine ⟨?_, ?_, fun k hk hl => ?_⟩
        · rw [rv_up_of (by omega), rv_up_of (by omega), show 142 * 0 + 2 + 7 * i = 2 + 7 * i + 0 by omega, rv_up_same]
        · rw [rv_up_of (by omega), show 142 * 0 + 2 + 7 * i + 1 = 2 + 7 * i + 1 by omega, rv_up_same]
        · rw [rv_up_of (by omega), rv_up_of (by omega), rv_up_of (by omega), show 142 * 0 + 2 + 7 * i + 2 + k = 2 + 7 * i + (2 + k) by omega, hc k hl, (ra_oc_ok ht hL).2.2 k hk, if_pos hl]
          rfl
      · rw [ra_at1_ne e, ra_at1_ne e]
        obtain ⟨g1, g2, g3⟩ := h3 i (by omega)
        exact ⟨by rw [rv_up_of (by omega), rv_up_of (by omega), rv_up_of (by omega), hf _ _ (by omega), g1], by rw [rv_up_of (by omega), rv_up_of (by omega), rv_up_of (by omega), hf _ _ (by omega), g2], fun k hk hl => by rw [rv_up_of (by omega), rv_up_of (by omega), rv_up_of (by omega), hf _ _ (by omega), g3 k hk hl]⟩
  · rw [if_neg (fun z => hjm (u4.mp z)), rv_T_lt, u5]
    exact q (j + 1) (by omega) (by omega)
