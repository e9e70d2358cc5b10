theorem ra_oc_up {s c : Nat} {L : List Nat} (hs : s < 32) (hL : L ∈ ra_ps 5 s) (hc : c < 5) : (Int32.ofNat (ra_oc L) <<< ((3 : Int32) &&& 31)) ||| (Int32.ofNat c + 1) = Int32.ofNat (ra_oc (c :: L)) :=
  of_decide_eq_true (List.all_eq_true.mp (List.all_eq_true.mp (List.all_eq_true.mp (by decide +kernel : ((List.range 32).all fun s => (ra_ps 5 s).all fun L => (List.range 5).all fun c => decide ((Int32.ofNat (ra_oc L) <<< ((3 : Int32) &&& 31)) ||| (Int32.ofNat c + 1) = Int32.ofNat (ra_oc (c :: L)))) = true) s (rv_rg hs)) L hL) c (rv_rg hc))
theorem ra_un_mn {s c : Nat} (hs : s < 32) (hc : c < 5) (h : rv_hs s c = false) : rv_mn (ra_un s (2 ^ c)) = rv_mn s + 1 := by
  have t := List.all_eq_true.mp (List.all_eq_true.mp (by decide +kernel : ((List.range 32).all fun s => (List.range 5).all fun c => rv_hs s c || Nat.beq (rv_mn (ra_un s (2 ^ c))) (rv_mn s + 1)) = true) s (rv_rg hs)) c (rv_rg hc)
  rw [h, Bool.false_or] at t
  exact Nat.eq_of_beq_eq_true t
theorem ra_mn_5 {s c : Nat} (hs : s < 32) (hc : c < 5) (h : rv_mn s = 5) : rv_hs s c = true := by
  have t := List.all_eq_true.mp (List.all_eq_true.mp (by decide +kernel : ((List.range 32).all fun s => (List.range 5).all fun c => !Nat.beq (rv_mn s) 5 || rv_hs s c) = true) s (rv_rg hs)) c (rv_rg hc)
  rw [h] at t
  exact t
theorem ra_or_bit {s c : Nat} (hs : s < 32) (hc : c < 5) : Int32.ofNat s ||| ((1 : Int32) <<< (Int32.ofNat c &&& 31)) = Int32.ofNat (ra_un s (2 ^ c)) := by
  rw [rv_shl hc, e_or hs (rv_pow_lt hc)]
def ra_bl (x : Int32) : List Nat := if 0 < x then ra_rd 5 0 [] x.toInt.toNat else []
theorem ra_fromDigits {x : Int32} {w : rv_W} : rv_T (f_X0_fromDigits x w) (fun v w' => v = Int32.ofNat (ra_oc (ra_bl x)) ∧ w' = w) := by
  unfold f_X0_fromDigits
  by_cases hx : 0 < x
  · have hx2 : 0 < x.toInt := by rw [Int32.lt_iff_toInt_lt] at hx; exact hx
    have hlt : x.toInt < 2147483648 := Int32.toInt_lt x
    obtain ⟨N0, e0, hN0⟩ : ∃ N, x = Int32.ofNat N ∧ N = x.toInt.toNat := ⟨x.toInt.toNat, by rw [← Int32.ofInt_eq_ofNat, show ((x.toInt.toNat : Nat) : Int) = x.toInt by omega, Int32.ofInt_toInt], rfl⟩
    have ebl : ra_bl x = ra_rd 5 0 [] N0 := by unfold ra_bl; rw [if_pos hx, hN0]
    rw [ebl]
    have hN0' : N0 < 2147483648 := by omega
    clear ebl
    subst e0
    refine rv_T_fx (α := Int32 → Int32 → Int32 → Int32 → rv_W → rv_R) (σ := (Nat × Nat) × (List Nat × Nat)) (fun t a => a (Int32.ofNat (ra_oc t.2.1)) (Int32.ofNat t.1.2) (Int32.ofNat t.2.2) (Int32.ofNat t.1.1) w) (fun t => t.1.1 ≤ 5 ∧ t.1.2 < 32 ∧ t.2.1 ∈ ra_ps 5 t.1.2 ∧ t.2.2 < 2147483648 ∧ ra_rd (5 - t.1.1) t.1.2 t.2.1 t.2.2 = ra_rd 5 0 [] N0) (fun t => 5 - t.1.1) ?_ rv_FU ((0, 0), ([], N0)) (by show 5 - 0 < 10000; omega) ⟨Nat.zero_le 5, (by decide : 0 < 32), (by decide : ([] : List Nat) ∈ ra_ps 5 0), hN0', rfl⟩
    intro ag ⟨⟨k, s⟩, ⟨L, N⟩⟩ hI q
    obtain ⟨hk, hs, hL, hN, hR⟩ := hI
    dsimp only at hk hs hL hN hR q ⊢
    have ez : (Int32.ofNat N = 0) ↔ N = 0 := rv_n_eq (j := 0) (by omega) (by omega)
    have hend : ra_rd (5 - k) s L N = (if N = 0 then L else []) → rv_T (if Int32.ofNat N = 0 then some (Int32.ofNat (ra_oc L), w) else some ((0 : Int32), w)) (fun v w' => v = Int32.ofNat (ra_oc (ra_rd 5 0 [] N0)) ∧ w' = w) := fun e => by
      rw [← hR, e]
      by_cases z : N = 0
      · rw [if_pos (ez.mpr z), if_pos z]; exact rv_T_some.mpr ⟨rfl, rfl⟩
      · rw [if_neg (fun y => z (ez.mp y)), if_neg z]; exact rv_T_some.mpr ⟨rfl, rfl⟩
    rw [rv_T_jn]
    by_cases hk5 : k < 5
    · have el : (0 < Int32.ofNat N) ↔ 0 < N := rv_n_lt (i := 0) (by omega) hN
      rw [if_pos (of_eq_true (rv_lt5 hk5))]
      rw [show 5 - k = (5 - (k + 1)) + 1 by omega, ra_rd_s] at hR hend
      by_cases hz : N = 0
      · rw [if_neg (fun z => by have := el.mp z; omega)]
        exact hend (by rw [if_pos hz, if_pos hz])
      · obtain ⟨d1, d2⟩ := ra_digit hN
        have hd10 : N % 10 < 10 := by omega
        rw [if_neg hz] at hR
        rw [if_pos (el.mpr (by omega)), rv_T_lt, d1, ra_exists, rv_bd_some, ra_ci_iv hd10]
        by_cases q1 : 1 ≤ N % 10 ∧ N % 10 ≤ 5
        · have hc : N % 10 - 1 < 5 := by omega
          rw [decide_eq_true q1, if_neg ra_e1, rv_ci_p (show N % 10 ≠ 0 by omega), e_hasb hs hc, rv_bd_some]
          cases q2 : rv_hs s (N % 10 - 1)
          · rw [if_pos ⟨q1, q2⟩] at hR
            rw [if_pos ra_e0, rv_T_lt, rv_T_lt, rv_T_lt, rv_T_lt, ra_or_bit hs hc, ra_oc_up hs hL hc, d2, rv_n_succ]
            exact q ((k + 1, ra_un s (2 ^ (N % 10 - 1))), ((N % 10 - 1) :: L, N / 10)) ⟨by dsimp only; omega, ra_un_lt, ra_mem_add hs hc q2 hL, by dsimp only; omega, hR⟩ (by dsimp only; omega)
          · rw [if_neg (fun z => by rw [q2] at z; cases z.2)] at hR
            rw [if_neg ra_e1, ← hR]
            exact rv_T_some.mpr ⟨rfl, rfl⟩
        · rw [if_neg (fun z => q1 z.1)] at hR
          rw [decide_eq_false q1, if_pos ra_e0, ← hR]
          exact rv_T_some.mpr ⟨rfl, rfl⟩
    · have : k = 5 := by omega
      subst this
      rw [if_neg (of_eq_false rv_ge5)]
      exact hend rfl
  · have ebl : ra_bl x = [] := if_neg hx
    rw [ebl]
    refine rv_T_fx (α := Int32 → Int32 → Int32 → Int32 → rv_W → rv_R) (σ := Nat) (fun _ a => a (0 : Int32) (0 : Int32) x (0 : Int32) w) (fun _ => True) (fun t => t) ?_ rv_FU 0 (by decide) trivial
    intro ag t _ q
    rw [rv_T_jn, if_pos (by decide), if_neg hx]
    show rv_T (if x = 0 then some (0, w) else some (0, w)) _
    by_cases z : x = 0
    · rw [if_pos z]; exact rv_T_some.mpr ⟨rfl, rfl⟩
    · rw [if_neg z]; exact rv_T_some.mpr ⟨rfl, rfl⟩
