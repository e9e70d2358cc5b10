section LOOP
variable {D : va_G} {ad : Nat → Nat} {ca : Nat → ClassId} {l : Launch} {b L : Nat} {xs : Nat → Int32} {K : Nat → List (Nat × Value) → List Value → rv_W → rv_R → Prop} {w : rv_W} {t : rv_R}
set_option maxRecDepth 100000 in
theorem rl_switch (h : rl_K D ad ca l b L xs K) (hJ : rv_J ad) (hL : L ≤ 2560) {i : Nat} (hi : i + 5 ≤ L) (hI : ra_Inv w) (n : ∀ w', ra_Inv w' → K 1214 (rl_lv ad b i) [] w' t) (x : Int32) : K 32 (rl_lv ad b i) [.int x] w t := by
  by_cases hv : 0 ≤ x.toInt ∧ x.toInt < (40 : Int)
  · obtain ⟨c, hc, rfl⟩ := ra_iv_get (k := 40) (show ra_iv x 40 = true from decide_eq_true hv)
    clear hv
    match c, hc with
    | 0, _ => exact rv_swIn (off := 176) h.1 32 dL_law_32 (Int32.ofNat 0) rfl (by decide) (by decide) (by decide +kernel) (by decide) (lc_0 h hJ hL hi hI n)
    | 1, _ => exact rv_swIn (off := 209) h.1 32 dL_law_32 (Int32.ofNat 1) rfl (by decide) (by decide) (by decide +kernel) (by decide) (lc_1 h hJ hL hi hI n)
    | 2, _ => exact rv_swIn (off := 232) h.1 32 dL_law_32 (Int32.ofNat 2) rfl (by decide) (by decide) (by decide +kernel) (by decide) (lc_2 h hJ hL hi hI n)
    | 3, _ => exact rv_swIn (off := 265) h.1 32 dL_law_32 (Int32.ofNat 3) rfl (by decide) (by decide) (by decide +kernel) (by decide) (lc_3 h hJ hL hi hI n)
    | 4, _ => exact rv_swIn (off := 298) h.1 32 dL_law_32 (Int32.ofNat 4) rfl (by decide) (by decide) (by decide +kernel) (by decide) (lc_4 h hJ hL hi hI n)
    | 5, _ => exact rv_swIn (off := 347) h.1 32 dL_law_32 (Int32.ofNat 5) rfl (by decide) (by decide) (by decide +kernel) (by decide) (lc_5 h hJ hL hi hI n)
    | 6, _ => exact rv_swIn (off := 360) h.1 32 dL_law_32 (Int32.ofNat 6) rfl (by decide) (by decide) (by decide +kernel) (by decide) (lc_6 h hJ hL hi hI n)
    | 7, _ => exact rv_swIn (off := 373) h.1 32 dL_law_32 (Int32.ofNat 7) rfl (by decide) (by decide) (by decide +kernel) (by decide) (lc_7 h hJ hL hi hI n)
    | 8, _ => exact rv_swIn (off := 396) h.1 32 dL_law_32 (Int32.ofNat 8) rfl (by decide) (by decide) (by decide +kernel) (by decide) (lc_8 h hJ hL hi hI n)
    | 9, _ => exact rv_swIn (off := 419) h.1 32 dL_law_32 (Int32.ofNat 9) rfl (by decide) (by decide) (by decide +kernel) (by decide) (lc_9 h hJ hL hi hI n)
    | 10, _ => exact rv_swIn (off := 432) h.1 32 dL_law_32 (Int32.ofNat 10) rfl (by decide) (by decide) (by decide +kernel) (by decide) (lc_10 h hJ hL hi hI n)
    | 11, _ => exact rv_swIn (off := 465) h.1 32 dL_law_32 (Int32.ofNat 11) rfl (by decide) (by decide) (by decide +kernel) (by decide) (lc_11 h hJ hL hi hI n)
    | 12, _ => exact rv_swIn (off := 488) h.1 32 dL_law_32 (Int32.ofNat 12) rfl (by decide) (by decide) (by decide +kernel) (by decide) (lc_12 h hJ hL hi hI n)
    | 13, _ => exact rv_swIn (off := 511) h.1 32 dL_law_32 (Int32.ofNat 13) rfl (by decide) (by decide) (by decide +kernel) (by decide) (lc_13 h hJ hL hi hI n)
    | 14, _ => exact rv_swIn (off := 544) h.1 32 dL_law_32 (Int32.ofNat 14) rfl (by decide) (by decide) (by decide +kernel) (by decide) (lc_14 h hJ hL hi hI n)
    | 15, _ => exact rv_swIn (off := 557) h.1 32 dL_law_32 (Int32.ofNat 15) rfl (by decide) (by decide) (by decide +kernel) (by decide) (lc_15 h hJ hL hi hI n)
    | 16, _ => exact rv_swIn (off := 570) h.1 32 dL_law_32 (Int32.ofNat 16) rfl (by decide) (by decide) (by decide +kernel) (by decide) (lc_16 h hJ hL hi hI n)
    | 17, _ => exact rv_swIn (off := 583) h.1 32 dL_law_32 (Int32.ofNat 17) rfl (by decide) (by decide) (by decide +kernel) (by decide) (lc_17 h hJ hL hi hI n)
    | 18, _ => exact rv_swIn (off := 616) h.1 32 dL_law_32 (Int32.ofNat 18) rfl (by decide) (by decide) (by decide +kernel) (by decide) (lc_18 h hJ hL hi hI n)
    | 19, _ => exact rv_swIn (off := 649) h.1 32 dL_law_32 (Int32.ofNat 19) rfl (by decide) (by decide) (by decide +kernel) (by decide) (lc_19 h hJ hL hi hI n)
    | 20, _ => exact rv_swIn (off := 672) h.1 32 dL_law_32 (Int32.ofNat 20) rfl (by decide) (by decide) (by decide +kernel) (by decide) (lc_20 h hJ hL hi hI n)
    | 21, _ => exact rv_swIn (off := 705) h.1 32 dL_law_32 (Int32.ofNat 21) rfl (by decide) (by decide) (by decide +kernel) (by decide) (lc_21 h hJ hL hi hI n)
    | 22, _ => exact rv_swIn (off := 748) h.1 32 dL_law_32 (Int32.ofNat 22) rfl (by decide) (by decide) (by decide +kernel) (by decide) (lc_22 h hJ hL hi hI n)
    | 23, _ => exact rv_swIn (off := 761) h.1 32 dL_law_32 (Int32.ofNat 23) rfl (by decide) (by decide) (by decide +kernel) (by decide) (lc_23 h hJ hL hi hI n)
    | 24, _ => exact rv_swIn (off := 784) h.1 32 dL_law_32 (Int32.ofNat 24) rfl (by decide) (by decide) (by decide +kernel) (by decide) (lc_24 h hJ hL hi hI n)
    | 25, _ => exact rv_swIn (off := 797) h.1 32 dL_law_32 (Int32.ofNat 25) rfl (by decide) (by decide) (by decide +kernel) (by decide) (lc_25 h hJ hL hi hI n)
    | 26, _ => exact rv_swIn (off := 830) h.1 32 dL_law_32 (Int32.ofNat 26) rfl (by decide) (by decide) (by decide +kernel) (by decide) (lc_26 h hJ hL hi hI n)
    | 27, _ => exact rv_swIn (off := 873) h.1 32 dL_law_32 (Int32.ofNat 27) rfl (by decide) (by decide) (by decide +kernel) (by decide) (lc_27 h hJ hL hi hI n)
    | 28, _ => exact rv_swIn (off := 896) h.1 32 dL_law_32 (Int32.ofNat 28) rfl (by decide) (by decide) (by decide +kernel) (by decide) (lc_28 h hJ hL hi hI n)
    | 29, _ => exact rv_swIn (off := 919) h.1 32 dL_law_32 (Int32.ofNat 29) rfl (by decide) (by decide) (by decide +kernel) (by decide) (lc_29 h hJ hL hi hI n)
    | 30, _ => exact rv_swIn (off := 942) h.1 32 dL_law_32 (Int32.ofNat 30) rfl (by decide) (by decide) (by decide +kernel) (by decide) (lc_30 h hJ hL hi hI n)
    | 31, _ => exact rv_swIn (off := 965) h.1 32 dL_law_32 (Int32.ofNat 31) rfl (by decide) (by decide) (by decide +kernel) (by decide) (lc_31 h hJ hL hi hI n)
    | 32, _ => exact rv_swIn (off := 988) h.1 32 dL_law_32 (Int32.ofNat 32) rfl (by decide) (by decide) (by decide +kernel) (by decide) (lc_32 h hJ hL hi hI n)
    | 33, _ => exact rv_swIn (off := 1011) h.1 32 dL_law_32 (Int32.ofNat 33) rfl (by decide) (by decide) (by decide +kernel) (by decide) (lc_33 h hJ hL hi hI n)
    | 34, _ => exact rv_swIn (off := 1054) h.1 32 dL_law_32 (Int32.ofNat 34) rfl (by decide) (by decide) (by decide +kernel) (by decide) (lc_34 h hJ hL hi hI n)
    | 35, _ => exact rv_swIn (off := 1107) h.1 32 dL_law_32 (Int32.ofNat 35) rfl (by decide) (by decide) (by decide +kernel) (by decide) (lc_35 h hJ hL hi hI n)
    | 36, _ => exact rv_swIn (off := 1120) h.1 32 dL_law_32 (Int32.ofNat 36) rfl (by decide) (by decide) (by decide +kernel) (by decide) (lc_36 h hJ hL hi hI n)
    | 37, _ => exact rv_swIn (off := 1143) h.1 32 dL_law_32 (Int32.ofNat 37) rfl (by decide) (by decide) (by decide +kernel) (by decide) (lc_37 h hJ hL hi hI n)
    | 38, _ => exact rv_swIn (off := 1156) h.1 32 dL_law_32 (Int32.ofNat 38) rfl (by decide) (by decide) (by decide +kernel) (by decide) (lc_38 h hJ hL hi hI n)
    | 39, _ => exact rv_swIn (off := 1169) h.1 32 dL_law_32 (Int32.ofNat 39) rfl (by decide) (by decide) (by decide +kernel) (by decide) (lc_39 h hJ hL hi hI n)
    | c + 40, hc => exact absurd hc (by omega)
  · exact rv_swOut h.1 32 dL_law_32 (by omega) (by decide) (n w hI)
theorem rl_loop (h : rl_K D ad ca l b L xs K) (hJ : rv_J ad) (hL : L ≤ 2560) (hend : ∀ (lv : List (Nat × Value)) (w : rv_W), K 1220 lv [] w t) : ∀ (n i : Nat) (w : rv_W), L ≤ i + n → i ≤ 5000 → ra_Inv w → K 18 (rl_lv ad b i) [] w t := by
  intro n
  induction n with
  | zero =>
    intro i w hn hi hI
    refine rv_iload_n h.1 18 dL_law_18 3 rfl ?_
    refine rv_aload_n h.1 19 dL_law_19 0 rfl ?_
    refine h.2.2 20 _ _ _ _ dL_law_20 ?_
    refine rv_iconst (v := 5) h.1 21 dL_law_21 (by decide) ?_
    refine rv_isub h.1 22 dL_law_22 ?_
    have z := rv_icmp_gt (t1 := t) (t2 := none) (lv := rl_lv ad b i) (st := []) (w := w) (x := Int32.ofNat i) (y := Int32.ofNat L - (5 : Int32)) (tgt := 1220) h.1 23 dL_law_23 (by decide) (fun _ => hend _ _) (fun _ => rv_none h.1)
    rw [if_pos ((rl_gt hL hi).mpr (by omega))] at z
    exact z
  | succ n ih =>
    intro i w hn hi hI
    refine rv_iload_n h.1 18 dL_law_18 3 rfl ?_
    refine rv_aload_n h.1 19 dL_law_19 0 rfl ?_
    refine h.2.2 20 _ _ _ _ dL_law_20 ?_
    refine rv_iconst (v := 5) h.1 21 dL_law_21 (by decide) ?_
    refine rv_isub h.1 22 dL_law_22 ?_
    have z := rv_icmp_gt (t1 := t) (t2 := t) (lv := rl_lv ad b i) (st := []) (w := w) (x := Int32.ofNat i) (y := Int32.ofNat L - (5 : Int32)) (tgt := 1220) h.1 23 dL_law_23 (by decide) (fun _ => hend _ _) (fun c => by
      have hi5 : i + 5 ≤ L := by
        rcases Nat.lt_or_ge L (i + 5) with q | q
        · exact absurd ((rl_gt hL hi).mpr q) c
        · exact q
      refine rv_aload_n h.1 26 dL_law_26 0 rfl ?_
      refine rv_iload_n h.1 27 dL_law_27 3 rfl ?_
      refine h.2.1 28 _ _ _ _ _ dL_law_28 ?_ ?_
      · intro z
        rcases z with z | z
        · exact rv_n_neg (by omega) z
        · rw [rv_n_nat (by omega)] at z
          omega
      · refine rv_bipush (v := 63) h.1 29 dL_law_29 (by decide) ?_
        refine rv_iand h.1 31 dL_law_31 ?_
        exact rl_switch h hJ hL hi5 hI (fun w' hI' => rl_next h (ih (i + 5) w' (by omega) (by omega) hI')) _)
    rw [ite_self] at z
    exact z
end LOOP
