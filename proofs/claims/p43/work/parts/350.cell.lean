/-! the script's cells, as the law reads them -/
def rl_xc (L : Nat) (xs : Nat → Int32) (i : Int32) : Int32 := if i < Int32.ofNat L then xs i.toNatClampNeg else ((7919 : Int32) * (i + (3 : Int32))) * (i + (11 : Int32))
def rl_Pc (D : va_G) (ad : Nat → Nat) (ca : Nat → ClassId) (b L : Nat) (xs : Nat → Int32) (i : Int32) (w : rv_W) : Array Value → State → Prop := va_Pc [.ref b, .int i] (fun U => va_P D rv_cl (rv_wl ad ca w) U.heap ∧ va_X b L xs U U.heap ∧ b < U.heap.size)
def rl_no : Nat → Prop := fun _ => False
theorem rl_blind {D : va_G} {ad : Nat → Nat} {ca : Nat → ClassId} {b L : Nat} {xs : Nat → Int32} {i : Int32} {w : rv_W} : FrameBlind (rl_Pc D ad ca b L xs i w) := fun a U g mk q => by
  obtain ⟨q0, qP, qX, qb⟩ := q
  exact ⟨q0, qP, va_X.moved (u := U) (U := U.calling g mk a) (Vm.Alike.refl U.vm) qX, qb⟩
theorem rl_cellM {l : Launch} {D : va_G} {ad : Nat → Nat} {ca : Nat → ClassId} {b L : Nat} {xs : Nat → Int32} {i : Int32} {w : rv_W} (hL : L ≤ 260) (hi : ¬ i < 0) : Met l yL_cell (Cond.code yL_cell cL_cell 2 (some .int) :: rv_tb) { frames := 0, cells := 0, slots := 0, locals := 0 } (rl_Pc D ad ca b L xs i w) (va_Qi (fun (r : Int32) (_ : Unit) => r = rl_xc L xs i) (fun _ t => va_P D rv_cl (rv_wl ad ca w) t.heap) rl_no) 0 0 rl_no := by
  refine Met.ofW (cc := cL_cell) (maxL := 2) (ret := some .int) (by decide +kernel) rfl ?_
  intro p e s m args below meth c s₁ B hml hv
  obtain ⟨rfl, hP, hX, hbl⟩ := hv
  have hx := B.exec
  have hb := B.bytes
  have hr := B.returns
  have hlocks := B.notSynchronized
  have hl := lv_entry [.ref b, .int i] (n := 2) (Nat.le_of_ble_eq_true rfl)
  rw [lg_entry_eq]
  generalize (lg_sl [.ref b, .int i] ++ List.replicate (2 - (lg_sl [.ref b, .int i]).length) Slot.unset).toArray = ls at hl ⊢
  have hl : lv_has ls 2 [(0, .ref b), (1, .int i)] := hl
  have hS : va_S rl_no s.heap s.heap [] := va_S.rf
  have hno : ¬ rl_no b := fun z => z
  refine lv_iload_n hx hb dL_cell_0 rfl (lv_at hl 1 rfl) ?_
  refine lv_aload_n hx hb dL_cell_1 rfl (lv_at hl 0 rfl) ?_
  refine va_slen hx hb hX hbl hno hS dL_cell_2 ?_
  refine lv_icmp_ge (tgt := 12) hx hb dL_cell_3 (by decide) (fun c0 => ?_) (fun c0 => ?_)
  · refine lv_sipush (v := 7919) hx hb dL_cell_12 (by decide +kernel) ?_
    refine lv_iload_n hx hb dL_cell_15 rfl (lv_at hl 1 rfl) ?_
    refine lv_iconst (v := 3) hx hb dL_cell_16 (by decide) ?_
    refine lv_iadd hx hb dL_cell_17 ?_
    refine lv_imul hx hb dL_cell_18 ?_
    refine lv_iload_n hx hb dL_cell_19 rfl (lv_at hl 1 rfl) ?_
    refine lv_bipush (v := 11) hx hb dL_cell_20 (by decide +kernel) ?_
    refine lv_iadd hx hb dL_cell_22 ?_
    refine lv_imul hx hb dL_cell_23 ?_
    exact W.zret hx hb hr rfl (fun t ht hW => ⟨⟨_, (), rfl, (if_neg (Int32.not_lt.mpr c0)).symm, by show va_P D rv_cl (rv_wl ad ca w) t.heap; rw [ht]; exact hP⟩, hS.F ht⟩) hS.2.2 dL_cell_24
  · have hlt : i < Int32.ofNat L := Int32.not_le.mp c0
    refine lv_aload_n hx hb dL_cell_6 rfl (lv_at hl 0 rfl) ?_
    refine lv_iload_n hx hb dL_cell_7 rfl (lv_at hl 1 rfl) ?_
    refine va_sld hx hb hX hbl hno hS (i := i) ?_ dL_cell_8 ?_
    · intro z
      rcases z with z | z
      · exact hi z
      · rw [Int32.lt_iff_toInt_lt, rv_n_int (by omega)] at hlt
        have e : i.toNatClampNeg = i.toInt.toNat := rfl
        rw [Int32.lt_iff_toInt_lt, ra_0int] at hi
        omega
    · refine lv_goto (tgt := 24) hx hb dL_cell_9 (by decide) ?_
      exact W.zret hx hb hr rfl (fun t ht hW => ⟨⟨_, (), rfl, (if_pos hlt).symm, by show va_P D rv_cl (rv_wl ad ca w) t.heap; rw [ht]; exact hP⟩, hS.F ht⟩) hS.2.2 dL_cell_24
