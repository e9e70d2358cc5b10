/-! strategies, asked for -/
theorem ra_F_5 {r s G g : Nat} {n m : Nat → Nat} (hs : s < 32) (h : (ra_F r s G n m g).2 ≠ []) : s ≠ 0 ∧ (ra_F r s G n m g).1 < 5 ∧ (ra_F r s G n m g).2 ∈ ra_ps 5 s ∧ ra_w r s (rv_cut 0 G n) (rv_at1 m g (ra_oc (ra_F r s G n m g).2)) = (ra_F r s G n m g).1 := by
  rcases ra_F_ok (r := r) (s := s) (G := G) (n := n) (m := m) (g := g) with z | ⟨z1, z2, z3⟩
  · exact absurd z h
  · have e : (ra_F r s G n m g).1 = ra_w r s (rv_cut 0 G n) (rv_at1 m g (ra_oc (ra_F r s G n m g).2)) := z3
    refine ⟨z1, ?_, z2, e.symm⟩
    rw [e]
    exact (ra_w_in hs z1).1
theorem rv_B_lt {b : Nat} (h : b ∈ rv_B) : b < 1000000 := of_decide_eq_true (List.all_eq_true.mp (by decide +kernel : (rv_B.all fun b => decide (b < 1000000)) = true) b h)
theorem ra_oc_B {r s G g : Nat} {n m : Nat → Nat} (hs : s < 32) : ra_oc (ra_F r s G n m g).2 ∈ rv_B ∧ (Int32.ofNat (ra_oc (ra_F r s G n m g).2) = 0 ↔ (ra_F r s G n m g).2 = []) := by
  by_cases q : (ra_F r s G n m g).2 = []
  · rw [q]; exact ⟨rv_B0, fun _ => rfl, fun _ => rfl⟩
  · have h := ra_oc_ok hs (ra_F_5 hs q).2.2.1
    refine ⟨h.1, fun z => ?_, fun z => absurd z q⟩
    have hl := rv_B_lt h.1
    exact absurd ((rv_n_eq (i := ra_oc (ra_F r s G n m g).2) (j := 0) (by omega) (by omega)).mp z) (h.2.1 q)
def ra_sA (r s G : Nat) (n m : Nat → Nat) (g : Nat) : Int32 := if (ra_F r s G n m g).2 = [] then -1000000 else Int32.ofNat (ra_F r s G n m g).1
def ra_sB (r s G : Nat) (n m : Nat → Nat) (g p : Nat) : Int32 := if (ra_F r s G n m g).2 = [] then -1000000 else Int32.ofNat (ra_gd (ra_F r s G n m g).2 p)
def ra_rg (x y : Int32) (G : Nat) (A : Nat → Nat → Int32) : Int32 := ra_one x (fun r => if ra_iv y G = true then A r y.toInt.toNat else -1000001)
def ra_stq (r s G : Nat) (n m : Nat → Nat) (g : Nat) : Bool := !(ra_F r s G n m g).2.isEmpty
theorem ra_stq_f {r s G g : Nat} {n m : Nat → Nat} (h : (ra_F r s G n m g).2 = []) : ra_stq r s G n m g = false := by unfold ra_stq; rw [h]; rfl
theorem ra_stq_t {r s G g : Nat} {n m : Nat → Nat} (h : (ra_F r s G n m g).2 ≠ []) : ra_stq r s G n m g = true := by
  unfold ra_stq
  cases e : (ra_F r s G n m g).2 with
  | nil => exact absurd e h
  | cons _ _ => rfl
theorem ra_sB_c {r s G g p : Nat} {n m : Nat → Nat} {w : rv_W} (hs : s < 32) (hp : p < rv_mn s) : rv_bd (f_X0_at (Int32.ofNat (ra_oc (ra_F r s G n m g).2)) (Int32.ofNat p) w) (fun r9 w10 => f_X10_orNone r9 w10) = some (ra_sB r s G n m g p, w) := by
  have hmn := @rv_mn_le s
  have h0 := ra_oc_B (r := r) (s := s) (G := G) (n := n) (m := m) (g := g) hs
  rw [e_at h0.1 (show p < 5 by omega), rv_bd_some]
  unfold f_X10_orNone ra_sB
  by_cases q : (ra_F r s G n m g).2 = []
  · rw [if_pos q, q]
    have : rv_at (ra_oc []) p = 0 := List.all_eq_true.mp (by decide +kernel : ((List.range 5).all fun p => decide (rv_at (ra_oc []) p = 0)) = true) p (rv_rg (by omega)) |> of_decide_eq_true
    rw [this]
    rfl
  · have hF := ra_F_5 hs q
    have ho := (ra_oc_ok hs hF.2.2.1).2.2 p (by omega)
    have hl := ((ra_pms_ok hs hF.1).2 _ hF.2.2.1)
    rw [if_pos (by rw [hl.1]; exact hp)] at ho
    have hgd : ra_gd (ra_F r s G n m g).2 p < 5 := (hl.2 _ (ra_gd_mem (by rw [hl.1]; exact hp))).1
    rw [if_neg q, ho, rv_ci_succ, if_neg]
    intro z
    have := congrArg Int32.toInt z
    rw [rv_n_int (by omega), show (-1 : Int32).toInt = -1 from rfl] at this
    omega
