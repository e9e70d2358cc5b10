/-! the model's best strategy -/
def ra_pos (l : List Nat) : Nat → Nat → Nat
  | 0, _ => 9
  | k + 1, c => if c = ra_gd l k then k else ra_pos l k c
theorem ra_pos_s {l : List Nat} {k c : Nat} : ra_pos l (k + 1) c = if c = ra_gd l k then k else ra_pos l k c := rfl
theorem ra_pos_ok {s : Nat} {l : List Nat} (hs : s < 32) (hl : l ∈ ra_ps 5 s) : ∀ c, c < 5 → rv_q (ra_oc l) c = ra_pos l (rv_mn s) c := fun c hc =>
  Nat.eq_of_beq_eq_true (List.all_eq_true.mp (List.all_eq_true.mp (List.all_eq_true.mp (by decide +kernel : ((List.range 32).all fun s => (ra_ps 5 s).all fun l => (List.range 5).all fun c => Nat.beq (rv_q (ra_oc l) c) (ra_pos l (rv_mn s) c)) = true) s (rv_rg hs)) l hl) c (rv_rg hc))
