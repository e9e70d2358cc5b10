/-! text typed -/
theorem ra_char {c : Nat} (hc : c < 256) : vp_nar .char (((Int32.ofNat c).toUInt32 % 65536).toInt32) = Int32.ofNat c :=
  of_decide_eq_true (List.all_eq_true.mp (by decide +kernel : ((List.range 256).all fun c => decide (vp_nar .char (((Int32.ofNat c).toUInt32 % 65536).toInt32) = Int32.ofNat c)) = true) c (rv_rg hc))
