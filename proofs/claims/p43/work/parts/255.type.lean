/-! text typed -/
theorem ra_Inv_text {w w' : rv_W} (h : ra_Inv w) (hf : ∀ c j, ¬ (20 ≤ c ∧ c ≤ 23 ∨ c = 80 ∨ (c = 78 ∧ j ≠ 1)) → w' c j = w c j) (ht : ra_text w') : ra_Inv w' := by
  obtain ⟨⟨s, G, n, b, hC⟩, hH, hT, hR⟩ := id h
  obtain ⟨K, d, hK, hch, hmh⟩ := ra_hist_get hH
  refine ⟨⟨s, G, n, b, hC.1.fr (fun c j z => hf c j (by omega)), hC.2.fr (fun j => hf _ _ (by omega))⟩, ra_hist_mk hK (hch.fr hK (hf _ _ (by omega)) (fun c j z1 z2 => hf c j (by omega))) ⟨by rw [hf _ _ (by omega), hmh.1], fun i hi => ⟨(hmh.2 i hi).1, (hmh.2 i hi).2.fr (fun j => hf _ _ (by omega))⟩⟩, ht, hR.fr (fun c j z1 z2 => hf c j (by omega))⟩
theorem ra_char {c : Nat} (hc : c < 256) : vp_nar .char (((Int32.ofNat c).toUInt32 % 65536).toInt32) = Int32.ofNat c :=
  of_decide_eq_true (List.all_eq_true.mp (by decide +kernel : ((List.range 256).all fun c => decide (vp_nar .char (((Int32.ofNat c).toUInt32 % 65536).toInt32) = Int32.ofNat c)) = true) c (rv_rg hc))
