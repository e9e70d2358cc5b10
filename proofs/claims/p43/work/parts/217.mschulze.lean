/-! the model's frame of the rules -/
def ra_fm (w w' : rv_W) : Prop := ∀ c j, ¬ ((84 ≤ c ∧ c ≤ 92) ∨ (c = 78 ∧ (j = 15 ∨ j = 17 ∨ j = 19))) → w' c j = w c j
theorem ra_fm.refl {w : rv_W} : ra_fm w w := fun _ _ _ => rfl
theorem ra_fm.trans {w w' w'' : rv_W} (h : ra_fm w w') (h2 : ra_fm w' w'') : ra_fm w w'' := fun c j z => (h2 c j z).trans (h c j z)
theorem ra_fm.up {w w' : rv_W} {A k : Nat} {v : Int32} (h : ra_fm w w') (hA : (84 ≤ A ∧ A ≤ 92) ∨ (A = 78 ∧ (k = 15 ∨ k = 17 ∨ k = 19))) : ra_fm w (rv_up w' A k v) := fun c j z => by
  rw [rv_up_of (fun z2 => z (by omega)), h c j z]
theorem ra_fm.fl {w w' : rv_W} {A k : Nat} {f : Nat → Int32} (h : ra_fm w w') (hA : 84 ≤ A ∧ A ≤ 92) : ra_fm w (rv_fl A k f w') := fun c j z => by
  rw [rv_fl_ne (fun z2 => z (by omega)), h c j z]
theorem ra_ML.fm {G : Nat} {n m : Nat → Nat} {w w' : rv_W} (h : ra_ML G n m w) (f : ra_fm w w') : ra_ML G n m w' := by
  refine ⟨h.1.fr (f _ _ (by omega)) (fun c j z => f c j (by omega)), fun k hk => ?_⟩
  rw [f _ _ (by omega)]
  exact h.2 k hk
theorem ra_ix5d {k v : Nat} : (5 : Int32) * Int32.ofNat (k / 5) + Int32.ofNat v = Int32.ofNat (5 * (k / 5) + v) := ra_ix5
def ra_pm (s : Nat) (M M' : Nat → Nat → Nat) (K : Nat) (w : rv_W) : Prop := ∀ k, k < 25 → rv_hs s (k / 5) = true → rv_hs s (k % 5) = true → w 85 k = Int32.ofNat (if k < K then M' (k / 5) (k % 5) else M (k / 5) (k % 5))
