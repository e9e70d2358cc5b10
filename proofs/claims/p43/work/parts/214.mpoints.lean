/-! the model's points -/
theorem ra_MC.fl {A k : Nat} {n m : Nat → Nat} {f : Nat → Int32} {w : rv_W} (h : ra_MC n m w) (hA : A ≠ 83) : ra_MC n m (rv_fl A k f w) := fun j hj => by rw [rv_fl_ne (Ne.symm hA)]; exact h j hj
theorem ra_MC.up {A k : Nat} {n m : Nat → Nat} {v : Int32} {w : rv_W} (h : ra_MC n m w) (hA : A ≠ 83) : ra_MC n m (rv_up w A k v) := fun j hj => by rw [rv_up_ne (Ne.symm hA)]; exact h j hj
def ra_on (s : Nat) (f : Nat → Int32) (c : Nat) : Int32 := if rv_hs s c = true then f c else 0
theorem ra_on_t {s c : Nat} {f : Nat → Int32} (h : rv_hs s c = true) : ra_on s f c = f c := if_pos h
theorem ra_on_f {s c : Nat} {f : Nat → Int32} (h : rv_hs s c = false) : ra_on s f c = 0 := if_neg (by rw [h]; decide)
/-! Borda of the model -/
theorem ra_bo_bm {s C c : Nat} {n m : Nat → Nat} (hm : ∀ g, g < 20 → n g ≠ 0 → m g ∈ rv_B) (hC : C < 32) (hs : ra_sub C s) (hc : c < 5) (h : rv_hs C c = true) : ra_bo s n m C c = Int32.ofNat (ra_bm n m C c) := by
  have e : ∀ d, d < 5 → ra_bt s n m C c d = Int32.ofNat (if c = d then 0 else if rv_hs C d = true then rv_sm 20 (fun g => n g * (1 + (if rv_q (m g) c < rv_q (m g) d then 1 else 0) - (if rv_q (m g) d < rv_q (m g) c then 1 else 0))) else 0) := fun d hd => by
    unfold ra_bt
    by_cases q : c = d
    · rw [if_pos q, if_pos q]; rfl
    · rw [if_neg q, if_neg q]
      by_cases hd2 : rv_hs C d = true
      · rw [if_pos hd2, if_pos hd2]
        have l : ra_P s n m d c ≤ rv_sm 20 n := ra_P_le
        rw [← Int32.ofNat_add, ← Int32.ofNat_sub _ _ (by omega)]
        congr 1
        have key : rv_sm 20 (fun g => n g * (1 + (if rv_q (m g) c < rv_q (m g) d then 1 else 0) - (if rv_q (m g) d < rv_q (m g) c then 1 else 0))) + ra_P s n m d c = rv_sm 20 n + ra_P s n m c d := by
          unfold ra_P ra_S
          rw [← rv_sm_add, ← rv_sm_add]
          refine rv_sm_congr (fun g _ => ?_)
          rw [hs c hc h, hs d hd hd2]
          by_cases q1 : rv_q (m g) c < rv_q (m g) d
          · have q2 : ¬ rv_q (m g) d < rv_q (m g) c := by omega
            simp [q1, q2]; omega
          · by_cases q2 : rv_q (m g) d < rv_q (m g) c
            · simp [q1, q2]
            · simp [q1, q2]
        omega
      · rw [if_neg hd2, if_neg hd2]; rfl
  unfold ra_bo ra_bm
  rw [rv_si_congr e, rv_si_sm]
  congr 1
  have e2 : ∀ d, (if c = d then 0 else if rv_hs C d = true then rv_sm 20 (fun g => n g * (1 + (if rv_q (m g) c < rv_q (m g) d then 1 else 0) - (if rv_q (m g) d < rv_q (m g) c then 1 else 0))) else 0) = rv_sm 20 (fun g => n g * (if c = d then 0 else if rv_hs C d = true then 1 + (if rv_q (m g) c < rv_q (m g) d then 1 else 0) - (if rv_q (m g) d < rv_q (m g) c then 1 else 0) else 0)) := fun d => by
    by_cases q : c = d
    · simp only [q, if_true, Nat.mul_zero]
      exact (rv_sm_zero (fun _ _ => rfl)).symm
    · by_cases q2 : rv_hs C d = true
      · simp only [q, q2, if_false, if_true]
      · simp only [q, q2, if_false, Nat.mul_zero]
        exact (rv_sm_zero (fun _ _ => rfl)).symm
  rw [rv_sm_congr (fun d _ => e2 d), rv_sm_swap]
  refine rv_sm_congr (fun g hg => ?_)
  rw [rv_sm_mul]
  by_cases hn : n g = 0
  · rw [hn, Nat.zero_mul, Nat.zero_mul]
  · rw [(ra_ea_ok (hm g hg hn) hC hc h).1]
/-! Bucklin of the model -/
theorem rv_CM {α σ : Type} {bot : α} {F : α → α} {R : rv_R} (S : σ → α → rv_R) (I : σ → Prop) (ms : σ → Nat) (step : ∀ ag s, I s → (∀ s', I s' → ms s' < ms s → S s' ag = R) → S s (F ag) = R) : ∀ (n : Nat) (s : σ), ms s < n → I s → S s (rv_fx bot F n) = R
  | 0, _, h, _ => absurd h (Nat.not_lt_zero _)
  | n + 1, s, h, hI => step _ s hI (fun s' h' q => rv_CM S I ms step n s' (by omega) h')
