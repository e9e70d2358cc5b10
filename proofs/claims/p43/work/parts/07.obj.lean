section OBJ
variable {l : Launch} {D : va_G} {ad : Nat → Nat} {ca : Nat → ClassId} {own : String} {cc : ByteArray} {nL fr lo : Nat} {K : Nat → List (Nat × Value) → List Value → rv_W → rv_R → Prop} {lv lv' : List (Nat × Value)} {st : List Value} {w : rv_W} {t t1 t2 : rv_R}
theorem rv_fields {ad : Nat → Nat} {w : rv_W} {k j : Nat} {fs : List (Option Nat)} {o : Option Nat} (h : fs[j]? = some o) : (fs.mapIdx (fun j o => rv_fv ad w k j o))[j]? = some (rv_fv ad w k j o) := by
  rw [List.getElem?_mapIdx, h]
  rfl
theorem rv_obj_lt {k ci : Nat} {fs : List (Option Nat)} (hs : rv_sh k = .inl (ci, fs)) : k < rv_N := rv_sh_lt hs (by simp)
theorem rv_arr_lt {k kd n b : Nat} (hs : rv_sh k = .inr (kd, n, b)) (hk : kd ≠ 9) : k < rv_N := rv_sh_lt hs (by simp [hk])
theorem rv_geti (h : rv_Rl D ad ca l own cc nL fr lo K) (pc : Nat) {k j ci idx : Nat} {fs : List (Option Nat)} {f : String × String × String × Bool} (d : decode cc pc = .ok (.getfield idx, 3)) (hs : rv_sh k = .inl (ci, fs)) (hF : rv_Fd own idx ci j f) (hf : fs[j]? = some none) (n : K (pc + 3) lv (.int (w k j) :: st) w t) : K pc lv (.ref (ad k) :: st) w t := by
  obtain ⟨p, e, R, s, m, args, below, meth, c, A, cs, sl, Q, rv, rw, hx, hb, hml, hown, hts, hK, ⟨hJ, hN⟩, hA, hR, rfl⟩ := h
  intro ht H locs ls hP hS hl
  obtain ⟨⟨c1, c2, ⟨ty, c3⟩, c4⟩, h1, h2, h3⟩ := hF
  subst h2
  refine va_get (D := D) (cl := rv_cl) (C := (rv_cT ci).1) (T := (rv_cT ci).2.1) (N := (rv_cT ci).2.2) hx hb hts c2 hown hK hP k (by rw [rv_wl_get (rv_obj_lt hs), rv_cell_obj hs]) c1 j h1 (hts _ h3) (fun _ h9 => h9) (rv_fields hf) d ?_
  exact n ht H locs ls hP hS hl
theorem rv_getr (h : rv_Rl D ad ca l own cc nL fr lo K) (pc : Nat) {k k' j ci idx : Nat} {fs : List (Option Nat)} {f : String × String × String × Bool} (d : decode cc pc = .ok (.getfield idx, 3)) (hs : rv_sh k = .inl (ci, fs)) (hF : rv_Fd own idx ci j f) (hf : fs[j]? = some (some k')) (n : K (pc + 3) lv (.ref (ad k') :: st) w t) : K pc lv (.ref (ad k) :: st) w t := by
  obtain ⟨p, e, R, s, m, args, below, meth, c, A, cs, sl, Q, rv, rw, hx, hb, hml, hown, hts, hK, ⟨hJ, hN⟩, hA, hR, rfl⟩ := h
  intro ht H locs ls hP hS hl
  obtain ⟨⟨c1, c2, ⟨ty, c3⟩, c4⟩, h1, h2, h3⟩ := hF
  subst h2
  refine va_get (D := D) (cl := rv_cl) (C := (rv_cT ci).1) (T := (rv_cT ci).2.1) (N := (rv_cT ci).2.2) hx hb hts c2 hown hK hP k (by rw [rv_wl_get (rv_obj_lt hs), rv_cell_obj hs]) c1 j h1 (hts _ h3) (fun _ h9 => h9) (rv_fields hf) d ?_
  exact n ht H locs ls hP hS hl
theorem rv_cell_put {ad : Nat → Nat} {ca : Nat → ClassId} {w : rv_W} {k j ci : Nat} {v : Int32} {fs : List (Option Nat)} (hs : rv_sh k = .inl (ci, fs)) (hf : fs[j]? = some none) : rv_cell ad ca (rv_up w k j v) k = .inr (ci, (fs.mapIdx (fun j o => rv_fv ad w k j o)).set j (.int v)) := by
  rw [rv_cell_obj hs]
  congr 2
  apply List.ext_getElem?
  intro i
  rw [List.getElem?_mapIdx]
  have hj : j < fs.length := (List.getElem?_eq_some_iff.mp hf).1
  by_cases hi : i = j
  · subst hi
    rw [List.getElem?_set_self (by simpa using hj), hf]
    simp [rv_fv, rv_up]
  · rw [List.getElem?_set_ne (Ne.symm hi), List.getElem?_mapIdx]
    cases fs[i]? with
    | none => rfl
    | some o => cases o <;> simp [rv_fv, rv_up, hi]
theorem rv_puti (h : rv_Rl D ad ca l own cc nL fr lo K) (pc : Nat) {k j ci idx : Nat} {fs : List (Option Nat)} {v : Int32} {f : rv_W → rv_R} {F : String × String × String × Bool} (d : decode cc pc = .ok (.putfield idx, 3)) (hs : rv_sh k = .inl (ci, fs)) (hF : rv_Fd own idx ci j F) (hf : fs[j]? = some none) (hq : F.2.2.2 = false ∧ F.2.2.1 = "I") (n : ∀ w' : rv_W, K (pc + 3) lv st w' (f w')) : K pc lv (.int v :: .ref (ad k) :: st) w (rv_lt (rv_up w k j v) f) := by
  obtain ⟨p, e, R, s, m, args, below, meth, c, A, cs, sl, Q, rv, rw, hx, hb, hml, hown, hts, hK, ⟨hJ, hN⟩, hA, hR, rfl⟩ := h
  intro ht H locs ls hP hS hl
  obtain ⟨⟨c1, c2, ⟨ty, c3⟩, c4⟩, h1, h2, h3⟩ := hF
  subst h2
  have hk := rv_obj_lt hs
  refine va_put (D := D) (cl := rv_cl) (A := A) (C := (rv_cT ci).1) (T := (rv_cT ci).2.1) (N := (rv_cT ci).2.2) hx hb hts c2 ty c3 c4 hown hK hP (rv_D hJ hA) hS k (by rw [rv_wl_get hk, rv_cell_obj hs]) c1 j h1 (hts _ h3) (fun _ h9 => h9) hq.1 (ty := .int) (by rw [hq.2]; decide +kernel) rfl rfl (by simpa using (List.getElem?_eq_some_iff.mp hf).1) d (fun H1 locs1 hP1 hD1 hS1 => ?_)
  rw [rv_set hk (rv_cell_put hs hf)] at hP1
  exact n _ ht H1 locs1 ls hP1 hS1 hl
theorem rv_nar_z {v : Int32} (h : v = 0 ∨ v = 1) : narrow .boolean (.int v) = .int v := by
  rcases h with rfl | rfl <;> rfl
theorem rv_putz (h : rv_Rl D ad ca l own cc nL fr lo K) (pc : Nat) {k j ci idx : Nat} {fs : List (Option Nat)} {v : Int32} {f : rv_W → rv_R} {F : String × String × String × Bool} (d : decode cc pc = .ok (.putfield idx, 3)) (hs : rv_sh k = .inl (ci, fs)) (hF : rv_Fd own idx ci j F) (hf : fs[j]? = some none) (hq : F.2.2.2 = false ∧ F.2.2.1 = "Z") (n : ∀ w' : rv_W, K (pc + 3) lv st w' (f w')) : K pc lv (.int v :: .ref (ad k) :: st) w (rv_gd (v = 0 ∨ v = 1) (rv_lt (rv_up w k j v) f)) := by
  refine rv_guard h (fun hv => ?_)
  obtain ⟨p, e, R, s, m, args, below, meth, c, A, cs, sl, Q, rv, rw, hx, hb, hml, hown, hts, hK, ⟨hJ, hN⟩, hA, hR, rfl⟩ := h
  intro ht H locs ls hP hS hl
  obtain ⟨⟨c1, c2, ⟨ty, c3⟩, c4⟩, h1, h2, h3⟩ := hF
  subst h2
  have hk := rv_obj_lt hs
  refine va_put (D := D) (cl := rv_cl) (A := A) (C := (rv_cT ci).1) (T := (rv_cT ci).2.1) (N := (rv_cT ci).2.2) hx hb hts c2 ty c3 c4 hown hK hP (rv_D hJ hA) hS k (by rw [rv_wl_get hk, rv_cell_obj hs]) c1 j h1 (hts _ h3) (fun _ h9 => h9) hq.1 (ty := .boolean) (by rw [hq.2]; decide +kernel) (rv_nar_z hv) (by rcases hv with rfl | rfl <;> rfl) (by simpa using (List.getElem?_eq_some_iff.mp hf).1) d (fun H1 locs1 hP1 hD1 hS1 => ?_)
  rw [rv_set hk (rv_cell_put hs hf)] at hP1
  exact n _ ht H1 locs1 ls hP1 hS1 hl
theorem rv_arr_i {ad : Nat → Nat} {ca : Nat → ClassId} {w : rv_W} {k kd n b : Nat} (hs : rv_sh k = .inr (kd, n, b)) (hk : kd ≠ 3 ∧ kd ≠ 4) : rv_cell ad ca w k = .inl (ca kd, n, .inl (fun j => w k j)) := by
  rw [rv_cell_arr hs]
  simp [rv_arr, hk.1, hk.2]
theorem rv_arr_put {ad : Nat → Nat} {ca : Nat → ClassId} {w : rv_W} {k kd n b j : Nat} {v : Int32} (hs : rv_sh k = .inr (kd, n, b)) (hk : kd ≠ 3 ∧ kd ≠ 4) : rv_cell ad ca (rv_up w k j v) k = .inl (ca kd, n, .inl (upd (fun j => w k j) j v)) := by
  rw [rv_arr_i hs hk]
  congr 4
  funext i
  by_cases hi : i = j <;> simp [rv_up, upd, hi]
theorem rv_len (h : rv_Rl D ad ca l own cc nL fr lo K) (pc : Nat) {k kd n0 b : Nat} {v : Int32} (d : decode cc pc = .ok (.arraylength, 1)) (hs : rv_sh k = .inr (kd, n0, b)) (hk : kd < 5) (hv : Int32.ofNat n0 = v) (n : K (pc + 1) lv (.int v :: st) w t) : K pc lv (.ref (ad k) :: st) w t := by
  obtain ⟨p, e, R, s, m, args, below, meth, c, A, cs, sl, Q, rv, rw, hx, hb, hml, hown, hts, hK, ⟨hJ, hN⟩, hA, hR, rfl⟩ := h
  intro ht H locs ls hP hS hl
  have hlt := rv_arr_lt hs (by omega)
  have : ∃ ty, (rv_tys ca)[kd]? = some (ca kd, ty) := by
    rcases (show kd = 0 ∨ kd = 1 ∨ kd = 2 ∨ kd = 3 ∨ kd = 4 by omega) with rfl | rfl | rfl | rfl | rfl <;> exact ⟨_, rfl⟩
  obtain ⟨ty, hty⟩ := this
  refine va_alen (D := D) (cl := rv_cl) hx hb hK hP k kd (cA := ca kd) (x := (n0, rv_arr ad w k kd b)) (by rw [rv_wl_get hlt, rv_cell_arr hs]) hty hv d ?_
  exact n ht H locs ls hP hS hl
theorem rv_iald (h : rv_Rl D ad ca l own cc nL fr lo K) (pc : Nat) {k n0 : Nat} {i : Int32} (d : decode cc pc = .ok (.iaload, 1)) (hs : rv_sh k = .inr (0, n0, 0)) (n : K (pc + 1) lv (.int (w k i.toNatClampNeg) :: st) w t) : K pc lv (.int i :: .ref (ad k) :: st) w (rv_ck i n0 t) := by
  obtain ⟨p, e, R, s, m, args, below, meth, c, A, cs, sl, Q, rv, rw, hx, hb, hml, hown, hts, hK, ⟨hJ, hN⟩, hA, hR, rfl⟩ := h
  intro ht H locs ls hP hS hl
  obtain ⟨hi, ht⟩ := rv_ck_in ht
  have hlt := rv_arr_lt hs (by decide)
  refine va_iald (D := D) (cl := rv_cl) hx hb hK hP k 0 (cA := ca 0) (n := n0) (f := fun j => w k j) (by rw [rv_wl_get hlt, rv_arr_i hs (by decide)]) rfl hi d ?_
  exact n ht H locs ls hP hS hl
theorem rv_cald (h : rv_Rl D ad ca l own cc nL fr lo K) (pc : Nat) {k n0 : Nat} {i : Int32} (d : decode cc pc = .ok (.caload, 1)) (hs : rv_sh k = .inr (1, n0, 0)) (n : K (pc + 1) lv (.int (w k i.toNatClampNeg) :: st) w t) : K pc lv (.int i :: .ref (ad k) :: st) w (rv_ck i n0 t) := by
  obtain ⟨p, e, R, s, m, args, below, meth, c, A, cs, sl, Q, rv, rw, hx, hb, hml, hown, hts, hK, ⟨hJ, hN⟩, hA, hR, rfl⟩ := h
  intro ht H locs ls hP hS hl
  obtain ⟨hi, ht⟩ := rv_ck_in ht
  have hlt := rv_arr_lt hs (by decide)
  refine va_cald (D := D) (cl := rv_cl) hx hb hK hP k 1 (cA := ca 1) (n := n0) (f := fun j => w k j) (by rw [rv_wl_get hlt, rv_arr_i hs (by decide)]) rfl hi d ?_
  exact n ht H locs ls hP hS hl
theorem rv_iast (h : rv_Rl D ad ca l own cc nL fr lo K) (pc : Nat) {k n0 : Nat} {i x : Int32} {f : rv_W → rv_R} (d : decode cc pc = .ok (.iastore, 1)) (hs : rv_sh k = .inr (0, n0, 0)) (n : ∀ w' : rv_W, K (pc + 1) lv st w' (f w')) : K pc lv (.int x :: .int i :: .ref (ad k) :: st) w (rv_ck i n0 (rv_lt (rv_up w k i.toNatClampNeg x) f)) := by
  obtain ⟨p, e, R, s, m, args, below, meth, c, A, cs, sl, Q, rv, rw, hx, hb, hml, hown, hts, hK, ⟨hJ, hN⟩, hA, hR, rfl⟩ := h
  intro ht H locs ls hP hS hl
  obtain ⟨hi, ht⟩ := rv_ck_in ht
  have hlt := rv_arr_lt hs (by decide)
  refine va_iast (D := D) (cl := rv_cl) (A := A) hx hb hK hP (rv_D hJ hA) hS k 0 (cA := ca 0) (n := n0) (f := fun j => w k j) (by rw [rv_wl_get hlt, rv_arr_i hs (by decide)]) rfl hi d (fun H1 locs1 hP1 hD1 hS1 => ?_)
  rw [rv_set hlt (rv_arr_put hs (by decide))] at hP1
  exact n _ ht H1 locs1 ls hP1 hS1 hl
theorem rv_cast (h : rv_Rl D ad ca l own cc nL fr lo K) (pc : Nat) {k n0 : Nat} {i x : Int32} {f : rv_W → rv_R} (d : decode cc pc = .ok (.castore, 1)) (hs : rv_sh k = .inr (1, n0, 0)) (n : ∀ w' : rv_W, K (pc + 1) lv st w' (f w')) : K pc lv (.int x :: .int i :: .ref (ad k) :: st) w (rv_ck i n0 (rv_lt (rv_up w k i.toNatClampNeg (vp_nar .char x)) f)) := by
  obtain ⟨p, e, R, s, m, args, below, meth, c, A, cs, sl, Q, rv, rw, hx, hb, hml, hown, hts, hK, ⟨hJ, hN⟩, hA, hR, rfl⟩ := h
  intro ht H locs ls hP hS hl
  obtain ⟨hi, ht⟩ := rv_ck_in ht
  have hlt := rv_arr_lt hs (by decide)
  refine va_cast (D := D) (cl := rv_cl) (A := A) hx hb hK hP (rv_D hJ hA) hS k 1 (cA := ca 1) (n := n0) (f := fun j => w k j) (by rw [rv_wl_get hlt, rv_arr_i hs (by decide)]) rfl hi d (fun H1 locs1 hP1 hD1 hS1 => ?_)
  rw [rv_set hlt (rv_arr_put hs (by decide))] at hP1
  exact n _ ht H1 locs1 ls hP1 hS1 hl
theorem rv_in_lt {i : Int32} {n : Nat} (h : vp_in i n) : i.toNatClampNeg < n := Nat.not_le.mp fun q => h (Or.inr q)
theorem rv_aald (h : rv_Rl D ad ca l own cc nL fr lo K) (pc : Nat) {k n0 b : Nat} {i : Int32} (d : decode cc pc = .ok (.aaload, 1)) (hs : rv_sh k = .inr (4, n0, b)) (n : i.toNatClampNeg < n0 → K (pc + 1) lv (.ref (ad (b + i.toNatClampNeg)) :: st) w t) : K pc lv (.int i :: .ref (ad k) :: st) w (rv_ck i n0 t) := by
  obtain ⟨p, e, R, s, m, args, below, meth, c, A, cs, sl, Q, rv, rw, hx, hb, hml, hown, hts, hK, ⟨hJ, hN⟩, hA, hR, rfl⟩ := h
  intro ht H locs ls hP hS hl
  obtain ⟨hi, ht⟩ := rv_ck_in ht
  have hlt := rv_arr_lt hs (by decide)
  have hlt' := rv_in_lt hi
  have hc : H[ad k]? = some (vp_cell (ca 4) (n0, rv_arr ad w k 4 b)) := by
    have h1 := hP k _ (rv_wl_get hlt)
    rw [rv_cell_arr hs] at h1
    exact h1
  refine W.aald (v := .ref (ad (b + i.toNatClampNeg))) (ty := .array .int) hx hb hc ((hK.2 4 _ rfl).1 n0 (fun j => va_rf (some (ad (b + j))))) rfl (fun q => by cases q) ?_ ?_ rfl rfl d (n hlt' ht H locs ls hP hS hl)
  · show ¬ (i < 0 ∨ (arrV _ _ _).slots.size ≤ _)
    rw [arrV_size]
    exact hi
  · show (arrV _ _ _).slots[_]? = _
    rw [arrV_read _ _ hlt']
    rfl
theorem rv_hald (h : rv_Rl D ad ca l own cc nL fr lo K) (pc : Nat) {k n0 : Nat} {i : Int32} (d : decode cc pc = .ok (.aaload, 1)) (hs : rv_sh k = .inr (3, n0, 0)) (n : rv_st (w k i.toNatClampNeg).toNatClampNeg → K (pc + 1) lv (.ref (ad (w k i.toNatClampNeg).toNatClampNeg) :: st) w t) : K pc lv (.int i :: .ref (ad k) :: st) w (rv_ck i n0 (rv_gd (rv_st (w k i.toNatClampNeg).toNatClampNeg) t)) := by
  obtain ⟨p, e, R, s, m, args, below, meth, c, A, cs, sl, Q, rv, rw, hx, hb, hml, hown, hts, hK, ⟨hJ, hN⟩, hA, hR, rfl⟩ := h
  intro ht H locs ls hP hS hl
  obtain ⟨hi, ht⟩ := rv_ck_in ht
  obtain ⟨hv, ht⟩ := rv_gd_in ht
  have hlt := rv_arr_lt hs (by decide)
  refine va_aldq (D := D) (cl := rv_cl) hx hb hK hP k 3 (cA := ca 3) (C := RX8) (n := n0) (f := fun j => some (ad (w k j).toNatClampNeg)) (by rw [rv_wl_get hlt, rv_cell_arr hs]; rfl) rfl hi d ?_
  exact n hv ht H locs ls hP hS hl
theorem rv_st_obj {q : Nat} (h : rv_st q) : ∃ a b, rv_sh q = .inl (6, [none, none, some a, some b]) := by
  rcases h with rfl | rfl | rfl | rfl | rfl | rfl <;> exact ⟨_, _, rfl⟩
theorem rv_st_nat {q : Nat} (h : rv_st q) : (Int32.ofNat q).toNatClampNeg = q := by
  rcases h with rfl | rfl | rfl | rfl | rfl | rfl <;> rfl
theorem rv_hast (h : rv_Rl D ad ca l own cc nL fr lo K) (pc : Nat) {k n0 q : Nat} {i : Int32} {f : rv_W → rv_R} (d : decode cc pc = .ok (.aastore, 1)) (hs : rv_sh k = .inr (3, n0, 0)) (hq : rv_st q) (n : ∀ w' : rv_W, K (pc + 1) lv st w' (f w')) : K pc lv (.ref (ad q) :: .int i :: .ref (ad k) :: st) w (rv_ck i n0 (rv_lt (rv_up w k i.toNatClampNeg (Int32.ofNat q)) f)) := by
  obtain ⟨p, e, R, s, m, args, below, meth, c, A, cs, sl, Q, rv, rw, hx, hb, hml, hown, hts, hK, ⟨hJ, hN⟩, hA, hR, rfl⟩ := h
  intro ht H locs ls hP hS hl
  obtain ⟨hi, ht⟩ := rv_ck_in ht
  have hlt := rv_arr_lt hs (by decide)
  obtain ⟨a, b, hq2⟩ := rv_st_obj hq
  have hlq := rv_obj_lt hq2
  refine va_astq (D := D) (cl := rv_cl) (A := A) hx hb hK hP (rv_D hJ hA) hS k 3 q 6 (cA := ca 3) (r := (RX8, TX8, 4)) (n := n0) (f := fun j => some (ad (w k j).toNatClampNeg)) (by rw [rv_wl_get hlt, rv_cell_arr hs]; rfl) rfl (by rw [rv_wl_get hlq, rv_cell_obj hq2]) rfl hi d (fun H1 locs1 hP1 hD1 hS1 => ?_)
  rw [rv_set hlt (v := Int32.ofNat q) (j := i.toNatClampNeg) (by
    rw [rv_cell_arr hs]
    show (Sum.inl (ca 3, n0, Sum.inr (Sum.inr (Sum.inr (Sum.inr _)))) : va_E) = _
    congr 7
    funext j
    by_cases hj : j = i.toNatClampNeg
    · simp [rv_up, va_up, hj, rv_st_nat hq]
    · simp [rv_up, va_up, hj])] at hP1
  exact n _ ht H1 locs1 ls hP1 hS1 hl
end OBJ
