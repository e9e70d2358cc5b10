/-! the first world, and parts of it by their cells -/
def rt_w0 : rv_W := fun k j => if k = 4 then (if j = 0 then 5 else if j = 1 then 8 else if j = 2 then 11 else if j = 3 then 14 else 17) else if k = 79 then (if j = 1 then 31 else 0) else if k = 1 ∨ k = 5 ∨ k = 8 ∨ k = 11 ∨ k = 14 ∨ k = 17 then (if j = 0 then 31 else 0) else 0
def rv_sl (ad : Nat → Nat) (ca : Nat → ClassId) (E : List Nat) : va_W := E.map (fun k => (ad k, rv_cell ad ca rt_w0 k))
def rv_refs (k : Nat) : List Nat := match rv_sh k with
  | .inl (_, fs) => fs.filterMap id
  | .inr (kd, n, b) => if kd = 3 then (List.range n).map (fun j => (rt_w0 k j).toNatClampNeg) else if kd = 4 then (List.range n).map (fun j => b + j) else []
def rv_closed (E : List Nat) : Bool := E.all fun k => (rv_refs k).all fun r => E.contains r
theorem rv_arrV {c : ClassId} {n : Nat} {f g : Nat → Value} (h : ∀ j, j < n → f j = g j) : arrV c n f = arrV c n g := by
  unfold arrV
  congr 1
  congr 1
  funext j
  exact h j.val j.isLt
theorem rv_at_congr {D : va_G} {ad ad' : Nat → Nat} {ca : Nat → ClassId} {k : Nat} {H : Heap} (h0 : ad k = ad' k) (hr : ∀ r, r ∈ rv_refs k → ad r = ad' r) (h : va_at D rv_cl (ad k, rv_cell ad ca rt_w0 k) H) : va_at D rv_cl (ad' k, rv_cell ad' ca rt_w0 k) H := by
  rw [← h0]
  unfold rv_refs at hr
  unfold rv_cell at h ⊢
  cases hs : rv_sh k with
  | inl x =>
    obtain ⟨ci, fs⟩ := x
    simp only [hs] at h hr ⊢
    have e : fs.mapIdx (fun j o => rv_fv ad rt_w0 k j o) = fs.mapIdx (fun j o => rv_fv ad' rt_w0 k j o) := by
      apply List.ext_getElem?
      intro i
      rw [List.getElem?_mapIdx, List.getElem?_mapIdx]
      cases hi : fs[i]? with
      | none => rfl
      | some o =>
        cases o with
        | none => rfl
        | some k' =>
          have : ad k' = ad' k' := hr k' (List.mem_filterMap.mpr ⟨some k', List.mem_of_getElem? hi, rfl⟩)
          show some (Value.ref (ad k')) = some (Value.ref (ad' k'))
          rw [this]
    rw [← e]
    exact h
  | inr x =>
    obtain ⟨kd, n, b⟩ := x
    simp only [hs] at h hr ⊢
    have e : vp_cell (ca kd) (n, rv_arr ad rt_w0 k kd b) = vp_cell (ca kd) (n, rv_arr ad' rt_w0 k kd b) := by
      unfold rv_arr
      by_cases c3 : kd = 3
      · rw [if_pos c3] at hr
        rw [if_pos c3, if_pos c3, vp_cell_q, vp_cell_q]
        refine rv_arrV (fun j hj => ?_)
        rw [hr _ (List.mem_map.mpr ⟨j, List.mem_range.mpr hj, rfl⟩)]
      · by_cases c4 : kd = 4
        · rw [if_neg c3, if_pos c4] at hr
          rw [if_neg c3, if_neg c3, if_pos c4, if_pos c4, vp_cell_q, vp_cell_q]
          refine rv_arrV (fun j hj => ?_)
          rw [hr _ (List.mem_map.mpr ⟨j, List.mem_range.mpr hj, rfl⟩)]
        · rw [if_neg c3, if_neg c3, if_neg c4, if_neg c4]
    show H[ad k]? = some (vp_cell (ca kd) (n, rv_arr ad' rt_w0 k kd b))
    rw [← e]
    exact h
theorem rv_P_mem {D : va_G} {cl : List vw_C} {ws : va_W} {H : Heap} : va_P D cl ws H ↔ ∀ q, q ∈ ws → va_at D cl q H :=
  ⟨fun h q hq => by
    obtain ⟨i, hi⟩ := List.getElem?_of_mem hq
    exact h i q hi, fun h _ q hq => h q (List.mem_of_getElem? hq)⟩
theorem rv_D_fst {A : Nat → Prop} {ws ws' : va_W} (e : ws.map (fun q => q.1) = ws'.map (fun q => q.1)) (h : va_D A ws) : va_D A ws' := by
  have key : ∀ (k : Nat) (q : Nat × va_E), ws'[k]? = some q → ∃ q0, ws[k]? = some q0 ∧ q0.1 = q.1 := fun k q hq => by
    have h1 : (ws'.map (fun q => q.1))[k]? = some q.1 := by rw [List.getElem?_map, hq]; rfl
    rw [← e, List.getElem?_map] at h1
    cases h2 : ws[k]? with
    | none => rw [h2] at h1; cases h1
    | some q0 => rw [h2] at h1; exact ⟨q0, rfl, Option.some.inj h1⟩
  refine ⟨fun i j x y hi hj hxy => ?_, fun k q hq => ?_⟩
  · obtain ⟨x0, a1, a2⟩ := key i x hi
    obtain ⟨y0, b1, b2⟩ := key j y hj
    exact h.1 i j x0 y0 a1 b1 (by rw [a2, b2, hxy])
  · obtain ⟨q0, a1, a2⟩ := key k q hq
    rw [← a2]
    exact h.2 k q0 a1
def rv_mix (E2 : List Nat) (u ad : Nat → Nat) : Nat → Nat := fun k => if k ∈ E2 then u k else ad k
theorem rv_merge {D : va_G} {ca : Nat → ClassId} {A : Nat → Prop} {X : va_W} {ad u : Nat → Nat} {E E2 : List Nat} {H : Heap} (hc : rv_closed E = true) (hc2 : rv_closed E2 = true) (hd : (E.all fun k => !E2.contains k) = true) (hP : va_P D rv_cl ((X ++ rv_sl ad ca E) ++ rv_sl u ca E2) H) (hD : va_D A ((X ++ rv_sl ad ca E) ++ rv_sl u ca E2)) : va_P D rv_cl (X ++ rv_sl (rv_mix E2 u ad) ca (E ++ E2)) H ∧ va_D A (X ++ rv_sl (rv_mix E2 u ad) ca (E ++ E2)) := by
  have hE : ∀ k, k ∈ E → k ∉ E2 := fun k hk z => by
    have := List.all_eq_true.mp hd k hk
    rw [List.contains_iff_mem.mpr z] at this
    cases this
  have h1 : ∀ k, k ∈ E → ad k = rv_mix E2 u ad k := fun k hk => (if_neg (hE k hk)).symm
  have h2 : ∀ k, k ∈ E2 → u k = rv_mix E2 u ad k := fun k hk => (if_pos hk).symm
  have cl : ∀ {E : List Nat}, rv_closed E = true → ∀ k, k ∈ E → ∀ r, r ∈ rv_refs k → r ∈ E := fun hc k hk r hr => List.contains_iff_mem.mp (List.all_eq_true.mp (List.all_eq_true.mp hc k hk) r hr)
  refine ⟨rv_P_mem.mpr (fun q hq => ?_), rv_D_fst ?_ hD⟩
  · rw [rv_P_mem] at hP
    rcases List.mem_append.mp hq with h | h
    · exact hP q (List.mem_append.mpr (Or.inl (List.mem_append.mpr (Or.inl h))))
    · obtain ⟨k, hk, rfl⟩ := List.mem_map.mp h
      rcases List.mem_append.mp hk with hk | hk
      · exact rv_at_congr (h1 k hk) (fun r hr => h1 r (cl hc k hk r hr)) (hP _ (List.mem_append.mpr (Or.inl (List.mem_append.mpr (Or.inr (List.mem_map.mpr ⟨k, hk, rfl⟩))))))
      · exact rv_at_congr (h2 k hk) (fun r hr => h2 r (cl hc2 k hk r hr)) (hP _ (List.mem_append.mpr (Or.inr (List.mem_map.mpr ⟨k, hk, rfl⟩))))
  · unfold rv_sl
    rw [List.map_append, List.map_append, List.map_append, List.map_append, List.map_append, List.append_assoc]
    congr 1
    rw [List.map_map, List.map_map, List.map_map, List.map_map]
    congr 1
    · exact List.map_congr_left (fun k hk => h1 k hk)
    · exact List.map_congr_left (fun k hk => h2 k hk)
theorem rv_nd_iff : ∀ l : List Nat, l.Nodup → va_nd l = true
  | [], _ => rfl
  | a :: l, h => by
    rw [List.nodup_cons] at h
    unfold va_nd
    rw [rv_nd_iff l h.2, decide_eq_true h.1]
    rfl
/-- behind a constructor's call: what stood before, and what it made -/
theorem rv_join1 {A0 : Nat → Prop} {D : va_G} {cl : List vw_C} {X w1 : va_W} {x : Nat × va_E} {H H1 : Heap} (hP : va_P D cl (X ++ [x]) H) (hD : va_D A0 (X ++ [x])) (hk : ∀ q : Nat, q < H.size → ¬ va_A [x] H.size q → H1[q]? = H[q]?) (hF : ∀ q, va_A [x] H.size q → A0 q) (hP1 : va_P D cl w1 H1) (hD1 : va_D (va_A [x] H.size) w1) : va_P D cl (X ++ w1) H1 ∧ va_D A0 (X ++ w1) := by
  refine va_join (wc := [x]) (wr := X) hP hD [X.length] (List.range X.length) (by simp) ?_ (rv_nd_iff _ List.nodup_range) (fun i hi z => ?_) hk hF hP1 hD1
  · apply List.ext_getElem?
    intro i
    rw [List.getElem?_map, List.getElem?_map]
    by_cases h : i < X.length
    · rw [List.getElem?_range h, List.getElem?_eq_getElem h]
      show some ((X ++ [x])[i]?) = _
      rw [List.getElem?_append_left h, List.getElem?_eq_getElem h]
      rfl
    · rw [List.getElem?_eq_none (by rw [List.length_range]; omega), List.getElem?_eq_none (by omega)]
      rfl
  · rw [List.mem_singleton] at z
    rw [List.mem_range] at hi
    omega
theorem rv_free1 {A0 : Nat → Prop} {X : va_W} {x : Nat × va_E} {H0 H : Heap} {locs : List Loc} (hD : va_D A0 (X ++ [x])) (hS : va_S A0 H0 H locs) (hA : ∀ q, H0.size ≤ q → A0 q) : ∀ q, va_A [x] H.size q → A0 q := va_free (wc := [x]) hD hS hA [X.length] (by simp)
theorem rv_D1 {x : Nat × va_E} {sz : Nat} : va_D (va_A [x] sz) [x] := by
  refine ⟨fun i j p q hi hj _ => ?_, fun k q hk => va_A.in hk⟩
  have h1 : i < 1 := (List.getElem?_eq_some_iff.mp hi).1
  have h2 : j < 1 := (List.getElem?_eq_some_iff.mp hj).1
  omega
