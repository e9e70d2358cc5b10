def rv_tb : List Cond := lw_tbl.filter goodWord
theorem rv_tbm {w : Cond} (i : Nat) (h : lw_tbl[i]? = some w) (g : goodWord w = true) : w ∈ rv_tb := List.mem_filter.mpr ⟨List.mem_of_getElem? h, g⟩
theorem rv_tbg : GoodIn rv_tb rv_tb := fun _ h => ⟨h, good_of_word (List.mem_filter.mp h).2⟩
theorem rv_in_r {ws : List Cond} (ps : List Nat) (hp : ws = ps.filterMap (fun i => lw_tbl[i]?)) (hg : ws.all goodWord = true) : ∀ w ∈ ws, w ∈ rv_tb := by
  intro w hw
  have hw' := hw
  rw [hp] at hw
  obtain ⟨i, -, hi⟩ := List.mem_filterMap.mp hw
  exact rv_tbm i hi (List.all_eq_true.mp hg w hw')
/-! the world of numbers, and how the heap holds it -/
abbrev rv_W : Type := Nat → Nat → Int32
abbrev rv_R : Type := Option (Int32 × rv_W)
def rv_up (w : rv_W) (k j : Nat) (v : Int32) : rv_W := fun k' j' => if k' = k ∧ j' = j then v else w k' j'
abbrev rv_cl : List vw_C := [(RX2, TX2, 3), (RX3, TX3, 1), (RX4, TX4, 1), (RX5, TX5, 5), (RX6, TX6, 5), (RX7, TX7, 4), (RX8, TX8, 4), (RX9, TX9, 6), (RX10, TX10, 7)]
abbrev rv_tys (ca : Nat → ClassId) : List (ClassId × FieldType) := [(ca 0, .int), (ca 1, .char), (ca 2, .int), (ca 3, .object RX8), (ca 4, .array .int)]
def rv_fv (ad : Nat → Nat) (w : rv_W) (k : Nat) (j : Nat) (o : Option Nat) : Value := match o with
  | some k' => .ref (ad k')
  | none => .int (w k j)
def rv_arr (ad : Nat → Nat) (w : rv_W) (k kd b : Nat) : (Nat → Int32) ⊕ (Nat → Int64) ⊕ (Nat → UInt32) ⊕ (Nat → UInt64) ⊕ (Nat → Option Nat) :=
  if kd = 3 then .inr (.inr (.inr (.inr (fun j => some (ad (w k j).toNatClampNeg))))) else if kd = 4 then .inr (.inr (.inr (.inr (fun j => some (ad (b + j)))))) else .inl (fun j => w k j)
def rv_cell (ad : Nat → Nat) (ca : Nat → ClassId) (w : rv_W) (k : Nat) : va_E := match rv_sh k with
  | .inl (ci, fs) => .inr (ci, fs.mapIdx (fun j o => rv_fv ad w k j o))
  | .inr (kd, n, b) => .inl (ca kd, n, rv_arr ad w k kd b)
def rv_wl (ad : Nat → Nat) (ca : Nat → ClassId) (w : rv_W) : va_W := (List.range rv_N).map (fun k => (ad k, rv_cell ad ca w k))
def rv_J (ad : Nat → Nat) : Prop := ∀ i j, i < rv_N → j < rv_N → ad i = ad j → i = j
def rv_A (ad : Nat → Nat) : Nat → Prop := fun q => ∃ k, k < rv_N ∧ q = ad k
theorem rv_wl_get {ad : Nat → Nat} {ca : Nat → ClassId} {w : rv_W} {k : Nat} (h : k < rv_N) : (rv_wl ad ca w)[k]? = some (ad k, rv_cell ad ca w k) := by
  simp [rv_wl, h]
theorem rv_wl_len {ad : Nat → Nat} {ca : Nat → ClassId} {w : rv_W} : (rv_wl ad ca w).length = rv_N := by simp [rv_wl]
theorem rv_sh_lt {k : Nat} {x : rv_S} (h : rv_sh k = x) (hx : x ≠ .inr (9, 0, 0)) : k < rv_N := by
  rcases Nat.lt_or_ge k rv_N with q | q
  · exact q
  · exfalso
    apply hx
    rw [← h]
    unfold rv_sh
    rw [List.getD_eq_getElem?_getD, List.getElem?_eq_none q]
    rfl
theorem rv_wl_mem {ad : Nat → Nat} {ca : Nat → ClassId} {w : rv_W} {k : Nat} {q : Nat × va_E} (h : (rv_wl ad ca w)[k]? = some q) : k < rv_N ∧ q = (ad k, rv_cell ad ca w k) := by
  have hl : k < rv_N := by
    have := (List.getElem?_eq_some_iff.mp h).1
    rwa [rv_wl_len] at this
  rw [rv_wl_get hl] at h
  exact ⟨hl, (Option.some.inj h).symm⟩
theorem rv_D {ad : Nat → Nat} {ca : Nat → ClassId} {w : rv_W} {A : Nat → Prop} (hJ : rv_J ad) (hA : ∀ k, k < rv_N → A (ad k)) : va_D A (rv_wl ad ca w) := by
  refine ⟨fun i j p q hi hj hpq => ?_, fun k q hk => ?_⟩
  · obtain ⟨h1, rfl⟩ := rv_wl_mem hi
    obtain ⟨h2, rfl⟩ := rv_wl_mem hj
    exact hJ i j h1 h2 hpq
  · obtain ⟨h1, rfl⟩ := rv_wl_mem hk
    exact hA k h1
theorem rv_cell_ne {ad : Nat → Nat} {ca : Nat → ClassId} {w : rv_W} {k k' j : Nat} {v : Int32} (h : k' ≠ k) : rv_cell ad ca (rv_up w k j v) k' = rv_cell ad ca w k' := by
  have e : ∀ j', rv_up w k j v k' j' = w k' j' := fun j' => if_neg (fun q => h q.1)
  unfold rv_cell
  cases rv_sh k' with
  | inl x =>
    obtain ⟨ci, fs⟩ := x
    dsimp only
    congr 3
    funext j' o'
    cases o' <;> simp [rv_fv, e]
  | inr x =>
    obtain ⟨kd, n, b⟩ := x
    dsimp only
    unfold rv_arr
    simp only [e]
theorem rv_set {ad : Nat → Nat} {ca : Nat → ClassId} {w : rv_W} {k j : Nat} {v : Int32} {e : va_E} (hk : k < rv_N) (he : rv_cell ad ca (rv_up w k j v) k = e) : (rv_wl ad ca w).set k (ad k, e) = rv_wl ad ca (rv_up w k j v) := by
  apply List.ext_getElem?
  intro i
  by_cases hi : i = k
  · subst hi
    rw [List.getElem?_set_self (by rw [rv_wl_len]; exact hk), rv_wl_get hk, he]
  · rw [List.getElem?_set_ne (Ne.symm hi)]
    by_cases h : i < rv_N
    · rw [rv_wl_get h, rv_wl_get h, rv_cell_ne hi]
    · rw [List.getElem?_eq_none (by rw [rv_wl_len]; omega), List.getElem?_eq_none (by rw [rv_wl_len]; omega)]
theorem rv_cell_obj {ad : Nat → Nat} {ca : Nat → ClassId} {w : rv_W} {k ci : Nat} {fs : List (Option Nat)} (hs : rv_sh k = .inl (ci, fs)) : rv_cell ad ca w k = .inr (ci, fs.mapIdx (fun j o => rv_fv ad w k j o)) := by
  unfold rv_cell
  rw [hs]
theorem rv_cell_arr {ad : Nat → Nat} {ca : Nat → ClassId} {w : rv_W} {k kd n b : Nat} (hs : rv_sh k = .inr (kd, n, b)) : rv_cell ad ca w k = .inl (ca kd, n, rv_arr ad w k kd b) := by
  unfold rv_cell
  rw [hs]
/-! the combinators of the methods as functions -/
def rv_lt {α : Type} (a : α) (k : α → rv_R) : rv_R := k a
def rv_jn {α : Type} (k : α) (f : α → rv_R) : rv_R := f k
def rv_bd (x : rv_R) (k : Int32 → rv_W → rv_R) : rv_R := match x with
  | none => none
  | some (r, w) => k r w
def rv_ck (i : Int32) (n : Nat) (t : rv_R) : rv_R := if 0 ≤ i.toInt ∧ i.toInt < (n : Int) then t else none
def rv_gd (c : Prop) [Decidable c] (t : rv_R) : rv_R := if c then t else none
def rv_fx {α : Type} (bot : α) (F : α → α) : Nat → α
  | 0 => bot
  | n + 1 => F (rv_fx bot F n)
def rv_FU : Nat := 10000
abbrev rv_st (q : Nat) : Prop := q = 1 ∨ q = 5 ∨ q = 8 ∨ q = 11 ∨ q = 14 ∨ q = 17
theorem rv_fx_ind {α : Type} {bot : α} {F : α → α} (P : α → Prop) (h0 : P bot) (hs : ∀ a, P a → P (F a)) : ∀ n, P (rv_fx bot F n)
  | 0 => h0
  | n + 1 => hs _ (rv_fx_ind P h0 hs n)
theorem rv_ck_in {i : Int32} {n : Nat} {t : rv_R} {x : Int32 × rv_W} (h : rv_ck i n t = some x) : vp_in i n ∧ t = some x := by
  unfold rv_ck at h
  split at h
  · rename_i q
    refine ⟨fun z => ?_, h⟩
    rcases z with z | z
    · rw [Int32.lt_iff_toInt_lt] at z
      have : (0 : Int32).toInt = 0 := by decide
      omega
    · have : i.toNatClampNeg = i.toInt.toNat := rfl
      omega
  · cases h
theorem rv_gd_in {c : Prop} [Decidable c] {t : rv_R} {x : Int32 × rv_W} (h : rv_gd c t = some x) : c ∧ t = some x := by
  unfold rv_gd at h
  split at h
  · rename_i q
    exact ⟨q, h⟩
  · cases h
theorem rv_bd_in {t : rv_R} {k : Int32 → rv_W → rv_R} {x : Int32 × rv_W} (h : rv_bd t k = some x) : ∃ r w, t = some (r, w) ∧ k r w = some x := by
  unfold rv_bd at h
  cases t with
  | none => cases h
  | some q => exact ⟨q.1, q.2, rfl, h⟩
/-! the judgement: from here on, in the world w, with these locals and this stack, the method ends as t says -/
section JUDGE
variable (D : va_G) (ad : Nat → Nat) (ca : Nat → ClassId)
def rv_Ok (p : Program) (l : Launch) (e : Env) (R : Room) (s : State) (m : MethodId) (args : Array Value) (below : List Frame) (meth : Method) (c : Code) (A : Nat → Prop) (cs sl : Nat) (Q : State → Prop) (nL : Nat) (rv : Int32) (rw : rv_W) (pc : Nat) (lv : List (Nat × Value)) (st : List Value) (w : rv_W) (t : rv_R) : Prop :=
  t = some (rv, rw) → ∀ (H : Heap) (locs : List Loc) (ls : Array Slot), va_P D rv_cl (rv_wl ad ca w) H → va_S A s.heap H locs → lv_has ls nL lv → W p l e R s m args below meth c H locs cs sl Q (F0 m pc ls st)
def rv_Ret (cc : ByteArray) (rt : Option FieldType) (K : Nat → List (Nat × Value) → List Value → rv_W → rv_R → Prop) : Prop := match rt with
  | none => ∀ (pc : Nat) (lv : List (Nat × Value)) (w : rv_W), decode cc pc = .ok (.return_, 1) → K pc lv [] w (some (0, w))
  | some ty => ∀ (pc : Nat) (lv : List (Nat × Value)) (w : rv_W) (v : Int32), decode cc pc = .ok (.ireturn, 1) → narrow ty (.int v) = .int v → K pc lv [.int v] w (some (v, w))
/-- the one call of a private method of another class of the nest -/
def rv_nw : Cond := Cond.methodLinkNest RX9 60 yX10_isGroupSize RX10
def rv_Rl (l : Launch) (own : String) (cc : ByteArray) (nL fr lo : Nat) (K : Nat → List (Nat × Value) → List Value → rv_W → rv_R → Prop) : Prop :=
  ∃ (p : Program) (e : Env) (R : Room) (s : State) (m : MethodId) (args : Array Value) (below : List Frame) (meth : Method) (c : Code) (A : Nat → Prop) (cs sl : Nat) (Q : State → Prop) (rv : Int32) (rw : rv_W),
    p.tables.exec = Jvm.exec ∧ c.code = cc ∧ c.maxLocals = nL ∧ s.vm.findClass own = some m.cls ∧ (∀ w ∈ rv_tb, w.before args s = true) ∧ va_K D rv_cl (rv_tys ca) s ∧ (rv_J ad ∧ va_Nw rv_nw s) ∧ (∀ k, k < rv_N → A (ad k)) ∧ (fr ≤ R.frames ∧ lo ≤ R.locals ∧ cs ≤ R.cells ∧ sl ≤ R.slots) ∧ K = rv_Ok D ad ca p l e R s m args below meth c A cs sl Q nL rv rw
end JUDGE
section RULES
variable {l : Launch} {D : va_G} {ad : Nat → Nat} {ca : Nat → ClassId} {own : String} {cc : ByteArray} {nL fr lo : Nat} {K : Nat → List (Nat × Value) → List Value → rv_W → rv_R → Prop} {lv lv' : List (Nat × Value)} {st : List Value} {w : rv_W} {t t1 t2 : rv_R}
theorem rv_none (h : rv_Rl D ad ca l own cc nL fr lo K) {pc : Nat} : K pc lv st w none := by
  obtain ⟨p, e, R, s, m, args, below, meth, c, A, cs, sl, Q, rv, rw, hx, hb, hml, hown, hts, hK, ⟨hJ, hN⟩, hA, hR, rfl⟩ := h
  intro ht
  cases ht
theorem rv_sub (h : rv_Rl D ad ca l own cc nL fr lo K) {pc : Nat} (ks : List Nat) (hs : lv_pick lv ks = lv') (n : K pc lv' st w t) : K pc lv st w t := by
  obtain ⟨p, e, R, s, m, args, below, meth, c, A, cs, sl, Q, rv, rw, hx, hb, hml, hown, hts, hK, ⟨hJ, hN⟩, hA, hR, rfl⟩ := h
  intro ht H locs ls hP hS hl
  exact n ht H locs ls hP hS (lv_sub hl ks hs)
theorem rv_top {pc : Nat} {a : Int32} {f : Int32 → rv_R} (n : ∀ x : Int32, K pc lv (.int x :: st) w (f x)) : K pc lv (.int a :: st) w (rv_lt a f) := n a
theorem rv_join {pc : Nat} {α : Type} {k : α} {f : α → rv_R} (P : α → Prop) (hk : P k) (n : ∀ k', P k' → K pc lv st w (f k')) : K pc lv st w (rv_jn k f) := n k hk
theorem rv_guard (h : rv_Rl D ad ca l own cc nL fr lo K) {pc : Nat} {g : Prop} [Decidable g] (n : g → K pc lv st w t) : K pc lv st w (rv_gd g t) := by
  obtain ⟨p, e, R, s, m, args, below, meth, c, A, cs, sl, Q, rv, rw, hx, hb, hml, hown, hts, hK, ⟨hJ, hN⟩, hA, hR, rfl⟩ := h
  intro ht
  obtain ⟨h1, h2⟩ := rv_gd_in ht
  exact n h1 h2
theorem rv_iff (h : rv_Rl D ad ca l own cc nL fr lo K) {pc : Nat} {g : Prop} [Decidable g] (n1 : g → K pc lv st w t1) (n2 : ¬ g → K pc lv st w t2) : K pc lv st w (if g then t1 else t2) := by
  obtain ⟨p, e, R, s, m, args, below, meth, c, A, cs, sl, Q, rv, rw, hx, hb, hml, hown, hts, hK, ⟨hJ, hN⟩, hA, hR, rfl⟩ := h
  intro ht
  by_cases hg : g
  · exact n1 hg (by rwa [if_pos hg] at ht)
  · exact n2 hg (by rwa [if_neg hg] at ht)
theorem rv_iconst (h : rv_Rl D ad ca l own cc nL fr lo K) (pc : Nat) {n0 : Int} {v : Int32} (d : decode cc pc = .ok (.iconst n0, 1)) (hv : Int32.ofInt n0 = v) (n : K (pc + 1) lv (.int v :: st) w t) : K pc lv st w t := by
  obtain ⟨p, e, R, s, m, args, below, meth, c, A, cs, sl, Q, rv, rw, hx, hb, hml, hown, hts, hK, ⟨hJ, hN⟩, hA, hR, rfl⟩ := h
  intro ht H locs ls hP hS hl
  exact lv_iconst hx hb d hv (n ht H locs ls hP hS hl)
theorem rv_bipush (h : rv_Rl D ad ca l own cc nL fr lo K) (pc : Nat) {n0 : Int} {v : Int32} (d : decode cc pc = .ok (.bipush n0, 2)) (hv : (Int8.ofInt n0).toInt32 = v) (n : K (pc + 2) lv (.int v :: st) w t) : K pc lv st w t := by
  obtain ⟨p, e, R, s, m, args, below, meth, c, A, cs, sl, Q, rv, rw, hx, hb, hml, hown, hts, hK, ⟨hJ, hN⟩, hA, hR, rfl⟩ := h
  intro ht H locs ls hP hS hl
  exact lv_bipush hx hb d hv (n ht H locs ls hP hS hl)
theorem rv_sipush (h : rv_Rl D ad ca l own cc nL fr lo K) (pc : Nat) {n0 : Int} {v : Int32} (d : decode cc pc = .ok (.sipush n0, 3)) (hv : (Int16.ofInt n0).toInt32 = v) (n : K (pc + 3) lv (.int v :: st) w t) : K pc lv st w t := by
  obtain ⟨p, e, R, s, m, args, below, meth, c, A, cs, sl, Q, rv, rw, hx, hb, hml, hown, hts, hK, ⟨hJ, hN⟩, hA, hR, rfl⟩ := h
  intro ht H locs ls hP hS hl
  exact lv_sipush hx hb d hv (n ht H locs ls hP hS hl)
theorem rv_ldc (h : rv_Rl D ad ca l own cc nL fr lo K) (pc : Nat) {idx : Nat} {v : Int32} (d : decode cc pc = .ok (.ldc idx, 2)) (hv : Cond.constant own idx v ∈ rv_tb) (n : K (pc + 2) lv (.int v :: st) w t) : K pc lv st w t := by
  obtain ⟨p, e, R, s, m, args, below, meth, c, A, cs, sl, Q, rv, rw, hx, hb, hml, hown, hts, hK, ⟨hJ, hN⟩, hA, hR, rfl⟩ := h
  intro ht H locs ls hP hS hl
  exact lv_ldc hx hb hown (hts _ hv) d (n ht H locs ls hP hS hl)
theorem rv_ldcw (h : rv_Rl D ad ca l own cc nL fr lo K) (pc : Nat) {idx : Nat} {v : Int32} (d : decode cc pc = .ok (.ldc_w idx, 3)) (hv : Cond.constant own idx v ∈ rv_tb) (n : K (pc + 3) lv (.int v :: st) w t) : K pc lv st w t := by
  obtain ⟨p, e, R, s, m, args, below, meth, c, A, cs, sl, Q, rv, rw, hx, hb, hml, hown, hts, hK, ⟨hJ, hN⟩, hA, hR, rfl⟩ := h
  intro ht H locs ls hP hS hl
  exact lv_ldcw hx hb hown (hts _ hv) d (n ht H locs ls hP hS hl)
theorem rv_iload (h : rv_Rl D ad ca l own cc nL fr lo K) (pc : Nat) {i : Nat} {x : Int32} (d : decode cc pc = .ok (.iload i, 2)) (k : Nat) (hk : lv[k]? = some (i, .int x)) (n : K (pc + 2) lv (.int x :: st) w t) : K pc lv st w t := by
  obtain ⟨p, e, R, s, m, args, below, meth, c, A, cs, sl, Q, rv, rw, hx, hb, hml, hown, hts, hK, ⟨hJ, hN⟩, hA, hR, rfl⟩ := h
  intro ht H locs ls hP hS hl
  exact lv_iload hx hb d (lv_at hl k hk) (n ht H locs ls hP hS hl)
theorem rv_iload_n (h : rv_Rl D ad ca l own cc nL fr lo K) (pc : Nat) {j : Fin 4} {x : Int32} (d : decode cc pc = .ok (.iload_n j, 1)) (k : Nat) (hk : lv[k]? = some ((j : Nat), .int x)) (n : K (pc + 1) lv (.int x :: st) w t) : K pc lv st w t := by
  obtain ⟨p, e, R, s, m, args, below, meth, c, A, cs, sl, Q, rv, rw, hx, hb, hml, hown, hts, hK, ⟨hJ, hN⟩, hA, hR, rfl⟩ := h
  intro ht H locs ls hP hS hl
  exact lv_iload_n hx hb d rfl (lv_at hl k hk) (n ht H locs ls hP hS hl)
theorem rv_aload (h : rv_Rl D ad ca l own cc nL fr lo K) (pc : Nat) {i : Nat} {x : Nat} (d : decode cc pc = .ok (.aload i, 2)) (k : Nat) (hk : lv[k]? = some (i, .ref x)) (n : K (pc + 2) lv (.ref x :: st) w t) : K pc lv st w t := by
  obtain ⟨p, e, R, s, m, args, below, meth, c, A, cs, sl, Q, rv, rw, hx, hb, hml, hown, hts, hK, ⟨hJ, hN⟩, hA, hR, rfl⟩ := h
  intro ht H locs ls hP hS hl
  exact lv_aload hx hb d (lv_at hl k hk) (n ht H locs ls hP hS hl)
theorem rv_aload_n (h : rv_Rl D ad ca l own cc nL fr lo K) (pc : Nat) {j : Fin 4} {x : Nat} (d : decode cc pc = .ok (.aload_n j, 1)) (k : Nat) (hk : lv[k]? = some ((j : Nat), .ref x)) (n : K (pc + 1) lv (.ref x :: st) w t) : K pc lv st w t := by
  obtain ⟨p, e, R, s, m, args, below, meth, c, A, cs, sl, Q, rv, rw, hx, hb, hml, hown, hts, hK, ⟨hJ, hN⟩, hA, hR, rfl⟩ := h
  intro ht H locs ls hP hS hl
  exact lv_aload_n hx hb d rfl (lv_at hl k hk) (n ht H locs ls hP hS hl)
theorem rv_istore (h : rv_Rl D ad ca l own cc nL fr lo K) (pc : Nat) {i : Nat} {x : Int32} (d : decode cc pc = .ok (.istore i, 2)) (hn : i < nL) (hv : (i, Value.int x) :: lv.filter (fun q => !(q.1 == i) && !(q.1 + 1 == i && q.2.category == 2)) = lv') (n : K (pc + 2) lv' st w t) : K pc lv (.int x :: st) w t := by
  obtain ⟨p, e, R, s, m, args, below, meth, c, A, cs, sl, Q, rv, rw, hx, hb, hml, hown, hts, hK, ⟨hJ, hN⟩, hA, hR, rfl⟩ := h
  intro ht H locs ls hP hS hl
  exact lv_istore hx hb d hl hn hv (fun ls' hl' => n ht H locs ls' hP hS hl')
theorem rv_istore_n (h : rv_Rl D ad ca l own cc nL fr lo K) (pc : Nat) {j : Fin 4} {x : Int32} (d : decode cc pc = .ok (.istore_n j, 1)) (hn : (j : Nat) < nL) (hv : ((j : Nat), Value.int x) :: lv.filter (fun q => !(q.1 == (j : Nat)) && !(q.1 + 1 == (j : Nat) && q.2.category == 2)) = lv') (n : K (pc + 1) lv' st w t) : K pc lv (.int x :: st) w t := by
  obtain ⟨p, e, R, s, m, args, below, meth, c, A, cs, sl, Q, rv, rw, hx, hb, hml, hown, hts, hK, ⟨hJ, hN⟩, hA, hR, rfl⟩ := h
  intro ht H locs ls hP hS hl
  exact lv_istore_n hx hb d rfl hl hn hv (fun ls' hl' => n ht H locs ls' hP hS hl')
theorem rv_astore (h : rv_Rl D ad ca l own cc nL fr lo K) (pc : Nat) {i : Nat} {x : Nat} (d : decode cc pc = .ok (.astore i, 2)) (hn : i < nL) (hv : (i, Value.ref x) :: lv.filter (fun q => !(q.1 == i) && !(q.1 + 1 == i && q.2.category == 2)) = lv') (n : K (pc + 2) lv' st w t) : K pc lv (.ref x :: st) w t := by
  obtain ⟨p, e, R, s, m, args, below, meth, c, A, cs, sl, Q, rv, rw, hx, hb, hml, hown, hts, hK, ⟨hJ, hN⟩, hA, hR, rfl⟩ := h
  intro ht H locs ls hP hS hl
  exact lv_astore hx hb d hl hn hv (fun ls' hl' => n ht H locs ls' hP hS hl')
theorem rv_astore_n (h : rv_Rl D ad ca l own cc nL fr lo K) (pc : Nat) {j : Fin 4} {x : Nat} (d : decode cc pc = .ok (.astore_n j, 1)) (hn : (j : Nat) < nL) (hv : ((j : Nat), Value.ref x) :: lv.filter (fun q => !(q.1 == (j : Nat)) && !(q.1 + 1 == (j : Nat) && q.2.category == 2)) = lv') (n : K (pc + 1) lv' st w t) : K pc lv (.ref x :: st) w t := by
  obtain ⟨p, e, R, s, m, args, below, meth, c, A, cs, sl, Q, rv, rw, hx, hb, hml, hown, hts, hK, ⟨hJ, hN⟩, hA, hR, rfl⟩ := h
  intro ht H locs ls hP hS hl
  exact lv_astore_n hx hb d rfl hl hn hv (fun ls' hl' => n ht H locs ls' hP hS hl')
theorem rv_iinc (h : rv_Rl D ad ca l own cc nL fr lo K) (pc : Nat) {i : Nat} {n0 : Int} {x a : Int32} {f : Int32 → rv_R} (lf : Int32 → List (Nat × Value)) (d : decode cc pc = .ok (.iinc i n0, 3)) (k : Nat) (hk : lv[k]? = some (i, .int x)) (ha : Int32.ofInt n0 = a) (hn : i < nL) (hv : ∀ v : Int32, (i, Value.int v) :: lv.filter (fun q => !(q.1 == i) && !(q.1 + 1 == i && q.2.category == 2)) = lf v) (n : ∀ v : Int32, K (pc + 3) (lf v) st w (f v)) : K pc lv st w (rv_lt (x + a) f) := by
  obtain ⟨p, e, R, s, m, args, below, meth, c, A, cs, sl, Q, rv, rw, hx, hb, hml, hown, hts, hK, ⟨hJ, hN⟩, hA, hR, rfl⟩ := h
  intro ht H locs ls hP hS hl
  exact lv_iinc (v := x + a) hx hb d hl hk (by rw [ha]) hn (hv _) (fun ls' hl' => n (x + a) ht H locs ls' hP hS hl')
theorem rv_iadd (h : rv_Rl D ad ca l own cc nL fr lo K) (pc : Nat) {x y : Int32} (d : decode cc pc = .ok (.iadd, 1)) (n : K (pc + 1) lv (.int (x + y) :: st) w t) : K pc lv (.int y :: .int x :: st) w t := by
  obtain ⟨p, e, R, s, m, args, below, meth, c, A, cs, sl, Q, rv, rw, hx, hb, hml, hown, hts, hK, ⟨hJ, hN⟩, hA, hR, rfl⟩ := h
  intro ht H locs ls hP hS hl
  exact lv_iadd hx hb d (n ht H locs ls hP hS hl)
theorem rv_isub (h : rv_Rl D ad ca l own cc nL fr lo K) (pc : Nat) {x y : Int32} (d : decode cc pc = .ok (.isub, 1)) (n : K (pc + 1) lv (.int (x - y) :: st) w t) : K pc lv (.int y :: .int x :: st) w t := by
  obtain ⟨p, e, R, s, m, args, below, meth, c, A, cs, sl, Q, rv, rw, hx, hb, hml, hown, hts, hK, ⟨hJ, hN⟩, hA, hR, rfl⟩ := h
  intro ht H locs ls hP hS hl
  exact lv_isub hx hb d (n ht H locs ls hP hS hl)
theorem rv_imul (h : rv_Rl D ad ca l own cc nL fr lo K) (pc : Nat) {x y : Int32} (d : decode cc pc = .ok (.imul, 1)) (n : K (pc + 1) lv (.int (x * y) :: st) w t) : K pc lv (.int y :: .int x :: st) w t := by
  obtain ⟨p, e, R, s, m, args, below, meth, c, A, cs, sl, Q, rv, rw, hx, hb, hml, hown, hts, hK, ⟨hJ, hN⟩, hA, hR, rfl⟩ := h
  intro ht H locs ls hP hS hl
  exact lv_imul hx hb d (n ht H locs ls hP hS hl)
theorem rv_iand (h : rv_Rl D ad ca l own cc nL fr lo K) (pc : Nat) {x y : Int32} (d : decode cc pc = .ok (.iand, 1)) (n : K (pc + 1) lv (.int (x &&& y) :: st) w t) : K pc lv (.int y :: .int x :: st) w t := by
  obtain ⟨p, e, R, s, m, args, below, meth, c, A, cs, sl, Q, rv, rw, hx, hb, hml, hown, hts, hK, ⟨hJ, hN⟩, hA, hR, rfl⟩ := h
  intro ht H locs ls hP hS hl
  exact lv_iand hx hb d (n ht H locs ls hP hS hl)
theorem rv_ior (h : rv_Rl D ad ca l own cc nL fr lo K) (pc : Nat) {x y : Int32} (d : decode cc pc = .ok (.ior, 1)) (n : K (pc + 1) lv (.int (x ||| y) :: st) w t) : K pc lv (.int y :: .int x :: st) w t := by
  obtain ⟨p, e, R, s, m, args, below, meth, c, A, cs, sl, Q, rv, rw, hx, hb, hml, hown, hts, hK, ⟨hJ, hN⟩, hA, hR, rfl⟩ := h
  intro ht H locs ls hP hS hl
  exact lv_ior hx hb d (n ht H locs ls hP hS hl)
theorem rv_ixor (h : rv_Rl D ad ca l own cc nL fr lo K) (pc : Nat) {x y : Int32} (d : decode cc pc = .ok (.ixor, 1)) (n : K (pc + 1) lv (.int (x ^^^ y) :: st) w t) : K pc lv (.int y :: .int x :: st) w t := by
  obtain ⟨p, e, R, s, m, args, below, meth, c, A, cs, sl, Q, rv, rw, hx, hb, hml, hown, hts, hK, ⟨hJ, hN⟩, hA, hR, rfl⟩ := h
  intro ht H locs ls hP hS hl
  exact lv_ixor hx hb d (n ht H locs ls hP hS hl)
theorem rv_ishl (h : rv_Rl D ad ca l own cc nL fr lo K) (pc : Nat) {x y : Int32} (d : decode cc pc = .ok (.ishl, 1)) (n : K (pc + 1) lv (.int (x <<< (y &&& 31)) :: st) w t) : K pc lv (.int y :: .int x :: st) w t := by
  obtain ⟨p, e, R, s, m, args, below, meth, c, A, cs, sl, Q, rv, rw, hx, hb, hml, hown, hts, hK, ⟨hJ, hN⟩, hA, hR, rfl⟩ := h
  intro ht H locs ls hP hS hl
  exact lv_ishl hx hb d (n ht H locs ls hP hS hl)
theorem rv_ishr (h : rv_Rl D ad ca l own cc nL fr lo K) (pc : Nat) {x y : Int32} (d : decode cc pc = .ok (.ishr, 1)) (n : K (pc + 1) lv (.int (x >>> (y &&& 31)) :: st) w t) : K pc lv (.int y :: .int x :: st) w t := by
  obtain ⟨p, e, R, s, m, args, below, meth, c, A, cs, sl, Q, rv, rw, hx, hb, hml, hown, hts, hK, ⟨hJ, hN⟩, hA, hR, rfl⟩ := h
  intro ht H locs ls hP hS hl
  exact lv_ishr hx hb d (n ht H locs ls hP hS hl)
theorem rv_iushr (h : rv_Rl D ad ca l own cc nL fr lo K) (pc : Nat) {x y : Int32} (d : decode cc pc = .ok (.iushr, 1)) (n : K (pc + 1) lv (.int ((x.toUInt32 >>> (y.toUInt32 &&& Int32.toUInt32 31)).toInt32) :: st) w t) : K pc lv (.int y :: .int x :: st) w t := by
  obtain ⟨p, e, R, s, m, args, below, meth, c, A, cs, sl, Q, rv, rw, hx, hb, hml, hown, hts, hK, ⟨hJ, hN⟩, hA, hR, rfl⟩ := h
  intro ht H locs ls hP hS hl
  exact lv_iushr hx hb d rfl (n ht H locs ls hP hS hl)
theorem rv_ineg (h : rv_Rl D ad ca l own cc nL fr lo K) (pc : Nat) {x : Int32} (d : decode cc pc = .ok (.ineg, 1)) (n : K (pc + 1) lv (.int (-x) :: st) w t) : K pc lv (.int x :: st) w t := by
  obtain ⟨p, e, R, s, m, args, below, meth, c, A, cs, sl, Q, rv, rw, hx, hb, hml, hown, hts, hK, ⟨hJ, hN⟩, hA, hR, rfl⟩ := h
  intro ht H locs ls hP hS hl
  exact lv_ineg hx hb d (n ht H locs ls hP hS hl)
theorem rv_i2c (h : rv_Rl D ad ca l own cc nL fr lo K) (pc : Nat) {x : Int32} (d : decode cc pc = .ok (.i2c, 1)) (n : K (pc + 1) lv (.int ((x.toUInt32 % 65536).toInt32) :: st) w t) : K pc lv (.int x :: st) w t := by
  obtain ⟨p, e, R, s, m, args, below, meth, c, A, cs, sl, Q, rv, rw, hx, hb, hml, hown, hts, hK, ⟨hJ, hN⟩, hA, hR, rfl⟩ := h
  intro ht H locs ls hP hS hl
  exact lv_i2c hx hb d rfl (n ht H locs ls hP hS hl)
theorem rv_idiv (h : rv_Rl D ad ca l own cc nL fr lo K) (pc : Nat) {x y : Int32} (d : decode cc pc = .ok (.idiv, 1)) (hy : ¬ y = 0) (n : K (pc + 1) lv (.int (x / y) :: st) w t) : K pc lv (.int y :: .int x :: st) w t := by
  obtain ⟨p, e, R, s, m, args, below, meth, c, A, cs, sl, Q, rv, rw, hx, hb, hml, hown, hts, hK, ⟨hJ, hN⟩, hA, hR, rfl⟩ := h
  intro ht H locs ls hP hS hl
  exact lv_idiv hx hb d hy (n ht H locs ls hP hS hl)
theorem rv_irem (h : rv_Rl D ad ca l own cc nL fr lo K) (pc : Nat) {x y : Int32} (d : decode cc pc = .ok (.irem, 1)) (hy : ¬ y = 0) (n : K (pc + 1) lv (.int (x - x / y * y) :: st) w t) : K pc lv (.int y :: .int x :: st) w t := by
  obtain ⟨p, e, R, s, m, args, below, meth, c, A, cs, sl, Q, rv, rw, hx, hb, hml, hown, hts, hK, ⟨hJ, hN⟩, hA, hR, rfl⟩ := h
  intro ht H locs ls hP hS hl
  exact lv_irem hx hb d hy (n ht H locs ls hP hS hl)
theorem rv_dup (h : rv_Rl D ad ca l own cc nL fr lo K) (pc : Nat) {v : Value} (d : decode cc pc = .ok (.dup, 1)) (hv : v.category = 1) (n : K (pc + 1) lv (v :: v :: st) w t) : K pc lv (v :: st) w t := by
  obtain ⟨p, e, R, s, m, args, below, meth, c, A, cs, sl, Q, rv, rw, hx, hb, hml, hown, hts, hK, ⟨hJ, hN⟩, hA, hR, rfl⟩ := h
  intro ht H locs ls hP hS hl
  exact lv_dup hx hb d hv (n ht H locs ls hP hS hl)
theorem rv_dup2 (h : rv_Rl D ad ca l own cc nL fr lo K) (pc : Nat) {v u : Value} (d : decode cc pc = .ok (.dup2, 1)) (hv : v.category = 1) (hu : u.category = 1) (n : K (pc + 1) lv (v :: u :: v :: u :: st) w t) : K pc lv (v :: u :: st) w t := by
  obtain ⟨p, e, R, s, m, args, below, meth, c, A, cs, sl, Q, rv, rw, hx, hb, hml, hown, hts, hK, ⟨hJ, hN⟩, hA, hR, rfl⟩ := h
  intro ht H locs ls hP hS hl
  exact lv_dup2_11 hx hb d hv hu (n ht H locs ls hP hS hl)
theorem rv_pop (h : rv_Rl D ad ca l own cc nL fr lo K) (pc : Nat) {v : Value} (d : decode cc pc = .ok (.pop, 1)) (hv : v.category = 1) (n : K (pc + 1) lv st w t) : K pc lv (v :: st) w t := by
  obtain ⟨p, e, R, s, m, args, below, meth, c, A, cs, sl, Q, rv, rw, hx, hb, hml, hown, hts, hK, ⟨hJ, hN⟩, hA, hR, rfl⟩ := h
  intro ht H locs ls hP hS hl
  exact lv_pop hx hb d hv (n ht H locs ls hP hS hl)
theorem rv_goto (h : rv_Rl D ad ca l own cc nL fr lo K) (pc : Nat) {off : Int} {tgt : Nat} (d : decode cc pc = .ok (.goto off, 3)) (e0 : (pc : Int) + off = (tgt : Int)) (n : K tgt lv st w t) : K pc lv st w t := by
  obtain ⟨p, e, R, s, m, args, below, meth, c, A, cs, sl, Q, rv, rw, hx, hb, hml, hown, hts, hK, ⟨hJ, hN⟩, hA, hR, rfl⟩ := h
  intro ht H locs ls hP hS hl
  exact lv_goto hx hb d e0 (n ht H locs ls hP hS hl)
theorem rv_ifnull (h : rv_Rl D ad ca l own cc nL fr lo K) (pc : Nat) {x : Nat} {off : Int} (d : decode cc pc = .ok (.ifnull off, 3)) (n : K (pc + 3) lv st w t) : K pc lv (.ref x :: st) w t := by
  obtain ⟨p, e, R, s, m, args, below, meth, c, A, cs, sl, Q, rv, rw, hx, hb, hml, hown, hts, hK, ⟨hJ, hN⟩, hA, hR, rfl⟩ := h
  intro ht H locs ls hP hS hl
  exact lv_ifnull hx hb d (n ht H locs ls hP hS hl)
theorem rv_if_eq (h : rv_Rl D ad ca l own cc nL fr lo K) (pc : Nat) {x : Int32} {off : Int} {tgt : Nat} (d : decode cc pc = .ok (.ifCond .eq off, 3)) (e0 : (pc : Int) + off = (tgt : Int)) [Decidable (x = 0)] (n1 : x = 0 → K tgt lv st w t1) (n2 : ¬ x = 0 → K (pc + 3) lv st w t2) : K pc lv (.int x :: st) w (if x = 0 then t1 else t2) := by
  obtain ⟨p, e, R, s, m, args, below, meth, c, A, cs, sl, Q, rv, rw, hx, hb, hml, hown, hts, hK, ⟨hJ, hN⟩, hA, hR, rfl⟩ := h
  intro ht H locs ls hP hS hl
  exact lv_if_eq hx hb d e0 (fun c0 => n1 (c0) (by rwa [if_pos (c0)] at ht) H locs ls hP hS hl) (fun c0 => n2 (c0) (by rwa [if_neg (c0)] at ht) H locs ls hP hS hl)
theorem rv_if_ne (h : rv_Rl D ad ca l own cc nL fr lo K) (pc : Nat) {x : Int32} {off : Int} {tgt : Nat} (d : decode cc pc = .ok (.ifCond .ne off, 3)) (e0 : (pc : Int) + off = (tgt : Int)) [Decidable (x = 0)] (n1 : x = 0 → K (pc + 3) lv st w t1) (n2 : ¬ x = 0 → K tgt lv st w t2) : K pc lv (.int x :: st) w (if x = 0 then t1 else t2) := by
  obtain ⟨p, e, R, s, m, args, below, meth, c, A, cs, sl, Q, rv, rw, hx, hb, hml, hown, hts, hK, ⟨hJ, hN⟩, hA, hR, rfl⟩ := h
  intro ht H locs ls hP hS hl
  exact lv_if_ne hx hb d e0 (fun c0 => n2 (c0) (by rwa [if_neg (c0)] at ht) H locs ls hP hS hl) (fun c0 => n1 (c0) (by rwa [if_pos (c0)] at ht) H locs ls hP hS hl)
theorem rv_if_lt (h : rv_Rl D ad ca l own cc nL fr lo K) (pc : Nat) {x : Int32} {off : Int} {tgt : Nat} (d : decode cc pc = .ok (.ifCond .lt off, 3)) (e0 : (pc : Int) + off = (tgt : Int)) [Decidable (x < 0)] (n1 : x < 0 → K tgt lv st w t1) (n2 : ¬ x < 0 → K (pc + 3) lv st w t2) : K pc lv (.int x :: st) w (if x < 0 then t1 else t2) := by
  obtain ⟨p, e, R, s, m, args, below, meth, c, A, cs, sl, Q, rv, rw, hx, hb, hml, hown, hts, hK, ⟨hJ, hN⟩, hA, hR, rfl⟩ := h
  intro ht H locs ls hP hS hl
  exact lv_if_lt hx hb d e0 (fun c0 => n1 (c0) (by rwa [if_pos (c0)] at ht) H locs ls hP hS hl) (fun c0 => n2 (c0) (by rwa [if_neg (c0)] at ht) H locs ls hP hS hl)
theorem rv_if_ge (h : rv_Rl D ad ca l own cc nL fr lo K) (pc : Nat) {x : Int32} {off : Int} {tgt : Nat} (d : decode cc pc = .ok (.ifCond .ge off, 3)) (e0 : (pc : Int) + off = (tgt : Int)) [Decidable (x < 0)] (n1 : x < 0 → K (pc + 3) lv st w t1) (n2 : ¬ x < 0 → K tgt lv st w t2) : K pc lv (.int x :: st) w (if x < 0 then t1 else t2) := by
  obtain ⟨p, e, R, s, m, args, below, meth, c, A, cs, sl, Q, rv, rw, hx, hb, hml, hown, hts, hK, ⟨hJ, hN⟩, hA, hR, rfl⟩ := h
  intro ht H locs ls hP hS hl
  exact lv_if_ge hx hb d e0 (fun c0 => n2 (Int32.not_lt.mpr c0) (by rwa [if_neg (Int32.not_lt.mpr c0)] at ht) H locs ls hP hS hl) (fun c0 => n1 (Int32.not_le.mp c0) (by rwa [if_pos (Int32.not_le.mp c0)] at ht) H locs ls hP hS hl)
theorem rv_if_gt (h : rv_Rl D ad ca l own cc nL fr lo K) (pc : Nat) {x : Int32} {off : Int} {tgt : Nat} (d : decode cc pc = .ok (.ifCond .gt off, 3)) (e0 : (pc : Int) + off = (tgt : Int)) [Decidable (0 < x)] (n1 : 0 < x → K tgt lv st w t1) (n2 : ¬ 0 < x → K (pc + 3) lv st w t2) : K pc lv (.int x :: st) w (if 0 < x then t1 else t2) := by
  obtain ⟨p, e, R, s, m, args, below, meth, c, A, cs, sl, Q, rv, rw, hx, hb, hml, hown, hts, hK, ⟨hJ, hN⟩, hA, hR, rfl⟩ := h
  intro ht H locs ls hP hS hl
  exact lv_if_gt hx hb d e0 (fun c0 => n1 (c0) (by rwa [if_pos (c0)] at ht) H locs ls hP hS hl) (fun c0 => n2 (c0) (by rwa [if_neg (c0)] at ht) H locs ls hP hS hl)
theorem rv_if_le (h : rv_Rl D ad ca l own cc nL fr lo K) (pc : Nat) {x : Int32} {off : Int} {tgt : Nat} (d : decode cc pc = .ok (.ifCond .le off, 3)) (e0 : (pc : Int) + off = (tgt : Int)) [Decidable (0 < x)] (n1 : 0 < x → K (pc + 3) lv st w t1) (n2 : ¬ 0 < x → K tgt lv st w t2) : K pc lv (.int x :: st) w (if 0 < x then t1 else t2) := by
  obtain ⟨p, e, R, s, m, args, below, meth, c, A, cs, sl, Q, rv, rw, hx, hb, hml, hown, hts, hK, ⟨hJ, hN⟩, hA, hR, rfl⟩ := h
  intro ht H locs ls hP hS hl
  exact lv_if_le hx hb d e0 (fun c0 => n2 (Int32.not_lt.mpr c0) (by rwa [if_neg (Int32.not_lt.mpr c0)] at ht) H locs ls hP hS hl) (fun c0 => n1 (Int32.not_le.mp c0) (by rwa [if_pos (Int32.not_le.mp c0)] at ht) H locs ls hP hS hl)
theorem rv_icmp_eq (h : rv_Rl D ad ca l own cc nL fr lo K) (pc : Nat) {x y : Int32} {off : Int} {tgt : Nat} (d : decode cc pc = .ok (.if_icmp .eq off, 3)) (e0 : (pc : Int) + off = (tgt : Int)) [Decidable (x = y)] (n1 : x = y → K tgt lv st w t1) (n2 : ¬ x = y → K (pc + 3) lv st w t2) : K pc lv (.int y :: .int x :: st) w (if x = y then t1 else t2) := by
  obtain ⟨p, e, R, s, m, args, below, meth, c, A, cs, sl, Q, rv, rw, hx, hb, hml, hown, hts, hK, ⟨hJ, hN⟩, hA, hR, rfl⟩ := h
  intro ht H locs ls hP hS hl
  exact lv_icmp_eq hx hb d e0 (fun c0 => n1 (c0) (by rwa [if_pos (c0)] at ht) H locs ls hP hS hl) (fun c0 => n2 (c0) (by rwa [if_neg (c0)] at ht) H locs ls hP hS hl)
theorem rv_icmp_ne (h : rv_Rl D ad ca l own cc nL fr lo K) (pc : Nat) {x y : Int32} {off : Int} {tgt : Nat} (d : decode cc pc = .ok (.if_icmp .ne off, 3)) (e0 : (pc : Int) + off = (tgt : Int)) [Decidable (x = y)] (n1 : x = y → K (pc + 3) lv st w t1) (n2 : ¬ x = y → K tgt lv st w t2) : K pc lv (.int y :: .int x :: st) w (if x = y then t1 else t2) := by
  obtain ⟨p, e, R, s, m, args, below, meth, c, A, cs, sl, Q, rv, rw, hx, hb, hml, hown, hts, hK, ⟨hJ, hN⟩, hA, hR, rfl⟩ := h
  intro ht H locs ls hP hS hl
  exact lv_icmp_ne hx hb d e0 (fun c0 => n2 (c0) (by rwa [if_neg (c0)] at ht) H locs ls hP hS hl) (fun c0 => n1 (c0) (by rwa [if_pos (c0)] at ht) H locs ls hP hS hl)
theorem rv_icmp_lt (h : rv_Rl D ad ca l own cc nL fr lo K) (pc : Nat) {x y : Int32} {off : Int} {tgt : Nat} (d : decode cc pc = .ok (.if_icmp .lt off, 3)) (e0 : (pc : Int) + off = (tgt : Int)) [Decidable (x < y)] (n1 : x < y → K tgt lv st w t1) (n2 : ¬ x < y → K (pc + 3) lv st w t2) : K pc lv (.int y :: .int x :: st) w (if x < y then t1 else t2) := by
  obtain ⟨p, e, R, s, m, args, below, meth, c, A, cs, sl, Q, rv, rw, hx, hb, hml, hown, hts, hK, ⟨hJ, hN⟩, hA, hR, rfl⟩ := h
  intro ht H locs ls hP hS hl
  exact lv_icmp_lt hx hb d e0 (fun c0 => n1 (c0) (by rwa [if_pos (c0)] at ht) H locs ls hP hS hl) (fun c0 => n2 (c0) (by rwa [if_neg (c0)] at ht) H locs ls hP hS hl)
theorem rv_icmp_ge (h : rv_Rl D ad ca l own cc nL fr lo K) (pc : Nat) {x y : Int32} {off : Int} {tgt : Nat} (d : decode cc pc = .ok (.if_icmp .ge off, 3)) (e0 : (pc : Int) + off = (tgt : Int)) [Decidable (x < y)] (n1 : x < y → K (pc + 3) lv st w t1) (n2 : ¬ x < y → K tgt lv st w t2) : K pc lv (.int y :: .int x :: st) w (if x < y then t1 else t2) := by
  obtain ⟨p, e, R, s, m, args, below, meth, c, A, cs, sl, Q, rv, rw, hx, hb, hml, hown, hts, hK, ⟨hJ, hN⟩, hA, hR, rfl⟩ := h
  intro ht H locs ls hP hS hl
  exact lv_icmp_ge hx hb d e0 (fun c0 => n2 (Int32.not_lt.mpr c0) (by rwa [if_neg (Int32.not_lt.mpr c0)] at ht) H locs ls hP hS hl) (fun c0 => n1 (Int32.not_le.mp c0) (by rwa [if_pos (Int32.not_le.mp c0)] at ht) H locs ls hP hS hl)
theorem rv_icmp_gt (h : rv_Rl D ad ca l own cc nL fr lo K) (pc : Nat) {x y : Int32} {off : Int} {tgt : Nat} (d : decode cc pc = .ok (.if_icmp .gt off, 3)) (e0 : (pc : Int) + off = (tgt : Int)) [Decidable (y < x)] (n1 : y < x → K tgt lv st w t1) (n2 : ¬ y < x → K (pc + 3) lv st w t2) : K pc lv (.int y :: .int x :: st) w (if y < x then t1 else t2) := by
  obtain ⟨p, e, R, s, m, args, below, meth, c, A, cs, sl, Q, rv, rw, hx, hb, hml, hown, hts, hK, ⟨hJ, hN⟩, hA, hR, rfl⟩ := h
  intro ht H locs ls hP hS hl
  exact lv_icmp_gt hx hb d e0 (fun c0 => n1 (c0) (by rwa [if_pos (c0)] at ht) H locs ls hP hS hl) (fun c0 => n2 (c0) (by rwa [if_neg (c0)] at ht) H locs ls hP hS hl)
theorem rv_icmp_le (h : rv_Rl D ad ca l own cc nL fr lo K) (pc : Nat) {x y : Int32} {off : Int} {tgt : Nat} (d : decode cc pc = .ok (.if_icmp .le off, 3)) (e0 : (pc : Int) + off = (tgt : Int)) [Decidable (y < x)] (n1 : y < x → K (pc + 3) lv st w t1) (n2 : ¬ y < x → K tgt lv st w t2) : K pc lv (.int y :: .int x :: st) w (if y < x then t1 else t2) := by
  obtain ⟨p, e, R, s, m, args, below, meth, c, A, cs, sl, Q, rv, rw, hx, hb, hml, hown, hts, hK, ⟨hJ, hN⟩, hA, hR, rfl⟩ := h
  intro ht H locs ls hP hS hl
  exact lv_icmp_le hx hb d e0 (fun c0 => n2 (Int32.not_lt.mpr c0) (by rwa [if_neg (Int32.not_lt.mpr c0)] at ht) H locs ls hP hS hl) (fun c0 => n1 (Int32.not_le.mp c0) (by rwa [if_pos (Int32.not_le.mp c0)] at ht) H locs ls hP hS hl)
theorem rv_swIn (h : rv_Rl D ad ca l own cc nL fr lo K) (pc : Nat) {dflt lo0 hi0 : Int} {offs : Array Int} {len : Nat} {x : Int32} {off : Int} {tgt : Nat} (d : decode cc pc = .ok (.tableswitch dflt lo0 hi0 offs, len)) (x0 : Int32) (ex : x = x0) (h1 : ¬ x0.toInt < lo0) (h2 : ¬ hi0 < x0.toInt) (ho : offs[(x0.toInt - lo0).toNat]? = some off) (e0 : (pc : Int) + off = (tgt : Int)) (n : K tgt lv st w t) : K pc lv (.int x :: st) w t := by
  obtain ⟨p, e, R, s, m, args, below, meth, c, A, cs, sl, Q, rv, rw, hx, hb, hml, hown, hts, hK, ⟨hJ, hN⟩, hA, hR, rfl⟩ := h
  intro ht H locs ls hP hS hl
  subst ex
  exact lv_tableIn hx hb d h1 h2 ho e0 (n ht H locs ls hP hS hl)
theorem rv_swOut (h : rv_Rl D ad ca l own cc nL fr lo K) (pc : Nat) {dflt lo0 hi0 : Int} {offs : Array Int} {len : Nat} {x : Int32} {tgt : Nat} (d : decode cc pc = .ok (.tableswitch dflt lo0 hi0 offs, len)) (h1 : x.toInt < lo0 ∨ hi0 < x.toInt) (e0 : (pc : Int) + dflt = (tgt : Int)) (n : K tgt lv st w t) : K pc lv (.int x :: st) w t := by
  obtain ⟨p, e, R, s, m, args, below, meth, c, A, cs, sl, Q, rv, rw, hx, hb, hml, hown, hts, hK, ⟨hJ, hN⟩, hA, hR, rfl⟩ := h
  intro ht H locs ls hP hS hl
  exact lv_tableOut hx hb d h1 e0 (n ht H locs ls hP hS hl)
end RULES
