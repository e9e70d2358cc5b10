theorem rv_fx_ind3 {α : Type} {bot bot' : α} {F G : α → α} (P : α → α → Prop) (h0 : P bot bot') (hs : ∀ a b, P a b → P (F a) (G b)) : ∀ n, P (rv_fx bot F n) (rv_fx bot' G n)
  | 0 => h0
  | n + 1 => hs _ _ (rv_fx_ind3 P h0 hs n)
theorem rv_un_none {w : rv_W} : rv_un none none w := rfl
theorem rv_un_lt {α : Type} {a : α} {k k0 : α → rv_R} {w : rv_W} (h : rv_un (k a) (k0 a) w) : rv_un (rv_lt a k) (rv_lt a k0) w := h
theorem rv_un_jn {α : Type} {k k0 : α} {f f0 : α → rv_R} {w : rv_W} (h : rv_un (f k) (f0 k0) w) : rv_un (rv_jn k f) (rv_jn k0 f0) w := h
theorem rv_un_gd {c : Prop} [Decidable c] {a a0 : rv_R} {w : rv_W} (h : rv_un a a0 w) : rv_un (rv_gd c a) (rv_gd c a0) w := by
  unfold rv_gd
  split
  · exact h
  · rfl
theorem rv_un_ck {i : Int32} {n : Nat} {a a0 : rv_R} {w : rv_W} (h : rv_un a a0 w) : rv_un (rv_ck i n a) (rv_ck i n a0) w := by
  unfold rv_ck
  split
  · exact h
  · rfl
theorem un_X0_at {p1 p2 : Int32} {w u : rv_W} : rv_un (f_X0_at p1 p2 w) (f_X0_at p1 p2 u) w := by
  unfold f_X0_at
  repeat' (with_reducible first | exact rv_un_some | apply rv_un_if | (refine rv_un_bd ?_ (fun _ _ => ?_)) | refine rv_un_lt ?_ | refine rv_un_jn ?_ | refine rv_un_gd ?_ | fail)
theorem un_X0_length {p1 : Int32} {w u : rv_W} : rv_un (f_X0_length p1 w) (f_X0_length p1 u) w := by
  unfold f_X0_length
  repeat' (with_reducible first | exact rv_un_some | apply rv_un_if | exact un_X0_at | (refine rv_un_bd ?_ (fun _ _ => ?_)) | refine rv_un_lt ?_ | refine rv_un_jn ?_ | refine rv_un_gd ?_ | (refine rv_fx_ind3 (α := Int32 → rv_W → rv_R) (fun x y => ∀ (p0 : Int32) (w u : rv_W), rv_un (x p0 w) (y p0 u) w) (fun _ _ _ => rv_un_none) (fun x0 y0 h0 p0 w u => ?_) _ _ _ _) | exact h0 _ _ _ | fail)
theorem un_X0_placeOf {p1 p2 : Int32} {w u : rv_W} : rv_un (f_X0_placeOf p1 p2 w) (f_X0_placeOf p1 p2 u) w := by
  unfold f_X0_placeOf
  repeat' (with_reducible first | exact rv_un_some | apply rv_un_if | exact un_X0_at | (refine rv_un_bd ?_ (fun _ _ => ?_)) | refine rv_un_lt ?_ | refine rv_un_jn ?_ | refine rv_un_gd ?_ | (refine rv_fx_ind3 (α := Int32 → rv_W → rv_R) (fun x y => ∀ (p0 : Int32) (w u : rv_W), rv_un (x p0 w) (y p0 u) w) (fun _ _ _ => rv_un_none) (fun x0 y0 h0 p0 w u => ?_) _ _ _ _) | exact h0 _ _ _ | fail)
theorem un_X0_append {p1 p2 : Int32} {w u : rv_W} : rv_un (f_X0_append p1 p2 w) (f_X0_append p1 p2 u) w := by
  unfold f_X0_append
  repeat' (with_reducible first | exact rv_un_some | apply rv_un_if | exact un_X0_length | (refine rv_un_bd ?_ (fun _ _ => ?_)) | refine rv_un_lt ?_ | refine rv_un_jn ?_ | refine rv_un_gd ?_ | fail)
theorem un_X1_exists {p1 : Int32} {w u : rv_W} : rv_un (f_X1_exists p1 w) (f_X1_exists p1 u) w := by
  unfold f_X1_exists
  repeat' (with_reducible first | exact rv_un_some | apply rv_un_if | (refine rv_un_bd ?_ (fun _ _ => ?_)) | refine rv_un_lt ?_ | refine rv_un_jn ?_ | refine rv_un_gd ?_ | fail)
theorem un_X1_has {p1 p2 : Int32} {w u : rv_W} : rv_un (f_X1_has p1 p2 w) (f_X1_has p1 p2 u) w := by
  unfold f_X1_has
  repeat' (with_reducible first | exact rv_un_some | apply rv_un_if | (refine rv_un_bd ?_ (fun _ _ => ?_)) | refine rv_un_lt ?_ | refine rv_un_jn ?_ | refine rv_un_gd ?_ | fail)
theorem un_X0_fromDigits {p1 : Int32} {w u : rv_W} : rv_un (f_X0_fromDigits p1 w) (f_X0_fromDigits p1 u) w := by
  unfold f_X0_fromDigits
  repeat' (with_reducible first | exact rv_un_some | apply rv_un_if | exact un_X1_exists | exact un_X1_has | (refine rv_un_bd ?_ (fun _ _ => ?_)) | refine rv_un_lt ?_ | refine rv_un_jn ?_ | refine rv_un_gd ?_ | (refine rv_fx_ind3 (α := Int32 → Int32 → Int32 → Int32 → rv_W → rv_R) (fun x y => ∀ (p0 p1 p2 p3 : Int32) (w u : rv_W), rv_un (x p0 p1 p2 p3 w) (y p0 p1 p2 p3 u) w) (fun _ _ _ _ _ _ => rv_un_none) (fun x0 y0 h0 p0 p1 p2 p3 w u => ?_) _ _ _ _ _ _ _) | exact h0 _ _ _ _ _ _ | fail)
theorem un_X0_toDigits {p1 : Int32} {w u : rv_W} : rv_un (f_X0_toDigits p1 w) (f_X0_toDigits p1 u) w := by
  unfold f_X0_toDigits
  repeat' (with_reducible first | exact rv_un_some | apply rv_un_if | exact un_X0_at | exact un_X0_length | (refine rv_un_bd ?_ (fun _ _ => ?_)) | refine rv_un_lt ?_ | refine rv_un_jn ?_ | refine rv_un_gd ?_ | (refine rv_fx_ind3 (α := Int32 → Int32 → rv_W → rv_R) (fun x y => ∀ (p0 p1 : Int32) (w u : rv_W), rv_un (x p0 p1 w) (y p0 p1 u) w) (fun _ _ _ _ => rv_un_none) (fun x0 y0 h0 p0 p1 w u => ?_) _ _ _ _ _) | exact h0 _ _ _ _ | fail)
theorem un_X0_within {p1 p2 : Int32} {w u : rv_W} : rv_un (f_X0_within p1 p2 w) (f_X0_within p1 p2 u) w := by
  unfold f_X0_within
  repeat' (with_reducible first | exact rv_un_some | apply rv_un_if | exact un_X0_at | exact un_X1_has | (refine rv_un_bd ?_ (fun _ _ => ?_)) | refine rv_un_lt ?_ | refine rv_un_jn ?_ | refine rv_un_gd ?_ | (refine rv_fx_ind3 (α := Int32 → Int32 → Int32 → rv_W → rv_R) (fun x y => ∀ (p0 p1 p2 : Int32) (w u : rv_W), rv_un (x p0 p1 p2 w) (y p0 p1 p2 u) w) (fun _ _ _ _ _ => rv_un_none) (fun x0 y0 h0 p0 p1 p2 w u => ?_) _ _ _ _ _ _) | exact h0 _ _ _ _ _ | fail)
theorem un_X0_exchanged {p1 p2 : Int32} {w u : rv_W} : rv_un (f_X0_exchanged p1 p2 w) (f_X0_exchanged p1 p2 u) w := by
  unfold f_X0_exchanged
  repeat' (with_reducible first | exact rv_un_some | apply rv_un_if | exact un_X0_at | (refine rv_un_bd ?_ (fun _ _ => ?_)) | refine rv_un_lt ?_ | refine rv_un_jn ?_ | refine rv_un_gd ?_ | fail)
theorem un_X0_prefers {p1 p2 p3 : Int32} {w u : rv_W} : rv_un (f_X0_prefers p1 p2 p3 w) (f_X0_prefers p1 p2 p3 u) w := by
  unfold f_X0_prefers
  repeat' (with_reducible first | exact rv_un_some | apply rv_un_if | exact un_X0_placeOf | (refine rv_un_bd ?_ (fun _ _ => ?_)) | refine rv_un_lt ?_ | refine rv_un_jn ?_ | refine rv_un_gd ?_ | fail)
theorem un_X0_factorial {p1 : Int32} {w u : rv_W} : rv_un (f_X0_factorial p1 w) (f_X0_factorial p1 u) w := by
  unfold f_X0_factorial
  repeat' (with_reducible first | exact rv_un_some | apply rv_un_if | (refine rv_un_bd ?_ (fun _ _ => ?_)) | refine rv_un_lt ?_ | refine rv_un_jn ?_ | refine rv_un_gd ?_ | (refine rv_fx_ind3 (α := Int32 → Int32 → rv_W → rv_R) (fun x y => ∀ (p0 p1 : Int32) (w u : rv_W), rv_un (x p0 p1 w) (y p0 p1 u) w) (fun _ _ _ _ => rv_un_none) (fun x0 y0 h0 p0 p1 w u => ?_) _ _ _ _ _) | exact h0 _ _ _ _ | fail)
theorem un_J6_bitCount_0f7a4 {p1 : Int32} {w u : rv_W} : rv_un (f_J6_bitCount_0f7a4 p1 w) (f_J6_bitCount_0f7a4 p1 u) w := by
  unfold f_J6_bitCount_0f7a4
  repeat' (with_reducible first | exact rv_un_some | apply rv_un_if | (refine rv_un_bd ?_ (fun _ _ => ?_)) | refine rv_un_lt ?_ | refine rv_un_jn ?_ | refine rv_un_gd ?_ | fail)
theorem un_X1_without {p1 p2 : Int32} {w u : rv_W} : rv_un (f_X1_without p1 p2 w) (f_X1_without p1 p2 u) w := by
  unfold f_X1_without
  repeat' (with_reducible first | exact rv_un_some | apply rv_un_if | (refine rv_un_bd ?_ (fun _ _ => ?_)) | refine rv_un_lt ?_ | refine rv_un_jn ?_ | refine rv_un_gd ?_ | fail)
theorem un_X0_order {p1 p2 : Int32} {w u : rv_W} : rv_un (f_X0_order p1 p2 w) (f_X0_order p1 p2 u) w := by
  unfold f_X0_order
  repeat' (with_reducible first | exact rv_un_some | apply rv_un_if | exact un_J6_bitCount_0f7a4 | exact un_X0_factorial | exact un_X1_has | exact un_X1_without | (refine rv_un_bd ?_ (fun _ _ => ?_)) | refine rv_un_lt ?_ | refine rv_un_jn ?_ | refine rv_un_gd ?_ | (refine rv_fx_ind3 (α := Int32 → Int32 → Int32 → Int32 → rv_W → rv_R) (fun x y => ∀ (p0 p1 p2 p3 : Int32) (w u : rv_W), rv_un (x p0 p1 p2 p3 w) (y p0 p1 p2 p3 u) w) (fun _ _ _ _ _ _ => rv_un_none) (fun x0 y0 h0 p0 p1 p2 p3 w u => ?_) _ _ _ _ _ _ _) | exact h0 _ _ _ _ _ _ | (refine rv_fx_ind3 (α := Int32 → Int32 → rv_W → rv_R) (fun x y => ∀ (p0 p1 : Int32) (w u : rv_W), rv_un (x p0 p1 w) (y p0 p1 u) w) (fun _ _ _ _ => rv_un_none) (fun x1 y1 h1 p0 p1 w u => ?_) _ _ _ _ _) | exact h1 _ _ _ _ | fail)
theorem un_X1_lowest {p1 : Int32} {w u : rv_W} : rv_un (f_X1_lowest p1 w) (f_X1_lowest p1 u) w := by
  unfold f_X1_lowest
  repeat' (with_reducible first | exact rv_un_some | apply rv_un_if | exact un_X1_has | (refine rv_un_bd ?_ (fun _ _ => ?_)) | refine rv_un_lt ?_ | refine rv_un_jn ?_ | refine rv_un_gd ?_ | (refine rv_fx_ind3 (α := Int32 → rv_W → rv_R) (fun x y => ∀ (p0 : Int32) (w u : rv_W), rv_un (x p0 w) (y p0 u) w) (fun _ _ _ => rv_un_none) (fun x0 y0 h0 p0 w u => ?_) _ _ _ _) | exact h0 _ _ _ | fail)
theorem un_X9_isDigit {p1 : Int32} {w u : rv_W} : rv_un (f_X9_isDigit p1 w) (f_X9_isDigit p1 u) w := by
  unfold f_X9_isDigit
  repeat' (with_reducible first | exact rv_un_some | apply rv_un_if | (refine rv_un_bd ?_ (fun _ _ => ?_)) | refine rv_un_lt ?_ | refine rv_un_jn ?_ | refine rv_un_gd ?_ | fail)
theorem un_X10_isGroupSize {p1 : Int32} {w u : rv_W} : rv_un (f_X10_isGroupSize p1 w) (f_X10_isGroupSize p1 u) w := by
  unfold f_X10_isGroupSize
  repeat' (with_reducible first | exact rv_un_some | apply rv_un_if | (refine rv_un_bd ?_ (fun _ _ => ?_)) | refine rv_un_lt ?_ | refine rv_un_jn ?_ | refine rv_un_gd ?_ | fail)
theorem un_X10_isRule {p1 : Int32} {w u : rv_W} : rv_un (f_X10_isRule p1 w) (f_X10_isRule p1 u) w := by
  unfold f_X10_isRule
  repeat' (with_reducible first | exact rv_un_some | apply rv_un_if | (refine rv_un_bd ?_ (fun _ _ => ?_)) | refine rv_un_lt ?_ | refine rv_un_jn ?_ | refine rv_un_gd ?_ | fail)
theorem un_X10_goesByPoints {p1 : Int32} {w u : rv_W} : rv_un (f_X10_goesByPoints p1 w) (f_X10_goesByPoints p1 u) w := by
  unfold f_X10_goesByPoints
  repeat' (with_reducible first | exact rv_un_some | apply rv_un_if | (refine rv_un_bd ?_ (fun _ _ => ?_)) | refine rv_un_lt ?_ | refine rv_un_jn ?_ | refine rv_un_gd ?_ | fail)
theorem un_X10_orNone {p1 : Int32} {w u : rv_W} : rv_un (f_X10_orNone p1 w) (f_X10_orNone p1 u) w := by
  unfold f_X10_orNone
  repeat' (with_reducible first | exact rv_un_some | apply rv_un_if | (refine rv_un_bd ?_ (fun _ _ => ?_)) | refine rv_un_lt ?_ | refine rv_un_jn ?_ | refine rv_un_gd ?_ | fail)
theorem un_X10_goesByRounds {p1 : Int32} {w u : rv_W} : rv_un (f_X10_goesByRounds p1 w) (f_X10_goesByRounds p1 u) w := by
  unfold f_X10_goesByRounds
  repeat' (with_reducible first | exact rv_un_some | apply rv_un_if | (refine rv_un_bd ?_ (fun _ _ => ?_)) | refine rv_un_lt ?_ | refine rv_un_jn ?_ | refine rv_un_gd ?_ | fail)
theorem un_X10_isSampleSize {p1 : Int32} {w u : rv_W} : rv_un (f_X10_isSampleSize p1 w) (f_X10_isSampleSize p1 u) w := by
  unfold f_X10_isSampleSize
  repeat' (with_reducible first | exact rv_un_some | apply rv_un_if | (refine rv_un_bd ?_ (fun _ _ => ?_)) | refine rv_un_lt ?_ | refine rv_un_jn ?_ | refine rv_un_gd ?_ | fail)
