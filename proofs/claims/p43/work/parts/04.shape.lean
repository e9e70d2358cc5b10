/-! the cells of the system: 0.. the class; a shape a cell: an object (class, fields: a cell or a number), or an array (kind 0 int, 1 char, 2 is 0, 3 State, 4 int[]; length; first row) -/
abbrev rv_S : Type := (Nat × List (Option Nat)) ⊕ (Nat × Nat × Nat)
def rv_tab : List rv_S := [.inl (8, [some 1, some 4, none, some 20, some 24, some 53, some 77]), .inl (6, [none, none, some 2, some 3]), .inr (0, 20, 0), .inr (0, 20, 0), .inr (3, 5, 0), .inl (6, [none, none, some 6, some 7]), .inr (0, 20, 0), .inr (0, 20, 0), .inl (6, [none, none, some 9, some 10]), .inr (0, 20, 0), .inr (0, 20, 0), .inl (6, [none, none, some 12, some 13]), .inr (0, 20, 0), .inr (0, 20, 0), .inl (6, [none, none, some 15, some 16]), .inr (0, 20, 0), .inr (0, 20, 0), .inl (6, [none, none, some 18, some 19]), .inr (0, 20, 0), .inr (0, 20, 0), .inl (7, [none, none, none, some 21, some 22, some 23]), .inr (1, 100, 0), .inr (0, 20, 0), .inr (0, 20, 0), .inl (3, [none, none, some 25, some 31, some 32]), .inr (4, 5, 26), .inr (0, 5, 0), .inr (0, 5, 0), .inr (0, 5, 0), .inr (0, 5, 0), .inr (0, 5, 0), .inr (0, 20, 0), .inr (4, 20, 33), .inr (0, 5, 0), .inr (0, 5, 0), .inr (0, 5, 0), .inr (0, 5, 0), .inr (0, 5, 0), .inr (0, 5, 0), .inr (0, 5, 0), .inr (0, 5, 0), .inr (0, 5, 0), .inr (0, 5, 0), .inr (0, 5, 0), .inr (0, 5, 0), .inr (0, 5, 0), .inr (0, 5, 0), .inr (0, 5, 0), .inr (0, 5, 0), .inr (0, 5, 0), .inr (0, 5, 0), .inr (0, 5, 0), .inr (0, 5, 0), .inl (5, [some 54, some 56, some 66, some 75]), .inl (2, [some 55]), .inr (0, 5, 0), .inl (4, [none, some 57, some 58, some 59, some 65]), .inr (0, 5, 0), .inr (0, 5, 0), .inr (4, 5, 60), .inr (0, 5, 0), .inr (0, 5, 0), .inr (0, 5, 0), .inr (0, 5, 0), .inr (0, 5, 0), .inr (0, 5, 0), .inl (0, [some 67, some 73, some 74]), .inr (4, 5, 68), .inr (0, 5, 0), .inr (0, 5, 0), .inr (0, 5, 0), .inr (0, 5, 0), .inr (0, 5, 0), .inr (0, 5, 0), .inr (0, 5, 0), .inl (1, [some 76]), .inr (0, 32, 0), .inr (0, 5, 0)]
def rv_N : Nat := 78
def rv_sh (k : Nat) : rv_S := rv_tab.getD k (.inr (9, 0, 0))
theorem rv_s0 : rv_sh 0 = .inl (8, [some 1, some 4, none, some 20, some 24, some 53, some 77]) := rfl
theorem rv_s1 : rv_sh 1 = .inl (6, [none, none, some 2, some 3]) := rfl
theorem rv_s2 : rv_sh 2 = .inr (0, 20, 0) := rfl
theorem rv_s3 : rv_sh 3 = .inr (0, 20, 0) := rfl
theorem rv_s4 : rv_sh 4 = .inr (3, 5, 0) := rfl
theorem rv_s5 : rv_sh 5 = .inl (6, [none, none, some 6, some 7]) := rfl
theorem rv_s6 : rv_sh 6 = .inr (0, 20, 0) := rfl
theorem rv_s7 : rv_sh 7 = .inr (0, 20, 0) := rfl
theorem rv_s8 : rv_sh 8 = .inl (6, [none, none, some 9, some 10]) := rfl
theorem rv_s9 : rv_sh 9 = .inr (0, 20, 0) := rfl
theorem rv_s10 : rv_sh 10 = .inr (0, 20, 0) := rfl
theorem rv_s11 : rv_sh 11 = .inl (6, [none, none, some 12, some 13]) := rfl
theorem rv_s12 : rv_sh 12 = .inr (0, 20, 0) := rfl
theorem rv_s13 : rv_sh 13 = .inr (0, 20, 0) := rfl
theorem rv_s14 : rv_sh 14 = .inl (6, [none, none, some 15, some 16]) := rfl
theorem rv_s15 : rv_sh 15 = .inr (0, 20, 0) := rfl
theorem rv_s16 : rv_sh 16 = .inr (0, 20, 0) := rfl
theorem rv_s17 : rv_sh 17 = .inl (6, [none, none, some 18, some 19]) := rfl
theorem rv_s18 : rv_sh 18 = .inr (0, 20, 0) := rfl
theorem rv_s19 : rv_sh 19 = .inr (0, 20, 0) := rfl
theorem rv_s20 : rv_sh 20 = .inl (7, [none, none, none, some 21, some 22, some 23]) := rfl
theorem rv_s21 : rv_sh 21 = .inr (1, 100, 0) := rfl
theorem rv_s22 : rv_sh 22 = .inr (0, 20, 0) := rfl
theorem rv_s23 : rv_sh 23 = .inr (0, 20, 0) := rfl
theorem rv_s24 : rv_sh 24 = .inl (3, [none, none, some 25, some 31, some 32]) := rfl
theorem rv_s25 : rv_sh 25 = .inr (4, 5, 26) := rfl
theorem rv_s26 : rv_sh 26 = .inr (0, 5, 0) := rfl
theorem rv_s27 : rv_sh 27 = .inr (0, 5, 0) := rfl
theorem rv_s28 : rv_sh 28 = .inr (0, 5, 0) := rfl
theorem rv_s29 : rv_sh 29 = .inr (0, 5, 0) := rfl
theorem rv_s30 : rv_sh 30 = .inr (0, 5, 0) := rfl
theorem rv_s31 : rv_sh 31 = .inr (0, 20, 0) := rfl
theorem rv_s32 : rv_sh 32 = .inr (4, 20, 33) := rfl
theorem rv_s33 : rv_sh 33 = .inr (0, 5, 0) := rfl
theorem rv_s34 : rv_sh 34 = .inr (0, 5, 0) := rfl
theorem rv_s35 : rv_sh 35 = .inr (0, 5, 0) := rfl
theorem rv_s36 : rv_sh 36 = .inr (0, 5, 0) := rfl
theorem rv_s37 : rv_sh 37 = .inr (0, 5, 0) := rfl
theorem rv_s38 : rv_sh 38 = .inr (0, 5, 0) := rfl
theorem rv_s39 : rv_sh 39 = .inr (0, 5, 0) := rfl
theorem rv_s40 : rv_sh 40 = .inr (0, 5, 0) := rfl
theorem rv_s41 : rv_sh 41 = .inr (0, 5, 0) := rfl
theorem rv_s42 : rv_sh 42 = .inr (0, 5, 0) := rfl
theorem rv_s43 : rv_sh 43 = .inr (0, 5, 0) := rfl
theorem rv_s44 : rv_sh 44 = .inr (0, 5, 0) := rfl
theorem rv_s45 : rv_sh 45 = .inr (0, 5, 0) := rfl
theorem rv_s46 : rv_sh 46 = .inr (0, 5, 0) := rfl
theorem rv_s47 : rv_sh 47 = .inr (0, 5, 0) := rfl
theorem rv_s48 : rv_sh 48 = .inr (0, 5, 0) := rfl
theorem rv_s49 : rv_sh 49 = .inr (0, 5, 0) := rfl
theorem rv_s50 : rv_sh 50 = .inr (0, 5, 0) := rfl
theorem rv_s51 : rv_sh 51 = .inr (0, 5, 0) := rfl
theorem rv_s52 : rv_sh 52 = .inr (0, 5, 0) := rfl
theorem rv_s53 : rv_sh 53 = .inl (5, [some 54, some 56, some 66, some 75]) := rfl
theorem rv_s54 : rv_sh 54 = .inl (2, [some 55]) := rfl
theorem rv_s55 : rv_sh 55 = .inr (0, 5, 0) := rfl
theorem rv_s56 : rv_sh 56 = .inl (4, [none, some 57, some 58, some 59, some 65]) := rfl
theorem rv_s57 : rv_sh 57 = .inr (0, 5, 0) := rfl
theorem rv_s58 : rv_sh 58 = .inr (0, 5, 0) := rfl
theorem rv_s59 : rv_sh 59 = .inr (4, 5, 60) := rfl
theorem rv_s60 : rv_sh 60 = .inr (0, 5, 0) := rfl
theorem rv_s61 : rv_sh 61 = .inr (0, 5, 0) := rfl
theorem rv_s62 : rv_sh 62 = .inr (0, 5, 0) := rfl
theorem rv_s63 : rv_sh 63 = .inr (0, 5, 0) := rfl
theorem rv_s64 : rv_sh 64 = .inr (0, 5, 0) := rfl
theorem rv_s65 : rv_sh 65 = .inr (0, 5, 0) := rfl
theorem rv_s66 : rv_sh 66 = .inl (0, [some 67, some 73, some 74]) := rfl
theorem rv_s67 : rv_sh 67 = .inr (4, 5, 68) := rfl
theorem rv_s68 : rv_sh 68 = .inr (0, 5, 0) := rfl
theorem rv_s69 : rv_sh 69 = .inr (0, 5, 0) := rfl
theorem rv_s70 : rv_sh 70 = .inr (0, 5, 0) := rfl
theorem rv_s71 : rv_sh 71 = .inr (0, 5, 0) := rfl
theorem rv_s72 : rv_sh 72 = .inr (0, 5, 0) := rfl
theorem rv_s73 : rv_sh 73 = .inr (0, 5, 0) := rfl
theorem rv_s74 : rv_sh 74 = .inr (0, 5, 0) := rfl
theorem rv_s75 : rv_sh 75 = .inl (1, [some 76]) := rfl
theorem rv_s76 : rv_sh 76 = .inr (0, 32, 0) := rfl
theorem rv_s77 : rv_sh 77 = .inr (0, 5, 0) := rfl
