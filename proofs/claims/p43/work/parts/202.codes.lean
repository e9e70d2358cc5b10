/-! ballots as octal numbers, sets as numbers below 32 -/
def rv_B : List Nat := [0, 1, 2, 3, 4, 5, 10, 11, 12, 13, 17, 19, 20, 21, 25, 26, 28, 29, 33, 34, 35, 37, 41, 42, 43, 44, 83, 84, 85, 90, 92, 93, 98, 99, 101, 106, 107, 108, 139, 140, 141, 153, 156, 157, 161, 163, 165, 169, 171, 172, 202, 204, 205, 209, 212, 213, 225, 226, 229, 233, 234, 236, 266, 267, 269, 273, 275, 277, 281, 282, 285, 297, 298, 299, 330, 331, 332, 337, 339, 340, 345, 346, 348, 353, 354, 355, 668, 669, 675, 677, 683, 684, 724, 725, 738, 741, 746, 748, 787, 789, 794, 797, 810, 811, 851, 852, 858, 860, 866, 867, 1116, 1117, 1123, 1125, 1131, 1132, 1228, 1229, 1249, 1253, 1257, 1260, 1291, 1293, 1305, 1309, 1321, 1323, 1355, 1356, 1369, 1372, 1377, 1379, 1620, 1621, 1634, 1637, 1642, 1644, 1676, 1677, 1697, 1701, 1705, 1708, 1802, 1805, 1809, 1813, 1833, 1834, 1866, 1868, 1873, 1876, 1889, 1890, 2131, 2133, 2138, 2141, 2154, 2155, 2187, 2189, 2201, 2205, 2217, 2219, 2250, 2253, 2257, 2261, 2281, 2282, 2378, 2379, 2385, 2387, 2393, 2394, 2643, 2644, 2650, 2652, 2658, 2659, 2699, 2700, 2713, 2716, 2721, 2723, 2762, 2764, 2769, 2772, 2785, 2786, 2826, 2827, 2833, 2835, 2841, 2842, 5349, 5356, 5405, 5419, 5468, 5475, 5797, 5804, 5909, 5930, 5972, 5986, 6301, 6315, 6357, 6378, 6483, 6490, 6812, 6819, 6868, 6882, 6931, 6938, 8933, 8940, 8989, 9003, 9052, 9059, 9829, 9836, 9997, 10025, 10060, 10081, 10333, 10347, 10445, 10473, 10571, 10585, 10844, 10851, 10956, 10977, 11019, 11033, 12965, 12972, 13077, 13098, 13140, 13154, 13413, 13420, 13581, 13609, 13644, 13665, 14421, 14442, 14477, 14505, 14666, 14673, 14932, 14946, 14988, 15009, 15114, 15121, 17053, 17067, 17109, 17130, 17235, 17242, 17501, 17515, 17613, 17641, 17739, 17753, 18005, 18026, 18061, 18089, 18250, 18257, 19027, 19034, 19083, 19097, 19146, 19153, 21148, 21155, 21204, 21218, 21267, 21274, 21596, 21603, 21708, 21729, 21771, 21785, 22100, 22114, 22156, 22177, 22282, 22289, 22611, 22618, 22667, 22681, 22730, 22737]
def rv_at (r k : Nat) : Nat := (r >>> (3 * k)) &&& 7
/-- the int that a digit stands for -/
def rv_ci (x : Nat) : Int32 := Int32.ofNat x - 1
def rv_q (r c : Nat) : Nat := if rv_at r 0 = c + 1 then 0 else if rv_at r 1 = c + 1 then 1 else if rv_at r 2 = c + 1 then 2 else if rv_at r 3 = c + 1 then 3 else if rv_at r 4 = c + 1 then 4 else 9
def rv_wi1 (b s k : Nat) (x : Nat × Nat) : Nat × Nat := if rv_at b k ≠ 0 ∧ s.testBit (rv_at b k - 1) = true then (x.1 + (rv_at b k) <<< (3 * x.2), x.2 + 1) else x
def rv_wi (b s : Nat) : Nat := (rv_wi1 b s 4 (rv_wi1 b s 3 (rv_wi1 b s 2 (rv_wi1 b s 1 (rv_wi1 b s 0 (0, 0)))))).1
def rv_bt (s c : Nat) : Nat := if s.testBit c = true then 1 else 0
def rv_mn (s : Nat) : Nat := rv_bt s 0 + rv_bt s 1 + rv_bt s 2 + rv_bt s 3 + rv_bt s 4
def rv_wo (s c : Nat) : Nat := if s.testBit c = true then s - 2 ^ c else s
def rv_lo (s : Nat) : Nat := if s.testBit 0 = true then 0 else if s.testBit 1 = true then 1 else if s.testBit 2 = true then 2 else if s.testBit 3 = true then 3 else if s.testBit 4 = true then 4 else 5
def rv_ln (b : Nat) : Nat := if rv_at b 0 = 0 then 0 else if rv_at b 1 = 0 then 1 else if rv_at b 2 = 0 then 2 else if rv_at b 3 = 0 then 3 else if rv_at b 4 = 0 then 4 else 5
def rv_eqr (t : rv_R) (x : Int32) : Bool := match t with
  | some (r, _) => decide (r = x)
  | none => false
theorem rv_un_eq {t t0 : rv_R} {w : rv_W} {x : Int32} (h : rv_un t t0 w) (i : rv_eqr t0 x = true) : t = some (x, w) := by
  unfold rv_un at h
  subst h
  cases t0 with
  | none => cases i
  | some q => exact congrArg (fun z => some (z, w)) (of_decide_eq_true i)
/-- a table of two columns, once looked through -/
theorem rv_all2 {p : Nat → Nat → Bool} {l m : List Nat} (h : (l.all fun b => m.all fun s => p b s) = true) {b s : Nat} (hb : b ∈ l) (hs : s ∈ m) : p b s = true := List.all_eq_true.mp (List.all_eq_true.mp h b hb) s hs
theorem rv_rg {s n : Nat} (h : s < n) : s ∈ List.range n := List.mem_range.mpr h
theorem e_has {s c : Nat} (hs : s < 32) (hc : c < 5) (w : rv_W) : f_X1_has (Int32.ofNat s) (Int32.ofNat c) w = some (Int32.ofNat (rv_bt s c), w) :=
  rv_un_eq un_X1_has (rv_all2 (p := fun s c => rv_eqr (f_X1_has (Int32.ofNat s) (Int32.ofNat c) rv_w0) (Int32.ofNat (rv_bt s c))) (by decide +kernel) (rv_rg hs) (rv_rg hc))
theorem e_at {a b : Nat} (ha : a ∈ rv_B) (hb : b < 5) (w : rv_W) : f_X0_at (Int32.ofNat a) (Int32.ofNat b) w = some (rv_ci (rv_at a b), w) :=
  rv_un_eq un_X0_at (rv_all2 (p := fun a b => rv_eqr (f_X0_at (Int32.ofNat a) (Int32.ofNat b) rv_w0) (rv_ci (rv_at a b))) (l := rv_B) (m := List.range 5) (by decide +kernel) ha (rv_rg hb))
theorem e_within {a b : Nat} (ha : a ∈ rv_B) (hb : b < 32) (w : rv_W) : f_X0_within (Int32.ofNat a) (Int32.ofNat b) w = some (Int32.ofNat (rv_wi a b), w) :=
  rv_un_eq un_X0_within (rv_all2 (p := fun a b => rv_eqr (f_X0_within (Int32.ofNat a) (Int32.ofNat b) rv_w0) (Int32.ofNat (rv_wi a b))) (l := rv_B) (m := List.range 32) (by decide +kernel) ha (rv_rg hb))
theorem e_without {a b : Nat} (ha : a < 32) (hb : b < 5) (w : rv_W) : f_X1_without (Int32.ofNat a) (Int32.ofNat b) w = some (Int32.ofNat (rv_wo a b), w) :=
  rv_un_eq un_X1_without (rv_all2 (p := fun a b => rv_eqr (f_X1_without (Int32.ofNat a) (Int32.ofNat b) rv_w0) (Int32.ofNat (rv_wo a b))) (l := List.range 32) (m := List.range 5) (by decide +kernel) (rv_rg ha) (rv_rg hb))
theorem e_bitCount {a : Nat} (ha : a < 32) (w : rv_W) : f_J6_bitCount_0f7a4 (Int32.ofNat a) w = some (Int32.ofNat (rv_mn a), w) :=
  rv_un_eq un_J6_bitCount_0f7a4 (List.all_eq_true.mp (by decide +kernel : ((List.range 32).all fun a => rv_eqr (f_J6_bitCount_0f7a4 (Int32.ofNat a) rv_w0) (Int32.ofNat (rv_mn a))) = true) a (rv_rg ha))
theorem e_lowest {a : Nat} (ha : a < 32) (w : rv_W) : f_X1_lowest (Int32.ofNat a) w = some (if a = 0 then -1 else Int32.ofNat (rv_lo a), w) :=
  rv_un_eq un_X1_lowest (List.all_eq_true.mp (by decide +kernel : ((List.range 32).all fun a => rv_eqr (f_X1_lowest (Int32.ofNat a) rv_w0) (if a = 0 then -1 else Int32.ofNat (rv_lo a))) = true) a (rv_rg ha))
theorem e_length {a : Nat} (ha : a ∈ rv_B) (w : rv_W) : f_X0_length (Int32.ofNat a) w = some (Int32.ofNat (rv_ln a), w) :=
  rv_un_eq un_X0_length (List.all_eq_true.mp (by decide +kernel : ((rv_B).all fun a => rv_eqr (f_X0_length (Int32.ofNat a) rv_w0) (Int32.ofNat (rv_ln a))) = true) a ha)
theorem e_placeOf {a b : Nat} (ha : a ∈ rv_B) (hb : b < 5) (w : rv_W) : f_X0_placeOf (Int32.ofNat a) (Int32.ofNat b) w = some (if rv_q a b = 9 then -1 else Int32.ofNat (rv_q a b), w) :=
  rv_un_eq un_X0_placeOf (rv_all2 (p := fun a b => rv_eqr (f_X0_placeOf (Int32.ofNat a) (Int32.ofNat b) rv_w0) (if rv_q a b = 9 then -1 else Int32.ofNat (rv_q a b))) (l := rv_B) (m := List.range 5) (by decide +kernel) ha (rv_rg hb))
theorem rv_wi_in {b s : Nat} (hb : b ∈ rv_B) (hs : s < 32) : rv_wi b s ∈ rv_B := by
  have := rv_all2 (p := fun b s => rv_B.contains (rv_wi b s)) (l := rv_B) (m := List.range 32) (by decide +kernel) hb (rv_rg hs)
  exact List.contains_iff_mem.mp this
