/-! THE TWO OBJECTS AS THEIR CONSTRUCTORS LEAVE THEM -/
def offC (k i : Nat) : Nat := match k with
  | 0 => [55, 64, 73, 82, 91, 100].getD i 0
  | 1 => [56, 59, 65, 68, 74, 77, 83, 86, 92, 95, 101, 104, 49, 52].getD i 0
  | 2 => [34].getD i 0
  | 3 => [37, 38, 39, 40, 41, 42, 43, 44].getD i 0
  | 4 => [2, 7, 12, 17, 22, 27].getD i 0
  | 6 => [45].getD i 0
  | 7 => [47].getD i 0
  | 8 => [0].getD i 0
  | 9 => [109].getD i 0
  | 1002 => [62, 71, 80, 89, 98, 107].getD i 0
  | 1003 => [63, 72, 81, 90, 99, 108].getD i 0
  | 1100 => [57, 60, 66, 69, 75, 78, 84, 87, 93, 96, 102, 105, 50, 53].getD i 0
  | 1101 => [58, 61, 67, 70, 76, 79, 85, 88, 94, 97, 103, 106, 51, 54].getD i 0
  | 1201 => [35].getD i 0
  | 1202 => [36].getD i 0
  | 1400 => [3, 8, 13, 18, 23, 28].getD i 0
  | 1401 => [4, 9, 14, 19, 24, 29].getD i 0
  | 1402 => [5, 10, 15, 20, 25, 30].getD i 0
  | 1403 => [6, 11, 16, 21, 26, 31].getD i 0
  | 1602 => [46].getD i 0
  | 1700 => [48].getD i 0
  | 1800 => [1].getD i 0
  | 1801 => [32].getD i 0
  | 1802 => [33].getD i 0
  | 1900 => [110].getD i 0
  | 1901 => [111].getD i 0
  | 1902 => [112].getD i 0
  | 1903 => [113].getD i 0
  | 1904 => [114].getD i 0
  | 1905 => [115].getD i 0
  | 1906 => [116].getD i 0
  | 1907 => [117].getD i 0
  | 1908 => [118].getD i 0
  | 1910 => [119].getD i 0
  | 1913 => [120].getD i 0
  | 1915 => [121].getD i 0
  | 1916 => [122].getD i 0
  | 1917 => [123].getD i 0
  | 1918 => [124].getD i 0
  | 1919 => [125].getD i 0
  | 1922 => [126].getD i 0
  | 1923 => [127].getD i 0
  | 1924 => [128].getD i 0
  | 1925 => [129].getD i 0
  | 1926 => [130].getD i 0
  | 1927 => [131].getD i 0
  | 1928 => [132].getD i 0
  | 1929 => [133].getD i 0
  | 1940 => [134].getD i 0
  | _ => 0
abbrev rho (b : Nat) : Nat → Nat → Nat := fun k i => b + offC k i
def neg8 : Nat → Int32 := (upd (upd (upd (upd (upd (upd (upd (upd (fun _ => 0) 0 (-1)) 1 (-1)) 2 (-1)) 3 (-1)) 4 (-1)) 5 (-1)) 6 (-1)) 7 (-1))
theorem neg8_v (j : Nat) (h : j < 8) : neg8 j = -1 := by
  match j, h with
  | 0, _ => rfl
  | 1, _ => rfl
  | 2, _ => rfl
  | 3, _ => rfl
  | 4, _ => rfl
  | 5, _ => rfl
  | 6, _ => rfl
  | 7, _ => rfl
def S0 : St := (fun _ _ => 0, fun k _ => if k = 1801 then neg8 else if k = 1906 then neg8 else fun _ => 0, fun _ _ _ => 0, fun _ _ _ => 0, fun _ _ => 0, fun _ _ => 0, fun _ _ => FP.dconst0)
abbrev wA : Nat → Option va_E := up (fun _ => none) 0 (.inr (8, [.null, .null, .null, .null, .null, .int 0, .int 0, .int 0, .int 0, .int 0]))
abbrev wB (ca : Nat → ClassId) (b : Nat) : Nat → Option va_E := gw8 ca b wA 0 1
abbrev wC (ca : Nat → ClassId) (b : Nat) : Nat → Option va_E := up (wB ca b) 109 (.inr (9, [.null, .null, .null, .null, .null, .null, .null, .null, .null, .double FP.dconst0, .null, .int 0, .int 0, .null, .int 0, .null, .null, .null, .null, .null, .int 0, .int 0, .null, .null, .null, .null, .null, .null, .null, .null, .int 0, .int 0, .int 0, .int 0, .int 0, .int 0, .int 0, .long 0, .double FP.dconst0, .int 0, .null]))
abbrev wD (ca : Nat → ClassId) (b : Nat) : Nat → Option va_E := gw9 ca b (wC ca b) 109 110
abbrev wE (ca : Nat → ClassId) (b : Nat) : Nat → Option va_E := up (wD ca b) 135 (.inl (ca 1, 1, .inr (.inl (fun _ => 0))))
abbrev wZ (ca : Nat → ClassId) (b : Nat) : Nat → Option va_E := up (wE ca b) 136 (.inl (ca 2, 1, .inr (.inr (.inr (.inl (fun _ => 0))))))
def PT : List (Nat × Nat) := [(0, 0), (0, 1), (0, 2), (0, 3), (0, 4), (0, 5), (1, 0), (1, 1), (1, 2), (1, 3), (1, 4), (1, 5), (1, 6), (1, 7), (1, 8), (1, 9), (1, 10), (1, 11), (1, 12), (1, 13), (2, 0), (3, 0), (3, 1), (3, 2), (3, 3), (3, 4), (3, 5), (3, 6), (3, 7), (4, 0), (4, 1), (4, 2), (4, 3), (4, 4), (4, 5), (6, 0), (7, 0), (8, 0), (1002, 0), (1002, 1), (1002, 2), (1002, 3), (1002, 4), (1002, 5), (1003, 0), (1003, 1), (1003, 2), (1003, 3), (1003, 4), (1003, 5), (1100, 0), (1100, 1), (1100, 2), (1100, 3), (1100, 4), (1100, 5), (1100, 6), (1100, 7), (1100, 8), (1100, 9), (1100, 10), (1100, 11), (1100, 12), (1100, 13), (1101, 0), (1101, 1), (1101, 2), (1101, 3), (1101, 4), (1101, 5), (1101, 6), (1101, 7), (1101, 8), (1101, 9), (1101, 10), (1101, 11), (1101, 12), (1101, 13), (1201, 0), (1202, 0), (1400, 0), (1400, 1), (1400, 2), (1400, 3), (1400, 4), (1400, 5), (1401, 0), (1401, 1), (1401, 2), (1401, 3), (1401, 4), (1401, 5), (1402, 0), (1402, 1), (1402, 2), (1402, 3), (1402, 4), (1402, 5), (1403, 0), (1403, 1), (1403, 2), (1403, 3), (1403, 4), (1403, 5), (1602, 0), (1700, 0), (1800, 0), (1801, 0), (1802, 0)]
theorem PT_all : ∀ k i, unit true k = true → i < cnt k → (k, i) ∈ PT := by
  intro k i hu hi
  have hk : k < 2000 := by
    unfold unit at hu
    simp at hu
    omega
  have hi2 : i < 16 := by
    have : (List.range 2000).all (fun k => decide (cnt k ≤ 16)) = true := by decide +kernel
    have := of_decide_eq_true (List.all_eq_true.mp this k (List.mem_range.mpr hk))
    omega
  have h : (List.range 2000).all (fun k => (List.range 16).all fun i => !(unit true k) || !(decide (i < cnt k)) || PT.contains (k, i)) = true := by decide +kernel
  have h1 := List.all_eq_true.mp (List.all_eq_true.mp h k (List.mem_range.mpr hk)) i (List.mem_range.mpr hi2)
  simp only [hu, hi, decide_true, Bool.not_true, Bool.false_or] at h1
  exact List.contains_iff_mem.mp h1
theorem Ap_PT (b : Nat) : Ap true (rho b) := by
  intro k i k2 i2 h1 h2 h3 h4 e
  have e2 : offC k i = offC k2 i2 := Nat.add_left_cancel e
  have h : PT.all (fun p => PT.all fun q => !(decide (offC p.1 p.2 = offC q.1 q.2)) || decide (p = q)) = true := by decide +kernel
  have h5 := List.all_eq_true.mp (List.all_eq_true.mp h _ (PT_all k i h1 h2)) _ (PT_all k2 i2 h3 h4)
  simp only [e2, decide_true, Bool.not_true, Bool.false_or] at h5
  have h6 := of_decide_eq_true h5
  exact ⟨congrArg Prod.fst h6, congrArg Prod.snd h6⟩
theorem off_PT : ∀ k i, unit true k = true → i < cnt k → 0 ≤ offC k i ∧ offC k i < 109 := by
  intro k i h1 h2
  have h : PT.all (fun p => decide (0 ≤ offC p.1 p.2 ∧ offC p.1 p.2 < 109)) = true := by decide +kernel
  exact of_decide_eq_true (List.all_eq_true.mp h _ (PT_all k i h1 h2))
set_option maxRecDepth 100000 in
theorem in_0_0 (ca : Nat → ClassId) (b : Nat) : wZ ca b (offC 0 0) = some (cellOf ca (rho b) S0 0 0) := rfl
set_option maxRecDepth 100000 in
theorem in_0_1 (ca : Nat → ClassId) (b : Nat) : wZ ca b (offC 0 1) = some (cellOf ca (rho b) S0 0 1) := rfl
set_option maxRecDepth 100000 in
theorem in_0_2 (ca : Nat → ClassId) (b : Nat) : wZ ca b (offC 0 2) = some (cellOf ca (rho b) S0 0 2) := rfl
set_option maxRecDepth 100000 in
theorem in_0_3 (ca : Nat → ClassId) (b : Nat) : wZ ca b (offC 0 3) = some (cellOf ca (rho b) S0 0 3) := rfl
set_option maxRecDepth 100000 in
theorem in_0_4 (ca : Nat → ClassId) (b : Nat) : wZ ca b (offC 0 4) = some (cellOf ca (rho b) S0 0 4) := rfl
set_option maxRecDepth 100000 in
theorem in_0_5 (ca : Nat → ClassId) (b : Nat) : wZ ca b (offC 0 5) = some (cellOf ca (rho b) S0 0 5) := rfl
set_option maxRecDepth 100000 in
theorem in_1_0 (ca : Nat → ClassId) (b : Nat) : wZ ca b (offC 1 0) = some (cellOf ca (rho b) S0 1 0) := rfl
set_option maxRecDepth 100000 in
theorem in_1_1 (ca : Nat → ClassId) (b : Nat) : wZ ca b (offC 1 1) = some (cellOf ca (rho b) S0 1 1) := rfl
set_option maxRecDepth 100000 in
theorem in_1_2 (ca : Nat → ClassId) (b : Nat) : wZ ca b (offC 1 2) = some (cellOf ca (rho b) S0 1 2) := rfl
set_option maxRecDepth 100000 in
theorem in_1_3 (ca : Nat → ClassId) (b : Nat) : wZ ca b (offC 1 3) = some (cellOf ca (rho b) S0 1 3) := rfl
set_option maxRecDepth 100000 in
theorem in_1_4 (ca : Nat → ClassId) (b : Nat) : wZ ca b (offC 1 4) = some (cellOf ca (rho b) S0 1 4) := rfl
set_option maxRecDepth 100000 in
theorem in_1_5 (ca : Nat → ClassId) (b : Nat) : wZ ca b (offC 1 5) = some (cellOf ca (rho b) S0 1 5) := rfl
set_option maxRecDepth 100000 in
theorem in_1_6 (ca : Nat → ClassId) (b : Nat) : wZ ca b (offC 1 6) = some (cellOf ca (rho b) S0 1 6) := rfl
set_option maxRecDepth 100000 in
theorem in_1_7 (ca : Nat → ClassId) (b : Nat) : wZ ca b (offC 1 7) = some (cellOf ca (rho b) S0 1 7) := rfl
set_option maxRecDepth 100000 in
theorem in_1_8 (ca : Nat → ClassId) (b : Nat) : wZ ca b (offC 1 8) = some (cellOf ca (rho b) S0 1 8) := rfl
set_option maxRecDepth 100000 in
theorem in_1_9 (ca : Nat → ClassId) (b : Nat) : wZ ca b (offC 1 9) = some (cellOf ca (rho b) S0 1 9) := rfl
set_option maxRecDepth 100000 in
theorem in_1_10 (ca : Nat → ClassId) (b : Nat) : wZ ca b (offC 1 10) = some (cellOf ca (rho b) S0 1 10) := rfl
set_option maxRecDepth 100000 in
theorem in_1_11 (ca : Nat → ClassId) (b : Nat) : wZ ca b (offC 1 11) = some (cellOf ca (rho b) S0 1 11) := rfl
set_option maxRecDepth 100000 in
theorem in_1_12 (ca : Nat → ClassId) (b : Nat) : wZ ca b (offC 1 12) = some (cellOf ca (rho b) S0 1 12) := rfl
set_option maxRecDepth 100000 in
theorem in_1_13 (ca : Nat → ClassId) (b : Nat) : wZ ca b (offC 1 13) = some (cellOf ca (rho b) S0 1 13) := rfl
set_option maxRecDepth 100000 in
theorem in_2_0 (ca : Nat → ClassId) (b : Nat) : wZ ca b (offC 2 0) = some (cellOf ca (rho b) S0 2 0) := rfl
set_option maxRecDepth 100000 in
theorem in_3_0 (ca : Nat → ClassId) (b : Nat) : wZ ca b (offC 3 0) = some (cellOf ca (rho b) S0 3 0) := rfl
set_option maxRecDepth 100000 in
theorem in_3_1 (ca : Nat → ClassId) (b : Nat) : wZ ca b (offC 3 1) = some (cellOf ca (rho b) S0 3 1) := rfl
set_option maxRecDepth 100000 in
theorem in_3_2 (ca : Nat → ClassId) (b : Nat) : wZ ca b (offC 3 2) = some (cellOf ca (rho b) S0 3 2) := rfl
set_option maxRecDepth 100000 in
theorem in_3_3 (ca : Nat → ClassId) (b : Nat) : wZ ca b (offC 3 3) = some (cellOf ca (rho b) S0 3 3) := rfl
set_option maxRecDepth 100000 in
theorem in_3_4 (ca : Nat → ClassId) (b : Nat) : wZ ca b (offC 3 4) = some (cellOf ca (rho b) S0 3 4) := rfl
set_option maxRecDepth 100000 in
theorem in_3_5 (ca : Nat → ClassId) (b : Nat) : wZ ca b (offC 3 5) = some (cellOf ca (rho b) S0 3 5) := rfl
set_option maxRecDepth 100000 in
theorem in_3_6 (ca : Nat → ClassId) (b : Nat) : wZ ca b (offC 3 6) = some (cellOf ca (rho b) S0 3 6) := rfl
set_option maxRecDepth 100000 in
theorem in_3_7 (ca : Nat → ClassId) (b : Nat) : wZ ca b (offC 3 7) = some (cellOf ca (rho b) S0 3 7) := rfl
set_option maxRecDepth 100000 in
theorem in_4_0 (ca : Nat → ClassId) (b : Nat) : wZ ca b (offC 4 0) = some (cellOf ca (rho b) S0 4 0) := rfl
set_option maxRecDepth 100000 in
theorem in_4_1 (ca : Nat → ClassId) (b : Nat) : wZ ca b (offC 4 1) = some (cellOf ca (rho b) S0 4 1) := rfl
set_option maxRecDepth 100000 in
theorem in_4_2 (ca : Nat → ClassId) (b : Nat) : wZ ca b (offC 4 2) = some (cellOf ca (rho b) S0 4 2) := rfl
set_option maxRecDepth 100000 in
theorem in_4_3 (ca : Nat → ClassId) (b : Nat) : wZ ca b (offC 4 3) = some (cellOf ca (rho b) S0 4 3) := rfl
set_option maxRecDepth 100000 in
theorem in_4_4 (ca : Nat → ClassId) (b : Nat) : wZ ca b (offC 4 4) = some (cellOf ca (rho b) S0 4 4) := rfl
set_option maxRecDepth 100000 in
theorem in_4_5 (ca : Nat → ClassId) (b : Nat) : wZ ca b (offC 4 5) = some (cellOf ca (rho b) S0 4 5) := rfl
set_option maxRecDepth 100000 in
theorem in_6_0 (ca : Nat → ClassId) (b : Nat) : wZ ca b (offC 6 0) = some (cellOf ca (rho b) S0 6 0) := rfl
set_option maxRecDepth 100000 in
theorem in_7_0 (ca : Nat → ClassId) (b : Nat) : wZ ca b (offC 7 0) = some (cellOf ca (rho b) S0 7 0) := rfl
set_option maxRecDepth 100000 in
theorem in_8_0 (ca : Nat → ClassId) (b : Nat) : wZ ca b (offC 8 0) = some (cellOf ca (rho b) S0 8 0) := rfl
set_option maxRecDepth 100000 in
theorem in_1002_0 (ca : Nat → ClassId) (b : Nat) : wZ ca b (offC 1002 0) = some (cellOf ca (rho b) S0 1002 0) := rfl
set_option maxRecDepth 100000 in
theorem in_1002_1 (ca : Nat → ClassId) (b : Nat) : wZ ca b (offC 1002 1) = some (cellOf ca (rho b) S0 1002 1) := rfl
set_option maxRecDepth 100000 in
theorem in_1002_2 (ca : Nat → ClassId) (b : Nat) : wZ ca b (offC 1002 2) = some (cellOf ca (rho b) S0 1002 2) := rfl
set_option maxRecDepth 100000 in
theorem in_1002_3 (ca : Nat → ClassId) (b : Nat) : wZ ca b (offC 1002 3) = some (cellOf ca (rho b) S0 1002 3) := rfl
set_option maxRecDepth 100000 in
theorem in_1002_4 (ca : Nat → ClassId) (b : Nat) : wZ ca b (offC 1002 4) = some (cellOf ca (rho b) S0 1002 4) := rfl
set_option maxRecDepth 100000 in
theorem in_1002_5 (ca : Nat → ClassId) (b : Nat) : wZ ca b (offC 1002 5) = some (cellOf ca (rho b) S0 1002 5) := rfl
set_option maxRecDepth 100000 in
theorem in_1003_0 (ca : Nat → ClassId) (b : Nat) : wZ ca b (offC 1003 0) = some (cellOf ca (rho b) S0 1003 0) := rfl
set_option maxRecDepth 100000 in
theorem in_1003_1 (ca : Nat → ClassId) (b : Nat) : wZ ca b (offC 1003 1) = some (cellOf ca (rho b) S0 1003 1) := rfl
set_option maxRecDepth 100000 in
theorem in_1003_2 (ca : Nat → ClassId) (b : Nat) : wZ ca b (offC 1003 2) = some (cellOf ca (rho b) S0 1003 2) := rfl
set_option maxRecDepth 100000 in
theorem in_1003_3 (ca : Nat → ClassId) (b : Nat) : wZ ca b (offC 1003 3) = some (cellOf ca (rho b) S0 1003 3) := rfl
set_option maxRecDepth 100000 in
theorem in_1003_4 (ca : Nat → ClassId) (b : Nat) : wZ ca b (offC 1003 4) = some (cellOf ca (rho b) S0 1003 4) := rfl
set_option maxRecDepth 100000 in
theorem in_1003_5 (ca : Nat → ClassId) (b : Nat) : wZ ca b (offC 1003 5) = some (cellOf ca (rho b) S0 1003 5) := rfl
set_option maxRecDepth 100000 in
theorem in_1100_0 (ca : Nat → ClassId) (b : Nat) : wZ ca b (offC 1100 0) = some (cellOf ca (rho b) S0 1100 0) := rfl
set_option maxRecDepth 100000 in
theorem in_1100_1 (ca : Nat → ClassId) (b : Nat) : wZ ca b (offC 1100 1) = some (cellOf ca (rho b) S0 1100 1) := rfl
set_option maxRecDepth 100000 in
theorem in_1100_2 (ca : Nat → ClassId) (b : Nat) : wZ ca b (offC 1100 2) = some (cellOf ca (rho b) S0 1100 2) := rfl
set_option maxRecDepth 100000 in
theorem in_1100_3 (ca : Nat → ClassId) (b : Nat) : wZ ca b (offC 1100 3) = some (cellOf ca (rho b) S0 1100 3) := rfl
set_option maxRecDepth 100000 in
theorem in_1100_4 (ca : Nat → ClassId) (b : Nat) : wZ ca b (offC 1100 4) = some (cellOf ca (rho b) S0 1100 4) := rfl
set_option maxRecDepth 100000 in
theorem in_1100_5 (ca : Nat → ClassId) (b : Nat) : wZ ca b (offC 1100 5) = some (cellOf ca (rho b) S0 1100 5) := rfl
set_option maxRecDepth 100000 in
theorem in_1100_6 (ca : Nat → ClassId) (b : Nat) : wZ ca b (offC 1100 6) = some (cellOf ca (rho b) S0 1100 6) := rfl
set_option maxRecDepth 100000 in
theorem in_1100_7 (ca : Nat → ClassId) (b : Nat) : wZ ca b (offC 1100 7) = some (cellOf ca (rho b) S0 1100 7) := rfl
set_option maxRecDepth 100000 in
theorem in_1100_8 (ca : Nat → ClassId) (b : Nat) : wZ ca b (offC 1100 8) = some (cellOf ca (rho b) S0 1100 8) := rfl
set_option maxRecDepth 100000 in
theorem in_1100_9 (ca : Nat → ClassId) (b : Nat) : wZ ca b (offC 1100 9) = some (cellOf ca (rho b) S0 1100 9) := rfl
set_option maxRecDepth 100000 in
theorem in_1100_10 (ca : Nat → ClassId) (b : Nat) : wZ ca b (offC 1100 10) = some (cellOf ca (rho b) S0 1100 10) := rfl
set_option maxRecDepth 100000 in
theorem in_1100_11 (ca : Nat → ClassId) (b : Nat) : wZ ca b (offC 1100 11) = some (cellOf ca (rho b) S0 1100 11) := rfl
set_option maxRecDepth 100000 in
theorem in_1100_12 (ca : Nat → ClassId) (b : Nat) : wZ ca b (offC 1100 12) = some (cellOf ca (rho b) S0 1100 12) := rfl
set_option maxRecDepth 100000 in
theorem in_1100_13 (ca : Nat → ClassId) (b : Nat) : wZ ca b (offC 1100 13) = some (cellOf ca (rho b) S0 1100 13) := rfl
set_option maxRecDepth 100000 in
theorem in_1101_0 (ca : Nat → ClassId) (b : Nat) : wZ ca b (offC 1101 0) = some (cellOf ca (rho b) S0 1101 0) := rfl
set_option maxRecDepth 100000 in
theorem in_1101_1 (ca : Nat → ClassId) (b : Nat) : wZ ca b (offC 1101 1) = some (cellOf ca (rho b) S0 1101 1) := rfl
set_option maxRecDepth 100000 in
theorem in_1101_2 (ca : Nat → ClassId) (b : Nat) : wZ ca b (offC 1101 2) = some (cellOf ca (rho b) S0 1101 2) := rfl
set_option maxRecDepth 100000 in
theorem in_1101_3 (ca : Nat → ClassId) (b : Nat) : wZ ca b (offC 1101 3) = some (cellOf ca (rho b) S0 1101 3) := rfl
set_option maxRecDepth 100000 in
theorem in_1101_4 (ca : Nat → ClassId) (b : Nat) : wZ ca b (offC 1101 4) = some (cellOf ca (rho b) S0 1101 4) := rfl
set_option maxRecDepth 100000 in
theorem in_1101_5 (ca : Nat → ClassId) (b : Nat) : wZ ca b (offC 1101 5) = some (cellOf ca (rho b) S0 1101 5) := rfl
set_option maxRecDepth 100000 in
theorem in_1101_6 (ca : Nat → ClassId) (b : Nat) : wZ ca b (offC 1101 6) = some (cellOf ca (rho b) S0 1101 6) := rfl
set_option maxRecDepth 100000 in
theorem in_1101_7 (ca : Nat → ClassId) (b : Nat) : wZ ca b (offC 1101 7) = some (cellOf ca (rho b) S0 1101 7) := rfl
set_option maxRecDepth 100000 in
theorem in_1101_8 (ca : Nat → ClassId) (b : Nat) : wZ ca b (offC 1101 8) = some (cellOf ca (rho b) S0 1101 8) := rfl
set_option maxRecDepth 100000 in
theorem in_1101_9 (ca : Nat → ClassId) (b : Nat) : wZ ca b (offC 1101 9) = some (cellOf ca (rho b) S0 1101 9) := rfl
set_option maxRecDepth 100000 in
theorem in_1101_10 (ca : Nat → ClassId) (b : Nat) : wZ ca b (offC 1101 10) = some (cellOf ca (rho b) S0 1101 10) := rfl
set_option maxRecDepth 100000 in
theorem in_1101_11 (ca : Nat → ClassId) (b : Nat) : wZ ca b (offC 1101 11) = some (cellOf ca (rho b) S0 1101 11) := rfl
set_option maxRecDepth 100000 in
theorem in_1101_12 (ca : Nat → ClassId) (b : Nat) : wZ ca b (offC 1101 12) = some (cellOf ca (rho b) S0 1101 12) := rfl
set_option maxRecDepth 100000 in
theorem in_1101_13 (ca : Nat → ClassId) (b : Nat) : wZ ca b (offC 1101 13) = some (cellOf ca (rho b) S0 1101 13) := rfl
set_option maxRecDepth 100000 in
theorem in_1201_0 (ca : Nat → ClassId) (b : Nat) : wZ ca b (offC 1201 0) = some (cellOf ca (rho b) S0 1201 0) := rfl
set_option maxRecDepth 100000 in
theorem in_1202_0 (ca : Nat → ClassId) (b : Nat) : wZ ca b (offC 1202 0) = some (cellOf ca (rho b) S0 1202 0) := by
  have h : (cellOf ca (rho b) S0 1202 0) = .inl (ca 13, 8, .inr (.inr (.inr (.inr (fun j => if j < 8 then some (rho b 3 j) else none))))) := rfl
  rw [h]
  have h2 : (fun j => if j < 8 then some (rho b 3 j) else none) = (va_up (va_up (va_up (va_up (va_up (va_up (va_up (va_up (fun _ => none) 0 (some (b + 37))) 1 (some (b + 38))) 2 (some (b + 39))) 3 (some (b + 40))) 4 (some (b + 41))) 5 (some (b + 42))) 6 (some (b + 43))) 7 (some (b + 44))) := by
    funext j
    match j with
    | 0 => rfl
    | 1 => rfl
    | 2 => rfl
    | 3 => rfl
    | 4 => rfl
    | 5 => rfl
    | 6 => rfl
    | 7 => rfl
    | j + 8 => simp [va_up]
  rw [h2]
  rfl
set_option maxRecDepth 100000 in
theorem in_1400_0 (ca : Nat → ClassId) (b : Nat) : wZ ca b (offC 1400 0) = some (cellOf ca (rho b) S0 1400 0) := rfl
set_option maxRecDepth 100000 in
theorem in_1400_1 (ca : Nat → ClassId) (b : Nat) : wZ ca b (offC 1400 1) = some (cellOf ca (rho b) S0 1400 1) := rfl
set_option maxRecDepth 100000 in
theorem in_1400_2 (ca : Nat → ClassId) (b : Nat) : wZ ca b (offC 1400 2) = some (cellOf ca (rho b) S0 1400 2) := rfl
set_option maxRecDepth 100000 in
theorem in_1400_3 (ca : Nat → ClassId) (b : Nat) : wZ ca b (offC 1400 3) = some (cellOf ca (rho b) S0 1400 3) := rfl
set_option maxRecDepth 100000 in
theorem in_1400_4 (ca : Nat → ClassId) (b : Nat) : wZ ca b (offC 1400 4) = some (cellOf ca (rho b) S0 1400 4) := rfl
set_option maxRecDepth 100000 in
theorem in_1400_5 (ca : Nat → ClassId) (b : Nat) : wZ ca b (offC 1400 5) = some (cellOf ca (rho b) S0 1400 5) := rfl
set_option maxRecDepth 100000 in
theorem in_1401_0 (ca : Nat → ClassId) (b : Nat) : wZ ca b (offC 1401 0) = some (cellOf ca (rho b) S0 1401 0) := rfl
set_option maxRecDepth 100000 in
theorem in_1401_1 (ca : Nat → ClassId) (b : Nat) : wZ ca b (offC 1401 1) = some (cellOf ca (rho b) S0 1401 1) := rfl
set_option maxRecDepth 100000 in
theorem in_1401_2 (ca : Nat → ClassId) (b : Nat) : wZ ca b (offC 1401 2) = some (cellOf ca (rho b) S0 1401 2) := rfl
set_option maxRecDepth 100000 in
theorem in_1401_3 (ca : Nat → ClassId) (b : Nat) : wZ ca b (offC 1401 3) = some (cellOf ca (rho b) S0 1401 3) := rfl
set_option maxRecDepth 100000 in
theorem in_1401_4 (ca : Nat → ClassId) (b : Nat) : wZ ca b (offC 1401 4) = some (cellOf ca (rho b) S0 1401 4) := rfl
set_option maxRecDepth 100000 in
theorem in_1401_5 (ca : Nat → ClassId) (b : Nat) : wZ ca b (offC 1401 5) = some (cellOf ca (rho b) S0 1401 5) := rfl
set_option maxRecDepth 100000 in
theorem in_1402_0 (ca : Nat → ClassId) (b : Nat) : wZ ca b (offC 1402 0) = some (cellOf ca (rho b) S0 1402 0) := rfl
set_option maxRecDepth 100000 in
theorem in_1402_1 (ca : Nat → ClassId) (b : Nat) : wZ ca b (offC 1402 1) = some (cellOf ca (rho b) S0 1402 1) := rfl
set_option maxRecDepth 100000 in
theorem in_1402_2 (ca : Nat → ClassId) (b : Nat) : wZ ca b (offC 1402 2) = some (cellOf ca (rho b) S0 1402 2) := rfl
set_option maxRecDepth 100000 in
theorem in_1402_3 (ca : Nat → ClassId) (b : Nat) : wZ ca b (offC 1402 3) = some (cellOf ca (rho b) S0 1402 3) := rfl
set_option maxRecDepth 100000 in
theorem in_1402_4 (ca : Nat → ClassId) (b : Nat) : wZ ca b (offC 1402 4) = some (cellOf ca (rho b) S0 1402 4) := rfl
set_option maxRecDepth 100000 in
theorem in_1402_5 (ca : Nat → ClassId) (b : Nat) : wZ ca b (offC 1402 5) = some (cellOf ca (rho b) S0 1402 5) := rfl
set_option maxRecDepth 100000 in
theorem in_1403_0 (ca : Nat → ClassId) (b : Nat) : wZ ca b (offC 1403 0) = some (cellOf ca (rho b) S0 1403 0) := rfl
set_option maxRecDepth 100000 in
theorem in_1403_1 (ca : Nat → ClassId) (b : Nat) : wZ ca b (offC 1403 1) = some (cellOf ca (rho b) S0 1403 1) := rfl
set_option maxRecDepth 100000 in
theorem in_1403_2 (ca : Nat → ClassId) (b : Nat) : wZ ca b (offC 1403 2) = some (cellOf ca (rho b) S0 1403 2) := rfl
set_option maxRecDepth 100000 in
theorem in_1403_3 (ca : Nat → ClassId) (b : Nat) : wZ ca b (offC 1403 3) = some (cellOf ca (rho b) S0 1403 3) := rfl
set_option maxRecDepth 100000 in
theorem in_1403_4 (ca : Nat → ClassId) (b : Nat) : wZ ca b (offC 1403 4) = some (cellOf ca (rho b) S0 1403 4) := rfl
set_option maxRecDepth 100000 in
theorem in_1403_5 (ca : Nat → ClassId) (b : Nat) : wZ ca b (offC 1403 5) = some (cellOf ca (rho b) S0 1403 5) := rfl
set_option maxRecDepth 100000 in
theorem in_1602_0 (ca : Nat → ClassId) (b : Nat) : wZ ca b (offC 1602 0) = some (cellOf ca (rho b) S0 1602 0) := by
  have h : (cellOf ca (rho b) S0 1602 0) = .inl (ca 10, 6, .inr (.inr (.inr (.inr (fun j => if j < 6 then some (rho b 0 j) else none))))) := rfl
  rw [h]
  have h2 : (fun j => if j < 6 then some (rho b 0 j) else none) = (va_up (va_up (va_up (va_up (va_up (va_up (fun _ => none) 0 (some (b + 55))) 1 (some (b + 64))) 2 (some (b + 73))) 3 (some (b + 82))) 4 (some (b + 91))) 5 (some (b + 100))) := by
    funext j
    match j with
    | 0 => rfl
    | 1 => rfl
    | 2 => rfl
    | 3 => rfl
    | 4 => rfl
    | 5 => rfl
    | j + 6 => simp [va_up]
  rw [h2]
  rfl
set_option maxRecDepth 100000 in
theorem in_1700_0 (ca : Nat → ClassId) (b : Nat) : wZ ca b (offC 1700 0) = some (cellOf ca (rho b) S0 1700 0) := rfl
set_option maxRecDepth 100000 in
theorem in_1800_0 (ca : Nat → ClassId) (b : Nat) : wZ ca b (offC 1800 0) = some (cellOf ca (rho b) S0 1800 0) := by
  have h : (cellOf ca (rho b) S0 1800 0) = .inl (ca 14, 6, .inr (.inr (.inr (.inr (fun j => if j < 6 then some (rho b 4 j) else none))))) := rfl
  rw [h]
  have h2 : (fun j => if j < 6 then some (rho b 4 j) else none) = (va_up (va_up (va_up (va_up (va_up (va_up (fun _ => none) 0 (some (b + 2))) 1 (some (b + 7))) 2 (some (b + 12))) 3 (some (b + 17))) 4 (some (b + 22))) 5 (some (b + 27))) := by
    funext j
    match j with
    | 0 => rfl
    | 1 => rfl
    | 2 => rfl
    | 3 => rfl
    | 4 => rfl
    | 5 => rfl
    | j + 6 => simp [va_up]
  rw [h2]
  rfl
set_option maxRecDepth 100000 in
theorem in_1801_0 (ca : Nat → ClassId) (b : Nat) : wZ ca b (offC 1801 0) = some (cellOf ca (rho b) S0 1801 0) := rfl
set_option maxRecDepth 100000 in
theorem in_1802_0 (ca : Nat → ClassId) (b : Nat) : wZ ca b (offC 1802 0) = some (cellOf ca (rho b) S0 1802 0) := rfl
theorem in_PT (ca : Nat → ClassId) (b : Nat) : ∀ p ∈ PT, wZ ca b (offC p.1 p.2) = some (cellOf ca (rho b) S0 p.1 p.2) := by
  intro p hp
  unfold PT at hp
  rcases List.mem_cons.mp hp with rfl | hp
  · exact in_0_0 ca b
  rcases List.mem_cons.mp hp with rfl | hp
  · exact in_0_1 ca b
  rcases List.mem_cons.mp hp with rfl | hp
  · exact in_0_2 ca b
  rcases List.mem_cons.mp hp with rfl | hp
  · exact in_0_3 ca b
  rcases List.mem_cons.mp hp with rfl | hp
  · exact in_0_4 ca b
  rcases List.mem_cons.mp hp with rfl | hp
  · exact in_0_5 ca b
  rcases List.mem_cons.mp hp with rfl | hp
  · exact in_1_0 ca b
  rcases List.mem_cons.mp hp with rfl | hp
  · exact in_1_1 ca b
  rcases List.mem_cons.mp hp with rfl | hp
  · exact in_1_2 ca b
  rcases List.mem_cons.mp hp with rfl | hp
  · exact in_1_3 ca b
  rcases List.mem_cons.mp hp with rfl | hp
  · exact in_1_4 ca b
  rcases List.mem_cons.mp hp with rfl | hp
  · exact in_1_5 ca b
  rcases List.mem_cons.mp hp with rfl | hp
  · exact in_1_6 ca b
  rcases List.mem_cons.mp hp with rfl | hp
  · exact in_1_7 ca b
  rcases List.mem_cons.mp hp with rfl | hp
  · exact in_1_8 ca b
  rcases List.mem_cons.mp hp with rfl | hp
  · exact in_1_9 ca b
  rcases List.mem_cons.mp hp with rfl | hp
  · exact in_1_10 ca b
  rcases List.mem_cons.mp hp with rfl | hp
  · exact in_1_11 ca b
  rcases List.mem_cons.mp hp with rfl | hp
  · exact in_1_12 ca b
  rcases List.mem_cons.mp hp with rfl | hp
  · exact in_1_13 ca b
  rcases List.mem_cons.mp hp with rfl | hp
  · exact in_2_0 ca b
  rcases List.mem_cons.mp hp with rfl | hp
  · exact in_3_0 ca b
  rcases List.mem_cons.mp hp with rfl | hp
  · exact in_3_1 ca b
  rcases List.mem_cons.mp hp with rfl | hp
  · exact in_3_2 ca b
  rcases List.mem_cons.mp hp with rfl | hp
  · exact in_3_3 ca b
  rcases List.mem_cons.mp hp with rfl | hp
  · exact in_3_4 ca b
  rcases List.mem_cons.mp hp with rfl | hp
  · exact in_3_5 ca b
  rcases List.mem_cons.mp hp with rfl | hp
  · exact in_3_6 ca b
  rcases List.mem_cons.mp hp with rfl | hp
  · exact in_3_7 ca b
  rcases List.mem_cons.mp hp with rfl | hp
  · exact in_4_0 ca b
  rcases List.mem_cons.mp hp with rfl | hp
  · exact in_4_1 ca b
  rcases List.mem_cons.mp hp with rfl | hp
  · exact in_4_2 ca b
  rcases List.mem_cons.mp hp with rfl | hp
  · exact in_4_3 ca b
  rcases List.mem_cons.mp hp with rfl | hp
  · exact in_4_4 ca b
  rcases List.mem_cons.mp hp with rfl | hp
  · exact in_4_5 ca b
  rcases List.mem_cons.mp hp with rfl | hp
  · exact in_6_0 ca b
  rcases List.mem_cons.mp hp with rfl | hp
  · exact in_7_0 ca b
  rcases List.mem_cons.mp hp with rfl | hp
  · exact in_8_0 ca b
  rcases List.mem_cons.mp hp with rfl | hp
  · exact in_1002_0 ca b
  rcases List.mem_cons.mp hp with rfl | hp
  · exact in_1002_1 ca b
  rcases List.mem_cons.mp hp with rfl | hp
  · exact in_1002_2 ca b
  rcases List.mem_cons.mp hp with rfl | hp
  · exact in_1002_3 ca b
  rcases List.mem_cons.mp hp with rfl | hp
  · exact in_1002_4 ca b
  rcases List.mem_cons.mp hp with rfl | hp
  · exact in_1002_5 ca b
  rcases List.mem_cons.mp hp with rfl | hp
  · exact in_1003_0 ca b
  rcases List.mem_cons.mp hp with rfl | hp
  · exact in_1003_1 ca b
  rcases List.mem_cons.mp hp with rfl | hp
  · exact in_1003_2 ca b
  rcases List.mem_cons.mp hp with rfl | hp
  · exact in_1003_3 ca b
  rcases List.mem_cons.mp hp with rfl | hp
  · exact in_1003_4 ca b
  rcases List.mem_cons.mp hp with rfl | hp
  · exact in_1003_5 ca b
  rcases List.mem_cons.mp hp with rfl | hp
  · exact in_1100_0 ca b
  rcases List.mem_cons.mp hp with rfl | hp
  · exact in_1100_1 ca b
  rcases List.mem_cons.mp hp with rfl | hp
  · exact in_1100_2 ca b
  rcases List.mem_cons.mp hp with rfl | hp
  · exact in_1100_3 ca b
  rcases List.mem_cons.mp hp with rfl | hp
  · exact in_1100_4 ca b
  rcases List.mem_cons.mp hp with rfl | hp
  · exact in_1100_5 ca b
  rcases List.mem_cons.mp hp with rfl | hp
  · exact in_1100_6 ca b
  rcases List.mem_cons.mp hp with rfl | hp
  · exact in_1100_7 ca b
  rcases List.mem_cons.mp hp with rfl | hp
  · exact in_1100_8 ca b
  rcases List.mem_cons.mp hp with rfl | hp
  · exact in_1100_9 ca b
  rcases List.mem_cons.mp hp with rfl | hp
  · exact in_1100_10 ca b
  rcases List.mem_cons.mp hp with rfl | hp
  · exact in_1100_11 ca b
  rcases List.mem_cons.mp hp with rfl | hp
  · exact in_1100_12 ca b
  rcases List.mem_cons.mp hp with rfl | hp
  · exact in_1100_13 ca b
  rcases List.mem_cons.mp hp with rfl | hp
  · exact in_1101_0 ca b
  rcases List.mem_cons.mp hp with rfl | hp
  · exact in_1101_1 ca b
  rcases List.mem_cons.mp hp with rfl | hp
  · exact in_1101_2 ca b
  rcases List.mem_cons.mp hp with rfl | hp
  · exact in_1101_3 ca b
  rcases List.mem_cons.mp hp with rfl | hp
  · exact in_1101_4 ca b
  rcases List.mem_cons.mp hp with rfl | hp
  · exact in_1101_5 ca b
  rcases List.mem_cons.mp hp with rfl | hp
  · exact in_1101_6 ca b
  rcases List.mem_cons.mp hp with rfl | hp
  · exact in_1101_7 ca b
  rcases List.mem_cons.mp hp with rfl | hp
  · exact in_1101_8 ca b
  rcases List.mem_cons.mp hp with rfl | hp
  · exact in_1101_9 ca b
  rcases List.mem_cons.mp hp with rfl | hp
  · exact in_1101_10 ca b
  rcases List.mem_cons.mp hp with rfl | hp
  · exact in_1101_11 ca b
  rcases List.mem_cons.mp hp with rfl | hp
  · exact in_1101_12 ca b
  rcases List.mem_cons.mp hp with rfl | hp
  · exact in_1101_13 ca b
  rcases List.mem_cons.mp hp with rfl | hp
  · exact in_1201_0 ca b
  rcases List.mem_cons.mp hp with rfl | hp
  · exact in_1202_0 ca b
  rcases List.mem_cons.mp hp with rfl | hp
  · exact in_1400_0 ca b
  rcases List.mem_cons.mp hp with rfl | hp
  · exact in_1400_1 ca b
  rcases List.mem_cons.mp hp with rfl | hp
  · exact in_1400_2 ca b
  rcases List.mem_cons.mp hp with rfl | hp
  · exact in_1400_3 ca b
  rcases List.mem_cons.mp hp with rfl | hp
  · exact in_1400_4 ca b
  rcases List.mem_cons.mp hp with rfl | hp
  · exact in_1400_5 ca b
  rcases List.mem_cons.mp hp with rfl | hp
  · exact in_1401_0 ca b
  rcases List.mem_cons.mp hp with rfl | hp
  · exact in_1401_1 ca b
  rcases List.mem_cons.mp hp with rfl | hp
  · exact in_1401_2 ca b
  rcases List.mem_cons.mp hp with rfl | hp
  · exact in_1401_3 ca b
  rcases List.mem_cons.mp hp with rfl | hp
  · exact in_1401_4 ca b
  rcases List.mem_cons.mp hp with rfl | hp
  · exact in_1401_5 ca b
  rcases List.mem_cons.mp hp with rfl | hp
  · exact in_1402_0 ca b
  rcases List.mem_cons.mp hp with rfl | hp
  · exact in_1402_1 ca b
  rcases List.mem_cons.mp hp with rfl | hp
  · exact in_1402_2 ca b
  rcases List.mem_cons.mp hp with rfl | hp
  · exact in_1402_3 ca b
  rcases List.mem_cons.mp hp with rfl | hp
  · exact in_1402_4 ca b
  rcases List.mem_cons.mp hp with rfl | hp
  · exact in_1402_5 ca b
  rcases List.mem_cons.mp hp with rfl | hp
  · exact in_1403_0 ca b
  rcases List.mem_cons.mp hp with rfl | hp
  · exact in_1403_1 ca b
  rcases List.mem_cons.mp hp with rfl | hp
  · exact in_1403_2 ca b
  rcases List.mem_cons.mp hp with rfl | hp
  · exact in_1403_3 ca b
  rcases List.mem_cons.mp hp with rfl | hp
  · exact in_1403_4 ca b
  rcases List.mem_cons.mp hp with rfl | hp
  · exact in_1403_5 ca b
  rcases List.mem_cons.mp hp with rfl | hp
  · exact in_1602_0 ca b
  rcases List.mem_cons.mp hp with rfl | hp
  · exact in_1700_0 ca b
  rcases List.mem_cons.mp hp with rfl | hp
  · exact in_1800_0 ca b
  rcases List.mem_cons.mp hp with rfl | hp
  · exact in_1801_0 ca b
  rcases List.mem_cons.mp hp with rfl | hp
  · exact in_1802_0 ca b
  · exact absurd hp (List.not_mem_nil)
theorem pic_PT {D : va_G} {ca : Nat → ClassId} {b : Nat} {H : Jvm.Heap} (h : gp D b (wZ ca b) 137 H) : pic true D ca (rho b) S0 H := fun k i h1 h2 => h.2 _ _ (in_PT ca b _ (PT_all k i h1 h2))
def PF : List (Nat × Nat) := [(9, 0), (1900, 0), (1901, 0), (1902, 0), (1903, 0), (1904, 0), (1905, 0), (1906, 0), (1907, 0), (1908, 0), (1910, 0), (1913, 0), (1915, 0), (1916, 0), (1917, 0), (1918, 0), (1919, 0), (1922, 0), (1923, 0), (1924, 0), (1925, 0), (1926, 0), (1927, 0), (1928, 0), (1929, 0), (1940, 0)]
theorem PF_all : ∀ k i, unit false k = true → i < cnt k → (k, i) ∈ PF := by
  intro k i hu hi
  have hk : k < 2000 := by
    unfold unit at hu
    simp at hu
    omega
  have hi2 : i < 16 := by
    have : (List.range 2000).all (fun k => decide (cnt k ≤ 16)) = true := by decide +kernel
    have := of_decide_eq_true (List.all_eq_true.mp this k (List.mem_range.mpr hk))
    omega
  have h : (List.range 2000).all (fun k => (List.range 16).all fun i => !(unit false k) || !(decide (i < cnt k)) || PF.contains (k, i)) = true := by decide +kernel
  have h1 := List.all_eq_true.mp (List.all_eq_true.mp h k (List.mem_range.mpr hk)) i (List.mem_range.mpr hi2)
  simp only [hu, hi, decide_true, Bool.not_true, Bool.false_or] at h1
  exact List.contains_iff_mem.mp h1
theorem Ap_PF (b : Nat) : Ap false (rho b) := by
  intro k i k2 i2 h1 h2 h3 h4 e
  have e2 : offC k i = offC k2 i2 := Nat.add_left_cancel e
  have h : PF.all (fun p => PF.all fun q => !(decide (offC p.1 p.2 = offC q.1 q.2)) || decide (p = q)) = true := by decide +kernel
  have h5 := List.all_eq_true.mp (List.all_eq_true.mp h _ (PF_all k i h1 h2)) _ (PF_all k2 i2 h3 h4)
  simp only [e2, decide_true, Bool.not_true, Bool.false_or] at h5
  have h6 := of_decide_eq_true h5
  exact ⟨congrArg Prod.fst h6, congrArg Prod.snd h6⟩
theorem off_PF : ∀ k i, unit false k = true → i < cnt k → 109 ≤ offC k i ∧ offC k i < 135 := by
  intro k i h1 h2
  have h : PF.all (fun p => decide (109 ≤ offC p.1 p.2 ∧ offC p.1 p.2 < 135)) = true := by decide +kernel
  exact of_decide_eq_true (List.all_eq_true.mp h _ (PF_all k i h1 h2))
set_option maxRecDepth 100000 in
theorem in_9_0 (ca : Nat → ClassId) (b : Nat) : wZ ca b (offC 9 0) = some (cellOf ca (rho b) S0 9 0) := rfl
set_option maxRecDepth 100000 in
theorem in_1900_0 (ca : Nat → ClassId) (b : Nat) : wZ ca b (offC 1900 0) = some (cellOf ca (rho b) S0 1900 0) := rfl
set_option maxRecDepth 100000 in
theorem in_1901_0 (ca : Nat → ClassId) (b : Nat) : wZ ca b (offC 1901 0) = some (cellOf ca (rho b) S0 1901 0) := rfl
set_option maxRecDepth 100000 in
theorem in_1902_0 (ca : Nat → ClassId) (b : Nat) : wZ ca b (offC 1902 0) = some (cellOf ca (rho b) S0 1902 0) := rfl
set_option maxRecDepth 100000 in
theorem in_1903_0 (ca : Nat → ClassId) (b : Nat) : wZ ca b (offC 1903 0) = some (cellOf ca (rho b) S0 1903 0) := rfl
set_option maxRecDepth 100000 in
theorem in_1904_0 (ca : Nat → ClassId) (b : Nat) : wZ ca b (offC 1904 0) = some (cellOf ca (rho b) S0 1904 0) := rfl
set_option maxRecDepth 100000 in
theorem in_1905_0 (ca : Nat → ClassId) (b : Nat) : wZ ca b (offC 1905 0) = some (cellOf ca (rho b) S0 1905 0) := rfl
set_option maxRecDepth 100000 in
theorem in_1906_0 (ca : Nat → ClassId) (b : Nat) : wZ ca b (offC 1906 0) = some (cellOf ca (rho b) S0 1906 0) := rfl
set_option maxRecDepth 100000 in
theorem in_1907_0 (ca : Nat → ClassId) (b : Nat) : wZ ca b (offC 1907 0) = some (cellOf ca (rho b) S0 1907 0) := rfl
set_option maxRecDepth 100000 in
theorem in_1908_0 (ca : Nat → ClassId) (b : Nat) : wZ ca b (offC 1908 0) = some (cellOf ca (rho b) S0 1908 0) := rfl
set_option maxRecDepth 100000 in
theorem in_1910_0 (ca : Nat → ClassId) (b : Nat) : wZ ca b (offC 1910 0) = some (cellOf ca (rho b) S0 1910 0) := rfl
set_option maxRecDepth 100000 in
theorem in_1913_0 (ca : Nat → ClassId) (b : Nat) : wZ ca b (offC 1913 0) = some (cellOf ca (rho b) S0 1913 0) := rfl
set_option maxRecDepth 100000 in
theorem in_1915_0 (ca : Nat → ClassId) (b : Nat) : wZ ca b (offC 1915 0) = some (cellOf ca (rho b) S0 1915 0) := rfl
set_option maxRecDepth 100000 in
theorem in_1916_0 (ca : Nat → ClassId) (b : Nat) : wZ ca b (offC 1916 0) = some (cellOf ca (rho b) S0 1916 0) := rfl
set_option maxRecDepth 100000 in
theorem in_1917_0 (ca : Nat → ClassId) (b : Nat) : wZ ca b (offC 1917 0) = some (cellOf ca (rho b) S0 1917 0) := rfl
set_option maxRecDepth 100000 in
theorem in_1918_0 (ca : Nat → ClassId) (b : Nat) : wZ ca b (offC 1918 0) = some (cellOf ca (rho b) S0 1918 0) := rfl
set_option maxRecDepth 100000 in
theorem in_1919_0 (ca : Nat → ClassId) (b : Nat) : wZ ca b (offC 1919 0) = some (cellOf ca (rho b) S0 1919 0) := rfl
set_option maxRecDepth 100000 in
theorem in_1922_0 (ca : Nat → ClassId) (b : Nat) : wZ ca b (offC 1922 0) = some (cellOf ca (rho b) S0 1922 0) := rfl
set_option maxRecDepth 100000 in
theorem in_1923_0 (ca : Nat → ClassId) (b : Nat) : wZ ca b (offC 1923 0) = some (cellOf ca (rho b) S0 1923 0) := rfl
set_option maxRecDepth 100000 in
theorem in_1924_0 (ca : Nat → ClassId) (b : Nat) : wZ ca b (offC 1924 0) = some (cellOf ca (rho b) S0 1924 0) := rfl
set_option maxRecDepth 100000 in
theorem in_1925_0 (ca : Nat → ClassId) (b : Nat) : wZ ca b (offC 1925 0) = some (cellOf ca (rho b) S0 1925 0) := rfl
set_option maxRecDepth 100000 in
theorem in_1926_0 (ca : Nat → ClassId) (b : Nat) : wZ ca b (offC 1926 0) = some (cellOf ca (rho b) S0 1926 0) := rfl
set_option maxRecDepth 100000 in
theorem in_1927_0 (ca : Nat → ClassId) (b : Nat) : wZ ca b (offC 1927 0) = some (cellOf ca (rho b) S0 1927 0) := rfl
set_option maxRecDepth 100000 in
theorem in_1928_0 (ca : Nat → ClassId) (b : Nat) : wZ ca b (offC 1928 0) = some (cellOf ca (rho b) S0 1928 0) := rfl
set_option maxRecDepth 100000 in
theorem in_1929_0 (ca : Nat → ClassId) (b : Nat) : wZ ca b (offC 1929 0) = some (cellOf ca (rho b) S0 1929 0) := rfl
set_option maxRecDepth 100000 in
theorem in_1940_0 (ca : Nat → ClassId) (b : Nat) : wZ ca b (offC 1940 0) = some (cellOf ca (rho b) S0 1940 0) := rfl
theorem in_PF (ca : Nat → ClassId) (b : Nat) : ∀ p ∈ PF, wZ ca b (offC p.1 p.2) = some (cellOf ca (rho b) S0 p.1 p.2) := by
  intro p hp
  unfold PF at hp
  rcases List.mem_cons.mp hp with rfl | hp
  · exact in_9_0 ca b
  rcases List.mem_cons.mp hp with rfl | hp
  · exact in_1900_0 ca b
  rcases List.mem_cons.mp hp with rfl | hp
  · exact in_1901_0 ca b
  rcases List.mem_cons.mp hp with rfl | hp
  · exact in_1902_0 ca b
  rcases List.mem_cons.mp hp with rfl | hp
  · exact in_1903_0 ca b
  rcases List.mem_cons.mp hp with rfl | hp
  · exact in_1904_0 ca b
  rcases List.mem_cons.mp hp with rfl | hp
  · exact in_1905_0 ca b
  rcases List.mem_cons.mp hp with rfl | hp
  · exact in_1906_0 ca b
  rcases List.mem_cons.mp hp with rfl | hp
  · exact in_1907_0 ca b
  rcases List.mem_cons.mp hp with rfl | hp
  · exact in_1908_0 ca b
  rcases List.mem_cons.mp hp with rfl | hp
  · exact in_1910_0 ca b
  rcases List.mem_cons.mp hp with rfl | hp
  · exact in_1913_0 ca b
  rcases List.mem_cons.mp hp with rfl | hp
  · exact in_1915_0 ca b
  rcases List.mem_cons.mp hp with rfl | hp
  · exact in_1916_0 ca b
  rcases List.mem_cons.mp hp with rfl | hp
  · exact in_1917_0 ca b
  rcases List.mem_cons.mp hp with rfl | hp
  · exact in_1918_0 ca b
  rcases List.mem_cons.mp hp with rfl | hp
  · exact in_1919_0 ca b
  rcases List.mem_cons.mp hp with rfl | hp
  · exact in_1922_0 ca b
  rcases List.mem_cons.mp hp with rfl | hp
  · exact in_1923_0 ca b
  rcases List.mem_cons.mp hp with rfl | hp
  · exact in_1924_0 ca b
  rcases List.mem_cons.mp hp with rfl | hp
  · exact in_1925_0 ca b
  rcases List.mem_cons.mp hp with rfl | hp
  · exact in_1926_0 ca b
  rcases List.mem_cons.mp hp with rfl | hp
  · exact in_1927_0 ca b
  rcases List.mem_cons.mp hp with rfl | hp
  · exact in_1928_0 ca b
  rcases List.mem_cons.mp hp with rfl | hp
  · exact in_1929_0 ca b
  rcases List.mem_cons.mp hp with rfl | hp
  · exact in_1940_0 ca b
  · exact absurd hp (List.not_mem_nil)
theorem pic_PF {D : va_G} {ca : Nat → ClassId} {b : Nat} {H : Jvm.Heap} (h : gp D b (wZ ca b) 137 H) : pic false D ca (rho b) S0 H := fun k i h1 h2 => h.2 _ _ (in_PF ca b _ (PF_all k i h1 h2))
