/-! THE STATE: a map a field; objects of a class by number. Keys: 1000 + 100 * class + place of the field. A kind below 1000 is a class's objects; from 1000 on the array that this field holds. -/
abbrev St : Type := (Nat → Nat → Int32) × (Nat → Nat → Nat → Int32) × (Nat → Nat → Nat → Int64) × (Nat → Nat → Nat → UInt64) × (Nat → Nat → Nat) × (Nat → Nat → Int64) × (Nat → Nat → UInt64)
def gI (S : St) (k i : Nat) : Int32 := S.1 k i
def gA (S : St) (k i j : Nat) : Int32 := S.2.1 k i j
def gJ (S : St) (k i j : Nat) : Int64 := S.2.2.1 k i j
def gD (S : St) (k i j : Nat) : UInt64 := S.2.2.2.1 k i j
def gR (S : St) (k i : Nat) : Nat := S.2.2.2.2.1 k i
def gL (S : St) (k i : Nat) : Int64 := S.2.2.2.2.2.1 k i
def gF (S : St) (k i : Nat) : UInt64 := S.2.2.2.2.2.2 k i
def sI (S : St) (k i : Nat) (v : Int32) : St := (fun a b => if a = k ∧ b = i then v else S.1 a b, S.2)
def sA (S : St) (k i j : Nat) (v : Int32) : St := (S.1, fun a b c => if a = k ∧ b = i ∧ c = j then v else S.2.1 a b c, S.2.2)
def sJ (S : St) (k i j : Nat) (v : Int64) : St := (S.1, S.2.1, fun a b c => if a = k ∧ b = i ∧ c = j then v else S.2.2.1 a b c, S.2.2.2)
def sD (S : St) (k i j : Nat) (v : UInt64) : St := (S.1, S.2.1, S.2.2.1, fun a b c => if a = k ∧ b = i ∧ c = j then v else S.2.2.2.1 a b c, S.2.2.2.2)
def sR (S : St) (k i : Nat) (v : Nat) : St := (S.1, S.2.1, S.2.2.1, S.2.2.2.1, fun a b => if a = k ∧ b = i then v else S.2.2.2.2.1 a b, S.2.2.2.2.2)
def sL (S : St) (k i : Nat) (v : Int64) : St := (S.1, S.2.1, S.2.2.1, S.2.2.2.1, S.2.2.2.2.1, fun a b => if a = k ∧ b = i then v else S.2.2.2.2.2.1 a b, S.2.2.2.2.2.2)
def sF (S : St) (k i : Nat) (v : UInt64) : St := (S.1, S.2.1, S.2.2.1, S.2.2.2.1, S.2.2.2.2.1, S.2.2.2.2.2.1, fun a b => if a = k ∧ b = i then v else S.2.2.2.2.2.2 a b)
-- how many cells a Cells object has
def cellsN (i : Nat) : Nat := if i < 12 then (if i % 2 = 0 then 16 else 6) else if i = 12 then 3 else 1
/-- how many objects of a kind there are -/
def cnt : Nat → Nat
  | 0 => 6 | 1 => 14 | 2 => 1 | 3 => 8 | 4 => 6 | 6 => 1 | 7 => 1 | 8 => 1 | 9 => 1
  | 1002 => 6 | 1003 => 6 | 1100 => 14 | 1101 => 14 | 1201 => 1 | 1202 => 1 | 1400 => 6 | 1401 => 6 | 1402 => 6 | 1403 => 6 | 1602 => 1 | 1700 => 1 | 1800 => 1 | 1801 => 1 | 1802 => 1
  | 1900 => 1 | 1901 => 1 | 1902 => 1 | 1903 => 1 | 1904 => 1 | 1905 => 1 | 1906 => 1 | 1907 => 1 | 1908 => 1 | 1910 => 1 | 1913 => 1 | 1915 => 1 | 1916 => 1 | 1917 => 1 | 1918 => 1 | 1919 => 1 | 1922 => 1 | 1923 => 1 | 1924 => 1 | 1925 => 1 | 1926 => 1 | 1927 => 1 | 1928 => 1 | 1929 => 1 | 1940 => 1
  | _ => 0
/-- an array's type and length: 0 int, 1 long, 2 double, 3 boolean, 10 + c references to class c -/
def ad : Nat → Nat → Option (Nat × Nat)
  | 1002, _ => some (0, 8) | 1003, _ => some (0, 8) | 1100, i => some (1, cellsN i) | 1101, i => some (2, cellsN i) | 1201, _ => some (0, 16) | 1202, _ => some (13, 8)
  | 1400, _ => some (0, 6) | 1401, _ => some (0, 60) | 1402, _ => some (0, 60) | 1403, _ => some (0, 60) | 1602, _ => some (10, 6) | 1700, _ => some (0, 64) | 1800, _ => some (14, 6) | 1801, _ => some (0, 8) | 1802, _ => some (0, 3)
  | 1900, _ => some (0, 36) | 1901, _ => some (0, 6) | 1902, _ => some (0, 6) | 1903, _ => some (0, 6) | 1904, _ => some (0, 360) | 1905, _ => some (0, 6) | 1906, _ => some (0, 8) | 1907, _ => some (0, 64) | 1908, _ => some (1, 3) | 1910, _ => some (0, 3) | 1913, _ => some (0, 16)
  | 1915, _ => some (0, 60) | 1916, _ => some (0, 60) | 1917, _ => some (0, 60) | 1918, _ => some (3, 60) | 1919, _ => some (3, 60) | 1922, _ => some (1, 200) | 1923, _ => some (2, 200) | 1924, _ => some (0, 60) | 1925, _ => some (1, 36) | 1926, _ => some (2, 36)
  | 1927, _ => some (0, 6) | 1928, _ => some (0, 6) | 1929, _ => some (0, 6) | 1940, _ => some (0, 240)
  | _, _ => none
/-- a class's fields in the order of its T: how the value is read (0 int; 1 the reference of the same number; 2, 3 twice the number, and one more; 4, 5, 6 the number 0, 12, 13; 7 a reference by the state; 8 long; 9 double), its key, the kind that a reference names -/
def desc : Nat → List (Nat × Nat × Nat)
  | 0 => [(2, 0, 1), (3, 0, 1), (1, 0, 1002), (1, 0, 1003), (7, 1004, 4), (0, 1005, 0), (0, 1006, 0)]
  | 1 => [(1, 0, 1100), (1, 0, 1101), (0, 1102, 0)]
  | 2 => [(4, 0, 1800), (1, 0, 1201), (1, 0, 1202), (7, 1203, 4), (7, 1204, 3), (0, 1205, 0), (0, 1206, 0), (0, 1207, 0)]
  | 3 => [(0, 1300, 0), (0, 1301, 0), (0, 1302, 0), (0, 1303, 0), (0, 1304, 0), (0, 1305, 0)]
  | 4 => [(1, 0, 1400), (1, 0, 1401), (1, 0, 1402), (1, 0, 1403), (0, 1404, 0), (0, 1405, 0), (0, 1406, 0), (0, 1407, 0)]
  | 6 => [(4, 0, 1800), (4, 0, 1801), (4, 0, 1602), (4, 0, 7), (5, 0, 1), (6, 0, 1), (0, 1606, 0), (0, 1607, 0)]
  | 7 => [(1, 0, 1700)]
  | 8 => [(1, 0, 1800), (1, 0, 1801), (1, 0, 1802), (1, 0, 2), (1, 0, 6), (0, 1805, 0), (0, 1806, 0), (0, 1807, 0), (0, 1808, 0), (0, 1809, 0)]
  | 9 => [(1, 0, 1900), (1, 0, 1901), (1, 0, 1902), (1, 0, 1903), (1, 0, 1904), (1, 0, 1905), (1, 0, 1906), (1, 0, 1907), (1, 0, 1908), (9, 1909, 0), (1, 0, 1910), (0, 1911, 0), (0, 1912, 0), (1, 0, 1913), (0, 1914, 0), (1, 0, 1915), (1, 0, 1916), (1, 0, 1917), (1, 0, 1918), (1, 0, 1919), (0, 1920, 0), (0, 1921, 0), (1, 0, 1922), (1, 0, 1923), (1, 0, 1924), (1, 0, 1925), (1, 0, 1926), (1, 0, 1927), (1, 0, 1928), (1, 0, 1929), (0, 1930, 0), (0, 1931, 0), (0, 1932, 0), (0, 1933, 0), (0, 1934, 0), (0, 1935, 0), (0, 1936, 0), (8, 1937, 0), (9, 1938, 0), (0, 1939, 0), (1, 0, 1940)]
  | _ => []
def fval (ρ : Nat → Nat → Nat) (S : St) (i : Nat) (q : Nat × Nat × Nat) : Value := match q.1 with
  | 0 => .int (gI S q.2.1 i)
  | 1 => .ref (ρ q.2.2 i)
  | 2 => .ref (ρ q.2.2 (2 * i))
  | 3 => .ref (ρ q.2.2 (2 * i + 1))
  | 4 => .ref (ρ q.2.2 0)
  | 5 => .ref (ρ q.2.2 12)
  | 6 => .ref (ρ q.2.2 13)
  | 7 => .ref (ρ q.2.2 (gR S q.2.1 i))
  | 8 => .long (gL S q.2.1 i)
  | _ => .double (gF S q.2.1 i)
def arrC (ρ : Nat → Nat → Nat) (S : St) (k i t n : Nat) : (Nat → Int32) ⊕ (Nat → Int64) ⊕ (Nat → UInt32) ⊕ (Nat → UInt64) ⊕ (Nat → Option Nat) := match t with
  | 0 => .inl (gA S k i)
  | 1 => .inr (.inl (gJ S k i))
  | 2 => .inr (.inr (.inr (.inl (gD S k i))))
  | 3 => .inl (gA S k i)
  | t => .inr (.inr (.inr (.inr (fun j => if j < n then some (ρ (t - 10) j) else none))))
def cellOf (ca : Nat → ClassId) (ρ : Nat → Nat → Nat) (S : St) (k i : Nat) : va_E := match ad k i with
  | none => .inr (k, (desc k).map (fval ρ S i))
  | some (t, n) => .inl (ca t, n, arrC ρ S k i t n)
abbrev classes : List vw_C := [(R0, T0, 7), (R1, T1, 3), (R2, T2, 8), (R3, T3, 6), (R4, T4, 8), (R3, T3, 6), (R6, T6, 8), (R7, T7, 1), (R8, T8, 10), (R9, T9, 41)]
abbrev tys (ca : Nat → ClassId) : List (ClassId × FieldType) := [(ca 0, .int), (ca 1, .long), (ca 2, .double), (ca 3, .boolean), (ca 10, .object "StackForge$Call"), (ca 13, .object "StackForge$Frame"), (ca 14, .object "StackForge$Function")]
/-- the kinds of a world: true the class's, false the reference's -/
def unit (u : Bool) (k : Nat) : Bool := if u then (decide (k < 9) || (decide (1000 ≤ k) && decide (k < 1900))) else (decide (k = 9) || (decide (1900 ≤ k) && decide (k < 2000)))
def pic (u : Bool) (D : va_G) (ca : Nat → ClassId) (ρ : Nat → Nat → Nat) (S : St) (H : Heap) : Prop := ∀ k i, unit u k = true → i < cnt k → va_at D classes (ρ k i, cellOf ca ρ S k i) H
def Ap (u : Bool) (ρ : Nat → Nat → Nat) : Prop := ∀ k i k' i', unit u k = true → i < cnt k → unit u k' = true → i' < cnt k' → ρ k i = ρ k' i' → k = k' ∧ i = i'
def reg (u : Bool) (ρ : Nat → Nat → Nat) (q : Nat) : Prop := ∃ k i, unit u k = true ∧ i < cnt k ∧ q = ρ k i
def Ar (u : Bool) (ρ : Nat → Nat → Nat) (sz : Nat) : Nat → Prop := fun q => reg u ρ q ∨ sz ≤ q
theorem desc_ok (k : Nat) : ∀ q ∈ desc k, (q.1 = 0 ∨ 7 ≤ q.1) → (q.2.1 - 1000) / 100 = k := by
  match k with
  | 0 | 1 | 2 | 3 | 4 | 6 | 7 | 8 | 9 => decide
  | 5 => decide
  | k + 10 => intro q hq; simp [desc] at hq
theorem pic.put {u : Bool} {D : va_G} {ca : Nat → ClassId} {ρ : Nat → Nat → Nat} {S S' : St} {H H' : Heap} (hA : Ap u ρ) (hP : pic u D ca ρ S H) {k i : Nat} (hu : unit u k = true) (hi : i < cnt k) (he : va_at D classes (ρ k i, cellOf ca ρ S' k i) H')
    (oq : ∀ q : Nat, q ≠ ρ k i → H'[q]? = H[q]?) (same : ∀ k' i', ¬ (k' = k ∧ i' = i) → cellOf ca ρ S' k' i' = cellOf ca ρ S k' i') : pic u D ca ρ S' H' := by
  intro k' i' hu' hi'
  by_cases h : k' = k ∧ i' = i
  · obtain ⟨rfl, rfl⟩ := h
    exact he
  · rw [same k' i' h]
    refine (hP k' i' hu' hi').kept (oq _ fun e => h ?_)
    exact hA k' i' k i hu' hi' hu hi e
theorem cell_congr {ca : Nat → ClassId} {ρ : Nat → Nat → Nat} {S S' : St} {k i : Nat} (h1 : ∀ q ∈ desc k, fval ρ S' i q = fval ρ S i q) (h2 : gA S' k i = gA S k i) (h3 : gJ S' k i = gJ S k i) (h4 : gD S' k i = gD S k i) : cellOf ca ρ S' k i = cellOf ca ρ S k i := by
  unfold cellOf
  split
  · rw [List.map_congr_left h1]
  · rename_i t n _
    have : arrC ρ S' k i t n = arrC ρ S k i t n := by
      unfold arrC
      split <;> simp only [h2, h3, h4]
    rw [this]
theorem kOf {q : Nat × Nat × Nat} {k key : Nat} (hq : q ∈ desc k) (ht : q.1 = 0 ∨ 7 ≤ q.1) (e : q.2.1 = key) : k = (key - 1000) / 100 := by rw [← e]; exact (desc_ok k q hq ht).symm
theorem same_I {ca : Nat → ClassId} {ρ : Nat → Nat → Nat} {S : St} {key i : Nat} {v : Int32} (k' i' : Nat) (h : ¬ (k' = (key - 1000) / 100 ∧ i' = i)) : cellOf ca ρ (sI S key i v) k' i' = cellOf ca ρ S k' i' := by
  refine cell_congr (fun q hq => ?_) rfl rfl rfl
  unfold fval
  split <;> first | rfl | skip
  rename_i e
  show Value.int (if q.2.1 = key ∧ i' = i then v else gI S q.2.1 i') = _
  rw [if_neg fun z => h ⟨kOf hq (Or.inl e) z.1, z.2⟩]
theorem same_R {ca : Nat → ClassId} {ρ : Nat → Nat → Nat} {S : St} {key i : Nat} {v : Nat} (k' i' : Nat) (h : ¬ (k' = (key - 1000) / 100 ∧ i' = i)) : cellOf ca ρ (sR S key i v) k' i' = cellOf ca ρ S k' i' := by
  refine cell_congr (fun q hq => ?_) rfl rfl rfl
  unfold fval
  split <;> first | rfl | skip
  rename_i e
  show Value.ref (ρ q.2.2 (if q.2.1 = key ∧ i' = i then v else gR S q.2.1 i')) = _
  rw [if_neg fun z => h ⟨kOf hq (Or.inr (by omega)) z.1, z.2⟩]
theorem same_L {ca : Nat → ClassId} {ρ : Nat → Nat → Nat} {S : St} {key i : Nat} {v : Int64} (k' i' : Nat) (h : ¬ (k' = (key - 1000) / 100 ∧ i' = i)) : cellOf ca ρ (sL S key i v) k' i' = cellOf ca ρ S k' i' := by
  refine cell_congr (fun q hq => ?_) rfl rfl rfl
  unfold fval
  split <;> first | rfl | skip
  rename_i e
  show Value.long (if q.2.1 = key ∧ i' = i then v else gL S q.2.1 i') = _
  rw [if_neg fun z => h ⟨kOf hq (Or.inr (by omega)) z.1, z.2⟩]
theorem desc9 (k : Nat) : ∀ q ∈ desc k, q.1 ≤ 9 := by
  match k with
  | 0 | 1 | 2 | 3 | 4 | 6 | 7 | 8 | 9 => decide
  | 5 => decide
  | k + 10 => intro q hq; simp [desc] at hq
theorem same_F {ca : Nat → ClassId} {ρ : Nat → Nat → Nat} {S : St} {key i : Nat} {v : UInt64} (k' i' : Nat) (h : ¬ (k' = (key - 1000) / 100 ∧ i' = i)) : cellOf ca ρ (sF S key i v) k' i' = cellOf ca ρ S k' i' := by
  refine cell_congr (fun q hq => ?_) rfl rfl rfl
  unfold fval
  split <;> first | rfl | skip
  rename_i e0 e1 e2 e3 e4 e5 e6 e7 e8
  have n0 : ¬ q.1 = 0 := e0
  have n1 : ¬ q.1 = 1 := e1
  have n2 : ¬ q.1 = 2 := e2
  have n3 : ¬ q.1 = 3 := e3
  have n4 : ¬ q.1 = 4 := e4
  have n5 : ¬ q.1 = 5 := e5
  have n6 : ¬ q.1 = 6 := e6
  show Value.double (if q.2.1 = key ∧ i' = i then v else gF S q.2.1 i') = _
  have h9 := desc9 k' q hq
  rw [if_neg fun z => h ⟨kOf hq (Or.inr (by omega)) z.1, z.2⟩]
theorem same_A {ca : Nat → ClassId} {ρ : Nat → Nat → Nat} {S : St} {key i j : Nat} {v : Int32} (k' i' : Nat) (h : ¬ (k' = key ∧ i' = i)) : cellOf ca ρ (sA S key i j v) k' i' = cellOf ca ρ S k' i' := by
  refine cell_congr (fun q _ => rfl) (funext fun c => ?_) rfl rfl
  show (if k' = key ∧ i' = i ∧ c = j then v else gA S k' i' c) = _
  rw [if_neg fun z => h ⟨z.1, z.2.1⟩]
theorem same_J {ca : Nat → ClassId} {ρ : Nat → Nat → Nat} {S : St} {key i j : Nat} {v : Int64} (k' i' : Nat) (h : ¬ (k' = key ∧ i' = i)) : cellOf ca ρ (sJ S key i j v) k' i' = cellOf ca ρ S k' i' := by
  refine cell_congr (fun q _ => rfl) rfl (funext fun c => ?_) rfl
  show (if k' = key ∧ i' = i ∧ c = j then v else gJ S k' i' c) = _
  rw [if_neg fun z => h ⟨z.1, z.2.1⟩]
theorem same_D {ca : Nat → ClassId} {ρ : Nat → Nat → Nat} {S : St} {key i j : Nat} {v : UInt64} (k' i' : Nat) (h : ¬ (k' = key ∧ i' = i)) : cellOf ca ρ (sD S key i j v) k' i' = cellOf ca ρ S k' i' := by
  refine cell_congr (fun q _ => rfl) rfl rfl (funext fun c => ?_)
  show (if k' = key ∧ i' = i ∧ c = j then v else gD S k' i' c) = _
  rw [if_neg fun z => h ⟨z.1, z.2.1⟩]
theorem sA_row (S : St) (k i j : Nat) (v : Int32) : gA (sA S k i j v) k i = upd (gA S k i) j v := by
  funext c
  show (if k = k ∧ i = i ∧ c = j then v else gA S k i c) = if c = j then v else gA S k i c
  simp
theorem sJ_row (S : St) (k i j : Nat) (v : Int64) : gJ (sJ S k i j v) k i = vp_updL (gJ S k i) j v := by
  funext c
  show (if k = k ∧ i = i ∧ c = j then v else gJ S k i c) = if c = j then v else gJ S k i c
  simp
theorem sD_row (S : St) (k i j : Nat) (v : UInt64) : gD (sD S k i j v) k i = vf_upd (gD S k i) j v := by
  funext c
  show (if k = k ∧ i = i ∧ c = j then v else gD S k i c) = if c = j then v else gD S k i c
  simp
/-- no key stands twice in a class's fields -/
theorem desc_nd (k : Nat) : ∀ (a b : Nat) (p q : Nat × Nat × Nat), (desc k)[a]? = some p → (desc k)[b]? = some q → (p.1 = 0 ∨ 7 ≤ p.1) → p.2.1 = q.2.1 → (q.1 = 0 ∨ 7 ≤ q.1) → a = b := by
  have key : ((List.range 41).all fun a => (List.range 41).all fun b => match (desc k)[a]?, (desc k)[b]? with
      | some p, some q => decide (¬ ((p.1 = 0 ∨ 7 ≤ p.1) ∧ p.2.1 = q.2.1 ∧ (q.1 = 0 ∨ 7 ≤ q.1)) ∨ a = b)
      | _, _ => true) = true ∧ (desc k).length ≤ 41 := by
    match k with
    | 0 | 1 | 2 | 3 | 4 | 5 | 6 | 7 | 8 | 9 => decide +kernel
    | k + 10 => simp [desc]
  intro a b p q h1 h2 t1 e t2
  have la := (List.getElem?_eq_some_iff.mp h1).1
  have lb := (List.getElem?_eq_some_iff.mp h2).1
  have := List.all_eq_true.mp (List.all_eq_true.mp key.1 a (List.mem_range.mpr (by omega))) b (List.mem_range.mpr (by omega))
  rw [h1, h2] at this
  have this := of_decide_eq_true this
  rcases this with h | h
  · exact absurd ⟨t1, e, t2⟩ h
  · exact h
/-- one field of an object written -/
theorem cell_set {ca : Nat → ClassId} {ρ : Nat → Nat → Nat} {S S' : St} {k i a : Nat} {v : Value} (hn : ad k i = none) (hv : ∀ q, (desc k)[a]? = some q → fval ρ S' i q = v) (ho : ∀ b q, (desc k)[b]? = some q → b ≠ a → fval ρ S' i q = fval ρ S i q) :
    cellOf ca ρ S' k i = .inr (k, ((desc k).map (fval ρ S i)).set a v) := by
  unfold cellOf
  rw [hn]
  have : (desc k).map (fval ρ S' i) = ((desc k).map (fval ρ S i)).set a v := by
    apply List.ext_getElem?
    intro b
    by_cases hb : b = a
    · subst hb
      rw [List.getElem?_set]
      simp only [List.getElem?_map, List.length_map]
      cases hq : (desc k)[b]? with
      | none =>
        have := List.getElem?_eq_none_iff.mp hq
        simp; omega
      | some q =>
        have := (List.getElem?_eq_some_iff.mp hq).1
        simp [hv q hq, this]
    · rw [List.getElem?_set_ne (Ne.symm hb)]
      simp only [List.getElem?_map]
      cases hq : (desc k)[b]? with
      | none => rfl
      | some q => simp [ho b q hq hb]
  rw [this]
theorem set_I {ca : Nat → ClassId} {ρ : Nat → Nat → Nat} {S : St} {k i a key z : Nat} {v : Int32} (hn : ad k i = none) (ha : (desc k)[a]? = some (0, key, z)) : cellOf ca ρ (sI S key i v) k i = .inr (k, ((desc k).map (fval ρ S i)).set a (.int v)) := by
  refine cell_set hn (fun q hq => ?_) (fun b q hq hb => ?_)
  · cases ha.symm.trans hq
    show Value.int (if key = key ∧ i = i then v else _) = _
    simp
  · unfold fval
    split <;> first | rfl | skip
    rename_i e
    show Value.int (if q.2.1 = key ∧ i = i then v else gI S q.2.1 i) = _
    rw [if_neg fun w => hb (desc_nd k b a q _ hq ha (Or.inl e) w.1 (Or.inl rfl))]
theorem set_R {ca : Nat → ClassId} {ρ : Nat → Nat → Nat} {S : St} {k i a key z : Nat} {v : Nat} (hn : ad k i = none) (ha : (desc k)[a]? = some (7, key, z)) : cellOf ca ρ (sR S key i v) k i = .inr (k, ((desc k).map (fval ρ S i)).set a (.ref (ρ z v))) := by
  refine cell_set hn (fun q hq => ?_) (fun b q hq hb => ?_)
  · cases ha.symm.trans hq
    show Value.ref (ρ z (if key = key ∧ i = i then v else _)) = _
    simp
  · unfold fval
    split <;> first | rfl | skip
    rename_i e
    show Value.ref (ρ q.2.2 (if q.2.1 = key ∧ i = i then v else gR S q.2.1 i)) = _
    rw [if_neg fun w => hb (desc_nd k b a q _ hq ha (Or.inr (by omega)) w.1 (Or.inr (by show 7 ≤ 7; decide)))]
theorem set_L {ca : Nat → ClassId} {ρ : Nat → Nat → Nat} {S : St} {k i a key z : Nat} {v : Int64} (hn : ad k i = none) (ha : (desc k)[a]? = some (8, key, z)) : cellOf ca ρ (sL S key i v) k i = .inr (k, ((desc k).map (fval ρ S i)).set a (.long v)) := by
  refine cell_set hn (fun q hq => ?_) (fun b q hq hb => ?_)
  · cases ha.symm.trans hq
    show Value.long (if key = key ∧ i = i then v else _) = _
    simp
  · unfold fval
    split <;> first | rfl | skip
    rename_i e
    show Value.long (if q.2.1 = key ∧ i = i then v else gL S q.2.1 i) = _
    rw [if_neg fun w => hb (desc_nd k b a q _ hq ha (Or.inr (by omega)) w.1 (Or.inr (by show 7 ≤ 8; decide)))]
theorem set_F {ca : Nat → ClassId} {ρ : Nat → Nat → Nat} {S : St} {k i a key z : Nat} {v : UInt64} (hn : ad k i = none) (ha : (desc k)[a]? = some (9, key, z)) : cellOf ca ρ (sF S key i v) k i = .inr (k, ((desc k).map (fval ρ S i)).set a (.double v)) := by
  refine cell_set hn (fun q hq => ?_) (fun b q hq hb => ?_)
  · cases ha.symm.trans hq
    show Value.double (if key = key ∧ i = i then v else _) = _
    simp
  · unfold fval
    split <;> first | rfl | skip
    rename_i e0 e1 e2 e3 e4 e5 e6 e7 e8
    have n0 : ¬ q.1 = 0 := e0
    have n1 : ¬ q.1 = 1 := e1
    have n2 : ¬ q.1 = 2 := e2
    have n3 : ¬ q.1 = 3 := e3
    have n4 : ¬ q.1 = 4 := e4
    have n5 : ¬ q.1 = 5 := e5
    have n6 : ¬ q.1 = 6 := e6
    have h9 := desc9 k q (List.mem_of_getElem? hq)
    show Value.double (if q.2.1 = key ∧ i = i then v else gF S q.2.1 i) = _
    rw [if_neg fun w => hb (desc_nd k b a q _ hq ha (Or.inr (by omega)) w.1 (Or.inr (by show 7 ≤ 9; decide)))]
