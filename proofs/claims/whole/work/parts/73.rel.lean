/-! PURE: RUNNING: the two machines beside each other -/
-- a control: how many calls, and of each the function, the instructions left to the pass's end, the place, the pass's state there
abbrev Ct : Type := Nat × (Nat → Nat) × (Nat → Nat) × (Nat → Nat) × (Nat → SB)
def xd (c : Ct) : Nat := c.1
def xf (c : Ct) : Nat → Nat := c.2.1
def xm (c : Ct) : Nat → Nat := c.2.2.1
def xp (c : Ct) : Nat → Nat := c.2.2.2.1
def xs (c : Ct) : Nat → SB := c.2.2.2.2
/-- how many values call j has: one that waits for a result hasn't it yet -/
def xh (P : Prog) (c : Ct) (j : Nat) : Nat := if j + 1 = xd c then qh (xs c j) else if pR P (xf c (j + 1)) = 0 then qh (xs c j) else qh (xs c j) - 1
/-- the values and the frames of the calls below j -/
def xB (P : Prog) (c : Ct) : Nat → Nat
  | 0 => 0
  | j + 1 => xB P c j + xh P c j
def xF (c : Ct) : Nat → Nat
  | 0 => 0
  | j + 1 => xF c j + qn (xs c j)
/-- a value of kind k in both -/
def VR (k : Nat) (a : Int64) (x : UInt64) (b : Int64) (y : UInt64) : Prop := if k = 3 then x = y ∧ fin x else a = b ∧ (k = 1 → a.toInt32.toInt64 = a)
/-- what the control is worth -/
def XW (P : Prog) (c : Ct) : Prop := 1 ≤ xd c ∧ xd c ≤ 6 ∧ (∀ j, j < xd c → xf c j < 6 ∧ Here P (xf c j) (xm c j) (xp c j) (xs c j) ∧ Live (xs c j) ∧ 1 ≤ qn (xs c j)) ∧ ∀ j, j + 1 < xd c → ¬ pR P (xf c (j + 1)) = 0 → 1 ≤ qh (xs c j) ∧ qK (xs c j) (qh (xs c j) - 1) = pR P (xf c (j + 1)) ∧ fb (sTop (xs c j)) < qh (xs c j)
/-- the class shows the control -/
def XC (P : Prog) (c : Ct) (C : St) : Prop := gI C 1607 0 = nI (xd c) ∧ ∀ j, j < xd c → gR C 1004 j = xf c j ∧ gI C 1005 j = nI (xp c j) ∧ gI C 1006 j = nI (qn (xs c j)) ∧ gI C 1102 (2 * j) = nI (xh P c j) ∧ ∀ i, 1 ≤ i → i < qn (xs c j) → gA C 1002 j i = nI (fg (qF (xs c j) i)) ∧ gA C 1003 j i = nI (fb (qF (xs c j) i))
/-- the reference shows the control -/
def XM (P : Prog) (c : Ct) (M : St) : Prop := gI M 1930 0 = nI (xd c) ∧ gI M 1931 0 = nI (xp c (xd c - 1)) ∧ gI M 1920 0 = nI (xF c (xd c)) ∧ gI M 1914 0 = nI (xB P c (xd c)) ∧ ∀ j, j < xd c → gA M 1927 0 j = nI (xf c j) ∧ gA M 1929 0 j = nI (xF c j) ∧ (1 ≤ j → gA M 1928 0 j = nI (xp c (j - 1))) ∧ ∀ i, i < qn (xs c j) → gA M 1915 0 (xF c j + i) = nI (fo (qF (xs c j) i)) ∧ gA M 1916 0 (xF c j + i) = nI (fk (qF (xs c j) i)) ∧ gA M 1917 0 (xF c j + i) = nI (xB P c j + fb (qF (xs c j) i)) ∧ (1 ≤ i → gA M 1924 0 (xF c j + i) = nI (fg (qF (xs c j) i) + 2))
/-- the values on the stacks, the variables -/
def XV (P : Prog) (c : Ct) (C M : St) : Prop := ∀ j, j < xd c → (∀ i, i < xh P c j → VR (qK (xs c j) i) (gJ C 1100 (2 * j) i) (gD C 1101 (2 * j) i) (gJ M 1922 0 (xB P c j + i)) (gD M 1923 0 (xB P c j + i))) ∧ ∀ v, v < pV P (xf c j) → VR (pK P (xf c j) v) (gJ C 1100 (2 * j + 1) v) (gD C 1101 (2 * j + 1) v) (gJ M 1925 0 (6 * j + v)) (gD M 1926 0 (6 * j + v))
/-- globals and memory -/
def XG (C M : St) : Prop := VR 1 (gJ C 1100 12 0) 0 (gJ M 1908 0 0) 0 ∧ VR 2 (gJ C 1100 12 1) 0 (gJ M 1908 0 1) 0 ∧ VR 3 0 (gD C 1101 12 2) 0 (gF M 1909 0) ∧ ∀ i, i < 64 → ∃ n, n < 256 ∧ gA C 1700 0 i = nI n ∧ gA M 1907 0 i = nI n
/-- the class's notes of a checked function are the pass's -/
def XN (P : Prog) (C : St) : Prop := ∀ f, f < 6 → 1 ≤ pL P f → chk P f = none ∧ ∃ N, ∀ j, j < 60 → gA C 1402 f j = (goN P f 61 0 (sIni P f) N).1 j ∧ gA C 1403 f j = (goN P f 61 0 (sIni P f) N).2 j
/-- both machines, RUNNING -/
def XX (P : Prog) (c : Ct) (C M : St) : Prop := PW P ∧ PC P C ∧ PM P M ∧ XW P c ∧ XC P c C ∧ XM P c M ∧ XV P c C M ∧ XG C M ∧ XN P C
/-- the notes of a frame that is open: where its END is, and its ELSE -/
theorem note_at {P : Prog} (hw : PW P) {C : St} (hN : XN P C) {f m pc t : Nat} {s : SB} (hf : f < 6) (h : Here P f m pc s) (ht1 : 1 ≤ t) (ht : t < qn s) : gA C 1403 f (fg (qF s t)) = nI (endOf P f t m pc s + 1) := by
  obtain ⟨hr, g, hb, hfi, hbi, hp, hn, -⟩ := h
  have hl := (hw f hf).2.2.2.2.1
  have own := hbi.own (by omega) ht1 ht
  have hL : 1 ≤ pL P f := by
    have := own.1
    omega
  obtain ⟨hck, N, hNN⟩ := hN f hf hL
  obtain ⟨N', hN'⟩ := hn N
  have hb60 : fg (qF s t) < 60 := by have := own.1; omega
  rw [(hNN _ hb60).2, ← hN']
  exact note_end hw hf m pc s N' hr g hb ht own
