/-! PURE: the program; the pass over its kinds (h, K, n, F, bad): h kinds K 0 .. on the stack, n frames F 0 .. -/
abbrev Prog : Type := (Nat → Nat → Nat) × (Nat → Nat) × (Nat → Nat) × (Nat → Nat) × (Nat → Nat → Nat) × (Nat → Nat)
def pK (P : Prog) (f v : Nat) : Nat := P.1 f v
def pN (P : Prog) (f : Nat) : Nat := P.2.1 f
def pV (P : Prog) (f : Nat) : Nat := P.2.2.1 f
def pR (P : Prog) (f : Nat) : Nat := P.2.2.2.1 f
def pC (P : Prog) (f i : Nat) : Nat := P.2.2.2.2.1 f i
def pL (P : Prog) (f : Nat) : Nat := P.2.2.2.2.2 f
def PW (P : Prog) : Prop := ∀ f, f < 6 → pN P f ≤ 3 ∧ pN P f ≤ pV P f ∧ pV P f ≤ 6 ∧ pR P f ≤ 3 ∧ pL P f ≤ 60 ∧ (∀ v, v < pV P f → 1 ≤ pK P f v ∧ pK P f v ≤ 3) ∧ ∀ i, i < pL P f → pC P f i < 256
-- a frame: opener, kind, base, dead, else, begin
abbrev Fr : Type := Nat × Nat × Nat × Nat × Nat × Nat
def fo (x : Fr) : Nat := x.1
def fk (x : Fr) : Nat := x.2.1
def fb (x : Fr) : Nat := x.2.2.1
def fd (x : Fr) : Nat := x.2.2.2.1
def fe (x : Fr) : Nat := x.2.2.2.2.1
def fg (x : Fr) : Nat := x.2.2.2.2.2
abbrev SB : Type := Nat × (Nat → Nat) × Nat × (Nat → Fr) × Nat
def qh (s : SB) : Nat := s.1
def qK (s : SB) : Nat → Nat := s.2.1
def qn (s : SB) : Nat := s.2.2.1
def qF (s : SB) : Nat → Fr := s.2.2.2.1
def qb (s : SB) : Nat := s.2.2.2.2
def fup {α : Type} (f : Nat → α) (i : Nat) (v : α) : Nat → α := fun j => if j = i then v else f j
def sBad (s : SB) : SB := (qh s, qK s, qn s, qF s, 1)
def sTop (s : SB) : Fr := qF s (qn s - 1)
def tkA (s : SB) : Nat × SB := if qh s ≤ fb (sTop s) then (4, if fd (sTop s) = 0 then sBad s else s) else (qK s (qh s - 1), (qh s - 1, qK s, qn s, qF s, qb s))
def tk (k : Nat) (s : SB) : SB := if (tkA s).1 = k then (tkA s).2 else if (tkA s).1 = 4 then (tkA s).2 else sBad (tkA s).2
def tkIf (k : Nat) (s : SB) : SB := if k = 0 then s else tk k s
def pt (k : Nat) (s : SB) : SB := if qh s = 16 then sBad s else (qh s + 1, fup (qK s) (qh s) k, qn s, qF s, qb s)
def ptIf (k : Nat) (s : SB) : SB := if k = 0 then s else pt k s
def bg1 (op k pc : Nat) (s : SB) : SB := (qh s, qK s, qn s + 1, fup (qF s) (qn s) (op, k, qh s, 0, 0, pc), qb s)
def bg2 (op k pc : Nat) (s : SB) : SB := if 3 < k ∨ qn s = 8 then bg1 op k pc (sBad s) else bg1 op k pc s
def bg (op k pc : Nat) (s : SB) : SB := if op = 4 then bg2 op k pc (tk 1 s) else bg2 op k pc s
def die (s : SB) : SB := (fb (sTop s), qK s, qn s, fup (qF s) (qn s - 1) (fo (sTop s), fk (sTop s), fb (sTop s), 1, fe (sTop s), fg (sTop s)), qb s)
def sBadIf (b : Bool) (s : SB) : SB := if b then sBad s else s
def cl2 (s : SB) : SB := if qh s = fb (sTop s) then s else sBad s
def clElse1 (s : SB) : SB := (qh s, qK s, qn s, fup (qF s) (qn s - 1) (fo (sTop s), fk (sTop s), fb (sTop s), 0, 1, fg (sTop s)), qb s)
def clElse (s : SB) : SB := if fo (sTop s) = 4 ∧ fe (sTop s) = 0 then clElse1 s else clElse1 (sBad s)
def clEnd1 (s : SB) : SB := if qn s - 1 = 0 then (qh s, qK s, qn s - 1, qF s, qb s) else ptIf (fk (sTop s)) (qh s, qK s, qn s - 1, qF s, qb s)
def clEnd (s : SB) : SB := if fo (sTop s) = 4 ∧ ¬ fk (sTop s) = 0 ∧ fe (sTop s) = 0 then clEnd1 (sBad s) else clEnd1 s
def cl (op : Nat) (s : SB) : SB := if op = 5 then clElse (cl2 (tkIf (fk (sTop s)) s)) else clEnd (cl2 (tkIf (fk (sTop s)) s))
def lbl (d : Nat) (s : SB) : Nat × SB := if d < qn s then ((if fo (qF s (qn s - 1 - d)) = 3 then 0 else fk (qF s (qn s - 1 - d))), s) else (0, sBad s)
def dieIf (s : SB) : SB := if qb s = 0 then die s else s
/-- the rest of a row of jumps: m of them from place i on, all of kind k -/
def lbls (c : Nat → Nat) (k : Nat) : Nat → Nat → SB → SB
  | 0, _, s => s
  | m + 1, i, s => lbls c k m (i + 1) (if (lbl (c i) s).1 = k then (lbl (c i) s).2 else sBad (lbl (c i) s).2)
def ckJump (P : Prog) (f pc op : Nat) (s : SB) : SB :=
  if op = 10 then dieIf (tkIf (fk (qF s 0)) s)
  else if op = 9 then dieIf (tkIf (lbl (pC P f (pc + 2)) (tk 1 s)).1 (lbls (fun i => pC P f (pc + 2 + i)) (lbl (pC P f (pc + 2)) (tk 1 s)).1 (pC P f (pc + 1) + 1) 0 (lbl (pC P f (pc + 2)) (tk 1 s)).2))
  else if op = 8 then ptIf (lbl (pC P f (pc + 1)) (tk 1 s)).1 (tkIf (lbl (pC P f (pc + 1)) (tk 1 s)).1 (lbl (pC P f (pc + 1)) (tk 1 s)).2)
  else dieIf (tkIf (lbl (pC P f (pc + 1)) s).1 (lbl (pC P f (pc + 1)) s).2)
/-- the parameters of g taken, the last one first: those below n -/
def tks (P : Prog) (g : Nat) : Nat → SB → SB
  | 0, s => s
  | n + 1, s => tks P g n (tk (pK P g n) s)
def ckCall1 (P : Prog) (g op : Nat) (s : SB) : SB := if 5 < g then sBad s else if op = 11 ∧ pL P g = 0 then sBad s else ptIf (pR P g) (tks P g (pN P g) s)
def ckCall (P : Prog) (g op : Nat) (s : SB) : SB := if op = 12 then ckCall1 P g op (tk 1 s) else ckCall1 P g op s
def ckSel1 (y x : Nat) (s : SB) : SB := if x = 4 then pt y s else pt x s
def ckSel (s : SB) : SB := if (tkA (tkA (tk 1 s)).2).1 = 4 ∨ (tkA (tk 1 s)).1 = 4 ∨ (tkA (tkA (tk 1 s)).2).1 = (tkA (tk 1 s)).1 then ckSel1 (tkA (tk 1 s)).1 (tkA (tkA (tk 1 s)).2).1 (tkA (tkA (tk 1 s)).2).2 else ckSel1 (tkA (tk 1 s)).1 (tkA (tkA (tk 1 s)).2).1 (sBad (tkA (tkA (tk 1 s)).2).2)
def ckVar1 (op k : Nat) (s : SB) : SB := if op = 15 ∨ op = 18 then pt k s else if op = 17 then pt k (tk k s) else tk k s
def ckVar (P : Prog) (f op v : Nat) (s : SB) : SB := if op < 18 then (if v < pV P f then ckVar1 op (pK P f v) s else sBad s) else if v < 3 then ckVar1 op (v + 1) s else sBad s
/-- what a plain instruction takes, takes next, puts: three digits -/
def sg (op : Nat) : Nat :=
  if op < 20 then 0 else if op < 23 then op - 19 else if op < 25 then 101 else if op = 25 then 102 else if op < 28 then 110 else if op = 28 then 210
  else if op < 45 then 111 else if op = 45 then 101 else if op < 61 then 222 else if op < 64 then 221 else if op = 64 then 201 else if op < 74 then 333 else if op < 76 then 331 else if op = 76 then 303
  else if op = 80 then 201 else if op = 81 then 102 else if op = 82 then 103 else if op = 83 then 301 else if op = 84 then 203 else 102
def ckPlain (op : Nat) (s : SB) : SB := ptIf (sg op % 10) (tkIf (sg op / 10 % 10) (tkIf (sg op / 100) s))
def ckOne (P : Prog) (f pc : Nat) (s : SB) : SB :=
  if pC P f pc = 0 then die s else if pC P f pc = 1 then s else if pC P f pc ≤ 4 then bg (pC P f pc) (pC P f (pc + 1)) pc s
  else if pC P f pc ≤ 6 then cl (pC P f pc) s else if pC P f pc ≤ 10 then ckJump P f pc (pC P f pc) s else if pC P f pc ≤ 12 then ckCall P (pC P f (pc + 1)) (pC P f pc) s
  else if pC P f pc = 13 then (tkA s).2 else if pC P f pc = 14 then ckSel s else if pC P f pc ≤ 19 then ckVar P f (pC P f pc) (pC P f (pc + 1)) s else ckPlain (pC P f pc) s
abbrev known (op : Nat) : Prop := op ≤ 28 ∨ (30 ≤ op ∧ op ≤ 45) ∨ (50 ≤ op ∧ op ≤ 64) ∨ (70 ≤ op ∧ op ≤ 76) ∨ (80 ≤ op ∧ op ≤ 85)
-- how many bytes the instruction at pc has
def szI (P : Prog) (f pc : Nat) : Nat := if pC P f pc = 9 then (if pc + 1 < pL P f then 3 + pC P f (pc + 1) else 2) else if (2 ≤ pC P f pc ∧ pC P f pc ≤ 4) ∨ pC P f pc = 7 ∨ pC P f pc = 8 ∨ pC P f pc = 11 ∨ pC P f pc = 12 ∨ (15 ≤ pC P f pc ∧ pC P f pc ≤ 28) then 2 else 1
/-- what the bounds of the arrays want -/
def WS (s : SB) : Prop := qh s ≤ 16 ∧ qn s ≤ 9 ∧ qb s ≤ 1 ∧ (∀ i, i < qh s → qK s i < 256) ∧ (∀ i, i < qn s → fo (qF s i) < 256 ∧ fk (qF s i) < 256 ∧ fb (qF s i) ≤ 16 ∧ fd (qF s i) ≤ 1 ∧ fe (qF s i) ≤ 1) ∧ (∀ i j, i ≤ j → j < qn s → fb (qF s i) ≤ fb (qF s j)) ∧ ∀ i, i < qn s → fb (qF s i) ≤ qh s
/-- the reference shows the pass; outside its keys it is as M0 -/
def kM (k : Nat) : Prop := 1913 ≤ k ∧ k ≤ 1921
def RS (M0 : St) (s : SB) (M : St) : Prop := gI M 1914 0 = nI (qh s) ∧ gI M 1920 0 = nI (qn s) ∧ gI M 1921 0 = nI (qb s) ∧ (∀ i, i < qh s → gA M 1913 0 i = nI (qK s i)) ∧ (∀ i, i < qn s → gA M 1915 0 i = nI (fo (qF s i)) ∧ gA M 1916 0 i = nI (fk (qF s i)) ∧ gA M 1917 0 i = nI (fb (qF s i)) ∧ gA M 1918 0 i = nI (fd (qF s i)) ∧ gA M 1919 0 i = nI (fe (qF s i))) ∧ Ag kM M0 M
theorem m_bad {M0 : St} {s : SB} {M : St} (h : RS M0 s M) : RS M0 (sBad s) (sI M 1921 0 1) := ⟨h.1, h.2.1, rfl, h.2.2.2.1, h.2.2.2.2.1, h.2.2.2.2.2.sI ⟨by decide, by decide⟩⟩
theorem m_takeAny {M0 : St} {s : SB} {M : St} {Q : Int32 → St → Prop} (h : RS M0 s M) (w : WS s) (h1 : 1 ≤ qn s) (k : ∀ M', RS M0 (tkA s).2 M' → Q (nI (tkA s).1) M') : wp9_takeAny M Q := by
  obtain ⟨hh, hn, hb, hK, hF, ha⟩ := id h
  obtain ⟨w1, w2, w3, w4, w5, w7, w8⟩ := id w
  have f1 := hF (qn s - 1) (by omega)
  have w6 := w5 (qn s - 1) (by omega)
  unfold wp9_takeAny
  rw [hn, hh, show nI (qn s) - 1 = nI (qn s - 1) from nI_sub h1, nI_clamp (by omega), f1.2.2.1, f1.2.2.2.1]
  refine ⟨vp_in_nI (by omega) (by omega), fun c => ?_, fun c => ?_⟩
  · have c := (nI_leI (by omega) (by omega)).mp c
    have e : tkA s = (4, if fd (sTop s) = 0 then sBad s else s) := if_pos c
    rw [e] at k
    refine ⟨vp_in_nI (by omega) (by omega), fun c2 => ?_, fun c2 => ?_⟩
    · have c2 : ¬ fd (sTop s) = 0 := fun z => c2 (by show nI (fd (sTop s)) = nI 0; rw [z])
      rw [if_neg c2] at k
      exact k M h
    · have c2 : fd (sTop s) = 0 := (nI_eq (by show fd (qF s (qn s - 1)) < _; omega) (by omega)).mp c2
      rw [if_pos c2] at k
      intro S1 e1; subst e1
      exact k _ (m_bad h)
  · have c := fun z => c ((nI_leI (by omega) (by omega)).mpr z)
    have e : tkA s = _ := if_neg c
    rw [e] at k
    intro S2 e2; subst e2
    have c' : fb (qF s (qn s - 1)) < qh s := Nat.not_le.mp c
    have e3 : nI (qh s) - 1 = nI (qh s - 1) := nI_sub (a := qh s) (b := 1) (by omega)
    have e4 : gI (sI M 1914 0 (nI (qh s) - 1)) 1914 0 = nI (qh s - 1) := e3
    rw [e4, nI_clamp (by omega)]
    refine ⟨vp_in_nI (by omega) (by omega), ?_⟩
    have e5 : gA (sI M 1914 0 (nI (qh s) - 1)) 1913 0 (qh s - 1) = nI (qK s (qh s - 1)) := hK _ (by omega)
    rw [e5]
    exact k _ ⟨e3, hn, hb, fun i hi => hK i (by have : i < qh s - 1 := hi; omega), hF, ha.sI ⟨by decide, by decide⟩⟩
theorem nI_dec {a : Nat} (h : 1 ≤ a) : nI a - 1 = nI (a - 1) := nI_sub (a := a) (b := 1) h
-- bounds kept
theorem w_bad {s : SB} (w : WS s) : WS (sBad s) := ⟨w.1, w.2.1, Nat.le_refl 1, w.2.2.2⟩
theorem w_tkA {s : SB} (w : WS s) : WS (tkA s).2 ∧ (tkA s).1 < 256 := by
  unfold tkA
  split
  · refine ⟨?_, by show 4 < 256; decide⟩
    show WS (if _ then _ else _)
    split
    · exact w_bad w
    · exact w
  · rename_i c
    refine ⟨⟨?_, w.2.1, w.2.2.1, ?_, w.2.2.2.2.1, w.2.2.2.2.2.1, fun i hi => ?_⟩, ?_⟩
    · have := w.1; show qh s - 1 ≤ 16; omega
    · intro i hi
      have hi : i < qh s - 1 := hi
      exact w.2.2.2.1 i (by omega)
    · have hi : i < qn s := hi
      have := w.2.2.2.2.2.1 i (qn s - 1) (by omega) (by omega)
      have c : ¬ qh s ≤ fb (qF s (qn s - 1)) := c
      show fb (qF s i) ≤ qh s - 1
      omega
    · exact w.2.2.2.1 _ (by omega)
theorem f_tkA (s : SB) : qn (tkA s).2 = qn s ∧ qF (tkA s).2 = qF s := by
  unfold tkA
  split
  · constructor
    · show qn (if _ then _ else _) = _
      split <;> rfl
    · show qF (if _ then _ else _) = _
      split <;> rfl
  · exact ⟨rfl, rfl⟩
theorem w_tk {s : SB} (w : WS s) (k : Nat) : WS (tk k s) := by
  unfold tk
  split
  · exact (w_tkA w).1
  · split
    · exact (w_tkA w).1
    · exact w_bad (w_tkA w).1
theorem f_tk (k : Nat) (s : SB) : qn (tk k s) = qn s ∧ qF (tk k s) = qF s := by
  unfold tk
  split
  · exact f_tkA s
  · split
    · exact f_tkA s
    · exact f_tkA s
theorem w_tkIf {s : SB} (w : WS s) (k : Nat) : WS (tkIf k s) := by
  unfold tkIf; split
  · exact w
  · exact w_tk w k
theorem f_tkIf (k : Nat) (s : SB) : qn (tkIf k s) = qn s ∧ qF (tkIf k s) = qF s := by
  unfold tkIf; split
  · exact ⟨rfl, rfl⟩
  · exact f_tk k s
theorem w_pt {s : SB} (w : WS s) {k : Nat} (hk : k < 256) : WS (pt k s) := by
  unfold pt; split
  · exact w_bad w
  · rename_i c
    refine ⟨?_, w.2.1, w.2.2.1, ?_, w.2.2.2.2.1, w.2.2.2.2.2.1, fun i hi => Nat.le_succ_of_le (w.2.2.2.2.2.2 i hi)⟩
    · have := w.1; show qh s + 1 ≤ 16; omega
    · intro i hi
      have hi : i < qh s + 1 := hi
      show (if i = qh s then k else qK s i) < 256
      split
      · exact hk
      · exact w.2.2.2.1 i (by omega)
theorem f_pt (k : Nat) (s : SB) : qn (pt k s) = qn s ∧ qF (pt k s) = qF s := by
  unfold pt; split <;> exact ⟨rfl, rfl⟩
theorem w_ptIf {s : SB} (w : WS s) {k : Nat} (hk : k < 256) : WS (ptIf k s) := by
  unfold ptIf; split
  · exact w
  · exact w_pt w hk
theorem f_ptIf (k : Nat) (s : SB) : qn (ptIf k s) = qn s ∧ qF (ptIf k s) = qF s := by
  unfold ptIf; split
  · exact ⟨rfl, rfl⟩
  · exact f_pt k s
theorem w_cl2 {s : SB} (w : WS s) : WS (cl2 s) := by
  unfold cl2; split
  · exact w
  · exact w_bad w
theorem f_cl2 (s : SB) : qn (cl2 s) = qn s ∧ qF (cl2 s) = qF s := by
  unfold cl2; split <;> exact ⟨rfl, rfl⟩
theorem f_top {s t : SB} (h : qn t = qn s ∧ qF t = qF s) : sTop t = sTop s := by unfold sTop; rw [h.1, h.2]
theorem w_lbl {s : SB} (w : WS s) (d : Nat) : WS (lbl d s).2 ∧ (lbl d s).1 < 256 := by
  unfold lbl; split
  · refine ⟨w, ?_⟩
    show (if _ then _ else _) < 256
    split
    · omega
    · exact (w.2.2.2.2.1 _ (by omega)).2.1
  · exact ⟨w_bad w, by show 0 < 256; omega⟩
theorem f_lbl (d : Nat) (s : SB) : qn (lbl d s).2 = qn s ∧ qF (lbl d s).2 = qF s := by
  unfold lbl; split <;> exact ⟨rfl, rfl⟩
theorem w_die {s : SB} (w : WS s) (h1 : 1 ≤ qn s) : WS (die s) := by
  have h8 := w.2.2.2.2.2.2 (qn s - 1) (by omega)
  have h5 := w.2.2.2.2.1 (qn s - 1) (by omega)
  refine ⟨?_, w.2.1, w.2.2.1, fun i hi => ?_, fun i hi => ?_, fun i j hij hj => ?_, fun i hi => ?_⟩
  · exact h5.2.2.1
  · have hi : i < fb (qF s (qn s - 1)) := hi
    exact w.2.2.2.1 i (by omega)
  · have hi : i < qn s := hi
    show fo (fup _ _ _ i) < 256 ∧ fk (fup _ _ _ i) < 256 ∧ fb (fup _ _ _ i) ≤ 16 ∧ fd (fup _ _ _ i) ≤ 1 ∧ fe (fup _ _ _ i) ≤ 1
    unfold fup
    split
    · exact ⟨h5.1, h5.2.1, h5.2.2.1, Nat.le_refl 1, h5.2.2.2.2⟩
    · exact w.2.2.2.2.1 i hi
  · have hj : j < qn s := hj
    have key : ∀ i, fb (qF (die s) i) = fb (qF s i) := by
      intro i
      show fb (if i = qn s - 1 then _ else _) = _
      split
      · rename_i z; subst z; rfl
      · rfl
    rw [key, key]
    exact w.2.2.2.2.2.1 i j hij hj
  · have hi : i < qn s := hi
    have key : fb (qF (die s) i) = fb (qF s i) := by
      show fb (if i = qn s - 1 then _ else _) = _
      split
      · rename_i z; subst z; rfl
      · rfl
    rw [key]
    exact w.2.2.2.2.2.1 i (qn s - 1) (by omega) (by omega)
theorem w_dieIf {s : SB} (w : WS s) (h1 : 1 ≤ qn s) : WS (dieIf s) := by
  unfold dieIf; split
  · exact w_die w h1
  · exact w
theorem w_lbls (c : Nat → Nat) (k : Nat) : ∀ (m i : Nat) (s : SB), WS s → WS (lbls c k m i s) := by
  intro m
  induction m with
  | zero => intro i s w; exact w
  | succ m ih =>
    intro i s w
    refine ih (i + 1) _ ?_
    split
    · exact (w_lbl w _).1
    · exact w_bad (w_lbl w _).1
theorem f_lbls (c : Nat → Nat) (k : Nat) : ∀ (m i : Nat) (s : SB), qn (lbls c k m i s) = qn s ∧ qF (lbls c k m i s) = qF s := by
  intro m
  induction m with
  | zero => intro i s; exact ⟨rfl, rfl⟩
  | succ m ih =>
    intro i s
    have h := ih (i + 1) (if (lbl (c i) s).1 = k then (lbl (c i) s).2 else sBad (lbl (c i) s).2)
    have h2 : qn (if (lbl (c i) s).1 = k then (lbl (c i) s).2 else sBad (lbl (c i) s).2) = qn s ∧ qF (if (lbl (c i) s).1 = k then (lbl (c i) s).2 else sBad (lbl (c i) s).2) = qF s := by
      split
      · exact f_lbl _ s
      · exact f_lbl _ s
    exact ⟨h.1.trans h2.1, h.2.trans h2.2⟩
theorem w_tks (P : Prog) (g : Nat) : ∀ (n : Nat) (s : SB), WS s → WS (tks P g n s) := by
  intro n
  induction n with
  | zero => intro s w; exact w
  | succ n ih => intro s w; exact ih _ (w_tk w _)
theorem f_tks (P : Prog) (g : Nat) : ∀ (n : Nat) (s : SB), qn (tks P g n s) = qn s ∧ qF (tks P g n s) = qF s := by
  intro n
  induction n with
  | zero => intro s; exact ⟨rfl, rfl⟩
  | succ n ih => intro s; exact ⟨(ih _).1.trans (f_tk _ s).1, (ih _).2.trans (f_tk _ s).2⟩
theorem w_ckSel1 {s : SB} (w : WS s) {y x : Nat} (hy : y < 256) (hx : x < 256) : WS (ckSel1 y x s) := by
  unfold ckSel1; split
  · exact w_pt w hy
  · exact w_pt w hx
