/-! PURE: the control's numbers; the innermost call one instruction on -/
theorem xh_le {P : Prog} {c : Ct} (w : XW P c) {j : Nat} (hj : j < xd c) : xh P c j ≤ 16 := by
  have h := (w.2.2.1 j hj).2.1.2.1.1.1
  unfold xh
  split
  · exact h
  · split
    · exact h
    · omega
theorem xB_le {P : Prog} {c : Ct} (w : XW P c) : ∀ j, j ≤ xd c → xB P c j ≤ 16 * j := by
  intro j
  induction j with
  | zero => intro _; exact Nat.le_refl 0
  | succ j ih =>
    intro hj
    have h1 := ih (by omega)
    have h2 := xh_le w (show j < xd c by omega)
    show xB P c j + xh P c j ≤ _
    omega
theorem xq_le {P : Prog} {c : Ct} (w : XW P c) {j : Nat} (hj : j < xd c) : qn (xs c j) ≤ 8 := by
  have h := (w.2.2.1 j hj).2.1
  exact (h.2.1.2 h.2.2.1).1
theorem xF_le {P : Prog} {c : Ct} (w : XW P c) : ∀ j, j ≤ xd c → xF c j ≤ 8 * j := by
  intro j
  induction j with
  | zero => intro _; exact Nat.le_refl 0
  | succ j ih =>
    intro hj
    have h1 := ih (by omega)
    have h2 := xq_le w (show j < xd c by omega)
    show xF c j + qn (xs c j) ≤ _
    omega
theorem xB_mono {P : Prog} {c : Ct} {j k : Nat} (h : j ≤ k) : xB P c j ≤ xB P c k := by
  induction k with
  | zero => have : j = 0 := by omega
            subst this; exact Nat.le_refl _
  | succ k ih =>
    by_cases z : j = k + 1
    · subst z; exact Nat.le_refl _
    · exact Nat.le_trans (ih (by omega)) (Nat.le_add_right _ _)
theorem xF_mono {c : Ct} {j k : Nat} (h : j ≤ k) : xF c j ≤ xF c k := by
  induction k with
  | zero => have : j = 0 := by omega
            subst this; exact Nat.le_refl _
  | succ k ih =>
    by_cases z : j = k + 1
    · subst z; exact Nat.le_refl _
    · exact Nat.le_trans (ih (by omega)) (Nat.le_add_right _ _)
/-- the innermost call's place changed -/
def xset (c : Ct) (m p : Nat) (s : SB) : Ct := (xd c, xf c, fup (xm c) (xd c - 1) m, fup (xp c) (xd c - 1) p, fup (xs c) (xd c - 1) s)
theorem xs_set (c : Ct) (m p : Nat) (s : SB) (j : Nat) : xs (xset c m p s) j = if j = xd c - 1 then s else xs c j := rfl
theorem xp_set (c : Ct) (m p : Nat) (s : SB) (j : Nat) : xp (xset c m p s) j = if j = xd c - 1 then p else xp c j := rfl
theorem xm_set (c : Ct) (m p : Nat) (s : SB) (j : Nat) : xm (xset c m p s) j = if j = xd c - 1 then m else xm c j := rfl
theorem xh_set {P : Prog} {c : Ct} {m p : Nat} {s : SB} {j : Nat} (h1 : 1 ≤ xd c) (hj : j < xd c) : xh P (xset c m p s) j = if j = xd c - 1 then qh s else xh P c j := by
  unfold xh
  rw [xs_set]
  show (if j + 1 = xd c then qh (if j = xd c - 1 then s else xs c j) else if pR P (xf c (j + 1)) = 0 then qh (if j = xd c - 1 then s else xs c j) else qh (if j = xd c - 1 then s else xs c j) - 1) = _
  by_cases z : j = xd c - 1
  · rw [if_pos z, if_pos (by omega), if_pos z]
  · rw [if_neg z, if_neg (by omega), if_neg z]
theorem xh_top {P : Prog} {c : Ct} (h1 : 1 ≤ xd c) : xh P c (xd c - 1) = qh (xs c (xd c - 1)) := if_pos (by omega)
theorem xB_set {P : Prog} {c : Ct} {m p : Nat} {s : SB} (h1 : 1 ≤ xd c) : ∀ j, j ≤ xd c - 1 → xB P (xset c m p s) j = xB P c j := by
  intro j
  induction j with
  | zero => intro _; rfl
  | succ j ih =>
    intro hj
    show xB P (xset c m p s) j + xh P (xset c m p s) j = xB P c j + xh P c j
    rw [ih (by omega), xh_set h1 (by omega), if_neg (by omega)]
theorem xF_set {c : Ct} {m p : Nat} {s : SB} : ∀ j, j ≤ xd c - 1 → xF (xset c m p s) j = xF c j := by
  intro j
  induction j with
  | zero => intro _; rfl
  | succ j ih =>
    intro hj
    show xF (xset c m p s) j + qn (xs (xset c m p s) j) = xF c j + qn (xs c j)
    rw [ih (by omega), xs_set, if_neg (by omega)]
theorem xB_top {P : Prog} {c : Ct} (h1 : 1 ≤ xd c) : xB P c (xd c) = xB P c (xd c - 1) + qh (xs c (xd c - 1)) := by
  have : xd c = (xd c - 1) + 1 := by omega
  rw [this]
  show xB P c (xd c - 1) + xh P c (xd c - 1) = _
  rw [xh_top h1]; rfl
theorem xF_top {c : Ct} (h1 : 1 ≤ xd c) : xF c (xd c) = xF c (xd c - 1) + qn (xs c (xd c - 1)) := by
  have : xd c = (xd c - 1) + 1 := by omega
  rw [this]; rfl
theorem xB_setTop {P : Prog} {c : Ct} {m p : Nat} {s : SB} (h1 : 1 ≤ xd c) : xB P (xset c m p s) (xd c) = xB P c (xd c - 1) + qh s := by
  have e := xB_top (P := P) (c := xset c m p s) h1
  have e2 : xB P (xset c m p s) (xd (xset c m p s) - 1) = xB P c (xd c - 1) := xB_set h1 _ (Nat.le_refl _)
  have e3 : xs (xset c m p s) (xd (xset c m p s) - 1) = s := by rw [xs_set]; exact if_pos rfl
  rw [e2, e3] at e
  exact e
theorem xF_setTop {c : Ct} {m p : Nat} {s : SB} (h1 : 1 ≤ xd c) : xF (xset c m p s) (xd c) = xF c (xd c - 1) + qn s := by
  have e := xF_top (c := xset c m p s) h1
  have e2 : xF (xset c m p s) (xd (xset c m p s) - 1) = xF c (xd c - 1) := xF_set _ (Nat.le_refl _)
  have e3 : xs (xset c m p s) (xd (xset c m p s) - 1) = s := by rw [xs_set]; exact if_pos rfl
  rw [e2, e3] at e
  exact e
