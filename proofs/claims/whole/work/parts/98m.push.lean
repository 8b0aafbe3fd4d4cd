/-! PURE: a call begins: the two machines again -/
def cpush (P : Prog) (c : Ct) (j m n : Nat) (t : SB) (g m' : Nat) : Ct := (j + 2, fup (xf c) (j + 1) g, fup (fup (xm c) j m) (j + 1) m', fup (fup (xp c) j n) (j + 1) 0, fup (fup (xs c) j t) (j + 1) (sIni P g))
theorem pu_f (P : Prog) (c : Ct) (j m n : Nat) (t : SB) (g m' i : Nat) : xf (cpush P c j m n t g m') i = if i = j + 1 then g else xf c i := rfl
theorem pu_m (P : Prog) (c : Ct) (j m n : Nat) (t : SB) (g m' i : Nat) : xm (cpush P c j m n t g m') i = if i = j + 1 then m' else if i = j then m else xm c i := rfl
theorem pu_p (P : Prog) (c : Ct) (j m n : Nat) (t : SB) (g m' i : Nat) : xp (cpush P c j m n t g m') i = if i = j + 1 then 0 else if i = j then n else xp c i := rfl
theorem pu_s (P : Prog) (c : Ct) (j m n : Nat) (t : SB) (g m' i : Nat) : xs (cpush P c j m n t g m') i = if i = j + 1 then sIni P g else if i = j then t else xs c i := rfl
theorem pu_h {P : Prog} {c : Ct} {j m n : Nat} {t : SB} {g m' i : Nat} (ej : xd c = j + 1) (hi : i < j) : xh P (cpush P c j m n t g m') i = xh P c i := by
  unfold xh
  rw [pu_s, pu_f]
  show (if i + 1 = j + 2 then _ else _) = _
  rw [if_neg (by omega), if_neg (show ¬ i + 1 = j + 1 by omega), if_neg (show ¬ i = j + 1 by omega), if_neg (show ¬ i = j by omega), if_neg (show ¬ i + 1 = xd c by omega)]
theorem pu_hj {P : Prog} {c : Ct} {j m n : Nat} {t : SB} {g m' : Nat} : xh P (cpush P c j m n t g m') j = if pR P g = 0 then qh t else qh t - 1 := by
  unfold xh
  rw [pu_s, pu_f]
  show (if j + 1 = j + 2 then _ else _) = _
  rw [if_neg (by omega), if_pos rfl, if_neg (show ¬ j = j + 1 by omega), if_pos rfl]
theorem pu_ht {P : Prog} (hw : PW P) {c : Ct} {j m n : Nat} {t : SB} {g m' : Nat} (hg : g < 6) : xh P (cpush P c j m n t g m') (j + 1) = 0 := by
  unfold xh
  rw [pu_s]
  show (if j + 1 + 1 = j + 2 then _ else _) = _
  rw [if_pos rfl, if_pos rfl, (sIni_ok hw hg).2.2]
  rfl
theorem pu_B {P : Prog} {c : Ct} {j m n : Nat} {t : SB} {g m' : Nat} (ej : xd c = j + 1) : ∀ i, i ≤ j → xB P (cpush P c j m n t g m') i = xB P c i := by
  intro i
  induction i with
  | zero => intro _; rfl
  | succ i ih =>
    intro hi
    show xB P (cpush P c j m n t g m') i + xh P (cpush P c j m n t g m') i = xB P c i + xh P c i
    rw [ih (by omega), pu_h ej (by omega)]
theorem pu_F {P : Prog} {c : Ct} {j m n : Nat} {t : SB} {g m' : Nat} : ∀ i, i ≤ j → xF (cpush P c j m n t g m') i = xF c i := by
  intro i
  induction i with
  | zero => intro _; rfl
  | succ i ih =>
    intro hi
    show xF (cpush P c j m n t g m') i + qn (xs (cpush P c j m n t g m') i) = xF c i + qn (xs c i)
    rw [ih (by omega), pu_s, if_neg (by omega), if_neg (by omega)]
theorem XX_push {P : Prog} {c : Ct} {C M C' M' : St} {j m n g m' H : Nat} {t : SB} (h : XX P c C M) (ej : xd c = j + 1) (hj : j < 5) (hgf : g < 6) (hC : Ag kXC C C') (hM : Ag kYM M M') (hh : Here P (xf c j) m n t) (hl : Live t) (hq : qn t = qn (xs c j)) (hF : qF t = qF (xs c j)) (hh' : Here P g m' 0 (sIni P g))
    (hR : ¬ pR P g = 0 → 1 ≤ qh t ∧ qK t (qh t - 1) = pR P g ∧ fb (sTop t) < qh t) (eH : H = if pR P g = 0 then qh t else qh t - 1) (c7 : gI C' 1607 0 = nI (j + 2)) (c04 : ∀ i, gR C' 1004 i = if i = j + 1 then g else gR C 1004 i) (c05 : ∀ i, gI C' 1005 i = if i = j + 1 then nI 0 else if i = j then nI n else gI C 1005 i) (c06 : ∀ i, gI C' 1006 i = if i = j + 1 then nI 1 else gI C 1006 i)
    (cA : ∀ a i, gA C' 1002 a i = gA C 1002 a i ∧ gA C' 1003 a i = gA C 1003 a i) (c2 : ∀ i, i < j → gI C' 1102 (2 * i) = gI C 1102 (2 * i)) (c2j : gI C' 1102 (2 * j) = nI H) (c2t : gI C' 1102 (2 * (j + 1)) = nI 0)
    (m30 : gI M' 1930 0 = nI (j + 2)) (m31 : gI M' 1931 0 = nI 0) (m20 : gI M' 1920 0 = nI (xF c j + qn t + 1)) (m14 : gI M' 1914 0 = nI (xB P c j + H)) (m27 : ∀ i, gA M' 1927 0 i = if i = j + 1 then nI g else gA M 1927 0 i) (m28 : ∀ i, gA M' 1928 0 i = if i = j + 1 then nI n else gA M 1928 0 i) (m29 : ∀ i, gA M' 1929 0 i = if i = j + 1 then nI (xF c j + qn t) else gA M 1929 0 i)
    (mf : ∀ i, i < xF c j + qn t → gA M' 1915 0 i = gA M 1915 0 i ∧ gA M' 1916 0 i = gA M 1916 0 i ∧ gA M' 1917 0 i = gA M 1917 0 i ∧ gA M' 1924 0 i = gA M 1924 0 i) (mt : gA M' 1915 0 (xF c j + qn t) = nI 0 ∧ gA M' 1916 0 (xF c j + qn t) = nI (pR P g) ∧ gA M' 1917 0 (xF c j + qn t) = nI (xB P c j + H))
    (vC : ∀ o, o < 2 * (j + 1) → ∀ i, gJ C' 1100 o i = gJ C 1100 o i ∧ gD C' 1101 o i = gD C 1101 o i) (vM : ∀ i, gJ M' 1922 0 i = gJ M 1922 0 i ∧ gD M' 1923 0 i = gD M 1923 0 i) (vW : ∀ i, i < 6 * (j + 1) → gJ M' 1925 0 i = gJ M 1925 0 i ∧ gD M' 1926 0 i = gD M 1926 0 i)
    (vt : ∀ i, i < H → qK t i = qK (xs c j) i ∧ i < qh (xs c j)) (vn : ∀ v, v < pV P g → VR (pK P g v) (gJ C' 1100 (2 * (j + 1) + 1) v) (gD C' 1101 (2 * (j + 1) + 1) v) (gJ M' 1925 0 (6 * (j + 1) + v)) (gD M' 1926 0 (6 * (j + 1) + v))) (hg : XG C' M') : XX P (cpush P c j m n t g m') C' M' := by
  obtain ⟨hw, hPC, hPM, w, hXC, hXM, hv, -, hN⟩ := h
  obtain ⟨w1, w2, w3, w4⟩ := id w
  have hd : xd (cpush P c j m n t g m') = j + 2 := rfl
  have hI := (sIni_ok hw hgf).2.2
  have qnI : qn (sIni P g) = 1 := by rw [hI]; rfl
  have qhI : qh (sIni P g) = 0 := by rw [hI]; rfl
  have qFI : qF (sIni P g) 0 = (0, pR P g, 0, 0, 0, 60) := by rw [hI]; rfl
  have liveI : Live (sIni P g) := by
    refine ⟨fun i hi => ?_, fun i hi => ?_⟩
    · rw [qnI] at hi
      rw [show i = 0 by omega, qFI]; rfl
    · rw [qhI] at hi; omega
  have eF1 : xF (cpush P c j m n t g m') (j + 1) = xF c j + qn t := by
    show xF (cpush P c j m n t g m') j + qn (xs (cpush P c j m n t g m') j) = _
    rw [pu_F j (Nat.le_refl _), pu_s, if_neg (by omega), if_pos rfl]
  have eB1 : xB P (cpush P c j m n t g m') (j + 1) = xB P c j + H := by
    show xB P (cpush P c j m n t g m') j + xh P (cpush P c j m n t g m') j = _
    rw [pu_B ej j (Nat.le_refl _), pu_hj, eH]
  refine ⟨hw, hPC.ag hC (fun k z y => by unfold kXC at y; omega), hPM.ag hM (fun k z1 z2 y => by unfold kYM at y; omega), ⟨by rw [hd]; omega, by rw [hd]; omega, fun i hi => ?_, fun i hi hr => ?_⟩, ⟨by rw [hd]; exact c7, fun i hi => ?_⟩, ⟨by rw [hd]; exact m30, ?_, ?_, ?_, fun i hi => ?_⟩, fun i hi => ?_, hg, fun f hf1 hL => ?_⟩
  · rw [hd] at hi
    rw [pu_f, pu_m, pu_p, pu_s]
    by_cases z : i = j + 1
    · rw [if_pos z, if_pos z, if_pos z, if_pos z]
      exact ⟨hgf, hh', liveI, by rw [qnI]; omega⟩
    · rw [if_neg z, if_neg z, if_neg z, if_neg z]
      by_cases y : i = j
      · rw [if_pos y, if_pos y, if_pos y, y]
        exact ⟨(w3 j (by omega)).1, hh, hl, by rw [hq]; exact (w3 j (by omega)).2.2.2⟩
      · rw [if_neg y, if_neg y, if_neg y]
        exact w3 i (by omega)
  · rw [hd] at hi
    rw [pu_f] at hr
    rw [pu_f, pu_s, if_neg (show ¬ i = j + 1 by omega)]
    by_cases y : i = j
    · subst y
      rw [if_pos rfl] at hr
      rw [if_pos rfl, if_pos rfl]
      exact hR hr
    · rw [if_neg (by omega)] at hr
      rw [if_neg (show ¬ i + 1 = j + 1 by omega), if_neg y]
      exact w4 i (by omega) hr
  · rw [hd] at hi
    rw [pu_f, pu_p, pu_s, c04, c05, c06]
    by_cases z : i = j + 1
    · rw [if_pos z, if_pos z, if_pos z, if_pos z, if_pos z, if_pos z, z, pu_ht hw hgf, qnI]
      exact ⟨rfl, rfl, rfl, c2t, fun x x1 x2 => absurd x2 (by omega)⟩
    · obtain ⟨a1, a2, a3, a4, a5⟩ := hXC.2 i (by omega)
      rw [if_neg z, if_neg z, if_neg z, if_neg z, if_neg z, if_neg z]
      by_cases y : i = j
      · subst y
        rw [if_pos rfl, if_pos rfl, if_pos rfl, pu_hj, ← eH, hq, hF]
        refine ⟨a1, rfl, a3, c2j, fun x x1 x2 => ?_⟩
        rw [(cA _ _).1, (cA _ _).2]
        exact a5 x x1 x2
      · rw [if_neg y, if_neg y, if_neg y, pu_h ej (by omega), c2 i (by omega)]
        refine ⟨a1, a2, a3, a4, fun x x1 x2 => ?_⟩
        rw [(cA _ _).1, (cA _ _).2]
        exact a5 x x1 x2
  · rw [hd, pu_p, if_pos (by omega)]; exact m31
  · rw [hd]
    show gI M' 1920 0 = nI (xF (cpush P c j m n t g m') (j + 1) + qn (xs (cpush P c j m n t g m') (j + 1)))
    rw [eF1, pu_s, if_pos rfl, qnI]; exact m20
  · rw [hd]
    show gI M' 1914 0 = nI (xB P (cpush P c j m n t g m') (j + 1) + xh P (cpush P c j m n t g m') (j + 1))
    rw [eB1, pu_ht hw hgf]; exact m14
  · rw [hd] at hi
    rw [pu_f, pu_s, m27, m28, m29]
    by_cases z : i = j + 1
    · subst z
      rw [if_pos rfl, if_pos rfl, if_pos rfl, if_pos rfl, if_pos rfl, eF1, eB1, qnI, pu_p, Nat.add_sub_cancel, if_neg (by omega), if_pos rfl]
      refine ⟨rfl, rfl, fun _ => rfl, fun x hx => ?_⟩
      rw [show x = 0 by omega, Nat.add_zero, qFI]
      exact ⟨mt.1, mt.2.1, mt.2.2, fun y => absurd y (by omega)⟩
    · obtain ⟨a1, a2, a3, a4⟩ := hXM.2.2.2.2 i (by omega)
      rw [if_neg z, if_neg z, if_neg z, if_neg z, if_neg z, pu_F i (by omega), pu_B ej i (by omega)]
      refine ⟨a1, a2, fun h1 => by rw [pu_p, if_neg (show ¬ i - 1 = j + 1 by omega), if_neg (show ¬ i - 1 = j by omega)]; exact a3 h1, fun x hx => ?_⟩
      have lim : xF c i + x < xF c j + qn t := by
        by_cases y : i = j
        · rw [if_pos y] at hx; rw [y]; omega
        · rw [if_neg y] at hx
          have h3 : xF c (i + 1) = xF c i + qn (xs c i) := rfl
          have h4 : xF c (i + 1) ≤ xF c j := xF_mono (by omega)
          omega
      rw [(mf _ lim).1, (mf _ lim).2.1, (mf _ lim).2.2.1, (mf _ lim).2.2.2]
      by_cases y : i = j
      · rw [if_pos y] at hx ⊢
        rw [hF]; rw [y]; rw [hq] at hx
        rw [y] at a4
        exact a4 x hx
      · rw [if_neg y] at hx ⊢
        exact a4 x hx
  · rw [hd] at hi
    rw [pu_f, pu_s]
    by_cases z : i = j + 1
    · subst z
      rw [if_pos rfl, if_pos rfl, pu_ht hw hgf]
      exact ⟨fun x hx => absurd hx (by omega), vn⟩
    · obtain ⟨a1, a2⟩ := hv i (by omega)
      rw [if_neg z, if_neg z, pu_B ej i (by omega)]
      refine ⟨fun x hx => ?_, fun v hv2 => ?_⟩
      · rw [(vC _ (by omega) _).1, (vC _ (by omega) _).2, (vM _).1, (vM _).2]
        by_cases y : i = j
        · subst y
          rw [pu_hj, ← eH] at hx
          rw [if_pos rfl, (vt x hx).1]
          refine a1 x ?_
          unfold xh
          rw [if_pos ej.symm]
          exact (vt x hx).2
        · rw [pu_h ej (by omega)] at hx
          rw [if_neg y]
          exact a1 x hx
      · have := (hw _ (w3 i (by omega)).1).2.2.1
        rw [(vC _ (by omega) _).1, (vC _ (by omega) _).2, (vW _ (by omega)).1, (vW _ (by omega)).2]
        exact a2 v hv2
  · obtain ⟨b1, N, b2⟩ := hN f hf1 hL
    refine ⟨b1, N, fun i hi => ?_⟩
    rw [hC.gA (k := 1402) (by unfold kXC; omega), hC.gA (k := 1403) (by unfold kXC; omega)]
    exact b2 i hi
