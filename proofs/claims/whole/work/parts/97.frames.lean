/-! PURE: an instruction that stays in its call and changes its frames -/
def kXF (k : Nat) : Prop := k = 1002 ∨ k = 1003 ∨ k = 1005 ∨ k = 1006 ∨ k = 1100 ∨ k = 1101 ∨ k = 1102
def kYF (k : Nat) : Prop := k = 1914 ∨ k = 1915 ∨ k = 1916 ∨ k = 1917 ∨ k = 1920 ∨ k = 1922 ∨ k = 1923 ∨ k = 1924 ∨ k = 1931 ∨ k = 1933 ∨ k = 1934
theorem kXF_C (k : Nat) (h : kXF k) : kXC k := by unfold kXF at h; unfold kXC; omega
theorem kYF_M (k : Nat) (h : kYF k) : kYM k := by unfold kYF at h; unfold kYM; omega
theorem XX_fr {P : Prog} {c : Ct} {C M C' M' : St} {m p : Nat} {s : SB} (h : XX P c C M) (hC : Ag kXF C C') (hM : Ag kYF M M') (hh : Here P (xf c (xd c - 1)) m p s) (hl : Live s) (hq : 1 ≤ qn s)
    (c5 : gI C' 1005 (xd c - 1) = nI p ∧ ∀ j, j < xd c - 1 → gI C' 1005 j = gI C 1005 j) (c2 : gI C' 1102 (2 * (xd c - 1)) = nI (qh s) ∧ ∀ j, j < xd c - 1 → gI C' 1102 (2 * j) = gI C 1102 (2 * j)) (c6 : gI C' 1006 (xd c - 1) = nI (qn s) ∧ ∀ j, j < xd c - 1 → gI C' 1006 j = gI C 1006 j)
    (fC : ∀ i, 1 ≤ i → i < qn s → gA C' 1002 (xd c - 1) i = nI (fg (qF s i)) ∧ gA C' 1003 (xd c - 1) i = nI (fb (qF s i))) (fC' : ∀ j, j < xd c - 1 → ∀ i, gA C' 1002 j i = gA C 1002 j i ∧ gA C' 1003 j i = gA C 1003 j i)
    (m5 : gI M' 1931 0 = nI p) (m4 : gI M' 1914 0 = nI (xB P c (xd c - 1) + qh s)) (m20 : gI M' 1920 0 = nI (xF c (xd c - 1) + qn s))
    (fM : ∀ i, i < qn s → gA M' 1915 0 (xF c (xd c - 1) + i) = nI (fo (qF s i)) ∧ gA M' 1916 0 (xF c (xd c - 1) + i) = nI (fk (qF s i)) ∧ gA M' 1917 0 (xF c (xd c - 1) + i) = nI (xB P c (xd c - 1) + fb (qF s i)) ∧ (1 ≤ i → gA M' 1924 0 (xF c (xd c - 1) + i) = nI (fg (qF s i) + 2)))
    (fM' : ∀ i, i < xF c (xd c - 1) → gA M' 1915 0 i = gA M 1915 0 i ∧ gA M' 1916 0 i = gA M 1916 0 i ∧ gA M' 1917 0 i = gA M 1917 0 i ∧ gA M' 1924 0 i = gA M 1924 0 i)
    (hv : XV P (xset c m p s) C' M') (hg : XG C' M') : XX P (xset c m p s) C' M' := by
  obtain ⟨hw, hPC, hPM, w, hXC, hXM, -, -, hN⟩ := h
  obtain ⟨w1, w2, w3, w4⟩ := id w
  have hd : xd (xset c m p s) = xd c := rfl
  have hf : xf (xset c m p s) = xf c := rfl
  have nX : ∀ k, ¬ (k = 1002 ∨ k = 1003 ∨ k = 1005 ∨ k = 1006 ∨ k = 1100 ∨ k = 1101 ∨ k = 1102) → ¬ kXF k := fun k z => z
  have nY : ∀ k, ¬ (k = 1914 ∨ k = 1915 ∨ k = 1916 ∨ k = 1917 ∨ k = 1920 ∨ k = 1922 ∨ k = 1923 ∨ k = 1924 ∨ k = 1931 ∨ k = 1933 ∨ k = 1934) → ¬ kYF k := fun k z => z
  refine ⟨hw, hPC.ag hC (fun k z => nX k (by omega)), hPM.ag hM (fun k z1 z2 => nY k (by omega)), ⟨w1, w2, fun j hj => ?_, fun j hj hr => ?_⟩, ⟨?_, fun j hj => ?_⟩, ⟨?_, ?_, ?_, ?_, fun j hj => ?_⟩, hv, hg, fun f hf1 hL => ?_⟩
  · rw [hf, xm_set, xp_set, xs_set]
    by_cases z : j = xd c - 1
    · rw [if_pos z, if_pos z, if_pos z, z]
      exact ⟨(w3 _ (by omega)).1, hh, hl, hq⟩
    · rw [if_neg z, if_neg z, if_neg z]
      exact w3 j hj
  · rw [hd] at hj
    rw [hf] at hr ⊢
    rw [xs_set, if_neg (by omega)]
    exact w4 j hj hr
  · rw [hC.gI (nX _ (by decide))]; exact hXC.1
  · rw [hd] at hj
    obtain ⟨a1, a2, a3, a4, a5⟩ := hXC.2 j hj
    rw [hf, hC.gR (nX _ (by decide)), xs_set, xp_set, xh_set w1 hj]
    by_cases z : j = xd c - 1
    · rw [if_pos z, if_pos z, if_pos z, z]
      rw [z] at a1
      exact ⟨a1, c5.1, c6.1, c2.1, fC⟩
    · rw [if_neg z, if_neg z, if_neg z, c5.2 j (by omega), c6.2 j (by omega), c2.2 j (by omega)]
      refine ⟨a1, a2, a3, a4, fun i h1 h2 => ?_⟩
      rw [(fC' j (by omega) i).1, (fC' j (by omega) i).2]
      exact a5 i h1 h2
  · rw [hM.gI (k := 1930) (nY _ (by decide))]; exact hXM.1
  · rw [hd, xp_set, if_pos rfl]; exact m5
  · rw [hd, xF_setTop w1]; exact m20
  · rw [hd, xB_setTop w1]; exact m4
  · rw [hd] at hj
    obtain ⟨a1, a2, a3, a4⟩ := hXM.2.2.2.2 j hj
    rw [hf, xF_set j (by omega), xB_set w1 j (by omega), hM.gA (k := 1927) (nY _ (by decide)), hM.gA (k := 1929) (nY _ (by decide)), xs_set]
    refine ⟨a1, a2, fun h1 => ?_, fun i hi => ?_⟩
    · rw [hM.gA (k := 1928) (nY _ (by decide)), xp_set, if_neg (by omega)]
      exact a3 h1
    · by_cases z : j = xd c - 1
      · rw [if_pos z] at hi ⊢
        rw [z]
        exact fM i hi
      · rw [if_neg z] at hi ⊢
        have h3 : xF c (j + 1) = xF c j + qn (xs c j) := rfl
        have h4 : xF c (j + 1) ≤ xF c (xd c - 1) := xF_mono (by omega)
        have hlt : xF c j + i < xF c (xd c - 1) := by omega
        rw [(fM' _ hlt).1, (fM' _ hlt).2.1, (fM' _ hlt).2.2.1, (fM' _ hlt).2.2.2]
        exact a4 i hi
  · obtain ⟨b1, N, b2⟩ := hN f hf1 hL
    refine ⟨b1, N, fun j hj => ?_⟩
    rw [hC.gA (k := 1402) (nX _ (by decide)), hC.gA (k := 1403) (nX _ (by decide))]
    exact b2 j hj
/-- what is known of the frames where a step begins -/
theorem At.frames {P : Prog} {c : Ct} {C M : St} {j f p op n B m : Nat} {s : SB} (A : At P c C M j f p op n B m s) : ∃ F, F = xF c j ∧ F ≤ 40 ∧ qn s ≤ 8 ∧ gR C 1004 j = f ∧ gI C 1005 j = nI p ∧ gI C 1006 j = nI (qn s) ∧ (∀ i, 1 ≤ i → i < qn s → gA C 1002 j i = nI (fg (qF s i)) ∧ gA C 1003 j i = nI (fb (qF s i))) ∧
    gI M 1930 0 = nI (j + 1) ∧ gI M 1931 0 = nI p ∧ gI M 1920 0 = nI (F + qn s) ∧ gA M 1927 0 j = nI f ∧ gA M 1929 0 j = nI F ∧ (∀ i, i < qn s → gA M 1915 0 (F + i) = nI (fo (qF s i)) ∧ gA M 1916 0 (F + i) = nI (fk (qF s i)) ∧ gA M 1917 0 (F + i) = nI (B + fb (qF s i)) ∧ (1 ≤ i → gA M 1924 0 (F + i) = nI (fg (qF s i) + 2))) ∧
    PW P ∧ PC P C ∧ PM P M ∧ XN P C ∧ chk P f = Option.none ∧ Here P f (m + 1) p s ∧ gI C 1607 0 = nI (j + 1) := by
  have j5 := A.facts.1
  have hf := A.facts.2.1
  obtain ⟨h, rfl, rfl, rfl, rfl, rfl, rfl, rfl, ok, hh⟩ := A
  obtain ⟨hw, hPC, hPM, w, hXC, hXM, hv, hg, hN⟩ := h
  have w1 := w.1
  have w2 := w.2.1
  obtain ⟨a1, a2, a3, a4, a5⟩ := hXC.2 (xd c - 1) (by omega)
  obtain ⟨b1, b2, b3, b4⟩ := hXM.2.2.2.2 (xd c - 1) (by omega)
  have hq8 := xq_le w (j := xd c - 1) (by omega)
  have hF := xF_le w (xd c - 1) (by omega)
  have e1 : xd c - 1 + 1 = xd c := by omega
  have h20 := hXM.2.2.1
  rw [xF_top w1] at h20
  have hhere := (w.2.2.1 (xd c - 1) (by omega)).2.1
  have hm : xm c (xd c - 1) = m + 1 := by
    have r1 : Run P (xf c (xd c - 1)) (m + 1) (xp c (xd c - 1)) (xs c (xd c - 1)) := ⟨ok, hh.1⟩
    exact run_uniq _ _ _ _ hhere.1 r1
  rw [hm] at hhere
  refine ⟨_, rfl, by omega, hq8, a1, a2, a3, a5, by rw [e1]; exact hXM.1, hXM.2.1, h20, b1, b2, b4, hw, hPC, hPM, hN, (hN _ hf (by have := ok.1; omega)).1, hhere, by rw [e1]; exact hXC.1⟩
theorem At.fr {P : Prog} {c : Ct} {C M C' M' : St} {j f p op n B m m' n' F : Nat} {s t : SB} (A : At P c C M j f p op n B m s) (eF : F = xF c j) (hh : Here P f m' n' t) (hl : Live t) (hq : 1 ≤ qn t) (hC : Ag kXF C C') (hM : Ag kYF M M') (i33 : gI M' 1933 0 = gI M 1933 0 + 1) (i34 : gI M' 1934 0 = 0)
    (c5 : ∀ i, gI C' 1005 i = if i = j then nI n' else gI C 1005 i) (c2 : ∀ o, gI C' 1102 o = if o = 2 * j then nI (qh t) else gI C 1102 o) (c6 : ∀ i, gI C' 1006 i = if i = j then nI (qn t) else gI C 1006 i)
    (fC : ∀ i, 1 ≤ i → i < qn t → gA C' 1002 j i = nI (fg (qF t i)) ∧ gA C' 1003 j i = nI (fb (qF t i))) (fC' : ∀ j', j' < j → ∀ i, gA C' 1002 j' i = gA C 1002 j' i ∧ gA C' 1003 j' i = gA C 1003 j' i)
    (m5 : gI M' 1931 0 = nI n') (m4 : gI M' 1914 0 = nI (B + qh t)) (m20 : gI M' 1920 0 = nI (F + qn t))
    (fM : ∀ i, i < qn t → gA M' 1915 0 (F + i) = nI (fo (qF t i)) ∧ gA M' 1916 0 (F + i) = nI (fk (qF t i)) ∧ gA M' 1917 0 (F + i) = nI (B + fb (qF t i)) ∧ (1 ≤ i → gA M' 1924 0 (F + i) = nI (fg (qF t i) + 2)))
    (fM' : ∀ i, i < F → gA M' 1915 0 i = gA M 1915 0 i ∧ gA M' 1916 0 i = gA M 1916 0 i ∧ gA M' 1917 0 i = gA M 1917 0 i ∧ gA M' 1924 0 i = gA M 1924 0 i)
    (eC : ∀ o, o ≠ 2 * j → ∀ i, gJ C' 1100 o i = gJ C 1100 o i ∧ gD C' 1101 o i = gD C 1101 o i) (eM : ∀ i, i < B → gJ M' 1922 0 i = gJ M 1922 0 i ∧ gD M' 1923 0 i = gD M 1923 0 i)
    (h1 : ∀ i, i < qh t → VR (qK t i) (gJ C' 1100 (2 * j) i) (gD C' 1101 (2 * j) i) (gJ M' 1922 0 (B + i)) (gD M' 1923 0 (B + i))) : Res P C M 0 C' M' := by
  have V := A.vars
  have j5 := A.facts.1
  obtain ⟨h, rfl, rfl, rfl, rfl, rfl, rfl, rfl, ok, -⟩ := A
  subst eF
  have w0 := h.2.2.2.1
  have w1 := w0.1
  have nY : ∀ k, ¬ (k = 1914 ∨ k = 1915 ∨ k = 1916 ∨ k = 1917 ∨ k = 1920 ∨ k = 1922 ∨ k = 1923 ∨ k = 1924 ∨ k = 1931 ∨ k = 1933 ∨ k = 1934) → ¬ kYF k := fun k z => z
  have nX : ∀ k, ¬ (k = 1002 ∨ k = 1003 ∨ k = 1005 ∨ k = 1006 ∨ k = 1100 ∨ k = 1101 ∨ k = 1102) → ¬ kXF k := fun k z => z
  have hv := h.2.2.2.2.2.2.1
  have hg : XG C' M' := h.2.2.2.2.2.2.2.1.of (fun i => (eC _ (by omega) i).1) (fun i => (eC _ (by omega) i).2) (fun i => hC.gA (nX _ (by decide)) 0 i) (fun i => hM.gJ (nY _ (by decide)) 0 i) (hM.gF (nY _ (by decide)) 0) (fun i => hM.gA (nY _ (by decide)) 0 i)
  refine ⟨hC.mono kXF_C, hM.mono kYF_M, i33, Or.inl ⟨rfl, i34, hM.gI (nY _ (by decide)) 0, xset c m' n' t, XX_fr h hC hM hh hl hq ⟨by rw [c5, if_pos rfl], fun j hj => by rw [c5, if_neg (by omega)]⟩ ⟨by rw [c2, if_pos rfl], fun j hj => by rw [c2, if_neg (by omega)]⟩ ⟨by rw [c6, if_pos rfl], fun j hj => by rw [c6, if_neg (by omega)]⟩ fC fC' m5 m4 m20 fM fM' ?_ hg⟩⟩
  refine XV_top h.1 w0 hv (fun j hj i => ⟨(eC _ (by omega) i).1, (eC _ (by omega) i).2, (eC _ (by omega) i).1, (eC _ (by omega) i).2⟩) eM (fun i _ => ⟨hM.gJ (nY _ (by decide)) 0 i, hM.gD (nY _ (by decide)) 0 i⟩) h1 (fun v hv => ?_)
  rw [(eC _ (by omega) v).1, (eC _ (by omega) v).2, hM.gJ (k := 1925) (nY _ (by decide)), hM.gD (k := 1926) (nY _ (by decide))]
  exact V v hv
