/-! PURE: a call returns: the two machines again -/
def cpop (c : Ct) : Ct := (xd c - 1, xf c, xm c, xp c, xs c)
theorem xF_pop (c : Ct) : ∀ j, xF (cpop c) j = xF c j := by
  intro j
  induction j with
  | zero => rfl
  | succ j ih =>
    show xF (cpop c) j + qn (xs c j) = xF c j + qn (xs c j)
    rw [ih]
theorem xh_pop {P : Prog} {c : Ct} {j : Nat} (hj : j + 1 < xd c - 1) : xh P (cpop c) j = xh P c j := by
  unfold xh
  show (if j + 1 = xd c - 1 then qh (xs c j) else if pR P (xf c (j + 1)) = 0 then qh (xs c j) else qh (xs c j) - 1) = _
  rw [if_neg (show ¬ j + 1 = xd c - 1 by omega), if_neg (show ¬ j + 1 = xd c by omega)]
theorem xh_popTop {P : Prog} {c : Ct} {j : Nat} (hj : j + 1 = xd c - 1) : xh P (cpop c) j = qh (xs c j) := by
  unfold xh
  show (if j + 1 = xd c - 1 then qh (xs c j) else if pR P (xf c (j + 1)) = 0 then qh (xs c j) else qh (xs c j) - 1) = _
  rw [if_pos hj]
theorem xB_pop {P : Prog} {c : Ct} : ∀ j, j + 1 ≤ xd c - 1 → xB P (cpop c) j = xB P c j := by
  intro j
  induction j with
  | zero => intro _; rfl
  | succ j ih =>
    intro hj
    show xB P (cpop c) j + xh P (cpop c) j = xB P c j + xh P c j
    rw [ih (by omega), xh_pop (by omega)]
theorem XX_pop {P : Prog} {c : Ct} {C M C' M' : St} {j0 : Nat} (h : XX P c C M) (ej : xd c = j0 + 2) (hC : Ag kXC C C') (hM : Ag kYM M M') (c7 : gI C' 1607 0 = nI (j0 + 1))
    (cj : ∀ j, j < j0 + 1 → gR C' 1004 j = gR C 1004 j ∧ gI C' 1005 j = gI C 1005 j ∧ gI C' 1006 j = gI C 1006 j ∧ ∀ i, gA C' 1002 j i = gA C 1002 j i ∧ gA C' 1003 j i = gA C 1003 j i)
    (c2 : ∀ j, j < j0 → gI C' 1102 (2 * j) = gI C 1102 (2 * j)) (c2t : gI C' 1102 (2 * j0) = nI (qh (xs c j0))) (m30 : gI M' 1930 0 = nI (j0 + 1)) (m31 : gI M' 1931 0 = nI (xp c j0)) (m20 : gI M' 1920 0 = nI (xF c (j0 + 1))) (m14 : gI M' 1914 0 = nI (xB P c j0 + qh (xs c j0)))
    (mj : ∀ j, gA M' 1927 0 j = gA M 1927 0 j ∧ gA M' 1928 0 j = gA M 1928 0 j ∧ gA M' 1929 0 j = gA M 1929 0 j) (mf : ∀ i, gA M' 1915 0 i = gA M 1915 0 i ∧ gA M' 1916 0 i = gA M 1916 0 i ∧ gA M' 1917 0 i = gA M 1917 0 i ∧ gA M' 1924 0 i = gA M 1924 0 i)
    (vC : ∀ j, j < j0 → ∀ i, gJ C' 1100 (2 * j) i = gJ C 1100 (2 * j) i ∧ gD C' 1101 (2 * j) i = gD C 1101 (2 * j) i) (vV : ∀ j i, j < j0 + 1 → gJ C' 1100 (2 * j + 1) i = gJ C 1100 (2 * j + 1) i ∧ gD C' 1101 (2 * j + 1) i = gD C 1101 (2 * j + 1) i)
    (vM : ∀ i, i < xB P c j0 → gJ M' 1922 0 i = gJ M 1922 0 i ∧ gD M' 1923 0 i = gD M 1923 0 i) (vW : ∀ i, gJ M' 1925 0 i = gJ M 1925 0 i ∧ gD M' 1926 0 i = gD M 1926 0 i)
    (vt : ∀ i, i < qh (xs c j0) → VR (qK (xs c j0) i) (gJ C' 1100 (2 * j0) i) (gD C' 1101 (2 * j0) i) (gJ M' 1922 0 (xB P c j0 + i)) (gD M' 1923 0 (xB P c j0 + i))) (hg : XG C' M') : XX P (cpop c) C' M' := by
  obtain ⟨hw, hPC, hPM, w, hXC, hXM, hv, -, hN⟩ := h
  obtain ⟨w1, w2, w3, w4⟩ := id w
  have hd : xd (cpop c) = j0 + 1 := by show xd c - 1 = _; omega
  have hf : xf (cpop c) = xf c := rfl
  have hp : xp (cpop c) = xp c := rfl
  have hs : xs (cpop c) = xs c := rfl
  refine ⟨hw, hPC.ag hC (fun k z y => by unfold kXC at y; omega), hPM.ag hM (fun k z1 z2 y => by unfold kYM at y; omega), ⟨by omega, by omega, fun j hj => ?_, fun j hj hr => ?_⟩, ⟨by rw [hd]; exact c7, fun j hj => ?_⟩, ⟨by rw [hd]; exact m30, by rw [hd]; exact m31, by rw [hd, xF_pop]; exact m20, ?_, fun j hj => ?_⟩, fun j hj => ?_, hg, fun f hf1 hL => ?_⟩
  · exact w3 j (by omega)
  · exact w4 j (by omega) hr
  · rw [hd] at hj
    obtain ⟨a1, a2, a3, a4, a5⟩ := hXC.2 j (by omega)
    obtain ⟨b1, b2, b3, b4⟩ := cj j hj
    rw [hf, hp, hs, b1, b2, b3]
    refine ⟨a1, a2, a3, ?_, fun i x1 x2 => ?_⟩
    · by_cases z : j = j0
      · rw [z, xh_popTop (by omega)]; exact c2t
      · rw [c2 j (by omega), xh_pop (by omega)]; exact a4
    · rw [(b4 i).1, (b4 i).2]; exact a5 i x1 x2
  · rw [hd]
    show gI M' 1914 0 = nI (xB P (cpop c) j0 + xh P (cpop c) j0)
    rw [xB_pop _ (by omega), xh_popTop (by omega)]; exact m14
  · rw [hd] at hj
    obtain ⟨a1, a2, a3, a4⟩ := hXM.2.2.2.2 j (by omega)
    rw [hf, hp, hs, xF_pop, (mj j).1, (mj j).2.1, (mj j).2.2, xB_pop j (by omega)]
    refine ⟨a1, a2, a3, fun i hi => ?_⟩
    rw [(mf _).1, (mf _).2.1, (mf _).2.2.1, (mf _).2.2.2]
    exact a4 i hi
  · rw [hd] at hj
    obtain ⟨a1, a2⟩ := hv j (by omega)
    rw [hf, hs, xB_pop j (by omega)]
    refine ⟨fun i hi => ?_, fun v hv2 => ?_⟩
    · by_cases z : j = j0
      · subst z
        rw [xh_popTop (by omega)] at hi
        exact vt i hi
      · rw [xh_pop (by omega)] at hi
        have hlt : xB P c j + i < xB P c j0 := by
          have h3 : xB P c (j + 1) = xB P c j + xh P c j := rfl
          have h4 : xB P c (j + 1) ≤ xB P c j0 := xB_mono (by omega)
          omega
        rw [(vC j (by omega) i).1, (vC j (by omega) i).2, (vM _ hlt).1, (vM _ hlt).2]
        exact a1 i hi
    · rw [(vV j v hj).1, (vV j v hj).2, (vW _).1, (vW _).2]
      exact a2 v hv2
  · obtain ⟨b1, N, b2⟩ := hN f hf1 hL
    refine ⟨b1, N, fun i hi => ?_⟩
    rw [hC.gA (k := 1402) (by unfold kXC; omega), hC.gA (k := 1403) (by unfold kXC; omega)]
    exact b2 i hi
/-- from the middle of a step the call returns -/
theorem At.leave {P : Prog} {c : Ct} {C M C1 M1 : St} {j f p op n B m h1 F : Nat} {s : SB} {Q : Int32 → St → St → Prop} (A : At P c C M j f p op n B m s) (eF : F = xF c j) (md : Md C M C1 M1 j h1 B) (hle : h1 ≤ 16) (hR : ¬ pR P f = 0 → 1 ≤ h1 ∧ h1 ≤ qh s ∧ qK s (h1 - 1) = pR P f) (mst : ∀ R : St → Prop, wp9_leave M1 R → wp9_step M R) (kk : ∀ r C' M', Res P C M r C' M' → Q r C' M') : wp6_leave C1 j (fun S6 => wp9_step M (fun M' => Q 0 S6 M')) := by
  obtain ⟨j5, hf, hop, h16, hcell, B80, l, hq, hb, hpl, hnl, hl60⟩ := A.facts
  obtain ⟨-, -, -, -, -, -, v1⟩ := A.f2
  obtain ⟨F', eF', hF40, hq8, f1, f2, f3, f4, g1, g2, g3, g4, g5, g6, hw, hPC, hPM, hN, hck, hhere, g7⟩ := A.frames
  have : F' = F := by rw [eF', eF]
  subst this
  obtain ⟨d1, d2, d3, d4, d5, d6, d7, d8, d9, d10, d11, d12⟩ := md
  have hR3 := (hw f hf).2.2.2.1
  have nX : ∀ k, ¬ (k = 1002 ∨ k = 1003 ∨ k = 1005 ∨ k = 1006 ∨ k = 1100 ∨ k = 1101 ∨ k = 1102) → ¬ kXF k := fun k z => z
  have nY : ∀ k, ¬ (k = 1914 ∨ k = 1915 ∨ k = 1916 ∨ k = 1917 ∨ k = 1920 ∨ k = 1922 ∨ k = 1923 ∨ k = 1924 ∨ k = 1931 ∨ k = 1933 ∨ k = 1934) → ¬ kYF k := fun k z => z
  have hg : XG C M := A.1.2.2.2.2.2.2.2.1
  have fb0 := hhere.2.2.2.1.2.1
  -- the value
  have hval : ¬ pR P f = 0 → VR (pR P f) (gJ C1 1100 (2 * j) (h1 - 1)) (gD C1 1101 (2 * j) (h1 - 1)) (gJ M1 1922 0 (B + h1 - 1)) (gD M1 1923 0 (B + h1 - 1)) := by
    intro z
    obtain ⟨z1, z2, z3⟩ := hR z
    have := v1 (h1 - 1) (by omega)
    rw [z3] at this
    rw [(d9 _ _).1, (d9 _ _).2, (d12 _).1, (d12 _).2, show B + h1 - 1 = B + (h1 - 1) by omega]
    exact this
  have ml : ∀ R : St → Prop, (1 ≤ j → R (if pR P f = 0 then lvM M1 B F' j else putm (lvM M1 B F' j) B (gJ M1 1922 0 (B + h1 - 1)) (gD M1 1923 0 (B + h1 - 1)))) → (j = 0 → R (sF (sL (sI (sI (lvM M1 B F' j) 1932 0 2) 1936 0 (nI (pR P f))) 1937 0 (if pR P f = 0 then 0 else gJ M1 1922 0 (B + h1 - 1))) 1938 0 (if pR P f = 0 then FP.dconst0 else gD M1 1923 0 (B + h1 - 1)))) → wp9_step M R := by
    intro R k1 k0
    refine mst R (m_leave (H := B + h1) ?_ j5 ?_ hf ?_ hR3 d10 (by omega) (fun z => by have := (hR z).1; omega) ?_ (by omega) ?_ (by omega) k1 k0)
    · rw [d2.gI (nY _ (by decide))]; exact g1
    · rw [d2.gA (nY _ (by decide))]; exact g4
    · rw [d2.gA (nY _ (by decide))]; exact (hPM f hf).2.2.1
    · rw [d2.gA (nY _ (by decide))]; exact g5
    · rw [(d11 _).2.2.1]
      have := (g6 0 hq).2.2.1
      rw [fb0] at this
      exact this
  have h04 : gR C1 1004 j = f := by rw [d1.gR (nX _ (by decide))]; exact f1
  have h6 : gI C1 1406 f = nI (pR P f) := by rw [d1.gI (nX _ (by decide))]; exact (hPC f hf).2.2.1
  have h07 : gI C1 1607 0 = nI (j + 1) := by rw [d1.gI (nX _ (by decide))]; exact g7
  by_cases hj : j = 0
  · -- DONE
    refine c_leave (h2 := 0) h04 hf h6 hR3 d5 hle j5 hcell (fun z => by omega) h07 (fun z => (hR z).1) (fun _ C' aC e1 e2 e3 e4 => ?_) (fun z => absurd z (by omega)) (fun z => absurd z (by omega))
    refine ml _ (fun z => absurd z (by omega)) (fun _ => kk _ _ _ ⟨(d1.mono kXF_C).tr (aC.mono fun k z => by unfold kXC; omega), ?_, ?_, Or.inr (Or.inl ⟨rfl, ?_, e1, ?_, ⟨pR P f, hR3, e2, ?_, fun z => ?_⟩, ?_⟩)⟩)
    · refine (d2.mono kYF_M).tr ?_
      unfold lvM
      exact ((((((((Ag.rf.sI (by unfold kYM; omega)).sI (by unfold kYM; omega)).sI (by unfold kYM; omega)).sI (by unfold kYM; omega)).sI (by unfold kYM; omega)).sI (by unfold kYM; omega)).sL (by unfold kYM; omega)).sF (by unfold kYM; omega))
    · simp [lvM, gI_sI, gI_sL, gI_sF]; exact d3
    · simp [lvM, gI_sI, gI_sL, gI_sF]; exact d4
    · simp [lvM, gI_sI, gI_sL, gI_sF]
    · simp [lvM, gI_sI, gI_sL, gI_sF]
    · rw [(e4 z).1, (e4 z).2]
      have := hval z
      simp only [gL_sF, gL_sL, gF_sF, gF_sL, if_neg z, and_self, if_true]
      exact this
    · refine hg.of (fun i => ?_) (fun i => ?_) (fun i => ?_) (fun i => ?_) ?_ (fun i => ?_)
      · rw [(e3 12 (by decide) i).1, (d9 _ _).1]
      · rw [(e3 12 (by decide) i).2, (d9 _ _).2]
      · rw [aC.gA (by decide), d1.gA (nX _ (by decide))]
      · show gJ M1 1908 0 i = _
        exact d2.gJ (nY _ (by decide)) 0 i
      · simp only [gF_sF, gF_sL]
        rw [if_neg (by decide)]
        show gF M1 1909 0 = _
        exact d2.gF (nY _ (by decide)) 0
      · show gA M1 1907 0 i = _
        exact d2.gA (nY _ (by decide)) 0 i
  · -- back in the caller
    obtain ⟨j0, rfl⟩ : ∃ j0, j = j0 + 1 := ⟨j - 1, by omega⟩
    have hX : XX P c C M := A.1
    have ej' : xd c = j0 + 2 := by
      have := A.2.1
      have h1 := hX.2.2.2.1.1
      omega
    have eB : B = xB P c (j0 + 1) := A.2.2.2.2.2.2.2.1
    have ef : f = xf c (j0 + 1) := A.2.2.1
    have eh : xh P c j0 = if pR P f = 0 then qh (xs c j0) else qh (xs c j0) - 1 := by
      unfold xh
      rw [if_neg (by omega), ef]
    have eB2 : B = xB P c j0 + xh P c j0 := by rw [eB]; rfl
    have hX2 := hX.2.2.2.2.1.2 j0 (by omega)
    have w4 := hX.2.2.2.1.2.2.2 j0 (by omega)
    have hq16 := (hX.2.2.2.1.2.2.1 j0 (by omega)).2.1.2.1.1.1
    have hcell0 : cellsN (2 * j0) = 16 := by unfold cellsN; rw [if_pos (by omega), if_pos (by omega)]
    have h28 : gA M1 1928 0 (j0 + 1) = nI (xp c j0) := by
      rw [d2.gA (nY _ (by decide))]
      exact (hX.2.2.2.2.2.1.2.2.2.2 (j0 + 1) (by omega)).2.2.1 (by omega)
    have eF2 : F' = xF c (j0 + 1) := eF'
    have e12 : gI C1 1102 (2 * j0) = nI (xh P c j0) := by
      rw [d6 _ (by omega)]
      exact hX2.2.2.2.1
    refine c_leave (h2 := xh P c j0) h04 hf h6 hR3 d5 hle j5 hcell (fun z => by rw [Nat.add_sub_cancel]; exact hcell0) h07 (fun z => (hR z).1) (fun z => absurd z hj) (fun _ z => ?_) (fun _ => ?_)
    · rw [Nat.add_sub_cancel]
      refine ⟨e12, ?_⟩
      rw [ef] at z
      have := (w4 z).1
      rw [eh, if_neg (by rw [ef]; exact z)]
      omega
    · rw [Nat.add_sub_cancel]
      have base := fun (M' : St) => ml (fun M' => Q 0 (if pR P f = 0 then sI C1 1607 0 (nI (j0 + 1)) else putc (sI C1 1607 0 (nI (j0 + 1))) (2 * j0) (xh P c j0) (gJ C1 1100 (2 * (j0 + 1)) (h1 - 1)) (gD C1 1101 (2 * (j0 + 1)) (h1 - 1))) M')
      refine base M1 (fun _ => kk _ _ _ ?_) (fun z => absurd z (by omega))
      by_cases z : pR P f = 0
      · rw [if_pos z, if_pos z]
        rw [if_pos z] at eh
        have aC : Ag kXC C (sI C1 1607 0 (nI (j0 + 1))) := (d1.mono kXF_C).sI (by unfold kXC; omega)
        have aM : Ag kYM M (lvM M1 B F' (j0 + 1)) := by
          unfold lvM
          exact ((((d2.mono kYF_M).sI (by unfold kYM; omega)).sI (by unfold kYM; omega)).sI (by unfold kYM; omega)).sI (by unfold kYM; omega)
        refine ⟨aC, aM, ?_, Or.inl ⟨rfl, ?_, ?_, cpop c, XX_pop hX ej' aC aM ?_ (fun i hi => ?_) (fun i hi => ?_) ?_ ?_ ?_ ?_ ?_ (fun i => ?_) (fun i => ?_) (fun i hi k => ?_) (fun i k hi => ?_) (fun i hi => ?_) (fun i => ?_) (fun i hi => ?_) ?_⟩⟩
        · simp [lvM, gI_sI]; exact d3
        · simp [lvM, gI_sI]; exact d4
        · simp [lvM, gI_sI]; exact d2.gI (nY _ (by decide)) 0
        · simp [gI_sI]
        · refine ⟨?_, ?_, ?_, fun k => ?_⟩
          · show gR C1 1004 i = _
            exact d1.gR (nX _ (by decide)) i
          · simp [gI_sI]; exact (d7 i (by omega)).1
          · simp [gI_sI]; exact (d7 i (by omega)).2
          · exact d8 i k
        · simp [gI_sI]; exact d6 _ (by omega)
        · simp [gI_sI]; rw [e12, eh]
        · simp [lvM, gI_sI]
        · simp [lvM, gI_sI]; exact h28
        · simp [lvM, gI_sI]; rw [eF2]
        · simp [lvM, gI_sI]; rw [eB2, eh]
        · exact ⟨d2.gA (nY _ (by decide)) 0 i, d2.gA (nY _ (by decide)) 0 i, d2.gA (nY _ (by decide)) 0 i⟩
        · exact d11 i
        · exact d9 _ _
        · exact d9 _ _
        · exact d12 i
        · exact ⟨d2.gJ (nY _ (by decide)) 0 i, d2.gD (nY _ (by decide)) 0 i⟩
        · have hv := (hX.2.2.2.2.2.2.1 j0 (by omega)).1 i (by rw [eh]; exact hi)
          show VR _ (gJ C1 1100 _ _) (gD C1 1101 _ _) (gJ M1 1922 0 _) (gD M1 1923 0 _)
          rw [(d9 _ _).1, (d9 _ _).2, (d12 _).1, (d12 _).2]
          exact hv
        · refine hg.of (fun i => (d9 _ _).1) (fun i => (d9 _ _).2) (fun i => d1.gA (nX _ (by decide)) 0 i) (fun i => d2.gJ (nY _ (by decide)) 0 i) (d2.gF (nY _ (by decide)) 0) (fun i => d2.gA (nY _ (by decide)) 0 i)
      · rw [if_neg z, if_neg z]
        rw [if_neg z] at eh
        obtain ⟨w5, w6, w7⟩ := w4 (by rw [← ef]; exact z)
        have aC : Ag kXC C (putc (sI C1 1607 0 (nI (j0 + 1))) (2 * j0) (xh P c j0) (gJ C1 1100 (2 * (j0 + 1)) (h1 - 1)) (gD C1 1101 (2 * (j0 + 1)) (h1 - 1))) := by
          unfold putc
          exact ((((d1.mono kXF_C).sI (by unfold kXC; omega)).sJ (by unfold kXC; omega)).sD (by unfold kXC; omega)).sI (by unfold kXC; omega)
        have aM : Ag kYM M (putm (lvM M1 B F' (j0 + 1)) B (gJ M1 1922 0 (B + h1 - 1)) (gD M1 1923 0 (B + h1 - 1))) := by
          unfold putm lvM
          exact (((((((d2.mono kYF_M).sI (by unfold kYM; omega)).sI (by unfold kYM; omega)).sI (by unfold kYM; omega)).sI (by unfold kYM; omega)).sJ (by unfold kYM; omega)).sD (by unfold kYM; omega)).sI (by unfold kYM; omega)
        have hvv := hval z
        refine ⟨aC, aM, ?_, Or.inl ⟨rfl, ?_, ?_, cpop c, XX_pop hX ej' aC aM ?_ (fun i hi => ?_) (fun i hi => ?_) ?_ ?_ ?_ ?_ ?_ (fun i => ?_) (fun i => ?_) (fun i hi k => ⟨?_, ?_⟩) (fun i k hi => ⟨?_, ?_⟩) (fun i hi => ⟨?_, ?_⟩) (fun i => ⟨?_, ?_⟩) (fun i hi => ?_) ?_⟩⟩
        · simp [putm, lvM, gI_sI, gI_sJ, gI_sD]; exact d3
        · simp [putm, lvM, gI_sI, gI_sJ, gI_sD]; exact d4
        · simp [putm, lvM, gI_sI, gI_sJ, gI_sD]; exact d2.gI (nY _ (by decide)) 0
        · simp [putc, gI_sI, gI_sJ, gI_sD]
        · refine ⟨?_, ?_, ?_, fun k => ?_⟩
          · show gR C1 1004 i = _
            exact d1.gR (nX _ (by decide)) i
          · simp [putc, gI_sI, gI_sJ, gI_sD]; exact (d7 i (by omega)).1
          · simp [putc, gI_sI, gI_sJ, gI_sD]; exact (d7 i (by omega)).2
          · exact d8 i k
        · simp [putc, gI_sI, gI_sJ, gI_sD]
          rw [if_neg (by omega)]
          exact d6 _ (by omega)
        · simp [putc, gI_sI, gI_sJ, gI_sD]; rw [eh]; congr 1; omega
        · simp [putm, lvM, gI_sI, gI_sJ, gI_sD]
        · simp [putm, lvM, gI_sI, gI_sJ, gI_sD]; exact h28
        · simp [putm, lvM, gI_sI, gI_sJ, gI_sD]; rw [eF2]
        · simp [putm, lvM, gI_sI, gI_sJ, gI_sD]; rw [eB2, eh]; congr 1; omega
        · exact ⟨d2.gA (nY _ (by decide)) 0 i, d2.gA (nY _ (by decide)) 0 i, d2.gA (nY _ (by decide)) 0 i⟩
        · exact d11 i
        · simp [putc, gJ_sI, gJ_sJ, gJ_sD]
          rw [if_neg (by omega)]
          exact (d9 _ _).1
        · simp [putc, gD_sI, gD_sJ, gD_sD]
          rw [if_neg (by omega)]
          exact (d9 _ _).2
        · simp [putc, gJ_sI, gJ_sJ, gJ_sD]
          rw [if_neg (by omega)]
          exact (d9 _ _).1
        · simp [putc, gD_sI, gD_sJ, gD_sD]
          rw [if_neg (by omega)]
          exact (d9 _ _).2
        · simp [putm, lvM, gJ_sI, gJ_sJ, gJ_sD]
          rw [if_neg (by omega)]
          exact (d12 _).1
        · simp [putm, lvM, gD_sI, gD_sJ, gD_sD]
          rw [if_neg (by omega)]
          exact (d12 _).2
        · simp [putm, lvM, gJ_sI, gJ_sJ, gJ_sD]; exact d2.gJ (nY _ (by decide)) 0 i
        · simp [putm, lvM, gD_sI, gD_sJ, gD_sD]; exact d2.gD (nY _ (by decide)) 0 i
        · by_cases y : i = xh P c j0
          · subst y
            have ek : qK (xs c j0) (xh P c j0) = pR P f := by rw [eh, ef]; exact w6
            rw [ek]
            simpa [putc, putm, lvM, gJ_sI, gJ_sJ, gJ_sD, gD_sI, gD_sJ, gD_sD, ← eB2] using hvv
          · have hv := (hX.2.2.2.2.2.2.1 j0 (by omega)).1 i (by omega)
            have ne : ¬ xB P c j0 + i = B := by omega
            simp only [putc, putm, lvM, gJ_sI, gJ_sJ, gJ_sD, gD_sI, gD_sJ, gD_sD, true_and, if_neg y, if_neg ne]
            rw [(d9 _ _).1, (d9 _ _).2, (d12 _).1, (d12 _).2]
            exact hv
        · refine hg.of (fun i => ?_) (fun i => ?_) (fun i => d1.gA (nX _ (by decide)) 0 i) (fun i => ?_) (d2.gF (nY _ (by decide)) 0) (fun i => d2.gA (nY _ (by decide)) 0 i)
          · simp [putc, gJ_sI, gJ_sJ, gJ_sD]
            rw [if_neg (by omega)]
            exact (d9 _ _).1
          · simp [putc, gD_sI, gD_sJ, gD_sD]
            rw [if_neg (by omega)]
            exact (d9 _ _).2
          · simp [putm, lvM, gJ_sI, gJ_sJ, gJ_sD]; exact d2.gJ (nY _ (by decide)) 0 i
