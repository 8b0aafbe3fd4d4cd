/-! PURE: steps: calls -/
theorem c_enter {C : St} {j g pn h1 : Nat} {Q : Int32 → St → Prop} (h07 : gI C 1607 0 = nI (j + 1)) (hj : j < 5) (hg : g < 6) (h14 : gI C 1404 g = nI pn) (hpn : pn ≤ 3) (hh : gI C 1102 (2 * j) = nI h1) (hle : pn ≤ h1) (h16 : h1 ≤ 16)
    (kk : ∀ C', Ag kXC C C' → gI C' 1607 0 = nI (j + 2) → (∀ i, gR C' 1004 i = if i = j + 1 then g else gR C 1004 i) → (∀ i, gI C' 1005 i = if i = j + 1 then nI 0 else gI C 1005 i) → (∀ i, gI C' 1006 i = if i = j + 1 then nI 1 else gI C 1006 i) → (∀ a i, gA C' 1002 a i = gA C 1002 a i ∧ gA C' 1003 a i = gA C 1003 a i) →
      (∀ o, o < 2 * (j + 1) → gI C' 1102 o = if o = 2 * j then nI (h1 - pn) else gI C 1102 o) → gI C' 1102 (2 * (j + 1)) = nI 0 → (∀ o, o < 2 * (j + 1) ∨ o = 12 → ∀ i, gJ C' 1100 o i = gJ C 1100 o i ∧ gD C' 1101 o i = gD C 1101 o i) → (∀ v, v < 6 → gJ C' 1100 (2 * (j + 1) + 1) v = (if v < pn then gJ C 1100 (2 * j) (h1 - pn + v) else 0) ∧ gD C' 1101 (2 * (j + 1) + 1) v = if v < pn then gD C 1101 (2 * j) (h1 - pn + v) else FP.dconst0) → (∀ i, gA C' 1700 0 i = gA C 1700 0 i) → Q 0 C') : wp6_enter C j g Q := by
  have hc1 : cellsN (2 * (j + 1) + 1) = 6 := by unfold cellsN; rw [if_pos (by omega), if_neg (by omega)]
  have hc2 : cellsN (2 * j) = 16 := by unfold cellsN; rw [if_pos (by omega), if_pos (by omega)]
  unfold wp6_enter
  rw [h07, nI_clamp (by omega)]
  refine ⟨fun z => absurd z (nI_pos (by omega)), fun _ => ⟨fun _ => ⟨vp_in_nI (by omega) (by omega), ?_⟩, fun z => absurd ((nI_ltI (b := 6) (by omega) (by omega)).mpr (by omega)) z⟩⟩
  unfold wp0_begin
  intro S1 e1 S2 e2 S3 e3
  subst e1; subst e2
  refine c_clear fun S4 k4 => c_clear fun S5 k5 => ?_
  obtain ⟨p1, p2, p3, p4⟩ := k4
  obtain ⟨q1, q2, q3, q4⟩ := k5
  have x07 : gI S5 1607 0 = nI (j + 1) := by rw [q1.gI (by decide), p1.gI (by decide), e3]; simp [gI_sI, gI_sR]; exact h07
  have x04 : ∀ i, gR S5 1004 i = if i = j + 1 then g else gR C 1004 i := by
    intro i; rw [q1.gR (by decide), p1.gR (by decide), e3]; simp [gR_sI, gR_sR]
  have x05 : ∀ i, gI S5 1005 i = if i = j + 1 then nI 0 else gI C 1005 i := by
    intro i; rw [q1.gI (by decide), p1.gI (by decide), e3]; simp [gI_sI, gI_sR]; rfl
  have x06 : ∀ i, gI S5 1006 i = if i = j + 1 then nI 1 else gI C 1006 i := by
    intro i; rw [q1.gI (by decide), p1.gI (by decide), e3]; simp [gI_sI, gI_sR]; rfl
  have x02 : ∀ a i, gA S5 1002 a i = gA C 1002 a i ∧ gA S5 1003 a i = gA C 1003 a i := by
    intro a i
    rw [q1.gA (by decide), p1.gA (by decide), q1.gA (k := 1003) (by decide), p1.gA (k := 1003) (by decide), e3]
    exact ⟨rfl, rfl⟩
  have x14 : gI S5 1404 g = nI pn := by rw [q1.gI (by decide), p1.gI (by decide), e3]; simp [gI_sI, gI_sR]; exact h14
  have xh : ∀ o, gI S5 1102 o = if o = 2 * (j + 1) + 1 then 0 else if o = 2 * (j + 1) then 0 else gI C 1102 o := by
    intro o; rw [q2, p2, e3]; simp [gI_sI, gI_sR]
  have xv : ∀ o, o ≠ 2 * (j + 1) → o ≠ 2 * (j + 1) + 1 → ∀ i, gJ S5 1100 o i = gJ C 1100 o i ∧ gD S5 1101 o i = gD C 1101 o i := by
    intro o o1 o2 i
    rw [(q3 o i o2).1, (q3 o i o2).2, (p3 o i o1).1, (p3 o i o1).2, e3]
    exact ⟨rfl, rfl⟩
  have aS5 : Ag kXC C S5 := by
    refine Ag.tr ?_ (q1.mono fun k z => by unfold kXC; omega)
    refine Ag.tr ?_ (p1.mono fun k z => by unfold kXC; omega)
    rw [e3]
    exact ((Ag.rf.sR (by unfold kXC; omega)).sI (by unfold kXC; omega)).sI (by unfold kXC; omega)
  have xhj : gI S5 1102 (2 * j) = nI h1 := by rw [xh, if_neg (by omega), if_neg (by omega)]; exact hh
  rw [x07, nI_clamp (by omega)]
  refine ⟨vp_in_nI (by omega) (by omega), ?_⟩
  unfold wp0_takeParametersFrom wp1_height
  show gR S5 1004 (j + 1) < 6 ∧ _
  have x04j : gR S5 1004 (j + 1) = g := by rw [x04, if_pos rfl]
  rw [x04j]
  refine ⟨hg, fun x2 ex => ?_⟩
  have ex : x2 = gI S5 1102 (2 * j) - gI S5 1404 g := ex
  rw [xhj, x14, nI_sub hle] at ex
  subst ex
  refine ⟨pn + 1, c_takep (n := pn) (h1 := h1) x04j hg x14 (by omega) xhj hle (by omega) (by omega) (fun S6 S7 hk hc => ?_) pn 0 S5 (by omega) ⟨Ag.rf, fun _ _ _ => ⟨rfl, rfl⟩, fun x hx => absurd hx (by omega), fun _ _ => ⟨rfl, rfl⟩⟩⟩
  intro S8 e8
  obtain ⟨t1, t2, t3, t4⟩ := hk
  have y07 : gI S7 1607 0 = nI (j + 1) := by rw [hc.1.gI (by decide), t1.gI (by decide)]; exact x07
  rw [y07, nI_1] at e8
  subst e8
  have yJ : ∀ o i, gJ S7 1100 o i = gJ S6 1100 o i ∧ gD S7 1101 o i = gD S6 1101 o i := fun o i => ⟨hc.1.gJ (by decide) o i, hc.1.gD (by decide) o i⟩
  refine kk _ ?_ ?_ (fun i => ?_) (fun i => ?_) (fun i => ?_) (fun a i => ?_) (fun o ho => ?_) ?_ (fun o ho i => ?_) (fun v hv => ?_) (fun i => ?_)
  · exact ((aS5.tr (t1.mono fun k z => (by unfold kXC; omega : kXC k))).tr (hc.1.mono fun k z => (by unfold kXC; omega : kXC k))).sI (by unfold kXC; omega)
  · simp [gI_sI]
  · show gR S7 1004 i = _
    rw [hc.1.gR (by decide), t1.gR (by decide)]; exact x04 i
  · simp [gI_sI]; rw [hc.1.gI (by decide), t1.gI (by decide)]; exact x05 i
  · simp [gI_sI]; rw [hc.1.gI (by decide), t1.gI (by decide)]; exact x06 i
  · show gA S7 1002 a i = _ ∧ gA S7 1003 a i = _
    rw [hc.1.gA (by decide), t1.gA (by decide), hc.1.gA (k := 1003) (by decide), t1.gA (k := 1003) (by decide)]; exact x02 a i
  · simp [gI_sI]; rw [hc.2]
    by_cases z : o = 2 * j
    · rw [if_pos z, if_pos z]
    · rw [if_neg z, if_neg z, t1.gI (by decide), xh, if_neg (by omega), if_neg (by omega)]
  · simp [gI_sI]; rw [hc.2, if_neg (by omega), t1.gI (by decide), xh, if_neg (by omega), if_pos rfl]; rfl
  · show gJ S7 1100 o i = _ ∧ gD S7 1101 o i = _
    rw [(yJ _ _).1, (yJ _ _).2, (t2 o i (by omega)).1, (t2 o i (by omega)).2]
    exact xv o (by omega) (by omega) i
  · show gJ S7 1100 _ v = _ ∧ gD S7 1101 _ v = _
    rw [(yJ _ _).1, (yJ _ _).2]
    by_cases z : v < pn
    · rw [if_pos z, if_pos z, (t3 v z).1, (t3 v z).2]
      exact xv _ (by omega) (by omega) _
    · rw [if_neg z, if_neg z, (t4 v (by omega)).1, (t4 v (by omega)).2]
      exact q4 v (by omega)
  · show gA S7 1700 0 i = _
    rw [hc.1.gA (by decide), t1.gA (by decide), q1.gA (by decide), p1.gA (by decide), e3]
    rfl
theorem At.enter {P : Prog} {c : Ct} {C M C1 M1 : St} {j f p op n B m h1 F g : Nat} {s : SB} {b : Int32} {Q : Int32 → St → St → Prop} (A : At P c C M j f p op n B m s) (eF : F = xF c j) (hn : n = p + 2) (md : Md C M C1 M1 j h1 B) (bC : CB j C n C1) (bM : MB M M1) (h06 : gI C1 1006 j = nI (qn s)) (h20 : gI M1 1920 0 = nI (F + qn s)) (h31 : gI M1 1931 0 = nI p) (hg : g < 6) (hL : 1 ≤ pL P g) (hle : h1 ≤ qh s)
    (hpn : fb (sTop s) + pN P g ≤ h1) (hk : ∀ i, i < pN P g → qK s (h1 - pN P g + i) = pK P g i) (et : ckOne P f p s = ptIf (pR P g) (h1 - pN P g, qK s, qn s, qF s, qb s)) (mst : ∀ R : St → Prop, wp9_call_65 (nI op) b (fun S => R S) (nI g) M1 → wp9_step M R) (kk : ∀ r C' M', Res P C M r C' M' → Q r C' M') : wp6_enter C1 j g (fun r6 S6 => wp9_step M (fun M' => Q r6 S6 M')) := by
  obtain ⟨j5, hf, hop, h16, hcell, B80, l, hq, hb, hpl, hnl, hl60⟩ := A.facts
  obtain ⟨-, -, -, -, -, -, v1⟩ := A.f2
  obtain ⟨F', eF', hF40, hq8, f1, f2, f3, f4, g1, g2, g3, g4, g5, g6, hw, hPC, hPM, hN, hck, hhere, g7⟩ := A.frames
  have : F' = F := by rw [eF', eF]
  subst this
  obtain ⟨d1, d2, d3, d4, d5, d6, d7, d8, d9, d10, d11, d12⟩ := md
  have nX : ∀ k, ¬ (k = 1002 ∨ k = 1003 ∨ k = 1005 ∨ k = 1006 ∨ k = 1100 ∨ k = 1101 ∨ k = 1102) → ¬ kXF k := fun k z => z
  have nY : ∀ k, ¬ (k = 1914 ∨ k = 1915 ∨ k = 1916 ∨ k = 1917 ∨ k = 1920 ∨ k = 1922 ∨ k = 1923 ∨ k = 1924 ∨ k = 1931 ∨ k = 1933 ∨ k = 1934) → ¬ kYF k := fun k z => z
  have hgX : XG C M := A.1.2.2.2.2.2.2.2.1
  have hg1 : XG C1 M1 := hgX.of (fun i => (d9 _ _).1) (fun i => (d9 _ _).2) (fun i => d1.gA (nX _ (by decide)) 0 i) (fun i => d2.gJ (nY _ (by decide)) 0 i) (d2.gF (nY _ (by decide)) 0) (fun i => d2.gA (nY _ (by decide)) 0 i)
  have hn3 := (hw g hg).1
  have hV := (hw g hg).2.2.1
  have h07 : gI C1 1607 0 = nI (j + 1) := by rw [d1.gI (nX _ (by decide))]; exact g7
  have h30 : gI M1 1930 0 = nI (j + 1) := by rw [d2.gI (nY _ (by decide))]; exact g1
  have m01 : gA M1 1901 0 g = nI (pN P g) := by rw [d2.gA (nY _ (by decide))]; exact (hPM g hg).1
  have m03 : gA M1 1903 0 g = nI (pR P g) := by rw [d2.gA (nY _ (by decide))]; exact (hPM g hg).2.2.1
  by_cases hj : j = 5
  · -- a seventh call
    have tr : wp9_step M (fun M' => Q 1 C1 M') := by
      refine mst _ ?_
      unfold wp9_call_65
      rw [nI_clamp (by omega), m01]
      refine ⟨vp_in_nI hg (by omega), fun x4 e4 S1 e1 => ?_⟩
      subst e4; subst e1
      refine ⟨fun z => absurd ?_ z, fun _ S2 e2 => ?_⟩
      · simp [gI_sI]; rw [h30, hj]; rfl
      · subst e2
        refine kk _ _ _ (res_trap (t := 1) bC ((bM.s (Or.inl rfl) _).s (Or.inr (Or.inr rfl)) 1) hg1 (by decide) (by decide) ?_)
        simp [gI_sI]; rfl
    unfold wp6_enter
    rw [h07]
    exact ⟨fun _ => tr, fun _ => ⟨fun z => absurd ((nI_ltI (b := 6) (by omega) (by omega)).mp z) (by omega), fun _ => tr⟩⟩
  · refine c_enter h07 (by omega) hg (by rw [d1.gI (nX _ (by decide))]; exact (hPC g hg).1) hn3 d5 (by omega) (by omega) fun C' y0 y1 y2 y3 y4 y5 y6 y7 y8 y9 y10 => ?_
    refine mst _ ?_
    unfold wp9_call_65
    rw [nI_clamp (by omega), m01]
    refine ⟨vp_in_nI hg (by omega), fun x4 e4 S1 e1 => ?_⟩
    subst e4
    rw [d10, nI_sub (by omega)] at e1
    subst e1
    have x30 : gI (sI M1 1914 0 (nI (B + h1 - pN P g))) 1930 0 = nI (j + 1) := by simp [gI_sI]; exact h30
    refine ⟨fun _ => ⟨7, m_call102 (H := B + h1 - pN P g) x30 (by omega) (by simp [gI_sI]) (by omega) (by omega) (fun M' hv => ?_) 6 0 _ (by omega) ⟨Ag.rf, fun _ _ => ⟨rfl, rfl⟩, fun x hx => absurd hx (by omega)⟩⟩, fun z => absurd (nE (b := 6) (by omega) (by omega) (x30.symm.trans z)) (by omega)⟩
    obtain ⟨z1, z2, z3⟩ := hv
    have aM1 : Ag kYM M (sI M1 1914 0 (nI (B + h1 - pN P g))) := (d2.mono kYF_M).sI (by unfold kYM; omega)
    have aM2 : Ag kYM M M' := aM1.tr (z1.mono fun k z => by unfold kYM; omega)
    have i31 : gI M' 1931 0 = nI p := by rw [z1.gI (by decide)]; simp [gI_sI]; exact h31
    rw [i31, l2, nI_add]
    refine m_enter (D := j + 1) (G := F' + qn s) (R := pR P g) (H := B + h1 - pN P g) (by rw [z1.gI (by decide)]; exact x30) (by omega) (by rw [z1.gI (by decide)]; simp [gI_sI]; exact h20) (by omega) hg (by rw [z1.gA (by decide)]; exact m03) (by rw [z1.gI (by decide)]; simp [gI_sI]) ?_
    have aM3 : Ag kYM M (entM M' (j + 1) g (p + 2) (F' + qn s) (pR P g) (B + h1 - pN P g)) := by
      unfold entM
      exact ((((((((aM2.sA (by unfold kYM; omega)).sA (by unfold kYM; omega)).sA (by unfold kYM; omega)).sI (by unfold kYM; omega)).sA (by unfold kYM; omega)).sA (by unfold kYM; omega)).sA (by unfold kYM; omega)).sI (by unfold kYM; omega)).sI (by unfold kYM; omega)
    obtain ⟨mi, hini⟩ := Here.ini hw hg (hN g hg hL).1
    have hX : XX P c C M := A.1
    have ej : xd c = j + 1 := by have := A.2.1; have h1 := hX.2.2.2.1.1; omega
    have eB : B = xB P c j := A.2.2.2.2.2.2.2.1
    have es : s = xs c j := A.2.2.2.2.1
    have ef : f = xf c j := A.2.2.1
    have hA := A.here
    -- the pass behind the call
    have st : (pR P g = 0 ∧ qh (ckOne P f p s) = h1 - pN P g ∨ ¬ pR P g = 0 ∧ qh (ckOne P f p s) = h1 - pN P g + 1 ∧ qK (ckOne P f p s) (h1 - pN P g) = pR P g) ∧ (∀ i, i < h1 - pN P g → qK (ckOne P f p s) i = qK s i) ∧ qn (ckOne P f p s) = qn s ∧ qF (ckOne P f p s) = qF s ∧ Live (ckOne P f p s) := by
      rw [et] at hb ⊢
      have lb : Live (h1 - pN P g, qK s, qn s, qF s, qb s) := ⟨l.1, fun i hi => l.2 i (by have hi : i < h1 - pN P g := hi; omega)⟩
      rcases L_ptIf hb with ⟨w, e⟩ | ⟨w, w1, e⟩
      · rw [e]; exact ⟨Or.inl ⟨w, rfl⟩, fun _ _ => rfl, rfl, rfl, lb⟩
      · rw [e]
        refine ⟨Or.inr ⟨w, rfl, ?_⟩, fun i hi => ?_, rfl, rfl, L_put lb (hw g hg).2.2.2.1⟩
        · show (if h1 - pN P g = h1 - pN P g then pR P g else _) = _
          rw [if_pos rfl]
        · show (if i = h1 - pN P g then pR P g else qK s i) = _
          rw [if_neg (by omega)]
    obtain ⟨s1, s2, s3, s4, s5⟩ := st
    have eH : h1 - pN P g = if pR P g = 0 then qh (ckOne P f p s) else qh (ckOne P f p s) - 1 := by
      rcases s1 with ⟨w, w1⟩ | ⟨w, w1, -⟩
      · rw [if_pos w, w1]
      · rw [if_neg w, w1, Nat.add_sub_cancel]
    have eBH : B + h1 - pN P g = B + (h1 - pN P g) := by omega
    rw [ef] at hA
    refine kk _ _ _ ⟨(d1.mono kXF_C).tr y0, aM3, ?_, Or.inl ⟨rfl, ?_, ?_, cpush P c j m n (ckOne P f p s) g mi, XX_push (H := h1 - pN P g) hX ej (by omega) hg ((d1.mono kXF_C).tr y0) aM3 (by rw [ef]; exact hA) s5 (by rw [s3, es]) (by rw [s4, es]) hini (fun w => ?_) eH y1 (fun i => ?_) (fun i => ?_) (fun i => ?_) (fun a i => ?_) (fun i hi => ?_) ?_ ?_ ?_ ?_ ?_ ?_ (fun i => ?_) (fun i => ?_) (fun i => ?_) (fun i hi => ?_) ?_ (fun o ho i => ?_) (fun i => ?_) (fun i hi => ?_) (fun i hi => ?_) (fun v hv => ?_) ?_⟩⟩
    · simp [entM, gI_sI, gI_sA]; rw [z1.gI (by decide)]; simp [gI_sI]; exact d3
    · simp [entM, gI_sI, gI_sA]; rw [z1.gI (by decide)]; simp [gI_sI]; exact d4
    · simp [entM, gI_sI, gI_sA]; rw [z1.gI (by decide)]; simp [gI_sI]; exact d2.gI (nY _ (by decide)) 0
    · rcases s1 with ⟨w1, -⟩ | ⟨-, w1, w2⟩
      · exact absurd w1 w
      · rw [w1, Nat.add_sub_cancel]
        refine ⟨by omega, w2, ?_⟩
        unfold sTop
        rw [s3, s4]
        have : fb (sTop s) + pN P g ≤ h1 := hpn
        unfold sTop at this
        omega
    · rw [y2, d1.gR (nX _ (by decide))]
    · rw [y3]
      by_cases w : i = j
      · rw [if_neg (by omega), if_neg (by omega), if_pos w, w]; exact bC.2.1
      · rw [(d7 i w).1, if_neg w]
    · rw [y4]
      by_cases w : i = j
      · rw [if_neg (by omega), if_neg (by omega), w, h06, f3]
      · rw [(d7 i w).2]
    · rw [(y5 a i).1, (y5 a i).2]; exact d8 a i
    · rw [y6 _ (by omega), if_neg (by omega)]; exact d6 _ (by omega)
    · rw [y6 _ (by omega), if_pos rfl]
    · exact y7
    · simp [entM, gI_sI, gI_sA]
    · simp [entM, gI_sI, gI_sA]
    · rw [s3, ← eF']; simp [entM, gI_sI, gI_sA]
    · rw [← eB, ← eBH]; simp [entM, gI_sI, gI_sA]; rw [z1.gI (by decide)]; simp [gI_sI]
    · simp [entM, gA_sI, gA_sA]
      by_cases w : i = j + 1
      · rw [if_pos w, if_pos w]
      · rw [if_neg w, if_neg w, z1.gA (by decide)]
        exact d2.gA (nY _ (by decide)) 0 i
    · simp [entM, gA_sI, gA_sA]
      by_cases w : i = j + 1
      · rw [if_pos w, if_pos w, hn]
      · rw [if_neg w, if_neg w, z1.gA (by decide)]
        exact d2.gA (nY _ (by decide)) 0 i
    · rw [s3, ← eF']
      simp [entM, gA_sI, gA_sA]
      by_cases w : i = j + 1
      · rw [if_pos w, if_pos w]
      · rw [if_neg w, if_neg w, z1.gA (by decide)]
        exact d2.gA (nY _ (by decide)) 0 i
    · rw [s3, ← eF'] at hi
      have ne : ¬ i = F' + qn s := by omega
      simp only [entM, gA_sI, gA_sA]
      simp (decide := true) only [ne, false_and, and_false, if_false]
      rw [z1.gA (by decide), z1.gA (k := 1916) (by decide), z1.gA (k := 1917) (by decide), z1.gA (k := 1924) (by decide)]
      exact d11 i
    · rw [s3, ← eF', ← eB, ← eBH]
      simp [entM, gA_sI, gA_sA]
    · rw [(y8 o (Or.inl ho) i).1, (y8 o (Or.inl ho) i).2]; exact d9 o i
    · show gJ M' 1922 0 i = _ ∧ gD M' 1923 0 i = _
      rw [z1.gJ (by decide), z1.gD (by decide)]
      exact d12 i
    · show gJ M' 1925 0 i = _ ∧ gD M' 1926 0 i = _
      rw [(z2 i hi).1, (z2 i hi).2]
      exact ⟨d2.gJ (nY _ (by decide)) 0 i, d2.gD (nY _ (by decide)) 0 i⟩
    · rw [s2 i hi, ← es]
      exact ⟨rfl, by omega⟩
    · show VR _ (gJ C' 1100 _ v) (gD C' 1101 _ v) (gJ M' 1925 0 _) (gD M' 1926 0 _)
      rw [(y9 v (by omega)).1, (y9 v (by omega)).2, (z3 v (by omega)).1, (z3 v (by omega)).2]
      by_cases w : v < pN P g
      · rw [if_pos w, if_pos w, if_pos w, if_pos w, (d9 _ _).1, (d9 _ _).2, ← hk v w]
        show VR _ _ _ (gJ M1 1922 0 _) (gD M1 1923 0 _)
        rw [(d12 _).1, (d12 _).2, show B + h1 - pN P g + v = B + (h1 - pN P g + v) by omega]
        exact v1 _ (by omega)
      · rw [if_neg w, if_neg w, if_neg w, if_neg w]
        unfold VR
        split
        · exact ⟨rfl, fin_0⟩
        · exact ⟨rfl, fun _ => rfl⟩
    · refine hg1.of (fun i => (y8 12 (Or.inr rfl) i).1) (fun i => (y8 12 (Or.inr rfl) i).2) y10 (fun i => ?_) ?_ (fun i => ?_)
      · show gJ M' 1908 0 i = _
        rw [z1.gJ (by decide)]; rfl
      · show gF M' 1909 0 = _
        rw [z1.gF (by decide)]; rfl
      · simp only [entM, gA_sI, gA_sA]
        simp (decide := true) only [false_and, if_false]
        rw [z1.gA (by decide)]; rfl
