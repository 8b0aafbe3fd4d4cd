/-! PURE: steps: globals -/
theorem cells12 : cellsN 12 = 3 := by decide
theorem vr_glob {C M : St} (hg : XG C M) {g : Nat} (h : g < 3) : VR (g + 1) (gJ C 1100 12 g) (gD C 1101 12 g) (gJ M 1908 0 g) (gF M 1909 0) := by
  obtain ⟨h1, h2, h3, -⟩ := hg
  rcases (by omega : g = 0 ∨ g = 1 ∨ g = 2) with rfl | rfl | rfl
  · exact h1
  · exact h2
  · exact h3
theorem st_gget {P : Prog} {c : Ct} {C M : St} {j f p op n B m : Nat} {s : SB} {Q : Int32 → St → St → Prop} (A : At P c C M j f p op n B m s) (ho : op = 18) (kk : ∀ r C' M', Res P C M r C' M' → Q r C' M') : wp6_step C (fun r C' => wp9_step M (fun M' => Q r C' M')) := by
  obtain ⟨j5, hf, hop, h16, hcell, B80, l, hq, hb, -⟩ := A.facts
  obtain ⟨bC, bM, hg, i34, c2, m14, v1⟩ := A.f2
  obtain ⟨hn, hp1, ebt, hb256⟩ := whole2 A (by omega)
  have e := ck_var (s := s) A.op (by omega) (by omega)
  subst ho
  generalize hv : pC P f (p + 1) = v at *
  by_cases z : v < 3
  · have e : ckOne P f p s = pt (v + 1) s := by rw [e]; unfold ckVar ckVar1; rw [if_neg (by decide), if_pos z, if_pos (by decide)]
    rw [e] at hb
    obtain ⟨h0, et⟩ := L_pt hb
    rw [et] at e
    have h101 := A.h101 (Q := fun M' => Q 0 (putc (cC j n C) (2 * j) (qh s) (gJ (cC j n C) 1100 12 v) (gD (cC j n C) 1101 12 v)) M') (by omega)
    have put := A.put (C' := putc (cC j n C) (2 * j) (qh s) (gJ (cC j n C) 1100 12 v) (gD (cC j n C) 1101 12 v)) (M0 := mB M) (h0 := qh s) (w := gJ (mB M) 1908 0 v) (y := gF (mB M) 1909 0) (by rw [e]; exact L_put l (by omega)) (by rw [e]; exact ⟨rfl, rfl⟩) (by rw [e]; rfl) (Nat.le_refl _) (fun i hi => by
      rw [e]
      show (if i = qh s then _ else qK s i) = _
      rw [if_neg (by omega)]) bC.put bM (XGputc hg (by omega)) i34 (by
      rw [e]
      show VR (if qh s = qh s then v + 1 else qK s (qh s)) _ _ _ _
      rw [if_pos rfl]; exact vr_glob hg z)
    refine A.cl (disp_val (by omega) (by omega) ?_)
    rw [ebt]
    simp (decide := true) only [wp6_stepValues, wp1_height, true_implies, false_implies, true_and, and_true, not_true, not_false_iff]
    intro x _
    refine r_putFrom c2 (by omega) (by rw [cells12]; omega) (h101 fun b hb => st_101v (by omega) (by omega) ?_)
    rw [hb hp1, hv]
    refine m_gget z m14 (by omega) fun S2 e2 => ?_
    subst e2
    exact kk _ _ _ put
  · have e : ckOne P f p s = sBad s := by rw [e]; unfold ckVar; rw [if_neg (by decide), if_neg z]
    rw [e] at hb
    exact absurd hb e_bad
theorem st_gset {P : Prog} {c : Ct} {C M : St} {j f p op n B m : Nat} {s : SB} {Q : Int32 → St → St → Prop} (A : At P c C M j f p op n B m s) (ho : op = 19) (kk : ∀ r C' M', Res P C M r C' M' → Q r C' M') : wp6_step C (fun r C' => wp9_step M (fun M' => Q r C' M')) := by
  obtain ⟨j5, hf, hop, h16, hcell, B80, l, hq, hb, -⟩ := A.facts
  obtain ⟨bC, bM, hg, i34, c2, m14, v1⟩ := A.f2
  obtain ⟨hn, hp1, ebt, hb256⟩ := whole2 A (by omega)
  have e := ck_var (s := s) A.op (by omega) (by omega)
  subst ho
  generalize hv : pC P f (p + 1) = v at *
  by_cases z : v < 3
  · have e : ckOne P f p s = tk (v + 1) s := by rw [e]; unfold ckVar ckVar1; rw [if_neg (by decide), if_pos z, if_neg (by decide), if_neg (by decide)]
    rw [e] at hb
    obtain ⟨h0, ekk, et⟩ := L_tk l hq hb
    rw [et] at e
    have w1 := v1 (qh s - 1) (by omega)
    rw [ekk] at w1
    have lt : Live (ckOne P f p s) := by rw [e]; exact L_pop l
    have ef : qn (ckOne P f p s) = qn s ∧ qF (ckOne P f p s) = qF s := by rw [e]; exact ⟨rfl, rfl⟩
    have qht : qh (ckOne P f p s) = qh s - 1 := by rw [e]; rfl
    have ek : ∀ i, qK (ckOne P f p s) i = qK s i := by intro i; rw [e]; rfl
    have aC : Ag kX C (sI (sD (sJ (cC j n C) 1100 12 v (gJ (cC j n C) 1100 (2 * j) (qh s - 1))) 1101 12 v (gD (cC j n C) 1101 (2 * j) (qh s - 1))) 1102 (2 * j) (nI (qh s - 1))) := ((bC.1.sJ (by unfold kX; omega)).sD (by unfold kX; omega)).sI (by unfold kX; omega)
    have bM1 := bM.s (k := 1914) (Or.inl rfl) (nI (B + (qh s - 1)))
    -- the reference's two ways
    have fin : ∀ M2, Ag kY M M2 → gI M2 1933 0 = gI M 1933 0 + 1 → gI M2 1934 0 = 0 → gI M2 1914 0 = nI (B + (qh s - 1)) → (∀ i, gJ M2 1922 0 i = gJ M 1922 0 i ∧ gD M2 1923 0 i = gD M 1923 0 i ∧ gJ M2 1925 0 i = gJ M 1925 0 i ∧ gD M2 1926 0 i = gD M 1926 0 i) → XG (sI (sD (sJ (cC j n C) 1100 12 v (gJ (cC j n C) 1100 (2 * j) (qh s - 1))) 1101 12 v (gD (cC j n C) 1101 (2 * j) (qh s - 1))) 1102 (2 * j) (nI (qh s - 1))) M2 →
        Q 0 (sI (sD (sJ (cC j n C) 1100 12 v (gJ (cC j n C) 1100 (2 * j) (qh s - 1))) 1101 12 v (gD (cC j n C) 1101 (2 * j) (qh s - 1))) 1102 (2 * j) (nI (qh s - 1))) (sI M2 1931 0 (nI n)) := by
      intro M2 aM i33 i34 i14 hs hg2
      refine kk _ _ _ (A.gen lt ef aC (aM.sI (by unfold kY; omega)) (by simp [gI_sI]; exact i33) (by simp [gI_sI]; exact i34) (fun i => ?_) (fun o => ?_) (by simp [gI_sI]) (by rw [qht]; simp [gI_sI]; exact i14) (fun o ho i => ⟨?_, ?_⟩) (fun i hi => ⟨(hs i).1, (hs i).2.1⟩) (fun i hi => ⟨(hs i).2.2.1, (hs i).2.2.2⟩) (fun i hi => ?_) (fun u hu => ?_) hg2)
      · simp [gI_sI, gI_sJ, gI_sD]
      · rw [qht]; simp [gI_sI, gI_sJ, gI_sD]
      · simp [gJ_sI, gJ_sJ, gJ_sD]; intro w; omega
      · simp [gD_sI, gD_sJ, gD_sD]; intro w; omega
      · rw [qht] at hi
        rw [ek]
        have := v1 i (by omega)
        show VR _ (gJ _ _ _ _) (gD _ _ _ _) (gJ M2 1922 0 (B + i)) (gD M2 1923 0 (B + i))
        rw [(hs _).1, (hs _).2.1]
        simpa [gJ_sI, gJ_sJ, gJ_sD, gD_sI, gD_sJ, gD_sD, mB, show ¬ 2 * j = 12 by omega] using this
      · have := A.vars u hu
        show VR _ (gJ _ _ _ _) (gD _ _ _ _) (gJ M2 1925 0 _) (gD M2 1926 0 _)
        rw [(hs _).2.2.1, (hs _).2.2.2]
        simpa [gJ_sI, gJ_sJ, gJ_sD, gD_sI, gD_sJ, gD_sD, mB, show ¬ 2 * j + 1 = 12 by omega] using this
    have h101 := fun C' => A.h101 (Q := fun M' => Q 0 C' M') (by omega)
    refine A.cl (disp_val (by omega) (by omega) ?_)
    rw [ebt]
    simp (decide := true) only [wp6_stepValues, wp1_height, true_implies, false_implies, true_and, and_true, not_true, not_false_iff]
    intro x5 e5
    rw [c2, nI_dec (by omega)] at e5
    subst e5
    refine r_setFrom (by rw [cells12]; omega) (by omega) (r_drop (h := qh s) (by simp [gI_sJ, gI_sD]; exact c2) (by omega) (by omega) (h101 _ fun b hb => st_101v (by omega) (by omega) ?_))
    rw [hb hp1, hv]
    have eB : B + qh s - 1 = B + (qh s - 1) := by omega
    obtain ⟨g1, g2, g3, g4⟩ := id hg
    refine m_gset z m14 (by omega) (by omega) (fun y S2 e2 => ?_) (fun y S2 e2 => ?_)
    · subst e2; subst y
      rw [eB]
      refine fin _ (bM1.1.sF (by unfold kY; omega)) (by simp [gI_sI, gI_sF]; exact bM.2.1) (by simp [gI_sI, gI_sF]; exact i34) (by simp [gI_sI, gI_sF]) (fun i => ⟨rfl, rfl, rfl, rfl⟩) ⟨?_, ?_, ?_, g4⟩
      · simpa [gJ_sI, gJ_sJ, gJ_sD, gJ_sF] using g1
      · simpa [gJ_sI, gJ_sJ, gJ_sD, gJ_sF] using g2
      · simpa [gD_sI, gD_sJ, gD_sD, gF_sF, VR] using w1
    · subst e2
      rw [eB]
      refine fin _ (bM1.1.sJ (by unfold kY; omega)) (by simp [gI_sI, gI_sJ]; exact bM.2.1) (by simp [gI_sI, gI_sJ]; exact i34) (by simp [gI_sI, gI_sJ]) (fun i => ⟨?_, rfl, ?_, rfl⟩) ?_
      · simp [gJ_sI, gJ_sJ, mB]
      · simp [gJ_sI, gJ_sJ, mB]
      · rcases (by omega : v = 0 ∨ v = 1) with rfl | rfl
        · refine ⟨?_, ?_, ?_, g4⟩
          · simpa [gJ_sI, gJ_sJ, gJ_sD, VR] using w1
          · simpa [gJ_sI, gJ_sJ, gJ_sD] using g2
          · simpa [gD_sI, gD_sJ, gD_sD, gF_sJ, gF_sI] using g3
        · refine ⟨?_, ?_, ?_, g4⟩
          · simpa [gJ_sI, gJ_sJ, gJ_sD] using g1
          · simpa [gJ_sI, gJ_sJ, gJ_sD, VR] using w1
          · simpa [gD_sI, gD_sJ, gD_sD, gF_sJ, gF_sI] using g3
  · have e : ckOne P f p s = sBad s := by rw [e]; unfold ckVar; rw [if_neg (by decide), if_neg z]
    rw [e] at hb
    exact absurd hb e_bad
