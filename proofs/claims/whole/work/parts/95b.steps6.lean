/-! PURE: steps: select, variables, globals -/
theorem L_sel {s : SB} (l : Live s) (h1 : 1 ≤ qn s) (hb : qb (ckSel s) = 0) : 3 ≤ qh s ∧ qK s (qh s - 1) = 1 ∧ qK s (qh s - 2) = qK s (qh s - 3) ∧ Live (ckSel s) ∧ ckSel s = (qh s - 3 + 1, fup (qK s) (qh s - 3) (qK s (qh s - 3)), qn s, qF s, qb s) := by
  have b1 : ∀ y x t, qb (ckSel1 y x t) = 0 → qb t = 0 := by
    intro y x t h
    unfold ckSel1 at h
    split at h
    · exact b_pt h
    · exact b_pt h
  by_cases c : (tkA (tkA (tk 1 s)).2).1 = 4 ∨ (tkA (tk 1 s)).1 = 4 ∨ (tkA (tkA (tk 1 s)).2).1 = (tkA (tk 1 s)).1
  · have e0 : ckSel s = ckSel1 (tkA (tk 1 s)).1 (tkA (tkA (tk 1 s)).2).1 (tkA (tkA (tk 1 s)).2).2 := if_pos c
    rw [e0] at hb ⊢
    have hb3 := b1 _ _ _ hb
    have hb2 := b_tkA _ hb3
    have hb1 := b_tkA _ hb2
    obtain ⟨x1, x2, x3⟩ := L_tk l h1 hb1
    have l1 := L_pop l
    rw [x3] at hb2 hb3 c hb ⊢
    obtain ⟨y1, y2, y3⟩ := L_tkA l1 h1 hb2
    have l2 := L_pop l1
    rw [y2] at hb3 c hb y3 ⊢
    obtain ⟨z1, z2, z3⟩ := L_tkA l2 h1 hb3
    rw [z2] at c hb z3 ⊢
    have x1 : fb (sTop s) < qh s := x1
    have y1 : fb (sTop s) < qh s - 1 := y1
    have z1 : fb (sTop s) < qh s - 1 - 1 := z1
    have y3 : qK s (qh s - 1 - 1) ≤ 3 := y3
    have z3 : qK s (qh s - 1 - 1 - 1) ≤ 3 := z3
    have c : qK s (qh s - 1 - 1 - 1) = 4 ∨ qK s (qh s - 1 - 1) = 4 ∨ qK s (qh s - 1 - 1 - 1) = qK s (qh s - 1 - 1) := c
    have e2 : qh s - 1 - 1 = qh s - 2 := by omega
    have e3 : qh s - 1 - 1 - 1 = qh s - 3 := by omega
    rw [e2] at y3
    rw [e3] at z3
    rw [e2] at z1
    rw [e3, e2] at c
    have l3 := L_pop l2
    have ec : ckSel1 (qK s (qh s - 1 - 1)) (qK s (qh s - 1 - 1 - 1)) (qh s - 1 - 1 - 1, qK s, qn s, qF s, qb s) = pt (qK s (qh s - 3)) (qh s - 3, qK s, qn s, qF s, qb s) := by
      unfold ckSel1
      rw [e3, if_neg (by omega)]
    have hb : qb (ckSel1 (qK s (qh s - 1 - 1)) (qK s (qh s - 1 - 1 - 1)) (qh s - 1 - 1 - 1, qK s, qn s, qF s, qb s)) = 0 := hb
    rw [ec] at hb
    have hp := L_pt hb
    have hl := L_put (k := qK s (qh s - 3)) (s := (qh s - 3, qK s, qn s, qF s, qb s)) (by rw [← e3]; exact l3) z3
    refine ⟨by omega, x2, by omega, ?_, ?_⟩
    · show Live (ckSel1 (qK s (qh s - 1 - 1)) (qK s (qh s - 1 - 1 - 1)) (qh s - 1 - 1 - 1, qK s, qn s, qF s, qb s))
      rw [ec, hp.2]; exact hl
    · show ckSel1 (qK s (qh s - 1 - 1)) (qK s (qh s - 1 - 1 - 1)) (qh s - 1 - 1 - 1, qK s, qn s, qF s, qb s) = _
      rw [ec, hp.2]; rfl
  · have e0 : ckSel s = ckSel1 (tkA (tk 1 s)).1 (tkA (tkA (tk 1 s)).2).1 (sBad (tkA (tkA (tk 1 s)).2).2) := if_neg c
    rw [e0] at hb
    exact absurd (b1 _ _ _ hb) e_bad
theorem cr_select {C : St} {j h b : Nat} {Q : Int32 → St → Prop} (hh : gI C 1102 (2 * j) = nI h) (h3 : 3 ≤ h) (hc : h ≤ cellsN (2 * j))
    (k1 : ¬ (gJ C 1100 (2 * j) (h - 1)).toInt32 = 0 → Q 0 (tT2 C (2 * j) h))
    (k0 : (gJ C 1100 (2 * j) (h - 1)).toInt32 = 0 → Q 0 (sI (sD (sJ (tT1 C (2 * j) h) 1100 (2 * j) (h - 3) (gJ C 1100 (2 * j) (h - 2))) 1101 (2 * j) (h - 3) (gD C 1101 (2 * j) (h - 2))) 1102 (2 * j) (nI (h - 2)))) : wp6_stepValues C j (nI 14) (nI b) Q := by
  have hcb := cellsN_b (2 * j)
  simp (decide := true) only [wp6_stepValues, wp1_height, true_implies, false_implies, true_and, and_true, not_true, not_false_iff]
  intro x _
  have e1 : h - 1 - 1 = h - 2 := by omega
  refine r_takeInt hh (by omega) hc ⟨fun z => ?_, fun z => ?_⟩
  · unfold wp6_select_12 wp1_height
    intro y ey
    rw [show gI (sI C 1102 (2 * j) (nI (h - 1))) 1102 (2 * j) = nI (h - 1) by simp [gI_sI], nI_dec (by omega), e1] at ey
    subst ey
    rw [nI_dec (by omega), show h - 2 - 1 = h - 3 by omega]
    refine ⟨fun w => absurd rfl w, fun _ => r_setFrom (by omega) (by omega) ?_⟩
    refine r_drop (h := h - 1) (by simp [gI_sI, gI_sJ, gI_sD]) (by omega) (by omega) ?_
    rw [e1]
    exact k0 z
  · unfold wp6_select_12 wp1_height
    intro y ey
    refine ⟨fun _ => r_drop (tT1_h C (2 * j) h) (by omega) (by omega) ?_, fun w => absurd w (by decide)⟩
    rw [e1]
    exact k1 z
theorem m_select {M : St} {H : Nat} {Q : St → Prop} (hh : gI M 1914 0 = nI H) (h3 : 3 ≤ H) (hH : H ≤ 200)
    (k1 : ¬ (gJ M 1922 0 (H - 1)).toInt32 = 0 → Q (sI (sI M 1914 0 (nI (H - 1))) 1914 0 (nI (H - 2))))
    (k0 : (gJ M 1922 0 (H - 1)).toInt32 = 0 → Q (sD (sJ (sI (sI M 1914 0 (nI (H - 1))) 1914 0 (nI (H - 2))) 1922 0 (H - 3) (gJ M 1922 0 (H - 2))) 1923 0 (H - 3) (gD M 1923 0 (H - 2)))) : wp9_select M Q := by
  unfold wp9_select
  refine m_popInt hh (by omega) (by omega) fun S2 e2 => ?_
  rw [show gI (sI M 1914 0 (nI (H - 1))) 1914 0 = nI (H - 1) by simp [gI_sI], nI_dec (by omega), show H - 1 - 1 = H - 2 by omega] at e2
  subst e2
  rw [show gI (sI (sI M 1914 0 (nI (H - 1))) 1914 0 (nI (H - 2))) 1914 0 = nI (H - 2) by simp [gI_sI], nI_dec (by omega), nI_clamp (by omega), nI_clamp (by omega), show H - 2 - 1 = H - 3 by omega]
  refine ⟨fun z => ⟨vp_in_nI (by omega) (by omega), vp_in_nI (by omega) (by omega), fun S3 e3 => ?_⟩, k1⟩
  subst e3
  rw [show gI (sJ (sI (sI M 1914 0 (nI (H - 1))) 1914 0 (nI (H - 2))) 1922 0 (H - 3) (gJ (sI (sI M 1914 0 (nI (H - 1))) 1914 0 (nI (H - 2))) 1922 0 (H - 2))) 1914 0 = nI (H - 2) by simp [gI_sI, gI_sJ], nI_dec (by omega), nI_clamp (by omega), nI_clamp (by omega), show H - 2 - 1 = H - 3 by omega]
  refine ⟨vp_in_nI (by omega) (by omega), vp_in_nI (by omega) (by omega), fun S4 e4 => ?_⟩
  subst e4
  exact k0 z
theorem st_select {P : Prog} {c : Ct} {C M : St} {j f p op n B m : Nat} {s : SB} {Q : Int32 → St → St → Prop} (A : At P c C M j f p op n B m s) (ho : op = 14) (kk : ∀ r C' M', Res P C M r C' M' → Q r C' M') : wp6_step C (fun r C' => wp9_step M (fun M' => Q r C' M')) := by
  obtain ⟨j5, hf, hop, h16, hcell, B80, l, hq, hb, -⟩ := A.facts
  obtain ⟨bC, bM, hg, i34, c2, m14, v1⟩ := A.f2
  have e : ckOne P f p s = ckSel s := by
    unfold ckOne
    rw [A.op, if_neg (by omega), if_neg (by omega), if_neg (by omega), if_neg (by omega), if_neg (by omega), if_neg (by omega), if_neg (by omega), if_pos ho]
  rw [e] at hb
  obtain ⟨g3, k1, k2, lt, et⟩ := L_sel l hq hb
  have et' : ckOne P f p s = (qh s - 3 + 1, fup (qK s) (qh s - 3) (qK s (qh s - 3)), qn s, qF s, qb s) := e.trans et
  have w1 := v1 (qh s - 1) (by omega)
  have w2 := v1 (qh s - 2) (by omega)
  have w3 := v1 (qh s - 3) (by omega)
  rw [k1] at w1
  rw [k2] at w2
  obtain ⟨a1, a2⟩ := VR1 w1
  have eH1 : B + qh s - 1 = B + (qh s - 1) := by omega
  have eH2 : B + qh s - 2 = B + (qh s - 2) := by omega
  have eH3 : B + qh s - 3 = B + (qh s - 3) := by omega
  have qht : qh (ckOne P f p s) = qh s - 2 := by rw [et']; show qh s - 3 + 1 = _; omega
  have h101 : ∀ C', _ → wp9_step M (fun M' => Q 0 C' M') := fun C' => A.h101 (Q := fun M' => Q 0 C' M') (by omega)
  refine A.cl (disp_val (by omega) (by omega) ?_)
  subst ho
  refine cr_select c2 g3 (by omega) (fun z => h101 _ fun b _ => ?_) (fun z => h101 _ fun b _ => ?_)
  · simp (decide := true) only [wp9_step_101, true_implies, false_implies, true_and, and_true, not_true, not_false_iff]
    refine m_select m14 (by omega) (by omega) (fun _ S4 e4 => ?_) (fun y => absurd ?_ z)
    · subst e4
      rw [eH2]
      refine kk _ _ _ (A.none (by rw [e]; exact lt) (by rw [et']; exact ⟨rfl, rfl⟩) (fun i hi => ?_) ((bC.h _).h _) ((bM.s (Or.inl rfl) _).s (Or.inl rfl) _) hg ?_ ?_ ?_)
      · rw [qht] at hi
        refine ⟨by omega, ?_⟩
        rw [et']
        show (if i = qh s - 3 then qK s (qh s - 3) else qK s i) = qK s i
        split
        · rename_i w; rw [w]
        · rfl
      · rw [qht]; simp [gI_sI]
      · rw [gI_sI, if_neg (fun z => absurd z.1 (by decide)), gI_sI, if_neg (fun z => absurd z.1 (by decide))]; exact i34
      · rw [qht]; exact tT2_h _ _ _
    · rw [eH1, ← a1] at y; exact y
  · simp (decide := true) only [wp9_step_101, true_implies, false_implies, true_and, and_true, not_true, not_false_iff]
    refine m_select m14 (by omega) (by omega) (fun y => absurd ?_ y) (fun _ S4 e4 => ?_)
    · rw [eH1, ← a1]; exact z
    · subst e4
      rw [eH2, eH3]
      have aC : Ag kX C (sI (sD (sJ (tT1 (cC j n C) (2 * j) (qh s)) 1100 (2 * j) (qh s - 3) (gJ (cC j n C) 1100 (2 * j) (qh s - 2))) 1101 (2 * j) (qh s - 3) (gD (cC j n C) 1101 (2 * j) (qh s - 2))) 1102 (2 * j) (nI (qh s - 2))) := (((bC.h _).1.sJ (by unfold kX; omega)).sD (by unfold kX; omega)).sI (by unfold kX; omega)
      have bM2 := ((bM.s (k := 1914) (Or.inl rfl) (nI (B + qh s - 1))).s (k := 1914) (Or.inl rfl) (nI (B + (qh s - 2))))
      have aM : Ag kY M (sI (sD (sJ (sI (sI (mB M) 1914 0 (nI (B + qh s - 1))) 1914 0 (nI (B + (qh s - 2)))) 1922 0 (B + (qh s - 3)) (gJ (mB M) 1922 0 (B + (qh s - 2)))) 1923 0 (B + (qh s - 3)) (gD (mB M) 1923 0 (B + (qh s - 2)))) 1931 0 (nI n)) := ((bM2.1.sJ (by unfold kY; omega)).sD (by unfold kY; omega)).sI (by unfold kY; omega)
      refine kk _ _ _ (A.gen (by rw [e]; exact lt) (by rw [et']; exact ⟨rfl, rfl⟩) aC aM ?_ ?_ (fun i => ?_) (fun o => ?_) ?_ ?_ (fun o ho i => ⟨?_, ?_⟩) (fun i hi => ⟨?_, ?_⟩) (fun i hi => ⟨?_, ?_⟩) (fun i hi => ?_) (fun v hv => ?_) ?_)
      · simp [gI_sI, gI_sJ, gI_sD]; exact bM.2.1
      · simp [gI_sI, gI_sJ, gI_sD]; exact i34
      · simp [gI_sI, gI_sJ, gI_sD, tT1]
      · rw [qht]; simp [gI_sI, gI_sJ, gI_sD, tT1]
        split <;> rfl
      · simp [gI_sI]
      · rw [qht]; simp [gI_sI, gI_sJ, gI_sD]
      · simp [gJ_sI, gJ_sJ, gJ_sD, tT1]; intro z; omega
      · simp [gD_sI, gD_sJ, gD_sD, tT1]; intro z; omega
      · simp [gJ_sI, gJ_sJ, gJ_sD, mB]; intro z; omega
      · simp [gD_sI, gD_sJ, gD_sD, mB]; intro z; omega
      · simp [gJ_sI, gJ_sJ, gJ_sD, mB]
      · simp [gD_sI, gD_sJ, gD_sD, mB]
      · rw [qht] at hi
        have ek : qK (ckOne P f p s) i = qK s i := by
          rw [et']
          show (if i = qh s - 3 then qK s (qh s - 3) else qK s i) = qK s i
          split
          · rename_i w; rw [w]
          · rfl
        rw [ek]
        by_cases y : i = qh s - 3
        · subst y
          simpa [gJ_sI, gJ_sJ, gJ_sD, gD_sI, gD_sJ, gD_sD, tT1] using w2
        · have := v1 i (by omega)
          simpa [gJ_sI, gJ_sJ, gJ_sD, gD_sI, gD_sJ, gD_sD, tT1, y, show ¬ B + i = B + (qh s - 3) by omega] using this
      · have := A.vars v hv
        simpa [gJ_sI, gJ_sJ, gJ_sD, gD_sI, gD_sJ, gD_sD, tT1, mB, show ¬ 2 * j + 1 = 2 * j by omega] using this
      · refine hg.of (fun i => ?_) (fun i => ?_) (fun _ => rfl) (fun _ => ?_) rfl (fun _ => rfl)
        · simp [gJ_sI, gJ_sJ, gJ_sD, tT1]; intro z; omega
        · simp [gD_sI, gD_sJ, gD_sD, tT1]; intro z; omega
        · simp [gJ_sI, gJ_sJ, gJ_sD]
