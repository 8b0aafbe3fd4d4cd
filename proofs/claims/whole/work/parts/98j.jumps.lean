/-! PURE: steps: END of the outermost, JUMP, JUMP_IF, JUMP_ONE_OF, LEAVE -/
theorem At.md0 {P : Prog} {c : Ct} {C M : St} {j f p op n B m : Nat} {s : SB} (A : At P c C M j f p op n B m s) : Md C M (cC j n C) (mB M) j (qh s) B := by
  obtain ⟨bC, bM, hg, i34, c2, m14, v1⟩ := A.f2
  exact ⟨aXF C j n, aYF M, bM.2.1, i34, c2, fun o ho => bC.2.2.2.1 o ho, fun i hi => ⟨bC.2.2.1 i hi, by simp [gI_sI]⟩, fun _ _ => ⟨rfl, rfl⟩, fun _ _ => ⟨rfl, rfl⟩, m14, fun _ => ⟨rfl, rfl, rfl, rfl⟩, fun _ => ⟨rfl, rfl⟩⟩
theorem At.md1 {P : Prog} {c : Ct} {C M : St} {j f p op n B m : Nat} {s : SB} (A : At P c C M j f p op n B m s) : Md C M (tT1 (cC j n C) (2 * j) (qh s)) (sI (mB M) 1914 0 (nI (B + (qh s - 1)))) j (qh s - 1) B := by
  obtain ⟨bC, bM, hg, i34, c2, m14, v1⟩ := A.f2
  have bC1 : CB j C n (tT1 (cC j n C) (2 * j) (qh s)) := bC.h _
  refine ⟨(aXF C j n).sI (by unfold kXF; omega), (aYF M).sI (by unfold kYF; omega), (bM.s (k := 1914) (Or.inl rfl) _).2.1, ?_, tT1_h _ _ _, fun o ho => bC1.2.2.2.1 o ho, fun i hi => ⟨bC1.2.2.1 i hi, by simp [tT1, gI_sI]⟩, fun _ _ => ⟨rfl, rfl⟩, fun _ _ => ⟨rfl, rfl⟩, by simp [gI_sI], fun _ => ⟨rfl, rfl, rfl, rfl⟩, fun _ => ⟨rfl, rfl⟩⟩
  rw [gI_sI, if_neg (fun z => absurd z.1 (by decide))]; exact i34
theorem base_le {P : Prog} {f m p : Nat} {s : SB} (h : Here P f m p s) (hq : 1 ≤ qn s) : fb (sTop s) ≤ qh s := h.2.1.1.2.2.2.2.2.2 (qn s - 1) (by omega)
theorem b_dieIf {s : SB} (h : qb (dieIf s) = 0) : qb s = 0 := by
  unfold dieIf at h
  split at h
  · assumption
  · exact h
theorem ck_jump {P : Prog} {f p op : Nat} {s : SB} (e : pC P f p = op) (ho : 7 ≤ op) (ho2 : op ≤ 10) : ckOne P f p s = ckJump P f p op s := by
  unfold ckOne
  rw [e, if_neg (by omega), if_neg (by omega), if_neg (by omega), if_neg (by omega), if_pos (by omega)]
theorem disp_jmp {j p op b : Nat} {Q : Int32 → St → Prop} {C : St} (ho : 7 ≤ op) (ho2 : op ≤ 10) (kk : wp6_stepJumps C j (nI p) (nI op) (nI b) (fun r7 S8 => Q r7 S8)) : disp6 j p op b Q C :=
  ⟨fun _ => ⟨fun z => absurd ((nI_ltI (a := 10) (by omega) (by omega)).mp z) (by omega), fun _ => kk⟩, fun z => absurd ((nI_ltI (a := 6) (by omega) (by omega)).mpr (by omega)) z⟩
theorem st_leave {P : Prog} {c : Ct} {C M : St} {j f p op n B m : Nat} {s : SB} {Q : Int32 → St → St → Prop} (A : At P c C M j f p op n B m s) (ho : op = 10) (kk : ∀ r C' M', Res P C M r C' M' → Q r C' M') : wp6_step C (fun r C' => wp9_step M (fun M' => Q r C' M')) := by
  obtain ⟨j5, hf, hop, h16, hcell, B80, l, hq, hb, hpl, hnl, hl60⟩ := A.facts
  obtain ⟨F, eF, hF40, hq8, f1, f2, f3, f4, g1, g2, g3, g4, g5, g6, hw, hPC, hPM, hN, hck, hhere, -⟩ := A.frames
  have e := ck_jump (s := s) A.op (by omega) (by omega)
  have hb' : qb (tkIf (fk (qF s 0)) s) = 0 := by
    rw [e] at hb
    unfold ckJump at hb
    rw [if_pos ho] at hb
    exact b_dieIf hb
  have hk := L_tkIf l hq hb'
  rw [hhere.2.2.2.1.1] at hk
  have mv := fun (R : St → Prop) => A.mv (Q := R) (by omega) (by omega)
  refine A.cl (disp_jmp (by omega) (by omega) ?_)
  have md := A.md0
  subst ho
  simp (decide := true) only [wp6_stepJumps, true_implies, false_implies, true_and, and_true, not_true, not_false_iff]
  refine A.leave eF md h16 (fun z => ?_) (fun R hl => mv R fun b hb => ?_) kk
  · rcases hk with ⟨y, -⟩ | ⟨y1, y2, y3, -⟩
    · exact absurd y z
    · exact ⟨by omega, Nat.le_refl _, y3⟩
  · simp (decide := true) only [wp9_moves, true_implies, false_implies, true_and, and_true, not_true, not_false_iff]
    exact hl
theorem st_end0 {P : Prog} {c : Ct} {C M : St} {j f p op n B m : Nat} {s : SB} {Q : Int32 → St → St → Prop} (A : At P c C M j f p op n B m s) (ho : op = 6) (h2 : qn s = 1) (kk : ∀ r C' M', Res P C M r C' M' → Q r C' M') : wp6_step C (fun r C' => wp9_step M (fun M' => Q r C' M')) := by
  obtain ⟨j5, hf, hop, h16, hcell, B80, l, hq, hb, hpl, hnl, hl60⟩ := A.facts
  obtain ⟨F, eF, hF40, hq8, f1, f2, f3, f4, g1, g2, g3, g4, g5, g6, hw, hPC, hPM, hN, hck, hhere, -⟩ := A.frames
  have eop := A.op
  have st : sTop s = qF s 0 := by unfold sTop; rw [h2]
  obtain ⟨x1, x2⟩ := L_close l hq (Or.inr (by rw [eop, ho])) hb
  rw [st, hhere.2.2.2.1.1, hhere.2.2.2.1.2.1] at x1 x2
  have mv := fun (R : St → Prop) => A.mv (Q := R) (by omega) (by omega)
  refine A.cl (disp_fr (by omega) ?_)
  obtain ⟨d1, d2, d3, d4, d5, d6, d7, d8, d9, d10, d11, d12⟩ := A.md0
  subst ho
  simp (decide := true) only [wp6_stepFrames, true_implies, false_implies, true_and, and_true, not_true, not_false_iff]
  unfold wp0_endFrame
  intro S1 e1
  rw [show gI (cC j n C) 1006 j = nI (qn s) by simp [gI_sI]; exact f3, nI_dec hq, h2] at e1
  have e1 : S1 = sI (cC j n C) 1006 j (nI 0) := e1
  subst e1
  rw [show gI (sI (cC j n C) 1006 j (nI 0)) 1006 j = nI 0 by simp [gI_sI]]
  refine ⟨fun z => absurd z (by decide), fun _ => ?_⟩
  have md : Md C M (sI (cC j n C) 1006 j (nI 0)) (mB M) j (qh s) B := by
    refine ⟨d1.sI (by unfold kXF; omega), d2, d3, d4, ?_, fun o ho => ?_, fun i hi => ⟨?_, ?_⟩, d8, d9, d10, d11, d12⟩
    · rw [gI_sI, if_neg (fun z => absurd z.1 (by decide))]; exact d5
    · rw [gI_sI, if_neg (fun z => absurd z.1 (by decide))]; exact d6 o ho
    · rw [gI_sI, if_neg (fun z => absurd z.1 (by decide))]; exact (d7 i hi).1
    · rw [gI_sI, if_neg (fun z => hi z.2)]; exact (d7 i hi).2
  refine A.leave eF md h16 (fun z => ?_) (fun R hl => mv R fun b hb => ?_) kk
  · rw [if_neg z] at x1
    have x2 := x2 z
    have e0 : qh s - 1 = 0 := by omega
    rw [e0]
    exact ⟨by omega, Nat.le_refl _, x2⟩
  · simp (decide := true) only [wp9_moves, true_implies, false_implies, true_and, and_true, not_true, not_false_iff]
    rw [show gI (mB M) 1930 0 = nI (j + 1) by simp [mB, gI_sI]; exact g1, nI_dec (by omega), Nat.add_sub_cancel, nI_clamp (by omega), show gI (mB M) 1920 0 = nI (F + qn s) by simp [mB, gI_sI]; exact g3, nI_dec (by omega), h2, Nat.add_sub_cancel, show gA (mB M) 1929 0 j = nI F from g5]
    exact ⟨vp_in_nI (by omega) (by omega), fun z => absurd rfl z, fun _ => hl⟩
theorem L_lbl {d : Nat} {s : SB} (h : qb (lbl d s).2 = 0) : d < qn s ∧ lbl d s = ((if fo (qF s (qn s - 1 - d)) = 3 then 0 else fk (qF s (qn s - 1 - d))), s) := by
  have := (b_lbl h).2
  exact ⟨this, if_pos this⟩
theorem st_jump {P : Prog} {c : Ct} {C M : St} {j f p op n B m : Nat} {s : SB} {Q : Int32 → St → St → Prop} (A : At P c C M j f p op n B m s) (ho : op = 7) (kk : ∀ r C' M', Res P C M r C' M' → Q r C' M') : wp6_step C (fun r C' => wp9_step M (fun M' => Q r C' M')) := by
  obtain ⟨j5, hf, hop, h16, hcell, B80, l, hq, hb, hpl, hnl, hl60⟩ := A.facts
  obtain ⟨F, eF, hF40, hq8, f1, f2, f3, f4, g1, g2, g3, g4, g5, g6, hw, hPC, hPM, hN, hck, hhere, -⟩ := A.frames
  obtain ⟨hn, hp1, ebt, hb256⟩ := whole2 A (by omega)
  have e := ck_jump (s := s) A.op (by omega) (by omega)
  have hb1 : qb (tkIf (lbl (pC P f (p + 1)) s).1 (lbl (pC P f (p + 1)) s).2) = 0 := by
    rw [e] at hb
    unfold ckJump at hb
    rw [if_neg (by omega), if_neg (by omega), if_neg (by omega)] at hb
    exact b_dieIf hb
  obtain ⟨hd, el⟩ := L_lbl (b_tkIf _ _ hb1)
  rw [el] at hb1
  have hk := L_tkIf l hq hb1
  have mv := fun (R : St → Prop) => A.mv (Q := R) (by omega) (by omega)
  refine A.cl (disp_jmp (by omega) (by omega) ?_)
  rw [ebt]
  have md := A.md0
  subst ho
  simp (decide := true) only [wp6_stepJumps, true_implies, false_implies, true_and, and_true, not_true, not_false_iff]
  refine A.jump eF md (by simp [gI_sI]; exact f3) (by simp [mB, gI_sI]; exact g3) (Nat.le_refl _) (base_le hhere hq) hd (fun k ek z => ?_) (fun R hl => mv R fun b hb => ?_) kk
  · rcases hk with ⟨y, -⟩ | ⟨y1, y2, y3, -⟩
    · exact absurd (ek.trans y) z
    · exact ⟨y2, y3.trans ek.symm⟩
  · simp (decide := true) only [wp9_moves, true_implies, false_implies, true_and, and_true, not_true, not_false_iff]
    rw [hb hp1]
    exact hl
theorem st_jumpif {P : Prog} {c : Ct} {C M : St} {j f p op n B m : Nat} {s : SB} {Q : Int32 → St → St → Prop} (A : At P c C M j f p op n B m s) (ho : op = 8) (kk : ∀ r C' M', Res P C M r C' M' → Q r C' M') : wp6_step C (fun r C' => wp9_step M (fun M' => Q r C' M')) := by
  obtain ⟨j5, hf, hop, h16, hcell, B80, l, hq, hb, hpl, hnl, hl60⟩ := A.facts
  obtain ⟨bC, bM, hg, i34, c2, m14, v1⟩ := A.f2
  obtain ⟨F, eF, hF40, hq8, f1, f2, f3, f4, g1, g2, g3, g4, g5, g6, hw, hPC, hPM, hN, hck, hhere, -⟩ := A.frames
  obtain ⟨hn, hp1, ebt, hb256⟩ := whole2 A (by omega)
  have e := ck_jump (s := s) A.op (by omega) (by omega)
  have e8 : ckOne P f p s = ptIf (lbl (pC P f (p + 1)) (tk 1 s)).1 (tkIf (lbl (pC P f (p + 1)) (tk 1 s)).1 (lbl (pC P f (p + 1)) (tk 1 s)).2) := by
    rw [e]; unfold ckJump
    rw [if_neg (by omega), if_neg (by omega), if_pos ho]
  rw [e8] at hb
  have hb1 := b_ptIf hb
  have hb2 := b_tkIf _ _ hb1
  obtain ⟨hd, el⟩ := L_lbl hb2
  rw [el] at hb2
  obtain ⟨t1, t2, t3⟩ := L_tk l hq hb2
  rw [el, t3] at e8 hb1 hb
  rw [t3] at hd
  have hd : pC P f (p + 1) < qn s := hd
  have l1 := L_pop l
  have hk := L_tkIf l1 hq hb1
  have qht : qh (ckOne P f p s) = qh s - 1 ∧ (∀ i, i < qh s - 1 → qK (ckOne P f p s) i = qK s i) ∧ Live (ckOne P f p s) ∧ qn (ckOne P f p s) = qn s ∧ qF (ckOne P f p s) = qF s := by
    rcases hk with ⟨y, e9⟩ | ⟨y, y2, y3, e9⟩
    · rw [e9] at e8
      rw [y] at e8
      have e8 : ckOne P f p s = (qh s - 1, qK s, qn s, qF s, qb s) := e8
      rw [e8]
      exact ⟨rfl, fun _ _ => rfl, l1, rfl, rfl⟩
    · rw [e9] at e8 hb
      have y2 : fb (sTop s) < qh s - 1 := y2
      rcases L_ptIf hb with ⟨w, -⟩ | ⟨w, w1, e10⟩
      · exact absurd w y
      · rw [e10] at e8
        have k3 : (if fo (qF s (qn s - 1 - pC P f (p + 1))) = 3 then 0 else fk (qF s (qn s - 1 - pC P f (p + 1)))) ≤ 3 := by
          have := l.2 (qh s - 1 - 1) (by omega)
          have y3 : qK s (qh s - 1 - 1) = (if fo (qF s (qn s - 1 - pC P f (p + 1))) = 3 then 0 else fk (qF s (qn s - 1 - pC P f (p + 1)))) := y3
          omega
        have e8 : ckOne P f p s = (qh s - 1 - 1 + 1, fup (qK s) (qh s - 1 - 1) (if fo (qF s (qn s - 1 - pC P f (p + 1))) = 3 then 0 else fk (qF s (qn s - 1 - pC P f (p + 1)))), qn s, qF s, qb s) := e8
        have lv := L_put (s := (qh s - 1 - 1, qK s, qn s, qF s, qb s)) (L_pop l1) k3
        rw [e8]
        refine ⟨by show qh s - 1 - 1 + 1 = _; omega, fun i hi => ?_, lv, rfl, rfl⟩
        show (if i = qh s - 1 - 1 then _ else qK s i) = _
        split
        · rename_i w2; rw [w2]; exact y3.symm
        · rfl
  have hk' : ∀ k, k = (if fo (qF s (qn s - 1 - pC P f (p + 1))) = 3 then 0 else fk (qF s (qn s - 1 - pC P f (p + 1)))) → ¬ k = 0 → fb (sTop s) < qh s - 1 ∧ qK s (qh s - 1 - 1) = k := by
    intro k ek z
    rcases hk with ⟨y, -⟩ | ⟨y1, y2, y3, -⟩
    · exact absurd (ek.trans y) z
    · exact ⟨y2, y3.trans ek.symm⟩
  have w1 := v1 (qh s - 1) (by omega)
  rw [t2] at w1
  obtain ⟨a1, a2⟩ := VR1 w1
  have eH1 : B + qh s - 1 = B + (qh s - 1) := by omega
  have mv := fun (R : St → Prop) => A.mv (Q := R) (by omega) (by omega)
  refine A.cl (disp_jmp (by omega) (by omega) ?_)
  rw [ebt]
  have md := A.md1
  have non := A.none (C0 := tT1 (cC j n C) (2 * j) (qh s)) (M0 := sI (mB M) 1914 0 (nI (B + (qh s - 1)))) qht.2.2.1 qht.2.2.2 (fun i hi => ⟨by rw [qht.1] at hi; omega, qht.2.1 i (by rw [qht.1] at hi; exact hi)⟩) (bC.h _) (bM.s (Or.inl rfl) _) hg (by rw [qht.1]; simp [gI_sI]) (by rw [gI_sI, if_neg (fun z => absurd z.1 (by decide))]; exact i34) (by rw [qht.1]; exact tT1_h _ _ _)
  subst ho
  simp (decide := true) only [wp6_stepJumps, true_implies, false_implies, true_and, and_true, not_true, not_false_iff]
  refine r_takeInt c2 (by omega) (by omega) ⟨fun z => ?_, fun z => ?_⟩
  · refine mv _ fun b hb => ?_
    simp (decide := true) only [wp9_moves, true_implies, false_implies, true_and, and_true, not_true, not_false_iff]
    refine m_popInt m14 (by omega) (by omega) ⟨fun _ S5 e5 => ?_, fun y => absurd ?_ y⟩
    · rw [show gI (sI (mB M) 1914 0 (nI (B + qh s - 1))) 1931 0 = nI p by simp [mB, gI_sI]; exact g2, l2, nI_add, eH1, ← hn] at e5
      subst e5
      exact kk _ _ _ non
    · rw [eH1, ← a1]; exact z
  · have fbl : fb (sTop s) ≤ qh s - 1 := by omega
    refine A.jump eF md (by simp [tT1, gI_sI]; exact f3) (by simp [mB, gI_sI]; exact g3) (by omega) fbl hd hk' (fun R hl => mv R fun b hb => ?_) kk
    simp (decide := true) only [wp9_moves, true_implies, false_implies, true_and, and_true, not_true, not_false_iff]
    refine m_popInt m14 (by omega) (by omega) ⟨fun y => absurd ?_ z, fun _ => ?_⟩
    · rw [eH1, ← a1] at y; exact y
    · rw [hb hp1, eH1]
      exact hl
