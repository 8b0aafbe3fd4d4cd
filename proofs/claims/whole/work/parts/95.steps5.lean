/-! PURE: steps of what moves values: nothing, TRAP, drop, select, variables, globals -/
theorem At.gen {P : Prog} {c : Ct} {C M C' M' : St} {j f p op n B m : Nat} {s : SB} (A : At P c C M j f p op n B m s) (hl : Live (ckOne P f p s)) (ef : qn (ckOne P f p s) = qn s ∧ qF (ckOne P f p s) = qF s) (aC : Ag kX C C') (aM : Ag kY M M') (i33 : gI M' 1933 0 = gI M 1933 0 + 1) (i34 : gI M' 1934 0 = 0)
    (c5 : ∀ i, gI C' 1005 i = if i = j then nI n else gI C 1005 i) (c2 : ∀ o, gI C' 1102 o = if o = 2 * j then nI (qh (ckOne P f p s)) else gI C 1102 o) (m5 : gI M' 1931 0 = nI n) (m4 : gI M' 1914 0 = nI (B + qh (ckOne P f p s)))
    (eC : ∀ o, o < 2 * j → ∀ i, gJ C' 1100 o i = gJ C 1100 o i ∧ gD C' 1101 o i = gD C 1101 o i) (eM : ∀ i, i < B → gJ M' 1922 0 i = gJ M 1922 0 i ∧ gD M' 1923 0 i = gD M 1923 0 i) (eV : ∀ i, i < 6 * j → gJ M' 1925 0 i = gJ M 1925 0 i ∧ gD M' 1926 0 i = gD M 1926 0 i)
    (h1 : ∀ i, i < qh (ckOne P f p s) → VR (qK (ckOne P f p s) i) (gJ C' 1100 (2 * j) i) (gD C' 1101 (2 * j) i) (gJ M' 1922 0 (B + i)) (gD M' 1923 0 (B + i))) (h2 : ∀ v, v < pV P f → VR (pK P f v) (gJ C' 1100 (2 * j + 1) v) (gD C' 1101 (2 * j + 1) v) (gJ M' 1925 0 (6 * j + v)) (gD M' 1926 0 (6 * j + v))) (hg : XG C' M') : Res P C M 0 C' M' := by
  obtain ⟨h, rfl, rfl, rfl, rfl, rfl, rfl, rfl, ok, hh⟩ := A
  have w0 := h.2.2.2.1
  have w1 := w0.1
  have hv := h.2.2.2.2.2.2.1
  refine res_gen h aC aM i33 i34 ef hh hl ⟨by rw [c5, if_pos rfl], fun j hj => by rw [c5, if_neg (by omega)]⟩ ⟨by rw [c2, if_pos rfl], fun j hj => by rw [c2, if_neg (by omega)]⟩ m5 m4 ?_ hg
  exact XV_top h.1 w0 hv (fun j hj i => ⟨(eC _ (by omega) i).1, (eC _ (by omega) i).2, (eC _ (by omega) i).1, (eC _ (by omega) i).2⟩) eM eV h1 h2
theorem At.vars {P : Prog} {c : Ct} {C M : St} {j f p op n B m : Nat} {s : SB} (A : At P c C M j f p op n B m s) : ∀ v, v < pV P f → VR (pK P f v) (gJ C 1100 (2 * j + 1) v) (gD C 1101 (2 * j + 1) v) (gJ M 1925 0 (6 * j + v)) (gD M 1926 0 (6 * j + v)) := by
  obtain ⟨h, rfl, rfl, rfl, rfl, rfl, rfl, rfl, ok, hh⟩ := A
  have w1 := h.2.2.2.1.1
  exact (h.2.2.2.2.2.2.1 (xd c - 1) (by omega)).2
theorem At.wv {P : Prog} {c : Ct} {C M : St} {j f p op n B m : Nat} {s : SB} (A : At P c C M j f p op n B m s) : pV P f ≤ 6 ∧ (∀ v, v < pV P f → 1 ≤ pK P f v ∧ pK P f v ≤ 3) ∧ cellsN (2 * j + 1) = 6 ∧ gI M 1930 0 = nI (j + 1) := by
  have hf := A.facts.2.1
  have j5 := A.facts.1
  obtain ⟨h, rfl, rfl, rfl, rfl, rfl, rfl, rfl, ok, hh⟩ := A
  have w1 := h.2.2.2.1.1
  refine ⟨(h.1 _ hf).2.2.1, (h.1 _ hf).2.2.2.2.2.1, ?_, ?_⟩
  · unfold cellsN
    rw [if_pos (by omega), if_neg (by omega)]
  · rw [h.2.2.2.2.2.1.1, Nat.sub_add_cancel w1]
theorem At.h101 {P : Prog} {c : Ct} {C M : St} {j f p op n B m : Nat} {s : SB} {Q : St → Prop} (A : At P c C M j f p op n B m s) (ho : op < 2 ∨ 12 < op) (kk : ∀ b, (p + 1 < pL P f → b = nI (pC P f (p + 1))) → wp9_step_101 Q (nI op) b (nI n) (mB M)) : wp9_step M Q := by
  have g := A.facts.2.2.1
  obtain ⟨h, rfl, rfl, rfl, rfl, rfl, rfl, rfl, ok, hh⟩ := A
  refine m_head h ok fun b hb M2 e2 => ?_
  have e2 : M2 = mB M := e2
  subst e2
  refine ⟨fun _ => kk b hb, fun n1 => ⟨fun _ => kk b hb, fun n2 => ?_⟩⟩
  have n1 := fun z => n1 ((nI_ltI (b := 2) (by omega) (by omega)).mpr z)
  have n2 := fun z => n2 ((nI_ltI (a := 12) (by omega) (by omega)).mpr z)
  exact absurd ho (fun z => z.elim n1 n2)
theorem At.mv {P : Prog} {c : Ct} {C M : St} {j f p op n B m : Nat} {s : SB} {Q : St → Prop} (A : At P c C M j f p op n B m s) (ho : 2 ≤ op) (ho2 : op ≤ 12) (kk : ∀ b, (p + 1 < pL P f → b = nI (pC P f (p + 1))) → wp9_moves (mB M) (nI f) (nI op) b (fun S4 => Q S4)) : wp9_step M Q := by
  obtain ⟨h, rfl, rfl, rfl, rfl, rfl, rfl, rfl, ok, hh⟩ := A
  refine m_head h ok fun b hb M2 e2 => ?_
  have e2 : M2 = mB M := e2
  subst e2
  exact ⟨fun n1 => absurd ((nI_ltI (b := 2) (by omega) (by omega)).mp n1) (by omega), fun _ => ⟨fun n2 => absurd ((nI_ltI (a := 12) (by omega) (by omega)).mp n2) (by omega), fun _ => kk b hb⟩⟩
theorem disp_fr {j p op b : Nat} {Q : Int32 → St → Prop} {C : St} (ho : op ≤ 6) (kk : wp6_stepFrames C j (nI p) (nI op) (fun r8 S9 => Q r8 S9)) : disp6 j p op b Q C :=
  ⟨fun z => absurd ((nI_ltI (a := 6) (by omega) (by omega)).mp z) (by omega), fun _ => kk⟩
theorem st_trap {P : Prog} {c : Ct} {C M : St} {j f p op n B m : Nat} {s : SB} {Q : Int32 → St → St → Prop} (A : At P c C M j f p op n B m s) (ho : op = 0) (kk : ∀ r C' M', Res P C M r C' M' → Q r C' M') : wp6_step C (fun r C' => wp9_step M (fun M' => Q r C' M')) := by
  obtain ⟨bC, bM, hg, i34, c2, m14, v1⟩ := A.f2
  refine A.cl (disp_fr (by omega) ?_)
  have h101 := A.h101 (Q := fun M' => Q 1 (cC j n C) M') (by omega)
  subst ho
  simp (decide := true) only [wp6_stepFrames, true_implies, false_implies, true_and, and_true, not_true, not_false_iff]
  refine h101 fun b hb => ?_
  simp (decide := true) only [wp9_step_101, true_implies, false_implies, true_and, and_true, not_true, not_false_iff]
  intro S7 e7 S8 e8
  subst e7; subst e8
  refine kk _ _ _ (res_trap (t := 1) bC ((bM.s (Or.inr (Or.inr rfl)) 1).s (Or.inr (Or.inl rfl)) _) hg (by decide) (by decide) ?_)
  simp [gI_sI]; rfl
theorem st_nothing {P : Prog} {c : Ct} {C M : St} {j f p op n B m : Nat} {s : SB} {Q : Int32 → St → St → Prop} (A : At P c C M j f p op n B m s) (ho : op = 1) (kk : ∀ r C' M', Res P C M r C' M' → Q r C' M') : wp6_step C (fun r C' => wp9_step M (fun M' => Q r C' M')) := by
  obtain ⟨j5, hf, hop, h16, hcell, B80, l, hq, hb, -⟩ := A.facts
  obtain ⟨bC, bM, hg, i34, c2, m14, v1⟩ := A.f2
  have e : ckOne P f p s = s := by unfold ckOne; rw [A.op, if_neg (by omega), if_pos ho]
  have h101 := A.h101 (Q := fun M' => Q 0 (cC j n C) M') (by omega)
  have none := A.none (C0 := cC j n C) (M0 := mB M) (by rw [e]; exact l) (by rw [e]; exact ⟨rfl, rfl⟩) (fun i hi => by rw [e] at hi ⊢; exact ⟨hi, rfl⟩) bC bM hg (by rw [e]; exact m14) i34 (by rw [e]; exact c2)
  refine A.cl (disp_fr (by omega) ?_)
  subst ho
  simp (decide := true) only [wp6_stepFrames, true_implies, false_implies, true_and, and_true, not_true, not_false_iff]
  refine h101 fun b hb => ?_
  simp (decide := true) only [wp9_step_101, wp9_step_166, true_implies, false_implies, true_and, and_true, not_true, not_false_iff]
  intro S7 e7
  subst e7
  exact kk _ _ _ none
theorem st_drop {P : Prog} {c : Ct} {C M : St} {j f p op n B m : Nat} {s : SB} {Q : Int32 → St → St → Prop} (A : At P c C M j f p op n B m s) (ho : op = 13) (kk : ∀ r C' M', Res P C M r C' M' → Q r C' M') : wp6_step C (fun r C' => wp9_step M (fun M' => Q r C' M')) := by
  obtain ⟨j5, hf, hop, h16, hcell, B80, l, hq, hb, -⟩ := A.facts
  obtain ⟨bC, bM, hg, i34, c2, m14, v1⟩ := A.f2
  have e : ckOne P f p s = (tkA s).2 := by
    unfold ckOne
    rw [A.op, if_neg (by omega), if_neg (by omega), if_neg (by omega), if_neg (by omega), if_neg (by omega), if_neg (by omega), if_pos ho]
  rw [e] at hb
  obtain ⟨a1, a2, a3⟩ := L_tkA l hq hb
  rw [a2] at e
  have e : ckOne P f p s = (qh s - 1, qK s, qn s, qF s, qb s) := e
  have h101 := A.h101 (Q := fun M' => Q 0 (tT1 (cC j n C) (2 * j) (qh s)) M') (by omega)
  have none := A.none (C0 := tT1 (cC j n C) (2 * j) (qh s)) (M0 := sI (mB M) 1914 0 (nI (B + qh s - 1))) (by rw [e]; exact L_pop l) (by rw [e]; exact ⟨rfl, rfl⟩) (fun i hi => by
    rw [e] at hi ⊢
    have hi : i < qh s - 1 := hi
    exact ⟨by omega, rfl⟩) (bC.h _) (bM.s (Or.inl rfl) _) hg (by rw [e]; simp [gI_sI]; show nI (B + qh s - 1) = nI (B + (qh s - 1)); congr 1; omega) (by rw [gI_sI, if_neg (fun z => absurd z.1 (by decide))]; exact i34) (by rw [e]; exact tT1_h _ _ _)
  refine A.cl (disp_val (by omega) (by omega) ?_)
  subst ho
  simp (decide := true) only [wp6_stepValues, wp1_height, true_implies, false_implies, true_and, and_true, not_true, not_false_iff]
  intro x _
  refine r_drop c2 (by omega) (by omega) (h101 fun b hb => ?_)
  simp (decide := true) only [wp9_step_101, true_implies, false_implies, true_and, and_true, not_true, not_false_iff]
  intro S5 e5 S6 e6
  rw [m14, nI_dec (by omega)] at e5
  subst e5; subst e6
  exact kk _ _ _ none
