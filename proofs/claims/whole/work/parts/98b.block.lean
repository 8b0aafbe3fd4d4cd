/-! PURE: steps: BLOCK, LOOP, IF -/
theorem At.here {P : Prog} {c : Ct} {C M : St} {j f p op n B m : Nat} {s : SB} (A : At P c C M j f p op n B m s) : Here P f m n (ckOne P f p s) := A.2.2.2.2.2.2.2.2.2
theorem L_bg2 {op k p : Nat} {s : SB} (hb : qb (bg2 op k p s) = 0) : k ≤ 3 ∧ ¬ qn s = 8 ∧ bg2 op k p s = bg1 op k p s := by
  unfold bg2 at hb ⊢
  by_cases z : 3 < k ∨ qn s = 8
  · rw [if_pos z] at hb; exact absurd hb (by show ¬ (1 : Nat) = 0; decide)
  · rw [if_neg z]; exact ⟨by omega, by omega, rfl⟩
theorem L_bg1 {op k p : Nat} {s : SB} (l : Live s) : Live (bg1 op k p s) ∧ qn (bg1 op k p s) = qn s + 1 ∧ (∀ i, i < qn s → qF (bg1 op k p s) i = qF s i) ∧ qF (bg1 op k p s) (qn s) = (op, k, qh s, 0, 0, p) ∧ qh (bg1 op k p s) = qh s ∧ ∀ i, qK (bg1 op k p s) i = qK s i := by
  have h1 : ∀ i, i < qn s → qF (bg1 op k p s) i = qF s i := by
    intro i hi
    show (if i = qn s then _ else qF s i) = _
    rw [if_neg (by omega)]
  have h2 : qF (bg1 op k p s) (qn s) = (op, k, qh s, 0, 0, p) := if_pos rfl
  refine ⟨⟨fun i hi => ?_, l.2⟩, rfl, h1, h2, rfl, fun _ => rfl⟩
  have hi : i < qn s + 1 := hi
  by_cases z : i = qn s
  · rw [z, h2]; rfl
  · rw [h1 i (by omega)]; exact l.1 i (by omega)
theorem aXF (C : St) (j n : Nat) : Ag kXF C (cC j n C) := Ag.rf.sI (by unfold kXF; omega)
theorem aYF (M : St) : Ag kYF M (mB M) := (Ag.rf.sI (by unfold kYF; omega)).sI (by unfold kYF; omega)
theorem st_block {P : Prog} {c : Ct} {C M : St} {j f p op n B m : Nat} {s : SB} {Q : Int32 → St → St → Prop} (A : At P c C M j f p op n B m s) (ho : op = 2 ∨ op = 3) (kk : ∀ r C' M', Res P C M r C' M' → Q r C' M') : wp6_step C (fun r C' => wp9_step M (fun M' => Q r C' M')) := by
  obtain ⟨j5, hf, hop, h16, hcell, B80, l, hq, hb, -⟩ := A.facts
  obtain ⟨bC, bM, hg, i34, c2, m14, v1⟩ := A.f2
  obtain ⟨F, eF, hF40, hq8, f1, f2, f3, f4, g1, g2, g3, g4, g5, g6, hw, hPC, hPM, hN, hck, hhere, -⟩ := A.frames
  obtain ⟨hn, hp1, ebt, hb256⟩ := whole2 A (by omega)
  have e : ckOne P f p s = bg2 op (pC P f (p + 1)) p s := by
    rw [ck_bg (by rw [A.op]; omega) (by rw [A.op]; omega), A.op]
    unfold bg
    rw [if_neg (by omega)]
  rw [e] at hb
  obtain ⟨k3, q8, e2⟩ := L_bg2 hb
  rw [e2] at e
  obtain ⟨b1, b2, b3, b4, b5, b6⟩ := L_bg1 (op := op) (k := pC P f (p + 1)) (p := p) l
  rw [← e] at b1 b2 b3 b4 b5 b6
  have fin := A.begin (C' := begC (cC j n C) j (qn s) p (qh s)) (n' := n) (k := pC P f (p + 1)) eF (by omega) A.here b1 b2 (fun i hi => by rw [b3 i hi]; exact ⟨rfl, rfl, rfl, rfl⟩) (by rw [b4]; exact ⟨rfl, rfl, rfl, rfl⟩) b5 (Nat.le_refl _) (fun i _ => b6 i) bC (aXF C j n) c2 bM (aYF M) m14 i34 (Or.inl ⟨rfl, rfl⟩)
  have mv := A.mv (Q := fun M' => Q 0 (begC (cC j n C) j (qn s) p (qh s)) M') (by omega) (by omega)
  refine A.cl (disp_fr (by omega) ?_)
  have key : wp0_beginFrame (cC j n C) j (nI p) (fun S2 => wp9_step M fun M' => Q 0 S2 M') := by
    refine c_begFrame (q := qn s) (h := qh s) ?_ (by omega) c2 (mv fun b hb => ?_)
    · simp [gI_sI]; exact f3
    · rw [hb hp1]
      have blk : ∀ (R : St → Prop), R (sI (begM (mB M) (F + qn s) op (pC P f (p + 1)) (B + qh s) (p + 2)) 1931 0 (nI n)) → wp9_block_16 (nI f) (nI op) (nI (pC P f (p + 1))) R (mB M) := by
        intro R hR
        unfold wp9_block_16 wp9_block_17
        intro x5 e5
        rw [show gI (mB M) 1931 0 = nI p by simp [mB, gI_sI]; exact g2, l2, nI_add] at e5
        subst e5
        refine ⟨fun _ => ⟨fun _ => ?_, fun z => absurd rfl z⟩, fun z => absurd rfl z⟩
        refine m_block73 (G := F + qn s) (by simp [mB, gI_sI]; exact g3) (by omega) m14 (fun _ => ?_) (fun z => absurd rfl z)
        rw [← hn]; rw [← hn] at hR; exact hR
      rcases ho with rfl | rfl
      · simp (decide := true) only [wp9_moves, wp9_block, true_implies, false_implies, true_and, and_true, not_true, not_false_iff]
        exact blk _ (kk _ _ _ fin)
      · simp (decide := true) only [wp9_moves, wp9_block, true_implies, false_implies, true_and, and_true, not_true, not_false_iff]
        exact blk _ (kk _ _ _ fin)
  rcases ho with rfl | rfl
  · simp (decide := true) only [wp6_stepFrames, true_implies, false_implies, true_and, and_true, not_true, not_false_iff]
    exact key
  · simp (decide := true) only [wp6_stepFrames, true_implies, false_implies, true_and, and_true, not_true, not_false_iff]
    exact key
