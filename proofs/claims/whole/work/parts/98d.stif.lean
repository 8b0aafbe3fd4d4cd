/-! PURE: the step of an IF -/
theorem if_noelse {P : Prog} (hw : PW P) {f m pc q : Nat} {t : SB} (hf : f < 6) (h : Here P f m pc t) (hq : qn t = q + 1) (h4 : fo (qF t q) = 4) (he : fe (qF t q) = 0) (h5 : ¬ pC P f (stopOf P f q m pc t) = 5) : fk (qF t q) = 0 := by
  obtain ⟨k, u, h1, h2, h3, h4', h5', h6, h7, h8, h9, -⟩ := stops hw hf m pc t h.1 h.2.1 h.2.2.1 (show q < qn t by omega)
  have h3 := h3.resolve_left h5
  have hm : m - k = (m - k - 1) + 1 := by omega
  rw [hm] at h9
  have ae := after_end (t := q) h3 h4' h9.1.2.2.2.2.2
  have := ae.2.2.1 (by rw [h5'.2.1.1]; exact h4)
  rw [h5'.2.1.2.1, h6, he] at this
  by_cases z : fk (qF t q) = 0
  · exact z
  · exact absurd rfl (this z)
theorem st_if {P : Prog} {c : Ct} {C M : St} {j f p op n B m : Nat} {s : SB} {Q : Int32 → St → St → Prop} (A : At P c C M j f p op n B m s) (ho : op = 4) (kk : ∀ r C' M', Res P C M r C' M' → Q r C' M') : wp6_step C (fun r C' => wp9_step M (fun M' => Q r C' M')) := by
  obtain ⟨j5, hf, hop, h16, hcell, B80, l, hq, hb, hpl, hnl, hl60⟩ := A.facts
  obtain ⟨bC, bM, hg, i34, c2, m14, v1⟩ := A.f2
  obtain ⟨F, eF, hF40, hq8, f1, f2, f3, f4, g1, g2, g3, g4, g5, g6, hw, hPC, hPM, hN, hck, hhere, -⟩ := A.frames
  obtain ⟨hn, hp1, ebt, hb256⟩ := whole2 A (by omega)
  have e : ckOne P f p s = bg2 op (pC P f (p + 1)) p (tk 1 s) := by
    rw [ck_bg (by rw [A.op]; omega) (by rw [A.op]; omega), A.op]
    unfold bg
    rw [if_pos ho]
  have nb := note_begin hw hN hf hhere (by rw [A.op]; omega) (by rw [A.op]; omega)
  have hA := A.here
  rw [hn] at hA
  rw [e] at hb
  obtain ⟨t1, t2, t3⟩ := L_tk l hq (b_bg2 hb)
  rw [t3] at hb e
  obtain ⟨k3, q8, e2⟩ := L_bg2 hb
  rw [e2] at e
  have q8 : ¬ qn s = 8 := q8
  obtain ⟨b1, b2, b3, b4, b5, b6⟩ := L_bg1 (op := op) (k := pC P f (p + 1)) (p := p) (L_pop l)
  generalize ht : ckOne P f p s = t at *
  rw [← e] at b1 b2 b3 b4 b5 b6
  have b2 : qn t = qn s + 1 := b2
  have b3 : ∀ i, i < qn s → qF t i = qF s i := b3
  have b4 : qF t (qn s) = (op, pC P f (p + 1), qh s - 1, 0, 0, p) := b4
  have b5 : qh t = qh s - 1 := b5
  have b6 : ∀ i, qK t i = qK s i := b6
  obtain ⟨-, -, n3, n2e, n2n⟩ := nb
  have w1 := v1 (qh s - 1) (by omega)
  rw [t2] at w1
  obtain ⟨a1, a2⟩ := VR1 w1
  have eH1 : B + qh s - 1 = B + (qh s - 1) := by omega
  have bC1 : CB j C n (tT1 (cC j n C) (2 * j) (qh s)) := bC.h _
  have aC1 : Ag kXF C (tT1 (cC j n C) (2 * j) (qh s)) := (aXF C j n).sI (by unfold kXF; omega)
  have bM1 := bM.s (k := 1914) (Or.inl rfl) (nI (B + (qh s - 1)))
  have aM1 : Ag kYF M (sI (mB M) 1914 0 (nI (B + (qh s - 1)))) := (aYF M).sI (by unfold kYF; omega)
  have i34' : gI (sI (mB M) 1914 0 (nI (B + (qh s - 1)))) 1934 0 = 0 := by
    rw [gI_sI, if_neg (fun z => absurd z.1 (by decide))]; exact i34
  have m14' : gI (sI (mB M) 1914 0 (nI (B + (qh s - 1)))) 1914 0 = nI (B + (qh s - 1)) := by simp [gI_sI]
  have g2' : gI (sI (mB M) 1914 0 (nI (B + (qh s - 1)))) 1931 0 = nI p := by simp [mB, gI_sI]; exact g2
  have g3' : gI (sI (mB M) 1914 0 (nI (B + (qh s - 1)))) 1920 0 = nI (F + qn s) := by simp [mB, gI_sI]; exact g3
  have hPM' : PM P (sI (mB M) 1914 0 (nI (B + (qh s - 1)))) := hPM.ag aM1 (fun k z1 z2 y => by unfold kYF at y; omega)
  have f3' : gI (tT1 (cC j n C) (2 * j) (qh s)) 1006 j = nI (qn s) := by simp [tT1, gI_sI]; exact f3
  have f1' : gR (tT1 (cC j n C) (2 * j) (qh s)) 1004 j = f := f1
  -- the frame begins, with the next place n'
  have beg : ∀ (m' n' : Nat) (v : SB) (C' : St), Here P f m' n' v → Live v → qn v = qn s + 1 → (∀ i, i < qn s → qF v i = qF s i) → (fo (qF v (qn s)) = op ∧ fk (qF v (qn s)) = pC P f (p + 1) ∧ fb (qF v (qn s)) = qh s - 1 ∧ fg (qF v (qn s)) = p) → qh v = qh s - 1 → (∀ i, i < qh s - 1 → qK v i = qK s i) →
      ((C' = begC (tT1 (cC j n C) (2 * j) (qh s)) j (qn s) p (qh s - 1) ∧ n' = n) ∨ C' = sI (begC (tT1 (cC j n C) (2 * j) (qh s)) j (qn s) p (qh s - 1)) 1005 j (nI n')) → Q 0 C' (sI (begM (sI (mB M) 1914 0 (nI (B + (qh s - 1)))) (F + qn s) op (pC P f (p + 1)) (B + (qh s - 1)) (p + 2)) 1931 0 (nI n')) := by
    intro m' n' v C' x1 x2 x3 x4 x5 x6 x7 x8
    exact kk _ _ _ (A.begin eF (by omega) x1 x2 x3 (fun i hi => by rw [x4 i hi]; exact ⟨rfl, rfl, rfl, rfl⟩) x5 x6 (by omega) x7 bC1 aC1 (tT1_h _ _ _) bM1 aM1 m14' i34' x8)
  have mv := fun C' => A.mv (Q := fun M' => Q 0 C' M') (by omega) (by omega)
  -- the reference, condition not 0
  have mvT : ∀ C', ¬ (gJ (mB M) 1922 0 (B + (qh s - 1))).toInt32 = 0 → Q 0 C' (sI (begM (sI (mB M) 1914 0 (nI (B + (qh s - 1)))) (F + qn s) op (pC P f (p + 1)) (B + (qh s - 1)) (p + 2)) 1931 0 (nI n)) → wp9_step M (fun M' => Q 0 C' M') := by
    intro C' hc hQ
    refine mv C' fun b hb => ?_
    rw [hb hp1]
    subst ho
    simp (decide := true) only [wp9_moves, wp9_block, true_implies, false_implies, true_and, and_true, not_true, not_false_iff]
    refine m_popInt m14 (by omega) (by omega) ?_
    rw [eH1]
    refine ⟨fun _ => ?_, fun z => absurd z hc⟩
    unfold wp9_block_16 wp9_block_17
    intro x5 e5
    rw [g2', l2, nI_add] at e5
    subst e5
    refine ⟨fun _ => ⟨fun _ => ?_, fun z => absurd rfl z⟩, fun z => absurd rfl z⟩
    refine m_block73 (G := F + qn s) g3' (by omega) m14' (fun _ => ?_) (fun z => absurd rfl z)
    rw [hn] at hQ; exact hQ
  have mvE : ∀ C', (gJ (mB M) 1922 0 (B + (qh s - 1))).toInt32 = 0 → stopOf P f (qn s) m (p + 2) t < pL P f → (¬ pC P f (stopOf P f (qn s) m (p + 2) t) = 6 → Q 0 C' (sI (begM (sI (mB M) 1914 0 (nI (B + (qh s - 1)))) (F + qn s) op (pC P f (p + 1)) (B + (qh s - 1)) (p + 2)) 1931 0 (nI (stopOf P f (qn s) m (p + 2) t + 1)))) → (pC P f (stopOf P f (qn s) m (p + 2) t) = 6 → Q 0 C' (sI (sI (mB M) 1914 0 (nI (B + (qh s - 1)))) 1931 0 (nI (stopOf P f (qn s) m (p + 2) t + 1)))) → wp9_step M (fun M' => Q 0 C' M') := by
    intro C' hc hst hQ1 hQ2
    refine mv C' fun b hb => ?_
    rw [hb hp1]
    have hc256 := (hw f hf).2.2.2.2.2.2 _ hst
    subst ho
    simp (decide := true) only [wp9_moves, wp9_block, true_implies, false_implies, true_and, and_true, not_true, not_false_iff]
    refine m_popInt m14 (by omega) (by omega) ?_
    rw [eH1]
    refine ⟨fun z => absurd hc z, fun _ => ?_⟩
    unfold wp9_block_17
    intro x5 e5
    rw [g2', l2, nI_add] at e5
    subst e5
    refine ⟨fun z => absurd z (by decide), fun _ => m_seek (t := qn s) hPM' hw hf hA.1 hA.2.1 hA.2.2.1 b2 (fun z => absurd z (by decide)) fun _ => ?_⟩
    refine ⟨fun z => absurd z (by decide), fun _ => m_byteAt hPM' hw hf hst ⟨fun z => ?_, fun z S2 e2 => ?_⟩⟩
    · refine m_block73 (G := F + qn s) g3' (by omega) m14' (fun y => absurd y (by decide)) (fun _ => ?_)
      rw [nI_1]
      exact hQ1 (nN (b := 6) z)
    · subst e2
      rw [nI_1]
      exact hQ2 (nE (b := 6) (by omega) (by omega) z)
  refine A.cl (disp_fr (by omega) ?_)
  have ho4 := ho
  subst ho
  simp (decide := true) only [wp6_stepFrames, true_implies, false_implies, true_and, and_true, not_true, not_false_iff]
  unfold wp0_beginIf
  refine r_takeInt c2 (by omega) (by omega) ⟨fun z => ?_, fun z => ?_⟩
  · have z' : (gJ (mB M) 1922 0 (B + (qh s - 1))).toInt32 = 0 := by rw [← a1]; exact z
    have f1s : gR (sI (cC j n C) 1102 (2 * j) (nI (qh s - 1))) 1004 j = f := f1
    rw [f1s]
    refine ⟨hf, c_behindElse (by omega) ?_⟩
    by_cases y : pC P f (stopOf P f (qn s) m (p + 2) t) = 5
    · have e14 : gA (sI (cC j n C) 1102 (2 * j) (nI (qh s - 1))) 1402 f p = nI (stopOf P f (qn s) m (p + 2) t + 1) := n2e y
      obtain ⟨m', v, x1, x2, x3, x4, x5, x6, x7⟩ := else_state hw hf hA b1 b2 (by rw [b4, b5]; rfl) y
      have hst := x1.2.2.2.2.2.1
      rw [e14]
      refine ⟨fun w => absurd (nE (b := 0) (by omega) (by omega) w) (by omega), fun _ => c_begFrame f3' (by omega) (tT1_h _ _ _) ?_⟩
      have f1'' : gR (begC (sI (cC j n C) 1102 (2 * j) (nI (qh s - 1))) j (qn s) p (qh s - 1)) 1004 j = f := f1
      rw [f1'']
      refine ⟨hf, c_behindElse (by omega) ?_⟩
      have e14' : gA (begC (sI (cC j n C) 1102 (2 * j) (nI (qh s - 1))) j (qn s) p (qh s - 1)) 1402 f p = nI (stopOf P f (qn s) m (p + 2) t + 1) := by
        unfold begC
        simp (decide := true) only [gA_sI, gA_sA, false_and, if_false]
        exact e14
      rw [e14']
      intro S7 e7
      subst e7
      refine mvE _ z' (by omega) (fun _ => ?_) (fun w => absurd (w.symm.trans y) (by decide))
      refine beg m' _ v _ x1 x2 x3 (fun i hi => by rw [x4 i hi, b3 i hi]) ?_ (by rw [x6, b5]) (fun i hi => ?_) (Or.inr rfl)
      · rw [b4] at x5; exact x5
      · rw [x7 i (by omega), b6]
    · have e14 : gA (sI (cC j n C) 1102 (2 * j) (nI (qh s - 1))) 1402 f p = 0 := (n2n y).1
      have ese := (n2n y).2
      have k0 := if_noelse hw hf hA b2 (by rw [b4]; rfl) (by rw [b4]; rfl) y
      rw [b4] at k0
      have k0 : pC P f (p + 1) = 0 := k0
      obtain ⟨m', v, x1, x2, x3, x4, x5, x6, -⟩ := end_state hw hf hA (show qn s < qn t by omega) hq (fun i hi => by rw [b3 i hi]; exact l.1 i hi) (fun i hi => by rw [b4] at hi; have hi : i < qh s - 1 := hi; rw [b6]; exact l.2 i (by omega)) (by rw [b4]; show pC P f (p + 1) ≤ 3; omega)
      rw [b4] at x5 x6
      have x5 : qh v = qh s - 1 + (if pC P f (p + 1) = 0 then 0 else 1) := x5
      have x6 : ∀ i, i < qh s - 1 → qK v i = qK t i := x6
      rw [if_pos k0, Nat.add_zero] at x5
      have hst := x1.2.2.2.2.2.1
      rw [e14]
      refine ⟨fun _ => ?_, fun w => absurd rfl w⟩
      rw [f1s]
      refine ⟨hf, c_behindEnd (by omega) ?_⟩
      have e13 : gA (sI (cC j n C) 1102 (2 * j) (nI (qh s - 1))) 1403 f p = nI (endOf P f (qn s) m (p + 2) t + 1) := n3
      rw [e13]
      intro S4 e4
      subst e4
      rw [ese] at mvE y
      have h6 : pC P f (endOf P f (qn s) m (p + 2) t) = 6 := by
        obtain ⟨k', u', -, -, y3, -⟩ := ends hw hf m (p + 2) t hA.1 hA.2.1 hA.2.2.1 (show qn s < qn t by omega)
        exact y3
      refine mvE _ z' (by omega) (fun w => absurd h6 w) (fun _ => ?_)
      refine kk _ _ _ (A.fr eF x1 x2 (by omega) (aC1.sI (by unfold kXF; omega)) (aM1.sI (by unfold kYF; omega)) ?_ ?_ (fun i => ?_) (fun o => ?_) (fun i => ?_) (fun i h1 h2 => ?_) (fun j' hj' i => ⟨rfl, rfl⟩) ?_ ?_ ?_ (fun i hi => ?_) (fun i hi => ⟨rfl, rfl, rfl, rfl⟩) (fun o _ i => ⟨rfl, rfl⟩) (fun i _ => ⟨rfl, rfl⟩) (fun i hi => ?_))
      · simp [gI_sI]; exact bM.2.1
      · simp [gI_sI]; exact i34
      · simp [gI_sI, tT1]; split <;> rfl
      · rw [x5]; simp [gI_sI, tT1]
      · rw [x3]; simp [gI_sI, tT1]
        intro w; rw [w]; exact f3
      · rw [x3] at h2
        rw [x4 i h2, b3 i h2]
        exact f4 i h1 h2
      · simp [gI_sI]
      · rw [x5]; simp [gI_sI]
      · rw [x3]; simp [gI_sI]; exact g3
      · rw [x3] at hi
        rw [x4 i hi, b3 i hi]
        exact g6 i hi
      · rw [x5] at hi
        rw [x6 i hi, b6]
        exact v1 i (by omega)
  · have z' : ¬ (gJ (mB M) 1922 0 (B + (qh s - 1))).toInt32 = 0 := by rw [← a1]; exact z
    refine c_begFrame f3' (by omega) (tT1_h _ _ _) (mvT _ z' ?_)
    refine beg m n t _ (by rw [hn]; exact hA) b1 b2 b3 ?_ b5 (fun i _ => b6 i) (Or.inl ⟨rfl, rfl⟩)
    rw [b4]; exact ⟨rfl, rfl, rfl, rfl⟩
