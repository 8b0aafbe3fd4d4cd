/-! PURE: a jump from the middle of a step -/
theorem At.jump {P : Prog} {c : Ct} {C M C1 M1 : St} {j f p op n B m h1 F d : Nat} {s : SB} {Q : Int32 → St → St → Prop} (A : At P c C M j f p op n B m s) (eF : F = xF c j) (md : Md C M C1 M1 j h1 B) (h06 : gI C1 1006 j = nI (qn s)) (h20 : gI M1 1920 0 = nI (F + qn s)) (hle : h1 ≤ qh s) (hbase : fb (sTop s) ≤ h1) (hd : d < qn s)
    (hk : ∀ k, k = (if fo (qF s (qn s - 1 - d)) = 3 then 0 else fk (qF s (qn s - 1 - d))) → ¬ k = 0 → fb (sTop s) < h1 ∧ qK s (h1 - 1) = k) (mst : ∀ R : St → Prop, wp9_jump M1 (nI d) (fun S => R S) → wp9_step M R) (kk : ∀ r C' M', Res P C M r C' M' → Q r C' M') : wp6_jump C1 j (nI d) (fun S => wp9_step M (fun M' => Q 0 S M')) := by
  obtain ⟨j5, hf, hop, h16, hcell, B80, l, hq, hb, hpl, hnl, hl60⟩ := A.facts
  obtain ⟨-, -, -, -, -, -, v1⟩ := A.f2
  obtain ⟨F', eF', hF40, hq8, f1, f2, f3, f4, g1, g2, g3, g4, g5, g6, hw, hPC, hPM, hN, hck, hhere, g7⟩ := A.frames
  have : F' = F := by rw [eF', eF]
  subst this
  have md' := md
  obtain ⟨d1, d2, d3, d4, d5, d6, d7, d8, d9, d10, d11, d12⟩ := md
  have nX : ∀ k, ¬ (k = 1002 ∨ k = 1003 ∨ k = 1005 ∨ k = 1006 ∨ k = 1100 ∨ k = 1101 ∨ k = 1102) → ¬ kXF k := fun k z => z
  have nY : ∀ k, ¬ (k = 1914 ∨ k = 1915 ∨ k = 1916 ∨ k = 1917 ∨ k = 1920 ∨ k = 1922 ∨ k = 1923 ∨ k = 1924 ∨ k = 1931 ∨ k = 1933 ∨ k = 1934) → ¬ kYF k := fun k z => z
  have fi := hhere.2.2.2.1
  obtain ⟨t, hqt⟩ : ∃ t, qn s = t + d + 1 := ⟨qn s - 1 - d, by omega⟩
  rw [show qn s - 1 - d = t by omega] at hk
  have ht : t < qn s := by omega
  have h04 : gR C1 1004 j = f := by rw [d1.gR (nX _ (by decide))]; exact f1
  have hPC1 : PC P C1 := hPC.ag d1 (fun k z y => by unfold kXF at y; omega)
  have hPM1 : PM P M1 := hPM.ag d2 (fun k z1 z2 y => by unfold kYF at y; omega)
  have x30 : gI M1 1930 0 = nI (j + 1) := by rw [d2.gI (nY _ (by decide))]; exact g1
  have x27 : gA M1 1927 0 j = nI f := by rw [d2.gA (nY _ (by decide))]; exact g4
  have x29 : gA M1 1929 0 j = nI F' := by rw [d2.gA (nY _ (by decide))]; exact g5
  have x15 : gA M1 1915 0 (F' + t) = nI (fo (qF s t)) := by rw [(d11 _).1]; exact (g6 t ht).1
  have x16 : gA M1 1916 0 (F' + t) = nI (fk (qF s t)) := by rw [(d11 _).2.1]; exact (g6 t ht).2.1
  have x17 : gA M1 1917 0 (F' + t) = nI (B + fb (qF s t)) := by rw [(d11 _).2.2.1]; exact (g6 t ht).2.2.1
  have x24 : 1 ≤ t → gA M1 1924 0 (F' + t) = nI (fg (qF s t) + 2) := fun z => by rw [(d11 _).2.2.2]; exact (g6 t ht).2.2.2 z
  have wS := hhere.2.1.1.2.2.2.2
  have fo256 := (wS.1 t ht).1
  have fk256 := (wS.1 t ht).2.1
  have fbt : fb (qF s t) ≤ fb (sTop s) := wS.2.1 t (qn s - 1) (by omega) (by omega)
  have h06' : gI C1 1006 j = nI (t + d + 1) := by rw [h06, hqt]
  have h20' : gI M1 1920 0 = nI (F' + (t + d + 1)) := by rw [h20, hqt]
  by_cases t0 : t = 0
  · -- the outermost: the call returns
    have hR : ¬ pR P f = 0 → 1 ≤ h1 ∧ h1 ≤ qh s ∧ qK s (h1 - 1) = pR P f := by
      intro z
      have := hk (pR P f) (by rw [t0, fi.2.2.1, if_neg (by decide), fi.1]) z
      exact ⟨by omega, hle, this.2⟩
    refine c_jump (t := t) (b := 0) (bs := 0) (g := 0) (kf := 0) (k := 0) (e := 0) hw hPC1 h04 hf h06' (by omega) d5 (by omega) hcell (fun _ => ?_) (fun z => absurd z (by omega)) (fun z => absurd z (by omega)) (fun z => absurd z (by omega)) (fun z => absurd z (by omega)) (fun z => absurd z (by omega)) (fun z => absurd z (by omega)) rfl (fun z => absurd z (by omega)) (fun z => absurd z (by omega)) (fun z => absurd z (by omega)) (fun z => absurd z (by omega))
    refine A.leave eF' md' (by omega) hR (fun R hl => mst R ?_) kk
    refine m_jump (k := if fo (qF s t) = 3 then 0 else fk (qF s t)) (b := 0) x30 j5 x27 x29 h20' (by omega) d10 (by omega) (fun _ => hl) x15 fo256 x16 fk256 x17 (by omega) (fun z => absurd z (by omega)) rfl (fun z => ?_) (fun z => absurd z (by omega)) (fun z => absurd z (by omega))
    have := hk _ rfl z
    omega
  · have t1 : 1 ≤ t := by omega
    obtain ⟨mb, u, u1, u2, u3, u4, u5, u6, u7, u8, u9, u10, u11, u12⟩ := hhere.back hw hf hck t1 ht
    have en := note_at hw hN hf hhere t1 ht
    have hk3 := fk_le hhere ht hw hf hck
    have hb60 : fg (qF s t) + 2 ≤ 60 := by omega
    have kP : ∀ k, k = (if fo (qF s t) = 3 then 0 else fk (qF s t)) → ¬ k = 0 → 1 ≤ h1 ∧ fb (qF s t) < 16 := by
      intro k ek z
      have := hk k ek z
      omega
    have ml : ∀ R : St → Prop, (1 ≤ t → fo (qF s t) = 3 → R (sI (sI (sI M1 1914 0 (nI (B + fb (qF s t)))) 1920 0 (nI (F' + t + 1))) 1931 0 (nI (fg (qF s t) + 2)))) → (1 ≤ t → ¬ fo (qF s t) = 3 → wp9_seek (sI (if (if fo (qF s t) = 3 then 0 else fk (qF s t)) = 0 then sI M1 1914 0 (nI (B + fb (qF s t))) else putm (sI M1 1914 0 (nI (B + fb (qF s t)))) (B + fb (qF s t)) (gJ M1 1922 0 (B + h1 - 1)) (gD M1 1923 0 (B + h1 - 1))) 1920 0 (nI (F' + t))) (nI f) (nI (fg (qF s t) + 2)) 0 (fun r S => ∀ S3, S3 = sI S 1931 0 (r + 1) → R S3)) → wp9_step M R := by
      intro R k1 k2
      exact mst R (m_jump x30 j5 x27 x29 h20' (by omega) d10 (by omega) (fun z => absurd z t0) x15 fo256 x16 fk256 x17 (by omega) x24 rfl (fun z => by have := (kP _ rfl z).1; omega) k1 k2)
    refine c_jump (t := t) (k := if fo (qF s t) = 3 then 0 else fk (qF s t)) (e := endOf P f t (m + 1) p s + 1) hw hPC1 h04 hf h06' (by omega) d5 (by omega) hcell (fun z => absurd z t0) (fun _ => by rw [(d8 _ _).1]; exact (f4 t t1 ht).1) (fun _ => by rw [(d8 _ _).2]; exact (f4 t t1 ht).2) (fun _ => by omega) (fun _ => u10) (fun _ => u11) (fun _ => by omega) rfl (fun _ z => kP _ rfl z) (fun _ => by rw [d1.gA (nX _ (by decide))]; exact en) (fun _ g3' C2 hc => ?_) (fun _ g3' C2 hc => ?_)
    · -- a LOOP
      refine ml _ (fun _ _ => ?_) (fun _ w => absurd g3' w)
      obtain ⟨c1, c2, c3⟩ := u3
      have qhu : qh u = fb (qF s t) := by rw [u6, ← c2.2.2.1]
      have uk : ∀ i, i < qh u → qK u i = qK s i := fun i hi => (c3 i (by rw [← u6]; exact hi)).symm
      have lu : Live u := by
        refine ⟨fun i hi => ?_, fun i hi => ?_⟩
        · by_cases z : i = t
          · rw [z]; exact u4
          · rw [← c1 i (by omega)]; exact l.1 i (by omega)
        · rw [uk i hi]; exact l.2 i (by omega)
      refine kk _ _ _ (A.fr eF' u1 lu (by omega) (((d1.tr (hc.1.mono fun k z => by unfold kXF; omega)).sI (by unfold kXF; omega)).sI (by unfold kXF; omega)) (((d2.sI (by unfold kYF; omega)).sI (by unfold kYF; omega)).sI (by unfold kYF; omega)) ?_ ?_ (fun i => ?_) (fun o => ?_) (fun i => ?_) (fun i h1 h2 => ?_) (fun j' hj' i => ⟨?_, ?_⟩) ?_ ?_ ?_ (fun i hi => ?_) (fun i hi => d11 i) (fun o _ i => ⟨?_, ?_⟩) (fun i _ => d12 i) (fun i hi => ?_))
      · simp [gI_sI]; exact d3
      · simp [gI_sI]; exact d4
      · simp [gI_sI]
        by_cases z : i = j
        · rw [if_pos z, if_pos z]
        · rw [if_neg z, if_neg z, hc.1.gI (by decide)]; exact (d7 i z).1
      · simp [gI_sI]; rw [hc.2]
        by_cases z : o = 2 * j
        · rw [if_pos z, if_pos z, qhu]
        · rw [if_neg z, if_neg z]; exact d6 o z
      · rw [u2]; simp [gI_sI]
        by_cases z : i = j
        · rw [if_pos z, if_pos z]
        · rw [if_neg z, if_neg z, hc.1.gI (by decide)]; exact (d7 i z).2
      · rw [u2] at h2
        show gA C2 1002 j i = _ ∧ gA C2 1003 j i = _
        rw [hc.1.gA (by decide), hc.1.gA (by decide), (d8 _ _).1, (d8 _ _).2]
        have := f4 i h1 (by omega)
        by_cases z : i = t
        · subst z; rw [← c2.2.2.2, ← c2.2.2.1]; exact this
        · rw [← c1 i (by omega)]; exact this
      · show gA C2 1002 j' i = _
        rw [hc.1.gA (by decide), (d8 _ _).1]
      · show gA C2 1003 j' i = _
        rw [hc.1.gA (by decide), (d8 _ _).2]
      · simp [gI_sI]
      · rw [qhu]; simp [gI_sI]
      · rw [u2]; simp [gI_sI]; rfl
      · rw [u2] at hi
        show gA M1 1915 0 _ = _ ∧ gA M1 1916 0 _ = _ ∧ gA M1 1917 0 _ = _ ∧ (1 ≤ i → gA M1 1924 0 _ = _)
        rw [(d11 _).1, (d11 _).2.1, (d11 _).2.2.1, (d11 _).2.2.2]
        have := g6 i (by omega)
        by_cases z : i = t
        · subst z; rw [← c2.1, ← c2.2.1, ← c2.2.2.1, ← c2.2.2.2]; exact this
        · rw [← c1 i (by omega)]; exact this
      · show gJ C2 1100 o i = _
        rw [hc.1.gJ (by decide), (d9 _ _).1]
      · show gD C2 1101 o i = _
        rw [hc.1.gD (by decide), (d9 _ _).2]
      · show VR _ (gJ C2 1100 _ _) (gD C2 1101 _ _) (gJ M1 1922 0 _) (gD M1 1923 0 _)
        rw [hc.1.gJ (by decide), hc.1.gD (by decide), (d9 _ _).1, (d9 _ _).2, (d12 _).1, (d12 _).2, uk i hi]
        exact v1 i (by omega)
    · -- a BLOCK or an IF
      have ek : (if fo (qF s t) = 3 then 0 else fk (qF s t)) = fk (qF s t) := if_neg g3'
      have hk := hk _ ek.symm
      rw [ek] at ml ⊢
      refine ml _ (fun _ w => absurd w g3') (fun _ _ => ?_)
      obtain ⟨m', v, y1, y2, y3, y4, y5, y6, y7⟩ := end_state hw hf hhere ht t1 (fun i hi => l.1 i (by omega)) (fun i hi => l.2 i (by omega)) hk3
      have aM2 : Ag kYF M (sI (if fk (qF s t) = 0 then sI M1 1914 0 (nI (B + fb (qF s t))) else putm (sI M1 1914 0 (nI (B + fb (qF s t)))) (B + fb (qF s t)) (gJ M1 1922 0 (B + h1 - 1)) (gD M1 1923 0 (B + h1 - 1))) 1920 0 (nI (F' + t))) := by
        refine Ag.sI ?_ (by unfold kYF; omega)
        split
        · exact d2.sI (by unfold kYF; omega)
        · unfold putm
          exact (((d2.sI (by unfold kYF; omega)).sJ (by unfold kYF; omega)).sD (by unfold kYF; omega)).sI (by unfold kYF; omega)
      have hPM2 := hPM.ag aM2 (fun k z1 z2 y => by unfold kYF at y; omega)
      refine m_seek (t := t) hPM2 hw hf u1.1 u1.2.1 u1.2.2.1 u2 (fun _ S3 e3 => ?_) (fun z => absurd rfl z)
      rw [u7, nI_1] at e3
      subst e3
      have aC2 : Ag kXF C (sI (sI (if fk (qF s t) = 0 then C2 else putc C2 (2 * j) (fb (qF s t)) (gJ C1 1100 (2 * j) (h1 - 1)) (gD C1 1101 (2 * j) (h1 - 1))) 1005 j (nI (endOf P f t (m + 1) p s + 1))) 1006 j (nI t)) := by
        have base := d1.tr (hc.1.mono fun k z => (by unfold kXF; omega : kXF k))
        refine Ag.sI (Ag.sI ?_ (by unfold kXF; omega)) (by unfold kXF; omega)
        split
        · exact base
        · unfold putc
          exact ((base.sJ (by unfold kXF; omega)).sD (by unfold kXF; omega)).sI (by unfold kXF; omega)
      by_cases z : fk (qF s t) = 0
      · rw [if_pos z] at aM2 aC2 y5 ⊢
        rw [if_pos z]
        rw [Nat.add_zero] at y5
        refine kk _ _ _ (A.fr eF' y1 y2 (by omega) aC2 (aM2.sI (by unfold kYF; omega)) ?_ ?_ (fun i => ?_) (fun o => ?_) (fun i => ?_) (fun i h1 h2 => ?_) (fun j' hj' i => ⟨?_, ?_⟩) ?_ ?_ ?_ (fun i hi => ?_) (fun i hi => d11 i) (fun o _ i => ⟨?_, ?_⟩) (fun i _ => d12 i) (fun i hi => ?_))
        · simp [gI_sI]; exact d3
        · simp [gI_sI]; exact d4
        · simp [gI_sI]
          by_cases z : i = j
          · rw [if_pos z, if_pos z]
          · rw [if_neg z, if_neg z, hc.1.gI (by decide)]; exact (d7 i z).1
        · rw [y5]; simp [gI_sI]; rw [hc.2]
          by_cases z : o = 2 * j
          · rw [if_pos z, if_pos z]
          · rw [if_neg z, if_neg z]; exact d6 o z
        · rw [y3]; simp [gI_sI]
          by_cases z : i = j
          · rw [if_pos z, if_pos z]
          · rw [if_neg z, if_neg z, hc.1.gI (by decide)]; exact (d7 i z).2
        · rw [y3] at h2
          show gA C2 1002 j i = _ ∧ gA C2 1003 j i = _
          rw [hc.1.gA (by decide), hc.1.gA (by decide), (d8 _ _).1, (d8 _ _).2, y4 i h2]
          exact f4 i h1 (by omega)
        · show gA C2 1002 j' i = _
          rw [hc.1.gA (by decide), (d8 _ _).1]
        · show gA C2 1003 j' i = _
          rw [hc.1.gA (by decide), (d8 _ _).2]
        · simp [gI_sI]
        · rw [y5]; simp [gI_sI]
        · rw [y3]; simp [gI_sI]
        · rw [y3] at hi
          show gA M1 1915 0 _ = _ ∧ gA M1 1916 0 _ = _ ∧ gA M1 1917 0 _ = _ ∧ (1 ≤ i → gA M1 1924 0 _ = _)
          rw [(d11 _).1, (d11 _).2.1, (d11 _).2.2.1, (d11 _).2.2.2, y4 i hi]
          exact g6 i (by omega)
        · show gJ C2 1100 o i = _
          rw [hc.1.gJ (by decide), (d9 _ _).1]
        · show gD C2 1101 o i = _
          rw [hc.1.gD (by decide), (d9 _ _).2]
        · rw [y5] at hi
          show VR _ (gJ C2 1100 _ _) (gD C2 1101 _ _) (gJ M1 1922 0 _) (gD M1 1923 0 _)
          rw [hc.1.gJ (by decide), hc.1.gD (by decide), (d9 _ _).1, (d9 _ _).2, (d12 _).1, (d12 _).2, y6 i hi]
          exact v1 i (by omega)
      · rw [if_neg z] at aM2 aC2 y5 ⊢
        rw [if_neg z]
        obtain ⟨z1, z2⟩ := hk z
        have hvv := v1 (h1 - 1) (by omega)
        rw [z2] at hvv
        refine kk _ _ _ (A.fr eF' y1 y2 (by omega) aC2 (aM2.sI (by unfold kYF; omega)) ?_ ?_ (fun i => ?_) (fun o => ?_) (fun i => ?_) (fun i h1 h2 => ?_) (fun j' hj' i => ⟨?_, ?_⟩) ?_ ?_ ?_ (fun i hi => ?_) (fun i hi => d11 i) (fun o ho i => ⟨?_, ?_⟩) (fun i hi => ⟨?_, ?_⟩) (fun i hi => ?_))
        · simp [putm, gI_sI, gI_sJ, gI_sD]; exact d3
        · simp [putm, gI_sI, gI_sJ, gI_sD]; exact d4
        · simp [putc, gI_sI, gI_sJ, gI_sD]
          by_cases z : i = j
          · rw [if_pos z, if_pos z]
          · rw [if_neg z, if_neg z, hc.1.gI (by decide)]; exact (d7 i z).1
        · rw [y5]; simp [putc, gI_sI, gI_sJ, gI_sD]
          by_cases z : o = 2 * j
          · rw [if_pos z, if_pos z]
          · rw [if_neg z, if_neg z, hc.2, if_neg z]; exact d6 o z
        · rw [y3]; simp [putc, gI_sI, gI_sJ, gI_sD]
          by_cases z : i = j
          · rw [if_pos z, if_pos z]
          · rw [if_neg z, if_neg z, hc.1.gI (by decide)]; exact (d7 i z).2
        · rw [y3] at h2
          show gA C2 1002 j i = _ ∧ gA C2 1003 j i = _
          rw [hc.1.gA (by decide), hc.1.gA (by decide), (d8 _ _).1, (d8 _ _).2, y4 i h2]
          exact f4 i h1 (by omega)
        · show gA C2 1002 j' i = _
          rw [hc.1.gA (by decide), (d8 _ _).1]
        · show gA C2 1003 j' i = _
          rw [hc.1.gA (by decide), (d8 _ _).2]
        · simp [putm, gI_sI]
        · rw [y5]; simp [putm, gI_sI, gI_sJ, gI_sD]; rw [Nat.add_assoc]
        · rw [y3]; simp [gI_sI]
        · rw [y3] at hi
          show gA M1 1915 0 _ = _ ∧ gA M1 1916 0 _ = _ ∧ gA M1 1917 0 _ = _ ∧ (1 ≤ i → gA M1 1924 0 _ = _)
          rw [(d11 _).1, (d11 _).2.1, (d11 _).2.2.1, (d11 _).2.2.2, y4 i hi]
          exact g6 i (by omega)
        · simp only [putc, gJ_sI, gJ_sJ, gJ_sD]
          rw [if_neg (fun w => ho w.2.1), hc.1.gJ (by decide), (d9 _ _).1]
        · simp only [putc, gD_sI, gD_sJ, gD_sD]
          rw [if_neg (fun w => ho w.2.1), hc.1.gD (by decide), (d9 _ _).2]
        · simp only [putm, gJ_sI, gJ_sJ, gJ_sD]
          rw [if_neg (fun w => by have := w.2.2; omega)]
          exact (d12 _).1
        · simp only [putm, gD_sI, gD_sJ, gD_sD]
          rw [if_neg (fun w => by have := w.2.2; omega)]
          exact (d12 _).2
        · rw [y5] at hi
          by_cases y : i = fb (qF s t)
          · subst y
            rw [y7 z]
            simp only [putc, putm, gJ_sI, gJ_sJ, gJ_sD, gD_sI, gD_sJ, gD_sD, and_self, if_true]
            rw [(d9 _ _).1, (d9 _ _).2, (d12 _).1, (d12 _).2, show B + h1 - 1 = B + (h1 - 1) by omega]
            exact hvv
          · have ne : ¬ B + i = B + fb (qF s t) := by omega
            simp only [putc, putm, gJ_sI, gJ_sJ, gJ_sD, gD_sI, gD_sJ, gD_sD, true_and, if_neg y, if_neg ne]
            rw [hc.1.gJ (by decide), hc.1.gD (by decide), (d9 _ _).1, (d9 _ _).2, (d12 _).1, (d12 _).2, y6 i (by omega)]
            exact v1 i (by omega)
