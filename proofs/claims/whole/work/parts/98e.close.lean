/-! PURE: steps: ELSE come to, END of an inner frame -/
theorem L_close {P : Prog} {f p : Nat} {s : SB} (l : Live s) (hq : 1 ≤ qn s) (h : pC P f p = 5 ∨ pC P f p = 6) (hb : qb (ckOne P f p s) = 0) : qh s = fb (sTop s) + (if fk (sTop s) = 0 then 0 else 1) ∧ (¬ fk (sTop s) = 0 → qK s (fb (sTop s)) = fk (sTop s)) := by
  have e : ckOne P f p s = cl (pC P f p) s := by
    unfold ckOne
    rw [if_neg (by omega), if_neg (by omega), if_neg (by omega), if_pos (by omega)]
  rw [e] at hb
  have hc : qb (cl2 (tkIf (fk (sTop s)) s)) = 0 := by
    unfold cl at hb
    rcases h with h | h
    · rw [if_pos h] at hb; exact (b_else hb).1
    · rw [if_neg (by omega)] at hb; exact (b_end hb).1
  have h2 := (b_cl2e hc).2
  rw [f_top (f_tkIf (fk (sTop s)) s)] at h2
  rcases L_tkIf l hq (b_cl2 hc) with ⟨z, e1⟩ | ⟨z, z1, z2, e1⟩
  · rw [e1] at h2
    rw [if_pos z]
    exact ⟨by omega, fun y => absurd z y⟩
  · rw [e1] at h2
    have h2 : qh s - 1 = fb (sTop s) := h2
    rw [if_neg z]
    refine ⟨by omega, fun _ => ?_⟩
    rw [← h2]; exact z2
theorem fk_le {P : Prog} {f m p : Nat} {s : SB} (h : Here P f m p s) {i : Nat} (hi : i < qn s) (hw : PW P) (hf : f < 6) (hc : chk P f = none) : fk (qF s i) ≤ 3 := by
  by_cases z : i = 0
  · rw [z, h.2.2.2.1.1]; exact (hw f hf).2.2.2.1
  · obtain ⟨k, hk⟩ := h.2.2.2.2.2.2.2
    obtain ⟨k0, b, sb, r, a1, a2, a3, a4, a5, a6, a7, a8, a9⟩ := back_go hw hf k p s hk i (by omega) hi
    have e := ck_bg (s := sb) a4 a5
    obtain ⟨fbx, e1, e2⟩ := fr_bg (pC P f b) (pC P f (b + 1)) b sb
    rw [← e] at e2
    have : fk (qF s i) = pC P f (b + 1) := by
      rw [a8.2.1.2.1, e2, ← a6]
      show fk (if qn sb = qn sb then _ else _) = _
      rw [if_pos rfl]; rfl
    rw [this]
    have hb := a3.2.2.2.2.2
    rw [e] at hb
    unfold bg at hb
    split at hb
    · exact (L_bg2 hb).1
    · exact (L_bg2 hb).1
theorem st_else {P : Prog} {c : Ct} {C M : St} {j f p op n B m : Nat} {s : SB} {Q : Int32 → St → St → Prop} (A : At P c C M j f p op n B m s) (ho : op = 5) (kk : ∀ r C' M', Res P C M r C' M' → Q r C' M') : wp6_step C (fun r C' => wp9_step M (fun M' => Q r C' M')) := by
  obtain ⟨j5, hf, hop, h16, hcell, B80, l, hq, hb, hpl, hnl, hl60⟩ := A.facts
  obtain ⟨bC, bM, hg, i34, c2, m14, v1⟩ := A.f2
  obtain ⟨F, eF, hF40, hq8, f1, f2, f3, f4, g1, g2, g3, g4, g5, g6, hw, hPC, hPM, hN, hck, hhere, -⟩ := A.frames
  have eop := A.op
  have hn : n = p + 1 := by
    have := A.2.2.2.2.2.2.1
    rw [sz_one (by omega)] at this; exact this
  have hA := A.here
  rw [hn] at hA
  obtain ⟨q, hqq⟩ : ∃ q, qn s = q + 1 := ⟨qn s - 1, by omega⟩
  have st : sTop s = qF s q := by unfold sTop; rw [hqq]; rfl
  obtain ⟨x1, x2⟩ := L_close l hq (Or.inl (by rw [eop, ho])) hb
  rw [st] at x1 x2
  have ae := after_else (t := q) (by rw [eop, ho]) hqq hb
  have q1 : 1 ≤ q := by
    by_cases z : q = 0
    · have := hhere.2.2.2.1.2.2.1
      rw [z] at ae
      rw [ae.2.1] at this
      exact absurd this (by decide)
    · omega
  obtain ⟨m', v, y1, y2, y3, y4, y5, y6, y7⟩ := end_state hw hf hhere (show q < qn s by omega) q1 (fun i hi => l.1 i (by omega)) (fun i hi => l.2 i (by rw [x1]; split <;> omega)) (fk_le hhere (by omega) hw hf hck)
  have en := note_at hw hN hf hhere q1 (show q < qn s by omega)
  have ee : endOf P f q (m + 1) p s = endOf P f q m (p + 1) (ckOne P f p s) := by
    show (if pC P f p = 6 ∧ qn s = q + 1 then p else endOf P f q m (p + szI P f p) (ckOne P f p s)) = _
    rw [if_neg (by omega), sz_one (by omega)]
  rw [ee] at y1 en
  have hend := y1.2.2.2.2.2.1
  rw [← x1] at y5
  have yk : ∀ i, i < qh s → qK v i = qK s i := by
    intro i hi
    rw [x1] at hi
    by_cases z : i < fb (qF s q)
    · exact y6 i z
    · by_cases w : fk (qF s q) = 0
      · rw [if_pos w] at hi; omega
      · rw [if_neg w] at hi
        rw [show i = fb (qF s q) by omega, y7 w, x2 w]
  have hb60 : fg (qF s q) < 60 := by
    have := hhere.2.2.2.2.1.2.1 q q1 (by omega)
    omega
  have mv := fun C' => A.mv (Q := fun M' => Q 0 C' M') (by omega) (by omega)
  refine A.cl (disp_fr (by omega) ?_)
  subst ho
  simp (decide := true) only [wp6_stepFrames, true_implies, false_implies, true_and, and_true, not_true, not_false_iff]
  unfold wp0_goBehindEnd
  intro S1 e1
  rw [show gI (cC j n C) 1006 j = nI (qn s) by simp [gI_sI]; exact f3, nI_dec hq, hqq, Nat.add_sub_cancel] at e1
  subst e1
  rw [show gI (sI (cC j n C) 1006 j (nI q)) 1006 j = nI q by simp [gI_sI], nI_clamp (by omega)]
  refine ⟨fun z => absurd z (nI_pos (by omega)), fun _ => ⟨fun z => absurd ((nI_leI (a := 8) (by omega) (by omega)).mp z) (by omega), fun _ => ?_⟩⟩
  rw [show gR (sI (cC j n C) 1006 j (nI q)) 1004 j = f from f1, show gA (sI (cC j n C) 1006 j (nI q)) 1002 j q = nI (fg (qF s q)) from (f4 q q1 (by omega)).1]
  refine ⟨hf, vp_in_nI (by omega) (by omega), c_behindEnd hb60 fun S3 e3 => ?_⟩
  rw [show gA (sI (cC j n C) 1006 j (nI q)) 1403 f (fg (qF s q)) = nI (endOf P f q m (p + 1) (ckOne P f p s) + 1) from en] at e3
  subst e3
  refine mv _ fun b hb2 => ?_
  simp (decide := true) only [wp9_moves, true_implies, false_implies, true_and, and_true, not_true, not_false_iff]
  intro S10 e10
  rw [show gI (mB M) 1920 0 = nI (F + qn s) by simp [mB, gI_sI]; exact g3, nI_dec (by omega), show F + qn s - 1 = F + q by omega] at e10
  subst e10
  have hPM' : PM P (sI (mB M) 1920 0 (nI (F + q))) := hPM.ag ((aYF M).sI (k := 1920) (by unfold kYF; omega)) (fun k z1 z2 y => by unfold kYF at y; omega)
  rw [show gI (sI (mB M) 1920 0 (nI (F + q))) 1931 0 = nI p by simp [mB, gI_sI]; exact g2, nI_1]
  refine m_seek (t := q) hPM' hw hf hA.1 hA.2.1 hA.2.2.1 ae.1 (fun _ => ?_) (fun z => absurd rfl z)
  intro S12 e12
  rw [nI_1] at e12
  subst e12
  refine kk _ _ _ (A.fr eF y1 y2 (by omega) (((aXF C j n).sI (by unfold kXF; omega)).sI (by unfold kXF; omega)) (((aYF M).sI (by unfold kYF; omega)).sI (by unfold kYF; omega)) ?_ ?_ (fun i => ?_) (fun o => ?_) (fun i => ?_) (fun i h1 h2 => ?_) (fun j' hj' i => ⟨rfl, rfl⟩) ?_ ?_ ?_ (fun i hi => ?_) (fun i hi => ⟨rfl, rfl, rfl, rfl⟩) (fun o _ i => ⟨rfl, rfl⟩) (fun i _ => ⟨rfl, rfl⟩) (fun i hi => ?_))
  · simp [gI_sI]; exact bM.2.1
  · simp [gI_sI]; exact i34
  · simp [gI_sI]; split <;> rfl
  · rw [y5]; simp [gI_sI]
    intro w
    have := c2
    simp [gI_sI] at this
    rw [w]; exact this
  · rw [y3]; simp [gI_sI]
  · rw [y3] at h2
    rw [y4 i h2]
    exact f4 i h1 (by omega)
  · simp [gI_sI]
  · rw [y5]; simp [gI_sI]; exact m14
  · rw [y3]; simp [gI_sI]
  · rw [y3] at hi
    rw [y4 i hi]
    exact g6 i (by omega)
  · rw [y5] at hi
    rw [yk i hi]
    exact v1 i hi
theorem st_end {P : Prog} {c : Ct} {C M : St} {j f p op n B m : Nat} {s : SB} {Q : Int32 → St → St → Prop} (A : At P c C M j f p op n B m s) (ho : op = 6) (h2 : 2 ≤ qn s) (kk : ∀ r C' M', Res P C M r C' M' → Q r C' M') : wp6_step C (fun r C' => wp9_step M (fun M' => Q r C' M')) := by
  obtain ⟨j5, hf, hop, h16, hcell, B80, l, hq, hb, hpl, hnl, hl60⟩ := A.facts
  obtain ⟨bC, bM, hg, i34, c2, m14, v1⟩ := A.f2
  obtain ⟨F, eF, hF40, hq8, f1, f2, f3, f4, g1, g2, g3, g4, g5, g6, hw, hPC, hPM, hN, hck, hhere, -⟩ := A.frames
  have eop := A.op
  have hn : n = p + 1 := by
    have := A.2.2.2.2.2.2.1
    rw [sz_one (by omega)] at this; exact this
  have hA := A.here
  obtain ⟨q, hqq⟩ : ∃ q, qn s = q + 1 := ⟨qn s - 1, by omega⟩
  have st : sTop s = qF s q := by unfold sTop; rw [hqq]; rfl
  obtain ⟨x1, x2⟩ := L_close l hq (Or.inr (by rw [eop, ho])) hb
  obtain ⟨a1, a2, a3, a4⟩ := after_end (t := q) (by rw [eop, ho]) hqq hb
  obtain ⟨a5, a6⟩ := a4 (by omega)
  have K := fun i (hi : i < fb (sTop s)) => K_one (P := P) (f := f) (pc := p) hhere.2.1.1 hq hi
  rw [st] at x1 x2 K
  rw [← x1] at a5
  have yk : ∀ i, i < qh s → qK (ckOne P f p s) i = qK s i := by
    intro i hi
    rw [x1] at hi
    by_cases z : i < fb (qF s q)
    · exact K i z
    · by_cases w : fk (qF s q) = 0
      · rw [if_pos w] at hi; omega
      · rw [if_neg w] at hi
        rw [show i = fb (qF s q) by omega, a6 w, x2 w]
  have lt : Live (ckOne P f p s) := by
    refine ⟨fun i hi => ?_, fun i hi => ?_⟩
    · rw [a1] at hi; rw [a2]; exact l.1 i (by omega)
    · rw [a5] at hi; rw [yk i hi]; exact l.2 i hi
  have mv := fun C' => A.mv (Q := fun M' => Q 0 C' M') (by omega) (by omega)
  refine A.cl (disp_fr (by omega) ?_)
  subst ho
  simp (decide := true) only [wp6_stepFrames, true_implies, false_implies, true_and, and_true, not_true, not_false_iff]
  unfold wp0_endFrame
  intro S1 e1
  rw [show gI (cC j n C) 1006 j = nI (qn s) by simp [gI_sI]; exact f3, nI_dec hq, hqq, Nat.add_sub_cancel] at e1
  subst e1
  rw [show gI (sI (cC j n C) 1006 j (nI q)) 1006 j = nI q by simp [gI_sI]]
  refine ⟨fun _ => mv _ fun b hb2 => ?_, fun z => absurd ((nI_ltI (a := 0) (by omega) (by omega)).mpr (by omega)) z⟩
  simp (decide := true) only [wp9_moves, true_implies, false_implies, true_and, and_true, not_true, not_false_iff]
  rw [show gI (mB M) 1930 0 = nI (j + 1) by simp [mB, gI_sI]; exact g1, nI_dec (by omega), Nat.add_sub_cancel, nI_clamp (by omega), show gI (mB M) 1920 0 = nI (F + qn s) by simp [mB, gI_sI]; exact g3, nI_dec (by omega), show F + qn s - 1 = F + q by omega, show gA (mB M) 1929 0 j = nI F from g5]
  refine ⟨vp_in_nI (by omega) (by omega), fun _ S13 e13 S14 e14 => ?_, fun z => absurd (nE (by omega) (by omega) z) (by omega)⟩
  subst e13
  rw [show gI (sI (mB M) 1920 0 (nI (F + q))) 1931 0 = nI p by simp [mB, gI_sI]; exact g2, nI_1] at e14
  subst e14
  refine kk _ _ _ (A.fr eF hA lt (by omega) ((aXF C j n).sI (by unfold kXF; omega)) (((aYF M).sI (by unfold kYF; omega)).sI (by unfold kYF; omega)) ?_ ?_ (fun i => ?_) (fun o => ?_) (fun i => ?_) (fun i h1 h2 => ?_) (fun j' hj' i => ⟨rfl, rfl⟩) ?_ ?_ ?_ (fun i hi => ?_) (fun i hi => ⟨rfl, rfl, rfl, rfl⟩) (fun o _ i => ⟨rfl, rfl⟩) (fun i _ => ⟨rfl, rfl⟩) (fun i hi => ?_))
  · simp [gI_sI]; exact bM.2.1
  · simp [gI_sI]; exact i34
  · simp [gI_sI]
  · rw [a5]; simp [gI_sI]
    intro w
    have := c2
    simp [gI_sI] at this
    rw [w]; exact this
  · rw [a1]; simp [gI_sI]
  · rw [a1] at h2
    rw [a2]
    exact f4 i h1 (by omega)
  · simp [gI_sI, hn]
  · rw [a5]; simp [gI_sI]; exact m14
  · rw [a1]; simp [gI_sI]
  · rw [a1] at hi
    rw [a2]
    exact g6 i (by omega)
  · rw [a5] at hi
    rw [yk i hi]
    exact v1 i hi
