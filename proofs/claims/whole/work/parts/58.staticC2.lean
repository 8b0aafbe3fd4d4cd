theorem AgC.noteE {f : Nat} {C0 C : St} (h : AgC f C0 C) {j : Nat} {v : Int32} : AgC f C0 (sA C 1402 f j v) := by
  refine ⟨h.1.sA (Or.inr (Or.inr (Or.inl rfl))), fun g hg j' => ?_⟩
  have := h.2 g hg j'
  simpa [gA_sA, hg] using this
theorem AgC.noteB {f : Nat} {C0 C : St} (h : AgC f C0 C) {j : Nat} {v : Int32} : AgC f C0 (sA C 1403 f j v) := by
  refine ⟨h.1.sA (Or.inr (Or.inr (Or.inr rfl))), fun g hg j' => ?_⟩
  have := h.2 g hg j'
  simpa [gA_sA, hg] using this
theorem cb_noteElse {C0 : St} {f : Nat} {C : St} {x y : Int32} {Q : St → Prop} (h : RTb C0 f C) (kk : ∀ C', RTb C0 f C' → Q C') : wp4_noteElse C f x y Q := by
  unfold wp4_noteElse
  refine ⟨fun _ => kk _ h, fun c => ⟨fun _ => kk _ h, fun c2 => ?_⟩⟩
  have hv : vp_in x 60 := by
    intro z
    rcases z with z | z
    · exact c z
    · obtain ⟨j, hj, e⟩ := nI_of c
      subst e
      rw [nI_clamp hj] at z
      exact c2 ((nI_leI (a := 60) (by omega) hj).mpr z)
  refine ⟨hv, fun S1 e => ?_⟩
  subst e
  exact kk _ ⟨h.1.noteE, h.2.1, h.2.2.1, h.2.2.2⟩
theorem cb_noteEnd {C0 : St} {f : Nat} {C : St} {x y : Int32} {Q : St → Prop} (h : RTb C0 f C) (kk : ∀ C', RTb C0 f C' → Q C') : wp4_noteEnd C f x y Q := by
  unfold wp4_noteEnd
  refine ⟨fun _ => kk _ h, fun c => ⟨fun _ => kk _ h, fun c2 => ?_⟩⟩
  have hv : vp_in x 60 := by
    intro z
    rcases z with z | z
    · exact c z
    · obtain ⟨j, hj, e⟩ := nI_of c
      subst e
      rw [nI_clamp hj] at z
      exact c2 ((nI_leI (a := 60) (by omega) hj).mpr z)
  refine ⟨hv, fun S1 e => ?_⟩
  subst e
  exact kk _ ⟨h.1.noteB, h.2.1, h.2.2.1, h.2.2.2⟩
theorem c_noteElse {C0 : St} {f : Nat} {s : SB} {N : Nt} {C : St} {b v : Nat} {Q : St → Prop} (h : RTg C0 f s N C) (hb : b ≤ 60) (kk : ∀ C', RTg C0 f s (fup N.1 b (nI v), N.2) C' → Q C') : wp4_noteElse C f (gbeg b) (nI v) Q := by
  obtain ⟨a1, a2, a3, a4, a5, a6, a7, a8, a9, a10⟩ := id h
  unfold wp4_noteElse
  have keep : b = 60 → Q C := by
    intro z
    refine kk _ ⟨a1, a2, a3, a4, a5, a6, a7, a8, a9, fun i hi => ?_⟩
    show gA C 1402 f i = (if i = b then nI v else N.1 i) ∧ _
    rw [if_neg (by omega)]
    exact a10 i hi
  unfold gbeg
  by_cases z : b = 60
  · rw [if_pos z]
    exact ⟨fun _ => keep z, fun c => absurd (by decide) c⟩
  · rw [if_neg z]
    refine ⟨fun c => absurd c (nI_pos (by omega)), fun _ => ⟨fun c => absurd ((nI_leI (a := 60) (by omega) (by omega)).mp c) (by omega), fun _ => ⟨vp_in_nI (by omega) (by omega), fun S1 e => ?_⟩⟩⟩
    rw [nI_clamp (by omega)] at e
    subst e
    refine kk _ ⟨a1.noteE, a2, a3, a4, a5, a6, a7, fun i hi => ?_, a9, fun i hi => ?_⟩
    · have := a8 i hi
      simpa [gA_sA] using this
    · have := a10 i hi
      show (if 1402 = 1402 ∧ f = f ∧ i = b then nI v else gA C 1402 f i) = (if i = b then nI v else N.1 i) ∧ gA (sA C 1402 f b (nI v)) 1403 f i = _
      refine ⟨?_, ?_⟩
      · by_cases zi : i = b
        · simp [zi]
        · simp [zi]; exact this.1
      · simpa [gA_sA] using this.2
theorem c_noteEnd {C0 : St} {f : Nat} {s : SB} {N : Nt} {C : St} {b v : Nat} {Q : St → Prop} (h : RTg C0 f s N C) (hb : b ≤ 60) (kk : ∀ C', RTg C0 f s (N.1, fup N.2 b (nI v)) C' → Q C') : wp4_noteEnd C f (gbeg b) (nI v) Q := by
  obtain ⟨a1, a2, a3, a4, a5, a6, a7, a8, a9, a10⟩ := id h
  unfold wp4_noteEnd
  have keep : b = 60 → Q C := by
    intro z
    refine kk _ ⟨a1, a2, a3, a4, a5, a6, a7, a8, a9, fun i hi => ?_⟩
    show _ ∧ gA C 1403 f i = (if i = b then nI v else N.2 i)
    rw [if_neg (by omega)]
    exact a10 i hi
  unfold gbeg
  by_cases z : b = 60
  · rw [if_pos z]
    exact ⟨fun _ => keep z, fun c => absurd (by decide) c⟩
  · rw [if_neg z]
    refine ⟨fun c => absurd c (nI_pos (by omega)), fun _ => ⟨fun c => absurd ((nI_leI (a := 60) (by omega) (by omega)).mp c) (by omega), fun _ => ⟨vp_in_nI (by omega) (by omega), fun S1 e => ?_⟩⟩⟩
    rw [nI_clamp (by omega)] at e
    subst e
    refine kk _ ⟨a1.noteB, a2, a3, a4, a5, a6, a7, fun i hi => ?_, a9, fun i hi => ?_⟩
    · have := a8 i hi
      simpa [gA_sA] using this
    · have := a10 i hi
      show gA (sA C 1403 f b (nI v)) 1402 f i = _ ∧ (if 1403 = 1403 ∧ f = f ∧ i = b then nI v else gA C 1403 f i) = (if i = b then nI v else N.2 i)
      refine ⟨?_, ?_⟩
      · simpa [gA_sA] using this.1
      · by_cases zi : i = b
        · simp [zi]
        · simp [zi]; exact this.2
theorem cb_begin {C0 : St} {f : Nat} {C : St} {x1 x2 x3 : Int32} {Q : St → Prop} (hf : f < 6) (h : RTb C0 f C) (kk : ∀ C', RTb C0 f C' → Q C') : wp2_beginFrame C x1 x2 x3 Q := by
  obtain ⟨h1, h2, h3, h4⟩ := id h
  obtain ⟨q1, q2, ⟨y, q3, q4⟩, n, q5, q6⟩ := id h3
  have bad : ∀ S1, S1 = sI C 1207 0 1 → Q S1 := fun S1 e => by subst e; exact kk _ (c_bad' h)
  unfold wp2_beginFrame
  refine ⟨fun _ => bad, fun _ => ⟨fun _ => bad, fun c => ⟨fun _ => ?_, fun _ => bad⟩⟩⟩
  rw [q6] at c ⊢
  have c : ¬ 8 ≤ n := fun z => c ((nI_leI (a := 8) (by omega) (by omega)).mpr z)
  refine ⟨vp_in_nI (by omega) (by omega), fun S3 e3 => ?_⟩
  rw [nI_clamp (by omega)] at e3
  subst e3
  rw [show gR (sR C 1204 0 n) 1204 0 = n from rfl]
  refine ⟨by omega, ?_⟩
  unfold wp3_open
  intro S1 e1 S2 e2 S3 e3 S4 e4 S5 e5 S6 e6 S7 e7
  subst e1; subst e2; subst e3; subst e4; subst e5; subst e6; subst e7
  rw [show gI (sR C 1204 0 n) 1205 0 = nI y from q4]
  have k13 : ∀ k, 1300 ≤ k → k ≤ 1305 → kC k := fun k z1 z2 => Or.inr (Or.inl ⟨z1, z2⟩)
  have hA : AgC f C0 (sI (sI (sI (sI (sI (sI (sI (sR C 1204 0 n) 1300 n x1) 1301 n x2) 1302 n (nI y)) 1303 n x3) 1304 n 0) 1305 n 0) 1206 0 (nI (n + 1))) :=
    (((((((h1.sR (Or.inl ⟨by decide, by decide⟩)).sI (k13 _ (by decide) (by decide))).sI (k13 _ (by decide) (by decide))).sI (k13 _ (by decide) (by decide))).sI (k13 _ (by decide) (by decide))).sI (k13 _ (by decide) (by decide))).sI (k13 _ (by decide) (by decide))).sI (Or.inl ⟨by decide, by decide⟩)
  rw [show gI (sI (sI (sI (sI (sI (sI (sR C 1204 0 n) 1300 n x1) 1301 n x2) 1302 n (nI y)) 1303 n x3) 1304 n 0) 1305 n 0) 1206 0 + 1 = nI (n + 1) by
    rw [show gI (sI (sI (sI (sI (sI (sI (sR C 1204 0 n) 1300 n x1) 1301 n x2) 1302 n (nI y)) 1303 n x3) 1304 n 0) 1305 n 0) 1206 0 = gI C 1206 0 by simp [gI_sI, gI_sR], q6]; exact nI_1 n]
  refine ⟨?_, ?_⟩
  · show gR C 1203 0 < 6
    rw [h2]; exact hf
  · rw [show gR (sI (sI (sI (sI (sI (sI (sI (sR C 1204 0 n) 1300 n x1) 1301 n x2) 1302 n (nI y)) 1303 n x3) 1304 n 0) 1305 n 0) 1206 0 (nI (n + 1))) 1203 0 = f from h2]
    refine cb_noteElse ⟨hA, h2, ⟨by show n < 8; omega, fun i hi => ?_, ⟨y, q3, ?_⟩, n + 1, by omega, ?_⟩, ?_⟩ kk
    · obtain ⟨b, b1, b2⟩ := q2 i hi
      by_cases z : i = n
      · exact ⟨y, q3, by simp [gI_sI, z]⟩
      · exact ⟨b, b1, by simpa [gI_sI, gI_sR, z] using b2⟩
    · simpa [gI_sI, gI_sR] using q4
    · simp [gI_sI]
    · simpa [gI_sI, gI_sR] using h4
theorem b_bg2 {op k pc : Nat} {s : SB} (h : qb (bg2 op k pc s) = 0) : qb s = 0 := by
  unfold bg2 at h
  split at h
  · exact absurd h (by show ¬ 1 = 0; decide)
  · exact h
theorem c_begin {C0 : St} {f : Nat} {s : SB} {N : Nt} {C : St} {op op' k pc : Nat} {Q : St → Prop} (hf : f < 6) (h : RT C0 f s N C) (g : WG s) (ho : op' = opn op) (hk : k < 256) (hp : pc ≤ 60) (kk : ∀ C', RT C0 f (bg2 op k pc s) (fup N.1 pc 0, N.2) C' → Q C') : wp2_beginFrame C (gbeg pc) (nI op') (nI k) Q := by
  by_cases hb : qb s = 0
  · obtain ⟨a1, a2, a3, a4, a5, a6, a7, a8, a9, a10⟩ := h.g hb
    have hn := (g.2 hb).1
    have w1 := g.1.1
    unfold wp2_beginFrame
    have bad : (3 < k ∨ qn s = 8) → ∀ S1, S1 = sI C 1207 0 1 → Q S1 := by
      intro z S1 e; subst e
      have e2 : bg2 op k pc s = bg1 op k pc (sBad s) := if_pos z
      rw [e2] at kk
      exact kk _ (RTb.t (c_bad ⟨a1, a2, a3⟩) (by show ¬ 1 = 0; decide))
    rw [a6]
    refine ⟨fun c => absurd c (nI_pos (by omega)), fun _ => ⟨fun c => bad (Or.inr ?_), fun c => ⟨fun c2 => ?_, fun c2 => bad (Or.inl ?_)⟩⟩⟩
    · have := (nI_leI (a := 8) (by omega) (by omega)).mp c
      omega
    · have c : ¬ 8 ≤ qn s := fun z => c ((nI_leI (a := 8) (by omega) (by omega)).mpr z)
      have c2 := (nI_leI (b := 3) (by omega) (by omega)).mp c2
      have e2 : bg2 op k pc s = bg1 op k pc s := if_neg (by omega)
      rw [e2] at kk
      refine ⟨vp_in_nI (by omega) (by omega), fun S3 e3 => ?_⟩
      rw [nI_clamp (by omega)] at e3
      subst e3
      rw [show gR (sR C 1204 0 (qn s)) 1204 0 = qn s from rfl]
      refine ⟨by omega, ?_⟩
      unfold wp3_open
      intro S1 e1 S2 e2 S3 e3 S4 e4 S5 e5 S6 e6 S7 e7
      subst e1; subst e2; subst e3; subst e4; subst e5; subst e6; subst e7
      rw [show gI (sR C 1204 0 (qn s)) 1205 0 = nI (qh s) from a5]
      have k13 : ∀ k, 1300 ≤ k → k ≤ 1305 → kC k := fun k z1 z2 => Or.inr (Or.inl ⟨z1, z2⟩)
      have hA : AgC f C0 (sI (sI (sI (sI (sI (sI (sI (sR C 1204 0 (qn s)) 1300 (qn s) (gbeg pc)) 1301 (qn s) (nI op')) 1302 (qn s) (nI (qh s))) 1303 (qn s) (nI k)) 1304 (qn s) 0) 1305 (qn s) 0) 1206 0 (nI (qn s + 1))) :=
        (((((((a1.sR (Or.inl ⟨by decide, by decide⟩)).sI (k13 _ (by decide) (by decide))).sI (k13 _ (by decide) (by decide))).sI (k13 _ (by decide) (by decide))).sI (k13 _ (by decide) (by decide))).sI (k13 _ (by decide) (by decide))).sI (k13 _ (by decide) (by decide))).sI (Or.inl ⟨by decide, by decide⟩)
      rw [show gI (sI (sI (sI (sI (sI (sI (sR C 1204 0 (qn s)) 1300 (qn s) (gbeg pc)) 1301 (qn s) (nI op')) 1302 (qn s) (nI (qh s))) 1303 (qn s) (nI k)) 1304 (qn s) 0) 1305 (qn s) 0) 1206 0 + 1 = nI (qn s + 1) by
        rw [show gI (sI (sI (sI (sI (sI (sI (sR C 1204 0 (qn s)) 1300 (qn s) (gbeg pc)) 1301 (qn s) (nI op')) 1302 (qn s) (nI (qh s))) 1303 (qn s) (nI k)) 1304 (qn s) 0) 1305 (qn s) 0) 1206 0 = gI C 1206 0 by simp [gI_sI, gI_sR], a6]; exact nI_1 _]
      refine ⟨by show gR C 1203 0 < 6; rw [a2]; exact hf, ?_⟩
      rw [show gR (sI (sI (sI (sI (sI (sI (sI (sR C 1204 0 (qn s)) 1300 (qn s) (gbeg pc)) 1301 (qn s) (nI op')) 1302 (qn s) (nI (qh s))) 1303 (qn s) (nI k)) 1304 (qn s) 0) 1305 (qn s) 0) 1206 0 (nI (qn s + 1))) 1203 0 = f from a2]
      obtain ⟨p1, p2, ⟨x, p3, p4⟩, y, p5, p6⟩ := a3
      refine c_noteElse (s := bg1 op k pc s) ⟨hA, a2, ⟨by show qn s < 8; omega, fun i hi => ?_, ⟨x, p3, ?_⟩, qn s + 1, by omega, ?_⟩, ?_, ?_, ?_, ?_, fun i hi => ?_, fun i hi => ?_, fun i hi => ?_⟩ hp (v := 0) (fun C' h' => kk C' (RTg.t h' hb))
      · obtain ⟨b, b1, b2⟩ := p2 i hi
        by_cases z : i = qn s
        · exact ⟨qh s, w1, by simp [gI_sI, z]⟩
        · exact ⟨b, b1, by simpa [gI_sI, gI_sR, z] using b2⟩
      · simpa [gI_sI, gI_sR] using p4
      · simp [gI_sI]
      · simpa [gI_sI, gI_sR] using a4
      · simp [gI_sI, gI_sR]
        exact a5
      · simp [gI_sI, bg1, qn]
      · show qn s = qn s + 1 - 1; omega
      · have := a8 i hi
        simp only [gA_sI, gA_sR]; exact this
      · have hi : i < qn s + 1 := hi
        by_cases z : i = qn s
        · subst z
          refine ⟨?_, ?_, ?_, ?_, ?_, ?_⟩ <;> simp [gI_sI, gI_sR, bg1, qF, fup, fo, fk, fb, fd, fe, fg, ho, ← l0]
        · have hf := a9 i (by omega)
          refine ⟨?_, ?_, ?_, ?_, ?_, ?_⟩
          · simpa [gI_sI, gI_sR, bg1, qF, fup, z] using hf.1
          · simpa [gI_sI, gI_sR, bg1, qF, fup, z] using hf.2.1
          · simpa [gI_sI, gI_sR, bg1, qF, fup, z] using hf.2.2.1
          · simpa [gI_sI, gI_sR, bg1, qF, fup, z] using hf.2.2.2.1
          · simpa [gI_sI, gI_sR, bg1, qF, fup, z] using hf.2.2.2.2.1
          · simpa [gI_sI, gI_sR, bg1, qF, fup, z] using hf.2.2.2.2.2
      · have := a10 i hi
        simp only [gA_sI, gA_sR]; exact this
    · have : ¬ k ≤ 3 := fun z => c2 ((nI_leI (b := 3) (by omega) (by omega)).mpr z)
      omega
  · exact cb_begin hf (h.b hb) fun C' h' => kk C' (RTb.t h' (fun z => hb (b_bg2 z)))
theorem cb_all {C0 : St} {f : Nat} {C : St} {Q : St → Prop} (h : RTb C0 f C) (kk : ∀ C', RTb C0 f C' → Q C') : wp2_takeAllOfFrame C Q := by
  unfold wp2_takeAllOfFrame
  refine ⟨h.2.2.1.1, cb_take h fun r C' h' => ⟨h'.2.2.1.1, fun _ => kk _ h', fun _ S2 e => ?_⟩⟩
  subst e
  exact kk _ (c_bad' h')
theorem b_cl2 {s : SB} (h : qb (cl2 s) = 0) : qb s = 0 := by
  unfold cl2 at h
  split at h
  · exact h
  · exact absurd h (by show ¬ 1 = 0; decide)
/-- what the class asks before it takes all: both orders tell the same -/
theorem c_all {C0 : St} {f : Nat} {s : SB} {N : Nt} {C : St} {Q : St → Prop} (h : RT C0 f s N C) (g : WG s) (h1 : 1 ≤ qn s) (kk : ∀ C', RT C0 f (cl2 (tkIf (fk (sTop s)) s)) N C' → Q C') : wp2_takeAllOfFrame C Q := by
  by_cases hb : qb s = 0
  · have hR := h.g hb
    obtain ⟨a1, a2, a3, a4, a5, a6, a7, a8, a9, a10⟩ := id hR
    have hn := (g.2 hb).1
    have f1 := a9 (qn s - 1) (by omega)
    have hk := (g.2 hb).2.1 (qn s - 1) (by omega)
    unfold wp2_takeAllOfFrame
    rw [a7, f1.2.2.2.1]
    refine ⟨by omega, c_take h g h1 (by omega) (by omega) fun r C' h' => ?_⟩
    have ft := f_tkIf (fk (sTop s)) s
    have gt := g_tkIf g (fk (sTop s))
    have h'' : RT C0 f (tkIf (fk (sTop s)) s) N C' := h'
    generalize tkIf (fk (sTop s)) s = t at h'' ft gt kk
    refine ⟨h''.c.2.2.1, ?_⟩
    by_cases hbt : qb t = 0
    · obtain ⟨d1, d2, d3, d4, d5, d6, d7, d8, d9, d10⟩ := h''.g hbt
      have hq1 : 1 ≤ qn t := by rw [ft.1]; exact h1
      have ff := d9 (qn t - 1) (by omega)
      have ww := gt.1.2.2.2.2.1 (qn t - 1) (by omega)
      have w1 := gt.1.1
      rw [d5, d7, ff.2.2.1]
      unfold cl2 at kk
      refine ⟨fun c => ?_, fun c => ?_⟩
      · have c0 := nE (b := fb (qF t (qn t - 1))) (by omega) (by omega) c
        have c' : qh t = fb (sTop t) := c0
        rw [if_pos c'] at kk
        exact kk _ h''
      · have c' : ¬ qh t = fb (sTop t) := nN c
        rw [if_neg c'] at kk
        intro S2 e; subst e
        exact kk _ (RTb.t (c_bad ⟨d1, d2, d3⟩) e_bad)
    · have hB := h''.b hbt
      have nb : ¬ qb (cl2 t) = 0 := fun z => hbt (b_cl2 z)
      exact ⟨fun _ => kk _ (RTb.t hB nb), fun _ S2 e => by subst e; exact kk _ (RTb.t (c_bad' hB) nb)⟩
  · exact cb_all (h.b hb) fun C' h' => kk C' (RTb.t h' (fun z => hb (b_tkIf _ _ (b_cl2 z))))
