theorem c_lacks {S : St} {o op e : Nat} {Q : Int32 → St → Prop} (h1 : gI S 1301 o = nI (opn op)) (h2 : gI S 1305 o = nI e) (ho : op < 256) (he : e ≤ 1) (k1 : op = 4 ∧ e = 0 → Q 1 S) (k0 : ¬ (op = 4 ∧ e = 0) → Q 0 S) : wp3_lacksElse S o Q := by
  have hopn : opn op < 256 ∧ (opn op = 4 ↔ op = 4) := by
    unfold opn
    split
    · omega
    · exact ⟨ho, Iff.rfl⟩
  unfold wp3_lacksElse
  rw [h1, h2]
  refine ⟨fun c => k0 fun z => nN (b := 4) c (hopn.2.mpr z.1), fun c => ⟨fun c2 => k0 fun z => nN (b := 0) c2 z.2, fun c2 => k1 ⟨hopn.2.mp (nE (b := 4) (by omega) (by omega) c), nE (b := 0) (by omega) (by omega) c2⟩⟩⟩
theorem cb_set {C0 : St} {f : Nat} {C : St} {k i : Nat} {v : Int32} (hk : 1303 ≤ k ∧ k ≤ 1305) (h : RTb C0 f C) : RTb C0 f (sI C k i v) := by
  obtain ⟨h1, h2, ⟨q1, q2, ⟨x, q3, q4⟩, y, q5, q6⟩, h4⟩ := h
  refine ⟨h1.sI (Or.inr (Or.inl ⟨by omega, hk.2⟩)), h2, ⟨q1, fun j hj => ?_, ⟨x, q3, ?_⟩, y, q5, ?_⟩, ?_⟩
  · obtain ⟨b, b1, b2⟩ := q2 j hj
    refine ⟨b, b1, ?_⟩
    rw [gI_sI, if_neg (by omega)]; exact b2
  · rw [gI_sI, if_neg (by omega)]; exact q4
  · rw [gI_sI, if_neg (by omega)]; exact q6
  · rw [gI_sI, if_neg (by omega)]; exact h4
theorem b_else {s : SB} (h : qb (clElse s) = 0) : qb s = 0 ∧ fo (sTop s) = 4 ∧ fe (sTop s) = 0 := by
  unfold clElse at h
  split at h
  · rename_i c; exact ⟨h, c⟩
  · exact absurd h (by show ¬ 1 = 0; decide)
theorem f_clt (s : SB) : qn (cl2 (tkIf (fk (sTop s)) s)) = qn s ∧ qF (cl2 (tkIf (fk (sTop s)) s)) = qF s := ⟨(f_cl2 _).1.trans (f_tkIf _ s).1, (f_cl2 _).2.trans (f_tkIf _ s).2⟩
theorem c_else {C0 : St} {f : Nat} {s : SB} {N : Nt} {C : St} {pc : Nat} {Q : St → Prop} (hf : f < 6) (h : RT C0 f s N C) (g : WG s) (hb : qb s = 0) (h1 : 1 ≤ qn s) (hg : fg (sTop s) ≤ 60) (kk : ∀ C', RT C0 f (cl 5 s) (fup N.1 (fg (sTop s)) (pc + 1), N.2) C' → Q C') : wp2_turnToElse C (nI pc) Q := by
  obtain ⟨a1, a2, a3, a4, a5, a6, a7, a8, a9, a10⟩ := h.g hb
  have hn := (g.2 hb).1
  have f1 := a9 (qn s - 1) (by omega)
  have w5 := w_top g.1 h1
  have e5 : cl 5 s = clElse (cl2 (tkIf (fk (sTop s)) s)) := if_pos rfl
  rw [e5] at kk
  have ft := f_clt s
  have etop := f_top ft
  unfold wp2_turnToElse
  rw [a7]
  refine ⟨by omega, c_lacks f1.2.1 f1.2.2.2.2.2 w5.1 w5.2.2.2.2 (fun z => ⟨fun _ => ?_, fun c => absurd c (by decide)⟩) (fun z => ⟨fun c => absurd rfl c, fun _ S6 e => ?_⟩)⟩
  · refine c_all h g h1 fun C' h' => ?_
    have gt := g_cl2 (g_tkIf g (fk (sTop s)))
    generalize cl2 (tkIf (fk (sTop s)) s) = t at h' ft etop gt kk
    have z' : fo (sTop t) = 4 ∧ fe (sTop t) = 0 := by rw [etop]; exact z
    have e6 : clElse t = clElse1 t := if_pos z'
    rw [e6] at kk
    refine ⟨h'.c.2.2.1, fun S3 e => ?_⟩
    subst e
    refine ⟨h'.c.2.2.1, fun S4 e => ?_⟩
    subst e
    refine ⟨by show gR C' 1203 0 < 6; rw [h'.c.2.1]; exact hf, h'.c.2.2.1, ?_⟩
    rw [show gR (sI (sI C' 1304 (gR C' 1204 0) 0) 1305 (gR (sI C' 1304 (gR C' 1204 0) 0) 1204 0) 1) 1203 0 = f from h'.c.2.1]
    by_cases hbt : qb t = 0
    · obtain ⟨d1, d2, d3, d4, d5, d6, d7, d8, d9, d10⟩ := h'.g hbt
      have hq1 : 1 ≤ qn t := by rw [ft.1]; exact h1
      have e7 : gR (sI C' 1304 (gR C' 1204 0) 0) 1204 0 = qn t - 1 := d7
      rw [e7, d7]
      have hnt : qn t ≤ 8 := (gt.2 hbt).1
      have ff := d9 (qn t - 1) (by omega)
      have e8 : gI (sI (sI C' 1304 (qn t - 1) 0) 1305 (qn t - 1) 1) 1300 (gR (sI (sI C' 1304 (qn t - 1) 0) 1305 (qn t - 1) 1) 1204 0) = gbeg (fg (sTop s)) := by
        rw [show gR (sI (sI C' 1304 (qn t - 1) 0) 1305 (qn t - 1) 1) 1204 0 = qn t - 1 from d7]
        have : gI C' 1300 (qn t - 1) = gbeg (fg (sTop t)) := ff.1
        rw [etop] at this
        simpa [gI_sI] using this
      rw [e8, nI_1]
      have k13 : ∀ k, 1300 ≤ k → k ≤ 1305 → kC k := fun k z1 z2 => Or.inr (Or.inl ⟨z1, z2⟩)
      obtain ⟨p1, p2, ⟨x, p3, p4⟩, y, p5, p6⟩ := d3
      refine c_noteElse (s := clElse1 t) ⟨(d1.sI (k13 _ (by decide) (by decide))).sI (k13 _ (by decide) (by decide)), d2, ⟨p1, fun i hi => ?_, ⟨x, p3, ?_⟩, y, p5, ?_⟩, ?_, ?_, ?_, d7, fun i hi => ?_, fun i hi => ?_, fun i hi => ?_⟩ hg (v := pc + 1) (fun C'' h'' => kk C'' (RTg.t h'' hbt))
      · obtain ⟨b, b1, b2⟩ := p2 i hi
        exact ⟨b, b1, by simpa [gI_sI] using b2⟩
      · simpa [gI_sI] using p4
      · simpa [gI_sI] using p6
      · simpa [gI_sI] using d4
      · simp [gI_sI]; exact d5
      · simp [gI_sI]; exact d6
      · have := d8 i hi
        simp only [gA_sI]; exact this
      · have hi : i < qn t := hi
        have hf := d9 i hi
        by_cases zi : i = qn t - 1
        · subst zi
          refine ⟨?_, ?_, ?_, ?_, ?_, ?_⟩
          · simpa [gI_sI, clElse1, sTop, qF, qn, fup, fo, fk, fb, fd, fe, fg] using hf.1
          · simpa [gI_sI, clElse1, sTop, qF, qn, fup, fo, fk, fb, fd, fe, fg] using hf.2.1
          · simpa [gI_sI, clElse1, sTop, qF, qn, fup, fo, fk, fb, fd, fe, fg] using hf.2.2.1
          · simpa [gI_sI, clElse1, sTop, qF, qn, fup, fo, fk, fb, fd, fe, fg] using hf.2.2.2.1
          · simp [gI_sI, clElse1, sTop, qF, qn, fup, fo, fk, fb, fd, fe, fg, ← l0]
          · simp [gI_sI, clElse1, sTop, qF, qn, fup, fo, fk, fb, fd, fe, fg, ← l1]
        · refine ⟨?_, ?_, ?_, ?_, ?_, ?_⟩
          · simpa [gI_sI, clElse1, sTop, qF, fup, zi] using hf.1
          · simpa [gI_sI, clElse1, sTop, qF, fup, zi] using hf.2.1
          · simpa [gI_sI, clElse1, sTop, qF, fup, zi] using hf.2.2.1
          · simpa [gI_sI, clElse1, sTop, qF, fup, zi] using hf.2.2.2.1
          · simpa [gI_sI, clElse1, sTop, qF, fup, zi] using hf.2.2.2.2.1
          · simpa [gI_sI, clElse1, sTop, qF, fup, zi] using hf.2.2.2.2.2
      · have := d10 i hi
        simp only [gA_sI]; exact this
    · have hB := h'.b hbt
      exact cb_noteElse (cb_set ⟨by decide, by decide⟩ (cb_set ⟨by decide, by decide⟩ hB)) fun C'' h'' => kk C'' (RTb.t h'' hbt)
  · subst e
    refine kk _ (RTb.t (c_bad ⟨a1, a2, a3⟩) fun y => z ?_)
    have := (b_else y).2
    rw [etop] at this
    exact this
