theorem c_lacks {S : St} {o op e : Nat} {Q : Int32 → St → Prop} (h1 : gI S 1301 o = nI (opn op)) (h2 : gI S 1305 o = nI e) (ho : op < 256) (he : e ≤ 1) (k1 : op = 4 ∧ e = 0 → Q 1 S) (k0 : ¬ (op = 4 ∧ e = 0) → Q 0 S) : wp3_lacksElse S o Q := by
  have hopn : opn op < 256 ∧ (opn op = 4 ↔ op = 4) := by
    unfold opn
    split
    · omega
    · exact ⟨ho, Iff.rfl⟩
  unfold wp3_lacksElse
  rw [h1, h2]
  refine ⟨fun c => k0 fun z => nN (b := 4) c (hopn.2.mpr z.1), fun c => ⟨fun c2 => k0 fun z => nN (b := 0) c2 z.2, fun c2 => k1 ⟨hopn.2.mp (nE (b := 4) (by omega) (by omega) c), nE (b := 0) (by omega) (by omega) c2⟩⟩⟩
theorem cb_set {C0 : St} {f : Nat} {C : St} {k i : Nat} {v : Int32} (hk : 1303 ≤ k ∧ k ≤ 1305) (h : RTb C0 f C) : RTb C0 f (sI C k i v) := by
  obtain ⟨h1, h2, ⟨q1, q2, ⟨x, q3, q4⟩, y, q5, q6⟩, h4⟩ := h
  refine ⟨h1.sI (Or.inr (Or.inl ⟨by omega, hk.2⟩)), h2, ⟨q1, fun j hj => ?_, ⟨x, q3, ?_⟩, y, q5, ?_⟩, ?_⟩
  · obtain ⟨b, b1, b2⟩ := q2 j hj
    refine ⟨b, b1, ?_⟩
    rw [gI_sI, if_neg (by omega)]; exact b2
  · rw [gI_sI, if_neg (by omega)]; exact q4
  · rw [gI_sI, if_neg (by omega)]; exact q6
  · rw [gI_sI, if_neg (by omega)]; exact h4
theorem b_else {s : SB} (h : qb (clElse s) = 0) : qb s = 0 ∧ fo (sTop s) = 4 ∧ fe (sTop s) = 0 := by
  unfold clElse at h
  split at h
  · rename_i c; exact ⟨h, c⟩
  · exact absurd h (by show ¬ 1 = 0; decide)
theorem f_clt (s : SB) : qn (cl2 (tkIf (fk (sTop s)) s)) = qn s ∧ qF (cl2 (tkIf (fk (sTop s)) s)) = qF s := ⟨(f_cl2 _).1.trans (f_tkIf _ s).1, (f_cl2 _).2.trans (f_tkIf _ s).2⟩
theorem c_else {C0 : St} {f : Nat} {s : SB} {N : Nt} {C : St} {pc : Nat} {Q : St → Prop} (hf : f < 6) (h : RT C0 f s N C) (g : WG s) (hb : qb s = 0) (h1 : 1 ≤ qn s) (hg : fg (sTop s) ≤ 60) (kk : ∀ C', RT C0 f (cl 5 s) (fup N.1 (fg (sTop s)) (nI (pc + 1)), N.2) C' → Q C') : wp2_turnToElse C (nI pc) Q := by
  obtain ⟨a1, a2, a3, a4, a5, a6, a7, a8, a9, a10⟩ := h.g hb
  have hn := (g.2 hb).1
  have f1 := a9 (qn s - 1) (by omega)
  have w5 := w_top g.1 h1
  have e5 : cl 5 s = clElse (cl2 (tkIf (fk (sTop s)) s)) := if_pos rfl
  rw [e5] at kk
  have ft := f_clt s
  have etop := f_top ft
  unfold wp2_turnToElse
  rw [a7]
  refine ⟨by omega, c_lacks f1.2.1 f1.2.2.2.2.2 w5.1 w5.2.2.2.2 (fun z => ⟨fun _ => ?_, fun c => absurd c (by decide)⟩) (fun z => ⟨fun c => absurd rfl c, fun _ S6 e => ?_⟩)⟩
  · refine c_all h g h1 fun C' h' => ?_
    have gt := g_cl2 (g_tkIf g (fk (sTop s)))
    generalize cl2 (tkIf (fk (sTop s)) s) = t at h' ft etop gt kk
    have z' : fo (sTop t) = 4 ∧ fe (sTop t) = 0 := by rw [etop]; exact z
    have e6 : clElse t = clElse1 t := if_pos z'
    rw [e6] at kk
    refine ⟨h'.c.2.2.1, fun S3 e => ?_⟩
    subst e
    refine ⟨h'.c.2.2.1, fun S4 e => ?_⟩
    subst e
    refine ⟨by show gR C' 1203 0 < 6; rw [h'.c.2.1]; exact hf, h'.c.2.2.1, ?_⟩
    rw [show gR (sI (sI C' 1304 (gR C' 1204 0) 0) 1305 (gR (sI C' 1304 (gR C' 1204 0) 0) 1204 0) 1) 1203 0 = f from h'.c.2.1]
    by_cases hbt : qb t = 0
    · obtain ⟨d1, d2, d3, d4, d5, d6, d7, d8, d9, d10⟩ := h'.g hbt
      have hq1 : 1 ≤ qn t := by rw [ft.1]; exact h1
      have e7 : gR (sI C' 1304 (gR C' 1204 0) 0) 1204 0 = qn t - 1 := d7
      rw [e7, d7]
      have hnt : qn t ≤ 8 := (gt.2 hbt).1
      have ff := d9 (qn t - 1) (by omega)
      have e8 : gI (sI (sI C' 1304 (qn t - 1) 0) 1305 (qn t - 1) 1) 1300 (gR (sI (sI C' 1304 (qn t - 1) 0) 1305 (qn t - 1) 1) 1204 0) = gbeg (fg (sTop s)) := by
        rw [show gR (sI (sI C' 1304 (qn t - 1) 0) 1305 (qn t - 1) 1) 1204 0 = qn t - 1 from d7]
        have : gI C' 1300 (qn t - 1) = gbeg (fg (sTop t)) := ff.1
        rw [etop] at this
        simpa [gI_sI] using this
      rw [e8, nI_1]
      have k13 : ∀ k, 1300 ≤ k → k ≤ 1305 → kC k := fun k z1 z2 => Or.inr (Or.inl ⟨z1, z2⟩)
      obtain ⟨p1, p2, ⟨x, p3, p4⟩, y, p5, p6⟩ := d3
      refine c_noteElse (s := clElse1 t) ⟨(d1.sI (k13 _ (by decide) (by decide))).sI (k13 _ (by decide) (by decide)), d2, ⟨p1, fun i hi => ?_, ⟨x, p3, ?_⟩, y, p5, ?_⟩, ?_, ?_, ?_, d7, fun i hi => ?_, fun i hi => ?_, fun i hi => ?_⟩ hg (v := pc + 1) (fun C'' h'' => kk C'' (RTg.t h'' hbt))
      · obtain ⟨b, b1, b2⟩ := p2 i hi
        exact ⟨b, b1, by simpa [gI_sI] using b2⟩
      · simpa [gI_sI] using p4
      · simpa [gI_sI] using p6
      · simpa [gI_sI] using d4
      · simp [gI_sI]; exact d5
      · simp [gI_sI]; exact d6
      · have := d8 i hi
        simp only [gA_sI]; exact this
      · have hi : i < qn t := hi
        have hf := d9 i hi
        by_cases zi : i = qn t - 1
        · subst zi
          refine ⟨?_, ?_, ?_, ?_, ?_, ?_⟩
          · simpa [gI_sI, clElse1, sTop, qF, qn, fup, fo, fk, fb, fd, fe, fg] using hf.1
          · simpa [gI_sI, clElse1, sTop, qF, qn, fup, fo, fk, fb, fd, fe, fg] using hf.2.1
          · simpa [gI_sI, clElse1, sTop, qF, qn, fup, fo, fk, fb, fd, fe, fg] using hf.2.2.1
          · simpa [gI_sI, clElse1, sTop, qF, qn, fup, fo, fk, fb, fd, fe, fg] using hf.2.2.2.1
          · simp [gI_sI, clElse1, sTop, qF, qn, fup, fo, fk, fb, fd, fe, fg, ← l0]
          · simp [gI_sI, clElse1, sTop, qF, qn, fup, fo, fk, fb, fd, fe, fg, ← l1]
        · refine ⟨?_, ?_, ?_, ?_, ?_, ?_⟩
          · simpa [gI_sI, clElse1, sTop, qF, fup, zi] using hf.1
          · simpa [gI_sI, clElse1, sTop, qF, fup, zi] using hf.2.1
          · simpa [gI_sI, clElse1, sTop, qF, fup, zi] using hf.2.2.1
          · simpa [gI_sI, clElse1, sTop, qF, fup, zi] using hf.2.2.2.1
          · simpa [gI_sI, clElse1, sTop, qF, fup, zi] using hf.2.2.2.2.1
          · simpa [gI_sI, clElse1, sTop, qF, fup, zi] using hf.2.2.2.2.2
      · have := d10 i hi
        simp only [gA_sI]; exact this
    · have hB := h'.b hbt
      exact cb_noteElse (cb_set ⟨by decide, by decide⟩ (cb_set ⟨by decide, by decide⟩ hB)) fun C'' h'' => kk C'' (RTb.t h'' hbt)
  · subst e
    refine kk _ (RTb.t (c_bad ⟨a1, a2, a3⟩) fun y => z ?_)
    have := (b_else y).2
    rw [etop] at this
    exact this
def Sp (C : St) : Prop := gR C 1204 0 < 8 ∧ ∀ i, i < 8 → ∃ b, b ≤ 16 ∧ gI C 1302 i = nI b
def RTz (C0 : St) (f : Nat) (C : St) : Prop := AgC f C0 C ∧ gR C 1203 0 = f ∧ Sp C ∧ gI C 1207 0 = 1
def RTe (C0 : St) (f : Nat) (N : Nt) (C : St) : Prop := AgC f C0 C ∧ gR C 1203 0 = f ∧ Sp C ∧ gI C 1207 0 = 0 ∧ gI C 1206 0 = 0 ∧ ∀ i, i < 60 → gA C 1402 f i = N.1 i ∧ gA C 1403 f i = N.2 i
/-- the class's checker behind an instruction -/
def RX (C0 : St) (f : Nat) (s : SB) (N : Nt) (C : St) : Prop := if qb s = 0 then (if qn s = 0 then RTe C0 f N C else RTg C0 f s N C) else RTz C0 f C
theorem Sf.p {C : St} (h : Sf C) : Sp C := ⟨h.1, h.2.1⟩
theorem RT.x {C0 : St} {f : Nat} {s : SB} {N : Nt} {C : St} (h : RT C0 f s N C) (h1 : 1 ≤ qn s) : RX C0 f s N C := by
  unfold RX
  split
  · rename_i hb
    rw [if_neg (by omega)]
    exact h.g hb
  · rename_i hb
    have := h.b hb
    exact ⟨this.1, this.2.1, this.2.2.1.p, this.2.2.2⟩
theorem RTz.x {C0 : St} {f : Nat} {s : SB} {N : Nt} {C : St} (h : RTz C0 f C) (hb : ¬ qb s = 0) : RX C0 f s N C := by
  unfold RX; rw [if_neg hb]; exact h
theorem RTb.z {C0 : St} {f : Nat} {C : St} (h : RTb C0 f C) : RTz C0 f C := ⟨h.1, h.2.1, h.2.2.1.p, h.2.2.2⟩
/-- the end of a frame, what is known being known -/
theorem cb_pop {C0 : St} {f : Nat} {C : St} {Q : St → Prop} (h : RTb C0 f C) (kk : ∀ C', RTz C0 f C' → Q C') : ∀ S4, S4 = sI C 1206 0 (gI C 1206 0 - 1) → (gI S4 1206 0 ≤ 0 → Q S4) ∧ (¬ gI S4 1206 0 ≤ 0 → (8 < gI S4 1206 0 → Q S4) ∧ (¬ 8 < gI S4 1206 0 → vp_in (gI S4 1206 0 - 1) 8 ∧ ∀ S5, S5 = sR S4 1204 0 ((gI S4 1206 0 - 1).toNatClampNeg) → Q S5)) := by
  obtain ⟨h1, h2, ⟨q1, q2, -, n, q5, q6⟩, h4⟩ := h
  intro S4 e; subst e
  have hz : ∀ v, RTz C0 f (sI C 1206 0 v) := fun v => ⟨h1.sI (Or.inl ⟨by decide, by decide⟩), h2, ⟨q1, fun i hi => by
    obtain ⟨b, b1, b2⟩ := q2 i hi
    exact ⟨b, b1, by simpa [gI_sI] using b2⟩⟩, by simpa [gI_sI] using h4⟩
  refine ⟨fun _ => kk _ (hz _), fun c => ⟨fun _ => kk _ (hz _), fun c2 => ?_⟩⟩
  rw [show gI (sI C 1206 0 (gI C 1206 0 - 1)) 1206 0 = gI C 1206 0 - 1 from rfl, q6] at c c2 ⊢
  cases n with
  | zero => exact absurd (by decide) c
  | succ n =>
    rw [nI_pred] at c c2 ⊢
    have c : ¬ n ≤ 0 := fun z => c ((nI_leI (b := 0) (by omega) (by omega)).mpr z)
    rw [nI_dec (by omega), nI_clamp (by omega)]
    refine ⟨vp_in_nI (by omega) (by omega), fun S5 e => ?_⟩
    subst e
    have := hz (nI n)
    exact kk _ ⟨this.1.sR (Or.inl ⟨by decide, by decide⟩), this.2.1, ⟨by show n - 1 < 8; omega, fun i hi => this.2.2.1.2 i hi⟩, this.2.2.2⟩
theorem cb_end26 {C0 : St} {f : Nat} {C : St} {x : Int32} {Q : St → Prop} (hf : f < 6) (h : RTb C0 f C) (kk : ∀ C', RTz C0 f C' → Q C') : gR C 1204 0 < 8 ∧ wp2_put C (gI C 1303 (gR C 1204 0)) (fun S2 => gR S2 1203 0 < 6 ∧ gR S2 1204 0 < 8 ∧ wp4_noteEnd S2 (gR S2 1203 0) (gI S2 1300 (gR S2 1204 0)) (x + 1) (fun S3 => ∀ S4, S4 = sI S3 1206 0 (gI S3 1206 0 - 1) → (gI S4 1206 0 ≤ 0 → Q S4) ∧ (¬ gI S4 1206 0 ≤ 0 → (8 < gI S4 1206 0 → Q S4) ∧ (¬ 8 < gI S4 1206 0 → vp_in (gI S4 1206 0 - 1) 8 ∧ ∀ S5, S5 = sR S4 1204 0 ((gI S4 1206 0 - 1).toNatClampNeg) → Q S5)))) := by
  refine ⟨h.2.2.1.1, cb_put h fun C2 h2 => ⟨by rw [h2.2.1]; exact hf, h2.2.2.1.1, ?_⟩⟩
  rw [h2.2.1]
  exact cb_noteEnd h2 fun C3 h3 => cb_pop h3 kk
theorem b_end {s : SB} (h : qb (clEnd s) = 0) : qb s = 0 ∧ ¬ (fo (sTop s) = 4 ∧ ¬ fk (sTop s) = 0 ∧ fe (sTop s) = 0) := by
  have key : ∀ s, qb (clEnd1 s) = 0 → qb s = 0 := by
    intro s h
    unfold clEnd1 at h
    split at h
    · exact h
    · have h2 := b_ptIf h
      exact h2
  unfold clEnd at h
  split at h
  · exact absurd (key _ h) e_bad
  · rename_i c; exact ⟨key _ h, c⟩
theorem c_end26 {C0 : St} {f : Nat} {s : SB} {N : Nt} {C : St} {pc : Nat} {Q : St → Prop} (hf : f < 6) (h : RT C0 f s N C) (g : WG s) (hb : qb s = 0) (h1 : 1 ≤ qn s) (hg : fg (sTop s) ≤ 60) (hb0 : qn s = 1 → fb (sTop s) = 0) (hno : ¬ (fo (sTop s) = 4 ∧ ¬ fk (sTop s) = 0 ∧ fe (sTop s) = 0)) (kk : ∀ C', RX C0 f (cl 6 s) (N.1, fup N.2 (fg (sTop s)) (nI (pc + 1))) C' → Q C') : wp2_endFrame_26 (nI pc) Q C := by
  have e5 : cl 6 s = clEnd (cl2 (tkIf (fk (sTop s)) s)) := if_neg (by decide)
  rw [e5] at kk
  have ft := f_clt s
  have etop := f_top ft
  have kfin := (g.2 hb).2.1 (qn s - 1) (by omega)
  have hn := (g.2 hb).1
  unfold wp2_endFrame_26
  refine c_all h g h1 fun C' h' => ?_
  have gt := g_cl2 (g_tkIf g (fk (sTop s)))
  have hcl : qb (cl2 (tkIf (fk (sTop s)) s)) = 0 → qh (cl2 (tkIf (fk (sTop s)) s)) = fb (sTop s) := by
    intro z
    unfold cl2 at z ⊢
    split at z
    · rename_i c
      rw [if_pos c, c, f_top (f_tkIf _ s)]
    · exact absurd z e_bad
  generalize cl2 (tkIf (fk (sTop s)) s) = t at h' ft etop gt kk hcl
  by_cases hbt : qb t = 0
  · have hR := h'.g hbt
    obtain ⟨d1, d2, d3, d4, d5, d6, d7, d8, d9, d10⟩ := id hR
    have hq1 : 1 ≤ qn t := by rw [ft.1]; exact h1
    have hnt : qn t ≤ 8 := (gt.2 hbt).1
    have ff := d9 (qn t - 1) (by omega)
    have hk3 : fk (sTop t) ≤ 3 := (gt.2 hbt).2.1 (qn t - 1) (by omega)
    refine ⟨d3.1, ?_⟩
    rw [d7, ff.2.2.2.1]
    have e6 : clEnd t = clEnd1 t := if_neg (by rw [etop]; exact hno)
    rw [e6] at kk
    refine c_put (k := fk (sTop t)) h' gt (fun _ => rfl) (by omega) fun C2 h2 => ?_
    have fp := f_ptIf (fk (sTop t)) t
    have tp := f_top fp
    by_cases hbp : qb (ptIf (fk (sTop t)) t) = 0
    · obtain ⟨p1, p2, p3, p4, p5, p6, p7, p8, p9, p10⟩ := h2.g hbp
      have fff := p9 (qn t - 1) (by rw [fp.1]; omega)
      refine ⟨by rw [p2]; exact hf, p3.1, ?_⟩
      rw [p2, p7, fp.1, fff.1, fp.2, show fg (qF t (qn t - 1)) = fg (sTop s) by rw [← etop]; rfl, nI_1]
      refine c_noteEnd (h2.g hbp) hg (v := pc + 1) fun C3 h3 => ?_
      obtain ⟨r1, r2, r3, r4, r5, r6, r7, r8, r9, r10⟩ := id h3
      intro S4 e; subst e
      rw [show gI (sI C3 1206 0 (gI C3 1206 0 - 1)) 1206 0 = gI C3 1206 0 - 1 from rfl, r6, fp.1, nI_dec hq1]
      have hSp : Sp (sI C3 1206 0 (nI (qn t - 1))) := ⟨r3.1, fun i hi => by
        obtain ⟨b, b1, b2⟩ := r3.2.1 i hi
        exact ⟨b, b1, by simpa [gI_sI] using b2⟩⟩
      have hag : AgC f C0 (sI C3 1206 0 (nI (qn t - 1))) := r1.sI (Or.inl ⟨by decide, by decide⟩)
      have hbad : gI (sI C3 1206 0 (nI (qn t - 1))) 1207 0 = 0 := by simpa [gI_sI] using r4
      refine ⟨fun c => ?_, fun c => ⟨fun c2 => ?_, fun c2 => ?_⟩⟩
      · have c := (nI_leI (b := 0) (by omega) (by omega)).mp c
        have c' : qn t - 1 = 0 := by omega
        have e7 : clEnd1 t = (qh t, qK t, qn t - 1, qF t, qb t) := if_pos c'
        rw [e7] at kk
        refine kk _ ?_
        unfold RX
        rw [if_pos (show qb (qh t, qK t, qn t - 1, qF t, qb t) = 0 from hbt), if_pos (show qn (qh t, qK t, qn t - 1, qF t, qb t) = 0 from c')]
        refine ⟨hag, r2, hSp, hbad, ?_, fun i hi => ?_⟩
        · show nI (qn t - 1) = 0
          rw [c']; rfl
        · have := r10 i hi
          simp only [gA_sI]; exact this
      · exact absurd ((nI_ltI (a := 8) (by omega) (by omega)).mp c2) (by omega)
      · have c : ¬ qn t - 1 ≤ 0 := fun z => c ((nI_leI (b := 0) (by omega) (by omega)).mpr z)
        rw [nI_dec (by omega), nI_clamp (by omega)]
        refine ⟨vp_in_nI (by omega) (by omega), fun S5 e => ?_⟩
        subst e
        have e7 : clEnd1 t = ptIf (fk (sTop t)) (qh t, qK t, qn t - 1, qF t, qb t) := if_neg (by omega)
        rw [e7] at kk
        have e8 : ptIf (fk (sTop t)) (qh t, qK t, qn t - 1, qF t, qb t) = (qh (ptIf (fk (sTop t)) t), qK (ptIf (fk (sTop t)) t), qn t - 1, qF t, qb (ptIf (fk (sTop t)) t)) := by
          unfold ptIf pt
          by_cases z : fk (sTop t) = 0
          · rw [if_pos z, if_pos z]
          · rw [if_neg z, if_neg z]
            by_cases z2 : qh t = 16
            · rw [if_pos (show qh (qh t, qK t, qn t - 1, qF t, qb t) = 16 from z2), if_pos z2]; rfl
            · rw [if_neg (show ¬ qh (qh t, qK t, qn t - 1, qF t, qb t) = 16 from z2), if_neg z2]; rfl
        rw [e8] at kk
        refine kk _ ?_
        unfold RX
        rw [if_pos (show qb (qh (ptIf (fk (sTop t)) t), qK (ptIf (fk (sTop t)) t), qn t - 1, qF t, qb (ptIf (fk (sTop t)) t)) = 0 from hbp), if_neg (show ¬ qn (qh (ptIf (fk (sTop t)) t), qK (ptIf (fk (sTop t)) t), qn t - 1, qF t, qb (ptIf (fk (sTop t)) t)) = 0 from by show ¬ qn t - 1 = 0; omega)]
        obtain ⟨u1, u2, ⟨x, u3, u4⟩, y, u5, u6⟩ := r3
        refine ⟨hag.sR (Or.inl ⟨by decide, by decide⟩), r2, ⟨by show qn t - 1 - 1 < 8; omega, hSp.2, ⟨x, u3, ?_⟩, qn t - 1, by omega, ?_⟩, ?_, ?_, ?_, ?_, fun i hi => ?_, fun i hi => ?_, fun i hi => ?_⟩
        · simpa [gI_sI, gI_sR] using u4
        · simp [gI_sI, gI_sR]
        · simpa [gI_sI, gI_sR] using r4
        · simp [gI_sI, gI_sR]; exact r5
        · simp [gI_sI, gI_sR]; rfl
        · show qn t - 1 - 1 = qn t - 1 - 1; rfl
        · have := r8 i hi
          simp only [gA_sI, gA_sR]; exact this
        · have hi : i < qn t - 1 := hi
          have := r9 i (by rw [fp.1]; omega)
          rw [fp.2] at this
          simpa [gI_sI, gI_sR, qF] using this
        · have := r10 i hi
          simp only [gA_sI, gA_sR]; exact this
    · -- the put told bad: not by the outermost frame
      have hB := h2.b hbp
      have hbad : ¬ qb (clEnd1 t) = 0 := by
        intro z
        unfold clEnd1 at z
        split at z
        · rename_i c
          refine hbp ?_
          have hq : qn s = 1 := by rw [← ft.1]; omega
          have h00 := hcl hbt
          rw [hb0 hq] at h00
          unfold ptIf
          split
          · exact hbt
          · unfold pt
            rw [if_neg (by omega)]
            exact hbt
        · refine hbp ?_
          unfold ptIf pt at z ⊢
          by_cases z0 : fk (sTop t) = 0
          · rw [if_pos z0]; exact hbt
          · rw [if_neg z0] at z ⊢
            by_cases z2 : qh t = 16
            · rw [if_pos (show qh (qh t, qK t, qn t - 1, qF t, qb t) = 16 from z2)] at z
              exact absurd z e_bad
            · rw [if_neg z2]; exact hbt
      refine ⟨by rw [hB.2.1]; exact hf, hB.2.2.1.1, ?_⟩
      rw [hB.2.1]
      exact cb_noteEnd hB fun C3 h3 => cb_pop h3 fun C4 h4 => kk C4 (h4.x hbad)
  · exact cb_end26 hf (h'.b hbt) fun C4 h4 => kk C4 (h4.x fun z => hbt (b_end z).1)
theorem c_end {C0 : St} {f : Nat} {s : SB} {N : Nt} {C : St} {pc : Nat} {Q : St → Prop} (hf : f < 6) (h : RT C0 f s N C) (g : WG s) (hb : qb s = 0) (h1 : 1 ≤ qn s) (hg : fg (sTop s) ≤ 60) (hb0 : qn s = 1 → fb (sTop s) = 0) (kk : ∀ C', RX C0 f (cl 6 s) (N.1, fup N.2 (fg (sTop s)) (nI (pc + 1))) C' → Q C') : wp2_endFrame C (nI pc) Q := by
  obtain ⟨a1, a2, a3, a4, a5, a6, a7, a8, a9, a10⟩ := h.g hb
  have hn := (g.2 hb).1
  have f1 := a9 (qn s - 1) (by omega)
  have w5 := w_top g.1 h1
  unfold wp2_endFrame
  rw [a7, f1.2.2.2.1]
  refine ⟨by omega, fun c => ?_, fun c => ⟨by omega, c_lacks f1.2.1 f1.2.2.2.2.2 w5.1 w5.2.2.2.2 (fun z => ⟨fun c2 => absurd c2 (by decide), fun _ S2 e => ?_⟩) (fun z => ⟨fun _ => ?_, fun c2 => absurd rfl c2⟩)⟩⟩
  · have c0 : fk (sTop s) = 0 := nE (b := 0) (by show fk (sTop s) < _; omega) (by omega) c
    exact c_end26 hf h g hb h1 hg hb0 (fun z => z.2.1 c0) kk
  · subst e
    have c0 : ¬ fk (sTop s) = 0 := nN (b := 0) c
    refine kk _ ((c_bad ⟨a1, a2, a3⟩).z.x fun y => ?_)
    have e5 : cl 6 s = clEnd (cl2 (tkIf (fk (sTop s)) s)) := if_neg (by decide)
    rw [e5] at y
    have := (b_end y).2
    rw [f_top (f_clt s)] at this
    exact this ⟨z.1, c0, z.2⟩
  · exact c_end26 hf h g hb h1 hg hb0 (fun y => z ⟨y.1, y.2.2⟩) kk
