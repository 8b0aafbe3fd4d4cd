/-! PURE: the class's checker goes the pass -/
def kC (k : Nat) : Prop := (1201 ≤ k ∧ k ≤ 1207) ∨ (1300 ≤ k ∧ k ≤ 1305) ∨ k = 1402 ∨ k = 1403
def AgC (f : Nat) (C0 C : St) : Prop := Ag kC C0 C ∧ ∀ g, g ≠ f → ∀ i, gA C 1402 g i = gA C0 1402 g i ∧ gA C 1403 g i = gA C0 1403 g i
def Sf (C : St) : Prop := gR C 1204 0 < 8 ∧ (∀ i, i < 8 → ∃ b, b ≤ 16 ∧ gI C 1302 i = nI b) ∧ (∃ h, h ≤ 16 ∧ gI C 1205 0 = nI h) ∧ ∃ n, n ≤ 8 ∧ gI C 1206 0 = nI n
-- the notes: behindElse, behindEnd
abbrev Nt : Type := (Nat → Int32) × (Nat → Int32)
def gbeg (x : Nat) : Int32 := if x = 60 then -1 else nI x
def opn (x : Nat) : Nat := if x = 0 then 2 else x
def RTb (C0 : St) (f : Nat) (C : St) : Prop := AgC f C0 C ∧ gR C 1203 0 = f ∧ Sf C ∧ gI C 1207 0 = 1
def RTg (C0 : St) (f : Nat) (s : SB) (N : Nt) (C : St) : Prop := AgC f C0 C ∧ gR C 1203 0 = f ∧ Sf C ∧ gI C 1207 0 = 0 ∧ gI C 1205 0 = nI (qh s) ∧ gI C 1206 0 = nI (qn s) ∧ gR C 1204 0 = qn s - 1 ∧ (∀ i, i < qh s → gA C 1201 0 i = nI (qK s i)) ∧ (∀ i, i < qn s → gI C 1300 i = gbeg (fg (qF s i)) ∧ gI C 1301 i = nI (opn (fo (qF s i))) ∧ gI C 1302 i = nI (fb (qF s i)) ∧ gI C 1303 i = nI (fk (qF s i)) ∧ gI C 1304 i = nI (fd (qF s i)) ∧ gI C 1305 i = nI (fe (qF s i))) ∧ ∀ i, i < 60 → gA C 1402 f i = N.1 i ∧ gA C 1403 f i = N.2 i
def RT (C0 : St) (f : Nat) (s : SB) (N : Nt) (C : St) : Prop := if qb s = 0 then RTg C0 f s N C else RTb C0 f C
theorem RT.g {C0 : St} {f : Nat} {s : SB} {N : Nt} {C : St} (h : RT C0 f s N C) (hb : qb s = 0) : RTg C0 f s N C := by
  unfold RT at h; rwa [if_pos hb] at h
theorem RT.b {C0 : St} {f : Nat} {s : SB} {N : Nt} {C : St} (h : RT C0 f s N C) (hb : ¬ qb s = 0) : RTb C0 f C := by
  unfold RT at h; rwa [if_neg hb] at h
theorem RTg.t {C0 : St} {f : Nat} {s : SB} {N : Nt} {C : St} (h : RTg C0 f s N C) (hb : qb s = 0) : RT C0 f s N C := by
  unfold RT; rwa [if_pos hb]
theorem RTb.t {C0 : St} {f : Nat} {s : SB} {N : Nt} {C : St} (h : RTb C0 f C) (hb : ¬ qb s = 0) : RT C0 f s N C := by
  unfold RT; rwa [if_neg hb]
theorem RT.c {C0 : St} {f : Nat} {s : SB} {N : Nt} {C : St} (h : RT C0 f s N C) : AgC f C0 C ∧ gR C 1203 0 = f ∧ Sf C := by
  unfold RT at h
  split at h
  · exact ⟨h.1, h.2.1, h.2.2.1⟩
  · exact ⟨h.1, h.2.1, h.2.2.1⟩
theorem AgC.sI {f : Nat} {C0 C : St} (h : AgC f C0 C) {k i : Nat} {v : Int32} (hk : kC k) : AgC f C0 (sI C k i v) := ⟨h.1.sI hk, h.2⟩
theorem AgC.sR {f : Nat} {C0 C : St} (h : AgC f C0 C) {k i : Nat} {v : Nat} (hk : kC k) : AgC f C0 (sR C k i v) := ⟨h.1.sR hk, h.2⟩
theorem AgC.stack {f : Nat} {C0 C : St} (h : AgC f C0 C) {i j : Nat} {v : Int32} : AgC f C0 (sA C 1201 i j v) := by
  refine ⟨h.1.sA (Or.inl ⟨by decide, by decide⟩), fun g hg j' => ?_⟩
  have := h.2 g hg j'
  simpa [gA_sA] using this
/-- bad is told -/
theorem c_bad {C0 : St} {f : Nat} {C : St} (h : AgC f C0 C ∧ gR C 1203 0 = f ∧ Sf C) : RTb C0 f (sI C 1207 0 1) := by
  obtain ⟨h1, h2, h3, h4, ⟨x, h5, h6⟩, y, h7, h8⟩ := h
  refine ⟨h1.sI (Or.inl ⟨by decide, by decide⟩), h2, ⟨h3, fun i hi => ?_, ⟨x, h5, ?_⟩, y, h7, ?_⟩, rfl⟩
  · obtain ⟨b, q1, q2⟩ := h4 i hi
    exact ⟨b, q1, by simpa [gI_sI] using q2⟩
  · simpa [gI_sI] using h6
  · simpa [gI_sI] using h8
theorem c_bad' {C0 : St} {f : Nat} {C : St} (h : RTb C0 f C) : RTb C0 f (sI C 1207 0 1) := c_bad ⟨h.1, h.2.1, h.2.2.1⟩
theorem e_bad {s : SB} : ¬ qb (sBad s) = 0 := by show ¬ 1 = 0; decide
/-- the height set -/
theorem c_h {C0 : St} {f : Nat} {C : St} {h : Nat} (hh : h ≤ 16) (H : AgC f C0 C ∧ gR C 1203 0 = f ∧ Sf C) : AgC f C0 (sI C 1205 0 (nI h)) ∧ gR (sI C 1205 0 (nI h)) 1203 0 = f ∧ Sf (sI C 1205 0 (nI h)) := by
  obtain ⟨h1, h2, h3, h4, ⟨x, h5, h6⟩, y, h7, h8⟩ := H
  refine ⟨h1.sI (Or.inl ⟨by decide, by decide⟩), h2, ⟨h3, fun i hi => ?_, ⟨h, hh, rfl⟩, y, h7, ?_⟩⟩
  · obtain ⟨b, q1, q2⟩ := h4 i hi
    exact ⟨b, q1, by simpa [gI_sI] using q2⟩
  · simpa [gI_sI] using h8
/-- take, where something is bad -/
theorem cb_take {C0 : St} {f : Nat} {C : St} {x : Int32} {Q : Int32 → St → Prop} (h : RTb C0 f C) (kk : ∀ r C', RTb C0 f C' → Q r C') : wp2_take C x Q := by
  obtain ⟨h1, h2, h3, h4⟩ := id h
  obtain ⟨q1, q2, ⟨y, q3, q4⟩, q5⟩ := id h3
  obtain ⟨b, b1, b2⟩ := q2 _ q1
  unfold wp2_take wp2_take_29
  rw [h4, q4, b2]
  have none' : (¬ (1 : Int32) = 0 → ∀ S1, S1 = sI C 1207 0 1 → Q 4 S1) ∧ ((1 : Int32) = 0 → gR C 1204 0 < 8 ∧ (¬ gI C 1304 (gR C 1204 0) = 0 → ∀ S2, S2 = sI C 1207 0 0 → Q 4 S2) ∧ (gI C 1304 (gR C 1204 0) = 0 → ∀ S3, S3 = sI C 1207 0 1 → Q 4 S3)) :=
    ⟨fun _ S1 e => by subst e; exact kk _ _ (c_bad' h), fun z => absurd z (by decide)⟩
  refine ⟨fun _ => ⟨q1, fun _ => none', fun c => ⟨fun c2 => ?_, fun _ => none'⟩⟩, fun _ => kk _ _ h⟩
  have c : ¬ y ≤ b := fun z => c ((nI_leI (by omega) (by omega)).mpr z)
  intro S1 e
  rw [nI_dec (by omega)] at e
  subst e
  have hh := c_h (h := y - 1) (by omega) ⟨h1, h2, h3⟩
  have hR : RTb C0 f (sI C 1205 0 (nI (y - 1))) := ⟨hh.1, hh.2.1, hh.2.2, h4⟩
  rw [show gI (sI C 1205 0 (nI (y - 1))) 1205 0 = nI (y - 1) from rfl, nI_clamp (by omega)]
  refine ⟨vp_in_nI (by omega) (by omega), fun x2 _ => ⟨fun _ => kk _ _ hR, fun _ => ⟨fun _ => kk _ _ hR, fun _ => ⟨fun _ => kk _ _ hR, fun _ S2 e => ?_⟩⟩⟩⟩
  subst e
  exact kk _ _ (c_bad' hR)
/-- take, where nothing is bad: what is there, before it is held against what is wanted -/
theorem cg_take {C0 : St} {f : Nat} {s : SB} {N : Nt} {C : St} {k : Nat} {Q : Int32 → St → Prop} (h : RTg C0 f s N C) (w : WS s) (hb : qb s = 0) (h1 : 1 ≤ qn s) (hn : qn s ≤ 8) (hk : k < 256) (hk0 : ¬ k = 0)
    (kk : ∀ C', RT C0 f (if (tkA s).1 = k ∨ (tkA s).1 = 4 ∨ k = 4 then (tkA s).2 else sBad (tkA s).2) N C' → Q (nI (tkA s).1) C') : wp2_take C (nI k) Q := by
  obtain ⟨a1, a2, a3, a4, a5, a6, a7, a8, a9, a10⟩ := id h
  obtain ⟨w1, w2, w3, w4, w5, w7, w8⟩ := id w
  have f1 := a9 (qn s - 1) (by omega)
  have g5 := w5 (qn s - 1) (by omega)
  unfold wp2_take wp2_take_29
  rw [a4, a5, a7, f1.2.2.1, f1.2.2.2.2.1]
  have e4 : tkA s = if qh s ≤ fb (sTop s) then (4, if fd (sTop s) = 0 then sBad s else s) else (qK s (qh s - 1), (qh s - 1, qK s, qn s, qF s, qb s)) := rfl
  refine ⟨fun _ => ⟨by omega, fun c => ?_, fun c => ⟨fun _ => ?_, fun c2 => absurd ((nI_leI (a := qh s) (b := 16) (by omega) (by omega)).mpr w1) c2⟩⟩, fun z => absurd (nE (b := 0) (by omega) (by omega) z) hk0⟩
  · have c0 := (nI_leI (a := qh s) (b := fb (qF s (qn s - 1))) (by omega) (by omega)).mp c
    have c : qh s ≤ fb (sTop s) := c0
    rw [if_pos c] at e4
    rw [e4] at kk
    rw [if_pos (Or.inr (Or.inl rfl))] at kk
    refine ⟨fun z => absurd rfl z, fun _ => ⟨by omega, fun c2 => ?_, fun c2 => ?_⟩⟩
    · have c2 : ¬ fd (sTop s) = 0 := fun z => c2 (by show nI (fd (sTop s)) = nI 0; rw [z])
      intro S2 e; subst e
      rw [show (4, if fd (sTop s) = 0 then sBad s else s).2 = s from if_neg c2] at kk
      refine kk _ (RTg.t ?_ hb)
      have ha := c_bad ⟨a1, a2, a3⟩
      refine ⟨a1.sI (Or.inl ⟨by decide, by decide⟩), a2, ?_, rfl, a5, a6, a7, a8, a9, a10⟩
      obtain ⟨q1, q2, q3, q4⟩ := a3
      exact ⟨q1, q2, q3, q4⟩
    · have c2 : fd (sTop s) = 0 := nE (b := 0) (by show fd (qF s (qn s - 1)) < _; omega) (by omega) c2
      intro S3 e; subst e
      rw [show (4, if fd (sTop s) = 0 then sBad s else s).2 = sBad s from if_pos c2] at kk
      exact kk _ (RTb.t (c_bad ⟨a1, a2, a3⟩) e_bad)
  · have c : ¬ qh s ≤ fb (sTop s) := fun z => c ((nI_leI (by omega) (by omega)).mpr z)
    rw [if_neg c] at e4
    rw [e4] at kk
    have c' : ¬ qh s ≤ fb (qF s (qn s - 1)) := c
    intro S1 e
    rw [nI_dec (by omega)] at e
    subst e
    have hh := c_h (h := qh s - 1) (by omega) ⟨a1, a2, a3⟩
    have hw4 := w4 (qh s - 1) (by omega)
    have hR : RTg C0 f (qh s - 1, qK s, qn s, qF s, qb s) N (sI C 1205 0 (nI (qh s - 1))) := ⟨hh.1, hh.2.1, hh.2.2, a4, rfl, a6, a7, fun i hi => a8 i (by have hi : i < qh s - 1 := hi; omega), a9, a10⟩
    rw [show gI (sI C 1205 0 (nI (qh s - 1))) 1205 0 = nI (qh s - 1) from rfl, nI_clamp (by omega)]
    refine ⟨vp_in_nI (by omega) (by omega), fun x2 e => ?_⟩
    have e : x2 = nI (qK s (qh s - 1)) := e.trans (a8 (qh s - 1) (by omega))
    subst e
    refine ⟨fun c2 => ?_, fun c2 => ⟨fun c3 => ?_, fun c3 => ⟨fun c4 => ?_, fun c4 => ?_⟩⟩⟩
    · rw [if_pos (Or.inl (nE (by omega) (by omega) c2))] at kk
      exact kk _ (RTg.t hR hb)
    · rw [if_pos (Or.inr (Or.inl (nE (b := 4) (by omega) (by omega) c3)))] at kk
      exact kk _ (RTg.t hR hb)
    · rw [if_pos (Or.inr (Or.inr (nE (b := 4) (by omega) (by omega) c4)))] at kk
      exact kk _ (RTg.t hR hb)
    · rw [if_neg (fun z => z.elim (nN c2) (fun z => z.elim (nN (b := 4) c3) (nN (b := 4) c4)))] at kk
      intro S2 e; subst e
      exact kk _ (RTb.t (c_bad hh) e_bad)
theorem c_take {C0 : St} {f : Nat} {s : SB} {N : Nt} {C : St} {k : Nat} {Q : Int32 → St → Prop} (h : RT C0 f s N C) (g : WG s) (h1 : 1 ≤ qn s) (hk : k < 256) (hk4 : ¬ k = 4) (kk : ∀ r C', RT C0 f (tkIf k s) N C' → Q r C') : wp2_take C (nI k) Q := by
  by_cases hb : qb s = 0
  · by_cases hk0 : k = 0
    · subst hk0
      unfold wp2_take
      exact ⟨fun z => absurd rfl z, fun _ => kk _ _ h⟩
    · refine cg_take (h.g hb) g.1 hb h1 (g.2 hb).1 hk hk0 fun C' h' => kk _ _ ?_
      have e : tkIf k s = if (tkA s).1 = k ∨ (tkA s).1 = 4 ∨ k = 4 then (tkA s).2 else sBad (tkA s).2 := by
        unfold tkIf tk
        rw [if_neg hk0]
        by_cases z1 : (tkA s).1 = k
        · rw [if_pos z1, if_pos (Or.inl z1)]
        · by_cases z2 : (tkA s).1 = 4
          · rw [if_neg z1, if_pos z2, if_pos (Or.inr (Or.inl z2))]
          · rw [if_neg z1, if_neg z2, if_neg (fun z => z.elim z1 (fun z => z.elim z2 hk4))]
      rw [e]; exact h'
  · refine cb_take (h.b hb) fun r C' h' => kk r C' (RTb.t h' (fun z => hb (b_tkIf k s z)))
theorem c_takeAny {C0 : St} {f : Nat} {s : SB} {N : Nt} {C : St} {Q : Int32 → St → Prop} (h : RT C0 f s N C) (g : WG s) (h1 : 1 ≤ qn s) (kk : ∀ r C', (qb s = 0 → r = nI (tkA s).1) → RT C0 f (tkA s).2 N C' → Q r C') : wp2_take C 4 Q := by
  by_cases hb : qb s = 0
  · refine cg_take (k := 4) (h.g hb) g.1 hb h1 (g.2 hb).1 (by decide) (by decide) fun C' h' => kk _ _ (fun _ => rfl) ?_
    rw [if_pos (Or.inr (Or.inr rfl))] at h'
    exact h'
  · exact cb_take (h.b hb) fun r C' h' => kk r C' (fun z => absurd z hb) (RTb.t h' (fun z => hb (b_tkA s z)))
theorem cb_put {C0 : St} {f : Nat} {C : St} {x : Int32} {Q : St → Prop} (h : RTb C0 f C) (kk : ∀ C', RTb C0 f C' → Q C') : wp2_put C x Q := by
  obtain ⟨h1, h2, h3, h4⟩ := id h
  obtain ⟨q1, q2, ⟨y, q3, q4⟩, z, q5, q6⟩ := id h3
  unfold wp2_put
  have hc : (gI C 1205 0).toNatClampNeg = y := by rw [q4, nI_clamp (by omega)]
  refine ⟨fun _ => ⟨fun _ S1 e => by subst e; exact kk _ (c_bad' h), fun _ => ⟨fun c => ?_, fun _ S1 e => by subst e; exact kk _ (c_bad' h)⟩⟩, fun _ => kk _ h⟩
  rw [q4] at c
  have c := (nI_ltI (b := 16) (by omega) (by omega)).mp c
  refine ⟨by rw [q4]; exact vp_in_nI c (by omega), fun S2 e S3 e3 => ?_⟩
  rw [hc] at e
  subst e
  have e4 : gI (sA C 1201 0 y x) 1205 0 + 1 = nI (y + 1) := by
    show gI C 1205 0 + 1 = _
    rw [q4]; exact nI_1 y
  rw [e4] at e3
  subst e3
  have h5 : AgC f C0 (sA C 1201 0 y x) ∧ gR (sA C 1201 0 y x) 1203 0 = f ∧ Sf (sA C 1201 0 y x) := ⟨h1.stack, h2, q1, q2, ⟨y, q3, q4⟩, z, q5, q6⟩
  have h6 := c_h (h := y + 1) (by omega) h5
  exact kk _ ⟨h6.1, h6.2.1, h6.2.2, h4⟩
theorem b_pt {k : Nat} {s : SB} (h : qb (pt k s) = 0) : qb s = 0 := by
  unfold pt at h
  split at h
  · exact absurd h (by show ¬ 1 = 0; decide)
  · exact h
theorem b_ptIf {k : Nat} {s : SB} (h : qb (ptIf k s) = 0) : qb s = 0 := by
  unfold ptIf at h
  split at h
  · exact h
  · exact b_pt h
theorem c_put {C0 : St} {f : Nat} {s : SB} {N : Nt} {C : St} {k : Nat} {x : Int32} {Q : St → Prop} (h : RT C0 f s N C) (g : WG s) (hx : qb s = 0 → x = nI k) (hk : k < 256) (kk : ∀ C', RT C0 f (ptIf k s) N C' → Q C') : wp2_put C x Q := by
  by_cases hb : qb s = 0
  · have hx := hx hb
    subst hx
    obtain ⟨a1, a2, a3, a4, a5, a6, a7, a8, a9, a10⟩ := h.g hb
    have w1 := g.1.1
    unfold wp2_put
    have hc : (gI C 1205 0).toNatClampNeg = qh s := by rw [a5, nI_clamp (by omega)]
    unfold ptIf at kk
    refine ⟨fun c0 => ⟨fun c => ?_, fun _ => ⟨fun c => ?_, fun c => ?_⟩⟩, fun c0 => ?_⟩
    · rw [a5] at c
      exact absurd c (nI_pos (by omega))
    · rw [a5] at c
      have c := (nI_ltI (b := 16) (by omega) (by omega)).mp c
      rw [if_neg (nN (b := 0) c0)] at kk
      refine ⟨by rw [a5]; exact vp_in_nI c (by omega), fun S2 e S3 e3 => ?_⟩
      rw [hc] at e
      subst e
      have e4 : gI (sA C 1201 0 (qh s) (nI k)) 1205 0 + 1 = nI (qh s + 1) := by
        show gI C 1205 0 + 1 = _
        rw [a5]; exact nI_1 _
      rw [e4] at e3
      subst e3
      have h5 : AgC f C0 (sA C 1201 0 (qh s) (nI k)) ∧ gR (sA C 1201 0 (qh s) (nI k)) 1203 0 = f ∧ Sf (sA C 1201 0 (qh s) (nI k)) := ⟨a1.stack, a2, a3⟩
      have h6 := c_h (h := qh s + 1) (by omega) h5
      have ept : pt k s = (qh s + 1, fup (qK s) (qh s) k, qn s, qF s, qb s) := if_neg (by omega)
      rw [ept] at kk
      refine kk _ (RTg.t (s := (qh s + 1, fup (qK s) (qh s) k, qn s, qF s, qb s)) ⟨h6.1, h6.2.1, h6.2.2, a4, rfl, a6, a7, fun i hi => ?_, a9, fun i hi => ?_⟩ hb)
      · have hi : i < qh s + 1 := hi
        show (if 1201 = 1201 ∧ 0 = 0 ∧ i = qh s then nI k else gA C 1201 0 i) = nI (if i = qh s then k else qK s i)
        by_cases z : i = qh s
        · simp [z]
        · simp [z]; exact a8 i (by omega)
      · have := a10 i hi
        simpa [gA_sI, gA_sA] using this
    · rw [a5] at c
      have c : ¬ qh s < 16 := fun z => c ((nI_ltI (b := 16) (by omega) (by omega)).mpr z)
      rw [if_neg (nN (b := 0) c0)] at kk
      have ept : pt k s = sBad s := if_pos (by omega)
      rw [ept] at kk
      intro S1 e; subst e
      exact kk _ (RTb.t (c_bad ⟨a1, a2, a3⟩) e_bad)
    · rw [if_pos (nE (b := 0) (by omega) (by omega) c0)] at kk
      exact kk _ h
  · exact cb_put (h.b hb) fun C' h' => kk C' (RTb.t h' (fun z => hb (b_ptIf z)))
theorem cb_die {C0 : St} {f : Nat} {C : St} {Q : St → Prop} (h : RTb C0 f C) (kk : ∀ C', RTb C0 f C' → Q C') : wp2_die C Q := by
  obtain ⟨h1, h2, h3, h4⟩ := id h
  obtain ⟨q1, q2, q3, q4⟩ := id h3
  obtain ⟨b, b1, b2⟩ := q2 _ q1
  unfold wp2_die
  refine ⟨q1, fun S1 e => ?_⟩
  rw [b2] at e
  subst e
  have h6 := c_h b1 ⟨h1, h2, h3⟩
  refine ⟨q1, fun S2 e => ?_⟩
  subst e
  obtain ⟨p1, p2, ⟨x, p3, p4⟩, y, p5, p6⟩ := h6.2.2
  refine kk _ ⟨h6.1.sI (Or.inr (Or.inl ⟨by decide, by decide⟩)), h2, ⟨q1, fun i hi => ?_, ⟨x, p3, ?_⟩, y, p5, ?_⟩, ?_⟩
  · obtain ⟨b', z1, z2⟩ := p2 i hi
    exact ⟨b', z1, by simpa [gI_sI] using z2⟩
  · simpa [gI_sI] using p4
  · simpa [gI_sI] using p6
  · simpa [gI_sI] using h4
theorem c_die {C0 : St} {f : Nat} {s : SB} {N : Nt} {C : St} {Q : St → Prop} (h : RT C0 f s N C) (g : WG s) (h1 : 1 ≤ qn s) (kk : ∀ C', RT C0 f (dieIf s) N C' → Q C') : wp2_die C Q := by
  unfold dieIf at kk
  by_cases hb : qb s = 0
  · rw [if_pos hb] at kk
    obtain ⟨a1, a2, a3, a4, a5, a6, a7, a8, a9, a10⟩ := h.g hb
    have hn := (g.2 hb).1
    have f1 := a9 (qn s - 1) (by omega)
    have w5 := g.1.2.2.2.2.1 (qn s - 1) (by omega)
    have w8 := g.1.2.2.2.2.2.2 (qn s - 1) (by omega)
    unfold wp2_die
    rw [a7, f1.2.2.1]
    refine ⟨by omega, fun S1 e => ?_⟩
    subst e
    have h6 := c_h (h := fb (qF s (qn s - 1))) w5.2.2.1 ⟨a1, a2, a3⟩
    rw [show gR (sI C 1205 0 (nI (fb (qF s (qn s - 1))))) 1204 0 = qn s - 1 from a7]
    refine ⟨by omega, fun S2 e => ?_⟩
    subst e
    obtain ⟨p1, p2, ⟨x, p3, p4⟩, y, p5, p6⟩ := h6.2.2
    refine kk _ (RTg.t (s := die s) ⟨h6.1.sI (Or.inr (Or.inl ⟨by decide, by decide⟩)), a2, ⟨p1, fun i hi => ?_, ⟨x, p3, ?_⟩, y, p5, ?_⟩, ?_, ?_, ?_, a7, fun i hi => ?_, fun i hi => ?_, fun i hi => ?_⟩ hb)
    · obtain ⟨b', z1, z2⟩ := p2 i hi
      exact ⟨b', z1, by simpa [gI_sI] using z2⟩
    · simpa [gI_sI] using p4
    · simpa [gI_sI] using p6
    · simpa [gI_sI] using a4
    · simp [gI_sI, die, sTop, qh]
    · simpa [gI_sI, die, qn] using a6
    · have hi : i < fb (qF s (qn s - 1)) := hi
      have := a8 i (by omega)
      simp only [gA_sI]
      exact this
    · have hi : i < qn s := hi
      have hf := a9 i hi
      by_cases z : i = qn s - 1
      · subst z
        refine ⟨?_, ?_, ?_, ?_, ?_, ?_⟩
        · simpa [gI_sI, die, sTop, qF, qn, fup, fo, fk, fb, fd, fe, fg] using hf.1
        · simpa [gI_sI, die, sTop, qF, qn, fup, fo, fk, fb, fd, fe, fg] using hf.2.1
        · simpa [gI_sI, die, sTop, qF, qn, fup, fo, fk, fb, fd, fe, fg] using hf.2.2.1
        · simpa [gI_sI, die, sTop, qF, qn, fup, fo, fk, fb, fd, fe, fg] using hf.2.2.2.1
        · simp [gI_sI, die, sTop, qF, qn, fup, fo, fk, fb, fd, fe, fg, l1]
        · simpa [gI_sI, die, sTop, qF, qn, fup, fo, fk, fb, fd, fe, fg] using hf.2.2.2.2.2
      · refine ⟨?_, ?_, ?_, ?_, ?_, ?_⟩
        · simpa [gI_sI, die, sTop, qF, fup, z] using hf.1
        · simpa [gI_sI, die, sTop, qF, fup, z] using hf.2.1
        · simpa [gI_sI, die, sTop, qF, fup, z] using hf.2.2.1
        · simpa [gI_sI, die, sTop, qF, fup, z] using hf.2.2.2.1
        · simpa [gI_sI, die, sTop, qF, fup, z] using hf.2.2.2.2.1
        · simpa [gI_sI, die, sTop, qF, fup, z] using hf.2.2.2.2.2
    · have := a10 i hi
      simpa [gA_sI] using this
  · rw [if_neg hb] at kk
    exact cb_die (h.b hb) fun C' h' => kk C' (RTb.t h' hb)
