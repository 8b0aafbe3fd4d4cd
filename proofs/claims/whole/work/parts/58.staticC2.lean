theorem AgC.noteE {f : Nat} {C0 C : St} (h : AgC f C0 C) {j : Nat} {v : Int32} : AgC f C0 (sA C 1402 f j v) := by
  refine ⟨h.1.sA (Or.inr (Or.inr (Or.inl rfl))), fun g hg j' => ?_⟩
  have := h.2 g hg j'
  simpa [gA_sA, hg] using this
theorem AgC.noteB {f : Nat} {C0 C : St} (h : AgC f C0 C) {j : Nat} {v : Int32} : AgC f C0 (sA C 1403 f j v) := by
  refine ⟨h.1.sA (Or.inr (Or.inr (Or.inr rfl))), fun g hg j' => ?_⟩
  have := h.2 g hg j'
  simpa [gA_sA, hg] using this
theorem cb_noteElse {C0 : St} {f : Nat} {C : St} {x y : Int32} {Q : St → Prop} (h : RTb C0 f C) (kk : ∀ C', RTb C0 f C' → Q C') : wp4_noteElse C f x y Q := by
  unfold wp4_noteElse
  refine ⟨fun _ => kk _ h, fun c => ⟨fun _ => kk _ h, fun c2 => ?_⟩⟩
  have hv : vp_in x 60 := by
    intro z
    rcases z with z | z
    · exact c z
    · obtain ⟨j, hj, e⟩ := nI_of c
      subst e
      rw [nI_clamp hj] at z
      exact c2 ((nI_leI (a := 60) (by omega) hj).mpr z)
  refine ⟨hv, fun S1 e => ?_⟩
  subst e
  exact kk _ ⟨h.1.noteE, h.2.1, h.2.2.1, h.2.2.2⟩
theorem cb_noteEnd {C0 : St} {f : Nat} {C : St} {x y : Int32} {Q : St → Prop} (h : RTb C0 f C) (kk : ∀ C', RTb C0 f C' → Q C') : wp4_noteEnd C f x y Q := by
  unfold wp4_noteEnd
  refine ⟨fun _ => kk _ h, fun c => ⟨fun _ => kk _ h, fun c2 => ?_⟩⟩
  have hv : vp_in x 60 := by
    intro z
    rcases z with z | z
    · exact c z
    · obtain ⟨j, hj, e⟩ := nI_of c
      subst e
      rw [nI_clamp hj] at z
      exact c2 ((nI_leI (a := 60) (by omega) hj).mpr z)
  refine ⟨hv, fun S1 e => ?_⟩
  subst e
  exact kk _ ⟨h.1.noteB, h.2.1, h.2.2.1, h.2.2.2⟩
theorem c_noteElse {C0 : St} {f : Nat} {s : SB} {N : Nt} {C : St} {b v : Nat} {Q : St → Prop} (h : RTg C0 f s N C) (hb : b ≤ 60) (kk : ∀ C', RTg C0 f s (fup N.1 b v, N.2) C' → Q C') : wp4_noteElse C f (gbeg b) (nI v) Q := by
  obtain ⟨a1, a2, a3, a4, a5, a6, a7, a8, a9, a10⟩ := id h
  unfold wp4_noteElse
  have keep : b = 60 → Q C := by
    intro z
    refine kk _ ⟨a1, a2, a3, a4, a5, a6, a7, a8, a9, fun i hi => ?_⟩
    show gA C 1402 f i = nI (if i = b then v else N.1 i) ∧ _
    rw [if_neg (by omega)]
    exact a10 i hi
  unfold gbeg
  by_cases z : b = 60
  · rw [if_pos z]
    exact ⟨fun _ => keep z, fun c => absurd (by decide) c⟩
  · rw [if_neg z]
    refine ⟨fun c => absurd c (nI_pos (by omega)), fun _ => ⟨fun c => absurd ((nI_leI (a := 60) (by omega) (by omega)).mp c) (by omega), fun _ => ⟨vp_in_nI (by omega) (by omega), fun S1 e => ?_⟩⟩⟩
    rw [nI_clamp (by omega)] at e
    subst e
    refine kk _ ⟨a1.noteE, a2, a3, a4, a5, a6, a7, fun i hi => ?_, a9, fun i hi => ?_⟩
    · have := a8 i hi
      simpa [gA_sA] using this
    · have := a10 i hi
      show (if 1402 = 1402 ∧ f = f ∧ i = b then nI v else gA C 1402 f i) = nI (if i = b then v else N.1 i) ∧ gA (sA C 1402 f b (nI v)) 1403 f i = _
      refine ⟨?_, ?_⟩
      · by_cases zi : i = b
        · simp [zi]
        · simp [zi]; exact this.1
      · simpa [gA_sA] using this.2
theorem c_noteEnd {C0 : St} {f : Nat} {s : SB} {N : Nt} {C : St} {b v : Nat} {Q : St → Prop} (h : RTg C0 f s N C) (hb : b ≤ 60) (kk : ∀ C', RTg C0 f s (N.1, fup N.2 b v) C' → Q C') : wp4_noteEnd C f (gbeg b) (nI v) Q := by
  obtain ⟨a1, a2, a3, a4, a5, a6, a7, a8, a9, a10⟩ := id h
  unfold wp4_noteEnd
  have keep : b = 60 → Q C := by
    intro z
    refine kk _ ⟨a1, a2, a3, a4, a5, a6, a7, a8, a9, fun i hi => ?_⟩
    show _ ∧ gA C 1403 f i = nI (if i = b then v else N.2 i)
    rw [if_neg (by omega)]
    exact a10 i hi
  unfold gbeg
  by_cases z : b = 60
  · rw [if_pos z]
    exact ⟨fun _ => keep z, fun c => absurd (by decide) c⟩
  · rw [if_neg z]
    refine ⟨fun c => absurd c (nI_pos (by omega)), fun _ => ⟨fun c => absurd ((nI_leI (a := 60) (by omega) (by omega)).mp c) (by omega), fun _ => ⟨vp_in_nI (by omega) (by omega), fun S1 e => ?_⟩⟩⟩
    rw [nI_clamp (by omega)] at e
    subst e
    refine kk _ ⟨a1.noteB, a2, a3, a4, a5, a6, a7, fun i hi => ?_, a9, fun i hi => ?_⟩
    · have := a8 i hi
      simpa [gA_sA] using this
    · have := a10 i hi
      show gA (sA C 1403 f b (nI v)) 1402 f i = _ ∧ (if 1403 = 1403 ∧ f = f ∧ i = b then nI v else gA C 1403 f i) = nI (if i = b then v else N.2 i)
      refine ⟨?_, ?_⟩
      · simpa [gA_sA] using this.1
      · by_cases zi : i = b
        · simp [zi]
        · simp [zi]; exact this.2
theorem cb_begin {C0 : St} {f : Nat} {C : St} {x1 x2 x3 : Int32} {Q : St → Prop} (hf : f < 6) (h : RTb C0 f C) (kk : ∀ C', RTb C0 f C' → Q C') : wp2_beginFrame C x1 x2 x3 Q := by
  obtain ⟨h1, h2, h3, h4⟩ := id h
  obtain ⟨q1, q2, ⟨y, q3, q4⟩, n, q5, q6⟩ := id h3
  have bad : ∀ S1, S1 = sI C 1207 0 1 → Q S1 := fun S1 e => by subst e; exact kk _ (c_bad' h)
  unfold wp2_beginFrame
  refine ⟨fun _ => bad, fun _ => ⟨fun _ => bad, fun c => ⟨fun _ => ?_, fun _ => bad⟩⟩⟩
  rw [q6] at c ⊢
  have c : ¬ 8 ≤ n := fun z => c ((nI_leI (a := 8) (by omega) (by omega)).mpr z)
  refine ⟨vp_in_nI (by omega) (by omega), fun S3 e3 => ?_⟩
  rw [nI_clamp (by omega)] at e3
  subst e3
  rw [show gR (sR C 1204 0 n) 1204 0 = n from rfl]
  refine ⟨by omega, ?_⟩
  unfold wp3_open
  intro S1 e1 S2 e2 S3 e3 S4 e4 S5 e5 S6 e6 S7 e7
  subst e1; subst e2; subst e3; subst e4; subst e5; subst e6; subst e7
  rw [show gI (sR C 1204 0 n) 1205 0 = nI y from q4]
  have k13 : ∀ k, 1300 ≤ k → k ≤ 1305 → kC k := fun k z1 z2 => Or.inr (Or.inl ⟨z1, z2⟩)
  have hA : AgC f C0 (sI (sI (sI (sI (sI (sI (sI (sR C 1204 0 n) 1300 n x1) 1301 n x2) 1302 n (nI y)) 1303 n x3) 1304 n 0) 1305 n 0) 1206 0 (nI (n + 1))) :=
    (((((((h1.sR (Or.inl ⟨by decide, by decide⟩)).sI (k13 _ (by decide) (by decide))).sI (k13 _ (by decide) (by decide))).sI (k13 _ (by decide) (by decide))).sI (k13 _ (by decide) (by decide))).sI (k13 _ (by decide) (by decide))).sI (k13 _ (by decide) (by decide))).sI (Or.inl ⟨by decide, by decide⟩)
  rw [show gI (sI (sI (sI (sI (sI (sI (sR C 1204 0 n) 1300 n x1) 1301 n x2) 1302 n (nI y)) 1303 n x3) 1304 n 0) 1305 n 0) 1206 0 + 1 = nI (n + 1) by
    rw [show gI (sI (sI (sI (sI (sI (sI (sR C 1204 0 n) 1300 n x1) 1301 n x2) 1302 n (nI y)) 1303 n x3) 1304 n 0) 1305 n 0) 1206 0 = gI C 1206 0 by simp [gI_sI, gI_sR], q6]; exact nI_1 n]
  refine ⟨?_, ?_⟩
  · show gR C 1203 0 < 6
    rw [h2]; exact hf
  · rw [show gR (sI (sI (sI (sI (sI (sI (sI (sR C 1204 0 n) 1300 n x1) 1301 n x2) 1302 n (nI y)) 1303 n x3) 1304 n 0) 1305 n 0) 1206 0 (nI (n + 1))) 1203 0 = f from h2]
    refine cb_noteElse ⟨hA, h2, ⟨by show n < 8; omega, fun i hi => ?_, ⟨y, q3, ?_⟩, n + 1, by omega, ?_⟩, ?_⟩ kk
    · obtain ⟨b, b1, b2⟩ := q2 i hi
      by_cases z : i = n
      · exact ⟨y, q3, by simp [gI_sI, z]⟩
      · exact ⟨b, b1, by simpa [gI_sI, gI_sR, z] using b2⟩
    · simpa [gI_sI, gI_sR] using q4
    · simp [gI_sI]
    · simpa [gI_sI, gI_sR] using h4
