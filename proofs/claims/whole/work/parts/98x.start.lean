/-! PURE: the calls, one by one: start -/
def eig : UInt64 := 4593671619917905920
def Spa (P : Prog) (f : Nat) (C S1 : St) (i : Nat) : Prop := Ag (fun k => k = 1100 ∨ k = 1101) C S1 ∧ (∀ o x, o ≠ 1 → gJ S1 1100 o x = gJ C 1100 o x ∧ gD S1 1101 o x = gD C 1101 o x) ∧ (∀ x, x < i → gJ S1 1100 1 x = (if pK P f x = 3 then 0 else (gA C 1802 0 x).toInt64) ∧ gD S1 1101 1 x = if pK P f x = 3 then FP.dmul (FP.i2d (gA C 1802 0 x)) eig else FP.dconst0) ∧ ∀ x, i ≤ x → gJ S1 1100 1 x = gJ C 1100 1 x ∧ gD S1 1101 1 x = gD C 1101 1 x
theorem c_beg {P : Prog} {f : Nat} {C : St} {Q : St → Prop} (hf : f < 6) (h04 : gR C 1004 0 = f) (hPC : PC P C) (h3 : pN P f ≤ 3) (hv : pN P f ≤ pV P f) (h6 : pV P f ≤ 6) (hk : ∀ v, v < pV P f → pK P f v ≤ 3) (kk : ∀ S', Spa P f C S' (pN P f) → Q S') : ∀ (m i : Nat) (S1 : St), m + i = pN P f → Spa P f C S1 i → wp6_begin_17 f Q (m + 1) (nI i) S1 := by
  obtain ⟨b1, b2, -, -, b5, -⟩ := hPC f hf
  intro m
  induction m with
  | zero =>
    intro i S1 hm hs
    have e : i = pN P f := by omega
    subst e
    unfold wp6_begin_17 wp4_parameterCount
    show (gI S1 1404 f ≤ nI (pN P f) → _) ∧ (¬ gI S1 1404 f ≤ nI (pN P f) → _)
    rw [hs.1.gI (by decide), b1]
    exact ⟨fun _ => kk S1 hs, fun c => absurd (Int32.le_refl _) c⟩
  | succ m ih =>
    intro i S1 hm hs
    obtain ⟨s1, s2, s3, s4⟩ := hs
    unfold wp6_begin_17 wp4_parameterCount
    show (gI S1 1404 f ≤ nI i → _) ∧ (¬ gI S1 1404 f ≤ nI i → _)
    rw [s1.gI (by decide), b1]
    refine ⟨fun c => absurd ((nI_leI (by omega) (by omega)).mp c) (by omega), fun _ => ⟨fun c => absurd ((nI_leI (a := 3) (by omega) (by omega)).mp c) (by omega), fun _ => ⟨vp_in_nI (by omega) (by omega), ?_⟩⟩⟩
    rw [nI_clamp (by omega), s1.gA (by decide)]
    show wp0_setParameter S1 0 _ _ _
    unfold wp0_setParameter
    rw [s1.gR (by decide), h04]
    refine ⟨hf, ?_⟩
    unfold wp4_kindOf
    rw [s1.gI (by decide), b2, nI_clamp (by omega), s1.gA (by decide), b5 i (by omega)]
    refine ⟨fun c => absurd c (nI_pos (by omega)), fun _ => ⟨fun c => absurd ((nI_leI (by omega) (by omega)).mp c) (by omega), fun _ => ⟨vp_in_nI (by omega) (by omega), fun c => ?_, fun c => ⟨fin_n (fin_arg _), ?_⟩⟩⟩⟩
    · have c : ¬ pK P f i = 3 := nN (b := 3) c
      unfold wp1_set
      refine ⟨fun y => absurd y (nI_pos (by omega)), fun _ => ⟨fun y => absurd ((nI_leI (a := 6) (by omega) (by omega)).mp y) (by omega), fun _ => ⟨fun y => absurd ((nI_leI (a := 6) (by omega) (by omega)).mp y) (by omega), fun _ => ⟨(vp_in_nI (by omega) (by omega) : vp_in (nI i) 6), fun S2 e2 => ⟨(vp_in_nI (by omega) (by omega) : vp_in (nI i) 6), fun S3 e3 x4 e4 => ?_⟩⟩⟩⟩⟩
      rw [nI_clamp (by omega)] at e2 e3
      rw [nI_1] at e4
      subst e2; subst e3; subst e4
      refine ih (i + 1) _ (by omega) ⟨(s1.sJ (by omega)).sD (by omega), fun o x ho => ?_, fun x hx => ?_, fun x hx => ?_⟩
      · simp only [gJ_sD, gJ_sJ, gD_sD, gD_sJ, true_and]
        rw [if_neg (fun z => ho z.1), if_neg (fun z => ho z.1)]
        exact s2 o x ho
      · simp only [gJ_sD, gJ_sJ, gD_sD, gD_sJ, true_and]
        by_cases z : x = i
        · subst z
          rw [if_pos rfl, if_pos rfl, if_neg c, if_neg c]
          exact ⟨rfl, rfl⟩
        · rw [if_neg z, if_neg z]
          exact s3 x (by omega)
      · simp only [gJ_sD, gJ_sJ, gD_sD, gD_sJ, true_and]
        rw [if_neg (by omega), if_neg (by omega)]
        exact s4 x (by omega)
    · have c : pK P f i = 3 := nE (b := 3) (by have := hk i (by omega); omega) (by omega) c
      unfold wp1_set
      refine ⟨fun y => absurd y (nI_pos (by omega)), fun _ => ⟨fun y => absurd ((nI_leI (a := 6) (by omega) (by omega)).mp y) (by omega), fun _ => ⟨fun y => absurd ((nI_leI (a := 6) (by omega) (by omega)).mp y) (by omega), fun _ => ⟨(vp_in_nI (by omega) (by omega) : vp_in (nI i) 6), fun S2 e2 => ⟨(vp_in_nI (by omega) (by omega) : vp_in (nI i) 6), fun S3 e3 x4 e4 => ?_⟩⟩⟩⟩⟩
      rw [nI_clamp (by omega)] at e2 e3
      rw [nI_1] at e4
      subst e2; subst e3; subst e4
      refine ih (i + 1) _ (by omega) ⟨(s1.sJ (by omega)).sD (by omega), fun o x ho => ?_, fun x hx => ?_, fun x hx => ?_⟩
      · simp only [gJ_sD, gJ_sJ, gD_sD, gD_sJ, true_and]
        rw [if_neg (fun z => ho z.1), if_neg (fun z => ho z.1)]
        exact s2 o x ho
      · simp only [gJ_sD, gJ_sJ, gD_sD, gD_sJ, true_and]
        by_cases z : x = i
        · subst z
          rw [if_pos rfl, if_pos rfl, if_pos c, if_pos c]
          exact ⟨rfl, rfl⟩
        · rw [if_neg z, if_neg z]
          exact s3 x (by omega)
      · simp only [gJ_sD, gJ_sJ, gD_sD, gD_sJ, true_and]
        rw [if_neg (by omega), if_neg (by omega)]
        exact s4 x (by omega)
def Spm (n : Nat) (M S1 : St) (i : Nat) : Prop := Ag (fun k => k = 1925 ∨ k = 1926) M S1 ∧ ∀ x, x < i → gJ S1 1925 0 x = (if x < n then (gA M 1910 0 x).toInt64 else 0) ∧ gD S1 1926 0 x = if x < n then FP.dmul (FP.i2d (gA M 1910 0 x)) eig else FP.dconst0
theorem m_sta {M : St} {x1 : Int32} {n : Nat} {Q : Int32 → St → Prop} (h11 : gI M 1911 0 = nI n) (hn : n ≤ 3) (kk : ∀ S', Spm n M S' 6 → wp9_enter S' x1 0 (fun S1 => Q (gI S1 1911 0) (sI S1 1911 0 0))) : ∀ (m i : Nat) (S1 : St), m + i = 6 → Spm n M S1 i → wp9_start_110 x1 Q (m + 1) (nI i) S1 := by
  intro m
  induction m with
  | zero =>
    intro i S1 hm hs
    have e : i = 6 := by omega
    subst e
    refine ⟨fun _ => ?_, fun c => absurd (by decide) c⟩
    have : (fun S1 => Q (gI S1 1911 0) (sI S1 1911 0 0)) = (fun S1 => ∀ x2_1 : Int32, x2_1 = gI S1 1911 0 → ∀ S2, S2 = sI S1 1911 0 0 → Q x2_1 S2) := by
      funext S1
      apply propext
      constructor
      · intro h x e S2 e2; subst e; subst e2; exact h
      · intro h; exact h _ rfl _ rfl
    rw [← this]
    exact kk S1 hs
  | succ m ih =>
    intro i S1 hm hs
    obtain ⟨s1, s3⟩ := hs
    have x11 : gI S1 1911 0 = nI n := by rw [s1.gI (by decide)]; exact h11
    have nxt : ∀ (w : Int64) (y : UInt64), w = (if i < n then (gA M 1910 0 i).toInt64 else 0) → y = (if i < n then FP.dmul (FP.i2d (gA M 1910 0 i)) eig else FP.dconst0) → Spm n M (sD (sJ S1 1925 0 i w) 1926 0 i y) (i + 1) := by
      intro w y ew ey
      refine ⟨(s1.sJ (by omega)).sD (by omega), fun x hx => ?_⟩
      simp only [gJ_sD, gJ_sJ, gD_sD, gD_sJ, true_and]
      by_cases z : x = i
      · subst z
        rw [if_pos rfl, if_pos rfl]; exact ⟨ew, ey⟩
      · rw [if_neg z, if_neg z]; exact s3 x (by omega)
    refine ⟨fun c => absurd ((nI_leI (a := 6) (by omega) (by omega)).mp c) (by omega), fun _ => ⟨fun c => ?_, fun c => ?_⟩⟩
    · rw [x11] at c
      have c' := (nI_leI (by omega) (by omega)).mp c
      unfold wp9_start_140
      rw [nI_clamp (by omega)]
      refine ⟨vp_in_nI (by omega) (by omega), fun S2 e2 => ?_⟩
      subst e2
      rw [show gI (sJ S1 1925 0 i 0) 1911 0 = nI n from x11]
      refine ⟨fun _ => ?_, fun c2 => absurd c c2⟩
      unfold wp9_start_169
      rw [nI_clamp (by omega)]
      refine ⟨vp_in_nI (by omega) (by omega), fun S3 e3 x5 e5 => ?_⟩
      rw [nI_1] at e5
      subst e3; subst e5
      exact ih (i + 1) _ (by omega) (nxt _ _ (by rw [if_neg (by omega)]) (by rw [if_neg (by omega)]))
    · rw [x11] at c
      have c' : ¬ n ≤ i := fun w => c ((nI_leI (by omega) (by omega)).mpr w)
      refine ⟨vp_in_nI (by omega) (by omega), ?_⟩
      unfold wp9_start_140
      rw [nI_clamp (by omega)]
      refine ⟨vp_in_nI (by omega) (by omega), fun S2 e2 => ?_⟩
      subst e2
      rw [show gI (sJ S1 1925 0 i (gA S1 1910 0 i).toInt64) 1911 0 = nI n from x11]
      refine ⟨fun c2 => absurd c2 c, fun _ => ⟨vp_in_nI (by omega) (by omega), fin_n (fin_arg _), ?_⟩⟩
      unfold wp9_start_169
      rw [nI_clamp (by omega)]
      refine ⟨vp_in_nI (by omega) (by omega), fun S3 e3 x5 e5 => ?_⟩
      rw [nI_1] at e5
      subst e3; subst e5
      refine ih (i + 1) _ (by omega) (nxt _ _ ?_ ?_)
      · rw [if_pos (by omega), s1.gA (by decide)]
      · rw [if_pos (by omega)]
        show FP.dmul (FP.i2d (gA S1 1910 0 i)) _ = _
        rw [s1.gA (by decide)]
        rfl
theorem k_start {C M : St} (h : KK C M) (x1 : Int32) (f : Nat → Int64) (g : Nat → UInt64) : st_start KK C M x1 f g := by
  have hK := h
  obtain ⟨P, ph, ck, a, hc, ho⟩ := h
  have hc' := hc
  obtain ⟨hw, hPC, hPM, hT, hg, hS, hX, hA, hN⟩ := hc'
  obtain ⟨o1, o2, o3, o4, o5, o6, o7, o8, o9, o10, o11, o12, o13⟩ := id ho
  have bad : (x1 < 0 ∨ nI 5 < x1) → ∃ j, cd_start 1 = some j ∧ qw_start KK M x1 j (C, f, g) := by
    intro z
    refine ⟨1, rfl, ?_⟩
    unfold qw_start wp9_start
    exact m_inQ (fun y1 y2 => absurd z (fun w => w.elim y1 y2)) (fun _ => m_good0 ⟨fun y => absurd rfl y, fun _ => th_bad hK (by decide)⟩)
  unfold st_start wp8_start
  refine ⟨fun z => ⟨fun w => absurd rfl w, fun _ => bad (Or.inl z)⟩, fun z => ⟨fun z2 => ⟨fun w => absurd rfl w, fun _ => bad (Or.inr ?_)⟩, fun z2 => ⟨fun _ => ?_, fun w => absurd w (by decide)⟩⟩⟩
  · have m1 : (6 : Int32).toInt = 6 := rfl
    rw [Int32.le_iff_toInt_le, m1] at z2
    rw [Int32.lt_iff_toInt_lt, nI_toInt (by omega)]; omega
  obtain ⟨i, hi, ei⟩ := inr' (n := 6) (by omega) z z2
  subst ei
  have hl := (hw i hi).2.2.2.2.1
  have e32 : gI (sI M 1939 0 0) 1932 0 = nI ph := by simp [gI_sI]; exact o5
  have e12 : gI (sI M 1939 0 0) 1912 0 = nI ck := by simp [gI_sI]; exact o12
  have e05 : gA (sI M 1939 0 0) 1905 0 i = nI (pL P i) := (hPM i hi).2.2.2.1
  have b45 : ∀ q : Int32, wp9_start_45 (nI i) (fun rb M' => wp9_thrown M' (fun th M2 => th = 2 ∧ ((2 : Int32) = 0 → f 0 = rb.toInt64) ∧ KK C M2)) (sI M 1939 0 0) := by
    intro _
    unfold wp9_start_45 wp9_start_46
    exact m_good0 ⟨fun y => absurd rfl y, fun _ => th_bad (hK.th 0) (by decide)⟩
  have inM : ∀ Q : Int32 → St → Prop, ((nI ph = 1 → wp9_start_45 (nI i) Q (sI M 1939 0 0)) ∧ (¬ nI ph = 1 → (nI ck = 0 → wp9_start_45 (nI i) Q (sI M 1939 0 0)) ∧ (¬ nI ck = 0 → (nI (pL P i) ≤ 0 → wp9_start_45 (nI i) Q (sI M 1939 0 0)) ∧ (¬ nI (pL P i) ≤ 0 → wp9_start_46 (nI i) Q 1 (sI M 1939 0 0))))) → wp9_start M (nI i) Q := by
    intro Q hQ
    unfold wp9_start
    refine m_inQ (fun _ _ => m_good1 ⟨fun _ => ?_, fun y => absurd y (by decide)⟩) (fun y => absurd y (fun w => w.elim z (fun w => absurd ((nI_ltI (a := 5) (by omega) (by omega)).mp w) (by omega))))
    rw [e32, e12, nI_clamp (by omega), e05]
    exact ⟨hQ.1, fun y1 => ⟨(hQ.2 y1).1, fun y2 => ⟨vp_in_nI hi (by omega), ((hQ.2 y1).2 y2).1, ((hQ.2 y1).2 y2).2⟩⟩⟩
  rw [o4, o11]
  refine ⟨fun y => ⟨2, rfl, ?_⟩, fun y => ⟨fun y2 => ⟨2, rfl, ?_⟩, fun y2 => ⟨vp_in_nI hi (by omega), ?_⟩⟩⟩
  · unfold qw_start
    exact inM _ ⟨fun _ => b45 0, fun w => absurd y w⟩
  · unfold qw_start
    exact inM _ ⟨fun w => absurd w y, fun _ => ⟨fun _ => b45 0, fun w => absurd y2 w⟩⟩
  have y' : ¬ ph = 1 := nN (b := 1) y
  have y2' : ¬ ck = 0 := nN (b := 0) y2
  have ck1 : ck = 1 := by omega
  rw [nI_clamp (by omega)]
  unfold wp4_length
  show (¬ gI C 1407 i = 0 → _) ∧ (gI C 1407 i = 0 → _)
  rw [(hPC i hi).2.2.2.1]
  refine ⟨fun y3 => ⟨vp_in_nI hi (by omega), ?_⟩, fun y3 => ⟨2, rfl, ?_⟩⟩
  · have y3' : ¬ pL P i = 0 := nN (b := 0) y3
    have nle : ¬ nI (pL P i) ≤ 0 := fun w => y3' (by have := (nI_leI (b := 0) (by omega) (by omega)).mp w; omega)
    unfold wp4_parameterCount
    show (gI C 1404 i = gI C 1805 0 → _) ∧ (¬ gI C 1404 i = gI C 1805 0 → _)
    rw [(hPC i hi).1, o8]
    have e11 : gI (sI (sI M 1939 0 0) 1939 0 0) 1911 0 = nI a := by simp [gI_sI]; exact o9
    have e01 : gA (sI (sI M 1939 0 0) 1939 0 0) 1901 0 i = nI (pN P i) := (hPM i hi).1
    have inM2 : ∀ Q : Int32 → St → Prop, ((¬ nI a = nI (pN P i) → wp9_start_74 (nI i) Q 0 (sI (sI M 1939 0 0) 1939 0 0)) ∧ (nI a = nI (pN P i) → wp9_start_74 (nI i) Q 1 (sI (sI M 1939 0 0) 1939 0 0))) → wp9_start M (nI i) Q := by
      intro Q hQ
      refine inM _ ⟨fun w => absurd w y, fun _ => ⟨fun w => absurd w y2, fun _ => ⟨fun w => absurd w nle, fun _ => m_good1 ⟨fun _ => ⟨vp_in_nI hi (by omega), ?_⟩, fun w => absurd w (by decide)⟩⟩⟩⟩
      rw [nI_clamp (by omega), e11, e01]
      exact hQ
    refine ⟨fun y4 => ⟨vp_in_nI hi (by omega), ?_⟩, fun y4 => ⟨3, rfl, ?_⟩⟩
    · have y4' : pN P i = a := nE (by have := (hw i hi).1; omega) (by omega) y4
      obtain ⟨w1, w2, w3, w4, w5, w6, w7⟩ := hw i hi
      unfold wp6_begin
      intro S1 e1
      show wp0_begin S1 0 i _
      unfold wp0_begin
      intro S2 e2 S3 e3 S4 e4
      subst e1; subst e2; subst e3
      refine c_clear (o := 0) fun S5 k5 => c_clear (o := 1) fun S6 k6 => ?_
      obtain ⟨p1, p2, p3, p4⟩ := k5
      obtain ⟨q1, q2, q3, q4⟩ := k6
      have aS6 : Ag kXC C S6 := by
        refine Ag.tr ?_ (q1.mono fun k z => by unfold kXC; omega)
        refine Ag.tr ?_ (p1.mono fun k z => by unfold kXC; omega)
        rw [e4]
        exact (((Ag.rf.sI (by unfold kXC; omega)).sR (by unfold kXC; omega)).sI (by unfold kXC; omega)).sI (by unfold kXC; omega)
      have h04 : gR S6 1004 0 = i := by rw [q1.gR (by decide), p1.gR (by decide), e4]; simp [gR_sI, gR_sR]
      have h05 : gI S6 1005 0 = 0 := by rw [q1.gI (by decide), p1.gI (by decide), e4]; simp [gI_sI, gI_sR]
      have h06 : gI S6 1006 0 = 1 := by rw [q1.gI (by decide), p1.gI (by decide), e4]; simp [gI_sI, gI_sR]
      have h07 : gI S6 1607 0 = 1 := by rw [q1.gI (by decide), p1.gI (by decide), e4]; simp [gI_sI, gI_sR]
      have hh0 : gI S6 1102 0 = 0 := by rw [q2, if_neg (by decide), p2, if_pos rfl]
      have hgl : ∀ x, gJ S6 1100 12 x = gJ C 1100 12 x ∧ gD S6 1101 12 x = gD C 1101 12 x := by
        intro x
        rw [(q3 12 x (by decide)).1, (q3 12 x (by decide)).2, (p3 12 x (by decide)).1, (p3 12 x (by decide)).2, e4]
        exact ⟨rfl, rfl⟩
      have hme : ∀ x, gA S6 1700 0 x = gA C 1700 0 x := by
        intro x
        rw [q1.gA (by decide), p1.gA (by decide), e4]
        rfl
      have hz1 : ∀ x, x < 6 → gJ S6 1100 1 x = 0 ∧ gD S6 1101 1 x = FP.dconst0 := fun x hx => q4 x hx
      refine ⟨pN P i + 1, c_beg hi h04 (hPC.ag aS6 fun k z y => by unfold kXC at y; omega) w1 w2 w3 (fun v hv => (w6 v hv).2) (fun S7 hs => ?_) (pN P i) 0 S6 (by omega) ⟨Ag.rf, fun _ _ _ => ⟨rfl, rfl⟩, fun x hx => absurd hx (by omega), fun _ _ => ⟨rfl, rfl⟩⟩⟩
      obtain ⟨s1, s2, s3, s4⟩ := hs
      have aS7 : Ag kXC C S7 := aS6.tr (s1.mono fun k z => by unfold kXC; omega)
      intro S8 e8 S9 e9 x2 ex S10 e10
      subst e8; subst e9; subst e10
      have ex2 : x2 = nI a := by
        rw [ex]; simp [gI_sI]; rw [aS7.gI (by unfold kXC; omega)]; exact o8
      subst ex2
      unfold qw_start
      refine inM2 _ ⟨fun w => absurd y4.symm w, fun _ => m_good1 ⟨fun _ N1 t1 N2 t2 N3 t3 N4 t4 N5 t5 => ?_, fun w => absurd w (by decide)⟩⟩
      subst t1; subst t2; subst t3; subst t4
      have m5 : Ag (fun k => kYM k ∨ k = 1939) M N5 := by
        rw [t5]
        refine Ag.sI (Ag.sI (Ag.sI (Ag.sI (Ag.sI (Ag.sI (Ag.sI (Ag.sI Ag.rf ?_) ?_) ?_) ?_) ?_) ?_) ?_) ?_ <;> unfold kYM <;> omega
      have n32 : gI N5 1932 0 = 1 := by rw [t5]; simp [gI_sI]
      have n33 : gI N5 1933 0 = 0 := by rw [t5]; simp [gI_sI]
      have n30 : gI N5 1930 0 = nI 0 := by rw [t5]; simp [gI_sI]; rfl
      have n20 : gI N5 1920 0 = nI 0 := by rw [t5]; simp [gI_sI]; rfl
      have n14 : gI N5 1914 0 = nI 0 := by rw [t5]; simp [gI_sI]; rfl
      have n39 : gI N5 1939 0 = 0 := by rw [t5]; simp [gI_sI]
      have n11 : gI N5 1911 0 = nI a := by rw [t5]; simp [gI_sI]; exact o9
      have n10 : ∀ x, gA N5 1910 0 x = gA M 1910 0 x := by intro x; rw [t5]; rfl
      have n07 : (∀ x, gA N5 1907 0 x = gA M 1907 0 x) ∧ (∀ x, gJ N5 1908 0 x = gJ M 1908 0 x) ∧ gF N5 1909 0 = gF M 1909 0 := by rw [t5]; exact ⟨fun _ => rfl, fun _ => rfl, rfl⟩
      have n03 : gA N5 1903 0 i = nI (pR P i) := by rw [t5]; exact (hPM i hi).2.2.1
      clear t5
      refine ⟨7, m_sta (n := a) n11 o3 (fun N6 hv => ?_) 6 0 _ (by omega) ⟨Ag.rf, fun x hx => absurd hx (by omega)⟩⟩
      obtain ⟨v1, v2⟩ := hv
      refine m_enter (D := 0) (bk := 0) (G := 0) (R := pR P i) (H := 0) (by rw [v1.gI (by decide)]; exact n30) (by omega) (by rw [v1.gI (by decide)]; exact n20) (by omega) hi (by rw [v1.gA (by decide)]; exact n03) (by rw [v1.gI (by decide)]; exact n14) ?_
      have aC : Ag (fun k => kXC k ∨ k = 1805 ∨ k = 1807 ∨ k = 1808) C (sI (sI (sI S7 1807 0 1) 1808 0 0) 1805 0 0) := (((aS7.mono fun k z => Or.inl z).sI (by omega)).sI (by omega)).sI (by omega)
      have aM : Ag (fun k => kYM k ∨ k = 1939 ∨ k = 1911) M (sI (entM N6 0 i 0 0 (pR P i) 0) 1911 0 0) := by
        unfold entM
        refine Ag.sI ?_ (by omega)
        have v2 : Ag (fun k => kYM k ∨ k = 1939 ∨ k = 1911) M N6 := (m5.mono fun k z => z.elim Or.inl fun w => Or.inr (Or.inl w)).tr (v1.mono fun k z => by unfold kYM; omega)
        refine Ag.sI (Ag.sI (Ag.sA (Ag.sA (Ag.sA (Ag.sI (Ag.sA (Ag.sA (Ag.sA v2 ?_) ?_) ?_) ?_) ?_) ?_) ?_) ?_) ?_ <;> unfold kYM <;> omega
      obtain ⟨g1, g2, g3⟩ := sIni_ok hw hi
      obtain ⟨mi, hini⟩ := Here.ini hw hi (hN ck1 i hi (by omega)).1
      have PC' : PC P (sI (sI (sI S7 1807 0 1) 1808 0 0) 1805 0 0) := hPC.ag aC fun k z y => by unfold kXC at y; omega
      have PM' : PM P (sI (entM N6 0 i 0 0 (pR P i) 0) 1911 0 0) := hPM.ag aM fun k z1 z2 y => by unfold kYM at y; omega
      have XN' : XN P (sI (sI (sI S7 1807 0 1) 1808 0 0) 1805 0 0) := by
        intro fn hfn hL
        obtain ⟨b1, N, b2⟩ := hN ck1 fn hfn hL
        refine ⟨b1, N, fun q hq => ?_⟩
        rw [aC.gA (by unfold kXC; omega), aC.gA (k := 1403) (by unfold kXC; omega)]
        exact b2 q hq
      have XG' : XG (sI (sI (sI S7 1807 0 1) 1808 0 0) 1805 0 0) (sI (entM N6 0 i 0 0 (pR P i) 0) 1911 0 0) := by
        refine hg.of (fun q => ?_) (fun q => ?_) (fun q => ?_) (fun q => ?_) ?_ (fun q => ?_)
        · show gJ S7 1100 12 q = _
          rw [(s2 12 q (by decide)).1]; exact (hgl q).1
        · show gD S7 1101 12 q = _
          rw [(s2 12 q (by decide)).2]; exact (hgl q).2
        · show gA S7 1700 0 q = _
          rw [s1.gA (by decide)]; exact hme q
        · show gJ N6 1908 0 q = _
          rw [v1.gJ (by decide)]; exact n07.2.1 q
        · show gF N6 1909 0 = _
          rw [v1.gF (by decide)]; exact n07.2.2
        · simp only [entM, gA_sI, gA_sA]
          simp (decide := true) only [false_and, if_false]
          rw [v1.gA (by decide)]; exact n07.1 q
      have qh0 : qh (sIni P i) = 0 := by rw [g3]; rfl
      have qn1 : qn (sIni P i) = 1 := by rw [g3]; rfl
      have qF0 : qF (sIni P i) 0 = (0, pR P i, 0, 0, 0, 60) := by rw [g3]; rfl
      have hxh : xh P (1, fun _ => i, fun _ => mi, fun _ => 0, fun _ => sIni P i) 0 = 0 := by
        exact (if_pos (rfl : 0 + 1 = xd (1, fun _ => i, fun _ => mi, fun _ => 0, fun _ => sIni P i))).trans qh0
      refine th_good ⟨P, 1, 1, 0, ⟨hw, PC', PM', fun q hq => ?_, XG', ⟨?_, fun q hq => ?_⟩, fun _ => ⟨(1, fun _ => i, fun _ => mi, fun _ => 0, fun _ => sIni P i), hw, PC', PM', ⟨Nat.le_refl 1, by show 1 ≤ 6; decide, fun j hj => ⟨hi, hini, ⟨fun q hq => ?_, fun q hq => ?_⟩, ?_⟩, fun j hj => ?_⟩, ⟨?_, fun j hj => ?_⟩, ⟨?_, ?_, ?_, ?_, fun j hj => ?_⟩, fun j hj => ⟨fun q hq => ?_, fun q hq => ?_⟩, XG', XN'⟩, fun w => absurd w (by decide), fun _ => XN'⟩, ⟨by omega, by omega, by omega, ?_, ?_, ?_, ?_, ?_, ?_, fun q hq => absurd hq (by omega), ?_, ?_, fun _ => rfl⟩⟩ ?_ ?_
      · rw [aC.gA (by unfold kXC; omega), aM.gA (by unfold kYM; omega)]; exact hT q hq
      · rw [aC.gR (by unfold kXC; omega)]; exact hS.1
      · rw [aC.gI (by unfold kXC; omega)]; exact hS.2 q hq
      · have hq : q < qn (sIni P i) := hq
        show fd (qF (sIni P i) q) = 0
        rw [qn1] at hq
        rw [show q = 0 by omega, qF0]; rfl
      · have hq : q < qh (sIni P i) := hq
        omega
      · show 1 ≤ qn (sIni P i)
        omega
      · exact absurd (show j + 1 < 1 from hj) (by omega)
      · simp [gI_sI]; rw [s1.gI (by decide), h07]; rfl
      · have hj : j < 1 := hj
        have j0 : j = 0 := by omega
        subst j0
        refine ⟨?_, ?_, ?_, ?_, fun q q1 q2 => ?_⟩
        · show gR S7 1004 0 = i
          rw [s1.gR (by decide)]; exact h04
        · simp [gI_sI]; rw [s1.gI (by decide), h05]; rfl
        · show _ = nI (qn (sIni P i))
          simp [gI_sI]; rw [s1.gI (by decide), h06, qn1]; rfl
        · rw [hxh]
          simp [gI_sI]; rw [s1.gI (by decide), hh0]; rfl
        · have q2 : q < qn (sIni P i) := q2
          omega
      · simp [entM, gI_sI, gI_sA]; rfl
      · simp [entM, gI_sI, gI_sA]; rfl
      · show _ = nI (0 + qn (sIni P i))
        rw [qn1]
        simp [entM, gI_sI, gI_sA]
      · show _ = nI (0 + xh P (1, fun _ => i, fun _ => mi, fun _ => 0, fun _ => sIni P i) 0)
        rw [hxh]
        simp [entM, gI_sI, gI_sA]
        rw [v1.gI (by decide)]; exact n14
      · have hj : j < 1 := hj
        have j0 : j = 0 := by omega
        subst j0
        refine ⟨?_, ?_, fun w => absurd w (by omega), fun q hq => ?_⟩
        · simp [entM, gA_sI, gA_sA]; rfl
        · simp [entM, gA_sI, gA_sA]; rfl
        · have hq : q < qn (sIni P i) := hq
          have q0 : q = 0 := by omega
          subst q0
          show gA _ 1915 0 (0 + 0) = nI (fo (qF (sIni P i) 0)) ∧ gA _ 1916 0 (0 + 0) = nI (fk (qF (sIni P i) 0)) ∧ gA _ 1917 0 (0 + 0) = nI (0 + fb (qF (sIni P i) 0)) ∧ _
          rw [qF0]
          refine ⟨?_, ?_, ?_, fun w => absurd w (by omega)⟩
          · simp [entM, gA_sI, gA_sA]; rfl
          · simp [entM, gA_sI, gA_sA]; rfl
          · simp [entM, gA_sI, gA_sA]; rfl
      · have hj : j < 1 := hj
        have j0 : j = 0 := by omega
        subst j0
        rw [hxh] at hq
        omega
      · have hj : j < 1 := hj
        have j0 : j = 0 := by omega
        subst j0
        have hq : q < pV P i := hq
        show VR (pK P i q) (gJ S7 1100 1 q) (gD S7 1101 1 q) (gJ N6 1925 0 (6 * 0 + q)) (gD N6 1926 0 (6 * 0 + q))
        rw [show 6 * 0 + q = q by omega, (v2 q (by omega)).1, (v2 q (by omega)).2]
        by_cases z : q < pN P i
        · have za : q < a := by omega
          rw [(s3 q z).1, (s3 q z).2, if_pos za, if_pos za, aS6.gA (by unfold kXC; omega), n10, o10 q za]
          by_cases k3 : pK P i q = 3
          · rw [if_pos k3, if_pos k3, k3]
            exact ⟨rfl, fin_arg _⟩
          · rw [if_neg k3, if_neg k3]
            unfold VR
            rw [if_neg k3]
            exact ⟨rfl, fun _ => by rw [i_ext]⟩
        · rw [(s4 q (by omega)).1, (s4 q (by omega)).2, (hz1 q (by omega)).1, (hz1 q (by omega)).2, if_neg (by omega), if_neg (by omega)]
          unfold VR
          split
          · exact ⟨rfl, fin_0⟩
          · exact ⟨rfl, fun _ => rfl⟩
      · simp [gI_sI]; rfl
      · simp [entM, gI_sI, gI_sA]; rw [v1.gI (by decide), n32]; rfl
      · simp [entM, gI_sI, gI_sA]; rw [v1.gI (by decide), n33]
      · rw [aC.gI (by unfold kXC; omega), aM.gI (by unfold kYM; omega)]; exact o7
      · simp [gI_sI]; rfl
      · simp [gI_sI]; rfl
      · rw [aC.gI (by unfold kXC; omega), o11, ck1]
      · rw [aM.gI (by unfold kYM; omega), o12, ck1]
      · simp [entM, gI_sI, gI_sA]; rw [v1.gI (by decide), n39]
      · simp [vp_updL, entM, gI_sI, gI_sA]; rw [v1.gI (by decide), n11]
    · unfold qw_start
      exact inM2 _ ⟨fun _ => m_good0 ⟨fun w => absurd rfl w, fun _ => th_bad ((hK.th 0).th 0) (by decide)⟩, fun w => absurd w.symm y4⟩
  · have y3' : pL P i = 0 := nE (b := 0) (by omega) (by omega) y3
    unfold qw_start
    refine inM _ ⟨fun w => absurd w y, fun _ => ⟨fun w => absurd w y2, fun _ => ⟨fun _ => b45 0, fun w => absurd ?_ w⟩⟩⟩
    rw [y3']; decide
