/-! PURE: the calls, one by one: start -/
def eig : UInt64 := 4593671619917905920
def Spa (P : Prog) (f : Nat) (C S1 : St) (i : Nat) : Prop := Ag (fun k => k = 1100 ∨ k = 1101) C S1 ∧ (∀ o x, o ≠ 1 → gJ S1 1100 o x = gJ C 1100 o x ∧ gD S1 1101 o x = gD C 1101 o x) ∧ (∀ x, x < i → gJ S1 1100 1 x = (if pK P f x = 3 then 0 else (gA C 1802 0 x).toInt64) ∧ gD S1 1101 1 x = if pK P f x = 3 then FP.dmul (FP.i2d (gA C 1802 0 x)) eig else FP.dconst0) ∧ ∀ x, i ≤ x → gJ S1 1100 1 x = gJ C 1100 1 x ∧ gD S1 1101 1 x = gD C 1101 1 x
theorem c_beg {P : Prog} {f : Nat} {C : St} {Q : St → Prop} (hf : f < 6) (h04 : gR C 1004 0 = f) (hPC : PC P C) (h3 : pN P f ≤ 3) (hv : pN P f ≤ pV P f) (h6 : pV P f ≤ 6) (hk : ∀ v, v < pV P f → pK P f v ≤ 3) (kk : ∀ S', Spa P f C S' (pN P f) → Q S') : ∀ (m i : Nat) (S1 : St), m + i = pN P f → Spa P f C S1 i → wp6_begin_17 f Q (m + 1) (nI i) S1 := by
  obtain ⟨b1, b2, -, -, b5, -⟩ := hPC f hf
  intro m
  induction m with
  | zero =>
    intro i S1 hm hs
    have e : i = pN P f := by omega
    subst e
    unfold wp6_begin_17 wp4_parameterCount
    show (gI S1 1404 f ≤ nI (pN P f) → _) ∧ (¬ gI S1 1404 f ≤ nI (pN P f) → _)
    rw [hs.1.gI (by decide), b1]
    exact ⟨fun _ => kk S1 hs, fun c => absurd (Int32.le_refl _) c⟩
  | succ m ih =>
    intro i S1 hm hs
    obtain ⟨s1, s2, s3, s4⟩ := hs
    unfold wp6_begin_17 wp4_parameterCount
    show (gI S1 1404 f ≤ nI i → _) ∧ (¬ gI S1 1404 f ≤ nI i → _)
    rw [s1.gI (by decide), b1]
    refine ⟨fun c => absurd ((nI_leI (by omega) (by omega)).mp c) (by omega), fun _ => ⟨fun c => absurd ((nI_leI (a := 3) (by omega) (by omega)).mp c) (by omega), fun _ => ⟨vp_in_nI (by omega) (by omega), ?_⟩⟩⟩
    rw [nI_clamp (by omega), s1.gA (by decide)]
    show wp0_setParameter S1 0 _ _ _
    unfold wp0_setParameter
    rw [s1.gR (by decide), h04]
    refine ⟨hf, ?_⟩
    unfold wp4_kindOf
    rw [s1.gI (by decide), b2, nI_clamp (by omega), s1.gA (by decide), b5 i (by omega)]
    refine ⟨fun c => absurd c (nI_pos (by omega)), fun _ => ⟨fun c => absurd ((nI_leI (by omega) (by omega)).mp c) (by omega), fun _ => ⟨vp_in_nI (by omega) (by omega), fun c => ?_, fun c => ⟨fin_n (fin_arg _), ?_⟩⟩⟩⟩
    · have c : ¬ pK P f i = 3 := nN (b := 3) c
      unfold wp1_set
      refine ⟨fun y => absurd y (nI_pos (by omega)), fun _ => ⟨fun y => absurd ((nI_leI (a := 6) (by omega) (by omega)).mp y) (by omega), fun _ => ⟨fun y => absurd ((nI_leI (a := 6) (by omega) (by omega)).mp y) (by omega), fun _ => ⟨(vp_in_nI (by omega) (by omega) : vp_in (nI i) 6), fun S2 e2 => ⟨(vp_in_nI (by omega) (by omega) : vp_in (nI i) 6), fun S3 e3 x4 e4 => ?_⟩⟩⟩⟩⟩
      rw [nI_clamp (by omega)] at e2 e3
      rw [nI_1] at e4
      subst e2; subst e3; subst e4
      refine ih (i + 1) _ (by omega) ⟨(s1.sJ (by omega)).sD (by omega), fun o x ho => ?_, fun x hx => ?_, fun x hx => ?_⟩
      · simp only [gJ_sD, gJ_sJ, gD_sD, gD_sJ, true_and]
        rw [if_neg (fun z => ho z.1), if_neg (fun z => ho z.1)]
        exact s2 o x ho
      · simp only [gJ_sD, gJ_sJ, gD_sD, gD_sJ, true_and]
        by_cases z : x = i
        · subst z
          rw [if_pos rfl, if_pos rfl, if_neg c, if_neg c]
          exact ⟨rfl, rfl⟩
        · rw [if_neg z, if_neg z]
          exact s3 x (by omega)
      · simp only [gJ_sD, gJ_sJ, gD_sD, gD_sJ, true_and]
        rw [if_neg (by omega), if_neg (by omega)]
        exact s4 x (by omega)
    · have c : pK P f i = 3 := nE (b := 3) (by have := hk i (by omega); omega) (by omega) c
      unfold wp1_set
      refine ⟨fun y => absurd y (nI_pos (by omega)), fun _ => ⟨fun y => absurd ((nI_leI (a := 6) (by omega) (by omega)).mp y) (by omega), fun _ => ⟨fun y => absurd ((nI_leI (a := 6) (by omega) (by omega)).mp y) (by omega), fun _ => ⟨(vp_in_nI (by omega) (by omega) : vp_in (nI i) 6), fun S2 e2 => ⟨(vp_in_nI (by omega) (by omega) : vp_in (nI i) 6), fun S3 e3 x4 e4 => ?_⟩⟩⟩⟩⟩
      rw [nI_clamp (by omega)] at e2 e3
      rw [nI_1] at e4
      subst e2; subst e3; subst e4
      refine ih (i + 1) _ (by omega) ⟨(s1.sJ (by omega)).sD (by omega), fun o x ho => ?_, fun x hx => ?_, fun x hx => ?_⟩
      · simp only [gJ_sD, gJ_sJ, gD_sD, gD_sJ, true_and]
        rw [if_neg (fun z => ho z.1), if_neg (fun z => ho z.1)]
        exact s2 o x ho
      · simp only [gJ_sD, gJ_sJ, gD_sD, gD_sJ, true_and]
        by_cases z : x = i
        · subst z
          rw [if_pos rfl, if_pos rfl, if_pos c, if_pos c]
          exact ⟨rfl, rfl⟩
        · rw [if_neg z, if_neg z]
          exact s3 x (by omega)
      · simp only [gJ_sD, gJ_sJ, gD_sD, gD_sJ, true_and]
        rw [if_neg (by omega), if_neg (by omega)]
        exact s4 x (by omega)
def Spm (n : Nat) (M S1 : St) (i : Nat) : Prop := Ag (fun k => k = 1925 ∨ k = 1926) M S1 ∧ ∀ x, x < i → gJ S1 1925 0 x = (if x < n then (gA M 1910 0 x).toInt64 else 0) ∧ gD S1 1926 0 x = if x < n then FP.dmul (FP.i2d (gA M 1910 0 x)) eig else FP.dconst0
theorem m_sta {M : St} {x1 : Int32} {n : Nat} {Q : Int32 → St → Prop} (h11 : gI M 1911 0 = nI n) (hn : n ≤ 3) (kk : ∀ S', Spm n M S' 6 → wp9_enter S' x1 0 (fun S1 => Q (gI S1 1911 0) (sI S1 1911 0 0))) : ∀ (m i : Nat) (S1 : St), m + i = 6 → Spm n M S1 i → wp9_start_110 x1 Q (m + 1) (nI i) S1 := by
  intro m
  induction m with
  | zero =>
    intro i S1 hm hs
    have e : i = 6 := by omega
    subst e
    refine ⟨fun _ => ?_, fun c => absurd (by decide) c⟩
    have : (fun S1 => Q (gI S1 1911 0) (sI S1 1911 0 0)) = (fun S1 => ∀ x2_1 : Int32, x2_1 = gI S1 1911 0 → ∀ S2, S2 = sI S1 1911 0 0 → Q x2_1 S2) := by
      funext S1
      apply propext
      constructor
      · intro h x e S2 e2; subst e; subst e2; exact h
      · intro h; exact h _ rfl _ rfl
    rw [← this]
    exact kk S1 hs
  | succ m ih =>
    intro i S1 hm hs
    obtain ⟨s1, s3⟩ := hs
    have x11 : gI S1 1911 0 = nI n := by rw [s1.gI (by decide)]; exact h11
    have nxt : ∀ (w : Int64) (y : UInt64), w = (if i < n then (gA M 1910 0 i).toInt64 else 0) → y = (if i < n then FP.dmul (FP.i2d (gA M 1910 0 i)) eig else FP.dconst0) → Spm n M (sD (sJ S1 1925 0 i w) 1926 0 i y) (i + 1) := by
      intro w y ew ey
      refine ⟨(s1.sJ (by omega)).sD (by omega), fun x hx => ?_⟩
      simp only [gJ_sD, gJ_sJ, gD_sD, gD_sJ, true_and]
      by_cases z : x = i
      · subst z
        rw [if_pos rfl, if_pos rfl]; exact ⟨ew, ey⟩
      · rw [if_neg z, if_neg z]; exact s3 x (by omega)
    refine ⟨fun c => absurd ((nI_leI (a := 6) (by omega) (by omega)).mp c) (by omega), fun _ => ⟨fun c => ?_, fun c => ?_⟩⟩
    · rw [x11] at c
      have c' := (nI_leI (by omega) (by omega)).mp c
      unfold wp9_start_140
      rw [nI_clamp (by omega)]
      refine ⟨vp_in_nI (by omega) (by omega), fun S2 e2 => ?_⟩
      subst e2
      rw [show gI (sJ S1 1925 0 i 0) 1911 0 = nI n from x11]
      refine ⟨fun _ => ?_, fun c2 => absurd c c2⟩
      unfold wp9_start_169
      rw [nI_clamp (by omega)]
      refine ⟨vp_in_nI (by omega) (by omega), fun S3 e3 x5 e5 => ?_⟩
      rw [nI_1] at e5
      subst e3; subst e5
      exact ih (i + 1) _ (by omega) (nxt _ _ (by rw [if_neg (by omega)]) (by rw [if_neg (by omega)]))
    · rw [x11] at c
      have c' : ¬ n ≤ i := fun w => c ((nI_leI (by omega) (by omega)).mpr w)
      refine ⟨vp_in_nI (by omega) (by omega), ?_⟩
      unfold wp9_start_140
      rw [nI_clamp (by omega)]
      refine ⟨vp_in_nI (by omega) (by omega), fun S2 e2 => ?_⟩
      subst e2
      rw [show gI (sJ S1 1925 0 i (gA S1 1910 0 i).toInt64) 1911 0 = nI n from x11]
      refine ⟨fun c2 => absurd c2 c, fun _ => ⟨vp_in_nI (by omega) (by omega), fin_n (fin_arg _), ?_⟩⟩
      unfold wp9_start_169
      rw [nI_clamp (by omega)]
      refine ⟨vp_in_nI (by omega) (by omega), fun S3 e3 x5 e5 => ?_⟩
      rw [nI_1] at e5
      subst e3; subst e5
      refine ih (i + 1) _ (by omega) (nxt _ _ ?_ ?_)
      · rw [if_pos (by omega), s1.gA (by decide)]
      · rw [if_pos (by omega)]
        show FP.dmul (FP.i2d (gA S1 1910 0 i)) _ = _
        rw [s1.gA (by decide)]
        rfl
