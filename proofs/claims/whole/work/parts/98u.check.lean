/-! PURE: the calls, one by one: check -/
def cw (P : Prog) : Nat → Nat
  | 0 => 0
  | i + 1 => cw P i + (if pL P i = 0 then 0 else 1)
theorem cw_le (P : Prog) : ∀ i, cw P i ≤ i := by
  intro i
  induction i with
  | zero => exact Nat.le_refl _
  | succ i ih =>
    show cw P i + (if pL P i = 0 then 0 else 1) ≤ i + 1
    split <;> omega
theorem c_check {P : Prog} {C : St} {Q : Int32 → St → Prop} {T : Nat → St → Prop} (hw : PW P) (hPC : PC P C) (kg : (∀ f, f < 6 → 1 ≤ pL P f → chk P f = none) → ∀ C', Ag kC C C' → Sp C' → XN P C' → Q (nI (cw P 6)) (sI C' 1806 0 1)) (kb : (∃ f, f < 6 ∧ 1 ≤ pL P f ∧ ¬ chk P f = none) → ∀ C', Ag kC C C' → Sp C' → T 5 C') :
    ∀ (m i : Nat) (C1 : St), m + i = 6 → (Ag kC C C1 ∧ Sp C1 ∧ ∀ f, f < i → 1 ≤ pL P f → NtP P C1 f) → wp8_check_20 Q T (m + 1) (nI (cw P i)) (nI i) C1 := by
  intro m
  induction m with
  | zero =>
    intro i C1 hm hs
    have e : i = 6 := by omega
    subst e
    refine ⟨fun _ S1 e1 => ?_, fun c => absurd (by decide) c⟩
    subst e1
    exact kg (fun f hf hL => (hs.2.2 f hf hL).1) C1 hs.1 hs.2.1 hs.2.2
  | succ m ih =>
    intro i C1 hm hs
    obtain ⟨h1, h2, h3⟩ := hs
    have hPC1 : PC P C1 := hPC.ag h1 (fun k z y => by unfold kC at y; omega)
    have hl := (hw i (by omega)).2.2.2.2.1
    have nx : ∀ x C2, x = nI (cw P (i + 1)) → (Ag kC C C2 ∧ Sp C2 ∧ ∀ f, f < i + 1 → 1 ≤ pL P f → NtP P C2 f) → wp8_check_66 (fun k0 k1 S9 => wp8_check_20 Q T (m + 1) k0 k1 S9) Q T x (nI i) C2 := by
      intro x C2 ex hh x2 e2
      rw [nI_1] at e2
      subst ex; subst e2
      exact ih (i + 1) C2 (by omega) hh
    refine ⟨fun c => absurd ((nI_leI (a := 6) (by omega) (by omega)).mp c) (by omega), fun _ => ?_⟩
    unfold wp4_length
    rw [nI_clamp (by omega), (hPC1 i (by omega)).2.2.2.1]
    refine ⟨vp_in_nI (by omega) (by omega), fun z => ?_, fun z x1 e1 => ⟨vp_in_nI (by omega) (by omega), c_faultIn hPC1 hw (by omega) h2 fun C' ag sp notes => ?_⟩⟩
    · have z := (nI_leI (b := 0) (by omega) (by omega)).mp z
      refine nx _ C1 ?_ ⟨h1, h2, fun f hf hL => ?_⟩
      · show _ = nI (cw P i + (if pL P i = 0 then 0 else 1))
        rw [if_pos (by omega)]; rfl
      · by_cases y : f = i
        · subst y; omega
        · exact h3 f (by omega) hL
    · have z : ¬ pL P i ≤ 0 := fun w => z ((nI_leI (b := 0) (by omega) (by omega)).mpr w)
      have ag' : Ag kC C C' := h1.tr ag.1
      refine ⟨fun y => ?_, fun y => ?_⟩
      · have y := (nio_m1 P hw (by omega)).mp y
        refine nx _ C' ?_ ⟨ag', sp, fun f hf hL => ?_⟩
        · rw [e1, nI_1]
          show _ = nI (cw P i + (if pL P i = 0 then 0 else 1))
          rw [if_neg (by omega)]
        · by_cases w : f = i
          · subst w; exact ⟨y, _, notes y⟩
          · obtain ⟨b1, N, b2⟩ := h3 f (by omega) hL
            refine ⟨b1, N, fun j hj => ?_⟩
            rw [(ag.2 f w j).1, (ag.2 f w j).2]
            exact b2 j hj
      · refine kb ⟨i, by omega, by omega, fun w => y ((nio_m1 P hw (by omega)).mpr w)⟩ C' ag' sp
theorem m_check {P : Prog} {M : St} {Q : Int32 → St → Prop} (hw : PW P) (hPM : PM P M) (h0 : gI M 1939 0 = 0) (kg : (∀ f, f < 6 → 1 ≤ pL P f → chk P f = none) → ∀ M', Ag (fun k => kM k ∨ k = 1939) M M' → gI M' 1939 0 = 0 → Q (nI (cw P 6)) (sI M' 1912 0 1)) (kb : (∃ f, f < 6 ∧ 1 ≤ pL P f ∧ ¬ chk P f = none) → ∀ M', Ag (fun k => kM k ∨ k = 1939) M M' → Q 0 (sI M' 1939 0 2)) :
    ∀ (m i : Nat) (M1 : St), m + i = 6 → (Ag (fun k => kM k ∨ k = 1939) M M1 ∧ gI M1 1939 0 = 0 ∧ ∀ f, f < i → 1 ≤ pL P f → chk P f = none) → wp9_check_27 Q (m + 1) (nI (cw P i)) (nI i) M1 := by
  intro m
  induction m with
  | zero =>
    intro i M1 hm hs
    have e : i = 6 := by omega
    subst e
    refine ⟨fun _ S1 e1 => ?_, fun c => absurd (by decide) c⟩
    subst e1
    exact kg hs.2.2 M1 hs.1 hs.2.1
  | succ m ih =>
    intro i M1 hm hs
    obtain ⟨h1, h2, h3⟩ := hs
    have hPM1 : PM P M1 := hPM.ag h1 (fun k z1 z2 y => by unfold kM at y; omega)
    have hl := (hw i (by omega)).2.2.2.2.1
    have nx : ∀ x M2, x = nI (cw P (i + 1)) → (Ag (fun k => kM k ∨ k = 1939) M M2 ∧ gI M2 1939 0 = 0 ∧ ∀ f, f < i + 1 → 1 ≤ pL P f → chk P f = none) → wp9_check_68 (fun k0 k1 S9 => wp9_check_27 Q (m + 1) k0 k1 S9) Q x (nI i) M2 := by
      intro x M2 ex hh x2 e2
      rw [nI_1] at e2
      subst ex; subst e2
      exact ih (i + 1) M2 (by omega) hh
    refine ⟨fun c => absurd ((nI_leI (a := 6) (by omega) (by omega)).mp c) (by omega), fun _ => ?_⟩
    rw [nI_clamp (by omega), (hPM1 i (by omega)).2.2.2.1]
    refine ⟨vp_in_nI (by omega) (by omega), fun z => ?_, fun z x1 e1 => m_find hPM1 hw (by omega) fun M' ag => ?_⟩
    · have z := (nI_leI (b := 0) (by omega) (by omega)).mp z
      refine nx _ M1 ?_ ⟨h1, h2, fun f hf hL => ?_⟩
      · show _ = nI (cw P i + (if pL P i = 0 then 0 else 1))
        rw [if_pos (by omega)]; rfl
      · by_cases y : f = i
        · subst y; omega
        · exact h3 f (by omega) hL
    · have z : ¬ pL P i ≤ 0 := fun w => z ((nI_leI (b := 0) (by omega) (by omega)).mpr w)
      have ag' : Ag (fun k => kM k ∨ k = 1939) M M' := h1.tr (ag.mono fun k w => Or.inl w)
      cases hck : chk P i with
      | none =>
        refine ⟨fun y => absurd y (by decide), fun _ => m_good1 ⟨fun _ => nx _ _ ?_ ⟨ag'.sI (Or.inr rfl), by simp [gI_sI], fun f hf hL => ?_⟩, fun y => absurd y (by decide)⟩⟩
        · rw [e1, nI_1]
          show _ = nI (cw P i + (if pL P i = 0 then 0 else 1))
          rw [if_neg (by omega)]
        · by_cases w : f = i
          · subst w; exact hck
          · exact h3 f (by omega) hL
      | some p =>
        have hp := chk_le hw (show i < 6 by omega) hck
        have bd : wp9_check_59 (fun k0 k1 S9 => wp9_check_27 Q (m + 1) k0 k1 S9) Q x1 (nI i) 0 M' := m_good0 ⟨fun y => absurd rfl y, fun _ => kb ⟨i, by omega, by omega, by rw [hck]; exact fun w => by cases w⟩ M' ag'⟩
        exact ⟨fun _ => bd, fun y => absurd (nI_pos' (show p < 2 ^ 31 by omega)) y⟩
theorem k_check {C M : St} (h : KK C M) (f : Nat → Int64) (g : Nat → UInt64) : st_check KK C M f g := by
  have hK := h
  obtain ⟨P, ph, ck, a, hc, ho⟩ := h
  have hc' := hc
  obtain ⟨hw, hPC, hPM, hT, hg, hS, hX, hA, hN⟩ := hc'
  have hoo := ho
  obtain ⟨o1, o2, o3, o4, o5, o6, o7, o8, o9, o10, o11, o12, o13⟩ := hoo
  unfold st_check wp8_check
  rw [o4]
  refine ⟨fun z => ⟨7, ?_⟩, fun z => ?_⟩
  · have z := nN (b := 1) z
    have aM0 : Ag (fun k => kM k ∨ k = 1939) M (sI M 1939 0 0) := Ag.rf.sI (Or.inr rfl)
    have hPM0 : PM P (sI M 1939 0 0) := hPM.ag aM0 (fun k w1 w2 y => by unfold kM at y; omega)
    have mm : ∀ Q : Int32 → St → Prop, ((∀ f, f < 6 → 1 ≤ pL P f → chk P f = none) → ∀ M', Ag (fun k => kM k ∨ k = 1939) (sI M 1939 0 0) M' → gI M' 1939 0 = 0 → Q (nI (cw P 6)) (sI M' 1912 0 1)) → ((∃ f, f < 6 ∧ 1 ≤ pL P f ∧ ¬ chk P f = none) → ∀ M', Ag (fun k => kM k ∨ k = 1939) (sI M 1939 0 0) M' → Q 0 (sI M' 1939 0 2)) → wp9_check M Q := by
      intro Q k1 k2
      unfold wp9_check wp9_check_14
      rw [o5]
      refine ⟨fun y => absurd (nE (b := 1) (by omega) (by omega) y) z, fun _ => m_good1 ⟨fun _ => ⟨7, ?_⟩, fun y => absurd y (by decide)⟩⟩
      exact m_check hw hPM0 (by simp [gI_sI]) k1 k2 6 0 _ (by omega) ⟨Ag.rf, by simp [gI_sI], fun f hf => absurd hf (by omega)⟩
    refine c_check hw hPC (fun all C' ag sp xn => ?_) (fun ex C' ag sp => ?_) 6 0 C (by omega) ⟨Ag.rf, hS, fun f hf => absurd hf (by omega)⟩
    · unfold qw_check
      refine mm _ (fun _ M' agm e0 => ?_) (fun ex M' agm => ?_)
      · have aM : Ag (fun k => kM k ∨ k = 1939) M M' := aM0.tr agm
        have hc2 := hc.gone (ck' := 1) ag sp aM (fun k w v => by unfold uM at w; unfold kM at v; omega) (fun _ => xn) (fun w => absurd w z)
        have ho2 := ho.gone ag aM (fun k w v => by unfold kM at v; omega)
        obtain ⟨q1, q2, q3, q4, q5, q6, q7, q8, q9, q10, q11, q12, q13⟩ := ho2
        refine th_good ⟨P, ph, 1, a, hc2.ag (Ag.rf.sI (p := fun k => k = 1806) rfl) (Ag.rf.sI (p := fun k => k = 1912) rfl) (fun k w v => by unfold uC at w; omega) (fun k w v => by unfold uM at w; omega) id id id, ⟨q1, by omega, q3, ?_, ?_, ?_, ?_, ?_, ?_, q10, ?_, ?_, fun _ => rfl⟩⟩ ?_ rfl
        · simp [gI_sI]; exact q4
        · simp [gI_sI]; exact q5
        · simp [gI_sI]; exact q6
        · simp [gI_sI]; exact q7
        · simp [gI_sI]; exact q8
        · simp [gI_sI]; exact q9
        · simp [gI_sI]; rfl
        · simp [gI_sI]; rfl
        · simp [gI_sI]; exact e0
      · obtain ⟨f0, y1, y2, y3⟩ := ex
        exact absurd (all f0 y1 y2) y3
    · refine ⟨2, rfl, ?_⟩
      unfold qw_check
      refine mm _ (fun all M' agm e0 => ?_) (fun _ M' agm => ?_)
      · obtain ⟨f0, y1, y2, y3⟩ := ex
        exact absurd (all f0 y1 y2) y3
      · have aM : Ag (fun k => kM k ∨ k = 1939) M M' := aM0.tr agm
        refine th_bad ⟨P, ph, ck, a, hc.gone ag sp aM (fun k w v => by unfold uM at w; unfold kM at v; omega) (fun w => ?_) (fun w => absurd w z), ho.gone ag aM (fun k w v => by unfold kM at v; omega)⟩ (by decide)
        obtain ⟨f0, y1, y2, y3⟩ := ex
        exact absurd (hN w f0 y1 y2).1 y3
  · have z := nE (b := 1) (by omega) (by omega) z
    refine ⟨1, rfl, ?_⟩
    unfold qw_check wp9_check wp9_check_14
    rw [o5]
    exact ⟨fun _ => m_good0 ⟨fun y => absurd rfl y, fun _ => th_bad hK (by decide)⟩, fun y => absurd (by rw [z]; rfl) y⟩
