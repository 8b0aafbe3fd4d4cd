/-! PURE: the head of one step, both sides -/
def disp6 (j : Nat) (p op b : Nat) (Q : Int32 → St → Prop) (C : St) : Prop :=
  (6 < nI op → (10 < nI op → (12 < nI op → (22 < nI op → wp6_stepNumbers C (2 * j) (nI op) (nI b) (fun r4 S5 => Q r4 S5)) ∧ (¬ 22 < nI op → wp6_stepValues C j (nI op) (nI b) (fun r5 S6 => Q r5 S6))) ∧ (¬ 12 < nI op → wp6_stepCalls C j (nI op) (nI b) (fun r6 S7 => Q r6 S7))) ∧ (¬ 10 < nI op → wp6_stepJumps C j (nI p) (nI op) (nI b) (fun r7 S8 => Q r7 S8))) ∧ (¬ 6 < nI op → wp6_stepFrames C j (nI p) (nI op) (fun r8 S9 => Q r8 S9))
theorem szC_ok {P : Prog} {f p : Nat} {s : SB} (ok : OkI P f p s) : szC P f p = szI P f p := by
  obtain ⟨h1, h2, h3, h4, h5, h6⟩ := ok
  unfold szC
  rw [if_pos h3]
  by_cases z9 : pC P f p = 9
  · rw [if_pos z9]
    unfold szI at h5 ⊢
    rw [if_pos z9] at h5 ⊢
    by_cases zl : p + 1 < pL P f
    · have hb : bt P f (p + 1) = pC P f (p + 1) := if_pos zl
      rw [hb, if_pos zl, if_pos (by omega)]; omega
    · rw [if_neg zl] at h5; omega
  · rw [if_neg z9]
theorem c_head {P : Prog} {c : Ct} {C M : St} {Q : Int32 → St → Prop} (h : XX P c C M) (ok : OkI P (xf c (xd c - 1)) (xp c (xd c - 1)) (xs c (xd c - 1)))
    (kk : disp6 (xd c - 1) (xp c (xd c - 1)) (pC P (xf c (xd c - 1)) (xp c (xd c - 1))) (bt P (xf c (xd c - 1)) (xp c (xd c - 1) + 1)) Q (sI C 1005 (xd c - 1) (nI (xp c (xd c - 1) + szI P (xf c (xd c - 1)) (xp c (xd c - 1)))))) : wp6_step C Q := by
  obtain ⟨hw, hPC, hPM, ⟨w1, w2, w3, w4⟩, hXC, -⟩ := h
  obtain ⟨a1, a2, a3, a4, a5⟩ := hXC.2 (xd c - 1) (by omega)
  have hf := (w3 (xd c - 1) (by omega)).1
  have hl := (hw _ hf).2.2.2.2.1
  have hpc := ok.1
  unfold wp6_step
  rw [hXC.1, nI_dec w1, nI_clamp (by omega), a1, a2]
  refine ⟨fun c0 => absurd ((nI_ltI (b := 1) (by omega) (by omega)).mp c0) (by omega), fun _ => ⟨fun _ => ⟨vp_in_nI (by omega) (by omega), fun x2 e => ?_⟩, fun c0 => absurd ((nI_leI (b := 6) (by omega) (by omega)).mpr w2) c0⟩⟩
  subst e
  refine ⟨hf, c_byteAt hPC hw hf (by omega) ?_⟩
  rw [a1, nI_1]
  refine ⟨hf, c_byteAt hPC hw hf (by omega) ?_⟩
  rw [a1]
  refine ⟨hf, c_sizeAt hPC hw hf hpc ?_⟩
  intro S4 e
  rw [szC_ok ok, nI_add] at e
  subst e
  rw [show bt P (xf c (xd c - 1)) (xp c (xd c - 1)) = pC P (xf c (xd c - 1)) (xp c (xd c - 1)) from if_pos hpc]
  exact kk
theorem m_head {P : Prog} {c : Ct} {C M : St} {Q : St → Prop} (h : XX P c C M) (ok : OkI P (xf c (xd c - 1)) (xp c (xd c - 1)) (xs c (xd c - 1)))
    (kk : ∀ b, (xp c (xd c - 1) + 1 < pL P (xf c (xd c - 1)) → b = nI (pC P (xf c (xd c - 1)) (xp c (xd c - 1) + 1))) → ∀ M2, M2 = sI (sI M 1934 0 0) 1933 0 (gI M 1933 0 + 1) →
      (nI (pC P (xf c (xd c - 1)) (xp c (xd c - 1))) < 2 → wp9_step_101 Q (nI (pC P (xf c (xd c - 1)) (xp c (xd c - 1)))) b (nI (xp c (xd c - 1) + szI P (xf c (xd c - 1)) (xp c (xd c - 1)))) M2) ∧
      (¬ nI (pC P (xf c (xd c - 1)) (xp c (xd c - 1))) < 2 → (12 < nI (pC P (xf c (xd c - 1)) (xp c (xd c - 1))) → wp9_step_101 Q (nI (pC P (xf c (xd c - 1)) (xp c (xd c - 1)))) b (nI (xp c (xd c - 1) + szI P (xf c (xd c - 1)) (xp c (xd c - 1)))) M2) ∧
        (¬ 12 < nI (pC P (xf c (xd c - 1)) (xp c (xd c - 1))) → wp9_moves M2 (nI (xf c (xd c - 1))) (nI (pC P (xf c (xd c - 1)) (xp c (xd c - 1)))) b (fun S4 => Q S4)))) : wp9_step M Q := by
  obtain ⟨hw, hPC, hPM, ⟨w1, w2, w3, w4⟩, hXC, hXM, -⟩ := h
  obtain ⟨a1, a2, a3, a4⟩ := hXM.2.2.2.2 (xd c - 1) (by omega)
  have hf := (w3 (xd c - 1) (by omega)).1
  have hl := (hw _ hf).2.2.2.2.1
  have hpc := ok.1
  have hz := szI_pos P (xf c (xd c - 1)) (xp c (xd c - 1))
  have fin' : ∀ b, (xp c (xd c - 1) + 1 < pL P (xf c (xd c - 1)) → b = nI (pC P (xf c (xd c - 1)) (xp c (xd c - 1) + 1))) → wp9_step_48 Q (nI (xf c (xd c - 1))) (nI (pC P (xf c (xd c - 1)) (xp c (xd c - 1)))) b M := by
    intro b hb
    unfold wp9_step_48
    rw [hXM.2.1]
    refine m_behind hPM hw hf hpc ?_
    intro x4 e S2 e2 S3 e3
    rw [nI_1, nI_add, show xp c (xd c - 1) + 1 + (szI P (xf c (xd c - 1)) (xp c (xd c - 1)) - 1) = xp c (xd c - 1) + szI P (xf c (xd c - 1)) (xp c (xd c - 1)) by omega] at e
    subst e; subst e2
    exact kk b hb S3 e3
  unfold wp9_step
  rw [hXM.1, nI_dec w1, nI_clamp (by omega)]
  refine ⟨vp_in_nI (by omega) (by omega), fun x1 e => ?_⟩
  rw [a1] at e
  subst e
  rw [hXM.2.1]
  refine m_byteAt hPM hw hf hpc ?_
  rw [hXM.2.1, nI_1]
  refine ⟨fun c0 => ?_, fun c0 => ?_⟩
  · have c0 := (nI_leI (a := 60) (by omega) (by omega)).mp c0
    exact fin' 0 (fun z => by omega)
  · have c0 : ¬ 60 ≤ xp c (xd c - 1) + 1 := fun z => c0 ((nI_leI (a := 60) (by omega) (by omega)).mpr z)
    exact m_byteAny hPM hf (by omega) fun r hr => fin' r hr
