/-! PURE: a call returns -/
def Md (C M C1 M1 : St) (j h1 B : Nat) : Prop := Ag kXF C C1 ∧ Ag kYF M M1 ∧ gI M1 1933 0 = gI M 1933 0 + 1 ∧ gI M1 1934 0 = 0 ∧ gI C1 1102 (2 * j) = nI h1 ∧ (∀ o, o ≠ 2 * j → gI C1 1102 o = gI C 1102 o) ∧ (∀ i, i ≠ j → gI C1 1005 i = gI C 1005 i ∧ gI C1 1006 i = gI C 1006 i) ∧ (∀ a i, gA C1 1002 a i = gA C 1002 a i ∧ gA C1 1003 a i = gA C 1003 a i) ∧ (∀ o i, gJ C1 1100 o i = gJ C 1100 o i ∧ gD C1 1101 o i = gD C 1101 o i) ∧ gI M1 1914 0 = nI (B + h1) ∧ (∀ i, gA M1 1915 0 i = gA M 1915 0 i ∧ gA M1 1916 0 i = gA M 1916 0 i ∧ gA M1 1917 0 i = gA M 1917 0 i ∧ gA M1 1924 0 i = gA M 1924 0 i) ∧ (∀ i, gJ M1 1922 0 i = gJ M 1922 0 i ∧ gD M1 1923 0 i = gD M 1923 0 i)
theorem c_leave {C : St} {j f h1 R h2 : Nat} {Q : St → Prop} (h04 : gR C 1004 j = f) (hf : f < 6) (h6 : gI C 1406 f = nI R) (hR : R ≤ 3) (hh : gI C 1102 (2 * j) = nI h1) (h16 : h1 ≤ 16) (j5 : j ≤ 5) (hcell : cellsN (2 * j) = 16) (hcell1 : 1 ≤ j → cellsN (2 * (j - 1)) = 16) (h07 : gI C 1607 0 = nI (j + 1)) (hR1 : ¬ R = 0 → 1 ≤ h1)
    (k0 : j = 0 → ∀ C', Ag (fun k => k = 1100 ∨ k = 1101 ∨ k = 1606 ∨ k = 1607) C C' → gI C' 1607 0 = 0 → gI C' 1606 0 = nI R → (∀ o, o ≠ 13 → ∀ i, gJ C' 1100 o i = gJ C 1100 o i ∧ gD C' 1101 o i = gD C 1101 o i) → (¬ R = 0 → gJ C' 1100 13 0 = gJ C 1100 (2 * j) (h1 - 1) ∧ gD C' 1101 13 0 = gD C 1101 (2 * j) (h1 - 1)) → Q C')
    (hc : 1 ≤ j → ¬ R = 0 → gI C 1102 (2 * (j - 1)) = nI h2 ∧ h2 < 16) (k1 : 1 ≤ j → Q (if R = 0 then sI C 1607 0 (nI j) else putc (sI C 1607 0 (nI j)) (2 * (j - 1)) h2 (gJ C 1100 (2 * j) (h1 - 1)) (gD C 1101 (2 * j) (h1 - 1)))) : wp6_leave C j Q := by
  unfold wp6_leave wp4_outcome wp1_height
  rw [h04, h6]
  refine ⟨hf, fun x3 e3 S3 e => ?_⟩
  have e3 : x3 = gI C 1102 (2 * j) - 1 := e3
  rw [hh] at e3
  have e : S3 = sI C 1607 0 (gI C 1607 0 - 1) := e
  rw [h07, nI_dec (by omega), Nat.add_sub_cancel] at e
  subst e
  rw [show gI (sI C 1607 0 (nI j)) 1607 0 = nI j by simp [gI_sI]]
  have lv45 : j = 0 → wp6_leave_45 j Q (nI R) x3 (sI C 1607 0 (nI j)) := by
    intro hj
    intro S1 e1 S2 e2
    subst e1; subst e2
    by_cases z : h1 = 0
    · have ex : x3 = -1 := by rw [e3, z]; decide
      subst ex
      unfold wp1_setFrom wp1_numberAt wp1_realAt
      refine ⟨fun _ => ⟨fun _ => ?_, fun w => absurd (by decide) w⟩, fun w => absurd (by decide) w⟩
      refine r_setc (i := 0) (by decide) ?_
      refine k0 hj _ (((((Ag.rf.sI (by omega)).sI (by omega)).sI (by omega)).sJ (by omega)).sD (by omega)) ?_ ?_ (fun o ho i => ⟨?_, ?_⟩) (fun w => absurd (hR1 w) (by omega))
      · simp [gI_sI, gI_sJ, gI_sD]
      · simp [gI_sI, gI_sJ, gI_sD]
      · simp [gJ_sI, gJ_sJ, gJ_sD]; intro w; exact absurd w ho
      · simp [gD_sI, gD_sJ, gD_sD]; intro w; exact absurd w ho
    · rw [nI_dec (by omega)] at e3
      subst e3
      refine r_setFrom (i := 0) (by decide) (by omega) ?_
      refine k0 hj _ (((((Ag.rf.sI (by omega)).sI (by omega)).sI (by omega)).sJ (by omega)).sD (by omega)) ?_ ?_ (fun o ho i => ⟨?_, ?_⟩) (fun w => ⟨?_, ?_⟩)
      · simp [gI_sI, gI_sJ, gI_sD]
      · simp [gI_sI, gI_sJ, gI_sD]
      · simp [gJ_sI, gJ_sJ, gJ_sD]; intro w; exact absurd w ho
      · simp [gD_sI, gD_sJ, gD_sD]; intro w; exact absurd w ho
      · simp [gJ_sI, gJ_sJ, gJ_sD]
      · simp [gD_sI, gD_sJ, gD_sD]
  refine ⟨fun z => ?_, fun z => ⟨fun _ => ⟨fun y => ?_, fun y => ?_⟩, fun y => absurd ((nI_leI (b := 6) (by omega) (by omega)).mpr (by omega)) y⟩⟩
  · have := (nI_ltI (b := 1) (by omega) (by omega)).mp z
    exact lv45 (by omega)
  · have hj : 1 ≤ j := by
      have : ¬ j < 1 := fun w => z ((nI_ltI (b := 1) (by omega) (by omega)).mpr w)
      omega
    have y := nE (b := 0) (by omega) (by omega) y
    have := k1 hj
    rw [if_pos y] at this; exact this
  · have hj : 1 ≤ j := by
      have : ¬ j < 1 := fun w => z ((nI_ltI (b := 1) (by omega) (by omega)).mpr w)
      omega
    have y := nN (b := 0) y
    have k := k1 hj
    rw [if_neg y] at k
    have h1' := hR1 y
    rw [nI_dec h1'] at e3
    subst e3
    rw [nI_dec hj, nI_clamp (by omega)]
    refine ⟨vp_in_nI (by omega) (by omega), ?_⟩
    have hcl := hcell1 hj
    refine r_putFrom (h := h2) ?_ (by rw [hcl]; exact (hc hj y).2) (by omega) k
    rw [gI_sI, if_neg (fun z => absurd z.1 (by decide))]
    exact (hc hj y).1
def lvM (M : St) (B F j : Nat) : St := sI (sI (sI (sI M 1914 0 (nI B)) 1920 0 (nI F)) 1931 0 (gA M 1928 0 j)) 1930 0 (nI j)
theorem m_leave {M : St} {j f H B F R : Nat} {Q : St → Prop} (h30 : gI M 1930 0 = nI (j + 1)) (j5 : j ≤ 5) (h27 : gA M 1927 0 j = nI f) (hf : f < 6) (h03 : gA M 1903 0 f = nI R) (hR : R ≤ 3) (h14 : gI M 1914 0 = nI H) (hH : H ≤ 200) (hR1 : ¬ R = 0 → 1 ≤ H) (h29 : gA M 1929 0 j = nI F) (hF : F < 60) (h17 : gA M 1917 0 F = nI B) (hB : B < 200)
    (k1 : 1 ≤ j → Q (if R = 0 then lvM M B F j else putm (lvM M B F j) B (gJ M 1922 0 (H - 1)) (gD M 1923 0 (H - 1))))
    (k0 : j = 0 → Q (sF (sL (sI (sI (lvM M B F j) 1932 0 2) 1936 0 (nI R)) 1937 0 (if R = 0 then 0 else gJ M 1922 0 (H - 1))) 1938 0 (if R = 0 then FP.dconst0 else gD M 1923 0 (H - 1)))) : wp9_leave M Q := by
  unfold wp9_leave
  rw [h30, nI_dec (by omega), Nat.add_sub_cancel, nI_clamp (by omega), h27]
  refine ⟨vp_in_nI (by omega) (by omega), fun x1 e1 => ?_⟩
  subst e1
  rw [nI_clamp (by omega), h03]
  have l66 : ∀ (x2 : Int32) (w : Int64) (r : UInt64), (x2 = 0 ↔ R = 0) → (R = 0 → w = 0 ∧ r = FP.dconst0) → (¬ R = 0 → w = gJ M 1922 0 (H - 1) ∧ r = gD M 1923 0 (H - 1)) → wp9_leave_66 Q (nI f) x2 w r M := by
    intro x2 w r hx hw0 hw1
    unfold wp9_leave_66
    rw [h30, nI_dec (by omega), Nat.add_sub_cancel, nI_clamp (by omega), h29, nI_clamp (by omega), h17]
    refine ⟨vp_in_nI (by omega) (by omega), vp_in_nI (by omega) (by omega), fun S1 e1 => ?_⟩
    subst e1
    rw [show gI (sI M 1914 0 (nI B)) 1930 0 = nI (j + 1) by simp [gI_sI]; exact h30, nI_dec (by omega), Nat.add_sub_cancel, nI_clamp (by omega), show gA (sI M 1914 0 (nI B)) 1929 0 j = nI F from h29]
    refine ⟨vp_in_nI (by omega) (by omega), fun S2 e2 => ?_⟩
    subst e2
    rw [show gI (sI (sI M 1914 0 (nI B)) 1920 0 (nI F)) 1930 0 = nI (j + 1) by simp [gI_sI]; exact h30, nI_dec (by omega), Nat.add_sub_cancel, nI_clamp (by omega)]
    refine ⟨vp_in_nI (by omega) (by omega), fun S3 e3 S4 e4 => ?_⟩
    have e3 : S3 = sI (sI (sI M 1914 0 (nI B)) 1920 0 (nI F)) 1931 0 (gA M 1928 0 j) := e3
    subst e3
    rw [show gI (sI (sI (sI M 1914 0 (nI B)) 1920 0 (nI F)) 1931 0 (gA M 1928 0 j)) 1930 0 = nI (j + 1) by simp [gI_sI]; exact h30, nI_dec (by omega), Nat.add_sub_cancel] at e4
    have e4 : S4 = lvM M B F j := e4
    subst e4
    rw [show gI (lvM M B F j) 1930 0 = nI j by simp [lvM, gI_sI]]
    refine ⟨fun z => ?_, fun z => ?_⟩
    · have z := nN (b := 0) z
      have k := k1 (by omega)
      refine ⟨fun y => ?_, fun y => ?_⟩
      · rw [if_pos (hx.mp y)] at k; exact k
      · rw [if_neg (fun a => y (hx.mpr a))] at k
        obtain ⟨ew, er⟩ := hw1 (fun a => y (hx.mpr a))
        rw [ew, er]
        exact m_push (h := B) (by simp [lvM, gI_sI]) hB k
    · have z := nE (b := 0) (by omega) (by omega) z
      have k := k0 z
      intro S6 e6
      subst e6
      refine ⟨vp_in_nI hf (by omega), fun S7 e7 S8 e8 S9 e9 => ?_⟩
      rw [nI_clamp (by omega), show gA (sI (lvM M B F j) 1932 0 2) 1903 0 f = nI R from h03] at e7
      subst e7; subst e8; subst e9
      by_cases y : R = 0
      · rw [if_pos y, if_pos y] at k
        rw [(hw0 y).1, (hw0 y).2]; exact k
      · rw [if_neg y, if_neg y] at k
        rw [(hw1 y).1, (hw1 y).2]; exact k
  refine ⟨vp_in_nI hf (by omega), fun z => ?_, fun z => ?_⟩
  · have z := nE (b := 0) (by omega) (by omega) z
    exact ⟨fun _ => ⟨fun _ => l66 0 0 FP.dconst0 ⟨fun _ => z, fun _ => rfl⟩ (fun _ => ⟨rfl, rfl⟩) (fun y => absurd z y), fun w => absurd rfl w⟩, fun w => absurd rfl w⟩
  · have z := nN (b := 0) z
    have h1 := hR1 z
    refine ⟨fun w => absurd w (by decide), fun _ => ?_⟩
    rw [h14, nI_dec h1, nI_clamp (by omega)]
    refine ⟨vp_in_nI (by omega) (by omega), fun w => absurd w (by decide), fun _ => ?_⟩
    rw [h14, nI_dec h1, nI_clamp (by omega)]
    exact ⟨vp_in_nI (by omega) (by omega), l66 1 _ _ ⟨fun w => absurd w (by decide), fun w => absurd w z⟩ (fun w => absurd w z) (fun _ => ⟨rfl, rfl⟩)⟩
