/-! PURE: the calls, one by one: those that look -/
theorem k_result {C M : St} (h : KK C M) (f : Nat → Int64) (g : Nat → UInt64) : st_result KK C M f g := by
  have hK := h
  obtain ⟨P, ph, ck, a, hc, ho⟩ := h
  obtain ⟨o1, o2, o3, o4, o5, o6, o7, o8, o9, o10, o11, o12, o13⟩ := id ho
  unfold st_result wp8_result wp6_outcomeKind
  rw [o4]
  refine ⟨fun z => ?_, fun z => ?_⟩
  · have z := nE (b := 2) (by omega) (by omega) z
    obtain ⟨k, k3, a1, a2, a3⟩ := hc.2.2.2.2.2.2.2.1 z
    rw [a1]
    have num : (k = 1 ∨ k = 2) → wp8_result_46 (fun r S' => qw_result KK M 0 (S', vp_updL f 0 r, g)) (fun k S' => ∃ j, cd_result k = some j ∧ qw_result KK M j (S', f, g)) C := by
      intro zk
      unfold wp8_result_46 wp6_outcomeNumber
      refine r_number (o := 13) (i := 0) (by decide) ?_
      unfold qw_result wp9_result wp9_result_14 wp9_result_40 wp9_result_45
      rw [o5]
      have e16 : gI (sI M 1939 0 0) 1936 0 = nI k := by simp [gI_sI]; exact a2
      refine ⟨fun y => absurd (by rw [z]; rfl) y, fun _ => m_good1 ⟨fun _ => ?_, fun y => absurd y (by decide)⟩⟩
      rw [e16]
      have fin : wp9_good (sI M 1939 0 0) 1 2 (fun r1 S1 => (r1 = 0 → wp9_thrown S1 (fun th M2 => th = 0 ∧ ((0 : Int32) = 0 → vp_updL f 0 (gJ C 1100 13 0) 0 = 0) ∧ KK C M2)) ∧ (¬ r1 = 0 → wp9_thrown S1 (fun th M2 => th = 0 ∧ ((0 : Int32) = 0 → vp_updL f 0 (gJ C 1100 13 0) 0 = gL S1 1937 0) ∧ KK C M2))) := by
        refine m_good1 ⟨fun y => absurd y (by decide), fun _ => th_good ((hK.th 0).th 0) (by simp [gI_sI]) ?_⟩
        show gJ C 1100 13 0 = gL M 1937 0
        have := a3 (by omega)
        unfold VR at this
        rw [if_neg (by omega)] at this
        exact this.1
      refine ⟨fun y => fin, fun y => ⟨fun y2 => ?_, fun y2 => fin⟩⟩
      exact absurd zk (fun w => w.elim (fun w => y (by rw [w]; rfl)) (fun w => y2 (by rw [w]; rfl)))
    have bad : ¬ (k = 1 ∨ k = 2) → ∃ j, cd_result 6 = some j ∧ qw_result KK M j (C, f, g) := by
      intro zk
      refine ⟨2, rfl, ?_⟩
      unfold qw_result wp9_result wp9_result_14 wp9_result_40 wp9_result_45
      rw [o5]
      refine ⟨fun y => absurd (by rw [z]; rfl) y, fun _ => m_good1 ⟨fun _ => ?_, fun y => absurd y (by decide)⟩⟩
      rw [show gI (sI M 1939 0 0) 1936 0 = nI k by simp [gI_sI]; exact a2]
      refine ⟨fun y => absurd (Or.inl (nE (b := 1) (by omega) (by omega) y)) zk, fun _ => ⟨fun _ => m_good0 ⟨fun _ => th_bad (hK.th 0) (by decide), fun y => absurd rfl y⟩, fun y => absurd (Or.inr (nE (b := 2) (by omega) (by omega) y)) zk⟩⟩
    refine ⟨fun y => num (Or.inl (nE (b := 1) (by omega) (by omega) y)), fun y => ?_⟩
    show (gI C 1606 0 = 2 → _) ∧ (¬ gI C 1606 0 = 2 → _)
    rw [a1]
    refine ⟨fun y2 => num (Or.inr (nE (b := 2) (by omega) (by omega) y2)), fun y2 => bad ?_⟩
    have y := nN (b := 1) y
    have y2 := nN (b := 2) y2
    omega
  · have z := nN (b := 2) z
    refine ⟨1, rfl, ?_⟩
    unfold qw_result wp9_result wp9_result_14
    rw [o5]
    exact ⟨fun _ => m_good0 ⟨fun y => absurd rfl y, fun _ => th_bad hK (by decide)⟩, fun y => absurd (nE (b := 2) (by omega) (by omega) y) z⟩
theorem k_real {C M : St} (h : KK C M) (f : Nat → Int64) (g : Nat → UInt64) : st_real KK C M f g := by
  have hK := h
  obtain ⟨P, ph, ck, a, hc, ho⟩ := h
  obtain ⟨o1, o2, o3, o4, o5, o6, o7, o8, o9, o10, o11, o12, o13⟩ := id ho
  unfold st_real wp8_real wp6_outcomeKind
  rw [o4]
  refine ⟨fun z => ?_, fun z => ?_⟩
  · have z := nE (b := 2) (by omega) (by omega) z
    obtain ⟨k, k3, a1, a2, a3⟩ := hc.2.2.2.2.2.2.2.1 z
    rw [a1]
    refine ⟨fun y => ?_, fun y => ?_⟩
    · have y := nE (b := 3) (by omega) (by omega) y
      refine r_real (i := 0) (by decide) ?_
      unfold qw_real wp9_real wp9_real_14 wp9_real_37
      rw [o5]
      refine ⟨fun y => absurd (by rw [z]; rfl) y, fun _ => m_good1 ⟨fun _ => ?_, fun y => absurd y (by decide)⟩⟩
      rw [show gI (sI M 1939 0 0) 1936 0 = nI k by simp [gI_sI]; exact a2]
      refine ⟨fun w => absurd (by rw [y]; rfl) w, fun _ => m_good1 ⟨fun w => absurd w (by decide), fun _ => ?_⟩⟩
      have := a3 (by omega)
      rw [y] at this
      have e := (VR3 this).1
      refine th_good ((hK.th 0).th 0) (by simp [gI_sI]) ?_
      show agD (gD C 1101 13 0) (gF M 1938 0)
      rw [e]; exact agD_self _
    · have y := nN (b := 3) y
      refine ⟨2, rfl, ?_⟩
      unfold qw_real wp9_real wp9_real_14 wp9_real_37
      rw [o5]
      refine ⟨fun y => absurd (by rw [z]; rfl) y, fun _ => m_good1 ⟨fun _ => ?_, fun y => absurd y (by decide)⟩⟩
      rw [show gI (sI M 1939 0 0) 1936 0 = nI k by simp [gI_sI]; exact a2]
      exact ⟨fun _ => m_good0 ⟨fun _ => th_bad (hK.th 0) (by decide), fun w => absurd rfl w⟩, fun w => absurd (nE (b := 3) (by omega) (by omega) w) y⟩
  · have z := nN (b := 2) z
    refine ⟨1, rfl, ?_⟩
    unfold qw_real wp9_real wp9_real_14
    rw [o5]
    exact ⟨fun _ => m_good0 ⟨fun y => absurd rfl y, fun _ => th_bad hK (by decide)⟩, fun y => absurd (nE (b := 2) (by omega) (by omega) y) z⟩
theorem k_global {C M : St} (h : KK C M) (x1 : Int32) (f : Nat → Int64) (g : Nat → UInt64) : st_global KK C M x1 f g := by
  have hK := h
  obtain ⟨P, ph, ck, a, hc, ho⟩ := h
  have bad : (x1 < 0 ∨ nI 1 < x1) → ∃ j, cd_global 1 = some j ∧ qw_global KK M x1 j (C, f, g) := by
    intro z
    refine ⟨1, rfl, ?_⟩
    unfold qw_global wp9_global
    exact m_inQ (fun y1 y2 => absurd z (fun w => w.elim y1 y2)) (fun _ => m_good0 ⟨fun _ => th_bad hK (by decide), fun y => absurd rfl y⟩)
  unfold st_global wp8_global
  refine ⟨fun z => bad (Or.inl z), fun z => ⟨fun z2 => ?_, fun z2 => bad (Or.inr (Int32.not_le.mp z2))⟩⟩
  have z2' : ¬ nI 2 ≤ x1 := fun w => by
    rw [Int32.le_iff_toInt_le, nI_toInt (by omega)] at w
    have m1 : (1 : Int32).toInt = 1 := rfl
    rw [Int32.le_iff_toInt_le, m1] at z2; omega
  obtain ⟨i, hi, ei⟩ := inr' (by omega) z z2'
  subst ei
  refine r_number (by rw [cells12]; omega) ?_
  unfold qw_global wp9_global
  refine m_inQ (fun _ _ => m_good1 ⟨fun y => absurd y (by decide), fun _ => ⟨vp_in_nI (by omega) (by omega), ?_⟩⟩) (fun y => absurd y (fun w => w.elim z (Int32.not_lt.mpr z2)))
  rw [nI_clamp (by omega)]
  refine th_good (hK.th 0) (by simp [gI_sI]) ?_
  show gJ C 1100 12 i = gJ M 1908 0 i
  obtain ⟨g1, g2, -⟩ := hc.2.2.2.2.1
  rcases (by omega : i = 0 ∨ i = 1) with rfl | rfl
  · exact g1.1
  · exact g2.1
theorem k_realGlobal {C M : St} (h : KK C M) : st_realGlobal KK C M := by
  have hK := h
  obtain ⟨P, ph, ck, a, hc, ho⟩ := h
  unfold st_realGlobal wp8_realGlobal
  refine r_real (i := 2) (by decide) ?_
  unfold wp9_realGlobal
  intro S1 e1
  subst e1
  refine ⟨?_, hK.th 0⟩
  obtain ⟨g1, g2, g3, -⟩ := hc.2.2.2.2.1
  have e : gD C 1101 12 2 = gF M 1909 0 := g3.1
  show agD (gD C 1101 12 2) (gF M 1909 0)
  rw [e]; exact agD_self _
theorem k_memory {C M : St} (h : KK C M) (x1 : Int32) (f : Nat → Int64) (g : Nat → UInt64) : st_memory KK C M x1 f g := by
  have hK := h
  obtain ⟨P, ph, ck, a, hc, ho⟩ := h
  have bad : (x1 < 0 ∨ nI 63 < x1) → ∃ j, cd_memory 1 = some j ∧ qw_memory KK M x1 j (C, f, g) := by
    intro z
    refine ⟨1, rfl, ?_⟩
    unfold qw_memory wp9_memory
    exact m_inQ (fun y1 y2 => absurd z (fun w => w.elim y1 y2)) (fun _ => m_good0 ⟨fun _ => th_bad hK (by decide), fun y => absurd rfl y⟩)
  unfold st_memory wp8_memory
  refine ⟨fun z => bad (Or.inl z), fun z => ⟨fun z2 => ?_, fun z2 => bad (Or.inr ?_)⟩⟩
  · obtain ⟨i, hi, ei⟩ := inr' (n := 64) (by omega) z (Int32.not_le.mpr z2)
    subst ei
    unfold wp7_byteAt
    rw [nI_clamp (by omega)]
    refine ⟨fun y => absurd y z, fun _ => ⟨fun y => absurd ((nI_leI (a := 64) (by omega) (by omega)).mp y) (by omega), fun _ => ⟨vp_in_nI hi (by omega), ?_⟩⟩⟩
    unfold qw_memory wp9_memory
    refine m_inQ (fun _ _ => m_good1 ⟨fun y => absurd y (by decide), fun _ => ⟨vp_in_nI (by omega) (by omega), ?_⟩⟩) (fun y => absurd y (fun w => w.elim z (fun w => absurd ((nI_ltI (a := 63) (by omega) (by omega)).mp w) (by omega))))
    rw [nI_clamp (by omega)]
    refine th_good (hK.th 0) (by simp [gI_sI]) ?_
    show (gA C 1700 0 i).toInt64 = (gA M 1907 0 i).toInt64
    obtain ⟨n, _, e1, e2⟩ := hc.2.2.2.2.1.2.2.2 i hi
    rw [e1, e2]
  · have z2 := Int32.not_lt.mp z2
    have m1 : (64 : Int32).toInt = 64 := rfl
    rw [Int32.le_iff_toInt_le, m1] at z2
    rw [Int32.lt_iff_toInt_lt, nI_toInt (by omega)]; omega
theorem k_count {C M : St} (h : KK C M) (x1 : Int32) (f : Nat → Int64) (g : Nat → UInt64) : st_count KK C M x1 f g := by
  have hK := h
  obtain ⟨P, ph, ck, a, hc, ho⟩ := h
  obtain ⟨o1, o2, o3, o4, o5, o6, o7, o8, o9, o10, o11, o12, o13⟩ := id ho
  have bad : (x1 < 0 ∨ nI 11 < x1) → ∃ j, cd_count 1 = some j ∧ qw_count KK M x1 j (C, f, g) := by
    intro z
    refine ⟨1, rfl, ?_⟩
    unfold qw_count wp9_count
    exact m_inQ (fun y1 y2 => absurd z (fun w => w.elim y1 y2)) (fun _ => m_good0 ⟨fun y => absurd rfl y, fun _ => th_bad hK (by decide)⟩)
  unfold st_count wp8_count
  refine ⟨fun z => bad (Or.inl z), fun z => ⟨fun z2 => ?_, fun z2 => bad (Or.inr (Int32.not_le.mp z2))⟩⟩
  have z2' : ¬ nI 12 ≤ x1 := fun w => by
    rw [Int32.le_iff_toInt_le, nI_toInt (by omega)] at w
    have m1 : (11 : Int32).toInt = 11 := rfl
    rw [Int32.le_iff_toInt_le, m1] at z2; omega
  obtain ⟨i, hi, ei⟩ := inr' (by omega) z z2'
  subst ei
  -- the reference's answer
  have ref : ∀ r : Int32, (∀ (Q : Int32 → St → Prop), Q r (sI M 1939 0 0) → (nI i ≤ 5 → (¬ nI i = 0 → (¬ nI i = 1 → (¬ nI i = 2 → (¬ nI i = 3 → (¬ nI i = 4 → Q (gI (sI M 1939 0 0) 1911 0) (sI M 1939 0 0)) ∧ (nI i = 4 → (gI (sI M 1939 0 0) 1912 0 = 0 → Q 0 (sI M 1939 0 0)) ∧ (¬ gI (sI M 1939 0 0) 1912 0 = 0 → Q 1 (sI M 1939 0 0)))) ∧ (nI i = 3 → Q (gI (sI M 1939 0 0) 1935 0) (sI M 1939 0 0))) ∧ (nI i = 2 → (¬ gI (sI M 1939 0 0) 1932 0 = 1 → Q 0 (sI M 1939 0 0)) ∧ (gI (sI M 1939 0 0) 1932 0 = 1 → Q (gI (sI M 1939 0 0) 1930 0) (sI M 1939 0 0)))) ∧ (nI i = 1 → Q (gI (sI M 1939 0 0) 1933 0) (sI M 1939 0 0))) ∧ (nI i = 0 → Q (gI (sI M 1939 0 0) 1932 0) (sI M 1939 0 0))) ∧ (¬ nI i ≤ 5 → vp_in (nI i - 6) 6 ∧ Q (gA (sI M 1939 0 0) 1905 0 ((nI i - 6).toNatClampNeg)) (sI M 1939 0 0))) → qw_count KK M (nI i) 0 (C, vp_updL f 0 r.toInt64, g) := by
    intro r hr
    unfold qw_count wp9_count
    refine m_inQ (fun _ _ => m_good1 ⟨fun _ => ?_, fun y => absurd y (by decide)⟩) (fun y => absurd y (fun w => w.elim z (Int32.not_lt.mpr z2)))
    exact hr (fun rb M' => wp9_thrown M' (fun th M2 => th = 0 ∧ ((0 : Int32) = 0 → vp_updL f 0 r.toInt64 0 = rb.toInt64) ∧ KK C M2)) (th_good (hK.th 0) (by simp [gI_sI]) rfl)
  have x32 : gI (sI M 1939 0 0) 1932 0 = nI ph := by simp [gI_sI]; exact o5
  have x33 : gI (sI M 1939 0 0) 1933 0 = gI C 1808 0 := by simp [gI_sI]; exact o6.symm
  have x35 : gI (sI M 1939 0 0) 1935 0 = gI C 1809 0 := by simp [gI_sI]; exact o7.symm
  have x11 : gI (sI M 1939 0 0) 1911 0 = nI a := by simp [gI_sI]; exact o9
  have x12 : gI (sI M 1939 0 0) 1912 0 = nI ck := by simp [gI_sI]; exact o12
  have x30 : ph = 1 → gI (sI M 1939 0 0) 1930 0 = gI C 1607 0 := by
    intro w
    obtain ⟨c, hx⟩ := hc.2.2.2.2.2.2.1 w
    simp [gI_sI]
    rw [hx.2.2.2.2.2.1.1, hx.2.2.2.2.1.1]
  have ne : ∀ k, k ≠ i → i < 12 → k < 12 → ¬ nI i = nI k := fun k h1 h2 h3 w => h1 (nE (by omega) (by omega) w).symm
  rw [o4, o8, o11]
  by_cases i0 : i = 0
  · subst i0
    refine ⟨fun _ => ref _ fun Q hQ => ⟨fun _ => ⟨fun w => absurd rfl w, fun _ => by rw [x32]; exact hQ⟩, fun w => absurd (by decide) w⟩, fun w => absurd rfl w⟩
  by_cases i1 : i = 1
  · subst i1
    refine ⟨fun w => absurd w (by decide), fun _ => ⟨fun _ => ref _ fun Q hQ => ⟨fun _ => ⟨fun _ => ⟨fun w => absurd rfl w, fun _ => by rw [x33]; exact hQ⟩, fun w => absurd w (by decide)⟩, fun w => absurd (by decide) w⟩, fun w => absurd rfl w⟩⟩
  by_cases i2 : i = 2
  · subst i2
    refine ⟨fun w => absurd w (by decide), fun _ => ⟨fun w => absurd w (by decide), fun _ => ⟨fun _ => ⟨fun w => ?_, fun w => ?_⟩, fun w => absurd rfl w⟩⟩⟩
    · exact ref _ fun Q hQ => ⟨fun _ => ⟨fun _ => ⟨fun _ => ⟨fun w => absurd rfl w, fun _ => ⟨fun _ => hQ, fun w2 => absurd (x32.symm.trans w2) w⟩⟩, fun w => absurd w (by decide)⟩, fun w => absurd w (by decide)⟩, fun w => absurd (by decide) w⟩
    · have w' := nE (b := 1) (by omega) (by omega) w
      exact ref _ fun Q hQ => ⟨fun _ => ⟨fun _ => ⟨fun _ => ⟨fun w => absurd rfl w, fun _ => ⟨fun w2 => absurd (x32.trans w) w2, fun _ => by rw [x30 w']; exact hQ⟩⟩, fun w => absurd w (by decide)⟩, fun w => absurd w (by decide)⟩, fun w => absurd (by decide) w⟩
  by_cases i3 : i = 3
  · subst i3
    refine ⟨fun w => absurd w (by decide), fun _ => ⟨fun w => absurd w (by decide), fun _ => ⟨fun w => absurd w (by decide), fun _ => ⟨fun _ => ?_, fun w => absurd rfl w⟩⟩⟩⟩
    exact ref _ fun Q hQ => ⟨fun _ => ⟨fun _ => ⟨fun _ => ⟨fun _ => ⟨fun w => absurd rfl w, fun _ => by rw [x35]; exact hQ⟩, fun w => absurd w (by decide)⟩, fun w => absurd w (by decide)⟩, fun w => absurd w (by decide)⟩, fun w => absurd (by decide) w⟩
  by_cases i4 : i = 4
  · subst i4
    refine ⟨fun w => absurd w (by decide), fun _ => ⟨fun w => absurd w (by decide), fun _ => ⟨fun w => absurd w (by decide), fun _ => ⟨fun w => absurd w (by decide), fun _ => ⟨fun _ => ⟨fun w => ?_, fun w => ?_⟩, fun w => absurd rfl w⟩⟩⟩⟩⟩
    · exact ref _ fun Q hQ => ⟨fun _ => ⟨fun _ => ⟨fun _ => ⟨fun _ => ⟨fun _ => ⟨fun w => absurd rfl w, fun _ => ⟨fun _ => hQ, fun w2 => absurd (x12.trans w) w2⟩⟩, fun w => absurd w (by decide)⟩, fun w => absurd w (by decide)⟩, fun w => absurd w (by decide)⟩, fun w => absurd w (by decide)⟩, fun w => absurd (by decide) w⟩
    · exact ref _ fun Q hQ => ⟨fun _ => ⟨fun _ => ⟨fun _ => ⟨fun _ => ⟨fun _ => ⟨fun w => absurd rfl w, fun _ => ⟨fun w2 => absurd (x12.symm.trans w2) w, fun _ => hQ⟩⟩, fun w => absurd w (by decide)⟩, fun w => absurd w (by decide)⟩, fun w => absurd w (by decide)⟩, fun w => absurd w (by decide)⟩, fun w => absurd (by decide) w⟩
  by_cases i5 : i = 5
  · subst i5
    refine ⟨fun w => absurd w (by decide), fun _ => ⟨fun w => absurd w (by decide), fun _ => ⟨fun w => absurd w (by decide), fun _ => ⟨fun w => absurd w (by decide), fun _ => ⟨fun w => absurd w (by decide), fun _ => ⟨fun _ => ?_, fun w => absurd rfl w⟩⟩⟩⟩⟩⟩
    exact ref _ fun Q hQ => ⟨fun _ => ⟨fun _ => ⟨fun _ => ⟨fun _ => ⟨fun _ => ⟨fun _ => by rw [x11]; exact hQ, fun w => absurd w (by decide)⟩, fun w => absurd w (by decide)⟩, fun w => absurd w (by decide)⟩, fun w => absurd w (by decide)⟩, fun w => absurd w (by decide)⟩, fun w => absurd (by decide) w⟩
  refine ⟨fun w => absurd w (ne 0 (by omega) hi (by omega)), fun _ => ⟨fun w => absurd w (ne 1 (by omega) hi (by omega)), fun _ => ⟨fun w => absurd w (ne 2 (by omega) hi (by omega)), fun _ => ⟨fun w => absurd w (ne 3 (by omega) hi (by omega)), fun _ => ⟨fun w => absurd w (ne 4 (by omega) hi (by omega)), fun _ => ⟨fun w => absurd w (ne 5 (by omega) hi (by omega)), fun _ => ?_⟩⟩⟩⟩⟩⟩
  unfold wp4_length
  rw [l6, nI_sub (by omega), nI_clamp (by omega)]
  refine ⟨vp_in_nI (by omega) (by omega), ref _ fun Q hQ => ⟨fun w => absurd ((nI_leI (b := 5) (by omega) (by omega)).mp w) (by omega), fun _ => ?_⟩⟩
  rw [l6, nI_sub (by omega), nI_clamp (by omega)]
  refine ⟨vp_in_nI (by omega) (by omega), ?_⟩
  have e1 := (hc.2.1 (i - 6) (by omega)).2.2.2.1
  have e2 := (hc.2.2.1 (i - 6) (by omega)).2.2.2.1
  show Q (gA M 1905 0 (i - 6)) _
  rw [e2, ← e1]; exact hQ
