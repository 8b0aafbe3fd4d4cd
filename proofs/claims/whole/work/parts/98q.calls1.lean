/-! PURE: the calls, one by one: those that look and small changes -/
theorem m_good1 {S : St} {x2 : Int32} {Q : Int32 → St → Prop} (kk : Q 1 (sI S 1939 0 0)) : wp9_good S 1 x2 Q :=
  ⟨fun c => absurd c (by decide), fun _ S2 e => by subst e; exact ⟨Or.inr rfl, kk⟩⟩
theorem m_good0 {S : St} {x2 : Int32} {Q : Int32 → St → Prop} (kk : Q 0 (sI S 1939 0 x2)) : wp9_good S 0 x2 Q :=
  ⟨fun _ S1 e => by subst e; exact ⟨Or.inl rfl, kk⟩, fun c => absurd rfl c⟩
theorem m_inQ {S : St} {x lo hi : Int32} {Q : Int32 → St → Prop} (k1 : ¬ x < lo → ¬ hi < x → Q 1 S) (k0 : x < lo ∨ hi < x → Q 0 S) : wp9_in S x lo hi Q :=
  ⟨fun c => k0 (Or.inl c), fun c => ⟨fun c2 => k0 (Or.inr c2), fun c2 => k1 c c2⟩⟩
theorem th_bad {C M : St} {z : Int32} {X : Prop} (h : KK C M) (hz : ¬ z = 0) : wp9_thrown (sI M 1939 0 z) (fun th M2 => th = z ∧ (z = 0 → X) ∧ KK C M2) := by
  unfold wp9_thrown
  exact ⟨by simp [gI_sI], fun y => absurd y hz, h.th z⟩
theorem th_good {C M : St} {X : Prop} (h : KK C M) (e : gI M 1939 0 = 0) (hx : X) : wp9_thrown M (fun th M2 => th = 0 ∧ ((0 : Int32) = 0 → X) ∧ KK C M2) := by
  unfold wp9_thrown
  exact ⟨e, fun _ => hx, h⟩
theorem inr' {x : Int32} {n : Nat} (hn : n < 1000) (h0 : ¬ x < 0) (h1 : ¬ nI n ≤ x) : ∃ j, j < n ∧ x = nI j :=
  vp_in_of (vp_in_cmp (by omega) h0 (Int32.not_le.mp h1)) (by omega)
theorem k_stop {C M : St} (h : KK C M) (f : Nat → Int64) (g : Nat → UInt64) : st_stop KK C M f g := by
  have hK := h
  obtain ⟨P, ph, ck, a, hc, ho⟩ := h
  obtain ⟨o1, o2, o3, o4, o5, o6, o7, o8, o9, o10, o11, o12, o13⟩ := id ho
  unfold st_stop wp8_stop
  rw [o4]
  refine ⟨fun z S1 e1 => ?_, fun z => ?_⟩
  · have z := nE (b := 1) (by omega) (by omega) z
    subst e1
    unfold qw_stop wp9_stop wp9_stop_14
    rw [o5]
    refine ⟨fun y => absurd (by rw [z]; rfl) y, fun _ => m_good1 ⟨fun _ S2 e2 => ?_, fun y => absurd y (by decide)⟩⟩
    subst e2
    refine th_good ⟨P, 0, ck, a, hc.ag (Ag.rf.sI (p := fun k => k = 1807) rfl) ((Ag.rf.sI (p := fun k => k = 1939 ∨ k = 1932) (Or.inl rfl)).sI (Or.inr rfl)) (fun k y w => by unfold uC at y; omega) (fun k y w => by unfold uM at y; omega) (fun y => absurd y (by decide)) (fun y => absurd y (by decide)) id, ⟨by omega, o2, o3, ?_, ?_, ?_, ?_, ?_, ?_, o10, ?_, ?_, fun y => absurd y (by decide)⟩⟩ ?_ ?_
    · simp [gI_sI]; rfl
    · simp [gI_sI]; rfl
    · simp [gI_sI]; exact o6
    · simp [gI_sI]; exact o7
    · simp [gI_sI]; exact o8
    · simp [gI_sI]; exact o9
    · simp [gI_sI]; exact o11
    · simp [gI_sI]; exact o12
    · simp [gI_sI]
    · simp [vp_updL, gI_sI]; rw [o6]
  · have z := nN (b := 1) z
    refine ⟨1, rfl, ?_⟩
    unfold qw_stop wp9_stop wp9_stop_14
    rw [o5]
    exact ⟨fun _ => m_good0 ⟨fun y => absurd rfl y, fun _ => th_bad hK (by decide)⟩, fun y => absurd (nE (b := 1) (by omega) (by omega) y) z⟩
theorem k_argue {C M : St} (h : KK C M) (x : Int32) (f : Nat → Int64) (g : Nat → UInt64) : st_argue KK C M x f g := by
  have hK := h
  obtain ⟨P, ph, ck, a, hc, ho⟩ := h
  obtain ⟨o1, o2, o3, o4, o5, o6, o7, o8, o9, o10, o11, o12, o13⟩ := id ho
  unfold st_argue wp8_argue
  rw [o8]
  refine ⟨fun z => ⟨vp_in_nI (by have := (nI_ltI (b := 3) (by omega) (by omega)).mp z; omega) (by omega), fun S1 e1 S2 e2 => ?_⟩, fun z => ?_⟩
  · have z := (nI_ltI (b := 3) (by omega) (by omega)).mp z
    rw [nI_clamp (by omega)] at e1
    subst e1
    rw [show gI (sA C 1802 0 a x) 1805 0 = nI a from o8, nI_1] at e2
    subst e2
    unfold qw_argue wp9_argue wp9_argue_14
    rw [o9]
    refine ⟨fun y => absurd ((nI_leI (a := 3) (by omega) (by omega)).mp y) (by omega), fun _ => m_good1 ⟨fun _ => ?_, fun y => absurd y (by decide)⟩⟩
    rw [show gI (sI M 1939 0 0) 1911 0 = nI a by simp [gI_sI]; exact o9, nI_clamp (by omega)]
    refine ⟨vp_in_nI z (by omega), fun S2 e2 S3 e3 => ?_⟩
    subst e2
    rw [show gI (sA (sI M 1939 0 0) 1910 0 a x) 1911 0 = nI a by simp [gI_sI, gI_sA]; exact o9, nI_1] at e3
    subst e3
    refine th_good ⟨P, ph, ck, a + 1, hc.ag ((Ag.rf.sA (p := fun k => k = 1802 ∨ k = 1805) (Or.inl rfl)).sI (Or.inr rfl)) (((Ag.rf.sI (p := fun k => k = 1939 ∨ k = 1910 ∨ k = 1911) (Or.inl rfl)).sA (Or.inr (Or.inl rfl))).sI (Or.inr (Or.inr rfl))) (fun k y w => by unfold uC at y; omega) (fun k y w => by unfold uM at y; omega) id id id, ⟨o1, o2, by omega, ?_, ?_, ?_, ?_, ?_, ?_, fun i hi => ?_, ?_, ?_, o13⟩⟩ ?_ ?_
    · simp [gI_sI, gI_sA]; exact o4
    · simp [gI_sI, gI_sA]; exact o5
    · simp [gI_sI, gI_sA]; exact o6
    · simp [gI_sI, gI_sA]; exact o7
    · simp [gI_sI]
    · simp [gI_sI]
    · simp [gA_sI, gA_sA]
      by_cases y : i = a
      · rw [if_pos y, if_pos y]
      · rw [if_neg y, if_neg y]; exact o10 i (by omega)
    · simp [gI_sI, gI_sA]; exact o11
    · simp [gI_sI, gI_sA]; exact o12
    · simp [gI_sI, gI_sA]
    · simp [vp_updL, gI_sI]
  · have z : ¬ a < 3 := fun y => z ((nI_ltI (b := 3) (by omega) (by omega)).mpr y)
    refine ⟨1, rfl, ?_⟩
    unfold qw_argue wp9_argue wp9_argue_14
    rw [o9]
    exact ⟨fun _ => m_good0 ⟨fun y => absurd rfl y, fun _ => th_bad hK (by decide)⟩, fun y => absurd ((nI_leI (a := 3) (by omega) (by omega)).mpr (by omega)) y⟩
theorem k_table {C M : St} (h : KK C M) (x1 x2 : Int32) (f : Nat → Int64) (g : Nat → UInt64) : st_table KK C M x1 x2 f g := by
  have hK := h
  obtain ⟨P, ph, ck, a, hc, ho⟩ := h
  -- bad numbers
  have bad : (x1 < 0 ∨ nI 8 ≤ x1 ∨ (¬ x2 = -1 ∧ (x2 < 0 ∨ nI 6 ≤ x2))) → ∃ j, cd_table 1 = some j ∧ qw_table KK M x1 x2 j (C, f, g) := by
    intro z
    refine ⟨1, rfl, ?_⟩
    have b25 : wp9_table_25 x1 x2 (fun rb M' => wp9_thrown M' (fun th M2 => th = 1 ∧ ((1 : Int32) = 0 → f 0 = rb.toInt64) ∧ KK C M2)) 0 M :=
      m_good0 ⟨fun y => absurd rfl y, fun _ => th_bad hK (by decide)⟩
    unfold qw_table wp9_table
    refine m_inQ (fun y1 y2 => ⟨fun y => absurd y (by decide), fun _ => m_inQ (fun y3 y4 => ?_) (fun _ => ⟨fun _ => b25, fun y => absurd rfl y⟩)⟩) (fun _ => ⟨fun _ => b25, fun y => absurd rfl y⟩)
    exfalso
    have e7 : nI 8 ≤ x1 → nI 7 < x1 := fun w => by
      rw [Int32.le_iff_toInt_le, nI_toInt (by omega)] at w
      rw [Int32.lt_iff_toInt_lt, nI_toInt (by omega)]; omega
    have e5 : nI 6 ≤ x2 → nI 5 < x2 := fun w => by
      rw [Int32.le_iff_toInt_le, nI_toInt (by omega)] at w
      rw [Int32.lt_iff_toInt_lt, nI_toInt (by omega)]; omega
    rcases z with z | z | ⟨z1, z2 | z2⟩
    · exact y1 z
    · exact y2 (e7 z)
    · apply z1
      apply Int32.toInt_inj.mp
      have m1 : (-1 : Int32).toInt = -1 := rfl
      have m0 : (0 : Int32).toInt = 0 := rfl
      rw [Int32.lt_iff_toInt_lt, m1] at y3
      rw [Int32.lt_iff_toInt_lt, m0] at z2
      rw [m1]; omega
    · exact y4 (e5 z2)
  have good : ¬ x1 < 0 → ¬ nI 8 ≤ x1 → (x2 = -1 ∨ ∃ g, g < 6 ∧ x2 = nI g) → wp8_table_30 x1 x2 (fun r S' => qw_table KK M x1 x2 0 (S', vp_updL f 0 r.toInt64, g)) (fun k S' => ∃ j, cd_table k = some j ∧ qw_table KK M x1 x2 j (S', f, g)) C := by
    intro z1 z2 z3
    obtain ⟨i, hi, ei⟩ := inr' (by omega) z1 z2
    subst ei
    refine ⟨vp_in_nI hi (by omega), fun x3 e3 => ⟨vp_in_nI hi (by omega), fun S1 e1 => ?_⟩⟩
    rw [nI_clamp (by omega)] at e3 e1
    subst e3; subst e1
    obtain ⟨hw, hPC, hPM, hT, hg, hS, hX, hA, hN⟩ := hc
    obtain ⟨o1, o2, o3, o4, o5, o6, o7, o8, o9, o10, o11, o12, o13⟩ := id ho
    have y2 : ¬ (5 : Int32) < x2 ∧ ¬ x2 < -1 := by
      rcases z3 with e | ⟨g, hg, e⟩
      · rw [e]; exact ⟨by decide, by decide⟩
      · rw [e]
        refine ⟨fun w => absurd ((nI_ltI (a := 5) (by omega) (by omega)).mp w) (by omega), fun w => ?_⟩
        have m1 : (-1 : Int32).toInt = -1 := rfl
        rw [Int32.lt_iff_toInt_lt, m1, nI_toInt (by omega)] at w
        omega
    unfold qw_table wp9_table
    refine m_inQ (fun _ _ => ⟨fun y => absurd y (by decide), fun _ => m_inQ (fun _ _ => ⟨fun y => absurd y (by decide), fun _ => m_good1 ⟨fun _ => ⟨vp_in_nI hi (by omega), fun x4 e4 => ⟨vp_in_nI hi (by omega), fun S2 e2 => ?_⟩⟩, fun y => absurd y (by decide)⟩⟩) (fun y => absurd y (fun w => w.elim y2.2 y2.1))⟩) (fun y => absurd y (fun w => w.elim (nI_pos (by omega)) (fun w => absurd ((nI_ltI (a := 7) (by omega) (by omega)).mp w) (by omega))))
    rw [nI_clamp (by omega)] at e4 e2
    subst e4; subst e2
    have aC : Ag (fun k => k = 1801) C (sA C 1801 0 i x2) := Ag.rf.sA rfl
    have aM : Ag (fun k => k = 1939 ∨ k = 1906) M (sA (sI M 1939 0 0) 1906 0 i x2) := (Ag.rf.sI (Or.inl rfl)).sA (Or.inr rfl)
    refine th_good ⟨P, ph, ck, a, ⟨hw, hPC.ag aC (fun k w => by omega), hPM.ag aM (fun k w1 w2 => by omega), fun q hq => ?_, hg, hS, fun w => ?_, hA, hN⟩, ⟨o1, o2, o3, o4, ?_, ?_, ?_, o8, ?_, o10, o11, ?_, o13⟩⟩ ?_ ?_
    · simp only [gA_sI, gA_sA, true_and]
      by_cases w : q = i
      · rw [if_pos w, if_pos w]; exact ⟨rfl, z3⟩
      · rw [if_neg w, if_neg w]; exact hT q hq
    · obtain ⟨c, hx⟩ := hX w
      exact ⟨c, hx.ag aC aM (fun k y => by unfold uC at y; omega) (fun k y => by unfold uM at y; omega) (aM.gI (by decide) 0) (aM.gI (by decide) 0) (fun i _ => ⟨rfl, rfl, rfl⟩) hx.2.2.2.2.2.2.2.2⟩
    · simp [gI_sI, gI_sA]; exact o5
    · simp [gI_sI, gI_sA]; exact o6
    · simp [gI_sI, gI_sA]; exact o7
    · simp [gI_sI, gI_sA]; exact o9
    · simp [gI_sI, gI_sA]; exact o12
    · simp [gI_sI, gI_sA]
    · show vp_updL f 0 (gA C 1801 0 i).toInt64 0 = (gA M 1906 0 i).toInt64
      rw [(hT i hi).1]; rfl
  unfold st_table wp8_table
  refine ⟨fun z => bad (Or.inl z), fun z => ⟨fun z2 => bad (Or.inr (Or.inl z2)), fun z2 => ⟨fun z3 => good z z2 (Or.inl z3), fun z3 => ?_⟩⟩⟩
  refine ⟨fun y => ⟨fun w => absurd rfl w, fun _ => bad (Or.inr (Or.inr ⟨z3, Or.inl y⟩))⟩, fun y => ⟨fun y2 => ⟨fun w => absurd rfl w, fun _ => bad (Or.inr (Or.inr ⟨z3, Or.inr y2⟩))⟩, fun y2 => ⟨fun _ => good z z2 (Or.inr (inr' (by omega) y y2)), fun w => absurd w (by decide)⟩⟩⟩
