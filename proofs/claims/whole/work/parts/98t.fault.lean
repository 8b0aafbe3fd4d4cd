/-! PURE: the calls, one by one: fault, check -/
def NtP (P : Prog) (C : St) (f : Nat) : Prop := chk P f = none ∧ ∃ N, ∀ j, j < 60 → gA C 1402 f j = (goN P f 61 0 (sIni P f) N).1 j ∧ gA C 1403 f j = (goN P f 61 0 (sIni P f) N).2 j
/-- what going over functions leaves -/
theorem Kc.gone {P : Prog} {ph ck ck' : Nat} {C M C' M' : St} {pm : Nat → Prop} (h : Kc P ph ck C M) (hC : Ag kC C C') (hS' : Sp C') (hM : Ag pm M M') (nm : ∀ k, uM k ∨ k = 1906 → ¬ pm k) (hN' : ck' = 1 → XN P C') (hX' : ph = 1 → ∃ c, XX P c C' M') : Kc P ph ck' C' M' := by
  obtain ⟨hw, hPC, hPM, hT, hg, hS, hX, hA, hN⟩ := h
  have nU : ∀ k, uC k ∨ k = 1801 → ¬ kC k := fun k z y => by unfold uC at z; unfold kC at y; omega
  have mU : ∀ k, uM k → ¬ pm k := fun k z => nm k (Or.inl z)
  refine ⟨hw, hPC.ag hC (fun k z => nU k (by unfold uC; omega)), hPM.ag hM (fun k z1 z2 => mU k (by unfold uM; omega)), fun i hi => ?_, hg.of (fun i => hC.gJ (nU _ (by unfold uC; omega)) _ _) (fun i => hC.gD (nU _ (by unfold uC; omega)) _ _) (fun i => hC.gA (nU _ (by unfold uC; omega)) _ _) (fun i => hM.gJ (mU _ (by unfold uM; omega)) _ _) (hM.gF (mU _ (by unfold uM; omega)) _) (fun i => hM.gA (mU _ (by unfold uM; omega)) _ _), hS', hX', fun z => ?_, hN'⟩
  · rw [hC.gA (nU 1801 (by omega)), hM.gA (nm 1906 (by omega))]
    exact hT i hi
  · obtain ⟨k, k3, a1, a2, a3⟩ := hA z
    refine ⟨k, k3, ?_, ?_, fun y => ?_⟩
    · rw [hC.gI (nU _ (by unfold uC; omega))]; exact a1
    · rw [hM.gI (mU _ (by unfold uM; omega))]; exact a2
    · rw [hC.gJ (nU _ (by unfold uC; omega)), hC.gD (nU _ (by unfold uC; omega)), hM.gL (mU _ (by unfold uM; omega)), hM.gF (mU _ (by unfold uM; omega))]
      exact a3 y
theorem Ko.gone {ph ck a : Nat} {C M C' M' : St} {pm : Nat → Prop} (h : Ko ph ck a C M) (hC : Ag kC C C') (hM : Ag pm M M') (nm : ∀ k, k = 1910 ∨ k = 1911 ∨ k = 1912 ∨ k = 1932 ∨ k = 1933 ∨ k = 1935 → ¬ pm k) : Ko ph ck a C' M' := by
  obtain ⟨o1, o2, o3, o4, o5, o6, o7, o8, o9, o10, o11, o12, o13⟩ := h
  have nC : ∀ k, 1800 ≤ k → ¬ kC k := fun k z y => by unfold kC at y; omega
  refine ⟨o1, o2, o3, ?_, ?_, ?_, ?_, ?_, ?_, fun i hi => ?_, ?_, ?_, o13⟩
  · rw [hC.gI (nC _ (by omega))]; exact o4
  · rw [hM.gI (nm _ (by omega))]; exact o5
  · rw [hC.gI (nC _ (by omega)), hM.gI (nm _ (by omega))]; exact o6
  · rw [hC.gI (nC _ (by omega)), hM.gI (nm _ (by omega))]; exact o7
  · rw [hC.gI (nC _ (by omega))]; exact o8
  · rw [hM.gI (nm _ (by omega))]; exact o9
  · rw [hC.gA (nC _ (by omega)), hM.gA (nm _ (by omega))]; exact o10 i hi
  · rw [hC.gI (nC _ (by omega))]; exact o11
  · rw [hM.gI (nm _ (by omega))]; exact o12
theorem xn_gone {P : Prog} {C C' : St} {i : Nat} (hN : XN P C) (ag : AgC i C C') (hn : chk P i = none → ∃ N, ∀ j, j < 60 → gA C' 1402 i j = (goN P i 61 0 (sIni P i) N).1 j ∧ gA C' 1403 i j = (goN P i 61 0 (sIni P i) N).2 j) : XN P C' := by
  intro f hf hL
  obtain ⟨b1, N, b2⟩ := hN f hf hL
  by_cases z : f = i
  · subst z
    exact ⟨b1, hn b1⟩
  · refine ⟨b1, N, fun j hj => ?_⟩
    rw [(ag.2 f z j).1, (ag.2 f z j).2]
    exact b2 j hj
/-- the reference keeps its frames -/
def Sav (S S' : St) (i : Nat) : Prop := Ag (fun k => k = 1940) S S' ∧ ∀ q, q < i → gA S' 1940 0 q = gA S 1915 0 q ∧ gA S' 1940 0 (60 + q) = gA S 1916 0 q ∧ gA S' 1940 0 (120 + q) = gA S 1917 0 q
theorem m_save {S : St} {x1 x2 x3 : Int32} {Q : Int32 → St → Prop} (kk : ∀ S', Sav S S' 60 → wp9_find S' x1 (fun r1 S1 => ∃ n, wp9_fault_114 x1 Q n x2 x3 r1 0 S1)) : ∀ (m i : Nat) (S1 : St), m + i = 60 → Sav S S1 i → wp9_fault_43 x1 Q (m + 1) x2 x3 (nI i) S1 := by
  intro m
  induction m with
  | zero =>
    intro i S1 hm hs
    have e : i = 60 := by omega
    subst e
    exact ⟨fun _ => kk S1 hs, fun c => absurd (by decide) c⟩
  | succ m ih =>
    intro i S1 hm hs
    refine ⟨fun c => absurd ((nI_leI (a := 60) (by omega) (by omega)).mp c) (by omega), fun _ => ?_⟩
    have l60 : (60 : Int32) + nI i = nI (60 + i) := nI_add 60 i
    have l120 : (120 : Int32) + nI i = nI (120 + i) := nI_add 120 i
    rw [l60, l120, nI_clamp (by omega), nI_clamp (by omega), nI_clamp (by omega)]
    refine ⟨vp_in_nI (by omega) (by omega), vp_in_nI (by omega) (by omega), fun S2 e2 => ⟨vp_in_nI (by omega) (by omega), vp_in_nI (by omega) (by omega), fun S3 e3 => ⟨vp_in_nI (by omega) (by omega), vp_in_nI (by omega) (by omega), fun S4 e4 x e5 => ?_⟩⟩⟩
    rw [nI_1] at e5
    subst e5
    have b5 : gA S1 1915 0 i = gA S 1915 0 i := hs.1.gA (by decide) 0 i
    have b6 : gA S2 1916 0 i = gA S 1916 0 i := by rw [e2]; show gA S1 1916 0 i = _; exact hs.1.gA (by decide) 0 i
    have b7 : gA S3 1917 0 i = gA S 1917 0 i := by rw [e3, e2]; show gA S1 1917 0 i = _; exact hs.1.gA (by decide) 0 i
    rw [b5] at e2
    rw [b6] at e3
    rw [b7] at e4
    subst e2; subst e3; subst e4
    refine ih (i + 1) _ (by omega) ⟨((hs.1.sA rfl).sA rfl).sA rfl, fun q hq => ?_⟩
    simp only [gA_sA, true_and]
    by_cases y : q = i
    · subst y
      rw [if_neg (by omega), if_neg (by omega), if_pos rfl, if_neg (by omega), if_pos rfl, if_pos rfl]
      exact ⟨rfl, rfl, rfl⟩
    · rw [if_neg (by omega), if_neg (by omega), if_neg y, if_neg (by omega), if_neg (by omega), if_neg (by omega), if_neg (by omega), if_neg (by omega), if_neg (by omega)]
      exact hs.2 q (by omega)
def Bck (S S' : St) (i : Nat) : Prop := Ag (fun k => k = 1915 ∨ k = 1916 ∨ k = 1917) S S' ∧ ∀ q, q < i → gA S' 1915 0 q = gA S 1940 0 q ∧ gA S' 1916 0 q = gA S 1940 0 (60 + q) ∧ gA S' 1917 0 q = gA S 1940 0 (120 + q)
theorem m_back {S : St} {x1 x2 x3 r : Int32} {Q : Int32 → St → Prop} (kk : ∀ S', Bck S S' 60 → Q r (sI (sI S' 1914 0 x2) 1920 0 x3)) : ∀ (m i : Nat) (S1 : St), m + i = 60 → Bck S S1 i → wp9_fault_114 x1 Q (m + 1) x2 x3 r (nI i) S1 := by
  intro m
  induction m with
  | zero =>
    intro i S1 hm hs
    have e : i = 60 := by omega
    subst e
    refine ⟨fun _ S2 e2 S3 e3 => ?_, fun c => absurd (by decide) c⟩
    subst e2; subst e3
    exact kk S1 hs
  | succ m ih =>
    intro i S1 hm hs
    refine ⟨fun c => absurd ((nI_leI (a := 60) (by omega) (by omega)).mp c) (by omega), fun _ => ?_⟩
    have l60 : (60 : Int32) + nI i = nI (60 + i) := nI_add 60 i
    have l120 : (120 : Int32) + nI i = nI (120 + i) := nI_add 120 i
    rw [l60, l120, nI_clamp (by omega), nI_clamp (by omega), nI_clamp (by omega)]
    refine ⟨vp_in_nI (by omega) (by omega), vp_in_nI (by omega) (by omega), fun S2 e2 => ⟨vp_in_nI (by omega) (by omega), vp_in_nI (by omega) (by omega), fun S3 e3 => ⟨vp_in_nI (by omega) (by omega), vp_in_nI (by omega) (by omega), fun S4 e4 x e5 => ?_⟩⟩⟩
    rw [nI_1] at e5
    subst e5
    have b5 : gA S1 1940 0 i = gA S 1940 0 i := hs.1.gA (by decide) 0 i
    have b6 : gA S2 1940 0 (60 + i) = gA S 1940 0 (60 + i) := by rw [e2]; show gA S1 1940 0 _ = _; exact hs.1.gA (by decide) 0 _
    have b7 : gA S3 1940 0 (120 + i) = gA S 1940 0 (120 + i) := by rw [e3, e2]; show gA S1 1940 0 _ = _; exact hs.1.gA (by decide) 0 _
    rw [b5] at e2
    rw [b6] at e3
    rw [b7] at e4
    subst e2; subst e3; subst e4
    refine ih (i + 1) _ (by omega) ⟨((hs.1.sA (by omega)).sA (by omega)).sA (by omega), fun q hq => ?_⟩
    simp only [gA_sA, true_and]
    by_cases y : q = i
    · subst y
      simp
    · simp [y]
      exact hs.2 q (by omega)
theorem k_fault {C M : St} (h : KK C M) (x1 : Int32) (f : Nat → Int64) (g : Nat → UInt64) : st_fault KK C M x1 f g := by
  have hK := h
  obtain ⟨P, ph, ck, a, hc, ho⟩ := h
  have hc' := hc
  obtain ⟨hw, hPC, hPM, hT, hg, hS, hX, hA, hN⟩ := hc'
  obtain ⟨o1, o2, o3, o4, o5, o6, o7, o8, o9, o10, o11, o12, o13⟩ := id ho
  have bad : (x1 < 0 ∨ nI 5 < x1) → ∃ j, cd_fault 1 = some j ∧ qw_fault KK M x1 j (C, f, g) := by
    intro z
    refine ⟨1, rfl, ?_⟩
    unfold qw_fault wp9_fault
    exact m_inQ (fun y1 y2 => absurd z (fun w => w.elim y1 y2)) (fun _ => m_good0 ⟨fun y => absurd rfl y, fun _ => th_bad hK (by decide)⟩)
  unfold st_fault wp8_fault
  refine ⟨fun z => ⟨fun w => absurd rfl w, fun _ => bad (Or.inl z)⟩, fun z => ⟨fun z2 => ⟨fun w => absurd rfl w, fun _ => bad (Or.inr ?_)⟩, fun z2 => ⟨fun _ => ?_, fun w => absurd w (by decide)⟩⟩⟩
  · have m1 : (6 : Int32).toInt = 6 := rfl
    rw [Int32.le_iff_toInt_le, m1] at z2
    rw [Int32.lt_iff_toInt_lt, nI_toInt (by omega)]; omega
  · obtain ⟨i, hi, ei⟩ := inr' (n := 6) (by omega) z z2
    subst ei
    rw [nI_clamp (by omega)]
    refine ⟨vp_in_nI hi (by omega), c_faultIn hPC hw hi hS fun C' ag sp notes => ?_⟩
    have hN' : ∀ {c : Nat}, (c = 1 → XN P C) → c = 1 → XN P C' := fun hn w => xn_gone (hn w) ag (fun e => ⟨_, notes e⟩)
    unfold qw_fault wp9_fault
    refine m_inQ (fun _ _ => m_good1 ⟨fun _ x2 ex2 x3 ex3 => ?_, fun y => absurd y (by decide)⟩) (fun y => absurd y (fun w => w.elim z (fun w => absurd ((nI_ltI (a := 5) (by omega) (by omega)).mp w) (by omega))))
    have aM0 : Ag (fun k => k = 1939) M (sI M 1939 0 0) := Ag.rf.sI rfl
    have hPM0 : PM P (sI M 1939 0 0) := hPM.ag aM0 (fun k w1 w2 => by omega)
    have x32 : gI (sI M 1939 0 0) 1932 0 = nI ph := by simp [gI_sI]; exact o5
    rw [x32]
    refine ⟨fun y => ⟨61, ?_⟩, fun y => ?_⟩
    · -- RUNNING
      have y := nE (b := 1) (by omega) (by omega) y
      refine m_save (S := sI M 1939 0 0) (fun S1 sv => ?_) 60 0 _ (by omega) ⟨Ag.rf, fun q hq => absurd hq (by omega)⟩
      obtain ⟨sv1, sv2⟩ := sv
      refine m_find (hPM0.ag sv1 (fun k w1 w2 => by omega)) hw hi fun S2 fg2 => ⟨61, m_back (fun S3 bk => ?_) 60 0 S2 (by omega) ⟨Ag.rf, fun q hq => absurd hq (by omega)⟩⟩
      obtain ⟨bk1, bk2⟩ := bk
      have aM : Ag (fun k => kM k ∨ k = 1939 ∨ k = 1940) M (sI (sI S3 1914 0 x2) 1920 0 x3) := by
        refine Ag.sI (Ag.sI ?_ (Or.inl (by unfold kM; omega))) (Or.inl (by unfold kM; omega))
        refine (((aM0.mono fun k w => ?_).tr (sv1.mono fun k w => ?_)).tr (fg2.mono fun k w => ?_)).tr (bk1.mono fun k w => ?_)
        · exact Or.inr (Or.inl w)
        · exact Or.inr (Or.inr w)
        · exact Or.inl w
        · left; unfold kM; omega
      refine th_good ⟨P, ph, ck, a, hc.gone ag.1 sp aM (fun k w v => by unfold uM at w; unfold kM at v; omega) (hN' hN) (fun w => ?_), ho.gone ag.1 aM (fun k w v => by unfold kM at v; omega)⟩ ?_ rfl
      · obtain ⟨c, hx⟩ := hX w
        refine ⟨c, hx.ag ag.1 aM (fun k w v => by unfold uC at w; unfold kC at v; omega) (fun k w v => by unfold uM at w; unfold kM at v; omega) ?_ ?_ (fun q hq => ?_) (xn_gone hx.2.2.2.2.2.2.2.2 ag (fun e => ⟨_, notes e⟩))⟩
        · simp [gI_sI]; rw [ex2]; simp [gI_sI]
        · simp [gI_sI]; rw [ex3]; simp [gI_sI]
        · show gA S3 1915 0 q = _ ∧ gA S3 1916 0 q = _ ∧ gA S3 1917 0 q = _
          rw [(bk2 q hq).1, (bk2 q hq).2.1, (bk2 q hq).2.2, fg2.gA (by unfold kM; omega), fg2.gA (by unfold kM; omega), fg2.gA (by unfold kM; omega), (sv2 q hq).1, (sv2 q hq).2.1, (sv2 q hq).2.2]
          exact ⟨rfl, rfl, rfl⟩
      · simp [gI_sI]
        rw [bk1.gI (by decide), fg2.gI (by unfold kM; omega), sv1.gI (by decide)]
        simp [gI_sI]
    · have y := nN (b := 1) y
      refine m_find hPM0 hw hi fun S2 fg2 => ?_
      have aM : Ag (fun k => kM k ∨ k = 1939) M S2 := (aM0.mono fun k w => Or.inr w).tr (fg2.mono fun k w => Or.inl w)
      refine th_good ⟨P, ph, ck, a, hc.gone ag.1 sp aM (fun k w v => by unfold uM at w; unfold kM at v; omega) (hN' hN) (fun w => absurd w y), ho.gone ag.1 aM (fun k w v => by unfold kM at v; omega)⟩ ?_ rfl
      rw [fg2.gI (by unfold kM; omega)]
      simp [gI_sI]
