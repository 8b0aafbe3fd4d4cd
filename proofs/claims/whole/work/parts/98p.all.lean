/-! PURE: ONE STEP of both machines -/
theorem st_all {P : Prog} {c : Ct} {C M : St} {Q : Int32 → St → St → Prop} (h : XX P c C M) (hT : TbR C M) (kk : ∀ r C' M', Res P C M r C' M' → Q r C' M') : wp6_step C (fun r C' => wp9_step M (fun M' => Q r C' M')) := by
  obtain ⟨j, f, p, op, n, B, m, s, A⟩ := h.at
  have eop := A.op
  have hq := A.facts.2.2.2.2.2.2.2.1
  have hk : known op := by
    have := A.2.2.2.2.2.2.2.2.1.2.2.1
    rw [eop] at this; exact this
  by_cases o0 : op = 0
  · exact st_trap A o0 kk
  by_cases o1 : op = 1
  · exact st_nothing A o1 kk
  by_cases o3 : op = 2 ∨ op = 3
  · exact st_block A o3 kk
  by_cases o4 : op = 4
  · exact st_if A o4 kk
  by_cases o5 : op = 5
  · exact st_else A o5 kk
  by_cases o6 : op = 6
  · by_cases z : qn s = 1
    · exact st_end0 A o6 z kk
    · exact st_end A o6 (by omega) kk
  by_cases o7 : op = 7
  · exact st_jump A o7 kk
  by_cases o8 : op = 8
  · exact st_jumpif A o8 kk
  by_cases o9 : op = 9
  · exact st_oneof A o9 kk
  by_cases o10 : op = 10
  · exact st_leave A o10 kk
  by_cases o11 : op = 11
  · exact st_call A o11 kk
  by_cases o12 : op = 12
  · exact st_callp A hT o12 kk
  by_cases o13 : op = 13
  · exact st_drop A o13 kk
  by_cases o14 : op = 14
  · exact st_select A o14 kk
  by_cases o15 : op = 15
  · exact st_get A o15 kk
  by_cases o16 : op = 16
  · exact st_set A o16 kk
  by_cases o17 : op = 17
  · exact st_keep A o17 kk
  by_cases o18 : op = 18
  · exact st_gget A o18 kk
  by_cases o19 : op = 19
  · exact st_gset A o19 kk
  by_cases o22 : op ≤ 22
  · exact st_consts A (by omega) o22 kk
  by_cases o25 : op ≤ 25
  · exact st_loads A (by omega) o25 kk
  by_cases o28 : op ≤ 28
  · exact st_stores A (by omega) o28 kk
  by_cases o44 : op ≤ 44
  · exact st_ints A (by omega) o44 kk
  by_cases o63 : 50 ≤ op ∧ op ≤ 63
  · exact st_longs A o63.1 o63.2 kk
  by_cases o75 : 70 ≤ op ∧ op ≤ 75
  · exact st_reals A o75.1 o75.2 kk
  exact st_ones A (by omega) kk
/-- what a change elsewhere leaves as it is -/
def uC (k : Nat) : Prop := (1002 ≤ k ∧ k ≤ 1006) ∨ (1100 ≤ k ∧ k ≤ 1102) ∨ k = 1400 ∨ k = 1401 ∨ (1404 ≤ k ∧ k ≤ 1407) ∨ k = 1606 ∨ k = 1607 ∨ k = 1700
def uM (k : Nat) : Prop := (1900 ≤ k ∧ k ≤ 1905) ∨ (1907 ≤ k ∧ k ≤ 1909) ∨ (1922 ≤ k ∧ k ≤ 1931) ∨ (1936 ≤ k ∧ k ≤ 1938)
theorem XX.ag {P : Prog} {c : Ct} {C M C' M' : St} {pc pm : Nat → Prop} (h : XX P c C M) (hC : Ag pc C C') (hM : Ag pm M M') (nc : ∀ k, uC k → ¬ pc k) (nm : ∀ k, uM k → ¬ pm k) (e14 : gI M' 1914 0 = gI M 1914 0) (e20 : gI M' 1920 0 = gI M 1920 0) (fr : ∀ i, i < 60 → gA M' 1915 0 i = gA M 1915 0 i ∧ gA M' 1916 0 i = gA M 1916 0 i ∧ gA M' 1917 0 i = gA M 1917 0 i) (hN : XN P C') : XX P c C' M' := by
  obtain ⟨hw, hPC, hPM, w, hXC, hXM, hv, hg, -⟩ := h
  have n2 : ∀ k, (1002 ≤ k ∧ k ≤ 1006) ∨ (1100 ≤ k ∧ k ≤ 1102) ∨ k = 1607 ∨ k = 1700 → ¬ pc k := fun k z => nc k (by unfold uC; omega)
  have m2 : ∀ k, (1907 ≤ k ∧ k ≤ 1909) ∨ (1922 ≤ k ∧ k ≤ 1931) → ¬ pm k := fun k z => nm k (by unfold uM; omega)
  refine ⟨hw, hPC.ag hC (fun k z => nc k (by unfold uC; omega)), hPM.ag hM (fun k z1 z2 => nm k (by unfold uM; omega)), w, ⟨?_, fun j hj => ?_⟩, ⟨?_, ?_, ?_, ?_, fun j hj => ?_⟩, fun j hj => ?_, hg.of (fun i => hC.gJ (n2 _ (by decide)) _ _) (fun i => hC.gD (n2 _ (by decide)) _ _) (fun i => hC.gA (n2 _ (by decide)) _ _) (fun i => hM.gJ (m2 _ (by decide)) _ _) (hM.gF (m2 _ (by decide)) _) (fun i => hM.gA (m2 _ (by decide)) _ _), hN⟩
  · rw [hC.gI (n2 _ (by decide))]; exact hXC.1
  · rw [hC.gR (n2 _ (by decide)), hC.gI (k := 1005) (n2 _ (by decide)), hC.gI (k := 1006) (n2 _ (by decide)), hC.gI (k := 1102) (n2 _ (by decide))]
    obtain ⟨a1, a2, a3, a4, a5⟩ := hXC.2 j hj
    refine ⟨a1, a2, a3, a4, fun i x1 x2 => ?_⟩
    rw [hC.gA (k := 1002) (n2 _ (by decide)), hC.gA (k := 1003) (n2 _ (by decide))]
    exact a5 i x1 x2
  · rw [hM.gI (m2 _ (by decide))]; exact hXM.1
  · rw [hM.gI (m2 _ (by decide))]; exact hXM.2.1
  · rw [e20]; exact hXM.2.2.1
  · rw [e14]; exact hXM.2.2.2.1
  · rw [hM.gA (k := 1927) (m2 _ (by decide)), hM.gA (k := 1929) (m2 _ (by decide)), hM.gA (k := 1928) (m2 _ (by decide))]
    obtain ⟨a1, a2, a3, a4⟩ := hXM.2.2.2.2 j hj
    refine ⟨a1, a2, a3, fun i hi => ?_⟩
    have hF := xF_le w j (by omega)
    have hq := xq_le w hj
    have hd6 := w.2.1
    obtain ⟨r1, r2, r3⟩ := fr (xF c j + i) (by omega)
    rw [r1, r2, r3, hM.gA (k := 1924) (m2 _ (by decide))]
    exact a4 i hi
  · obtain ⟨a1, a2⟩ := hv j hj
    refine ⟨fun i hi => ?_, fun v hv2 => ?_⟩
    · rw [hC.gJ (n2 _ (by decide)), hC.gD (n2 _ (by decide)), hM.gJ (m2 _ (by decide)), hM.gD (m2 _ (by decide))]
      exact a1 i hi
    · rw [hC.gJ (n2 _ (by decide)), hC.gD (n2 _ (by decide)), hM.gJ (m2 _ (by decide)), hM.gD (m2 _ (by decide))]
      exact a2 v hv2
/-- the two objects alike, but for the outer numbers -/
def Kc (P : Prog) (ph ck : Nat) (C M : St) : Prop := PW P ∧ PC P C ∧ PM P M ∧ TbR C M ∧ XG C M ∧ Sp C ∧ (ph = 1 → ∃ c, XX P c C M) ∧ (ph = 2 → Alike C M) ∧ (ck = 1 → XN P C)
def Ko (ph ck a : Nat) (C M : St) : Prop := ph ≤ 3 ∧ ck ≤ 1 ∧ a ≤ 3 ∧ gI C 1807 0 = nI ph ∧ gI M 1932 0 = nI ph ∧ gI C 1808 0 = gI M 1933 0 ∧ gI C 1809 0 = gI M 1935 0 ∧ gI C 1805 0 = nI a ∧ gI M 1911 0 = nI a ∧ (∀ i, i < a → gA C 1802 0 i = gA M 1910 0 i) ∧ gI C 1806 0 = nI ck ∧ gI M 1912 0 = nI ck ∧ (ph = 1 → ck = 1)
def KK (C M : St) : Prop := ∃ P ph ck a, Kc P ph ck C M ∧ Ko ph ck a C M
theorem Kc.ag {P : Prog} {ph ck ph' ck' : Nat} {C M C' M' : St} {pc pm : Nat → Prop} (h : Kc P ph ck C M) (hC : Ag pc C C') (hM : Ag pm M M') (nc : ∀ k, uC k ∨ k = 1402 ∨ k = 1403 ∨ k = 1801 ∨ k = 1204 ∨ k = 1302 → ¬ pc k) (nm : ∀ k, uM k ∨ k = 1906 ∨ (1914 ≤ k ∧ k ≤ 1917) ∨ k = 1920 → ¬ pm k) (e1 : ph' = 1 → ph = 1) (e2 : ph' = 2 → ph = 2) (e3 : ck' = 1 → ck = 1) : Kc P ph' ck' C' M' := by
  obtain ⟨hw, hPC, hPM, hT, hg, hS, hX, hA, hN⟩ := h
  have hN2 : ∀ {P : Prog}, XN P C → XN P C' := by
    intro P hN f hf hL
    obtain ⟨b1, N, b2⟩ := hN f hf hL
    refine ⟨b1, N, fun i hi => ?_⟩
    rw [hC.gA (k := 1402) (nc _ (by omega)), hC.gA (k := 1403) (nc _ (by omega))]
    exact b2 i hi
  have nU : ∀ k, uC k → ¬ pc k := fun k z => nc k (Or.inl z)
  have mU : ∀ k, uM k → ¬ pm k := fun k z => nm k (Or.inl z)
  refine ⟨hw, hPC.ag hC (fun k z => nU k (by unfold uC; omega)), hPM.ag hM (fun k z1 z2 => mU k (by unfold uM; omega)), fun i hi => ?_, hg.of (fun i => hC.gJ (nU _ (by unfold uC; omega)) _ _) (fun i => hC.gD (nU _ (by unfold uC; omega)) _ _) (fun i => hC.gA (nU _ (by unfold uC; omega)) _ _) (fun i => hM.gJ (mU _ (by unfold uM; omega)) _ _) (hM.gF (mU _ (by unfold uM; omega)) _) (fun i => hM.gA (mU _ (by unfold uM; omega)) _ _), ⟨?_, fun i hi => ?_⟩, fun z => ?_, fun z => ?_, fun z => hN2 (hN (e3 z))⟩
  · rw [hC.gA (nc 1801 (by omega)), hM.gA (nm 1906 (by omega))]
    exact hT i hi
  · rw [hC.gR (nc 1204 (by omega))]; exact hS.1
  · rw [hC.gI (nc 1302 (by omega))]; exact hS.2 i hi
  · obtain ⟨c, hc⟩ := hX (e1 z)
    exact ⟨c, hc.ag hC hM nU mU (hM.gI (nm 1914 (by omega)) 0) (hM.gI (nm 1920 (by omega)) 0) (fun i _ => ⟨hM.gA (nm 1915 (by omega)) 0 i, hM.gA (nm 1916 (by omega)) 0 i, hM.gA (nm 1917 (by omega)) 0 i⟩) (hN2 hc.2.2.2.2.2.2.2.2)⟩
  · obtain ⟨k, k3, a1, a2, a3⟩ := hA (e2 z)
    refine ⟨k, k3, ?_, ?_, fun y => ?_⟩
    · rw [hC.gI (nU _ (by unfold uC; omega))]; exact a1
    · rw [hM.gI (mU _ (by unfold uM; omega))]; exact a2
    · rw [hC.gJ (nU _ (by unfold uC; omega)), hC.gD (nU _ (by unfold uC; omega)), hM.gL (mU _ (by unfold uM; omega)), hM.gF (mU _ (by unfold uM; omega))]
      exact a3 y
/-- thrown is nobody's -/
theorem KK.th {C M : St} (h : KK C M) (v : Int32) : KK C (sI M 1939 0 v) := by
  obtain ⟨P, ph, ck, a, hc, ho⟩ := h
  refine ⟨P, ph, ck, a, hc.ag (Ag.rf (p := fun _ => False)) (Ag.rf.sI (p := fun k => k = 1939) rfl) (fun _ _ z => z) (fun k z y => ?_) id id id, ?_⟩
  · unfold uM at z; omega
  · obtain ⟨o1, o2, o3, o4, o5, o6, o7, o8, o9, o10, o11, o12, o13⟩ := ho
    refine ⟨o1, o2, o3, o4, ?_, ?_, ?_, o8, ?_, o10, o11, ?_, o13⟩
    · simp [gI_sI]; exact o5
    · simp [gI_sI]; exact o6
    · simp [gI_sI]; exact o7
    · simp [gI_sI]; exact o9
    · simp [gI_sI]; exact o12
