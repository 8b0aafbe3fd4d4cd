/-! PURE: steps: BLOCK, LOOP, IF -/
def begC (C : St) (j q b h : Nat) : St := sI (sA (sA C 1002 j q (nI b)) 1003 j q (nI h)) 1006 j (nI (q + 1))
def begM (M : St) (G op k H b : Nat) : St := sI (sA (sA (sA (sA M 1915 0 G (nI op)) 1916 0 G (nI k)) 1917 0 G (nI H)) 1924 0 G (nI b)) 1920 0 (nI (G + 1))
theorem c_begFrame {C : St} {j q h b : Nat} {Q : St → Prop} (h6 : gI C 1006 j = nI q) (hq : q < 8) (hh : gI C 1102 (2 * j) = nI h) (kk : Q (begC C j q b h)) : wp0_beginFrame C j (nI b) Q := by
  unfold wp0_beginFrame
  rw [h6]
  refine ⟨fun z => absurd z (nI_pos (by omega)), fun _ => ⟨fun z => absurd ((nI_leI (a := 8) (by omega) (by omega)).mp z) (by omega), fun _ => ⟨vp_in_nI hq (by omega), fun S1 e1 => ?_⟩⟩⟩
  rw [nI_clamp (by omega)] at e1
  subst e1
  unfold wp1_height
  rw [show gI (sA C 1002 j q (nI b)) 1006 j = nI q from h6, show gI (sA C 1002 j q (nI b)) 1102 (2 * j) = nI h from hh, nI_clamp (by omega)]
  refine ⟨vp_in_nI hq (by omega), fun S3 e3 S4 e4 => ?_⟩
  subst e3
  rw [show gI (sA (sA C 1002 j q (nI b)) 1003 j q (nI h)) 1006 j = nI q from h6, nI_1] at e4
  subst e4
  exact kk
theorem m_block73 {M : St} {f op k G H b : Nat} {x4 x6 : Int32} {Q : St → Prop} (h20 : gI M 1920 0 = nI G) (hG : G < 60) (h14 : gI M 1914 0 = nI H) (k0 : x4 = 0 → Q (sI (begM M G op k H b) 1931 0 (nI b))) (k1 : ¬ x4 = 0 → Q (sI (begM M G op k H b) 1931 0 (x6 + 1))) : wp9_block_73 (nI f) (nI op) (nI k) Q x4 (nI b) x6 M := by
  unfold wp9_block_73
  rw [h20, nI_clamp (by omega)]
  refine ⟨vp_in_nI hG (by omega), fun S1 e1 => ?_⟩
  subst e1
  rw [show gI (sA M 1915 0 G (nI op)) 1920 0 = nI G from h20, nI_clamp (by omega)]
  refine ⟨vp_in_nI hG (by omega), fun S2 e2 => ?_⟩
  subst e2
  rw [show gI (sA (sA M 1915 0 G (nI op)) 1916 0 G (nI k)) 1920 0 = nI G from h20, nI_clamp (by omega), show gI (sA (sA M 1915 0 G (nI op)) 1916 0 G (nI k)) 1914 0 = nI H from h14]
  refine ⟨vp_in_nI hG (by omega), fun S3 e3 => ?_⟩
  subst e3
  rw [show gI (sA (sA (sA M 1915 0 G (nI op)) 1916 0 G (nI k)) 1917 0 G (nI H)) 1920 0 = nI G from h20, nI_clamp (by omega)]
  refine ⟨vp_in_nI hG (by omega), fun S4 e4 S5 e5 => ?_⟩
  subst e4
  rw [show gI (sA (sA (sA (sA M 1915 0 G (nI op)) 1916 0 G (nI k)) 1917 0 G (nI H)) 1924 0 G (nI b)) 1920 0 = nI G from h20, nI_1] at e5
  subst e5
  exact ⟨fun z S6 e6 => by subst e6; exact k0 z, fun z S7 e7 => by subst e7; exact k1 z⟩
theorem At.begin {P : Prog} {c : Ct} {C M C0 M0 C' : St} {j f p op n B m m' n' F k h' : Nat} {s t : SB} (A : At P c C M j f p op n B m s) (eF : F = xF c j) (hq8 : qn s < 8) (hh : Here P f m' n' t) (hl : Live t) (eq : qn t = qn s + 1)
    (ef : ∀ i, i < qn s → fo (qF t i) = fo (qF s i) ∧ fk (qF t i) = fk (qF s i) ∧ fb (qF t i) = fb (qF s i) ∧ fg (qF t i) = fg (qF s i)) (et : fo (qF t (qn s)) = op ∧ fk (qF t (qn s)) = k ∧ fb (qF t (qn s)) = h' ∧ fg (qF t (qn s)) = p) (eh : qh t = h') (hle : h' ≤ qh s) (ek : ∀ i, i < h' → qK t i = qK s i)
    (b : CB j C n C0) (aC : Ag kXF C C0) (eh0 : gI C0 1102 (2 * j) = nI h') (bm : MB M M0) (aM : Ag kYF M M0) (em : gI M0 1914 0 = nI (B + h')) (i34 : gI M0 1934 0 = 0) (hC : (C' = begC C0 j (qn s) p h' ∧ n' = n) ∨ C' = sI (begC C0 j (qn s) p h') 1005 j (nI n')) : Res P C M 0 C' (sI (begM M0 (F + qn s) op k (B + h') (p + 2)) 1931 0 (nI n')) := by
  obtain ⟨F', eF', hF40, hq, f1, f2, f3, f4, g1, g2, g3, g4, g5, g6, -⟩ := A.frames
  have : F' = F := by rw [eF', eF]
  subst this
  obtain ⟨-, -, -, -, -, -, v1⟩ := A.f2
  have aC2 : Ag kXF C (begC C0 j (qn s) p h') := ((aC.sA (by unfold kXF; omega)).sA (by unfold kXF; omega)).sI (by unfold kXF; omega)
  -- what the class's new state shows
  have c' : Ag kXF C C' ∧ (∀ i, gI C' 1005 i = if i = j then nI n' else gI C 1005 i) ∧ (∀ o, gI C' 1102 o = if o = 2 * j then nI h' else gI C 1102 o) ∧ (∀ i, gI C' 1006 i = if i = j then nI (qn s + 1) else gI C 1006 i) ∧ (∀ a i, gA C' 1002 a i = if a = j ∧ i = qn s then nI p else gA C 1002 a i) ∧ (∀ a i, gA C' 1003 a i = if a = j ∧ i = qn s then nI h' else gA C 1003 a i) ∧ (∀ o i, gJ C' 1100 o i = gJ C 1100 o i) ∧ (∀ o i, gD C' 1101 o i = gD C 1101 o i) := by
    have x2 : ∀ a i, gA C0 1002 a i = gA C 1002 a i := fun a i => b.1.gA (by unfold kX; omega) a i
    have x3 : ∀ a i, gA C0 1003 a i = gA C 1003 a i := fun a i => b.1.gA (by unfold kX; omega) a i
    have x6 : ∀ i, gI C0 1006 i = gI C 1006 i := fun i => b.1.gI (by unfold kX; omega) i
    have x5 : ∀ i, gI C0 1005 i = if i = j then nI n else gI C 1005 i := by
      intro i
      by_cases z : i = j
      · rw [if_pos z, z]; exact b.2.1
      · rw [if_neg z]; exact b.2.2.1 i z
    have x1 : ∀ o, gI C0 1102 o = if o = 2 * j then nI h' else gI C 1102 o := by
      intro i
      by_cases z : i = 2 * j
      · rw [if_pos z, z]; exact eh0
      · rw [if_neg z]; exact b.2.2.2.1 i z
    rcases hC with ⟨e, en⟩ | e
    · subst e; subst en
      unfold begC
      refine ⟨aC2, fun i => ?_, fun i => ?_, fun i => ?_, fun a i => ?_, fun a i => ?_, b.2.2.2.2.1, b.2.2.2.2.2⟩
      · simp [gI_sI, gI_sA, x5]
      · simp [gI_sI, gI_sA, x1]
      · simp [gI_sI, gI_sA, x6]
      · simp [gA_sI, gA_sA, x2]
      · simp [gA_sI, gA_sA, x3]
    · subst e
      unfold begC
      refine ⟨aC2.sI (by unfold kXF; omega), fun i => ?_, fun i => ?_, fun i => ?_, fun a i => ?_, fun a i => ?_, b.2.2.2.2.1, b.2.2.2.2.2⟩
      · simp [gI_sI, gI_sA, x5]
        split <;> rfl
      · simp [gI_sI, gI_sA, x1]
      · simp [gI_sI, gI_sA, x6]
      · simp [gA_sI, gA_sA, x2]
      · simp [gA_sI, gA_sA, x3]
  obtain ⟨cA, c5, c2, c6, d2, d3, cJ, cD⟩ := c'
  have y5 : ∀ i, gA M0 1915 0 i = gA M 1915 0 i := fun i => bm.1.gA (by unfold kY; omega) 0 i
  have y6 : ∀ i, gA M0 1916 0 i = gA M 1916 0 i := fun i => bm.1.gA (by unfold kY; omega) 0 i
  have y7 : ∀ i, gA M0 1917 0 i = gA M 1917 0 i := fun i => bm.1.gA (by unfold kY; omega) 0 i
  have y24 : ∀ i, gA M0 1924 0 i = gA M 1924 0 i := fun i => bm.1.gA (by unfold kY; omega) 0 i
  unfold begM
  refine A.fr eF hh hl (by omega) cA (((((((aM.sA (by unfold kYF; omega)).sA (by unfold kYF; omega)).sA (by unfold kYF; omega)).sA (by unfold kYF; omega)).sI (by unfold kYF; omega)).sI (by unfold kYF; omega))) ?_ ?_ c5 (fun o => by rw [eh]; exact c2 o) (fun i => by rw [eq]; exact c6 i) (fun i h1 h2 => ?_) (fun j' hj' i => ⟨?_, ?_⟩) ?_ ?_ ?_ (fun i hi => ?_) (fun i hi => ?_) (fun o _ i => ⟨cJ o i, cD o i⟩) (fun i _ => ⟨bm.2.2.1 i, bm.2.2.2.1 i⟩) (fun i hi => ?_)
  · simp [gI_sI, gI_sA]; exact bm.2.1
  · simp [gI_sI, gI_sA]; exact i34
  · rw [d2, d3]
    by_cases z : i = qn s
    · subst z
      rw [if_pos ⟨rfl, rfl⟩, if_pos ⟨rfl, rfl⟩, et.2.2.2, et.2.2.1]
      exact ⟨rfl, rfl⟩
    · rw [if_neg (fun y => z y.2), if_neg (fun y => z y.2), (ef i (by omega)).2.2.2, (ef i (by omega)).2.2.1]
      exact f4 i h1 (by omega)
  · rw [d2, if_neg (by omega)]
  · rw [d3, if_neg (by omega)]
  · simp [gI_sI]
  · rw [eh]; simp [gI_sI, gI_sA]; exact em
  · rw [eq]; simp [gI_sI]; rw [Nat.add_assoc]
  · simp only [gA_sI, gA_sA, true_and]
    by_cases z : i = qn s
    · subst z
      simp [et.1, et.2.1, et.2.2.1, et.2.2.2]
    · have ne : ¬ F' + i = F' + qn s := by omega
      simp only [if_neg ne, if_neg (show ¬ (1916 : Nat) = 1915 by decide), false_and, and_false, if_false]
      simp (decide := true) only [ne, false_and, and_false, if_false, y5, y6, y7, y24]
      rw [(ef i (by omega)).1, (ef i (by omega)).2.1, (ef i (by omega)).2.2.1, (ef i (by omega)).2.2.2]
      exact g6 i (by omega)
  · have ne : ¬ i = F' + qn s := by omega
    simp (decide := true) only [gA_sI, gA_sA, ne, false_and, and_false, if_false, y5, y6, y7, y24, and_self]
  · rw [eh] at hi
    rw [cJ, cD, ek i hi]
    show VR _ _ _ (gJ M0 1922 0 _) (gD M0 1923 0 _)
    rw [bm.2.2.1, bm.2.2.2.1]
    exact v1 i (by omega)
