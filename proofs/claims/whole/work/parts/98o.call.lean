/-! PURE: steps: CALL, CALL_PLACE -/
def TbR (C M : St) : Prop := ∀ i, i < 8 → gA C 1801 0 i = gA M 1906 0 i ∧ (gA C 1801 0 i = -1 ∨ ∃ g, g < 6 ∧ gA C 1801 0 i = nI g)
theorem c_isF {S : St} {a : Nat} {Q : Int32 → St → Prop} (ha : a < 6) (kk : Q 1 S) : wp8_isFunction S (nI a) Q :=
  ⟨fun z => absurd z (nI_pos (by omega)), fun _ => ⟨fun z => absurd ((nI_leI (a := 6) (by omega) (by omega)).mp z) (by omega), fun _ => kk⟩⟩
theorem c_isFm {S : St} {Q : Int32 → St → Prop} (kk : Q 0 S) : wp8_isFunction S (-1) Q :=
  ⟨fun _ => kk, fun z => absurd (by decide) z⟩
theorem disp_call {j p op b : Nat} {Q : Int32 → St → Prop} {C : St} (ho : 11 ≤ op) (ho2 : op ≤ 12) (kk : wp6_stepCalls C j (nI op) (nI b) (fun r6 S7 => Q r6 S7)) : disp6 j p op b Q C :=
  ⟨fun _ => ⟨fun _ => ⟨fun z => absurd ((nI_ltI (a := 12) (by omega) (by omega)).mp z) (by omega), fun _ => kk⟩, fun z => absurd ((nI_ltI (a := 10) (by omega) (by omega)).mpr (by omega)) z⟩, fun z => absurd ((nI_ltI (a := 6) (by omega) (by omega)).mpr (by omega)) z⟩
theorem ck_call {P : Prog} {f p op : Nat} {s : SB} (e : pC P f p = op) (ho : 11 ≤ op) (ho2 : op ≤ 12) : ckOne P f p s = ckCall P (pC P f (p + 1)) op s := by
  unfold ckOne
  rw [e, if_neg (by omega), if_neg (by omega), if_neg (by omega), if_neg (by omega), if_neg (by omega), if_pos (by omega)]
theorem L_call1 {P : Prog} {g op : Nat} {s : SB} (l : Live s) (hq : 1 ≤ qn s) (hf : fb (sTop s) ≤ qh s) (hb : qb (ckCall1 P g op s) = 0) : g ≤ 5 ∧ (op = 11 → ¬ pL P g = 0) ∧ fb (sTop s) + pN P g ≤ qh s ∧ (∀ i, i < pN P g → qK s (qh s - pN P g + i) = pK P g i) ∧ ckCall1 P g op s = ptIf (pR P g) (qh s - pN P g, qK s, qn s, qF s, qb s) := by
  unfold ckCall1 at hb ⊢
  by_cases z : 5 < g
  · rw [if_pos z] at hb; exact absurd hb e_bad
  · rw [if_neg z] at hb ⊢
    by_cases y : op = 11 ∧ pL P g = 0
    · rw [if_pos y] at hb; exact absurd hb e_bad
    · rw [if_neg y] at hb ⊢
      obtain ⟨a1, a2, a3⟩ := L_tks (pN P g) s l hq (b_ptIf hb) hf
      rw [a3]
      exact ⟨by omega, fun w v => y ⟨w, v⟩, a1, a2, rfl⟩
theorem st_call {P : Prog} {c : Ct} {C M : St} {j f p op n B m : Nat} {s : SB} {Q : Int32 → St → St → Prop} (A : At P c C M j f p op n B m s) (ho : op = 11) (kk : ∀ r C' M', Res P C M r C' M' → Q r C' M') : wp6_step C (fun r C' => wp9_step M (fun M' => Q r C' M')) := by
  obtain ⟨j5, hf, hop, h16, hcell, B80, l, hq, hb, hpl, hnl, hl60⟩ := A.facts
  obtain ⟨bC, bM, hg, i34, c2, m14, v1⟩ := A.f2
  obtain ⟨F, eF, hF40, hq8, f1, f2, f3, f4, g1, g2, g3, g4, g5, g6, hw, hPC, hPM, hN, hck, hhere, -⟩ := A.frames
  obtain ⟨hn, hp1, ebt, hb256⟩ := whole2 A (by omega)
  have e := ck_call (s := s) A.op (by omega) (by omega)
  have e11 : ckOne P f p s = ckCall1 P (pC P f (p + 1)) op s := by rw [e]; unfold ckCall; rw [if_neg (by omega)]
  rw [e11] at hb
  obtain ⟨k1, k2, k3, k4, k5⟩ := L_call1 l hq (base_le hhere hq) hb
  rw [k5] at e11
  have k2 := k2 ho
  have mv := fun (R : St → Prop) => A.mv (Q := R) (by omega) (by omega)
  refine A.cl (disp_call (by omega) (by omega) ?_)
  rw [ebt]
  have md := A.md0
  have en := fun (b : Int32) mst => A.enter (Q := Q) (b := b) eF hn md bC bM (by simp [gI_sI]; exact f3) (by simp [mB, gI_sI]; exact g3) (by simp [mB, gI_sI]; exact g2) (show pC P f (p + 1) < 6 by omega) (by omega) (Nat.le_refl _) k3 k4 e11 mst kk
  unfold wp6_stepCalls
  refine c_isF (by omega) ⟨fun _ => ⟨fun z => absurd (by rw [ho]; rfl) z, fun _ => ⟨vp_in_nI (by omega) (by omega), ?_⟩⟩, fun z => absurd z (by decide)⟩
  rw [nI_clamp (by omega)]
  refine en (nI (pC P f (p + 1))) fun R hl => mv R fun b hb => ?_
  rw [hb hp1]
  subst ho
  simp (decide := true) only [wp9_moves, wp9_call, true_implies, false_implies, true_and, and_true, not_true, not_false_iff]
  exact hl
theorem st_callp {P : Prog} {c : Ct} {C M : St} {j f p op n B m : Nat} {s : SB} {Q : Int32 → St → St → Prop} (A : At P c C M j f p op n B m s) (hT : TbR C M) (ho : op = 12) (kk : ∀ r C' M', Res P C M r C' M' → Q r C' M') : wp6_step C (fun r C' => wp9_step M (fun M' => Q r C' M')) := by
  obtain ⟨j5, hf, hop, h16, hcell, B80, l, hq, hb, hpl, hnl, hl60⟩ := A.facts
  obtain ⟨bC, bM, hg, i34, c2, m14, v1⟩ := A.f2
  obtain ⟨F, eF, hF40, hq8, f1, f2, f3, f4, g1, g2, g3, g4, g5, g6, hw, hPC, hPM, hN, hck, hhere, -⟩ := A.frames
  obtain ⟨hn, hp1, ebt, hb256⟩ := whole2 A (by omega)
  have e := ck_call (s := s) A.op (by omega) (by omega)
  have e12 : ckOne P f p s = ckCall1 P (pC P f (p + 1)) op (tk 1 s) := by rw [e]; unfold ckCall; rw [if_pos ho]
  have b1 : qb (tk 1 s) = 0 := by
    rw [e12] at hb
    unfold ckCall1 at hb
    split at hb
    · exact absurd hb e_bad
    · split at hb
      · exact absurd hb e_bad
      · exact b_tks _ _ (b_ptIf hb)
  obtain ⟨t1, t2, t3⟩ := L_tk l hq b1
  rw [e12, t3] at hb
  rw [t3] at e12
  obtain ⟨k1, -, k3, k4, k5⟩ := L_call1 (L_pop l) hq (by show fb (sTop s) ≤ qh s - 1; omega) hb
  have k3 : fb (sTop s) + pN P (pC P f (p + 1)) ≤ qh s - 1 := k3
  have k4 : ∀ i, i < pN P (pC P f (p + 1)) → qK s (qh s - 1 - pN P (pC P f (p + 1)) + i) = pK P (pC P f (p + 1)) i := k4
  rw [k5] at e12
  have e12 : ckOne P f p s = ptIf (pR P (pC P f (p + 1))) (qh s - 1 - pN P (pC P f (p + 1)), qK s, qn s, qF s, qb s) := e12
  have w1 := v1 (qh s - 1) (by omega)
  rw [t2] at w1
  obtain ⟨a1, a2⟩ := VR1 w1
  have eH1 : B + qh s - 1 = B + (qh s - 1) := by omega
  have mv := fun (R : St → Prop) => A.mv (Q := R) (by omega) (by omega)
  have md := A.md1
  have bC1 : CB j C n (tT1 (cC j n C) (2 * j) (qh s)) := bC.h _
  have bM1 := bM.s (k := 1914) (Or.inl rfl) (nI (B + (qh s - 1)))
  have hTc : ∀ i, i < 8 → gA (tT1 (cC j n C) (2 * j) (qh s)) 1801 0 i = gA (sI (mB M) 1914 0 (nI (B + (qh s - 1)))) 1906 0 i ∧ (gA (tT1 (cC j n C) (2 * j) (qh s)) 1801 0 i = -1 ∨ ∃ g, g < 6 ∧ gA (tT1 (cC j n C) (2 * j) (qh s)) 1801 0 i = nI g) := hT
  have hPC1 : PC P (tT1 (cC j n C) (2 * j) (qh s)) := hPC.ag ((aXF C j n).sI (k := 1102) (by unfold kXF; omega)) (fun k z y => by unfold kXF at y; omega)
  have hPM1 : PM P (sI (mB M) 1914 0 (nI (B + (qh s - 1)))) := hPM.ag ((aYF M).sI (k := 1914) (by unfold kYF; omega)) (fun k z1 z2 y => by unfold kYF at y; omega)
  have mv2 : ∀ R : St → Prop, wp9_in (sI (mB M) 1914 0 (nI (B + (qh s - 1)))) (gJ (mB M) 1922 0 (B + (qh s - 1))).toInt32 0 7 (fun r2 S2 => (r2 = 0 → wp9_call_36 (nI op) (nI (pC P f (p + 1))) (fun S => R S) (-1) S2) ∧ (¬ r2 = 0 → vp_in (gJ (mB M) 1922 0 (B + (qh s - 1))).toInt32 8 ∧ wp9_call_36 (nI op) (nI (pC P f (p + 1))) (fun S => R S) (gA S2 1906 0 (gJ (mB M) 1922 0 (B + (qh s - 1))).toInt32.toNatClampNeg) S2)) → wp9_step M R := by
    intro R hR
    refine mv R fun b hb2 => ?_
    rw [hb2 hp1]
    subst ho
    simp (decide := true) only [wp9_moves, wp9_call, true_implies, false_implies, true_and, and_true, not_true, not_false_iff]
    refine m_popInt m14 (by omega) (by omega) ?_
    rw [eH1]
    exact hR
  have tr : ∀ M2, M2 = sI (sI (mB M) 1914 0 (nI (B + (qh s - 1)))) 1934 0 4 → Q 4 (tT1 (cC j n C) (2 * j) (qh s)) M2 := by
    intro M2 e2
    subst e2
    refine kk _ _ _ (res_trap (t := 4) bC1 (bM1.s (Or.inr (Or.inr rfl)) 4) hg (by decide) (by decide) ?_)
    simp [gI_sI]; rfl
  generalize hr : (gJ (cC j n C) 1100 (2 * j) (qh s - 1)).toInt32 = r at *
  have hr2 : (gJ (mB M) 1922 0 (B + (qh s - 1))).toInt32 = r := by rw [← a1, hr]
  rw [hr2] at mv2
  -- outside the table
  have out : (r < 0 ∨ 8 ≤ r) → wp9_step M (fun M' => Q 4 (tT1 (cC j n C) (2 * j) (qh s)) M') := by
    intro z
    refine mv2 _ ?_
    have z36 : wp9_call_36 (nI op) (nI (pC P f (p + 1))) (fun S => Q 4 (tT1 (cC j n C) (2 * j) (qh s)) S) (-1) (sI (mB M) 1914 0 (nI (B + (qh s - 1)))) :=
      ⟨fun _ S1 e1 => tr _ e1, fun y => absurd (by decide) y⟩
    refine ⟨fun _ => ⟨fun _ => z36, fun y => absurd rfl y⟩, fun y => ⟨fun _ => ⟨fun _ => z36, fun y => absurd rfl y⟩, fun y2 => ?_⟩⟩
    exfalso
    rcases z with z | z
    · exact y z
    · rw [Int32.le_iff_toInt_le] at z
      rw [Int32.lt_iff_toInt_lt] at y2
      have x7 : (7 : Int32).toInt = 7 := rfl
      have x8 : (8 : Int32).toInt = 8 := rfl
      rw [x7] at y2
      rw [x8] at z
      omega
  refine A.cl (disp_call (by omega) (by omega) ?_)
  rw [ebt]
  unfold wp6_stepCalls
  refine c_isF (by omega) ⟨fun _ => ⟨fun _ => ?_, fun z => absurd (nE (b := 11) (by omega) (by omega) z) (by omega)⟩, fun z => absurd z (by decide)⟩
  refine r_takeInt c2 (by omega) (by omega) ?_
  rw [hr]
  refine ⟨fun z => out (Or.inl z), fun z => ⟨fun z2 => out (Or.inr z2), fun z2 => ?_⟩⟩
  have hin : vp_in r 8 := vp_in_cmp (by omega) z (Int32.not_le.mp z2)
  obtain ⟨x, hx, ex⟩ := vp_in_of hin (by omega)
  subst ex
  refine ⟨hin, ?_⟩
  rw [nI_clamp (by omega)] at *
  obtain ⟨tb1, tb2⟩ := hTc x hx
  have mv3 : ∀ R : St → Prop, wp9_call_36 (nI op) (nI (pC P f (p + 1))) (fun S => R S) (gA (tT1 (cC j n C) (2 * j) (qh s)) 1801 0 x) (sI (mB M) 1914 0 (nI (B + (qh s - 1)))) → wp9_step M R := by
    intro R hR
    refine mv2 R ⟨fun y => absurd y (nI_pos (by omega)), fun _ => ⟨fun y => absurd ((nI_ltI (a := 7) (by omega) (by omega)).mp y) (by omega), fun _ => ⟨fun y => absurd y (by decide), fun _ => ⟨hin, ?_⟩⟩⟩⟩
    rw [← tb1]
    exact hR
  show wp8_isFunction (tT1 (cC j n C) (2 * j) (qh s)) (gA (tT1 (cC j n C) (2 * j) (qh s)) 1801 0 x) _
  rcases tb2 with tm | ⟨a, ha, ta⟩
  · rw [tm] at mv3 ⊢
    refine c_isFm ⟨fun y => absurd rfl y, fun _ => mv3 _ ⟨fun _ S1 e1 => tr _ e1, fun y => absurd (by decide) y⟩⟩
  · rw [ta] at mv3 ⊢
    refine c_isF ha ⟨fun _ => ⟨hin, ?_⟩, fun y => absurd y (by decide)⟩
    rw [ta, nI_clamp (by omega)]
    refine ⟨vp_in_nI ha (by omega), ?_⟩
    unfold wp4_length
    rw [(hPC1 a ha).2.2.2.1]
    have len : gA (sI (mB M) 1914 0 (nI (B + (qh s - 1)))) 1905 0 a = nI (pL P a) := (hPM1 a ha).2.2.2.1
    have la := (hw a ha).2.2.2.2.1
    refine ⟨fun y => ?_, fun y => ⟨vp_in_nI (by omega) (by omega), ?_⟩⟩
    · refine mv3 _ ⟨fun w => absurd w (nI_pos (by omega)), fun _ => ⟨vp_in_nI ha (by omega), fun _ S2 e2 => tr _ e2, fun w => absurd ?_ w⟩⟩
      rw [nI_clamp (by omega), len]; exact y
    · have yL : ¬ pL P a = 0 := nN (b := 0) y
      rw [nI_clamp (by omega)]
      have m36 : ∀ R : St → Prop, (Alk P a (pC P f (p + 1)) → wp9_call_65 (nI op) (nI (pC P f (p + 1))) (fun S => R S) (nI a) (sI (mB M) 1914 0 (nI (B + (qh s - 1))))) → (¬ Alk P a (pC P f (p + 1)) → ∀ S4, S4 = sI (sI (mB M) 1914 0 (nI (B + (qh s - 1)))) 1934 0 4 → R S4) → wp9_step M R := by
        intro R h1 h2
        refine mv3 R ⟨fun w => absurd w (nI_pos (by omega)), fun _ => ⟨vp_in_nI ha (by omega), fun w => absurd ?_ y, fun _ => ?_⟩⟩
        · rw [nI_clamp (by omega), len] at w; exact w
        · exact m_agree hPM1 hw ha (by omega) (fun w => ⟨fun _ => h1 w, fun v => absurd v (by decide)⟩) (fun w => ⟨fun v => absurd rfl v, fun _ => h2 w⟩)
      refine c_alike hPC1 hw ha (by omega) (fun w => ⟨fun _ => ?_, fun v => absurd v (by decide)⟩) (fun w => ⟨fun v => absurd rfl v, fun _ => m36 _ (fun v => absurd v w) (fun _ S4 e4 => tr _ e4)⟩)
      obtain ⟨q1, q2, q3⟩ := w
      exact A.enter (b := nI (pC P f (p + 1))) eF hn md bC1 bM1 (by simp [tT1, gI_sI]; exact f3) (by simp [mB, gI_sI]; exact g3) (by simp [mB, gI_sI]; exact g2) ha (by omega) (by omega) (by rw [q1]; exact k3) (fun i hi => by rw [q3 i hi, q1]; exact k4 i (by omega)) (by rw [e12, q1, q2]) (fun R hl => m36 R (fun _ => hl) (fun v => absurd ⟨q1, q2, q3⟩ v)) kk
