/-! PURE: steps: JUMP_ONE_OF -/
theorem lbls_ok (c : Nat → Nat) (k : Nat) : ∀ (m i : Nat) (s : SB), qb (lbls c k m i s) = 0 → lbls c k m i s = s ∧ ∀ x, i ≤ x → x < i + m → c x < qn s ∧ (if fo (qF s (qn s - 1 - c x)) = 3 then 0 else fk (qF s (qn s - 1 - c x))) = k := by
  intro m
  induction m with
  | zero => intro i s _; exact ⟨rfl, fun x h1 h2 => absurd h2 (by omega)⟩
  | succ m ih =>
    intro i s h
    have h0 := b_lbls c k m (i + 1) _ h
    by_cases z : (lbl (c i) s).1 = k
    · rw [if_pos z] at h0
      obtain ⟨hd, el⟩ := L_lbl h0
      have e : lbls c k (m + 1) i s = lbls c k m (i + 1) s := by
        show lbls c k m (i + 1) (if (lbl (c i) s).1 = k then (lbl (c i) s).2 else sBad (lbl (c i) s).2) = _
        rw [if_pos z, el]
      rw [e] at h ⊢
      obtain ⟨e1, e2⟩ := ih (i + 1) s h
      refine ⟨e1, fun x h1 h2 => ?_⟩
      by_cases y : x = i
      · subst y
        refine ⟨hd, ?_⟩
        rw [el] at z; exact z
      · exact e2 x (by omega) (by omega)
    · rw [if_neg z] at h0
      exact absurd h0 e_bad
def ix (r : Int32) (N : Nat) : Nat := if 0 ≤ r.toInt ∧ r.toInt < N then r.toInt.toNat else N
theorem ix_le (r : Int32) (N : Nat) : ix r N ≤ N := by unfold ix; split <;> omega
theorem ix_in {r : Int32} {N : Nat} (h : 0 ≤ r.toInt ∧ r.toInt < N) (hN : N < 2 ^ 31) : r = nI (ix r N) := by
  unfold ix
  rw [if_pos h]
  apply Int32.toInt_inj.mp
  rw [nI_toInt (by omega)]
  omega
theorem c_chosen {P : Prog} {C : St} {j f p N h : Nat} {Q : Int32 → St → Prop} (hw : PW P) (hPC : PC P C) (h04 : gR C 1004 j = f) (hf : f < 6) (hN : N ≤ 3) (hp : p + 3 + N ≤ pL P f) (hh : gI C 1102 (2 * j) = nI h) (h1 : 1 ≤ h) (hc : h ≤ cellsN (2 * j)) (kk : Q (nI (pC P f (p + 2 + ix (gJ C 1100 (2 * j) (h - 1)).toInt32 N))) (tT1 C (2 * j) h)) : wp6_chosenJump C j (nI p) (nI N) Q := by
  have hl := (hw f hf).2.2.2.2.1
  have k26 : ∀ i, i ≤ N → Q (nI (pC P f (p + 2 + i))) (tT1 C (2 * j) h) → wp6_chosenJump_26 j (nI p) (nI N) Q (nI i) (tT1 C (2 * j) h) := by
    intro i hi k
    unfold wp6_chosenJump_26
    rw [show gR (tT1 C (2 * j) h) 1004 j = f from h04, l2, nI_add, nI_add]
    refine ⟨hf, c_byteAt (C := tT1 C (2 * j) h) (hPC.ag ((Ag.rf (p := fun k => k = 1102)).sI rfl) (fun k z y => by omega)) hw hf (by omega) ?_⟩
    rw [show bt P f (p + 2 + i) = pC P f (p + 2 + i) from if_pos (by omega)]
    exact k
  have z0 : (0 : Int32).toInt = 0 := rfl
  refine r_takeInt hh h1 hc ⟨fun z => ?_, fun z => ⟨fun z2 => ?_, fun z2 => ?_⟩⟩
  · refine k26 N (Nat.le_refl _) ?_
    have e : ix (gJ C 1100 (2 * j) (h - 1)).toInt32 N = N := by
      unfold ix
      rw [Int32.lt_iff_toInt_lt, z0] at z
      rw [if_neg (by omega)]
    rw [e] at kk; exact kk
  · refine k26 N (Nat.le_refl _) ?_
    have e : ix (gJ C 1100 (2 * j) (h - 1)).toInt32 N = N := by
      unfold ix
      rw [Int32.le_iff_toInt_le, nI_toInt (by omega)] at z2
      rw [if_neg (by omega)]
    rw [e] at kk; exact kk
  · have hin : 0 ≤ (gJ C 1100 (2 * j) (h - 1)).toInt32.toInt ∧ (gJ C 1100 (2 * j) (h - 1)).toInt32.toInt < N := by
      rw [Int32.lt_iff_toInt_lt, z0] at z
      rw [Int32.le_iff_toInt_le, nI_toInt (by omega)] at z2
      omega
    have e := ix_in hin (by omega)
    have k := k26 (ix (gJ C 1100 (2 * j) (h - 1)).toInt32 N) (ix_le _ _) kk
    rw [← e] at k; exact k
theorem m_chosen {P : Prog} {M : St} {f p N : Nat} {r : Int32} {Q : St → Prop} (hw : PW P) (hPM : PM P M) (hf : f < 6) (hN : N ≤ 3) (hp : p + 3 + N ≤ pL P f) (kk : wp9_jump M (nI (pC P f (p + 2 + ix r N))) (fun S2 => Q S2)) : wp9_in M r 0 (nI N - 1) (fun r2 S3 => (r2 = 0 → wp9_moves_207 (nI f) (nI 9) (nI N) Q (nI f) (nI p + 2) (nI N) S3) ∧ (¬ r2 = 0 → wp9_moves_207 (nI f) (nI 9) (nI N) Q (nI f) (nI p + 2) r S3)) := by
  have hl := (hw f hf).2.2.2.2.1
  have k207 : ∀ i, i ≤ N → wp9_jump M (nI (pC P f (p + 2 + i))) (fun S2 => Q S2) → wp9_moves_207 (nI f) (nI 9) (nI N) Q (nI f) (nI p + 2) (nI i) M := by
    intro i hi k
    unfold wp9_moves_207
    rw [l2, nI_add, nI_add]
    exact m_byteAt hPM hw hf (by omega) k
  have z0 : (0 : Int32).toInt = 0 := rfl
  have zN : (nI N - 1).toInt = (N : Int) - 1 := by
    rw [Int32.toInt_sub, nI_toInt (by omega)]
    have : (1 : Int32).toInt = 1 := rfl
    rw [this]
    exact Int.bmod_eq_of_le (by omega) (by omega)
  refine ⟨fun z => ?_, fun z => ⟨fun z2 => ?_, fun z2 => ?_⟩⟩
  · refine ⟨fun _ => k207 N (Nat.le_refl _) ?_, fun w => absurd rfl w⟩
    have e : ix r N = N := by
      unfold ix
      rw [Int32.lt_iff_toInt_lt, z0] at z
      rw [if_neg (by omega)]
    rw [e] at kk; exact kk
  · refine ⟨fun _ => k207 N (Nat.le_refl _) ?_, fun w => absurd rfl w⟩
    have e : ix r N = N := by
      unfold ix
      rw [Int32.lt_iff_toInt_lt, zN] at z2
      rw [if_neg (by omega)]
    rw [e] at kk; exact kk
  · refine ⟨fun w => absurd w (by decide), fun _ => ?_⟩
    have hin : 0 ≤ r.toInt ∧ r.toInt < N := by
      rw [Int32.lt_iff_toInt_lt, z0] at z
      rw [Int32.lt_iff_toInt_lt, zN] at z2
      omega
    have e := ix_in hin (by omega)
    have k := k207 (ix r N) (ix_le _ _) kk
    rw [← e] at k; exact k
theorem st_oneof {P : Prog} {c : Ct} {C M : St} {j f p op n B m : Nat} {s : SB} {Q : Int32 → St → St → Prop} (A : At P c C M j f p op n B m s) (ho : op = 9) (kk : ∀ r C' M', Res P C M r C' M' → Q r C' M') : wp6_step C (fun r C' => wp9_step M (fun M' => Q r C' M')) := by
  obtain ⟨j5, hf, hop, h16, hcell, B80, l, hq, hb, hpl, hnl, hl60⟩ := A.facts
  obtain ⟨bC, bM, hg, i34, c2, m14, v1⟩ := A.f2
  obtain ⟨F, eF, hF40, hq8, f1, f2, f3, f4, g1, g2, g3, g4, g5, g6, hw, hPC, hPM, hN, hck, hhere, -⟩ := A.frames
  obtain ⟨hp1, hN3, hpn⟩ : p + 1 < pL P f ∧ pC P f (p + 1) ≤ 3 ∧ p + 3 + pC P f (p + 1) ≤ pL P f := by
    have eop := A.op
    have ok := hhere.1.1
    have h4 := ok.2.2.2.1
    have h5 := ok.2.2.2.2.1
    unfold szI at h5
    rw [if_pos (by omega)] at h5
    by_cases z : p + 1 < pL P f
    · rw [if_pos z] at h5
      refine ⟨z, ?_, by omega⟩
      have : ¬ 3 < pC P f (p + 1) := fun w => h4 ⟨by omega, z, w⟩
      omega
    · rw [if_neg z] at h5; omega
  have ebt : bt P f (p + 1) = pC P f (p + 1) := if_pos hp1
  have e := ck_jump (s := s) A.op (by omega) (by omega)
  have hb1 : qb (tkIf (lbl (pC P f (p + 2)) (tk 1 s)).1 (lbls (fun i => pC P f (p + 2 + i)) (lbl (pC P f (p + 2)) (tk 1 s)).1 (pC P f (p + 1) + 1) 0 (lbl (pC P f (p + 2)) (tk 1 s)).2)) = 0 := by
    rw [e] at hb
    unfold ckJump at hb
    rw [if_neg (by omega), if_pos ho] at hb
    exact b_dieIf hb
  have hb2 := b_tkIf _ _ hb1
  have hb3 := b_lbls _ _ _ _ _ hb2
  obtain ⟨-, el⟩ := L_lbl hb3
  rw [el] at hb3
  obtain ⟨t1, t2, t3⟩ := L_tk l hq hb3
  rw [el, t3] at hb1 hb2
  obtain ⟨e1, e2⟩ := lbls_ok _ _ _ _ _ hb2
  rw [e1] at hb1
  have l1 := L_pop l
  have hk := L_tkIf l1 hq hb1
  generalize hK : (if fo (qF (qh s - 1, qK s, qn s, qF s, qb s) (qn (qh s - 1, qK s, qn s, qF s, qb s) - 1 - pC P f (p + 2))) = 3 then 0 else fk (qF (qh s - 1, qK s, qn s, qF s, qb s) (qn (qh s - 1, qK s, qn s, qF s, qb s) - 1 - pC P f (p + 2)))) = K at *
  have e2 : ∀ x, x < pC P f (p + 1) + 1 → pC P f (p + 2 + x) < qn s ∧ (if fo (qF s (qn s - 1 - pC P f (p + 2 + x))) = 3 then 0 else fk (qF s (qn s - 1 - pC P f (p + 2 + x)))) = K := fun x hx => e2 x (Nat.zero_le _) (by omega)
  have w1 := v1 (qh s - 1) (by omega)
  rw [t2] at w1
  obtain ⟨a1, a2⟩ := VR1 w1
  have eH1 : B + qh s - 1 = B + (qh s - 1) := by omega
  have mv := fun (R : St → Prop) => A.mv (Q := R) (by omega) (by omega)
  refine A.cl (disp_jmp (by omega) (by omega) ?_)
  rw [ebt]
  have md := A.md1
  have ei := e2 (ix (gJ (cC j n C) 1100 (2 * j) (qh s - 1)).toInt32 (pC P f (p + 1))) (by have := ix_le (gJ (cC j n C) 1100 (2 * j) (qh s - 1)).toInt32 (pC P f (p + 1)); omega)
  subst ho
  simp (decide := true) only [wp6_stepJumps, true_implies, false_implies, true_and, and_true, not_true, not_false_iff]
  refine c_chosen hw (hPC.ag (aXF C j n) (fun k z y => by unfold kXF at y; omega)) f1 hf hN3 hpn c2 (by omega) (by omega) ?_
  have fbl : fb (sTop s) ≤ qh s - 1 := by omega
  refine A.jump eF md (by simp [tT1, gI_sI]; exact f3) (by simp [mB, gI_sI]; exact g3) (by omega) fbl ei.1 (fun k ek z => ?_) (fun R hl => mv R fun b hb => ?_) kk
  · rcases hk with ⟨y, -⟩ | ⟨y1, y2, y3, -⟩
    · exact absurd (ek.trans (ei.2.trans y)) z
    · exact ⟨y2, y3.trans (ei.2.symm.trans ek.symm)⟩
  · simp (decide := true) only [wp9_moves, true_implies, false_implies, true_and, and_true, not_true, not_false_iff]
    refine m_popInt m14 (by omega) (by omega) ?_
    rw [hb hp1, show gI (sI (mB M) 1914 0 (nI (B + qh s - 1))) 1931 0 = nI p by simp [mB, gI_sI]; exact g2, eH1, ← a1]
    exact m_chosen hw (hPM.ag ((aYF M).sI (k := 1914) (by unfold kYF; omega)) (fun k z1 z2 y => by unfold kYF at y; omega)) hf hN3 hpn hl
