/-! PURE: steps of instructions of one argument, constants, memory -/
theorem one_kinds {op : Nat} (ho : op = 45 ∨ op = 64 ∨ op = 76 ∨ (80 ≤ op ∧ op ≤ 85)) : ∃ ka cc : Nat, ¬ ka = 0 ∧ ¬ cc = 0 ∧ cc ≤ 3 ∧ (sg op % 10 = cc ∧ sg op / 10 % 10 = 0 ∧ sg op / 100 = ka) ∧ (op = 45 → ka = 1) ∧ ((op = 76 ∨ op = 83) → ka = 3) ∧
    (∀ a b x y, VR ka a x b y → VR cc (fC op a x).1 (fC op a x).2 (fC op b y).1 (fC op b y).2) ∧ (op = 81 → ∀ a b x y, VR ka a x b y → VR cc a x (fC op b y).1 (fC op b y).2) := by
  have bit : ∀ a : Int64, (if a = 0 then (1 : Int64) else 0).toInt32.toInt64 = if a = 0 then 1 else 0 := by
    intro a; split <;> rfl
  rcases (by omega : op = 45 ∨ op = 64 ∨ op = 76 ∨ op = 80 ∨ op = 81 ∨ op = 82 ∨ op = 83 ∨ op = 84 ∨ op = 85) with rfl | rfl | rfl | rfl | rfl | rfl | rfl | rfl | rfl
  · refine ⟨1, 1, by decide, by decide, by decide, ⟨rfl, rfl, rfl⟩, by decide, by decide, fun a b x y h => ?_, ?_⟩
    · simp (decide := true) only [fC, if_true, if_false]
      obtain ⟨h, -⟩ := VR1 h
      subst h
      exact mkV1 _ _ _ (bit a)
    · intro z; exact absurd z (by decide)
  · refine ⟨2, 1, by decide, by decide, by decide, ⟨rfl, rfl, rfl⟩, by decide, by decide, fun a b x y h => ?_, ?_⟩
    · simp (decide := true) only [fC, if_true, if_false]
      have h := VR2 h
      subst h
      exact mkV1 _ _ _ (bit a)
    · intro z; exact absurd z (by decide)
  · refine ⟨3, 3, by decide, by decide, by decide, ⟨rfl, rfl, rfl⟩, by decide, by decide, fun a b x y h => ?_, ?_⟩
    · simp (decide := true) only [fC, if_true, if_false]
      obtain ⟨h, h2⟩ := VR3 h
      subst h
      exact mkV3 _ _ _ (fin_sub0 h2)
    · intro z; exact absurd z (by decide)
  · refine ⟨2, 1, by decide, by decide, by decide, ⟨rfl, rfl, rfl⟩, by decide, by decide, fun a b x y h => ?_, ?_⟩
    · simp (decide := true) only [fC, if_true, if_false]
      have h := VR2 h
      subst h
      exact mkV1 _ _ _ (by rw [i_ext])
    · intro z; exact absurd z (by decide)
  · refine ⟨1, 2, by decide, by decide, by decide, ⟨rfl, rfl, rfl⟩, by decide, by decide, fun a b x y h => ?_, ?_⟩
    · simp (decide := true) only [fC, if_true, if_false]
      obtain ⟨h, -⟩ := VR1 h
      subst h
      exact mkV2 _ _ _
    · intro _ a b x y h
      simp (decide := true) only [fC, if_true, if_false]
      obtain ⟨h, -⟩ := VR1 h
      subst h
      exact mkV2 _ _ _
  · refine ⟨1, 3, by decide, by decide, by decide, ⟨rfl, rfl, rfl⟩, by decide, by decide, fun a b x y h => ?_, ?_⟩
    · simp (decide := true) only [fC, if_true, if_false]
      obtain ⟨h, -⟩ := VR1 h
      subst h
      exact mkV3 _ _ _ (fin_l2d a)
    · intro z; exact absurd z (by decide)
  · refine ⟨3, 1, by decide, by decide, by decide, ⟨rfl, rfl, rfl⟩, by decide, by decide, fun a b x y h => ?_, ?_⟩
    · simp (decide := true) only [fC, if_true, if_false]
      obtain ⟨h, h2⟩ := VR3 h
      subst h
      exact mkV1 _ _ _ (by rw [i_ext])
    · intro z; exact absurd z (by decide)
  · refine ⟨2, 3, by decide, by decide, by decide, ⟨rfl, rfl, rfl⟩, by decide, by decide, fun a b x y h => ?_, ?_⟩
    · simp (decide := true) only [fC, if_true, if_false]
      have h := VR2 h
      subst h
      exact mkV3 _ _ _ (fin_l2d a)
    · intro z; exact absurd z (by decide)
  · refine ⟨1, 2, by decide, by decide, by decide, ⟨rfl, rfl, rfl⟩, by decide, by decide, fun a b x y h => ?_, ?_⟩
    · simp (decide := true) only [fC, if_true, if_false]
      obtain ⟨h, -⟩ := VR1 h
      subst h
      exact mkV2 _ _ _
    · intro z; exact absurd z (by decide)
theorem st_ones {P : Prog} {c : Ct} {C M : St} {j f p op n B m : Nat} {s : SB} {Q : Int32 → St → St → Prop} (A : At P c C M j f p op n B m s) (ho : op = 45 ∨ op = 64 ∨ op = 76 ∨ (80 ≤ op ∧ op ≤ 85)) (kk : ∀ r C' M', Res P C M r C' M' → Q r C' M') : wp6_step C (fun r C' => wp9_step M (fun M' => Q r C' M')) := by
  obtain ⟨j5, hf, hop, h16, hcell, B80, l, hq, hb, -⟩ := A.facts
  obtain ⟨bC, bM, hg, i34, c2, m14, v1⟩ := A.f2
  have eop := A.op
  obtain ⟨ka, cc, ka0, c0, c3, ⟨e1, e2, e3⟩, h45, h76, hv, h81⟩ := one_kinds ho
  have e : ckOne P f p s = ptIf cc (tkIf 0 (tkIf ka s)) := by rw [ck_plain (by omega), eop, e1, e2, e3]
  obtain ⟨g1, k1, lt, et, ek, ei, ef⟩ := pl_one l hq ka0 c0 c3 e hb
  have w1 := v1 (qh s - 1) (by omega)
  rw [k1] at w1
  have eH1 : B + qh s - 1 = B + (qh s - 1) := by omega
  have fx : (op = 76 ∨ op = 83) → gD (cC j n C) 1101 (2 * j) (qh s - 1) = gD (mB M) 1923 0 (B + (qh s - 1)) ∧ fin (gD (cC j n C) 1101 (2 * j) (qh s - 1)) := by
    intro z
    rw [h76 z] at w1
    exact VR3 w1
  have bC1 : CB j C n (tT1 (cC j n C) (2 * j) (qh s)) := bC.h _
  have bM1 := bM.s (k := 1914) (Or.inl rfl) (nI (B + (qh s - 1)))
  have i34' : gI (sI (mB M) 1914 0 (nI (B + (qh s - 1)))) 1934 0 = 0 := by
    rw [gI_sI, if_neg (fun z => absurd z.1 (by decide))]; exact i34
  refine A.cl (disp_num (by omega) (by omega) ?_)
  refine c_ones c2 g1 (by omega) ho (fun z => ?_) (fun z => (fx z).2) (fun z y => ?_) (fun z => ?_) (fun z y => ?_)
  · rw [h45 z] at w1
    exact (VR1 w1).2
  · refine A.pl (by omega) fun b hb => m_pl_turn ho ?_
    refine m_turn m14 (by omega) (by omega) ho (fun z => by rw [eH1, ← (fx z).1]; exact (fx z).2) (fun _ _ S3 e3 => ?_) (fun n => absurd ?_ y)
    · subst e3
      rw [eH1]
      refine kk _ _ _ (res_trap (t := 5) bC1 ((bM1.s (Or.inr (Or.inr rfl)) 5).s (Or.inr (Or.inl rfl)) _) hg (by decide) (by decide) ?_)
      simp [gI_sI]; rfl
    · have := n z
      rw [eH1, ← (fx (Or.inr z)).1] at this
      exact this
  · refine A.pl (by omega) fun b hb => m_pl_turn ho ?_
    refine m_turn m14 (by omega) (by omega) ho (fun z => by rw [eH1, ← (fx z).1]; exact (fx z).2) (fun n => absurd n (by omega)) (fun _ S3 e3 => ?_)
    subst e3
    rw [eH1]
    refine kk _ _ _ (A.put lt ef et (by omega) ei (bC.stay (h0 := qh s - 1) (by rw [c2]; congr 1; omega)) bM1 hg i34' ?_)
    rw [ek]
    exact h81 z _ _ _ _ w1
  · refine A.pl (by omega) fun b hb => m_pl_turn ho ?_
    refine m_turn m14 (by omega) (by omega) ho (fun z => by rw [eH1, ← (fx z).1]; exact (fx z).2) (fun n y => absurd ?_ y) (fun _ S3 e3 => ?_)
    · rw [eH1, ← (fx (Or.inr n)).1]; exact z n
    · subst e3
      rw [eH1]
      refine kk _ _ _ (A.put lt ef et (by omega) ei bC1.put bM1 (XGputc hg (by omega)) i34' ?_)
      rw [ek]
      exact hv _ _ _ _ w1
theorem whole2 {P : Prog} {c : Ct} {C M : St} {j f p op n B m : Nat} {s : SB} (A : At P c C M j f p op n B m s) (ho : (2 ≤ op ∧ op ≤ 4) ∨ op = 7 ∨ op = 8 ∨ op = 11 ∨ op = 12 ∨ (15 ≤ op ∧ op ≤ 28)) : n = p + 2 ∧ p + 1 < pL P f ∧ bt P f (p + 1) = pC P f (p + 1) ∧ pC P f (p + 1) < 256 := by
  have hf := A.facts.2.1
  obtain ⟨h, rfl, rfl, rfl, rfl, rfl, rfl, rfl, ok, hh⟩ := A
  have e : szI P (xf c (xd c - 1)) (xp c (xd c - 1)) = 2 := by
    unfold szI
    rw [if_neg (by omega), if_pos (by omega)]
  have h5 := ok.2.2.2.2.1
  rw [e] at h5 ⊢
  exact ⟨rfl, by omega, if_pos (by omega), (h.1 _ hf).2.2.2.2.2.2 _ (by omega)⟩
theorem c_const {C : St} {j op b h : Nat} {Q : Int32 → St → Prop} (hh : gI C 1102 (2 * j) = nI h) (hc : h < cellsN (2 * j)) (ho : 20 ≤ op) (ho2 : op ≤ 22) (kk : Q 0 (putc C (2 * j) h (if op = 22 then 0 else (nI b).toInt8.toInt32.toInt64) (if op = 22 then FP.dmul (FP.i2d (nI b).toInt8.toInt32) (4593671619917905920 : UInt64) else FP.dconst0))) : wp6_stepValues C j (nI op) (nI b) Q := by
  have hcb := cellsN_b (2 * j)
  rcases (by omega : op = 20 ∨ op = 21 ∨ op = 22) with rfl | rfl | rfl
  · simp (decide := true) only [if_true, if_false] at kk
    simp (decide := true) only [wp6_stepValues, wp1_height, wp1_putNumber, true_implies, false_implies, true_and, and_true, not_true, not_false_iff]
    intro x _
    exact r_putc hh hc kk
  · simp (decide := true) only [if_true, if_false] at kk
    simp (decide := true) only [wp6_stepValues, wp1_height, wp1_putNumber, true_implies, false_implies, true_and, and_true, not_true, not_false_iff]
    intro x _
    exact r_putc hh hc kk
  · simp (decide := true) only [if_true, if_false] at kk
    simp (decide := true) only [wp6_stepValues, wp1_height, wp1_putReal, true_implies, false_implies, true_and, and_true, not_true, not_false_iff]
    intro x _
    exact ⟨fin_n (fin_arg _), r_putc hh hc kk⟩
theorem st_consts {P : Prog} {c : Ct} {C M : St} {j f p op n B m : Nat} {s : SB} {Q : Int32 → St → St → Prop} (A : At P c C M j f p op n B m s) (ho : 20 ≤ op) (ho2 : op ≤ 22) (kk : ∀ r C' M', Res P C M r C' M' → Q r C' M') : wp6_step C (fun r C' => wp9_step M (fun M' => Q r C' M')) := by
  obtain ⟨j5, hf, hop, h16, hcell, B80, l, hq, hb, -⟩ := A.facts
  obtain ⟨bC, bM, hg, i34, c2, m14, v1⟩ := A.f2
  have eop := A.op
  have sg3 : sg op = op - 19 := by unfold sg; rw [if_neg (by omega), if_pos (by omega)]
  obtain ⟨hn, hp1, ebt, hb256⟩ := whole2 A (by omega)
  have e : ckOne P f p s = ptIf (op - 19) (tkIf 0 (tkIf 0 s)) := by
    rw [ck_plain (by omega), eop, sg3, show (op - 19) % 10 = op - 19 by omega, show (op - 19) / 10 % 10 = 0 by omega, show (op - 19) / 100 = 0 by omega]
  obtain ⟨g1, lt, et, ek, ei, ef⟩ := pl_zero h16 l hq (by omega) (by omega) e hb
  refine A.cl (disp_val (by omega) (by omega) ?_)
  refine c_const c2 (by omega) ho ho2 ?_
  refine A.pl (by omega) fun b hb => ?_
  have hb := hb hp1
  subst hb
  rw [ebt]
  refine ⟨fun z => absurd ((nI_ltI (b := 20) (by omega) (by omega)).mp z) (by omega), fun _ => ⟨fun z => absurd ((nI_ltI (a := 22) (by omega) (by omega)).mp z) (by omega), fun _ => ⟨fin_n (fin_arg _), m_push m14 (by omega) fun S3 e3 => ?_⟩⟩⟩
  subst e3
  refine kk _ _ _ (A.put lt ef et (by omega) ei bC.put bM (XGputc hg (by omega)) i34 ?_)
  rw [ek]
  by_cases z : op = 22
  · rw [if_pos z, if_pos z, z]
    exact mkV3 _ _ _ (fin_arg _)
  · rw [if_neg z, if_neg z]
    by_cases y : op = 20
    · rw [y]; exact mkV1 _ _ _ (by rw [i_ext])
    · rw [show op - 19 = 2 by omega]; exact mkV2 _ _ _
