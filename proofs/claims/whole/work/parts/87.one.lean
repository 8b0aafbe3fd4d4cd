/-! PURE: instructions of one argument -/
def fC (op : Nat) (a : Int64) (r : UInt64) : Int64 × UInt64 := if op = 45 ∨ op = 64 then (if a = 0 then 1 else 0, FP.dconst0) else if op = 76 then (0, FP.dsub FP.dconst0 r) else if op = 80 then (a.toInt32.toInt64, FP.dconst0) else if op = 81 then (a, FP.dconst0) else if op = 82 ∨ op = 84 then (0, FP.l2d a) else if op = 85 then (a &&& (4294967295 : Int64), FP.dconst0) else ((FP.d2i r).toInt64, FP.dconst0)
def inr (r : UInt64) : Prop := ¬ 0 ≤ Op.cmpValue (FP.dcmp r (4746794007248502784 : UInt64)) .l ∧ 0 < Op.cmpValue (FP.dcmp r (13970166044105375744 : UInt64)) .g
theorem m_turn {M : St} {H op : Nat} {Q : St → Prop} (hh : gI M 1914 0 = nI H) (h1 : 1 ≤ H) (hH : H ≤ 200) (ho : op = 45 ∨ op = 64 ∨ op = 76 ∨ (80 ≤ op ∧ op ≤ 85)) (hr : (op = 76 ∨ op = 83) → fin (gD M 1923 0 (H - 1)))
    (k5 : op = 83 → ¬ inr (gD M 1923 0 (H - 1)) → Q (sI (sI M 1914 0 (nI (H - 1))) 1934 0 5))
    (kk : (op = 83 → inr (gD M 1923 0 (H - 1))) → Q (putm (sI M 1914 0 (nI (H - 1))) (H - 1) (fC op (gJ M 1922 0 (H - 1)) (gD M 1923 0 (H - 1))).1 (fC op (gJ M 1922 0 (H - 1)) (gD M 1923 0 (H - 1))).2)) : wp9_turn M (nI op) Q := by
  unfold wp9_turn
  intro S1 e
  rw [hh, nI_dec h1] at e
  subst e
  rw [show gI (sI M 1914 0 (nI (H - 1))) 1914 0 = nI (H - 1) by simp [gI_sI], nI_clamp (by omega)]
  refine ⟨vp_in_nI (by omega) (by omega), fun a ea => ⟨vp_in_nI (by omega) (by omega), fun r er => ?_⟩⟩
  have ea : a = gJ M 1922 0 (H - 1) := ea
  have er : r = gD M 1923 0 (H - 1) := er
  rw [← ea, ← er] at kk
  rw [← er] at k5 hr
  have hp : gI (sI M 1914 0 (nI (H - 1))) 1914 0 = nI (H - 1) := by simp [gI_sI]
  have pu : ∀ v x, Q (putm (sI M 1914 0 (nI (H - 1))) (H - 1) v x) → wp9_push (sI M 1914 0 (nI (H - 1))) v x (fun S => Q S) := fun v x k => m_push hp (by omega) k
  have z43 : ∀ op', Q (putm (sI M 1914 0 (nI (H - 1))) (H - 1) (if a = 0 then 1 else 0) FP.dconst0) → wp9_turn_43 (nI op') Q a (sI M 1914 0 (nI (H - 1))) := by
    intro op' k
    refine ⟨fun z => pu _ _ ?_, fun z => pu _ _ ?_⟩
    · rw [if_neg (fun y => z ((lg_eq0 _ _).mpr y))] at k; exact k
    · rw [if_pos ((lg_eq0 _ _).mp z)] at k; exact k
  rcases (by omega : op = 45 ∨ op = 64 ∨ op = 76 ∨ op = 80 ∨ op = 81 ∨ op = 82 ∨ op = 83 ∨ op = 84 ∨ op = 85) with rfl | rfl | rfl | rfl | rfl | rfl | rfl | rfl | rfl
  · have kk := kk (fun z => absurd z (by decide))
    simp (decide := true) only [fC, if_true, if_false] at kk
    simp (decide := true) only [true_implies, false_implies, true_and, and_true, not_true, not_false_iff]
    exact z43 45 kk
  · have kk := kk (fun z => absurd z (by decide))
    simp (decide := true) only [fC, if_true, if_false] at kk
    simp (decide := true) only [true_implies, false_implies, true_and, and_true, not_true, not_false_iff]
    exact z43 64 kk
  · have kk := kk (fun z => absurd z (by decide))
    simp (decide := true) only [fC, if_true, if_false] at kk
    simp (decide := true) only [true_implies, false_implies, true_and, and_true, not_true, not_false_iff]
    exact ⟨fin_sub fin_0 (hr (Or.inl rfl)), pu _ _ kk⟩
  · have kk := kk (fun z => absurd z (by decide))
    simp (decide := true) only [fC, if_true, if_false] at kk
    simp (decide := true) only [true_implies, false_implies, true_and, and_true, not_true, not_false_iff]
    exact pu _ _ kk
  · have kk := kk (fun z => absurd z (by decide))
    simp (decide := true) only [fC, if_true, if_false] at kk
    simp (decide := true) only [true_implies, false_implies, true_and, and_true, not_true, not_false_iff]
    exact pu _ _ kk
  · have kk := kk (fun z => absurd z (by decide))
    simp (decide := true) only [fC, if_true, if_false] at kk
    simp (decide := true) only [wp9_turn_124, true_implies, false_implies, true_and, and_true, not_true, not_false_iff]
    exact pu _ _ kk
  · simp (decide := true) only [true_implies, false_implies, true_and, and_true, not_true, not_false_iff]
    have f := hr (Or.inr rfl)
    have e1 := cmp_lg f fin_c1
    have e2 := cmp_lg f fin_c2
    refine ⟨fun z S2 e2' => ?_, fun z => ⟨fun z2 S3 e3 => ?_, fun z2 => pu _ _ ?_⟩⟩
    · subst e2'
      exact k5 rfl fun y => absurd y.2 (by rw [← e2]; exact Int32.not_lt.mpr z)
    · subst e3
      exact k5 rfl fun y => y.1 (by rw [e1]; exact z2)
    · have kk := kk fun _ => ⟨by rw [e1]; exact z2, by rw [← e2]; exact Int32.not_le.mp z⟩
      simp (decide := true) only [fC, if_true, if_false] at kk
      exact kk
  · have kk := kk (fun z => absurd z (by decide))
    simp (decide := true) only [fC, if_true, if_false] at kk
    simp (decide := true) only [wp9_turn_124, true_implies, false_implies, true_and, and_true, not_true, not_false_iff]
    exact pu _ _ kk
  · have kk := kk (fun z => absurd z (by decide))
    simp (decide := true) only [fC, if_true, if_false] at kk
    simp (decide := true) only [true_implies, false_implies, true_and, and_true, not_true, not_false_iff]
    exact pu _ _ kk
/-- the class's ones: 81 leaves all as it is -/
theorem c_ones {C : St} {o h op : Nat} {b : Int32} {Q : Int32 → St → Prop} (hh : gI C 1102 o = nI h) (h1 : 1 ≤ h) (hc : h ≤ cellsN o) (ho : op = 45 ∨ op = 64 ∨ op = 76 ∨ (80 ≤ op ∧ op ≤ 85)) (ha : op = 45 → (gJ C 1100 o (h - 1)).toInt32.toInt64 = gJ C 1100 o (h - 1)) (hr : (op = 76 ∨ op = 83) → fin (gD C 1101 o (h - 1)))
    (k5 : op = 83 → ¬ inr (gD C 1101 o (h - 1)) → Q 5 (tT1 C o h)) (k81 : op = 81 → Q 0 C)
    (kk : (op = 83 → inr (gD C 1101 o (h - 1))) → ¬ op = 81 → Q 0 (putc (tT1 C o h) o (h - 1) (fC op (gJ C 1100 o (h - 1)) (gD C 1101 o (h - 1))).1 (fC op (gJ C 1100 o (h - 1)) (gD C 1101 o (h - 1))).2)) : wp6_stepNumbers C o (nI op) b Q := by
  have hcb := cellsN_b o
  have pn : ∀ v : Int64, Q 0 (putc (tT1 C o h) o (h - 1) v FP.dconst0) → wp1_putNumber (tT1 C o h) o v (fun S1 => Q 0 S1) := by
    intro v hv
    unfold wp1_putNumber
    exact r_putc (tT1_h C o h) (by omega) hv
  have pr : ∀ v : UInt64, Q 0 (putc (tT1 C o h) o (h - 1) 0 v) → wp1_putReal (tT1 C o h) o v (fun S1 => Q 0 S1) := by
    intro v hv
    unfold wp1_putReal
    exact r_putc (tT1_h C o h) (by omega) hv
  have t0 : Q 0 (putc (tT1 C o h) o (h - 1) 0 FP.dconst0) → wp1_putTruth (tT1 C o h) o 0 (fun S1 => Q 0 S1) := fun k => r_truth (b := false) (tT1_h C o h) (by omega) k
  have t1 : Q 0 (putc (tT1 C o h) o (h - 1) 1 FP.dconst0) → wp1_putTruth (tT1 C o h) o 1 (fun S1 => Q 0 S1) := fun k => r_truth (b := true) (tT1_h C o h) (by omega) k
  rcases (by omega : op = 45 ∨ op = 64 ∨ op = 76 ∨ op = 80 ∨ op = 81 ∨ op = 82 ∨ op = 83 ∨ op = 84 ∨ op = 85) with rfl | rfl | rfl | rfl | rfl | rfl | rfl | rfl | rfl
  · have kk := kk (fun z => absurd z (by decide)) (by decide)
    simp (decide := true) only [fC, if_true, if_false] at kk
    simp (decide := true) only [wp6_stepNumbers, wp6_stepInts, wp6_stepInts_21, true_implies, false_implies, true_and, and_true, not_true, not_false_iff]
    have ha := ha rfl
    refine r_takeInt hh h1 hc ⟨fun z => t0 ?_, fun z => t1 ?_⟩
    · rw [if_neg (fun y => z (by rw [y]; rfl))] at kk; exact kk
    · rw [if_pos (by rw [← ha, z]; rfl)] at kk; exact kk
  · have kk := kk (fun z => absurd z (by decide)) (by decide)
    simp (decide := true) only [fC, if_true, if_false] at kk
    simp (decide := true) only [wp6_stepNumbers, wp6_stepLongs, wp6_stepLongs_23, true_implies, false_implies, true_and, and_true, not_true, not_false_iff]
    refine r_takeNumber hh h1 hc ⟨fun z => t0 ?_, fun z => t1 ?_⟩
    · rw [if_neg (fun y => z ((lg_eq0 _ _).mpr y))] at kk; exact kk
    · rw [if_pos ((lg_eq0 _ _).mp z)] at kk; exact kk
  · have kk := kk (fun z => absurd z (by decide)) (by decide)
    simp (decide := true) only [fC, if_true, if_false] at kk
    simp (decide := true) only [wp6_stepNumbers, wp6_stepReals, true_implies, false_implies, true_and, and_true, not_true, not_false_iff]
    exact r_takeReal hh h1 hc ⟨fin_sub fin_0 (hr (Or.inl rfl)), pr _ kk⟩
  · have kk := kk (fun z => absurd z (by decide)) (by decide)
    simp (decide := true) only [fC, if_true, if_false] at kk
    simp (decide := true) only [wp6_stepNumbers, wp6_convert, true_implies, false_implies, true_and, and_true, not_true, not_false_iff]
    exact r_takeInt hh h1 hc (pn _ kk)
  · simp (decide := true) only [wp6_stepNumbers, wp6_convert, true_implies, false_implies, true_and, and_true, not_true, not_false_iff]
    exact k81 rfl
  · have kk := kk (fun z => absurd z (by decide)) (by decide)
    simp (decide := true) only [fC, if_true, if_false] at kk
    simp (decide := true) only [wp6_stepNumbers, wp6_convert, true_implies, false_implies, true_and, and_true, not_true, not_false_iff]
    exact r_takeNumber hh h1 hc (pr _ kk)
  · simp (decide := true) only [wp6_stepNumbers, wp6_convert, wp6_cut, true_implies, false_implies, true_and, and_true, not_true, not_false_iff]
    refine r_takeReal hh h1 hc ⟨fun z => k5 rfl fun y => y.1 z, fun z => ⟨fun z2 => pn _ ?_, fun z2 => k5 rfl fun y => z2 y.2⟩⟩
    have kk := kk (fun _ => ⟨z, z2⟩) (by decide)
    simp (decide := true) only [fC, if_true, if_false] at kk
    exact kk
  · have kk := kk (fun z => absurd z (by decide)) (by decide)
    simp (decide := true) only [fC, if_true, if_false] at kk
    simp (decide := true) only [wp6_stepNumbers, wp6_convert, true_implies, false_implies, true_and, and_true, not_true, not_false_iff]
    exact r_takeNumber hh h1 hc (pr _ kk)
  · have kk := kk (fun z => absurd z (by decide)) (by decide)
    simp (decide := true) only [fC, if_true, if_false] at kk
    simp (decide := true) only [wp6_stepNumbers, wp6_convert, true_implies, false_implies, true_and, and_true, not_true, not_false_iff]
    exact r_takeNumber hh h1 hc (pn _ kk)
