/-! PURE: finite doubles: argument, negation, comparison -/
theorem fin_core {x : UInt64} : fin x ↔ FP.Core.DFin x := Jvm.Free.Fl.fin64_core
theorem fin_nn {x : UInt64} (h : fin x) : FP.Core.val64 x ≠ .nan := by
  obtain ⟨s, c, q, e⟩ := fin_core.mp h
  rw [e]; exact FP.Core.Datum.noConfusion
theorem fin_arg (x : Int32) : fin (FP.dmul (FP.i2d x) (4593671619917905920 : UInt64)) := by
  have h := FP.Core.dmul_mag (Ka := 1056) (Kb := 1021) (FP.Core.i2d_mag x) (show (4593671619917905920 : UInt64).toNat % 2 ^ 63 < 1021 * 2 ^ 52 by decide) (by decide) (by decide)
  exact fin_core.mpr (FP.Core.fin_of_lt h (by decide))
theorem fin_sub0 {x : UInt64} (h : fin x) : fin (FP.dsub FP.dconst0 x) := by
  have e : FP.dsub FP.dconst0 x = FP.Core.dadd (FP.Core.dneg x) FP.Core.dconst0 := by
    show FP.Core.dsub FP.Core.dconst0 x = _
    rw [FP.Core.dsub_eq, FP.Core.dadd_comm]
  obtain ⟨s, c, q, hv⟩ := fin_core.mp h
  have hn : FP.Core.val64 (FP.Core.dneg x) = .fin (!s) c q := by rw [FP.Core.val64_dneg, hv]; rfl
  rw [e]
  by_cases z : FP.Core.dneg x = FP.Core.dzeroNeg
  · rw [z]; unfold fin; decide +kernel
  · rw [FP.Core.dadd_zero (by rw [hn]; exact FP.Core.Datum.noConfusion) z]
    exact fin_core.mpr ⟨!s, c, q, hn⟩
theorem cmp_lg {r c : UInt64} (hr : fin r) (hc : fin c) : Op.cmpValue (FP.dcmp r c) .l = Op.cmpValue (FP.dcmp r c) .g := by
  cases h : FP.dcmp r c with
  | none => exact absurd ((FP.Core.dcmp_none r c).mp h) (fun z => z.elim (fin_nn hr) (fin_nn hc))
  | some o => cases o <;> rfl
theorem agD_fin {x : UInt64} (h : fin x) : agD x x := by
  left
  have e : FP.dcmp x x = some .eq := FP.Core.dcmp_self (fin_nn h)
  rw [e]; rfl
theorem fin_c1 : fin (4746794007248502784 : UInt64) := by unfold fin; decide +kernel
theorem fin_c2 : fin (13970166044105375744 : UInt64) := by unfold fin; decide +kernel
