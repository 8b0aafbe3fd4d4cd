/-! PURE: finite doubles -/
def fin (x : UInt64) : Prop := x &&& 0x7fffffffffffffff < 0x7ff0000000000000
theorem fin_n {x : UInt64} (h : fin x) : vf_n64 x := by
  unfold fin at h; unfold vf_n64
  exact UInt64.le_of_lt h
theorem fin_add {a b : UInt64} (ha : fin a) (hb : fin b) : vf_n64 (FP.dadd a b) := Jvm.Free.Fl.dadd_out (a := a) (b := b) (fin_n ha) hb
theorem fin_sub {a b : UInt64} (ha : fin a) (hb : fin b) : vf_n64 (FP.dsub a b) := Jvm.Free.Fl.dsub_out (a := a) (b := b) (fin_n ha) hb
theorem fin_mul {a b : UInt64} (ha : fin a) (hb : fin b) : vf_n64 (FP.dmul a b) := Jvm.Free.Fl.dmul_out (a := a) (b := b) ha hb
theorem fin_0 : fin FP.dconst0 := by unfold fin; decide +kernel
theorem fin_8 : fin (4593671619917905920 : UInt64) := by unfold fin; decide +kernel
