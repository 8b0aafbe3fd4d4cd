/-! PURE: finite doubles -/
def fin (x : UInt64) : Prop := x &&& 0x7fffffffffffffff < 0x7ff0000000000000
theorem fin_n {x : UInt64} (h : fin x) : vf_n64 x := by
  unfold fin at h; unfold vf_n64
  exact UInt64.le_of_lt h
theorem fin_add {a b : UInt64} (ha : fin a) (hb : fin b) : vf_n64 (FP.dadd a b) := Jvm.Free.Fl.dadd_out (a := a) (b := b) (fin_n ha) hb
theorem fin_sub {a b : UInt64} (ha : fin a) (hb : fin b) : vf_n64 (FP.dsub a b) := Jvm.Free.Fl.dsub_out (a := a) (b := b) (fin_n ha) hb
theorem fin_mul {a b : UInt64} (ha : fin a) (hb : fin b) : vf_n64 (FP.dmul a b) := Jvm.Free.Fl.dmul_out (a := a) (b := b) ha hb
theorem fin_0 : fin FP.dconst0 := by unfold fin; decide +kernel
theorem fin_8 : fin (4593671619917905920 : UInt64) := by unfold fin; decide +kernel
theorem fin_l2d (v : Int64) : fin (FP.l2d v) := Jvm.Free.Fl.l2d_fin v
theorem fin_i2d (v : Int32) : fin (FP.i2d v) := Jvm.Free.Fl.i2d_fin v
theorem mask_mod (x : UInt64) : (x &&& 0x7fffffffffffffff).toNat = x.toNat % 9223372036854775808 := by
  rw [UInt64.toNat_and]
  exact Nat.and_two_pow_sub_one_eq_mod x.toNat 63
theorem mask_two {x c : UInt64} (hc : c.toNat < 9223372036854775808) (h : x &&& 0x7fffffffffffffff = c) : x = c ∨ x = c + 0x8000000000000000 := by
  have h1 := congrArg UInt64.toNat h
  rw [mask_mod] at h1
  have h2 := x.toNat_lt
  by_cases z : x.toNat < 9223372036854775808
  · left
    apply UInt64.toNat_inj.mp
    rw [Nat.mod_eq_of_lt z] at h1; exact h1
  · right
    apply UInt64.toNat_inj.mp
    rw [UInt64.toNat_add, show (0x8000000000000000 : UInt64).toNat = 9223372036854775808 from rfl]
    omega
/-- what isn't 0.0 isn't -0.0 -/
theorem nz_of {y : UInt64} (h : ¬ Op.cmpValue (FP.dcmp y FP.dconst0) .l = 0) : y &&& 0x7fffffffffffffff ≠ 0 := by
  intro z
  rcases mask_two (c := 0) (by decide) z with e | e
  · subst e; exact h (by decide +kernel)
  · subst e; exact h (by decide +kernel)
theorem fin_div {a b : UInt64} (ha : fin a) (hb : fin b) (hz : ¬ Op.cmpValue (FP.dcmp b FP.dconst0) .l = 0) : vf_n64 (FP.ddiv a b) := Jvm.Free.Fl.ddiv_out (a := a) (b := b) (fin_n ha) hb (nz_of hz)
/-- within the range it is finite -/
theorem fin_of {v : UInt64} (hn : vf_n64 v) (h1 : ¬ 0 < Op.cmpValue (FP.dcmp v 9094988921128908188) .l) (h2 : 0 ≤ Op.cmpValue (FP.dcmp v 18318360957983683996) .g) : fin v := by
  unfold fin
  unfold vf_n64 at hn
  by_cases z : v &&& 0x7fffffffffffffff = 0x7ff0000000000000
  · exfalso
    rcases mask_two (c := 0x7ff0000000000000) (by decide) z with e | e
    · subst e; exact h1 (by decide +kernel)
    · subst e; exact absurd h2 (by decide +kernel)
  · exact UInt64.lt_of_le_of_ne hn z
