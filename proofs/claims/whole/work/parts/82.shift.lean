/-! PURE: shifts -/
theorem and31 (y : Int32) : ∃ n : Nat, n < 32 ∧ y &&& 31 = nI n := vp_in_of (n := 2 ^ 5) (pk_andIn y 5 (by decide) (by decide)) (by decide)
theorem sm64 : ∀ n : Nat, n < 64 → ((nI n).toInt64 &&& 63).toBitVec.smod 64 = BitVec.ofNat 64 n := by decide +kernel
theorem sm32 : ∀ n : Nat, n < 32 → (nI n).toBitVec.smod 32 = BitVec.ofNat 32 n := by decide +kernel
theorem us64 : ∀ n : Nat, n < 64 → ((nI n).toInt64.toUInt64 &&& Int64.toUInt64 63).toBitVec % 64 = BitVec.ofNat 64 n := by decide +kernel
theorem bv_shl (a : Int64) {n : Nat} (hn : n < 64) : (jlshl a (nI n)).toBitVec = a.toBitVec <<< n := by
  unfold jlshl
  rw [Int64.toBitVec_shiftLeft, sm64 n hn, BitVec.shiftLeft_eq', BitVec.toNat_ofNat, Nat.mod_eq_of_lt (by omega)]
theorem bv_shr (a : Int64) {n : Nat} (hn : n < 64) : (jlshr a (nI n)).toBitVec = a.toBitVec.sshiftRight n := by
  unfold jlshr
  rw [Int64.toBitVec_shiftRight, sm64 n hn, BitVec.sshiftRight_eq', BitVec.toNat_ofNat, Nat.mod_eq_of_lt (by omega)]
theorem bv_ushr (a : Int64) {n : Nat} (hn : n < 64) : (jlushr a (nI n)).toBitVec = a.toBitVec >>> n := by
  unfold jlushr
  show ((a.toUInt64 >>> ((nI n).toInt64.toUInt64 &&& Int64.toUInt64 63))).toBitVec = _
  rw [UInt64.toBitVec_shiftRight, us64 n hn, BitVec.ushiftRight_eq', BitVec.toNat_ofNat, Nat.mod_eq_of_lt (by omega)]
  rfl
theorem i_shl (a : Int64) (y : Int32) : (jlshl a (y &&& 31)).toInt32 = a.toInt32 <<< (y &&& 31) := by
  obtain ⟨n, hn, e⟩ := and31 y
  rw [e]
  apply Int32.toBitVec_inj.mp
  rw [Int32.toBitVec_shiftLeft, sm32 n hn, BitVec.shiftLeft_eq', BitVec.toNat_ofNat, Nat.mod_eq_of_lt (by omega), Int64.toBitVec_toInt32, Int64.toBitVec_toInt32, bv_shl a (by omega), BitVec.signExtend_eq_setWidth_of_le _ (by decide), BitVec.signExtend_eq_setWidth_of_le _ (by decide)]
  apply BitVec.eq_of_toNat_eq
  rw [BitVec.toNat_setWidth, BitVec.toNat_shiftLeft, BitVec.toNat_shiftLeft, BitVec.toNat_setWidth, Nat.shiftLeft_eq, Nat.shiftLeft_eq, Nat.mod_mod_of_dvd _ (by decide), Nat.mod_mul_mod]
theorem i_shr {a : Int64} (ha : a.toInt32.toInt64 = a) (y : Int32) : (jlshr a (y &&& 31)).toInt32 = a.toInt32 >>> (y &&& 31) := by
  obtain ⟨n, hn, e⟩ := and31 y
  rw [e]
  generalize a.toInt32 = x at ha
  subst ha
  apply Int32.toInt_inj.mp
  have hs : (nI n).toBitVec.smod 32 = BitVec.ofNat 32 n := sm32 n hn
  have h1 : (x >>> nI n).toInt = x.toInt >>> n := pk_shr x (nI n) n (by rw [hs, BitVec.toNat_ofNat, Nat.mod_eq_of_lt (by omega)])
  have h2 : (jlshr x.toInt64 (nI n)).toInt = x.toInt >>> n := by
    show (jlshr x.toInt64 (nI n)).toBitVec.toInt = _
    rw [bv_shr _ (by omega), BitVec.toInt_sshiftRight]
    show x.toInt64.toInt >>> n = _
    rw [Int32.toInt_toInt64]
  rw [Int64.toInt_toInt32, h2, ← h1]
  have b1 := (x >>> nI n).le_toInt
  have b2 := (x >>> nI n).toInt_lt
  exact Int.bmod_eq_of_le (by omega) (by omega)
theorem i_ushr (x y : Int32) : jushr x (y &&& 31) = jushr x y := by
  unfold jushr
  rw [Int32.toUInt32_and, UInt32.and_assoc]
  rfl
theorem and63 (z : Int32) : (z &&& (64 - 1)).toInt64 &&& 63 = z.toInt64 &&& 63 := by
  rw [Int32.toInt64_and, Int64.and_assoc]
  rfl
theorem l_shl (x : Int64) (z : Int32) : jlshl x (z &&& (64 - 1)) = jlshl x z := by unfold jlshl; rw [and63]
theorem l_shr (x : Int64) (z : Int32) : jlshr x (z &&& (64 - 1)) = jlshr x z := by unfold jlshr; rw [and63]
theorem l_ushr (x : Int64) (z : Int32) : jlushr x (z &&& (64 - 1)) = jlushr x z := by
  unfold jlushr
  have h : ((z &&& (64 - 1)).toInt64.toUInt64 &&& Int64.toUInt64 63) = (z.toInt64.toUInt64 &&& Int64.toUInt64 63) := by
    rw [← Int64.toUInt64_and, and63, Int64.toUInt64_and]
  rw [h]
theorem lsb255 : ∀ i : Nat, i < 32 → (255 : Int32).toBitVec.getLsbD i = decide (i < 8) := by decide +kernel
/-- a byte of a long, however it is shifted down -/
theorem l_byte (x : Int64) {n : Nat} (hn : n ≤ 56) : (jlushr x (nI n)).toInt32 &&& 255 = (jlshr x (nI n)).toInt32 &&& 255 := by
  apply Int32.toBitVec_inj.mp
  rw [Int32.toBitVec_and, Int32.toBitVec_and, Int64.toBitVec_toInt32, Int64.toBitVec_toInt32, bv_shr x (by omega), bv_ushr x (by omega), BitVec.signExtend_eq_setWidth_of_le _ (by decide), BitVec.signExtend_eq_setWidth_of_le _ (by decide)]
  apply BitVec.eq_of_getLsbD_eq
  intro i hi
  rw [BitVec.getLsbD_and, BitVec.getLsbD_and, lsb255 i hi]
  by_cases z : i < 8
  · rw [BitVec.getLsbD_setWidth, BitVec.getLsbD_setWidth, BitVec.getLsbD_ushiftRight, BitVec.getLsbD_sshiftRight, if_pos (by omega)]
    have h1 : ¬ 64 ≤ i := by omega
    simp [h1]
  · simp [z]
