/-! PURE: ints as the class and as the reference count them -/
theorem i_add (x y : Int64) : (x + y).toInt32 = x.toInt32 + y.toInt32 := Int64.toInt32_add x y
theorem i_sub (x y : Int64) : (x - y).toInt32 = x.toInt32 - y.toInt32 := Int64.toInt32_sub x y
theorem i_mul (x y : Int64) : (x * y).toInt32 = x.toInt32 * y.toInt32 := Int64.toInt32_mul x y
theorem i_and (x y : Int64) : (x &&& y).toInt32 = x.toInt32 &&& y.toInt32 := Int64.toInt32_and x y
theorem i_or (x y : Int64) : (x ||| y).toInt32 = x.toInt32 ||| y.toInt32 := Int64.toInt32_or x y
theorem i_xor (x y : Int64) : (x ^^^ y).toInt32 = x.toInt32 ^^^ y.toInt32 := Int64.toInt32_xor x y
theorem i_eq {x y : Int64} (hx : x.toInt32.toInt64 = x) (hy : y.toInt32.toInt64 = y) : x = y ↔ x.toInt32 = y.toInt32 := ⟨fun h => by rw [h], fun h => by rw [← hx, ← hy, h]⟩
theorem i_ext (x : Int32) : x.toInt64.toInt32 = x := Int32.toInt32_toInt64 x
theorem i_div (a b : Int32) : (a.toInt64 / b.toInt64).toInt32 = a / b := by
  apply Int32.toInt_inj.mp
  rw [Int64.toInt_toInt32, Int64.toInt_div, Int32.toInt_div, Int32.toInt_toInt64, Int32.toInt_toInt64]
  exact Int.bmod_bmod_of_dvd (by decide)
theorem i_rem (a b : Int32) : (a.toInt64 - a.toInt64 / b.toInt64 * b.toInt64).toInt32 = a - a / b * b := by
  rw [i_sub, i_mul, i_div, i_ext, i_ext]
theorem i_lt (a b : Int32) : a.toInt64 < b.toInt64 ↔ a < b := by
  rw [Int64.lt_iff_toInt_lt, Int32.lt_iff_toInt_lt, Int32.toInt_toInt64, Int32.toInt_toInt64]
