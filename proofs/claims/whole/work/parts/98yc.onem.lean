/-! PURE: a step of the reference answers one way -/
theorem d_wp9_byteAt {S : St} {x1 : Int32} {x2 : Int32} : Dg apR (fun Q => wp9_byteAt S x1 x2 Q) := by
  unfold wp9_byteAt
  with_reducible (repeat' first | exact dR | exact dU | exact dN | apply dif | apply dfi | apply dall | apply dand | refine dex (fun _ => ?_))
theorem d_wp9_in {S : St} {x0 : Int32} {x1 : Int32} {x2 : Int32} : Dg apR (fun Q => wp9_in S x0 x1 x2 Q) := by
  unfold wp9_in
  with_reducible (repeat' first | exact dR | exact dU | exact dN | apply dif | apply dfi | apply dall | apply dand | refine dex (fun _ => ?_))
theorem d_wp9_behind {S : St} {x1 : Int32} {x2 : Int32} : Dg apR (fun Q => wp9_behind S x1 x2 Q) := by
  unfold wp9_behind
  with_reducible (repeat' first | exact dR | exact dU | exact dN | exact d_wp9_byteAt | refine dcR (W := fun Q => wp9_byteAt _ _ _ Q) d_wp9_byteAt (fun _ _ => ?_) | exact d_wp9_in | refine dcR (W := fun Q => wp9_in _ _ _ _ Q) d_wp9_in (fun _ _ => ?_) | apply dif | apply dfi | apply dall | apply dand | refine dex (fun _ => ?_))
theorem d_wp9_push {S : St} {x1 : Int64} {x3 : UInt64} : Dg apU (fun Q => wp9_push S x1 x3 Q) := by
  unfold wp9_push
  with_reducible (repeat' first | exact dR | exact dU | exact dN | apply dif | apply dfi | apply dall | apply dand | refine dex (fun _ => ?_))
theorem d_wp9_turn_55 {x1 : Int32} {s1 : Int64} {S : St} : Dg apU (fun Q => wp9_turn_55 x1 Q s1 S) := by
  unfold wp9_turn_55
  with_reducible (repeat' first | exact dR | exact dU | exact dN | exact d_wp9_push | refine dcU (W := fun Q => wp9_push _ _ _ Q) d_wp9_push (fun _ => ?_) | apply dif | apply dfi | apply dall | apply dand | refine dex (fun _ => ?_))
theorem d_wp9_turn_43 {x1 : Int32} {x2 : Int64} {S : St} : Dg apU (fun Q => wp9_turn_43 x1 Q x2 S) := by
  unfold wp9_turn_43
  with_reducible (repeat' first | exact dR | exact dU | exact dN | exact d_wp9_turn_55 | refine dcU (W := fun Q => wp9_turn_55 _ Q _ _) d_wp9_turn_55 (fun _ => ?_) | apply dif | apply dfi | apply dall | apply dand | refine dex (fun _ => ?_))
theorem d_wp9_turn_124 {x1 : Int32} {x2 : Int64} {S : St} : Dg apU (fun Q => wp9_turn_124 x1 Q x2 S) := by
  unfold wp9_turn_124
  with_reducible (repeat' first | exact dR | exact dU | exact dN | exact d_wp9_push | refine dcU (W := fun Q => wp9_push _ _ _ Q) d_wp9_push (fun _ => ?_) | apply dif | apply dfi | apply dall | apply dand | refine dex (fun _ => ?_))
theorem d_wp9_turn {S : St} {x1 : Int32} : Dg apU (fun Q => wp9_turn S x1 Q) := by
  unfold wp9_turn
  with_reducible (repeat' first | exact dR | exact dU | exact dN | exact d_wp9_turn_43 | refine dcU (W := fun Q => wp9_turn_43 _ Q _ _) d_wp9_turn_43 (fun _ => ?_) | exact d_wp9_turn_124 | refine dcU (W := fun Q => wp9_turn_124 _ Q _ _) d_wp9_turn_124 (fun _ => ?_) | exact d_wp9_push | refine dcU (W := fun Q => wp9_push _ _ _ Q) d_wp9_push (fun _ => ?_) | apply dif | apply dfi | apply dall | apply dand | refine dex (fun _ => ?_))
theorem d_wp9_plain_62 {x1 : Int32} {x2 : Int32} {S : St} : Dg apU (fun Q => wp9_plain_62 x1 x2 Q S) := by
  unfold wp9_plain_62
  with_reducible (repeat' first | exact dR | exact dU | exact dN | exact d_wp9_turn | refine dcU (W := fun Q => wp9_turn _ _ Q) d_wp9_turn (fun _ => ?_) | apply dif | apply dfi | apply dall | apply dand | refine dex (fun _ => ?_))
theorem d_wp9_measure_74 {x1 : Int32} {s1 : Int64} {S : St} : Dg apU (fun Q => wp9_measure_74 x1 Q s1 S) := by
  unfold wp9_measure_74
  with_reducible (repeat' first | exact dR | exact dU | exact dN | exact d_wp9_push | refine dcU (W := fun Q => wp9_push _ _ _ Q) d_wp9_push (fun _ => ?_) | apply dif | apply dfi | apply dall | apply dand | refine dex (fun _ => ?_))
theorem d_wp9_measure_73 {x1 : Int32} {S : St} : Dg apU (fun Q => wp9_measure_73 x1 Q S) := by
  unfold wp9_measure_73
  with_reducible (repeat' first | exact dR | exact dU | exact dN | exact d_wp9_measure_74 | refine dcU (W := fun Q => wp9_measure_74 _ Q _ _) d_wp9_measure_74 (fun _ => ?_) | apply dif | apply dfi | apply dall | apply dand | refine dex (fun _ => ?_))
theorem d_wp9_measure_69 {x1 : Int32} {S : St} : Dg apU (fun Q => wp9_measure_69 x1 Q S) := by
  unfold wp9_measure_69
  with_reducible (repeat' first | exact dR | exact dU | exact dN | exact d_wp9_measure_74 | refine dcU (W := fun Q => wp9_measure_74 _ Q _ _) d_wp9_measure_74 (fun _ => ?_) | apply dif | apply dfi | apply dall | apply dand | refine dex (fun _ => ?_))
theorem d_wp9_measure_45 {x1 : Int32} {x2 : UInt64} {x4 : UInt64} {S : St} : Dg apU (fun Q => wp9_measure_45 x1 Q x2 x4 S) := by
  unfold wp9_measure_45
  with_reducible (repeat' first | exact dR | exact dU | exact dN | exact d_wp9_measure_73 | refine dcU (W := fun Q => wp9_measure_73 _ Q _) d_wp9_measure_73 (fun _ => ?_) | exact d_wp9_measure_69 | refine dcU (W := fun Q => wp9_measure_69 _ Q _) d_wp9_measure_69 (fun _ => ?_) | apply dif | apply dfi | apply dall | apply dand | refine dex (fun _ => ?_))
theorem d_wp9_measure_141 {x1 : Int32} {s0 : UInt64} {S : St} : Dg apU (fun Q => wp9_measure_141 x1 Q s0 S) := by
  unfold wp9_measure_141
  with_reducible (repeat' first | exact dR | exact dU | exact dN | exact d_wp9_push | refine dcU (W := fun Q => wp9_push _ _ _ Q) d_wp9_push (fun _ => ?_) | apply dif | apply dfi | apply dall | apply dand | refine dex (fun _ => ?_))
theorem d_wp9_measure_98 {x1 : Int32} {x2 : UInt64} {x4 : UInt64} {S : St} : Dg apU (fun Q => wp9_measure_98 x1 Q x2 x4 S) := by
  unfold wp9_measure_98
  with_reducible (repeat' first | exact dR | exact dU | exact dN | exact d_wp9_measure_141 | refine dcU (W := fun Q => wp9_measure_141 _ Q _ _) d_wp9_measure_141 (fun _ => ?_) | apply dif | apply dfi | apply dall | apply dand | refine dex (fun _ => ?_))
theorem d_wp9_measure {S : St} {x1 : Int32} : Dg apU (fun Q => wp9_measure S x1 Q) := by
  unfold wp9_measure
  with_reducible (repeat' first | exact dR | exact dU | exact dN | exact d_wp9_measure_45 | refine dcU (W := fun Q => wp9_measure_45 _ Q _ _ _) d_wp9_measure_45 (fun _ => ?_) | exact d_wp9_measure_98 | refine dcU (W := fun Q => wp9_measure_98 _ Q _ _ _) d_wp9_measure_98 (fun _ => ?_) | apply dif | apply dfi | apply dall | apply dand | refine dex (fun _ => ?_))
theorem d_wp9_calculate_251 {x1 : Int32} {x2 : Int32} {s1 : Int64} {S : St} : Dg apU (fun Q => wp9_calculate_251 x1 x2 Q s1 S) := by
  unfold wp9_calculate_251
  with_reducible (repeat' first | exact dR | exact dU | exact dN | exact d_wp9_push | refine dcU (W := fun Q => wp9_push _ _ _ Q) d_wp9_push (fun _ => ?_) | apply dif | apply dfi | apply dall | apply dand | refine dex (fun _ => ?_))
theorem d_wp9_calculate_235 {x1 : Int32} {x2 : Int32} {x7 : Int64} {S : St} : Dg apU (fun Q => wp9_calculate_235 x1 x2 Q x7 S) := by
  unfold wp9_calculate_235
  with_reducible (repeat' first | exact dR | exact dU | exact dN | exact d_wp9_calculate_251 | refine dcU (W := fun Q => wp9_calculate_251 _ _ Q _ _) d_wp9_calculate_251 (fun _ => ?_) | apply dif | apply dfi | apply dall | apply dand | refine dex (fun _ => ?_))
theorem d_wp9_calculate_233 {x1 : Int32} {x2 : Int32} {s0 : Int64} {S : St} : Dg apU (fun Q => wp9_calculate_233 x1 x2 Q s0 S) := by
  unfold wp9_calculate_233
  with_reducible (repeat' first | exact dR | exact dU | exact dN | exact d_wp9_calculate_235 | refine dcU (W := fun Q => wp9_calculate_235 _ _ Q _ _) d_wp9_calculate_235 (fun _ => ?_) | apply dif | apply dfi | apply dall | apply dand | refine dex (fun _ => ?_))
theorem d_wp9_calculate_208 {x1 : Int32} {x2 : Int32} {s0 : Int64} {S : St} : Dg apU (fun Q => wp9_calculate_208 x1 x2 Q s0 S) := by
  unfold wp9_calculate_208
  with_reducible (repeat' first | exact dR | exact dU | exact dN | exact d_wp9_calculate_235 | refine dcU (W := fun Q => wp9_calculate_235 _ _ Q _ _) d_wp9_calculate_235 (fun _ => ?_) | apply dif | apply dfi | apply dall | apply dand | refine dex (fun _ => ?_))
theorem d_wp9_calculate_185 {x1 : Int32} {x2 : Int32} {s0 : Int64} {S : St} : Dg apU (fun Q => wp9_calculate_185 x1 x2 Q s0 S) := by
  unfold wp9_calculate_185
  with_reducible (repeat' first | exact dR | exact dU | exact dN | exact d_wp9_calculate_235 | refine dcU (W := fun Q => wp9_calculate_235 _ _ Q _ _) d_wp9_calculate_235 (fun _ => ?_) | apply dif | apply dfi | apply dall | apply dand | refine dex (fun _ => ?_))
theorem d_wp9_calculate_162 {x1 : Int32} {x2 : Int32} {s0 : Int64} {S : St} : Dg apU (fun Q => wp9_calculate_162 x1 x2 Q s0 S) := by
  unfold wp9_calculate_162
  with_reducible (repeat' first | exact dR | exact dU | exact dN | exact d_wp9_calculate_235 | refine dcU (W := fun Q => wp9_calculate_235 _ _ Q _ _) d_wp9_calculate_235 (fun _ => ?_) | apply dif | apply dfi | apply dall | apply dand | refine dex (fun _ => ?_))
theorem d_wp9_bits {S : St} {x0 : Int32} {x1 : Int64} {x3 : Int64} {x5 : Int32} : Dg apR (fun Q => wp9_bits S x0 x1 x3 x5 Q) := by
  unfold wp9_bits
  with_reducible (repeat' first | exact dR | exact dU | exact dN | apply dif | apply dfi | apply dall | apply dand | refine dex (fun _ => ?_))
theorem d_wp9_calculate_56 {x1 : Int32} {x2 : Int32} {x3 : Int64} {x5 : Int64} {S : St} : Dg apU (fun Q => wp9_calculate_56 x1 x2 Q x3 x5 S) := by
  unfold wp9_calculate_56
  with_reducible (repeat' first | exact dR | exact dU | exact dN | exact d_wp9_calculate_233 | refine dcU (W := fun Q => wp9_calculate_233 _ _ Q _ _) d_wp9_calculate_233 (fun _ => ?_) | exact d_wp9_calculate_208 | refine dcU (W := fun Q => wp9_calculate_208 _ _ Q _ _) d_wp9_calculate_208 (fun _ => ?_) | exact d_wp9_calculate_185 | refine dcU (W := fun Q => wp9_calculate_185 _ _ Q _ _) d_wp9_calculate_185 (fun _ => ?_) | exact d_wp9_calculate_162 | refine dcU (W := fun Q => wp9_calculate_162 _ _ Q _ _) d_wp9_calculate_162 (fun _ => ?_) | exact d_wp9_bits | refine dcR (W := fun Q => wp9_bits _ _ _ _ _ Q) d_wp9_bits (fun _ _ => ?_) | exact d_wp9_calculate_235 | refine dcU (W := fun Q => wp9_calculate_235 _ _ Q _ _) d_wp9_calculate_235 (fun _ => ?_) | apply dif | apply dfi | apply dall | apply dand | refine dex (fun _ => ?_))
theorem d_wp9_calculate_43 {x1 : Int32} {x2 : Int32} {x3 : Int64} {x5 : Int64} {S : St} : Dg apU (fun Q => wp9_calculate_43 x1 x2 Q x3 x5 S) := by
  unfold wp9_calculate_43
  with_reducible (repeat' first | exact dR | exact dU | exact dN | exact d_wp9_calculate_56 | refine dcU (W := fun Q => wp9_calculate_56 _ _ Q _ _ _) d_wp9_calculate_56 (fun _ => ?_) | apply dif | apply dfi | apply dall | apply dand | refine dex (fun _ => ?_))
theorem d_wp9_calculate {S : St} {x1 : Int32} {x2 : Int32} : Dg apU (fun Q => wp9_calculate S x1 x2 Q) := by
  unfold wp9_calculate
  with_reducible (repeat' first | exact dR | exact dU | exact dN | exact d_wp9_calculate_43 | refine dcU (W := fun Q => wp9_calculate_43 _ _ Q _ _ _) d_wp9_calculate_43 (fun _ => ?_) | exact d_wp9_calculate_56 | refine dcU (W := fun Q => wp9_calculate_56 _ _ Q _ _ _) d_wp9_calculate_56 (fun _ => ?_) | apply dif | apply dfi | apply dall | apply dand | refine dex (fun _ => ?_))
theorem d_wp9_popInt {S : St} : Dg apR (fun Q => wp9_popInt S Q) := by
  unfold wp9_popInt
  with_reducible (repeat' first | exact dR | exact dU | exact dN | apply dif | apply dfi | apply dall | apply dand | refine dex (fun _ => ?_))
theorem d_wp9_access_191 {x1 : Int32} {x2 : Int32} {s1 : Int64} {S : St} : Dg apU (fun Q => wp9_access_191 x1 x2 Q s1 S) := by
  unfold wp9_access_191
  with_reducible (repeat' first | exact dR | exact dU | exact dN | exact d_wp9_push | refine dcU (W := fun Q => wp9_push _ _ _ Q) d_wp9_push (fun _ => ?_) | apply dif | apply dfi | apply dall | apply dand | refine dex (fun _ => ?_))
theorem d_wp9_access_163 {x1 : Int32} {x2 : Int32} {x4 : Int64} {x6 : Int64} {x8 : Int64} {x10 : Int32} {S : St} {K : (St → Prop) → (Int64 → Int64 → Int64 → Int32 → St → Prop)} (hK : ∀ a0 a1 a2 a3 a4, Dg apU (fun Q => K Q a0 a1 a2 a3 a4)) : Dg apU (fun Q => wp9_access_163 (K Q) x1 x2 Q x4 x6 x8 x10 S) := by
  unfold wp9_access_163
  with_reducible (repeat' first | exact dR | exact dU | exact dN | exact hK _ _ _ _ _ | apply dif | apply dfi | apply dall | apply dand | refine dex (fun _ => ?_))
theorem d_wp9_access_105 {x1 : Int32} {x2 : Int32} : ∀ (n : Nat) (v0 : Int64) (v1 : Int64) (v2 : Int64) (v3 : Int32) (S : St), Dg apU (fun Q => wp9_access_105 x1 x2 Q n v0 v1 v2 v3 S) := by
  intro n
  induction n with
  | zero =>
    intro _ _ _ _ _
    exact dN
  | succ n ih =>
    intro _ _ _ _ _
    unfold wp9_access_105
    with_reducible (repeat' first | exact dR | exact dU | exact dN | exact ih _ _ _ _ _ | exact d_wp9_access_191 | refine dcU (W := fun Q => wp9_access_191 _ _ Q _ _) d_wp9_access_191 (fun _ => ?_) | refine d_wp9_access_163 (fun _ _ _ _ _ => ?_) | apply dif | apply dfi | apply dall | apply dand | refine dex (fun _ => ?_))
theorem d_wp9_access_51 {x1 : Int32} {x2 : Int32} {x3 : Int32} {S : St} : Dg apU (fun Q => wp9_access_51 x1 x2 Q x3 S) := by
  unfold wp9_access_51
  with_reducible (repeat' first | exact dR | exact dU | exact dN | exact d_wp9_popInt | refine dcR (W := fun Q => wp9_popInt _ Q) d_wp9_popInt (fun _ _ => ?_) | exact (d_wp9_access_105 _ _ _ _ _ _) | refine dcU (W := fun Q => wp9_access_105 _ _ Q _ _ _ _ _ _) (d_wp9_access_105 _ _ _ _ _ _) (fun _ => ?_) | apply dif | apply dfi | apply dall | apply dand | refine dex (fun _ => ?_))
theorem d_wp9_access_34 {x1 : Int32} {x2 : Int32} {s0 : Int32} {S : St} : Dg apU (fun Q => wp9_access_34 x1 x2 Q s0 S) := by
  unfold wp9_access_34
  with_reducible (repeat' first | exact dR | exact dU | exact dN | exact d_wp9_access_51 | refine dcU (W := fun Q => wp9_access_51 _ _ Q _ _) d_wp9_access_51 (fun _ => ?_) | apply dif | apply dfi | apply dall | apply dand | refine dex (fun _ => ?_))
theorem d_wp9_access_12 {x1 : Int32} {x2 : Int32} {S : St} : Dg apU (fun Q => wp9_access_12 x1 x2 Q S) := by
  unfold wp9_access_12
  with_reducible (repeat' first | exact dR | exact dU | exact dN | exact d_wp9_access_34 | refine dcU (W := fun Q => wp9_access_34 _ _ Q _ _) d_wp9_access_34 (fun _ => ?_) | apply dif | apply dfi | apply dall | apply dand | refine dex (fun _ => ?_))
theorem d_wp9_access_28 {x1 : Int32} {x2 : Int32} {S : St} : Dg apU (fun Q => wp9_access_28 x1 x2 Q S) := by
  unfold wp9_access_28
  with_reducible (repeat' first | exact dR | exact dU | exact dN | exact d_wp9_access_34 | refine dcU (W := fun Q => wp9_access_34 _ _ Q _ _) d_wp9_access_34 (fun _ => ?_) | apply dif | apply dfi | apply dall | apply dand | refine dex (fun _ => ?_))
theorem d_wp9_access {S : St} {x1 : Int32} {x2 : Int32} : Dg apU (fun Q => wp9_access S x1 x2 Q) := by
  unfold wp9_access
  with_reducible (repeat' first | exact dR | exact dU | exact dN | exact d_wp9_access_12 | refine dcU (W := fun Q => wp9_access_12 _ _ Q _) d_wp9_access_12 (fun _ => ?_) | exact d_wp9_access_28 | refine dcU (W := fun Q => wp9_access_28 _ _ Q _) d_wp9_access_28 (fun _ => ?_) | exact d_wp9_access_34 | refine dcU (W := fun Q => wp9_access_34 _ _ Q _ _) d_wp9_access_34 (fun _ => ?_) | apply dif | apply dfi | apply dall | apply dand | refine dex (fun _ => ?_))
theorem d_wp9_plain_29 {x1 : Int32} {x2 : Int32} {S : St} : Dg apU (fun Q => wp9_plain_29 x1 x2 Q S) := by
  unfold wp9_plain_29
  with_reducible (repeat' first | exact dR | exact dU | exact dN | exact d_wp9_plain_62 | refine dcU (W := fun Q => wp9_plain_62 _ _ Q _) d_wp9_plain_62 (fun _ => ?_) | exact d_wp9_measure | refine dcU (W := fun Q => wp9_measure _ _ Q) d_wp9_measure (fun _ => ?_) | exact d_wp9_calculate | refine dcU (W := fun Q => wp9_calculate _ _ _ Q) d_wp9_calculate (fun _ => ?_) | exact d_wp9_access | refine dcU (W := fun Q => wp9_access _ _ _ Q) d_wp9_access (fun _ => ?_) | apply dif | apply dfi | apply dall | apply dand | refine dex (fun _ => ?_))
theorem d_wp9_plain {S : St} {x1 : Int32} {x2 : Int32} : Dg apU (fun Q => wp9_plain S x1 x2 Q) := by
  unfold wp9_plain
  with_reducible (repeat' first | exact dR | exact dU | exact dN | exact d_wp9_plain_29 | refine dcU (W := fun Q => wp9_plain_29 _ _ Q _) d_wp9_plain_29 (fun _ => ?_) | exact d_wp9_push | refine dcU (W := fun Q => wp9_push _ _ _ Q) d_wp9_push (fun _ => ?_) | apply dif | apply dfi | apply dall | apply dand | refine dex (fun _ => ?_))
theorem d_wp9_step_166 {x2 : Int32} {x3 : Int32} {x4 : Int32} {S : St} : Dg apU (fun Q => wp9_step_166 Q x2 x3 x4 S) := by
  unfold wp9_step_166
  with_reducible (repeat' first | exact dR | exact dU | exact dN | exact d_wp9_plain | refine dcU (W := fun Q => wp9_plain _ _ _ Q) d_wp9_plain (fun _ => ?_) | apply dif | apply dfi | apply dall | apply dand | refine dex (fun _ => ?_))
theorem d_wp9_variable_122 {x1 : Int32} {x2 : Int32} {x3 : Int32} {x4 : Int32} {S : St} : Dg apU (fun Q => wp9_variable_122 x1 x2 Q x3 x4 S) := by
  unfold wp9_variable_122
  with_reducible (repeat' first | exact dR | exact dU | exact dN | apply dif | apply dfi | apply dall | apply dand | refine dex (fun _ => ?_))
theorem d_wp9_variable_95 {x1 : Int32} {x2 : Int32} {x3 : Int32} {s0 : Int32} {S : St} : Dg apU (fun Q => wp9_variable_95 x1 x2 Q x3 s0 S) := by
  unfold wp9_variable_95
  with_reducible (repeat' first | exact dR | exact dU | exact dN | exact d_wp9_variable_122 | refine dcU (W := fun Q => wp9_variable_122 _ _ Q _ _ _) d_wp9_variable_122 (fun _ => ?_) | apply dif | apply dfi | apply dall | apply dand | refine dex (fun _ => ?_))
theorem d_wp9_variable_76 {x1 : Int32} {x2 : Int32} {x3 : Int32} {S : St} : Dg apU (fun Q => wp9_variable_76 x1 x2 Q x3 S) := by
  unfold wp9_variable_76
  with_reducible (repeat' first | exact dR | exact dU | exact dN | exact d_wp9_variable_95 | refine dcU (W := fun Q => wp9_variable_95 _ _ Q _ _ _) d_wp9_variable_95 (fun _ => ?_) | apply dif | apply dfi | apply dall | apply dand | refine dex (fun _ => ?_))
theorem d_wp9_variable {S : St} {x1 : Int32} {x2 : Int32} : Dg apU (fun Q => wp9_variable S x1 x2 Q) := by
  unfold wp9_variable
  with_reducible (repeat' first | exact dR | exact dU | exact dN | exact d_wp9_variable_76 | refine dcU (W := fun Q => wp9_variable_76 _ _ Q _ _) d_wp9_variable_76 (fun _ => ?_) | exact d_wp9_push | refine dcU (W := fun Q => wp9_push _ _ _ Q) d_wp9_push (fun _ => ?_) | apply dif | apply dfi | apply dall | apply dand | refine dex (fun _ => ?_))
theorem d_wp9_select {S : St} : Dg apU (fun Q => wp9_select S Q) := by
  unfold wp9_select
  with_reducible (repeat' first | exact dR | exact dU | exact dN | exact d_wp9_popInt | refine dcR (W := fun Q => wp9_popInt _ Q) d_wp9_popInt (fun _ _ => ?_) | apply dif | apply dfi | apply dall | apply dand | refine dex (fun _ => ?_))
theorem d_wp9_step_101 {x2 : Int32} {x3 : Int32} {x4 : Int32} {S : St} : Dg apU (fun Q => wp9_step_101 Q x2 x3 x4 S) := by
  unfold wp9_step_101
  with_reducible (repeat' first | exact dR | exact dU | exact dN | exact d_wp9_step_166 | refine dcU (W := fun Q => wp9_step_166 Q _ _ _ _) d_wp9_step_166 (fun _ => ?_) | exact d_wp9_variable | refine dcU (W := fun Q => wp9_variable _ _ _ Q) d_wp9_variable (fun _ => ?_) | exact d_wp9_select | refine dcU (W := fun Q => wp9_select _ Q) d_wp9_select (fun _ => ?_) | apply dif | apply dfi | apply dall | apply dand | refine dex (fun _ => ?_))
theorem d_wp9_enter {S : St} {x1 : Int32} {x2 : Int32} : Dg apU (fun Q => wp9_enter S x1 x2 Q) := by
  unfold wp9_enter
  with_reducible (repeat' first | exact dR | exact dU | exact dN | apply dif | apply dfi | apply dall | apply dand | refine dex (fun _ => ?_))
theorem d_wp9_call_184 {x1 : Int32} {x2 : Int32} {x3 : Int32} {x4 : Int32} {x5 : Int32} {s1 : Int32} {s2 : UInt64} {S : St} {K : (St → Prop) → (Int32 → Int32 → Int32 → St → Prop)} (hK : ∀ a0 a1 a2 a3, Dg apU (fun Q => K Q a0 a1 a2 a3)) : Dg apU (fun Q => wp9_call_184 (K Q) x1 x2 Q x3 x4 x5 s1 s2 S) := by
  unfold wp9_call_184
  with_reducible (repeat' first | exact dR | exact dU | exact dN | exact hK _ _ _ _ | apply dif | apply dfi | apply dall | apply dand | refine dex (fun _ => ?_))
theorem d_wp9_call_146 {x1 : Int32} {x2 : Int32} {x3 : Int32} {x4 : Int32} {x5 : Int32} {s1 : Int32} {s2 : Int64} {S : St} {K : (St → Prop) → (Int32 → Int32 → Int32 → St → Prop)} (hK : ∀ a0 a1 a2 a3, Dg apU (fun Q => K Q a0 a1 a2 a3)) : Dg apU (fun Q => wp9_call_146 (K Q) x1 x2 Q x3 x4 x5 s1 s2 S) := by
  unfold wp9_call_146
  with_reducible (repeat' first | exact dR | exact dU | exact dN | exact hK _ _ _ _ | refine d_wp9_call_184 (fun _ _ _ _ => ?_) | apply dif | apply dfi | apply dall | apply dand | refine dex (fun _ => ?_))
theorem d_wp9_call_102 {x1 : Int32} {x2 : Int32} : ∀ (n : Nat) (v0 : Int32) (v1 : Int32) (v2 : Int32) (S : St), Dg apU (fun Q => wp9_call_102 x1 x2 Q n v0 v1 v2 S) := by
  intro n
  induction n with
  | zero =>
    intro _ _ _ _
    exact dN
  | succ n ih =>
    intro _ _ _ _
    unfold wp9_call_102
    with_reducible (repeat' first | exact dR | exact dU | exact dN | exact ih _ _ _ _ | exact d_wp9_enter | refine dcU (W := fun Q => wp9_enter _ _ _ Q) d_wp9_enter (fun _ => ?_) | refine d_wp9_call_146 (fun _ _ _ _ => ?_) | apply dif | apply dfi | apply dall | apply dand | refine dex (fun _ => ?_))
theorem d_wp9_call_65 {x1 : Int32} {x2 : Int32} {x3 : Int32} {S : St} : Dg apU (fun Q => wp9_call_65 x1 x2 Q x3 S) := by
  unfold wp9_call_65
  with_reducible (repeat' first | exact dR | exact dU | exact dN | exact (d_wp9_call_102 _ _ _ _ _) | refine dcU (W := fun Q => wp9_call_102 _ _ Q _ _ _ _ _) (d_wp9_call_102 _ _ _ _ _) (fun _ => ?_) | apply dif | apply dfi | apply dall | apply dand | refine dex (fun _ => ?_))
theorem d_wp9_agree_34 {x1 : Int32} {x2 : Int32} : ∀ (n : Nat) (v0 : Int32) (S : St), Dg apR (fun Q => wp9_agree_34 x1 x2 Q n v0 S) := by
  intro n
  induction n with
  | zero =>
    intro _ _
    exact dN
  | succ n ih =>
    intro _ _
    unfold wp9_agree_34
    with_reducible (repeat' first | exact dR | exact dU | exact dN | exact ih _ _ | apply dif | apply dfi | apply dall | apply dand | refine dex (fun _ => ?_))
theorem d_wp9_agree {S : St} {x1 : Int32} {x2 : Int32} : Dg apR (fun Q => wp9_agree S x1 x2 Q) := by
  unfold wp9_agree
  with_reducible (repeat' first | exact dR | exact dU | exact dN | exact (d_wp9_agree_34 _ _ _) | refine dcR (W := fun Q => wp9_agree_34 _ _ Q _ _ _) (d_wp9_agree_34 _ _ _) (fun _ _ => ?_) | apply dif | apply dfi | apply dall | apply dand | refine dex (fun _ => ?_))
theorem d_wp9_call_36 {x1 : Int32} {x2 : Int32} {s0 : Int32} {S : St} : Dg apU (fun Q => wp9_call_36 x1 x2 Q s0 S) := by
  unfold wp9_call_36
  with_reducible (repeat' first | exact dR | exact dU | exact dN | exact d_wp9_agree | refine dcR (W := fun Q => wp9_agree _ _ _ Q) d_wp9_agree (fun _ _ => ?_) | exact d_wp9_call_65 | refine dcU (W := fun Q => wp9_call_65 _ _ Q _ _) d_wp9_call_65 (fun _ => ?_) | apply dif | apply dfi | apply dall | apply dand | refine dex (fun _ => ?_))
theorem d_wp9_call {S : St} {x1 : Int32} {x2 : Int32} : Dg apU (fun Q => wp9_call S x1 x2 Q) := by
  unfold wp9_call
  with_reducible (repeat' first | exact dR | exact dU | exact dN | exact d_wp9_call_65 | refine dcU (W := fun Q => wp9_call_65 _ _ Q _ _) d_wp9_call_65 (fun _ => ?_) | exact d_wp9_popInt | refine dcR (W := fun Q => wp9_popInt _ Q) d_wp9_popInt (fun _ _ => ?_) | exact d_wp9_in | refine dcR (W := fun Q => wp9_in _ _ _ _ Q) d_wp9_in (fun _ _ => ?_) | exact d_wp9_call_36 | refine dcU (W := fun Q => wp9_call_36 _ _ Q _ _) d_wp9_call_36 (fun _ => ?_) | apply dif | apply dfi | apply dall | apply dand | refine dex (fun _ => ?_))
theorem d_wp9_seek_71 {x1 : Int32} {x2 : Int32} {x3 : Int32} {x4 : Int32} {x5 : Int32} {S : St} {K : (Int32 → St → Prop) → (Int32 → Int32 → St → Prop)} (hK : ∀ a0 a1 a2, Dg apR (fun Q => K Q a0 a1 a2)) : Dg apR (fun Q => wp9_seek_71 (K Q) x1 x2 x3 Q x4 x5 S) := by
  unfold wp9_seek_71
  with_reducible (repeat' first | exact dR | exact dU | exact dN | exact hK _ _ _ | exact d_wp9_behind | refine dcR (W := fun Q => wp9_behind _ _ _ Q) d_wp9_behind (fun _ _ => ?_) | apply dif | apply dfi | apply dall | apply dand | refine dex (fun _ => ?_))
theorem d_wp9_seek_56 {x1 : Int32} {x2 : Int32} {x3 : Int32} {x4 : Int32} {x5 : Int32} {S : St} {K : (Int32 → St → Prop) → (Int32 → Int32 → St → Prop)} (hK : ∀ a0 a1 a2, Dg apR (fun Q => K Q a0 a1 a2)) : Dg apR (fun Q => wp9_seek_56 (K Q) x1 x2 x3 Q x4 x5 S) := by
  unfold wp9_seek_56
  with_reducible (repeat' first | exact dR | exact dU | exact dN | exact hK _ _ _ | exact d_wp9_byteAt | refine dcR (W := fun Q => wp9_byteAt _ _ _ Q) d_wp9_byteAt (fun _ _ => ?_) | refine d_wp9_seek_71 (fun _ _ _ => ?_) | apply dif | apply dfi | apply dall | apply dand | refine dex (fun _ => ?_))
theorem d_wp9_seek_38 {x1 : Int32} {x2 : Int32} {x3 : Int32} {x4 : Int32} {x5 : Int32} {S : St} {K : (Int32 → St → Prop) → (Int32 → Int32 → St → Prop)} (hK : ∀ a0 a1 a2, Dg apR (fun Q => K Q a0 a1 a2)) : Dg apR (fun Q => wp9_seek_38 (K Q) x1 x2 x3 Q x4 x5 S) := by
  unfold wp9_seek_38
  with_reducible (repeat' first | exact dR | exact dU | exact dN | exact hK _ _ _ | exact d_wp9_byteAt | refine dcR (W := fun Q => wp9_byteAt _ _ _ Q) d_wp9_byteAt (fun _ _ => ?_) | exact d_wp9_in | refine dcR (W := fun Q => wp9_in _ _ _ _ Q) d_wp9_in (fun _ _ => ?_) | refine d_wp9_seek_56 (fun _ _ _ => ?_) | apply dif | apply dfi | apply dall | apply dand | refine dex (fun _ => ?_))
theorem d_wp9_seek_6 {x1 : Int32} {x2 : Int32} {x3 : Int32} : ∀ (n : Nat) (v0 : Int32) (v1 : Int32) (S : St), Dg apR (fun Q => wp9_seek_6 x1 x2 x3 Q n v0 v1 S) := by
  intro n
  induction n with
  | zero =>
    intro _ _ _
    exact dN
  | succ n ih =>
    intro _ _ _
    unfold wp9_seek_6
    with_reducible (repeat' first | exact dR | exact dU | exact dN | exact ih _ _ _ | refine d_wp9_seek_38 (fun _ _ _ => ?_) | exact d_wp9_byteAt | refine dcR (W := fun Q => wp9_byteAt _ _ _ Q) d_wp9_byteAt (fun _ _ => ?_) | apply dif | apply dfi | apply dall | apply dand | refine dex (fun _ => ?_))
theorem d_wp9_seek {S : St} {x1 : Int32} {x2 : Int32} {x3 : Int32} : Dg apR (fun Q => wp9_seek S x1 x2 x3 Q) := by
  unfold wp9_seek
  with_reducible (repeat' first | exact dR | exact dU | exact dN | exact (d_wp9_seek_6 _ _ _ _) | refine dcR (W := fun Q => wp9_seek_6 _ _ _ Q _ _ _ _) (d_wp9_seek_6 _ _ _ _) (fun _ _ => ?_) | apply dif | apply dfi | apply dall | apply dand | refine dex (fun _ => ?_))
theorem d_wp9_jump_159 {x1 : Int32} {x2 : Int32} {x3 : Int32} {x4 : Int32} {s1 : Int32} {S : St} : Dg apU (fun Q => wp9_jump_159 x1 Q x2 x3 x4 s1 S) := by
  unfold wp9_jump_159
  with_reducible (repeat' first | exact dR | exact dU | exact dN | exact d_wp9_seek | refine dcR (W := fun Q => wp9_seek _ _ _ _ Q) d_wp9_seek (fun _ _ => ?_) | apply dif | apply dfi | apply dall | apply dand | refine dex (fun _ => ?_))
theorem d_wp9_jump_146 {x1 : Int32} {x2 : Int32} {x3 : Int32} {x4 : Int32} {S : St} : Dg apU (fun Q => wp9_jump_146 x1 Q x2 x3 x4 S) := by
  unfold wp9_jump_146
  with_reducible (repeat' first | exact dR | exact dU | exact dN | exact d_wp9_jump_159 | refine dcU (W := fun Q => wp9_jump_159 _ Q _ _ _ _ _) d_wp9_jump_159 (fun _ => ?_) | apply dif | apply dfi | apply dall | apply dand | refine dex (fun _ => ?_))
theorem d_wp9_jump_121 {x1 : Int32} {x2 : Int32} {x3 : Int32} {x4 : Int32} {x5 : Int32} {x6 : Int64} {s0 : UInt64} {S : St} : Dg apU (fun Q => wp9_jump_121 x1 Q x2 x3 x4 x5 x6 s0 S) := by
  unfold wp9_jump_121
  with_reducible (repeat' first | exact dR | exact dU | exact dN | exact d_wp9_jump_146 | refine dcU (W := fun Q => wp9_jump_146 _ Q _ _ _ _) d_wp9_jump_146 (fun _ => ?_) | exact d_wp9_push | refine dcU (W := fun Q => wp9_push _ _ _ Q) d_wp9_push (fun _ => ?_) | apply dif | apply dfi | apply dall | apply dand | refine dex (fun _ => ?_))
theorem d_wp9_jump_99 {x1 : Int32} {x2 : Int32} {x3 : Int32} {x4 : Int32} {x5 : Int32} {s0 : Int64} {S : St} : Dg apU (fun Q => wp9_jump_99 x1 Q x2 x3 x4 x5 s0 S) := by
  unfold wp9_jump_99
  with_reducible (repeat' first | exact dR | exact dU | exact dN | exact d_wp9_jump_121 | refine dcU (W := fun Q => wp9_jump_121 _ Q _ _ _ _ _ _ _) d_wp9_jump_121 (fun _ => ?_) | apply dif | apply dfi | apply dall | apply dand | refine dex (fun _ => ?_))
theorem d_wp9_jump_77 {x1 : Int32} {x2 : Int32} {x3 : Int32} {x4 : Int32} {s0 : Int32} {S : St} : Dg apU (fun Q => wp9_jump_77 x1 Q x2 x3 x4 s0 S) := by
  unfold wp9_jump_77
  with_reducible (repeat' first | exact dR | exact dU | exact dN | exact d_wp9_jump_99 | refine dcU (W := fun Q => wp9_jump_99 _ Q _ _ _ _ _ _) d_wp9_jump_99 (fun _ => ?_) | apply dif | apply dfi | apply dall | apply dand | refine dex (fun _ => ?_))
theorem d_wp9_jump_76 {x1 : Int32} {x2 : Int32} {x3 : Int32} {x4 : Int32} {S : St} : Dg apU (fun Q => wp9_jump_76 x1 Q x2 x3 x4 S) := by
  unfold wp9_jump_76
  with_reducible (repeat' first | exact dR | exact dU | exact dN | exact d_wp9_jump_77 | refine dcU (W := fun Q => wp9_jump_77 _ Q _ _ _ _ _) d_wp9_jump_77 (fun _ => ?_) | apply dif | apply dfi | apply dall | apply dand | refine dex (fun _ => ?_))
theorem d_wp9_jump_56 {x1 : Int32} {x2 : Int32} {x3 : Int32} {s0 : Int32} {S : St} : Dg apU (fun Q => wp9_jump_56 x1 Q x2 x3 s0 S) := by
  unfold wp9_jump_56
  with_reducible (repeat' first | exact dR | exact dU | exact dN | exact d_wp9_jump_76 | refine dcU (W := fun Q => wp9_jump_76 _ Q _ _ _ _) d_wp9_jump_76 (fun _ => ?_) | exact d_wp9_jump_77 | refine dcU (W := fun Q => wp9_jump_77 _ Q _ _ _ _ _) d_wp9_jump_77 (fun _ => ?_) | apply dif | apply dfi | apply dall | apply dand | refine dex (fun _ => ?_))
theorem d_wp9_leave_66 {x1 : Int32} {x2 : Int32} {x3 : Int64} {s0 : UInt64} {S : St} : Dg apU (fun Q => wp9_leave_66 Q x1 x2 x3 s0 S) := by
  unfold wp9_leave_66
  with_reducible (repeat' first | exact dR | exact dU | exact dN | exact d_wp9_push | refine dcU (W := fun Q => wp9_push _ _ _ Q) d_wp9_push (fun _ => ?_) | apply dif | apply dfi | apply dall | apply dand | refine dex (fun _ => ?_))
theorem d_wp9_leave_46 {x1 : Int32} {x2 : Int32} {s0 : Int64} {S : St} : Dg apU (fun Q => wp9_leave_46 Q x1 x2 s0 S) := by
  unfold wp9_leave_46
  with_reducible (repeat' first | exact dR | exact dU | exact dN | exact d_wp9_leave_66 | refine dcU (W := fun Q => wp9_leave_66 Q _ _ _ _ _) d_wp9_leave_66 (fun _ => ?_) | apply dif | apply dfi | apply dall | apply dand | refine dex (fun _ => ?_))
theorem d_wp9_leave_26 {x1 : Int32} {s0 : Int32} {S : St} : Dg apU (fun Q => wp9_leave_26 Q x1 s0 S) := by
  unfold wp9_leave_26
  with_reducible (repeat' first | exact dR | exact dU | exact dN | exact d_wp9_leave_46 | refine dcU (W := fun Q => wp9_leave_46 Q _ _ _ _) d_wp9_leave_46 (fun _ => ?_) | apply dif | apply dfi | apply dall | apply dand | refine dex (fun _ => ?_))
theorem d_wp9_leave {S : St} : Dg apU (fun Q => wp9_leave S Q) := by
  unfold wp9_leave
  with_reducible (repeat' first | exact dR | exact dU | exact dN | exact d_wp9_leave_26 | refine dcU (W := fun Q => wp9_leave_26 Q _ _ _) d_wp9_leave_26 (fun _ => ?_) | apply dif | apply dfi | apply dall | apply dand | refine dex (fun _ => ?_))
theorem d_wp9_jump {S : St} {x1 : Int32} : Dg apU (fun Q => wp9_jump S x1 Q) := by
  unfold wp9_jump
  with_reducible (repeat' first | exact dR | exact dU | exact dN | exact d_wp9_jump_56 | refine dcU (W := fun Q => wp9_jump_56 _ Q _ _ _ _) d_wp9_jump_56 (fun _ => ?_) | exact d_wp9_leave | refine dcU (W := fun Q => wp9_leave _ Q) d_wp9_leave (fun _ => ?_) | apply dif | apply dfi | apply dall | apply dand | refine dex (fun _ => ?_))
theorem d_wp9_moves_207 {x1 : Int32} {x2 : Int32} {x3 : Int32} {s2 : Int32} {s3 : Int32} {s4 : Int32} {S : St} : Dg apU (fun Q => wp9_moves_207 x1 x2 x3 Q s2 s3 s4 S) := by
  unfold wp9_moves_207
  with_reducible (repeat' first | exact dR | exact dU | exact dN | exact d_wp9_byteAt | refine dcR (W := fun Q => wp9_byteAt _ _ _ Q) d_wp9_byteAt (fun _ _ => ?_) | exact d_wp9_jump | refine dcU (W := fun Q => wp9_jump _ _ Q) d_wp9_jump (fun _ => ?_) | apply dif | apply dfi | apply dall | apply dand | refine dex (fun _ => ?_))
theorem d_wp9_block_73 {x1 : Int32} {x2 : Int32} {x3 : Int32} {x4 : Int32} {x5 : Int32} {x6 : Int32} {S : St} : Dg apU (fun Q => wp9_block_73 x1 x2 x3 Q x4 x5 x6 S) := by
  unfold wp9_block_73
  with_reducible (repeat' first | exact dR | exact dU | exact dN | apply dif | apply dfi | apply dall | apply dand | refine dex (fun _ => ?_))
theorem d_wp9_block_45 {x1 : Int32} {x2 : Int32} {x3 : Int32} {x4 : Int32} {x5 : Int32} {s0 : Int32} {S : St} : Dg apU (fun Q => wp9_block_45 x1 x2 x3 Q x4 x5 s0 S) := by
  unfold wp9_block_45
  with_reducible (repeat' first | exact dR | exact dU | exact dN | exact d_wp9_block_73 | refine dcU (W := fun Q => wp9_block_73 _ _ _ Q _ _ _ _) d_wp9_block_73 (fun _ => ?_) | exact d_wp9_byteAt | refine dcR (W := fun Q => wp9_byteAt _ _ _ Q) d_wp9_byteAt (fun _ _ => ?_) | apply dif | apply dfi | apply dall | apply dand | refine dex (fun _ => ?_))
theorem d_wp9_block_17 {x1 : Int32} {x2 : Int32} {x3 : Int32} {s0 : Int32} {S : St} : Dg apU (fun Q => wp9_block_17 x1 x2 x3 Q s0 S) := by
  unfold wp9_block_17
  with_reducible (repeat' first | exact dR | exact dU | exact dN | exact d_wp9_block_45 | refine dcU (W := fun Q => wp9_block_45 _ _ _ Q _ _ _ _) d_wp9_block_45 (fun _ => ?_) | exact d_wp9_seek | refine dcR (W := fun Q => wp9_seek _ _ _ _ Q) d_wp9_seek (fun _ _ => ?_) | apply dif | apply dfi | apply dall | apply dand | refine dex (fun _ => ?_))
theorem d_wp9_block_16 {x1 : Int32} {x2 : Int32} {x3 : Int32} {S : St} : Dg apU (fun Q => wp9_block_16 x1 x2 x3 Q S) := by
  unfold wp9_block_16
  with_reducible (repeat' first | exact dR | exact dU | exact dN | exact d_wp9_block_17 | refine dcU (W := fun Q => wp9_block_17 _ _ _ Q _ _) d_wp9_block_17 (fun _ => ?_) | apply dif | apply dfi | apply dall | apply dand | refine dex (fun _ => ?_))
theorem d_wp9_block {S : St} {x1 : Int32} {x2 : Int32} {x3 : Int32} : Dg apU (fun Q => wp9_block S x1 x2 x3 Q) := by
  unfold wp9_block
  with_reducible (repeat' first | exact dR | exact dU | exact dN | exact d_wp9_block_16 | refine dcU (W := fun Q => wp9_block_16 _ _ _ Q _) d_wp9_block_16 (fun _ => ?_) | exact d_wp9_popInt | refine dcR (W := fun Q => wp9_popInt _ Q) d_wp9_popInt (fun _ _ => ?_) | exact d_wp9_block_17 | refine dcU (W := fun Q => wp9_block_17 _ _ _ Q _ _) d_wp9_block_17 (fun _ => ?_) | apply dif | apply dfi | apply dall | apply dand | refine dex (fun _ => ?_))
theorem d_wp9_moves {S : St} {x1 : Int32} {x2 : Int32} {x3 : Int32} : Dg apU (fun Q => wp9_moves S x1 x2 x3 Q) := by
  unfold wp9_moves
  with_reducible (repeat' first | exact dR | exact dU | exact dN | exact d_wp9_call | refine dcU (W := fun Q => wp9_call _ _ _ Q) d_wp9_call (fun _ => ?_) | exact d_wp9_popInt | refine dcR (W := fun Q => wp9_popInt _ Q) d_wp9_popInt (fun _ _ => ?_) | exact d_wp9_in | refine dcR (W := fun Q => wp9_in _ _ _ _ Q) d_wp9_in (fun _ _ => ?_) | exact d_wp9_moves_207 | refine dcU (W := fun Q => wp9_moves_207 _ _ _ Q _ _ _ _) d_wp9_moves_207 (fun _ => ?_) | exact d_wp9_jump | refine dcU (W := fun Q => wp9_jump _ _ Q) d_wp9_jump (fun _ => ?_) | exact d_wp9_leave | refine dcU (W := fun Q => wp9_leave _ Q) d_wp9_leave (fun _ => ?_) | exact d_wp9_block | refine dcU (W := fun Q => wp9_block _ _ _ _ Q) d_wp9_block (fun _ => ?_) | exact d_wp9_seek | refine dcR (W := fun Q => wp9_seek _ _ _ _ Q) d_wp9_seek (fun _ _ => ?_) | apply dif | apply dfi | apply dall | apply dand | refine dex (fun _ => ?_))
theorem d_wp9_step_48 {x1 : Int32} {x2 : Int32} {s0 : Int32} {S : St} : Dg apU (fun Q => wp9_step_48 Q x1 x2 s0 S) := by
  unfold wp9_step_48
  with_reducible (repeat' first | exact dR | exact dU | exact dN | exact d_wp9_behind | refine dcR (W := fun Q => wp9_behind _ _ _ Q) d_wp9_behind (fun _ _ => ?_) | exact d_wp9_step_101 | refine dcU (W := fun Q => wp9_step_101 Q _ _ _ _) d_wp9_step_101 (fun _ => ?_) | exact d_wp9_moves | refine dcU (W := fun Q => wp9_moves _ _ _ _ Q) d_wp9_moves (fun _ => ?_) | apply dif | apply dfi | apply dall | apply dand | refine dex (fun _ => ?_))
theorem d_wp9_step {S : St} : Dg apU (fun Q => wp9_step S Q) := by
  unfold wp9_step
  with_reducible (repeat' first | exact dR | exact dU | exact dN | exact d_wp9_byteAt | refine dcR (W := fun Q => wp9_byteAt _ _ _ Q) d_wp9_byteAt (fun _ _ => ?_) | exact d_wp9_step_48 | refine dcU (W := fun Q => wp9_step_48 Q _ _ _ _) d_wp9_step_48 (fun _ => ?_) | apply dif | apply dfi | apply dall | apply dand | refine dex (fun _ => ?_))
