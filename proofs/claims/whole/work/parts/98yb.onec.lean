/-! PURE: a step of the class answers one way -/
theorem d_wp4_byteAt {S : St} {o : Nat} {x1 : Int32} : Dg apR (fun Q => wp4_byteAt S o x1 Q) := by
  unfold wp4_byteAt
  with_reducible (repeat' first | exact dR | exact dU | exact dN | apply dif | apply dfi | apply dall | apply dand | refine dex (fun _ => ?_))
theorem d_wp5_signature_71 {x0 : Int32} {S : St} : Dg apR (fun Q => wp5_signature_71 x0 Q S) := by
  unfold wp5_signature_71
  with_reducible (repeat' first | exact dR | exact dU | exact dN | apply dif | apply dfi | apply dall | apply dand | refine dex (fun _ => ?_))
theorem d_wp5_signature_43 {x0 : Int32} {S : St} : Dg apR (fun Q => wp5_signature_43 x0 Q S) := by
  unfold wp5_signature_43
  with_reducible (repeat' first | exact dR | exact dU | exact dN | exact d_wp5_signature_71 | refine dcR (W := fun Q => wp5_signature_71 _ Q _) d_wp5_signature_71 (fun _ _ => ?_) | apply dif | apply dfi | apply dall | apply dand | refine dex (fun _ => ?_))
theorem d_wp5_signature_15 {x0 : Int32} {S : St} : Dg apR (fun Q => wp5_signature_15 x0 Q S) := by
  unfold wp5_signature_15
  with_reducible (repeat' first | exact dR | exact dU | exact dN | exact d_wp5_signature_43 | refine dcR (W := fun Q => wp5_signature_43 _ Q _) d_wp5_signature_43 (fun _ _ => ?_) | apply dif | apply dfi | apply dall | apply dand | refine dex (fun _ => ?_))
theorem d_wp5_signature {S : St} {x0 : Int32} : Dg apR (fun Q => wp5_signature S x0 Q) := by
  unfold wp5_signature
  with_reducible (repeat' first | exact dR | exact dU | exact dN | exact d_wp5_signature_15 | refine dcR (W := fun Q => wp5_signature_15 _ Q _) d_wp5_signature_15 (fun _ _ => ?_) | apply dif | apply dfi | apply dall | apply dand | refine dex (fun _ => ?_))
theorem d_wp5_isKnown_10 {x0 : Int32} {S : St} : Dg apR (fun Q => wp5_isKnown_10 x0 Q S) := by
  unfold wp5_isKnown_10
  with_reducible (repeat' first | exact dR | exact dU | exact dN | exact d_wp5_signature | refine dcR (W := fun Q => wp5_signature _ _ Q) d_wp5_signature (fun _ _ => ?_) | apply dif | apply dfi | apply dall | apply dand | refine dex (fun _ => ?_))
theorem d_wp5_isKnown {S : St} {x0 : Int32} : Dg apR (fun Q => wp5_isKnown S x0 Q) := by
  unfold wp5_isKnown
  with_reducible (repeat' first | exact dR | exact dU | exact dN | exact d_wp5_isKnown_10 | refine dcR (W := fun Q => wp5_isKnown_10 _ Q _) d_wp5_isKnown_10 (fun _ _ => ?_) | apply dif | apply dfi | apply dall | apply dand | refine dex (fun _ => ?_))
theorem d_wp5_hasOperand_22 {x0 : Int32} {S : St} : Dg apR (fun Q => wp5_hasOperand_22 x0 Q S) := by
  unfold wp5_hasOperand_22
  with_reducible (repeat' first | exact dR | exact dU | exact dN | apply dif | apply dfi | apply dall | apply dand | refine dex (fun _ => ?_))
theorem d_wp5_hasOperand_10 {x0 : Int32} {S : St} : Dg apR (fun Q => wp5_hasOperand_10 x0 Q S) := by
  unfold wp5_hasOperand_10
  with_reducible (repeat' first | exact dR | exact dU | exact dN | exact d_wp5_hasOperand_22 | refine dcR (W := fun Q => wp5_hasOperand_22 _ Q _) d_wp5_hasOperand_22 (fun _ _ => ?_) | apply dif | apply dfi | apply dall | apply dand | refine dex (fun _ => ?_))
theorem d_wp5_hasOperand {S : St} {x0 : Int32} : Dg apR (fun Q => wp5_hasOperand S x0 Q) := by
  unfold wp5_hasOperand
  with_reducible (repeat' first | exact dR | exact dU | exact dN | exact d_wp5_hasOperand_10 | refine dcR (W := fun Q => wp5_hasOperand_10 _ Q _) d_wp5_hasOperand_10 (fun _ _ => ?_) | apply dif | apply dfi | apply dall | apply dand | refine dex (fun _ => ?_))
theorem d_wp4_sizeAt {S : St} {o : Nat} {x1 : Int32} : Dg apR (fun Q => wp4_sizeAt S o x1 Q) := by
  unfold wp4_sizeAt
  with_reducible (repeat' first | exact dR | exact dU | exact dN | exact d_wp4_byteAt | refine dcR (W := fun Q => wp4_byteAt _ _ _ Q) d_wp4_byteAt (fun _ _ => ?_) | exact d_wp5_isKnown | refine dcR (W := fun Q => wp5_isKnown _ _ Q) d_wp5_isKnown (fun _ _ => ?_) | exact d_wp5_hasOperand | refine dcR (W := fun Q => wp5_hasOperand _ _ Q) d_wp5_hasOperand (fun _ _ => ?_) | apply dif | apply dfi | apply dall | apply dand | refine dex (fun _ => ?_))
theorem d_wp1_drop {S : St} {o : Nat} : Dg apU (fun Q => wp1_drop S o Q) := by
  unfold wp1_drop
  with_reducible (repeat' first | exact dR | exact dU | exact dN | apply dif | apply dfi | apply dall | apply dand | refine dex (fun _ => ?_))
theorem d_wp1_numberAt {S : St} {o : Nat} {x1 : Int32} : Dg apR (fun Q => wp1_numberAt S o x1 Q) := by
  unfold wp1_numberAt
  with_reducible (repeat' first | exact dR | exact dU | exact dN | apply dif | apply dfi | apply dall | apply dand | refine dex (fun _ => ?_))
theorem d_wp1_takeNumber {S : St} {o : Nat} : Dg apR (fun Q => wp1_takeNumber S o Q) := by
  unfold wp1_takeNumber
  with_reducible (repeat' first | exact dR | exact dU | exact dN | exact d_wp1_drop | refine dcU (W := fun Q => wp1_drop _ _ Q) d_wp1_drop (fun _ => ?_) | exact d_wp1_numberAt | refine dcR (W := fun Q => wp1_numberAt _ _ _ Q) d_wp1_numberAt (fun _ _ => ?_) | apply dif | apply dfi | apply dall | apply dand | refine dex (fun _ => ?_))
theorem d_wp1_takeInt {S : St} {o : Nat} : Dg apR (fun Q => wp1_takeInt S o Q) := by
  unfold wp1_takeInt
  with_reducible (repeat' first | exact dR | exact dU | exact dN | exact d_wp1_takeNumber | refine dcR (W := fun Q => wp1_takeNumber _ _ Q) d_wp1_takeNumber (fun _ _ => ?_) | apply dif | apply dfi | apply dall | apply dand | refine dex (fun _ => ?_))
theorem d_wp1_put {S : St} {o : Nat} {x1 : Int64} {x3 : UInt64} : Dg apU (fun Q => wp1_put S o x1 x3 Q) := by
  unfold wp1_put
  with_reducible (repeat' first | exact dR | exact dU | exact dN | apply dif | apply dfi | apply dall | apply dand | refine dex (fun _ => ?_))
theorem d_wp1_putNumber {S : St} {o : Nat} {x1 : Int64} : Dg apU (fun Q => wp1_putNumber S o x1 Q) := by
  unfold wp1_putNumber
  with_reducible (repeat' first | exact dR | exact dU | exact dN | exact d_wp1_put | refine dcU (W := fun Q => wp1_put _ _ _ _ Q) d_wp1_put (fun _ => ?_) | apply dif | apply dfi | apply dall | apply dand | refine dex (fun _ => ?_))
theorem d_wp1_putReal {S : St} {o : Nat} {x1 : UInt64} : Dg apU (fun Q => wp1_putReal S o x1 Q) := by
  unfold wp1_putReal
  with_reducible (repeat' first | exact dR | exact dU | exact dN | exact d_wp1_put | refine dcU (W := fun Q => wp1_put _ _ _ _ Q) d_wp1_put (fun _ => ?_) | apply dif | apply dfi | apply dall | apply dand | refine dex (fun _ => ?_))
theorem d_wp1_realAt {S : St} {o : Nat} {x1 : Int32} : Dg apR (fun Q => wp1_realAt S o x1 Q) := by
  unfold wp1_realAt
  with_reducible (repeat' first | exact dR | exact dU | exact dN | apply dif | apply dfi | apply dall | apply dand | refine dex (fun _ => ?_))
theorem d_wp1_takeReal {S : St} {o : Nat} : Dg apR (fun Q => wp1_takeReal S o Q) := by
  unfold wp1_takeReal
  with_reducible (repeat' first | exact dR | exact dU | exact dN | exact d_wp1_drop | refine dcU (W := fun Q => wp1_drop _ _ Q) d_wp1_drop (fun _ => ?_) | exact d_wp1_realAt | refine dcR (W := fun Q => wp1_realAt _ _ _ Q) d_wp1_realAt (fun _ _ => ?_) | apply dif | apply dfi | apply dall | apply dand | refine dex (fun _ => ?_))
theorem d_wp6_cut {S : St} {a0 : Nat} : Dg apR (fun Q => wp6_cut S a0 Q) := by
  unfold wp6_cut
  with_reducible (repeat' first | exact dR | exact dU | exact dN | exact d_wp1_takeReal | refine dcR (W := fun Q => wp1_takeReal _ _ Q) d_wp1_takeReal (fun _ _ => ?_) | exact d_wp1_putNumber | refine dcU (W := fun Q => wp1_putNumber _ _ _ Q) d_wp1_putNumber (fun _ => ?_) | apply dif | apply dfi | apply dall | apply dand | refine dex (fun _ => ?_))
theorem d_wp6_convert {S : St} {a0 : Nat} {x1 : Int32} : Dg apR (fun Q => wp6_convert S a0 x1 Q) := by
  unfold wp6_convert
  with_reducible (repeat' first | exact dR | exact dU | exact dN | exact d_wp1_takeInt | refine dcR (W := fun Q => wp1_takeInt _ _ Q) d_wp1_takeInt (fun _ _ => ?_) | exact d_wp1_putNumber | refine dcU (W := fun Q => wp1_putNumber _ _ _ Q) d_wp1_putNumber (fun _ => ?_) | exact d_wp1_takeNumber | refine dcR (W := fun Q => wp1_takeNumber _ _ Q) d_wp1_takeNumber (fun _ _ => ?_) | exact d_wp1_putReal | refine dcU (W := fun Q => wp1_putReal _ _ _ Q) d_wp1_putReal (fun _ => ?_) | exact d_wp6_cut | refine dcR (W := fun Q => wp6_cut _ _ Q) d_wp6_cut (fun _ _ => ?_) | apply dif | apply dfi | apply dall | apply dand | refine dex (fun _ => ?_))
theorem d_wp1_putTruth_10 {o : Nat} {x1 : Int32} {t0 : Nat} {s1 : Int64} {S : St} : Dg apU (fun Q => wp1_putTruth_10 o x1 Q t0 s1 S) := by
  unfold wp1_putTruth_10
  with_reducible (repeat' first | exact dR | exact dU | exact dN | exact d_wp1_put | refine dcU (W := fun Q => wp1_put _ _ _ _ Q) d_wp1_put (fun _ => ?_) | apply dif | apply dfi | apply dall | apply dand | refine dex (fun _ => ?_))
theorem d_wp1_putTruth {S : St} {o : Nat} {x1 : Int32} : Dg apU (fun Q => wp1_putTruth S o x1 Q) := by
  unfold wp1_putTruth
  with_reducible (repeat' first | exact dR | exact dU | exact dN | exact d_wp1_putTruth_10 | refine dcU (W := fun Q => wp1_putTruth_10 _ _ Q _ _ _) d_wp1_putTruth_10 (fun _ => ?_) | apply dif | apply dfi | apply dall | apply dand | refine dex (fun _ => ?_))
theorem d_wp6_stepReals_86 {a0 : Nat} {x1 : Int32} {t0 : Nat} {s1 : Int32} {S : St} : Dg apR (fun Q => wp6_stepReals_86 a0 x1 Q t0 s1 S) := by
  unfold wp6_stepReals_86
  with_reducible (repeat' first | exact dR | exact dU | exact dN | exact d_wp1_putTruth | refine dcU (W := fun Q => wp1_putTruth _ _ _ Q) d_wp1_putTruth (fun _ => ?_) | apply dif | apply dfi | apply dall | apply dand | refine dex (fun _ => ?_))
theorem d_wp6_stepReals_52 {a0 : Nat} {x1 : Int32} {x2 : UInt64} {x4 : UInt64} {S : St} : Dg apR (fun Q => wp6_stepReals_52 a0 x1 Q x2 x4 S) := by
  unfold wp6_stepReals_52
  with_reducible (repeat' first | exact dR | exact dU | exact dN | exact d_wp6_stepReals_86 | refine dcR (W := fun Q => wp6_stepReals_86 _ _ Q _ _ _) d_wp6_stepReals_86 (fun _ _ => ?_) | apply dif | apply dfi | apply dall | apply dand | refine dex (fun _ => ?_))
theorem d_wp6_ofReals {S : St} {x0 : Int32} {x1 : UInt64} {x3 : UInt64} : Dg apR (fun Q => wp6_ofReals S x0 x1 x3 Q) := by
  unfold wp6_ofReals
  with_reducible (repeat' first | exact dR | exact dU | exact dN | apply dif | apply dfi | apply dall | apply dand | refine dex (fun _ => ?_))
theorem d_wp6_stepReals_40 {a0 : Nat} {x1 : Int32} {x2 : UInt64} {x4 : UInt64} {S : St} : Dg apR (fun Q => wp6_stepReals_40 a0 x1 Q x2 x4 S) := by
  unfold wp6_stepReals_40
  with_reducible (repeat' first | exact dR | exact dU | exact dN | exact d_wp6_stepReals_52 | refine dcR (W := fun Q => wp6_stepReals_52 _ _ Q _ _ _) d_wp6_stepReals_52 (fun _ _ => ?_) | exact d_wp6_ofReals | refine dcR (W := fun Q => wp6_ofReals _ _ _ _ Q) d_wp6_ofReals (fun _ _ => ?_) | exact d_wp1_putReal | refine dcU (W := fun Q => wp1_putReal _ _ _ Q) d_wp1_putReal (fun _ => ?_) | apply dif | apply dfi | apply dall | apply dand | refine dex (fun _ => ?_))
theorem d_wp6_stepReals {S : St} {a0 : Nat} {x1 : Int32} : Dg apR (fun Q => wp6_stepReals S a0 x1 Q) := by
  unfold wp6_stepReals
  with_reducible (repeat' first | exact dR | exact dU | exact dN | exact d_wp1_takeReal | refine dcR (W := fun Q => wp1_takeReal _ _ Q) d_wp1_takeReal (fun _ _ => ?_) | exact d_wp6_stepReals_40 | refine dcR (W := fun Q => wp6_stepReals_40 _ _ Q _ _ _) d_wp6_stepReals_40 (fun _ _ => ?_) | exact d_wp1_putReal | refine dcU (W := fun Q => wp1_putReal _ _ _ Q) d_wp1_putReal (fun _ => ?_) | apply dif | apply dfi | apply dall | apply dand | refine dex (fun _ => ?_))
theorem d_wp6_stepLongs_72 {a0 : Nat} {x1 : Int32} {t0 : Nat} {s1 : Int64} {S : St} : Dg apR (fun Q => wp6_stepLongs_72 a0 x1 Q t0 s1 S) := by
  unfold wp6_stepLongs_72
  with_reducible (repeat' first | exact dR | exact dU | exact dN | exact d_wp1_putNumber | refine dcU (W := fun Q => wp1_putNumber _ _ _ Q) d_wp1_putNumber (fun _ => ?_) | apply dif | apply dfi | apply dall | apply dand | refine dex (fun _ => ?_))
theorem d_wp6_stepLongs_46 {a0 : Nat} {x1 : Int32} {x2 : Int64} {x4 : Int64} {S : St} : Dg apR (fun Q => wp6_stepLongs_46 a0 x1 Q x2 x4 S) := by
  unfold wp6_stepLongs_46
  with_reducible (repeat' first | exact dR | exact dU | exact dN | exact d_wp6_stepLongs_72 | refine dcR (W := fun Q => wp6_stepLongs_72 _ _ Q _ _ _) d_wp6_stepLongs_72 (fun _ _ => ?_) | apply dif | apply dfi | apply dall | apply dand | refine dex (fun _ => ?_))
theorem d_wp6_ofLongs {S : St} {x0 : Int32} {x1 : Int64} {x3 : Int64} : Dg apR (fun Q => wp6_ofLongs S x0 x1 x3 Q) := by
  unfold wp6_ofLongs
  with_reducible (repeat' first | exact dR | exact dU | exact dN | apply dif | apply dfi | apply dall | apply dand | refine dex (fun _ => ?_))
theorem d_wp6_stepLongs_23 {a0 : Nat} {x1 : Int32} {t0 : Nat} {s1 : Int32} {S : St} : Dg apR (fun Q => wp6_stepLongs_23 a0 x1 Q t0 s1 S) := by
  unfold wp6_stepLongs_23
  with_reducible (repeat' first | exact dR | exact dU | exact dN | exact d_wp1_putTruth | refine dcU (W := fun Q => wp1_putTruth _ _ _ Q) d_wp1_putTruth (fun _ => ?_) | apply dif | apply dfi | apply dall | apply dand | refine dex (fun _ => ?_))
theorem d_wp6_stepLongs {S : St} {a0 : Nat} {x1 : Int32} : Dg apR (fun Q => wp6_stepLongs S a0 x1 Q) := by
  unfold wp6_stepLongs
  with_reducible (repeat' first | exact dR | exact dU | exact dN | exact d_wp1_takeNumber | refine dcR (W := fun Q => wp1_takeNumber _ _ Q) d_wp1_takeNumber (fun _ _ => ?_) | exact d_wp6_stepLongs_46 | refine dcR (W := fun Q => wp6_stepLongs_46 _ _ Q _ _ _) d_wp6_stepLongs_46 (fun _ _ => ?_) | exact d_wp6_ofLongs | refine dcR (W := fun Q => wp6_ofLongs _ _ _ _ Q) d_wp6_ofLongs (fun _ _ => ?_) | exact d_wp1_putNumber | refine dcU (W := fun Q => wp1_putNumber _ _ _ Q) d_wp1_putNumber (fun _ => ?_) | exact d_wp6_stepLongs_23 | refine dcR (W := fun Q => wp6_stepLongs_23 _ _ Q _ _ _) d_wp6_stepLongs_23 (fun _ _ => ?_) | apply dif | apply dfi | apply dall | apply dand | refine dex (fun _ => ?_))
theorem d_wp6_stepInts_67 {a0 : Nat} {x1 : Int32} {t0 : Nat} {s1 : Int64} {S : St} : Dg apR (fun Q => wp6_stepInts_67 a0 x1 Q t0 s1 S) := by
  unfold wp6_stepInts_67
  with_reducible (repeat' first | exact dR | exact dU | exact dN | exact d_wp1_putNumber | refine dcU (W := fun Q => wp1_putNumber _ _ _ Q) d_wp1_putNumber (fun _ => ?_) | apply dif | apply dfi | apply dall | apply dand | refine dex (fun _ => ?_))
theorem d_wp6_stepInts_43 {a0 : Nat} {x1 : Int32} {x2 : Int32} {x3 : Int32} {S : St} : Dg apR (fun Q => wp6_stepInts_43 a0 x1 Q x2 x3 S) := by
  unfold wp6_stepInts_43
  with_reducible (repeat' first | exact dR | exact dU | exact dN | exact d_wp6_stepInts_67 | refine dcR (W := fun Q => wp6_stepInts_67 _ _ Q _ _ _) d_wp6_stepInts_67 (fun _ _ => ?_) | apply dif | apply dfi | apply dall | apply dand | refine dex (fun _ => ?_))
theorem d_wp6_ofInts {S : St} {x0 : Int32} {x1 : Int32} {x2 : Int32} : Dg apR (fun Q => wp6_ofInts S x0 x1 x2 Q) := by
  unfold wp6_ofInts
  with_reducible (repeat' first | exact dR | exact dU | exact dN | apply dif | apply dfi | apply dall | apply dand | refine dex (fun _ => ?_))
theorem d_wp6_stepInts_21 {a0 : Nat} {x1 : Int32} {t0 : Nat} {s1 : Int32} {S : St} : Dg apR (fun Q => wp6_stepInts_21 a0 x1 Q t0 s1 S) := by
  unfold wp6_stepInts_21
  with_reducible (repeat' first | exact dR | exact dU | exact dN | exact d_wp1_putTruth | refine dcU (W := fun Q => wp1_putTruth _ _ _ Q) d_wp1_putTruth (fun _ => ?_) | apply dif | apply dfi | apply dall | apply dand | refine dex (fun _ => ?_))
theorem d_wp6_stepInts {S : St} {a0 : Nat} {x1 : Int32} : Dg apR (fun Q => wp6_stepInts S a0 x1 Q) := by
  unfold wp6_stepInts
  with_reducible (repeat' first | exact dR | exact dU | exact dN | exact d_wp1_takeInt | refine dcR (W := fun Q => wp1_takeInt _ _ Q) d_wp1_takeInt (fun _ _ => ?_) | exact d_wp6_stepInts_43 | refine dcR (W := fun Q => wp6_stepInts_43 _ _ Q _ _ _) d_wp6_stepInts_43 (fun _ _ => ?_) | exact d_wp6_ofInts | refine dcR (W := fun Q => wp6_ofInts _ _ _ _ Q) d_wp6_ofInts (fun _ _ => ?_) | exact d_wp1_putNumber | refine dcU (W := fun Q => wp1_putNumber _ _ _ Q) d_wp1_putNumber (fun _ => ?_) | exact d_wp6_stepInts_21 | refine dcR (W := fun Q => wp6_stepInts_21 _ _ Q _ _ _) d_wp6_stepInts_21 (fun _ _ => ?_) | apply dif | apply dfi | apply dall | apply dand | refine dex (fun _ => ?_))
theorem d_wp6_sizeInMemory {S : St} {x0 : Int32} : Dg apR (fun Q => wp6_sizeInMemory S x0 Q) := by
  unfold wp6_sizeInMemory
  with_reducible (repeat' first | exact dR | exact dU | exact dN | apply dif | apply dfi | apply dall | apply dand | refine dex (fun _ => ?_))
theorem d_wp7_holds {S : St} {x1 : Int64} {x3 : Int32} : Dg apR (fun Q => wp7_holds S x1 x3 Q) := by
  unfold wp7_holds
  with_reducible (repeat' first | exact dR | exact dU | exact dN | apply dif | apply dfi | apply dall | apply dand | refine dex (fun _ => ?_))
theorem d_wp7_byteAt {S : St} {x1 : Int32} : Dg apR (fun Q => wp7_byteAt S x1 Q) := by
  unfold wp7_byteAt
  with_reducible (repeat' first | exact dR | exact dU | exact dN | apply dif | apply dfi | apply dall | apply dand | refine dex (fun _ => ?_))
theorem d_wp7_load_7 {x1 : Int32} {x2 : Int32} : ∀ (n : Nat) (v0 : Int64) (v1 : Int32) (S : St), Dg apR (fun Q => wp7_load_7 x1 x2 Q n v0 v1 S) := by
  intro n
  induction n with
  | zero =>
    intro _ _ _
    exact dN
  | succ n ih =>
    intro _ _ _
    unfold wp7_load_7
    with_reducible (repeat' first | exact dR | exact dU | exact dN | exact ih _ _ _ | exact d_wp7_byteAt | refine dcR (W := fun Q => wp7_byteAt _ _ Q) d_wp7_byteAt (fun _ _ => ?_) | apply dif | apply dfi | apply dall | apply dand | refine dex (fun _ => ?_))
theorem d_wp7_load {S : St} {x1 : Int32} {x2 : Int32} : Dg apR (fun Q => wp7_load S x1 x2 Q) := by
  unfold wp7_load
  with_reducible (repeat' first | exact dR | exact dU | exact dN | exact (d_wp7_load_7 _ _ _ _) | refine dcR (W := fun Q => wp7_load_7 _ _ Q _ _ _ _) (d_wp7_load_7 _ _ _ _) (fun _ _ => ?_) | apply dif | apply dfi | apply dall | apply dand | refine dex (fun _ => ?_))
theorem d_wp7_store_46 {x1 : Int32} {x2 : Int32} {x3 : Int64} {x5 : Int32} {S : St} {K : (St → Prop) → (Int32 → St → Prop)} (hK : ∀ a0 a1, Dg apU (fun Q => K Q a0 a1)) : Dg apU (fun Q => wp7_store_46 (K Q) x1 x2 x3 Q x5 S) := by
  unfold wp7_store_46
  with_reducible (repeat' first | exact dR | exact dU | exact dN | exact hK _ _ | apply dif | apply dfi | apply dall | apply dand | refine dex (fun _ => ?_))
theorem d_wp7_store_3 {x1 : Int32} {x2 : Int32} {x3 : Int64} : ∀ (n : Nat) (v0 : Int32) (S : St), Dg apU (fun Q => wp7_store_3 x1 x2 x3 Q n v0 S) := by
  intro n
  induction n with
  | zero =>
    intro _ _
    exact dN
  | succ n ih =>
    intro _ _
    unfold wp7_store_3
    with_reducible (repeat' first | exact dR | exact dU | exact dN | exact ih _ _ | refine d_wp7_store_46 (fun _ _ => ?_) | apply dif | apply dfi | apply dall | apply dand | refine dex (fun _ => ?_))
theorem d_wp7_store {S : St} {x1 : Int32} {x2 : Int32} {x3 : Int64} : Dg apU (fun Q => wp7_store S x1 x2 x3 Q) := by
  unfold wp7_store
  with_reducible (repeat' first | exact dR | exact dU | exact dN | exact (d_wp7_store_3 _ _ _) | refine dcU (W := fun Q => wp7_store_3 _ _ _ Q _ _ _) (d_wp7_store_3 _ _ _) (fun _ => ?_) | apply dif | apply dfi | apply dall | apply dand | refine dex (fun _ => ?_))
theorem d_wp6_stepMemory_26 {a1 : Nat} {x2 : Int32} {x3 : Int32} {x4 : Int32} {s0 : Int64} {S : St} : Dg apR (fun Q => wp6_stepMemory_26 a1 x2 x3 Q x4 s0 S) := by
  unfold wp6_stepMemory_26
  with_reducible (repeat' first | exact dR | exact dU | exact dN | exact d_wp1_takeInt | refine dcR (W := fun Q => wp1_takeInt _ _ Q) d_wp1_takeInt (fun _ _ => ?_) | exact d_wp6_sizeInMemory | refine dcR (W := fun Q => wp6_sizeInMemory _ _ Q) d_wp6_sizeInMemory (fun _ _ => ?_) | exact d_wp7_holds | refine dcR (W := fun Q => wp7_holds _ _ _ Q) d_wp7_holds (fun _ _ => ?_) | exact d_wp7_load | refine dcR (W := fun Q => wp7_load _ _ _ Q) d_wp7_load (fun _ _ => ?_) | exact d_wp1_putNumber | refine dcU (W := fun Q => wp1_putNumber _ _ _ Q) d_wp1_putNumber (fun _ => ?_) | exact d_wp7_store | refine dcU (W := fun Q => wp7_store _ _ _ _ Q) d_wp7_store (fun _ => ?_) | apply dif | apply dfi | apply dall | apply dand | refine dex (fun _ => ?_))
theorem d_wp6_stepMemory_11 {a1 : Nat} {x2 : Int32} {x3 : Int32} {s0 : Int32} {S : St} : Dg apR (fun Q => wp6_stepMemory_11 a1 x2 x3 Q s0 S) := by
  unfold wp6_stepMemory_11
  with_reducible (repeat' first | exact dR | exact dU | exact dN | exact d_wp6_stepMemory_26 | refine dcR (W := fun Q => wp6_stepMemory_26 _ _ _ Q _ _ _) d_wp6_stepMemory_26 (fun _ _ => ?_) | exact d_wp1_takeNumber | refine dcR (W := fun Q => wp1_takeNumber _ _ Q) d_wp1_takeNumber (fun _ _ => ?_) | apply dif | apply dfi | apply dall | apply dand | refine dex (fun _ => ?_))
theorem d_wp6_stepMemory {S : St} {a1 : Nat} {x2 : Int32} {x3 : Int32} : Dg apR (fun Q => wp6_stepMemory S a1 x2 x3 Q) := by
  unfold wp6_stepMemory
  with_reducible (repeat' first | exact dR | exact dU | exact dN | exact d_wp6_stepMemory_11 | refine dcR (W := fun Q => wp6_stepMemory_11 _ _ _ Q _ _) d_wp6_stepMemory_11 (fun _ _ => ?_) | apply dif | apply dfi | apply dall | apply dand | refine dex (fun _ => ?_))
theorem d_wp6_stepNumbers {S : St} {a1 : Nat} {x2 : Int32} {x3 : Int32} : Dg apR (fun Q => wp6_stepNumbers S a1 x2 x3 Q) := by
  unfold wp6_stepNumbers
  with_reducible (repeat' first | exact dR | exact dU | exact dN | exact d_wp6_convert | refine dcR (W := fun Q => wp6_convert _ _ _ Q) d_wp6_convert (fun _ _ => ?_) | exact d_wp6_stepReals | refine dcR (W := fun Q => wp6_stepReals _ _ _ Q) d_wp6_stepReals (fun _ _ => ?_) | exact d_wp6_stepLongs | refine dcR (W := fun Q => wp6_stepLongs _ _ _ Q) d_wp6_stepLongs (fun _ _ => ?_) | exact d_wp6_stepInts | refine dcR (W := fun Q => wp6_stepInts _ _ _ Q) d_wp6_stepInts (fun _ _ => ?_) | exact d_wp6_stepMemory | refine dcR (W := fun Q => wp6_stepMemory _ _ _ _ Q) d_wp6_stepMemory (fun _ _ => ?_) | apply dif | apply dfi | apply dall | apply dand | refine dex (fun _ => ?_))
theorem d_wp1_height {S : St} {o : Nat} : Dg apR (fun Q => wp1_height S o Q) := by
  unfold wp1_height
  with_reducible (repeat' first | exact dR | exact dU | exact dN | apply dif | apply dfi | apply dall | apply dand | refine dex (fun _ => ?_))
theorem d_wp6_select_33 {a1 : Nat} {S : St} : Dg apU (fun Q => wp6_select_33 a1 Q S) := by
  unfold wp6_select_33
  with_reducible (repeat' first | exact dR | exact dU | exact dN | exact d_wp1_drop | refine dcU (W := fun Q => wp1_drop _ _ Q) d_wp1_drop (fun _ => ?_) | apply dif | apply dfi | apply dall | apply dand | refine dex (fun _ => ?_))
theorem d_wp1_set {S : St} {o : Nat} {x1 : Int32} {x2 : Int64} {x4 : UInt64} : Dg apU (fun Q => wp1_set S o x1 x2 x4 Q) := by
  unfold wp1_set
  with_reducible (repeat' first | exact dR | exact dU | exact dN | apply dif | apply dfi | apply dall | apply dand | refine dex (fun _ => ?_))
theorem d_wp1_setFrom {S : St} {o : Nat} {x1 : Int32} {a2 : Nat} {x3 : Int32} : Dg apU (fun Q => wp1_setFrom S o x1 a2 x3 Q) := by
  unfold wp1_setFrom
  with_reducible (repeat' first | exact dR | exact dU | exact dN | exact d_wp1_numberAt | refine dcR (W := fun Q => wp1_numberAt _ _ _ Q) d_wp1_numberAt (fun _ _ => ?_) | exact d_wp1_realAt | refine dcR (W := fun Q => wp1_realAt _ _ _ Q) d_wp1_realAt (fun _ _ => ?_) | exact d_wp1_set | refine dcU (W := fun Q => wp1_set _ _ _ _ _ Q) d_wp1_set (fun _ => ?_) | apply dif | apply dfi | apply dall | apply dand | refine dex (fun _ => ?_))
theorem d_wp6_select_12 {a1 : Nat} {s0 : Int32} {S : St} : Dg apU (fun Q => wp6_select_12 a1 Q s0 S) := by
  unfold wp6_select_12
  with_reducible (repeat' first | exact dR | exact dU | exact dN | exact d_wp1_height | refine dcR (W := fun Q => wp1_height _ _ Q) d_wp1_height (fun _ _ => ?_) | exact d_wp6_select_33 | refine dcU (W := fun Q => wp6_select_33 _ Q _) d_wp6_select_33 (fun _ => ?_) | exact d_wp1_setFrom | refine dcU (W := fun Q => wp1_setFrom _ _ _ _ _ Q) d_wp1_setFrom (fun _ => ?_) | apply dif | apply dfi | apply dall | apply dand | refine dex (fun _ => ?_))
theorem d_wp6_select {S : St} {a1 : Nat} : Dg apU (fun Q => wp6_select S a1 Q) := by
  unfold wp6_select
  with_reducible (repeat' first | exact dR | exact dU | exact dN | exact d_wp1_takeInt | refine dcR (W := fun Q => wp1_takeInt _ _ Q) d_wp1_takeInt (fun _ _ => ?_) | exact d_wp6_select_12 | refine dcU (W := fun Q => wp6_select_12 _ Q _ _) d_wp6_select_12 (fun _ => ?_) | apply dif | apply dfi | apply dall | apply dand | refine dex (fun _ => ?_))
theorem d_wp1_putFrom {S : St} {o : Nat} {a1 : Nat} {x2 : Int32} : Dg apU (fun Q => wp1_putFrom S o a1 x2 Q) := by
  unfold wp1_putFrom
  with_reducible (repeat' first | exact dR | exact dU | exact dN | exact d_wp1_numberAt | refine dcR (W := fun Q => wp1_numberAt _ _ _ Q) d_wp1_numberAt (fun _ _ => ?_) | exact d_wp1_realAt | refine dcR (W := fun Q => wp1_realAt _ _ _ Q) d_wp1_realAt (fun _ _ => ?_) | exact d_wp1_put | refine dcU (W := fun Q => wp1_put _ _ _ _ Q) d_wp1_put (fun _ => ?_) | apply dif | apply dfi | apply dall | apply dand | refine dex (fun _ => ?_))
theorem d_wp6_stepValues {S : St} {a1 : Nat} {x2 : Int32} {x3 : Int32} : Dg apR (fun Q => wp6_stepValues S a1 x2 x3 Q) := by
  unfold wp6_stepValues
  with_reducible (repeat' first | exact dR | exact dU | exact dN | exact d_wp1_height | refine dcR (W := fun Q => wp1_height _ _ Q) d_wp1_height (fun _ _ => ?_) | exact d_wp1_drop | refine dcU (W := fun Q => wp1_drop _ _ Q) d_wp1_drop (fun _ => ?_) | exact d_wp6_select | refine dcU (W := fun Q => wp6_select _ _ Q) d_wp6_select (fun _ => ?_) | exact d_wp1_putFrom | refine dcU (W := fun Q => wp1_putFrom _ _ _ _ Q) d_wp1_putFrom (fun _ => ?_) | exact d_wp1_setFrom | refine dcU (W := fun Q => wp1_setFrom _ _ _ _ _ Q) d_wp1_setFrom (fun _ => ?_) | exact d_wp1_putReal | refine dcU (W := fun Q => wp1_putReal _ _ _ Q) d_wp1_putReal (fun _ => ?_) | exact d_wp1_putNumber | refine dcU (W := fun Q => wp1_putNumber _ _ _ Q) d_wp1_putNumber (fun _ => ?_) | apply dif | apply dfi | apply dall | apply dand | refine dex (fun _ => ?_))
theorem d_wp8_isFunction {S : St} {x0 : Int32} : Dg apR (fun Q => wp8_isFunction S x0 Q) := by
  unfold wp8_isFunction
  with_reducible (repeat' first | exact dR | exact dU | exact dN | apply dif | apply dfi | apply dall | apply dand | refine dex (fun _ => ?_))
theorem d_wp4_length {S : St} {o : Nat} : Dg apR (fun Q => wp4_length S o Q) := by
  unfold wp4_length
  with_reducible (repeat' first | exact dR | exact dU | exact dN | apply dif | apply dfi | apply dall | apply dand | refine dex (fun _ => ?_))
theorem d_wp4_kindOf {S : St} {o : Nat} {x1 : Int32} : Dg apR (fun Q => wp4_kindOf S o x1 Q) := by
  unfold wp4_kindOf
  with_reducible (repeat' first | exact dR | exact dU | exact dN | apply dif | apply dfi | apply dall | apply dand | refine dex (fun _ => ?_))
theorem d_wp4_isCalledLike_26 {o : Nat} {a1 : Nat} : ∀ (n : Nat) (v0 : Int32) (S : St), Dg apR (fun Q => wp4_isCalledLike_26 o a1 Q n v0 S) := by
  intro n
  induction n with
  | zero =>
    intro _ _
    exact dN
  | succ n ih =>
    intro _ _
    unfold wp4_isCalledLike_26
    with_reducible (repeat' first | exact dR | exact dU | exact dN | exact ih _ _ | exact d_wp4_kindOf | refine dcR (W := fun Q => wp4_kindOf _ _ _ Q) d_wp4_kindOf (fun _ _ => ?_) | apply dif | apply dfi | apply dall | apply dand | refine dex (fun _ => ?_))
theorem d_wp4_isCalledLike {S : St} {o : Nat} {a1 : Nat} : Dg apR (fun Q => wp4_isCalledLike S o a1 Q) := by
  unfold wp4_isCalledLike
  with_reducible (repeat' first | exact dR | exact dU | exact dN | exact (d_wp4_isCalledLike_26 _ _ _) | refine dcR (W := fun Q => wp4_isCalledLike_26 _ _ Q _ _ _) (d_wp4_isCalledLike_26 _ _ _) (fun _ _ => ?_) | apply dif | apply dfi | apply dall | apply dand | refine dex (fun _ => ?_))
theorem d_wp1_clear_2 {o : Nat} : ∀ (n : Nat) (v0 : Int32) (S : St), Dg apU (fun Q => wp1_clear_2 o Q n v0 S) := by
  intro n
  induction n with
  | zero =>
    intro _ _
    exact dN
  | succ n ih =>
    intro _ _
    unfold wp1_clear_2
    with_reducible (repeat' first | exact dR | exact dU | exact dN | exact ih _ _ | exact d_wp1_set | refine dcU (W := fun Q => wp1_set _ _ _ _ _ Q) d_wp1_set (fun _ => ?_) | apply dif | apply dfi | apply dall | apply dand | refine dex (fun _ => ?_))
theorem d_wp1_clear {S : St} {o : Nat} : Dg apU (fun Q => wp1_clear S o Q) := by
  unfold wp1_clear
  with_reducible (repeat' first | exact dR | exact dU | exact dN | exact (d_wp1_clear_2 _ _ _) | refine dcU (W := fun Q => wp1_clear_2 _ Q _ _ _) (d_wp1_clear_2 _ _ _) (fun _ => ?_) | apply dif | apply dfi | apply dall | apply dand | refine dex (fun _ => ?_))
theorem d_wp0_begin {S : St} {o : Nat} {a1 : Nat} : Dg apU (fun Q => wp0_begin S o a1 Q) := by
  unfold wp0_begin
  with_reducible (repeat' first | exact dR | exact dU | exact dN | exact d_wp1_clear | refine dcU (W := fun Q => wp1_clear _ _ Q) d_wp1_clear (fun _ => ?_) | apply dif | apply dfi | apply dall | apply dand | refine dex (fun _ => ?_))
theorem d_wp4_parameterCount {S : St} {o : Nat} : Dg apR (fun Q => wp4_parameterCount S o Q) := by
  unfold wp4_parameterCount
  with_reducible (repeat' first | exact dR | exact dU | exact dN | apply dif | apply dfi | apply dall | apply dand | refine dex (fun _ => ?_))
theorem d_wp1_cutTo {S : St} {o : Nat} {x1 : Int32} : Dg apU (fun Q => wp1_cutTo S o x1 Q) := by
  unfold wp1_cutTo
  with_reducible (repeat' first | exact dR | exact dU | exact dN | apply dif | apply dfi | apply dall | apply dand | refine dex (fun _ => ?_))
theorem d_wp0_takeParametersFrom_15 {o : Nat} {a1 : Nat} : ∀ (n : Nat) (v0 : Int32) (v1 : Int32) (S : St), Dg apU (fun Q => wp0_takeParametersFrom_15 o a1 Q n v0 v1 S) := by
  intro n
  induction n with
  | zero =>
    intro _ _ _
    exact dN
  | succ n ih =>
    intro _ _ _
    unfold wp0_takeParametersFrom_15
    with_reducible (repeat' first | exact dR | exact dU | exact dN | exact ih _ _ _ | exact d_wp4_parameterCount | refine dcR (W := fun Q => wp4_parameterCount _ _ Q) d_wp4_parameterCount (fun _ _ => ?_) | exact d_wp1_cutTo | refine dcU (W := fun Q => wp1_cutTo _ _ _ Q) d_wp1_cutTo (fun _ => ?_) | exact d_wp1_setFrom | refine dcU (W := fun Q => wp1_setFrom _ _ _ _ _ Q) d_wp1_setFrom (fun _ => ?_) | apply dif | apply dfi | apply dall | apply dand | refine dex (fun _ => ?_))
theorem d_wp0_takeParametersFrom {S : St} {o : Nat} {a1 : Nat} : Dg apU (fun Q => wp0_takeParametersFrom S o a1 Q) := by
  unfold wp0_takeParametersFrom
  with_reducible (repeat' first | exact dR | exact dU | exact dN | exact d_wp1_height | refine dcR (W := fun Q => wp1_height _ _ Q) d_wp1_height (fun _ _ => ?_) | exact d_wp4_parameterCount | refine dcR (W := fun Q => wp4_parameterCount _ _ Q) d_wp4_parameterCount (fun _ _ => ?_) | exact (d_wp0_takeParametersFrom_15 _ _ _ _) | refine dcU (W := fun Q => wp0_takeParametersFrom_15 _ _ Q _ _ _ _) (d_wp0_takeParametersFrom_15 _ _ _ _) (fun _ => ?_) | apply dif | apply dfi | apply dall | apply dand | refine dex (fun _ => ?_))
theorem d_wp6_enter {S : St} {a1 : Nat} {a2 : Nat} : Dg apR (fun Q => wp6_enter S a1 a2 Q) := by
  unfold wp6_enter
  with_reducible (repeat' first | exact dR | exact dU | exact dN | exact d_wp0_begin | refine dcU (W := fun Q => wp0_begin _ _ _ Q) d_wp0_begin (fun _ => ?_) | exact d_wp0_takeParametersFrom | refine dcU (W := fun Q => wp0_takeParametersFrom _ _ _ Q) d_wp0_takeParametersFrom (fun _ => ?_) | apply dif | apply dfi | apply dall | apply dand | refine dex (fun _ => ?_))
theorem d_wp6_stepCalls {S : St} {a1 : Nat} {x2 : Int32} {x3 : Int32} : Dg apR (fun Q => wp6_stepCalls S a1 x2 x3 Q) := by
  unfold wp6_stepCalls
  with_reducible (repeat' first | exact dR | exact dU | exact dN | exact d_wp8_isFunction | refine dcR (W := fun Q => wp8_isFunction _ _ Q) d_wp8_isFunction (fun _ _ => ?_) | exact d_wp1_takeInt | refine dcR (W := fun Q => wp1_takeInt _ _ Q) d_wp1_takeInt (fun _ _ => ?_) | exact d_wp4_length | refine dcR (W := fun Q => wp4_length _ _ Q) d_wp4_length (fun _ _ => ?_) | exact d_wp4_isCalledLike | refine dcR (W := fun Q => wp4_isCalledLike _ _ _ Q) d_wp4_isCalledLike (fun _ _ => ?_) | exact d_wp6_enter | refine dcR (W := fun Q => wp6_enter _ _ _ Q) d_wp6_enter (fun _ _ => ?_) | apply dif | apply dfi | apply dall | apply dand | refine dex (fun _ => ?_))
theorem d_wp4_behindEnd {S : St} {o : Nat} {x1 : Int32} : Dg apR (fun Q => wp4_behindEnd S o x1 Q) := by
  unfold wp4_behindEnd
  with_reducible (repeat' first | exact dR | exact dU | exact dN | apply dif | apply dfi | apply dall | apply dand | refine dex (fun _ => ?_))
theorem d_wp0_jumpsWithin_119 {o : Nat} {x1 : Int32} {x2 : Int32} {x3 : Int32} {S : St} : Dg apR (fun Q => wp0_jumpsWithin_119 o x1 Q x2 x3 S) := by
  unfold wp0_jumpsWithin_119
  with_reducible (repeat' first | exact dR | exact dU | exact dN | exact d_wp4_behindEnd | refine dcR (W := fun Q => wp4_behindEnd _ _ _ Q) d_wp4_behindEnd (fun _ _ => ?_) | apply dif | apply dfi | apply dall | apply dand | refine dex (fun _ => ?_))
theorem d_wp0_jumpsWithin {S : St} {o : Nat} {x1 : Int32} : Dg apR (fun Q => wp0_jumpsWithin S o x1 Q) := by
  unfold wp0_jumpsWithin
  with_reducible (repeat' first | exact dR | exact dU | exact dN | exact d_wp4_byteAt | refine dcR (W := fun Q => wp4_byteAt _ _ _ Q) d_wp4_byteAt (fun _ _ => ?_) | exact d_wp1_height | refine dcR (W := fun Q => wp1_height _ _ Q) d_wp1_height (fun _ _ => ?_) | exact d_wp1_cutTo | refine dcU (W := fun Q => wp1_cutTo _ _ _ Q) d_wp1_cutTo (fun _ => ?_) | exact d_wp0_jumpsWithin_119 | refine dcR (W := fun Q => wp0_jumpsWithin_119 _ _ Q _ _ _) d_wp0_jumpsWithin_119 (fun _ _ => ?_) | exact d_wp1_putFrom | refine dcU (W := fun Q => wp1_putFrom _ _ _ _ Q) d_wp1_putFrom (fun _ => ?_) | apply dif | apply dfi | apply dall | apply dand | refine dex (fun _ => ?_))
theorem d_wp4_outcome {S : St} {o : Nat} : Dg apR (fun Q => wp4_outcome S o Q) := by
  unfold wp4_outcome
  with_reducible (repeat' first | exact dR | exact dU | exact dN | apply dif | apply dfi | apply dall | apply dand | refine dex (fun _ => ?_))
theorem d_wp6_leave_45 {a1 : Nat} {x2 : Int32} {x3 : Int32} {S : St} : Dg apU (fun Q => wp6_leave_45 a1 Q x2 x3 S) := by
  unfold wp6_leave_45
  with_reducible (repeat' first | exact dR | exact dU | exact dN | exact d_wp1_setFrom | refine dcU (W := fun Q => wp1_setFrom _ _ _ _ _ Q) d_wp1_setFrom (fun _ => ?_) | apply dif | apply dfi | apply dall | apply dand | refine dex (fun _ => ?_))
theorem d_wp6_leave {S : St} {a1 : Nat} : Dg apU (fun Q => wp6_leave S a1 Q) := by
  unfold wp6_leave
  with_reducible (repeat' first | exact dR | exact dU | exact dN | exact d_wp4_outcome | refine dcR (W := fun Q => wp4_outcome _ _ Q) d_wp4_outcome (fun _ _ => ?_) | exact d_wp1_height | refine dcR (W := fun Q => wp1_height _ _ Q) d_wp1_height (fun _ _ => ?_) | exact d_wp6_leave_45 | refine dcU (W := fun Q => wp6_leave_45 _ Q _ _ _) d_wp6_leave_45 (fun _ => ?_) | exact d_wp1_putFrom | refine dcU (W := fun Q => wp1_putFrom _ _ _ _ Q) d_wp1_putFrom (fun _ => ?_) | apply dif | apply dfi | apply dall | apply dand | refine dex (fun _ => ?_))
theorem d_wp6_jump {S : St} {a1 : Nat} {x2 : Int32} : Dg apU (fun Q => wp6_jump S a1 x2 Q) := by
  unfold wp6_jump
  with_reducible (repeat' first | exact dR | exact dU | exact dN | exact d_wp0_jumpsWithin | refine dcR (W := fun Q => wp0_jumpsWithin _ _ _ Q) d_wp0_jumpsWithin (fun _ _ => ?_) | exact d_wp6_leave | refine dcU (W := fun Q => wp6_leave _ _ Q) d_wp6_leave (fun _ => ?_) | apply dif | apply dfi | apply dall | apply dand | refine dex (fun _ => ?_))
theorem d_wp6_chosenJump_26 {a1 : Nat} {x2 : Int32} {x3 : Int32} {s0 : Int32} {S : St} : Dg apR (fun Q => wp6_chosenJump_26 a1 x2 x3 Q s0 S) := by
  unfold wp6_chosenJump_26
  with_reducible (repeat' first | exact dR | exact dU | exact dN | exact d_wp4_byteAt | refine dcR (W := fun Q => wp4_byteAt _ _ _ Q) d_wp4_byteAt (fun _ _ => ?_) | apply dif | apply dfi | apply dall | apply dand | refine dex (fun _ => ?_))
theorem d_wp6_chosenJump_25 {a1 : Nat} {x2 : Int32} {x3 : Int32} {S : St} : Dg apR (fun Q => wp6_chosenJump_25 a1 x2 x3 Q S) := by
  unfold wp6_chosenJump_25
  with_reducible (repeat' first | exact dR | exact dU | exact dN | exact d_wp6_chosenJump_26 | refine dcR (W := fun Q => wp6_chosenJump_26 _ _ _ Q _ _) d_wp6_chosenJump_26 (fun _ _ => ?_) | apply dif | apply dfi | apply dall | apply dand | refine dex (fun _ => ?_))
theorem d_wp6_chosenJump {S : St} {a1 : Nat} {x2 : Int32} {x3 : Int32} : Dg apR (fun Q => wp6_chosenJump S a1 x2 x3 Q) := by
  unfold wp6_chosenJump
  with_reducible (repeat' first | exact dR | exact dU | exact dN | exact d_wp1_takeInt | refine dcR (W := fun Q => wp1_takeInt _ _ Q) d_wp1_takeInt (fun _ _ => ?_) | exact d_wp6_chosenJump_25 | refine dcR (W := fun Q => wp6_chosenJump_25 _ _ _ Q _) d_wp6_chosenJump_25 (fun _ _ => ?_) | exact d_wp6_chosenJump_26 | refine dcR (W := fun Q => wp6_chosenJump_26 _ _ _ Q _ _) d_wp6_chosenJump_26 (fun _ _ => ?_) | apply dif | apply dfi | apply dall | apply dand | refine dex (fun _ => ?_))
theorem d_wp6_stepJumps {S : St} {a1 : Nat} {x2 : Int32} {x3 : Int32} {x4 : Int32} : Dg apR (fun Q => wp6_stepJumps S a1 x2 x3 x4 Q) := by
  unfold wp6_stepJumps
  with_reducible (repeat' first | exact dR | exact dU | exact dN | exact d_wp6_jump | refine dcU (W := fun Q => wp6_jump _ _ _ Q) d_wp6_jump (fun _ => ?_) | exact d_wp1_takeInt | refine dcR (W := fun Q => wp1_takeInt _ _ Q) d_wp1_takeInt (fun _ _ => ?_) | exact d_wp6_chosenJump | refine dcR (W := fun Q => wp6_chosenJump _ _ _ _ Q) d_wp6_chosenJump (fun _ _ => ?_) | exact d_wp6_leave | refine dcU (W := fun Q => wp6_leave _ _ Q) d_wp6_leave (fun _ => ?_) | apply dif | apply dfi | apply dall | apply dand | refine dex (fun _ => ?_))
theorem d_wp0_beginFrame {S : St} {o : Nat} {x1 : Int32} : Dg apU (fun Q => wp0_beginFrame S o x1 Q) := by
  unfold wp0_beginFrame
  with_reducible (repeat' first | exact dR | exact dU | exact dN | exact d_wp1_height | refine dcR (W := fun Q => wp1_height _ _ Q) d_wp1_height (fun _ _ => ?_) | apply dif | apply dfi | apply dall | apply dand | refine dex (fun _ => ?_))
theorem d_wp4_behindElse {S : St} {o : Nat} {x1 : Int32} : Dg apR (fun Q => wp4_behindElse S o x1 Q) := by
  unfold wp4_behindElse
  with_reducible (repeat' first | exact dR | exact dU | exact dN | apply dif | apply dfi | apply dall | apply dand | refine dex (fun _ => ?_))
theorem d_wp0_beginIf {S : St} {o : Nat} {x1 : Int32} : Dg apU (fun Q => wp0_beginIf S o x1 Q) := by
  unfold wp0_beginIf
  with_reducible (repeat' first | exact dR | exact dU | exact dN | exact d_wp1_takeInt | refine dcR (W := fun Q => wp1_takeInt _ _ Q) d_wp1_takeInt (fun _ _ => ?_) | exact d_wp4_behindElse | refine dcR (W := fun Q => wp4_behindElse _ _ _ Q) d_wp4_behindElse (fun _ _ => ?_) | exact d_wp4_behindEnd | refine dcR (W := fun Q => wp4_behindEnd _ _ _ Q) d_wp4_behindEnd (fun _ _ => ?_) | exact d_wp0_beginFrame | refine dcU (W := fun Q => wp0_beginFrame _ _ _ Q) d_wp0_beginFrame (fun _ => ?_) | apply dif | apply dfi | apply dall | apply dand | refine dex (fun _ => ?_))
theorem d_wp0_goBehindEnd {S : St} {o : Nat} : Dg apU (fun Q => wp0_goBehindEnd S o Q) := by
  unfold wp0_goBehindEnd
  with_reducible (repeat' first | exact dR | exact dU | exact dN | exact d_wp4_behindEnd | refine dcR (W := fun Q => wp4_behindEnd _ _ _ Q) d_wp4_behindEnd (fun _ _ => ?_) | apply dif | apply dfi | apply dall | apply dand | refine dex (fun _ => ?_))
theorem d_wp0_endFrame {S : St} {o : Nat} : Dg apU (fun Q => wp0_endFrame S o Q) := by
  unfold wp0_endFrame
  with_reducible (repeat' first | exact dR | exact dU | exact dN | apply dif | apply dfi | apply dall | apply dand | refine dex (fun _ => ?_))
theorem d_wp6_stepFrames {S : St} {a1 : Nat} {x2 : Int32} {x3 : Int32} : Dg apR (fun Q => wp6_stepFrames S a1 x2 x3 Q) := by
  unfold wp6_stepFrames
  with_reducible (repeat' first | exact dR | exact dU | exact dN | exact d_wp0_beginFrame | refine dcU (W := fun Q => wp0_beginFrame _ _ _ Q) d_wp0_beginFrame (fun _ => ?_) | exact d_wp0_beginIf | refine dcU (W := fun Q => wp0_beginIf _ _ _ Q) d_wp0_beginIf (fun _ => ?_) | exact d_wp0_goBehindEnd | refine dcU (W := fun Q => wp0_goBehindEnd _ _ Q) d_wp0_goBehindEnd (fun _ => ?_) | exact d_wp0_endFrame | refine dcU (W := fun Q => wp0_endFrame _ _ Q) d_wp0_endFrame (fun _ => ?_) | exact d_wp6_leave | refine dcU (W := fun Q => wp6_leave _ _ Q) d_wp6_leave (fun _ => ?_) | apply dif | apply dfi | apply dall | apply dand | refine dex (fun _ => ?_))
theorem d_wp6_step {S : St} : Dg apR (fun Q => wp6_step S Q) := by
  unfold wp6_step
  with_reducible (repeat' first | exact dR | exact dU | exact dN | exact d_wp4_byteAt | refine dcR (W := fun Q => wp4_byteAt _ _ _ Q) d_wp4_byteAt (fun _ _ => ?_) | exact d_wp4_sizeAt | refine dcR (W := fun Q => wp4_sizeAt _ _ _ Q) d_wp4_sizeAt (fun _ _ => ?_) | exact d_wp6_stepNumbers | refine dcR (W := fun Q => wp6_stepNumbers _ _ _ _ Q) d_wp6_stepNumbers (fun _ _ => ?_) | exact d_wp6_stepValues | refine dcR (W := fun Q => wp6_stepValues _ _ _ _ Q) d_wp6_stepValues (fun _ _ => ?_) | exact d_wp6_stepCalls | refine dcR (W := fun Q => wp6_stepCalls _ _ _ _ Q) d_wp6_stepCalls (fun _ _ => ?_) | exact d_wp6_stepJumps | refine dcR (W := fun Q => wp6_stepJumps _ _ _ _ _ Q) d_wp6_stepJumps (fun _ _ => ?_) | exact d_wp6_stepFrames | refine dcR (W := fun Q => wp6_stepFrames _ _ _ _ Q) d_wp6_stepFrames (fun _ _ => ?_) | apply dif | apply dfi | apply dall | apply dand | refine dex (fun _ => ?_))
