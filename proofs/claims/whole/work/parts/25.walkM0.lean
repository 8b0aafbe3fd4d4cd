set_option maxRecDepth 20000 in
theorem ct9_thrown (l : Launch) (D : va_G) (ca : Nat → ClassId) (ρ : Nat → Nat → Nat) (sz : Nat) {S : St}  {Q : Int32 → St → Prop} (hAp : Ap false ρ)  (hw : wp9_thrown S Q) : Met l y9_thrown [Cond.code y9_thrown b9_thrown 1 (some .int)] { frames := 0, cells := 0, slots := 0, locals := 0 } (va_Pc [.ref (ρ 9 0)] (PreU false D ca ρ sz S)) (va_Qi Q (PostU false D ca ρ) (Ar false ρ sz)) 0 0 (Ar false ρ sz) := by
  refine met_of_wm (own := R9) (ls0 := [(0, .ref (ρ 9 0))]) rfl rfl hAp (Nat.le_of_ble_eq_true rfl) rfl fun p e s m args below meth c C hr hz => ?_
  subst hz
  unfold wp9_thrown at hw
  refine r_aload_n C (pc := 0) 0 rfl d9_thrown_0 ?_
  refine g9_code C (pc := 1) (Nat.le_of_ble_eq_true rfl) w9_88 d9_thrown_1 ?_
  exact r_iret C (pc := 4) hr d9_thrown_4 hw
set_option maxRecDepth 20000 in
theorem ct9_in (l : Launch) (D : va_G) (ca : Nat → ClassId) (ρ : Nat → Nat → Nat) (sz : Nat) {S : St} {x0 : Int32} {x1 : Int32} {x2 : Int32} {Q : Int32 → St → Prop} (hAp : Ap false ρ)  (hw : wp9_in S x0 x1 x2 Q) : Met l y9_in [Cond.code y9_in b9_in 3 (some .boolean)] { frames := 0, cells := 0, slots := 0, locals := 0 } (va_Pc [.int x0, .int x1, .int x2] (PreU false D ca ρ sz S)) (va_Qi Q (PostU false D ca ρ) (Ar false ρ sz)) 0 0 (Ar false ρ sz) := by
  refine met_of_wm (own := R9) (ls0 := [(0, .int x0), (1, .int x1), (2, .int x2)]) rfl rfl hAp (Nat.le_of_ble_eq_true rfl) rfl fun p e s m args below meth c C hr hz => ?_
  subst hz
  unfold wp9_in at hw
  refine r_iload_n C (pc := 0) 0 rfl d9_in_0 ?_
  refine r_iload_n C (pc := 1) 1 rfl d9_in_1 ?_
  refine r_icmp_lt C (pc := 2) (tgt := 14) d9_in_2 (by decide) (fun c1 => ?_) (fun c1 => ?_)
  · have hw := hw.1 c1
    refine r_iconst C (pc := 14) (v := 0) d9_in_14 (by decide) ?_
    exact r_zret C (pc := 15) hr rfl d9_in_15 hw
  · have hw := hw.2 c1
    refine r_iload_n C (pc := 5) 0 rfl d9_in_5 ?_
    refine r_iload_n C (pc := 6) 2 rfl d9_in_6 ?_
    refine r_icmp_gt C (pc := 7) (tgt := 14) d9_in_7 (by decide) (fun c2 => ?_) (fun c2 => ?_)
    · have hw := hw.1 c2
      refine r_iconst C (pc := 14) (v := 0) d9_in_14 (by decide) ?_
      exact r_zret C (pc := 15) hr rfl d9_in_15 hw
    · have hw := hw.2 c2
      refine r_iconst C (pc := 10) (v := 1) d9_in_10 (by decide) ?_
      refine r_goto C (pc := 11) (tgt := 15) d9_in_11 (by decide) ?_
      exact r_zret C (pc := 15) hr rfl d9_in_15 hw
set_option maxRecDepth 20000 in
theorem ct9_good (l : Launch) (D : va_G) (ca : Nat → ClassId) (ρ : Nat → Nat → Nat) (sz : Nat) {S : St} {x1 : Int32} {x2 : Int32} {Q : Int32 → St → Prop} (hAp : Ap false ρ)  (hw : wp9_good S x1 x2 Q) : Met l y9_good [Cond.code y9_good b9_good 3 (some .boolean)] { frames := 0, cells := 0, slots := 0, locals := 0 } (va_Pc [.ref (ρ 9 0), .int x1, .int x2] (PreU false D ca ρ sz S)) (va_Qi Q (PostU false D ca ρ) (Ar false ρ sz)) 0 0 (Ar false ρ sz) := by
  refine met_of_wm (own := R9) (ls0 := [(0, .ref (ρ 9 0)), (1, .int x1), (2, .int x2)]) rfl rfl hAp (Nat.le_of_ble_eq_true rfl) rfl fun p e s m args below meth c C hr hz => ?_
  subst hz
  unfold wp9_good at hw
  refine r_aload_n C (pc := 0) 0 rfl d9_good_0 ?_
  refine r_iload_n C (pc := 1) 1 rfl d9_good_1 ?_
  refine r_if_eq C (pc := 2) (tgt := 9) d9_good_2 (by decide) (fun c1 => ?_) (fun c1 => ?_)
  · have hw := hw.1 c1
    refine r_iload_n C (pc := 9) 2 rfl d9_good_9 ?_
    refine p9_code C (pc := 10) (Nat.le_of_ble_eq_true rfl) w9_88 d9_good_10 ?_
    refine r_S (fun S1 eS1 => ?_)
    have hw := hw S1 eS1
    refine r_iload_n C (pc := 13) 1 rfl d9_good_13 ?_
    have hz := bz_n hw.1
    exact r_zret C (pc := 14) hr hz d9_good_14 hw.2
  · have hw := hw.2 c1
    refine r_iconst C (pc := 5) (v := 0) d9_good_5 (by decide) ?_
    refine r_goto C (pc := 6) (tgt := 10) d9_good_6 (by decide) ?_
    refine p9_code C (pc := 10) (Nat.le_of_ble_eq_true rfl) w9_88 d9_good_10 ?_
    refine r_S (fun S2 eS2 => ?_)
    have hw := hw S2 eS2
    refine r_iload_n C (pc := 13) 1 rfl d9_good_13 ?_
    have hz := bz_n hw.1
    exact r_zret C (pc := 14) hr hz d9_good_14 hw.2
set_option maxRecDepth 20000 in
theorem nd9_digits_23 {p : Program} {l : Launch} {e : Env} {s : State} {m : MethodId} {args : Array Value} {below : List Frame} {meth : Method} {c : Code} {D : va_G} {ca : Nat → ClassId} {ρ : Nat → Nat → Nat} {x0 : Int32} {Q : Int32 → St → Prop} (C : Cx false p l s m meth c R9 b9_digits 3 D ca ρ) (hr : meth.sig.returnType = (some .int))  : ∀ (n : Nat) (x1 : Int32) (x2 : Int32) (S : St) , wp9_digits_23 x0 Q n x1 x2 S → wm false p l e { frames := 1, cells := 0, slots := 0, locals := 22 } s m args below meth c D ca ρ 3 0 0 (qi false below args s D ca ρ 0 0 Q) 23 [(1, .int x1), (2, .int x2)] [] S := by
  intro n
  induction n with
  | zero => intro x1 x2 S  hw; exact hw.elim
  | succ n ih =>
    intro x1 x2 S  hw
    unfold wp9_digits_23 at hw
    refine r_iload_n C (pc := 23) 1 rfl d9_digits_23 ?_
    refine r_if_le C (pc := 24) (tgt := 52) d9_digits_24 (by decide) (fun c1 => ?_) (fun c1 => ?_)
    · have hw := hw.1 c1
      refine r_iload_n C (pc := 52) 0 rfl d9_digits_52 ?_
      exact r_iret C (pc := 53) hr d9_digits_53 hw
    · have hw := hw.2 c1
      refine r_iload_n C (pc := 27) 1 rfl d9_digits_27 ?_
      refine r_bipush C (pc := 28) (v := 10) d9_digits_28 (by decide) ?_
      refine r_irem C (pc := 30) d9_digits_30 (by decide) ?_
      refine r_iconst C (pc := 31) (v := 1) d9_digits_31 (by decide) ?_
      refine r_iconst C (pc := 32) (v := 3) d9_digits_32 (by decide) ?_
      refine r_callSi C (pc := 33) (fun sz => ct9_in l D ca ρ sz C.2.2.2.2.2.2.1 hw) mf9_in w9_92 rfl rfl ⟨Nat.le_of_ble_eq_true rfl, Nat.le_of_ble_eq_true rfl⟩ rfl rfl (Nat.le_of_ble_eq_true rfl) ⟨Nat.zero_le _, Nat.zero_le _⟩ d9_digits_33 (fun r1 S1 hw => ?_)
      refine r_if_ne C (pc := 36) (tgt := 41) d9_digits_36 (by decide) (fun c2 => ?_) (fun c2 => ?_)
      · have hw := hw.1 c2
        obtain ⟨x1_1, ex1_1⟩ : ∃ y : Int32, y = x1 + 1 := ⟨_, rfl⟩
        have hw := hw x1_1 ex1_1
        refine r_iinc C (pc := 41) (v := x1_1) (ls' := [(1, .int x1_1), (2, .int x2)]) 0 rfl (by rw [ex1_1]; rfl) (Nat.le_of_ble_eq_true rfl) rfl d9_digits_41 ?_
        refine r_iload_n C (pc := 44) 1 rfl d9_digits_44 ?_
        refine r_bipush C (pc := 45) (v := 10) d9_digits_45 (by decide) ?_
        refine r_idiv C (pc := 47) d9_digits_47 (by decide) ?_
        refine r_topi (fun x2_1 ex2_1 => ?_)
        have hw := hw x2_1 ex2_1
        refine r_istore_n C (pc := 48) (ls' := [(2, .int x2_1), (1, .int x1_1)]) (Nat.le_of_ble_eq_true rfl) rfl d9_digits_48 ?_
        refine r_goto C (pc := 49) (tgt := 23) d9_digits_49 (by decide) ?_
        refine r_sub (ls' := [(1, .int x1_1), (2, .int x2_1)]) [1, 0] rfl ?_
        exact ih _ _ _ hw
      · have hw := hw.2 c2
        refine r_iconst C (pc := 39) (v := (-1)) d9_digits_39 (by decide) ?_
        exact r_iret C (pc := 40) hr d9_digits_40 hw
set_option maxRecDepth 20000 in
theorem ct9_digits (l : Launch) (D : va_G) (ca : Nat → ClassId) (ρ : Nat → Nat → Nat) (sz : Nat) {S : St} {x0 : Int32} {Q : Int32 → St → Prop} (hAp : Ap false ρ)  (hw : wp9_digits S x0 Q) : Met l y9_digits [Cond.code y9_digits b9_digits 3 (some .int)] { frames := 1, cells := 0, slots := 0, locals := 22 } (va_Pc [.int x0] (PreU false D ca ρ sz S)) (va_Qi Q (PostU false D ca ρ) (Ar false ρ sz)) 0 0 (Ar false ρ sz) := by
  refine met_of_wm (own := R9) (ls0 := [(0, .int x0)]) rfl rfl hAp (Nat.le_of_ble_eq_true rfl) rfl fun p e s m args below meth c C hr hz => ?_
  subst hz
  unfold wp9_digits at hw
  refine r_iload_n C (pc := 0) 0 rfl d9_digits_0 ?_
  refine r_if_ne C (pc := 1) (tgt := 6) d9_digits_1 (by decide) (fun c1 => ?_) (fun c1 => ?_)
  · have hw := hw.1 c1
    refine r_iload_n C (pc := 6) 0 rfl d9_digits_6 ?_
    refine r_if_lt C (pc := 7) (tgt := 17) d9_digits_7 (by decide) (fun c2 => ?_) (fun c2 => ?_)
    · have hw := hw.1 c2
      refine r_iconst C (pc := 17) (v := (-1)) d9_digits_17 (by decide) ?_
      exact r_iret C (pc := 18) hr d9_digits_18 hw
    · have hw := hw.2 c2
      refine r_iload_n C (pc := 10) 0 rfl d9_digits_10 ?_
      refine r_sipush C (pc := 11) (v := 333) d9_digits_11 (by decide) ?_
      refine r_icmp_le C (pc := 14) (tgt := 19) d9_digits_14 (by decide) (fun c3 => ?_) (fun c3 => ?_)
      · have hw := hw.1 c3
        refine r_iconst C (pc := 19) (v := 0) d9_digits_19 (by decide) ?_
        refine r_istore_n C (pc := 20) (ls' := [(1, .int 0), (0, .int x0)]) (Nat.le_of_ble_eq_true rfl) rfl d9_digits_20 ?_
        refine r_iload_n C (pc := 21) 1 rfl d9_digits_21 ?_
        refine r_istore_n C (pc := 22) (ls' := [(2, .int x0), (1, .int 0), (0, .int x0)]) (Nat.le_of_ble_eq_true rfl) rfl d9_digits_22 ?_
        refine r_sub (ls' := [(1, .int 0), (2, .int x0)]) [1, 0] rfl ?_
        obtain ⟨n, hw⟩ := hw
        exact nd9_digits_23 C hr  n _ _ _ hw
      · have hw := hw.2 c3
        refine r_iconst C (pc := 17) (v := (-1)) d9_digits_17 (by decide) ?_
        exact r_iret C (pc := 18) hr d9_digits_18 hw
  · have hw := hw.2 c1
    refine r_iconst C (pc := 4) (v := 0) d9_digits_4 (by decide) ?_
    exact r_iret C (pc := 5) hr d9_digits_5 hw
set_option maxRecDepth 20000 in
theorem nd9_setKinds_9 {p : Program} {l : Launch} {e : Env} {s : State} {m : MethodId} {args : Array Value} {below : List Frame} {meth : Method} {c : Code} {D : va_G} {ca : Nat → ClassId} {ρ : Nat → Nat → Nat} {x1 : Int32} {x2 : Int32} {x3 : Int32} {x4 : Int32} {Q : St → Prop} (C : Cx false p l s m meth c R9 b9_setKinds 7 D ca ρ) (hr : meth.sig.returnType = none)  : ∀ (n : Nat) (x5 : Int32) (x6 : Int32) (S : St) , wp9_setKinds_9 x1 x2 x3 x4 Q n x5 x6 S → wm false p l e { frames := 0, cells := 0, slots := 0, locals := 0 } s m args below meth c D ca ρ 7 0 0 (qv false below args s D ca ρ 0 0 Q) 9 [(0, .ref (ρ 9 0)), (1, .int x1), (2, .int x2), (5, .int x5), (6, .int x6)] [] S := by
  intro n
  induction n with
  | zero => intro x5 x6 S  hw; exact hw.elim
  | succ n ih =>
    intro x5 x6 S  hw
    unfold wp9_setKinds_9 at hw
    refine r_iload C (pc := 9) 4 rfl d9_setKinds_9 ?_
    refine r_if_lt C (pc := 11) (tgt := 46) d9_setKinds_11 (by decide) (fun c1 => ?_) (fun c1 => ?_)
    · have hw := hw.1 c1
      exact r_vret C (pc := 46) hr d9_setKinds_46 hw
    · have hw := hw.2 c1
      refine r_aload_n C (pc := 14) 0 rfl d9_setKinds_14 ?_
      refine g9_kinds C (pc := 15) (Nat.le_of_ble_eq_true rfl) w9_7 d9_setKinds_15 ?_
      refine r_bipush C (pc := 18) (v := 6) d9_setKinds_18 (by decide) ?_
      refine r_iload_n C (pc := 20) 1 rfl d9_setKinds_20 ?_
      refine r_imul C (pc := 21) d9_setKinds_21 ?_
      refine r_iload_n C (pc := 22) 2 rfl d9_setKinds_22 ?_
      refine r_iadd C (pc := 23) d9_setKinds_23 ?_
      refine r_iload C (pc := 24) 4 rfl d9_setKinds_24 ?_
      refine r_iadd C (pc := 26) d9_setKinds_26 ?_
      refine r_iload C (pc := 27) 3 rfl d9_setKinds_27 ?_
      refine r_bipush C (pc := 29) (v := 10) d9_setKinds_29 (by decide) ?_
      refine r_irem C (pc := 31) d9_setKinds_31 (by decide) ?_
      have hi2 := hw.1
      have hw := hw.2
      refine st1900 C (pc := 32) (Nat.le_of_ble_eq_true rfl) hi2 d9_setKinds_32 ?_
      refine r_S (fun S1 eS1 => ?_)
      have hw := hw S1 eS1
      refine r_iload C (pc := 33) 3 rfl d9_setKinds_33 ?_
      refine r_bipush C (pc := 35) (v := 10) d9_setKinds_35 (by decide) ?_
      refine r_idiv C (pc := 37) d9_setKinds_37 (by decide) ?_
      refine r_topi (fun x5_1 ex5_1 => ?_)
      have hw := hw x5_1 ex5_1
      refine r_istore C (pc := 38) (ls' := [(5, .int x5_1), (0, .ref (ρ 9 0)), (1, .int x1), (2, .int x2), (6, .int x6)]) (Nat.le_of_ble_eq_true rfl) rfl d9_setKinds_38 ?_
      obtain ⟨x6_1, ex6_1⟩ : ∃ y : Int32, y = x6 + (-1) := ⟨_, rfl⟩
      have hw := hw x6_1 ex6_1
      refine r_iinc C (pc := 40) (v := x6_1) (ls' := [(6, .int x6_1), (5, .int x5_1), (0, .ref (ρ 9 0)), (1, .int x1), (2, .int x2)]) 4 rfl (by rw [ex6_1]; rfl) (Nat.le_of_ble_eq_true rfl) rfl d9_setKinds_40 ?_
      refine r_goto C (pc := 43) (tgt := 9) d9_setKinds_43 (by decide) ?_
      refine r_sub (ls' := [(0, .ref (ρ 9 0)), (1, .int x1), (2, .int x2), (5, .int x5_1), (6, .int x6_1)]) [2, 3, 4, 1, 0] rfl ?_
      exact ih _ _ _ hw
set_option maxRecDepth 20000 in
theorem ct9_setKinds (l : Launch) (D : va_G) (ca : Nat → ClassId) (ρ : Nat → Nat → Nat) (sz : Nat) {S : St} {x1 : Int32} {x2 : Int32} {x3 : Int32} {x4 : Int32} {Q : St → Prop} (hAp : Ap false ρ)  (hw : wp9_setKinds S x1 x2 x3 x4 Q) : Met l y9_setKinds [Cond.code y9_setKinds b9_setKinds 7 none] { frames := 0, cells := 0, slots := 0, locals := 0 } (va_Pc [.ref (ρ 9 0), .int x1, .int x2, .int x3, .int x4] (PreU false D ca ρ sz S)) (va_Qv Q (PostU false D ca ρ) (Ar false ρ sz)) 0 0 (Ar false ρ sz) := by
  refine met_of_wm (own := R9) (ls0 := [(0, .ref (ρ 9 0)), (1, .int x1), (2, .int x2), (3, .int x3), (4, .int x4)]) rfl rfl hAp (Nat.le_of_ble_eq_true rfl) rfl fun p e s m args below meth c C hr hz => ?_
  subst hz
  unfold wp9_setKinds at hw
  refine r_iload_n C (pc := 0) 3 rfl d9_setKinds_0 ?_
  refine r_istore C (pc := 1) (ls' := [(5, .int x3), (0, .ref (ρ 9 0)), (1, .int x1), (2, .int x2), (3, .int x3), (4, .int x4)]) (Nat.le_of_ble_eq_true rfl) rfl d9_setKinds_1 ?_
  refine r_iload C (pc := 3) 5 rfl d9_setKinds_3 ?_
  refine r_iconst C (pc := 5) (v := 1) d9_setKinds_5 (by decide) ?_
  refine r_isub C (pc := 6) d9_setKinds_6 ?_
  refine r_topi (fun x6_1 ex6_1 => ?_)
  have hw := hw x6_1 ex6_1
  refine r_istore C (pc := 7) (ls' := [(6, .int x6_1), (5, .int x3), (0, .ref (ρ 9 0)), (1, .int x1), (2, .int x2), (3, .int x3), (4, .int x4)]) (Nat.le_of_ble_eq_true rfl) rfl d9_setKinds_7 ?_
  refine r_sub (ls' := [(0, .ref (ρ 9 0)), (1, .int x1), (2, .int x2), (5, .int x3), (6, .int x6_1)]) [2, 3, 4, 1, 0] rfl ?_
  obtain ⟨n, hw⟩ := hw
  exact nd9_setKinds_9 C hr  n _ _ _ hw
set_option maxRecDepth 20000 in
theorem nd9_shape_70 {p : Program} {l : Launch} {e : Env} {s : State} {m : MethodId} {args : Array Value} {below : List Frame} {meth : Method} {c : Code} {D : va_G} {ca : Nat → ClassId} {ρ : Nat → Nat → Nat} {x1 : Int32} {x2 : Int32} {x3 : Int32} {x4 : Int32} {Q : Int32 → St → Prop} {x5 : Int32} {x6 : Int32} {s1 : Int32} {S : St} (C : Cx false p l s m meth c R9 b9_shape 7 D ca ρ) (hr : meth.sig.returnType = (some .int))   (hw : wp9_shape_70 x1 x2 x3 x4 Q x5 x6 s1 S) : wm false p l e { frames := 2, cells := 0, slots := 0, locals := 44 } s m args below meth c D ca ρ 7 0 0 (qi false below args s D ca ρ 0 0 Q) 70 [(0, .ref (ρ 9 0)), (1, .int x1), (2, .int x2), (3, .int x3), (4, .int x4), (5, .int x5), (6, .int x6)] [.int s1, .ref (ρ 9 0)] S := by
  unfold wp9_shape_70 at hw
  refine r_iconst C (pc := 70) (v := 2) d9_shape_70 (by decide) ?_
  refine r_callVi C (pc := 71) (fun sz => ct9_good l D ca ρ sz C.2.2.2.2.2.2.1 hw) mf9_good w9_100 rfl (Nat.le_of_ble_eq_true rfl) rfl rfl rfl rfl ⟨Nat.le_of_ble_eq_true rfl, Nat.le_of_ble_eq_true rfl⟩ rfl rfl (Nat.le_of_ble_eq_true rfl) ⟨Nat.zero_le _, Nat.zero_le _⟩ d9_shape_71 (fun r1 S1 hw => ?_)
  refine r_if_ne C (pc := 74) (tgt := 79) d9_shape_74 (by decide) (fun c1 => ?_) (fun c1 => ?_)
  · have hw := hw.1 c1
    refine r_aload_n C (pc := 79) 0 rfl d9_shape_79 ?_
    refine r_iload_n C (pc := 80) 1 rfl d9_shape_80 ?_
    refine r_iconst C (pc := 81) (v := 0) d9_shape_81 (by decide) ?_
    refine r_iload_n C (pc := 82) 2 rfl d9_shape_82 ?_
    refine r_iload C (pc := 83) 5 rfl d9_shape_83 ?_
    refine r_callVv C (pc := 85) (fun sz => ct9_setKinds l D ca ρ sz C.2.2.2.2.2.2.1 hw) mf9_setKinds w9_107 rfl (Nat.le_of_ble_eq_true rfl) rfl rfl rfl rfl ⟨Nat.le_of_ble_eq_true rfl, Nat.le_of_ble_eq_true rfl⟩ rfl rfl (Nat.le_of_ble_eq_true rfl) ⟨Nat.zero_le _, Nat.zero_le _⟩ d9_shape_85 (fun S2 hw => ?_)
    refine r_aload_n C (pc := 88) 0 rfl d9_shape_88 ?_
    refine r_iload_n C (pc := 89) 1 rfl d9_shape_89 ?_
    refine r_iload C (pc := 90) 5 rfl d9_shape_90 ?_
    refine r_iload C (pc := 92) 4 rfl d9_shape_92 ?_
    refine r_iload C (pc := 94) 6 rfl d9_shape_94 ?_
    refine r_callVv C (pc := 96) (fun sz => ct9_setKinds l D ca ρ sz C.2.2.2.2.2.2.1 hw) mf9_setKinds w9_107 rfl (Nat.le_of_ble_eq_true rfl) rfl rfl rfl rfl ⟨Nat.le_of_ble_eq_true rfl, Nat.le_of_ble_eq_true rfl⟩ rfl rfl (Nat.le_of_ble_eq_true rfl) ⟨Nat.zero_le _, Nat.zero_le _⟩ d9_shape_96 (fun S3 hw => ?_)
    refine r_aload_n C (pc := 99) 0 rfl d9_shape_99 ?_
    refine g9_parameters C (pc := 100) (Nat.le_of_ble_eq_true rfl) w9_13 d9_shape_100 ?_
    refine r_iload_n C (pc := 103) 1 rfl d9_shape_103 ?_
    refine r_iload C (pc := 104) 5 rfl d9_shape_104 ?_
    have hi2 := hw.1
    have hw := hw.2
    refine st1901 C (pc := 106) (Nat.le_of_ble_eq_true rfl) hi2 d9_shape_106 ?_
    refine r_S (fun S4 eS4 => ?_)
    have hw := hw S4 eS4
    refine r_aload_n C (pc := 107) 0 rfl d9_shape_107 ?_
    refine g9_variables C (pc := 108) (Nat.le_of_ble_eq_true rfl) w9_16 d9_shape_108 ?_
    refine r_iload_n C (pc := 111) 1 rfl d9_shape_111 ?_
    refine r_iload C (pc := 112) 5 rfl d9_shape_112 ?_
    refine r_iload C (pc := 114) 6 rfl d9_shape_114 ?_
    refine r_iadd C (pc := 116) d9_shape_116 ?_
    have hi3 := hw.1
    have hw := hw.2
    refine st1902 C (pc := 117) (Nat.le_of_ble_eq_true rfl) hi3 d9_shape_117 ?_
    refine r_S (fun S5 eS5 => ?_)
    have hw := hw S5 eS5
    refine r_aload_n C (pc := 118) 0 rfl d9_shape_118 ?_
    refine g9_result C (pc := 119) (Nat.le_of_ble_eq_true rfl) w9_19 d9_shape_119 ?_
    refine r_iload_n C (pc := 122) 1 rfl d9_shape_122 ?_
    refine r_iload_n C (pc := 123) 3 rfl d9_shape_123 ?_
    have hi4 := hw.1
    have hw := hw.2
    refine st1903 C (pc := 124) (Nat.le_of_ble_eq_true rfl) hi4 d9_shape_124 ?_
    refine r_S (fun S6 eS6 => ?_)
    have hw := hw S6 eS6
    refine r_aload_n C (pc := 125) 0 rfl d9_shape_125 ?_
    refine g9_length C (pc := 126) (Nat.le_of_ble_eq_true rfl) w9_25 d9_shape_126 ?_
    refine r_iload_n C (pc := 129) 1 rfl d9_shape_129 ?_
    refine r_iconst C (pc := 130) (v := 0) d9_shape_130 (by decide) ?_
    have hi5 := hw.1
    have hw := hw.2
    refine st1905 C (pc := 131) (Nat.le_of_ble_eq_true rfl) hi5 d9_shape_131 ?_
    refine r_S (fun S7 eS7 => ?_)
    have hw := hw S7 eS7
    refine r_aload_n C (pc := 132) 0 rfl d9_shape_132 ?_
    refine r_iconst C (pc := 133) (v := 0) d9_shape_133 (by decide) ?_
    refine p9_checked C (pc := 134) (Nat.le_of_ble_eq_true rfl) (Or.inl rfl) w9_111 d9_shape_134 ?_
    refine r_S (fun S8 eS8 => ?_)
    have hw := hw S8 eS8
    refine r_iload C (pc := 137) 5 rfl d9_shape_137 ?_
    refine r_iload C (pc := 139) 6 rfl d9_shape_139 ?_
    refine r_iadd C (pc := 141) d9_shape_141 ?_
    exact r_iret C (pc := 142) hr d9_shape_142 hw
  · have hw := hw.2 c1
    refine r_iconst C (pc := 77) (v := 0) d9_shape_77 (by decide) ?_
    exact r_iret C (pc := 78) hr d9_shape_78 hw
set_option maxRecDepth 20000 in
theorem nd9_shape_47 {p : Program} {l : Launch} {e : Env} {s : State} {m : MethodId} {args : Array Value} {below : List Frame} {meth : Method} {c : Code} {D : va_G} {ca : Nat → ClassId} {ρ : Nat → Nat → Nat} {x1 : Int32} {x2 : Int32} {x3 : Int32} {x4 : Int32} {Q : Int32 → St → Prop} {x5 : Int32} {x6 : Int32} {s1 : Int32} {S : St} (C : Cx false p l s m meth c R9 b9_shape 7 D ca ρ) (hr : meth.sig.returnType = (some .int))   (hw : wp9_shape_47 x1 x2 x3 x4 Q x5 x6 s1 S) : wm false p l e { frames := 2, cells := 0, slots := 0, locals := 44 } s m args below meth c D ca ρ 7 0 0 (qi false below args s D ca ρ 0 0 Q) 47 [(0, .ref (ρ 9 0)), (1, .int x1), (2, .int x2), (3, .int x3), (4, .int x4), (5, .int x5), (6, .int x6)] [.int s1, .ref (ρ 9 0)] S := by
  unfold wp9_shape_47 at hw
  refine r_iconst C (pc := 47) (v := 1) d9_shape_47 (by decide) ?_
  refine r_callVi C (pc := 48) (fun sz => ct9_good l D ca ρ sz C.2.2.2.2.2.2.1 hw) mf9_good w9_100 rfl (Nat.le_of_ble_eq_true rfl) rfl rfl rfl rfl ⟨Nat.le_of_ble_eq_true rfl, Nat.le_of_ble_eq_true rfl⟩ rfl rfl (Nat.le_of_ble_eq_true rfl) ⟨Nat.zero_le _, Nat.zero_le _⟩ d9_shape_48 (fun r1 S1 hw => ?_)
  refine r_if_ne C (pc := 51) (tgt := 56) d9_shape_51 (by decide) (fun c1 => ?_) (fun c1 => ?_)
  · have hw := hw.1 c1
    refine r_aload_n C (pc := 56) 0 rfl d9_shape_56 ?_
    refine r_aload_n C (pc := 57) 0 rfl d9_shape_57 ?_
    refine g9_status C (pc := 58) (Nat.le_of_ble_eq_true rfl) w9_104 d9_shape_58 ?_
    refine r_iconst C (pc := 61) (v := 1) d9_shape_61 (by decide) ?_
    refine r_icmp_eq C (pc := 62) (tgt := 69) d9_shape_62 (by decide) (fun c2 => ?_) (fun c2 => ?_)
    · have hw := hw.1 c2
      refine r_iconst C (pc := 69) (v := 0) d9_shape_69 (by decide) ?_
      refine r_sub (ls' := [(0, .ref (ρ 9 0)), (1, .int x1), (2, .int x2), (3, .int x3), (4, .int x4), (5, .int x5), (6, .int x6)]) [0, 1, 2, 3, 4, 5, 6] rfl ?_
      exact nd9_shape_70 C hr hw
    · have hw := hw.2 c2
      refine r_iconst C (pc := 65) (v := 1) d9_shape_65 (by decide) ?_
      refine r_goto C (pc := 66) (tgt := 70) d9_shape_66 (by decide) ?_
      refine r_sub (ls' := [(0, .ref (ρ 9 0)), (1, .int x1), (2, .int x2), (3, .int x3), (4, .int x4), (5, .int x5), (6, .int x6)]) [0, 1, 2, 3, 4, 5, 6] rfl ?_
      exact nd9_shape_70 C hr hw
  · have hw := hw.2 c1
    refine r_iconst C (pc := 54) (v := 0) d9_shape_54 (by decide) ?_
    exact r_iret C (pc := 55) hr d9_shape_55 hw
set_option maxRecDepth 20000 in
theorem nd9_shape_46 {p : Program} {l : Launch} {e : Env} {s : State} {m : MethodId} {args : Array Value} {below : List Frame} {meth : Method} {c : Code} {D : va_G} {ca : Nat → ClassId} {ρ : Nat → Nat → Nat} {x1 : Int32} {x2 : Int32} {x3 : Int32} {x4 : Int32} {Q : Int32 → St → Prop} {x5 : Int32} {x6 : Int32} {S : St} (C : Cx false p l s m meth c R9 b9_shape 7 D ca ρ) (hr : meth.sig.returnType = (some .int))   (hw : wp9_shape_46 x1 x2 x3 x4 Q x5 x6 S) : wm false p l e { frames := 2, cells := 0, slots := 0, locals := 44 } s m args below meth c D ca ρ 7 0 0 (qi false below args s D ca ρ 0 0 Q) 46 [(0, .ref (ρ 9 0)), (1, .int x1), (2, .int x2), (3, .int x3), (4, .int x4), (5, .int x5), (6, .int x6)] [.ref (ρ 9 0)] S := by
  unfold wp9_shape_46 at hw
  refine r_iconst C (pc := 46) (v := 0) d9_shape_46 (by decide) ?_
  refine r_sub (ls' := [(0, .ref (ρ 9 0)), (1, .int x1), (2, .int x2), (3, .int x3), (4, .int x4), (5, .int x5), (6, .int x6)]) [0, 1, 2, 3, 4, 5, 6] rfl ?_
  exact nd9_shape_47 C hr hw
set_option maxRecDepth 20000 in
theorem ct9_shape (l : Launch) (D : va_G) (ca : Nat → ClassId) (ρ : Nat → Nat → Nat) (sz : Nat) {S : St} {x1 : Int32} {x2 : Int32} {x3 : Int32} {x4 : Int32} {Q : Int32 → St → Prop} (hAp : Ap false ρ)  (hw : wp9_shape S x1 x2 x3 x4 Q) : Met l y9_shape [Cond.code y9_shape b9_shape 7 (some .int)] { frames := 2, cells := 0, slots := 0, locals := 44 } (va_Pc [.ref (ρ 9 0), .int x1, .int x2, .int x3, .int x4] (PreU false D ca ρ sz S)) (va_Qi Q (PostU false D ca ρ) (Ar false ρ sz)) 0 0 (Ar false ρ sz) := by
  refine met_of_wm (own := R9) (ls0 := [(0, .ref (ρ 9 0)), (1, .int x1), (2, .int x2), (3, .int x3), (4, .int x4)]) rfl rfl hAp (Nat.le_of_ble_eq_true rfl) rfl fun p e s m args below meth c C hr hz => ?_
  subst hz
  unfold wp9_shape at hw
  refine r_iload_n C (pc := 0) 2 rfl d9_shape_0 ?_
  refine r_callSi C (pc := 1) (fun sz => ct9_digits l D ca ρ sz C.2.2.2.2.2.2.1 hw) mf9_digits w9_96 rfl rfl ⟨Nat.le_of_ble_eq_true rfl, Nat.le_of_ble_eq_true rfl⟩ rfl rfl (Nat.le_of_ble_eq_true rfl) ⟨Nat.zero_le _, Nat.zero_le _⟩ d9_shape_1 (fun r1 S1 hw => ?_)
  refine r_istore C (pc := 4) (ls' := [(5, .int r1), (0, .ref (ρ 9 0)), (1, .int x1), (2, .int x2), (3, .int x3), (4, .int x4)]) (Nat.le_of_ble_eq_true rfl) rfl d9_shape_4 ?_
  refine r_iload C (pc := 6) 5 rfl d9_shape_6 ?_
  refine r_callSi C (pc := 8) (fun sz => ct9_digits l D ca ρ sz C.2.2.2.2.2.2.1 hw) mf9_digits w9_96 rfl rfl ⟨Nat.le_of_ble_eq_true rfl, Nat.le_of_ble_eq_true rfl⟩ rfl rfl (Nat.le_of_ble_eq_true rfl) ⟨Nat.zero_le _, Nat.zero_le _⟩ d9_shape_8 (fun r2 S2 hw => ?_)
  refine r_istore C (pc := 11) (ls' := [(6, .int r2), (5, .int r1), (0, .ref (ρ 9 0)), (1, .int x1), (2, .int x2), (3, .int x3), (4, .int x4)]) (Nat.le_of_ble_eq_true rfl) rfl d9_shape_11 ?_
  refine r_aload_n C (pc := 13) 2 rfl d9_shape_13 ?_
  refine r_iload_n C (pc := 14) 3 rfl d9_shape_14 ?_
  refine r_iconst C (pc := 15) (v := 0) d9_shape_15 (by decide) ?_
  refine r_iconst C (pc := 16) (v := 5) d9_shape_16 (by decide) ?_
  refine r_callSi C (pc := 17) (fun sz => ct9_in l D ca ρ sz C.2.2.2.2.2.2.1 hw) mf9_in w9_92 rfl rfl ⟨Nat.le_of_ble_eq_true rfl, Nat.le_of_ble_eq_true rfl⟩ rfl rfl (Nat.le_of_ble_eq_true rfl) ⟨Nat.zero_le _, Nat.zero_le _⟩ d9_shape_17 (fun r3 S3 hw => ?_)
  refine r_if_eq C (pc := 20) (tgt := 46) d9_shape_20 (by decide) (fun c1 => ?_) (fun c1 => ?_)
  · have hw := hw.1 c1
    refine r_sub (ls' := [(0, .ref (ρ 9 0)), (1, .int x1), (2, .int x2), (3, .int x3), (4, .int x4), (5, .int r1), (6, .int r2)]) [2, 3, 4, 5, 6, 1, 0] rfl ?_
    exact nd9_shape_46 C hr hw
  · have hw := hw.2 c1
    refine r_iload C (pc := 23) 1 rfl d9_shape_23 ?_
    refine r_if_lt C (pc := 25) (tgt := 46) d9_shape_25 (by decide) (fun c2 => ?_) (fun c2 => ?_)
    · have hw := hw.1 c2
      refine r_sub (ls' := [(0, .ref (ρ 9 0)), (1, .int x1), (2, .int x2), (3, .int x3), (4, .int x4), (5, .int r1), (6, .int r2)]) [2, 3, 4, 5, 6, 1, 0] rfl ?_
      exact nd9_shape_46 C hr hw
    · have hw := hw.2 c2
      refine r_iload C (pc := 28) 0 rfl d9_shape_28 ?_
      refine r_if_lt C (pc := 30) (tgt := 46) d9_shape_30 (by decide) (fun c3 => ?_) (fun c3 => ?_)
      · have hw := hw.1 c3
        refine r_sub (ls' := [(0, .ref (ρ 9 0)), (1, .int x1), (2, .int x2), (3, .int x3), (4, .int x4), (5, .int r1), (6, .int r2)]) [2, 3, 4, 5, 6, 1, 0] rfl ?_
        exact nd9_shape_46 C hr hw
      · have hw := hw.2 c3
        refine r_iload_n C (pc := 33) 5 rfl d9_shape_33 ?_
        refine r_iconst C (pc := 34) (v := 0) d9_shape_34 (by decide) ?_
        refine r_iconst C (pc := 35) (v := 3) d9_shape_35 (by decide) ?_
        refine r_callSi C (pc := 36) (fun sz => ct9_in l D ca ρ sz C.2.2.2.2.2.2.1 hw) mf9_in w9_92 rfl rfl ⟨Nat.le_of_ble_eq_true rfl, Nat.le_of_ble_eq_true rfl⟩ rfl rfl (Nat.le_of_ble_eq_true rfl) ⟨Nat.zero_le _, Nat.zero_le _⟩ d9_shape_36 (fun r4 S4 hw => ?_)
        refine r_if_eq C (pc := 39) (tgt := 46) d9_shape_39 (by decide) (fun c4 => ?_) (fun c4 => ?_)
        · have hw := hw.1 c4
          refine r_sub (ls' := [(0, .ref (ρ 9 0)), (1, .int x1), (2, .int x2), (3, .int x3), (4, .int x4), (5, .int r1), (6, .int r2)]) [2, 3, 4, 5, 6, 1, 0] rfl ?_
          exact nd9_shape_46 C hr hw
        · have hw := hw.2 c4
          refine r_iconst C (pc := 42) (v := 1) d9_shape_42 (by decide) ?_
          refine r_goto C (pc := 43) (tgt := 47) d9_shape_43 (by decide) ?_
          refine r_sub (ls' := [(0, .ref (ρ 9 0)), (1, .int x1), (2, .int x2), (3, .int x3), (4, .int x4), (5, .int r1), (6, .int r2)]) [2, 3, 4, 5, 6, 1, 0] rfl ?_
          exact nd9_shape_47 C hr hw
set_option maxRecDepth 20000 in
theorem nd9_code_93 {p : Program} {l : Launch} {e : Env} {s : State} {m : MethodId} {args : Array Value} {below : List Frame} {meth : Method} {c : Code} {D : va_G} {ca : Nat → ClassId} {ρ : Nat → Nat → Nat} {x1 : Int32} {x2 : Int64} {x4 : Int32} {Q : Int32 → St → Prop} (C : Cx false p l s m meth c R9 b9_code 6 D ca ρ) (hr : meth.sig.returnType = (some .int))  : ∀ (n : Nat) (x5 : Int32) (S : St) , wp9_code_93 x1 x2 x4 Q n x5 S → wm false p l e { frames := 1, cells := 0, slots := 0, locals := 22 } s m args below meth c D ca ρ 6 0 0 (qi false below args s D ca ρ 0 0 Q) 93 [(0, .ref (ρ 9 0)), (1, .int x1), (2, .long x2), (5, .int x5)] [] S := by
  intro n
  induction n with
  | zero => intro x5 S  hw; exact hw.elim
  | succ n ih =>
    intro x5 S  hw
    unfold wp9_code_93 at hw
    refine r_iload C (pc := 93) 3 rfl d9_code_93 ?_
    refine r_if_lt C (pc := 95) (tgt := 142) d9_code_95 (by decide) (fun c1 => ?_) (fun c1 => ?_)
    · have hw := hw.1 c1
      refine r_aload_n C (pc := 142) 0 rfl d9_code_142 ?_
      refine r_iconst C (pc := 143) (v := 0) d9_code_143 (by decide) ?_
      refine p9_checked C (pc := 144) (Nat.le_of_ble_eq_true rfl) (Or.inl rfl) w9_111 d9_code_144 ?_
      refine r_S (fun S1 eS1 => ?_)
      have hw := hw S1 eS1
      refine r_aload_n C (pc := 147) 0 rfl d9_code_147 ?_
      refine g9_length C (pc := 148) (Nat.le_of_ble_eq_true rfl) w9_25 d9_code_148 ?_
      refine r_iload_n C (pc := 151) 1 rfl d9_code_151 ?_
      have hi2 := hw.1
      have hw := hw.2
      refine ld1905 C (pc := 152) (Nat.le_of_ble_eq_true rfl) hi2 d9_code_152 ?_
      exact r_iret C (pc := 153) hr d9_code_153 hw
    · have hw := hw.2 c1
      refine r_aload_n C (pc := 98) 0 rfl d9_code_98 ?_
      refine g9_codes C (pc := 99) (Nat.le_of_ble_eq_true rfl) w9_22 d9_code_99 ?_
      refine r_bipush C (pc := 102) (v := 60) d9_code_102 (by decide) ?_
      refine r_iload_n C (pc := 104) 1 rfl d9_code_104 ?_
      refine r_imul C (pc := 105) d9_code_105 ?_
      refine r_aload_n C (pc := 106) 0 rfl d9_code_106 ?_
      refine g9_length C (pc := 107) (Nat.le_of_ble_eq_true rfl) w9_25 d9_code_107 ?_
      refine r_iload_n C (pc := 110) 1 rfl d9_code_110 ?_
      have hi3 := hw.1
      have hw := hw.2
      refine ld1905 C (pc := 111) (Nat.le_of_ble_eq_true rfl) hi3 d9_code_111 ?_
      refine r_iadd C (pc := 112) d9_code_112 ?_
      refine r_lload_n C (pc := 113) 2 rfl d9_code_113 ?_
      refine r_bipush C (pc := 114) (v := 8) d9_code_114 (by decide) ?_
      refine r_iload C (pc := 116) 3 rfl d9_code_116 ?_
      refine r_imul C (pc := 118) d9_code_118 ?_
      refine r_lshr C (pc := 119) d9_code_119 ?_
      refine r_l2i C (pc := 120) d9_code_120 ?_
      refine r_sipush C (pc := 121) (v := 255) d9_code_121 (by decide) ?_
      refine r_iand C (pc := 124) d9_code_124 ?_
      have hi4 := hw.1
      have hw := hw.2
      refine st1904 C (pc := 125) (Nat.le_of_ble_eq_true rfl) hi4 d9_code_125 ?_
      refine r_S (fun S2 eS2 => ?_)
      have hw := hw S2 eS2
      refine r_aload_n C (pc := 126) 0 rfl d9_code_126 ?_
      refine g9_length C (pc := 127) (Nat.le_of_ble_eq_true rfl) w9_25 d9_code_127 ?_
      refine r_iload_n C (pc := 130) 1 rfl d9_code_130 ?_
      refine r_dup2 C (pc := 131) rfl rfl d9_code_131 ?_
      have hi5 := hw.1
      have hw := hw.2
      refine ld1905 C (pc := 132) (Nat.le_of_ble_eq_true rfl) hi5 d9_code_132 ?_
      refine r_iconst C (pc := 133) (v := 1) d9_code_133 (by decide) ?_
      refine r_iadd C (pc := 134) d9_code_134 ?_
      have hi6 := hw.1
      have hw := hw.2
      refine st1905 C (pc := 135) (Nat.le_of_ble_eq_true rfl) hi6 d9_code_135 ?_
      refine r_S (fun S3 eS3 => ?_)
      have hw := hw S3 eS3
      obtain ⟨x5_1, ex5_1⟩ : ∃ y : Int32, y = x5 + (-1) := ⟨_, rfl⟩
      have hw := hw x5_1 ex5_1
      refine r_iinc C (pc := 136) (v := x5_1) (ls' := [(5, .int x5_1), (0, .ref (ρ 9 0)), (1, .int x1), (2, .long x2)]) 3 rfl (by rw [ex5_1]; rfl) (Nat.le_of_ble_eq_true rfl) rfl d9_code_136 ?_
      refine r_goto C (pc := 139) (tgt := 93) d9_code_139 (by decide) ?_
      refine r_sub (ls' := [(0, .ref (ρ 9 0)), (1, .int x1), (2, .long x2), (5, .int x5_1)]) [1, 2, 3, 0] rfl ?_
      exact ih _ _ hw
set_option maxRecDepth 20000 in
theorem nd9_code_78 {p : Program} {l : Launch} {e : Env} {s : State} {m : MethodId} {args : Array Value} {below : List Frame} {meth : Method} {c : Code} {D : va_G} {ca : Nat → ClassId} {ρ : Nat → Nat → Nat} {x1 : Int32} {x2 : Int64} {x4 : Int32} {Q : Int32 → St → Prop} {s1 : Int32} {S : St} (C : Cx false p l s m meth c R9 b9_code 6 D ca ρ) (hr : meth.sig.returnType = (some .int))   (hw : wp9_code_78 x1 x2 x4 Q s1 S) : wm false p l e { frames := 1, cells := 0, slots := 0, locals := 22 } s m args below meth c D ca ρ 6 0 0 (qi false below args s D ca ρ 0 0 Q) 78 [(0, .ref (ρ 9 0)), (1, .int x1), (2, .long x2), (4, .int x4)] [.int s1, .ref (ρ 9 0)] S := by
  unfold wp9_code_78 at hw
  refine r_iconst C (pc := 78) (v := 3) d9_code_78 (by decide) ?_
  refine r_callVi C (pc := 79) (fun sz => ct9_good l D ca ρ sz C.2.2.2.2.2.2.1 hw) mf9_good w9_100 rfl (Nat.le_of_ble_eq_true rfl) rfl rfl rfl rfl ⟨Nat.le_of_ble_eq_true rfl, Nat.le_of_ble_eq_true rfl⟩ rfl rfl (Nat.le_of_ble_eq_true rfl) ⟨Nat.zero_le _, Nat.zero_le _⟩ d9_code_79 (fun r1 S1 hw => ?_)
  refine r_if_ne C (pc := 82) (tgt := 87) d9_code_82 (by decide) (fun c1 => ?_) (fun c1 => ?_)
  · have hw := hw.1 c1
    refine r_iload C (pc := 87) 3 rfl d9_code_87 ?_
    refine r_iconst C (pc := 89) (v := 1) d9_code_89 (by decide) ?_
    refine r_isub C (pc := 90) d9_code_90 ?_
    refine r_topi (fun x5_1 ex5_1 => ?_)
    have hw := hw x5_1 ex5_1
    refine r_istore C (pc := 91) (ls' := [(5, .int x5_1), (0, .ref (ρ 9 0)), (1, .int x1), (2, .long x2), (4, .int x4)]) (Nat.le_of_ble_eq_true rfl) rfl d9_code_91 ?_
    refine r_sub (ls' := [(0, .ref (ρ 9 0)), (1, .int x1), (2, .long x2), (5, .int x5_1)]) [1, 2, 3, 0] rfl ?_
    obtain ⟨n, hw⟩ := hw
    exact nd9_code_93 C hr  n _ _ hw
  · have hw := hw.2 c1
    refine r_iconst C (pc := 85) (v := 0) d9_code_85 (by decide) ?_
    exact r_iret C (pc := 86) hr d9_code_86 hw
set_option maxRecDepth 20000 in
theorem nd9_code_49 {p : Program} {l : Launch} {e : Env} {s : State} {m : MethodId} {args : Array Value} {below : List Frame} {meth : Method} {c : Code} {D : va_G} {ca : Nat → ClassId} {ρ : Nat → Nat → Nat} {x1 : Int32} {x2 : Int64} {x4 : Int32} {Q : Int32 → St → Prop} {s1 : Int32} {S : St} (C : Cx false p l s m meth c R9 b9_code 6 D ca ρ) (hr : meth.sig.returnType = (some .int))   (hw : wp9_code_49 x1 x2 x4 Q s1 S) : wm false p l e { frames := 1, cells := 0, slots := 0, locals := 22 } s m args below meth c D ca ρ 6 0 0 (qi false below args s D ca ρ 0 0 Q) 49 [(0, .ref (ρ 9 0)), (1, .int x1), (2, .long x2), (4, .int x4)] [.int s1, .ref (ρ 9 0)] S := by
  unfold wp9_code_49 at hw
  refine r_iconst C (pc := 49) (v := 2) d9_code_49 (by decide) ?_
  refine r_callVi C (pc := 50) (fun sz => ct9_good l D ca ρ sz C.2.2.2.2.2.2.1 hw) mf9_good w9_100 rfl (Nat.le_of_ble_eq_true rfl) rfl rfl rfl rfl ⟨Nat.le_of_ble_eq_true rfl, Nat.le_of_ble_eq_true rfl⟩ rfl rfl (Nat.le_of_ble_eq_true rfl) ⟨Nat.zero_le _, Nat.zero_le _⟩ d9_code_50 (fun r1 S1 hw => ?_)
  refine r_if_ne C (pc := 53) (tgt := 58) d9_code_53 (by decide) (fun c1 => ?_) (fun c1 => ?_)
  · have hw := hw.1 c1
    refine r_aload_n C (pc := 58) 0 rfl d9_code_58 ?_
    refine r_aload_n C (pc := 59) 0 rfl d9_code_59 ?_
    refine g9_length C (pc := 60) (Nat.le_of_ble_eq_true rfl) w9_25 d9_code_60 ?_
    refine r_iload_n C (pc := 63) 1 rfl d9_code_63 ?_
    have hi2 := hw.1
    have hw := hw.2
    refine ld1905 C (pc := 64) (Nat.le_of_ble_eq_true rfl) hi2 d9_code_64 ?_
    refine r_iload C (pc := 65) 3 rfl d9_code_65 ?_
    refine r_iadd C (pc := 67) d9_code_67 ?_
    refine r_bipush C (pc := 68) (v := 60) d9_code_68 (by decide) ?_
    refine r_icmp_gt C (pc := 70) (tgt := 77) d9_code_70 (by decide) (fun c3 => ?_) (fun c3 => ?_)
    · have hw := hw.1 c3
      refine r_iconst C (pc := 77) (v := 0) d9_code_77 (by decide) ?_
      refine r_sub (ls' := [(0, .ref (ρ 9 0)), (1, .int x1), (2, .long x2), (4, .int x4)]) [0, 1, 2, 3] rfl ?_
      exact nd9_code_78 C hr hw
    · have hw := hw.2 c3
      refine r_iconst C (pc := 73) (v := 1) d9_code_73 (by decide) ?_
      refine r_goto C (pc := 74) (tgt := 78) d9_code_74 (by decide) ?_
      refine r_sub (ls' := [(0, .ref (ρ 9 0)), (1, .int x1), (2, .long x2), (4, .int x4)]) [0, 1, 2, 3] rfl ?_
      exact nd9_code_78 C hr hw
  · have hw := hw.2 c1
    refine r_iconst C (pc := 56) (v := 0) d9_code_56 (by decide) ?_
    exact r_iret C (pc := 57) hr d9_code_57 hw
set_option maxRecDepth 20000 in
theorem nd9_code_26 {p : Program} {l : Launch} {e : Env} {s : State} {m : MethodId} {args : Array Value} {below : List Frame} {meth : Method} {c : Code} {D : va_G} {ca : Nat → ClassId} {ρ : Nat → Nat → Nat} {x1 : Int32} {x2 : Int64} {x4 : Int32} {Q : Int32 → St → Prop} {s1 : Int32} {S : St} (C : Cx false p l s m meth c R9 b9_code 6 D ca ρ) (hr : meth.sig.returnType = (some .int))   (hw : wp9_code_26 x1 x2 x4 Q s1 S) : wm false p l e { frames := 1, cells := 0, slots := 0, locals := 22 } s m args below meth c D ca ρ 6 0 0 (qi false below args s D ca ρ 0 0 Q) 26 [(0, .ref (ρ 9 0)), (1, .int x1), (2, .long x2), (4, .int x4)] [.int s1, .ref (ρ 9 0)] S := by
  unfold wp9_code_26 at hw
  refine r_iconst C (pc := 26) (v := 1) d9_code_26 (by decide) ?_
  refine r_callVi C (pc := 27) (fun sz => ct9_good l D ca ρ sz C.2.2.2.2.2.2.1 hw) mf9_good w9_100 rfl (Nat.le_of_ble_eq_true rfl) rfl rfl rfl rfl ⟨Nat.le_of_ble_eq_true rfl, Nat.le_of_ble_eq_true rfl⟩ rfl rfl (Nat.le_of_ble_eq_true rfl) ⟨Nat.zero_le _, Nat.zero_le _⟩ d9_code_27 (fun r1 S1 hw => ?_)
  refine r_if_ne C (pc := 30) (tgt := 35) d9_code_30 (by decide) (fun c1 => ?_) (fun c1 => ?_)
  · have hw := hw.1 c1
    refine r_aload_n C (pc := 35) 0 rfl d9_code_35 ?_
    refine r_aload_n C (pc := 36) 0 rfl d9_code_36 ?_
    refine g9_status C (pc := 37) (Nat.le_of_ble_eq_true rfl) w9_104 d9_code_37 ?_
    refine r_iconst C (pc := 40) (v := 1) d9_code_40 (by decide) ?_
    refine r_icmp_eq C (pc := 41) (tgt := 48) d9_code_41 (by decide) (fun c2 => ?_) (fun c2 => ?_)
    · have hw := hw.1 c2
      refine r_iconst C (pc := 48) (v := 0) d9_code_48 (by decide) ?_
      refine r_sub (ls' := [(0, .ref (ρ 9 0)), (1, .int x1), (2, .long x2), (4, .int x4)]) [0, 1, 2, 3] rfl ?_
      exact nd9_code_49 C hr hw
    · have hw := hw.2 c2
      refine r_iconst C (pc := 44) (v := 1) d9_code_44 (by decide) ?_
      refine r_goto C (pc := 45) (tgt := 49) d9_code_45 (by decide) ?_
      refine r_sub (ls' := [(0, .ref (ρ 9 0)), (1, .int x1), (2, .long x2), (4, .int x4)]) [0, 1, 2, 3] rfl ?_
      exact nd9_code_49 C hr hw
  · have hw := hw.2 c1
    refine r_iconst C (pc := 33) (v := 0) d9_code_33 (by decide) ?_
    exact r_iret C (pc := 34) hr d9_code_34 hw
set_option maxRecDepth 20000 in
theorem nd9_code_25 {p : Program} {l : Launch} {e : Env} {s : State} {m : MethodId} {args : Array Value} {below : List Frame} {meth : Method} {c : Code} {D : va_G} {ca : Nat → ClassId} {ρ : Nat → Nat → Nat} {x1 : Int32} {x2 : Int64} {x4 : Int32} {Q : Int32 → St → Prop}  {S : St} (C : Cx false p l s m meth c R9 b9_code 6 D ca ρ) (hr : meth.sig.returnType = (some .int))   (hw : wp9_code_25 x1 x2 x4 Q  S) : wm false p l e { frames := 1, cells := 0, slots := 0, locals := 22 } s m args below meth c D ca ρ 6 0 0 (qi false below args s D ca ρ 0 0 Q) 25 [(0, .ref (ρ 9 0)), (1, .int x1), (2, .long x2), (4, .int x4)] [.ref (ρ 9 0)] S := by
  unfold wp9_code_25 at hw
  refine r_iconst C (pc := 25) (v := 0) d9_code_25 (by decide) ?_
  refine r_sub (ls' := [(0, .ref (ρ 9 0)), (1, .int x1), (2, .long x2), (4, .int x4)]) [0, 1, 2, 3] rfl ?_
  exact nd9_code_26 C hr hw
set_option maxRecDepth 20000 in
theorem ct9_code (l : Launch) (D : va_G) (ca : Nat → ClassId) (ρ : Nat → Nat → Nat) (sz : Nat) {S : St} {x1 : Int32} {x2 : Int64} {x4 : Int32} {Q : Int32 → St → Prop} (hAp : Ap false ρ)  (hw : wp9_code S x1 x2 x4 Q) : Met l y9_code [Cond.code y9_code b9_code 6 (some .int)] { frames := 1, cells := 0, slots := 0, locals := 22 } (va_Pc [.ref (ρ 9 0), .int x1, .long x2, .int x4] (PreU false D ca ρ sz S)) (va_Qi Q (PostU false D ca ρ) (Ar false ρ sz)) 0 0 (Ar false ρ sz) := by
  refine met_of_wm (own := R9) (ls0 := [(0, .ref (ρ 9 0)), (1, .int x1), (2, .long x2), (4, .int x4)]) rfl rfl hAp (Nat.le_of_ble_eq_true rfl) rfl fun p e s m args below meth c C hr hz => ?_
  subst hz
  unfold wp9_code at hw
  refine r_aload_n C (pc := 0) 0 rfl d9_code_0 ?_
  refine r_iload_n C (pc := 1) 1 rfl d9_code_1 ?_
  refine r_iconst C (pc := 2) (v := 0) d9_code_2 (by decide) ?_
  refine r_iconst C (pc := 3) (v := 5) d9_code_3 (by decide) ?_
  refine r_callSi C (pc := 4) (fun sz => ct9_in l D ca ρ sz C.2.2.2.2.2.2.1 hw) mf9_in w9_92 rfl rfl ⟨Nat.le_of_ble_eq_true rfl, Nat.le_of_ble_eq_true rfl⟩ rfl rfl (Nat.le_of_ble_eq_true rfl) ⟨Nat.zero_le _, Nat.zero_le _⟩ d9_code_4 (fun r1 S1 hw => ?_)
  refine r_if_eq C (pc := 7) (tgt := 25) d9_code_7 (by decide) (fun c1 => ?_) (fun c1 => ?_)
  · have hw := hw.1 c1
    refine r_sub (ls' := [(0, .ref (ρ 9 0)), (1, .int x1), (2, .long x2), (4, .int x4)]) [0, 1, 2, 3] rfl ?_
    exact nd9_code_25 C hr hw
  · have hw := hw.2 c1
    refine r_iload C (pc := 10) 3 rfl d9_code_10 ?_
    refine r_iconst C (pc := 12) (v := 1) d9_code_12 (by decide) ?_
    refine r_bipush C (pc := 13) (v := 8) d9_code_13 (by decide) ?_
    refine r_callSi C (pc := 15) (fun sz => ct9_in l D ca ρ sz C.2.2.2.2.2.2.1 hw) mf9_in w9_92 rfl rfl ⟨Nat.le_of_ble_eq_true rfl, Nat.le_of_ble_eq_true rfl⟩ rfl rfl (Nat.le_of_ble_eq_true rfl) ⟨Nat.zero_le _, Nat.zero_le _⟩ d9_code_15 (fun r2 S2 hw => ?_)
    refine r_if_eq C (pc := 18) (tgt := 25) d9_code_18 (by decide) (fun c2 => ?_) (fun c2 => ?_)
    · have hw := hw.1 c2
      refine r_sub (ls' := [(0, .ref (ρ 9 0)), (1, .int x1), (2, .long x2), (4, .int x4)]) [0, 1, 2, 3] rfl ?_
      exact nd9_code_25 C hr hw
    · have hw := hw.2 c2
      refine r_iconst C (pc := 21) (v := 1) d9_code_21 (by decide) ?_
      refine r_goto C (pc := 22) (tgt := 26) d9_code_22 (by decide) ?_
      refine r_sub (ls' := [(0, .ref (ρ 9 0)), (1, .int x1), (2, .long x2), (4, .int x4)]) [0, 1, 2, 3] rfl ?_
      exact nd9_code_26 C hr hw
set_option maxRecDepth 20000 in
theorem nd9_table_25 {p : Program} {l : Launch} {e : Env} {s : State} {m : MethodId} {args : Array Value} {below : List Frame} {meth : Method} {c : Code} {D : va_G} {ca : Nat → ClassId} {ρ : Nat → Nat → Nat} {x1 : Int32} {x2 : Int32} {Q : Int32 → St → Prop} {s1 : Int32} {S : St} (C : Cx false p l s m meth c R9 b9_table 4 D ca ρ) (hr : meth.sig.returnType = (some .int))   (hw : wp9_table_25 x1 x2 Q s1 S) : wm false p l e { frames := 1, cells := 0, slots := 0, locals := 22 } s m args below meth c D ca ρ 4 0 0 (qi false below args s D ca ρ 0 0 Q) 25 [(0, .ref (ρ 9 0)), (1, .int x1), (2, .int x2)] [.int s1, .ref (ρ 9 0)] S := by
  unfold wp9_table_25 at hw
  refine r_iconst C (pc := 25) (v := 1) d9_table_25 (by decide) ?_
  refine r_callVi C (pc := 26) (fun sz => ct9_good l D ca ρ sz C.2.2.2.2.2.2.1 hw) mf9_good w9_100 rfl (Nat.le_of_ble_eq_true rfl) rfl rfl rfl rfl ⟨Nat.le_of_ble_eq_true rfl, Nat.le_of_ble_eq_true rfl⟩ rfl rfl (Nat.le_of_ble_eq_true rfl) ⟨Nat.zero_le _, Nat.zero_le _⟩ d9_table_26 (fun r1 S1 hw => ?_)
  refine r_if_ne C (pc := 29) (tgt := 34) d9_table_29 (by decide) (fun c1 => ?_) (fun c1 => ?_)
  · have hw := hw.1 c1
    refine r_aload_n C (pc := 34) 0 rfl d9_table_34 ?_
    refine g9_table C (pc := 35) (Nat.le_of_ble_eq_true rfl) w9_28 d9_table_35 ?_
    refine r_iload_n C (pc := 38) 1 rfl d9_table_38 ?_
    have hi2 := hw.1
    have hw := hw.2
    refine ld1906 C (pc := 39) (Nat.le_of_ble_eq_true rfl) hi2 d9_table_39 ?_
    refine r_topi (fun x3_1 ex3_1 => ?_)
    have hw := hw x3_1 ex3_1
    refine r_istore_n C (pc := 40) (ls' := [(3, .int x3_1), (0, .ref (ρ 9 0)), (1, .int x1), (2, .int x2)]) (Nat.le_of_ble_eq_true rfl) rfl d9_table_40 ?_
    refine r_aload_n C (pc := 41) 1 rfl d9_table_41 ?_
    refine g9_table C (pc := 42) (Nat.le_of_ble_eq_true rfl) w9_28 d9_table_42 ?_
    refine r_iload_n C (pc := 45) 2 rfl d9_table_45 ?_
    refine r_iload_n C (pc := 46) 3 rfl d9_table_46 ?_
    have hi3 := hw.1
    have hw := hw.2
    refine st1906 C (pc := 47) (Nat.le_of_ble_eq_true rfl) hi3 d9_table_47 ?_
    refine r_S (fun S2 eS2 => ?_)
    have hw := hw S2 eS2
    refine r_iload_n C (pc := 48) 0 rfl d9_table_48 ?_
    exact r_iret C (pc := 49) hr d9_table_49 hw
  · have hw := hw.2 c1
    refine r_iconst C (pc := 32) (v := 0) d9_table_32 (by decide) ?_
    exact r_iret C (pc := 33) hr d9_table_33 hw
set_option maxRecDepth 20000 in
theorem nd9_table_24 {p : Program} {l : Launch} {e : Env} {s : State} {m : MethodId} {args : Array Value} {below : List Frame} {meth : Method} {c : Code} {D : va_G} {ca : Nat → ClassId} {ρ : Nat → Nat → Nat} {x1 : Int32} {x2 : Int32} {Q : Int32 → St → Prop}  {S : St} (C : Cx false p l s m meth c R9 b9_table 4 D ca ρ) (hr : meth.sig.returnType = (some .int))   (hw : wp9_table_24 x1 x2 Q  S) : wm false p l e { frames := 1, cells := 0, slots := 0, locals := 22 } s m args below meth c D ca ρ 4 0 0 (qi false below args s D ca ρ 0 0 Q) 24 [(0, .ref (ρ 9 0)), (1, .int x1), (2, .int x2)] [.ref (ρ 9 0)] S := by
  unfold wp9_table_24 at hw
  refine r_iconst C (pc := 24) (v := 0) d9_table_24 (by decide) ?_
  refine r_sub (ls' := [(0, .ref (ρ 9 0)), (1, .int x1), (2, .int x2)]) [0, 1, 2] rfl ?_
  exact nd9_table_25 C hr hw
set_option maxRecDepth 20000 in
theorem ct9_table (l : Launch) (D : va_G) (ca : Nat → ClassId) (ρ : Nat → Nat → Nat) (sz : Nat) {S : St} {x1 : Int32} {x2 : Int32} {Q : Int32 → St → Prop} (hAp : Ap false ρ)  (hw : wp9_table S x1 x2 Q) : Met l y9_table [Cond.code y9_table b9_table 4 (some .int)] { frames := 1, cells := 0, slots := 0, locals := 22 } (va_Pc [.ref (ρ 9 0), .int x1, .int x2] (PreU false D ca ρ sz S)) (va_Qi Q (PostU false D ca ρ) (Ar false ρ sz)) 0 0 (Ar false ρ sz) := by
  refine met_of_wm (own := R9) (ls0 := [(0, .ref (ρ 9 0)), (1, .int x1), (2, .int x2)]) rfl rfl hAp (Nat.le_of_ble_eq_true rfl) rfl fun p e s m args below meth c C hr hz => ?_
  subst hz
  unfold wp9_table at hw
  refine r_aload_n C (pc := 0) 0 rfl d9_table_0 ?_
  refine r_iload_n C (pc := 1) 1 rfl d9_table_1 ?_
  refine r_iconst C (pc := 2) (v := 0) d9_table_2 (by decide) ?_
  refine r_bipush C (pc := 3) (v := 7) d9_table_3 (by decide) ?_
  refine r_callSi C (pc := 5) (fun sz => ct9_in l D ca ρ sz C.2.2.2.2.2.2.1 hw) mf9_in w9_92 rfl rfl ⟨Nat.le_of_ble_eq_true rfl, Nat.le_of_ble_eq_true rfl⟩ rfl rfl (Nat.le_of_ble_eq_true rfl) ⟨Nat.zero_le _, Nat.zero_le _⟩ d9_table_5 (fun r1 S1 hw => ?_)
  refine r_if_eq C (pc := 8) (tgt := 24) d9_table_8 (by decide) (fun c1 => ?_) (fun c1 => ?_)
  · have hw := hw.1 c1
    refine r_sub (ls' := [(0, .ref (ρ 9 0)), (1, .int x1), (2, .int x2)]) [0, 1, 2] rfl ?_
    exact nd9_table_24 C hr hw
  · have hw := hw.2 c1
    refine r_iload_n C (pc := 11) 2 rfl d9_table_11 ?_
    refine r_iconst C (pc := 12) (v := (-1)) d9_table_12 (by decide) ?_
    refine r_iconst C (pc := 13) (v := 5) d9_table_13 (by decide) ?_
    refine r_callSi C (pc := 14) (fun sz => ct9_in l D ca ρ sz C.2.2.2.2.2.2.1 hw) mf9_in w9_92 rfl rfl ⟨Nat.le_of_ble_eq_true rfl, Nat.le_of_ble_eq_true rfl⟩ rfl rfl (Nat.le_of_ble_eq_true rfl) ⟨Nat.zero_le _, Nat.zero_le _⟩ d9_table_14 (fun r2 S2 hw => ?_)
    refine r_if_eq C (pc := 17) (tgt := 24) d9_table_17 (by decide) (fun c2 => ?_) (fun c2 => ?_)
    · have hw := hw.1 c2
      refine r_sub (ls' := [(0, .ref (ρ 9 0)), (1, .int x1), (2, .int x2)]) [0, 1, 2] rfl ?_
      exact nd9_table_24 C hr hw
    · have hw := hw.2 c2
      refine r_iconst C (pc := 20) (v := 1) d9_table_20 (by decide) ?_
      refine r_goto C (pc := 21) (tgt := 25) d9_table_21 (by decide) ?_
      refine r_sub (ls' := [(0, .ref (ρ 9 0)), (1, .int x1), (2, .int x2)]) [0, 1, 2] rfl ?_
      exact nd9_table_25 C hr hw
set_option maxRecDepth 20000 in
theorem ct9_isKnown (l : Launch) (D : va_G) (ca : Nat → ClassId) (ρ : Nat → Nat → Nat) (sz : Nat) {S : St} {x0 : Int32} {Q : Int32 → St → Prop} (hAp : Ap false ρ)  (hw : wp9_isKnown S x0 Q) : Met l y9_isKnown [Cond.code y9_isKnown b9_isKnown 1 (some .boolean)] { frames := 1, cells := 0, slots := 0, locals := 22 } (va_Pc [.int x0] (PreU false D ca ρ sz S)) (va_Qi Q (PostU false D ca ρ) (Ar false ρ sz)) 0 0 (Ar false ρ sz) := by
  refine met_of_wm (own := R9) (ls0 := [(0, .int x0)]) rfl rfl hAp (Nat.le_of_ble_eq_true rfl) rfl fun p e s m args below meth c C hr hz => ?_
  subst hz
  unfold wp9_isKnown at hw
  refine r_iload_n C (pc := 0) 0 rfl d9_isKnown_0 ?_
  refine r_bipush C (pc := 1) (v := 28) d9_isKnown_1 (by decide) ?_
  refine r_icmp_le C (pc := 3) (tgt := 50) d9_isKnown_3 (by decide) (fun c1 => ?_) (fun c1 => ?_)
  · have hw := hw.1 c1
    refine r_iconst C (pc := 50) (v := 1) d9_isKnown_50 (by decide) ?_
    refine r_goto C (pc := 51) (tgt := 55) d9_isKnown_51 (by decide) ?_
    exact r_zret C (pc := 55) hr rfl d9_isKnown_55 hw
  · have hw := hw.2 c1
    refine r_iload_n C (pc := 6) 0 rfl d9_isKnown_6 ?_
    refine r_bipush C (pc := 7) (v := 30) d9_isKnown_7 (by decide) ?_
    refine r_bipush C (pc := 9) (v := 45) d9_isKnown_9 (by decide) ?_
    refine r_callSi C (pc := 11) (fun sz => ct9_in l D ca ρ sz C.2.2.2.2.2.2.1 hw) mf9_in w9_92 rfl rfl ⟨Nat.le_of_ble_eq_true rfl, Nat.le_of_ble_eq_true rfl⟩ rfl rfl (Nat.le_of_ble_eq_true rfl) ⟨Nat.zero_le _, Nat.zero_le _⟩ d9_isKnown_11 (fun r1 S1 hw => ?_)
    refine r_if_ne C (pc := 14) (tgt := 50) d9_isKnown_14 (by decide) (fun c2 => ?_) (fun c2 => ?_)
    · have hw := hw.1 c2
      refine r_iconst C (pc := 50) (v := 1) d9_isKnown_50 (by decide) ?_
      refine r_goto C (pc := 51) (tgt := 55) d9_isKnown_51 (by decide) ?_
      exact r_zret C (pc := 55) hr rfl d9_isKnown_55 hw
    · have hw := hw.2 c2
      refine r_iload_n C (pc := 17) 0 rfl d9_isKnown_17 ?_
      refine r_bipush C (pc := 18) (v := 50) d9_isKnown_18 (by decide) ?_
      refine r_bipush C (pc := 20) (v := 64) d9_isKnown_20 (by decide) ?_
      refine r_callSi C (pc := 22) (fun sz => ct9_in l D ca ρ sz C.2.2.2.2.2.2.1 hw) mf9_in w9_92 rfl rfl ⟨Nat.le_of_ble_eq_true rfl, Nat.le_of_ble_eq_true rfl⟩ rfl rfl (Nat.le_of_ble_eq_true rfl) ⟨Nat.zero_le _, Nat.zero_le _⟩ d9_isKnown_22 (fun r2 S2 hw => ?_)
      refine r_if_ne C (pc := 25) (tgt := 50) d9_isKnown_25 (by decide) (fun c3 => ?_) (fun c3 => ?_)
      · have hw := hw.1 c3
        refine r_iconst C (pc := 50) (v := 1) d9_isKnown_50 (by decide) ?_
        refine r_goto C (pc := 51) (tgt := 55) d9_isKnown_51 (by decide) ?_
        exact r_zret C (pc := 55) hr rfl d9_isKnown_55 hw
      · have hw := hw.2 c3
        refine r_iload_n C (pc := 28) 0 rfl d9_isKnown_28 ?_
        refine r_bipush C (pc := 29) (v := 70) d9_isKnown_29 (by decide) ?_
        refine r_bipush C (pc := 31) (v := 76) d9_isKnown_31 (by decide) ?_
        refine r_callSi C (pc := 33) (fun sz => ct9_in l D ca ρ sz C.2.2.2.2.2.2.1 hw) mf9_in w9_92 rfl rfl ⟨Nat.le_of_ble_eq_true rfl, Nat.le_of_ble_eq_true rfl⟩ rfl rfl (Nat.le_of_ble_eq_true rfl) ⟨Nat.zero_le _, Nat.zero_le _⟩ d9_isKnown_33 (fun r3 S3 hw => ?_)
        refine r_if_ne C (pc := 36) (tgt := 50) d9_isKnown_36 (by decide) (fun c4 => ?_) (fun c4 => ?_)
        · have hw := hw.1 c4
          refine r_iconst C (pc := 50) (v := 1) d9_isKnown_50 (by decide) ?_
          refine r_goto C (pc := 51) (tgt := 55) d9_isKnown_51 (by decide) ?_
          exact r_zret C (pc := 55) hr rfl d9_isKnown_55 hw
        · have hw := hw.2 c4
          refine r_iload_n C (pc := 39) 0 rfl d9_isKnown_39 ?_
          refine r_bipush C (pc := 40) (v := 80) d9_isKnown_40 (by decide) ?_
          refine r_bipush C (pc := 42) (v := 85) d9_isKnown_42 (by decide) ?_
          refine r_callSi C (pc := 44) (fun sz => ct9_in l D ca ρ sz C.2.2.2.2.2.2.1 hw) mf9_in w9_92 rfl rfl ⟨Nat.le_of_ble_eq_true rfl, Nat.le_of_ble_eq_true rfl⟩ rfl rfl (Nat.le_of_ble_eq_true rfl) ⟨Nat.zero_le _, Nat.zero_le _⟩ d9_isKnown_44 (fun r4 S4 hw => ?_)
          refine r_if_eq C (pc := 47) (tgt := 54) d9_isKnown_47 (by decide) (fun c5 => ?_) (fun c5 => ?_)
          · have hw := hw.1 c5
            refine r_iconst C (pc := 54) (v := 0) d9_isKnown_54 (by decide) ?_
            exact r_zret C (pc := 55) hr rfl d9_isKnown_55 hw
          · have hw := hw.2 c5
            refine r_iconst C (pc := 50) (v := 1) d9_isKnown_50 (by decide) ?_
            refine r_goto C (pc := 51) (tgt := 55) d9_isKnown_51 (by decide) ?_
            exact r_zret C (pc := 55) hr rfl d9_isKnown_55 hw
set_option maxRecDepth 20000 in
theorem ct9_byteAt (l : Launch) (D : va_G) (ca : Nat → ClassId) (ρ : Nat → Nat → Nat) (sz : Nat) {S : St} {x1 : Int32} {x2 : Int32} {Q : Int32 → St → Prop} (hAp : Ap false ρ)  (hw : wp9_byteAt S x1 x2 Q) : Met l y9_byteAt [Cond.code y9_byteAt b9_byteAt 3 (some .int)] { frames := 0, cells := 0, slots := 0, locals := 0 } (va_Pc [.ref (ρ 9 0), .int x1, .int x2] (PreU false D ca ρ sz S)) (va_Qi Q (PostU false D ca ρ) (Ar false ρ sz)) 0 0 (Ar false ρ sz) := by
  refine met_of_wm (own := R9) (ls0 := [(0, .ref (ρ 9 0)), (1, .int x1), (2, .int x2)]) rfl rfl hAp (Nat.le_of_ble_eq_true rfl) rfl fun p e s m args below meth c C hr hz => ?_
  subst hz
  unfold wp9_byteAt at hw
  refine r_aload_n C (pc := 0) 0 rfl d9_byteAt_0 ?_
  refine g9_codes C (pc := 1) (Nat.le_of_ble_eq_true rfl) w9_22 d9_byteAt_1 ?_
  refine r_bipush C (pc := 4) (v := 60) d9_byteAt_4 (by decide) ?_
  refine r_iload_n C (pc := 6) 1 rfl d9_byteAt_6 ?_
  refine r_imul C (pc := 7) d9_byteAt_7 ?_
  refine r_iload_n C (pc := 8) 2 rfl d9_byteAt_8 ?_
  refine r_iadd C (pc := 9) d9_byteAt_9 ?_
  have hi1 := hw.1
  have hw := hw.2
  refine ld1904 C (pc := 10) (Nat.le_of_ble_eq_true rfl) hi1 d9_byteAt_10 ?_
  exact r_iret C (pc := 11) hr d9_byteAt_11 hw
set_option maxRecDepth 20000 in
theorem ct9_behind (l : Launch) (D : va_G) (ca : Nat → ClassId) (ρ : Nat → Nat → Nat) (sz : Nat) {S : St} {x1 : Int32} {x2 : Int32} {Q : Int32 → St → Prop} (hAp : Ap false ρ)  (hw : wp9_behind S x1 x2 Q) : Met l y9_behind [Cond.code y9_behind b9_behind 4 (some .int)] { frames := 1, cells := 0, slots := 0, locals := 22 } (va_Pc [.ref (ρ 9 0), .int x1, .int x2] (PreU false D ca ρ sz S)) (va_Qi Q (PostU false D ca ρ) (Ar false ρ sz)) 0 0 (Ar false ρ sz) := by
  refine met_of_wm (own := R9) (ls0 := [(0, .ref (ρ 9 0)), (1, .int x1), (2, .int x2)]) rfl rfl hAp (Nat.le_of_ble_eq_true rfl) rfl fun p e s m args below meth c C hr hz => ?_
  subst hz
  unfold wp9_behind at hw
  refine r_aload_n C (pc := 0) 0 rfl d9_behind_0 ?_
  refine r_iload_n C (pc := 1) 1 rfl d9_behind_1 ?_
  refine r_iload_n C (pc := 2) 2 rfl d9_behind_2 ?_
  refine r_callVi C (pc := 3) (fun sz => ct9_byteAt l D ca ρ sz C.2.2.2.2.2.2.1 hw) mf9_byteAt w9_115 rfl (Nat.le_of_ble_eq_true rfl) rfl rfl rfl rfl ⟨Nat.le_of_ble_eq_true rfl, Nat.le_of_ble_eq_true rfl⟩ rfl rfl (Nat.le_of_ble_eq_true rfl) ⟨Nat.zero_le _, Nat.zero_le _⟩ d9_behind_3 (fun r1 S1 hw => ?_)
  refine r_istore_n C (pc := 6) (ls' := [(3, .int r1), (0, .ref (ρ 9 0)), (1, .int x1), (2, .int x2)]) (Nat.le_of_ble_eq_true rfl) rfl d9_behind_6 ?_
  refine r_iload_n C (pc := 7) 0 rfl d9_behind_7 ?_
  refine r_bipush C (pc := 8) (v := 9) d9_behind_8 (by decide) ?_
  refine r_icmp_ne C (pc := 10) (tgt := 40) d9_behind_10 (by decide) (fun c1 => ?_) (fun c1 => ?_)
  · have hw := hw.1 c1
    refine r_iload_n C (pc := 40) 0 rfl d9_behind_40 ?_
    refine r_iconst C (pc := 41) (v := 2) d9_behind_41 (by decide) ?_
    refine r_iconst C (pc := 42) (v := 4) d9_behind_42 (by decide) ?_
    refine r_callSi C (pc := 43) (fun sz => ct9_in l D ca ρ sz C.2.2.2.2.2.2.1 hw) mf9_in w9_92 rfl rfl ⟨Nat.le_of_ble_eq_true rfl, Nat.le_of_ble_eq_true rfl⟩ rfl rfl (Nat.le_of_ble_eq_true rfl) ⟨Nat.zero_le _, Nat.zero_le _⟩ d9_behind_43 (fun r2 S2 hw => ?_)
    refine r_if_ne C (pc := 46) (tgt := 84) d9_behind_46 (by decide) (fun c2 => ?_) (fun c2 => ?_)
    · have hw := hw.1 c2
      refine r_iconst C (pc := 84) (v := 1) d9_behind_84 (by decide) ?_
      refine r_goto C (pc := 85) (tgt := 89) d9_behind_85 (by decide) ?_
      exact r_iret C (pc := 89) hr d9_behind_89 hw
    · have hw := hw.2 c2
      refine r_iload_n C (pc := 49) 0 rfl d9_behind_49 ?_
      refine r_bipush C (pc := 50) (v := 7) d9_behind_50 (by decide) ?_
      refine r_icmp_eq C (pc := 52) (tgt := 84) d9_behind_52 (by decide) (fun c3 => ?_) (fun c3 => ?_)
      · have hw := hw.1 c3
        refine r_iconst C (pc := 84) (v := 1) d9_behind_84 (by decide) ?_
        refine r_goto C (pc := 85) (tgt := 89) d9_behind_85 (by decide) ?_
        exact r_iret C (pc := 89) hr d9_behind_89 hw
      · have hw := hw.2 c3
        refine r_iload_n C (pc := 55) 0 rfl d9_behind_55 ?_
        refine r_bipush C (pc := 56) (v := 8) d9_behind_56 (by decide) ?_
        refine r_icmp_eq C (pc := 58) (tgt := 84) d9_behind_58 (by decide) (fun c4 => ?_) (fun c4 => ?_)
        · have hw := hw.1 c4
          refine r_iconst C (pc := 84) (v := 1) d9_behind_84 (by decide) ?_
          refine r_goto C (pc := 85) (tgt := 89) d9_behind_85 (by decide) ?_
          exact r_iret C (pc := 89) hr d9_behind_89 hw
        · have hw := hw.2 c4
          refine r_iload_n C (pc := 61) 0 rfl d9_behind_61 ?_
          refine r_bipush C (pc := 62) (v := 11) d9_behind_62 (by decide) ?_
          refine r_icmp_eq C (pc := 64) (tgt := 84) d9_behind_64 (by decide) (fun c5 => ?_) (fun c5 => ?_)
          · have hw := hw.1 c5
            refine r_iconst C (pc := 84) (v := 1) d9_behind_84 (by decide) ?_
            refine r_goto C (pc := 85) (tgt := 89) d9_behind_85 (by decide) ?_
            exact r_iret C (pc := 89) hr d9_behind_89 hw
          · have hw := hw.2 c5
            refine r_iload_n C (pc := 67) 0 rfl d9_behind_67 ?_
            refine r_bipush C (pc := 68) (v := 12) d9_behind_68 (by decide) ?_
            refine r_icmp_eq C (pc := 70) (tgt := 84) d9_behind_70 (by decide) (fun c6 => ?_) (fun c6 => ?_)
            · have hw := hw.1 c6
              refine r_iconst C (pc := 84) (v := 1) d9_behind_84 (by decide) ?_
              refine r_goto C (pc := 85) (tgt := 89) d9_behind_85 (by decide) ?_
              exact r_iret C (pc := 89) hr d9_behind_89 hw
            · have hw := hw.2 c6
              refine r_iload_n C (pc := 73) 0 rfl d9_behind_73 ?_
              refine r_bipush C (pc := 74) (v := 15) d9_behind_74 (by decide) ?_
              refine r_bipush C (pc := 76) (v := 28) d9_behind_76 (by decide) ?_
              refine r_callSi C (pc := 78) (fun sz => ct9_in l D ca ρ sz C.2.2.2.2.2.2.1 hw) mf9_in w9_92 rfl rfl ⟨Nat.le_of_ble_eq_true rfl, Nat.le_of_ble_eq_true rfl⟩ rfl rfl (Nat.le_of_ble_eq_true rfl) ⟨Nat.zero_le _, Nat.zero_le _⟩ d9_behind_78 (fun r3 S3 hw => ?_)
              refine r_if_eq C (pc := 81) (tgt := 88) d9_behind_81 (by decide) (fun c7 => ?_) (fun c7 => ?_)
              · have hw := hw.1 c7
                refine r_iconst C (pc := 88) (v := 0) d9_behind_88 (by decide) ?_
                exact r_iret C (pc := 89) hr d9_behind_89 hw
              · have hw := hw.2 c7
                refine r_iconst C (pc := 84) (v := 1) d9_behind_84 (by decide) ?_
                refine r_goto C (pc := 85) (tgt := 89) d9_behind_85 (by decide) ?_
                exact r_iret C (pc := 89) hr d9_behind_89 hw
  · have hw := hw.2 c1
    refine r_iload_n C (pc := 13) 3 rfl d9_behind_13 ?_
    refine r_iconst C (pc := 14) (v := 1) d9_behind_14 (by decide) ?_
    refine r_iadd C (pc := 15) d9_behind_15 ?_
    refine r_aload_n C (pc := 16) 1 rfl d9_behind_16 ?_
    refine g9_length C (pc := 17) (Nat.le_of_ble_eq_true rfl) w9_25 d9_behind_17 ?_
    refine r_iload_n C (pc := 20) 2 rfl d9_behind_20 ?_
    have hi8 := hw.1
    have hw := hw.2
    refine ld1905 C (pc := 21) (Nat.le_of_ble_eq_true rfl) hi8 d9_behind_21 ?_
    refine r_icmp_ge C (pc := 22) (tgt := 38) d9_behind_22 (by decide) (fun c9 => ?_) (fun c9 => ?_)
    · have hw := hw.1 c9
      refine r_iconst C (pc := 38) (v := 1) d9_behind_38 (by decide) ?_
      exact r_iret C (pc := 39) hr d9_behind_39 hw
    · have hw := hw.2 c9
      refine r_iconst C (pc := 25) (v := 2) d9_behind_25 (by decide) ?_
      refine r_aload_n C (pc := 26) 1 rfl d9_behind_26 ?_
      refine r_iload_n C (pc := 27) 2 rfl d9_behind_27 ?_
      refine r_iload_n C (pc := 28) 3 rfl d9_behind_28 ?_
      refine r_iconst C (pc := 29) (v := 1) d9_behind_29 (by decide) ?_
      refine r_iadd C (pc := 30) d9_behind_30 ?_
      refine r_callVi C (pc := 31) (fun sz => ct9_byteAt l D ca ρ sz C.2.2.2.2.2.2.1 hw) mf9_byteAt w9_115 rfl (Nat.le_of_ble_eq_true rfl) rfl rfl rfl rfl ⟨Nat.le_of_ble_eq_true rfl, Nat.le_of_ble_eq_true rfl⟩ rfl rfl (Nat.le_of_ble_eq_true rfl) ⟨Nat.zero_le _, Nat.zero_le _⟩ d9_behind_31 (fun r4 S4 hw => ?_)
      refine r_iadd C (pc := 34) d9_behind_34 ?_
      refine r_goto C (pc := 35) (tgt := 39) d9_behind_35 (by decide) ?_
      exact r_iret C (pc := 39) hr d9_behind_39 hw
set_option maxRecDepth 20000 in
theorem nd9_seek_71 {p : Program} {l : Launch} {e : Env} {s : State} {m : MethodId} {args : Array Value} {below : List Frame} {meth : Method} {c : Code} {D : va_G} {ca : Nat → ClassId} {ρ : Nat → Nat → Nat} {x1 : Int32} {x2 : Int32} {x3 : Int32} {Q : Int32 → St → Prop} {K : Int32 → Int32 → St → Prop} {x4 : Int32} {x5 : Int32} {S : St} (C : Cx false p l s m meth c R9 b9_seek 6 D ca ρ) (hr : meth.sig.returnType = (some .int))  (hK : ∀ (x4 : Int32) (x5 : Int32) (S : St) , K x4 x5 S → wm false p l e { frames := 2, cells := 0, slots := 0, locals := 45 } s m args below meth c D ca ρ 6 0 0 (qi false below args s D ca ρ 0 0 Q) 6 [(0, .ref (ρ 9 0)), (1, .int x1), (3, .int x3), (4, .int x4), (5, .int x5)] [] S)  (hw : wp9_seek_71 K x1 x2 x3 Q x4 x5 S) : wm false p l e { frames := 2, cells := 0, slots := 0, locals := 45 } s m args below meth c D ca ρ 6 0 0 (qi false below args s D ca ρ 0 0 Q) 71 [(0, .ref (ρ 9 0)), (1, .int x1), (3, .int x3), (4, .int x4), (5, .int x5)] [] S := by
  unfold wp9_seek_71 at hw
  refine r_iload C (pc := 71) 4 rfl d9_seek_71 ?_
  refine r_iconst C (pc := 73) (v := 1) d9_seek_73 (by decide) ?_
  refine r_aload_n C (pc := 74) 0 rfl d9_seek_74 ?_
  refine r_iload_n C (pc := 75) 1 rfl d9_seek_75 ?_
  refine r_iload C (pc := 76) 4 rfl d9_seek_76 ?_
  refine r_callVi C (pc := 78) (fun sz => ct9_behind l D ca ρ sz C.2.2.2.2.2.2.1 hw) mf9_behind w9_119 rfl (Nat.le_of_ble_eq_true rfl) rfl rfl rfl rfl ⟨Nat.le_of_ble_eq_true rfl, Nat.le_of_ble_eq_true rfl⟩ rfl rfl (Nat.le_of_ble_eq_true rfl) ⟨Nat.zero_le _, Nat.zero_le _⟩ d9_seek_78 (fun r1 S1 hw => ?_)
  refine r_iadd C (pc := 81) d9_seek_81 ?_
  refine r_iadd C (pc := 82) d9_seek_82 ?_
  refine r_topi (fun x5_1 ex5_1 => ?_)
  have hw := hw x5_1 ex5_1
  refine r_istore C (pc := 83) (ls' := [(5, .int x5_1), (0, .ref (ρ 9 0)), (1, .int x1), (3, .int x3), (4, .int x4)]) (Nat.le_of_ble_eq_true rfl) rfl d9_seek_83 ?_
  refine r_goto C (pc := 85) (tgt := 6) d9_seek_85 (by decide) ?_
  refine r_sub (ls' := [(0, .ref (ρ 9 0)), (1, .int x1), (3, .int x3), (4, .int x4), (5, .int x5_1)]) [1, 2, 3, 4, 0] rfl ?_
  exact hK _ _ _ hw
set_option maxRecDepth 20000 in
theorem nd9_seek_56 {p : Program} {l : Launch} {e : Env} {s : State} {m : MethodId} {args : Array Value} {below : List Frame} {meth : Method} {c : Code} {D : va_G} {ca : Nat → ClassId} {ρ : Nat → Nat → Nat} {x1 : Int32} {x2 : Int32} {x3 : Int32} {Q : Int32 → St → Prop} {K : Int32 → Int32 → St → Prop} {x4 : Int32} {x5 : Int32} {S : St} (C : Cx false p l s m meth c R9 b9_seek 6 D ca ρ) (hr : meth.sig.returnType = (some .int))  (hK : ∀ (x4 : Int32) (x5 : Int32) (S : St) , K x4 x5 S → wm false p l e { frames := 2, cells := 0, slots := 0, locals := 45 } s m args below meth c D ca ρ 6 0 0 (qi false below args s D ca ρ 0 0 Q) 6 [(0, .ref (ρ 9 0)), (1, .int x1), (3, .int x3), (4, .int x4), (5, .int x5)] [] S)  (hw : wp9_seek_56 K x1 x2 x3 Q x4 x5 S) : wm false p l e { frames := 2, cells := 0, slots := 0, locals := 45 } s m args below meth c D ca ρ 6 0 0 (qi false below args s D ca ρ 0 0 Q) 56 [(0, .ref (ρ 9 0)), (1, .int x1), (3, .int x3), (4, .int x4), (5, .int x5)] [] S := by
  unfold wp9_seek_56 at hw
  refine r_aload_n C (pc := 56) 0 rfl d9_seek_56 ?_
  refine r_iload_n C (pc := 57) 1 rfl d9_seek_57 ?_
  refine r_iload C (pc := 58) 4 rfl d9_seek_58 ?_
  refine r_callVi C (pc := 60) (fun sz => ct9_byteAt l D ca ρ sz C.2.2.2.2.2.2.1 hw) mf9_byteAt w9_115 rfl (Nat.le_of_ble_eq_true rfl) rfl rfl rfl rfl ⟨Nat.le_of_ble_eq_true rfl, Nat.le_of_ble_eq_true rfl⟩ rfl rfl (Nat.le_of_ble_eq_true rfl) ⟨Nat.zero_le _, Nat.zero_le _⟩ d9_seek_60 (fun r1 S1 hw => ?_)
  refine r_bipush C (pc := 63) (v := 6) d9_seek_63 (by decide) ?_
  refine r_icmp_ne C (pc := 65) (tgt := 71) d9_seek_65 (by decide) (fun c1 => ?_) (fun c1 => ?_)
  · have hw := hw.1 c1
    refine r_sub (ls' := [(0, .ref (ρ 9 0)), (1, .int x1), (3, .int x3), (4, .int x4), (5, .int x5)]) [0, 1, 2, 3, 4] rfl ?_
    exact nd9_seek_71 C hr hK hw
  · have hw := hw.2 c1
    obtain ⟨x4_1, ex4_1⟩ : ∃ y : Int32, y = x4 + (-1) := ⟨_, rfl⟩
    have hw := hw x4_1 ex4_1
    refine r_iinc C (pc := 68) (v := x4_1) (ls' := [(4, .int x4_1), (0, .ref (ρ 9 0)), (1, .int x1), (3, .int x3), (5, .int x5)]) 3 rfl (by rw [ex4_1]; rfl) (Nat.le_of_ble_eq_true rfl) rfl d9_seek_68 ?_
    refine r_sub (ls' := [(0, .ref (ρ 9 0)), (1, .int x1), (3, .int x3), (4, .int x4_1), (5, .int x5)]) [1, 2, 3, 0, 4] rfl ?_
    exact nd9_seek_71 C hr hK hw
set_option maxRecDepth 20000 in
theorem nd9_seek_38 {p : Program} {l : Launch} {e : Env} {s : State} {m : MethodId} {args : Array Value} {below : List Frame} {meth : Method} {c : Code} {D : va_G} {ca : Nat → ClassId} {ρ : Nat → Nat → Nat} {x1 : Int32} {x2 : Int32} {x3 : Int32} {Q : Int32 → St → Prop} {K : Int32 → Int32 → St → Prop} {x4 : Int32} {x5 : Int32} {S : St} (C : Cx false p l s m meth c R9 b9_seek 6 D ca ρ) (hr : meth.sig.returnType = (some .int))  (hK : ∀ (x4 : Int32) (x5 : Int32) (S : St) , K x4 x5 S → wm false p l e { frames := 2, cells := 0, slots := 0, locals := 45 } s m args below meth c D ca ρ 6 0 0 (qi false below args s D ca ρ 0 0 Q) 6 [(0, .ref (ρ 9 0)), (1, .int x1), (3, .int x3), (4, .int x4), (5, .int x5)] [] S)  (hw : wp9_seek_38 K x1 x2 x3 Q x4 x5 S) : wm false p l e { frames := 2, cells := 0, slots := 0, locals := 45 } s m args below meth c D ca ρ 6 0 0 (qi false below args s D ca ρ 0 0 Q) 38 [(0, .ref (ρ 9 0)), (1, .int x1), (3, .int x3), (4, .int x4), (5, .int x5)] [] S := by
  unfold wp9_seek_38 at hw
  refine r_aload_n C (pc := 38) 0 rfl d9_seek_38 ?_
  refine r_iload_n C (pc := 39) 1 rfl d9_seek_39 ?_
  refine r_iload C (pc := 40) 4 rfl d9_seek_40 ?_
  refine r_callVi C (pc := 42) (fun sz => ct9_byteAt l D ca ρ sz C.2.2.2.2.2.2.1 hw) mf9_byteAt w9_115 rfl (Nat.le_of_ble_eq_true rfl) rfl rfl rfl rfl ⟨Nat.le_of_ble_eq_true rfl, Nat.le_of_ble_eq_true rfl⟩ rfl rfl (Nat.le_of_ble_eq_true rfl) ⟨Nat.zero_le _, Nat.zero_le _⟩ d9_seek_42 (fun r1 S1 hw => ?_)
  refine r_iconst C (pc := 45) (v := 2) d9_seek_45 (by decide) ?_
  refine r_iconst C (pc := 46) (v := 4) d9_seek_46 (by decide) ?_
  refine r_callSi C (pc := 47) (fun sz => ct9_in l D ca ρ sz C.2.2.2.2.2.2.1 hw) mf9_in w9_92 rfl rfl ⟨Nat.le_of_ble_eq_true rfl, Nat.le_of_ble_eq_true rfl⟩ rfl rfl (Nat.le_of_ble_eq_true rfl) ⟨Nat.zero_le _, Nat.zero_le _⟩ d9_seek_47 (fun r2 S2 hw => ?_)
  refine r_if_eq C (pc := 50) (tgt := 56) d9_seek_50 (by decide) (fun c1 => ?_) (fun c1 => ?_)
  · have hw := hw.1 c1
    refine r_sub (ls' := [(0, .ref (ρ 9 0)), (1, .int x1), (3, .int x3), (4, .int x4), (5, .int x5)]) [0, 1, 2, 3, 4] rfl ?_
    exact nd9_seek_56 C hr hK hw
  · have hw := hw.2 c1
    obtain ⟨x4_1, ex4_1⟩ : ∃ y : Int32, y = x4 + 1 := ⟨_, rfl⟩
    have hw := hw x4_1 ex4_1
    refine r_iinc C (pc := 53) (v := x4_1) (ls' := [(4, .int x4_1), (0, .ref (ρ 9 0)), (1, .int x1), (3, .int x3), (5, .int x5)]) 3 rfl (by rw [ex4_1]; rfl) (Nat.le_of_ble_eq_true rfl) rfl d9_seek_53 ?_
    refine r_sub (ls' := [(0, .ref (ρ 9 0)), (1, .int x1), (3, .int x3), (4, .int x4_1), (5, .int x5)]) [1, 2, 3, 0, 4] rfl ?_
    exact nd9_seek_56 C hr hK hw
set_option maxRecDepth 20000 in
theorem nd9_seek_6 {p : Program} {l : Launch} {e : Env} {s : State} {m : MethodId} {args : Array Value} {below : List Frame} {meth : Method} {c : Code} {D : va_G} {ca : Nat → ClassId} {ρ : Nat → Nat → Nat} {x1 : Int32} {x2 : Int32} {x3 : Int32} {Q : Int32 → St → Prop} (C : Cx false p l s m meth c R9 b9_seek 6 D ca ρ) (hr : meth.sig.returnType = (some .int))  : ∀ (n : Nat) (x4 : Int32) (x5 : Int32) (S : St) , wp9_seek_6 x1 x2 x3 Q n x4 x5 S → wm false p l e { frames := 2, cells := 0, slots := 0, locals := 45 } s m args below meth c D ca ρ 6 0 0 (qi false below args s D ca ρ 0 0 Q) 6 [(0, .ref (ρ 9 0)), (1, .int x1), (3, .int x3), (4, .int x4), (5, .int x5)] [] S := by
  intro n
  induction n with
  | zero => intro x4 x5 S  hw; exact hw.elim
  | succ n ih =>
    intro x4 x5 S  hw
    unfold wp9_seek_6 at hw
    refine r_iload C (pc := 6) 3 rfl d9_seek_6 ?_
    refine r_if_gt C (pc := 8) (tgt := 38) d9_seek_8 (by decide) (fun c1 => ?_) (fun c1 => ?_)
    · have hw := hw.1 c1
      refine r_sub (ls' := [(0, .ref (ρ 9 0)), (1, .int x1), (3, .int x3), (4, .int x4), (5, .int x5)]) [0, 1, 2, 3, 4] rfl ?_
      exact nd9_seek_38 C hr ih hw
    · have hw := hw.2 c1
      refine r_aload_n C (pc := 11) 0 rfl d9_seek_11 ?_
      refine r_iload_n C (pc := 12) 1 rfl d9_seek_12 ?_
      refine r_iload C (pc := 13) 4 rfl d9_seek_13 ?_
      refine r_callVi C (pc := 15) (fun sz => ct9_byteAt l D ca ρ sz C.2.2.2.2.2.2.1 hw) mf9_byteAt w9_115 rfl (Nat.le_of_ble_eq_true rfl) rfl rfl rfl rfl ⟨Nat.le_of_ble_eq_true rfl, Nat.le_of_ble_eq_true rfl⟩ rfl rfl (Nat.le_of_ble_eq_true rfl) ⟨Nat.zero_le _, Nat.zero_le _⟩ d9_seek_15 (fun r1 S1 hw => ?_)
      refine r_bipush C (pc := 18) (v := 6) d9_seek_18 (by decide) ?_
      refine r_icmp_eq C (pc := 20) (tgt := 88) d9_seek_20 (by decide) (fun c2 => ?_) (fun c2 => ?_)
      · have hw := hw.1 c2
        refine r_iload C (pc := 88) 4 rfl d9_seek_88 ?_
        exact r_iret C (pc := 90) hr d9_seek_90 hw
      · have hw := hw.2 c2
        refine r_iload_n C (pc := 23) 2 rfl d9_seek_23 ?_
        refine r_if_eq C (pc := 24) (tgt := 38) d9_seek_24 (by decide) (fun c3 => ?_) (fun c3 => ?_)
        · have hw := hw.1 c3
          refine r_sub (ls' := [(0, .ref (ρ 9 0)), (1, .int x1), (3, .int x3), (4, .int x4), (5, .int x5)]) [0, 1, 2, 3, 4] rfl ?_
          exact nd9_seek_38 C hr ih hw
        · have hw := hw.2 c3
          refine r_aload_n C (pc := 27) 0 rfl d9_seek_27 ?_
          refine r_iload_n C (pc := 28) 1 rfl d9_seek_28 ?_
          refine r_iload C (pc := 29) 4 rfl d9_seek_29 ?_
          refine r_callVi C (pc := 31) (fun sz => ct9_byteAt l D ca ρ sz C.2.2.2.2.2.2.1 hw) mf9_byteAt w9_115 rfl (Nat.le_of_ble_eq_true rfl) rfl rfl rfl rfl ⟨Nat.le_of_ble_eq_true rfl, Nat.le_of_ble_eq_true rfl⟩ rfl rfl (Nat.le_of_ble_eq_true rfl) ⟨Nat.zero_le _, Nat.zero_le _⟩ d9_seek_31 (fun r2 S2 hw => ?_)
          refine r_iconst C (pc := 34) (v := 5) d9_seek_34 (by decide) ?_
          refine r_icmp_eq C (pc := 35) (tgt := 88) d9_seek_35 (by decide) (fun c4 => ?_) (fun c4 => ?_)
          · have hw := hw.1 c4
            refine r_iload C (pc := 88) 4 rfl d9_seek_88 ?_
            exact r_iret C (pc := 90) hr d9_seek_90 hw
          · have hw := hw.2 c4
            refine r_sub (ls' := [(0, .ref (ρ 9 0)), (1, .int x1), (3, .int x3), (4, .int x4), (5, .int x5)]) [0, 1, 2, 3, 4] rfl ?_
            exact nd9_seek_38 C hr ih hw
set_option maxRecDepth 20000 in
theorem ct9_seek (l : Launch) (D : va_G) (ca : Nat → ClassId) (ρ : Nat → Nat → Nat) (sz : Nat) {S : St} {x1 : Int32} {x2 : Int32} {x3 : Int32} {Q : Int32 → St → Prop} (hAp : Ap false ρ)  (hw : wp9_seek S x1 x2 x3 Q) : Met l y9_seek [Cond.code y9_seek b9_seek 6 (some .int)] { frames := 2, cells := 0, slots := 0, locals := 45 } (va_Pc [.ref (ρ 9 0), .int x1, .int x2, .int x3] (PreU false D ca ρ sz S)) (va_Qi Q (PostU false D ca ρ) (Ar false ρ sz)) 0 0 (Ar false ρ sz) := by
  refine met_of_wm (own := R9) (ls0 := [(0, .ref (ρ 9 0)), (1, .int x1), (2, .int x2), (3, .int x3)]) rfl rfl hAp (Nat.le_of_ble_eq_true rfl) rfl fun p e s m args below meth c C hr hz => ?_
  subst hz
  unfold wp9_seek at hw
  refine r_iconst C (pc := 0) (v := 0) d9_seek_0 (by decide) ?_
  refine r_istore C (pc := 1) (ls' := [(4, .int 0), (0, .ref (ρ 9 0)), (1, .int x1), (2, .int x2), (3, .int x3)]) (Nat.le_of_ble_eq_true rfl) rfl d9_seek_1 ?_
  refine r_iload_n C (pc := 3) 3 rfl d9_seek_3 ?_
  refine r_istore C (pc := 4) (ls' := [(5, .int x2), (4, .int 0), (0, .ref (ρ 9 0)), (1, .int x1), (2, .int x2), (3, .int x3)]) (Nat.le_of_ble_eq_true rfl) rfl d9_seek_4 ?_
  refine r_sub (ls' := [(0, .ref (ρ 9 0)), (1, .int x1), (3, .int x3), (4, .int 0), (5, .int x2)]) [2, 3, 5, 1, 0] rfl ?_
  obtain ⟨n, hw⟩ := hw
  exact nd9_seek_6 C hr  n _ _ _ hw
set_option maxRecDepth 20000 in
theorem ct9_put (l : Launch) (D : va_G) (ca : Nat → ClassId) (ρ : Nat → Nat → Nat) (sz : Nat) {S : St} {x1 : Int32} {Q : St → Prop} (hAp : Ap false ρ)  (hw : wp9_put S x1 Q) : Met l y9_put [Cond.code y9_put b9_put 2 none] { frames := 0, cells := 0, slots := 0, locals := 0 } (va_Pc [.ref (ρ 9 0), .int x1] (PreU false D ca ρ sz S)) (va_Qv Q (PostU false D ca ρ) (Ar false ρ sz)) 0 0 (Ar false ρ sz) := by
  refine met_of_wm (own := R9) (ls0 := [(0, .ref (ρ 9 0)), (1, .int x1)]) rfl rfl hAp (Nat.le_of_ble_eq_true rfl) rfl fun p e s m args below meth c C hr hz => ?_
  subst hz
  unfold wp9_put at hw
  refine r_aload_n C (pc := 0) 0 rfl d9_put_0 ?_
  refine g9_height C (pc := 1) (Nat.le_of_ble_eq_true rfl) w9_122 d9_put_1 ?_
  refine r_bipush C (pc := 4) (v := 16) d9_put_4 (by decide) ?_
  refine r_icmp_ne C (pc := 6) (tgt := 17) d9_put_6 (by decide) (fun c1 => ?_) (fun c1 => ?_)
  · have hw := hw.1 c1
    refine r_aload_n C (pc := 17) 0 rfl d9_put_17 ?_
    refine g9_kind C (pc := 18) (Nat.le_of_ble_eq_true rfl) w9_41 d9_put_18 ?_
    refine r_aload_n C (pc := 21) 0 rfl d9_put_21 ?_
    refine g9_height C (pc := 22) (Nat.le_of_ble_eq_true rfl) w9_122 d9_put_22 ?_
    refine r_iload_n C (pc := 25) 1 rfl d9_put_25 ?_
    have hi2 := hw.1
    have hw := hw.2
    refine st1913 C (pc := 26) (Nat.le_of_ble_eq_true rfl) hi2 d9_put_26 ?_
    refine r_S (fun S1 eS1 => ?_)
    have hw := hw S1 eS1
    refine r_aload_n C (pc := 27) 0 rfl d9_put_27 ?_
    refine r_dup C (pc := 28) rfl d9_put_28 ?_
    refine g9_height C (pc := 29) (Nat.le_of_ble_eq_true rfl) w9_122 d9_put_29 ?_
    refine r_iconst C (pc := 32) (v := 1) d9_put_32 (by decide) ?_
    refine r_iadd C (pc := 33) d9_put_33 ?_
    refine p9_height C (pc := 34) (Nat.le_of_ble_eq_true rfl) w9_122 d9_put_34 ?_
    refine r_S (fun S2 eS2 => ?_)
    have hw := hw S2 eS2
    exact r_vret C (pc := 37) hr d9_put_37 hw
  · have hw := hw.2 c1
    refine r_aload_n C (pc := 9) 0 rfl d9_put_9 ?_
    refine r_iconst C (pc := 10) (v := 1) d9_put_10 (by decide) ?_
    refine p9_bad C (pc := 11) (Nat.le_of_ble_eq_true rfl) (Or.inr rfl) w9_125 d9_put_11 ?_
    refine r_S (fun S3 eS3 => ?_)
    have hw := hw S3 eS3
    refine r_goto C (pc := 14) (tgt := 37) d9_put_14 (by decide) ?_
    exact r_vret C (pc := 37) hr d9_put_37 hw
set_option maxRecDepth 20000 in
theorem ct9_takeAny (l : Launch) (D : va_G) (ca : Nat → ClassId) (ρ : Nat → Nat → Nat) (sz : Nat) {S : St}  {Q : Int32 → St → Prop} (hAp : Ap false ρ)  (hw : wp9_takeAny S Q) : Met l y9_takeAny [Cond.code y9_takeAny b9_takeAny 1 (some .int)] { frames := 0, cells := 0, slots := 0, locals := 0 } (va_Pc [.ref (ρ 9 0)] (PreU false D ca ρ sz S)) (va_Qi Q (PostU false D ca ρ) (Ar false ρ sz)) 0 0 (Ar false ρ sz) := by
  refine met_of_wm (own := R9) (ls0 := [(0, .ref (ρ 9 0))]) rfl rfl hAp (Nat.le_of_ble_eq_true rfl) rfl fun p e s m args below meth c C hr hz => ?_
  subst hz
  unfold wp9_takeAny at hw
  refine r_aload_n C (pc := 0) 0 rfl d9_takeAny_0 ?_
  refine g9_height C (pc := 1) (Nat.le_of_ble_eq_true rfl) w9_122 d9_takeAny_1 ?_
  refine r_aload_n C (pc := 4) 0 rfl d9_takeAny_4 ?_
  refine g9_frameBase C (pc := 5) (Nat.le_of_ble_eq_true rfl) w9_50 d9_takeAny_5 ?_
  refine r_aload_n C (pc := 8) 0 rfl d9_takeAny_8 ?_
  refine g9_frames C (pc := 9) (Nat.le_of_ble_eq_true rfl) w9_128 d9_takeAny_9 ?_
  refine r_iconst C (pc := 12) (v := 1) d9_takeAny_12 (by decide) ?_
  refine r_isub C (pc := 13) d9_takeAny_13 ?_
  have hi1 := hw.1
  have hw := hw.2
  refine ld1917 C (pc := 14) (Nat.le_of_ble_eq_true rfl) hi1 d9_takeAny_14 ?_
  refine r_icmp_le C (pc := 15) (tgt := 38) d9_takeAny_15 (by decide) (fun c2 => ?_) (fun c2 => ?_)
  · have hw := hw.1 c2
    refine r_aload_n C (pc := 38) 0 rfl d9_takeAny_38 ?_
    refine g9_frameDead C (pc := 39) (Nat.le_of_ble_eq_true rfl) w9_53 d9_takeAny_39 ?_
    refine r_aload_n C (pc := 42) 0 rfl d9_takeAny_42 ?_
    refine g9_frames C (pc := 43) (Nat.le_of_ble_eq_true rfl) w9_128 d9_takeAny_43 ?_
    refine r_iconst C (pc := 46) (v := 1) d9_takeAny_46 (by decide) ?_
    refine r_isub C (pc := 47) d9_takeAny_47 ?_
    have hi3 := hw.1
    have hw := hw.2
    refine ld1918 C (pc := 48) (Nat.le_of_ble_eq_true rfl) hi3 d9_takeAny_48 ?_
    refine r_if_ne C (pc := 49) (tgt := 57) d9_takeAny_49 (by decide) (fun c4 => ?_) (fun c4 => ?_)
    · have hw := hw.1 c4
      refine r_iconst C (pc := 57) (v := 4) d9_takeAny_57 (by decide) ?_
      exact r_iret C (pc := 58) hr d9_takeAny_58 hw
    · have hw := hw.2 c4
      refine r_aload_n C (pc := 52) 0 rfl d9_takeAny_52 ?_
      refine r_iconst C (pc := 53) (v := 1) d9_takeAny_53 (by decide) ?_
      refine p9_bad C (pc := 54) (Nat.le_of_ble_eq_true rfl) (Or.inr rfl) w9_125 d9_takeAny_54 ?_
      refine r_S (fun S1 eS1 => ?_)
      have hw := hw S1 eS1
      refine r_iconst C (pc := 57) (v := 4) d9_takeAny_57 (by decide) ?_
      exact r_iret C (pc := 58) hr d9_takeAny_58 hw
  · have hw := hw.2 c2
    refine r_aload_n C (pc := 18) 0 rfl d9_takeAny_18 ?_
    refine r_dup C (pc := 19) rfl d9_takeAny_19 ?_
    refine g9_height C (pc := 20) (Nat.le_of_ble_eq_true rfl) w9_122 d9_takeAny_20 ?_
    refine r_iconst C (pc := 23) (v := 1) d9_takeAny_23 (by decide) ?_
    refine r_isub C (pc := 24) d9_takeAny_24 ?_
    refine p9_height C (pc := 25) (Nat.le_of_ble_eq_true rfl) w9_122 d9_takeAny_25 ?_
    refine r_S (fun S2 eS2 => ?_)
    have hw := hw S2 eS2
    refine r_aload_n C (pc := 28) 0 rfl d9_takeAny_28 ?_
    refine g9_kind C (pc := 29) (Nat.le_of_ble_eq_true rfl) w9_41 d9_takeAny_29 ?_
    refine r_aload_n C (pc := 32) 0 rfl d9_takeAny_32 ?_
    refine g9_height C (pc := 33) (Nat.le_of_ble_eq_true rfl) w9_122 d9_takeAny_33 ?_
    have hi5 := hw.1
    have hw := hw.2
    refine ld1913 C (pc := 36) (Nat.le_of_ble_eq_true rfl) hi5 d9_takeAny_36 ?_
    exact r_iret C (pc := 37) hr d9_takeAny_37 hw
set_option maxRecDepth 20000 in
theorem ct9_take (l : Launch) (D : va_G) (ca : Nat → ClassId) (ρ : Nat → Nat → Nat) (sz : Nat) {S : St} {x1 : Int32} {Q : St → Prop} (hAp : Ap false ρ)  (hw : wp9_take S x1 Q) : Met l y9_take [Cond.code y9_take b9_take 3 none] { frames := 1, cells := 0, slots := 0, locals := 20 } (va_Pc [.ref (ρ 9 0), .int x1] (PreU false D ca ρ sz S)) (va_Qv Q (PostU false D ca ρ) (Ar false ρ sz)) 0 0 (Ar false ρ sz) := by
  refine met_of_wm (own := R9) (ls0 := [(0, .ref (ρ 9 0)), (1, .int x1)]) rfl rfl hAp (Nat.le_of_ble_eq_true rfl) rfl fun p e s m args below meth c C hr hz => ?_
  subst hz
  unfold wp9_take at hw
  refine r_aload_n C (pc := 0) 0 rfl d9_take_0 ?_
  refine r_callVi C (pc := 1) (fun sz => ct9_takeAny l D ca ρ sz C.2.2.2.2.2.2.1 hw) mf9_takeAny w9_131 rfl (Nat.le_of_ble_eq_true rfl) rfl rfl rfl rfl ⟨Nat.le_of_ble_eq_true rfl, Nat.le_of_ble_eq_true rfl⟩ rfl rfl (Nat.le_of_ble_eq_true rfl) ⟨Nat.zero_le _, Nat.zero_le _⟩ d9_take_1 (fun r1 S1 hw => ?_)
  refine r_istore_n C (pc := 4) (ls' := [(2, .int r1), (0, .ref (ρ 9 0)), (1, .int x1)]) (Nat.le_of_ble_eq_true rfl) rfl d9_take_4 ?_
  refine r_iload_n C (pc := 5) 0 rfl d9_take_5 ?_
  refine r_iload_n C (pc := 6) 2 rfl d9_take_6 ?_
  refine r_icmp_eq C (pc := 7) (tgt := 20) d9_take_7 (by decide) (fun c1 => ?_) (fun c1 => ?_)
  · have hw := hw.1 c1
    exact r_vret C (pc := 20) hr d9_take_20 hw
  · have hw := hw.2 c1
    refine r_iload_n C (pc := 10) 0 rfl d9_take_10 ?_
    refine r_iconst C (pc := 11) (v := 4) d9_take_11 (by decide) ?_
    refine r_icmp_eq C (pc := 12) (tgt := 20) d9_take_12 (by decide) (fun c2 => ?_) (fun c2 => ?_)
    · have hw := hw.1 c2
      exact r_vret C (pc := 20) hr d9_take_20 hw
    · have hw := hw.2 c2
      refine r_aload_n C (pc := 15) 1 rfl d9_take_15 ?_
      refine r_iconst C (pc := 16) (v := 1) d9_take_16 (by decide) ?_
      refine p9_bad C (pc := 17) (Nat.le_of_ble_eq_true rfl) (Or.inr rfl) w9_125 d9_take_17 ?_
      refine r_S (fun S2 eS2 => ?_)
      have hw := hw S2 eS2
      exact r_vret C (pc := 20) hr d9_take_20 hw
set_option maxRecDepth 20000 in
theorem ct9_takeIf (l : Launch) (D : va_G) (ca : Nat → ClassId) (ρ : Nat → Nat → Nat) (sz : Nat) {S : St} {x1 : Int32} {Q : St → Prop} (hAp : Ap false ρ)  (hw : wp9_takeIf S x1 Q) : Met l y9_takeIf [Cond.code y9_takeIf b9_takeIf 2 none] { frames := 2, cells := 0, slots := 0, locals := 42 } (va_Pc [.ref (ρ 9 0), .int x1] (PreU false D ca ρ sz S)) (va_Qv Q (PostU false D ca ρ) (Ar false ρ sz)) 0 0 (Ar false ρ sz) := by
  refine met_of_wm (own := R9) (ls0 := [(0, .ref (ρ 9 0)), (1, .int x1)]) rfl rfl hAp (Nat.le_of_ble_eq_true rfl) rfl fun p e s m args below meth c C hr hz => ?_
  subst hz
  unfold wp9_takeIf at hw
  refine r_iload_n C (pc := 0) 1 rfl d9_takeIf_0 ?_
  refine r_if_eq C (pc := 1) (tgt := 9) d9_takeIf_1 (by decide) (fun c1 => ?_) (fun c1 => ?_)
  · have hw := hw.1 c1
    exact r_vret C (pc := 9) hr d9_takeIf_9 hw
  · have hw := hw.2 c1
    refine r_aload_n C (pc := 4) 0 rfl d9_takeIf_4 ?_
    refine r_iload_n C (pc := 5) 1 rfl d9_takeIf_5 ?_
    refine r_callVv C (pc := 6) (fun sz => ct9_take l D ca ρ sz C.2.2.2.2.2.2.1 hw) mf9_take w9_135 rfl (Nat.le_of_ble_eq_true rfl) rfl rfl rfl rfl ⟨Nat.le_of_ble_eq_true rfl, Nat.le_of_ble_eq_true rfl⟩ rfl rfl (Nat.le_of_ble_eq_true rfl) ⟨Nat.zero_le _, Nat.zero_le _⟩ d9_takeIf_6 (fun S1 hw => ?_)
    exact r_vret C (pc := 9) hr d9_takeIf_9 hw
set_option maxRecDepth 20000 in
theorem ct9_putIf (l : Launch) (D : va_G) (ca : Nat → ClassId) (ρ : Nat → Nat → Nat) (sz : Nat) {S : St} {x1 : Int32} {Q : St → Prop} (hAp : Ap false ρ)  (hw : wp9_putIf S x1 Q) : Met l y9_putIf [Cond.code y9_putIf b9_putIf 2 none] { frames := 1, cells := 0, slots := 0, locals := 21 } (va_Pc [.ref (ρ 9 0), .int x1] (PreU false D ca ρ sz S)) (va_Qv Q (PostU false D ca ρ) (Ar false ρ sz)) 0 0 (Ar false ρ sz) := by
  refine met_of_wm (own := R9) (ls0 := [(0, .ref (ρ 9 0)), (1, .int x1)]) rfl rfl hAp (Nat.le_of_ble_eq_true rfl) rfl fun p e s m args below meth c C hr hz => ?_
  subst hz
  unfold wp9_putIf at hw
  refine r_iload_n C (pc := 0) 1 rfl d9_putIf_0 ?_
  refine r_if_eq C (pc := 1) (tgt := 9) d9_putIf_1 (by decide) (fun c1 => ?_) (fun c1 => ?_)
  · have hw := hw.1 c1
    exact r_vret C (pc := 9) hr d9_putIf_9 hw
  · have hw := hw.2 c1
    refine r_aload_n C (pc := 4) 0 rfl d9_putIf_4 ?_
    refine r_iload_n C (pc := 5) 1 rfl d9_putIf_5 ?_
    refine r_callVv C (pc := 6) (fun sz => ct9_put l D ca ρ sz C.2.2.2.2.2.2.1 hw) mf9_put w9_139 rfl (Nat.le_of_ble_eq_true rfl) rfl rfl rfl rfl ⟨Nat.le_of_ble_eq_true rfl, Nat.le_of_ble_eq_true rfl⟩ rfl rfl (Nat.le_of_ble_eq_true rfl) ⟨Nat.zero_le _, Nat.zero_le _⟩ d9_putIf_6 (fun S1 hw => ?_)
    exact r_vret C (pc := 9) hr d9_putIf_9 hw
set_option maxRecDepth 20000 in
theorem nd9_begin_29 {p : Program} {l : Launch} {e : Env} {s : State} {m : MethodId} {args : Array Value} {below : List Frame} {meth : Method} {c : Code} {D : va_G} {ca : Nat → ClassId} {ρ : Nat → Nat → Nat} {x1 : Int32} {x2 : Int32} {Q : St → Prop}  {S : St} (C : Cx false p l s m meth c R9 b9_begin 3 D ca ρ) (hr : meth.sig.returnType = none)   (hw : wp9_begin_29 x1 x2 Q  S) : wm false p l e { frames := 2, cells := 0, slots := 0, locals := 42 } s m args below meth c D ca ρ 3 0 0 (qv false below args s D ca ρ 0 0 Q) 29 [(0, .ref (ρ 9 0)), (1, .int x1), (2, .int x2)] [] S := by
  unfold wp9_begin_29 at hw
  refine r_aload_n C (pc := 29) 0 rfl d9_begin_29 ?_
  refine g9_frameOp C (pc := 30) (Nat.le_of_ble_eq_true rfl) w9_44 d9_begin_30 ?_
  refine r_aload_n C (pc := 33) 0 rfl d9_begin_33 ?_
  refine g9_frames C (pc := 34) (Nat.le_of_ble_eq_true rfl) w9_128 d9_begin_34 ?_
  refine r_iload_n C (pc := 37) 1 rfl d9_begin_37 ?_
  have hi1 := hw.1
  have hw := hw.2
  refine st1915 C (pc := 38) (Nat.le_of_ble_eq_true rfl) hi1 d9_begin_38 ?_
  refine r_S (fun S1 eS1 => ?_)
  have hw := hw S1 eS1
  refine r_aload_n C (pc := 39) 0 rfl d9_begin_39 ?_
  refine g9_frameKind C (pc := 40) (Nat.le_of_ble_eq_true rfl) w9_47 d9_begin_40 ?_
  refine r_aload_n C (pc := 43) 0 rfl d9_begin_43 ?_
  refine g9_frames C (pc := 44) (Nat.le_of_ble_eq_true rfl) w9_128 d9_begin_44 ?_
  refine r_iload_n C (pc := 47) 2 rfl d9_begin_47 ?_
  have hi2 := hw.1
  have hw := hw.2
  refine st1916 C (pc := 48) (Nat.le_of_ble_eq_true rfl) hi2 d9_begin_48 ?_
  refine r_S (fun S2 eS2 => ?_)
  have hw := hw S2 eS2
  refine r_aload_n C (pc := 49) 0 rfl d9_begin_49 ?_
  refine g9_frameBase C (pc := 50) (Nat.le_of_ble_eq_true rfl) w9_50 d9_begin_50 ?_
  refine r_aload_n C (pc := 53) 0 rfl d9_begin_53 ?_
  refine g9_frames C (pc := 54) (Nat.le_of_ble_eq_true rfl) w9_128 d9_begin_54 ?_
  refine r_aload_n C (pc := 57) 0 rfl d9_begin_57 ?_
  refine g9_height C (pc := 58) (Nat.le_of_ble_eq_true rfl) w9_122 d9_begin_58 ?_
  have hi3 := hw.1
  have hw := hw.2
  refine st1917 C (pc := 61) (Nat.le_of_ble_eq_true rfl) hi3 d9_begin_61 ?_
  refine r_S (fun S3 eS3 => ?_)
  have hw := hw S3 eS3
  refine r_aload_n C (pc := 62) 0 rfl d9_begin_62 ?_
  refine g9_frameDead C (pc := 63) (Nat.le_of_ble_eq_true rfl) w9_53 d9_begin_63 ?_
  refine r_aload_n C (pc := 66) 0 rfl d9_begin_66 ?_
  refine g9_frames C (pc := 67) (Nat.le_of_ble_eq_true rfl) w9_128 d9_begin_67 ?_
  refine r_iconst C (pc := 70) (v := 0) d9_begin_70 (by decide) ?_
  have hi4 := hw.1
  have hw := hw.2
  refine st1918 C (pc := 71) (Nat.le_of_ble_eq_true rfl) (Or.inl rfl) hi4 d9_begin_71 ?_
  refine r_S (fun S4 eS4 => ?_)
  have hw := hw S4 eS4
  refine r_aload_n C (pc := 72) 0 rfl d9_begin_72 ?_
  refine g9_frameElse C (pc := 73) (Nat.le_of_ble_eq_true rfl) w9_57 d9_begin_73 ?_
  refine r_aload_n C (pc := 76) 0 rfl d9_begin_76 ?_
  refine g9_frames C (pc := 77) (Nat.le_of_ble_eq_true rfl) w9_128 d9_begin_77 ?_
  refine r_iconst C (pc := 80) (v := 0) d9_begin_80 (by decide) ?_
  have hi5 := hw.1
  have hw := hw.2
  refine st1919 C (pc := 81) (Nat.le_of_ble_eq_true rfl) (Or.inl rfl) hi5 d9_begin_81 ?_
  refine r_S (fun S5 eS5 => ?_)
  have hw := hw S5 eS5
  refine r_aload_n C (pc := 82) 0 rfl d9_begin_82 ?_
  refine r_dup C (pc := 83) rfl d9_begin_83 ?_
  refine g9_frames C (pc := 84) (Nat.le_of_ble_eq_true rfl) w9_128 d9_begin_84 ?_
  refine r_iconst C (pc := 87) (v := 1) d9_begin_87 (by decide) ?_
  refine r_iadd C (pc := 88) d9_begin_88 ?_
  refine p9_frames C (pc := 89) (Nat.le_of_ble_eq_true rfl) w9_128 d9_begin_89 ?_
  refine r_S (fun S6 eS6 => ?_)
  have hw := hw S6 eS6
  exact r_vret C (pc := 92) hr d9_begin_92 hw
set_option maxRecDepth 20000 in
theorem nd9_begin_24 {p : Program} {l : Launch} {e : Env} {s : State} {m : MethodId} {args : Array Value} {below : List Frame} {meth : Method} {c : Code} {D : va_G} {ca : Nat → ClassId} {ρ : Nat → Nat → Nat} {x1 : Int32} {x2 : Int32} {Q : St → Prop}  {S : St} (C : Cx false p l s m meth c R9 b9_begin 3 D ca ρ) (hr : meth.sig.returnType = none)   (hw : wp9_begin_24 x1 x2 Q  S) : wm false p l e { frames := 2, cells := 0, slots := 0, locals := 42 } s m args below meth c D ca ρ 3 0 0 (qv false below args s D ca ρ 0 0 Q) 24 [(0, .ref (ρ 9 0)), (1, .int x1), (2, .int x2)] [] S := by
  unfold wp9_begin_24 at hw
  refine r_aload_n C (pc := 24) 0 rfl d9_begin_24 ?_
  refine r_iconst C (pc := 25) (v := 1) d9_begin_25 (by decide) ?_
  refine p9_bad C (pc := 26) (Nat.le_of_ble_eq_true rfl) (Or.inr rfl) w9_125 d9_begin_26 ?_
  refine r_S (fun S1 eS1 => ?_)
  have hw := hw S1 eS1
  refine r_sub (ls' := [(0, .ref (ρ 9 0)), (1, .int x1), (2, .int x2)]) [0, 1, 2] rfl ?_
  exact nd9_begin_29 C hr hw
set_option maxRecDepth 20000 in
theorem nd9_begin_10 {p : Program} {l : Launch} {e : Env} {s : State} {m : MethodId} {args : Array Value} {below : List Frame} {meth : Method} {c : Code} {D : va_G} {ca : Nat → ClassId} {ρ : Nat → Nat → Nat} {x1 : Int32} {x2 : Int32} {Q : St → Prop}  {S : St} (C : Cx false p l s m meth c R9 b9_begin 3 D ca ρ) (hr : meth.sig.returnType = none)   (hw : wp9_begin_10 x1 x2 Q  S) : wm false p l e { frames := 2, cells := 0, slots := 0, locals := 42 } s m args below meth c D ca ρ 3 0 0 (qv false below args s D ca ρ 0 0 Q) 10 [(0, .ref (ρ 9 0)), (1, .int x1), (2, .int x2)] [] S := by
  unfold wp9_begin_10 at hw
  refine r_iload_n C (pc := 10) 2 rfl d9_begin_10 ?_
  refine r_iconst C (pc := 11) (v := 3) d9_begin_11 (by decide) ?_
  refine r_icmp_gt C (pc := 12) (tgt := 24) d9_begin_12 (by decide) (fun c1 => ?_) (fun c1 => ?_)
  · have hw := hw.1 c1
    refine r_sub (ls' := [(0, .ref (ρ 9 0)), (1, .int x1), (2, .int x2)]) [0, 1, 2] rfl ?_
    exact nd9_begin_24 C hr hw
  · have hw := hw.2 c1
    refine r_aload_n C (pc := 15) 0 rfl d9_begin_15 ?_
    refine g9_frames C (pc := 16) (Nat.le_of_ble_eq_true rfl) w9_128 d9_begin_16 ?_
    refine r_bipush C (pc := 19) (v := 8) d9_begin_19 (by decide) ?_
    refine r_icmp_ne C (pc := 21) (tgt := 29) d9_begin_21 (by decide) (fun c2 => ?_) (fun c2 => ?_)
    · have hw := hw.1 c2
      refine r_sub (ls' := [(0, .ref (ρ 9 0)), (1, .int x1), (2, .int x2)]) [0, 1, 2] rfl ?_
      exact nd9_begin_29 C hr hw
    · have hw := hw.2 c2
      refine r_sub (ls' := [(0, .ref (ρ 9 0)), (1, .int x1), (2, .int x2)]) [0, 1, 2] rfl ?_
      exact nd9_begin_24 C hr hw
set_option maxRecDepth 20000 in
theorem ct9_begin (l : Launch) (D : va_G) (ca : Nat → ClassId) (ρ : Nat → Nat → Nat) (sz : Nat) {S : St} {x1 : Int32} {x2 : Int32} {Q : St → Prop} (hAp : Ap false ρ)  (hw : wp9_begin S x1 x2 Q) : Met l y9_begin [Cond.code y9_begin b9_begin 3 none] { frames := 2, cells := 0, slots := 0, locals := 42 } (va_Pc [.ref (ρ 9 0), .int x1, .int x2] (PreU false D ca ρ sz S)) (va_Qv Q (PostU false D ca ρ) (Ar false ρ sz)) 0 0 (Ar false ρ sz) := by
  refine met_of_wm (own := R9) (ls0 := [(0, .ref (ρ 9 0)), (1, .int x1), (2, .int x2)]) rfl rfl hAp (Nat.le_of_ble_eq_true rfl) rfl fun p e s m args below meth c C hr hz => ?_
  subst hz
  unfold wp9_begin at hw
  refine r_iload_n C (pc := 0) 1 rfl d9_begin_0 ?_
  refine r_iconst C (pc := 1) (v := 4) d9_begin_1 (by decide) ?_
  refine r_icmp_ne C (pc := 2) (tgt := 10) d9_begin_2 (by decide) (fun c1 => ?_) (fun c1 => ?_)
  · have hw := hw.1 c1
    refine r_sub (ls' := [(0, .ref (ρ 9 0)), (1, .int x1), (2, .int x2)]) [0, 1, 2] rfl ?_
    exact nd9_begin_10 C hr hw
  · have hw := hw.2 c1
    refine r_aload_n C (pc := 5) 0 rfl d9_begin_5 ?_
    refine r_iconst C (pc := 6) (v := 1) d9_begin_6 (by decide) ?_
    refine r_callVv C (pc := 7) (fun sz => ct9_take l D ca ρ sz C.2.2.2.2.2.2.1 hw) mf9_take w9_135 rfl (Nat.le_of_ble_eq_true rfl) rfl rfl rfl rfl ⟨Nat.le_of_ble_eq_true rfl, Nat.le_of_ble_eq_true rfl⟩ rfl rfl (Nat.le_of_ble_eq_true rfl) ⟨Nat.zero_le _, Nat.zero_le _⟩ d9_begin_7 (fun S1 hw => ?_)
    refine r_sub (ls' := [(0, .ref (ρ 9 0)), (1, .int x1), (2, .int x2)]) [0, 1, 2] rfl ?_
    exact nd9_begin_10 C hr hw
set_option maxRecDepth 20000 in
theorem ct9_die (l : Launch) (D : va_G) (ca : Nat → ClassId) (ρ : Nat → Nat → Nat) (sz : Nat) {S : St}  {Q : St → Prop} (hAp : Ap false ρ)  (hw : wp9_die S Q) : Met l y9_die [Cond.code y9_die b9_die 1 none] { frames := 0, cells := 0, slots := 0, locals := 0 } (va_Pc [.ref (ρ 9 0)] (PreU false D ca ρ sz S)) (va_Qv Q (PostU false D ca ρ) (Ar false ρ sz)) 0 0 (Ar false ρ sz) := by
  refine met_of_wm (own := R9) (ls0 := [(0, .ref (ρ 9 0))]) rfl rfl hAp (Nat.le_of_ble_eq_true rfl) rfl fun p e s m args below meth c C hr hz => ?_
  subst hz
  unfold wp9_die at hw
  refine r_aload_n C (pc := 0) 0 rfl d9_die_0 ?_
  refine r_aload_n C (pc := 1) 0 rfl d9_die_1 ?_
  refine g9_frameBase C (pc := 2) (Nat.le_of_ble_eq_true rfl) w9_50 d9_die_2 ?_
  refine r_aload_n C (pc := 5) 0 rfl d9_die_5 ?_
  refine g9_frames C (pc := 6) (Nat.le_of_ble_eq_true rfl) w9_128 d9_die_6 ?_
  refine r_iconst C (pc := 9) (v := 1) d9_die_9 (by decide) ?_
  refine r_isub C (pc := 10) d9_die_10 ?_
  have hi1 := hw.1
  have hw := hw.2
  refine ld1917 C (pc := 11) (Nat.le_of_ble_eq_true rfl) hi1 d9_die_11 ?_
  refine p9_height C (pc := 12) (Nat.le_of_ble_eq_true rfl) w9_122 d9_die_12 ?_
  refine r_S (fun S1 eS1 => ?_)
  have hw := hw S1 eS1
  refine r_aload_n C (pc := 15) 0 rfl d9_die_15 ?_
  refine g9_frameDead C (pc := 16) (Nat.le_of_ble_eq_true rfl) w9_53 d9_die_16 ?_
  refine r_aload_n C (pc := 19) 0 rfl d9_die_19 ?_
  refine g9_frames C (pc := 20) (Nat.le_of_ble_eq_true rfl) w9_128 d9_die_20 ?_
  refine r_iconst C (pc := 23) (v := 1) d9_die_23 (by decide) ?_
  refine r_isub C (pc := 24) d9_die_24 ?_
  refine r_iconst C (pc := 25) (v := 1) d9_die_25 (by decide) ?_
  have hi2 := hw.1
  have hw := hw.2
  refine st1918 C (pc := 26) (Nat.le_of_ble_eq_true rfl) (Or.inr rfl) hi2 d9_die_26 ?_
  refine r_S (fun S2 eS2 => ?_)
  have hw := hw S2 eS2
  exact r_vret C (pc := 27) hr d9_die_27 hw
set_option maxRecDepth 20000 in
theorem nd9_close_112 {p : Program} {l : Launch} {e : Env} {s : State} {m : MethodId} {args : Array Value} {below : List Frame} {meth : Method} {c : Code} {D : va_G} {ca : Nat → ClassId} {ρ : Nat → Nat → Nat} {x1 : Int32} {Q : St → Prop} {x2 : Int32} {S : St} (C : Cx false p l s m meth c R9 b9_close 3 D ca ρ) (hr : meth.sig.returnType = none)   (hw : wp9_close_112 x1 Q x2 S) : wm false p l e { frames := 3, cells := 0, slots := 0, locals := 63 } s m args below meth c D ca ρ 3 0 0 (qv false below args s D ca ρ 0 0 Q) 112 [(0, .ref (ρ 9 0)), (2, .int x2)] [] S := by
  unfold wp9_close_112 at hw
  refine r_aload_n C (pc := 112) 0 rfl d9_close_112 ?_
  refine r_dup C (pc := 113) rfl d9_close_113 ?_
  refine g9_frames C (pc := 114) (Nat.le_of_ble_eq_true rfl) w9_128 d9_close_114 ?_
  refine r_iconst C (pc := 117) (v := 1) d9_close_117 (by decide) ?_
  refine r_isub C (pc := 118) d9_close_118 ?_
  refine p9_frames C (pc := 119) (Nat.le_of_ble_eq_true rfl) w9_128 d9_close_119 ?_
  refine r_S (fun S1 eS1 => ?_)
  have hw := hw S1 eS1
  refine r_aload_n C (pc := 122) 0 rfl d9_close_122 ?_
  refine g9_frames C (pc := 123) (Nat.le_of_ble_eq_true rfl) w9_128 d9_close_123 ?_
  refine r_if_le C (pc := 126) (tgt := 139) d9_close_126 (by decide) (fun c1 => ?_) (fun c1 => ?_)
  · have hw := hw.1 c1
    exact r_vret C (pc := 139) hr d9_close_139 hw
  · have hw := hw.2 c1
    refine r_aload_n C (pc := 129) 0 rfl d9_close_129 ?_
    refine r_aload_n C (pc := 130) 0 rfl d9_close_130 ?_
    refine g9_frameKind C (pc := 131) (Nat.le_of_ble_eq_true rfl) w9_47 d9_close_131 ?_
    refine r_iload_n C (pc := 134) 1 rfl d9_close_134 ?_
    have hi2 := hw.1
    have hw := hw.2
    refine ld1916 C (pc := 135) (Nat.le_of_ble_eq_true rfl) hi2 d9_close_135 ?_
    refine r_callVv C (pc := 136) (fun sz => ct9_putIf l D ca ρ sz C.2.2.2.2.2.2.1 hw) mf9_putIf w9_145 rfl (Nat.le_of_ble_eq_true rfl) rfl rfl rfl rfl ⟨Nat.le_of_ble_eq_true rfl, Nat.le_of_ble_eq_true rfl⟩ rfl rfl (Nat.le_of_ble_eq_true rfl) ⟨Nat.zero_le _, Nat.zero_le _⟩ d9_close_136 (fun S2 hw => ?_)
    exact r_vret C (pc := 139) hr d9_close_139 hw
set_option maxRecDepth 20000 in
theorem nd9_close_64 {p : Program} {l : Launch} {e : Env} {s : State} {m : MethodId} {args : Array Value} {below : List Frame} {meth : Method} {c : Code} {D : va_G} {ca : Nat → ClassId} {ρ : Nat → Nat → Nat} {x1 : Int32} {Q : St → Prop} {x2 : Int32} {S : St} (C : Cx false p l s m meth c R9 b9_close 3 D ca ρ) (hr : meth.sig.returnType = none)   (hw : wp9_close_64 x1 Q x2 S) : wm false p l e { frames := 3, cells := 0, slots := 0, locals := 63 } s m args below meth c D ca ρ 3 0 0 (qv false below args s D ca ρ 0 0 Q) 64 [(0, .ref (ρ 9 0)), (2, .int x2)] [] S := by
  unfold wp9_close_64 at hw
  refine r_aload_n C (pc := 64) 0 rfl d9_close_64 ?_
  refine g9_frameElse C (pc := 65) (Nat.le_of_ble_eq_true rfl) w9_57 d9_close_65 ?_
  refine r_iload_n C (pc := 68) 1 rfl d9_close_68 ?_
  refine r_iconst C (pc := 69) (v := 1) d9_close_69 (by decide) ?_
  have hi1 := hw.1
  have hw := hw.2
  refine st1919 C (pc := 70) (Nat.le_of_ble_eq_true rfl) (Or.inr rfl) hi1 d9_close_70 ?_
  refine r_S (fun S1 eS1 => ?_)
  have hw := hw S1 eS1
  refine r_aload_n C (pc := 71) 0 rfl d9_close_71 ?_
  refine g9_frameDead C (pc := 72) (Nat.le_of_ble_eq_true rfl) w9_53 d9_close_72 ?_
  refine r_iload_n C (pc := 75) 1 rfl d9_close_75 ?_
  refine r_iconst C (pc := 76) (v := 0) d9_close_76 (by decide) ?_
  have hi2 := hw.1
  have hw := hw.2
  refine st1918 C (pc := 77) (Nat.le_of_ble_eq_true rfl) (Or.inl rfl) hi2 d9_close_77 ?_
  refine r_S (fun S2 eS2 => ?_)
  have hw := hw S2 eS2
  exact r_vret C (pc := 78) hr d9_close_78 hw
set_option maxRecDepth 20000 in
theorem nd9_close_59 {p : Program} {l : Launch} {e : Env} {s : State} {m : MethodId} {args : Array Value} {below : List Frame} {meth : Method} {c : Code} {D : va_G} {ca : Nat → ClassId} {ρ : Nat → Nat → Nat} {x1 : Int32} {Q : St → Prop} {x2 : Int32} {S : St} (C : Cx false p l s m meth c R9 b9_close 3 D ca ρ) (hr : meth.sig.returnType = none)   (hw : wp9_close_59 x1 Q x2 S) : wm false p l e { frames := 3, cells := 0, slots := 0, locals := 63 } s m args below meth c D ca ρ 3 0 0 (qv false below args s D ca ρ 0 0 Q) 59 [(0, .ref (ρ 9 0)), (2, .int x2)] [] S := by
  unfold wp9_close_59 at hw
  refine r_aload_n C (pc := 59) 0 rfl d9_close_59 ?_
  refine r_iconst C (pc := 60) (v := 1) d9_close_60 (by decide) ?_
  refine p9_bad C (pc := 61) (Nat.le_of_ble_eq_true rfl) (Or.inr rfl) w9_125 d9_close_61 ?_
  refine r_S (fun S1 eS1 => ?_)
  have hw := hw S1 eS1
  refine r_sub (ls' := [(0, .ref (ρ 9 0)), (2, .int x2)]) [0, 1] rfl ?_
  exact nd9_close_64 C hr hw
set_option maxRecDepth 20000 in
theorem nd9_close_35 {p : Program} {l : Launch} {e : Env} {s : State} {m : MethodId} {args : Array Value} {below : List Frame} {meth : Method} {c : Code} {D : va_G} {ca : Nat → ClassId} {ρ : Nat → Nat → Nat} {x1 : Int32} {Q : St → Prop} {x2 : Int32} {S : St} (C : Cx false p l s m meth c R9 b9_close 3 D ca ρ) (hr : meth.sig.returnType = none)   (hw : wp9_close_35 x1 Q x2 S) : wm false p l e { frames := 3, cells := 0, slots := 0, locals := 63 } s m args below meth c D ca ρ 3 0 0 (qv false below args s D ca ρ 0 0 Q) 35 [(0, .ref (ρ 9 0)), (1, .int x1), (2, .int x2)] [] S := by
  unfold wp9_close_35 at hw
  refine r_iload_n C (pc := 35) 1 rfl d9_close_35 ?_
  refine r_iconst C (pc := 36) (v := 5) d9_close_36 (by decide) ?_
  refine r_icmp_ne C (pc := 37) (tgt := 79) d9_close_37 (by decide) (fun c1 => ?_) (fun c1 => ?_)
  · have hw := hw.1 c1
    refine r_aload_n C (pc := 79) 0 rfl d9_close_79 ?_
    refine g9_frameOp C (pc := 80) (Nat.le_of_ble_eq_true rfl) w9_44 d9_close_80 ?_
    refine r_iload_n C (pc := 83) 2 rfl d9_close_83 ?_
    have hi2 := hw.1
    have hw := hw.2
    refine ld1915 C (pc := 84) (Nat.le_of_ble_eq_true rfl) hi2 d9_close_84 ?_
    refine r_iconst C (pc := 85) (v := 4) d9_close_85 (by decide) ?_
    refine r_icmp_ne C (pc := 86) (tgt := 112) d9_close_86 (by decide) (fun c3 => ?_) (fun c3 => ?_)
    · have hw := hw.1 c3
      refine r_sub (ls' := [(0, .ref (ρ 9 0)), (2, .int x2)]) [0, 2] rfl ?_
      exact nd9_close_112 C hr hw
    · have hw := hw.2 c3
      refine r_aload_n C (pc := 89) 0 rfl d9_close_89 ?_
      refine g9_frameKind C (pc := 90) (Nat.le_of_ble_eq_true rfl) w9_47 d9_close_90 ?_
      refine r_iload_n C (pc := 93) 2 rfl d9_close_93 ?_
      have hi4 := hw.1
      have hw := hw.2
      refine ld1916 C (pc := 94) (Nat.le_of_ble_eq_true rfl) hi4 d9_close_94 ?_
      refine r_if_eq C (pc := 95) (tgt := 112) d9_close_95 (by decide) (fun c5 => ?_) (fun c5 => ?_)
      · have hw := hw.1 c5
        refine r_sub (ls' := [(0, .ref (ρ 9 0)), (2, .int x2)]) [0, 2] rfl ?_
        exact nd9_close_112 C hr hw
      · have hw := hw.2 c5
        refine r_aload_n C (pc := 98) 0 rfl d9_close_98 ?_
        refine g9_frameElse C (pc := 99) (Nat.le_of_ble_eq_true rfl) w9_57 d9_close_99 ?_
        refine r_iload_n C (pc := 102) 2 rfl d9_close_102 ?_
        have hi6 := hw.1
        have hw := hw.2
        refine ld1919 C (pc := 103) (Nat.le_of_ble_eq_true rfl) hi6 d9_close_103 ?_
        refine r_if_ne C (pc := 104) (tgt := 112) d9_close_104 (by decide) (fun c7 => ?_) (fun c7 => ?_)
        · have hw := hw.1 c7
          refine r_sub (ls' := [(0, .ref (ρ 9 0)), (2, .int x2)]) [0, 2] rfl ?_
          exact nd9_close_112 C hr hw
        · have hw := hw.2 c7
          refine r_aload_n C (pc := 107) 0 rfl d9_close_107 ?_
          refine r_iconst C (pc := 108) (v := 1) d9_close_108 (by decide) ?_
          refine p9_bad C (pc := 109) (Nat.le_of_ble_eq_true rfl) (Or.inr rfl) w9_125 d9_close_109 ?_
          refine r_S (fun S1 eS1 => ?_)
          have hw := hw S1 eS1
          refine r_sub (ls' := [(0, .ref (ρ 9 0)), (2, .int x2)]) [0, 2] rfl ?_
          exact nd9_close_112 C hr hw
  · have hw := hw.2 c1
    refine r_aload_n C (pc := 40) 0 rfl d9_close_40 ?_
    refine g9_frameOp C (pc := 41) (Nat.le_of_ble_eq_true rfl) w9_44 d9_close_41 ?_
    refine r_iload_n C (pc := 44) 2 rfl d9_close_44 ?_
    have hi8 := hw.1
    have hw := hw.2
    refine ld1915 C (pc := 45) (Nat.le_of_ble_eq_true rfl) hi8 d9_close_45 ?_
    refine r_iconst C (pc := 46) (v := 4) d9_close_46 (by decide) ?_
    refine r_icmp_ne C (pc := 47) (tgt := 59) d9_close_47 (by decide) (fun c9 => ?_) (fun c9 => ?_)
    · have hw := hw.1 c9
      refine r_sub (ls' := [(0, .ref (ρ 9 0)), (2, .int x2)]) [0, 2] rfl ?_
      exact nd9_close_59 C hr hw
    · have hw := hw.2 c9
      refine r_aload_n C (pc := 50) 0 rfl d9_close_50 ?_
      refine g9_frameElse C (pc := 51) (Nat.le_of_ble_eq_true rfl) w9_57 d9_close_51 ?_
      refine r_iload_n C (pc := 54) 2 rfl d9_close_54 ?_
      have hi10 := hw.1
      have hw := hw.2
      refine ld1919 C (pc := 55) (Nat.le_of_ble_eq_true rfl) hi10 d9_close_55 ?_
      refine r_if_eq C (pc := 56) (tgt := 64) d9_close_56 (by decide) (fun c11 => ?_) (fun c11 => ?_)
      · have hw := hw.1 c11
        refine r_sub (ls' := [(0, .ref (ρ 9 0)), (2, .int x2)]) [0, 2] rfl ?_
        exact nd9_close_64 C hr hw
      · have hw := hw.2 c11
        refine r_sub (ls' := [(0, .ref (ρ 9 0)), (2, .int x2)]) [0, 2] rfl ?_
        exact nd9_close_59 C hr hw
set_option maxRecDepth 20000 in
theorem ct9_close (l : Launch) (D : va_G) (ca : Nat → ClassId) (ρ : Nat → Nat → Nat) (sz : Nat) {S : St} {x1 : Int32} {Q : St → Prop} (hAp : Ap false ρ)  (hw : wp9_close S x1 Q) : Met l y9_close [Cond.code y9_close b9_close 3 none] { frames := 3, cells := 0, slots := 0, locals := 63 } (va_Pc [.ref (ρ 9 0), .int x1] (PreU false D ca ρ sz S)) (va_Qv Q (PostU false D ca ρ) (Ar false ρ sz)) 0 0 (Ar false ρ sz) := by
  refine met_of_wm (own := R9) (ls0 := [(0, .ref (ρ 9 0)), (1, .int x1)]) rfl rfl hAp (Nat.le_of_ble_eq_true rfl) rfl fun p e s m args below meth c C hr hz => ?_
  subst hz
  unfold wp9_close at hw
  refine r_aload_n C (pc := 0) 0 rfl d9_close_0 ?_
  refine g9_frames C (pc := 1) (Nat.le_of_ble_eq_true rfl) w9_128 d9_close_1 ?_
  refine r_iconst C (pc := 4) (v := 1) d9_close_4 (by decide) ?_
  refine r_isub C (pc := 5) d9_close_5 ?_
  refine r_topi (fun x2_1 ex2_1 => ?_)
  have hw := hw x2_1 ex2_1
  refine r_istore_n C (pc := 6) (ls' := [(2, .int x2_1), (0, .ref (ρ 9 0)), (1, .int x1)]) (Nat.le_of_ble_eq_true rfl) rfl d9_close_6 ?_
  refine r_aload_n C (pc := 7) 1 rfl d9_close_7 ?_
  refine r_aload_n C (pc := 8) 1 rfl d9_close_8 ?_
  refine g9_frameKind C (pc := 9) (Nat.le_of_ble_eq_true rfl) w9_47 d9_close_9 ?_
  refine r_iload_n C (pc := 12) 0 rfl d9_close_12 ?_
  have hi1 := hw.1
  have hw := hw.2
  refine ld1916 C (pc := 13) (Nat.le_of_ble_eq_true rfl) hi1 d9_close_13 ?_
  refine r_callVv C (pc := 14) (fun sz => ct9_takeIf l D ca ρ sz C.2.2.2.2.2.2.1 hw) mf9_takeIf w9_142 rfl (Nat.le_of_ble_eq_true rfl) rfl rfl rfl rfl ⟨Nat.le_of_ble_eq_true rfl, Nat.le_of_ble_eq_true rfl⟩ rfl rfl (Nat.le_of_ble_eq_true rfl) ⟨Nat.zero_le _, Nat.zero_le _⟩ d9_close_14 (fun S1 hw => ?_)
  refine r_aload_n C (pc := 17) 1 rfl d9_close_17 ?_
  refine g9_height C (pc := 18) (Nat.le_of_ble_eq_true rfl) w9_122 d9_close_18 ?_
  refine r_aload_n C (pc := 21) 1 rfl d9_close_21 ?_
  refine g9_frameBase C (pc := 22) (Nat.le_of_ble_eq_true rfl) w9_50 d9_close_22 ?_
  refine r_iload_n C (pc := 25) 0 rfl d9_close_25 ?_
  have hi2 := hw.1
  have hw := hw.2
  refine ld1917 C (pc := 26) (Nat.le_of_ble_eq_true rfl) hi2 d9_close_26 ?_
  refine r_icmp_eq C (pc := 27) (tgt := 35) d9_close_27 (by decide) (fun c3 => ?_) (fun c3 => ?_)
  · have hw := hw.1 c3
    refine r_sub (ls' := [(0, .ref (ρ 9 0)), (1, .int x1), (2, .int x2_1)]) [1, 2, 0] rfl ?_
    exact nd9_close_35 C hr hw
  · have hw := hw.2 c3
    refine r_aload_n C (pc := 30) 1 rfl d9_close_30 ?_
    refine r_iconst C (pc := 31) (v := 1) d9_close_31 (by decide) ?_
    refine p9_bad C (pc := 32) (Nat.le_of_ble_eq_true rfl) (Or.inr rfl) w9_125 d9_close_32 ?_
    refine r_S (fun S2 eS2 => ?_)
    have hw := hw S2 eS2
    refine r_sub (ls' := [(0, .ref (ρ 9 0)), (1, .int x1), (2, .int x2_1)]) [1, 2, 0] rfl ?_
    exact nd9_close_35 C hr hw
set_option maxRecDepth 20000 in
theorem ct9_label (l : Launch) (D : va_G) (ca : Nat → ClassId) (ρ : Nat → Nat → Nat) (sz : Nat) {S : St} {x1 : Int32} {Q : Int32 → St → Prop} (hAp : Ap false ρ)  (hw : wp9_label S x1 Q) : Met l y9_label [Cond.code y9_label b9_label 3 (some .int)] { frames := 0, cells := 0, slots := 0, locals := 0 } (va_Pc [.ref (ρ 9 0), .int x1] (PreU false D ca ρ sz S)) (va_Qi Q (PostU false D ca ρ) (Ar false ρ sz)) 0 0 (Ar false ρ sz) := by
  refine met_of_wm (own := R9) (ls0 := [(0, .ref (ρ 9 0)), (1, .int x1)]) rfl rfl hAp (Nat.le_of_ble_eq_true rfl) rfl fun p e s m args below meth c C hr hz => ?_
  subst hz
  unfold wp9_label at hw
  refine r_iload_n C (pc := 0) 1 rfl d9_label_0 ?_
  refine r_aload_n C (pc := 1) 0 rfl d9_label_1 ?_
  refine g9_frames C (pc := 2) (Nat.le_of_ble_eq_true rfl) w9_128 d9_label_2 ?_
  refine r_icmp_lt C (pc := 5) (tgt := 15) d9_label_5 (by decide) (fun c1 => ?_) (fun c1 => ?_)
  · have hw := hw.1 c1
    refine r_aload_n C (pc := 15) 0 rfl d9_label_15 ?_
    refine g9_frames C (pc := 16) (Nat.le_of_ble_eq_true rfl) w9_128 d9_label_16 ?_
    refine r_iconst C (pc := 19) (v := 1) d9_label_19 (by decide) ?_
    refine r_isub C (pc := 20) d9_label_20 ?_
    refine r_iload_n C (pc := 21) 1 rfl d9_label_21 ?_
    refine r_isub C (pc := 22) d9_label_22 ?_
    refine r_topi (fun x2_1 ex2_1 => ?_)
    have hw := hw x2_1 ex2_1
    refine r_istore_n C (pc := 23) (ls' := [(2, .int x2_1), (0, .ref (ρ 9 0)), (1, .int x1)]) (Nat.le_of_ble_eq_true rfl) rfl d9_label_23 ?_
    refine r_aload_n C (pc := 24) 1 rfl d9_label_24 ?_
    refine g9_frameOp C (pc := 25) (Nat.le_of_ble_eq_true rfl) w9_44 d9_label_25 ?_
    refine r_iload_n C (pc := 28) 0 rfl d9_label_28 ?_
    have hi2 := hw.1
    have hw := hw.2
    refine ld1915 C (pc := 29) (Nat.le_of_ble_eq_true rfl) hi2 d9_label_29 ?_
    refine r_iconst C (pc := 30) (v := 3) d9_label_30 (by decide) ?_
    refine r_icmp_ne C (pc := 31) (tgt := 38) d9_label_31 (by decide) (fun c3 => ?_) (fun c3 => ?_)
    · have hw := hw.1 c3
      refine r_aload_n C (pc := 38) 1 rfl d9_label_38 ?_
      refine g9_frameKind C (pc := 39) (Nat.le_of_ble_eq_true rfl) w9_47 d9_label_39 ?_
      refine r_iload_n C (pc := 42) 0 rfl d9_label_42 ?_
      have hi4 := hw.1
      have hw := hw.2
      refine ld1916 C (pc := 43) (Nat.le_of_ble_eq_true rfl) hi4 d9_label_43 ?_
      exact r_iret C (pc := 44) hr d9_label_44 hw
    · have hw := hw.2 c3
      refine r_iconst C (pc := 34) (v := 0) d9_label_34 (by decide) ?_
      refine r_goto C (pc := 35) (tgt := 44) d9_label_35 (by decide) ?_
      exact r_iret C (pc := 44) hr d9_label_44 hw
  · have hw := hw.2 c1
    refine r_aload_n C (pc := 8) 0 rfl d9_label_8 ?_
    refine r_iconst C (pc := 9) (v := 1) d9_label_9 (by decide) ?_
    refine p9_bad C (pc := 10) (Nat.le_of_ble_eq_true rfl) (Or.inr rfl) w9_125 d9_label_10 ?_
    refine r_S (fun S1 eS1 => ?_)
    have hw := hw S1 eS1
    refine r_iconst C (pc := 13) (v := 0) d9_label_13 (by decide) ?_
    exact r_iret C (pc := 14) hr d9_label_14 hw
set_option maxRecDepth 20000 in
theorem nd9_checkJump_148 {p : Program} {l : Launch} {e : Env} {s : State} {m : MethodId} {args : Array Value} {below : List Frame} {meth : Method} {c : Code} {D : va_G} {ca : Nat → ClassId} {ρ : Nat → Nat → Nat} {x1 : Int32} {x2 : Int32} {x3 : Int32} {Q : St → Prop}  {S : St} (C : Cx false p l s m meth c R9 b9_checkJump 7 D ca ρ) (hr : meth.sig.returnType = none)   (hw : wp9_checkJump_148 x1 x2 x3 Q  S) : wm false p l e { frames := 3, cells := 0, slots := 0, locals := 63 } s m args below meth c D ca ρ 7 0 0 (qv false below args s D ca ρ 0 0 Q) 148 [(0, .ref (ρ 9 0))] [] S := by
  unfold wp9_checkJump_148 at hw
  refine r_aload_n C (pc := 148) 0 rfl d9_checkJump_148 ?_
  refine g9_bad C (pc := 149) (Nat.le_of_ble_eq_true rfl) w9_125 d9_checkJump_149 ?_
  refine r_if_ne C (pc := 152) (tgt := 159) d9_checkJump_152 (by decide) (fun c1 => ?_) (fun c1 => ?_)
  · have hw := hw.1 c1
    exact r_vret C (pc := 159) hr d9_checkJump_159 hw
  · have hw := hw.2 c1
    refine r_aload_n C (pc := 155) 0 rfl d9_checkJump_155 ?_
    refine r_callVv C (pc := 156) (fun sz => ct9_die l D ca ρ sz C.2.2.2.2.2.2.1 hw) mf9_die w9_151 rfl (Nat.le_of_ble_eq_true rfl) rfl rfl rfl rfl ⟨Nat.le_of_ble_eq_true rfl, Nat.le_of_ble_eq_true rfl⟩ rfl rfl (Nat.le_of_ble_eq_true rfl) ⟨Nat.zero_le _, Nat.zero_le _⟩ d9_checkJump_156 (fun S1 hw => ?_)
    exact r_vret C (pc := 159) hr d9_checkJump_159 hw
set_option maxRecDepth 20000 in
theorem nd9_checkJump_115 {p : Program} {l : Launch} {e : Env} {s : State} {m : MethodId} {args : Array Value} {below : List Frame} {meth : Method} {c : Code} {D : va_G} {ca : Nat → ClassId} {ρ : Nat → Nat → Nat} {x1 : Int32} {x2 : Int32} {x3 : Int32} {Q : St → Prop}  {S : St} (C : Cx false p l s m meth c R9 b9_checkJump 7 D ca ρ) (hr : meth.sig.returnType = none)   (hw : wp9_checkJump_115 x1 x2 x3 Q  S) : wm false p l e { frames := 3, cells := 0, slots := 0, locals := 63 } s m args below meth c D ca ρ 7 0 0 (qv false below args s D ca ρ 0 0 Q) 115 [(0, .ref (ρ 9 0)), (1, .int x1), (2, .int x2), (3, .int x3)] [] S := by
  unfold wp9_checkJump_115 at hw
  refine r_aload_n C (pc := 115) 0 rfl d9_checkJump_115 ?_
  refine r_aload_n C (pc := 116) 0 rfl d9_checkJump_116 ?_
  refine r_iload_n C (pc := 117) 1 rfl d9_checkJump_117 ?_
  refine r_iload_n C (pc := 118) 2 rfl d9_checkJump_118 ?_
  refine r_iconst C (pc := 119) (v := 1) d9_checkJump_119 (by decide) ?_
  refine r_iadd C (pc := 120) d9_checkJump_120 ?_
  refine r_callVi C (pc := 121) (fun sz => ct9_byteAt l D ca ρ sz C.2.2.2.2.2.2.1 hw) mf9_byteAt w9_115 rfl (Nat.le_of_ble_eq_true rfl) rfl rfl rfl rfl ⟨Nat.le_of_ble_eq_true rfl, Nat.le_of_ble_eq_true rfl⟩ rfl rfl (Nat.le_of_ble_eq_true rfl) ⟨Nat.zero_le _, Nat.zero_le _⟩ d9_checkJump_121 (fun r1 S1 hw => ?_)
  refine r_callVi C (pc := 124) (fun sz => ct9_label l D ca ρ sz C.2.2.2.2.2.2.1 hw) mf9_label w9_148 rfl (Nat.le_of_ble_eq_true rfl) rfl rfl rfl rfl ⟨Nat.le_of_ble_eq_true rfl, Nat.le_of_ble_eq_true rfl⟩ rfl rfl (Nat.le_of_ble_eq_true rfl) ⟨Nat.zero_le _, Nat.zero_le _⟩ d9_checkJump_124 (fun r2 S2 hw => ?_)
  refine r_istore C (pc := 127) (ls' := [(4, .int r2), (0, .ref (ρ 9 0)), (1, .int x1), (2, .int x2), (3, .int x3)]) (Nat.le_of_ble_eq_true rfl) rfl d9_checkJump_127 ?_
  refine r_aload_n C (pc := 129) 1 rfl d9_checkJump_129 ?_
  refine r_iload C (pc := 130) 0 rfl d9_checkJump_130 ?_
  refine r_callVv C (pc := 132) (fun sz => ct9_takeIf l D ca ρ sz C.2.2.2.2.2.2.1 hw) mf9_takeIf w9_142 rfl (Nat.le_of_ble_eq_true rfl) rfl rfl rfl rfl ⟨Nat.le_of_ble_eq_true rfl, Nat.le_of_ble_eq_true rfl⟩ rfl rfl (Nat.le_of_ble_eq_true rfl) ⟨Nat.zero_le _, Nat.zero_le _⟩ d9_checkJump_132 (fun S3 hw => ?_)
  refine r_iload_n C (pc := 135) 4 rfl d9_checkJump_135 ?_
  refine r_bipush C (pc := 136) (v := 8) d9_checkJump_136 (by decide) ?_
  refine r_icmp_ne C (pc := 138) (tgt := 148) d9_checkJump_138 (by decide) (fun c1 => ?_) (fun c1 => ?_)
  · have hw := hw.1 c1
    refine r_sub (ls' := [(0, .ref (ρ 9 0))]) [1] rfl ?_
    exact nd9_checkJump_148 C hr hw
  · have hw := hw.2 c1
    refine r_aload_n C (pc := 141) 1 rfl d9_checkJump_141 ?_
    refine r_iload C (pc := 142) 0 rfl d9_checkJump_142 ?_
    refine r_callVv C (pc := 144) (fun sz => ct9_putIf l D ca ρ sz C.2.2.2.2.2.2.1 hw) mf9_putIf w9_145 rfl (Nat.le_of_ble_eq_true rfl) rfl rfl rfl rfl ⟨Nat.le_of_ble_eq_true rfl, Nat.le_of_ble_eq_true rfl⟩ rfl rfl (Nat.le_of_ble_eq_true rfl) ⟨Nat.zero_le _, Nat.zero_le _⟩ d9_checkJump_144 (fun S4 hw => ?_)
    exact r_vret C (pc := 147) hr d9_checkJump_147 hw
set_option maxRecDepth 20000 in
theorem nd9_checkJump_89 {p : Program} {l : Launch} {e : Env} {s : State} {m : MethodId} {args : Array Value} {below : List Frame} {meth : Method} {c : Code} {D : va_G} {ca : Nat → ClassId} {ρ : Nat → Nat → Nat} {x1 : Int32} {x2 : Int32} {x3 : Int32} {Q : St → Prop} {K : Int32 → Int32 → Int32 → St → Prop} {x4 : Int32} {x5 : Int32} {x6 : Int32} {S : St} (C : Cx false p l s m meth c R9 b9_checkJump 7 D ca ρ) (hr : meth.sig.returnType = none)  (hK : ∀ (x4 : Int32) (x5 : Int32) (x6 : Int32) (S : St) , K x4 x5 x6 S → wm false p l e { frames := 3, cells := 0, slots := 0, locals := 63 } s m args below meth c D ca ρ 7 0 0 (qv false below args s D ca ρ 0 0 Q) 57 [(0, .ref (ρ 9 0)), (1, .int x1), (2, .int x2), (4, .int x4), (5, .int x5), (6, .int x6)] [] S)  (hw : wp9_checkJump_89 K x1 x2 x3 Q x4 x5 x6 S) : wm false p l e { frames := 3, cells := 0, slots := 0, locals := 63 } s m args below meth c D ca ρ 7 0 0 (qv false below args s D ca ρ 0 0 Q) 89 [(0, .ref (ρ 9 0)), (1, .int x1), (2, .int x2), (4, .int x4), (5, .int x5), (6, .int x6)] [] S := by
  unfold wp9_checkJump_89 at hw
  obtain ⟨x6_1, ex6_1⟩ : ∃ y : Int32, y = x6 + 1 := ⟨_, rfl⟩
  have hw := hw x6_1 ex6_1
  refine r_iinc C (pc := 89) (v := x6_1) (ls' := [(6, .int x6_1), (0, .ref (ρ 9 0)), (1, .int x1), (2, .int x2), (4, .int x4), (5, .int x5)]) 5 rfl (by rw [ex6_1]; rfl) (Nat.le_of_ble_eq_true rfl) rfl d9_checkJump_89 ?_
  refine r_goto C (pc := 92) (tgt := 57) d9_checkJump_92 (by decide) ?_
  refine r_sub (ls' := [(0, .ref (ρ 9 0)), (1, .int x1), (2, .int x2), (4, .int x4), (5, .int x5), (6, .int x6_1)]) [1, 2, 3, 4, 5, 0] rfl ?_
  exact hK _ _ _ _ hw
set_option maxRecDepth 20000 in
theorem nd9_checkJump_57 {p : Program} {l : Launch} {e : Env} {s : State} {m : MethodId} {args : Array Value} {below : List Frame} {meth : Method} {c : Code} {D : va_G} {ca : Nat → ClassId} {ρ : Nat → Nat → Nat} {x1 : Int32} {x2 : Int32} {x3 : Int32} {Q : St → Prop} (C : Cx false p l s m meth c R9 b9_checkJump 7 D ca ρ) (hr : meth.sig.returnType = none)  : ∀ (n : Nat) (x4 : Int32) (x5 : Int32) (x6 : Int32) (S : St) , wp9_checkJump_57 x1 x2 x3 Q n x4 x5 x6 S → wm false p l e { frames := 3, cells := 0, slots := 0, locals := 63 } s m args below meth c D ca ρ 7 0 0 (qv false below args s D ca ρ 0 0 Q) 57 [(0, .ref (ρ 9 0)), (1, .int x1), (2, .int x2), (4, .int x4), (5, .int x5), (6, .int x6)] [] S := by
  intro n
  induction n with
  | zero => intro x4 x5 x6 S  hw; exact hw.elim
  | succ n ih =>
    intro x4 x5 x6 S  hw
    unfold wp9_checkJump_57 at hw
    refine r_iload C (pc := 57) 5 rfl d9_checkJump_57 ?_
    refine r_iload C (pc := 59) 3 rfl d9_checkJump_59 ?_
    refine r_icmp_gt C (pc := 61) (tgt := 95) d9_checkJump_61 (by decide) (fun c1 => ?_) (fun c1 => ?_)
    · have hw := hw.1 c1
      refine r_aload_n C (pc := 95) 0 rfl d9_checkJump_95 ?_
      refine r_iload C (pc := 96) 4 rfl d9_checkJump_96 ?_
      refine r_callVv C (pc := 98) (fun sz => ct9_takeIf l D ca ρ sz C.2.2.2.2.2.2.1 hw) mf9_takeIf w9_142 rfl (Nat.le_of_ble_eq_true rfl) rfl rfl rfl rfl ⟨Nat.le_of_ble_eq_true rfl, Nat.le_of_ble_eq_true rfl⟩ rfl rfl (Nat.le_of_ble_eq_true rfl) ⟨Nat.zero_le _, Nat.zero_le _⟩ d9_checkJump_98 (fun S1 hw => ?_)
      refine r_goto C (pc := 101) (tgt := 148) d9_checkJump_101 (by decide) ?_
      refine r_sub (ls' := [(0, .ref (ρ 9 0))]) [0] rfl ?_
      exact nd9_checkJump_148 C hr hw
    · have hw := hw.2 c1
      refine r_aload_n C (pc := 64) 0 rfl d9_checkJump_64 ?_
      refine r_aload_n C (pc := 65) 0 rfl d9_checkJump_65 ?_
      refine r_iload_n C (pc := 66) 1 rfl d9_checkJump_66 ?_
      refine r_iload_n C (pc := 67) 2 rfl d9_checkJump_67 ?_
      refine r_iconst C (pc := 68) (v := 2) d9_checkJump_68 (by decide) ?_
      refine r_iadd C (pc := 69) d9_checkJump_69 ?_
      refine r_iload C (pc := 70) 5 rfl d9_checkJump_70 ?_
      refine r_iadd C (pc := 72) d9_checkJump_72 ?_
      refine r_callVi C (pc := 73) (fun sz => ct9_byteAt l D ca ρ sz C.2.2.2.2.2.2.1 hw) mf9_byteAt w9_115 rfl (Nat.le_of_ble_eq_true rfl) rfl rfl rfl rfl ⟨Nat.le_of_ble_eq_true rfl, Nat.le_of_ble_eq_true rfl⟩ rfl rfl (Nat.le_of_ble_eq_true rfl) ⟨Nat.zero_le _, Nat.zero_le _⟩ d9_checkJump_73 (fun r1 S2 hw => ?_)
      refine r_callVi C (pc := 76) (fun sz => ct9_label l D ca ρ sz C.2.2.2.2.2.2.1 hw) mf9_label w9_148 rfl (Nat.le_of_ble_eq_true rfl) rfl rfl rfl rfl ⟨Nat.le_of_ble_eq_true rfl, Nat.le_of_ble_eq_true rfl⟩ rfl rfl (Nat.le_of_ble_eq_true rfl) ⟨Nat.zero_le _, Nat.zero_le _⟩ d9_checkJump_76 (fun r2 S3 hw => ?_)
      refine r_iload C (pc := 79) 4 rfl d9_checkJump_79 ?_
      refine r_icmp_eq C (pc := 81) (tgt := 89) d9_checkJump_81 (by decide) (fun c2 => ?_) (fun c2 => ?_)
      · have hw := hw.1 c2
        refine r_sub (ls' := [(0, .ref (ρ 9 0)), (1, .int x1), (2, .int x2), (4, .int x4), (5, .int x5), (6, .int x6)]) [0, 1, 2, 3, 4, 5] rfl ?_
        exact nd9_checkJump_89 C hr ih hw
      · have hw := hw.2 c2
        refine r_aload_n C (pc := 84) 0 rfl d9_checkJump_84 ?_
        refine r_iconst C (pc := 85) (v := 1) d9_checkJump_85 (by decide) ?_
        refine p9_bad C (pc := 86) (Nat.le_of_ble_eq_true rfl) (Or.inr rfl) w9_125 d9_checkJump_86 ?_
        refine r_S (fun S4 eS4 => ?_)
        have hw := hw S4 eS4
        refine r_sub (ls' := [(0, .ref (ρ 9 0)), (1, .int x1), (2, .int x2), (4, .int x4), (5, .int x5), (6, .int x6)]) [0, 1, 2, 3, 4, 5] rfl ?_
        exact nd9_checkJump_89 C hr ih hw
set_option maxRecDepth 20000 in
theorem ct9_checkJump (l : Launch) (D : va_G) (ca : Nat → ClassId) (ρ : Nat → Nat → Nat) (sz : Nat) {S : St} {x1 : Int32} {x2 : Int32} {x3 : Int32} {Q : St → Prop} (hAp : Ap false ρ)  (hw : wp9_checkJump S x1 x2 x3 Q) : Met l y9_checkJump [Cond.code y9_checkJump b9_checkJump 7 none] { frames := 3, cells := 0, slots := 0, locals := 63 } (va_Pc [.ref (ρ 9 0), .int x1, .int x2, .int x3] (PreU false D ca ρ sz S)) (va_Qv Q (PostU false D ca ρ) (Ar false ρ sz)) 0 0 (Ar false ρ sz) := by
  refine met_of_wm (own := R9) (ls0 := [(0, .ref (ρ 9 0)), (1, .int x1), (2, .int x2), (3, .int x3)]) rfl rfl hAp (Nat.le_of_ble_eq_true rfl) rfl fun p e s m args below meth c C hr hz => ?_
  subst hz
  unfold wp9_checkJump at hw
  refine r_iload_n C (pc := 0) 3 rfl d9_checkJump_0 ?_
  refine r_bipush C (pc := 1) (v := 10) d9_checkJump_1 (by decide) ?_
  refine r_icmp_ne C (pc := 3) (tgt := 19) d9_checkJump_3 (by decide) (fun c1 => ?_) (fun c1 => ?_)
  · have hw := hw.1 c1
    refine r_iload_n C (pc := 19) 3 rfl d9_checkJump_19 ?_
    refine r_bipush C (pc := 20) (v := 9) d9_checkJump_20 (by decide) ?_
    refine r_icmp_ne C (pc := 22) (tgt := 104) d9_checkJump_22 (by decide) (fun c2 => ?_) (fun c2 => ?_)
    · have hw := hw.1 c2
      refine r_iload_n C (pc := 104) 3 rfl d9_checkJump_104 ?_
      refine r_bipush C (pc := 105) (v := 8) d9_checkJump_105 (by decide) ?_
      refine r_icmp_ne C (pc := 107) (tgt := 115) d9_checkJump_107 (by decide) (fun c3 => ?_) (fun c3 => ?_)
      · have hw := hw.1 c3
        refine r_sub (ls' := [(0, .ref (ρ 9 0)), (1, .int x1), (2, .int x2), (3, .int x3)]) [0, 1, 2, 3] rfl ?_
        exact nd9_checkJump_115 C hr hw
      · have hw := hw.2 c3
        refine r_aload_n C (pc := 110) 0 rfl d9_checkJump_110 ?_
        refine r_iconst C (pc := 111) (v := 1) d9_checkJump_111 (by decide) ?_
        refine r_callVv C (pc := 112) (fun sz => ct9_take l D ca ρ sz C.2.2.2.2.2.2.1 hw) mf9_take w9_135 rfl (Nat.le_of_ble_eq_true rfl) rfl rfl rfl rfl ⟨Nat.le_of_ble_eq_true rfl, Nat.le_of_ble_eq_true rfl⟩ rfl rfl (Nat.le_of_ble_eq_true rfl) ⟨Nat.zero_le _, Nat.zero_le _⟩ d9_checkJump_112 (fun S1 hw => ?_)
        refine r_sub (ls' := [(0, .ref (ρ 9 0)), (1, .int x1), (2, .int x2), (3, .int x3)]) [0, 1, 2, 3] rfl ?_
        exact nd9_checkJump_115 C hr hw
    · have hw := hw.2 c2
      refine r_aload_n C (pc := 25) 0 rfl d9_checkJump_25 ?_
      refine r_iconst C (pc := 26) (v := 1) d9_checkJump_26 (by decide) ?_
      refine r_callVv C (pc := 27) (fun sz => ct9_take l D ca ρ sz C.2.2.2.2.2.2.1 hw) mf9_take w9_135 rfl (Nat.le_of_ble_eq_true rfl) rfl rfl rfl rfl ⟨Nat.le_of_ble_eq_true rfl, Nat.le_of_ble_eq_true rfl⟩ rfl rfl (Nat.le_of_ble_eq_true rfl) ⟨Nat.zero_le _, Nat.zero_le _⟩ d9_checkJump_27 (fun S2 hw => ?_)
      refine r_aload_n C (pc := 30) 0 rfl d9_checkJump_30 ?_
      refine r_iload_n C (pc := 31) 1 rfl d9_checkJump_31 ?_
      refine r_iload_n C (pc := 32) 2 rfl d9_checkJump_32 ?_
      refine r_iconst C (pc := 33) (v := 1) d9_checkJump_33 (by decide) ?_
      refine r_iadd C (pc := 34) d9_checkJump_34 ?_
      refine r_callVi C (pc := 35) (fun sz => ct9_byteAt l D ca ρ sz C.2.2.2.2.2.2.1 hw) mf9_byteAt w9_115 rfl (Nat.le_of_ble_eq_true rfl) rfl rfl rfl rfl ⟨Nat.le_of_ble_eq_true rfl, Nat.le_of_ble_eq_true rfl⟩ rfl rfl (Nat.le_of_ble_eq_true rfl) ⟨Nat.zero_le _, Nat.zero_le _⟩ d9_checkJump_35 (fun r1 S3 hw => ?_)
      refine r_istore C (pc := 38) (ls' := [(4, .int r1), (0, .ref (ρ 9 0)), (1, .int x1), (2, .int x2), (3, .int x3)]) (Nat.le_of_ble_eq_true rfl) rfl d9_checkJump_38 ?_
      refine r_aload_n C (pc := 40) 1 rfl d9_checkJump_40 ?_
      refine r_aload_n C (pc := 41) 1 rfl d9_checkJump_41 ?_
      refine r_iload_n C (pc := 42) 2 rfl d9_checkJump_42 ?_
      refine r_iload_n C (pc := 43) 3 rfl d9_checkJump_43 ?_
      refine r_iconst C (pc := 44) (v := 2) d9_checkJump_44 (by decide) ?_
      refine r_iadd C (pc := 45) d9_checkJump_45 ?_
      refine r_callVi C (pc := 46) (fun sz => ct9_byteAt l D ca ρ sz C.2.2.2.2.2.2.1 hw) mf9_byteAt w9_115 rfl (Nat.le_of_ble_eq_true rfl) rfl rfl rfl rfl ⟨Nat.le_of_ble_eq_true rfl, Nat.le_of_ble_eq_true rfl⟩ rfl rfl (Nat.le_of_ble_eq_true rfl) ⟨Nat.zero_le _, Nat.zero_le _⟩ d9_checkJump_46 (fun r2 S4 hw => ?_)
      refine r_callVi C (pc := 49) (fun sz => ct9_label l D ca ρ sz C.2.2.2.2.2.2.1 hw) mf9_label w9_148 rfl (Nat.le_of_ble_eq_true rfl) rfl rfl rfl rfl ⟨Nat.le_of_ble_eq_true rfl, Nat.le_of_ble_eq_true rfl⟩ rfl rfl (Nat.le_of_ble_eq_true rfl) ⟨Nat.zero_le _, Nat.zero_le _⟩ d9_checkJump_49 (fun r3 S5 hw => ?_)
      refine r_istore C (pc := 52) (ls' := [(5, .int r3), (4, .int r1), (0, .ref (ρ 9 0)), (1, .int x1), (2, .int x2), (3, .int x3)]) (Nat.le_of_ble_eq_true rfl) rfl d9_checkJump_52 ?_
      refine r_iconst C (pc := 54) (v := 0) d9_checkJump_54 (by decide) ?_
      refine r_istore C (pc := 55) (ls' := [(6, .int 0), (5, .int r3), (4, .int r1), (0, .ref (ρ 9 0)), (1, .int x1), (2, .int x2), (3, .int x3)]) (Nat.le_of_ble_eq_true rfl) rfl d9_checkJump_55 ?_
      refine r_sub (ls' := [(0, .ref (ρ 9 0)), (1, .int x1), (2, .int x2), (4, .int r1), (5, .int r3), (6, .int 0)]) [3, 4, 5, 2, 1, 0] rfl ?_
      obtain ⟨n, hw⟩ := hw
      exact nd9_checkJump_57 C hr  n _ _ _ _ hw
  · have hw := hw.2 c1
    refine r_aload_n C (pc := 6) 0 rfl d9_checkJump_6 ?_
    refine r_aload_n C (pc := 7) 0 rfl d9_checkJump_7 ?_
    refine g9_frameKind C (pc := 8) (Nat.le_of_ble_eq_true rfl) w9_47 d9_checkJump_8 ?_
    refine r_iconst C (pc := 11) (v := 0) d9_checkJump_11 (by decide) ?_
    have hi4 : vp_in 0 60 := by unfold vp_in; decide
    refine ld1916 C (pc := 12) (Nat.le_of_ble_eq_true rfl) hi4 d9_checkJump_12 ?_
    refine r_callVv C (pc := 13) (fun sz => ct9_takeIf l D ca ρ sz C.2.2.2.2.2.2.1 hw) mf9_takeIf w9_142 rfl (Nat.le_of_ble_eq_true rfl) rfl rfl rfl rfl ⟨Nat.le_of_ble_eq_true rfl, Nat.le_of_ble_eq_true rfl⟩ rfl rfl (Nat.le_of_ble_eq_true rfl) ⟨Nat.zero_le _, Nat.zero_le _⟩ d9_checkJump_13 (fun S6 hw => ?_)
    refine r_goto C (pc := 16) (tgt := 148) d9_checkJump_16 (by decide) ?_
    refine r_sub (ls' := [(0, .ref (ρ 9 0))]) [0] rfl ?_
    exact nd9_checkJump_148 C hr hw
