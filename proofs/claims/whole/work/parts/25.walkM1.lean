set_option maxRecDepth 20000 in
theorem nd9_checkCall_46 {p : Program} {l : Launch} {e : Env} {s : State} {m : MethodId} {args : Array Value} {below : List Frame} {meth : Method} {c : Code} {D : va_G} {ca : Nat → ClassId} {ρ : Nat → Nat → Nat} {x1 : Int32} {x2 : Int32} {Q : St → Prop} (C : Cx false p l s m meth c R9 b9_checkCall 4 D ca ρ) (hr : meth.sig.returnType = none)  : ∀ (n : Nat) (x3 : Int32) (S : St) , wp9_checkCall_46 x1 x2 Q n x3 S → wm false p l e { frames := 2, cells := 0, slots := 0, locals := 42 } s m args below meth c D ca ρ 4 0 0 (qv false below args s D ca ρ 0 0 Q) 46 [(0, .ref (ρ 9 0)), (1, .int x1), (3, .int x3)] [] S := by
  intro n
  induction n with
  | zero => intro x3 S  hw; exact hw.elim
  | succ n ih =>
    intro x3 S  hw
    unfold wp9_checkCall_46 at hw
    refine r_iload_n C (pc := 46) 2 rfl d9_checkCall_46 ?_
    refine r_if_lt C (pc := 47) (tgt := 71) d9_checkCall_47 (by decide) (fun c1 => ?_) (fun c1 => ?_)
    · have hw := hw.1 c1
      refine r_aload_n C (pc := 71) 0 rfl d9_checkCall_71 ?_
      refine r_aload_n C (pc := 72) 0 rfl d9_checkCall_72 ?_
      refine g9_result C (pc := 73) (Nat.le_of_ble_eq_true rfl) w9_19 d9_checkCall_73 ?_
      refine r_iload_n C (pc := 76) 1 rfl d9_checkCall_76 ?_
      have hi2 := hw.1
      have hw := hw.2
      refine ld1903 C (pc := 77) (Nat.le_of_ble_eq_true rfl) hi2 d9_checkCall_77 ?_
      refine r_callVv C (pc := 78) (fun sz => ct9_putIf l D ca ρ sz C.2.2.2.2.2.2.1 hw) mf9_putIf w9_145 rfl (Nat.le_of_ble_eq_true rfl) rfl rfl rfl rfl ⟨Nat.le_of_ble_eq_true rfl, Nat.le_of_ble_eq_true rfl⟩ rfl rfl (Nat.le_of_ble_eq_true rfl) ⟨Nat.zero_le _, Nat.zero_le _⟩ d9_checkCall_78 (fun S1 hw => ?_)
      exact r_vret C (pc := 81) hr d9_checkCall_81 hw
    · have hw := hw.2 c1
      refine r_aload_n C (pc := 50) 0 rfl d9_checkCall_50 ?_
      refine r_aload_n C (pc := 51) 0 rfl d9_checkCall_51 ?_
      refine g9_kinds C (pc := 52) (Nat.le_of_ble_eq_true rfl) w9_7 d9_checkCall_52 ?_
      refine r_bipush C (pc := 55) (v := 6) d9_checkCall_55 (by decide) ?_
      refine r_iload_n C (pc := 57) 1 rfl d9_checkCall_57 ?_
      refine r_imul C (pc := 58) d9_checkCall_58 ?_
      refine r_iload_n C (pc := 59) 2 rfl d9_checkCall_59 ?_
      refine r_iadd C (pc := 60) d9_checkCall_60 ?_
      have hi3 := hw.1
      have hw := hw.2
      refine ld1900 C (pc := 61) (Nat.le_of_ble_eq_true rfl) hi3 d9_checkCall_61 ?_
      refine r_callVv C (pc := 62) (fun sz => ct9_take l D ca ρ sz C.2.2.2.2.2.2.1 hw) mf9_take w9_135 rfl (Nat.le_of_ble_eq_true rfl) rfl rfl rfl rfl ⟨Nat.le_of_ble_eq_true rfl, Nat.le_of_ble_eq_true rfl⟩ rfl rfl (Nat.le_of_ble_eq_true rfl) ⟨Nat.zero_le _, Nat.zero_le _⟩ d9_checkCall_62 (fun S2 hw => ?_)
      obtain ⟨x3_1, ex3_1⟩ : ∃ y : Int32, y = x3 + (-1) := ⟨_, rfl⟩
      have hw := hw x3_1 ex3_1
      refine r_iinc C (pc := 65) (v := x3_1) (ls' := [(3, .int x3_1), (0, .ref (ρ 9 0)), (1, .int x1)]) 2 rfl (by rw [ex3_1]; rfl) (Nat.le_of_ble_eq_true rfl) rfl d9_checkCall_65 ?_
      refine r_goto C (pc := 68) (tgt := 46) d9_checkCall_68 (by decide) ?_
      refine r_sub (ls' := [(0, .ref (ρ 9 0)), (1, .int x1), (3, .int x3_1)]) [1, 2, 0] rfl ?_
      exact ih _ _ hw
set_option maxRecDepth 20000 in
theorem nd9_checkCall_37 {p : Program} {l : Launch} {e : Env} {s : State} {m : MethodId} {args : Array Value} {below : List Frame} {meth : Method} {c : Code} {D : va_G} {ca : Nat → ClassId} {ρ : Nat → Nat → Nat} {x1 : Int32} {x2 : Int32} {Q : St → Prop}  {S : St} (C : Cx false p l s m meth c R9 b9_checkCall 4 D ca ρ) (hr : meth.sig.returnType = none)   (hw : wp9_checkCall_37 x1 x2 Q  S) : wm false p l e { frames := 2, cells := 0, slots := 0, locals := 42 } s m args below meth c D ca ρ 4 0 0 (qv false below args s D ca ρ 0 0 Q) 37 [(0, .ref (ρ 9 0)), (1, .int x1)] [] S := by
  unfold wp9_checkCall_37 at hw
  refine r_aload_n C (pc := 37) 0 rfl d9_checkCall_37 ?_
  refine g9_parameters C (pc := 38) (Nat.le_of_ble_eq_true rfl) w9_13 d9_checkCall_38 ?_
  refine r_iload_n C (pc := 41) 1 rfl d9_checkCall_41 ?_
  have hi1 := hw.1
  have hw := hw.2
  refine ld1901 C (pc := 42) (Nat.le_of_ble_eq_true rfl) hi1 d9_checkCall_42 ?_
  refine r_iconst C (pc := 43) (v := 1) d9_checkCall_43 (by decide) ?_
  refine r_isub C (pc := 44) d9_checkCall_44 ?_
  refine r_topi (fun x3_1 ex3_1 => ?_)
  have hw := hw x3_1 ex3_1
  refine r_istore_n C (pc := 45) (ls' := [(3, .int x3_1), (0, .ref (ρ 9 0)), (1, .int x1)]) (Nat.le_of_ble_eq_true rfl) rfl d9_checkCall_45 ?_
  refine r_sub (ls' := [(0, .ref (ρ 9 0)), (1, .int x1), (3, .int x3_1)]) [1, 2, 0] rfl ?_
  obtain ⟨n, hw⟩ := hw
  exact nd9_checkCall_46 C hr  n _ _ hw
set_option maxRecDepth 20000 in
theorem nd9_checkCall_11 {p : Program} {l : Launch} {e : Env} {s : State} {m : MethodId} {args : Array Value} {below : List Frame} {meth : Method} {c : Code} {D : va_G} {ca : Nat → ClassId} {ρ : Nat → Nat → Nat} {x1 : Int32} {x2 : Int32} {Q : St → Prop}  {S : St} (C : Cx false p l s m meth c R9 b9_checkCall 4 D ca ρ) (hr : meth.sig.returnType = none)   (hw : wp9_checkCall_11 x1 x2 Q  S) : wm false p l e { frames := 2, cells := 0, slots := 0, locals := 42 } s m args below meth c D ca ρ 4 0 0 (qv false below args s D ca ρ 0 0 Q) 11 [(0, .ref (ρ 9 0)), (1, .int x1), (2, .int x2)] [] S := by
  unfold wp9_checkCall_11 at hw
  refine r_iload_n C (pc := 11) 1 rfl d9_checkCall_11 ?_
  refine r_iconst C (pc := 12) (v := 5) d9_checkCall_12 (by decide) ?_
  refine r_icmp_gt C (pc := 13) (tgt := 31) d9_checkCall_13 (by decide) (fun c1 => ?_) (fun c1 => ?_)
  · have hw := hw.1 c1
    refine r_aload_n C (pc := 31) 0 rfl d9_checkCall_31 ?_
    refine r_iconst C (pc := 32) (v := 1) d9_checkCall_32 (by decide) ?_
    refine p9_bad C (pc := 33) (Nat.le_of_ble_eq_true rfl) (Or.inr rfl) w9_125 d9_checkCall_33 ?_
    refine r_S (fun S1 eS1 => ?_)
    have hw := hw S1 eS1
    exact r_vret C (pc := 36) hr d9_checkCall_36 hw
  · have hw := hw.2 c1
    refine r_iload_n C (pc := 16) 2 rfl d9_checkCall_16 ?_
    refine r_bipush C (pc := 17) (v := 11) d9_checkCall_17 (by decide) ?_
    refine r_icmp_ne C (pc := 19) (tgt := 37) d9_checkCall_19 (by decide) (fun c2 => ?_) (fun c2 => ?_)
    · have hw := hw.1 c2
      refine r_sub (ls' := [(0, .ref (ρ 9 0)), (1, .int x1)]) [0, 1] rfl ?_
      exact nd9_checkCall_37 C hr hw
    · have hw := hw.2 c2
      refine r_aload_n C (pc := 22) 0 rfl d9_checkCall_22 ?_
      refine g9_length C (pc := 23) (Nat.le_of_ble_eq_true rfl) w9_25 d9_checkCall_23 ?_
      refine r_iload_n C (pc := 26) 1 rfl d9_checkCall_26 ?_
      have hi3 := hw.1
      have hw := hw.2
      refine ld1905 C (pc := 27) (Nat.le_of_ble_eq_true rfl) hi3 d9_checkCall_27 ?_
      refine r_if_ne C (pc := 28) (tgt := 37) d9_checkCall_28 (by decide) (fun c4 => ?_) (fun c4 => ?_)
      · have hw := hw.1 c4
        refine r_sub (ls' := [(0, .ref (ρ 9 0)), (1, .int x1)]) [0, 1] rfl ?_
        exact nd9_checkCall_37 C hr hw
      · have hw := hw.2 c4
        refine r_aload_n C (pc := 31) 0 rfl d9_checkCall_31 ?_
        refine r_iconst C (pc := 32) (v := 1) d9_checkCall_32 (by decide) ?_
        refine p9_bad C (pc := 33) (Nat.le_of_ble_eq_true rfl) (Or.inr rfl) w9_125 d9_checkCall_33 ?_
        refine r_S (fun S2 eS2 => ?_)
        have hw := hw S2 eS2
        exact r_vret C (pc := 36) hr d9_checkCall_36 hw
set_option maxRecDepth 20000 in
theorem ct9_checkCall (l : Launch) (D : va_G) (ca : Nat → ClassId) (ρ : Nat → Nat → Nat) (sz : Nat) {S : St} {x1 : Int32} {x2 : Int32} {Q : St → Prop} (hAp : Ap false ρ)  (hw : wp9_checkCall S x1 x2 Q) : Met l y9_checkCall [Cond.code y9_checkCall b9_checkCall 4 none] { frames := 2, cells := 0, slots := 0, locals := 42 } (va_Pc [.ref (ρ 9 0), .int x1, .int x2] (PreU false D ca ρ sz S)) (va_Qv Q (PostU false D ca ρ) (Ar false ρ sz)) 0 0 (Ar false ρ sz) := by
  refine met_of_wm (own := R9) (ls0 := [(0, .ref (ρ 9 0)), (1, .int x1), (2, .int x2)]) rfl rfl hAp (Nat.le_of_ble_eq_true rfl) rfl fun p e s m args below meth c C hr hz => ?_
  subst hz
  unfold wp9_checkCall at hw
  refine r_iload_n C (pc := 0) 2 rfl d9_checkCall_0 ?_
  refine r_bipush C (pc := 1) (v := 12) d9_checkCall_1 (by decide) ?_
  refine r_icmp_ne C (pc := 3) (tgt := 11) d9_checkCall_3 (by decide) (fun c1 => ?_) (fun c1 => ?_)
  · have hw := hw.1 c1
    refine r_sub (ls' := [(0, .ref (ρ 9 0)), (1, .int x1), (2, .int x2)]) [0, 1, 2] rfl ?_
    exact nd9_checkCall_11 C hr hw
  · have hw := hw.2 c1
    refine r_aload_n C (pc := 6) 0 rfl d9_checkCall_6 ?_
    refine r_iconst C (pc := 7) (v := 1) d9_checkCall_7 (by decide) ?_
    refine r_callVv C (pc := 8) (fun sz => ct9_take l D ca ρ sz C.2.2.2.2.2.2.1 hw) mf9_take w9_135 rfl (Nat.le_of_ble_eq_true rfl) rfl rfl rfl rfl ⟨Nat.le_of_ble_eq_true rfl, Nat.le_of_ble_eq_true rfl⟩ rfl rfl (Nat.le_of_ble_eq_true rfl) ⟨Nat.zero_le _, Nat.zero_le _⟩ d9_checkCall_8 (fun S1 hw => ?_)
    refine r_sub (ls' := [(0, .ref (ρ 9 0)), (1, .int x1), (2, .int x2)]) [0, 1, 2] rfl ?_
    exact nd9_checkCall_11 C hr hw
set_option maxRecDepth 20000 in
theorem nd9_checkSelect_46 {p : Program} {l : Launch} {e : Env} {s : State} {m : MethodId} {args : Array Value} {below : List Frame} {meth : Method} {c : Code} {D : va_G} {ca : Nat → ClassId} {ρ : Nat → Nat → Nat}  {Q : St → Prop} {s1 : Int32} {S : St} (C : Cx false p l s m meth c R9 b9_checkSelect 3 D ca ρ) (hr : meth.sig.returnType = none)   (hw : wp9_checkSelect_46  Q s1 S) : wm false p l e { frames := 2, cells := 0, slots := 0, locals := 42 } s m args below meth c D ca ρ 3 0 0 (qv false below args s D ca ρ 0 0 Q) 46 [] [.int s1, .ref (ρ 9 0)] S := by
  unfold wp9_checkSelect_46 at hw
  refine r_callVv C (pc := 46) (fun sz => ct9_put l D ca ρ sz C.2.2.2.2.2.2.1 hw) mf9_put w9_139 rfl (Nat.le_of_ble_eq_true rfl) rfl rfl rfl rfl ⟨Nat.le_of_ble_eq_true rfl, Nat.le_of_ble_eq_true rfl⟩ rfl rfl (Nat.le_of_ble_eq_true rfl) ⟨Nat.zero_le _, Nat.zero_le _⟩ d9_checkSelect_46 (fun S1 hw => ?_)
  exact r_vret C (pc := 49) hr d9_checkSelect_49 hw
set_option maxRecDepth 20000 in
theorem nd9_checkSelect_35 {p : Program} {l : Launch} {e : Env} {s : State} {m : MethodId} {args : Array Value} {below : List Frame} {meth : Method} {c : Code} {D : va_G} {ca : Nat → ClassId} {ρ : Nat → Nat → Nat}  {Q : St → Prop} {x1 : Int32} {x2 : Int32} {S : St} (C : Cx false p l s m meth c R9 b9_checkSelect 3 D ca ρ) (hr : meth.sig.returnType = none)   (hw : wp9_checkSelect_35  Q x1 x2 S) : wm false p l e { frames := 2, cells := 0, slots := 0, locals := 42 } s m args below meth c D ca ρ 3 0 0 (qv false below args s D ca ρ 0 0 Q) 35 [(0, .ref (ρ 9 0)), (1, .int x1), (2, .int x2)] [] S := by
  unfold wp9_checkSelect_35 at hw
  refine r_aload_n C (pc := 35) 0 rfl d9_checkSelect_35 ?_
  refine r_iload_n C (pc := 36) 2 rfl d9_checkSelect_36 ?_
  refine r_iconst C (pc := 37) (v := 4) d9_checkSelect_37 (by decide) ?_
  refine r_icmp_ne C (pc := 38) (tgt := 45) d9_checkSelect_38 (by decide) (fun c1 => ?_) (fun c1 => ?_)
  · have hw := hw.1 c1
    refine r_iload_n C (pc := 45) 2 rfl d9_checkSelect_45 ?_
    refine r_sub (ls' := []) [] rfl ?_
    exact nd9_checkSelect_46 C hr hw
  · have hw := hw.2 c1
    refine r_iload_n C (pc := 41) 1 rfl d9_checkSelect_41 ?_
    refine r_goto C (pc := 42) (tgt := 46) d9_checkSelect_42 (by decide) ?_
    refine r_sub (ls' := []) [] rfl ?_
    exact nd9_checkSelect_46 C hr hw
set_option maxRecDepth 20000 in
theorem ct9_checkSelect (l : Launch) (D : va_G) (ca : Nat → ClassId) (ρ : Nat → Nat → Nat) (sz : Nat) {S : St}  {Q : St → Prop} (hAp : Ap false ρ)  (hw : wp9_checkSelect S Q) : Met l y9_checkSelect [Cond.code y9_checkSelect b9_checkSelect 3 none] { frames := 2, cells := 0, slots := 0, locals := 42 } (va_Pc [.ref (ρ 9 0)] (PreU false D ca ρ sz S)) (va_Qv Q (PostU false D ca ρ) (Ar false ρ sz)) 0 0 (Ar false ρ sz) := by
  refine met_of_wm (own := R9) (ls0 := [(0, .ref (ρ 9 0))]) rfl rfl hAp (Nat.le_of_ble_eq_true rfl) rfl fun p e s m args below meth c C hr hz => ?_
  subst hz
  unfold wp9_checkSelect at hw
  refine r_aload_n C (pc := 0) 0 rfl d9_checkSelect_0 ?_
  refine r_iconst C (pc := 1) (v := 1) d9_checkSelect_1 (by decide) ?_
  refine r_callVv C (pc := 2) (fun sz => ct9_take l D ca ρ sz C.2.2.2.2.2.2.1 hw) mf9_take w9_135 rfl (Nat.le_of_ble_eq_true rfl) rfl rfl rfl rfl ⟨Nat.le_of_ble_eq_true rfl, Nat.le_of_ble_eq_true rfl⟩ rfl rfl (Nat.le_of_ble_eq_true rfl) ⟨Nat.zero_le _, Nat.zero_le _⟩ d9_checkSelect_2 (fun S1 hw => ?_)
  refine r_aload_n C (pc := 5) 0 rfl d9_checkSelect_5 ?_
  refine r_callVi C (pc := 6) (fun sz => ct9_takeAny l D ca ρ sz C.2.2.2.2.2.2.1 hw) mf9_takeAny w9_131 rfl (Nat.le_of_ble_eq_true rfl) rfl rfl rfl rfl ⟨Nat.le_of_ble_eq_true rfl, Nat.le_of_ble_eq_true rfl⟩ rfl rfl (Nat.le_of_ble_eq_true rfl) ⟨Nat.zero_le _, Nat.zero_le _⟩ d9_checkSelect_6 (fun r1 S2 hw => ?_)
  refine r_istore_n C (pc := 9) (ls' := [(1, .int r1), (0, .ref (ρ 9 0))]) (Nat.le_of_ble_eq_true rfl) rfl d9_checkSelect_9 ?_
  refine r_aload_n C (pc := 10) 1 rfl d9_checkSelect_10 ?_
  refine r_callVi C (pc := 11) (fun sz => ct9_takeAny l D ca ρ sz C.2.2.2.2.2.2.1 hw) mf9_takeAny w9_131 rfl (Nat.le_of_ble_eq_true rfl) rfl rfl rfl rfl ⟨Nat.le_of_ble_eq_true rfl, Nat.le_of_ble_eq_true rfl⟩ rfl rfl (Nat.le_of_ble_eq_true rfl) ⟨Nat.zero_le _, Nat.zero_le _⟩ d9_checkSelect_11 (fun r2 S3 hw => ?_)
  refine r_istore_n C (pc := 14) (ls' := [(2, .int r2), (1, .int r1), (0, .ref (ρ 9 0))]) (Nat.le_of_ble_eq_true rfl) rfl d9_checkSelect_14 ?_
  refine r_iload_n C (pc := 15) 0 rfl d9_checkSelect_15 ?_
  refine r_iconst C (pc := 16) (v := 4) d9_checkSelect_16 (by decide) ?_
  refine r_icmp_eq C (pc := 17) (tgt := 35) d9_checkSelect_17 (by decide) (fun c1 => ?_) (fun c1 => ?_)
  · have hw := hw.1 c1
    refine r_sub (ls' := [(0, .ref (ρ 9 0)), (1, .int r1), (2, .int r2)]) [2, 1, 0] rfl ?_
    exact nd9_checkSelect_35 C hr hw
  · have hw := hw.2 c1
    refine r_iload_n C (pc := 20) 1 rfl d9_checkSelect_20 ?_
    refine r_iconst C (pc := 21) (v := 4) d9_checkSelect_21 (by decide) ?_
    refine r_icmp_eq C (pc := 22) (tgt := 35) d9_checkSelect_22 (by decide) (fun c2 => ?_) (fun c2 => ?_)
    · have hw := hw.1 c2
      refine r_sub (ls' := [(0, .ref (ρ 9 0)), (1, .int r1), (2, .int r2)]) [2, 1, 0] rfl ?_
      exact nd9_checkSelect_35 C hr hw
    · have hw := hw.2 c2
      refine r_iload_n C (pc := 25) 0 rfl d9_checkSelect_25 ?_
      refine r_iload_n C (pc := 26) 1 rfl d9_checkSelect_26 ?_
      refine r_icmp_eq C (pc := 27) (tgt := 35) d9_checkSelect_27 (by decide) (fun c3 => ?_) (fun c3 => ?_)
      · have hw := hw.1 c3
        refine r_sub (ls' := [(0, .ref (ρ 9 0)), (1, .int r1), (2, .int r2)]) [2, 1, 0] rfl ?_
        exact nd9_checkSelect_35 C hr hw
      · have hw := hw.2 c3
        refine r_aload_n C (pc := 30) 2 rfl d9_checkSelect_30 ?_
        refine r_iconst C (pc := 31) (v := 1) d9_checkSelect_31 (by decide) ?_
        refine p9_bad C (pc := 32) (Nat.le_of_ble_eq_true rfl) (Or.inr rfl) w9_125 d9_checkSelect_32 ?_
        refine r_S (fun S4 eS4 => ?_)
        have hw := hw S4 eS4
        refine r_sub (ls' := [(0, .ref (ρ 9 0)), (1, .int r1), (2, .int r2)]) [2, 1, 0] rfl ?_
        exact nd9_checkSelect_35 C hr hw
set_option maxRecDepth 20000 in
theorem nd9_checkVariable_104 {p : Program} {l : Launch} {e : Env} {s : State} {m : MethodId} {args : Array Value} {below : List Frame} {meth : Method} {c : Code} {D : va_G} {ca : Nat → ClassId} {ρ : Nat → Nat → Nat} {x1 : Int32} {x2 : Int32} {x3 : Int32} {Q : St → Prop} {x5 : Int32} {S : St} (C : Cx false p l s m meth c R9 b9_checkVariable 6 D ca ρ) (hr : meth.sig.returnType = none)   (hw : wp9_checkVariable_104 x1 x2 x3 Q x5 S) : wm false p l e { frames := 2, cells := 0, slots := 0, locals := 42 } s m args below meth c D ca ρ 6 0 0 (qv false below args s D ca ρ 0 0 Q) 104 [(0, .ref (ρ 9 0)), (5, .int x5)] [] S := by
  unfold wp9_checkVariable_104 at hw
  refine r_aload_n C (pc := 104) 0 rfl d9_checkVariable_104 ?_
  refine r_iload C (pc := 105) 1 rfl d9_checkVariable_105 ?_
  refine r_callVv C (pc := 107) (fun sz => ct9_put l D ca ρ sz C.2.2.2.2.2.2.1 hw) mf9_put w9_139 rfl (Nat.le_of_ble_eq_true rfl) rfl rfl rfl rfl ⟨Nat.le_of_ble_eq_true rfl, Nat.le_of_ble_eq_true rfl⟩ rfl rfl (Nat.le_of_ble_eq_true rfl) ⟨Nat.zero_le _, Nat.zero_le _⟩ d9_checkVariable_107 (fun S1 hw => ?_)
  exact r_vret C (pc := 110) hr d9_checkVariable_110 hw
set_option maxRecDepth 20000 in
theorem nd9_checkVariable_86 {p : Program} {l : Launch} {e : Env} {s : State} {m : MethodId} {args : Array Value} {below : List Frame} {meth : Method} {c : Code} {D : va_G} {ca : Nat → ClassId} {ρ : Nat → Nat → Nat} {x1 : Int32} {x2 : Int32} {x3 : Int32} {Q : St → Prop} {x5 : Int32} {S : St} (C : Cx false p l s m meth c R9 b9_checkVariable 6 D ca ρ) (hr : meth.sig.returnType = none)   (hw : wp9_checkVariable_86 x1 x2 x3 Q x5 S) : wm false p l e { frames := 2, cells := 0, slots := 0, locals := 42 } s m args below meth c D ca ρ 6 0 0 (qv false below args s D ca ρ 0 0 Q) 86 [(0, .ref (ρ 9 0)), (2, .int x2), (5, .int x5)] [] S := by
  unfold wp9_checkVariable_86 at hw
  refine r_iload_n C (pc := 86) 1 rfl d9_checkVariable_86 ?_
  refine r_bipush C (pc := 87) (v := 15) d9_checkVariable_87 (by decide) ?_
  refine r_icmp_eq C (pc := 89) (tgt := 104) d9_checkVariable_89 (by decide) (fun c1 => ?_) (fun c1 => ?_)
  · have hw := hw.1 c1
    refine r_sub (ls' := [(0, .ref (ρ 9 0)), (5, .int x5)]) [0, 2] rfl ?_
    exact nd9_checkVariable_104 C hr hw
  · have hw := hw.2 c1
    refine r_iload_n C (pc := 92) 1 rfl d9_checkVariable_92 ?_
    refine r_bipush C (pc := 93) (v := 17) d9_checkVariable_93 (by decide) ?_
    refine r_icmp_eq C (pc := 95) (tgt := 104) d9_checkVariable_95 (by decide) (fun c2 => ?_) (fun c2 => ?_)
    · have hw := hw.1 c2
      refine r_sub (ls' := [(0, .ref (ρ 9 0)), (5, .int x5)]) [0, 2] rfl ?_
      exact nd9_checkVariable_104 C hr hw
    · have hw := hw.2 c2
      refine r_iload_n C (pc := 98) 1 rfl d9_checkVariable_98 ?_
      refine r_bipush C (pc := 99) (v := 18) d9_checkVariable_99 (by decide) ?_
      refine r_icmp_ne C (pc := 101) (tgt := 110) d9_checkVariable_101 (by decide) (fun c3 => ?_) (fun c3 => ?_)
      · have hw := hw.1 c3
        exact r_vret C (pc := 110) hr d9_checkVariable_110 hw
      · have hw := hw.2 c3
        refine r_sub (ls' := [(0, .ref (ρ 9 0)), (5, .int x5)]) [0, 2] rfl ?_
        exact nd9_checkVariable_104 C hr hw
set_option maxRecDepth 20000 in
theorem nd9_checkVariable_80 {p : Program} {l : Launch} {e : Env} {s : State} {m : MethodId} {args : Array Value} {below : List Frame} {meth : Method} {c : Code} {D : va_G} {ca : Nat → ClassId} {ρ : Nat → Nat → Nat} {x1 : Int32} {x2 : Int32} {x3 : Int32} {Q : St → Prop} {x5 : Int32} {S : St} (C : Cx false p l s m meth c R9 b9_checkVariable 6 D ca ρ) (hr : meth.sig.returnType = none)   (hw : wp9_checkVariable_80 x1 x2 x3 Q x5 S) : wm false p l e { frames := 2, cells := 0, slots := 0, locals := 42 } s m args below meth c D ca ρ 6 0 0 (qv false below args s D ca ρ 0 0 Q) 80 [(0, .ref (ρ 9 0)), (2, .int x2), (5, .int x5)] [] S := by
  unfold wp9_checkVariable_80 at hw
  refine r_aload_n C (pc := 80) 0 rfl d9_checkVariable_80 ?_
  refine r_iload C (pc := 81) 2 rfl d9_checkVariable_81 ?_
  refine r_callVv C (pc := 83) (fun sz => ct9_take l D ca ρ sz C.2.2.2.2.2.2.1 hw) mf9_take w9_135 rfl (Nat.le_of_ble_eq_true rfl) rfl rfl rfl rfl ⟨Nat.le_of_ble_eq_true rfl, Nat.le_of_ble_eq_true rfl⟩ rfl rfl (Nat.le_of_ble_eq_true rfl) ⟨Nat.zero_le _, Nat.zero_le _⟩ d9_checkVariable_83 (fun S1 hw => ?_)
  refine r_sub (ls' := [(0, .ref (ρ 9 0)), (2, .int x2), (5, .int x5)]) [0, 1, 2] rfl ?_
  exact nd9_checkVariable_86 C hr hw
set_option maxRecDepth 20000 in
theorem nd9_checkVariable_60 {p : Program} {l : Launch} {e : Env} {s : State} {m : MethodId} {args : Array Value} {below : List Frame} {meth : Method} {c : Code} {D : va_G} {ca : Nat → ClassId} {ρ : Nat → Nat → Nat} {x1 : Int32} {x2 : Int32} {x3 : Int32} {Q : St → Prop} {s0 : Int32} {S : St} (C : Cx false p l s m meth c R9 b9_checkVariable 6 D ca ρ) (hr : meth.sig.returnType = none)   (hw : wp9_checkVariable_60 x1 x2 x3 Q s0 S) : wm false p l e { frames := 2, cells := 0, slots := 0, locals := 42 } s m args below meth c D ca ρ 6 0 0 (qv false below args s D ca ρ 0 0 Q) 60 [(0, .ref (ρ 9 0)), (2, .int x2)] [.int s0] S := by
  unfold wp9_checkVariable_60 at hw
  refine r_istore C (pc := 60) (ls' := [(5, .int s0), (0, .ref (ρ 9 0)), (2, .int x2)]) (Nat.le_of_ble_eq_true rfl) rfl d9_checkVariable_60 ?_
  refine r_iload_n C (pc := 62) 2 rfl d9_checkVariable_62 ?_
  refine r_bipush C (pc := 63) (v := 16) d9_checkVariable_63 (by decide) ?_
  refine r_icmp_eq C (pc := 65) (tgt := 80) d9_checkVariable_65 (by decide) (fun c1 => ?_) (fun c1 => ?_)
  · have hw := hw.1 c1
    refine r_sub (ls' := [(0, .ref (ρ 9 0)), (2, .int x2), (5, .int s0)]) [1, 2, 0] rfl ?_
    exact nd9_checkVariable_80 C hr hw
  · have hw := hw.2 c1
    refine r_iload_n C (pc := 68) 2 rfl d9_checkVariable_68 ?_
    refine r_bipush C (pc := 69) (v := 17) d9_checkVariable_69 (by decide) ?_
    refine r_icmp_eq C (pc := 71) (tgt := 80) d9_checkVariable_71 (by decide) (fun c2 => ?_) (fun c2 => ?_)
    · have hw := hw.1 c2
      refine r_sub (ls' := [(0, .ref (ρ 9 0)), (2, .int x2), (5, .int s0)]) [1, 2, 0] rfl ?_
      exact nd9_checkVariable_80 C hr hw
    · have hw := hw.2 c2
      refine r_iload_n C (pc := 74) 2 rfl d9_checkVariable_74 ?_
      refine r_bipush C (pc := 75) (v := 19) d9_checkVariable_75 (by decide) ?_
      refine r_icmp_ne C (pc := 77) (tgt := 86) d9_checkVariable_77 (by decide) (fun c3 => ?_) (fun c3 => ?_)
      · have hw := hw.1 c3
        refine r_sub (ls' := [(0, .ref (ρ 9 0)), (2, .int x2), (5, .int s0)]) [1, 2, 0] rfl ?_
        exact nd9_checkVariable_86 C hr hw
      · have hw := hw.2 c3
        refine r_sub (ls' := [(0, .ref (ρ 9 0)), (2, .int x2), (5, .int s0)]) [1, 2, 0] rfl ?_
        exact nd9_checkVariable_80 C hr hw
set_option maxRecDepth 20000 in
theorem nd9_checkVariable_29 {p : Program} {l : Launch} {e : Env} {s : State} {m : MethodId} {args : Array Value} {below : List Frame} {meth : Method} {c : Code} {D : va_G} {ca : Nat → ClassId} {ρ : Nat → Nat → Nat} {x1 : Int32} {x2 : Int32} {x3 : Int32} {Q : St → Prop} {x4 : Int32} {s0 : Int32} {s1 : Int32} {S : St} (C : Cx false p l s m meth c R9 b9_checkVariable 6 D ca ρ) (hr : meth.sig.returnType = none)   (hw : wp9_checkVariable_29 x1 x2 x3 Q x4 s0 s1 S) : wm false p l e { frames := 2, cells := 0, slots := 0, locals := 42 } s m args below meth c D ca ρ 6 0 0 (qv false below args s D ca ρ 0 0 Q) 29 [(0, .ref (ρ 9 0)), (1, .int x1), (2, .int x2), (3, .int x3), (4, .int x4)] [.int s1, .int s0] S := by
  unfold wp9_checkVariable_29 at hw
  refine r_icmp_lt C (pc := 29) (tgt := 38) d9_checkVariable_29 (by decide) (fun c1 => ?_) (fun c1 => ?_)
  · have hw := hw.1 c1
    refine r_iload C (pc := 38) 4 rfl d9_checkVariable_38 ?_
    refine r_if_eq C (pc := 40) (tgt := 49) d9_checkVariable_40 (by decide) (fun c2 => ?_) (fun c2 => ?_)
    · have hw := hw.1 c2
      refine r_aload_n C (pc := 49) 0 rfl d9_checkVariable_49 ?_
      refine g9_kinds C (pc := 50) (Nat.le_of_ble_eq_true rfl) w9_7 d9_checkVariable_50 ?_
      refine r_bipush C (pc := 53) (v := 6) d9_checkVariable_53 (by decide) ?_
      refine r_iload_n C (pc := 55) 1 rfl d9_checkVariable_55 ?_
      refine r_imul C (pc := 56) d9_checkVariable_56 ?_
      refine r_iload_n C (pc := 57) 3 rfl d9_checkVariable_57 ?_
      refine r_iadd C (pc := 58) d9_checkVariable_58 ?_
      have hi3 := hw.1
      have hw := hw.2
      refine ld1900 C (pc := 59) (Nat.le_of_ble_eq_true rfl) hi3 d9_checkVariable_59 ?_
      refine r_sub (ls' := [(0, .ref (ρ 9 0)), (2, .int x2)]) [0, 2] rfl ?_
      exact nd9_checkVariable_60 C hr hw
    · have hw := hw.2 c2
      refine r_iload_n C (pc := 43) 3 rfl d9_checkVariable_43 ?_
      refine r_iconst C (pc := 44) (v := 1) d9_checkVariable_44 (by decide) ?_
      refine r_iadd C (pc := 45) d9_checkVariable_45 ?_
      refine r_goto C (pc := 46) (tgt := 60) d9_checkVariable_46 (by decide) ?_
      refine r_sub (ls' := [(0, .ref (ρ 9 0)), (2, .int x2)]) [0, 2] rfl ?_
      exact nd9_checkVariable_60 C hr hw
  · have hw := hw.2 c1
    refine r_aload_n C (pc := 32) 0 rfl d9_checkVariable_32 ?_
    refine r_iconst C (pc := 33) (v := 1) d9_checkVariable_33 (by decide) ?_
    refine p9_bad C (pc := 34) (Nat.le_of_ble_eq_true rfl) (Or.inr rfl) w9_125 d9_checkVariable_34 ?_
    refine r_S (fun S1 eS1 => ?_)
    have hw := hw S1 eS1
    exact r_vret C (pc := 37) hr d9_checkVariable_37 hw
set_option maxRecDepth 20000 in
theorem nd9_checkVariable_11 {p : Program} {l : Launch} {e : Env} {s : State} {m : MethodId} {args : Array Value} {below : List Frame} {meth : Method} {c : Code} {D : va_G} {ca : Nat → ClassId} {ρ : Nat → Nat → Nat} {x1 : Int32} {x2 : Int32} {x3 : Int32} {Q : St → Prop} {s0 : Int32} {S : St} (C : Cx false p l s m meth c R9 b9_checkVariable 6 D ca ρ) (hr : meth.sig.returnType = none)   (hw : wp9_checkVariable_11 x1 x2 x3 Q s0 S) : wm false p l e { frames := 2, cells := 0, slots := 0, locals := 42 } s m args below meth c D ca ρ 6 0 0 (qv false below args s D ca ρ 0 0 Q) 11 [(0, .ref (ρ 9 0)), (1, .int x1), (2, .int x2), (3, .int x3)] [.int s0] S := by
  unfold wp9_checkVariable_11 at hw
  refine r_istore C (pc := 11) (ls' := [(4, .int s0), (0, .ref (ρ 9 0)), (1, .int x1), (2, .int x2), (3, .int x3)]) (Nat.le_of_ble_eq_true rfl) rfl d9_checkVariable_11 ?_
  refine r_iload_n C (pc := 13) 4 rfl d9_checkVariable_13 ?_
  refine r_iload C (pc := 14) 0 rfl d9_checkVariable_14 ?_
  refine r_if_eq C (pc := 16) (tgt := 23) d9_checkVariable_16 (by decide) (fun c1 => ?_) (fun c1 => ?_)
  · have hw := hw.1 c1
    refine r_aload_n C (pc := 23) 1 rfl d9_checkVariable_23 ?_
    refine g9_variables C (pc := 24) (Nat.le_of_ble_eq_true rfl) w9_16 d9_checkVariable_24 ?_
    refine r_iload_n C (pc := 27) 2 rfl d9_checkVariable_27 ?_
    have hi2 := hw.1
    have hw := hw.2
    refine ld1902 C (pc := 28) (Nat.le_of_ble_eq_true rfl) hi2 d9_checkVariable_28 ?_
    refine r_sub (ls' := [(0, .ref (ρ 9 0)), (1, .int x1), (2, .int x2), (3, .int x3), (4, .int s0)]) [1, 2, 3, 4, 0] rfl ?_
    exact nd9_checkVariable_29 C hr hw
  · have hw := hw.2 c1
    refine r_iconst C (pc := 19) (v := 3) d9_checkVariable_19 (by decide) ?_
    refine r_goto C (pc := 20) (tgt := 29) d9_checkVariable_20 (by decide) ?_
    refine r_sub (ls' := [(0, .ref (ρ 9 0)), (1, .int x1), (2, .int x2), (3, .int x3), (4, .int s0)]) [1, 2, 3, 4, 0] rfl ?_
    exact nd9_checkVariable_29 C hr hw
set_option maxRecDepth 20000 in
theorem ct9_checkVariable (l : Launch) (D : va_G) (ca : Nat → ClassId) (ρ : Nat → Nat → Nat) (sz : Nat) {S : St} {x1 : Int32} {x2 : Int32} {x3 : Int32} {Q : St → Prop} (hAp : Ap false ρ)  (hw : wp9_checkVariable S x1 x2 x3 Q) : Met l y9_checkVariable [Cond.code y9_checkVariable b9_checkVariable 6 none] { frames := 2, cells := 0, slots := 0, locals := 42 } (va_Pc [.ref (ρ 9 0), .int x1, .int x2, .int x3] (PreU false D ca ρ sz S)) (va_Qv Q (PostU false D ca ρ) (Ar false ρ sz)) 0 0 (Ar false ρ sz) := by
  refine met_of_wm (own := R9) (ls0 := [(0, .ref (ρ 9 0)), (1, .int x1), (2, .int x2), (3, .int x3)]) rfl rfl hAp (Nat.le_of_ble_eq_true rfl) rfl fun p e s m args below meth c C hr hz => ?_
  subst hz
  unfold wp9_checkVariable at hw
  refine r_iload_n C (pc := 0) 2 rfl d9_checkVariable_0 ?_
  refine r_bipush C (pc := 1) (v := 18) d9_checkVariable_1 (by decide) ?_
  refine r_icmp_lt C (pc := 3) (tgt := 10) d9_checkVariable_3 (by decide) (fun c1 => ?_) (fun c1 => ?_)
  · have hw := hw.1 c1
    refine r_iconst C (pc := 10) (v := 0) d9_checkVariable_10 (by decide) ?_
    refine r_sub (ls' := [(0, .ref (ρ 9 0)), (1, .int x1), (2, .int x2), (3, .int x3)]) [0, 1, 2, 3] rfl ?_
    exact nd9_checkVariable_11 C hr hw
  · have hw := hw.2 c1
    refine r_iconst C (pc := 6) (v := 1) d9_checkVariable_6 (by decide) ?_
    refine r_goto C (pc := 7) (tgt := 11) d9_checkVariable_7 (by decide) ?_
    refine r_sub (ls' := [(0, .ref (ρ 9 0)), (1, .int x1), (2, .int x2), (3, .int x3)]) [0, 1, 2, 3] rfl ?_
    exact nd9_checkVariable_11 C hr hw
set_option maxRecDepth 20000 in
theorem nd9_checkPlain_268 {p : Program} {l : Launch} {e : Env} {s : State} {m : MethodId} {args : Array Value} {below : List Frame} {meth : Method} {c : Code} {D : va_G} {ca : Nat → ClassId} {ρ : Nat → Nat → Nat} {x1 : Int32} {Q : St → Prop} {s0 : Int32} {S : St} (C : Cx false p l s m meth c R9 b9_checkPlain 5 D ca ρ) (hr : meth.sig.returnType = none)   (hw : wp9_checkPlain_268 x1 Q s0 S) : wm false p l e { frames := 2, cells := 0, slots := 0, locals := 42 } s m args below meth c D ca ρ 5 0 0 (qv false below args s D ca ρ 0 0 Q) 268 [(0, .ref (ρ 9 0))] [.int s0] S := by
  unfold wp9_checkPlain_268 at hw
  refine r_istore C (pc := 268) (ls' := [(4, .int s0), (0, .ref (ρ 9 0))]) (Nat.le_of_ble_eq_true rfl) rfl d9_checkPlain_268 ?_
  refine r_aload_n C (pc := 270) 1 rfl d9_checkPlain_270 ?_
  refine r_iload C (pc := 271) 0 rfl d9_checkPlain_271 ?_
  refine r_callVv C (pc := 273) (fun sz => ct9_put l D ca ρ sz C.2.2.2.2.2.2.1 hw) mf9_put w9_139 rfl (Nat.le_of_ble_eq_true rfl) rfl rfl rfl rfl ⟨Nat.le_of_ble_eq_true rfl, Nat.le_of_ble_eq_true rfl⟩ rfl rfl (Nat.le_of_ble_eq_true rfl) ⟨Nat.zero_le _, Nat.zero_le _⟩ d9_checkPlain_273 (fun S1 hw => ?_)
  exact r_vret C (pc := 276) hr d9_checkPlain_276 hw
set_option maxRecDepth 20000 in
theorem nd9_checkPlain_263 {p : Program} {l : Launch} {e : Env} {s : State} {m : MethodId} {args : Array Value} {below : List Frame} {meth : Method} {c : Code} {D : va_G} {ca : Nat → ClassId} {ρ : Nat → Nat → Nat} {x1 : Int32} {Q : St → Prop}  {S : St} (C : Cx false p l s m meth c R9 b9_checkPlain 5 D ca ρ) (hr : meth.sig.returnType = none)   (hw : wp9_checkPlain_263 x1 Q  S) : wm false p l e { frames := 2, cells := 0, slots := 0, locals := 42 } s m args below meth c D ca ρ 5 0 0 (qv false below args s D ca ρ 0 0 Q) 263 [(0, .ref (ρ 9 0))] [] S := by
  unfold wp9_checkPlain_263 at hw
  refine r_iconst C (pc := 263) (v := 3) d9_checkPlain_263 (by decide) ?_
  refine r_goto C (pc := 264) (tgt := 268) d9_checkPlain_264 (by decide) ?_
  refine r_sub (ls' := [(0, .ref (ρ 9 0))]) [0] rfl ?_
  exact nd9_checkPlain_268 C hr hw
set_option maxRecDepth 20000 in
theorem nd9_checkPlain_247 {p : Program} {l : Launch} {e : Env} {s : State} {m : MethodId} {args : Array Value} {below : List Frame} {meth : Method} {c : Code} {D : va_G} {ca : Nat → ClassId} {ρ : Nat → Nat → Nat} {x1 : Int32} {Q : St → Prop}  {S : St} (C : Cx false p l s m meth c R9 b9_checkPlain 5 D ca ρ) (hr : meth.sig.returnType = none)   (hw : wp9_checkPlain_247 x1 Q  S) : wm false p l e { frames := 2, cells := 0, slots := 0, locals := 42 } s m args below meth c D ca ρ 5 0 0 (qv false below args s D ca ρ 0 0 Q) 247 [(0, .ref (ρ 9 0))] [] S := by
  unfold wp9_checkPlain_247 at hw
  refine r_iconst C (pc := 247) (v := 1) d9_checkPlain_247 (by decide) ?_
  refine r_goto C (pc := 248) (tgt := 268) d9_checkPlain_248 (by decide) ?_
  refine r_sub (ls' := [(0, .ref (ρ 9 0))]) [0] rfl ?_
  exact nd9_checkPlain_268 C hr hw
set_option maxRecDepth 20000 in
theorem nd9_checkPlain_221 {p : Program} {l : Launch} {e : Env} {s : State} {m : MethodId} {args : Array Value} {below : List Frame} {meth : Method} {c : Code} {D : va_G} {ca : Nat → ClassId} {ρ : Nat → Nat → Nat} {x1 : Int32} {Q : St → Prop}  {S : St} (C : Cx false p l s m meth c R9 b9_checkPlain 5 D ca ρ) (hr : meth.sig.returnType = none)   (hw : wp9_checkPlain_221 x1 Q  S) : wm false p l e { frames := 2, cells := 0, slots := 0, locals := 42 } s m args below meth c D ca ρ 5 0 0 (qv false below args s D ca ρ 0 0 Q) 221 [(0, .ref (ρ 9 0))] [] S := by
  unfold wp9_checkPlain_221 at hw
  refine r_iconst C (pc := 221) (v := 3) d9_checkPlain_221 (by decide) ?_
  refine r_goto C (pc := 222) (tgt := 268) d9_checkPlain_222 (by decide) ?_
  refine r_sub (ls' := [(0, .ref (ρ 9 0))]) [0] rfl ?_
  exact nd9_checkPlain_268 C hr hw
set_option maxRecDepth 20000 in
theorem nd9_checkPlain_179 {p : Program} {l : Launch} {e : Env} {s : State} {m : MethodId} {args : Array Value} {below : List Frame} {meth : Method} {c : Code} {D : va_G} {ca : Nat → ClassId} {ρ : Nat → Nat → Nat} {x1 : Int32} {Q : St → Prop}  {S : St} (C : Cx false p l s m meth c R9 b9_checkPlain 5 D ca ρ) (hr : meth.sig.returnType = none)   (hw : wp9_checkPlain_179 x1 Q  S) : wm false p l e { frames := 2, cells := 0, slots := 0, locals := 42 } s m args below meth c D ca ρ 5 0 0 (qv false below args s D ca ρ 0 0 Q) 179 [(0, .ref (ρ 9 0)), (1, .int x1)] [] S := by
  unfold wp9_checkPlain_179 at hw
  refine r_iload_n C (pc := 179) 1 rfl d9_checkPlain_179 ?_
  refine r_bipush C (pc := 180) (v := 50) d9_checkPlain_180 (by decide) ?_
  refine r_icmp_ge C (pc := 182) (tgt := 189) d9_checkPlain_182 (by decide) (fun c1 => ?_) (fun c1 => ?_)
  · have hw := hw.1 c1
    refine r_iload_n C (pc := 189) 1 rfl d9_checkPlain_189 ?_
    refine r_bipush C (pc := 190) (v := 61) d9_checkPlain_190 (by decide) ?_
    refine r_icmp_ge C (pc := 192) (tgt := 199) d9_checkPlain_192 (by decide) (fun c2 => ?_) (fun c2 => ?_)
    · have hw := hw.1 c2
      refine r_iload_n C (pc := 199) 1 rfl d9_checkPlain_199 ?_
      refine r_bipush C (pc := 200) (v := 65) d9_checkPlain_200 (by decide) ?_
      refine r_icmp_ge C (pc := 202) (tgt := 209) d9_checkPlain_202 (by decide) (fun c3 => ?_) (fun c3 => ?_)
      · have hw := hw.1 c3
        refine r_iload_n C (pc := 209) 1 rfl d9_checkPlain_209 ?_
        refine r_bipush C (pc := 210) (v := 74) d9_checkPlain_210 (by decide) ?_
        refine r_icmp_lt C (pc := 212) (tgt := 221) d9_checkPlain_212 (by decide) (fun c4 => ?_) (fun c4 => ?_)
        · have hw := hw.1 c4
          refine r_sub (ls' := [(0, .ref (ρ 9 0))]) [0] rfl ?_
          exact nd9_checkPlain_221 C hr hw
        · have hw := hw.2 c4
          refine r_iload_n C (pc := 215) 1 rfl d9_checkPlain_215 ?_
          refine r_bipush C (pc := 216) (v := 76) d9_checkPlain_216 (by decide) ?_
          refine r_icmp_ne C (pc := 218) (tgt := 225) d9_checkPlain_218 (by decide) (fun c5 => ?_) (fun c5 => ?_)
          · have hw := hw.1 c5
            refine r_iload_n C (pc := 225) 1 rfl d9_checkPlain_225 ?_
            refine r_bipush C (pc := 226) (v := 76) d9_checkPlain_226 (by decide) ?_
            refine r_icmp_ge C (pc := 228) (tgt := 235) d9_checkPlain_228 (by decide) (fun c6 => ?_) (fun c6 => ?_)
            · have hw := hw.1 c6
              refine r_iload_n C (pc := 235) 1 rfl d9_checkPlain_235 ?_
              refine r_bipush C (pc := 236) (v := 80) d9_checkPlain_236 (by decide) ?_
              refine r_icmp_eq C (pc := 238) (tgt := 247) d9_checkPlain_238 (by decide) (fun c7 => ?_) (fun c7 => ?_)
              · have hw := hw.1 c7
                refine r_sub (ls' := [(0, .ref (ρ 9 0))]) [0] rfl ?_
                exact nd9_checkPlain_247 C hr hw
              · have hw := hw.2 c7
                refine r_iload_n C (pc := 241) 1 rfl d9_checkPlain_241 ?_
                refine r_bipush C (pc := 242) (v := 83) d9_checkPlain_242 (by decide) ?_
                refine r_icmp_ne C (pc := 244) (tgt := 251) d9_checkPlain_244 (by decide) (fun c8 => ?_) (fun c8 => ?_)
                · have hw := hw.1 c8
                  refine r_iload_n C (pc := 251) 1 rfl d9_checkPlain_251 ?_
                  refine r_bipush C (pc := 252) (v := 82) d9_checkPlain_252 (by decide) ?_
                  refine r_icmp_eq C (pc := 254) (tgt := 263) d9_checkPlain_254 (by decide) (fun c9 => ?_) (fun c9 => ?_)
                  · have hw := hw.1 c9
                    refine r_sub (ls' := [(0, .ref (ρ 9 0))]) [0] rfl ?_
                    exact nd9_checkPlain_263 C hr hw
                  · have hw := hw.2 c9
                    refine r_iload_n C (pc := 257) 1 rfl d9_checkPlain_257 ?_
                    refine r_bipush C (pc := 258) (v := 84) d9_checkPlain_258 (by decide) ?_
                    refine r_icmp_ne C (pc := 260) (tgt := 267) d9_checkPlain_260 (by decide) (fun c10 => ?_) (fun c10 => ?_)
                    · have hw := hw.1 c10
                      refine r_iconst C (pc := 267) (v := 2) d9_checkPlain_267 (by decide) ?_
                      refine r_sub (ls' := [(0, .ref (ρ 9 0))]) [0] rfl ?_
                      exact nd9_checkPlain_268 C hr hw
                    · have hw := hw.2 c10
                      refine r_sub (ls' := [(0, .ref (ρ 9 0))]) [0] rfl ?_
                      exact nd9_checkPlain_263 C hr hw
                · have hw := hw.2 c8
                  refine r_sub (ls' := [(0, .ref (ρ 9 0))]) [0] rfl ?_
                  exact nd9_checkPlain_247 C hr hw
            · have hw := hw.2 c6
              refine r_iconst C (pc := 231) (v := 1) d9_checkPlain_231 (by decide) ?_
              refine r_goto C (pc := 232) (tgt := 268) d9_checkPlain_232 (by decide) ?_
              refine r_sub (ls' := [(0, .ref (ρ 9 0))]) [0] rfl ?_
              exact nd9_checkPlain_268 C hr hw
          · have hw := hw.2 c5
            refine r_sub (ls' := [(0, .ref (ρ 9 0))]) [0] rfl ?_
            exact nd9_checkPlain_221 C hr hw
      · have hw := hw.2 c3
        refine r_iconst C (pc := 205) (v := 1) d9_checkPlain_205 (by decide) ?_
        refine r_goto C (pc := 206) (tgt := 268) d9_checkPlain_206 (by decide) ?_
        refine r_sub (ls' := [(0, .ref (ρ 9 0))]) [0] rfl ?_
        exact nd9_checkPlain_268 C hr hw
    · have hw := hw.2 c2
      refine r_iconst C (pc := 195) (v := 2) d9_checkPlain_195 (by decide) ?_
      refine r_goto C (pc := 196) (tgt := 268) d9_checkPlain_196 (by decide) ?_
      refine r_sub (ls' := [(0, .ref (ρ 9 0))]) [0] rfl ?_
      exact nd9_checkPlain_268 C hr hw
  · have hw := hw.2 c1
    refine r_iconst C (pc := 185) (v := 1) d9_checkPlain_185 (by decide) ?_
    refine r_goto C (pc := 186) (tgt := 268) d9_checkPlain_186 (by decide) ?_
    refine r_sub (ls' := [(0, .ref (ρ 9 0))]) [0] rfl ?_
    exact nd9_checkPlain_268 C hr hw
set_option maxRecDepth 20000 in
theorem nd9_checkPlain_164 {p : Program} {l : Launch} {e : Env} {s : State} {m : MethodId} {args : Array Value} {below : List Frame} {meth : Method} {c : Code} {D : va_G} {ca : Nat → ClassId} {ρ : Nat → Nat → Nat} {x1 : Int32} {Q : St → Prop} {x2 : Int32} {s0 : Int32} {S : St} (C : Cx false p l s m meth c R9 b9_checkPlain 5 D ca ρ) (hr : meth.sig.returnType = none)   (hw : wp9_checkPlain_164 x1 Q x2 s0 S) : wm false p l e { frames := 2, cells := 0, slots := 0, locals := 42 } s m args below meth c D ca ρ 5 0 0 (qv false below args s D ca ρ 0 0 Q) 164 [(0, .ref (ρ 9 0)), (1, .int x1), (2, .int x2)] [.int s0] S := by
  unfold wp9_checkPlain_164 at hw
  refine r_istore_n C (pc := 164) (ls' := [(3, .int s0), (0, .ref (ρ 9 0)), (1, .int x1), (2, .int x2)]) (Nat.le_of_ble_eq_true rfl) rfl d9_checkPlain_164 ?_
  refine r_aload_n C (pc := 165) 1 rfl d9_checkPlain_165 ?_
  refine r_iload_n C (pc := 166) 3 rfl d9_checkPlain_166 ?_
  refine r_callVv C (pc := 167) (fun sz => ct9_take l D ca ρ sz C.2.2.2.2.2.2.1 hw) mf9_take w9_135 rfl (Nat.le_of_ble_eq_true rfl) rfl rfl rfl rfl ⟨Nat.le_of_ble_eq_true rfl, Nat.le_of_ble_eq_true rfl⟩ rfl rfl (Nat.le_of_ble_eq_true rfl) ⟨Nat.zero_le _, Nat.zero_le _⟩ d9_checkPlain_167 (fun S1 hw => ?_)
  refine r_iload_n C (pc := 170) 0 rfl d9_checkPlain_170 ?_
  refine r_if_ne C (pc := 171) (tgt := 179) d9_checkPlain_171 (by decide) (fun c1 => ?_) (fun c1 => ?_)
  · have hw := hw.1 c1
    refine r_sub (ls' := [(0, .ref (ρ 9 0)), (1, .int x1)]) [1, 2] rfl ?_
    exact nd9_checkPlain_179 C hr hw
  · have hw := hw.2 c1
    refine r_aload_n C (pc := 174) 1 rfl d9_checkPlain_174 ?_
    refine r_iload_n C (pc := 175) 3 rfl d9_checkPlain_175 ?_
    refine r_callVv C (pc := 176) (fun sz => ct9_take l D ca ρ sz C.2.2.2.2.2.2.1 hw) mf9_take w9_135 rfl (Nat.le_of_ble_eq_true rfl) rfl rfl rfl rfl ⟨Nat.le_of_ble_eq_true rfl, Nat.le_of_ble_eq_true rfl⟩ rfl rfl (Nat.le_of_ble_eq_true rfl) ⟨Nat.zero_le _, Nat.zero_le _⟩ d9_checkPlain_176 (fun S2 hw => ?_)
    refine r_sub (ls' := [(0, .ref (ρ 9 0)), (1, .int x1)]) [1, 2] rfl ?_
    exact nd9_checkPlain_179 C hr hw
set_option maxRecDepth 20000 in
theorem nd9_checkPlain_159 {p : Program} {l : Launch} {e : Env} {s : State} {m : MethodId} {args : Array Value} {below : List Frame} {meth : Method} {c : Code} {D : va_G} {ca : Nat → ClassId} {ρ : Nat → Nat → Nat} {x1 : Int32} {Q : St → Prop} {x2 : Int32} {S : St} (C : Cx false p l s m meth c R9 b9_checkPlain 5 D ca ρ) (hr : meth.sig.returnType = none)   (hw : wp9_checkPlain_159 x1 Q x2 S) : wm false p l e { frames := 2, cells := 0, slots := 0, locals := 42 } s m args below meth c D ca ρ 5 0 0 (qv false below args s D ca ρ 0 0 Q) 159 [(0, .ref (ρ 9 0)), (1, .int x1), (2, .int x2)] [] S := by
  unfold wp9_checkPlain_159 at hw
  refine r_iconst C (pc := 159) (v := 1) d9_checkPlain_159 (by decide) ?_
  refine r_goto C (pc := 160) (tgt := 164) d9_checkPlain_160 (by decide) ?_
  refine r_sub (ls' := [(0, .ref (ρ 9 0)), (1, .int x1), (2, .int x2)]) [0, 1, 2] rfl ?_
  exact nd9_checkPlain_164 C hr hw
set_option maxRecDepth 20000 in
theorem nd9_checkPlain_140 {p : Program} {l : Launch} {e : Env} {s : State} {m : MethodId} {args : Array Value} {below : List Frame} {meth : Method} {c : Code} {D : va_G} {ca : Nat → ClassId} {ρ : Nat → Nat → Nat} {x1 : Int32} {Q : St → Prop} {s0 : Int32} {S : St} (C : Cx false p l s m meth c R9 b9_checkPlain 5 D ca ρ) (hr : meth.sig.returnType = none)   (hw : wp9_checkPlain_140 x1 Q s0 S) : wm false p l e { frames := 2, cells := 0, slots := 0, locals := 42 } s m args below meth c D ca ρ 5 0 0 (qv false below args s D ca ρ 0 0 Q) 140 [(0, .ref (ρ 9 0)), (1, .int x1)] [.int s0] S := by
  unfold wp9_checkPlain_140 at hw
  refine r_istore_n C (pc := 140) (ls' := [(2, .int s0), (0, .ref (ρ 9 0)), (1, .int x1)]) (Nat.le_of_ble_eq_true rfl) rfl d9_checkPlain_140 ?_
  refine r_iload_n C (pc := 141) 2 rfl d9_checkPlain_141 ?_
  refine r_bipush C (pc := 142) (v := 45) d9_checkPlain_142 (by decide) ?_
  refine r_icmp_eq C (pc := 144) (tgt := 159) d9_checkPlain_144 (by decide) (fun c1 => ?_) (fun c1 => ?_)
  · have hw := hw.1 c1
    refine r_sub (ls' := [(0, .ref (ρ 9 0)), (1, .int x1), (2, .int s0)]) [1, 2, 0] rfl ?_
    exact nd9_checkPlain_159 C hr hw
  · have hw := hw.2 c1
    refine r_iload_n C (pc := 147) 2 rfl d9_checkPlain_147 ?_
    refine r_bipush C (pc := 148) (v := 64) d9_checkPlain_148 (by decide) ?_
    refine r_icmp_eq C (pc := 150) (tgt := 159) d9_checkPlain_150 (by decide) (fun c2 => ?_) (fun c2 => ?_)
    · have hw := hw.1 c2
      refine r_sub (ls' := [(0, .ref (ρ 9 0)), (1, .int x1), (2, .int s0)]) [1, 2, 0] rfl ?_
      exact nd9_checkPlain_159 C hr hw
    · have hw := hw.2 c2
      refine r_iload_n C (pc := 153) 2 rfl d9_checkPlain_153 ?_
      refine r_bipush C (pc := 154) (v := 76) d9_checkPlain_154 (by decide) ?_
      refine r_icmp_lt C (pc := 156) (tgt := 163) d9_checkPlain_156 (by decide) (fun c3 => ?_) (fun c3 => ?_)
      · have hw := hw.1 c3
        refine r_iconst C (pc := 163) (v := 0) d9_checkPlain_163 (by decide) ?_
        refine r_sub (ls' := [(0, .ref (ρ 9 0)), (1, .int x1), (2, .int s0)]) [1, 2, 0] rfl ?_
        exact nd9_checkPlain_164 C hr hw
      · have hw := hw.2 c3
        refine r_sub (ls' := [(0, .ref (ρ 9 0)), (1, .int x1), (2, .int s0)]) [1, 2, 0] rfl ?_
        exact nd9_checkPlain_159 C hr hw
set_option maxRecDepth 20000 in
theorem nd9_checkPlain_125 {p : Program} {l : Launch} {e : Env} {s : State} {m : MethodId} {args : Array Value} {below : List Frame} {meth : Method} {c : Code} {D : va_G} {ca : Nat → ClassId} {ρ : Nat → Nat → Nat} {x1 : Int32} {Q : St → Prop}  {S : St} (C : Cx false p l s m meth c R9 b9_checkPlain 5 D ca ρ) (hr : meth.sig.returnType = none)   (hw : wp9_checkPlain_125 x1 Q  S) : wm false p l e { frames := 2, cells := 0, slots := 0, locals := 42 } s m args below meth c D ca ρ 5 0 0 (qv false below args s D ca ρ 0 0 Q) 125 [(0, .ref (ρ 9 0)), (1, .int x1)] [] S := by
  unfold wp9_checkPlain_125 at hw
  refine r_iconst C (pc := 125) (v := 2) d9_checkPlain_125 (by decide) ?_
  refine r_goto C (pc := 126) (tgt := 140) d9_checkPlain_126 (by decide) ?_
  refine r_sub (ls' := [(0, .ref (ρ 9 0)), (1, .int x1)]) [0, 1] rfl ?_
  exact nd9_checkPlain_140 C hr hw
set_option maxRecDepth 20000 in
theorem nd9_checkPlain_77 {p : Program} {l : Launch} {e : Env} {s : State} {m : MethodId} {args : Array Value} {below : List Frame} {meth : Method} {c : Code} {D : va_G} {ca : Nat → ClassId} {ρ : Nat → Nat → Nat} {x1 : Int32} {Q : St → Prop} {s1 : Int32} {S : St} (C : Cx false p l s m meth c R9 b9_checkPlain 5 D ca ρ) (hr : meth.sig.returnType = none)   (hw : wp9_checkPlain_77 x1 Q s1 S) : wm false p l e { frames := 2, cells := 0, slots := 0, locals := 42 } s m args below meth c D ca ρ 5 0 0 (qv false below args s D ca ρ 0 0 Q) 77 [] [.int s1, .ref (ρ 9 0)] S := by
  unfold wp9_checkPlain_77 at hw
  refine r_callVv C (pc := 77) (fun sz => ct9_put l D ca ρ sz C.2.2.2.2.2.2.1 hw) mf9_put w9_139 rfl (Nat.le_of_ble_eq_true rfl) rfl rfl rfl rfl ⟨Nat.le_of_ble_eq_true rfl, Nat.le_of_ble_eq_true rfl⟩ rfl rfl (Nat.le_of_ble_eq_true rfl) ⟨Nat.zero_le _, Nat.zero_le _⟩ d9_checkPlain_77 (fun S1 hw => ?_)
  refine r_goto C (pc := 80) (tgt := 276) d9_checkPlain_80 (by decide) ?_
  exact r_vret C (pc := 276) hr d9_checkPlain_276 hw
set_option maxRecDepth 20000 in
theorem nd9_checkPlain_54 {p : Program} {l : Launch} {e : Env} {s : State} {m : MethodId} {args : Array Value} {below : List Frame} {meth : Method} {c : Code} {D : va_G} {ca : Nat → ClassId} {ρ : Nat → Nat → Nat} {x1 : Int32} {Q : St → Prop}  {S : St} (C : Cx false p l s m meth c R9 b9_checkPlain 5 D ca ρ) (hr : meth.sig.returnType = none)   (hw : wp9_checkPlain_54 x1 Q  S) : wm false p l e { frames := 2, cells := 0, slots := 0, locals := 42 } s m args below meth c D ca ρ 5 0 0 (qv false below args s D ca ρ 0 0 Q) 54 [(0, .ref (ρ 9 0)), (1, .int x1)] [] S := by
  unfold wp9_checkPlain_54 at hw
  refine r_aload_n C (pc := 54) 0 rfl d9_checkPlain_54 ?_
  refine r_iconst C (pc := 55) (v := 1) d9_checkPlain_55 (by decide) ?_
  refine r_callVv C (pc := 56) (fun sz => ct9_take l D ca ρ sz C.2.2.2.2.2.2.1 hw) mf9_take w9_135 rfl (Nat.le_of_ble_eq_true rfl) rfl rfl rfl rfl ⟨Nat.le_of_ble_eq_true rfl, Nat.le_of_ble_eq_true rfl⟩ rfl rfl (Nat.le_of_ble_eq_true rfl) ⟨Nat.zero_le _, Nat.zero_le _⟩ d9_checkPlain_56 (fun S1 hw => ?_)
  refine r_iload_n C (pc := 59) 1 rfl d9_checkPlain_59 ?_
  refine r_bipush C (pc := 60) (v := 25) d9_checkPlain_60 (by decide) ?_
  refine r_icmp_gt C (pc := 62) (tgt := 276) d9_checkPlain_62 (by decide) (fun c1 => ?_) (fun c1 => ?_)
  · have hw := hw.1 c1
    exact r_vret C (pc := 276) hr d9_checkPlain_276 hw
  · have hw := hw.2 c1
    refine r_aload_n C (pc := 65) 0 rfl d9_checkPlain_65 ?_
    refine r_iload_n C (pc := 66) 1 rfl d9_checkPlain_66 ?_
    refine r_bipush C (pc := 67) (v := 25) d9_checkPlain_67 (by decide) ?_
    refine r_icmp_ne C (pc := 69) (tgt := 76) d9_checkPlain_69 (by decide) (fun c2 => ?_) (fun c2 => ?_)
    · have hw := hw.1 c2
      refine r_iconst C (pc := 76) (v := 1) d9_checkPlain_76 (by decide) ?_
      refine r_sub (ls' := []) [] rfl ?_
      exact nd9_checkPlain_77 C hr hw
    · have hw := hw.2 c2
      refine r_iconst C (pc := 72) (v := 2) d9_checkPlain_72 (by decide) ?_
      refine r_goto C (pc := 73) (tgt := 77) d9_checkPlain_73 (by decide) ?_
      refine r_sub (ls' := []) [] rfl ?_
      exact nd9_checkPlain_77 C hr hw
set_option maxRecDepth 20000 in
theorem nd9_checkPlain_23 {p : Program} {l : Launch} {e : Env} {s : State} {m : MethodId} {args : Array Value} {below : List Frame} {meth : Method} {c : Code} {D : va_G} {ca : Nat → ClassId} {ρ : Nat → Nat → Nat} {x1 : Int32} {Q : St → Prop}  {S : St} (C : Cx false p l s m meth c R9 b9_checkPlain 5 D ca ρ) (hr : meth.sig.returnType = none)   (hw : wp9_checkPlain_23 x1 Q  S) : wm false p l e { frames := 2, cells := 0, slots := 0, locals := 42 } s m args below meth c D ca ρ 5 0 0 (qv false below args s D ca ρ 0 0 Q) 23 [(0, .ref (ρ 9 0)), (1, .int x1)] [] S := by
  unfold wp9_checkPlain_23 at hw
  refine r_iload_n C (pc := 23) 1 rfl d9_checkPlain_23 ?_
  refine r_bipush C (pc := 24) (v := 28) d9_checkPlain_24 (by decide) ?_
  refine r_icmp_gt C (pc := 26) (tgt := 83) d9_checkPlain_26 (by decide) (fun c1 => ?_) (fun c1 => ?_)
  · have hw := hw.1 c1
    refine r_iload_n C (pc := 83) 1 rfl d9_checkPlain_83 ?_
    refine r_bipush C (pc := 84) (v := 50) d9_checkPlain_84 (by decide) ?_
    refine r_icmp_ge C (pc := 86) (tgt := 93) d9_checkPlain_86 (by decide) (fun c2 => ?_) (fun c2 => ?_)
    · have hw := hw.1 c2
      refine r_iload_n C (pc := 93) 1 rfl d9_checkPlain_93 ?_
      refine r_bipush C (pc := 94) (v := 65) d9_checkPlain_94 (by decide) ?_
      refine r_icmp_ge C (pc := 96) (tgt := 103) d9_checkPlain_96 (by decide) (fun c3 => ?_) (fun c3 => ?_)
      · have hw := hw.1 c3
        refine r_iload_n C (pc := 103) 1 rfl d9_checkPlain_103 ?_
        refine r_bipush C (pc := 104) (v := 77) d9_checkPlain_104 (by decide) ?_
        refine r_icmp_ge C (pc := 106) (tgt := 113) d9_checkPlain_106 (by decide) (fun c4 => ?_) (fun c4 => ?_)
        · have hw := hw.1 c4
          refine r_iload_n C (pc := 113) 1 rfl d9_checkPlain_113 ?_
          refine r_bipush C (pc := 114) (v := 80) d9_checkPlain_114 (by decide) ?_
          refine r_icmp_eq C (pc := 116) (tgt := 125) d9_checkPlain_116 (by decide) (fun c5 => ?_) (fun c5 => ?_)
          · have hw := hw.1 c5
            refine r_sub (ls' := [(0, .ref (ρ 9 0)), (1, .int x1)]) [0, 1] rfl ?_
            exact nd9_checkPlain_125 C hr hw
          · have hw := hw.2 c5
            refine r_iload_n C (pc := 119) 1 rfl d9_checkPlain_119 ?_
            refine r_bipush C (pc := 120) (v := 84) d9_checkPlain_120 (by decide) ?_
            refine r_icmp_ne C (pc := 122) (tgt := 129) d9_checkPlain_122 (by decide) (fun c6 => ?_) (fun c6 => ?_)
            · have hw := hw.1 c6
              refine r_iload_n C (pc := 129) 1 rfl d9_checkPlain_129 ?_
              refine r_bipush C (pc := 130) (v := 83) d9_checkPlain_130 (by decide) ?_
              refine r_icmp_ne C (pc := 132) (tgt := 139) d9_checkPlain_132 (by decide) (fun c7 => ?_) (fun c7 => ?_)
              · have hw := hw.1 c7
                refine r_iconst C (pc := 139) (v := 1) d9_checkPlain_139 (by decide) ?_
                refine r_sub (ls' := [(0, .ref (ρ 9 0)), (1, .int x1)]) [0, 1] rfl ?_
                exact nd9_checkPlain_140 C hr hw
              · have hw := hw.2 c7
                refine r_iconst C (pc := 135) (v := 3) d9_checkPlain_135 (by decide) ?_
                refine r_goto C (pc := 136) (tgt := 140) d9_checkPlain_136 (by decide) ?_
                refine r_sub (ls' := [(0, .ref (ρ 9 0)), (1, .int x1)]) [0, 1] rfl ?_
                exact nd9_checkPlain_140 C hr hw
            · have hw := hw.2 c6
              refine r_sub (ls' := [(0, .ref (ρ 9 0)), (1, .int x1)]) [0, 1] rfl ?_
              exact nd9_checkPlain_125 C hr hw
        · have hw := hw.2 c4
          refine r_iconst C (pc := 109) (v := 3) d9_checkPlain_109 (by decide) ?_
          refine r_goto C (pc := 110) (tgt := 140) d9_checkPlain_110 (by decide) ?_
          refine r_sub (ls' := [(0, .ref (ρ 9 0)), (1, .int x1)]) [0, 1] rfl ?_
          exact nd9_checkPlain_140 C hr hw
      · have hw := hw.2 c3
        refine r_iconst C (pc := 99) (v := 2) d9_checkPlain_99 (by decide) ?_
        refine r_goto C (pc := 100) (tgt := 140) d9_checkPlain_100 (by decide) ?_
        refine r_sub (ls' := [(0, .ref (ρ 9 0)), (1, .int x1)]) [0, 1] rfl ?_
        exact nd9_checkPlain_140 C hr hw
    · have hw := hw.2 c2
      refine r_iconst C (pc := 89) (v := 1) d9_checkPlain_89 (by decide) ?_
      refine r_goto C (pc := 90) (tgt := 140) d9_checkPlain_90 (by decide) ?_
      refine r_sub (ls' := [(0, .ref (ρ 9 0)), (1, .int x1)]) [0, 1] rfl ?_
      exact nd9_checkPlain_140 C hr hw
  · have hw := hw.2 c1
    refine r_iload_n C (pc := 29) 1 rfl d9_checkPlain_29 ?_
    refine r_bipush C (pc := 30) (v := 28) d9_checkPlain_30 (by decide) ?_
    refine r_icmp_ne C (pc := 32) (tgt := 43) d9_checkPlain_32 (by decide) (fun c8 => ?_) (fun c8 => ?_)
    · have hw := hw.1 c8
      refine r_iload_n C (pc := 43) 1 rfl d9_checkPlain_43 ?_
      refine r_bipush C (pc := 44) (v := 26) d9_checkPlain_44 (by decide) ?_
      refine r_icmp_lt C (pc := 46) (tgt := 54) d9_checkPlain_46 (by decide) (fun c9 => ?_) (fun c9 => ?_)
      · have hw := hw.1 c9
        refine r_sub (ls' := [(0, .ref (ρ 9 0)), (1, .int x1)]) [0, 1] rfl ?_
        exact nd9_checkPlain_54 C hr hw
      · have hw := hw.2 c9
        refine r_aload_n C (pc := 49) 0 rfl d9_checkPlain_49 ?_
        refine r_iconst C (pc := 50) (v := 1) d9_checkPlain_50 (by decide) ?_
        refine r_callVv C (pc := 51) (fun sz => ct9_take l D ca ρ sz C.2.2.2.2.2.2.1 hw) mf9_take w9_135 rfl (Nat.le_of_ble_eq_true rfl) rfl rfl rfl rfl ⟨Nat.le_of_ble_eq_true rfl, Nat.le_of_ble_eq_true rfl⟩ rfl rfl (Nat.le_of_ble_eq_true rfl) ⟨Nat.zero_le _, Nat.zero_le _⟩ d9_checkPlain_51 (fun S1 hw => ?_)
        refine r_sub (ls' := [(0, .ref (ρ 9 0)), (1, .int x1)]) [0, 1] rfl ?_
        exact nd9_checkPlain_54 C hr hw
    · have hw := hw.2 c8
      refine r_aload_n C (pc := 35) 0 rfl d9_checkPlain_35 ?_
      refine r_iconst C (pc := 36) (v := 2) d9_checkPlain_36 (by decide) ?_
      refine r_callVv C (pc := 37) (fun sz => ct9_take l D ca ρ sz C.2.2.2.2.2.2.1 hw) mf9_take w9_135 rfl (Nat.le_of_ble_eq_true rfl) rfl rfl rfl rfl ⟨Nat.le_of_ble_eq_true rfl, Nat.le_of_ble_eq_true rfl⟩ rfl rfl (Nat.le_of_ble_eq_true rfl) ⟨Nat.zero_le _, Nat.zero_le _⟩ d9_checkPlain_37 (fun S2 hw => ?_)
      refine r_goto C (pc := 40) (tgt := 54) d9_checkPlain_40 (by decide) ?_
      refine r_sub (ls' := [(0, .ref (ρ 9 0)), (1, .int x1)]) [0, 1] rfl ?_
      exact nd9_checkPlain_54 C hr hw
set_option maxRecDepth 20000 in
theorem ct9_checkPlain (l : Launch) (D : va_G) (ca : Nat → ClassId) (ρ : Nat → Nat → Nat) (sz : Nat) {S : St} {x1 : Int32} {Q : St → Prop} (hAp : Ap false ρ)  (hw : wp9_checkPlain S x1 Q) : Met l y9_checkPlain [Cond.code y9_checkPlain b9_checkPlain 5 none] { frames := 2, cells := 0, slots := 0, locals := 42 } (va_Pc [.ref (ρ 9 0), .int x1] (PreU false D ca ρ sz S)) (va_Qv Q (PostU false D ca ρ) (Ar false ρ sz)) 0 0 (Ar false ρ sz) := by
  refine met_of_wm (own := R9) (ls0 := [(0, .ref (ρ 9 0)), (1, .int x1)]) rfl rfl hAp (Nat.le_of_ble_eq_true rfl) rfl fun p e s m args below meth c C hr hz => ?_
  subst hz
  unfold wp9_checkPlain at hw
  refine r_iload_n C (pc := 0) 1 rfl d9_checkPlain_0 ?_
  refine r_bipush C (pc := 1) (v := 20) d9_checkPlain_1 (by decide) ?_
  refine r_icmp_lt C (pc := 3) (tgt := 23) d9_checkPlain_3 (by decide) (fun c1 => ?_) (fun c1 => ?_)
  · have hw := hw.1 c1
    refine r_sub (ls' := [(0, .ref (ρ 9 0)), (1, .int x1)]) [0, 1] rfl ?_
    exact nd9_checkPlain_23 C hr hw
  · have hw := hw.2 c1
    refine r_iload_n C (pc := 6) 1 rfl d9_checkPlain_6 ?_
    refine r_bipush C (pc := 7) (v := 22) d9_checkPlain_7 (by decide) ?_
    refine r_icmp_gt C (pc := 9) (tgt := 23) d9_checkPlain_9 (by decide) (fun c2 => ?_) (fun c2 => ?_)
    · have hw := hw.1 c2
      refine r_sub (ls' := [(0, .ref (ρ 9 0)), (1, .int x1)]) [0, 1] rfl ?_
      exact nd9_checkPlain_23 C hr hw
    · have hw := hw.2 c2
      refine r_aload_n C (pc := 12) 0 rfl d9_checkPlain_12 ?_
      refine r_iload_n C (pc := 13) 1 rfl d9_checkPlain_13 ?_
      refine r_bipush C (pc := 14) (v := 19) d9_checkPlain_14 (by decide) ?_
      refine r_isub C (pc := 16) d9_checkPlain_16 ?_
      refine r_callVv C (pc := 17) (fun sz => ct9_put l D ca ρ sz C.2.2.2.2.2.2.1 hw) mf9_put w9_139 rfl (Nat.le_of_ble_eq_true rfl) rfl rfl rfl rfl ⟨Nat.le_of_ble_eq_true rfl, Nat.le_of_ble_eq_true rfl⟩ rfl rfl (Nat.le_of_ble_eq_true rfl) ⟨Nat.zero_le _, Nat.zero_le _⟩ d9_checkPlain_17 (fun S1 hw => ?_)
      refine r_goto C (pc := 20) (tgt := 276) d9_checkPlain_20 (by decide) ?_
      exact r_vret C (pc := 276) hr d9_checkPlain_276 hw
set_option maxRecDepth 20000 in
theorem nd9_checkOne_191 {p : Program} {l : Launch} {e : Env} {s : State} {m : MethodId} {args : Array Value} {below : List Frame} {meth : Method} {c : Code} {D : va_G} {ca : Nat → ClassId} {ρ : Nat → Nat → Nat} {x1 : Int32} {x2 : Int32} {Q : St → Prop} {x3 : Int32} {S : St} (C : Cx false p l s m meth c R9 b9_checkOne 5 D ca ρ) (hr : meth.sig.returnType = none)   (hw : wp9_checkOne_191 x1 x2 Q x3 S) : wm false p l e { frames := 4, cells := 0, slots := 0, locals := 89 } s m args below meth c D ca ρ 5 0 0 (qv false below args s D ca ρ 0 0 Q) 191 [(0, .ref (ρ 9 0)), (3, .int x3)] [] S := by
  unfold wp9_checkOne_191 at hw
  refine r_iload_n C (pc := 191) 1 rfl d9_checkOne_191 ?_
  refine r_bipush C (pc := 192) (v := 19) d9_checkOne_192 (by decide) ?_
  refine r_icmp_le C (pc := 194) (tgt := 202) d9_checkOne_194 (by decide) (fun c1 => ?_) (fun c1 => ?_)
  · have hw := hw.1 c1
    exact r_vret C (pc := 202) hr d9_checkOne_202 hw
  · have hw := hw.2 c1
    refine r_aload_n C (pc := 197) 0 rfl d9_checkOne_197 ?_
    refine r_iload_n C (pc := 198) 1 rfl d9_checkOne_198 ?_
    refine r_callVv C (pc := 199) (fun sz => ct9_checkPlain l D ca ρ sz C.2.2.2.2.2.2.1 hw) mf9_checkPlain w9_174 rfl (Nat.le_of_ble_eq_true rfl) rfl rfl rfl rfl ⟨Nat.le_of_ble_eq_true rfl, Nat.le_of_ble_eq_true rfl⟩ rfl rfl (Nat.le_of_ble_eq_true rfl) ⟨Nat.zero_le _, Nat.zero_le _⟩ d9_checkOne_199 (fun S1 hw => ?_)
    exact r_vret C (pc := 202) hr d9_checkOne_202 hw
set_option maxRecDepth 20000 in
theorem nd9_checkOne_113 {p : Program} {l : Launch} {e : Env} {s : State} {m : MethodId} {args : Array Value} {below : List Frame} {meth : Method} {c : Code} {D : va_G} {ca : Nat → ClassId} {ρ : Nat → Nat → Nat} {x1 : Int32} {x2 : Int32} {Q : St → Prop} {x3 : Int32} {x4 : Int32} {S : St} (C : Cx false p l s m meth c R9 b9_checkOne 5 D ca ρ) (hr : meth.sig.returnType = none)   (hw : wp9_checkOne_113 x1 x2 Q x3 x4 S) : wm false p l e { frames := 4, cells := 0, slots := 0, locals := 89 } s m args below meth c D ca ρ 5 0 0 (qv false below args s D ca ρ 0 0 Q) 113 [(0, .ref (ρ 9 0)), (3, .int x3), (4, .int x4)] [] S := by
  unfold wp9_checkOne_113 at hw
  refine r_aload_n C (pc := 113) 0 rfl d9_checkOne_113 ?_
  refine r_iload C (pc := 114) 2 rfl d9_checkOne_114 ?_
  refine r_iload_n C (pc := 116) 1 rfl d9_checkOne_116 ?_
  refine r_callVv C (pc := 117) (fun sz => ct9_checkCall l D ca ρ sz C.2.2.2.2.2.2.1 hw) mf9_checkCall w9_165 rfl (Nat.le_of_ble_eq_true rfl) rfl rfl rfl rfl ⟨Nat.le_of_ble_eq_true rfl, Nat.le_of_ble_eq_true rfl⟩ rfl rfl (Nat.le_of_ble_eq_true rfl) ⟨Nat.zero_le _, Nat.zero_le _⟩ d9_checkOne_117 (fun S1 hw => ?_)
  refine r_goto C (pc := 120) (tgt := 202) d9_checkOne_120 (by decide) ?_
  exact r_vret C (pc := 202) hr d9_checkOne_202 hw
set_option maxRecDepth 20000 in
theorem nd9_checkOne_101 {p : Program} {l : Launch} {e : Env} {s : State} {m : MethodId} {args : Array Value} {below : List Frame} {meth : Method} {c : Code} {D : va_G} {ca : Nat → ClassId} {ρ : Nat → Nat → Nat} {x1 : Int32} {x2 : Int32} {Q : St → Prop} {x3 : Int32} {x4 : Int32} {S : St} (C : Cx false p l s m meth c R9 b9_checkOne 5 D ca ρ) (hr : meth.sig.returnType = none)   (hw : wp9_checkOne_101 x1 x2 Q x3 x4 S) : wm false p l e { frames := 4, cells := 0, slots := 0, locals := 89 } s m args below meth c D ca ρ 5 0 0 (qv false below args s D ca ρ 0 0 Q) 101 [(0, .ref (ρ 9 0)), (1, .int x1), (3, .int x3), (4, .int x4)] [] S := by
  unfold wp9_checkOne_101 at hw
  refine r_iload_n C (pc := 101) 2 rfl d9_checkOne_101 ?_
  refine r_bipush C (pc := 102) (v := 11) d9_checkOne_102 (by decide) ?_
  refine r_icmp_eq C (pc := 104) (tgt := 113) d9_checkOne_104 (by decide) (fun c1 => ?_) (fun c1 => ?_)
  · have hw := hw.1 c1
    refine r_sub (ls' := [(0, .ref (ρ 9 0)), (3, .int x3), (4, .int x4)]) [0, 2, 3] rfl ?_
    exact nd9_checkOne_113 C hr hw
  · have hw := hw.2 c1
    refine r_iload_n C (pc := 107) 2 rfl d9_checkOne_107 ?_
    refine r_bipush C (pc := 108) (v := 12) d9_checkOne_108 (by decide) ?_
    refine r_icmp_ne C (pc := 110) (tgt := 123) d9_checkOne_110 (by decide) (fun c2 => ?_) (fun c2 => ?_)
    · have hw := hw.1 c2
      refine r_iload_n C (pc := 123) 2 rfl d9_checkOne_123 ?_
      refine r_bipush C (pc := 124) (v := 13) d9_checkOne_124 (by decide) ?_
      refine r_icmp_ne C (pc := 126) (tgt := 155) d9_checkOne_126 (by decide) (fun c3 => ?_) (fun c3 => ?_)
      · have hw := hw.1 c3
        refine r_iload_n C (pc := 155) 2 rfl d9_checkOne_155 ?_
        refine r_bipush C (pc := 156) (v := 14) d9_checkOne_156 (by decide) ?_
        refine r_icmp_ne C (pc := 158) (tgt := 168) d9_checkOne_158 (by decide) (fun c4 => ?_) (fun c4 => ?_)
        · have hw := hw.1 c4
          refine r_iload_n C (pc := 168) 2 rfl d9_checkOne_168 ?_
          refine r_bipush C (pc := 169) (v := 15) d9_checkOne_169 (by decide) ?_
          refine r_icmp_lt C (pc := 171) (tgt := 191) d9_checkOne_171 (by decide) (fun c5 => ?_) (fun c5 => ?_)
          · have hw := hw.1 c5
            refine r_sub (ls' := [(0, .ref (ρ 9 0)), (3, .int x3)]) [0, 2] rfl ?_
            exact nd9_checkOne_191 C hr hw
          · have hw := hw.2 c5
            refine r_iload_n C (pc := 174) 2 rfl d9_checkOne_174 ?_
            refine r_bipush C (pc := 175) (v := 19) d9_checkOne_175 (by decide) ?_
            refine r_icmp_gt C (pc := 177) (tgt := 191) d9_checkOne_177 (by decide) (fun c6 => ?_) (fun c6 => ?_)
            · have hw := hw.1 c6
              refine r_sub (ls' := [(0, .ref (ρ 9 0)), (3, .int x3)]) [0, 2] rfl ?_
              exact nd9_checkOne_191 C hr hw
            · have hw := hw.2 c6
              refine r_aload_n C (pc := 180) 0 rfl d9_checkOne_180 ?_
              refine r_iload_n C (pc := 181) 1 rfl d9_checkOne_181 ?_
              refine r_iload_n C (pc := 182) 2 rfl d9_checkOne_182 ?_
              refine r_iload C (pc := 183) 3 rfl d9_checkOne_183 ?_
              refine r_callVv C (pc := 185) (fun sz => ct9_checkVariable l D ca ρ sz C.2.2.2.2.2.2.1 hw) mf9_checkVariable w9_171 rfl (Nat.le_of_ble_eq_true rfl) rfl rfl rfl rfl ⟨Nat.le_of_ble_eq_true rfl, Nat.le_of_ble_eq_true rfl⟩ rfl rfl (Nat.le_of_ble_eq_true rfl) ⟨Nat.zero_le _, Nat.zero_le _⟩ d9_checkOne_185 (fun S1 hw => ?_)
              refine r_goto C (pc := 188) (tgt := 202) d9_checkOne_188 (by decide) ?_
              exact r_vret C (pc := 202) hr d9_checkOne_202 hw
        · have hw := hw.2 c4
          refine r_aload_n C (pc := 161) 0 rfl d9_checkOne_161 ?_
          refine r_callVv C (pc := 162) (fun sz => ct9_checkSelect l D ca ρ sz C.2.2.2.2.2.2.1 hw) mf9_checkSelect w9_168 rfl (Nat.le_of_ble_eq_true rfl) rfl rfl rfl rfl ⟨Nat.le_of_ble_eq_true rfl, Nat.le_of_ble_eq_true rfl⟩ rfl rfl (Nat.le_of_ble_eq_true rfl) ⟨Nat.zero_le _, Nat.zero_le _⟩ d9_checkOne_162 (fun S2 hw => ?_)
          refine r_goto C (pc := 165) (tgt := 202) d9_checkOne_165 (by decide) ?_
          exact r_vret C (pc := 202) hr d9_checkOne_202 hw
      · have hw := hw.2 c3
        refine r_aload_n C (pc := 129) 0 rfl d9_checkOne_129 ?_
        refine r_aload_n C (pc := 130) 0 rfl d9_checkOne_130 ?_
        refine r_callVi C (pc := 131) (fun sz => ct9_takeAny l D ca ρ sz C.2.2.2.2.2.2.1 hw) mf9_takeAny w9_131 rfl (Nat.le_of_ble_eq_true rfl) rfl rfl rfl rfl ⟨Nat.le_of_ble_eq_true rfl, Nat.le_of_ble_eq_true rfl⟩ rfl rfl (Nat.le_of_ble_eq_true rfl) ⟨Nat.zero_le _, Nat.zero_le _⟩ d9_checkOne_131 (fun r1 S3 hw => ?_)
        refine r_if_lt C (pc := 134) (tgt := 144) d9_checkOne_134 (by decide) (fun c7 => ?_) (fun c7 => ?_)
        · have hw := hw.1 c7
          refine r_iconst C (pc := 144) (v := 1) d9_checkOne_144 (by decide) ?_
          refine r_goto C (pc := 145) (tgt := 149) d9_checkOne_145 (by decide) ?_
          refine p9_bad C (pc := 149) (Nat.le_of_ble_eq_true rfl) (Or.inr rfl) w9_125 d9_checkOne_149 ?_
          refine r_S (fun S4 eS4 => ?_)
          have hw := hw S4 eS4
          refine r_goto C (pc := 152) (tgt := 202) d9_checkOne_152 (by decide) ?_
          exact r_vret C (pc := 202) hr d9_checkOne_202 hw
        · have hw := hw.2 c7
          refine r_aload_n C (pc := 137) 0 rfl d9_checkOne_137 ?_
          refine g9_bad C (pc := 138) (Nat.le_of_ble_eq_true rfl) w9_125 d9_checkOne_138 ?_
          refine r_if_eq C (pc := 141) (tgt := 148) d9_checkOne_141 (by decide) (fun c8 => ?_) (fun c8 => ?_)
          · have hw := hw.1 c8
            refine r_iconst C (pc := 148) (v := 0) d9_checkOne_148 (by decide) ?_
            refine p9_bad C (pc := 149) (Nat.le_of_ble_eq_true rfl) (Or.inl rfl) w9_125 d9_checkOne_149 ?_
            refine r_S (fun S5 eS5 => ?_)
            have hw := hw S5 eS5
            refine r_goto C (pc := 152) (tgt := 202) d9_checkOne_152 (by decide) ?_
            exact r_vret C (pc := 202) hr d9_checkOne_202 hw
          · have hw := hw.2 c8
            refine r_iconst C (pc := 144) (v := 1) d9_checkOne_144 (by decide) ?_
            refine r_goto C (pc := 145) (tgt := 149) d9_checkOne_145 (by decide) ?_
            refine p9_bad C (pc := 149) (Nat.le_of_ble_eq_true rfl) (Or.inr rfl) w9_125 d9_checkOne_149 ?_
            refine r_S (fun S6 eS6 => ?_)
            have hw := hw S6 eS6
            refine r_goto C (pc := 152) (tgt := 202) d9_checkOne_152 (by decide) ?_
            exact r_vret C (pc := 202) hr d9_checkOne_202 hw
    · have hw := hw.2 c2
      refine r_sub (ls' := [(0, .ref (ρ 9 0)), (3, .int x3), (4, .int x4)]) [0, 2, 3] rfl ?_
      exact nd9_checkOne_113 C hr hw
set_option maxRecDepth 20000 in
theorem nd9_checkOne_71 {p : Program} {l : Launch} {e : Env} {s : State} {m : MethodId} {args : Array Value} {below : List Frame} {meth : Method} {c : Code} {D : va_G} {ca : Nat → ClassId} {ρ : Nat → Nat → Nat} {x1 : Int32} {x2 : Int32} {Q : St → Prop} {x3 : Int32} {S : St} (C : Cx false p l s m meth c R9 b9_checkOne 5 D ca ρ) (hr : meth.sig.returnType = none)   (hw : wp9_checkOne_71 x1 x2 Q x3 S) : wm false p l e { frames := 4, cells := 0, slots := 0, locals := 89 } s m args below meth c D ca ρ 5 0 0 (qv false below args s D ca ρ 0 0 Q) 71 [(0, .ref (ρ 9 0)), (3, .int x3)] [] S := by
  unfold wp9_checkOne_71 at hw
  refine r_aload_n C (pc := 71) 0 rfl d9_checkOne_71 ?_
  refine r_iload_n C (pc := 72) 1 rfl d9_checkOne_72 ?_
  refine r_callVv C (pc := 73) (fun sz => ct9_close l D ca ρ sz C.2.2.2.2.2.2.1 hw) mf9_close w9_158 rfl (Nat.le_of_ble_eq_true rfl) rfl rfl rfl rfl ⟨Nat.le_of_ble_eq_true rfl, Nat.le_of_ble_eq_true rfl⟩ rfl rfl (Nat.le_of_ble_eq_true rfl) ⟨Nat.zero_le _, Nat.zero_le _⟩ d9_checkOne_73 (fun S1 hw => ?_)
  refine r_goto C (pc := 76) (tgt := 202) d9_checkOne_76 (by decide) ?_
  exact r_vret C (pc := 202) hr d9_checkOne_202 hw
set_option maxRecDepth 20000 in
theorem nd9_checkOne_60 {p : Program} {l : Launch} {e : Env} {s : State} {m : MethodId} {args : Array Value} {below : List Frame} {meth : Method} {c : Code} {D : va_G} {ca : Nat → ClassId} {ρ : Nat → Nat → Nat} {x1 : Int32} {x2 : Int32} {Q : St → Prop} {x3 : Int32} {x4 : Int32} {S : St} (C : Cx false p l s m meth c R9 b9_checkOne 5 D ca ρ) (hr : meth.sig.returnType = none)   (hw : wp9_checkOne_60 x1 x2 Q x3 x4 S) : wm false p l e { frames := 4, cells := 0, slots := 0, locals := 89 } s m args below meth c D ca ρ 5 0 0 (qv false below args s D ca ρ 0 0 Q) 60 [(0, .ref (ρ 9 0)), (1, .int x1), (2, .int x2), (3, .int x3), (4, .int x4)] [] S := by
  unfold wp9_checkOne_60 at hw
  refine r_iload_n C (pc := 60) 3 rfl d9_checkOne_60 ?_
  refine r_iconst C (pc := 61) (v := 5) d9_checkOne_61 (by decide) ?_
  refine r_icmp_eq C (pc := 62) (tgt := 71) d9_checkOne_62 (by decide) (fun c1 => ?_) (fun c1 => ?_)
  · have hw := hw.1 c1
    refine r_sub (ls' := [(0, .ref (ρ 9 0)), (3, .int x3)]) [0, 3] rfl ?_
    exact nd9_checkOne_71 C hr hw
  · have hw := hw.2 c1
    refine r_iload_n C (pc := 65) 3 rfl d9_checkOne_65 ?_
    refine r_bipush C (pc := 66) (v := 6) d9_checkOne_66 (by decide) ?_
    refine r_icmp_ne C (pc := 68) (tgt := 79) d9_checkOne_68 (by decide) (fun c2 => ?_) (fun c2 => ?_)
    · have hw := hw.1 c2
      refine r_iload_n C (pc := 79) 3 rfl d9_checkOne_79 ?_
      refine r_bipush C (pc := 80) (v := 7) d9_checkOne_80 (by decide) ?_
      refine r_icmp_lt C (pc := 82) (tgt := 101) d9_checkOne_82 (by decide) (fun c3 => ?_) (fun c3 => ?_)
      · have hw := hw.1 c3
        refine r_sub (ls' := [(0, .ref (ρ 9 0)), (1, .int x1), (3, .int x3), (4, .int x4)]) [0, 1, 3, 4] rfl ?_
        exact nd9_checkOne_101 C hr hw
      · have hw := hw.2 c3
        refine r_iload_n C (pc := 85) 3 rfl d9_checkOne_85 ?_
        refine r_bipush C (pc := 86) (v := 10) d9_checkOne_86 (by decide) ?_
        refine r_icmp_gt C (pc := 88) (tgt := 101) d9_checkOne_88 (by decide) (fun c4 => ?_) (fun c4 => ?_)
        · have hw := hw.1 c4
          refine r_sub (ls' := [(0, .ref (ρ 9 0)), (1, .int x1), (3, .int x3), (4, .int x4)]) [0, 1, 3, 4] rfl ?_
          exact nd9_checkOne_101 C hr hw
        · have hw := hw.2 c4
          refine r_aload_n C (pc := 91) 0 rfl d9_checkOne_91 ?_
          refine r_iload_n C (pc := 92) 1 rfl d9_checkOne_92 ?_
          refine r_iload_n C (pc := 93) 2 rfl d9_checkOne_93 ?_
          refine r_iload_n C (pc := 94) 3 rfl d9_checkOne_94 ?_
          refine r_callVv C (pc := 95) (fun sz => ct9_checkJump l D ca ρ sz C.2.2.2.2.2.2.1 hw) mf9_checkJump w9_161 rfl (Nat.le_of_ble_eq_true rfl) rfl rfl rfl rfl ⟨Nat.le_of_ble_eq_true rfl, Nat.le_of_ble_eq_true rfl⟩ rfl rfl (Nat.le_of_ble_eq_true rfl) ⟨Nat.zero_le _, Nat.zero_le _⟩ d9_checkOne_95 (fun S1 hw => ?_)
          refine r_goto C (pc := 98) (tgt := 202) d9_checkOne_98 (by decide) ?_
          exact r_vret C (pc := 202) hr d9_checkOne_202 hw
    · have hw := hw.2 c2
      refine r_sub (ls' := [(0, .ref (ρ 9 0)), (3, .int x3)]) [0, 3] rfl ?_
      exact nd9_checkOne_71 C hr hw
set_option maxRecDepth 20000 in
theorem nd9_checkOne_27 {p : Program} {l : Launch} {e : Env} {s : State} {m : MethodId} {args : Array Value} {below : List Frame} {meth : Method} {c : Code} {D : va_G} {ca : Nat → ClassId} {ρ : Nat → Nat → Nat} {x1 : Int32} {x2 : Int32} {Q : St → Prop} {x3 : Int32} {s0 : Int32} {S : St} (C : Cx false p l s m meth c R9 b9_checkOne 5 D ca ρ) (hr : meth.sig.returnType = none)   (hw : wp9_checkOne_27 x1 x2 Q x3 s0 S) : wm false p l e { frames := 4, cells := 0, slots := 0, locals := 89 } s m args below meth c D ca ρ 5 0 0 (qv false below args s D ca ρ 0 0 Q) 27 [(0, .ref (ρ 9 0)), (1, .int x1), (2, .int x2), (3, .int x3)] [.int s0] S := by
  unfold wp9_checkOne_27 at hw
  refine r_istore C (pc := 27) (ls' := [(4, .int s0), (0, .ref (ρ 9 0)), (1, .int x1), (2, .int x2), (3, .int x3)]) (Nat.le_of_ble_eq_true rfl) rfl d9_checkOne_27 ?_
  refine r_iload_n C (pc := 29) 4 rfl d9_checkOne_29 ?_
  refine r_if_ne C (pc := 30) (tgt := 40) d9_checkOne_30 (by decide) (fun c1 => ?_) (fun c1 => ?_)
  · have hw := hw.1 c1
    refine r_iload_n C (pc := 40) 4 rfl d9_checkOne_40 ?_
    refine r_iconst C (pc := 41) (v := 2) d9_checkOne_41 (by decide) ?_
    refine r_icmp_lt C (pc := 42) (tgt := 60) d9_checkOne_42 (by decide) (fun c2 => ?_) (fun c2 => ?_)
    · have hw := hw.1 c2
      refine r_sub (ls' := [(0, .ref (ρ 9 0)), (1, .int x1), (2, .int x2), (3, .int x3), (4, .int s0)]) [1, 2, 3, 4, 0] rfl ?_
      exact nd9_checkOne_60 C hr hw
    · have hw := hw.2 c2
      refine r_iload_n C (pc := 45) 4 rfl d9_checkOne_45 ?_
      refine r_iconst C (pc := 46) (v := 4) d9_checkOne_46 (by decide) ?_
      refine r_icmp_gt C (pc := 47) (tgt := 60) d9_checkOne_47 (by decide) (fun c3 => ?_) (fun c3 => ?_)
      · have hw := hw.1 c3
        refine r_sub (ls' := [(0, .ref (ρ 9 0)), (1, .int x1), (2, .int x2), (3, .int x3), (4, .int s0)]) [1, 2, 3, 4, 0] rfl ?_
        exact nd9_checkOne_60 C hr hw
      · have hw := hw.2 c3
        refine r_aload_n C (pc := 50) 1 rfl d9_checkOne_50 ?_
        refine r_iload_n C (pc := 51) 4 rfl d9_checkOne_51 ?_
        refine r_iload C (pc := 52) 0 rfl d9_checkOne_52 ?_
        refine r_callVv C (pc := 54) (fun sz => ct9_begin l D ca ρ sz C.2.2.2.2.2.2.1 hw) mf9_begin w9_154 rfl (Nat.le_of_ble_eq_true rfl) rfl rfl rfl rfl ⟨Nat.le_of_ble_eq_true rfl, Nat.le_of_ble_eq_true rfl⟩ rfl rfl (Nat.le_of_ble_eq_true rfl) ⟨Nat.zero_le _, Nat.zero_le _⟩ d9_checkOne_54 (fun S1 hw => ?_)
        refine r_goto C (pc := 57) (tgt := 202) d9_checkOne_57 (by decide) ?_
        exact r_vret C (pc := 202) hr d9_checkOne_202 hw
  · have hw := hw.2 c1
    refine r_aload_n C (pc := 33) 1 rfl d9_checkOne_33 ?_
    refine r_callVv C (pc := 34) (fun sz => ct9_die l D ca ρ sz C.2.2.2.2.2.2.1 hw) mf9_die w9_151 rfl (Nat.le_of_ble_eq_true rfl) rfl rfl rfl rfl ⟨Nat.le_of_ble_eq_true rfl, Nat.le_of_ble_eq_true rfl⟩ rfl rfl (Nat.le_of_ble_eq_true rfl) ⟨Nat.zero_le _, Nat.zero_le _⟩ d9_checkOne_34 (fun S2 hw => ?_)
    refine r_goto C (pc := 37) (tgt := 202) d9_checkOne_37 (by decide) ?_
    exact r_vret C (pc := 202) hr d9_checkOne_202 hw
set_option maxRecDepth 20000 in
theorem ct9_checkOne (l : Launch) (D : va_G) (ca : Nat → ClassId) (ρ : Nat → Nat → Nat) (sz : Nat) {S : St} {x1 : Int32} {x2 : Int32} {Q : St → Prop} (hAp : Ap false ρ)  (hw : wp9_checkOne S x1 x2 Q) : Met l y9_checkOne [Cond.code y9_checkOne b9_checkOne 5 none] { frames := 4, cells := 0, slots := 0, locals := 89 } (va_Pc [.ref (ρ 9 0), .int x1, .int x2] (PreU false D ca ρ sz S)) (va_Qv Q (PostU false D ca ρ) (Ar false ρ sz)) 0 0 (Ar false ρ sz) := by
  refine met_of_wm (own := R9) (ls0 := [(0, .ref (ρ 9 0)), (1, .int x1), (2, .int x2)]) rfl rfl hAp (Nat.le_of_ble_eq_true rfl) rfl fun p e s m args below meth c C hr hz => ?_
  subst hz
  unfold wp9_checkOne at hw
  refine r_aload_n C (pc := 0) 0 rfl d9_checkOne_0 ?_
  refine r_iload_n C (pc := 1) 1 rfl d9_checkOne_1 ?_
  refine r_iload_n C (pc := 2) 2 rfl d9_checkOne_2 ?_
  refine r_callVi C (pc := 3) (fun sz => ct9_byteAt l D ca ρ sz C.2.2.2.2.2.2.1 hw) mf9_byteAt w9_115 rfl (Nat.le_of_ble_eq_true rfl) rfl rfl rfl rfl ⟨Nat.le_of_ble_eq_true rfl, Nat.le_of_ble_eq_true rfl⟩ rfl rfl (Nat.le_of_ble_eq_true rfl) ⟨Nat.zero_le _, Nat.zero_le _⟩ d9_checkOne_3 (fun r1 S1 hw => ?_)
  refine r_istore_n C (pc := 6) (ls' := [(3, .int r1), (0, .ref (ρ 9 0)), (1, .int x1), (2, .int x2)]) (Nat.le_of_ble_eq_true rfl) rfl d9_checkOne_6 ?_
  refine r_iload_n C (pc := 7) 3 rfl d9_checkOne_7 ?_
  refine r_iconst C (pc := 8) (v := 1) d9_checkOne_8 (by decide) ?_
  refine r_iadd C (pc := 9) d9_checkOne_9 ?_
  refine r_bipush C (pc := 10) (v := 60) d9_checkOne_10 (by decide) ?_
  refine r_icmp_ge C (pc := 12) (tgt := 26) d9_checkOne_12 (by decide) (fun c1 => ?_) (fun c1 => ?_)
  · have hw := hw.1 c1
    refine r_iconst C (pc := 26) (v := 0) d9_checkOne_26 (by decide) ?_
    refine r_sub (ls' := [(0, .ref (ρ 9 0)), (1, .int x1), (2, .int x2), (3, .int r1)]) [1, 2, 3, 0] rfl ?_
    exact nd9_checkOne_27 C hr hw
  · have hw := hw.2 c1
    refine r_aload_n C (pc := 15) 1 rfl d9_checkOne_15 ?_
    refine r_iload_n C (pc := 16) 2 rfl d9_checkOne_16 ?_
    refine r_iload_n C (pc := 17) 3 rfl d9_checkOne_17 ?_
    refine r_iconst C (pc := 18) (v := 1) d9_checkOne_18 (by decide) ?_
    refine r_iadd C (pc := 19) d9_checkOne_19 ?_
    refine r_callVi C (pc := 20) (fun sz => ct9_byteAt l D ca ρ sz C.2.2.2.2.2.2.1 hw) mf9_byteAt w9_115 rfl (Nat.le_of_ble_eq_true rfl) rfl rfl rfl rfl ⟨Nat.le_of_ble_eq_true rfl, Nat.le_of_ble_eq_true rfl⟩ rfl rfl (Nat.le_of_ble_eq_true rfl) ⟨Nat.zero_le _, Nat.zero_le _⟩ d9_checkOne_20 (fun r2 S2 hw => ?_)
    refine r_goto C (pc := 23) (tgt := 27) d9_checkOne_23 (by decide) ?_
    refine r_sub (ls' := [(0, .ref (ρ 9 0)), (1, .int x1), (2, .int x2), (3, .int r1)]) [1, 2, 3, 0] rfl ?_
    exact nd9_checkOne_27 C hr hw
set_option maxRecDepth 20000 in
theorem nd9_find_91 {p : Program} {l : Launch} {e : Env} {s : State} {m : MethodId} {args : Array Value} {below : List Frame} {meth : Method} {c : Code} {D : va_G} {ca : Nat → ClassId} {ρ : Nat → Nat → Nat} {x1 : Int32} {Q : Int32 → St → Prop} {K : Int32 → St → Prop} {x2 : Int32} {S : St} (C : Cx false p l s m meth c R9 b9_find 5 D ca ρ) (hr : meth.sig.returnType = (some .int))  (hK : ∀ (x2 : Int32) (S : St) , K x2 S → wm false p l e { frames := 5, cells := 0, slots := 0, locals := 113 } s m args below meth c D ca ρ 5 0 0 (qi false below args s D ca ρ 0 0 Q) 28 [(0, .ref (ρ 9 0)), (1, .int x1), (2, .int x2)] [] S)  (hw : wp9_find_91 K x1 Q x2 S) : wm false p l e { frames := 5, cells := 0, slots := 0, locals := 113 } s m args below meth c D ca ρ 5 0 0 (qi false below args s D ca ρ 0 0 Q) 91 [(0, .ref (ρ 9 0)), (1, .int x1), (2, .int x2)] [] S := by
  unfold wp9_find_91 at hw
  refine r_iload_n C (pc := 91) 2 rfl d9_find_91 ?_
  refine r_iconst C (pc := 92) (v := 1) d9_find_92 (by decide) ?_
  refine r_iadd C (pc := 93) d9_find_93 ?_
  refine r_aload_n C (pc := 94) 0 rfl d9_find_94 ?_
  refine r_iload_n C (pc := 95) 1 rfl d9_find_95 ?_
  refine r_iload_n C (pc := 96) 2 rfl d9_find_96 ?_
  refine r_callVi C (pc := 97) (fun sz => ct9_behind l D ca ρ sz C.2.2.2.2.2.2.1 hw) mf9_behind w9_119 rfl (Nat.le_of_ble_eq_true rfl) rfl rfl rfl rfl ⟨Nat.le_of_ble_eq_true rfl, Nat.le_of_ble_eq_true rfl⟩ rfl rfl (Nat.le_of_ble_eq_true rfl) ⟨Nat.zero_le _, Nat.zero_le _⟩ d9_find_97 (fun r1 S1 hw => ?_)
  refine r_iadd C (pc := 100) d9_find_100 ?_
  refine r_topi (fun x4_1 ex4_1 => ?_)
  have hw := hw x4_1 ex4_1
  refine r_istore C (pc := 101) (ls' := [(4, .int x4_1), (0, .ref (ρ 9 0)), (1, .int x1), (2, .int x2)]) (Nat.le_of_ble_eq_true rfl) rfl d9_find_101 ?_
  refine r_iload C (pc := 103) 0 rfl d9_find_103 ?_
  refine r_aload_n C (pc := 105) 1 rfl d9_find_105 ?_
  refine g9_length C (pc := 106) (Nat.le_of_ble_eq_true rfl) w9_25 d9_find_106 ?_
  refine r_iload_n C (pc := 109) 2 rfl d9_find_109 ?_
  have hi1 := hw.1
  have hw := hw.2
  refine ld1905 C (pc := 110) (Nat.le_of_ble_eq_true rfl) hi1 d9_find_110 ?_
  refine r_icmp_le C (pc := 111) (tgt := 121) d9_find_111 (by decide) (fun c2 => ?_) (fun c2 => ?_)
  · have hw := hw.1 c2
    refine r_aload_n C (pc := 121) 1 rfl d9_find_121 ?_
    refine r_iload_n C (pc := 122) 2 rfl d9_find_122 ?_
    refine r_iload_n C (pc := 123) 3 rfl d9_find_123 ?_
    refine r_callVv C (pc := 124) (fun sz => ct9_checkOne l D ca ρ sz C.2.2.2.2.2.2.1 hw) mf9_checkOne w9_181 rfl (Nat.le_of_ble_eq_true rfl) rfl rfl rfl rfl ⟨Nat.le_of_ble_eq_true rfl, Nat.le_of_ble_eq_true rfl⟩ rfl rfl (Nat.le_of_ble_eq_true rfl) ⟨Nat.zero_le _, Nat.zero_le _⟩ d9_find_124 (fun S2 hw => ?_)
    refine r_aload_n C (pc := 127) 1 rfl d9_find_127 ?_
    refine g9_bad C (pc := 128) (Nat.le_of_ble_eq_true rfl) w9_125 d9_find_128 ?_
    refine r_if_eq C (pc := 131) (tgt := 136) d9_find_131 (by decide) (fun c3 => ?_) (fun c3 => ?_)
    · have hw := hw.1 c3
      refine r_iload C (pc := 136) 0 rfl d9_find_136 ?_
      refine r_istore_n C (pc := 138) (ls' := [(2, .int x4_1), (4, .int x4_1), (0, .ref (ρ 9 0)), (1, .int x1)]) (Nat.le_of_ble_eq_true rfl) rfl d9_find_138 ?_
      refine r_goto C (pc := 139) (tgt := 28) d9_find_139 (by decide) ?_
      refine r_sub (ls' := [(0, .ref (ρ 9 0)), (1, .int x1), (2, .int x4_1)]) [2, 3, 0] rfl ?_
      exact hK _ _ hw
    · have hw := hw.2 c3
      refine r_iload_n C (pc := 134) 3 rfl d9_find_134 ?_
      exact r_iret C (pc := 135) hr d9_find_135 hw
  · have hw := hw.2 c2
    refine r_aload_n C (pc := 114) 1 rfl d9_find_114 ?_
    refine g9_length C (pc := 115) (Nat.le_of_ble_eq_true rfl) w9_25 d9_find_115 ?_
    refine r_iload_n C (pc := 118) 2 rfl d9_find_118 ?_
    have hi4 := hw.1
    have hw := hw.2
    refine ld1905 C (pc := 119) (Nat.le_of_ble_eq_true rfl) hi4 d9_find_119 ?_
    exact r_iret C (pc := 120) hr d9_find_120 hw
set_option maxRecDepth 20000 in
theorem nd9_find_28 {p : Program} {l : Launch} {e : Env} {s : State} {m : MethodId} {args : Array Value} {below : List Frame} {meth : Method} {c : Code} {D : va_G} {ca : Nat → ClassId} {ρ : Nat → Nat → Nat} {x1 : Int32} {Q : Int32 → St → Prop} (C : Cx false p l s m meth c R9 b9_find 5 D ca ρ) (hr : meth.sig.returnType = (some .int))  : ∀ (n : Nat) (x2 : Int32) (S : St) , wp9_find_28 x1 Q n x2 S → wm false p l e { frames := 5, cells := 0, slots := 0, locals := 113 } s m args below meth c D ca ρ 5 0 0 (qi false below args s D ca ρ 0 0 Q) 28 [(0, .ref (ρ 9 0)), (1, .int x1), (2, .int x2)] [] S := by
  intro n
  induction n with
  | zero => intro x2 S  hw; exact hw.elim
  | succ n ih =>
    intro x2 S  hw
    unfold wp9_find_28 at hw
    refine r_iload_n C (pc := 28) 2 rfl d9_find_28 ?_
    refine r_aload_n C (pc := 29) 0 rfl d9_find_29 ?_
    refine g9_length C (pc := 30) (Nat.le_of_ble_eq_true rfl) w9_25 d9_find_30 ?_
    refine r_iload_n C (pc := 33) 1 rfl d9_find_33 ?_
    have hi1 := hw.1
    have hw := hw.2
    refine ld1905 C (pc := 34) (Nat.le_of_ble_eq_true rfl) hi1 d9_find_34 ?_
    refine r_icmp_ge C (pc := 35) (tgt := 142) d9_find_35 (by decide) (fun c2 => ?_) (fun c2 => ?_)
    · have hw := hw.1 c2
      refine r_aload_n C (pc := 142) 0 rfl d9_find_142 ?_
      refine g9_frames C (pc := 143) (Nat.le_of_ble_eq_true rfl) w9_128 d9_find_143 ?_
      refine r_if_ne C (pc := 146) (tgt := 153) d9_find_146 (by decide) (fun c3 => ?_) (fun c3 => ?_)
      · have hw := hw.1 c3
        refine r_aload_n C (pc := 153) 0 rfl d9_find_153 ?_
        refine g9_length C (pc := 154) (Nat.le_of_ble_eq_true rfl) w9_25 d9_find_154 ?_
        refine r_iload_n C (pc := 157) 1 rfl d9_find_157 ?_
        have hi4 := hw.1
        have hw := hw.2
        refine ld1905 C (pc := 158) (Nat.le_of_ble_eq_true rfl) hi4 d9_find_158 ?_
        exact r_iret C (pc := 159) hr d9_find_159 hw
      · have hw := hw.2 c3
        refine r_iconst C (pc := 149) (v := (-1)) d9_find_149 (by decide) ?_
        refine r_goto C (pc := 150) (tgt := 159) d9_find_150 (by decide) ?_
        exact r_iret C (pc := 159) hr d9_find_159 hw
    · have hw := hw.2 c2
      refine r_aload_n C (pc := 38) 0 rfl d9_find_38 ?_
      refine r_iload_n C (pc := 39) 1 rfl d9_find_39 ?_
      refine r_iload_n C (pc := 40) 2 rfl d9_find_40 ?_
      refine r_callVi C (pc := 41) (fun sz => ct9_byteAt l D ca ρ sz C.2.2.2.2.2.2.1 hw) mf9_byteAt w9_115 rfl (Nat.le_of_ble_eq_true rfl) rfl rfl rfl rfl ⟨Nat.le_of_ble_eq_true rfl, Nat.le_of_ble_eq_true rfl⟩ rfl rfl (Nat.le_of_ble_eq_true rfl) ⟨Nat.zero_le _, Nat.zero_le _⟩ d9_find_41 (fun r1 S1 hw => ?_)
      refine r_istore_n C (pc := 44) (ls' := [(3, .int r1), (0, .ref (ρ 9 0)), (1, .int x1), (2, .int x2)]) (Nat.le_of_ble_eq_true rfl) rfl d9_find_44 ?_
      refine r_aload_n C (pc := 45) 1 rfl d9_find_45 ?_
      refine g9_frames C (pc := 46) (Nat.le_of_ble_eq_true rfl) w9_128 d9_find_46 ?_
      refine r_if_eq C (pc := 49) (tgt := 89) d9_find_49 (by decide) (fun c5 => ?_) (fun c5 => ?_)
      · have hw := hw.1 c5
        refine r_iload_n C (pc := 89) 3 rfl d9_find_89 ?_
        exact r_iret C (pc := 90) hr d9_find_90 hw
      · have hw := hw.2 c5
        refine r_iload_n C (pc := 52) 0 rfl d9_find_52 ?_
        refine r_callSi C (pc := 53) (fun sz => ct9_isKnown l D ca ρ sz C.2.2.2.2.2.2.1 hw) mf9_isKnown w9_177 rfl rfl ⟨Nat.le_of_ble_eq_true rfl, Nat.le_of_ble_eq_true rfl⟩ rfl rfl (Nat.le_of_ble_eq_true rfl) ⟨Nat.zero_le _, Nat.zero_le _⟩ d9_find_53 (fun r2 S2 hw => ?_)
        refine r_if_eq C (pc := 56) (tgt := 89) d9_find_56 (by decide) (fun c6 => ?_) (fun c6 => ?_)
        · have hw := hw.1 c6
          refine r_iload_n C (pc := 89) 3 rfl d9_find_89 ?_
          exact r_iret C (pc := 90) hr d9_find_90 hw
        · have hw := hw.2 c6
          refine r_iload_n C (pc := 59) 0 rfl d9_find_59 ?_
          refine r_bipush C (pc := 60) (v := 9) d9_find_60 (by decide) ?_
          refine r_icmp_ne C (pc := 62) (tgt := 91) d9_find_62 (by decide) (fun c7 => ?_) (fun c7 => ?_)
          · have hw := hw.1 c7
            refine r_sub (ls' := [(0, .ref (ρ 9 0)), (1, .int x1), (2, .int x2)]) [1, 2, 3] rfl ?_
            exact nd9_find_91 C hr ih hw
          · have hw := hw.2 c7
            refine r_iload_n C (pc := 65) 3 rfl d9_find_65 ?_
            refine r_iconst C (pc := 66) (v := 1) d9_find_66 (by decide) ?_
            refine r_iadd C (pc := 67) d9_find_67 ?_
            refine r_aload_n C (pc := 68) 1 rfl d9_find_68 ?_
            refine g9_length C (pc := 69) (Nat.le_of_ble_eq_true rfl) w9_25 d9_find_69 ?_
            refine r_iload_n C (pc := 72) 2 rfl d9_find_72 ?_
            have hi8 := hw.1
            have hw := hw.2
            refine ld1905 C (pc := 73) (Nat.le_of_ble_eq_true rfl) hi8 d9_find_73 ?_
            refine r_icmp_ge C (pc := 74) (tgt := 91) d9_find_74 (by decide) (fun c9 => ?_) (fun c9 => ?_)
            · have hw := hw.1 c9
              refine r_sub (ls' := [(0, .ref (ρ 9 0)), (1, .int x1), (2, .int x2)]) [1, 2, 3] rfl ?_
              exact nd9_find_91 C hr ih hw
            · have hw := hw.2 c9
              refine r_aload_n C (pc := 77) 1 rfl d9_find_77 ?_
              refine r_iload_n C (pc := 78) 2 rfl d9_find_78 ?_
              refine r_iload_n C (pc := 79) 3 rfl d9_find_79 ?_
              refine r_iconst C (pc := 80) (v := 1) d9_find_80 (by decide) ?_
              refine r_iadd C (pc := 81) d9_find_81 ?_
              refine r_callVi C (pc := 82) (fun sz => ct9_byteAt l D ca ρ sz C.2.2.2.2.2.2.1 hw) mf9_byteAt w9_115 rfl (Nat.le_of_ble_eq_true rfl) rfl rfl rfl rfl ⟨Nat.le_of_ble_eq_true rfl, Nat.le_of_ble_eq_true rfl⟩ rfl rfl (Nat.le_of_ble_eq_true rfl) ⟨Nat.zero_le _, Nat.zero_le _⟩ d9_find_82 (fun r3 S3 hw => ?_)
              refine r_iconst C (pc := 85) (v := 3) d9_find_85 (by decide) ?_
              refine r_icmp_le C (pc := 86) (tgt := 91) d9_find_86 (by decide) (fun c10 => ?_) (fun c10 => ?_)
              · have hw := hw.1 c10
                refine r_sub (ls' := [(0, .ref (ρ 9 0)), (1, .int x1), (2, .int x2)]) [1, 2, 3] rfl ?_
                exact nd9_find_91 C hr ih hw
              · have hw := hw.2 c10
                refine r_iload_n C (pc := 89) 3 rfl d9_find_89 ?_
                exact r_iret C (pc := 90) hr d9_find_90 hw
set_option maxRecDepth 20000 in
theorem ct9_find (l : Launch) (D : va_G) (ca : Nat → ClassId) (ρ : Nat → Nat → Nat) (sz : Nat) {S : St} {x1 : Int32} {Q : Int32 → St → Prop} (hAp : Ap false ρ)  (hw : wp9_find S x1 Q) : Met l y9_find [Cond.code y9_find b9_find 5 (some .int)] { frames := 5, cells := 0, slots := 0, locals := 113 } (va_Pc [.ref (ρ 9 0), .int x1] (PreU false D ca ρ sz S)) (va_Qi Q (PostU false D ca ρ) (Ar false ρ sz)) 0 0 (Ar false ρ sz) := by
  refine met_of_wm (own := R9) (ls0 := [(0, .ref (ρ 9 0)), (1, .int x1)]) rfl rfl hAp (Nat.le_of_ble_eq_true rfl) rfl fun p e s m args below meth c C hr hz => ?_
  subst hz
  unfold wp9_find at hw
  refine r_aload_n C (pc := 0) 0 rfl d9_find_0 ?_
  refine r_iconst C (pc := 1) (v := 0) d9_find_1 (by decide) ?_
  refine p9_frames C (pc := 2) (Nat.le_of_ble_eq_true rfl) w9_128 d9_find_2 ?_
  refine r_S (fun S1 eS1 => ?_)
  have hw := hw S1 eS1
  refine r_aload_n C (pc := 5) 0 rfl d9_find_5 ?_
  refine r_iconst C (pc := 6) (v := 0) d9_find_6 (by decide) ?_
  refine p9_height C (pc := 7) (Nat.le_of_ble_eq_true rfl) w9_122 d9_find_7 ?_
  refine r_S (fun S2 eS2 => ?_)
  have hw := hw S2 eS2
  refine r_aload_n C (pc := 10) 0 rfl d9_find_10 ?_
  refine r_iconst C (pc := 11) (v := 0) d9_find_11 (by decide) ?_
  refine p9_bad C (pc := 12) (Nat.le_of_ble_eq_true rfl) (Or.inl rfl) w9_125 d9_find_12 ?_
  refine r_S (fun S3 eS3 => ?_)
  have hw := hw S3 eS3
  refine r_aload_n C (pc := 15) 0 rfl d9_find_15 ?_
  refine r_iconst C (pc := 16) (v := 0) d9_find_16 (by decide) ?_
  refine r_aload_n C (pc := 17) 0 rfl d9_find_17 ?_
  refine g9_result C (pc := 18) (Nat.le_of_ble_eq_true rfl) w9_19 d9_find_18 ?_
  refine r_iload_n C (pc := 21) 1 rfl d9_find_21 ?_
  have hi1 := hw.1
  have hw := hw.2
  refine ld1903 C (pc := 22) (Nat.le_of_ble_eq_true rfl) hi1 d9_find_22 ?_
  refine r_callVv C (pc := 23) (fun sz => ct9_begin l D ca ρ sz C.2.2.2.2.2.2.1 hw) mf9_begin w9_154 rfl (Nat.le_of_ble_eq_true rfl) rfl rfl rfl rfl ⟨Nat.le_of_ble_eq_true rfl, Nat.le_of_ble_eq_true rfl⟩ rfl rfl (Nat.le_of_ble_eq_true rfl) ⟨Nat.zero_le _, Nat.zero_le _⟩ d9_find_23 (fun S4 hw => ?_)
  refine r_iconst C (pc := 26) (v := 0) d9_find_26 (by decide) ?_
  refine r_istore_n C (pc := 27) (ls' := [(2, .int 0), (0, .ref (ρ 9 0)), (1, .int x1)]) (Nat.le_of_ble_eq_true rfl) rfl d9_find_27 ?_
  refine r_sub (ls' := [(0, .ref (ρ 9 0)), (1, .int x1), (2, .int 0)]) [1, 2, 0] rfl ?_
  obtain ⟨n, hw⟩ := hw
  exact nd9_find_28 C hr  n _ _ hw
set_option maxRecDepth 20000 in
theorem nd9_check_68 {p : Program} {l : Launch} {e : Env} {s : State} {m : MethodId} {args : Array Value} {below : List Frame} {meth : Method} {c : Code} {D : va_G} {ca : Nat → ClassId} {ρ : Nat → Nat → Nat}  {Q : Int32 → St → Prop} {K : Int32 → Int32 → St → Prop} {x1 : Int32} {x2 : Int32} {S : St} (C : Cx false p l s m meth c R9 b9_check 3 D ca ρ) (hr : meth.sig.returnType = (some .int))  (hK : ∀ (x1 : Int32) (x2 : Int32) (S : St) , K x1 x2 S → wm false p l e { frames := 6, cells := 0, slots := 0, locals := 137 } s m args below meth c D ca ρ 3 0 0 (qi false below args s D ca ρ 0 0 Q) 27 [(0, .ref (ρ 9 0)), (1, .int x1), (2, .int x2)] [] S)  (hw : wp9_check_68 K  Q x1 x2 S) : wm false p l e { frames := 6, cells := 0, slots := 0, locals := 137 } s m args below meth c D ca ρ 3 0 0 (qi false below args s D ca ρ 0 0 Q) 68 [(0, .ref (ρ 9 0)), (1, .int x1), (2, .int x2)] [] S := by
  unfold wp9_check_68 at hw
  obtain ⟨x2_1, ex2_1⟩ : ∃ y : Int32, y = x2 + 1 := ⟨_, rfl⟩
  have hw := hw x2_1 ex2_1
  refine r_iinc C (pc := 68) (v := x2_1) (ls' := [(2, .int x2_1), (0, .ref (ρ 9 0)), (1, .int x1)]) 2 rfl (by rw [ex2_1]; rfl) (Nat.le_of_ble_eq_true rfl) rfl d9_check_68 ?_
  refine r_goto C (pc := 71) (tgt := 27) d9_check_71 (by decide) ?_
  refine r_sub (ls' := [(0, .ref (ρ 9 0)), (1, .int x1), (2, .int x2_1)]) [1, 2, 0] rfl ?_
  exact hK _ _ _ hw
set_option maxRecDepth 20000 in
theorem nd9_check_59 {p : Program} {l : Launch} {e : Env} {s : State} {m : MethodId} {args : Array Value} {below : List Frame} {meth : Method} {c : Code} {D : va_G} {ca : Nat → ClassId} {ρ : Nat → Nat → Nat}  {Q : Int32 → St → Prop} {K : Int32 → Int32 → St → Prop} {x1 : Int32} {x2 : Int32} {s1 : Int32} {S : St} (C : Cx false p l s m meth c R9 b9_check 3 D ca ρ) (hr : meth.sig.returnType = (some .int))  (hK : ∀ (x1 : Int32) (x2 : Int32) (S : St) , K x1 x2 S → wm false p l e { frames := 6, cells := 0, slots := 0, locals := 137 } s m args below meth c D ca ρ 3 0 0 (qi false below args s D ca ρ 0 0 Q) 27 [(0, .ref (ρ 9 0)), (1, .int x1), (2, .int x2)] [] S)  (hw : wp9_check_59 K  Q x1 x2 s1 S) : wm false p l e { frames := 6, cells := 0, slots := 0, locals := 137 } s m args below meth c D ca ρ 3 0 0 (qi false below args s D ca ρ 0 0 Q) 59 [(0, .ref (ρ 9 0)), (1, .int x1), (2, .int x2)] [.int s1, .ref (ρ 9 0)] S := by
  unfold wp9_check_59 at hw
  refine r_iconst C (pc := 59) (v := 2) d9_check_59 (by decide) ?_
  refine r_callVi C (pc := 60) (fun sz => ct9_good l D ca ρ sz C.2.2.2.2.2.2.1 hw) mf9_good w9_100 rfl (Nat.le_of_ble_eq_true rfl) rfl rfl rfl rfl ⟨Nat.le_of_ble_eq_true rfl, Nat.le_of_ble_eq_true rfl⟩ rfl rfl (Nat.le_of_ble_eq_true rfl) ⟨Nat.zero_le _, Nat.zero_le _⟩ d9_check_60 (fun r1 S1 hw => ?_)
  refine r_if_ne C (pc := 63) (tgt := 68) d9_check_63 (by decide) (fun c1 => ?_) (fun c1 => ?_)
  · have hw := hw.1 c1
    refine r_sub (ls' := [(0, .ref (ρ 9 0)), (1, .int x1), (2, .int x2)]) [0, 1, 2] rfl ?_
    exact nd9_check_68 C hr hK hw
  · have hw := hw.2 c1
    refine r_iconst C (pc := 66) (v := 0) d9_check_66 (by decide) ?_
    exact r_iret C (pc := 67) hr d9_check_67 hw
set_option maxRecDepth 20000 in
theorem nd9_check_27 {p : Program} {l : Launch} {e : Env} {s : State} {m : MethodId} {args : Array Value} {below : List Frame} {meth : Method} {c : Code} {D : va_G} {ca : Nat → ClassId} {ρ : Nat → Nat → Nat}  {Q : Int32 → St → Prop} (C : Cx false p l s m meth c R9 b9_check 3 D ca ρ) (hr : meth.sig.returnType = (some .int))  : ∀ (n : Nat) (x1 : Int32) (x2 : Int32) (S : St) , wp9_check_27  Q n x1 x2 S → wm false p l e { frames := 6, cells := 0, slots := 0, locals := 137 } s m args below meth c D ca ρ 3 0 0 (qi false below args s D ca ρ 0 0 Q) 27 [(0, .ref (ρ 9 0)), (1, .int x1), (2, .int x2)] [] S := by
  intro n
  induction n with
  | zero => intro x1 x2 S  hw; exact hw.elim
  | succ n ih =>
    intro x1 x2 S  hw
    unfold wp9_check_27 at hw
    refine r_iload_n C (pc := 27) 2 rfl d9_check_27 ?_
    refine r_bipush C (pc := 28) (v := 6) d9_check_28 (by decide) ?_
    refine r_icmp_ge C (pc := 30) (tgt := 74) d9_check_30 (by decide) (fun c1 => ?_) (fun c1 => ?_)
    · have hw := hw.1 c1
      refine r_aload_n C (pc := 74) 0 rfl d9_check_74 ?_
      refine r_iconst C (pc := 75) (v := 1) d9_check_75 (by decide) ?_
      refine p9_checked C (pc := 76) (Nat.le_of_ble_eq_true rfl) (Or.inr rfl) w9_111 d9_check_76 ?_
      refine r_S (fun S1 eS1 => ?_)
      have hw := hw S1 eS1
      refine r_iload_n C (pc := 79) 1 rfl d9_check_79 ?_
      exact r_iret C (pc := 80) hr d9_check_80 hw
    · have hw := hw.2 c1
      refine r_aload_n C (pc := 33) 0 rfl d9_check_33 ?_
      refine g9_length C (pc := 34) (Nat.le_of_ble_eq_true rfl) w9_25 d9_check_34 ?_
      refine r_iload_n C (pc := 37) 2 rfl d9_check_37 ?_
      have hi2 := hw.1
      have hw := hw.2
      refine ld1905 C (pc := 38) (Nat.le_of_ble_eq_true rfl) hi2 d9_check_38 ?_
      refine r_if_le C (pc := 39) (tgt := 68) d9_check_39 (by decide) (fun c3 => ?_) (fun c3 => ?_)
      · have hw := hw.1 c3
        refine r_sub (ls' := [(0, .ref (ρ 9 0)), (1, .int x1), (2, .int x2)]) [0, 1, 2] rfl ?_
        exact nd9_check_68 C hr ih hw
      · have hw := hw.2 c3
        obtain ⟨x1_1, ex1_1⟩ : ∃ y : Int32, y = x1 + 1 := ⟨_, rfl⟩
        have hw := hw x1_1 ex1_1
        refine r_iinc C (pc := 42) (v := x1_1) (ls' := [(1, .int x1_1), (0, .ref (ρ 9 0)), (2, .int x2)]) 1 rfl (by rw [ex1_1]; rfl) (Nat.le_of_ble_eq_true rfl) rfl d9_check_42 ?_
        refine r_aload_n C (pc := 45) 1 rfl d9_check_45 ?_
        refine r_aload_n C (pc := 46) 1 rfl d9_check_46 ?_
        refine r_iload_n C (pc := 47) 2 rfl d9_check_47 ?_
        refine r_callVi C (pc := 48) (fun sz => ct9_find l D ca ρ sz C.2.2.2.2.2.2.1 hw) mf9_find w9_184 rfl (Nat.le_of_ble_eq_true rfl) rfl rfl rfl rfl ⟨Nat.le_of_ble_eq_true rfl, Nat.le_of_ble_eq_true rfl⟩ rfl rfl (Nat.le_of_ble_eq_true rfl) ⟨Nat.zero_le _, Nat.zero_le _⟩ d9_check_48 (fun r1 S2 hw => ?_)
        refine r_if_ge C (pc := 51) (tgt := 58) d9_check_51 (by decide) (fun c4 => ?_) (fun c4 => ?_)
        · have hw := hw.1 c4
          refine r_iconst C (pc := 58) (v := 0) d9_check_58 (by decide) ?_
          refine r_sub (ls' := [(0, .ref (ρ 9 0)), (1, .int x1_1), (2, .int x2)]) [1, 0, 2] rfl ?_
          exact nd9_check_59 C hr ih hw
        · have hw := hw.2 c4
          refine r_iconst C (pc := 54) (v := 1) d9_check_54 (by decide) ?_
          refine r_goto C (pc := 55) (tgt := 59) d9_check_55 (by decide) ?_
          refine r_sub (ls' := [(0, .ref (ρ 9 0)), (1, .int x1_1), (2, .int x2)]) [1, 0, 2] rfl ?_
          exact nd9_check_59 C hr ih hw
set_option maxRecDepth 20000 in
theorem nd9_check_14 {p : Program} {l : Launch} {e : Env} {s : State} {m : MethodId} {args : Array Value} {below : List Frame} {meth : Method} {c : Code} {D : va_G} {ca : Nat → ClassId} {ρ : Nat → Nat → Nat}  {Q : Int32 → St → Prop} {s1 : Int32} {S : St} (C : Cx false p l s m meth c R9 b9_check 3 D ca ρ) (hr : meth.sig.returnType = (some .int))   (hw : wp9_check_14  Q s1 S) : wm false p l e { frames := 6, cells := 0, slots := 0, locals := 137 } s m args below meth c D ca ρ 3 0 0 (qi false below args s D ca ρ 0 0 Q) 14 [(0, .ref (ρ 9 0))] [.int s1, .ref (ρ 9 0)] S := by
  unfold wp9_check_14 at hw
  refine r_iconst C (pc := 14) (v := 1) d9_check_14 (by decide) ?_
  refine r_callVi C (pc := 15) (fun sz => ct9_good l D ca ρ sz C.2.2.2.2.2.2.1 hw) mf9_good w9_100 rfl (Nat.le_of_ble_eq_true rfl) rfl rfl rfl rfl ⟨Nat.le_of_ble_eq_true rfl, Nat.le_of_ble_eq_true rfl⟩ rfl rfl (Nat.le_of_ble_eq_true rfl) ⟨Nat.zero_le _, Nat.zero_le _⟩ d9_check_15 (fun r1 S1 hw => ?_)
  refine r_if_ne C (pc := 18) (tgt := 23) d9_check_18 (by decide) (fun c1 => ?_) (fun c1 => ?_)
  · have hw := hw.1 c1
    refine r_iconst C (pc := 23) (v := 0) d9_check_23 (by decide) ?_
    refine r_istore_n C (pc := 24) (ls' := [(1, .int 0), (0, .ref (ρ 9 0))]) (Nat.le_of_ble_eq_true rfl) rfl d9_check_24 ?_
    refine r_iconst C (pc := 25) (v := 0) d9_check_25 (by decide) ?_
    refine r_istore_n C (pc := 26) (ls' := [(2, .int 0), (1, .int 0), (0, .ref (ρ 9 0))]) (Nat.le_of_ble_eq_true rfl) rfl d9_check_26 ?_
    refine r_sub (ls' := [(0, .ref (ρ 9 0)), (1, .int 0), (2, .int 0)]) [2, 1, 0] rfl ?_
    obtain ⟨n, hw⟩ := hw
    exact nd9_check_27 C hr  n _ _ _ hw
  · have hw := hw.2 c1
    refine r_iconst C (pc := 21) (v := 0) d9_check_21 (by decide) ?_
    exact r_iret C (pc := 22) hr d9_check_22 hw
set_option maxRecDepth 20000 in
theorem ct9_check (l : Launch) (D : va_G) (ca : Nat → ClassId) (ρ : Nat → Nat → Nat) (sz : Nat) {S : St}  {Q : Int32 → St → Prop} (hAp : Ap false ρ)  (hw : wp9_check S Q) : Met l y9_check [Cond.code y9_check b9_check 3 (some .int)] { frames := 6, cells := 0, slots := 0, locals := 137 } (va_Pc [.ref (ρ 9 0)] (PreU false D ca ρ sz S)) (va_Qi Q (PostU false D ca ρ) (Ar false ρ sz)) 0 0 (Ar false ρ sz) := by
  refine met_of_wm (own := R9) (ls0 := [(0, .ref (ρ 9 0))]) rfl rfl hAp (Nat.le_of_ble_eq_true rfl) rfl fun p e s m args below meth c C hr hz => ?_
  subst hz
  unfold wp9_check at hw
  refine r_aload_n C (pc := 0) 0 rfl d9_check_0 ?_
  refine r_aload_n C (pc := 1) 0 rfl d9_check_1 ?_
  refine g9_status C (pc := 2) (Nat.le_of_ble_eq_true rfl) w9_104 d9_check_2 ?_
  refine r_iconst C (pc := 5) (v := 1) d9_check_5 (by decide) ?_
  refine r_icmp_eq C (pc := 6) (tgt := 13) d9_check_6 (by decide) (fun c1 => ?_) (fun c1 => ?_)
  · have hw := hw.1 c1
    refine r_iconst C (pc := 13) (v := 0) d9_check_13 (by decide) ?_
    refine r_sub (ls' := [(0, .ref (ρ 9 0))]) [0] rfl ?_
    exact nd9_check_14 C hr hw
  · have hw := hw.2 c1
    refine r_iconst C (pc := 9) (v := 1) d9_check_9 (by decide) ?_
    refine r_goto C (pc := 10) (tgt := 14) d9_check_10 (by decide) ?_
    refine r_sub (ls' := [(0, .ref (ρ 9 0))]) [0] rfl ?_
    exact nd9_check_14 C hr hw
set_option maxRecDepth 20000 in
theorem nd9_fault_114 {p : Program} {l : Launch} {e : Env} {s : State} {m : MethodId} {args : Array Value} {below : List Frame} {meth : Method} {c : Code} {D : va_G} {ca : Nat → ClassId} {ρ : Nat → Nat → Nat} {x1 : Int32} {Q : Int32 → St → Prop} (C : Cx false p l s m meth c R9 b9_fault 6 D ca ρ) (hr : meth.sig.returnType = (some .int))  : ∀ (n : Nat) (x2 : Int32) (x3 : Int32) (x4 : Int32) (x5 : Int32) (S : St) , wp9_fault_114 x1 Q n x2 x3 x4 x5 S → wm false p l e { frames := 6, cells := 0, slots := 0, locals := 137 } s m args below meth c D ca ρ 6 0 0 (qi false below args s D ca ρ 0 0 Q) 114 [(0, .ref (ρ 9 0)), (2, .int x2), (3, .int x3), (4, .int x4), (5, .int x5)] [] S := by
  intro n
  induction n with
  | zero => intro x2 x3 x4 x5 S  hw; exact hw.elim
  | succ n ih =>
    intro x2 x3 x4 x5 S  hw
    unfold wp9_fault_114 at hw
    refine r_iload C (pc := 114) 4 rfl d9_fault_114 ?_
    refine r_bipush C (pc := 116) (v := 60) d9_fault_116 (by decide) ?_
    refine r_icmp_ge C (pc := 118) (tgt := 175) d9_fault_118 (by decide) (fun c1 => ?_) (fun c1 => ?_)
    · have hw := hw.1 c1
      refine r_aload_n C (pc := 175) 0 rfl d9_fault_175 ?_
      refine r_iload_n C (pc := 176) 1 rfl d9_fault_176 ?_
      refine p9_height C (pc := 177) (Nat.le_of_ble_eq_true rfl) w9_122 d9_fault_177 ?_
      refine r_S (fun S1 eS1 => ?_)
      have hw := hw S1 eS1
      refine r_aload_n C (pc := 180) 0 rfl d9_fault_180 ?_
      refine r_iload_n C (pc := 181) 2 rfl d9_fault_181 ?_
      refine p9_frames C (pc := 182) (Nat.le_of_ble_eq_true rfl) w9_128 d9_fault_182 ?_
      refine r_S (fun S2 eS2 => ?_)
      have hw := hw S2 eS2
      refine r_iload C (pc := 185) 3 rfl d9_fault_185 ?_
      exact r_iret C (pc := 187) hr d9_fault_187 hw
    · have hw := hw.2 c1
      refine r_aload_n C (pc := 121) 0 rfl d9_fault_121 ?_
      refine g9_frameOp C (pc := 122) (Nat.le_of_ble_eq_true rfl) w9_44 d9_fault_122 ?_
      refine r_iload C (pc := 125) 4 rfl d9_fault_125 ?_
      refine r_aload_n C (pc := 127) 0 rfl d9_fault_127 ?_
      refine g9_keep C (pc := 128) (Nat.le_of_ble_eq_true rfl) w9_85 d9_fault_128 ?_
      refine r_iload C (pc := 131) 4 rfl d9_fault_131 ?_
      have hi2 := hw.1
      have hw := hw.2
      refine ld1940 C (pc := 133) (Nat.le_of_ble_eq_true rfl) hi2 d9_fault_133 ?_
      have hi3 := hw.1
      have hw := hw.2
      refine st1915 C (pc := 134) (Nat.le_of_ble_eq_true rfl) hi3 d9_fault_134 ?_
      refine r_S (fun S3 eS3 => ?_)
      have hw := hw S3 eS3
      refine r_aload_n C (pc := 135) 0 rfl d9_fault_135 ?_
      refine g9_frameKind C (pc := 136) (Nat.le_of_ble_eq_true rfl) w9_47 d9_fault_136 ?_
      refine r_iload C (pc := 139) 4 rfl d9_fault_139 ?_
      refine r_aload_n C (pc := 141) 0 rfl d9_fault_141 ?_
      refine g9_keep C (pc := 142) (Nat.le_of_ble_eq_true rfl) w9_85 d9_fault_142 ?_
      refine r_bipush C (pc := 145) (v := 60) d9_fault_145 (by decide) ?_
      refine r_iload C (pc := 147) 4 rfl d9_fault_147 ?_
      refine r_iadd C (pc := 149) d9_fault_149 ?_
      have hi4 := hw.1
      have hw := hw.2
      refine ld1940 C (pc := 150) (Nat.le_of_ble_eq_true rfl) hi4 d9_fault_150 ?_
      have hi5 := hw.1
      have hw := hw.2
      refine st1916 C (pc := 151) (Nat.le_of_ble_eq_true rfl) hi5 d9_fault_151 ?_
      refine r_S (fun S4 eS4 => ?_)
      have hw := hw S4 eS4
      refine r_aload_n C (pc := 152) 0 rfl d9_fault_152 ?_
      refine g9_frameBase C (pc := 153) (Nat.le_of_ble_eq_true rfl) w9_50 d9_fault_153 ?_
      refine r_iload C (pc := 156) 4 rfl d9_fault_156 ?_
      refine r_aload_n C (pc := 158) 0 rfl d9_fault_158 ?_
      refine g9_keep C (pc := 159) (Nat.le_of_ble_eq_true rfl) w9_85 d9_fault_159 ?_
      refine r_bipush C (pc := 162) (v := 120) d9_fault_162 (by decide) ?_
      refine r_iload C (pc := 164) 4 rfl d9_fault_164 ?_
      refine r_iadd C (pc := 166) d9_fault_166 ?_
      have hi6 := hw.1
      have hw := hw.2
      refine ld1940 C (pc := 167) (Nat.le_of_ble_eq_true rfl) hi6 d9_fault_167 ?_
      have hi7 := hw.1
      have hw := hw.2
      refine st1917 C (pc := 168) (Nat.le_of_ble_eq_true rfl) hi7 d9_fault_168 ?_
      refine r_S (fun S5 eS5 => ?_)
      have hw := hw S5 eS5
      obtain ⟨x5_1, ex5_1⟩ : ∃ y : Int32, y = x5 + 1 := ⟨_, rfl⟩
      have hw := hw x5_1 ex5_1
      refine r_iinc C (pc := 169) (v := x5_1) (ls' := [(5, .int x5_1), (0, .ref (ρ 9 0)), (2, .int x2), (3, .int x3), (4, .int x4)]) 4 rfl (by rw [ex5_1]; rfl) (Nat.le_of_ble_eq_true rfl) rfl d9_fault_169 ?_
      refine r_goto C (pc := 172) (tgt := 114) d9_fault_172 (by decide) ?_
      refine r_sub (ls' := [(0, .ref (ρ 9 0)), (2, .int x2), (3, .int x3), (4, .int x4), (5, .int x5_1)]) [1, 2, 3, 4, 0] rfl ?_
      exact ih _ _ _ _ _ hw
set_option maxRecDepth 20000 in
theorem nd9_fault_43 {p : Program} {l : Launch} {e : Env} {s : State} {m : MethodId} {args : Array Value} {below : List Frame} {meth : Method} {c : Code} {D : va_G} {ca : Nat → ClassId} {ρ : Nat → Nat → Nat} {x1 : Int32} {Q : Int32 → St → Prop} (C : Cx false p l s m meth c R9 b9_fault 6 D ca ρ) (hr : meth.sig.returnType = (some .int))  : ∀ (n : Nat) (x2 : Int32) (x3 : Int32) (x4 : Int32) (S : St) , wp9_fault_43 x1 Q n x2 x3 x4 S → wm false p l e { frames := 6, cells := 0, slots := 0, locals := 137 } s m args below meth c D ca ρ 6 0 0 (qi false below args s D ca ρ 0 0 Q) 43 [(0, .ref (ρ 9 0)), (1, .int x1), (2, .int x2), (3, .int x3), (4, .int x4)] [] S := by
  intro n
  induction n with
  | zero => intro x2 x3 x4 S  hw; exact hw.elim
  | succ n ih =>
    intro x2 x3 x4 S  hw
    unfold wp9_fault_43 at hw
    refine r_iload C (pc := 43) 4 rfl d9_fault_43 ?_
    refine r_bipush C (pc := 45) (v := 60) d9_fault_45 (by decide) ?_
    refine r_icmp_ge C (pc := 47) (tgt := 104) d9_fault_47 (by decide) (fun c1 => ?_) (fun c1 => ?_)
    · have hw := hw.1 c1
      refine r_aload_n C (pc := 104) 0 rfl d9_fault_104 ?_
      refine r_iload_n C (pc := 105) 1 rfl d9_fault_105 ?_
      refine r_callVi C (pc := 106) (fun sz => ct9_find l D ca ρ sz C.2.2.2.2.2.2.1 hw) mf9_find w9_184 rfl (Nat.le_of_ble_eq_true rfl) rfl rfl rfl rfl ⟨Nat.le_of_ble_eq_true rfl, Nat.le_of_ble_eq_true rfl⟩ rfl rfl (Nat.le_of_ble_eq_true rfl) ⟨Nat.zero_le _, Nat.zero_le _⟩ d9_fault_106 (fun r1 S1 hw => ?_)
      refine r_istore C (pc := 109) (ls' := [(4, .int r1), (0, .ref (ρ 9 0)), (1, .int x1), (2, .int x2), (3, .int x3)]) (Nat.le_of_ble_eq_true rfl) rfl d9_fault_109 ?_
      refine r_iconst C (pc := 111) (v := 0) d9_fault_111 (by decide) ?_
      refine r_istore C (pc := 112) (ls' := [(5, .int 0), (4, .int r1), (0, .ref (ρ 9 0)), (1, .int x1), (2, .int x2), (3, .int x3)]) (Nat.le_of_ble_eq_true rfl) rfl d9_fault_112 ?_
      refine r_sub (ls' := [(0, .ref (ρ 9 0)), (2, .int x2), (3, .int x3), (4, .int r1), (5, .int 0)]) [2, 4, 5, 1, 0] rfl ?_
      obtain ⟨n, hw⟩ := hw
      exact nd9_fault_114 C hr  n _ _ _ _ _ hw
    · have hw := hw.2 c1
      refine r_aload_n C (pc := 50) 0 rfl d9_fault_50 ?_
      refine g9_keep C (pc := 51) (Nat.le_of_ble_eq_true rfl) w9_85 d9_fault_51 ?_
      refine r_iload C (pc := 54) 4 rfl d9_fault_54 ?_
      refine r_aload_n C (pc := 56) 0 rfl d9_fault_56 ?_
      refine g9_frameOp C (pc := 57) (Nat.le_of_ble_eq_true rfl) w9_44 d9_fault_57 ?_
      refine r_iload C (pc := 60) 4 rfl d9_fault_60 ?_
      have hi2 := hw.1
      have hw := hw.2
      refine ld1915 C (pc := 62) (Nat.le_of_ble_eq_true rfl) hi2 d9_fault_62 ?_
      have hi3 := hw.1
      have hw := hw.2
      refine st1940 C (pc := 63) (Nat.le_of_ble_eq_true rfl) hi3 d9_fault_63 ?_
      refine r_S (fun S2 eS2 => ?_)
      have hw := hw S2 eS2
      refine r_aload_n C (pc := 64) 0 rfl d9_fault_64 ?_
      refine g9_keep C (pc := 65) (Nat.le_of_ble_eq_true rfl) w9_85 d9_fault_65 ?_
      refine r_bipush C (pc := 68) (v := 60) d9_fault_68 (by decide) ?_
      refine r_iload C (pc := 70) 4 rfl d9_fault_70 ?_
      refine r_iadd C (pc := 72) d9_fault_72 ?_
      refine r_aload_n C (pc := 73) 0 rfl d9_fault_73 ?_
      refine g9_frameKind C (pc := 74) (Nat.le_of_ble_eq_true rfl) w9_47 d9_fault_74 ?_
      refine r_iload C (pc := 77) 4 rfl d9_fault_77 ?_
      have hi4 := hw.1
      have hw := hw.2
      refine ld1916 C (pc := 79) (Nat.le_of_ble_eq_true rfl) hi4 d9_fault_79 ?_
      have hi5 := hw.1
      have hw := hw.2
      refine st1940 C (pc := 80) (Nat.le_of_ble_eq_true rfl) hi5 d9_fault_80 ?_
      refine r_S (fun S3 eS3 => ?_)
      have hw := hw S3 eS3
      refine r_aload_n C (pc := 81) 0 rfl d9_fault_81 ?_
      refine g9_keep C (pc := 82) (Nat.le_of_ble_eq_true rfl) w9_85 d9_fault_82 ?_
      refine r_bipush C (pc := 85) (v := 120) d9_fault_85 (by decide) ?_
      refine r_iload C (pc := 87) 4 rfl d9_fault_87 ?_
      refine r_iadd C (pc := 89) d9_fault_89 ?_
      refine r_aload_n C (pc := 90) 0 rfl d9_fault_90 ?_
      refine g9_frameBase C (pc := 91) (Nat.le_of_ble_eq_true rfl) w9_50 d9_fault_91 ?_
      refine r_iload C (pc := 94) 4 rfl d9_fault_94 ?_
      have hi6 := hw.1
      have hw := hw.2
      refine ld1917 C (pc := 96) (Nat.le_of_ble_eq_true rfl) hi6 d9_fault_96 ?_
      have hi7 := hw.1
      have hw := hw.2
      refine st1940 C (pc := 97) (Nat.le_of_ble_eq_true rfl) hi7 d9_fault_97 ?_
      refine r_S (fun S4 eS4 => ?_)
      have hw := hw S4 eS4
      obtain ⟨x4_1, ex4_1⟩ : ∃ y : Int32, y = x4 + 1 := ⟨_, rfl⟩
      have hw := hw x4_1 ex4_1
      refine r_iinc C (pc := 98) (v := x4_1) (ls' := [(4, .int x4_1), (0, .ref (ρ 9 0)), (1, .int x1), (2, .int x2), (3, .int x3)]) 4 rfl (by rw [ex4_1]; rfl) (Nat.le_of_ble_eq_true rfl) rfl d9_fault_98 ?_
      refine r_goto C (pc := 101) (tgt := 43) d9_fault_101 (by decide) ?_
      refine r_sub (ls' := [(0, .ref (ρ 9 0)), (1, .int x1), (2, .int x2), (3, .int x3), (4, .int x4_1)]) [1, 2, 3, 4, 0] rfl ?_
      exact ih _ _ _ _ hw
set_option maxRecDepth 20000 in
theorem ct9_fault (l : Launch) (D : va_G) (ca : Nat → ClassId) (ρ : Nat → Nat → Nat) (sz : Nat) {S : St} {x1 : Int32} {Q : Int32 → St → Prop} (hAp : Ap false ρ)  (hw : wp9_fault S x1 Q) : Met l y9_fault [Cond.code y9_fault b9_fault 6 (some .int)] { frames := 6, cells := 0, slots := 0, locals := 137 } (va_Pc [.ref (ρ 9 0), .int x1] (PreU false D ca ρ sz S)) (va_Qi Q (PostU false D ca ρ) (Ar false ρ sz)) 0 0 (Ar false ρ sz) := by
  refine met_of_wm (own := R9) (ls0 := [(0, .ref (ρ 9 0)), (1, .int x1)]) rfl rfl hAp (Nat.le_of_ble_eq_true rfl) rfl fun p e s m args below meth c C hr hz => ?_
  subst hz
  unfold wp9_fault at hw
  refine r_aload_n C (pc := 0) 0 rfl d9_fault_0 ?_
  refine r_iload_n C (pc := 1) 1 rfl d9_fault_1 ?_
  refine r_iconst C (pc := 2) (v := 0) d9_fault_2 (by decide) ?_
  refine r_iconst C (pc := 3) (v := 5) d9_fault_3 (by decide) ?_
  refine r_callSi C (pc := 4) (fun sz => ct9_in l D ca ρ sz C.2.2.2.2.2.2.1 hw) mf9_in w9_92 rfl rfl ⟨Nat.le_of_ble_eq_true rfl, Nat.le_of_ble_eq_true rfl⟩ rfl rfl (Nat.le_of_ble_eq_true rfl) ⟨Nat.zero_le _, Nat.zero_le _⟩ d9_fault_4 (fun r1 S1 hw => ?_)
  refine r_iconst C (pc := 7) (v := 1) d9_fault_7 (by decide) ?_
  refine r_callVi C (pc := 8) (fun sz => ct9_good l D ca ρ sz C.2.2.2.2.2.2.1 hw) mf9_good w9_100 rfl (Nat.le_of_ble_eq_true rfl) rfl rfl rfl rfl ⟨Nat.le_of_ble_eq_true rfl, Nat.le_of_ble_eq_true rfl⟩ rfl rfl (Nat.le_of_ble_eq_true rfl) ⟨Nat.zero_le _, Nat.zero_le _⟩ d9_fault_8 (fun r2 S2 hw => ?_)
  refine r_if_ne C (pc := 11) (tgt := 16) d9_fault_11 (by decide) (fun c1 => ?_) (fun c1 => ?_)
  · have hw := hw.1 c1
    refine r_aload_n C (pc := 16) 0 rfl d9_fault_16 ?_
    refine g9_height C (pc := 17) (Nat.le_of_ble_eq_true rfl) w9_122 d9_fault_17 ?_
    refine r_topi (fun x2_1 ex2_1 => ?_)
    have hw := hw x2_1 ex2_1
    refine r_istore_n C (pc := 20) (ls' := [(2, .int x2_1), (0, .ref (ρ 9 0)), (1, .int x1)]) (Nat.le_of_ble_eq_true rfl) rfl d9_fault_20 ?_
    refine r_aload_n C (pc := 21) 1 rfl d9_fault_21 ?_
    refine g9_frames C (pc := 22) (Nat.le_of_ble_eq_true rfl) w9_128 d9_fault_22 ?_
    refine r_topi (fun x3_1 ex3_1 => ?_)
    have hw := hw x3_1 ex3_1
    refine r_istore_n C (pc := 25) (ls' := [(3, .int x3_1), (2, .int x2_1), (0, .ref (ρ 9 0)), (1, .int x1)]) (Nat.le_of_ble_eq_true rfl) rfl d9_fault_25 ?_
    refine r_aload_n C (pc := 26) 2 rfl d9_fault_26 ?_
    refine g9_status C (pc := 27) (Nat.le_of_ble_eq_true rfl) w9_104 d9_fault_27 ?_
    refine r_iconst C (pc := 30) (v := 1) d9_fault_30 (by decide) ?_
    refine r_icmp_eq C (pc := 31) (tgt := 40) d9_fault_31 (by decide) (fun c2 => ?_) (fun c2 => ?_)
    · have hw := hw.1 c2
      refine r_iconst C (pc := 40) (v := 0) d9_fault_40 (by decide) ?_
      refine r_istore C (pc := 41) (ls' := [(4, .int 0), (3, .int x3_1), (2, .int x2_1), (0, .ref (ρ 9 0)), (1, .int x1)]) (Nat.le_of_ble_eq_true rfl) rfl d9_fault_41 ?_
      refine r_sub (ls' := [(0, .ref (ρ 9 0)), (1, .int x1), (2, .int x2_1), (3, .int x3_1), (4, .int 0)]) [3, 4, 2, 1, 0] rfl ?_
      obtain ⟨n, hw⟩ := hw
      exact nd9_fault_43 C hr  n _ _ _ _ hw
    · have hw := hw.2 c2
      refine r_aload_n C (pc := 34) 2 rfl d9_fault_34 ?_
      refine r_iload_n C (pc := 35) 3 rfl d9_fault_35 ?_
      refine r_callVi C (pc := 36) (fun sz => ct9_find l D ca ρ sz C.2.2.2.2.2.2.1 hw) mf9_find w9_184 rfl (Nat.le_of_ble_eq_true rfl) rfl rfl rfl rfl ⟨Nat.le_of_ble_eq_true rfl, Nat.le_of_ble_eq_true rfl⟩ rfl rfl (Nat.le_of_ble_eq_true rfl) ⟨Nat.zero_le _, Nat.zero_le _⟩ d9_fault_36 (fun r3 S3 hw => ?_)
      exact r_iret C (pc := 39) hr d9_fault_39 hw
  · have hw := hw.2 c1
    refine r_iconst C (pc := 14) (v := 0) d9_fault_14 (by decide) ?_
    exact r_iret C (pc := 15) hr d9_fault_15 hw
set_option maxRecDepth 20000 in
theorem nd9_argue_14 {p : Program} {l : Launch} {e : Env} {s : State} {m : MethodId} {args : Array Value} {below : List Frame} {meth : Method} {c : Code} {D : va_G} {ca : Nat → ClassId} {ρ : Nat → Nat → Nat} {x1 : Int32} {Q : Int32 → St → Prop} {s1 : Int32} {S : St} (C : Cx false p l s m meth c R9 b9_argue 2 D ca ρ) (hr : meth.sig.returnType = (some .int))   (hw : wp9_argue_14 x1 Q s1 S) : wm false p l e { frames := 1, cells := 0, slots := 0, locals := 22 } s m args below meth c D ca ρ 2 0 0 (qi false below args s D ca ρ 0 0 Q) 14 [(0, .ref (ρ 9 0)), (1, .int x1)] [.int s1, .ref (ρ 9 0)] S := by
  unfold wp9_argue_14 at hw
  refine r_iconst C (pc := 14) (v := 1) d9_argue_14 (by decide) ?_
  refine r_callVi C (pc := 15) (fun sz => ct9_good l D ca ρ sz C.2.2.2.2.2.2.1 hw) mf9_good w9_100 rfl (Nat.le_of_ble_eq_true rfl) rfl rfl rfl rfl ⟨Nat.le_of_ble_eq_true rfl, Nat.le_of_ble_eq_true rfl⟩ rfl rfl (Nat.le_of_ble_eq_true rfl) ⟨Nat.zero_le _, Nat.zero_le _⟩ d9_argue_15 (fun r1 S1 hw => ?_)
  refine r_if_ne C (pc := 18) (tgt := 23) d9_argue_18 (by decide) (fun c1 => ?_) (fun c1 => ?_)
  · have hw := hw.1 c1
    refine r_aload_n C (pc := 23) 0 rfl d9_argue_23 ?_
    refine g9_arguments C (pc := 24) (Nat.le_of_ble_eq_true rfl) w9_38 d9_argue_24 ?_
    refine r_aload_n C (pc := 27) 0 rfl d9_argue_27 ?_
    refine g9_argued C (pc := 28) (Nat.le_of_ble_eq_true rfl) w9_187 d9_argue_28 ?_
    refine r_iload_n C (pc := 31) 1 rfl d9_argue_31 ?_
    have hi2 := hw.1
    have hw := hw.2
    refine st1910 C (pc := 32) (Nat.le_of_ble_eq_true rfl) hi2 d9_argue_32 ?_
    refine r_S (fun S2 eS2 => ?_)
    have hw := hw S2 eS2
    refine r_aload_n C (pc := 33) 0 rfl d9_argue_33 ?_
    refine r_dup C (pc := 34) rfl d9_argue_34 ?_
    refine g9_argued C (pc := 35) (Nat.le_of_ble_eq_true rfl) w9_187 d9_argue_35 ?_
    refine r_iconst C (pc := 38) (v := 1) d9_argue_38 (by decide) ?_
    refine r_iadd C (pc := 39) d9_argue_39 ?_
    refine p9_argued C (pc := 40) (Nat.le_of_ble_eq_true rfl) w9_187 d9_argue_40 ?_
    refine r_S (fun S3 eS3 => ?_)
    have hw := hw S3 eS3
    refine r_aload_n C (pc := 43) 0 rfl d9_argue_43 ?_
    refine g9_argued C (pc := 44) (Nat.le_of_ble_eq_true rfl) w9_187 d9_argue_44 ?_
    exact r_iret C (pc := 47) hr d9_argue_47 hw
  · have hw := hw.2 c1
    refine r_iconst C (pc := 21) (v := 0) d9_argue_21 (by decide) ?_
    exact r_iret C (pc := 22) hr d9_argue_22 hw
set_option maxRecDepth 20000 in
theorem ct9_argue (l : Launch) (D : va_G) (ca : Nat → ClassId) (ρ : Nat → Nat → Nat) (sz : Nat) {S : St} {x1 : Int32} {Q : Int32 → St → Prop} (hAp : Ap false ρ)  (hw : wp9_argue S x1 Q) : Met l y9_argue [Cond.code y9_argue b9_argue 2 (some .int)] { frames := 1, cells := 0, slots := 0, locals := 22 } (va_Pc [.ref (ρ 9 0), .int x1] (PreU false D ca ρ sz S)) (va_Qi Q (PostU false D ca ρ) (Ar false ρ sz)) 0 0 (Ar false ρ sz) := by
  refine met_of_wm (own := R9) (ls0 := [(0, .ref (ρ 9 0)), (1, .int x1)]) rfl rfl hAp (Nat.le_of_ble_eq_true rfl) rfl fun p e s m args below meth c C hr hz => ?_
  subst hz
  unfold wp9_argue at hw
  refine r_aload_n C (pc := 0) 0 rfl d9_argue_0 ?_
  refine r_aload_n C (pc := 1) 0 rfl d9_argue_1 ?_
  refine g9_argued C (pc := 2) (Nat.le_of_ble_eq_true rfl) w9_187 d9_argue_2 ?_
  refine r_iconst C (pc := 5) (v := 3) d9_argue_5 (by decide) ?_
  refine r_icmp_ge C (pc := 6) (tgt := 13) d9_argue_6 (by decide) (fun c1 => ?_) (fun c1 => ?_)
  · have hw := hw.1 c1
    refine r_iconst C (pc := 13) (v := 0) d9_argue_13 (by decide) ?_
    refine r_sub (ls' := [(0, .ref (ρ 9 0)), (1, .int x1)]) [0, 1] rfl ?_
    exact nd9_argue_14 C hr hw
  · have hw := hw.2 c1
    refine r_iconst C (pc := 9) (v := 1) d9_argue_9 (by decide) ?_
    refine r_goto C (pc := 10) (tgt := 14) d9_argue_10 (by decide) ?_
    refine r_sub (ls' := [(0, .ref (ρ 9 0)), (1, .int x1)]) [0, 1] rfl ?_
    exact nd9_argue_14 C hr hw
set_option maxRecDepth 20000 in
theorem ct9_enter (l : Launch) (D : va_G) (ca : Nat → ClassId) (ρ : Nat → Nat → Nat) (sz : Nat) {S : St} {x1 : Int32} {x2 : Int32} {Q : St → Prop} (hAp : Ap false ρ)  (hw : wp9_enter S x1 x2 Q) : Met l y9_enter [Cond.code y9_enter b9_enter 3 none] { frames := 0, cells := 0, slots := 0, locals := 0 } (va_Pc [.ref (ρ 9 0), .int x1, .int x2] (PreU false D ca ρ sz S)) (va_Qv Q (PostU false D ca ρ) (Ar false ρ sz)) 0 0 (Ar false ρ sz) := by
  refine met_of_wm (own := R9) (ls0 := [(0, .ref (ρ 9 0)), (1, .int x1), (2, .int x2)]) rfl rfl hAp (Nat.le_of_ble_eq_true rfl) rfl fun p e s m args below meth c C hr hz => ?_
  subst hz
  unfold wp9_enter at hw
  refine r_aload_n C (pc := 0) 0 rfl d9_enter_0 ?_
  refine g9_callFunction C (pc := 1) (Nat.le_of_ble_eq_true rfl) w9_76 d9_enter_1 ?_
  refine r_aload_n C (pc := 4) 0 rfl d9_enter_4 ?_
  refine g9_calls C (pc := 5) (Nat.le_of_ble_eq_true rfl) w9_190 d9_enter_5 ?_
  refine r_iload_n C (pc := 8) 1 rfl d9_enter_8 ?_
  have hi1 := hw.1
  have hw := hw.2
  refine st1927 C (pc := 9) (Nat.le_of_ble_eq_true rfl) hi1 d9_enter_9 ?_
  refine r_S (fun S1 eS1 => ?_)
  have hw := hw S1 eS1
  refine r_aload_n C (pc := 10) 0 rfl d9_enter_10 ?_
  refine g9_callBack C (pc := 11) (Nat.le_of_ble_eq_true rfl) w9_79 d9_enter_11 ?_
  refine r_aload_n C (pc := 14) 0 rfl d9_enter_14 ?_
  refine g9_calls C (pc := 15) (Nat.le_of_ble_eq_true rfl) w9_190 d9_enter_15 ?_
  refine r_iload_n C (pc := 18) 2 rfl d9_enter_18 ?_
  have hi2 := hw.1
  have hw := hw.2
  refine st1928 C (pc := 19) (Nat.le_of_ble_eq_true rfl) hi2 d9_enter_19 ?_
  refine r_S (fun S2 eS2 => ?_)
  have hw := hw S2 eS2
  refine r_aload_n C (pc := 20) 0 rfl d9_enter_20 ?_
  refine g9_callFrames C (pc := 21) (Nat.le_of_ble_eq_true rfl) w9_82 d9_enter_21 ?_
  refine r_aload_n C (pc := 24) 0 rfl d9_enter_24 ?_
  refine g9_calls C (pc := 25) (Nat.le_of_ble_eq_true rfl) w9_190 d9_enter_25 ?_
  refine r_aload_n C (pc := 28) 0 rfl d9_enter_28 ?_
  refine g9_frames C (pc := 29) (Nat.le_of_ble_eq_true rfl) w9_128 d9_enter_29 ?_
  have hi3 := hw.1
  have hw := hw.2
  refine st1929 C (pc := 32) (Nat.le_of_ble_eq_true rfl) hi3 d9_enter_32 ?_
  refine r_S (fun S3 eS3 => ?_)
  have hw := hw S3 eS3
  refine r_aload_n C (pc := 33) 0 rfl d9_enter_33 ?_
  refine r_dup C (pc := 34) rfl d9_enter_34 ?_
  refine g9_calls C (pc := 35) (Nat.le_of_ble_eq_true rfl) w9_190 d9_enter_35 ?_
  refine r_iconst C (pc := 38) (v := 1) d9_enter_38 (by decide) ?_
  refine r_iadd C (pc := 39) d9_enter_39 ?_
  refine p9_calls C (pc := 40) (Nat.le_of_ble_eq_true rfl) w9_190 d9_enter_40 ?_
  refine r_S (fun S4 eS4 => ?_)
  have hw := hw S4 eS4
  refine r_aload_n C (pc := 43) 0 rfl d9_enter_43 ?_
  refine g9_frameOp C (pc := 44) (Nat.le_of_ble_eq_true rfl) w9_44 d9_enter_44 ?_
  refine r_aload_n C (pc := 47) 0 rfl d9_enter_47 ?_
  refine g9_frames C (pc := 48) (Nat.le_of_ble_eq_true rfl) w9_128 d9_enter_48 ?_
  refine r_iconst C (pc := 51) (v := 0) d9_enter_51 (by decide) ?_
  have hi4 := hw.1
  have hw := hw.2
  refine st1915 C (pc := 52) (Nat.le_of_ble_eq_true rfl) hi4 d9_enter_52 ?_
  refine r_S (fun S5 eS5 => ?_)
  have hw := hw S5 eS5
  refine r_aload_n C (pc := 53) 0 rfl d9_enter_53 ?_
  refine g9_frameKind C (pc := 54) (Nat.le_of_ble_eq_true rfl) w9_47 d9_enter_54 ?_
  refine r_aload_n C (pc := 57) 0 rfl d9_enter_57 ?_
  refine g9_frames C (pc := 58) (Nat.le_of_ble_eq_true rfl) w9_128 d9_enter_58 ?_
  refine r_aload_n C (pc := 61) 0 rfl d9_enter_61 ?_
  refine g9_result C (pc := 62) (Nat.le_of_ble_eq_true rfl) w9_19 d9_enter_62 ?_
  refine r_iload_n C (pc := 65) 1 rfl d9_enter_65 ?_
  have hi5 := hw.1
  have hw := hw.2
  refine ld1903 C (pc := 66) (Nat.le_of_ble_eq_true rfl) hi5 d9_enter_66 ?_
  have hi6 := hw.1
  have hw := hw.2
  refine st1916 C (pc := 67) (Nat.le_of_ble_eq_true rfl) hi6 d9_enter_67 ?_
  refine r_S (fun S6 eS6 => ?_)
  have hw := hw S6 eS6
  refine r_aload_n C (pc := 68) 0 rfl d9_enter_68 ?_
  refine g9_frameBase C (pc := 69) (Nat.le_of_ble_eq_true rfl) w9_50 d9_enter_69 ?_
  refine r_aload_n C (pc := 72) 0 rfl d9_enter_72 ?_
  refine g9_frames C (pc := 73) (Nat.le_of_ble_eq_true rfl) w9_128 d9_enter_73 ?_
  refine r_aload_n C (pc := 76) 0 rfl d9_enter_76 ?_
  refine g9_height C (pc := 77) (Nat.le_of_ble_eq_true rfl) w9_122 d9_enter_77 ?_
  have hi7 := hw.1
  have hw := hw.2
  refine st1917 C (pc := 80) (Nat.le_of_ble_eq_true rfl) hi7 d9_enter_80 ?_
  refine r_S (fun S7 eS7 => ?_)
  have hw := hw S7 eS7
  refine r_aload_n C (pc := 81) 0 rfl d9_enter_81 ?_
  refine r_dup C (pc := 82) rfl d9_enter_82 ?_
  refine g9_frames C (pc := 83) (Nat.le_of_ble_eq_true rfl) w9_128 d9_enter_83 ?_
  refine r_iconst C (pc := 86) (v := 1) d9_enter_86 (by decide) ?_
  refine r_iadd C (pc := 87) d9_enter_87 ?_
  refine p9_frames C (pc := 88) (Nat.le_of_ble_eq_true rfl) w9_128 d9_enter_88 ?_
  refine r_S (fun S8 eS8 => ?_)
  have hw := hw S8 eS8
  refine r_aload_n C (pc := 91) 0 rfl d9_enter_91 ?_
  refine r_iconst C (pc := 92) (v := 0) d9_enter_92 (by decide) ?_
  refine p9_at C (pc := 93) (Nat.le_of_ble_eq_true rfl) w9_193 d9_enter_93 ?_
  refine r_S (fun S9 eS9 => ?_)
  have hw := hw S9 eS9
  exact r_vret C (pc := 96) hr d9_enter_96 hw
