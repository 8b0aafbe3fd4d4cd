theorem fit1 : Bundle.fit (excN 1) = true ∧ (∀ n ∈ excC 1, Bundle.fit n = true) ∧ (excC 1).length ≤ 2 := by decide +kernel
theorem fit2 : Bundle.fit (excN 2) = true ∧ (∀ n ∈ excC 2, Bundle.fit n = true) ∧ (excC 2).length ≤ 2 := by decide +kernel
theorem fit3 : Bundle.fit (excN 3) = true ∧ (∀ n ∈ excC 3, Bundle.fit n = true) ∧ (excC 3).length ≤ 2 := by decide +kernel
theorem fit4 : Bundle.fit (excN 4) = true ∧ (∀ n ∈ excC 4, Bundle.fit n = true) ∧ (excC 4).length ≤ 2 := by decide +kernel
theorem fit5 : Bundle.fit (excN 5) = true ∧ (∀ n ∈ excC 5, Bundle.fit n = true) ∧ (excC 5).length ≤ 2 := by decide +kernel
theorem fit6 : Bundle.fit (excN 6) = true ∧ (∀ n ∈ excC 6, Bundle.fit n = true) ∧ (excC 6).length ≤ 2 := by decide +kernel
theorem fit7 : Bundle.fit (excN 7) = true ∧ (∀ n ∈ excC 7, Bundle.fit n = true) ∧ (excC 7).length ≤ 2 := by decide +kernel
theorem th8_116_118 : thrOk R8 116 118 6 := thrOk_of (by decide +kernel) (by decide +kernel)
theorem th8_158_160 : thrOk R8 158 160 4 := thrOk_of (by decide +kernel) (by decide +kernel)
theorem th8_161_163 : thrOk R8 161 163 7 := thrOk_of (by decide +kernel) (by decide +kernel)
theorem th8_48_50 : thrOk R8 48 50 1 := thrOk_of (by decide +kernel) (by decide +kernel)
theorem th8_55_57 : thrOk R8 55 57 2 := thrOk_of (by decide +kernel) (by decide +kernel)
theorem th8_73_75 : thrOk R8 73 75 3 := thrOk_of (by decide +kernel) (by decide +kernel)
theorem th8_84_86 : thrOk R8 84 86 5 := thrOk_of (by decide +kernel) (by decide +kernel)
set_option maxRecDepth 20000 in
theorem ct8_throwTrap (l : Launch) (htr : l.stackTraces = false) (D : va_G) (ca : Nat → ClassId) (ρ : Nat → Nat → Nat) (sz : Nat) {S : St} {x0 : Int32} {Q : St → Prop} {T : Nat → St → Prop} (hAp : Ap true ρ)  (hw : wp8_throwTrap S x0 Q T) : MetX l y8_throwTrap [Cond.code y8_throwTrap b8_throwTrap 1 none] { frames := 6, cells := 1, slots := 6, locals := 90 } (va_Pc [.int x0] (PreX true D ca ρ sz S)) (XQ (prv Q (PostU true D ca ρ)) T (PostU true D ca ρ) (Ar true ρ sz)) 1 6 (Ar true ρ sz) := by
  refine metX_of_wm (own := R8) (ls0 := [(0, .int x0)]) rfl rfl hAp (Nat.le_of_ble_eq_true rfl) rfl fun p e s m args below meth c C hr hz hX hZ => ?_
  subst hz
  unfold wp8_throwTrap at hw
  refine r_iload_n C (pc := 0) 0 rfl d8_throwTrap_0 ?_
  refine r_tsw_in C (pc := 1) (tgt := 32) 2 d8_throwTrap_1 ⟨by decide, by decide, rfl⟩ (by decide) (fun c1_0 => ?_) (fun c1_0 => ?_)
  · have hw := hw.1 c1_0
    exact r_throw C (pc := 32) htr hZ hX 4 th8_158_160 fit4 d8_throwTrap_32 d8_throwTrap_35 d8_throwTrap_36 d8_throwTrap_39 (Nat.le_of_ble_eq_true rfl) (Nat.le_of_ble_eq_true rfl) (Nat.le_of_ble_eq_true rfl) (Nat.le_of_ble_eq_true rfl) (Nat.le_of_ble_eq_true rfl) hw
  · have hw := hw.2 c1_0
    refine r_tsw_in C (pc := 1) (tgt := 40) 3 d8_throwTrap_1 ⟨by decide, by decide, rfl⟩ (by decide) (fun c1_1 => ?_) (fun c1_1 => ?_)
    · have hw := hw.1 c1_1
      exact r_throw C (pc := 40) htr hZ hX 3 th8_73_75 fit3 d8_throwTrap_40 d8_throwTrap_43 d8_throwTrap_44 d8_throwTrap_47 (Nat.le_of_ble_eq_true rfl) (Nat.le_of_ble_eq_true rfl) (Nat.le_of_ble_eq_true rfl) (Nat.le_of_ble_eq_true rfl) (Nat.le_of_ble_eq_true rfl) hw
    · have hw := hw.2 c1_1
      refine r_tsw_in C (pc := 1) (tgt := 48) 4 d8_throwTrap_1 ⟨by decide, by decide, rfl⟩ (by decide) (fun c1_2 => ?_) (fun c1_2 => ?_)
      · have hw := hw.1 c1_2
        exact r_throw C (pc := 48) htr hZ hX 6 th8_116_118 fit6 d8_throwTrap_48 d8_throwTrap_51 d8_throwTrap_52 d8_throwTrap_55 (Nat.le_of_ble_eq_true rfl) (Nat.le_of_ble_eq_true rfl) (Nat.le_of_ble_eq_true rfl) (Nat.le_of_ble_eq_true rfl) (Nat.le_of_ble_eq_true rfl) hw
      · have hw := hw.2 c1_2
        refine r_tsw_in C (pc := 1) (tgt := 56) 5 d8_throwTrap_1 ⟨by decide, by decide, rfl⟩ (by decide) (fun c1_3 => ?_) (fun c1_3 => ?_)
        · have hw := hw.1 c1_3
          exact r_throw C (pc := 56) htr hZ hX 5 th8_84_86 fit5 d8_throwTrap_56 d8_throwTrap_59 d8_throwTrap_60 d8_throwTrap_63 (Nat.le_of_ble_eq_true rfl) (Nat.le_of_ble_eq_true rfl) (Nat.le_of_ble_eq_true rfl) (Nat.le_of_ble_eq_true rfl) (Nat.le_of_ble_eq_true rfl) hw
        · have hw := hw.2 c1_3
          refine r_tsw_out C (pc := 1) (tgt := 64) [2, 3, 4, 5] d8_throwTrap_1 (by intro v hv; simp only [List.mem_cons, List.not_mem_nil, or_false] at hv; rcases hv with rfl | rfl | rfl | rfl <;> assumption) (by decide +kernel) (by decide) ?_
          exact r_throw C (pc := 64) htr hZ hX 7 th8_161_163 fit7 d8_throwTrap_64 d8_throwTrap_67 d8_throwTrap_68 d8_throwTrap_71 (Nat.le_of_ble_eq_true rfl) (Nat.le_of_ble_eq_true rfl) (Nat.le_of_ble_eq_true rfl) (Nat.le_of_ble_eq_true rfl) (Nat.le_of_ble_eq_true rfl) hw
set_option maxRecDepth 20000 in
theorem nd8_shape_31 {p : Program} {l : Launch} {e : Env} {s : State} {m : MethodId} {args : Array Value} {below : List Frame} {meth : Method} {c : Code} {D : va_G} {ca : Nat → ClassId} {ρ : Nat → Nat → Nat} {x1 : Int32} {x2 : Int32} {x3 : Int32} {x4 : Int32} {Q : Int32 → St → Prop} {T : Nat → St → Prop}  {S : St} (C : Cx true p l s m meth c R8 b8_shape 5 D ca ρ) (hr : meth.sig.returnType = (some .int)) (htr : l.stackTraces = false) (hZ : Zs (Ar true ρ s.heap.size) s s.heap) (hX : ∀ x ∈ c.exceptionTable.toList, ∀ pc, covers x pc = false)   (hw : wp8_shape_31 x1 x2 x3 x4 Q T  S) : wm true p l e { frames := 6, cells := 1, slots := 6, locals := 90 } s m args below meth c D ca ρ 5 0 0 (xq true below args s D ca ρ 1 6 (pri Q (PostU true D ca ρ)) T) 31 [] [] S := by
  unfold wp8_shape_31 at hw
  exact r_throw C (pc := 31) htr hZ hX 1 th8_48_50 fit1 d8_shape_31 d8_shape_34 d8_shape_35 d8_shape_38 (Nat.le_of_ble_eq_true rfl) (Nat.le_of_ble_eq_true rfl) (Nat.le_of_ble_eq_true rfl) (Nat.le_of_ble_eq_true rfl) (Nat.le_of_ble_eq_true rfl) hw
set_option maxRecDepth 20000 in
theorem ct8_shape (l : Launch) (htr : l.stackTraces = false) (D : va_G) (ca : Nat → ClassId) (ρ : Nat → Nat → Nat) (sz : Nat) {S : St} {x1 : Int32} {x2 : Int32} {x3 : Int32} {x4 : Int32} {Q : Int32 → St → Prop} {T : Nat → St → Prop} (hAp : Ap true ρ)  (hw : wp8_shape S x1 x2 x3 x4 Q T) : MetX l y8_shape [Cond.code y8_shape b8_shape 5 (some .int)] { frames := 6, cells := 1, slots := 6, locals := 90 } (va_Pc [.ref (ρ 8 0), .int x1, .int x2, .int x3, .int x4] (PreX true D ca ρ sz S)) (XQ (pri Q (PostU true D ca ρ)) T (PostU true D ca ρ) (Ar true ρ sz)) 1 6 (Ar true ρ sz) := by
  refine metX_of_wm (own := R8) (ls0 := [(0, .ref (ρ 8 0)), (1, .int x1), (2, .int x2), (3, .int x3), (4, .int x4)]) rfl rfl hAp (Nat.le_of_ble_eq_true rfl) rfl fun p e s m args below meth c C hr hz hX hZ => ?_
  subst hz
  unfold wp8_shape at hw
  refine r_iload_n C (pc := 0) 1 rfl d8_shape_0 ?_
  refine r_callSi C (pc := 1) (fun sz => ct8_isFunction l D ca ρ sz C.2.2.2.2.2.2.1 hw) mf8_isFunction w8_41 rfl rfl ⟨Nat.le_of_ble_eq_true rfl, Nat.le_of_ble_eq_true rfl⟩ rfl rfl (Nat.le_of_ble_eq_true rfl) ⟨Nat.zero_le _, Nat.zero_le _⟩ d8_shape_1 (fun r1 S1 hw => ?_)
  refine r_if_eq C (pc := 4) (tgt := 31) d8_shape_4 (by decide) (fun c1 => ?_) (fun c1 => ?_)
  · have hw := hw.1 c1
    refine r_sub (ls' := []) [] rfl ?_
    exact nd8_shape_31 C hr htr hZ hX hw
  · have hw := hw.2 c1
    refine r_iload_n C (pc := 7) 2 rfl d8_shape_7 ?_
    refine r_callSi C (pc := 8) (fun sz => ct8_isKindRow l D ca ρ sz C.2.2.2.2.2.2.1 hw) mf8_isKindRow w8_45 rfl rfl ⟨Nat.le_of_ble_eq_true rfl, Nat.le_of_ble_eq_true rfl⟩ rfl rfl (Nat.le_of_ble_eq_true rfl) ⟨Nat.zero_le _, Nat.zero_le _⟩ d8_shape_8 (fun r2 S2 hw => ?_)
    refine r_if_eq C (pc := 11) (tgt := 31) d8_shape_11 (by decide) (fun c2 => ?_) (fun c2 => ?_)
    · have hw := hw.1 c2
      refine r_sub (ls' := []) [] rfl ?_
      exact nd8_shape_31 C hr htr hZ hX hw
    · have hw := hw.2 c2
      refine r_iload_n C (pc := 14) 3 rfl d8_shape_14 ?_
      refine r_if_lt C (pc := 15) (tgt := 31) d8_shape_15 (by decide) (fun c3 => ?_) (fun c3 => ?_)
      · have hw := hw.1 c3
        refine r_sub (ls' := []) [] rfl ?_
        exact nd8_shape_31 C hr htr hZ hX hw
      · have hw := hw.2 c3
        refine r_iload_n C (pc := 18) 3 rfl d8_shape_18 ?_
        refine r_iconst C (pc := 19) (v := 3) d8_shape_19 (by decide) ?_
        refine r_icmp_gt C (pc := 20) (tgt := 31) d8_shape_20 (by decide) (fun c4 => ?_) (fun c4 => ?_)
        · have hw := hw.1 c4
          refine r_sub (ls' := []) [] rfl ?_
          exact nd8_shape_31 C hr htr hZ hX hw
        · have hw := hw.2 c4
          refine r_iload C (pc := 23) 4 rfl d8_shape_23 ?_
          refine r_callSi C (pc := 25) (fun sz => ct8_isKindRow l D ca ρ sz C.2.2.2.2.2.2.1 hw) mf8_isKindRow w8_45 rfl rfl ⟨Nat.le_of_ble_eq_true rfl, Nat.le_of_ble_eq_true rfl⟩ rfl rfl (Nat.le_of_ble_eq_true rfl) ⟨Nat.zero_le _, Nat.zero_le _⟩ d8_shape_25 (fun r3 S3 hw => ?_)
          refine r_if_ne C (pc := 28) (tgt := 39) d8_shape_28 (by decide) (fun c5 => ?_) (fun c5 => ?_)
          · have hw := hw.1 c5
            refine r_aload_n C (pc := 39) 0 rfl d8_shape_39 ?_
            refine g8_phase C (pc := 40) (Nat.le_of_ble_eq_true rfl) w8_51 d8_shape_40 ?_
            refine r_iconst C (pc := 43) (v := 1) d8_shape_43 (by decide) ?_
            refine r_icmp_ne C (pc := 44) (tgt := 55) d8_shape_44 (by decide) (fun c6 => ?_) (fun c6 => ?_)
            · have hw := hw.1 c6
              refine r_aload_n C (pc := 55) 0 rfl d8_shape_55 ?_
              refine r_iconst C (pc := 56) (v := 0) d8_shape_56 (by decide) ?_
              refine p8_checked C (pc := 57) (Nat.le_of_ble_eq_true rfl) (Or.inl rfl) w8_58 d8_shape_57 ?_
              refine r_S (fun S4 eS4 => ?_)
              have hw := hw S4 eS4
              refine r_aload_n C (pc := 60) 0 rfl d8_shape_60 ?_
              refine g8_functions C (pc := 61) (Nat.le_of_ble_eq_true rfl) w8_11 d8_shape_61 ?_
              refine r_iload_n C (pc := 64) 1 rfl d8_shape_64 ?_
              have hi7 := hw.1
              have hw := hw.2
              refine ld1800 C (pc := 65) hi7 d8_shape_65 ?_
              refine r_iload_n C (pc := 66) 2 rfl d8_shape_66 ?_
              refine r_iload_n C (pc := 67) 3 rfl d8_shape_67 ?_
              refine r_iload C (pc := 68) 4 rfl d8_shape_68 ?_
              refine r_callVv C (pc := 70) (fun sz => ct4_reshape l D ca ρ sz C.2.2.2.2.2.2.1 (vp_lt hi7) hw) mf4_reshape w8_62 rfl (vp_lt hi7) rfl rfl rfl rfl ⟨Nat.le_of_ble_eq_true rfl, Nat.le_of_ble_eq_true rfl⟩ rfl rfl (Nat.le_of_ble_eq_true rfl) ⟨Nat.zero_le _, Nat.zero_le _⟩ d8_shape_70 (fun S5 hw => ?_)
              refine r_aload_n C (pc := 73) 0 rfl d8_shape_73 ?_
              refine g8_functions C (pc := 74) (Nat.le_of_ble_eq_true rfl) w8_11 d8_shape_74 ?_
              refine r_iload_n C (pc := 77) 1 rfl d8_shape_77 ?_
              have hi8 := hw.1
              have hw := hw.2
              refine ld1800 C (pc := 78) hi8 d8_shape_78 ?_
              refine r_callVi C (pc := 79) (fun sz => ct4_variableCount l D ca ρ sz C.2.2.2.2.2.2.1 (vp_lt hi8) hw) mf4_variableCount w8_66 rfl (vp_lt hi8) rfl rfl rfl rfl ⟨Nat.le_of_ble_eq_true rfl, Nat.le_of_ble_eq_true rfl⟩ rfl rfl (Nat.le_of_ble_eq_true rfl) ⟨Nat.zero_le _, Nat.zero_le _⟩ d8_shape_79 (fun r4 S6 hw => ?_)
              refine r_wide (cells' := 1) (slots' := 6) (Nat.le_of_ble_eq_true rfl) (Nat.le_of_ble_eq_true rfl) ?_
              exact (r_iret C (pc := 82) hr d8_shape_82 hw).mono (fun _ h => MX.ofMQ (fun _ _ h => x_i h) h)
            · have hw := hw.2 c6
              exact r_throw C (pc := 47) htr hZ hX 2 th8_55_57 fit2 d8_shape_47 d8_shape_50 d8_shape_51 d8_shape_54 (Nat.le_of_ble_eq_true rfl) (Nat.le_of_ble_eq_true rfl) (Nat.le_of_ble_eq_true rfl) (Nat.le_of_ble_eq_true rfl) (Nat.le_of_ble_eq_true rfl) hw
          · have hw := hw.2 c5
            refine r_sub (ls' := []) [] rfl ?_
            exact nd8_shape_31 C hr htr hZ hX hw
set_option maxRecDepth 20000 in
theorem nd8_code_80 {p : Program} {l : Launch} {e : Env} {s : State} {m : MethodId} {args : Array Value} {below : List Frame} {meth : Method} {c : Code} {D : va_G} {ca : Nat → ClassId} {ρ : Nat → Nat → Nat} {x1 : Int32} {x2 : Int64} {x4 : Int32} {Q : Int32 → St → Prop} {T : Nat → St → Prop} (C : Cx true p l s m meth c R8 b8_code 6 D ca ρ) (hr : meth.sig.returnType = (some .int)) (htr : l.stackTraces = false) (hZ : Zs (Ar true ρ s.heap.size) s s.heap) (hX : ∀ x ∈ c.exceptionTable.toList, ∀ pc, covers x pc = false)  : ∀ (n : Nat) (x5 : Int32) (S : St) , wp8_code_80 x1 x2 x4 Q T n x5 S → wm true p l e { frames := 6, cells := 1, slots := 6, locals := 90 } s m args below meth c D ca ρ 6 0 0 (xq true below args s D ca ρ 1 6 (pri Q (PostU true D ca ρ)) T) 80 [(0, .ref (ρ 8 0)), (1, .int x1), (2, .long x2), (5, .int x5)] [] S := by
  intro n
  induction n with
  | zero => intro x5 S  hw; exact hw.elim
  | succ n ih =>
    intro x5 S  hw
    unfold wp8_code_80 at hw
    refine r_iload C (pc := 80) 3 rfl d8_code_80 ?_
    refine r_if_lt C (pc := 82) (tgt := 112) d8_code_82 (by decide) (fun c1 => ?_) (fun c1 => ?_)
    · have hw := hw.1 c1
      refine r_aload_n C (pc := 112) 0 rfl d8_code_112 ?_
      refine g8_functions C (pc := 113) (Nat.le_of_ble_eq_true rfl) w8_11 d8_code_113 ?_
      refine r_iload_n C (pc := 116) 1 rfl d8_code_116 ?_
      have hi2 := hw.1
      have hw := hw.2
      refine ld1800 C (pc := 117) hi2 d8_code_117 ?_
      refine r_callVi C (pc := 118) (fun sz => ct4_length l D ca ρ sz C.2.2.2.2.2.2.1 (vp_lt hi2) hw) mf4_length w8_70 rfl (vp_lt hi2) rfl rfl rfl rfl ⟨Nat.le_of_ble_eq_true rfl, Nat.le_of_ble_eq_true rfl⟩ rfl rfl (Nat.le_of_ble_eq_true rfl) ⟨Nat.zero_le _, Nat.zero_le _⟩ d8_code_118 (fun r1 S1 hw => ?_)
      refine r_wide (cells' := 1) (slots' := 6) (Nat.le_of_ble_eq_true rfl) (Nat.le_of_ble_eq_true rfl) ?_
      exact (r_iret C (pc := 121) hr d8_code_121 hw).mono (fun _ h => MX.ofMQ (fun _ _ h => x_i h) h)
    · have hw := hw.2 c1
      refine r_aload_n C (pc := 85) 0 rfl d8_code_85 ?_
      refine g8_functions C (pc := 86) (Nat.le_of_ble_eq_true rfl) w8_11 d8_code_86 ?_
      refine r_iload_n C (pc := 89) 1 rfl d8_code_89 ?_
      have hi3 := hw.1
      have hw := hw.2
      refine ld1800 C (pc := 90) hi3 d8_code_90 ?_
      refine r_lload_n C (pc := 91) 2 rfl d8_code_91 ?_
      refine r_bipush C (pc := 92) (v := 8) d8_code_92 (by decide) ?_
      refine r_iload C (pc := 94) 3 rfl d8_code_94 ?_
      refine r_imul C (pc := 96) d8_code_96 ?_
      refine r_lushr C (pc := 97) d8_code_97 ?_
      refine r_l2i C (pc := 98) d8_code_98 ?_
      refine r_sipush C (pc := 99) (v := 255) d8_code_99 (by decide) ?_
      refine r_iand C (pc := 102) d8_code_102 ?_
      refine r_callVv C (pc := 103) (fun sz => ct4_append l D ca ρ sz C.2.2.2.2.2.2.1 (vp_lt hi3) hw) mf4_append w8_76 rfl (vp_lt hi3) rfl rfl rfl rfl ⟨Nat.le_of_ble_eq_true rfl, Nat.le_of_ble_eq_true rfl⟩ rfl rfl (Nat.le_of_ble_eq_true rfl) ⟨Nat.zero_le _, Nat.zero_le _⟩ d8_code_103 (fun S2 hw => ?_)
      obtain ⟨x5_1, ex5_1⟩ : ∃ y : Int32, y = x5 + (-1) := ⟨_, rfl⟩
      have hw := hw x5_1 ex5_1
      refine r_iinc C (pc := 106) (v := x5_1) (ls' := [(5, .int x5_1), (0, .ref (ρ 8 0)), (1, .int x1), (2, .long x2)]) 3 rfl (by rw [ex5_1]; rfl) (Nat.le_of_ble_eq_true rfl) rfl d8_code_106 ?_
      refine r_goto C (pc := 109) (tgt := 80) d8_code_109 (by decide) ?_
      refine r_sub (ls' := [(0, .ref (ρ 8 0)), (1, .int x1), (2, .long x2), (5, .int x5_1)]) [1, 2, 3, 0] rfl ?_
      exact ih _ _ hw
set_option maxRecDepth 20000 in
theorem nd8_code_20 {p : Program} {l : Launch} {e : Env} {s : State} {m : MethodId} {args : Array Value} {below : List Frame} {meth : Method} {c : Code} {D : va_G} {ca : Nat → ClassId} {ρ : Nat → Nat → Nat} {x1 : Int32} {x2 : Int64} {x4 : Int32} {Q : Int32 → St → Prop} {T : Nat → St → Prop}  {S : St} (C : Cx true p l s m meth c R8 b8_code 6 D ca ρ) (hr : meth.sig.returnType = (some .int)) (htr : l.stackTraces = false) (hZ : Zs (Ar true ρ s.heap.size) s s.heap) (hX : ∀ x ∈ c.exceptionTable.toList, ∀ pc, covers x pc = false)   (hw : wp8_code_20 x1 x2 x4 Q T  S) : wm true p l e { frames := 6, cells := 1, slots := 6, locals := 90 } s m args below meth c D ca ρ 6 0 0 (xq true below args s D ca ρ 1 6 (pri Q (PostU true D ca ρ)) T) 20 [] [] S := by
  unfold wp8_code_20 at hw
  exact r_throw C (pc := 20) htr hZ hX 1 th8_48_50 fit1 d8_code_20 d8_code_23 d8_code_24 d8_code_27 (Nat.le_of_ble_eq_true rfl) (Nat.le_of_ble_eq_true rfl) (Nat.le_of_ble_eq_true rfl) (Nat.le_of_ble_eq_true rfl) (Nat.le_of_ble_eq_true rfl) hw
set_option maxRecDepth 20000 in
theorem ct8_code (l : Launch) (htr : l.stackTraces = false) (D : va_G) (ca : Nat → ClassId) (ρ : Nat → Nat → Nat) (sz : Nat) {S : St} {x1 : Int32} {x2 : Int64} {x4 : Int32} {Q : Int32 → St → Prop} {T : Nat → St → Prop} (hAp : Ap true ρ)  (hw : wp8_code S x1 x2 x4 Q T) : MetX l y8_code [Cond.code y8_code b8_code 6 (some .int)] { frames := 6, cells := 1, slots := 6, locals := 90 } (va_Pc [.ref (ρ 8 0), .int x1, .long x2, .int x4] (PreX true D ca ρ sz S)) (XQ (pri Q (PostU true D ca ρ)) T (PostU true D ca ρ) (Ar true ρ sz)) 1 6 (Ar true ρ sz) := by
  refine metX_of_wm (own := R8) (ls0 := [(0, .ref (ρ 8 0)), (1, .int x1), (2, .long x2), (4, .int x4)]) rfl rfl hAp (Nat.le_of_ble_eq_true rfl) rfl fun p e s m args below meth c C hr hz hX hZ => ?_
  subst hz
  unfold wp8_code at hw
  refine r_iload_n C (pc := 0) 1 rfl d8_code_0 ?_
  refine r_callSi C (pc := 1) (fun sz => ct8_isFunction l D ca ρ sz C.2.2.2.2.2.2.1 hw) mf8_isFunction w8_41 rfl rfl ⟨Nat.le_of_ble_eq_true rfl, Nat.le_of_ble_eq_true rfl⟩ rfl rfl (Nat.le_of_ble_eq_true rfl) ⟨Nat.zero_le _, Nat.zero_le _⟩ d8_code_1 (fun r1 S1 hw => ?_)
  refine r_if_eq C (pc := 4) (tgt := 20) d8_code_4 (by decide) (fun c1 => ?_) (fun c1 => ?_)
  · have hw := hw.1 c1
    refine r_sub (ls' := []) [] rfl ?_
    exact nd8_code_20 C hr htr hZ hX hw
  · have hw := hw.2 c1
    refine r_iload C (pc := 7) 3 rfl d8_code_7 ?_
    refine r_iconst C (pc := 9) (v := 1) d8_code_9 (by decide) ?_
    refine r_icmp_lt C (pc := 10) (tgt := 20) d8_code_10 (by decide) (fun c2 => ?_) (fun c2 => ?_)
    · have hw := hw.1 c2
      refine r_sub (ls' := []) [] rfl ?_
      exact nd8_code_20 C hr htr hZ hX hw
    · have hw := hw.2 c2
      refine r_iload C (pc := 13) 3 rfl d8_code_13 ?_
      refine r_bipush C (pc := 15) (v := 8) d8_code_15 (by decide) ?_
      refine r_icmp_le C (pc := 17) (tgt := 28) d8_code_17 (by decide) (fun c3 => ?_) (fun c3 => ?_)
      · have hw := hw.1 c3
        refine r_aload_n C (pc := 28) 0 rfl d8_code_28 ?_
        refine g8_phase C (pc := 29) (Nat.le_of_ble_eq_true rfl) w8_51 d8_code_29 ?_
        refine r_iconst C (pc := 32) (v := 1) d8_code_32 (by decide) ?_
        refine r_icmp_ne C (pc := 33) (tgt := 44) d8_code_33 (by decide) (fun c4 => ?_) (fun c4 => ?_)
        · have hw := hw.1 c4
          refine r_aload_n C (pc := 44) 0 rfl d8_code_44 ?_
          refine g8_functions C (pc := 45) (Nat.le_of_ble_eq_true rfl) w8_11 d8_code_45 ?_
          refine r_iload_n C (pc := 48) 1 rfl d8_code_48 ?_
          have hi5 := hw.1
          have hw := hw.2
          refine ld1800 C (pc := 49) hi5 d8_code_49 ?_
          refine r_callVi C (pc := 50) (fun sz => ct4_length l D ca ρ sz C.2.2.2.2.2.2.1 (vp_lt hi5) hw) mf4_length w8_70 rfl (vp_lt hi5) rfl rfl rfl rfl ⟨Nat.le_of_ble_eq_true rfl, Nat.le_of_ble_eq_true rfl⟩ rfl rfl (Nat.le_of_ble_eq_true rfl) ⟨Nat.zero_le _, Nat.zero_le _⟩ d8_code_50 (fun r2 S2 hw => ?_)
          refine r_iload C (pc := 53) 3 rfl d8_code_53 ?_
          refine r_iadd C (pc := 55) d8_code_55 ?_
          refine r_bipush C (pc := 56) (v := 60) d8_code_56 (by decide) ?_
          refine r_icmp_le C (pc := 58) (tgt := 69) d8_code_58 (by decide) (fun c6 => ?_) (fun c6 => ?_)
          · have hw := hw.1 c6
            refine r_aload_n C (pc := 69) 0 rfl d8_code_69 ?_
            refine r_iconst C (pc := 70) (v := 0) d8_code_70 (by decide) ?_
            refine p8_checked C (pc := 71) (Nat.le_of_ble_eq_true rfl) (Or.inl rfl) w8_58 d8_code_71 ?_
            refine r_S (fun S3 eS3 => ?_)
            have hw := hw S3 eS3
            refine r_iload C (pc := 74) 3 rfl d8_code_74 ?_
            refine r_iconst C (pc := 76) (v := 1) d8_code_76 (by decide) ?_
            refine r_isub C (pc := 77) d8_code_77 ?_
            refine r_topi (fun x5_1 ex5_1 => ?_)
            have hw := hw x5_1 ex5_1
            refine r_istore C (pc := 78) (ls' := [(5, .int x5_1), (0, .ref (ρ 8 0)), (1, .int x1), (2, .long x2), (4, .int x4)]) (Nat.le_of_ble_eq_true rfl) rfl d8_code_78 ?_
            refine r_sub (ls' := [(0, .ref (ρ 8 0)), (1, .int x1), (2, .long x2), (5, .int x5_1)]) [1, 2, 3, 0] rfl ?_
            obtain ⟨n, hw⟩ := hw
            exact nd8_code_80 C hr htr hZ hX  n _ _ hw
          · have hw := hw.2 c6
            exact r_throw C (pc := 61) htr hZ hX 3 th8_73_75 fit3 d8_code_61 d8_code_64 d8_code_65 d8_code_68 (Nat.le_of_ble_eq_true rfl) (Nat.le_of_ble_eq_true rfl) (Nat.le_of_ble_eq_true rfl) (Nat.le_of_ble_eq_true rfl) (Nat.le_of_ble_eq_true rfl) hw
        · have hw := hw.2 c4
          exact r_throw C (pc := 36) htr hZ hX 2 th8_55_57 fit2 d8_code_36 d8_code_39 d8_code_40 d8_code_43 (Nat.le_of_ble_eq_true rfl) (Nat.le_of_ble_eq_true rfl) (Nat.le_of_ble_eq_true rfl) (Nat.le_of_ble_eq_true rfl) (Nat.le_of_ble_eq_true rfl) hw
      · have hw := hw.2 c3
        refine r_sub (ls' := []) [] rfl ?_
        exact nd8_code_20 C hr htr hZ hX hw
set_option maxRecDepth 20000 in
theorem nd8_table_30 {p : Program} {l : Launch} {e : Env} {s : State} {m : MethodId} {args : Array Value} {below : List Frame} {meth : Method} {c : Code} {D : va_G} {ca : Nat → ClassId} {ρ : Nat → Nat → Nat} {x1 : Int32} {x2 : Int32} {Q : Int32 → St → Prop} {T : Nat → St → Prop}  {S : St} (C : Cx true p l s m meth c R8 b8_table 4 D ca ρ) (hr : meth.sig.returnType = (some .int)) (htr : l.stackTraces = false) (hZ : Zs (Ar true ρ s.heap.size) s s.heap) (hX : ∀ x ∈ c.exceptionTable.toList, ∀ pc, covers x pc = false)   (hw : wp8_table_30 x1 x2 Q T  S) : wm true p l e { frames := 6, cells := 1, slots := 6, locals := 90 } s m args below meth c D ca ρ 4 0 0 (xq true below args s D ca ρ 1 6 (pri Q (PostU true D ca ρ)) T) 30 [(0, .ref (ρ 8 0)), (1, .int x1), (2, .int x2)] [] S := by
  unfold wp8_table_30 at hw
  refine r_aload_n C (pc := 30) 0 rfl d8_table_30 ?_
  refine g8_places C (pc := 31) (Nat.le_of_ble_eq_true rfl) w8_16 d8_table_31 ?_
  refine r_iload_n C (pc := 34) 1 rfl d8_table_34 ?_
  have hi1 := hw.1
  have hw := hw.2
  refine ld1801 C (pc := 35) (Nat.le_of_ble_eq_true rfl) hi1 d8_table_35 ?_
  refine r_topi (fun x3_1 ex3_1 => ?_)
  have hw := hw x3_1 ex3_1
  refine r_istore_n C (pc := 36) (ls' := [(3, .int x3_1), (0, .ref (ρ 8 0)), (1, .int x1), (2, .int x2)]) (Nat.le_of_ble_eq_true rfl) rfl d8_table_36 ?_
  refine r_aload_n C (pc := 37) 1 rfl d8_table_37 ?_
  refine g8_places C (pc := 38) (Nat.le_of_ble_eq_true rfl) w8_16 d8_table_38 ?_
  refine r_iload_n C (pc := 41) 2 rfl d8_table_41 ?_
  refine r_iload_n C (pc := 42) 3 rfl d8_table_42 ?_
  have hi2 := hw.1
  have hw := hw.2
  refine st1801 C (pc := 43) (Nat.le_of_ble_eq_true rfl) hi2 d8_table_43 ?_
  refine r_S (fun S1 eS1 => ?_)
  have hw := hw S1 eS1
  refine r_iload_n C (pc := 44) 0 rfl d8_table_44 ?_
  refine r_wide (cells' := 1) (slots' := 6) (Nat.le_of_ble_eq_true rfl) (Nat.le_of_ble_eq_true rfl) ?_
  exact (r_iret C (pc := 45) hr d8_table_45 hw).mono (fun _ h => MX.ofMQ (fun _ _ h => x_i h) h)
set_option maxRecDepth 20000 in
theorem nd8_table_22 {p : Program} {l : Launch} {e : Env} {s : State} {m : MethodId} {args : Array Value} {below : List Frame} {meth : Method} {c : Code} {D : va_G} {ca : Nat → ClassId} {ρ : Nat → Nat → Nat} {x1 : Int32} {x2 : Int32} {Q : Int32 → St → Prop} {T : Nat → St → Prop}  {S : St} (C : Cx true p l s m meth c R8 b8_table 4 D ca ρ) (hr : meth.sig.returnType = (some .int)) (htr : l.stackTraces = false) (hZ : Zs (Ar true ρ s.heap.size) s s.heap) (hX : ∀ x ∈ c.exceptionTable.toList, ∀ pc, covers x pc = false)   (hw : wp8_table_22 x1 x2 Q T  S) : wm true p l e { frames := 6, cells := 1, slots := 6, locals := 90 } s m args below meth c D ca ρ 4 0 0 (xq true below args s D ca ρ 1 6 (pri Q (PostU true D ca ρ)) T) 22 [] [] S := by
  unfold wp8_table_22 at hw
  exact r_throw C (pc := 22) htr hZ hX 1 th8_48_50 fit1 d8_table_22 d8_table_25 d8_table_26 d8_table_29 (Nat.le_of_ble_eq_true rfl) (Nat.le_of_ble_eq_true rfl) (Nat.le_of_ble_eq_true rfl) (Nat.le_of_ble_eq_true rfl) (Nat.le_of_ble_eq_true rfl) hw
set_option maxRecDepth 20000 in
theorem ct8_table (l : Launch) (htr : l.stackTraces = false) (D : va_G) (ca : Nat → ClassId) (ρ : Nat → Nat → Nat) (sz : Nat) {S : St} {x1 : Int32} {x2 : Int32} {Q : Int32 → St → Prop} {T : Nat → St → Prop} (hAp : Ap true ρ)  (hw : wp8_table S x1 x2 Q T) : MetX l y8_table [Cond.code y8_table b8_table 4 (some .int)] { frames := 6, cells := 1, slots := 6, locals := 90 } (va_Pc [.ref (ρ 8 0), .int x1, .int x2] (PreX true D ca ρ sz S)) (XQ (pri Q (PostU true D ca ρ)) T (PostU true D ca ρ) (Ar true ρ sz)) 1 6 (Ar true ρ sz) := by
  refine metX_of_wm (own := R8) (ls0 := [(0, .ref (ρ 8 0)), (1, .int x1), (2, .int x2)]) rfl rfl hAp (Nat.le_of_ble_eq_true rfl) rfl fun p e s m args below meth c C hr hz hX hZ => ?_
  subst hz
  unfold wp8_table at hw
  refine r_iload_n C (pc := 0) 1 rfl d8_table_0 ?_
  refine r_if_lt C (pc := 1) (tgt := 22) d8_table_1 (by decide) (fun c1 => ?_) (fun c1 => ?_)
  · have hw := hw.1 c1
    refine r_sub (ls' := []) [] rfl ?_
    exact nd8_table_22 C hr htr hZ hX hw
  · have hw := hw.2 c1
    refine r_iload_n C (pc := 4) 1 rfl d8_table_4 ?_
    refine r_bipush C (pc := 5) (v := 8) d8_table_5 (by decide) ?_
    refine r_icmp_ge C (pc := 7) (tgt := 22) d8_table_7 (by decide) (fun c2 => ?_) (fun c2 => ?_)
    · have hw := hw.1 c2
      refine r_sub (ls' := []) [] rfl ?_
      exact nd8_table_22 C hr htr hZ hX hw
    · have hw := hw.2 c2
      refine r_iload_n C (pc := 10) 2 rfl d8_table_10 ?_
      refine r_iconst C (pc := 11) (v := (-1)) d8_table_11 (by decide) ?_
      refine r_icmp_eq C (pc := 12) (tgt := 30) d8_table_12 (by decide) (fun c3 => ?_) (fun c3 => ?_)
      · have hw := hw.1 c3
        refine r_sub (ls' := [(0, .ref (ρ 8 0)), (1, .int x1), (2, .int x2)]) [0, 1, 2] rfl ?_
        exact nd8_table_30 C hr htr hZ hX hw
      · have hw := hw.2 c3
        refine r_iload_n C (pc := 15) 2 rfl d8_table_15 ?_
        refine r_callSi C (pc := 16) (fun sz => ct8_isFunction l D ca ρ sz C.2.2.2.2.2.2.1 hw) mf8_isFunction w8_41 rfl rfl ⟨Nat.le_of_ble_eq_true rfl, Nat.le_of_ble_eq_true rfl⟩ rfl rfl (Nat.le_of_ble_eq_true rfl) ⟨Nat.zero_le _, Nat.zero_le _⟩ d8_table_16 (fun r1 S1 hw => ?_)
        refine r_if_ne C (pc := 19) (tgt := 30) d8_table_19 (by decide) (fun c4 => ?_) (fun c4 => ?_)
        · have hw := hw.1 c4
          refine r_sub (ls' := [(0, .ref (ρ 8 0)), (1, .int x1), (2, .int x2)]) [0, 1, 2] rfl ?_
          exact nd8_table_30 C hr htr hZ hX hw
        · have hw := hw.2 c4
          refine r_sub (ls' := []) [] rfl ?_
          exact nd8_table_22 C hr htr hZ hX hw
set_option maxRecDepth 20000 in
theorem nd8_check_66 {p : Program} {l : Launch} {e : Env} {s : State} {m : MethodId} {args : Array Value} {below : List Frame} {meth : Method} {c : Code} {D : va_G} {ca : Nat → ClassId} {ρ : Nat → Nat → Nat}  {Q : Int32 → St → Prop} {T : Nat → St → Prop} {K : Int32 → Int32 → St → Prop} {x1 : Int32} {x2 : Int32} {S : St} (C : Cx true p l s m meth c R8 b8_check 3 D ca ρ) (hr : meth.sig.returnType = (some .int)) (htr : l.stackTraces = false) (hZ : Zs (Ar true ρ s.heap.size) s s.heap) (hX : ∀ x ∈ c.exceptionTable.toList, ∀ pc, covers x pc = false)  (hK : ∀ (x1 : Int32) (x2 : Int32) (S : St) , K x1 x2 S → wm true p l e { frames := 6, cells := 1, slots := 6, locals := 136 } s m args below meth c D ca ρ 3 0 0 (xq true below args s D ca ρ 1 6 (pri Q (PostU true D ca ρ)) T) 20 [(0, .ref (ρ 8 0)), (1, .int x1), (2, .int x2)] [] S)  (hw : wp8_check_66 K  Q T x1 x2 S) : wm true p l e { frames := 6, cells := 1, slots := 6, locals := 136 } s m args below meth c D ca ρ 3 0 0 (xq true below args s D ca ρ 1 6 (pri Q (PostU true D ca ρ)) T) 66 [(0, .ref (ρ 8 0)), (1, .int x1), (2, .int x2)] [] S := by
  unfold wp8_check_66 at hw
  obtain ⟨x2_1, ex2_1⟩ : ∃ y : Int32, y = x2 + 1 := ⟨_, rfl⟩
  have hw := hw x2_1 ex2_1
  refine r_iinc C (pc := 66) (v := x2_1) (ls' := [(2, .int x2_1), (0, .ref (ρ 8 0)), (1, .int x1)]) 2 rfl (by rw [ex2_1]; rfl) (Nat.le_of_ble_eq_true rfl) rfl d8_check_66 ?_
  refine r_goto C (pc := 69) (tgt := 20) d8_check_69 (by decide) ?_
  refine r_sub (ls' := [(0, .ref (ρ 8 0)), (1, .int x1), (2, .int x2_1)]) [1, 2, 0] rfl ?_
  exact hK _ _ _ hw
set_option maxRecDepth 20000 in
theorem nd8_check_20 {p : Program} {l : Launch} {e : Env} {s : State} {m : MethodId} {args : Array Value} {below : List Frame} {meth : Method} {c : Code} {D : va_G} {ca : Nat → ClassId} {ρ : Nat → Nat → Nat}  {Q : Int32 → St → Prop} {T : Nat → St → Prop} (C : Cx true p l s m meth c R8 b8_check 3 D ca ρ) (hr : meth.sig.returnType = (some .int)) (htr : l.stackTraces = false) (hZ : Zs (Ar true ρ s.heap.size) s s.heap) (hX : ∀ x ∈ c.exceptionTable.toList, ∀ pc, covers x pc = false)  : ∀ (n : Nat) (x1 : Int32) (x2 : Int32) (S : St) , wp8_check_20  Q T n x1 x2 S → wm true p l e { frames := 6, cells := 1, slots := 6, locals := 136 } s m args below meth c D ca ρ 3 0 0 (xq true below args s D ca ρ 1 6 (pri Q (PostU true D ca ρ)) T) 20 [(0, .ref (ρ 8 0)), (1, .int x1), (2, .int x2)] [] S := by
  intro n
  induction n with
  | zero => intro x1 x2 S  hw; exact hw.elim
  | succ n ih =>
    intro x1 x2 S  hw
    unfold wp8_check_20 at hw
    refine r_iload_n C (pc := 20) 2 rfl d8_check_20 ?_
    refine r_bipush C (pc := 21) (v := 6) d8_check_21 (by decide) ?_
    refine r_icmp_ge C (pc := 23) (tgt := 72) d8_check_23 (by decide) (fun c1 => ?_) (fun c1 => ?_)
    · have hw := hw.1 c1
      refine r_aload_n C (pc := 72) 0 rfl d8_check_72 ?_
      refine r_iconst C (pc := 73) (v := 1) d8_check_73 (by decide) ?_
      refine p8_checked C (pc := 74) (Nat.le_of_ble_eq_true rfl) (Or.inr rfl) w8_58 d8_check_74 ?_
      refine r_S (fun S1 eS1 => ?_)
      have hw := hw S1 eS1
      refine r_iload_n C (pc := 77) 1 rfl d8_check_77 ?_
      refine r_wide (cells' := 1) (slots' := 6) (Nat.le_of_ble_eq_true rfl) (Nat.le_of_ble_eq_true rfl) ?_
      exact (r_iret C (pc := 78) hr d8_check_78 hw).mono (fun _ h => MX.ofMQ (fun _ _ h => x_i h) h)
    · have hw := hw.2 c1
      refine r_aload_n C (pc := 26) 0 rfl d8_check_26 ?_
      refine g8_functions C (pc := 27) (Nat.le_of_ble_eq_true rfl) w8_11 d8_check_27 ?_
      refine r_iload_n C (pc := 30) 2 rfl d8_check_30 ?_
      have hi2 := hw.1
      have hw := hw.2
      refine ld1800 C (pc := 31) hi2 d8_check_31 ?_
      refine r_callVi C (pc := 32) (fun sz => ct4_length l D ca ρ sz C.2.2.2.2.2.2.1 (vp_lt hi2) hw) mf4_length w8_70 rfl (vp_lt hi2) rfl rfl rfl rfl ⟨Nat.le_of_ble_eq_true rfl, Nat.le_of_ble_eq_true rfl⟩ rfl rfl (Nat.le_of_ble_eq_true rfl) ⟨Nat.zero_le _, Nat.zero_le _⟩ d8_check_32 (fun r1 S2 hw => ?_)
      refine r_if_le C (pc := 35) (tgt := 66) d8_check_35 (by decide) (fun c3 => ?_) (fun c3 => ?_)
      · have hw := hw.1 c3
        refine r_sub (ls' := [(0, .ref (ρ 8 0)), (1, .int x1), (2, .int x2)]) [0, 1, 2] rfl ?_
        exact nd8_check_66 C hr htr hZ hX ih hw
      · have hw := hw.2 c3
        obtain ⟨x1_1, ex1_1⟩ : ∃ y : Int32, y = x1 + 1 := ⟨_, rfl⟩
        have hw := hw x1_1 ex1_1
        refine r_iinc C (pc := 38) (v := x1_1) (ls' := [(1, .int x1_1), (0, .ref (ρ 8 0)), (2, .int x2)]) 1 rfl (by rw [ex1_1]; rfl) (Nat.le_of_ble_eq_true rfl) rfl d8_check_38 ?_
        refine r_aload_n C (pc := 41) 1 rfl d8_check_41 ?_
        refine g8_checker C (pc := 42) (Nat.le_of_ble_eq_true rfl) w8_28 d8_check_42 ?_
        refine r_aload_n C (pc := 45) 1 rfl d8_check_45 ?_
        refine g8_functions C (pc := 46) (Nat.le_of_ble_eq_true rfl) w8_11 d8_check_46 ?_
        refine r_iload_n C (pc := 49) 2 rfl d8_check_49 ?_
        have hi4 := hw.1
        have hw := hw.2
        refine ld1800 C (pc := 50) hi4 d8_check_50 ?_
        refine r_callVi C (pc := 51) (fun sz => ct2_faultIn l D ca ρ sz C.2.2.2.2.2.2.1 (vp_lt hi4) hw) mf2_faultIn w8_80 rfl (Nat.le_of_ble_eq_true rfl) rfl rfl rfl rfl ⟨Nat.le_of_ble_eq_true rfl, Nat.le_of_ble_eq_true rfl⟩ rfl rfl (Nat.le_of_ble_eq_true rfl) ⟨Nat.zero_le _, Nat.zero_le _⟩ d8_check_51 (fun r2 S3 hw => ?_)
        refine r_iconst C (pc := 54) (v := (-1)) d8_check_54 (by decide) ?_
        refine r_icmp_eq C (pc := 55) (tgt := 66) d8_check_55 (by decide) (fun c5 => ?_) (fun c5 => ?_)
        · have hw := hw.1 c5
          refine r_sub (ls' := [(0, .ref (ρ 8 0)), (1, .int x1_1), (2, .int x2)]) [1, 0, 2] rfl ?_
          exact nd8_check_66 C hr htr hZ hX ih hw
        · have hw := hw.2 c5
          exact r_throw C (pc := 58) htr hZ hX 5 th8_84_86 fit5 d8_check_58 d8_check_61 d8_check_62 d8_check_65 (Nat.le_of_ble_eq_true rfl) (Nat.le_of_ble_eq_true rfl) (Nat.le_of_ble_eq_true rfl) (Nat.le_of_ble_eq_true rfl) (Nat.le_of_ble_eq_true rfl) hw
set_option maxRecDepth 20000 in
theorem ct8_check (l : Launch) (htr : l.stackTraces = false) (D : va_G) (ca : Nat → ClassId) (ρ : Nat → Nat → Nat) (sz : Nat) {S : St}  {Q : Int32 → St → Prop} {T : Nat → St → Prop} (hAp : Ap true ρ)  (hw : wp8_check S Q T) : MetX l y8_check [Cond.code y8_check b8_check 3 (some .int)] { frames := 6, cells := 1, slots := 6, locals := 136 } (va_Pc [.ref (ρ 8 0)] (PreX true D ca ρ sz S)) (XQ (pri Q (PostU true D ca ρ)) T (PostU true D ca ρ) (Ar true ρ sz)) 1 6 (Ar true ρ sz) := by
  refine metX_of_wm (own := R8) (ls0 := [(0, .ref (ρ 8 0))]) rfl rfl hAp (Nat.le_of_ble_eq_true rfl) rfl fun p e s m args below meth c C hr hz hX hZ => ?_
  subst hz
  unfold wp8_check at hw
  refine r_aload_n C (pc := 0) 0 rfl d8_check_0 ?_
  refine g8_phase C (pc := 1) (Nat.le_of_ble_eq_true rfl) w8_51 d8_check_1 ?_
  refine r_iconst C (pc := 4) (v := 1) d8_check_4 (by decide) ?_
  refine r_icmp_ne C (pc := 5) (tgt := 16) d8_check_5 (by decide) (fun c1 => ?_) (fun c1 => ?_)
  · have hw := hw.1 c1
    refine r_iconst C (pc := 16) (v := 0) d8_check_16 (by decide) ?_
    refine r_istore_n C (pc := 17) (ls' := [(1, .int 0), (0, .ref (ρ 8 0))]) (Nat.le_of_ble_eq_true rfl) rfl d8_check_17 ?_
    refine r_iconst C (pc := 18) (v := 0) d8_check_18 (by decide) ?_
    refine r_istore_n C (pc := 19) (ls' := [(2, .int 0), (1, .int 0), (0, .ref (ρ 8 0))]) (Nat.le_of_ble_eq_true rfl) rfl d8_check_19 ?_
    refine r_sub (ls' := [(0, .ref (ρ 8 0)), (1, .int 0), (2, .int 0)]) [2, 1, 0] rfl ?_
    obtain ⟨n, hw⟩ := hw
    exact nd8_check_20 C hr htr hZ hX  n _ _ _ hw
  · have hw := hw.2 c1
    exact r_throw C (pc := 8) htr hZ hX 2 th8_55_57 fit2 d8_check_8 d8_check_11 d8_check_12 d8_check_15 (Nat.le_of_ble_eq_true rfl) (Nat.le_of_ble_eq_true rfl) (Nat.le_of_ble_eq_true rfl) (Nat.le_of_ble_eq_true rfl) (Nat.le_of_ble_eq_true rfl) hw
set_option maxRecDepth 20000 in
theorem ct8_fault (l : Launch) (htr : l.stackTraces = false) (D : va_G) (ca : Nat → ClassId) (ρ : Nat → Nat → Nat) (sz : Nat) {S : St} {x1 : Int32} {Q : Int32 → St → Prop} {T : Nat → St → Prop} (hAp : Ap true ρ)  (hw : wp8_fault S x1 Q T) : MetX l y8_fault [Cond.code y8_fault b8_fault 2 (some .int)] { frames := 6, cells := 1, slots := 6, locals := 136 } (va_Pc [.ref (ρ 8 0), .int x1] (PreX true D ca ρ sz S)) (XQ (pri Q (PostU true D ca ρ)) T (PostU true D ca ρ) (Ar true ρ sz)) 1 6 (Ar true ρ sz) := by
  refine metX_of_wm (own := R8) (ls0 := [(0, .ref (ρ 8 0)), (1, .int x1)]) rfl rfl hAp (Nat.le_of_ble_eq_true rfl) rfl fun p e s m args below meth c C hr hz hX hZ => ?_
  subst hz
  unfold wp8_fault at hw
  refine r_iload_n C (pc := 0) 1 rfl d8_fault_0 ?_
  refine r_callSi C (pc := 1) (fun sz => ct8_isFunction l D ca ρ sz C.2.2.2.2.2.2.1 hw) mf8_isFunction w8_41 rfl rfl ⟨Nat.le_of_ble_eq_true rfl, Nat.le_of_ble_eq_true rfl⟩ rfl rfl (Nat.le_of_ble_eq_true rfl) ⟨Nat.zero_le _, Nat.zero_le _⟩ d8_fault_1 (fun r1 S1 hw => ?_)
  refine r_if_ne C (pc := 4) (tgt := 15) d8_fault_4 (by decide) (fun c1 => ?_) (fun c1 => ?_)
  · have hw := hw.1 c1
    refine r_aload_n C (pc := 15) 0 rfl d8_fault_15 ?_
    refine g8_checker C (pc := 16) (Nat.le_of_ble_eq_true rfl) w8_28 d8_fault_16 ?_
    refine r_aload_n C (pc := 19) 0 rfl d8_fault_19 ?_
    refine g8_functions C (pc := 20) (Nat.le_of_ble_eq_true rfl) w8_11 d8_fault_20 ?_
    refine r_iload_n C (pc := 23) 1 rfl d8_fault_23 ?_
    have hi2 := hw.1
    have hw := hw.2
    refine ld1800 C (pc := 24) hi2 d8_fault_24 ?_
    refine r_callVi C (pc := 25) (fun sz => ct2_faultIn l D ca ρ sz C.2.2.2.2.2.2.1 (vp_lt hi2) hw) mf2_faultIn w8_80 rfl (Nat.le_of_ble_eq_true rfl) rfl rfl rfl rfl ⟨Nat.le_of_ble_eq_true rfl, Nat.le_of_ble_eq_true rfl⟩ rfl rfl (Nat.le_of_ble_eq_true rfl) ⟨Nat.zero_le _, Nat.zero_le _⟩ d8_fault_25 (fun r2 S2 hw => ?_)
    refine r_wide (cells' := 1) (slots' := 6) (Nat.le_of_ble_eq_true rfl) (Nat.le_of_ble_eq_true rfl) ?_
    exact (r_iret C (pc := 28) hr d8_fault_28 hw).mono (fun _ h => MX.ofMQ (fun _ _ h => x_i h) h)
  · have hw := hw.2 c1
    exact r_throw C (pc := 7) htr hZ hX 1 th8_48_50 fit1 d8_fault_7 d8_fault_10 d8_fault_11 d8_fault_14 (Nat.le_of_ble_eq_true rfl) (Nat.le_of_ble_eq_true rfl) (Nat.le_of_ble_eq_true rfl) (Nat.le_of_ble_eq_true rfl) (Nat.le_of_ble_eq_true rfl) hw
set_option maxRecDepth 20000 in
theorem ct8_argue (l : Launch) (htr : l.stackTraces = false) (D : va_G) (ca : Nat → ClassId) (ρ : Nat → Nat → Nat) (sz : Nat) {S : St} {x1 : Int32} {Q : Int32 → St → Prop} {T : Nat → St → Prop} (hAp : Ap true ρ)  (hw : wp8_argue S x1 Q T) : MetX l y8_argue [Cond.code y8_argue b8_argue 2 (some .int)] { frames := 6, cells := 1, slots := 6, locals := 90 } (va_Pc [.ref (ρ 8 0), .int x1] (PreX true D ca ρ sz S)) (XQ (pri Q (PostU true D ca ρ)) T (PostU true D ca ρ) (Ar true ρ sz)) 1 6 (Ar true ρ sz) := by
  refine metX_of_wm (own := R8) (ls0 := [(0, .ref (ρ 8 0)), (1, .int x1)]) rfl rfl hAp (Nat.le_of_ble_eq_true rfl) rfl fun p e s m args below meth c C hr hz hX hZ => ?_
  subst hz
  unfold wp8_argue at hw
  refine r_aload_n C (pc := 0) 0 rfl d8_argue_0 ?_
  refine g8_argumentCount C (pc := 1) (Nat.le_of_ble_eq_true rfl) w8_87 d8_argue_1 ?_
  refine r_iconst C (pc := 4) (v := 3) d8_argue_4 (by decide) ?_
  refine r_icmp_lt C (pc := 5) (tgt := 16) d8_argue_5 (by decide) (fun c1 => ?_) (fun c1 => ?_)
  · have hw := hw.1 c1
    refine r_aload_n C (pc := 16) 0 rfl d8_argue_16 ?_
    refine g8_arguments C (pc := 17) (Nat.le_of_ble_eq_true rfl) w8_20 d8_argue_17 ?_
    refine r_aload_n C (pc := 20) 0 rfl d8_argue_20 ?_
    refine g8_argumentCount C (pc := 21) (Nat.le_of_ble_eq_true rfl) w8_87 d8_argue_21 ?_
    refine r_iload_n C (pc := 24) 1 rfl d8_argue_24 ?_
    have hi2 := hw.1
    have hw := hw.2
    refine st1802 C (pc := 25) (Nat.le_of_ble_eq_true rfl) hi2 d8_argue_25 ?_
    refine r_S (fun S1 eS1 => ?_)
    have hw := hw S1 eS1
    refine r_aload_n C (pc := 26) 0 rfl d8_argue_26 ?_
    refine r_dup C (pc := 27) rfl d8_argue_27 ?_
    refine g8_argumentCount C (pc := 28) (Nat.le_of_ble_eq_true rfl) w8_87 d8_argue_28 ?_
    refine r_iconst C (pc := 31) (v := 1) d8_argue_31 (by decide) ?_
    refine r_iadd C (pc := 32) d8_argue_32 ?_
    refine p8_argumentCount C (pc := 33) (Nat.le_of_ble_eq_true rfl) w8_87 d8_argue_33 ?_
    refine r_S (fun S2 eS2 => ?_)
    have hw := hw S2 eS2
    refine r_aload_n C (pc := 36) 0 rfl d8_argue_36 ?_
    refine g8_argumentCount C (pc := 37) (Nat.le_of_ble_eq_true rfl) w8_87 d8_argue_37 ?_
    refine r_wide (cells' := 1) (slots' := 6) (Nat.le_of_ble_eq_true rfl) (Nat.le_of_ble_eq_true rfl) ?_
    exact (r_iret C (pc := 40) hr d8_argue_40 hw).mono (fun _ h => MX.ofMQ (fun _ _ h => x_i h) h)
  · have hw := hw.2 c1
    exact r_throw C (pc := 8) htr hZ hX 3 th8_73_75 fit3 d8_argue_8 d8_argue_11 d8_argue_12 d8_argue_15 (Nat.le_of_ble_eq_true rfl) (Nat.le_of_ble_eq_true rfl) (Nat.le_of_ble_eq_true rfl) (Nat.le_of_ble_eq_true rfl) (Nat.le_of_ble_eq_true rfl) hw
set_option maxRecDepth 20000 in
theorem nd8_start_42 {p : Program} {l : Launch} {e : Env} {s : State} {m : MethodId} {args : Array Value} {below : List Frame} {meth : Method} {c : Code} {D : va_G} {ca : Nat → ClassId} {ρ : Nat → Nat → Nat} {x1 : Int32} {Q : Int32 → St → Prop} {T : Nat → St → Prop}  {S : St} (C : Cx true p l s m meth c R8 b8_start 3 D ca ρ) (hr : meth.sig.returnType = (some .int)) (htr : l.stackTraces = false) (hZ : Zs (Ar true ρ s.heap.size) s s.heap) (hX : ∀ x ∈ c.exceptionTable.toList, ∀ pc, covers x pc = false)   (hw : wp8_start_42 x1 Q T  S) : wm true p l e { frames := 6, cells := 1, slots := 6, locals := 90 } s m args below meth c D ca ρ 3 0 0 (xq true below args s D ca ρ 1 6 (pri Q (PostU true D ca ρ)) T) 42 [] [] S := by
  unfold wp8_start_42 at hw
  exact r_throw C (pc := 42) htr hZ hX 2 th8_55_57 fit2 d8_start_42 d8_start_45 d8_start_46 d8_start_49 (Nat.le_of_ble_eq_true rfl) (Nat.le_of_ble_eq_true rfl) (Nat.le_of_ble_eq_true rfl) (Nat.le_of_ble_eq_true rfl) (Nat.le_of_ble_eq_true rfl) hw
set_option maxRecDepth 20000 in
theorem ct8_start (l : Launch) (htr : l.stackTraces = false) (D : va_G) (ca : Nat → ClassId) (ρ : Nat → Nat → Nat) (sz : Nat) {S : St} {x1 : Int32} {Q : Int32 → St → Prop} {T : Nat → St → Prop} (hAp : Ap true ρ)  (hw : wp8_start S x1 Q T) : MetX l y8_start [Cond.code y8_start b8_start 3 (some .int)] { frames := 6, cells := 1, slots := 6, locals := 90 } (va_Pc [.ref (ρ 8 0), .int x1] (PreX true D ca ρ sz S)) (XQ (pri Q (PostU true D ca ρ)) T (PostU true D ca ρ) (Ar true ρ sz)) 1 6 (Ar true ρ sz) := by
  refine metX_of_wm (own := R8) (ls0 := [(0, .ref (ρ 8 0)), (1, .int x1)]) rfl rfl hAp (Nat.le_of_ble_eq_true rfl) rfl fun p e s m args below meth c C hr hz hX hZ => ?_
  subst hz
  unfold wp8_start at hw
  refine r_iload_n C (pc := 0) 1 rfl d8_start_0 ?_
  refine r_callSi C (pc := 1) (fun sz => ct8_isFunction l D ca ρ sz C.2.2.2.2.2.2.1 hw) mf8_isFunction w8_41 rfl rfl ⟨Nat.le_of_ble_eq_true rfl, Nat.le_of_ble_eq_true rfl⟩ rfl rfl (Nat.le_of_ble_eq_true rfl) ⟨Nat.zero_le _, Nat.zero_le _⟩ d8_start_1 (fun r1 S1 hw => ?_)
  refine r_if_ne C (pc := 4) (tgt := 15) d8_start_4 (by decide) (fun c1 => ?_) (fun c1 => ?_)
  · have hw := hw.1 c1
    refine r_aload_n C (pc := 15) 0 rfl d8_start_15 ?_
    refine g8_phase C (pc := 16) (Nat.le_of_ble_eq_true rfl) w8_51 d8_start_16 ?_
    refine r_iconst C (pc := 19) (v := 1) d8_start_19 (by decide) ?_
    refine r_icmp_eq C (pc := 20) (tgt := 42) d8_start_20 (by decide) (fun c2 => ?_) (fun c2 => ?_)
    · have hw := hw.1 c2
      refine r_sub (ls' := []) [] rfl ?_
      exact nd8_start_42 C hr htr hZ hX hw
    · have hw := hw.2 c2
      refine r_aload_n C (pc := 23) 0 rfl d8_start_23 ?_
      refine g8_checked C (pc := 24) (Nat.le_of_ble_eq_true rfl) w8_58 d8_start_24 ?_
      refine r_if_eq C (pc := 27) (tgt := 42) d8_start_27 (by decide) (fun c3 => ?_) (fun c3 => ?_)
      · have hw := hw.1 c3
        refine r_sub (ls' := []) [] rfl ?_
        exact nd8_start_42 C hr htr hZ hX hw
      · have hw := hw.2 c3
        refine r_aload_n C (pc := 30) 0 rfl d8_start_30 ?_
        refine g8_functions C (pc := 31) (Nat.le_of_ble_eq_true rfl) w8_11 d8_start_31 ?_
        refine r_iload_n C (pc := 34) 1 rfl d8_start_34 ?_
        have hi4 := hw.1
        have hw := hw.2
        refine ld1800 C (pc := 35) hi4 d8_start_35 ?_
        refine r_callVi C (pc := 36) (fun sz => ct4_length l D ca ρ sz C.2.2.2.2.2.2.1 (vp_lt hi4) hw) mf4_length w8_70 rfl (vp_lt hi4) rfl rfl rfl rfl ⟨Nat.le_of_ble_eq_true rfl, Nat.le_of_ble_eq_true rfl⟩ rfl rfl (Nat.le_of_ble_eq_true rfl) ⟨Nat.zero_le _, Nat.zero_le _⟩ d8_start_36 (fun r2 S2 hw => ?_)
        refine r_if_ne C (pc := 39) (tgt := 50) d8_start_39 (by decide) (fun c5 => ?_) (fun c5 => ?_)
        · have hw := hw.1 c5
          refine r_aload_n C (pc := 50) 0 rfl d8_start_50 ?_
          refine g8_functions C (pc := 51) (Nat.le_of_ble_eq_true rfl) w8_11 d8_start_51 ?_
          refine r_iload_n C (pc := 54) 1 rfl d8_start_54 ?_
          have hi6 := hw.1
          have hw := hw.2
          refine ld1800 C (pc := 55) hi6 d8_start_55 ?_
          refine r_callVi C (pc := 56) (fun sz => ct4_parameterCount l D ca ρ sz C.2.2.2.2.2.2.1 (vp_lt hi6) hw) mf4_parameterCount w8_90 rfl (vp_lt hi6) rfl rfl rfl rfl ⟨Nat.le_of_ble_eq_true rfl, Nat.le_of_ble_eq_true rfl⟩ rfl rfl (Nat.le_of_ble_eq_true rfl) ⟨Nat.zero_le _, Nat.zero_le _⟩ d8_start_56 (fun r3 S3 hw => ?_)
          refine r_aload_n C (pc := 59) 0 rfl d8_start_59 ?_
          refine g8_argumentCount C (pc := 60) (Nat.le_of_ble_eq_true rfl) w8_87 d8_start_60 ?_
          refine r_icmp_eq C (pc := 63) (tgt := 74) d8_start_63 (by decide) (fun c7 => ?_) (fun c7 => ?_)
          · have hw := hw.1 c7
            refine r_aload_n C (pc := 74) 0 rfl d8_start_74 ?_
            refine g8_machine C (pc := 75) (Nat.le_of_ble_eq_true rfl) w8_37 d8_start_75 ?_
            refine r_aload_n C (pc := 78) 0 rfl d8_start_78 ?_
            refine g8_functions C (pc := 79) (Nat.le_of_ble_eq_true rfl) w8_11 d8_start_79 ?_
            refine r_iload_n C (pc := 82) 1 rfl d8_start_82 ?_
            have hi8 := hw.1
            have hw := hw.2
            refine ld1800 C (pc := 83) hi8 d8_start_83 ?_
            refine r_aload_n C (pc := 84) 0 rfl d8_start_84 ?_
            refine g8_arguments C (pc := 85) (Nat.le_of_ble_eq_true rfl) w8_20 d8_start_85 ?_
            refine r_callVv C (pc := 88) (fun sz => ct6_begin l D ca ρ sz C.2.2.2.2.2.2.1 (vp_lt hi8) hw) mf6_begin w8_93 rfl (Nat.le_of_ble_eq_true rfl) rfl rfl rfl rfl ⟨Nat.le_of_ble_eq_true rfl, Nat.le_of_ble_eq_true rfl⟩ rfl rfl (Nat.le_of_ble_eq_true rfl) ⟨Nat.zero_le _, Nat.zero_le _⟩ d8_start_88 (fun S4 hw => ?_)
            refine r_aload_n C (pc := 91) 0 rfl d8_start_91 ?_
            refine r_iconst C (pc := 92) (v := 1) d8_start_92 (by decide) ?_
            refine p8_phase C (pc := 93) (Nat.le_of_ble_eq_true rfl) w8_51 d8_start_93 ?_
            refine r_S (fun S5 eS5 => ?_)
            have hw := hw S5 eS5
            refine r_aload_n C (pc := 96) 0 rfl d8_start_96 ?_
            refine r_iconst C (pc := 97) (v := 0) d8_start_97 (by decide) ?_
            refine p8_steps C (pc := 98) (Nat.le_of_ble_eq_true rfl) w8_97 d8_start_98 ?_
            refine r_S (fun S6 eS6 => ?_)
            have hw := hw S6 eS6
            refine r_aload_n C (pc := 101) 0 rfl d8_start_101 ?_
            refine g8_argumentCount C (pc := 102) (Nat.le_of_ble_eq_true rfl) w8_87 d8_start_102 ?_
            refine r_topi (fun x2_1 ex2_1 => ?_)
            have hw := hw x2_1 ex2_1
            refine r_istore_n C (pc := 105) (ls' := [(2, .int x2_1), (0, .ref (ρ 8 0)), (1, .int x1)]) (Nat.le_of_ble_eq_true rfl) rfl d8_start_105 ?_
            refine r_aload_n C (pc := 106) 1 rfl d8_start_106 ?_
            refine r_iconst C (pc := 107) (v := 0) d8_start_107 (by decide) ?_
            refine p8_argumentCount C (pc := 108) (Nat.le_of_ble_eq_true rfl) w8_87 d8_start_108 ?_
            refine r_S (fun S7 eS7 => ?_)
            have hw := hw S7 eS7
            refine r_iload_n C (pc := 111) 0 rfl d8_start_111 ?_
            refine r_wide (cells' := 1) (slots' := 6) (Nat.le_of_ble_eq_true rfl) (Nat.le_of_ble_eq_true rfl) ?_
            exact (r_iret C (pc := 112) hr d8_start_112 hw).mono (fun _ h => MX.ofMQ (fun _ _ h => x_i h) h)
          · have hw := hw.2 c7
            exact r_throw C (pc := 66) htr hZ hX 5 th8_84_86 fit5 d8_start_66 d8_start_69 d8_start_70 d8_start_73 (Nat.le_of_ble_eq_true rfl) (Nat.le_of_ble_eq_true rfl) (Nat.le_of_ble_eq_true rfl) (Nat.le_of_ble_eq_true rfl) (Nat.le_of_ble_eq_true rfl) hw
        · have hw := hw.2 c5
          refine r_sub (ls' := []) [] rfl ?_
          exact nd8_start_42 C hr htr hZ hX hw
  · have hw := hw.2 c1
    exact r_throw C (pc := 7) htr hZ hX 1 th8_48_50 fit1 d8_start_7 d8_start_10 d8_start_11 d8_start_14 (Nat.le_of_ble_eq_true rfl) (Nat.le_of_ble_eq_true rfl) (Nat.le_of_ble_eq_true rfl) (Nat.le_of_ble_eq_true rfl) (Nat.le_of_ble_eq_true rfl) hw
set_option maxRecDepth 20000 in
theorem nd8_run_82 {p : Program} {l : Launch} {e : Env} {s : State} {m : MethodId} {args : Array Value} {below : List Frame} {meth : Method} {c : Code} {D : va_G} {ca : Nat → ClassId} {ρ : Nat → Nat → Nat} {x1 : Int32} {Q : Int32 → St → Prop} {T : Nat → St → Prop} {x2 : Int32} {x3 : Int32} {S : St} (C : Cx true p l s m meth c R8 b8_run 5 D ca ρ) (hr : meth.sig.returnType = (some .int)) (htr : l.stackTraces = false) (hZ : Zs (Ar true ρ s.heap.size) s s.heap) (hX : ∀ x ∈ c.exceptionTable.toList, ∀ pc, covers x pc = false)   (hw : wp8_run_82 x1 Q T x2 x3 S) : wm true p l e { frames := 7, cells := 1, slots := 6, locals := 142 } s m args below meth c D ca ρ 5 0 0 (xq true below args s D ca ρ 1 6 (pri Q (PostU true D ca ρ)) T) 82 [(0, .ref (ρ 8 0)), (2, .int x2), (3, .int x3)] [] S := by
  unfold wp8_run_82 at hw
  refine r_aload_n C (pc := 82) 0 rfl d8_run_82 ?_
  refine r_dup C (pc := 83) rfl d8_run_83 ?_
  refine g8_steps C (pc := 84) (Nat.le_of_ble_eq_true rfl) w8_97 d8_run_84 ?_
  refine r_iload_n C (pc := 87) 1 rfl d8_run_87 ?_
  refine r_iadd C (pc := 88) d8_run_88 ?_
  refine p8_steps C (pc := 89) (Nat.le_of_ble_eq_true rfl) w8_97 d8_run_89 ?_
  refine r_S (fun S1 eS1 => ?_)
  have hw := hw S1 eS1
  refine r_iload_n C (pc := 92) 2 rfl d8_run_92 ?_
  refine r_if_eq C (pc := 93) (tgt := 105) d8_run_93 (by decide) (fun c1 => ?_) (fun c1 => ?_)
  · have hw := hw.1 c1
    refine r_iload_n C (pc := 105) 1 rfl d8_run_105 ?_
    refine r_wide (cells' := 1) (slots' := 6) (Nat.le_of_ble_eq_true rfl) (Nat.le_of_ble_eq_true rfl) ?_
    exact (r_iret C (pc := 106) hr d8_run_106 hw).mono (fun _ h => MX.ofMQ (fun _ _ h => x_i h) h)
  · have hw := hw.2 c1
    refine r_aload_n C (pc := 96) 0 rfl d8_run_96 ?_
    refine r_iload_n C (pc := 97) 2 rfl d8_run_97 ?_
    refine p8_latestTrap C (pc := 98) (Nat.le_of_ble_eq_true rfl) w8_107 d8_run_98 ?_
    refine r_S (fun S2 eS2 => ?_)
    have hw := hw S2 eS2
    refine r_iload_n C (pc := 101) 2 rfl d8_run_101 ?_
    refine r_callXS C hZ hX (pc := 102) (fun sz => ct8_throwTrap l htr D ca ρ sz C.2.2.2.2.2.2.1 hw) mf8_throwTrap w8_110 rfl rfl ⟨Nat.le_of_ble_eq_true rfl, Nat.le_of_ble_eq_true rfl⟩ rfl rfl (Nat.le_of_ble_eq_true rfl) ⟨Nat.le_of_ble_eq_true rfl, Nat.le_of_ble_eq_true rfl⟩ ⟨Nat.le_of_ble_eq_true rfl, Nat.le_of_ble_eq_true rfl⟩ d8_run_102 (fun _ _ h => h) (fun S3 hw => ?_)
    refine r_iload_n C (pc := 105) 1 rfl d8_run_105 ?_
    refine r_wide (cells' := 1) (slots' := 6) (Nat.le_of_ble_eq_true rfl) (Nat.le_of_ble_eq_true rfl) ?_
    exact (r_iret C (pc := 106) hr d8_run_106 hw).mono (fun _ h => MX.ofMQ (fun _ _ h => x_i h) h)
set_option maxRecDepth 20000 in
theorem nd8_run_42 {p : Program} {l : Launch} {e : Env} {s : State} {m : MethodId} {args : Array Value} {below : List Frame} {meth : Method} {c : Code} {D : va_G} {ca : Nat → ClassId} {ρ : Nat → Nat → Nat} {x1 : Int32} {Q : Int32 → St → Prop} {T : Nat → St → Prop} (C : Cx true p l s m meth c R8 b8_run 5 D ca ρ) (hr : meth.sig.returnType = (some .int)) (htr : l.stackTraces = false) (hZ : Zs (Ar true ρ s.heap.size) s s.heap) (hX : ∀ x ∈ c.exceptionTable.toList, ∀ pc, covers x pc = false)  : ∀ (n : Nat) (x2 : Int32) (x3 : Int32) (x4 : Int32) (S : St) , wp8_run_42 x1 Q T n x2 x3 x4 S → wm true p l e { frames := 7, cells := 1, slots := 6, locals := 142 } s m args below meth c D ca ρ 5 0 0 (xq true below args s D ca ρ 1 6 (pri Q (PostU true D ca ρ)) T) 42 [(0, .ref (ρ 8 0)), (1, .int x1), (2, .int x2), (3, .int x3), (4, .int x4)] [] S := by
  intro n
  induction n with
  | zero => intro x2 x3 x4 S  hw; exact hw.elim
  | succ n ih =>
    intro x2 x3 x4 S  hw
    unfold wp8_run_42 at hw
    refine r_iload C (pc := 42) 4 rfl d8_run_42 ?_
    refine r_iload_n C (pc := 44) 1 rfl d8_run_44 ?_
    refine r_icmp_ge C (pc := 45) (tgt := 82) d8_run_45 (by decide) (fun c1 => ?_) (fun c1 => ?_)
    · have hw := hw.1 c1
      refine r_sub (ls' := [(0, .ref (ρ 8 0)), (2, .int x2), (3, .int x3)]) [0, 2, 3] rfl ?_
      exact nd8_run_82 C hr htr hZ hX hw
    · have hw := hw.2 c1
      refine r_aload_n C (pc := 48) 0 rfl d8_run_48 ?_
      refine g8_phase C (pc := 49) (Nat.le_of_ble_eq_true rfl) w8_51 d8_run_49 ?_
      refine r_iconst C (pc := 52) (v := 1) d8_run_52 (by decide) ?_
      refine r_icmp_ne C (pc := 53) (tgt := 82) d8_run_53 (by decide) (fun c2 => ?_) (fun c2 => ?_)
      · have hw := hw.1 c2
        refine r_sub (ls' := [(0, .ref (ρ 8 0)), (2, .int x2), (3, .int x3)]) [0, 2, 3] rfl ?_
        exact nd8_run_82 C hr htr hZ hX hw
      · have hw := hw.2 c2
        refine r_aload_n C (pc := 56) 0 rfl d8_run_56 ?_
        refine g8_machine C (pc := 57) (Nat.le_of_ble_eq_true rfl) w8_37 d8_run_57 ?_
        refine r_callVi C (pc := 60) (fun sz => ct6_step l D ca ρ sz C.2.2.2.2.2.2.1 hw) mf6_step w8_100 rfl (Nat.le_of_ble_eq_true rfl) rfl rfl rfl rfl ⟨Nat.le_of_ble_eq_true rfl, Nat.le_of_ble_eq_true rfl⟩ rfl rfl (Nat.le_of_ble_eq_true rfl) ⟨Nat.zero_le _, Nat.zero_le _⟩ d8_run_60 (fun r1 S1 hw => ?_)
        refine r_istore_n C (pc := 63) (ls' := [(3, .int r1), (0, .ref (ρ 8 0)), (1, .int x1), (2, .int x2), (4, .int x4)]) (Nat.le_of_ble_eq_true rfl) rfl d8_run_63 ?_
        obtain ⟨x2_1, ex2_1⟩ : ∃ y : Int32, y = x2 + 1 := ⟨_, rfl⟩
        have hw := hw x2_1 ex2_1
        refine r_iinc C (pc := 64) (v := x2_1) (ls' := [(2, .int x2_1), (3, .int r1), (0, .ref (ρ 8 0)), (1, .int x1), (4, .int x4)]) 3 rfl (by rw [ex2_1]; rfl) (Nat.le_of_ble_eq_true rfl) rfl d8_run_64 ?_
        refine r_aload_n C (pc := 67) 2 rfl d8_run_67 ?_
        refine r_aload_n C (pc := 68) 2 rfl d8_run_68 ?_
        refine r_iload_n C (pc := 69) 1 rfl d8_run_69 ?_
        refine r_callVi C (pc := 70) (fun sz => ct8_phaseAfter l D ca ρ sz C.2.2.2.2.2.2.1 hw) mf8_phaseAfter w8_103 rfl (Nat.le_of_ble_eq_true rfl) rfl rfl rfl rfl ⟨Nat.le_of_ble_eq_true rfl, Nat.le_of_ble_eq_true rfl⟩ rfl rfl (Nat.le_of_ble_eq_true rfl) ⟨Nat.zero_le _, Nat.zero_le _⟩ d8_run_70 (fun r2 S2 hw => ?_)
        refine p8_phase C (pc := 73) (Nat.le_of_ble_eq_true rfl) w8_51 d8_run_73 ?_
        refine r_S (fun S3 eS3 => ?_)
        have hw := hw S3 eS3
        obtain ⟨x4_1, ex4_1⟩ : ∃ y : Int32, y = x4 + 1 := ⟨_, rfl⟩
        have hw := hw x4_1 ex4_1
        refine r_iinc C (pc := 76) (v := x4_1) (ls' := [(4, .int x4_1), (2, .int x2_1), (3, .int r1), (0, .ref (ρ 8 0)), (1, .int x1)]) 4 rfl (by rw [ex4_1]; rfl) (Nat.le_of_ble_eq_true rfl) rfl d8_run_76 ?_
        refine r_goto C (pc := 79) (tgt := 42) d8_run_79 (by decide) ?_
        refine r_sub (ls' := [(0, .ref (ρ 8 0)), (1, .int x1), (2, .int x2_1), (3, .int r1), (4, .int x4_1)]) [3, 4, 1, 2, 0] rfl ?_
        exact ih _ _ _ _ hw
set_option maxRecDepth 20000 in
theorem nd8_run_11 {p : Program} {l : Launch} {e : Env} {s : State} {m : MethodId} {args : Array Value} {below : List Frame} {meth : Method} {c : Code} {D : va_G} {ca : Nat → ClassId} {ρ : Nat → Nat → Nat} {x1 : Int32} {Q : Int32 → St → Prop} {T : Nat → St → Prop}  {S : St} (C : Cx true p l s m meth c R8 b8_run 5 D ca ρ) (hr : meth.sig.returnType = (some .int)) (htr : l.stackTraces = false) (hZ : Zs (Ar true ρ s.heap.size) s s.heap) (hX : ∀ x ∈ c.exceptionTable.toList, ∀ pc, covers x pc = false)   (hw : wp8_run_11 x1 Q T  S) : wm true p l e { frames := 7, cells := 1, slots := 6, locals := 142 } s m args below meth c D ca ρ 5 0 0 (xq true below args s D ca ρ 1 6 (pri Q (PostU true D ca ρ)) T) 11 [] [] S := by
  unfold wp8_run_11 at hw
  exact r_throw C (pc := 11) htr hZ hX 1 th8_48_50 fit1 d8_run_11 d8_run_14 d8_run_15 d8_run_18 (Nat.le_of_ble_eq_true rfl) (Nat.le_of_ble_eq_true rfl) (Nat.le_of_ble_eq_true rfl) (Nat.le_of_ble_eq_true rfl) (Nat.le_of_ble_eq_true rfl) hw
set_option maxRecDepth 20000 in
theorem ct8_run (l : Launch) (htr : l.stackTraces = false) (D : va_G) (ca : Nat → ClassId) (ρ : Nat → Nat → Nat) (sz : Nat) {S : St} {x1 : Int32} {Q : Int32 → St → Prop} {T : Nat → St → Prop} (hAp : Ap true ρ)  (hw : wp8_run S x1 Q T) : MetX l y8_run [Cond.code y8_run b8_run 5 (some .int)] { frames := 7, cells := 1, slots := 6, locals := 142 } (va_Pc [.ref (ρ 8 0), .int x1] (PreX true D ca ρ sz S)) (XQ (pri Q (PostU true D ca ρ)) T (PostU true D ca ρ) (Ar true ρ sz)) 1 6 (Ar true ρ sz) := by
  refine metX_of_wm (own := R8) (ls0 := [(0, .ref (ρ 8 0)), (1, .int x1)]) rfl rfl hAp (Nat.le_of_ble_eq_true rfl) rfl fun p e s m args below meth c C hr hz hX hZ => ?_
  subst hz
  unfold wp8_run at hw
  refine r_iload_n C (pc := 0) 1 rfl d8_run_0 ?_
  refine r_iconst C (pc := 1) (v := 1) d8_run_1 (by decide) ?_
  refine r_icmp_lt C (pc := 2) (tgt := 11) d8_run_2 (by decide) (fun c1 => ?_) (fun c1 => ?_)
  · have hw := hw.1 c1
    refine r_sub (ls' := []) [] rfl ?_
    exact nd8_run_11 C hr htr hZ hX hw
  · have hw := hw.2 c1
    refine r_iload_n C (pc := 5) 1 rfl d8_run_5 ?_
    refine r_bipush C (pc := 6) (v := 20) d8_run_6 (by decide) ?_
    refine r_icmp_le C (pc := 8) (tgt := 19) d8_run_8 (by decide) (fun c2 => ?_) (fun c2 => ?_)
    · have hw := hw.1 c2
      refine r_aload_n C (pc := 19) 0 rfl d8_run_19 ?_
      refine g8_phase C (pc := 20) (Nat.le_of_ble_eq_true rfl) w8_51 d8_run_20 ?_
      refine r_iconst C (pc := 23) (v := 1) d8_run_23 (by decide) ?_
      refine r_icmp_eq C (pc := 24) (tgt := 35) d8_run_24 (by decide) (fun c3 => ?_) (fun c3 => ?_)
      · have hw := hw.1 c3
        refine r_iconst C (pc := 35) (v := 0) d8_run_35 (by decide) ?_
        refine r_istore_n C (pc := 36) (ls' := [(2, .int 0), (0, .ref (ρ 8 0)), (1, .int x1)]) (Nat.le_of_ble_eq_true rfl) rfl d8_run_36 ?_
        refine r_iconst C (pc := 37) (v := 0) d8_run_37 (by decide) ?_
        refine r_istore_n C (pc := 38) (ls' := [(3, .int 0), (2, .int 0), (0, .ref (ρ 8 0)), (1, .int x1)]) (Nat.le_of_ble_eq_true rfl) rfl d8_run_38 ?_
        refine r_iconst C (pc := 39) (v := 0) d8_run_39 (by decide) ?_
        refine r_istore C (pc := 40) (ls' := [(4, .int 0), (3, .int 0), (2, .int 0), (0, .ref (ρ 8 0)), (1, .int x1)]) (Nat.le_of_ble_eq_true rfl) rfl d8_run_40 ?_
        refine r_sub (ls' := [(0, .ref (ρ 8 0)), (1, .int x1), (2, .int 0), (3, .int 0), (4, .int 0)]) [3, 4, 2, 1, 0] rfl ?_
        obtain ⟨n, hw⟩ := hw
        exact nd8_run_42 C hr htr hZ hX  n _ _ _ _ hw
      · have hw := hw.2 c3
        exact r_throw C (pc := 27) htr hZ hX 2 th8_55_57 fit2 d8_run_27 d8_run_30 d8_run_31 d8_run_34 (Nat.le_of_ble_eq_true rfl) (Nat.le_of_ble_eq_true rfl) (Nat.le_of_ble_eq_true rfl) (Nat.le_of_ble_eq_true rfl) (Nat.le_of_ble_eq_true rfl) hw
    · have hw := hw.2 c2
      refine r_sub (ls' := []) [] rfl ?_
      exact nd8_run_11 C hr htr hZ hX hw
set_option maxRecDepth 20000 in
theorem ct8_stop (l : Launch) (htr : l.stackTraces = false) (D : va_G) (ca : Nat → ClassId) (ρ : Nat → Nat → Nat) (sz : Nat) {S : St}  {Q : Int32 → St → Prop} {T : Nat → St → Prop} (hAp : Ap true ρ)  (hw : wp8_stop S Q T) : MetX l y8_stop [Cond.code y8_stop b8_stop 1 (some .int)] { frames := 6, cells := 1, slots := 6, locals := 90 } (va_Pc [.ref (ρ 8 0)] (PreX true D ca ρ sz S)) (XQ (pri Q (PostU true D ca ρ)) T (PostU true D ca ρ) (Ar true ρ sz)) 1 6 (Ar true ρ sz) := by
  refine metX_of_wm (own := R8) (ls0 := [(0, .ref (ρ 8 0))]) rfl rfl hAp (Nat.le_of_ble_eq_true rfl) rfl fun p e s m args below meth c C hr hz hX hZ => ?_
  subst hz
  unfold wp8_stop at hw
  refine r_aload_n C (pc := 0) 0 rfl d8_stop_0 ?_
  refine g8_phase C (pc := 1) (Nat.le_of_ble_eq_true rfl) w8_51 d8_stop_1 ?_
  refine r_iconst C (pc := 4) (v := 1) d8_stop_4 (by decide) ?_
  refine r_icmp_eq C (pc := 5) (tgt := 16) d8_stop_5 (by decide) (fun c1 => ?_) (fun c1 => ?_)
  · have hw := hw.1 c1
    refine r_aload_n C (pc := 16) 0 rfl d8_stop_16 ?_
    refine r_iconst C (pc := 17) (v := 0) d8_stop_17 (by decide) ?_
    refine p8_phase C (pc := 18) (Nat.le_of_ble_eq_true rfl) w8_51 d8_stop_18 ?_
    refine r_S (fun S1 eS1 => ?_)
    have hw := hw S1 eS1
    refine r_aload_n C (pc := 21) 0 rfl d8_stop_21 ?_
    refine g8_steps C (pc := 22) (Nat.le_of_ble_eq_true rfl) w8_97 d8_stop_22 ?_
    refine r_wide (cells' := 1) (slots' := 6) (Nat.le_of_ble_eq_true rfl) (Nat.le_of_ble_eq_true rfl) ?_
    exact (r_iret C (pc := 25) hr d8_stop_25 hw).mono (fun _ h => MX.ofMQ (fun _ _ h => x_i h) h)
  · have hw := hw.2 c1
    exact r_throw C (pc := 8) htr hZ hX 2 th8_55_57 fit2 d8_stop_8 d8_stop_11 d8_stop_12 d8_stop_15 (Nat.le_of_ble_eq_true rfl) (Nat.le_of_ble_eq_true rfl) (Nat.le_of_ble_eq_true rfl) (Nat.le_of_ble_eq_true rfl) (Nat.le_of_ble_eq_true rfl) hw
set_option maxRecDepth 20000 in
theorem nd8_result_46 {p : Program} {l : Launch} {e : Env} {s : State} {m : MethodId} {args : Array Value} {below : List Frame} {meth : Method} {c : Code} {D : va_G} {ca : Nat → ClassId} {ρ : Nat → Nat → Nat}  {Q : Int64 → St → Prop} {T : Nat → St → Prop}  {S : St} (C : Cx true p l s m meth c R8 b8_result 1 D ca ρ) (hr : meth.sig.returnType = (some .long)) (htr : l.stackTraces = false) (hZ : Zs (Ar true ρ s.heap.size) s s.heap) (hX : ∀ x ∈ c.exceptionTable.toList, ∀ pc, covers x pc = false)   (hw : wp8_result_46  Q T  S) : wm true p l e { frames := 6, cells := 1, slots := 6, locals := 90 } s m args below meth c D ca ρ 1 0 0 (xq true below args s D ca ρ 1 6 (prl Q (PostU true D ca ρ)) T) 46 [(0, .ref (ρ 8 0))] [] S := by
  unfold wp8_result_46 at hw
  refine r_aload_n C (pc := 46) 0 rfl d8_result_46 ?_
  refine g8_machine C (pc := 47) (Nat.le_of_ble_eq_true rfl) w8_37 d8_result_47 ?_
  refine r_callVl C (pc := 50) (fun sz => ct6_outcomeNumber l D ca ρ sz C.2.2.2.2.2.2.1 hw) mf6_outcomeNumber w8_119 rfl (Nat.le_of_ble_eq_true rfl) rfl rfl rfl rfl ⟨Nat.le_of_ble_eq_true rfl, Nat.le_of_ble_eq_true rfl⟩ rfl rfl (Nat.le_of_ble_eq_true rfl) ⟨Nat.zero_le _, Nat.zero_le _⟩ d8_result_50 (fun r1 S1 hw => ?_)
  refine r_wide (cells' := 1) (slots' := 6) (Nat.le_of_ble_eq_true rfl) (Nat.le_of_ble_eq_true rfl) ?_
  exact (r_lret C (pc := 53) hr d8_result_53 hw).mono (fun _ h => MX.ofMQ (fun _ _ h => x_l h) h)
set_option maxRecDepth 20000 in
theorem ct8_result (l : Launch) (htr : l.stackTraces = false) (D : va_G) (ca : Nat → ClassId) (ρ : Nat → Nat → Nat) (sz : Nat) {S : St}  {Q : Int64 → St → Prop} {T : Nat → St → Prop} (hAp : Ap true ρ)  (hw : wp8_result S Q T) : MetX l y8_result [Cond.code y8_result b8_result 1 (some .long)] { frames := 6, cells := 1, slots := 6, locals := 90 } (va_Pc [.ref (ρ 8 0)] (PreX true D ca ρ sz S)) (XQ (prl Q (PostU true D ca ρ)) T (PostU true D ca ρ) (Ar true ρ sz)) 1 6 (Ar true ρ sz) := by
  refine metX_of_wm (own := R8) (ls0 := [(0, .ref (ρ 8 0))]) rfl rfl hAp (Nat.le_of_ble_eq_true rfl) rfl fun p e s m args below meth c C hr hz hX hZ => ?_
  subst hz
  unfold wp8_result at hw
  refine r_aload_n C (pc := 0) 0 rfl d8_result_0 ?_
  refine g8_phase C (pc := 1) (Nat.le_of_ble_eq_true rfl) w8_51 d8_result_1 ?_
  refine r_iconst C (pc := 4) (v := 2) d8_result_4 (by decide) ?_
  refine r_icmp_eq C (pc := 5) (tgt := 16) d8_result_5 (by decide) (fun c1 => ?_) (fun c1 => ?_)
  · have hw := hw.1 c1
    refine r_aload_n C (pc := 16) 0 rfl d8_result_16 ?_
    refine g8_machine C (pc := 17) (Nat.le_of_ble_eq_true rfl) w8_37 d8_result_17 ?_
    refine r_callVi C (pc := 20) (fun sz => ct6_outcomeKind l D ca ρ sz C.2.2.2.2.2.2.1 hw) mf6_outcomeKind w8_113 rfl (Nat.le_of_ble_eq_true rfl) rfl rfl rfl rfl ⟨Nat.le_of_ble_eq_true rfl, Nat.le_of_ble_eq_true rfl⟩ rfl rfl (Nat.le_of_ble_eq_true rfl) ⟨Nat.zero_le _, Nat.zero_le _⟩ d8_result_20 (fun r1 S1 hw => ?_)
    refine r_iconst C (pc := 23) (v := 1) d8_result_23 (by decide) ?_
    refine r_icmp_eq C (pc := 24) (tgt := 46) d8_result_24 (by decide) (fun c2 => ?_) (fun c2 => ?_)
    · have hw := hw.1 c2
      refine r_sub (ls' := [(0, .ref (ρ 8 0))]) [0] rfl ?_
      exact nd8_result_46 C hr htr hZ hX hw
    · have hw := hw.2 c2
      refine r_aload_n C (pc := 27) 0 rfl d8_result_27 ?_
      refine g8_machine C (pc := 28) (Nat.le_of_ble_eq_true rfl) w8_37 d8_result_28 ?_
      refine r_callVi C (pc := 31) (fun sz => ct6_outcomeKind l D ca ρ sz C.2.2.2.2.2.2.1 hw) mf6_outcomeKind w8_113 rfl (Nat.le_of_ble_eq_true rfl) rfl rfl rfl rfl ⟨Nat.le_of_ble_eq_true rfl, Nat.le_of_ble_eq_true rfl⟩ rfl rfl (Nat.le_of_ble_eq_true rfl) ⟨Nat.zero_le _, Nat.zero_le _⟩ d8_result_31 (fun r2 S2 hw => ?_)
      refine r_iconst C (pc := 34) (v := 2) d8_result_34 (by decide) ?_
      refine r_icmp_eq C (pc := 35) (tgt := 46) d8_result_35 (by decide) (fun c3 => ?_) (fun c3 => ?_)
      · have hw := hw.1 c3
        refine r_sub (ls' := [(0, .ref (ρ 8 0))]) [0] rfl ?_
        exact nd8_result_46 C hr htr hZ hX hw
      · have hw := hw.2 c3
        exact r_throw C (pc := 38) htr hZ hX 6 th8_116_118 fit6 d8_result_38 d8_result_41 d8_result_42 d8_result_45 (Nat.le_of_ble_eq_true rfl) (Nat.le_of_ble_eq_true rfl) (Nat.le_of_ble_eq_true rfl) (Nat.le_of_ble_eq_true rfl) (Nat.le_of_ble_eq_true rfl) hw
  · have hw := hw.2 c1
    exact r_throw C (pc := 8) htr hZ hX 2 th8_55_57 fit2 d8_result_8 d8_result_11 d8_result_12 d8_result_15 (Nat.le_of_ble_eq_true rfl) (Nat.le_of_ble_eq_true rfl) (Nat.le_of_ble_eq_true rfl) (Nat.le_of_ble_eq_true rfl) (Nat.le_of_ble_eq_true rfl) hw
set_option maxRecDepth 20000 in
theorem ct8_real (l : Launch) (htr : l.stackTraces = false) (D : va_G) (ca : Nat → ClassId) (ρ : Nat → Nat → Nat) (sz : Nat) {S : St}  {Q : UInt64 → St → Prop} {T : Nat → St → Prop} (hAp : Ap true ρ)  (hw : wp8_real S Q T) : MetX l y8_real [Cond.code y8_real b8_real 1 (some .double)] { frames := 6, cells := 1, slots := 6, locals := 90 } (va_Pc [.ref (ρ 8 0)] (PreX true D ca ρ sz S)) (XQ (prd Q (PostU true D ca ρ)) T (PostU true D ca ρ) (Ar true ρ sz)) 1 6 (Ar true ρ sz) := by
  refine metX_of_wm (own := R8) (ls0 := [(0, .ref (ρ 8 0))]) rfl rfl hAp (Nat.le_of_ble_eq_true rfl) rfl fun p e s m args below meth c C hr hz hX hZ => ?_
  subst hz
  unfold wp8_real at hw
  refine r_aload_n C (pc := 0) 0 rfl d8_real_0 ?_
  refine g8_phase C (pc := 1) (Nat.le_of_ble_eq_true rfl) w8_51 d8_real_1 ?_
  refine r_iconst C (pc := 4) (v := 2) d8_real_4 (by decide) ?_
  refine r_icmp_eq C (pc := 5) (tgt := 16) d8_real_5 (by decide) (fun c1 => ?_) (fun c1 => ?_)
  · have hw := hw.1 c1
    refine r_aload_n C (pc := 16) 0 rfl d8_real_16 ?_
    refine g8_machine C (pc := 17) (Nat.le_of_ble_eq_true rfl) w8_37 d8_real_17 ?_
    refine r_callVi C (pc := 20) (fun sz => ct6_outcomeKind l D ca ρ sz C.2.2.2.2.2.2.1 hw) mf6_outcomeKind w8_113 rfl (Nat.le_of_ble_eq_true rfl) rfl rfl rfl rfl ⟨Nat.le_of_ble_eq_true rfl, Nat.le_of_ble_eq_true rfl⟩ rfl rfl (Nat.le_of_ble_eq_true rfl) ⟨Nat.zero_le _, Nat.zero_le _⟩ d8_real_20 (fun r1 S1 hw => ?_)
    refine r_iconst C (pc := 23) (v := 3) d8_real_23 (by decide) ?_
    refine r_icmp_eq C (pc := 24) (tgt := 35) d8_real_24 (by decide) (fun c2 => ?_) (fun c2 => ?_)
    · have hw := hw.1 c2
      refine r_aload_n C (pc := 35) 0 rfl d8_real_35 ?_
      refine g8_machine C (pc := 36) (Nat.le_of_ble_eq_true rfl) w8_37 d8_real_36 ?_
      refine r_callVd C (pc := 39) (fun sz => ct6_outcomeReal l D ca ρ sz C.2.2.2.2.2.2.1 hw) mf6_outcomeReal w8_123 rfl (Nat.le_of_ble_eq_true rfl) rfl rfl rfl rfl ⟨Nat.le_of_ble_eq_true rfl, Nat.le_of_ble_eq_true rfl⟩ rfl rfl (Nat.le_of_ble_eq_true rfl) ⟨Nat.zero_le _, Nat.zero_le _⟩ d8_real_39 (fun r2 S2 hw => ?_)
      refine r_wide (cells' := 1) (slots' := 6) (Nat.le_of_ble_eq_true rfl) (Nat.le_of_ble_eq_true rfl) ?_
      exact (r_dret C (pc := 42) hr d8_real_42 hw).mono (fun _ h => MX.ofMQ (fun _ _ h => x_d h) h)
    · have hw := hw.2 c2
      exact r_throw C (pc := 27) htr hZ hX 6 th8_116_118 fit6 d8_real_27 d8_real_30 d8_real_31 d8_real_34 (Nat.le_of_ble_eq_true rfl) (Nat.le_of_ble_eq_true rfl) (Nat.le_of_ble_eq_true rfl) (Nat.le_of_ble_eq_true rfl) (Nat.le_of_ble_eq_true rfl) hw
  · have hw := hw.2 c1
    exact r_throw C (pc := 8) htr hZ hX 2 th8_55_57 fit2 d8_real_8 d8_real_11 d8_real_12 d8_real_15 (Nat.le_of_ble_eq_true rfl) (Nat.le_of_ble_eq_true rfl) (Nat.le_of_ble_eq_true rfl) (Nat.le_of_ble_eq_true rfl) (Nat.le_of_ble_eq_true rfl) hw
set_option maxRecDepth 20000 in
theorem nd8_global_9 {p : Program} {l : Launch} {e : Env} {s : State} {m : MethodId} {args : Array Value} {below : List Frame} {meth : Method} {c : Code} {D : va_G} {ca : Nat → ClassId} {ρ : Nat → Nat → Nat} {x1 : Int32} {Q : Int64 → St → Prop} {T : Nat → St → Prop}  {S : St} (C : Cx true p l s m meth c R8 b8_global 2 D ca ρ) (hr : meth.sig.returnType = (some .long)) (htr : l.stackTraces = false) (hZ : Zs (Ar true ρ s.heap.size) s s.heap) (hX : ∀ x ∈ c.exceptionTable.toList, ∀ pc, covers x pc = false)   (hw : wp8_global_9 x1 Q T  S) : wm true p l e { frames := 6, cells := 1, slots := 6, locals := 90 } s m args below meth c D ca ρ 2 0 0 (xq true below args s D ca ρ 1 6 (prl Q (PostU true D ca ρ)) T) 9 [] [] S := by
  unfold wp8_global_9 at hw
  exact r_throw C (pc := 9) htr hZ hX 1 th8_48_50 fit1 d8_global_9 d8_global_12 d8_global_13 d8_global_16 (Nat.le_of_ble_eq_true rfl) (Nat.le_of_ble_eq_true rfl) (Nat.le_of_ble_eq_true rfl) (Nat.le_of_ble_eq_true rfl) (Nat.le_of_ble_eq_true rfl) hw
set_option maxRecDepth 20000 in
theorem ct8_global (l : Launch) (htr : l.stackTraces = false) (D : va_G) (ca : Nat → ClassId) (ρ : Nat → Nat → Nat) (sz : Nat) {S : St} {x1 : Int32} {Q : Int64 → St → Prop} {T : Nat → St → Prop} (hAp : Ap true ρ)  (hw : wp8_global S x1 Q T) : MetX l y8_global [Cond.code y8_global b8_global 2 (some .long)] { frames := 6, cells := 1, slots := 6, locals := 90 } (va_Pc [.ref (ρ 8 0), .int x1] (PreX true D ca ρ sz S)) (XQ (prl Q (PostU true D ca ρ)) T (PostU true D ca ρ) (Ar true ρ sz)) 1 6 (Ar true ρ sz) := by
  refine metX_of_wm (own := R8) (ls0 := [(0, .ref (ρ 8 0)), (1, .int x1)]) rfl rfl hAp (Nat.le_of_ble_eq_true rfl) rfl fun p e s m args below meth c C hr hz hX hZ => ?_
  subst hz
  unfold wp8_global at hw
  refine r_iload_n C (pc := 0) 1 rfl d8_global_0 ?_
  refine r_if_lt C (pc := 1) (tgt := 9) d8_global_1 (by decide) (fun c1 => ?_) (fun c1 => ?_)
  · have hw := hw.1 c1
    refine r_sub (ls' := []) [] rfl ?_
    exact nd8_global_9 C hr htr hZ hX hw
  · have hw := hw.2 c1
    refine r_iload_n C (pc := 4) 1 rfl d8_global_4 ?_
    refine r_iconst C (pc := 5) (v := 1) d8_global_5 (by decide) ?_
    refine r_icmp_le C (pc := 6) (tgt := 17) d8_global_6 (by decide) (fun c2 => ?_) (fun c2 => ?_)
    · have hw := hw.1 c2
      refine r_aload_n C (pc := 17) 0 rfl d8_global_17 ?_
      refine g8_machine C (pc := 18) (Nat.le_of_ble_eq_true rfl) w8_37 d8_global_18 ?_
      refine gN6_globals C (pc := 21) (Nat.le_of_ble_eq_true rfl) w8_127 d8_global_21 ?_
      refine r_iload_n C (pc := 24) 1 rfl d8_global_24 ?_
      refine r_callVl C (pc := 25) (fun sz => ct1_numberAt l D ca ρ sz C.2.2.2.2.2.2.1 (Nat.le_of_ble_eq_true rfl) hw) mf1_numberAt w8_131 rfl (Nat.le_of_ble_eq_true rfl) rfl rfl rfl rfl ⟨Nat.le_of_ble_eq_true rfl, Nat.le_of_ble_eq_true rfl⟩ rfl rfl (Nat.le_of_ble_eq_true rfl) ⟨Nat.zero_le _, Nat.zero_le _⟩ d8_global_25 (fun r1 S1 hw => ?_)
      refine r_wide (cells' := 1) (slots' := 6) (Nat.le_of_ble_eq_true rfl) (Nat.le_of_ble_eq_true rfl) ?_
      exact (r_lret C (pc := 28) hr d8_global_28 hw).mono (fun _ h => MX.ofMQ (fun _ _ h => x_l h) h)
    · have hw := hw.2 c2
      refine r_sub (ls' := []) [] rfl ?_
      exact nd8_global_9 C hr htr hZ hX hw
set_option maxRecDepth 20000 in
theorem nd8_memory_10 {p : Program} {l : Launch} {e : Env} {s : State} {m : MethodId} {args : Array Value} {below : List Frame} {meth : Method} {c : Code} {D : va_G} {ca : Nat → ClassId} {ρ : Nat → Nat → Nat} {x1 : Int32} {Q : Int32 → St → Prop} {T : Nat → St → Prop}  {S : St} (C : Cx true p l s m meth c R8 b8_memory 2 D ca ρ) (hr : meth.sig.returnType = (some .int)) (htr : l.stackTraces = false) (hZ : Zs (Ar true ρ s.heap.size) s s.heap) (hX : ∀ x ∈ c.exceptionTable.toList, ∀ pc, covers x pc = false)   (hw : wp8_memory_10 x1 Q T  S) : wm true p l e { frames := 6, cells := 1, slots := 6, locals := 90 } s m args below meth c D ca ρ 2 0 0 (xq true below args s D ca ρ 1 6 (pri Q (PostU true D ca ρ)) T) 10 [] [] S := by
  unfold wp8_memory_10 at hw
  exact r_throw C (pc := 10) htr hZ hX 1 th8_48_50 fit1 d8_memory_10 d8_memory_13 d8_memory_14 d8_memory_17 (Nat.le_of_ble_eq_true rfl) (Nat.le_of_ble_eq_true rfl) (Nat.le_of_ble_eq_true rfl) (Nat.le_of_ble_eq_true rfl) (Nat.le_of_ble_eq_true rfl) hw
set_option maxRecDepth 20000 in
theorem ct8_memory (l : Launch) (htr : l.stackTraces = false) (D : va_G) (ca : Nat → ClassId) (ρ : Nat → Nat → Nat) (sz : Nat) {S : St} {x1 : Int32} {Q : Int32 → St → Prop} {T : Nat → St → Prop} (hAp : Ap true ρ)  (hw : wp8_memory S x1 Q T) : MetX l y8_memory [Cond.code y8_memory b8_memory 2 (some .int)] { frames := 6, cells := 1, slots := 6, locals := 90 } (va_Pc [.ref (ρ 8 0), .int x1] (PreX true D ca ρ sz S)) (XQ (pri Q (PostU true D ca ρ)) T (PostU true D ca ρ) (Ar true ρ sz)) 1 6 (Ar true ρ sz) := by
  refine metX_of_wm (own := R8) (ls0 := [(0, .ref (ρ 8 0)), (1, .int x1)]) rfl rfl hAp (Nat.le_of_ble_eq_true rfl) rfl fun p e s m args below meth c C hr hz hX hZ => ?_
  subst hz
  unfold wp8_memory at hw
  refine r_iload_n C (pc := 0) 1 rfl d8_memory_0 ?_
  refine r_if_lt C (pc := 1) (tgt := 10) d8_memory_1 (by decide) (fun c1 => ?_) (fun c1 => ?_)
  · have hw := hw.1 c1
    refine r_sub (ls' := []) [] rfl ?_
    exact nd8_memory_10 C hr htr hZ hX hw
  · have hw := hw.2 c1
    refine r_iload_n C (pc := 4) 1 rfl d8_memory_4 ?_
    refine r_bipush C (pc := 5) (v := 64) d8_memory_5 (by decide) ?_
    refine r_icmp_lt C (pc := 7) (tgt := 18) d8_memory_7 (by decide) (fun c2 => ?_) (fun c2 => ?_)
    · have hw := hw.1 c2
      refine r_aload_n C (pc := 18) 0 rfl d8_memory_18 ?_
      refine g8_machine C (pc := 19) (Nat.le_of_ble_eq_true rfl) w8_37 d8_memory_19 ?_
      refine gN6_bytes C (pc := 22) (Nat.le_of_ble_eq_true rfl) w8_143 d8_memory_22 ?_
      refine r_iload_n C (pc := 25) 1 rfl d8_memory_25 ?_
      refine r_callVi C (pc := 26) (fun sz => ct7_byteAt l D ca ρ sz C.2.2.2.2.2.2.1 hw) mf7_byteAt w8_147 rfl (Nat.le_of_ble_eq_true rfl) rfl rfl rfl rfl ⟨Nat.le_of_ble_eq_true rfl, Nat.le_of_ble_eq_true rfl⟩ rfl rfl (Nat.le_of_ble_eq_true rfl) ⟨Nat.zero_le _, Nat.zero_le _⟩ d8_memory_26 (fun r1 S1 hw => ?_)
      refine r_wide (cells' := 1) (slots' := 6) (Nat.le_of_ble_eq_true rfl) (Nat.le_of_ble_eq_true rfl) ?_
      exact (r_iret C (pc := 29) hr d8_memory_29 hw).mono (fun _ h => MX.ofMQ (fun _ _ h => x_i h) h)
    · have hw := hw.2 c2
      refine r_sub (ls' := []) [] rfl ?_
      exact nd8_memory_10 C hr htr hZ hX hw
set_option maxRecDepth 20000 in
theorem ct8_wipe (l : Launch) (htr : l.stackTraces = false) (D : va_G) (ca : Nat → ClassId) (ρ : Nat → Nat → Nat) (sz : Nat) {S : St}  {Q : Int32 → St → Prop} {T : Nat → St → Prop} (hAp : Ap true ρ)  (hw : wp8_wipe S Q T) : MetX l y8_wipe [Cond.code y8_wipe b8_wipe 1 (some .int)] { frames := 6, cells := 1, slots := 6, locals := 90 } (va_Pc [.ref (ρ 8 0)] (PreX true D ca ρ sz S)) (XQ (pri Q (PostU true D ca ρ)) T (PostU true D ca ρ) (Ar true ρ sz)) 1 6 (Ar true ρ sz) := by
  refine metX_of_wm (own := R8) (ls0 := [(0, .ref (ρ 8 0))]) rfl rfl hAp (Nat.le_of_ble_eq_true rfl) rfl fun p e s m args below meth c C hr hz hX hZ => ?_
  subst hz
  unfold wp8_wipe at hw
  refine r_aload_n C (pc := 0) 0 rfl d8_wipe_0 ?_
  refine g8_phase C (pc := 1) (Nat.le_of_ble_eq_true rfl) w8_51 d8_wipe_1 ?_
  refine r_iconst C (pc := 4) (v := 1) d8_wipe_4 (by decide) ?_
  refine r_icmp_ne C (pc := 5) (tgt := 16) d8_wipe_5 (by decide) (fun c1 => ?_) (fun c1 => ?_)
  · have hw := hw.1 c1
    refine r_aload_n C (pc := 16) 0 rfl d8_wipe_16 ?_
    refine g8_machine C (pc := 17) (Nat.le_of_ble_eq_true rfl) w8_37 d8_wipe_17 ?_
    refine gN6_globals C (pc := 20) (Nat.le_of_ble_eq_true rfl) w8_127 d8_wipe_20 ?_
    refine r_callVv C (pc := 23) (fun sz => ct1_clear l D ca ρ sz C.2.2.2.2.2.2.1 (Nat.le_of_ble_eq_true rfl) hw) mf1_clear w8_150 rfl (Nat.le_of_ble_eq_true rfl) rfl rfl rfl rfl ⟨Nat.le_of_ble_eq_true rfl, Nat.le_of_ble_eq_true rfl⟩ rfl rfl (Nat.le_of_ble_eq_true rfl) ⟨Nat.zero_le _, Nat.zero_le _⟩ d8_wipe_23 (fun S1 hw => ?_)
    refine r_aload_n C (pc := 26) 0 rfl d8_wipe_26 ?_
    refine g8_machine C (pc := 27) (Nat.le_of_ble_eq_true rfl) w8_37 d8_wipe_27 ?_
    refine gN6_bytes C (pc := 30) (Nat.le_of_ble_eq_true rfl) w8_143 d8_wipe_30 ?_
    refine r_callVi C (pc := 33) (fun sz => ct7_clear l D ca ρ sz C.2.2.2.2.2.2.1 hw) mf7_clear w8_153 rfl (Nat.le_of_ble_eq_true rfl) rfl rfl rfl rfl ⟨Nat.le_of_ble_eq_true rfl, Nat.le_of_ble_eq_true rfl⟩ rfl rfl (Nat.le_of_ble_eq_true rfl) ⟨Nat.zero_le _, Nat.zero_le _⟩ d8_wipe_33 (fun r1 S2 hw => ?_)
    refine r_wide (cells' := 1) (slots' := 6) (Nat.le_of_ble_eq_true rfl) (Nat.le_of_ble_eq_true rfl) ?_
    exact (r_iret C (pc := 36) hr d8_wipe_36 hw).mono (fun _ h => MX.ofMQ (fun _ _ h => x_i h) h)
  · have hw := hw.2 c1
    exact r_throw C (pc := 8) htr hZ hX 2 th8_55_57 fit2 d8_wipe_8 d8_wipe_11 d8_wipe_12 d8_wipe_15 (Nat.le_of_ble_eq_true rfl) (Nat.le_of_ble_eq_true rfl) (Nat.le_of_ble_eq_true rfl) (Nat.le_of_ble_eq_true rfl) (Nat.le_of_ble_eq_true rfl) hw
set_option maxRecDepth 20000 in
theorem nd8_count_10 {p : Program} {l : Launch} {e : Env} {s : State} {m : MethodId} {args : Array Value} {below : List Frame} {meth : Method} {c : Code} {D : va_G} {ca : Nat → ClassId} {ρ : Nat → Nat → Nat} {x1 : Int32} {Q : Int32 → St → Prop} {T : Nat → St → Prop}  {S : St} (C : Cx true p l s m meth c R8 b8_count 2 D ca ρ) (hr : meth.sig.returnType = (some .int)) (htr : l.stackTraces = false) (hZ : Zs (Ar true ρ s.heap.size) s s.heap) (hX : ∀ x ∈ c.exceptionTable.toList, ∀ pc, covers x pc = false)   (hw : wp8_count_10 x1 Q T  S) : wm true p l e { frames := 6, cells := 1, slots := 6, locals := 90 } s m args below meth c D ca ρ 2 0 0 (xq true below args s D ca ρ 1 6 (pri Q (PostU true D ca ρ)) T) 10 [] [] S := by
  unfold wp8_count_10 at hw
  exact r_throw C (pc := 10) htr hZ hX 1 th8_48_50 fit1 d8_count_10 d8_count_13 d8_count_14 d8_count_17 (Nat.le_of_ble_eq_true rfl) (Nat.le_of_ble_eq_true rfl) (Nat.le_of_ble_eq_true rfl) (Nat.le_of_ble_eq_true rfl) (Nat.le_of_ble_eq_true rfl) hw
set_option maxRecDepth 20000 in
theorem ct8_count (l : Launch) (htr : l.stackTraces = false) (D : va_G) (ca : Nat → ClassId) (ρ : Nat → Nat → Nat) (sz : Nat) {S : St} {x1 : Int32} {Q : Int32 → St → Prop} {T : Nat → St → Prop} (hAp : Ap true ρ)  (hw : wp8_count S x1 Q T) : MetX l y8_count [Cond.code y8_count b8_count 2 (some .int)] { frames := 6, cells := 1, slots := 6, locals := 90 } (va_Pc [.ref (ρ 8 0), .int x1] (PreX true D ca ρ sz S)) (XQ (pri Q (PostU true D ca ρ)) T (PostU true D ca ρ) (Ar true ρ sz)) 1 6 (Ar true ρ sz) := by
  refine metX_of_wm (own := R8) (ls0 := [(0, .ref (ρ 8 0)), (1, .int x1)]) rfl rfl hAp (Nat.le_of_ble_eq_true rfl) rfl fun p e s m args below meth c C hr hz hX hZ => ?_
  subst hz
  unfold wp8_count at hw
  refine r_iload_n C (pc := 0) 1 rfl d8_count_0 ?_
  refine r_if_lt C (pc := 1) (tgt := 10) d8_count_1 (by decide) (fun c1 => ?_) (fun c1 => ?_)
  · have hw := hw.1 c1
    refine r_sub (ls' := []) [] rfl ?_
    exact nd8_count_10 C hr htr hZ hX hw
  · have hw := hw.2 c1
    refine r_iload_n C (pc := 4) 1 rfl d8_count_4 ?_
    refine r_bipush C (pc := 5) (v := 11) d8_count_5 (by decide) ?_
    refine r_icmp_le C (pc := 7) (tgt := 18) d8_count_7 (by decide) (fun c2 => ?_) (fun c2 => ?_)
    · have hw := hw.1 c2
      refine r_iload_n C (pc := 18) 1 rfl d8_count_18 ?_
      refine r_tsw_in C (pc := 19) (tgt := 56) 0 d8_count_19 ⟨by decide, by decide, rfl⟩ (by decide) (fun c3_0 => ?_) (fun c3_0 => ?_)
      · have hw := hw.1 c3_0
        refine r_aload_n C (pc := 56) 0 rfl d8_count_56 ?_
        refine g8_phase C (pc := 57) (Nat.le_of_ble_eq_true rfl) w8_51 d8_count_57 ?_
        refine r_wide (cells' := 1) (slots' := 6) (Nat.le_of_ble_eq_true rfl) (Nat.le_of_ble_eq_true rfl) ?_
        exact (r_iret C (pc := 60) hr d8_count_60 hw).mono (fun _ h => MX.ofMQ (fun _ _ h => x_i h) h)
      · have hw := hw.2 c3_0
        refine r_tsw_in C (pc := 19) (tgt := 61) 1 d8_count_19 ⟨by decide, by decide, rfl⟩ (by decide) (fun c3_1 => ?_) (fun c3_1 => ?_)
        · have hw := hw.1 c3_1
          refine r_aload_n C (pc := 61) 0 rfl d8_count_61 ?_
          refine g8_steps C (pc := 62) (Nat.le_of_ble_eq_true rfl) w8_97 d8_count_62 ?_
          refine r_wide (cells' := 1) (slots' := 6) (Nat.le_of_ble_eq_true rfl) (Nat.le_of_ble_eq_true rfl) ?_
          exact (r_iret C (pc := 65) hr d8_count_65 hw).mono (fun _ h => MX.ofMQ (fun _ _ h => x_i h) h)
        · have hw := hw.2 c3_1
          refine r_tsw_in C (pc := 19) (tgt := 66) 2 d8_count_19 ⟨by decide, by decide, rfl⟩ (by decide) (fun c3_2 => ?_) (fun c3_2 => ?_)
          · have hw := hw.1 c3_2
            refine r_aload_n C (pc := 66) 0 rfl d8_count_66 ?_
            refine g8_phase C (pc := 67) (Nat.le_of_ble_eq_true rfl) w8_51 d8_count_67 ?_
            refine r_iconst C (pc := 70) (v := 1) d8_count_70 (by decide) ?_
            refine r_icmp_ne C (pc := 71) (tgt := 84) d8_count_71 (by decide) (fun c4 => ?_) (fun c4 => ?_)
            · have hw := hw.1 c4
              refine r_iconst C (pc := 84) (v := 0) d8_count_84 (by decide) ?_
              refine r_wide (cells' := 1) (slots' := 6) (Nat.le_of_ble_eq_true rfl) (Nat.le_of_ble_eq_true rfl) ?_
              exact (r_iret C (pc := 85) hr d8_count_85 hw).mono (fun _ h => MX.ofMQ (fun _ _ h => x_i h) h)
            · have hw := hw.2 c4
              refine r_aload_n C (pc := 74) 0 rfl d8_count_74 ?_
              refine g8_machine C (pc := 75) (Nat.le_of_ble_eq_true rfl) w8_37 d8_count_75 ?_
              refine r_callVi C (pc := 78) (fun sz => ct6_depth l D ca ρ sz C.2.2.2.2.2.2.1 hw) mf6_depth w8_155 rfl (Nat.le_of_ble_eq_true rfl) rfl rfl rfl rfl ⟨Nat.le_of_ble_eq_true rfl, Nat.le_of_ble_eq_true rfl⟩ rfl rfl (Nat.le_of_ble_eq_true rfl) ⟨Nat.zero_le _, Nat.zero_le _⟩ d8_count_78 (fun r1 S1 hw => ?_)
              refine r_goto C (pc := 81) (tgt := 85) d8_count_81 (by decide) ?_
              refine r_wide (cells' := 1) (slots' := 6) (Nat.le_of_ble_eq_true rfl) (Nat.le_of_ble_eq_true rfl) ?_
              exact (r_iret C (pc := 85) hr d8_count_85 hw).mono (fun _ h => MX.ofMQ (fun _ _ h => x_i h) h)
          · have hw := hw.2 c3_2
            refine r_tsw_in C (pc := 19) (tgt := 86) 3 d8_count_19 ⟨by decide, by decide, rfl⟩ (by decide) (fun c3_3 => ?_) (fun c3_3 => ?_)
            · have hw := hw.1 c3_3
              refine r_aload_n C (pc := 86) 0 rfl d8_count_86 ?_
              refine g8_latestTrap C (pc := 87) (Nat.le_of_ble_eq_true rfl) w8_107 d8_count_87 ?_
              refine r_wide (cells' := 1) (slots' := 6) (Nat.le_of_ble_eq_true rfl) (Nat.le_of_ble_eq_true rfl) ?_
              exact (r_iret C (pc := 90) hr d8_count_90 hw).mono (fun _ h => MX.ofMQ (fun _ _ h => x_i h) h)
            · have hw := hw.2 c3_3
              refine r_tsw_in C (pc := 19) (tgt := 91) 4 d8_count_19 ⟨by decide, by decide, rfl⟩ (by decide) (fun c3_4 => ?_) (fun c3_4 => ?_)
              · have hw := hw.1 c3_4
                refine r_aload_n C (pc := 91) 0 rfl d8_count_91 ?_
                refine g8_checked C (pc := 92) (Nat.le_of_ble_eq_true rfl) w8_58 d8_count_92 ?_
                refine r_if_eq C (pc := 95) (tgt := 102) d8_count_95 (by decide) (fun c5 => ?_) (fun c5 => ?_)
                · have hw := hw.1 c5
                  refine r_iconst C (pc := 102) (v := 0) d8_count_102 (by decide) ?_
                  refine r_wide (cells' := 1) (slots' := 6) (Nat.le_of_ble_eq_true rfl) (Nat.le_of_ble_eq_true rfl) ?_
                  exact (r_iret C (pc := 103) hr d8_count_103 hw).mono (fun _ h => MX.ofMQ (fun _ _ h => x_i h) h)
                · have hw := hw.2 c5
                  refine r_iconst C (pc := 98) (v := 1) d8_count_98 (by decide) ?_
                  refine r_goto C (pc := 99) (tgt := 103) d8_count_99 (by decide) ?_
                  refine r_wide (cells' := 1) (slots' := 6) (Nat.le_of_ble_eq_true rfl) (Nat.le_of_ble_eq_true rfl) ?_
                  exact (r_iret C (pc := 103) hr d8_count_103 hw).mono (fun _ h => MX.ofMQ (fun _ _ h => x_i h) h)
              · have hw := hw.2 c3_4
                refine r_tsw_in C (pc := 19) (tgt := 104) 5 d8_count_19 ⟨by decide, by decide, rfl⟩ (by decide) (fun c3_5 => ?_) (fun c3_5 => ?_)
                · have hw := hw.1 c3_5
                  refine r_aload_n C (pc := 104) 0 rfl d8_count_104 ?_
                  refine g8_argumentCount C (pc := 105) (Nat.le_of_ble_eq_true rfl) w8_87 d8_count_105 ?_
                  refine r_wide (cells' := 1) (slots' := 6) (Nat.le_of_ble_eq_true rfl) (Nat.le_of_ble_eq_true rfl) ?_
                  exact (r_iret C (pc := 108) hr d8_count_108 hw).mono (fun _ h => MX.ofMQ (fun _ _ h => x_i h) h)
                · have hw := hw.2 c3_5
                  refine r_tsw_out C (pc := 19) (tgt := 109) [0, 1, 2, 3, 4, 5] d8_count_19 (by intro v hv; simp only [List.mem_cons, List.not_mem_nil, or_false] at hv; rcases hv with rfl | rfl | rfl | rfl | rfl | rfl <;> assumption) (by decide +kernel) (by decide) ?_
                  refine r_aload_n C (pc := 109) 0 rfl d8_count_109 ?_
                  refine g8_functions C (pc := 110) (Nat.le_of_ble_eq_true rfl) w8_11 d8_count_110 ?_
                  refine r_iload_n C (pc := 113) 1 rfl d8_count_113 ?_
                  refine r_bipush C (pc := 114) (v := 6) d8_count_114 (by decide) ?_
                  refine r_isub C (pc := 116) d8_count_116 ?_
                  have hi6 := hw.1
                  have hw := hw.2
                  refine ld1800 C (pc := 117) hi6 d8_count_117 ?_
                  refine r_callVi C (pc := 118) (fun sz => ct4_length l D ca ρ sz C.2.2.2.2.2.2.1 (vp_lt hi6) hw) mf4_length w8_70 rfl (vp_lt hi6) rfl rfl rfl rfl ⟨Nat.le_of_ble_eq_true rfl, Nat.le_of_ble_eq_true rfl⟩ rfl rfl (Nat.le_of_ble_eq_true rfl) ⟨Nat.zero_le _, Nat.zero_le _⟩ d8_count_118 (fun r2 S2 hw => ?_)
                  refine r_wide (cells' := 1) (slots' := 6) (Nat.le_of_ble_eq_true rfl) (Nat.le_of_ble_eq_true rfl) ?_
                  exact (r_iret C (pc := 121) hr d8_count_121 hw).mono (fun _ h => MX.ofMQ (fun _ _ h => x_i h) h)
    · have hw := hw.2 c2
      refine r_sub (ls' := []) [] rfl ?_
      exact nd8_count_10 C hr htr hZ hX hw
