set_option maxRecDepth 20000 in
theorem ct6_ofReals (l : Launch) (D : va_G) (ca : Nat → ClassId) (ρ : Nat → Nat → Nat) (sz : Nat) {S : St} {x0 : Int32} {x1 : UInt64} {x3 : UInt64} {Q : UInt64 → St → Prop} (hAp : Ap true ρ)  (hw : wp6_ofReals S x0 x1 x3 Q) : Met l y6_ofReals [Cond.code y6_ofReals b6_ofReals 5 (some .double)] { frames := 0, cells := 0, slots := 0, locals := 0 } (va_Pc [.int x0, .double x1, .double x3] (PreU true D ca ρ sz S)) (va_Qd Q (PostU true D ca ρ) (Ar true ρ sz)) 0 0 (Ar true ρ sz) := by
  refine met_of_wm (own := R6) (ls0 := [(0, .int x0), (1, .double x1), (3, .double x3)]) rfl rfl hAp (Nat.le_of_ble_eq_true rfl) rfl fun p e s m args below meth c C hr hz => ?_
  subst hz
  unfold wp6_ofReals at hw
  refine r_iload_n C (pc := 0) 0 rfl d6_ofReals_0 ?_
  refine r_tsw_in C (pc := 1) (tgt := 28) 70 d6_ofReals_1 ⟨by decide, by decide, rfl⟩ (by decide) (fun c1_0 => ?_) (fun c1_0 => ?_)
  · have hw := hw.1 c1_0
    refine r_dload_n C (pc := 28) 1 rfl d6_ofReals_28 ?_
    refine r_dload_n C (pc := 29) 2 rfl d6_ofReals_29 ?_
    have h0 := hw.1
    have hw := hw.2
    refine r_dadd C (pc := 30) d6_ofReals_30 h0 ?_
    exact r_dret C (pc := 31) hr d6_ofReals_31 hw
  · have hw := hw.2 c1_0
    refine r_tsw_in C (pc := 1) (tgt := 32) 71 d6_ofReals_1 ⟨by decide, by decide, rfl⟩ (by decide) (fun c1_1 => ?_) (fun c1_1 => ?_)
    · have hw := hw.1 c1_1
      refine r_dload_n C (pc := 32) 1 rfl d6_ofReals_32 ?_
      refine r_dload_n C (pc := 33) 2 rfl d6_ofReals_33 ?_
      have h0 := hw.1
      have hw := hw.2
      refine r_dsub C (pc := 34) d6_ofReals_34 h0 ?_
      exact r_dret C (pc := 35) hr d6_ofReals_35 hw
    · have hw := hw.2 c1_1
      refine r_tsw_in C (pc := 1) (tgt := 36) 72 d6_ofReals_1 ⟨by decide, by decide, rfl⟩ (by decide) (fun c1_2 => ?_) (fun c1_2 => ?_)
      · have hw := hw.1 c1_2
        refine r_dload_n C (pc := 36) 1 rfl d6_ofReals_36 ?_
        refine r_dload_n C (pc := 37) 2 rfl d6_ofReals_37 ?_
        have h0 := hw.1
        have hw := hw.2
        refine r_dmul C (pc := 38) d6_ofReals_38 h0 ?_
        exact r_dret C (pc := 39) hr d6_ofReals_39 hw
      · have hw := hw.2 c1_2
        refine r_tsw_out C (pc := 1) (tgt := 40) [70, 71, 72] d6_ofReals_1 (by intro v hv; simp only [List.mem_cons, List.not_mem_nil, or_false] at hv; rcases hv with rfl | rfl | rfl <;> assumption) (by decide +kernel) (by decide) ?_
        refine r_dload_n C (pc := 40) 2 rfl d6_ofReals_40 ?_
        refine r_dconst0 C (pc := 41) d6_ofReals_41 ?_
        refine r_dcmp C (pc := 42) d6_ofReals_42 ?_
        refine r_if_ne C (pc := 43) (tgt := 50) d6_ofReals_43 (by decide) (fun c2 => ?_) (fun c2 => ?_)
        · have hw := hw.1 c2
          refine r_dload_n C (pc := 50) 1 rfl d6_ofReals_50 ?_
          refine r_dload_n C (pc := 51) 2 rfl d6_ofReals_51 ?_
          have h0 := hw.1
          have hw := hw.2
          refine r_ddiv C (pc := 52) d6_ofReals_52 h0 ?_
          exact r_dret C (pc := 53) hr d6_ofReals_53 hw
        · have hw := hw.2 c2
          refine r_dconst0 C (pc := 46) d6_ofReals_46 ?_
          refine r_goto C (pc := 47) (tgt := 53) d6_ofReals_47 (by decide) ?_
          exact r_dret C (pc := 53) hr d6_ofReals_53 hw
set_option maxRecDepth 20000 in
theorem nd6_stepReals_86 {p : Program} {l : Launch} {e : Env} {s : State} {m : MethodId} {args : Array Value} {below : List Frame} {meth : Method} {c : Code} {D : va_G} {ca : Nat → ClassId} {ρ : Nat → Nat → Nat} {a0 : Nat} {x1 : Int32} {Q : Int32 → St → Prop} {t0 : Nat} {s1 : Int32} {S : St} (C : Cx true p l s m meth c R6 b6_stepReals 8 D ca ρ) (hr : meth.sig.returnType = (some .int)) (ha0 : a0 < 14) (ht0 : t0 < 14) (hw : wp6_stepReals_86 a0 x1 Q t0 s1 S) : wm true p l e { frames := 2, cells := 0, slots := 0, locals := 46 } s m args below meth c D ca ρ 8 0 0 (qi true below args s D ca ρ 0 0 Q) 86 [] [.int s1, .ref (ρ 1 t0)] S := by
  unfold wp6_stepReals_86 at hw
  refine r_callVv C (pc := 86) (fun sz => ct1_putTruth l D ca ρ sz C.2.2.2.2.2.2.1 ht0 hw) mf1_putTruth w6_230 rfl ht0 rfl rfl rfl rfl ⟨Nat.le_of_ble_eq_true rfl, Nat.le_of_ble_eq_true rfl⟩ rfl rfl (Nat.le_of_ble_eq_true rfl) ⟨Nat.zero_le _, Nat.zero_le _⟩ d6_stepReals_86 (fun S1 hw => ?_)
  refine r_iconst C (pc := 89) (v := 0) d6_stepReals_89 (by decide) ?_
  exact r_iret C (pc := 90) hr d6_stepReals_90 hw
set_option maxRecDepth 20000 in
theorem nd6_stepReals_52 {p : Program} {l : Launch} {e : Env} {s : State} {m : MethodId} {args : Array Value} {below : List Frame} {meth : Method} {c : Code} {D : va_G} {ca : Nat → ClassId} {ρ : Nat → Nat → Nat} {a0 : Nat} {x1 : Int32} {Q : Int32 → St → Prop} {x2 : UInt64} {x4 : UInt64} {S : St} (C : Cx true p l s m meth c R6 b6_stepReals 8 D ca ρ) (hr : meth.sig.returnType = (some .int)) (ha0 : a0 < 14)  (hw : wp6_stepReals_52 a0 x1 Q x2 x4 S) : wm true p l e { frames := 2, cells := 0, slots := 0, locals := 46 } s m args below meth c D ca ρ 8 0 0 (qi true below args s D ca ρ 0 0 Q) 52 [(0, .ref (ρ 1 a0)), (1, .int x1), (2, .double x2), (4, .double x4)] [] S := by
  unfold wp6_stepReals_52 at hw
  refine r_aload_n C (pc := 52) 0 rfl d6_stepReals_52 ?_
  refine r_iload_n C (pc := 53) 1 rfl d6_stepReals_53 ?_
  refine r_bipush C (pc := 54) (v := 74) d6_stepReals_54 (by decide) ?_
  refine r_icmp_ne C (pc := 56) (tgt := 74) d6_stepReals_56 (by decide) (fun c1 => ?_) (fun c1 => ?_)
  · have hw := hw.1 c1
    refine r_dload C (pc := 74) 3 rfl d6_stepReals_74 ?_
    refine r_dload_n C (pc := 76) 2 rfl d6_stepReals_76 ?_
    refine r_dcmp C (pc := 77) d6_stepReals_77 ?_
    refine r_if_ge C (pc := 78) (tgt := 85) d6_stepReals_78 (by decide) (fun c2 => ?_) (fun c2 => ?_)
    · have hw := hw.1 c2
      refine r_iconst C (pc := 85) (v := 0) d6_stepReals_85 (by decide) ?_
      refine r_sub (ls' := []) [] rfl ?_
      exact nd6_stepReals_86 C hr ha0 ha0 hw
    · have hw := hw.2 c2
      refine r_iconst C (pc := 81) (v := 1) d6_stepReals_81 (by decide) ?_
      refine r_goto C (pc := 82) (tgt := 86) d6_stepReals_82 (by decide) ?_
      refine r_sub (ls' := []) [] rfl ?_
      exact nd6_stepReals_86 C hr ha0 ha0 hw
  · have hw := hw.2 c1
    refine r_dload C (pc := 59) 3 rfl d6_stepReals_59 ?_
    refine r_dload_n C (pc := 61) 2 rfl d6_stepReals_61 ?_
    refine r_dcmp C (pc := 62) d6_stepReals_62 ?_
    refine r_if_ne C (pc := 63) (tgt := 70) d6_stepReals_63 (by decide) (fun c3 => ?_) (fun c3 => ?_)
    · have hw := hw.1 c3
      refine r_iconst C (pc := 70) (v := 0) d6_stepReals_70 (by decide) ?_
      refine r_goto C (pc := 71) (tgt := 86) d6_stepReals_71 (by decide) ?_
      refine r_sub (ls' := []) [] rfl ?_
      exact nd6_stepReals_86 C hr ha0 ha0 hw
    · have hw := hw.2 c3
      refine r_iconst C (pc := 66) (v := 1) d6_stepReals_66 (by decide) ?_
      refine r_goto C (pc := 67) (tgt := 86) d6_stepReals_67 (by decide) ?_
      refine r_sub (ls' := []) [] rfl ?_
      exact nd6_stepReals_86 C hr ha0 ha0 hw
set_option maxRecDepth 20000 in
theorem nd6_stepReals_40 {p : Program} {l : Launch} {e : Env} {s : State} {m : MethodId} {args : Array Value} {below : List Frame} {meth : Method} {c : Code} {D : va_G} {ca : Nat → ClassId} {ρ : Nat → Nat → Nat} {a0 : Nat} {x1 : Int32} {Q : Int32 → St → Prop} {x2 : UInt64} {x4 : UInt64} {S : St} (C : Cx true p l s m meth c R6 b6_stepReals 8 D ca ρ) (hr : meth.sig.returnType = (some .int)) (ha0 : a0 < 14)  (hw : wp6_stepReals_40 a0 x1 Q x2 x4 S) : wm true p l e { frames := 2, cells := 0, slots := 0, locals := 46 } s m args below meth c D ca ρ 8 0 0 (qi true below args s D ca ρ 0 0 Q) 40 [(0, .ref (ρ 1 a0)), (1, .int x1), (2, .double x2), (4, .double x4)] [] S := by
  unfold wp6_stepReals_40 at hw
  refine r_iload_n C (pc := 40) 1 rfl d6_stepReals_40 ?_
  refine r_bipush C (pc := 41) (v := 74) d6_stepReals_41 (by decide) ?_
  refine r_icmp_eq C (pc := 43) (tgt := 52) d6_stepReals_43 (by decide) (fun c1 => ?_) (fun c1 => ?_)
  · have hw := hw.1 c1
    refine r_sub (ls' := [(0, .ref (ρ 1 a0)), (1, .int x1), (2, .double x2), (4, .double x4)]) [0, 1, 2, 3] rfl ?_
    exact nd6_stepReals_52 C hr ha0 hw
  · have hw := hw.2 c1
    refine r_iload_n C (pc := 46) 1 rfl d6_stepReals_46 ?_
    refine r_bipush C (pc := 47) (v := 75) d6_stepReals_47 (by decide) ?_
    refine r_icmp_ne C (pc := 49) (tgt := 91) d6_stepReals_49 (by decide) (fun c2 => ?_) (fun c2 => ?_)
    · have hw := hw.1 c2
      refine r_iload_n C (pc := 91) 1 rfl d6_stepReals_91 ?_
      refine r_dload C (pc := 92) 3 rfl d6_stepReals_92 ?_
      refine r_dload_n C (pc := 94) 2 rfl d6_stepReals_94 ?_
      refine r_callSd C (pc := 95) (fun sz => ct6_ofReals l D ca ρ sz C.2.2.2.2.2.2.1 hw) mf6_ofReals w6_248 rfl rfl ⟨Nat.le_of_ble_eq_true rfl, Nat.le_of_ble_eq_true rfl⟩ rfl rfl (Nat.le_of_ble_eq_true rfl) ⟨Nat.zero_le _, Nat.zero_le _⟩ d6_stepReals_95 (fun r1 S1 hw => ?_)
      refine r_dstore C (pc := 98) (ls' := [(6, .double r1), (0, .ref (ρ 1 a0)), (1, .int x1), (2, .double x2), (4, .double x4)]) (Nat.le_of_ble_eq_true rfl) rfl d6_stepReals_98 ?_
      refine r_dload C (pc := 100) 0 rfl d6_stepReals_100 ?_
      refine r_ldc2d C (pc := 102) w6_252 d6_stepReals_102 ?_
      refine r_dcmp C (pc := 105) d6_stepReals_105 ?_
      refine r_if_gt C (pc := 106) (tgt := 118) d6_stepReals_106 (by decide) (fun c3 => ?_) (fun c3 => ?_)
      · have hw := hw.1 c3
        refine r_iconst C (pc := 118) (v := 5) d6_stepReals_118 (by decide) ?_
        exact r_iret C (pc := 119) hr d6_stepReals_119 hw
      · have hw := hw.2 c3
        refine r_dload C (pc := 109) 0 rfl d6_stepReals_109 ?_
        refine r_ldc2d C (pc := 111) w6_254 d6_stepReals_111 ?_
        refine r_dcmp C (pc := 114) d6_stepReals_114 ?_
        refine r_if_ge C (pc := 115) (tgt := 120) d6_stepReals_115 (by decide) (fun c4 => ?_) (fun c4 => ?_)
        · have hw := hw.1 c4
          refine r_aload_n C (pc := 120) 1 rfl d6_stepReals_120 ?_
          refine r_dload C (pc := 121) 0 rfl d6_stepReals_121 ?_
          refine r_callVv C (pc := 123) (fun sz => ct1_putReal l D ca ρ sz C.2.2.2.2.2.2.1 ha0 hw) mf1_putReal w6_187 rfl ha0 rfl rfl rfl rfl ⟨Nat.le_of_ble_eq_true rfl, Nat.le_of_ble_eq_true rfl⟩ rfl rfl (Nat.le_of_ble_eq_true rfl) ⟨Nat.zero_le _, Nat.zero_le _⟩ d6_stepReals_123 (fun S2 hw => ?_)
          refine r_iconst C (pc := 126) (v := 0) d6_stepReals_126 (by decide) ?_
          exact r_iret C (pc := 127) hr d6_stepReals_127 hw
        · have hw := hw.2 c4
          refine r_iconst C (pc := 118) (v := 5) d6_stepReals_118 (by decide) ?_
          exact r_iret C (pc := 119) hr d6_stepReals_119 hw
    · have hw := hw.2 c2
      refine r_sub (ls' := [(0, .ref (ρ 1 a0)), (1, .int x1), (2, .double x2), (4, .double x4)]) [0, 1, 2, 3] rfl ?_
      exact nd6_stepReals_52 C hr ha0 hw
set_option maxRecDepth 20000 in
theorem ct6_stepReals (l : Launch) (D : va_G) (ca : Nat → ClassId) (ρ : Nat → Nat → Nat) (sz : Nat) {S : St} {a0 : Nat} {x1 : Int32} {Q : Int32 → St → Prop} (hAp : Ap true ρ) (ha0 : a0 < 14) (hw : wp6_stepReals S a0 x1 Q) : Met l y6_stepReals [Cond.code y6_stepReals b6_stepReals 8 (some .int)] { frames := 2, cells := 0, slots := 0, locals := 46 } (va_Pc [.ref (ρ 1 a0), .int x1] (PreU true D ca ρ sz S)) (va_Qi Q (PostU true D ca ρ) (Ar true ρ sz)) 0 0 (Ar true ρ sz) := by
  refine met_of_wm (own := R6) (ls0 := [(0, .ref (ρ 1 a0)), (1, .int x1)]) rfl rfl hAp (Nat.le_of_ble_eq_true rfl) rfl fun p e s m args below meth c C hr hz => ?_
  subst hz
  unfold wp6_stepReals at hw
  refine r_aload_n C (pc := 0) 0 rfl d6_stepReals_0 ?_
  refine r_callVd C (pc := 1) (fun sz => ct1_takeReal l D ca ρ sz C.2.2.2.2.2.2.1 ha0 hw) mf1_takeReal w6_244 rfl ha0 rfl rfl rfl rfl ⟨Nat.le_of_ble_eq_true rfl, Nat.le_of_ble_eq_true rfl⟩ rfl rfl (Nat.le_of_ble_eq_true rfl) ⟨Nat.zero_le _, Nat.zero_le _⟩ d6_stepReals_1 (fun r1 S1 hw => ?_)
  refine r_dstore_n C (pc := 4) (ls' := [(2, .double r1), (0, .ref (ρ 1 a0)), (1, .int x1)]) (Nat.le_of_ble_eq_true rfl) rfl d6_stepReals_4 ?_
  refine r_iload_n C (pc := 5) 2 rfl d6_stepReals_5 ?_
  refine r_bipush C (pc := 6) (v := 76) d6_stepReals_6 (by decide) ?_
  refine r_icmp_ne C (pc := 8) (tgt := 20) d6_stepReals_8 (by decide) (fun c1 => ?_) (fun c1 => ?_)
  · have hw := hw.1 c1
    refine r_aload_n C (pc := 20) 1 rfl d6_stepReals_20 ?_
    refine r_callVd C (pc := 21) (fun sz => ct1_takeReal l D ca ρ sz C.2.2.2.2.2.2.1 ha0 hw) mf1_takeReal w6_244 rfl ha0 rfl rfl rfl rfl ⟨Nat.le_of_ble_eq_true rfl, Nat.le_of_ble_eq_true rfl⟩ rfl rfl (Nat.le_of_ble_eq_true rfl) ⟨Nat.zero_le _, Nat.zero_le _⟩ d6_stepReals_21 (fun r2 S2 hw => ?_)
    refine r_dstore C (pc := 24) (ls' := [(4, .double r2), (2, .double r1), (0, .ref (ρ 1 a0)), (1, .int x1)]) (Nat.le_of_ble_eq_true rfl) rfl d6_stepReals_24 ?_
    refine r_iload_n C (pc := 26) 3 rfl d6_stepReals_26 ?_
    refine r_bipush C (pc := 27) (v := 73) d6_stepReals_27 (by decide) ?_
    refine r_icmp_ne C (pc := 29) (tgt := 40) d6_stepReals_29 (by decide) (fun c2 => ?_) (fun c2 => ?_)
    · have hw := hw.1 c2
      refine r_sub (ls' := [(0, .ref (ρ 1 a0)), (1, .int x1), (2, .double r1), (4, .double r2)]) [2, 3, 1, 0] rfl ?_
      exact nd6_stepReals_40 C hr ha0 hw
    · have hw := hw.2 c2
      refine r_dload_n C (pc := 32) 1 rfl d6_stepReals_32 ?_
      refine r_dconst0 C (pc := 33) d6_stepReals_33 ?_
      refine r_dcmp C (pc := 34) d6_stepReals_34 ?_
      refine r_if_ne C (pc := 35) (tgt := 40) d6_stepReals_35 (by decide) (fun c3 => ?_) (fun c3 => ?_)
      · have hw := hw.1 c3
        refine r_sub (ls' := [(0, .ref (ρ 1 a0)), (1, .int x1), (2, .double r1), (4, .double r2)]) [2, 3, 1, 0] rfl ?_
        exact nd6_stepReals_40 C hr ha0 hw
      · have hw := hw.2 c3
        refine r_iconst C (pc := 38) (v := 2) d6_stepReals_38 (by decide) ?_
        exact r_iret C (pc := 39) hr d6_stepReals_39 hw
  · have hw := hw.2 c1
    refine r_aload_n C (pc := 11) 1 rfl d6_stepReals_11 ?_
    refine r_dconst0 C (pc := 12) d6_stepReals_12 ?_
    refine r_dload_n C (pc := 13) 0 rfl d6_stepReals_13 ?_
    have h0 := hw.1
    have hw := hw.2
    refine r_dsub C (pc := 14) d6_stepReals_14 h0 ?_
    refine r_callVv C (pc := 15) (fun sz => ct1_putReal l D ca ρ sz C.2.2.2.2.2.2.1 ha0 hw) mf1_putReal w6_187 rfl ha0 rfl rfl rfl rfl ⟨Nat.le_of_ble_eq_true rfl, Nat.le_of_ble_eq_true rfl⟩ rfl rfl (Nat.le_of_ble_eq_true rfl) ⟨Nat.zero_le _, Nat.zero_le _⟩ d6_stepReals_15 (fun S3 hw => ?_)
    refine r_iconst C (pc := 18) (v := 0) d6_stepReals_18 (by decide) ?_
    exact r_iret C (pc := 19) hr d6_stepReals_19 hw
set_option maxRecDepth 20000 in
theorem ct6_cut (l : Launch) (D : va_G) (ca : Nat → ClassId) (ρ : Nat → Nat → Nat) (sz : Nat) {S : St} {a0 : Nat} {Q : Int32 → St → Prop} (hAp : Ap true ρ) (ha0 : a0 < 14) (hw : wp6_cut S a0 Q) : Met l y6_cut [Cond.code y6_cut b6_cut 3 (some .int)] { frames := 2, cells := 0, slots := 0, locals := 46 } (va_Pc [.ref (ρ 1 a0)] (PreU true D ca ρ sz S)) (va_Qi Q (PostU true D ca ρ) (Ar true ρ sz)) 0 0 (Ar true ρ sz) := by
  refine met_of_wm (own := R6) (ls0 := [(0, .ref (ρ 1 a0))]) rfl rfl hAp (Nat.le_of_ble_eq_true rfl) rfl fun p e s m args below meth c C hr hz => ?_
  subst hz
  unfold wp6_cut at hw
  refine r_aload_n C (pc := 0) 0 rfl d6_cut_0 ?_
  refine r_callVd C (pc := 1) (fun sz => ct1_takeReal l D ca ρ sz C.2.2.2.2.2.2.1 ha0 hw) mf1_takeReal w6_244 rfl ha0 rfl rfl rfl rfl ⟨Nat.le_of_ble_eq_true rfl, Nat.le_of_ble_eq_true rfl⟩ rfl rfl (Nat.le_of_ble_eq_true rfl) ⟨Nat.zero_le _, Nat.zero_le _⟩ d6_cut_1 (fun r1 S1 hw => ?_)
  refine r_dstore_n C (pc := 4) (ls' := [(1, .double r1), (0, .ref (ρ 1 a0))]) (Nat.le_of_ble_eq_true rfl) rfl d6_cut_4 ?_
  refine r_dload_n C (pc := 5) 0 rfl d6_cut_5 ?_
  refine r_ldc2d C (pc := 6) w6_260 d6_cut_6 ?_
  refine r_dcmp C (pc := 9) d6_cut_9 ?_
  refine r_if_ge C (pc := 10) (tgt := 21) d6_cut_10 (by decide) (fun c1 => ?_) (fun c1 => ?_)
  · have hw := hw.1 c1
    refine r_iconst C (pc := 21) (v := 5) d6_cut_21 (by decide) ?_
    exact r_iret C (pc := 22) hr d6_cut_22 hw
  · have hw := hw.2 c1
    refine r_dload_n C (pc := 13) 0 rfl d6_cut_13 ?_
    refine r_ldc2d C (pc := 14) w6_262 d6_cut_14 ?_
    refine r_dcmp C (pc := 17) d6_cut_17 ?_
    refine r_if_gt C (pc := 18) (tgt := 23) d6_cut_18 (by decide) (fun c2 => ?_) (fun c2 => ?_)
    · have hw := hw.1 c2
      refine r_aload_n C (pc := 23) 1 rfl d6_cut_23 ?_
      refine r_dload_n C (pc := 24) 0 rfl d6_cut_24 ?_
      refine r_d2i C (pc := 25) d6_cut_25 ?_
      refine r_i2l C (pc := 26) d6_cut_26 ?_
      refine r_callVv C (pc := 27) (fun sz => ct1_putNumber l D ca ρ sz C.2.2.2.2.2.2.1 ha0 hw) mf1_putNumber w6_191 rfl ha0 rfl rfl rfl rfl ⟨Nat.le_of_ble_eq_true rfl, Nat.le_of_ble_eq_true rfl⟩ rfl rfl (Nat.le_of_ble_eq_true rfl) ⟨Nat.zero_le _, Nat.zero_le _⟩ d6_cut_27 (fun S2 hw => ?_)
      refine r_iconst C (pc := 30) (v := 0) d6_cut_30 (by decide) ?_
      exact r_iret C (pc := 31) hr d6_cut_31 hw
    · have hw := hw.2 c2
      refine r_iconst C (pc := 21) (v := 5) d6_cut_21 (by decide) ?_
      exact r_iret C (pc := 22) hr d6_cut_22 hw
set_option maxRecDepth 20000 in
theorem ct6_convert (l : Launch) (D : va_G) (ca : Nat → ClassId) (ρ : Nat → Nat → Nat) (sz : Nat) {S : St} {a0 : Nat} {x1 : Int32} {Q : Int32 → St → Prop} (hAp : Ap true ρ) (ha0 : a0 < 14) (hw : wp6_convert S a0 x1 Q) : Met l y6_convert [Cond.code y6_convert b6_convert 2 (some .int)] { frames := 3, cells := 0, slots := 0, locals := 68 } (va_Pc [.ref (ρ 1 a0), .int x1] (PreU true D ca ρ sz S)) (va_Qi Q (PostU true D ca ρ) (Ar true ρ sz)) 0 0 (Ar true ρ sz) := by
  refine met_of_wm (own := R6) (ls0 := [(0, .ref (ρ 1 a0)), (1, .int x1)]) rfl rfl hAp (Nat.le_of_ble_eq_true rfl) rfl fun p e s m args below meth c C hr hz => ?_
  subst hz
  unfold wp6_convert at hw
  refine r_iload_n C (pc := 0) 1 rfl d6_convert_0 ?_
  refine r_tsw_in C (pc := 1) (tgt := 40) 80 d6_convert_1 ⟨by decide, by decide, rfl⟩ (by decide) (fun c1_0 => ?_) (fun c1_0 => ?_)
  · have hw := hw.1 c1_0
    refine r_aload_n C (pc := 40) 0 rfl d6_convert_40 ?_
    refine r_aload_n C (pc := 41) 0 rfl d6_convert_41 ?_
    refine r_callVi C (pc := 42) (fun sz => ct1_takeInt l D ca ρ sz C.2.2.2.2.2.2.1 ha0 hw) mf1_takeInt w6_135 rfl ha0 rfl rfl rfl rfl ⟨Nat.le_of_ble_eq_true rfl, Nat.le_of_ble_eq_true rfl⟩ rfl rfl (Nat.le_of_ble_eq_true rfl) ⟨Nat.zero_le _, Nat.zero_le _⟩ d6_convert_42 (fun r1 S1 hw => ?_)
    refine r_i2l C (pc := 45) d6_convert_45 ?_
    refine r_callVv C (pc := 46) (fun sz => ct1_putNumber l D ca ρ sz C.2.2.2.2.2.2.1 ha0 hw) mf1_putNumber w6_191 rfl ha0 rfl rfl rfl rfl ⟨Nat.le_of_ble_eq_true rfl, Nat.le_of_ble_eq_true rfl⟩ rfl rfl (Nat.le_of_ble_eq_true rfl) ⟨Nat.zero_le _, Nat.zero_le _⟩ d6_convert_46 (fun S2 hw => ?_)
    refine r_goto C (pc := 49) (tgt := 84) d6_convert_49 (by decide) ?_
    refine r_iconst C (pc := 84) (v := 0) d6_convert_84 (by decide) ?_
    exact r_iret C (pc := 85) hr d6_convert_85 hw
  · have hw := hw.2 c1_0
    refine r_tsw_in C (pc := 1) (tgt := 52) 82 d6_convert_1 ⟨by decide, by decide, rfl⟩ (by decide) (fun c1_1 => ?_) (fun c1_1 => ?_)
    · have hw := hw.1 c1_1
      refine r_aload_n C (pc := 52) 0 rfl d6_convert_52 ?_
      refine r_aload_n C (pc := 53) 0 rfl d6_convert_53 ?_
      refine r_callVl C (pc := 54) (fun sz => ct1_takeNumber l D ca ρ sz C.2.2.2.2.2.2.1 ha0 hw) mf1_takeNumber w6_211 rfl ha0 rfl rfl rfl rfl ⟨Nat.le_of_ble_eq_true rfl, Nat.le_of_ble_eq_true rfl⟩ rfl rfl (Nat.le_of_ble_eq_true rfl) ⟨Nat.zero_le _, Nat.zero_le _⟩ d6_convert_54 (fun r2 S3 hw => ?_)
      refine r_l2d C (pc := 57) d6_convert_57 ?_
      refine r_callVv C (pc := 58) (fun sz => ct1_putReal l D ca ρ sz C.2.2.2.2.2.2.1 ha0 hw) mf1_putReal w6_187 rfl ha0 rfl rfl rfl rfl ⟨Nat.le_of_ble_eq_true rfl, Nat.le_of_ble_eq_true rfl⟩ rfl rfl (Nat.le_of_ble_eq_true rfl) ⟨Nat.zero_le _, Nat.zero_le _⟩ d6_convert_58 (fun S4 hw => ?_)
      refine r_goto C (pc := 61) (tgt := 84) d6_convert_61 (by decide) ?_
      refine r_iconst C (pc := 84) (v := 0) d6_convert_84 (by decide) ?_
      exact r_iret C (pc := 85) hr d6_convert_85 hw
    · have hw := hw.2 c1_1
      refine r_tsw_in C (pc := 1) (tgt := 64) 83 d6_convert_1 ⟨by decide, by decide, rfl⟩ (by decide) (fun c1_2 => ?_) (fun c1_2 => ?_)
      · have hw := hw.1 c1_2
        refine r_aload_n C (pc := 64) 0 rfl d6_convert_64 ?_
        refine r_callSi C (pc := 65) (fun sz => ct6_cut l D ca ρ sz C.2.2.2.2.2.2.1 ha0 hw) mf6_cut w6_256 rfl rfl ⟨Nat.le_of_ble_eq_true rfl, Nat.le_of_ble_eq_true rfl⟩ rfl rfl (Nat.le_of_ble_eq_true rfl) ⟨Nat.zero_le _, Nat.zero_le _⟩ d6_convert_65 (fun r3 S5 hw => ?_)
        exact r_iret C (pc := 68) hr d6_convert_68 hw
      · have hw := hw.2 c1_2
        refine r_tsw_in C (pc := 1) (tgt := 52) 84 d6_convert_1 ⟨by decide, by decide, rfl⟩ (by decide) (fun c1_3 => ?_) (fun c1_3 => ?_)
        · have hw := hw.1 c1_3
          refine r_aload_n C (pc := 52) 0 rfl d6_convert_52 ?_
          refine r_aload_n C (pc := 53) 0 rfl d6_convert_53 ?_
          refine r_callVl C (pc := 54) (fun sz => ct1_takeNumber l D ca ρ sz C.2.2.2.2.2.2.1 ha0 hw) mf1_takeNumber w6_211 rfl ha0 rfl rfl rfl rfl ⟨Nat.le_of_ble_eq_true rfl, Nat.le_of_ble_eq_true rfl⟩ rfl rfl (Nat.le_of_ble_eq_true rfl) ⟨Nat.zero_le _, Nat.zero_le _⟩ d6_convert_54 (fun r4 S6 hw => ?_)
          refine r_l2d C (pc := 57) d6_convert_57 ?_
          refine r_callVv C (pc := 58) (fun sz => ct1_putReal l D ca ρ sz C.2.2.2.2.2.2.1 ha0 hw) mf1_putReal w6_187 rfl ha0 rfl rfl rfl rfl ⟨Nat.le_of_ble_eq_true rfl, Nat.le_of_ble_eq_true rfl⟩ rfl rfl (Nat.le_of_ble_eq_true rfl) ⟨Nat.zero_le _, Nat.zero_le _⟩ d6_convert_58 (fun S7 hw => ?_)
          refine r_goto C (pc := 61) (tgt := 84) d6_convert_61 (by decide) ?_
          refine r_iconst C (pc := 84) (v := 0) d6_convert_84 (by decide) ?_
          exact r_iret C (pc := 85) hr d6_convert_85 hw
        · have hw := hw.2 c1_3
          refine r_tsw_in C (pc := 1) (tgt := 69) 85 d6_convert_1 ⟨by decide, by decide, rfl⟩ (by decide) (fun c1_4 => ?_) (fun c1_4 => ?_)
          · have hw := hw.1 c1_4
            refine r_aload_n C (pc := 69) 0 rfl d6_convert_69 ?_
            refine r_aload_n C (pc := 70) 0 rfl d6_convert_70 ?_
            refine r_callVl C (pc := 71) (fun sz => ct1_takeNumber l D ca ρ sz C.2.2.2.2.2.2.1 ha0 hw) mf1_takeNumber w6_211 rfl ha0 rfl rfl rfl rfl ⟨Nat.le_of_ble_eq_true rfl, Nat.le_of_ble_eq_true rfl⟩ rfl rfl (Nat.le_of_ble_eq_true rfl) ⟨Nat.zero_le _, Nat.zero_le _⟩ d6_convert_71 (fun r5 S8 hw => ?_)
            refine r_ldc2 C (pc := 74) w6_238 d6_convert_74 ?_
            refine r_land C (pc := 77) d6_convert_77 ?_
            refine r_callVv C (pc := 78) (fun sz => ct1_putNumber l D ca ρ sz C.2.2.2.2.2.2.1 ha0 hw) mf1_putNumber w6_191 rfl ha0 rfl rfl rfl rfl ⟨Nat.le_of_ble_eq_true rfl, Nat.le_of_ble_eq_true rfl⟩ rfl rfl (Nat.le_of_ble_eq_true rfl) ⟨Nat.zero_le _, Nat.zero_le _⟩ d6_convert_78 (fun S9 hw => ?_)
            refine r_goto C (pc := 81) (tgt := 84) d6_convert_81 (by decide) ?_
            refine r_iconst C (pc := 84) (v := 0) d6_convert_84 (by decide) ?_
            exact r_iret C (pc := 85) hr d6_convert_85 hw
          · have hw := hw.2 c1_4
            refine r_tsw_out C (pc := 1) (tgt := 84) [80, 82, 83, 84, 85] d6_convert_1 (by intro v hv; simp only [List.mem_cons, List.not_mem_nil, or_false] at hv; rcases hv with rfl | rfl | rfl | rfl | rfl <;> assumption) (by decide +kernel) (by decide) ?_
            refine r_iconst C (pc := 84) (v := 0) d6_convert_84 (by decide) ?_
            exact r_iret C (pc := 85) hr d6_convert_85 hw
set_option maxRecDepth 20000 in
theorem ct6_stepNumbers (l : Launch) (D : va_G) (ca : Nat → ClassId) (ρ : Nat → Nat → Nat) (sz : Nat) {S : St} {a1 : Nat} {x2 : Int32} {x3 : Int32} {Q : Int32 → St → Prop} (hAp : Ap true ρ) (ha1 : a1 < 14) (hw : wp6_stepNumbers S a1 x2 x3 Q) : Met l y6_stepNumbers [Cond.code y6_stepNumbers b6_stepNumbers 4 (some .int)] { frames := 4, cells := 0, slots := 0, locals := 90 } (va_Pc [.ref (ρ 6 0), .ref (ρ 1 a1), .int x2, .int x3] (PreU true D ca ρ sz S)) (va_Qi Q (PostU true D ca ρ) (Ar true ρ sz)) 0 0 (Ar true ρ sz) := by
  refine met_of_wm (own := R6) (ls0 := [(0, .ref (ρ 6 0)), (1, .ref (ρ 1 a1)), (2, .int x2), (3, .int x3)]) rfl rfl hAp (Nat.le_of_ble_eq_true rfl) rfl fun p e s m args below meth c C hr hz => ?_
  subst hz
  unfold wp6_stepNumbers at hw
  refine r_iload_n C (pc := 0) 2 rfl d6_stepNumbers_0 ?_
  refine r_bipush C (pc := 1) (v := 28) d6_stepNumbers_1 (by decide) ?_
  refine r_icmp_gt C (pc := 3) (tgt := 14) d6_stepNumbers_3 (by decide) (fun c1 => ?_) (fun c1 => ?_)
  · have hw := hw.1 c1
    refine r_iload_n C (pc := 14) 2 rfl d6_stepNumbers_14 ?_
    refine r_bipush C (pc := 15) (v := 45) d6_stepNumbers_15 (by decide) ?_
    refine r_icmp_gt C (pc := 17) (tgt := 26) d6_stepNumbers_17 (by decide) (fun c2 => ?_) (fun c2 => ?_)
    · have hw := hw.1 c2
      refine r_iload_n C (pc := 26) 2 rfl d6_stepNumbers_26 ?_
      refine r_bipush C (pc := 27) (v := 64) d6_stepNumbers_27 (by decide) ?_
      refine r_icmp_gt C (pc := 29) (tgt := 38) d6_stepNumbers_29 (by decide) (fun c3 => ?_) (fun c3 => ?_)
      · have hw := hw.1 c3
        refine r_iload_n C (pc := 38) 2 rfl d6_stepNumbers_38 ?_
        refine r_bipush C (pc := 39) (v := 76) d6_stepNumbers_39 (by decide) ?_
        refine r_icmp_gt C (pc := 41) (tgt := 50) d6_stepNumbers_41 (by decide) (fun c4 => ?_) (fun c4 => ?_)
        · have hw := hw.1 c4
          refine r_aload_n C (pc := 50) 1 rfl d6_stepNumbers_50 ?_
          refine r_iload_n C (pc := 51) 2 rfl d6_stepNumbers_51 ?_
          refine r_callSi C (pc := 52) (fun sz => ct6_convert l D ca ρ sz C.2.2.2.2.2.2.1 ha1 hw) mf6_convert w6_208 rfl rfl ⟨Nat.le_of_ble_eq_true rfl, Nat.le_of_ble_eq_true rfl⟩ rfl rfl (Nat.le_of_ble_eq_true rfl) ⟨Nat.zero_le _, Nat.zero_le _⟩ d6_stepNumbers_52 (fun r1 S1 hw => ?_)
          exact r_iret C (pc := 55) hr d6_stepNumbers_55 hw
        · have hw := hw.2 c4
          refine r_aload_n C (pc := 44) 1 rfl d6_stepNumbers_44 ?_
          refine r_iload_n C (pc := 45) 2 rfl d6_stepNumbers_45 ?_
          refine r_callSi C (pc := 46) (fun sz => ct6_stepReals l D ca ρ sz C.2.2.2.2.2.2.1 ha1 hw) mf6_stepReals w6_205 rfl rfl ⟨Nat.le_of_ble_eq_true rfl, Nat.le_of_ble_eq_true rfl⟩ rfl rfl (Nat.le_of_ble_eq_true rfl) ⟨Nat.zero_le _, Nat.zero_le _⟩ d6_stepNumbers_46 (fun r2 S2 hw => ?_)
          exact r_iret C (pc := 49) hr d6_stepNumbers_49 hw
      · have hw := hw.2 c3
        refine r_aload_n C (pc := 32) 1 rfl d6_stepNumbers_32 ?_
        refine r_iload_n C (pc := 33) 2 rfl d6_stepNumbers_33 ?_
        refine r_callSi C (pc := 34) (fun sz => ct6_stepLongs l D ca ρ sz C.2.2.2.2.2.2.1 ha1 hw) mf6_stepLongs w6_202 rfl rfl ⟨Nat.le_of_ble_eq_true rfl, Nat.le_of_ble_eq_true rfl⟩ rfl rfl (Nat.le_of_ble_eq_true rfl) ⟨Nat.zero_le _, Nat.zero_le _⟩ d6_stepNumbers_34 (fun r3 S3 hw => ?_)
        exact r_iret C (pc := 37) hr d6_stepNumbers_37 hw
    · have hw := hw.2 c2
      refine r_aload_n C (pc := 20) 1 rfl d6_stepNumbers_20 ?_
      refine r_iload_n C (pc := 21) 2 rfl d6_stepNumbers_21 ?_
      refine r_callSi C (pc := 22) (fun sz => ct6_stepInts l D ca ρ sz C.2.2.2.2.2.2.1 ha1 hw) mf6_stepInts w6_198 rfl rfl ⟨Nat.le_of_ble_eq_true rfl, Nat.le_of_ble_eq_true rfl⟩ rfl rfl (Nat.le_of_ble_eq_true rfl) ⟨Nat.zero_le _, Nat.zero_le _⟩ d6_stepNumbers_22 (fun r4 S4 hw => ?_)
      exact r_iret C (pc := 25) hr d6_stepNumbers_25 hw
  · have hw := hw.2 c1
    refine r_aload_n C (pc := 6) 0 rfl d6_stepNumbers_6 ?_
    refine r_aload_n C (pc := 7) 1 rfl d6_stepNumbers_7 ?_
    refine r_iload_n C (pc := 8) 2 rfl d6_stepNumbers_8 ?_
    refine r_iload_n C (pc := 9) 3 rfl d6_stepNumbers_9 ?_
    refine r_callVi C (pc := 10) (fun sz => ct6_stepMemory l D ca ρ sz C.2.2.2.2.2.2.1 ha1 hw) mf6_stepMemory w6_195 rfl (Nat.le_of_ble_eq_true rfl) rfl rfl rfl rfl ⟨Nat.le_of_ble_eq_true rfl, Nat.le_of_ble_eq_true rfl⟩ rfl rfl (Nat.le_of_ble_eq_true rfl) ⟨Nat.zero_le _, Nat.zero_le _⟩ d6_stepNumbers_10 (fun r5 S5 hw => ?_)
    exact r_iret C (pc := 13) hr d6_stepNumbers_13 hw
set_option maxRecDepth 20000 in
theorem ct6_step (l : Launch) (D : va_G) (ca : Nat → ClassId) (ρ : Nat → Nat → Nat) (sz : Nat) {S : St}  {Q : Int32 → St → Prop} (hAp : Ap true ρ)  (hw : wp6_step S Q) : Met l y6_step [Cond.code y6_step b6_step 5 (some .int)] { frames := 5, cells := 0, slots := 0, locals := 118 } (va_Pc [.ref (ρ 6 0)] (PreU true D ca ρ sz S)) (va_Qi Q (PostU true D ca ρ) (Ar true ρ sz)) 0 0 (Ar true ρ sz) := by
  refine met_of_wm (own := R6) (ls0 := [(0, .ref (ρ 6 0))]) rfl rfl hAp (Nat.le_of_ble_eq_true rfl) rfl fun p e s m args below meth c C hr hz => ?_
  subst hz
  unfold wp6_step at hw
  refine r_aload_n C (pc := 0) 0 rfl d6_step_0 ?_
  refine g6_depth C (pc := 1) (Nat.le_of_ble_eq_true rfl) w6_47 d6_step_1 ?_
  refine r_iconst C (pc := 4) (v := 1) d6_step_4 (by decide) ?_
  refine r_icmp_lt C (pc := 5) (tgt := 17) d6_step_5 (by decide) (fun c1 => ?_) (fun c1 => ?_)
  · have hw := hw.1 c1
    refine r_iconst C (pc := 17) (v := 0) d6_step_17 (by decide) ?_
    exact r_iret C (pc := 18) hr d6_step_18 hw
  · have hw := hw.2 c1
    refine r_aload_n C (pc := 8) 0 rfl d6_step_8 ?_
    refine g6_depth C (pc := 9) (Nat.le_of_ble_eq_true rfl) w6_47 d6_step_9 ?_
    refine r_bipush C (pc := 12) (v := 6) d6_step_12 (by decide) ?_
    refine r_icmp_le C (pc := 14) (tgt := 19) d6_step_14 (by decide) (fun c2 => ?_) (fun c2 => ?_)
    · have hw := hw.1 c2
      refine r_aload_n C (pc := 19) 0 rfl d6_step_19 ?_
      refine g6_calls C (pc := 20) (Nat.le_of_ble_eq_true rfl) w6_11 d6_step_20 ?_
      refine r_aload_n C (pc := 23) 0 rfl d6_step_23 ?_
      refine g6_depth C (pc := 24) (Nat.le_of_ble_eq_true rfl) w6_47 d6_step_24 ?_
      refine r_iconst C (pc := 27) (v := 1) d6_step_27 (by decide) ?_
      refine r_isub C (pc := 28) d6_step_28 ?_
      have hi3 := hw.1
      have hw := hw.2
      refine ld1602 C (pc := 29) hi3 d6_step_29 ?_
      refine r_astore_n C (pc := 30) (ls' := [(1, .ref (ρ 0 (((gI S 1607 0) - 1).toNatClampNeg))), (0, .ref (ρ 6 0))]) (Nat.le_of_ble_eq_true rfl) rfl d6_step_30 ?_
      refine r_aload_n C (pc := 31) 0 rfl d6_step_31 ?_
      refine gN0_place C (pc := 32) (vp_lt hi3) w6_75 d6_step_32 ?_
      refine r_topi (fun x2_1 ex2_1 => ?_)
      have hw := hw x2_1 ex2_1
      refine r_istore_n C (pc := 35) (ls' := [(2, .int x2_1), (1, .ref (ρ 0 (((gI S 1607 0) - 1).toNatClampNeg))), (0, .ref (ρ 6 0))]) (Nat.le_of_ble_eq_true rfl) rfl d6_step_35 ?_
      refine r_aload_n C (pc := 36) 1 rfl d6_step_36 ?_
      have hg4 := hw.1
      have hw := hw.2
      refine gN0_function C (pc := 37) (vp_lt hi3) w6_78 d6_step_37 ?_
      refine r_iload_n C (pc := 40) 0 rfl d6_step_40 ?_
      refine r_callVi C (pc := 41) (fun sz => ct4_byteAt l D ca ρ sz C.2.2.2.2.2.2.1 hg4 hw) mf4_byteAt w6_82 rfl hg4 rfl rfl rfl rfl ⟨Nat.le_of_ble_eq_true rfl, Nat.le_of_ble_eq_true rfl⟩ rfl rfl (Nat.le_of_ble_eq_true rfl) ⟨Nat.zero_le _, Nat.zero_le _⟩ d6_step_41 (fun r1 S1 hw => ?_)
      refine r_istore_n C (pc := 44) (ls' := [(3, .int r1), (2, .int x2_1), (1, .ref (ρ 0 (((gI S 1607 0) - 1).toNatClampNeg))), (0, .ref (ρ 6 0))]) (Nat.le_of_ble_eq_true rfl) rfl d6_step_44 ?_
      refine r_aload_n C (pc := 45) 2 rfl d6_step_45 ?_
      have hg5 := hw.1
      have hw := hw.2
      refine gN0_function C (pc := 46) (vp_lt hi3) w6_78 d6_step_46 ?_
      refine r_iload_n C (pc := 49) 1 rfl d6_step_49 ?_
      refine r_iconst C (pc := 50) (v := 1) d6_step_50 (by decide) ?_
      refine r_iadd C (pc := 51) d6_step_51 ?_
      refine r_callVi C (pc := 52) (fun sz => ct4_byteAt l D ca ρ sz C.2.2.2.2.2.2.1 hg5 hw) mf4_byteAt w6_82 rfl hg5 rfl rfl rfl rfl ⟨Nat.le_of_ble_eq_true rfl, Nat.le_of_ble_eq_true rfl⟩ rfl rfl (Nat.le_of_ble_eq_true rfl) ⟨Nat.zero_le _, Nat.zero_le _⟩ d6_step_52 (fun r2 S2 hw => ?_)
      refine r_istore C (pc := 55) (ls' := [(4, .int r2), (3, .int r1), (2, .int x2_1), (1, .ref (ρ 0 (((gI S 1607 0) - 1).toNatClampNeg))), (0, .ref (ρ 6 0))]) (Nat.le_of_ble_eq_true rfl) rfl d6_step_55 ?_
      refine r_aload_n C (pc := 57) 3 rfl d6_step_57 ?_
      refine r_iload_n C (pc := 58) 2 rfl d6_step_58 ?_
      refine r_aload_n C (pc := 59) 3 rfl d6_step_59 ?_
      have hg6 := hw.1
      have hw := hw.2
      refine gN0_function C (pc := 60) (vp_lt hi3) w6_78 d6_step_60 ?_
      refine r_iload_n C (pc := 63) 2 rfl d6_step_63 ?_
      refine r_callVi C (pc := 64) (fun sz => ct4_sizeAt l D ca ρ sz C.2.2.2.2.2.2.1 hg6 hw) mf4_sizeAt w6_86 rfl hg6 rfl rfl rfl rfl ⟨Nat.le_of_ble_eq_true rfl, Nat.le_of_ble_eq_true rfl⟩ rfl rfl (Nat.le_of_ble_eq_true rfl) ⟨Nat.zero_le _, Nat.zero_le _⟩ d6_step_64 (fun r3 S3 hw => ?_)
      refine r_iadd C (pc := 67) d6_step_67 ?_
      refine pN0_place C (pc := 68) (vp_lt hi3) w6_75 d6_step_68 ?_
      refine r_S (fun S4 eS4 => ?_)
      have hw := hw S4 eS4
      refine r_iload_n C (pc := 71) 1 rfl d6_step_71 ?_
      refine r_bipush C (pc := 72) (v := 6) d6_step_72 (by decide) ?_
      refine r_icmp_gt C (pc := 74) (tgt := 85) d6_step_74 (by decide) (fun c7 => ?_) (fun c7 => ?_)
      · have hw := hw.1 c7
        refine r_iload_n C (pc := 85) 1 rfl d6_step_85 ?_
        refine r_bipush C (pc := 86) (v := 10) d6_step_86 (by decide) ?_
        refine r_icmp_gt C (pc := 88) (tgt := 101) d6_step_88 (by decide) (fun c8 => ?_) (fun c8 => ?_)
        · have hw := hw.1 c8
          refine r_iload_n C (pc := 101) 1 rfl d6_step_101 ?_
          refine r_bipush C (pc := 102) (v := 12) d6_step_102 (by decide) ?_
          refine r_icmp_gt C (pc := 104) (tgt := 116) d6_step_104 (by decide) (fun c9 => ?_) (fun c9 => ?_)
          · have hw := hw.1 c9
            refine r_iload_n C (pc := 116) 1 rfl d6_step_116 ?_
            refine r_bipush C (pc := 117) (v := 22) d6_step_117 (by decide) ?_
            refine r_icmp_gt C (pc := 119) (tgt := 131) d6_step_119 (by decide) (fun c10 => ?_) (fun c10 => ?_)
            · have hw := hw.1 c10
              refine r_aload_n C (pc := 131) 4 rfl d6_step_131 ?_
              refine r_aload_n C (pc := 132) 3 rfl d6_step_132 ?_
              refine gN0_stack C (pc := 133) (vp_lt hi3) w6_105 d6_step_133 ?_
              refine r_iload_n C (pc := 136) 1 rfl d6_step_136 ?_
              refine r_iload C (pc := 137) 0 rfl d6_step_137 ?_
              refine r_callVi C (pc := 139) (fun sz => ct6_stepNumbers l D ca ρ sz C.2.2.2.2.2.2.1 (b2 (vp_lt hi3)) hw) mf6_stepNumbers w6_108 rfl (Nat.le_of_ble_eq_true rfl) rfl rfl rfl rfl ⟨Nat.le_of_ble_eq_true rfl, Nat.le_of_ble_eq_true rfl⟩ rfl rfl (Nat.le_of_ble_eq_true rfl) ⟨Nat.zero_le _, Nat.zero_le _⟩ d6_step_139 (fun r4 S5 hw => ?_)
              exact r_iret C (pc := 142) hr d6_step_142 hw
            · have hw := hw.2 c10
              refine r_aload_n C (pc := 122) 4 rfl d6_step_122 ?_
              refine r_aload_n C (pc := 123) 3 rfl d6_step_123 ?_
              refine r_iload_n C (pc := 124) 1 rfl d6_step_124 ?_
              refine r_iload C (pc := 125) 0 rfl d6_step_125 ?_
              refine r_callVi C (pc := 127) (fun sz => ct6_stepValues l D ca ρ sz C.2.2.2.2.2.2.1 (vp_lt hi3) hw) mf6_stepValues w6_102 rfl (Nat.le_of_ble_eq_true rfl) rfl rfl rfl rfl ⟨Nat.le_of_ble_eq_true rfl, Nat.le_of_ble_eq_true rfl⟩ rfl rfl (Nat.le_of_ble_eq_true rfl) ⟨Nat.zero_le _, Nat.zero_le _⟩ d6_step_127 (fun r5 S6 hw => ?_)
              exact r_iret C (pc := 130) hr d6_step_130 hw
          · have hw := hw.2 c9
            refine r_aload_n C (pc := 107) 4 rfl d6_step_107 ?_
            refine r_aload_n C (pc := 108) 3 rfl d6_step_108 ?_
            refine r_iload_n C (pc := 109) 1 rfl d6_step_109 ?_
            refine r_iload C (pc := 110) 0 rfl d6_step_110 ?_
            refine r_callVi C (pc := 112) (fun sz => ct6_stepCalls l D ca ρ sz C.2.2.2.2.2.2.1 (vp_lt hi3) hw) mf6_stepCalls w6_99 rfl (Nat.le_of_ble_eq_true rfl) rfl rfl rfl rfl ⟨Nat.le_of_ble_eq_true rfl, Nat.le_of_ble_eq_true rfl⟩ rfl rfl (Nat.le_of_ble_eq_true rfl) ⟨Nat.zero_le _, Nat.zero_le _⟩ d6_step_112 (fun r6 S7 hw => ?_)
            exact r_iret C (pc := 115) hr d6_step_115 hw
        · have hw := hw.2 c8
          refine r_aload_n C (pc := 91) 4 rfl d6_step_91 ?_
          refine r_aload_n C (pc := 92) 3 rfl d6_step_92 ?_
          refine r_iload_n C (pc := 93) 2 rfl d6_step_93 ?_
          refine r_iload_n C (pc := 94) 1 rfl d6_step_94 ?_
          refine r_iload C (pc := 95) 0 rfl d6_step_95 ?_
          refine r_callVi C (pc := 97) (fun sz => ct6_stepJumps l D ca ρ sz C.2.2.2.2.2.2.1 (vp_lt hi3) hw) mf6_stepJumps w6_95 rfl (Nat.le_of_ble_eq_true rfl) rfl rfl rfl rfl ⟨Nat.le_of_ble_eq_true rfl, Nat.le_of_ble_eq_true rfl⟩ rfl rfl (Nat.le_of_ble_eq_true rfl) ⟨Nat.zero_le _, Nat.zero_le _⟩ d6_step_97 (fun r7 S8 hw => ?_)
          exact r_iret C (pc := 100) hr d6_step_100 hw
      · have hw := hw.2 c7
        refine r_aload_n C (pc := 77) 4 rfl d6_step_77 ?_
        refine r_aload_n C (pc := 78) 3 rfl d6_step_78 ?_
        refine r_iload_n C (pc := 79) 2 rfl d6_step_79 ?_
        refine r_iload_n C (pc := 80) 1 rfl d6_step_80 ?_
        refine r_callVi C (pc := 81) (fun sz => ct6_stepFrames l D ca ρ sz C.2.2.2.2.2.2.1 (vp_lt hi3) hw) mf6_stepFrames w6_91 rfl (Nat.le_of_ble_eq_true rfl) rfl rfl rfl rfl ⟨Nat.le_of_ble_eq_true rfl, Nat.le_of_ble_eq_true rfl⟩ rfl rfl (Nat.le_of_ble_eq_true rfl) ⟨Nat.zero_le _, Nat.zero_le _⟩ d6_step_81 (fun r8 S9 hw => ?_)
        exact r_iret C (pc := 84) hr d6_step_84 hw
    · have hw := hw.2 c2
      refine r_iconst C (pc := 17) (v := 0) d6_step_17 (by decide) ?_
      exact r_iret C (pc := 18) hr d6_step_18 hw
set_option maxRecDepth 20000 in
theorem nd7_clear_29 {p : Program} {l : Launch} {e : Env} {s : State} {m : MethodId} {args : Array Value} {below : List Frame} {meth : Method} {c : Code} {D : va_G} {ca : Nat → ClassId} {ρ : Nat → Nat → Nat}  {Q : Int32 → St → Prop} {K : Int32 → Int32 → St → Prop} {x1 : Int32} {x2 : Int32} {S : St} (C : Cx true p l s m meth c R7 b7_clear 3 D ca ρ) (hr : meth.sig.returnType = (some .int))  (hK : ∀ (x1 : Int32) (x2 : Int32) (S : St) , K x1 x2 S → wm true p l e { frames := 0, cells := 0, slots := 0, locals := 0 } s m args below meth c D ca ρ 3 0 0 (qi true below args s D ca ρ 0 0 Q) 4 [(0, .ref (ρ 7 0)), (1, .int x1), (2, .int x2)] [] S)  (hw : wp7_clear_29 K  Q x1 x2 S) : wm true p l e { frames := 0, cells := 0, slots := 0, locals := 0 } s m args below meth c D ca ρ 3 0 0 (qi true below args s D ca ρ 0 0 Q) 29 [(0, .ref (ρ 7 0)), (1, .int x1), (2, .int x2)] [] S := by
  unfold wp7_clear_29 at hw
  obtain ⟨x2_1, ex2_1⟩ : ∃ y : Int32, y = x2 + 1 := ⟨_, rfl⟩
  have hw := hw x2_1 ex2_1
  refine r_iinc C (pc := 29) (v := x2_1) (ls' := [(2, .int x2_1), (0, .ref (ρ 7 0)), (1, .int x1)]) 2 rfl (by rw [ex2_1]; rfl) (Nat.le_of_ble_eq_true rfl) rfl d7_clear_29 ?_
  refine r_goto C (pc := 32) (tgt := 4) d7_clear_32 (by decide) ?_
  refine r_sub (ls' := [(0, .ref (ρ 7 0)), (1, .int x1), (2, .int x2_1)]) [1, 2, 0] rfl ?_
  exact hK _ _ _ hw
set_option maxRecDepth 20000 in
theorem nd7_clear_4 {p : Program} {l : Launch} {e : Env} {s : State} {m : MethodId} {args : Array Value} {below : List Frame} {meth : Method} {c : Code} {D : va_G} {ca : Nat → ClassId} {ρ : Nat → Nat → Nat}  {Q : Int32 → St → Prop} (C : Cx true p l s m meth c R7 b7_clear 3 D ca ρ) (hr : meth.sig.returnType = (some .int))  : ∀ (n : Nat) (x1 : Int32) (x2 : Int32) (S : St) , wp7_clear_4  Q n x1 x2 S → wm true p l e { frames := 0, cells := 0, slots := 0, locals := 0 } s m args below meth c D ca ρ 3 0 0 (qi true below args s D ca ρ 0 0 Q) 4 [(0, .ref (ρ 7 0)), (1, .int x1), (2, .int x2)] [] S := by
  intro n
  induction n with
  | zero => intro x1 x2 S  hw; exact hw.elim
  | succ n ih =>
    intro x1 x2 S  hw
    unfold wp7_clear_4 at hw
    refine r_iload_n C (pc := 4) 2 rfl d7_clear_4 ?_
    refine r_bipush C (pc := 5) (v := 64) d7_clear_5 (by decide) ?_
    refine r_icmp_ge C (pc := 7) (tgt := 35) d7_clear_7 (by decide) (fun c1 => ?_) (fun c1 => ?_)
    · have hw := hw.1 c1
      refine r_iload_n C (pc := 35) 1 rfl d7_clear_35 ?_
      exact r_iret C (pc := 36) hr d7_clear_36 hw
    · have hw := hw.2 c1
      refine r_aload_n C (pc := 10) 0 rfl d7_clear_10 ?_
      refine g7_bytes C (pc := 11) (Nat.le_of_ble_eq_true rfl) w7_9 d7_clear_11 ?_
      refine r_iload_n C (pc := 14) 2 rfl d7_clear_14 ?_
      have hi2 := hw.1
      have hw := hw.2
      refine ld1700 C (pc := 15) (Nat.le_of_ble_eq_true rfl) hi2 d7_clear_15 ?_
      refine r_if_eq C (pc := 16) (tgt := 29) d7_clear_16 (by decide) (fun c3 => ?_) (fun c3 => ?_)
      · have hw := hw.1 c3
        refine r_sub (ls' := [(0, .ref (ρ 7 0)), (1, .int x1), (2, .int x2)]) [0, 1, 2] rfl ?_
        exact nd7_clear_29 C hr ih hw
      · have hw := hw.2 c3
        obtain ⟨x1_1, ex1_1⟩ : ∃ y : Int32, y = x1 + 1 := ⟨_, rfl⟩
        have hw := hw x1_1 ex1_1
        refine r_iinc C (pc := 19) (v := x1_1) (ls' := [(1, .int x1_1), (0, .ref (ρ 7 0)), (2, .int x2)]) 1 rfl (by rw [ex1_1]; rfl) (Nat.le_of_ble_eq_true rfl) rfl d7_clear_19 ?_
        refine r_aload_n C (pc := 22) 1 rfl d7_clear_22 ?_
        refine g7_bytes C (pc := 23) (Nat.le_of_ble_eq_true rfl) w7_9 d7_clear_23 ?_
        refine r_iload_n C (pc := 26) 2 rfl d7_clear_26 ?_
        refine r_iconst C (pc := 27) (v := 0) d7_clear_27 (by decide) ?_
        have hi4 := hw.1
        have hw := hw.2
        refine st1700 C (pc := 28) (Nat.le_of_ble_eq_true rfl) hi4 d7_clear_28 ?_
        refine r_S (fun S1 eS1 => ?_)
        have hw := hw S1 eS1
        refine r_sub (ls' := [(0, .ref (ρ 7 0)), (1, .int x1_1), (2, .int x2)]) [1, 0, 2] rfl ?_
        exact nd7_clear_29 C hr ih hw
set_option maxRecDepth 20000 in
theorem ct7_clear (l : Launch) (D : va_G) (ca : Nat → ClassId) (ρ : Nat → Nat → Nat) (sz : Nat) {S : St}  {Q : Int32 → St → Prop} (hAp : Ap true ρ)  (hw : wp7_clear S Q) : Met l y7_clear [Cond.code y7_clear b7_clear 3 (some .int)] { frames := 0, cells := 0, slots := 0, locals := 0 } (va_Pc [.ref (ρ 7 0)] (PreU true D ca ρ sz S)) (va_Qi Q (PostU true D ca ρ) (Ar true ρ sz)) 0 0 (Ar true ρ sz) := by
  refine met_of_wm (own := R7) (ls0 := [(0, .ref (ρ 7 0))]) rfl rfl hAp (Nat.le_of_ble_eq_true rfl) rfl fun p e s m args below meth c C hr hz => ?_
  subst hz
  unfold wp7_clear at hw
  refine r_iconst C (pc := 0) (v := 0) d7_clear_0 (by decide) ?_
  refine r_istore_n C (pc := 1) (ls' := [(1, .int 0), (0, .ref (ρ 7 0))]) (Nat.le_of_ble_eq_true rfl) rfl d7_clear_1 ?_
  refine r_iconst C (pc := 2) (v := 0) d7_clear_2 (by decide) ?_
  refine r_istore_n C (pc := 3) (ls' := [(2, .int 0), (1, .int 0), (0, .ref (ρ 7 0))]) (Nat.le_of_ble_eq_true rfl) rfl d7_clear_3 ?_
  refine r_sub (ls' := [(0, .ref (ρ 7 0)), (1, .int 0), (2, .int 0)]) [2, 1, 0] rfl ?_
  obtain ⟨n, hw⟩ := hw
  exact nd7_clear_4 C hr  n _ _ _ hw
