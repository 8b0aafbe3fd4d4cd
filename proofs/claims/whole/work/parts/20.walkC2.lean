set_option maxRecDepth 20000 in
theorem ct6_outcomeReal (l : Launch) (D : va_G) (ca : Nat → ClassId) (ρ : Nat → Nat → Nat) (sz : Nat) {S : St}  {Q : UInt64 → St → Prop} (hAp : Ap true ρ)  (hw : wp6_outcomeReal S Q) : Met l y6_outcomeReal [Cond.code y6_outcomeReal b6_outcomeReal 1 (some .double)] { frames := 1, cells := 0, slots := 0, locals := 21 } (va_Pc [.ref (ρ 6 0)] (PreU true D ca ρ sz S)) (va_Qd Q (PostU true D ca ρ) (Ar true ρ sz)) 0 0 (Ar true ρ sz) := by
  refine met_of_wm (own := R6) (ls0 := [(0, .ref (ρ 6 0))]) rfl rfl hAp (Nat.le_of_ble_eq_true rfl) rfl fun p e s m args below meth c C hr hz => ?_
  subst hz
  unfold wp6_outcomeReal at hw
  refine r_aload_n C (pc := 0) 0 rfl d6_outcomeReal_0 ?_
  refine g6_outcome C (pc := 1) (Nat.le_of_ble_eq_true rfl) w6_33 d6_outcomeReal_1 ?_
  refine r_iconst C (pc := 4) (v := 0) d6_outcomeReal_4 (by decide) ?_
  refine r_callVd C (pc := 5) (fun sz => ct1_realAt l D ca ρ sz C.2.2.2.2.2.2.1 (Nat.le_of_ble_eq_true rfl) hw) mf1_realAt w6_58 rfl (Nat.le_of_ble_eq_true rfl) rfl rfl rfl rfl ⟨Nat.le_of_ble_eq_true rfl, Nat.le_of_ble_eq_true rfl⟩ rfl rfl (Nat.le_of_ble_eq_true rfl) ⟨Nat.zero_le _, Nat.zero_le _⟩ d6_outcomeReal_5 (fun r1 S1 hw => ?_)
  exact r_dret C (pc := 8) hr d6_outcomeReal_8 hw
set_option maxRecDepth 20000 in
theorem nd6_begin_17 {p : Program} {l : Launch} {e : Env} {s : State} {m : MethodId} {args : Array Value} {below : List Frame} {meth : Method} {c : Code} {D : va_G} {ca : Nat → ClassId} {ρ : Nat → Nat → Nat} {a1 : Nat} {Q : St → Prop} (C : Cx true p l s m meth c R6 b6_begin 4 D ca ρ) (hr : meth.sig.returnType = none) (ha1 : a1 < 6) : ∀ (n : Nat) (x3 : Int32) (S : St) , wp6_begin_17 a1 Q n x3 S → wm true p l e { frames := 3, cells := 0, slots := 0, locals := 67 } s m args below meth c D ca ρ 4 0 0 (qv true below args s D ca ρ 0 0 Q) 17 [(0, .ref (ρ 6 0)), (1, .ref (ρ 4 a1)), (2, .ref (ρ 1802 0)), (3, .int x3)] [] S := by
  intro n
  induction n with
  | zero => intro x3 S  hw; exact hw.elim
  | succ n ih =>
    intro x3 S  hw
    unfold wp6_begin_17 at hw
    refine r_iload_n C (pc := 17) 3 rfl d6_begin_17 ?_
    refine r_aload_n C (pc := 18) 1 rfl d6_begin_18 ?_
    refine r_callVi C (pc := 19) (fun sz => ct4_parameterCount l D ca ρ sz C.2.2.2.2.2.2.1 ha1 hw) mf4_parameterCount w6_65 rfl ha1 rfl rfl rfl rfl ⟨Nat.le_of_ble_eq_true rfl, Nat.le_of_ble_eq_true rfl⟩ rfl rfl (Nat.le_of_ble_eq_true rfl) ⟨Nat.zero_le _, Nat.zero_le _⟩ d6_begin_19 (fun r1 S1 hw => ?_)
    refine r_icmp_ge C (pc := 22) (tgt := 50) d6_begin_22 (by decide) (fun c1 => ?_) (fun c1 => ?_)
    · have hw := hw.1 c1
      exact r_vret C (pc := 50) hr d6_begin_50 hw
    · have hw := hw.2 c1
      refine r_iload_n C (pc := 25) 3 rfl d6_begin_25 ?_
      refine r_aload_n C (pc := 26) 2 rfl d6_begin_26 ?_
      refine al1802 C (pc := 27) (Nat.le_of_ble_eq_true rfl) d6_begin_27 ?_
      refine r_icmp_ge C (pc := 28) (tgt := 50) d6_begin_28 (by decide) (fun c2 => ?_) (fun c2 => ?_)
      · have hw := hw.1 c2
        exact r_vret C (pc := 50) hr d6_begin_50 hw
      · have hw := hw.2 c2
        refine r_aload_n C (pc := 31) 0 rfl d6_begin_31 ?_
        refine g6_calls C (pc := 32) (Nat.le_of_ble_eq_true rfl) w6_11 d6_begin_32 ?_
        refine r_iconst C (pc := 35) (v := 0) d6_begin_35 (by decide) ?_
        have hi3 : vp_in 0 6 := by unfold vp_in; decide
        refine ld1602 C (pc := 36) hi3 d6_begin_36 ?_
        refine r_iload_n C (pc := 37) 3 rfl d6_begin_37 ?_
        refine r_aload_n C (pc := 38) 2 rfl d6_begin_38 ?_
        refine r_iload_n C (pc := 39) 3 rfl d6_begin_39 ?_
        have hi4 := hw.1
        have hw := hw.2
        refine ld1802 C (pc := 40) (Nat.le_of_ble_eq_true rfl) hi4 d6_begin_40 ?_
        refine r_callVv C (pc := 41) (fun sz => ct0_setParameter l D ca ρ sz C.2.2.2.2.2.2.1 (vp_lt hi3) hw) mf0_setParameter w6_71 rfl (vp_lt hi3) rfl rfl rfl rfl ⟨Nat.le_of_ble_eq_true rfl, Nat.le_of_ble_eq_true rfl⟩ rfl rfl (Nat.le_of_ble_eq_true rfl) ⟨Nat.zero_le _, Nat.zero_le _⟩ d6_begin_41 (fun S2 hw => ?_)
        obtain ⟨x3_1, ex3_1⟩ : ∃ y : Int32, y = x3 + 1 := ⟨_, rfl⟩
        have hw := hw x3_1 ex3_1
        refine r_iinc C (pc := 44) (v := x3_1) (ls' := [(3, .int x3_1), (0, .ref (ρ 6 0)), (1, .ref (ρ 4 a1)), (2, .ref (ρ 1802 0))]) 3 rfl (by rw [ex3_1]; rfl) (Nat.le_of_ble_eq_true rfl) rfl d6_begin_44 ?_
        refine r_goto C (pc := 47) (tgt := 17) d6_begin_47 (by decide) ?_
        refine r_sub (ls' := [(0, .ref (ρ 6 0)), (1, .ref (ρ 4 a1)), (2, .ref (ρ 1802 0)), (3, .int x3_1)]) [1, 2, 3, 0] rfl ?_
        exact ih _ _ hw
set_option maxRecDepth 20000 in
theorem ct6_begin (l : Launch) (D : va_G) (ca : Nat → ClassId) (ρ : Nat → Nat → Nat) (sz : Nat) {S : St} {a1 : Nat} {Q : St → Prop} (hAp : Ap true ρ) (ha1 : a1 < 6) (hw : wp6_begin S a1 Q) : Met l y6_begin [Cond.code y6_begin b6_begin 4 none] { frames := 3, cells := 0, slots := 0, locals := 67 } (va_Pc [.ref (ρ 6 0), .ref (ρ 4 a1), .ref (ρ 1802 0)] (PreU true D ca ρ sz S)) (va_Qv Q (PostU true D ca ρ) (Ar true ρ sz)) 0 0 (Ar true ρ sz) := by
  refine met_of_wm (own := R6) (ls0 := [(0, .ref (ρ 6 0)), (1, .ref (ρ 4 a1)), (2, .ref (ρ 1802 0))]) rfl rfl hAp (Nat.le_of_ble_eq_true rfl) rfl fun p e s m args below meth c C hr hz => ?_
  subst hz
  unfold wp6_begin at hw
  refine r_aload_n C (pc := 0) 0 rfl d6_begin_0 ?_
  refine r_iconst C (pc := 1) (v := 1) d6_begin_1 (by decide) ?_
  refine p6_depth C (pc := 2) (Nat.le_of_ble_eq_true rfl) w6_47 d6_begin_2 ?_
  refine r_S (fun S1 eS1 => ?_)
  have hw := hw S1 eS1
  refine r_aload_n C (pc := 5) 0 rfl d6_begin_5 ?_
  refine g6_calls C (pc := 6) (Nat.le_of_ble_eq_true rfl) w6_11 d6_begin_6 ?_
  refine r_iconst C (pc := 9) (v := 0) d6_begin_9 (by decide) ?_
  have hi1 : vp_in 0 6 := by unfold vp_in; decide
  refine ld1602 C (pc := 10) hi1 d6_begin_10 ?_
  refine r_aload_n C (pc := 11) 1 rfl d6_begin_11 ?_
  refine r_callVv C (pc := 12) (fun sz => ct0_begin l D ca ρ sz C.2.2.2.2.2.2.1 (vp_lt hi1) ha1 hw) mf0_begin w6_62 rfl (vp_lt hi1) rfl rfl rfl rfl ⟨Nat.le_of_ble_eq_true rfl, Nat.le_of_ble_eq_true rfl⟩ rfl rfl (Nat.le_of_ble_eq_true rfl) ⟨Nat.zero_le _, Nat.zero_le _⟩ d6_begin_12 (fun S2 hw => ?_)
  refine r_iconst C (pc := 15) (v := 0) d6_begin_15 (by decide) ?_
  refine r_istore_n C (pc := 16) (ls' := [(3, .int 0), (0, .ref (ρ 6 0)), (1, .ref (ρ 4 a1)), (2, .ref (ρ 1802 0))]) (Nat.le_of_ble_eq_true rfl) rfl d6_begin_16 ?_
  refine r_sub (ls' := [(0, .ref (ρ 6 0)), (1, .ref (ρ 4 a1)), (2, .ref (ρ 1802 0)), (3, .int 0)]) [1, 2, 3, 0] rfl ?_
  obtain ⟨n, hw⟩ := hw
  exact nd6_begin_17 C hr ha1 n _ _ hw
set_option maxRecDepth 20000 in
theorem nd6_leave_45 {p : Program} {l : Launch} {e : Env} {s : State} {m : MethodId} {args : Array Value} {below : List Frame} {meth : Method} {c : Code} {D : va_G} {ca : Nat → ClassId} {ρ : Nat → Nat → Nat} {a1 : Nat} {Q : St → Prop} {x2 : Int32} {x3 : Int32} {S : St} (C : Cx true p l s m meth c R6 b6_leave 4 D ca ρ) (hr : meth.sig.returnType = none) (ha1 : a1 < 6)  (hw : wp6_leave_45 a1 Q x2 x3 S) : wm true p l e { frames := 2, cells := 0, slots := 0, locals := 48 } s m args below meth c D ca ρ 4 0 0 (qv true below args s D ca ρ 0 0 Q) 45 [(0, .ref (ρ 6 0)), (1, .ref (ρ 0 a1)), (2, .int x2), (3, .int x3)] [] S := by
  unfold wp6_leave_45 at hw
  refine r_aload_n C (pc := 45) 0 rfl d6_leave_45 ?_
  refine r_iconst C (pc := 46) (v := 0) d6_leave_46 (by decide) ?_
  refine p6_depth C (pc := 47) (Nat.le_of_ble_eq_true rfl) w6_47 d6_leave_47 ?_
  refine r_S (fun S1 eS1 => ?_)
  have hw := hw S1 eS1
  refine r_aload_n C (pc := 50) 0 rfl d6_leave_50 ?_
  refine r_iload_n C (pc := 51) 2 rfl d6_leave_51 ?_
  refine p6_outcomeKind C (pc := 52) (Nat.le_of_ble_eq_true rfl) w6_51 d6_leave_52 ?_
  refine r_S (fun S2 eS2 => ?_)
  have hw := hw S2 eS2
  refine r_aload_n C (pc := 55) 0 rfl d6_leave_55 ?_
  refine g6_outcome C (pc := 56) (Nat.le_of_ble_eq_true rfl) w6_33 d6_leave_56 ?_
  refine r_iconst C (pc := 59) (v := 0) d6_leave_59 (by decide) ?_
  refine r_aload_n C (pc := 60) 1 rfl d6_leave_60 ?_
  refine gN0_stack C (pc := 61) ha1 w6_105 d6_leave_61 ?_
  refine r_iload_n C (pc := 64) 3 rfl d6_leave_64 ?_
  refine r_callVv C (pc := 65) (fun sz => ct1_setFrom l D ca ρ sz C.2.2.2.2.2.2.1 (Nat.le_of_ble_eq_true rfl) (b2 ha1) hw) mf1_setFrom w6_150 rfl (Nat.le_of_ble_eq_true rfl) rfl rfl rfl rfl ⟨Nat.le_of_ble_eq_true rfl, Nat.le_of_ble_eq_true rfl⟩ rfl rfl (Nat.le_of_ble_eq_true rfl) ⟨Nat.zero_le _, Nat.zero_le _⟩ d6_leave_65 (fun S3 hw => ?_)
  refine r_goto C (pc := 68) (tgt := 97) d6_leave_68 (by decide) ?_
  exact r_vret C (pc := 97) hr d6_leave_97 hw
set_option maxRecDepth 20000 in
theorem ct6_leave (l : Launch) (D : va_G) (ca : Nat → ClassId) (ρ : Nat → Nat → Nat) (sz : Nat) {S : St} {a1 : Nat} {Q : St → Prop} (hAp : Ap true ρ) (ha1 : a1 < 6) (hw : wp6_leave S a1 Q) : Met l y6_leave [Cond.code y6_leave b6_leave 4 none] { frames := 2, cells := 0, slots := 0, locals := 48 } (va_Pc [.ref (ρ 6 0), .ref (ρ 0 a1)] (PreU true D ca ρ sz S)) (va_Qv Q (PostU true D ca ρ) (Ar true ρ sz)) 0 0 (Ar true ρ sz) := by
  refine met_of_wm (own := R6) (ls0 := [(0, .ref (ρ 6 0)), (1, .ref (ρ 0 a1))]) rfl rfl hAp (Nat.le_of_ble_eq_true rfl) rfl fun p e s m args below meth c C hr hz => ?_
  subst hz
  unfold wp6_leave at hw
  refine r_aload_n C (pc := 0) 1 rfl d6_leave_0 ?_
  have hg1 := hw.1
  have hw := hw.2
  refine gN0_function C (pc := 1) ha1 w6_78 d6_leave_1 ?_
  refine r_callVi C (pc := 4) (fun sz => ct4_outcome l D ca ρ sz C.2.2.2.2.2.2.1 hg1 hw) mf4_outcome w6_145 rfl hg1 rfl rfl rfl rfl ⟨Nat.le_of_ble_eq_true rfl, Nat.le_of_ble_eq_true rfl⟩ rfl rfl (Nat.le_of_ble_eq_true rfl) ⟨Nat.zero_le _, Nat.zero_le _⟩ d6_leave_4 (fun r1 S1 hw => ?_)
  refine r_istore_n C (pc := 7) (ls' := [(2, .int r1), (0, .ref (ρ 6 0)), (1, .ref (ρ 0 a1))]) (Nat.le_of_ble_eq_true rfl) rfl d6_leave_7 ?_
  refine r_aload_n C (pc := 8) 2 rfl d6_leave_8 ?_
  refine gN0_stack C (pc := 9) ha1 w6_105 d6_leave_9 ?_
  refine r_callVi C (pc := 12) (fun sz => ct1_height l D ca ρ sz C.2.2.2.2.2.2.1 (b2 ha1) hw) mf1_height w6_147 rfl (b2 ha1) rfl rfl rfl rfl ⟨Nat.le_of_ble_eq_true rfl, Nat.le_of_ble_eq_true rfl⟩ rfl rfl (Nat.le_of_ble_eq_true rfl) ⟨Nat.zero_le _, Nat.zero_le _⟩ d6_leave_12 (fun r2 S2 hw => ?_)
  refine r_iconst C (pc := 15) (v := 1) d6_leave_15 (by decide) ?_
  refine r_isub C (pc := 16) d6_leave_16 ?_
  refine r_topi (fun x3_1 ex3_1 => ?_)
  have hw := hw x3_1 ex3_1
  refine r_istore_n C (pc := 17) (ls' := [(3, .int x3_1), (2, .int r1), (0, .ref (ρ 6 0)), (1, .ref (ρ 0 a1))]) (Nat.le_of_ble_eq_true rfl) rfl d6_leave_17 ?_
  refine r_aload_n C (pc := 18) 2 rfl d6_leave_18 ?_
  refine r_dup C (pc := 19) rfl d6_leave_19 ?_
  refine g6_depth C (pc := 20) (Nat.le_of_ble_eq_true rfl) w6_47 d6_leave_20 ?_
  refine r_iconst C (pc := 23) (v := 1) d6_leave_23 (by decide) ?_
  refine r_isub C (pc := 24) d6_leave_24 ?_
  refine p6_depth C (pc := 25) (Nat.le_of_ble_eq_true rfl) w6_47 d6_leave_25 ?_
  refine r_S (fun S3 eS3 => ?_)
  have hw := hw S3 eS3
  refine r_aload_n C (pc := 28) 2 rfl d6_leave_28 ?_
  refine g6_depth C (pc := 29) (Nat.le_of_ble_eq_true rfl) w6_47 d6_leave_29 ?_
  refine r_iconst C (pc := 32) (v := 1) d6_leave_32 (by decide) ?_
  refine r_icmp_lt C (pc := 33) (tgt := 45) d6_leave_33 (by decide) (fun c2 => ?_) (fun c2 => ?_)
  · have hw := hw.1 c2
    refine r_sub (ls' := [(0, .ref (ρ 6 0)), (1, .ref (ρ 0 a1)), (2, .int r1), (3, .int x3_1)]) [2, 3, 1, 0] rfl ?_
    exact nd6_leave_45 C hr ha1 hw
  · have hw := hw.2 c2
    refine r_aload_n C (pc := 36) 2 rfl d6_leave_36 ?_
    refine g6_depth C (pc := 37) (Nat.le_of_ble_eq_true rfl) w6_47 d6_leave_37 ?_
    refine r_bipush C (pc := 40) (v := 6) d6_leave_40 (by decide) ?_
    refine r_icmp_le C (pc := 42) (tgt := 71) d6_leave_42 (by decide) (fun c3 => ?_) (fun c3 => ?_)
    · have hw := hw.1 c3
      refine r_iload_n C (pc := 71) 1 rfl d6_leave_71 ?_
      refine r_if_eq C (pc := 72) (tgt := 97) d6_leave_72 (by decide) (fun c4 => ?_) (fun c4 => ?_)
      · have hw := hw.1 c4
        exact r_vret C (pc := 97) hr d6_leave_97 hw
      · have hw := hw.2 c4
        refine r_aload_n C (pc := 75) 2 rfl d6_leave_75 ?_
        refine g6_calls C (pc := 76) (Nat.le_of_ble_eq_true rfl) w6_11 d6_leave_76 ?_
        refine r_aload_n C (pc := 79) 2 rfl d6_leave_79 ?_
        refine g6_depth C (pc := 80) (Nat.le_of_ble_eq_true rfl) w6_47 d6_leave_80 ?_
        refine r_iconst C (pc := 83) (v := 1) d6_leave_83 (by decide) ?_
        refine r_isub C (pc := 84) d6_leave_84 ?_
        have hi5 := hw.1
        have hw := hw.2
        refine ld1602 C (pc := 85) hi5 d6_leave_85 ?_
        refine gN0_stack C (pc := 86) (vp_lt hi5) w6_105 d6_leave_86 ?_
        refine r_aload_n C (pc := 89) 3 rfl d6_leave_89 ?_
        refine gN0_stack C (pc := 90) ha1 w6_105 d6_leave_90 ?_
        refine r_iload_n C (pc := 93) 0 rfl d6_leave_93 ?_
        refine r_callVv C (pc := 94) (fun sz => ct1_putFrom l D ca ρ sz C.2.2.2.2.2.2.1 (b2 (vp_lt hi5)) (b2 ha1) hw) mf1_putFrom w6_154 rfl (b2 (vp_lt hi5)) rfl rfl rfl rfl ⟨Nat.le_of_ble_eq_true rfl, Nat.le_of_ble_eq_true rfl⟩ rfl rfl (Nat.le_of_ble_eq_true rfl) ⟨Nat.zero_le _, Nat.zero_le _⟩ d6_leave_94 (fun S4 hw => ?_)
        exact r_vret C (pc := 97) hr d6_leave_97 hw
    · have hw := hw.2 c3
      refine r_sub (ls' := [(0, .ref (ρ 6 0)), (1, .ref (ρ 0 a1)), (2, .int r1), (3, .int x3_1)]) [2, 3, 1, 0] rfl ?_
      exact nd6_leave_45 C hr ha1 hw
set_option maxRecDepth 20000 in
theorem ct6_stepFrames (l : Launch) (D : va_G) (ca : Nat → ClassId) (ρ : Nat → Nat → Nat) (sz : Nat) {S : St} {a1 : Nat} {x2 : Int32} {x3 : Int32} {Q : Int32 → St → Prop} (hAp : Ap true ρ) (ha1 : a1 < 6) (hw : wp6_stepFrames S a1 x2 x3 Q) : Met l y6_stepFrames [Cond.code y6_stepFrames b6_stepFrames 4 (some .int)] { frames := 4, cells := 0, slots := 0, locals := 82 } (va_Pc [.ref (ρ 6 0), .ref (ρ 0 a1), .int x2, .int x3] (PreU true D ca ρ sz S)) (va_Qi Q (PostU true D ca ρ) (Ar true ρ sz)) 0 0 (Ar true ρ sz) := by
  refine met_of_wm (own := R6) (ls0 := [(0, .ref (ρ 6 0)), (1, .ref (ρ 0 a1)), (2, .int x2), (3, .int x3)]) rfl rfl hAp (Nat.le_of_ble_eq_true rfl) rfl fun p e s m args below meth c C hr hz => ?_
  subst hz
  unfold wp6_stepFrames at hw
  refine r_iload_n C (pc := 0) 3 rfl d6_stepFrames_0 ?_
  refine r_tsw_in C (pc := 1) (tgt := 44) 0 d6_stepFrames_1 ⟨by decide, by decide, rfl⟩ (by decide) (fun c1_0 => ?_) (fun c1_0 => ?_)
  · have hw := hw.1 c1_0
    refine r_iconst C (pc := 44) (v := 1) d6_stepFrames_44 (by decide) ?_
    exact r_iret C (pc := 45) hr d6_stepFrames_45 hw
  · have hw := hw.2 c1_0
    refine r_tsw_in C (pc := 1) (tgt := 46) 2 d6_stepFrames_1 ⟨by decide, by decide, rfl⟩ (by decide) (fun c1_1 => ?_) (fun c1_1 => ?_)
    · have hw := hw.1 c1_1
      refine r_aload_n C (pc := 46) 1 rfl d6_stepFrames_46 ?_
      refine r_iload_n C (pc := 47) 2 rfl d6_stepFrames_47 ?_
      refine r_callVv C (pc := 48) (fun sz => ct0_beginFrame l D ca ρ sz C.2.2.2.2.2.2.1 ha1 hw) mf0_beginFrame w6_112 rfl ha1 rfl rfl rfl rfl ⟨Nat.le_of_ble_eq_true rfl, Nat.le_of_ble_eq_true rfl⟩ rfl rfl (Nat.le_of_ble_eq_true rfl) ⟨Nat.zero_le _, Nat.zero_le _⟩ d6_stepFrames_48 (fun S1 hw => ?_)
      refine r_goto C (pc := 51) (tgt := 88) d6_stepFrames_51 (by decide) ?_
      refine r_iconst C (pc := 88) (v := 0) d6_stepFrames_88 (by decide) ?_
      exact r_iret C (pc := 89) hr d6_stepFrames_89 hw
    · have hw := hw.2 c1_1
      refine r_tsw_in C (pc := 1) (tgt := 46) 3 d6_stepFrames_1 ⟨by decide, by decide, rfl⟩ (by decide) (fun c1_2 => ?_) (fun c1_2 => ?_)
      · have hw := hw.1 c1_2
        refine r_aload_n C (pc := 46) 1 rfl d6_stepFrames_46 ?_
        refine r_iload_n C (pc := 47) 2 rfl d6_stepFrames_47 ?_
        refine r_callVv C (pc := 48) (fun sz => ct0_beginFrame l D ca ρ sz C.2.2.2.2.2.2.1 ha1 hw) mf0_beginFrame w6_112 rfl ha1 rfl rfl rfl rfl ⟨Nat.le_of_ble_eq_true rfl, Nat.le_of_ble_eq_true rfl⟩ rfl rfl (Nat.le_of_ble_eq_true rfl) ⟨Nat.zero_le _, Nat.zero_le _⟩ d6_stepFrames_48 (fun S2 hw => ?_)
        refine r_goto C (pc := 51) (tgt := 88) d6_stepFrames_51 (by decide) ?_
        refine r_iconst C (pc := 88) (v := 0) d6_stepFrames_88 (by decide) ?_
        exact r_iret C (pc := 89) hr d6_stepFrames_89 hw
      · have hw := hw.2 c1_2
        refine r_tsw_in C (pc := 1) (tgt := 54) 4 d6_stepFrames_1 ⟨by decide, by decide, rfl⟩ (by decide) (fun c1_3 => ?_) (fun c1_3 => ?_)
        · have hw := hw.1 c1_3
          refine r_aload_n C (pc := 54) 1 rfl d6_stepFrames_54 ?_
          refine r_iload_n C (pc := 55) 2 rfl d6_stepFrames_55 ?_
          refine r_callVv C (pc := 56) (fun sz => ct0_beginIf l D ca ρ sz C.2.2.2.2.2.2.1 ha1 hw) mf0_beginIf w6_115 rfl ha1 rfl rfl rfl rfl ⟨Nat.le_of_ble_eq_true rfl, Nat.le_of_ble_eq_true rfl⟩ rfl rfl (Nat.le_of_ble_eq_true rfl) ⟨Nat.zero_le _, Nat.zero_le _⟩ d6_stepFrames_56 (fun S3 hw => ?_)
          refine r_goto C (pc := 59) (tgt := 88) d6_stepFrames_59 (by decide) ?_
          refine r_iconst C (pc := 88) (v := 0) d6_stepFrames_88 (by decide) ?_
          exact r_iret C (pc := 89) hr d6_stepFrames_89 hw
        · have hw := hw.2 c1_3
          refine r_tsw_in C (pc := 1) (tgt := 62) 5 d6_stepFrames_1 ⟨by decide, by decide, rfl⟩ (by decide) (fun c1_4 => ?_) (fun c1_4 => ?_)
          · have hw := hw.1 c1_4
            refine r_aload_n C (pc := 62) 1 rfl d6_stepFrames_62 ?_
            refine r_callVv C (pc := 63) (fun sz => ct0_goBehindEnd l D ca ρ sz C.2.2.2.2.2.2.1 ha1 hw) mf0_goBehindEnd w6_118 rfl ha1 rfl rfl rfl rfl ⟨Nat.le_of_ble_eq_true rfl, Nat.le_of_ble_eq_true rfl⟩ rfl rfl (Nat.le_of_ble_eq_true rfl) ⟨Nat.zero_le _, Nat.zero_le _⟩ d6_stepFrames_63 (fun S4 hw => ?_)
            refine r_goto C (pc := 66) (tgt := 88) d6_stepFrames_66 (by decide) ?_
            refine r_iconst C (pc := 88) (v := 0) d6_stepFrames_88 (by decide) ?_
            exact r_iret C (pc := 89) hr d6_stepFrames_89 hw
          · have hw := hw.2 c1_4
            refine r_tsw_in C (pc := 1) (tgt := 69) 6 d6_stepFrames_1 ⟨by decide, by decide, rfl⟩ (by decide) (fun c1_5 => ?_) (fun c1_5 => ?_)
            · have hw := hw.1 c1_5
              refine r_aload_n C (pc := 69) 1 rfl d6_stepFrames_69 ?_
              refine r_callVv C (pc := 70) (fun sz => ct0_endFrame l D ca ρ sz C.2.2.2.2.2.2.1 ha1 hw) mf0_endFrame w6_121 rfl ha1 rfl rfl rfl rfl ⟨Nat.le_of_ble_eq_true rfl, Nat.le_of_ble_eq_true rfl⟩ rfl rfl (Nat.le_of_ble_eq_true rfl) ⟨Nat.zero_le _, Nat.zero_le _⟩ d6_stepFrames_70 (fun S5 hw => ?_)
              refine r_aload_n C (pc := 73) 1 rfl d6_stepFrames_73 ?_
              refine gN0_frames C (pc := 74) ha1 w6_124 d6_stepFrames_74 ?_
              refine r_if_gt C (pc := 77) (tgt := 88) d6_stepFrames_77 (by decide) (fun c2 => ?_) (fun c2 => ?_)
              · have hw := hw.1 c2
                refine r_iconst C (pc := 88) (v := 0) d6_stepFrames_88 (by decide) ?_
                exact r_iret C (pc := 89) hr d6_stepFrames_89 hw
              · have hw := hw.2 c2
                refine r_aload_n C (pc := 80) 0 rfl d6_stepFrames_80 ?_
                refine r_aload_n C (pc := 81) 1 rfl d6_stepFrames_81 ?_
                refine r_callVv C (pc := 82) (fun sz => ct6_leave l D ca ρ sz C.2.2.2.2.2.2.1 ha1 hw) mf6_leave w6_127 rfl (Nat.le_of_ble_eq_true rfl) rfl rfl rfl rfl ⟨Nat.le_of_ble_eq_true rfl, Nat.le_of_ble_eq_true rfl⟩ rfl rfl (Nat.le_of_ble_eq_true rfl) ⟨Nat.zero_le _, Nat.zero_le _⟩ d6_stepFrames_82 (fun S6 hw => ?_)
                refine r_goto C (pc := 85) (tgt := 88) d6_stepFrames_85 (by decide) ?_
                refine r_iconst C (pc := 88) (v := 0) d6_stepFrames_88 (by decide) ?_
                exact r_iret C (pc := 89) hr d6_stepFrames_89 hw
            · have hw := hw.2 c1_5
              refine r_tsw_out C (pc := 1) (tgt := 88) [0, 2, 3, 4, 5, 6] d6_stepFrames_1 (by intro v hv; simp only [List.mem_cons, List.not_mem_nil, or_false] at hv; rcases hv with rfl | rfl | rfl | rfl | rfl | rfl <;> assumption) (by decide +kernel) (by decide) ?_
              refine r_iconst C (pc := 88) (v := 0) d6_stepFrames_88 (by decide) ?_
              exact r_iret C (pc := 89) hr d6_stepFrames_89 hw
set_option maxRecDepth 20000 in
theorem ct6_jump (l : Launch) (D : va_G) (ca : Nat → ClassId) (ρ : Nat → Nat → Nat) (sz : Nat) {S : St} {a1 : Nat} {x2 : Int32} {Q : St → Prop} (hAp : Ap true ρ) (ha1 : a1 < 6) (hw : wp6_jump S a1 x2 Q) : Met l y6_jump [Cond.code y6_jump b6_jump 3 none] { frames := 3, cells := 0, slots := 0, locals := 71 } (va_Pc [.ref (ρ 6 0), .ref (ρ 0 a1), .int x2] (PreU true D ca ρ sz S)) (va_Qv Q (PostU true D ca ρ) (Ar true ρ sz)) 0 0 (Ar true ρ sz) := by
  refine met_of_wm (own := R6) (ls0 := [(0, .ref (ρ 6 0)), (1, .ref (ρ 0 a1)), (2, .int x2)]) rfl rfl hAp (Nat.le_of_ble_eq_true rfl) rfl fun p e s m args below meth c C hr hz => ?_
  subst hz
  unfold wp6_jump at hw
  refine r_aload_n C (pc := 0) 1 rfl d6_jump_0 ?_
  refine r_iload_n C (pc := 1) 2 rfl d6_jump_1 ?_
  refine r_callVi C (pc := 2) (fun sz => ct0_jumpsWithin l D ca ρ sz C.2.2.2.2.2.2.1 ha1 hw) mf0_jumpsWithin w6_141 rfl ha1 rfl rfl rfl rfl ⟨Nat.le_of_ble_eq_true rfl, Nat.le_of_ble_eq_true rfl⟩ rfl rfl (Nat.le_of_ble_eq_true rfl) ⟨Nat.zero_le _, Nat.zero_le _⟩ d6_jump_2 (fun r1 S1 hw => ?_)
  refine r_if_ne C (pc := 5) (tgt := 13) d6_jump_5 (by decide) (fun c1 => ?_) (fun c1 => ?_)
  · have hw := hw.1 c1
    exact r_vret C (pc := 13) hr d6_jump_13 hw
  · have hw := hw.2 c1
    refine r_aload_n C (pc := 8) 0 rfl d6_jump_8 ?_
    refine r_aload_n C (pc := 9) 1 rfl d6_jump_9 ?_
    refine r_callVv C (pc := 10) (fun sz => ct6_leave l D ca ρ sz C.2.2.2.2.2.2.1 ha1 hw) mf6_leave w6_127 rfl (Nat.le_of_ble_eq_true rfl) rfl rfl rfl rfl ⟨Nat.le_of_ble_eq_true rfl, Nat.le_of_ble_eq_true rfl⟩ rfl rfl (Nat.le_of_ble_eq_true rfl) ⟨Nat.zero_le _, Nat.zero_le _⟩ d6_jump_10 (fun S2 hw => ?_)
    exact r_vret C (pc := 13) hr d6_jump_13 hw
set_option maxRecDepth 20000 in
theorem nd6_chosenJump_26 {p : Program} {l : Launch} {e : Env} {s : State} {m : MethodId} {args : Array Value} {below : List Frame} {meth : Method} {c : Code} {D : va_G} {ca : Nat → ClassId} {ρ : Nat → Nat → Nat} {a1 : Nat} {x2 : Int32} {x3 : Int32} {Q : Int32 → St → Prop} {s0 : Int32} {S : St} (C : Cx true p l s m meth c R6 b6_chosenJump 6 D ca ρ) (hr : meth.sig.returnType = (some .int)) (ha1 : a1 < 6)  (hw : wp6_chosenJump_26 a1 x2 x3 Q s0 S) : wm true p l e { frames := 3, cells := 0, slots := 0, locals := 61 } s m args below meth c D ca ρ 6 0 0 (qi true below args s D ca ρ 0 0 Q) 26 [(1, .ref (ρ 0 a1)), (2, .int x2)] [.int s0] S := by
  unfold wp6_chosenJump_26 at hw
  refine r_istore C (pc := 26) (ls' := [(5, .int s0), (1, .ref (ρ 0 a1)), (2, .int x2)]) (Nat.le_of_ble_eq_true rfl) rfl d6_chosenJump_26 ?_
  refine r_aload_n C (pc := 28) 1 rfl d6_chosenJump_28 ?_
  have hg1 := hw.1
  have hw := hw.2
  refine gN0_function C (pc := 29) ha1 w6_78 d6_chosenJump_29 ?_
  refine r_iload_n C (pc := 32) 2 rfl d6_chosenJump_32 ?_
  refine r_iconst C (pc := 33) (v := 2) d6_chosenJump_33 (by decide) ?_
  refine r_iadd C (pc := 34) d6_chosenJump_34 ?_
  refine r_iload C (pc := 35) 0 rfl d6_chosenJump_35 ?_
  refine r_iadd C (pc := 37) d6_chosenJump_37 ?_
  refine r_callVi C (pc := 38) (fun sz => ct4_byteAt l D ca ρ sz C.2.2.2.2.2.2.1 hg1 hw) mf4_byteAt w6_82 rfl hg1 rfl rfl rfl rfl ⟨Nat.le_of_ble_eq_true rfl, Nat.le_of_ble_eq_true rfl⟩ rfl rfl (Nat.le_of_ble_eq_true rfl) ⟨Nat.zero_le _, Nat.zero_le _⟩ d6_chosenJump_38 (fun r1 S1 hw => ?_)
  exact r_iret C (pc := 41) hr d6_chosenJump_41 hw
set_option maxRecDepth 20000 in
theorem nd6_chosenJump_25 {p : Program} {l : Launch} {e : Env} {s : State} {m : MethodId} {args : Array Value} {below : List Frame} {meth : Method} {c : Code} {D : va_G} {ca : Nat → ClassId} {ρ : Nat → Nat → Nat} {a1 : Nat} {x2 : Int32} {x3 : Int32} {Q : Int32 → St → Prop}  {S : St} (C : Cx true p l s m meth c R6 b6_chosenJump 6 D ca ρ) (hr : meth.sig.returnType = (some .int)) (ha1 : a1 < 6)  (hw : wp6_chosenJump_25 a1 x2 x3 Q  S) : wm true p l e { frames := 3, cells := 0, slots := 0, locals := 61 } s m args below meth c D ca ρ 6 0 0 (qi true below args s D ca ρ 0 0 Q) 25 [(1, .ref (ρ 0 a1)), (2, .int x2), (3, .int x3)] [] S := by
  unfold wp6_chosenJump_25 at hw
  refine r_iload_n C (pc := 25) 2 rfl d6_chosenJump_25 ?_
  refine r_sub (ls' := [(1, .ref (ρ 0 a1)), (2, .int x2)]) [0, 1] rfl ?_
  exact nd6_chosenJump_26 C hr ha1 hw
set_option maxRecDepth 20000 in
theorem ct6_chosenJump (l : Launch) (D : va_G) (ca : Nat → ClassId) (ρ : Nat → Nat → Nat) (sz : Nat) {S : St} {a1 : Nat} {x2 : Int32} {x3 : Int32} {Q : Int32 → St → Prop} (hAp : Ap true ρ) (ha1 : a1 < 6) (hw : wp6_chosenJump S a1 x2 x3 Q) : Met l y6_chosenJump [Cond.code y6_chosenJump b6_chosenJump 6 (some .int)] { frames := 3, cells := 0, slots := 0, locals := 61 } (va_Pc [.ref (ρ 6 0), .ref (ρ 0 a1), .int x2, .int x3] (PreU true D ca ρ sz S)) (va_Qi Q (PostU true D ca ρ) (Ar true ρ sz)) 0 0 (Ar true ρ sz) := by
  refine met_of_wm (own := R6) (ls0 := [(0, .ref (ρ 6 0)), (1, .ref (ρ 0 a1)), (2, .int x2), (3, .int x3)]) rfl rfl hAp (Nat.le_of_ble_eq_true rfl) rfl fun p e s m args below meth c C hr hz => ?_
  subst hz
  unfold wp6_chosenJump at hw
  refine r_aload_n C (pc := 0) 1 rfl d6_chosenJump_0 ?_
  refine gN0_stack C (pc := 1) ha1 w6_105 d6_chosenJump_1 ?_
  refine r_callVi C (pc := 4) (fun sz => ct1_takeInt l D ca ρ sz C.2.2.2.2.2.2.1 (b2 ha1) hw) mf1_takeInt w6_135 rfl (b2 ha1) rfl rfl rfl rfl ⟨Nat.le_of_ble_eq_true rfl, Nat.le_of_ble_eq_true rfl⟩ rfl rfl (Nat.le_of_ble_eq_true rfl) ⟨Nat.zero_le _, Nat.zero_le _⟩ d6_chosenJump_4 (fun r1 S1 hw => ?_)
  refine r_istore C (pc := 7) (ls' := [(4, .int r1), (0, .ref (ρ 6 0)), (1, .ref (ρ 0 a1)), (2, .int x2), (3, .int x3)]) (Nat.le_of_ble_eq_true rfl) rfl d6_chosenJump_7 ?_
  refine r_iload C (pc := 9) 0 rfl d6_chosenJump_9 ?_
  refine r_if_lt C (pc := 11) (tgt := 25) d6_chosenJump_11 (by decide) (fun c1 => ?_) (fun c1 => ?_)
  · have hw := hw.1 c1
    refine r_sub (ls' := [(1, .ref (ρ 0 a1)), (2, .int x2), (3, .int x3)]) [2, 3, 4] rfl ?_
    exact nd6_chosenJump_25 C hr ha1 hw
  · have hw := hw.2 c1
    refine r_iload C (pc := 14) 0 rfl d6_chosenJump_14 ?_
    refine r_iload_n C (pc := 16) 4 rfl d6_chosenJump_16 ?_
    refine r_icmp_ge C (pc := 17) (tgt := 25) d6_chosenJump_17 (by decide) (fun c2 => ?_) (fun c2 => ?_)
    · have hw := hw.1 c2
      refine r_sub (ls' := [(1, .ref (ρ 0 a1)), (2, .int x2), (3, .int x3)]) [2, 3, 4] rfl ?_
      exact nd6_chosenJump_25 C hr ha1 hw
    · have hw := hw.2 c2
      refine r_iload C (pc := 20) 0 rfl d6_chosenJump_20 ?_
      refine r_goto C (pc := 22) (tgt := 26) d6_chosenJump_22 (by decide) ?_
      refine r_sub (ls' := [(1, .ref (ρ 0 a1)), (2, .int x2)]) [2, 3] rfl ?_
      exact nd6_chosenJump_26 C hr ha1 hw
set_option maxRecDepth 20000 in
theorem ct6_stepJumps (l : Launch) (D : va_G) (ca : Nat → ClassId) (ρ : Nat → Nat → Nat) (sz : Nat) {S : St} {a1 : Nat} {x2 : Int32} {x3 : Int32} {x4 : Int32} {Q : Int32 → St → Prop} (hAp : Ap true ρ) (ha1 : a1 < 6) (hw : wp6_stepJumps S a1 x2 x3 x4 Q) : Met l y6_stepJumps [Cond.code y6_stepJumps b6_stepJumps 5 (some .int)] { frames := 4, cells := 0, slots := 0, locals := 93 } (va_Pc [.ref (ρ 6 0), .ref (ρ 0 a1), .int x2, .int x3, .int x4] (PreU true D ca ρ sz S)) (va_Qi Q (PostU true D ca ρ) (Ar true ρ sz)) 0 0 (Ar true ρ sz) := by
  refine met_of_wm (own := R6) (ls0 := [(0, .ref (ρ 6 0)), (1, .ref (ρ 0 a1)), (2, .int x2), (3, .int x3), (4, .int x4)]) rfl rfl hAp (Nat.le_of_ble_eq_true rfl) rfl fun p e s m args below meth c C hr hz => ?_
  subst hz
  unfold wp6_stepJumps at hw
  refine r_iload_n C (pc := 0) 3 rfl d6_stepJumps_0 ?_
  refine r_tsw_in C (pc := 1) (tgt := 28) 7 d6_stepJumps_1 ⟨by decide, by decide, rfl⟩ (by decide) (fun c1_0 => ?_) (fun c1_0 => ?_)
  · have hw := hw.1 c1_0
    refine r_aload_n C (pc := 28) 0 rfl d6_stepJumps_28 ?_
    refine r_aload_n C (pc := 29) 1 rfl d6_stepJumps_29 ?_
    refine r_iload C (pc := 30) 4 rfl d6_stepJumps_30 ?_
    refine r_callVv C (pc := 32) (fun sz => ct6_jump l D ca ρ sz C.2.2.2.2.2.2.1 ha1 hw) mf6_jump w6_131 rfl (Nat.le_of_ble_eq_true rfl) rfl rfl rfl rfl ⟨Nat.le_of_ble_eq_true rfl, Nat.le_of_ble_eq_true rfl⟩ rfl rfl (Nat.le_of_ble_eq_true rfl) ⟨Nat.zero_le _, Nat.zero_le _⟩ d6_stepJumps_32 (fun S1 hw => ?_)
    refine r_goto C (pc := 35) (tgt := 79) d6_stepJumps_35 (by decide) ?_
    refine r_iconst C (pc := 79) (v := 0) d6_stepJumps_79 (by decide) ?_
    exact r_iret C (pc := 80) hr d6_stepJumps_80 hw
  · have hw := hw.2 c1_0
    refine r_tsw_in C (pc := 1) (tgt := 38) 8 d6_stepJumps_1 ⟨by decide, by decide, rfl⟩ (by decide) (fun c1_1 => ?_) (fun c1_1 => ?_)
    · have hw := hw.1 c1_1
      refine r_aload_n C (pc := 38) 1 rfl d6_stepJumps_38 ?_
      refine gN0_stack C (pc := 39) ha1 w6_105 d6_stepJumps_39 ?_
      refine r_callVi C (pc := 42) (fun sz => ct1_takeInt l D ca ρ sz C.2.2.2.2.2.2.1 (b2 ha1) hw) mf1_takeInt w6_135 rfl (b2 ha1) rfl rfl rfl rfl ⟨Nat.le_of_ble_eq_true rfl, Nat.le_of_ble_eq_true rfl⟩ rfl rfl (Nat.le_of_ble_eq_true rfl) ⟨Nat.zero_le _, Nat.zero_le _⟩ d6_stepJumps_42 (fun r1 S2 hw => ?_)
      refine r_if_eq C (pc := 45) (tgt := 79) d6_stepJumps_45 (by decide) (fun c2 => ?_) (fun c2 => ?_)
      · have hw := hw.1 c2
        refine r_iconst C (pc := 79) (v := 0) d6_stepJumps_79 (by decide) ?_
        exact r_iret C (pc := 80) hr d6_stepJumps_80 hw
      · have hw := hw.2 c2
        refine r_aload_n C (pc := 48) 0 rfl d6_stepJumps_48 ?_
        refine r_aload_n C (pc := 49) 1 rfl d6_stepJumps_49 ?_
        refine r_iload C (pc := 50) 4 rfl d6_stepJumps_50 ?_
        refine r_callVv C (pc := 52) (fun sz => ct6_jump l D ca ρ sz C.2.2.2.2.2.2.1 ha1 hw) mf6_jump w6_131 rfl (Nat.le_of_ble_eq_true rfl) rfl rfl rfl rfl ⟨Nat.le_of_ble_eq_true rfl, Nat.le_of_ble_eq_true rfl⟩ rfl rfl (Nat.le_of_ble_eq_true rfl) ⟨Nat.zero_le _, Nat.zero_le _⟩ d6_stepJumps_52 (fun S3 hw => ?_)
        refine r_goto C (pc := 55) (tgt := 79) d6_stepJumps_55 (by decide) ?_
        refine r_iconst C (pc := 79) (v := 0) d6_stepJumps_79 (by decide) ?_
        exact r_iret C (pc := 80) hr d6_stepJumps_80 hw
    · have hw := hw.2 c1_1
      refine r_tsw_in C (pc := 1) (tgt := 58) 9 d6_stepJumps_1 ⟨by decide, by decide, rfl⟩ (by decide) (fun c1_2 => ?_) (fun c1_2 => ?_)
      · have hw := hw.1 c1_2
        refine r_aload_n C (pc := 58) 0 rfl d6_stepJumps_58 ?_
        refine r_aload_n C (pc := 59) 1 rfl d6_stepJumps_59 ?_
        refine r_aload_n C (pc := 60) 0 rfl d6_stepJumps_60 ?_
        refine r_aload_n C (pc := 61) 1 rfl d6_stepJumps_61 ?_
        refine r_iload_n C (pc := 62) 2 rfl d6_stepJumps_62 ?_
        refine r_iload C (pc := 63) 4 rfl d6_stepJumps_63 ?_
        refine r_callVi C (pc := 65) (fun sz => ct6_chosenJump l D ca ρ sz C.2.2.2.2.2.2.1 ha1 hw) mf6_chosenJump w6_138 rfl (Nat.le_of_ble_eq_true rfl) rfl rfl rfl rfl ⟨Nat.le_of_ble_eq_true rfl, Nat.le_of_ble_eq_true rfl⟩ rfl rfl (Nat.le_of_ble_eq_true rfl) ⟨Nat.zero_le _, Nat.zero_le _⟩ d6_stepJumps_65 (fun r2 S4 hw => ?_)
        refine r_callVv C (pc := 68) (fun sz => ct6_jump l D ca ρ sz C.2.2.2.2.2.2.1 ha1 hw) mf6_jump w6_131 rfl (Nat.le_of_ble_eq_true rfl) rfl rfl rfl rfl ⟨Nat.le_of_ble_eq_true rfl, Nat.le_of_ble_eq_true rfl⟩ rfl rfl (Nat.le_of_ble_eq_true rfl) ⟨Nat.zero_le _, Nat.zero_le _⟩ d6_stepJumps_68 (fun S5 hw => ?_)
        refine r_goto C (pc := 71) (tgt := 79) d6_stepJumps_71 (by decide) ?_
        refine r_iconst C (pc := 79) (v := 0) d6_stepJumps_79 (by decide) ?_
        exact r_iret C (pc := 80) hr d6_stepJumps_80 hw
      · have hw := hw.2 c1_2
        refine r_tsw_out C (pc := 1) (tgt := 74) [7, 8, 9] d6_stepJumps_1 (by intro v hv; simp only [List.mem_cons, List.not_mem_nil, or_false] at hv; rcases hv with rfl | rfl | rfl <;> assumption) (by decide +kernel) (by decide) ?_
        refine r_aload_n C (pc := 74) 0 rfl d6_stepJumps_74 ?_
        refine r_aload_n C (pc := 75) 1 rfl d6_stepJumps_75 ?_
        refine r_callVv C (pc := 76) (fun sz => ct6_leave l D ca ρ sz C.2.2.2.2.2.2.1 ha1 hw) mf6_leave w6_127 rfl (Nat.le_of_ble_eq_true rfl) rfl rfl rfl rfl ⟨Nat.le_of_ble_eq_true rfl, Nat.le_of_ble_eq_true rfl⟩ rfl rfl (Nat.le_of_ble_eq_true rfl) ⟨Nat.zero_le _, Nat.zero_le _⟩ d6_stepJumps_76 (fun S6 hw => ?_)
        refine r_iconst C (pc := 79) (v := 0) d6_stepJumps_79 (by decide) ?_
        exact r_iret C (pc := 80) hr d6_stepJumps_80 hw
set_option maxRecDepth 20000 in
theorem ct6_enter (l : Launch) (D : va_G) (ca : Nat → ClassId) (ρ : Nat → Nat → Nat) (sz : Nat) {S : St} {a1 : Nat} {a2 : Nat} {Q : Int32 → St → Prop} (hAp : Ap true ρ) (ha1 : a1 < 6) (ha2 : a2 < 6) (hw : wp6_enter S a1 a2 Q) : Met l y6_enter [Cond.code y6_enter b6_enter 3 (some .int)] { frames := 3, cells := 0, slots := 0, locals := 71 } (va_Pc [.ref (ρ 6 0), .ref (ρ 0 a1), .ref (ρ 4 a2)] (PreU true D ca ρ sz S)) (va_Qi Q (PostU true D ca ρ) (Ar true ρ sz)) 0 0 (Ar true ρ sz) := by
  refine met_of_wm (own := R6) (ls0 := [(0, .ref (ρ 6 0)), (1, .ref (ρ 0 a1)), (2, .ref (ρ 4 a2))]) rfl rfl hAp (Nat.le_of_ble_eq_true rfl) rfl fun p e s m args below meth c C hr hz => ?_
  subst hz
  unfold wp6_enter at hw
  refine r_aload_n C (pc := 0) 0 rfl d6_enter_0 ?_
  refine g6_depth C (pc := 1) (Nat.le_of_ble_eq_true rfl) w6_47 d6_enter_1 ?_
  refine r_if_lt C (pc := 4) (tgt := 16) d6_enter_4 (by decide) (fun c1 => ?_) (fun c1 => ?_)
  · have hw := hw.1 c1
    refine r_iconst C (pc := 16) (v := 1) d6_enter_16 (by decide) ?_
    exact r_iret C (pc := 17) hr d6_enter_17 hw
  · have hw := hw.2 c1
    refine r_aload_n C (pc := 7) 0 rfl d6_enter_7 ?_
    refine g6_depth C (pc := 8) (Nat.le_of_ble_eq_true rfl) w6_47 d6_enter_8 ?_
    refine r_bipush C (pc := 11) (v := 6) d6_enter_11 (by decide) ?_
    refine r_icmp_lt C (pc := 13) (tgt := 18) d6_enter_13 (by decide) (fun c2 => ?_) (fun c2 => ?_)
    · have hw := hw.1 c2
      refine r_aload_n C (pc := 18) 0 rfl d6_enter_18 ?_
      refine g6_calls C (pc := 19) (Nat.le_of_ble_eq_true rfl) w6_11 d6_enter_19 ?_
      refine r_aload_n C (pc := 22) 0 rfl d6_enter_22 ?_
      refine g6_depth C (pc := 23) (Nat.le_of_ble_eq_true rfl) w6_47 d6_enter_23 ?_
      have hi3 := hw.1
      have hw := hw.2
      refine ld1602 C (pc := 26) hi3 d6_enter_26 ?_
      refine r_aload_n C (pc := 27) 2 rfl d6_enter_27 ?_
      refine r_callVv C (pc := 28) (fun sz => ct0_begin l D ca ρ sz C.2.2.2.2.2.2.1 (vp_lt hi3) ha2 hw) mf0_begin w6_62 rfl (vp_lt hi3) rfl rfl rfl rfl ⟨Nat.le_of_ble_eq_true rfl, Nat.le_of_ble_eq_true rfl⟩ rfl rfl (Nat.le_of_ble_eq_true rfl) ⟨Nat.zero_le _, Nat.zero_le _⟩ d6_enter_28 (fun S1 hw => ?_)
      refine r_aload_n C (pc := 31) 0 rfl d6_enter_31 ?_
      refine g6_calls C (pc := 32) (Nat.le_of_ble_eq_true rfl) w6_11 d6_enter_32 ?_
      refine r_aload_n C (pc := 35) 0 rfl d6_enter_35 ?_
      refine g6_depth C (pc := 36) (Nat.le_of_ble_eq_true rfl) w6_47 d6_enter_36 ?_
      have hi4 := hw.1
      have hw := hw.2
      refine ld1602 C (pc := 39) hi4 d6_enter_39 ?_
      refine r_aload_n C (pc := 40) 1 rfl d6_enter_40 ?_
      refine gN0_stack C (pc := 41) ha1 w6_105 d6_enter_41 ?_
      refine r_callVv C (pc := 44) (fun sz => ct0_takeParametersFrom l D ca ρ sz C.2.2.2.2.2.2.1 (vp_lt hi4) (b2 ha1) hw) mf0_takeParametersFrom w6_172 rfl (vp_lt hi4) rfl rfl rfl rfl ⟨Nat.le_of_ble_eq_true rfl, Nat.le_of_ble_eq_true rfl⟩ rfl rfl (Nat.le_of_ble_eq_true rfl) ⟨Nat.zero_le _, Nat.zero_le _⟩ d6_enter_44 (fun S2 hw => ?_)
      refine r_aload_n C (pc := 47) 0 rfl d6_enter_47 ?_
      refine r_dup C (pc := 48) rfl d6_enter_48 ?_
      refine g6_depth C (pc := 49) (Nat.le_of_ble_eq_true rfl) w6_47 d6_enter_49 ?_
      refine r_iconst C (pc := 52) (v := 1) d6_enter_52 (by decide) ?_
      refine r_iadd C (pc := 53) d6_enter_53 ?_
      refine p6_depth C (pc := 54) (Nat.le_of_ble_eq_true rfl) w6_47 d6_enter_54 ?_
      refine r_S (fun S3 eS3 => ?_)
      have hw := hw S3 eS3
      refine r_iconst C (pc := 57) (v := 0) d6_enter_57 (by decide) ?_
      exact r_iret C (pc := 58) hr d6_enter_58 hw
    · have hw := hw.2 c2
      refine r_iconst C (pc := 16) (v := 1) d6_enter_16 (by decide) ?_
      exact r_iret C (pc := 17) hr d6_enter_17 hw
set_option maxRecDepth 20000 in
theorem ct6_stepCalls (l : Launch) (D : va_G) (ca : Nat → ClassId) (ρ : Nat → Nat → Nat) (sz : Nat) {S : St} {a1 : Nat} {x2 : Int32} {x3 : Int32} {Q : Int32 → St → Prop} (hAp : Ap true ρ) (ha1 : a1 < 6) (hw : wp6_stepCalls S a1 x2 x3 Q) : Met l y6_stepCalls [Cond.code y6_stepCalls b6_stepCalls 6 (some .int)] { frames := 4, cells := 0, slots := 0, locals := 93 } (va_Pc [.ref (ρ 6 0), .ref (ρ 0 a1), .int x2, .int x3] (PreU true D ca ρ sz S)) (va_Qi Q (PostU true D ca ρ) (Ar true ρ sz)) 0 0 (Ar true ρ sz) := by
  refine met_of_wm (own := R6) (ls0 := [(0, .ref (ρ 6 0)), (1, .ref (ρ 0 a1)), (2, .int x2), (3, .int x3)]) rfl rfl hAp (Nat.le_of_ble_eq_true rfl) rfl fun p e s m args below meth c C hr hz => ?_
  subst hz
  unfold wp6_stepCalls at hw
  refine r_iload_n C (pc := 0) 3 rfl d6_stepCalls_0 ?_
  refine r_callNi C (pc := 1) (fun sz => ct8_isFunction l D ca ρ sz C.2.2.2.2.2.2.1 hw) mf8_isFunction w6_158 rfl rfl ⟨Nat.le_of_ble_eq_true rfl, Nat.le_of_ble_eq_true rfl⟩ rfl rfl (Nat.le_of_ble_eq_true rfl) ⟨Nat.zero_le _, Nat.zero_le _⟩ d6_stepCalls_1 (fun r1 S1 hw => ?_)
  refine r_if_ne C (pc := 4) (tgt := 9) d6_stepCalls_4 (by decide) (fun c1 => ?_) (fun c1 => ?_)
  · have hw := hw.1 c1
    refine r_iload_n C (pc := 9) 2 rfl d6_stepCalls_9 ?_
    refine r_bipush C (pc := 10) (v := 11) d6_stepCalls_10 (by decide) ?_
    refine r_icmp_ne C (pc := 12) (tgt := 27) d6_stepCalls_12 (by decide) (fun c2 => ?_) (fun c2 => ?_)
    · have hw := hw.1 c2
      refine r_aload_n C (pc := 27) 1 rfl d6_stepCalls_27 ?_
      refine gN0_stack C (pc := 28) ha1 w6_105 d6_stepCalls_28 ?_
      refine r_callVi C (pc := 31) (fun sz => ct1_takeInt l D ca ρ sz C.2.2.2.2.2.2.1 (b2 ha1) hw) mf1_takeInt w6_135 rfl (b2 ha1) rfl rfl rfl rfl ⟨Nat.le_of_ble_eq_true rfl, Nat.le_of_ble_eq_true rfl⟩ rfl rfl (Nat.le_of_ble_eq_true rfl) ⟨Nat.zero_le _, Nat.zero_le _⟩ d6_stepCalls_31 (fun r2 S2 hw => ?_)
      refine r_istore C (pc := 34) (ls' := [(4, .int r2), (0, .ref (ρ 6 0)), (1, .ref (ρ 0 a1)), (2, .int x2), (3, .int x3)]) (Nat.le_of_ble_eq_true rfl) rfl d6_stepCalls_34 ?_
      refine r_iload C (pc := 36) 0 rfl d6_stepCalls_36 ?_
      refine r_if_lt C (pc := 38) (tgt := 61) d6_stepCalls_38 (by decide) (fun c3 => ?_) (fun c3 => ?_)
      · have hw := hw.1 c3
        refine r_iconst C (pc := 61) (v := 4) d6_stepCalls_61 (by decide) ?_
        exact r_iret C (pc := 62) hr d6_stepCalls_62 hw
      · have hw := hw.2 c3
        refine r_iload C (pc := 41) 0 rfl d6_stepCalls_41 ?_
        refine r_bipush C (pc := 43) (v := 8) d6_stepCalls_43 (by decide) ?_
        refine r_icmp_ge C (pc := 45) (tgt := 61) d6_stepCalls_45 (by decide) (fun c4 => ?_) (fun c4 => ?_)
        · have hw := hw.1 c4
          refine r_iconst C (pc := 61) (v := 4) d6_stepCalls_61 (by decide) ?_
          exact r_iret C (pc := 62) hr d6_stepCalls_62 hw
        · have hw := hw.2 c4
          refine r_aload_n C (pc := 48) 1 rfl d6_stepCalls_48 ?_
          refine g6_places C (pc := 49) (Nat.le_of_ble_eq_true rfl) w6_40 d6_stepCalls_49 ?_
          refine r_iload C (pc := 52) 0 rfl d6_stepCalls_52 ?_
          have hi5 := hw.1
          have hw := hw.2
          refine ld1801 C (pc := 54) (Nat.le_of_ble_eq_true rfl) hi5 d6_stepCalls_54 ?_
          refine r_callNi C (pc := 55) (fun sz => ct8_isFunction l D ca ρ sz C.2.2.2.2.2.2.1 hw) mf8_isFunction w6_158 rfl rfl ⟨Nat.le_of_ble_eq_true rfl, Nat.le_of_ble_eq_true rfl⟩ rfl rfl (Nat.le_of_ble_eq_true rfl) ⟨Nat.zero_le _, Nat.zero_le _⟩ d6_stepCalls_55 (fun r3 S3 hw => ?_)
          refine r_if_ne C (pc := 58) (tgt := 63) d6_stepCalls_58 (by decide) (fun c6 => ?_) (fun c6 => ?_)
          · have hw := hw.1 c6
            refine r_aload_n C (pc := 63) 1 rfl d6_stepCalls_63 ?_
            refine g6_functions C (pc := 64) (Nat.le_of_ble_eq_true rfl) w6_36 d6_stepCalls_64 ?_
            refine r_aload_n C (pc := 67) 1 rfl d6_stepCalls_67 ?_
            refine g6_places C (pc := 68) (Nat.le_of_ble_eq_true rfl) w6_40 d6_stepCalls_68 ?_
            refine r_iload C (pc := 71) 0 rfl d6_stepCalls_71 ?_
            have hi7 := hw.1
            have hw := hw.2
            refine ld1801 C (pc := 73) (Nat.le_of_ble_eq_true rfl) hi7 d6_stepCalls_73 ?_
            have hi8 := hw.1
            have hw := hw.2
            refine ld1800 C (pc := 74) hi8 d6_stepCalls_74 ?_
            refine r_astore C (pc := 75) (ls' := [(5, .ref (ρ 4 ((gA S3 1801 0 r2.toNatClampNeg).toNatClampNeg))), (4, .int r2), (0, .ref (ρ 6 0)), (1, .ref (ρ 0 a1)), (2, .int x2), (3, .int x3)]) (Nat.le_of_ble_eq_true rfl) rfl d6_stepCalls_75 ?_
            refine r_aload C (pc := 77) 0 rfl d6_stepCalls_77 ?_
            refine r_callVi C (pc := 79) (fun sz => ct4_length l D ca ρ sz C.2.2.2.2.2.2.1 (vp_lt hi8) hw) mf4_length w6_165 rfl (vp_lt hi8) rfl rfl rfl rfl ⟨Nat.le_of_ble_eq_true rfl, Nat.le_of_ble_eq_true rfl⟩ rfl rfl (Nat.le_of_ble_eq_true rfl) ⟨Nat.zero_le _, Nat.zero_le _⟩ d6_stepCalls_79 (fun r4 S4 hw => ?_)
            refine r_if_eq C (pc := 82) (tgt := 99) d6_stepCalls_82 (by decide) (fun c9 => ?_) (fun c9 => ?_)
            · have hw := hw.1 c9
              refine r_iconst C (pc := 99) (v := 4) d6_stepCalls_99 (by decide) ?_
              exact r_iret C (pc := 100) hr d6_stepCalls_100 hw
            · have hw := hw.2 c9
              refine r_aload C (pc := 85) 0 rfl d6_stepCalls_85 ?_
              refine r_aload_n C (pc := 87) 2 rfl d6_stepCalls_87 ?_
              refine g6_functions C (pc := 88) (Nat.le_of_ble_eq_true rfl) w6_36 d6_stepCalls_88 ?_
              refine r_iload_n C (pc := 91) 5 rfl d6_stepCalls_91 ?_
              have hi10 := hw.1
              have hw := hw.2
              refine ld1800 C (pc := 92) hi10 d6_stepCalls_92 ?_
              refine r_callVi C (pc := 93) (fun sz => ct4_isCalledLike l D ca ρ sz C.2.2.2.2.2.2.1 (vp_lt hi8) (vp_lt hi10) hw) mf4_isCalledLike w6_168 rfl (vp_lt hi8) rfl rfl rfl rfl ⟨Nat.le_of_ble_eq_true rfl, Nat.le_of_ble_eq_true rfl⟩ rfl rfl (Nat.le_of_ble_eq_true rfl) ⟨Nat.zero_le _, Nat.zero_le _⟩ d6_stepCalls_93 (fun r5 S5 hw => ?_)
              refine r_if_ne C (pc := 96) (tgt := 101) d6_stepCalls_96 (by decide) (fun c11 => ?_) (fun c11 => ?_)
              · have hw := hw.1 c11
                refine r_aload_n C (pc := 101) 2 rfl d6_stepCalls_101 ?_
                refine r_aload_n C (pc := 102) 3 rfl d6_stepCalls_102 ?_
                refine r_aload C (pc := 103) 0 rfl d6_stepCalls_103 ?_
                refine r_callVi C (pc := 105) (fun sz => ct6_enter l D ca ρ sz C.2.2.2.2.2.2.1 ha1 (vp_lt hi8) hw) mf6_enter w6_161 rfl (Nat.le_of_ble_eq_true rfl) rfl rfl rfl rfl ⟨Nat.le_of_ble_eq_true rfl, Nat.le_of_ble_eq_true rfl⟩ rfl rfl (Nat.le_of_ble_eq_true rfl) ⟨Nat.zero_le _, Nat.zero_le _⟩ d6_stepCalls_105 (fun r6 S6 hw => ?_)
                exact r_iret C (pc := 108) hr d6_stepCalls_108 hw
              · have hw := hw.2 c11
                refine r_iconst C (pc := 99) (v := 4) d6_stepCalls_99 (by decide) ?_
                exact r_iret C (pc := 100) hr d6_stepCalls_100 hw
          · have hw := hw.2 c6
            refine r_iconst C (pc := 61) (v := 4) d6_stepCalls_61 (by decide) ?_
            exact r_iret C (pc := 62) hr d6_stepCalls_62 hw
    · have hw := hw.2 c2
      refine r_aload_n C (pc := 15) 0 rfl d6_stepCalls_15 ?_
      refine r_aload_n C (pc := 16) 1 rfl d6_stepCalls_16 ?_
      refine r_aload_n C (pc := 17) 0 rfl d6_stepCalls_17 ?_
      refine g6_functions C (pc := 18) (Nat.le_of_ble_eq_true rfl) w6_36 d6_stepCalls_18 ?_
      refine r_iload_n C (pc := 21) 3 rfl d6_stepCalls_21 ?_
      have hi12 := hw.1
      have hw := hw.2
      refine ld1800 C (pc := 22) hi12 d6_stepCalls_22 ?_
      refine r_callVi C (pc := 23) (fun sz => ct6_enter l D ca ρ sz C.2.2.2.2.2.2.1 ha1 (vp_lt hi12) hw) mf6_enter w6_161 rfl (Nat.le_of_ble_eq_true rfl) rfl rfl rfl rfl ⟨Nat.le_of_ble_eq_true rfl, Nat.le_of_ble_eq_true rfl⟩ rfl rfl (Nat.le_of_ble_eq_true rfl) ⟨Nat.zero_le _, Nat.zero_le _⟩ d6_stepCalls_23 (fun r7 S7 hw => ?_)
      exact r_iret C (pc := 26) hr d6_stepCalls_26 hw
  · have hw := hw.2 c1
    refine r_iconst C (pc := 7) (v := 4) d6_stepCalls_7 (by decide) ?_
    exact r_iret C (pc := 8) hr d6_stepCalls_8 hw
set_option maxRecDepth 20000 in
theorem nd6_select_33 {p : Program} {l : Launch} {e : Env} {s : State} {m : MethodId} {args : Array Value} {below : List Frame} {meth : Method} {c : Code} {D : va_G} {ca : Nat → ClassId} {ρ : Nat → Nat → Nat} {a1 : Nat} {Q : St → Prop}  {S : St} (C : Cx true p l s m meth c R6 b6_select 4 D ca ρ) (hr : meth.sig.returnType = none) (ha1 : a1 < 14)  (hw : wp6_select_33 a1 Q  S) : wm true p l e { frames := 3, cells := 0, slots := 0, locals := 61 } s m args below meth c D ca ρ 4 0 0 (qv true below args s D ca ρ 0 0 Q) 33 [(1, .ref (ρ 1 a1))] [] S := by
  unfold wp6_select_33 at hw
  refine r_aload_n C (pc := 33) 0 rfl d6_select_33 ?_
  refine r_callVv C (pc := 34) (fun sz => ct1_drop l D ca ρ sz C.2.2.2.2.2.2.1 ha1 hw) mf1_drop w6_176 rfl ha1 rfl rfl rfl rfl ⟨Nat.le_of_ble_eq_true rfl, Nat.le_of_ble_eq_true rfl⟩ rfl rfl (Nat.le_of_ble_eq_true rfl) ⟨Nat.zero_le _, Nat.zero_le _⟩ d6_select_34 (fun S1 hw => ?_)
  exact r_vret C (pc := 37) hr d6_select_37 hw
set_option maxRecDepth 20000 in
theorem nd6_select_12 {p : Program} {l : Launch} {e : Env} {s : State} {m : MethodId} {args : Array Value} {below : List Frame} {meth : Method} {c : Code} {D : va_G} {ca : Nat → ClassId} {ρ : Nat → Nat → Nat} {a1 : Nat} {Q : St → Prop} {s0 : Int32} {S : St} (C : Cx true p l s m meth c R6 b6_select 4 D ca ρ) (hr : meth.sig.returnType = none) (ha1 : a1 < 14)  (hw : wp6_select_12 a1 Q s0 S) : wm true p l e { frames := 3, cells := 0, slots := 0, locals := 61 } s m args below meth c D ca ρ 4 0 0 (qv true below args s D ca ρ 0 0 Q) 12 [(1, .ref (ρ 1 a1))] [.int s0] S := by
  unfold wp6_select_12 at hw
  refine r_istore_n C (pc := 12) (ls' := [(2, .int s0), (1, .ref (ρ 1 a1))]) (Nat.le_of_ble_eq_true rfl) rfl d6_select_12 ?_
  refine r_aload_n C (pc := 13) 1 rfl d6_select_13 ?_
  refine r_callVi C (pc := 14) (fun sz => ct1_height l D ca ρ sz C.2.2.2.2.2.2.1 ha1 hw) mf1_height w6_147 rfl ha1 rfl rfl rfl rfl ⟨Nat.le_of_ble_eq_true rfl, Nat.le_of_ble_eq_true rfl⟩ rfl rfl (Nat.le_of_ble_eq_true rfl) ⟨Nat.zero_le _, Nat.zero_le _⟩ d6_select_14 (fun r1 S1 hw => ?_)
  refine r_iconst C (pc := 17) (v := 1) d6_select_17 (by decide) ?_
  refine r_isub C (pc := 18) d6_select_18 ?_
  refine r_topi (fun x3_1 ex3_1 => ?_)
  have hw := hw x3_1 ex3_1
  refine r_istore_n C (pc := 19) (ls' := [(3, .int x3_1), (2, .int s0), (1, .ref (ρ 1 a1))]) (Nat.le_of_ble_eq_true rfl) rfl d6_select_19 ?_
  refine r_iload_n C (pc := 20) 1 rfl d6_select_20 ?_
  refine r_if_ne C (pc := 21) (tgt := 33) d6_select_21 (by decide) (fun c1 => ?_) (fun c1 => ?_)
  · have hw := hw.1 c1
    refine r_sub (ls' := [(1, .ref (ρ 1 a1))]) [2] rfl ?_
    exact nd6_select_33 C hr ha1 hw
  · have hw := hw.2 c1
    refine r_aload_n C (pc := 24) 2 rfl d6_select_24 ?_
    refine r_iload_n C (pc := 25) 0 rfl d6_select_25 ?_
    refine r_iconst C (pc := 26) (v := 1) d6_select_26 (by decide) ?_
    refine r_isub C (pc := 27) d6_select_27 ?_
    refine r_aload_n C (pc := 28) 2 rfl d6_select_28 ?_
    refine r_iload_n C (pc := 29) 0 rfl d6_select_29 ?_
    refine r_callVv C (pc := 30) (fun sz => ct1_setFrom l D ca ρ sz C.2.2.2.2.2.2.1 ha1 ha1 hw) mf1_setFrom w6_150 rfl ha1 rfl rfl rfl rfl ⟨Nat.le_of_ble_eq_true rfl, Nat.le_of_ble_eq_true rfl⟩ rfl rfl (Nat.le_of_ble_eq_true rfl) ⟨Nat.zero_le _, Nat.zero_le _⟩ d6_select_30 (fun S2 hw => ?_)
    refine r_sub (ls' := [(1, .ref (ρ 1 a1))]) [2] rfl ?_
    exact nd6_select_33 C hr ha1 hw
set_option maxRecDepth 20000 in
theorem ct6_select (l : Launch) (D : va_G) (ca : Nat → ClassId) (ρ : Nat → Nat → Nat) (sz : Nat) {S : St} {a1 : Nat} {Q : St → Prop} (hAp : Ap true ρ) (ha1 : a1 < 14) (hw : wp6_select S a1 Q) : Met l y6_select [Cond.code y6_select b6_select 4 none] { frames := 3, cells := 0, slots := 0, locals := 61 } (va_Pc [.ref (ρ 6 0), .ref (ρ 1 a1)] (PreU true D ca ρ sz S)) (va_Qv Q (PostU true D ca ρ) (Ar true ρ sz)) 0 0 (Ar true ρ sz) := by
  refine met_of_wm (own := R6) (ls0 := [(0, .ref (ρ 6 0)), (1, .ref (ρ 1 a1))]) rfl rfl hAp (Nat.le_of_ble_eq_true rfl) rfl fun p e s m args below meth c C hr hz => ?_
  subst hz
  unfold wp6_select at hw
  refine r_aload_n C (pc := 0) 1 rfl d6_select_0 ?_
  refine r_callVi C (pc := 1) (fun sz => ct1_takeInt l D ca ρ sz C.2.2.2.2.2.2.1 ha1 hw) mf1_takeInt w6_135 rfl ha1 rfl rfl rfl rfl ⟨Nat.le_of_ble_eq_true rfl, Nat.le_of_ble_eq_true rfl⟩ rfl rfl (Nat.le_of_ble_eq_true rfl) ⟨Nat.zero_le _, Nat.zero_le _⟩ d6_select_1 (fun r1 S1 hw => ?_)
  refine r_if_eq C (pc := 4) (tgt := 11) d6_select_4 (by decide) (fun c1 => ?_) (fun c1 => ?_)
  · have hw := hw.1 c1
    refine r_iconst C (pc := 11) (v := 0) d6_select_11 (by decide) ?_
    refine r_sub (ls' := [(1, .ref (ρ 1 a1))]) [1] rfl ?_
    exact nd6_select_12 C hr ha1 hw
  · have hw := hw.2 c1
    refine r_iconst C (pc := 7) (v := 1) d6_select_7 (by decide) ?_
    refine r_goto C (pc := 8) (tgt := 12) d6_select_8 (by decide) ?_
    refine r_sub (ls' := [(1, .ref (ρ 1 a1))]) [1] rfl ?_
    exact nd6_select_12 C hr ha1 hw
set_option maxRecDepth 20000 in
theorem ct6_stepValues (l : Launch) (D : va_G) (ca : Nat → ClassId) (ρ : Nat → Nat → Nat) (sz : Nat) {S : St} {a1 : Nat} {x2 : Int32} {x3 : Int32} {Q : Int32 → St → Prop} (hAp : Ap true ρ) (ha1 : a1 < 6) (hw : wp6_stepValues S a1 x2 x3 Q) : Met l y6_stepValues [Cond.code y6_stepValues b6_stepValues 6 (some .int)] { frames := 4, cells := 0, slots := 0, locals := 84 } (va_Pc [.ref (ρ 6 0), .ref (ρ 0 a1), .int x2, .int x3] (PreU true D ca ρ sz S)) (va_Qi Q (PostU true D ca ρ) (Ar true ρ sz)) 0 0 (Ar true ρ sz) := by
  refine met_of_wm (own := R6) (ls0 := [(0, .ref (ρ 6 0)), (1, .ref (ρ 0 a1)), (2, .int x2), (3, .int x3)]) rfl rfl hAp (Nat.le_of_ble_eq_true rfl) rfl fun p e s m args below meth c C hr hz => ?_
  subst hz
  unfold wp6_stepValues at hw
  refine r_aload_n C (pc := 0) 1 rfl d6_stepValues_0 ?_
  refine gN0_stack C (pc := 1) ha1 w6_105 d6_stepValues_1 ?_
  refine r_astore C (pc := 4) (ls' := [(4, .ref (ρ 1 (2 * a1))), (0, .ref (ρ 6 0)), (1, .ref (ρ 0 a1)), (2, .int x2), (3, .int x3)]) (Nat.le_of_ble_eq_true rfl) rfl d6_stepValues_4 ?_
  refine r_aload C (pc := 6) 0 rfl d6_stepValues_6 ?_
  refine r_callVi C (pc := 8) (fun sz => ct1_height l D ca ρ sz C.2.2.2.2.2.2.1 (b2 ha1) hw) mf1_height w6_147 rfl (b2 ha1) rfl rfl rfl rfl ⟨Nat.le_of_ble_eq_true rfl, Nat.le_of_ble_eq_true rfl⟩ rfl rfl (Nat.le_of_ble_eq_true rfl) ⟨Nat.zero_le _, Nat.zero_le _⟩ d6_stepValues_8 (fun r1 S1 hw => ?_)
  refine r_iconst C (pc := 11) (v := 1) d6_stepValues_11 (by decide) ?_
  refine r_isub C (pc := 12) d6_stepValues_12 ?_
  refine r_topi (fun x5_1 ex5_1 => ?_)
  have hw := hw x5_1 ex5_1
  refine r_istore C (pc := 13) (ls' := [(5, .int x5_1), (4, .ref (ρ 1 (2 * a1))), (0, .ref (ρ 6 0)), (1, .ref (ρ 0 a1)), (2, .int x2), (3, .int x3)]) (Nat.le_of_ble_eq_true rfl) rfl d6_stepValues_13 ?_
  refine r_iload_n C (pc := 15) 4 rfl d6_stepValues_15 ?_
  refine r_tsw_in C (pc := 16) (tgt := 72) 13 d6_stepValues_16 ⟨by decide, by decide, rfl⟩ (by decide) (fun c1_0 => ?_) (fun c1_0 => ?_)
  · have hw := hw.1 c1_0
    refine r_aload C (pc := 72) 1 rfl d6_stepValues_72 ?_
    refine r_callVv C (pc := 74) (fun sz => ct1_drop l D ca ρ sz C.2.2.2.2.2.2.1 (b2 ha1) hw) mf1_drop w6_176 rfl (b2 ha1) rfl rfl rfl rfl ⟨Nat.le_of_ble_eq_true rfl, Nat.le_of_ble_eq_true rfl⟩ rfl rfl (Nat.le_of_ble_eq_true rfl) ⟨Nat.zero_le _, Nat.zero_le _⟩ d6_stepValues_74 (fun S2 hw => ?_)
    refine r_goto C (pc := 77) (tgt := 193) d6_stepValues_77 (by decide) ?_
    refine r_iconst C (pc := 193) (v := 0) d6_stepValues_193 (by decide) ?_
    exact r_iret C (pc := 194) hr d6_stepValues_194 hw
  · have hw := hw.2 c1_0
    refine r_tsw_in C (pc := 16) (tgt := 80) 14 d6_stepValues_16 ⟨by decide, by decide, rfl⟩ (by decide) (fun c1_1 => ?_) (fun c1_1 => ?_)
    · have hw := hw.1 c1_1
      refine r_aload_n C (pc := 80) 2 rfl d6_stepValues_80 ?_
      refine r_aload C (pc := 81) 1 rfl d6_stepValues_81 ?_
      refine r_callVv C (pc := 83) (fun sz => ct6_select l D ca ρ sz C.2.2.2.2.2.2.1 (b2 ha1) hw) mf6_select w6_179 rfl (Nat.le_of_ble_eq_true rfl) rfl rfl rfl rfl ⟨Nat.le_of_ble_eq_true rfl, Nat.le_of_ble_eq_true rfl⟩ rfl rfl (Nat.le_of_ble_eq_true rfl) ⟨Nat.zero_le _, Nat.zero_le _⟩ d6_stepValues_83 (fun S3 hw => ?_)
      refine r_goto C (pc := 86) (tgt := 193) d6_stepValues_86 (by decide) ?_
      refine r_iconst C (pc := 193) (v := 0) d6_stepValues_193 (by decide) ?_
      exact r_iret C (pc := 194) hr d6_stepValues_194 hw
    · have hw := hw.2 c1_1
      refine r_tsw_in C (pc := 16) (tgt := 89) 15 d6_stepValues_16 ⟨by decide, by decide, rfl⟩ (by decide) (fun c1_2 => ?_) (fun c1_2 => ?_)
      · have hw := hw.1 c1_2
        refine r_aload C (pc := 89) 1 rfl d6_stepValues_89 ?_
        refine r_aload_n C (pc := 91) 3 rfl d6_stepValues_91 ?_
        refine gN0_variables C (pc := 92) ha1 w6_182 d6_stepValues_92 ?_
        refine r_iload_n C (pc := 95) 5 rfl d6_stepValues_95 ?_
        refine r_callVv C (pc := 96) (fun sz => ct1_putFrom l D ca ρ sz C.2.2.2.2.2.2.1 (b2 ha1) (b3 ha1) hw) mf1_putFrom w6_154 rfl (b2 ha1) rfl rfl rfl rfl ⟨Nat.le_of_ble_eq_true rfl, Nat.le_of_ble_eq_true rfl⟩ rfl rfl (Nat.le_of_ble_eq_true rfl) ⟨Nat.zero_le _, Nat.zero_le _⟩ d6_stepValues_96 (fun S4 hw => ?_)
        refine r_goto C (pc := 99) (tgt := 193) d6_stepValues_99 (by decide) ?_
        refine r_iconst C (pc := 193) (v := 0) d6_stepValues_193 (by decide) ?_
        exact r_iret C (pc := 194) hr d6_stepValues_194 hw
      · have hw := hw.2 c1_2
        refine r_tsw_in C (pc := 16) (tgt := 102) 16 d6_stepValues_16 ⟨by decide, by decide, rfl⟩ (by decide) (fun c1_3 => ?_) (fun c1_3 => ?_)
        · have hw := hw.1 c1_3
          refine r_aload_n C (pc := 102) 3 rfl d6_stepValues_102 ?_
          refine gN0_variables C (pc := 103) ha1 w6_182 d6_stepValues_103 ?_
          refine r_iload_n C (pc := 106) 5 rfl d6_stepValues_106 ?_
          refine r_aload C (pc := 107) 1 rfl d6_stepValues_107 ?_
          refine r_iload C (pc := 109) 0 rfl d6_stepValues_109 ?_
          refine r_callVv C (pc := 111) (fun sz => ct1_setFrom l D ca ρ sz C.2.2.2.2.2.2.1 (b3 ha1) (b2 ha1) hw) mf1_setFrom w6_150 rfl (b3 ha1) rfl rfl rfl rfl ⟨Nat.le_of_ble_eq_true rfl, Nat.le_of_ble_eq_true rfl⟩ rfl rfl (Nat.le_of_ble_eq_true rfl) ⟨Nat.zero_le _, Nat.zero_le _⟩ d6_stepValues_111 (fun S5 hw => ?_)
          refine r_aload C (pc := 114) 1 rfl d6_stepValues_114 ?_
          refine r_callVv C (pc := 116) (fun sz => ct1_drop l D ca ρ sz C.2.2.2.2.2.2.1 (b2 ha1) hw) mf1_drop w6_176 rfl (b2 ha1) rfl rfl rfl rfl ⟨Nat.le_of_ble_eq_true rfl, Nat.le_of_ble_eq_true rfl⟩ rfl rfl (Nat.le_of_ble_eq_true rfl) ⟨Nat.zero_le _, Nat.zero_le _⟩ d6_stepValues_116 (fun S6 hw => ?_)
          refine r_goto C (pc := 119) (tgt := 193) d6_stepValues_119 (by decide) ?_
          refine r_iconst C (pc := 193) (v := 0) d6_stepValues_193 (by decide) ?_
          exact r_iret C (pc := 194) hr d6_stepValues_194 hw
        · have hw := hw.2 c1_3
          refine r_tsw_in C (pc := 16) (tgt := 122) 17 d6_stepValues_16 ⟨by decide, by decide, rfl⟩ (by decide) (fun c1_4 => ?_) (fun c1_4 => ?_)
          · have hw := hw.1 c1_4
            refine r_aload_n C (pc := 122) 3 rfl d6_stepValues_122 ?_
            refine gN0_variables C (pc := 123) ha1 w6_182 d6_stepValues_123 ?_
            refine r_iload_n C (pc := 126) 5 rfl d6_stepValues_126 ?_
            refine r_aload C (pc := 127) 1 rfl d6_stepValues_127 ?_
            refine r_iload C (pc := 129) 0 rfl d6_stepValues_129 ?_
            refine r_callVv C (pc := 131) (fun sz => ct1_setFrom l D ca ρ sz C.2.2.2.2.2.2.1 (b3 ha1) (b2 ha1) hw) mf1_setFrom w6_150 rfl (b3 ha1) rfl rfl rfl rfl ⟨Nat.le_of_ble_eq_true rfl, Nat.le_of_ble_eq_true rfl⟩ rfl rfl (Nat.le_of_ble_eq_true rfl) ⟨Nat.zero_le _, Nat.zero_le _⟩ d6_stepValues_131 (fun S7 hw => ?_)
            refine r_goto C (pc := 134) (tgt := 193) d6_stepValues_134 (by decide) ?_
            refine r_iconst C (pc := 193) (v := 0) d6_stepValues_193 (by decide) ?_
            exact r_iret C (pc := 194) hr d6_stepValues_194 hw
          · have hw := hw.2 c1_4
            refine r_tsw_in C (pc := 16) (tgt := 137) 18 d6_stepValues_16 ⟨by decide, by decide, rfl⟩ (by decide) (fun c1_5 => ?_) (fun c1_5 => ?_)
            · have hw := hw.1 c1_5
              refine r_aload C (pc := 137) 1 rfl d6_stepValues_137 ?_
              refine r_aload_n C (pc := 139) 2 rfl d6_stepValues_139 ?_
              refine g6_globals C (pc := 140) (Nat.le_of_ble_eq_true rfl) w6_29 d6_stepValues_140 ?_
              refine r_iload_n C (pc := 143) 5 rfl d6_stepValues_143 ?_
              refine r_callVv C (pc := 144) (fun sz => ct1_putFrom l D ca ρ sz C.2.2.2.2.2.2.1 (b2 ha1) (Nat.le_of_ble_eq_true rfl) hw) mf1_putFrom w6_154 rfl (b2 ha1) rfl rfl rfl rfl ⟨Nat.le_of_ble_eq_true rfl, Nat.le_of_ble_eq_true rfl⟩ rfl rfl (Nat.le_of_ble_eq_true rfl) ⟨Nat.zero_le _, Nat.zero_le _⟩ d6_stepValues_144 (fun S8 hw => ?_)
              refine r_goto C (pc := 147) (tgt := 193) d6_stepValues_147 (by decide) ?_
              refine r_iconst C (pc := 193) (v := 0) d6_stepValues_193 (by decide) ?_
              exact r_iret C (pc := 194) hr d6_stepValues_194 hw
            · have hw := hw.2 c1_5
              refine r_tsw_in C (pc := 16) (tgt := 150) 19 d6_stepValues_16 ⟨by decide, by decide, rfl⟩ (by decide) (fun c1_6 => ?_) (fun c1_6 => ?_)
              · have hw := hw.1 c1_6
                refine r_aload_n C (pc := 150) 2 rfl d6_stepValues_150 ?_
                refine g6_globals C (pc := 151) (Nat.le_of_ble_eq_true rfl) w6_29 d6_stepValues_151 ?_
                refine r_iload_n C (pc := 154) 5 rfl d6_stepValues_154 ?_
                refine r_aload C (pc := 155) 1 rfl d6_stepValues_155 ?_
                refine r_iload C (pc := 157) 0 rfl d6_stepValues_157 ?_
                refine r_callVv C (pc := 159) (fun sz => ct1_setFrom l D ca ρ sz C.2.2.2.2.2.2.1 (Nat.le_of_ble_eq_true rfl) (b2 ha1) hw) mf1_setFrom w6_150 rfl (Nat.le_of_ble_eq_true rfl) rfl rfl rfl rfl ⟨Nat.le_of_ble_eq_true rfl, Nat.le_of_ble_eq_true rfl⟩ rfl rfl (Nat.le_of_ble_eq_true rfl) ⟨Nat.zero_le _, Nat.zero_le _⟩ d6_stepValues_159 (fun S9 hw => ?_)
                refine r_aload C (pc := 162) 1 rfl d6_stepValues_162 ?_
                refine r_callVv C (pc := 164) (fun sz => ct1_drop l D ca ρ sz C.2.2.2.2.2.2.1 (b2 ha1) hw) mf1_drop w6_176 rfl (b2 ha1) rfl rfl rfl rfl ⟨Nat.le_of_ble_eq_true rfl, Nat.le_of_ble_eq_true rfl⟩ rfl rfl (Nat.le_of_ble_eq_true rfl) ⟨Nat.zero_le _, Nat.zero_le _⟩ d6_stepValues_164 (fun S10 hw => ?_)
                refine r_goto C (pc := 167) (tgt := 193) d6_stepValues_167 (by decide) ?_
                refine r_iconst C (pc := 193) (v := 0) d6_stepValues_193 (by decide) ?_
                exact r_iret C (pc := 194) hr d6_stepValues_194 hw
              · have hw := hw.2 c1_6
                refine r_tsw_in C (pc := 16) (tgt := 170) 22 d6_stepValues_16 ⟨by decide, by decide, rfl⟩ (by decide) (fun c1_7 => ?_) (fun c1_7 => ?_)
                · have hw := hw.1 c1_7
                  refine r_aload C (pc := 170) 1 rfl d6_stepValues_170 ?_
                  refine r_iload_n C (pc := 172) 5 rfl d6_stepValues_172 ?_
                  refine r_i2b C (pc := 173) d6_stepValues_173 ?_
                  refine r_i2d C (pc := 174) d6_stepValues_174 ?_
                  refine r_ldc2d C (pc := 175) w6_185 d6_stepValues_175 ?_
                  have h0 := hw.1
                  have hw := hw.2
                  refine r_dmul C (pc := 178) d6_stepValues_178 h0 ?_
                  refine r_callVv C (pc := 179) (fun sz => ct1_putReal l D ca ρ sz C.2.2.2.2.2.2.1 (b2 ha1) hw) mf1_putReal w6_187 rfl (b2 ha1) rfl rfl rfl rfl ⟨Nat.le_of_ble_eq_true rfl, Nat.le_of_ble_eq_true rfl⟩ rfl rfl (Nat.le_of_ble_eq_true rfl) ⟨Nat.zero_le _, Nat.zero_le _⟩ d6_stepValues_179 (fun S11 hw => ?_)
                  refine r_goto C (pc := 182) (tgt := 193) d6_stepValues_182 (by decide) ?_
                  refine r_iconst C (pc := 193) (v := 0) d6_stepValues_193 (by decide) ?_
                  exact r_iret C (pc := 194) hr d6_stepValues_194 hw
                · have hw := hw.2 c1_7
                  refine r_tsw_out C (pc := 16) (tgt := 185) [13, 14, 15, 16, 17, 18, 19, 22] d6_stepValues_16 (by intro v hv; simp only [List.mem_cons, List.not_mem_nil, or_false] at hv; rcases hv with rfl | rfl | rfl | rfl | rfl | rfl | rfl | rfl <;> assumption) (by decide +kernel) (by decide) ?_
                  refine r_aload C (pc := 185) 1 rfl d6_stepValues_185 ?_
                  refine r_iload_n C (pc := 187) 5 rfl d6_stepValues_187 ?_
                  refine r_i2b C (pc := 188) d6_stepValues_188 ?_
                  refine r_i2l C (pc := 189) d6_stepValues_189 ?_
                  refine r_callVv C (pc := 190) (fun sz => ct1_putNumber l D ca ρ sz C.2.2.2.2.2.2.1 (b2 ha1) hw) mf1_putNumber w6_191 rfl (b2 ha1) rfl rfl rfl rfl ⟨Nat.le_of_ble_eq_true rfl, Nat.le_of_ble_eq_true rfl⟩ rfl rfl (Nat.le_of_ble_eq_true rfl) ⟨Nat.zero_le _, Nat.zero_le _⟩ d6_stepValues_190 (fun S12 hw => ?_)
                  refine r_iconst C (pc := 193) (v := 0) d6_stepValues_193 (by decide) ?_
                  exact r_iret C (pc := 194) hr d6_stepValues_194 hw
set_option maxRecDepth 20000 in
theorem ct6_sizeInMemory (l : Launch) (D : va_G) (ca : Nat → ClassId) (ρ : Nat → Nat → Nat) (sz : Nat) {S : St} {x0 : Int32} {Q : Int32 → St → Prop} (hAp : Ap true ρ)  (hw : wp6_sizeInMemory S x0 Q) : Met l y6_sizeInMemory [Cond.code y6_sizeInMemory b6_sizeInMemory 1 (some .int)] { frames := 0, cells := 0, slots := 0, locals := 0 } (va_Pc [.int x0] (PreU true D ca ρ sz S)) (va_Qi Q (PostU true D ca ρ) (Ar true ρ sz)) 0 0 (Ar true ρ sz) := by
  refine met_of_wm (own := R6) (ls0 := [(0, .int x0)]) rfl rfl hAp (Nat.le_of_ble_eq_true rfl) rfl fun p e s m args below meth c C hr hz => ?_
  subst hz
  unfold wp6_sizeInMemory at hw
  refine r_iload_n C (pc := 0) 0 rfl d6_sizeInMemory_0 ?_
  refine r_tsw_in C (pc := 1) (tgt := 36) 24 d6_sizeInMemory_1 ⟨by decide, by decide, rfl⟩ (by decide) (fun c1_0 => ?_) (fun c1_0 => ?_)
  · have hw := hw.1 c1_0
    refine r_iconst C (pc := 36) (v := 1) d6_sizeInMemory_36 (by decide) ?_
    exact r_iret C (pc := 37) hr d6_sizeInMemory_37 hw
  · have hw := hw.2 c1_0
    refine r_tsw_in C (pc := 1) (tgt := 38) 25 d6_sizeInMemory_1 ⟨by decide, by decide, rfl⟩ (by decide) (fun c1_1 => ?_) (fun c1_1 => ?_)
    · have hw := hw.1 c1_1
      refine r_bipush C (pc := 38) (v := 8) d6_sizeInMemory_38 (by decide) ?_
      exact r_iret C (pc := 40) hr d6_sizeInMemory_40 hw
    · have hw := hw.2 c1_1
      refine r_tsw_in C (pc := 1) (tgt := 36) 27 d6_sizeInMemory_1 ⟨by decide, by decide, rfl⟩ (by decide) (fun c1_2 => ?_) (fun c1_2 => ?_)
      · have hw := hw.1 c1_2
        refine r_iconst C (pc := 36) (v := 1) d6_sizeInMemory_36 (by decide) ?_
        exact r_iret C (pc := 37) hr d6_sizeInMemory_37 hw
      · have hw := hw.2 c1_2
        refine r_tsw_in C (pc := 1) (tgt := 38) 28 d6_sizeInMemory_1 ⟨by decide, by decide, rfl⟩ (by decide) (fun c1_3 => ?_) (fun c1_3 => ?_)
        · have hw := hw.1 c1_3
          refine r_bipush C (pc := 38) (v := 8) d6_sizeInMemory_38 (by decide) ?_
          exact r_iret C (pc := 40) hr d6_sizeInMemory_40 hw
        · have hw := hw.2 c1_3
          refine r_tsw_out C (pc := 1) (tgt := 41) [24, 25, 27, 28] d6_sizeInMemory_1 (by intro v hv; simp only [List.mem_cons, List.not_mem_nil, or_false] at hv; rcases hv with rfl | rfl | rfl | rfl <;> assumption) (by decide +kernel) (by decide) ?_
          refine r_iconst C (pc := 41) (v := 4) d6_sizeInMemory_41 (by decide) ?_
          exact r_iret C (pc := 42) hr d6_sizeInMemory_42 hw
set_option maxRecDepth 20000 in
theorem ct7_holds (l : Launch) (D : va_G) (ca : Nat → ClassId) (ρ : Nat → Nat → Nat) (sz : Nat) {S : St} {x1 : Int64} {x3 : Int32} {Q : Int32 → St → Prop} (hAp : Ap true ρ)  (hw : wp7_holds S x1 x3 Q) : Met l y7_holds [Cond.code y7_holds b7_holds 4 (some .boolean)] { frames := 0, cells := 0, slots := 0, locals := 0 } (va_Pc [.ref (ρ 7 0), .long x1, .int x3] (PreU true D ca ρ sz S)) (va_Qi Q (PostU true D ca ρ) (Ar true ρ sz)) 0 0 (Ar true ρ sz) := by
  refine met_of_wm (own := R7) (ls0 := [(0, .ref (ρ 7 0)), (1, .long x1), (3, .int x3)]) rfl rfl hAp (Nat.le_of_ble_eq_true rfl) rfl fun p e s m args below meth c C hr hz => ?_
  subst hz
  unfold wp7_holds at hw
  refine r_lload_n C (pc := 0) 1 rfl d7_holds_0 ?_
  refine r_lconst C (pc := 1) (v := 0) d7_holds_1 (by decide) ?_
  refine r_lcmp C (pc := 2) d7_holds_2 ?_
  refine r_if_lt C (pc := 3) (tgt := 21) d7_holds_3 (by decide) (fun c1 => ?_) (fun c1 => ?_)
  · have hw := hw.1 c1
    refine r_iconst C (pc := 21) (v := 0) d7_holds_21 (by decide) ?_
    exact r_zret C (pc := 22) hr rfl d7_holds_22 hw
  · have hw := hw.2 c1
    refine r_lload_n C (pc := 6) 1 rfl d7_holds_6 ?_
    refine r_iload_n C (pc := 7) 2 rfl d7_holds_7 ?_
    refine r_i2l C (pc := 8) d7_holds_8 ?_
    refine r_ladd C (pc := 9) d7_holds_9 ?_
    refine r_ldc2 C (pc := 10) w7_13 d7_holds_10 ?_
    refine r_lcmp C (pc := 13) d7_holds_13 ?_
    refine r_if_gt C (pc := 14) (tgt := 21) d7_holds_14 (by decide) (fun c2 => ?_) (fun c2 => ?_)
    · have hw := hw.1 c2
      refine r_iconst C (pc := 21) (v := 0) d7_holds_21 (by decide) ?_
      exact r_zret C (pc := 22) hr rfl d7_holds_22 hw
    · have hw := hw.2 c2
      refine r_iconst C (pc := 17) (v := 1) d7_holds_17 (by decide) ?_
      refine r_goto C (pc := 18) (tgt := 22) d7_holds_18 (by decide) ?_
      exact r_zret C (pc := 22) hr rfl d7_holds_22 hw
set_option maxRecDepth 20000 in
theorem nd7_store_46 {p : Program} {l : Launch} {e : Env} {s : State} {m : MethodId} {args : Array Value} {below : List Frame} {meth : Method} {c : Code} {D : va_G} {ca : Nat → ClassId} {ρ : Nat → Nat → Nat} {x1 : Int32} {x2 : Int32} {x3 : Int64} {Q : St → Prop} {K : Int32 → St → Prop} {x5 : Int32} {S : St} (C : Cx true p l s m meth c R7 b7_store 6 D ca ρ) (hr : meth.sig.returnType = none)  (hK : ∀ (x5 : Int32) (S : St) , K x5 S → wm true p l e { frames := 0, cells := 0, slots := 0, locals := 0 } s m args below meth c D ca ρ 6 0 0 (qv true below args s D ca ρ 0 0 Q) 3 [(0, .ref (ρ 7 0)), (1, .int x1), (2, .int x2), (3, .long x3), (5, .int x5)] [] S)  (hw : wp7_store_46 K x1 x2 x3 Q x5 S) : wm true p l e { frames := 0, cells := 0, slots := 0, locals := 0 } s m args below meth c D ca ρ 6 0 0 (qv true below args s D ca ρ 0 0 Q) 46 [(0, .ref (ρ 7 0)), (1, .int x1), (2, .int x2), (3, .long x3), (5, .int x5)] [] S := by
  unfold wp7_store_46 at hw
  obtain ⟨x5_1, ex5_1⟩ : ∃ y : Int32, y = x5 + 1 := ⟨_, rfl⟩
  have hw := hw x5_1 ex5_1
  refine r_iinc C (pc := 46) (v := x5_1) (ls' := [(5, .int x5_1), (0, .ref (ρ 7 0)), (1, .int x1), (2, .int x2), (3, .long x3)]) 4 rfl (by rw [ex5_1]; rfl) (Nat.le_of_ble_eq_true rfl) rfl d7_store_46 ?_
  refine r_goto C (pc := 49) (tgt := 3) d7_store_49 (by decide) ?_
  refine r_sub (ls' := [(0, .ref (ρ 7 0)), (1, .int x1), (2, .int x2), (3, .long x3), (5, .int x5_1)]) [1, 2, 3, 4, 0] rfl ?_
  exact hK _ _ hw
set_option maxRecDepth 20000 in
theorem nd7_store_3 {p : Program} {l : Launch} {e : Env} {s : State} {m : MethodId} {args : Array Value} {below : List Frame} {meth : Method} {c : Code} {D : va_G} {ca : Nat → ClassId} {ρ : Nat → Nat → Nat} {x1 : Int32} {x2 : Int32} {x3 : Int64} {Q : St → Prop} (C : Cx true p l s m meth c R7 b7_store 6 D ca ρ) (hr : meth.sig.returnType = none)  : ∀ (n : Nat) (x5 : Int32) (S : St) , wp7_store_3 x1 x2 x3 Q n x5 S → wm true p l e { frames := 0, cells := 0, slots := 0, locals := 0 } s m args below meth c D ca ρ 6 0 0 (qv true below args s D ca ρ 0 0 Q) 3 [(0, .ref (ρ 7 0)), (1, .int x1), (2, .int x2), (3, .long x3), (5, .int x5)] [] S := by
  intro n
  induction n with
  | zero => intro x5 S  hw; exact hw.elim
  | succ n ih =>
    intro x5 S  hw
    unfold wp7_store_3 at hw
    refine r_iload C (pc := 3) 4 rfl d7_store_3 ?_
    refine r_iload_n C (pc := 5) 2 rfl d7_store_5 ?_
    refine r_icmp_ge C (pc := 6) (tgt := 52) d7_store_6 (by decide) (fun c1 => ?_) (fun c1 => ?_)
    · have hw := hw.1 c1
      exact r_vret C (pc := 52) hr d7_store_52 hw
    · have hw := hw.2 c1
      refine r_iload_n C (pc := 9) 1 rfl d7_store_9 ?_
      refine r_iload C (pc := 10) 4 rfl d7_store_10 ?_
      refine r_iadd C (pc := 12) d7_store_12 ?_
      refine r_if_lt C (pc := 13) (tgt := 46) d7_store_13 (by decide) (fun c2 => ?_) (fun c2 => ?_)
      · have hw := hw.1 c2
        refine r_sub (ls' := [(0, .ref (ρ 7 0)), (1, .int x1), (2, .int x2), (3, .long x3), (5, .int x5)]) [0, 1, 2, 3, 4] rfl ?_
        exact nd7_store_46 C hr ih hw
      · have hw := hw.2 c2
        refine r_iload_n C (pc := 16) 1 rfl d7_store_16 ?_
        refine r_iload C (pc := 17) 4 rfl d7_store_17 ?_
        refine r_iadd C (pc := 19) d7_store_19 ?_
        refine r_bipush C (pc := 20) (v := 64) d7_store_20 (by decide) ?_
        refine r_icmp_ge C (pc := 22) (tgt := 46) d7_store_22 (by decide) (fun c3 => ?_) (fun c3 => ?_)
        · have hw := hw.1 c3
          refine r_sub (ls' := [(0, .ref (ρ 7 0)), (1, .int x1), (2, .int x2), (3, .long x3), (5, .int x5)]) [0, 1, 2, 3, 4] rfl ?_
          exact nd7_store_46 C hr ih hw
        · have hw := hw.2 c3
          refine r_aload_n C (pc := 25) 0 rfl d7_store_25 ?_
          refine g7_bytes C (pc := 26) (Nat.le_of_ble_eq_true rfl) w7_9 d7_store_26 ?_
          refine r_iload_n C (pc := 29) 1 rfl d7_store_29 ?_
          refine r_iload C (pc := 30) 4 rfl d7_store_30 ?_
          refine r_iadd C (pc := 32) d7_store_32 ?_
          refine r_lload_n C (pc := 33) 3 rfl d7_store_33 ?_
          refine r_bipush C (pc := 34) (v := 8) d7_store_34 (by decide) ?_
          refine r_iload C (pc := 36) 4 rfl d7_store_36 ?_
          refine r_imul C (pc := 38) d7_store_38 ?_
          refine r_lushr C (pc := 39) d7_store_39 ?_
          refine r_l2i C (pc := 40) d7_store_40 ?_
          refine r_sipush C (pc := 41) (v := 255) d7_store_41 (by decide) ?_
          refine r_iand C (pc := 44) d7_store_44 ?_
          have hi4 := hw.1
          have hw := hw.2
          refine st1700 C (pc := 45) (Nat.le_of_ble_eq_true rfl) hi4 d7_store_45 ?_
          refine r_S (fun S1 eS1 => ?_)
          have hw := hw S1 eS1
          refine r_sub (ls' := [(0, .ref (ρ 7 0)), (1, .int x1), (2, .int x2), (3, .long x3), (5, .int x5)]) [0, 1, 2, 3, 4] rfl ?_
          exact nd7_store_46 C hr ih hw
set_option maxRecDepth 20000 in
theorem ct7_store (l : Launch) (D : va_G) (ca : Nat → ClassId) (ρ : Nat → Nat → Nat) (sz : Nat) {S : St} {x1 : Int32} {x2 : Int32} {x3 : Int64} {Q : St → Prop} (hAp : Ap true ρ)  (hw : wp7_store S x1 x2 x3 Q) : Met l y7_store [Cond.code y7_store b7_store 6 none] { frames := 0, cells := 0, slots := 0, locals := 0 } (va_Pc [.ref (ρ 7 0), .int x1, .int x2, .long x3] (PreU true D ca ρ sz S)) (va_Qv Q (PostU true D ca ρ) (Ar true ρ sz)) 0 0 (Ar true ρ sz) := by
  refine met_of_wm (own := R7) (ls0 := [(0, .ref (ρ 7 0)), (1, .int x1), (2, .int x2), (3, .long x3)]) rfl rfl hAp (Nat.le_of_ble_eq_true rfl) rfl fun p e s m args below meth c C hr hz => ?_
  subst hz
  unfold wp7_store at hw
  refine r_iconst C (pc := 0) (v := 0) d7_store_0 (by decide) ?_
  refine r_istore C (pc := 1) (ls' := [(5, .int 0), (0, .ref (ρ 7 0)), (1, .int x1), (2, .int x2), (3, .long x3)]) (Nat.le_of_ble_eq_true rfl) rfl d7_store_1 ?_
  refine r_sub (ls' := [(0, .ref (ρ 7 0)), (1, .int x1), (2, .int x2), (3, .long x3), (5, .int 0)]) [1, 2, 3, 4, 0] rfl ?_
  obtain ⟨n, hw⟩ := hw
  exact nd7_store_3 C hr  n _ _ hw
set_option maxRecDepth 20000 in
theorem ct7_byteAt (l : Launch) (D : va_G) (ca : Nat → ClassId) (ρ : Nat → Nat → Nat) (sz : Nat) {S : St} {x1 : Int32} {Q : Int32 → St → Prop} (hAp : Ap true ρ)  (hw : wp7_byteAt S x1 Q) : Met l y7_byteAt [Cond.code y7_byteAt b7_byteAt 2 (some .int)] { frames := 0, cells := 0, slots := 0, locals := 0 } (va_Pc [.ref (ρ 7 0), .int x1] (PreU true D ca ρ sz S)) (va_Qi Q (PostU true D ca ρ) (Ar true ρ sz)) 0 0 (Ar true ρ sz) := by
  refine met_of_wm (own := R7) (ls0 := [(0, .ref (ρ 7 0)), (1, .int x1)]) rfl rfl hAp (Nat.le_of_ble_eq_true rfl) rfl fun p e s m args below meth c C hr hz => ?_
  subst hz
  unfold wp7_byteAt at hw
  refine r_iload_n C (pc := 0) 1 rfl d7_byteAt_0 ?_
  refine r_if_lt C (pc := 1) (tgt := 19) d7_byteAt_1 (by decide) (fun c1 => ?_) (fun c1 => ?_)
  · have hw := hw.1 c1
    refine r_iconst C (pc := 19) (v := 0) d7_byteAt_19 (by decide) ?_
    exact r_iret C (pc := 20) hr d7_byteAt_20 hw
  · have hw := hw.2 c1
    refine r_iload_n C (pc := 4) 1 rfl d7_byteAt_4 ?_
    refine r_bipush C (pc := 5) (v := 64) d7_byteAt_5 (by decide) ?_
    refine r_icmp_ge C (pc := 7) (tgt := 19) d7_byteAt_7 (by decide) (fun c2 => ?_) (fun c2 => ?_)
    · have hw := hw.1 c2
      refine r_iconst C (pc := 19) (v := 0) d7_byteAt_19 (by decide) ?_
      exact r_iret C (pc := 20) hr d7_byteAt_20 hw
    · have hw := hw.2 c2
      refine r_aload_n C (pc := 10) 0 rfl d7_byteAt_10 ?_
      refine g7_bytes C (pc := 11) (Nat.le_of_ble_eq_true rfl) w7_9 d7_byteAt_11 ?_
      refine r_iload_n C (pc := 14) 1 rfl d7_byteAt_14 ?_
      have hi3 := hw.1
      have hw := hw.2
      refine ld1700 C (pc := 15) (Nat.le_of_ble_eq_true rfl) hi3 d7_byteAt_15 ?_
      refine r_goto C (pc := 16) (tgt := 20) d7_byteAt_16 (by decide) ?_
      exact r_iret C (pc := 20) hr d7_byteAt_20 hw
set_option maxRecDepth 20000 in
theorem nd7_load_7 {p : Program} {l : Launch} {e : Env} {s : State} {m : MethodId} {args : Array Value} {below : List Frame} {meth : Method} {c : Code} {D : va_G} {ca : Nat → ClassId} {ρ : Nat → Nat → Nat} {x1 : Int32} {x2 : Int32} {Q : Int64 → St → Prop} (C : Cx true p l s m meth c R7 b7_load 6 D ca ρ) (hr : meth.sig.returnType = (some .long))  : ∀ (n : Nat) (x3 : Int64) (x5 : Int32) (S : St) , wp7_load_7 x1 x2 Q n x3 x5 S → wm true p l e { frames := 1, cells := 0, slots := 0, locals := 21 } s m args below meth c D ca ρ 6 0 0 (ql true below args s D ca ρ 0 0 Q) 7 [(0, .ref (ρ 7 0)), (1, .int x1), (3, .long x3), (5, .int x5)] [] S := by
  intro n
  induction n with
  | zero => intro x3 x5 S  hw; exact hw.elim
  | succ n ih =>
    intro x3 x5 S  hw
    unfold wp7_load_7 at hw
    refine r_iload C (pc := 7) 3 rfl d7_load_7 ?_
    refine r_if_lt C (pc := 9) (tgt := 33) d7_load_9 (by decide) (fun c1 => ?_) (fun c1 => ?_)
    · have hw := hw.1 c1
      refine r_lload_n C (pc := 33) 2 rfl d7_load_33 ?_
      exact r_lret C (pc := 34) hr d7_load_34 hw
    · have hw := hw.2 c1
      refine r_lload_n C (pc := 12) 2 rfl d7_load_12 ?_
      refine r_bipush C (pc := 13) (v := 8) d7_load_13 (by decide) ?_
      refine r_lshl C (pc := 15) d7_load_15 ?_
      refine r_aload_n C (pc := 16) 0 rfl d7_load_16 ?_
      refine r_iload_n C (pc := 17) 1 rfl d7_load_17 ?_
      refine r_iload C (pc := 18) 3 rfl d7_load_18 ?_
      refine r_iadd C (pc := 20) d7_load_20 ?_
      refine r_callVi C (pc := 21) (fun sz => ct7_byteAt l D ca ρ sz C.2.2.2.2.2.2.1 hw) mf7_byteAt w7_15 rfl (Nat.le_of_ble_eq_true rfl) rfl rfl rfl rfl ⟨Nat.le_of_ble_eq_true rfl, Nat.le_of_ble_eq_true rfl⟩ rfl rfl (Nat.le_of_ble_eq_true rfl) ⟨Nat.zero_le _, Nat.zero_le _⟩ d7_load_21 (fun r1 S1 hw => ?_)
      refine r_i2l C (pc := 24) d7_load_24 ?_
      refine r_lor C (pc := 25) d7_load_25 ?_
      refine r_topl (fun x3_1 ex3_1 => ?_)
      have hw := hw x3_1 ex3_1
      refine r_lstore_n C (pc := 26) (ls' := [(3, .long x3_1), (0, .ref (ρ 7 0)), (1, .int x1), (5, .int x5)]) (Nat.le_of_ble_eq_true rfl) rfl d7_load_26 ?_
      obtain ⟨x5_1, ex5_1⟩ : ∃ y : Int32, y = x5 + (-1) := ⟨_, rfl⟩
      have hw := hw x5_1 ex5_1
      refine r_iinc C (pc := 27) (v := x5_1) (ls' := [(5, .int x5_1), (3, .long x3_1), (0, .ref (ρ 7 0)), (1, .int x1)]) 3 rfl (by rw [ex5_1]; rfl) (Nat.le_of_ble_eq_true rfl) rfl d7_load_27 ?_
      refine r_goto C (pc := 30) (tgt := 7) d7_load_30 (by decide) ?_
      refine r_sub (ls' := [(0, .ref (ρ 7 0)), (1, .int x1), (3, .long x3_1), (5, .int x5_1)]) [2, 3, 1, 0] rfl ?_
      exact ih _ _ _ hw
set_option maxRecDepth 20000 in
theorem ct7_load (l : Launch) (D : va_G) (ca : Nat → ClassId) (ρ : Nat → Nat → Nat) (sz : Nat) {S : St} {x1 : Int32} {x2 : Int32} {Q : Int64 → St → Prop} (hAp : Ap true ρ)  (hw : wp7_load S x1 x2 Q) : Met l y7_load [Cond.code y7_load b7_load 6 (some .long)] { frames := 1, cells := 0, slots := 0, locals := 21 } (va_Pc [.ref (ρ 7 0), .int x1, .int x2] (PreU true D ca ρ sz S)) (va_Ql Q (PostU true D ca ρ) (Ar true ρ sz)) 0 0 (Ar true ρ sz) := by
  refine met_of_wm (own := R7) (ls0 := [(0, .ref (ρ 7 0)), (1, .int x1), (2, .int x2)]) rfl rfl hAp (Nat.le_of_ble_eq_true rfl) rfl fun p e s m args below meth c C hr hz => ?_
  subst hz
  unfold wp7_load at hw
  refine r_lconst C (pc := 0) (v := 0) d7_load_0 (by decide) ?_
  refine r_lstore_n C (pc := 1) (ls' := [(3, .long 0), (0, .ref (ρ 7 0)), (1, .int x1), (2, .int x2)]) (Nat.le_of_ble_eq_true rfl) rfl d7_load_1 ?_
  refine r_iload_n C (pc := 2) 3 rfl d7_load_2 ?_
  refine r_iconst C (pc := 3) (v := 1) d7_load_3 (by decide) ?_
  refine r_isub C (pc := 4) d7_load_4 ?_
  refine r_topi (fun x5_1 ex5_1 => ?_)
  have hw := hw x5_1 ex5_1
  refine r_istore C (pc := 5) (ls' := [(5, .int x5_1), (3, .long 0), (0, .ref (ρ 7 0)), (1, .int x1), (2, .int x2)]) (Nat.le_of_ble_eq_true rfl) rfl d7_load_5 ?_
  refine r_sub (ls' := [(0, .ref (ρ 7 0)), (1, .int x1), (3, .long 0), (5, .int x5_1)]) [2, 3, 1, 0] rfl ?_
  obtain ⟨n, hw⟩ := hw
  exact nd7_load_7 C hr  n _ _ _ hw
set_option maxRecDepth 20000 in
theorem nd6_stepMemory_26 {p : Program} {l : Launch} {e : Env} {s : State} {m : MethodId} {args : Array Value} {below : List Frame} {meth : Method} {c : Code} {D : va_G} {ca : Nat → ClassId} {ρ : Nat → Nat → Nat} {a1 : Nat} {x2 : Int32} {x3 : Int32} {Q : Int32 → St → Prop} {x4 : Int32} {s0 : Int64} {S : St} (C : Cx true p l s m meth c R6 b6_stepMemory 10 D ca ρ) (hr : meth.sig.returnType = (some .int)) (ha1 : a1 < 14)  (hw : wp6_stepMemory_26 a1 x2 x3 Q x4 s0 S) : wm true p l e { frames := 3, cells := 0, slots := 0, locals := 61 } s m args below meth c D ca ρ 10 0 0 (qi true below args s D ca ρ 0 0 Q) 26 [(0, .ref (ρ 6 0)), (1, .ref (ρ 1 a1)), (2, .int x2), (3, .int x3), (4, .int x4)] [.long s0] S := by
  unfold wp6_stepMemory_26 at hw
  refine r_lstore C (pc := 26) (ls' := [(5, .long s0), (0, .ref (ρ 6 0)), (1, .ref (ρ 1 a1)), (2, .int x2), (3, .int x3), (4, .int x4)]) (Nat.le_of_ble_eq_true rfl) rfl d6_stepMemory_26 ?_
  refine r_aload_n C (pc := 28) 2 rfl d6_stepMemory_28 ?_
  refine r_callVi C (pc := 29) (fun sz => ct1_takeInt l D ca ρ sz C.2.2.2.2.2.2.1 ha1 hw) mf1_takeInt w6_135 rfl ha1 rfl rfl rfl rfl ⟨Nat.le_of_ble_eq_true rfl, Nat.le_of_ble_eq_true rfl⟩ rfl rfl (Nat.le_of_ble_eq_true rfl) ⟨Nat.zero_le _, Nat.zero_le _⟩ d6_stepMemory_29 (fun r1 S1 hw => ?_)
  refine r_i2l C (pc := 32) d6_stepMemory_32 ?_
  refine r_iload_n C (pc := 33) 4 rfl d6_stepMemory_33 ?_
  refine r_i2l C (pc := 34) d6_stepMemory_34 ?_
  refine r_ladd C (pc := 35) d6_stepMemory_35 ?_
  refine r_topl (fun x7_1 ex7_1 => ?_)
  have hw := hw x7_1 ex7_1
  refine r_lstore C (pc := 36) (ls' := [(7, .long x7_1), (5, .long s0), (0, .ref (ρ 6 0)), (1, .ref (ρ 1 a1)), (2, .int x2), (3, .int x3), (4, .int x4)]) (Nat.le_of_ble_eq_true rfl) rfl d6_stepMemory_36 ?_
  refine r_iload_n C (pc := 38) 4 rfl d6_stepMemory_38 ?_
  refine r_callSi C (pc := 39) (fun sz => ct6_sizeInMemory l D ca ρ sz C.2.2.2.2.2.2.1 hw) mf6_sizeInMemory w6_215 rfl rfl ⟨Nat.le_of_ble_eq_true rfl, Nat.le_of_ble_eq_true rfl⟩ rfl rfl (Nat.le_of_ble_eq_true rfl) ⟨Nat.zero_le _, Nat.zero_le _⟩ d6_stepMemory_39 (fun r2 S2 hw => ?_)
  refine r_istore C (pc := 42) (ls' := [(9, .int r2), (7, .long x7_1), (5, .long s0), (0, .ref (ρ 6 0)), (1, .ref (ρ 1 a1)), (2, .int x2), (3, .int x3), (4, .int x4)]) (Nat.le_of_ble_eq_true rfl) rfl d6_stepMemory_42 ?_
  refine r_aload_n C (pc := 44) 3 rfl d6_stepMemory_44 ?_
  refine g6_bytes C (pc := 45) (Nat.le_of_ble_eq_true rfl) w6_20 d6_stepMemory_45 ?_
  refine r_lload C (pc := 48) 1 rfl d6_stepMemory_48 ?_
  refine r_iload C (pc := 50) 0 rfl d6_stepMemory_50 ?_
  refine r_callVi C (pc := 52) (fun sz => ct7_holds l D ca ρ sz C.2.2.2.2.2.2.1 hw) mf7_holds w6_218 rfl (Nat.le_of_ble_eq_true rfl) rfl rfl rfl rfl ⟨Nat.le_of_ble_eq_true rfl, Nat.le_of_ble_eq_true rfl⟩ rfl rfl (Nat.le_of_ble_eq_true rfl) ⟨Nat.zero_le _, Nat.zero_le _⟩ d6_stepMemory_52 (fun r3 S3 hw => ?_)
  refine r_if_ne C (pc := 55) (tgt := 60) d6_stepMemory_55 (by decide) (fun c1 => ?_) (fun c1 => ?_)
  · have hw := hw.1 c1
    refine r_iload C (pc := 60) 7 rfl d6_stepMemory_60 ?_
    refine r_if_eq C (pc := 62) (tgt := 82) d6_stepMemory_62 (by decide) (fun c2 => ?_) (fun c2 => ?_)
    · have hw := hw.1 c2
      refine r_iload_n C (pc := 82) 5 rfl d6_stepMemory_82 ?_
      refine r_bipush C (pc := 83) (v := 23) d6_stepMemory_83 (by decide) ?_
      refine r_icmp_ne C (pc := 85) (tgt := 109) d6_stepMemory_85 (by decide) (fun c3 => ?_) (fun c3 => ?_)
      · have hw := hw.1 c3
        refine r_aload_n C (pc := 109) 4 rfl d6_stepMemory_109 ?_
        refine r_aload_n C (pc := 110) 3 rfl d6_stepMemory_110 ?_
        refine g6_bytes C (pc := 111) (Nat.le_of_ble_eq_true rfl) w6_20 d6_stepMemory_111 ?_
        refine r_lload C (pc := 114) 1 rfl d6_stepMemory_114 ?_
        refine r_l2i C (pc := 116) d6_stepMemory_116 ?_
        refine r_iload C (pc := 117) 0 rfl d6_stepMemory_117 ?_
        refine r_callVl C (pc := 119) (fun sz => ct7_load l D ca ρ sz C.2.2.2.2.2.2.1 hw) mf7_load w6_226 rfl (Nat.le_of_ble_eq_true rfl) rfl rfl rfl rfl ⟨Nat.le_of_ble_eq_true rfl, Nat.le_of_ble_eq_true rfl⟩ rfl rfl (Nat.le_of_ble_eq_true rfl) ⟨Nat.zero_le _, Nat.zero_le _⟩ d6_stepMemory_119 (fun r4 S4 hw => ?_)
        refine r_callVv C (pc := 122) (fun sz => ct1_putNumber l D ca ρ sz C.2.2.2.2.2.2.1 ha1 hw) mf1_putNumber w6_191 rfl ha1 rfl rfl rfl rfl ⟨Nat.le_of_ble_eq_true rfl, Nat.le_of_ble_eq_true rfl⟩ rfl rfl (Nat.le_of_ble_eq_true rfl) ⟨Nat.zero_le _, Nat.zero_le _⟩ d6_stepMemory_122 (fun S5 hw => ?_)
        refine r_iconst C (pc := 125) (v := 0) d6_stepMemory_125 (by decide) ?_
        exact r_iret C (pc := 126) hr d6_stepMemory_126 hw
      · have hw := hw.2 c3
        refine r_aload_n C (pc := 88) 4 rfl d6_stepMemory_88 ?_
        refine r_aload_n C (pc := 89) 3 rfl d6_stepMemory_89 ?_
        refine g6_bytes C (pc := 90) (Nat.le_of_ble_eq_true rfl) w6_20 d6_stepMemory_90 ?_
        refine r_lload C (pc := 93) 1 rfl d6_stepMemory_93 ?_
        refine r_l2i C (pc := 95) d6_stepMemory_95 ?_
        refine r_iload C (pc := 96) 0 rfl d6_stepMemory_96 ?_
        refine r_callVl C (pc := 98) (fun sz => ct7_load l D ca ρ sz C.2.2.2.2.2.2.1 hw) mf7_load w6_226 rfl (Nat.le_of_ble_eq_true rfl) rfl rfl rfl rfl ⟨Nat.le_of_ble_eq_true rfl, Nat.le_of_ble_eq_true rfl⟩ rfl rfl (Nat.le_of_ble_eq_true rfl) ⟨Nat.zero_le _, Nat.zero_le _⟩ d6_stepMemory_98 (fun r5 S6 hw => ?_)
        refine r_l2i C (pc := 101) d6_stepMemory_101 ?_
        refine r_i2l C (pc := 102) d6_stepMemory_102 ?_
        refine r_callVv C (pc := 103) (fun sz => ct1_putNumber l D ca ρ sz C.2.2.2.2.2.2.1 ha1 hw) mf1_putNumber w6_191 rfl ha1 rfl rfl rfl rfl ⟨Nat.le_of_ble_eq_true rfl, Nat.le_of_ble_eq_true rfl⟩ rfl rfl (Nat.le_of_ble_eq_true rfl) ⟨Nat.zero_le _, Nat.zero_le _⟩ d6_stepMemory_103 (fun S7 hw => ?_)
        refine r_goto C (pc := 106) (tgt := 125) d6_stepMemory_106 (by decide) ?_
        refine r_iconst C (pc := 125) (v := 0) d6_stepMemory_125 (by decide) ?_
        exact r_iret C (pc := 126) hr d6_stepMemory_126 hw
    · have hw := hw.2 c2
      refine r_aload_n C (pc := 65) 3 rfl d6_stepMemory_65 ?_
      refine g6_bytes C (pc := 66) (Nat.le_of_ble_eq_true rfl) w6_20 d6_stepMemory_66 ?_
      refine r_lload C (pc := 69) 1 rfl d6_stepMemory_69 ?_
      refine r_l2i C (pc := 71) d6_stepMemory_71 ?_
      refine r_iload C (pc := 72) 0 rfl d6_stepMemory_72 ?_
      refine r_lload C (pc := 74) 2 rfl d6_stepMemory_74 ?_
      refine r_callVv C (pc := 76) (fun sz => ct7_store l D ca ρ sz C.2.2.2.2.2.2.1 hw) mf7_store w6_222 rfl (Nat.le_of_ble_eq_true rfl) rfl rfl rfl rfl ⟨Nat.le_of_ble_eq_true rfl, Nat.le_of_ble_eq_true rfl⟩ rfl rfl (Nat.le_of_ble_eq_true rfl) ⟨Nat.zero_le _, Nat.zero_le _⟩ d6_stepMemory_76 (fun S8 hw => ?_)
      refine r_goto C (pc := 79) (tgt := 125) d6_stepMemory_79 (by decide) ?_
      refine r_iconst C (pc := 125) (v := 0) d6_stepMemory_125 (by decide) ?_
      exact r_iret C (pc := 126) hr d6_stepMemory_126 hw
  · have hw := hw.2 c1
    refine r_iconst C (pc := 58) (v := 3) d6_stepMemory_58 (by decide) ?_
    exact r_iret C (pc := 59) hr d6_stepMemory_59 hw
set_option maxRecDepth 20000 in
theorem nd6_stepMemory_11 {p : Program} {l : Launch} {e : Env} {s : State} {m : MethodId} {args : Array Value} {below : List Frame} {meth : Method} {c : Code} {D : va_G} {ca : Nat → ClassId} {ρ : Nat → Nat → Nat} {a1 : Nat} {x2 : Int32} {x3 : Int32} {Q : Int32 → St → Prop} {s0 : Int32} {S : St} (C : Cx true p l s m meth c R6 b6_stepMemory 10 D ca ρ) (hr : meth.sig.returnType = (some .int)) (ha1 : a1 < 14)  (hw : wp6_stepMemory_11 a1 x2 x3 Q s0 S) : wm true p l e { frames := 3, cells := 0, slots := 0, locals := 61 } s m args below meth c D ca ρ 10 0 0 (qi true below args s D ca ρ 0 0 Q) 11 [(0, .ref (ρ 6 0)), (1, .ref (ρ 1 a1)), (2, .int x2), (3, .int x3)] [.int s0] S := by
  unfold wp6_stepMemory_11 at hw
  refine r_istore C (pc := 11) (ls' := [(4, .int s0), (0, .ref (ρ 6 0)), (1, .ref (ρ 1 a1)), (2, .int x2), (3, .int x3)]) (Nat.le_of_ble_eq_true rfl) rfl d6_stepMemory_11 ?_
  refine r_iload C (pc := 13) 0 rfl d6_stepMemory_13 ?_
  refine r_if_eq C (pc := 15) (tgt := 25) d6_stepMemory_15 (by decide) (fun c1 => ?_) (fun c1 => ?_)
  · have hw := hw.1 c1
    refine r_lconst C (pc := 25) (v := 0) d6_stepMemory_25 (by decide) ?_
    refine r_sub (ls' := [(0, .ref (ρ 6 0)), (1, .ref (ρ 1 a1)), (2, .int x2), (3, .int x3), (4, .int s0)]) [1, 2, 3, 4, 0] rfl ?_
    exact nd6_stepMemory_26 C hr ha1 hw
  · have hw := hw.2 c1
    refine r_aload_n C (pc := 18) 2 rfl d6_stepMemory_18 ?_
    refine r_callVl C (pc := 19) (fun sz => ct1_takeNumber l D ca ρ sz C.2.2.2.2.2.2.1 ha1 hw) mf1_takeNumber w6_211 rfl ha1 rfl rfl rfl rfl ⟨Nat.le_of_ble_eq_true rfl, Nat.le_of_ble_eq_true rfl⟩ rfl rfl (Nat.le_of_ble_eq_true rfl) ⟨Nat.zero_le _, Nat.zero_le _⟩ d6_stepMemory_19 (fun r1 S1 hw => ?_)
    refine r_goto C (pc := 22) (tgt := 26) d6_stepMemory_22 (by decide) ?_
    refine r_sub (ls' := [(0, .ref (ρ 6 0)), (1, .ref (ρ 1 a1)), (2, .int x2), (3, .int x3), (4, .int s0)]) [1, 2, 3, 4, 0] rfl ?_
    exact nd6_stepMemory_26 C hr ha1 hw
set_option maxRecDepth 20000 in
theorem ct6_stepMemory (l : Launch) (D : va_G) (ca : Nat → ClassId) (ρ : Nat → Nat → Nat) (sz : Nat) {S : St} {a1 : Nat} {x2 : Int32} {x3 : Int32} {Q : Int32 → St → Prop} (hAp : Ap true ρ) (ha1 : a1 < 14) (hw : wp6_stepMemory S a1 x2 x3 Q) : Met l y6_stepMemory [Cond.code y6_stepMemory b6_stepMemory 10 (some .int)] { frames := 3, cells := 0, slots := 0, locals := 61 } (va_Pc [.ref (ρ 6 0), .ref (ρ 1 a1), .int x2, .int x3] (PreU true D ca ρ sz S)) (va_Qi Q (PostU true D ca ρ) (Ar true ρ sz)) 0 0 (Ar true ρ sz) := by
  refine met_of_wm (own := R6) (ls0 := [(0, .ref (ρ 6 0)), (1, .ref (ρ 1 a1)), (2, .int x2), (3, .int x3)]) rfl rfl hAp (Nat.le_of_ble_eq_true rfl) rfl fun p e s m args below meth c C hr hz => ?_
  subst hz
  unfold wp6_stepMemory at hw
  refine r_iload_n C (pc := 0) 2 rfl d6_stepMemory_0 ?_
  refine r_bipush C (pc := 1) (v := 26) d6_stepMemory_1 (by decide) ?_
  refine r_icmp_lt C (pc := 3) (tgt := 10) d6_stepMemory_3 (by decide) (fun c1 => ?_) (fun c1 => ?_)
  · have hw := hw.1 c1
    refine r_iconst C (pc := 10) (v := 0) d6_stepMemory_10 (by decide) ?_
    refine r_sub (ls' := [(0, .ref (ρ 6 0)), (1, .ref (ρ 1 a1)), (2, .int x2), (3, .int x3)]) [0, 1, 2, 3] rfl ?_
    exact nd6_stepMemory_11 C hr ha1 hw
  · have hw := hw.2 c1
    refine r_iconst C (pc := 6) (v := 1) d6_stepMemory_6 (by decide) ?_
    refine r_goto C (pc := 7) (tgt := 11) d6_stepMemory_7 (by decide) ?_
    refine r_sub (ls' := [(0, .ref (ρ 6 0)), (1, .ref (ρ 1 a1)), (2, .int x2), (3, .int x3)]) [0, 1, 2, 3] rfl ?_
    exact nd6_stepMemory_11 C hr ha1 hw
set_option maxRecDepth 20000 in
theorem ct6_ofInts (l : Launch) (D : va_G) (ca : Nat → ClassId) (ρ : Nat → Nat → Nat) (sz : Nat) {S : St} {x0 : Int32} {x1 : Int32} {x2 : Int32} {Q : Int32 → St → Prop} (hAp : Ap true ρ)  (hw : wp6_ofInts S x0 x1 x2 Q) : Met l y6_ofInts [Cond.code y6_ofInts b6_ofInts 3 (some .int)] { frames := 0, cells := 0, slots := 0, locals := 0 } (va_Pc [.int x0, .int x1, .int x2] (PreU true D ca ρ sz S)) (va_Qi Q (PostU true D ca ρ) (Ar true ρ sz)) 0 0 (Ar true ρ sz) := by
  refine met_of_wm (own := R6) (ls0 := [(0, .int x0), (1, .int x1), (2, .int x2)]) rfl rfl hAp (Nat.le_of_ble_eq_true rfl) rfl fun p e s m args below meth c C hr hz => ?_
  subst hz
  unfold wp6_ofInts at hw
  refine r_iload_n C (pc := 0) 0 rfl d6_ofInts_0 ?_
  refine r_tsw_in C (pc := 1) (tgt := 72) 30 d6_ofInts_1 ⟨by decide, by decide, rfl⟩ (by decide) (fun c1_0 => ?_) (fun c1_0 => ?_)
  · have hw := hw.1 c1_0
    refine r_iload_n C (pc := 72) 1 rfl d6_ofInts_72 ?_
    refine r_iload_n C (pc := 73) 2 rfl d6_ofInts_73 ?_
    refine r_iadd C (pc := 74) d6_ofInts_74 ?_
    exact r_iret C (pc := 75) hr d6_ofInts_75 hw
  · have hw := hw.2 c1_0
    refine r_tsw_in C (pc := 1) (tgt := 76) 31 d6_ofInts_1 ⟨by decide, by decide, rfl⟩ (by decide) (fun c1_1 => ?_) (fun c1_1 => ?_)
    · have hw := hw.1 c1_1
      refine r_iload_n C (pc := 76) 1 rfl d6_ofInts_76 ?_
      refine r_iload_n C (pc := 77) 2 rfl d6_ofInts_77 ?_
      refine r_isub C (pc := 78) d6_ofInts_78 ?_
      exact r_iret C (pc := 79) hr d6_ofInts_79 hw
    · have hw := hw.2 c1_1
      refine r_tsw_in C (pc := 1) (tgt := 80) 32 d6_ofInts_1 ⟨by decide, by decide, rfl⟩ (by decide) (fun c1_2 => ?_) (fun c1_2 => ?_)
      · have hw := hw.1 c1_2
        refine r_iload_n C (pc := 80) 1 rfl d6_ofInts_80 ?_
        refine r_iload_n C (pc := 81) 2 rfl d6_ofInts_81 ?_
        refine r_imul C (pc := 82) d6_ofInts_82 ?_
        exact r_iret C (pc := 83) hr d6_ofInts_83 hw
      · have hw := hw.2 c1_2
        refine r_tsw_in C (pc := 1) (tgt := 84) 35 d6_ofInts_1 ⟨by decide, by decide, rfl⟩ (by decide) (fun c1_3 => ?_) (fun c1_3 => ?_)
        · have hw := hw.1 c1_3
          refine r_iload_n C (pc := 84) 1 rfl d6_ofInts_84 ?_
          refine r_iload_n C (pc := 85) 2 rfl d6_ofInts_85 ?_
          refine r_iand C (pc := 86) d6_ofInts_86 ?_
          exact r_iret C (pc := 87) hr d6_ofInts_87 hw
        · have hw := hw.2 c1_3
          refine r_tsw_in C (pc := 1) (tgt := 88) 36 d6_ofInts_1 ⟨by decide, by decide, rfl⟩ (by decide) (fun c1_4 => ?_) (fun c1_4 => ?_)
          · have hw := hw.1 c1_4
            refine r_iload_n C (pc := 88) 1 rfl d6_ofInts_88 ?_
            refine r_iload_n C (pc := 89) 2 rfl d6_ofInts_89 ?_
            refine r_ior C (pc := 90) d6_ofInts_90 ?_
            exact r_iret C (pc := 91) hr d6_ofInts_91 hw
          · have hw := hw.2 c1_4
            refine r_tsw_in C (pc := 1) (tgt := 92) 37 d6_ofInts_1 ⟨by decide, by decide, rfl⟩ (by decide) (fun c1_5 => ?_) (fun c1_5 => ?_)
            · have hw := hw.1 c1_5
              refine r_iload_n C (pc := 92) 1 rfl d6_ofInts_92 ?_
              refine r_iload_n C (pc := 93) 2 rfl d6_ofInts_93 ?_
              refine r_ixor C (pc := 94) d6_ofInts_94 ?_
              exact r_iret C (pc := 95) hr d6_ofInts_95 hw
            · have hw := hw.2 c1_5
              refine r_tsw_in C (pc := 1) (tgt := 96) 38 d6_ofInts_1 ⟨by decide, by decide, rfl⟩ (by decide) (fun c1_6 => ?_) (fun c1_6 => ?_)
              · have hw := hw.1 c1_6
                refine r_iload_n C (pc := 96) 1 rfl d6_ofInts_96 ?_
                refine r_iload_n C (pc := 97) 2 rfl d6_ofInts_97 ?_
                refine r_ishl C (pc := 98) d6_ofInts_98 ?_
                exact r_iret C (pc := 99) hr d6_ofInts_99 hw
              · have hw := hw.2 c1_6
                refine r_tsw_in C (pc := 1) (tgt := 100) 39 d6_ofInts_1 ⟨by decide, by decide, rfl⟩ (by decide) (fun c1_7 => ?_) (fun c1_7 => ?_)
                · have hw := hw.1 c1_7
                  refine r_iload_n C (pc := 100) 1 rfl d6_ofInts_100 ?_
                  refine r_iload_n C (pc := 101) 2 rfl d6_ofInts_101 ?_
                  refine r_ishr C (pc := 102) d6_ofInts_102 ?_
                  exact r_iret C (pc := 103) hr d6_ofInts_103 hw
                · have hw := hw.2 c1_7
                  refine r_tsw_in C (pc := 1) (tgt := 104) 40 d6_ofInts_1 ⟨by decide, by decide, rfl⟩ (by decide) (fun c1_8 => ?_) (fun c1_8 => ?_)
                  · have hw := hw.1 c1_8
                    refine r_iload_n C (pc := 104) 1 rfl d6_ofInts_104 ?_
                    refine r_iload_n C (pc := 105) 2 rfl d6_ofInts_105 ?_
                    refine r_iushr C (pc := 106) d6_ofInts_106 ?_
                    exact r_iret C (pc := 107) hr d6_ofInts_107 hw
                  · have hw := hw.2 c1_8
                    refine r_tsw_in C (pc := 1) (tgt := 108) 41 d6_ofInts_1 ⟨by decide, by decide, rfl⟩ (by decide) (fun c1_9 => ?_) (fun c1_9 => ?_)
                    · have hw := hw.1 c1_9
                      refine r_iload_n C (pc := 108) 1 rfl d6_ofInts_108 ?_
                      refine r_iload_n C (pc := 109) 2 rfl d6_ofInts_109 ?_
                      refine r_icmp_ne C (pc := 110) (tgt := 117) d6_ofInts_110 (by decide) (fun c2 => ?_) (fun c2 => ?_)
                      · have hw := hw.1 c2
                        refine r_iconst C (pc := 117) (v := 0) d6_ofInts_117 (by decide) ?_
                        exact r_iret C (pc := 118) hr d6_ofInts_118 hw
                      · have hw := hw.2 c2
                        refine r_iconst C (pc := 113) (v := 1) d6_ofInts_113 (by decide) ?_
                        refine r_goto C (pc := 114) (tgt := 118) d6_ofInts_114 (by decide) ?_
                        exact r_iret C (pc := 118) hr d6_ofInts_118 hw
                    · have hw := hw.2 c1_9
                      refine r_tsw_in C (pc := 1) (tgt := 119) 42 d6_ofInts_1 ⟨by decide, by decide, rfl⟩ (by decide) (fun c1_10 => ?_) (fun c1_10 => ?_)
                      · have hw := hw.1 c1_10
                        refine r_iload_n C (pc := 119) 1 rfl d6_ofInts_119 ?_
                        refine r_iload_n C (pc := 120) 2 rfl d6_ofInts_120 ?_
                        refine r_icmp_eq C (pc := 121) (tgt := 128) d6_ofInts_121 (by decide) (fun c3 => ?_) (fun c3 => ?_)
                        · have hw := hw.1 c3
                          refine r_iconst C (pc := 128) (v := 0) d6_ofInts_128 (by decide) ?_
                          exact r_iret C (pc := 129) hr d6_ofInts_129 hw
                        · have hw := hw.2 c3
                          refine r_iconst C (pc := 124) (v := 1) d6_ofInts_124 (by decide) ?_
                          refine r_goto C (pc := 125) (tgt := 129) d6_ofInts_125 (by decide) ?_
                          exact r_iret C (pc := 129) hr d6_ofInts_129 hw
                      · have hw := hw.2 c1_10
                        refine r_tsw_in C (pc := 1) (tgt := 130) 43 d6_ofInts_1 ⟨by decide, by decide, rfl⟩ (by decide) (fun c1_11 => ?_) (fun c1_11 => ?_)
                        · have hw := hw.1 c1_11
                          refine r_iload_n C (pc := 130) 1 rfl d6_ofInts_130 ?_
                          refine r_iload_n C (pc := 131) 2 rfl d6_ofInts_131 ?_
                          refine r_icmp_ge C (pc := 132) (tgt := 139) d6_ofInts_132 (by decide) (fun c4 => ?_) (fun c4 => ?_)
                          · have hw := hw.1 c4
                            refine r_iconst C (pc := 139) (v := 0) d6_ofInts_139 (by decide) ?_
                            exact r_iret C (pc := 140) hr d6_ofInts_140 hw
                          · have hw := hw.2 c4
                            refine r_iconst C (pc := 135) (v := 1) d6_ofInts_135 (by decide) ?_
                            refine r_goto C (pc := 136) (tgt := 140) d6_ofInts_136 (by decide) ?_
                            exact r_iret C (pc := 140) hr d6_ofInts_140 hw
                        · have hw := hw.2 c1_11
                          refine r_tsw_out C (pc := 1) (tgt := 141) [30, 31, 32, 35, 36, 37, 38, 39, 40, 41, 42, 43] d6_ofInts_1 (by intro v hv; simp only [List.mem_cons, List.not_mem_nil, or_false] at hv; rcases hv with rfl | rfl | rfl | rfl | rfl | rfl | rfl | rfl | rfl | rfl | rfl | rfl <;> assumption) (by decide +kernel) (by decide) ?_
                          refine r_iload_n C (pc := 141) 1 rfl d6_ofInts_141 ?_
                          refine r_i2l C (pc := 142) d6_ofInts_142 ?_
                          refine r_ldc2 C (pc := 143) w6_238 d6_ofInts_143 ?_
                          refine r_land C (pc := 146) d6_ofInts_146 ?_
                          refine r_iload_n C (pc := 147) 2 rfl d6_ofInts_147 ?_
                          refine r_i2l C (pc := 148) d6_ofInts_148 ?_
                          refine r_ldc2 C (pc := 149) w6_238 d6_ofInts_149 ?_
                          refine r_land C (pc := 152) d6_ofInts_152 ?_
                          refine r_lcmp C (pc := 153) d6_ofInts_153 ?_
                          refine r_if_ge C (pc := 154) (tgt := 161) d6_ofInts_154 (by decide) (fun c5 => ?_) (fun c5 => ?_)
                          · have hw := hw.1 c5
                            refine r_iconst C (pc := 161) (v := 0) d6_ofInts_161 (by decide) ?_
                            exact r_iret C (pc := 162) hr d6_ofInts_162 hw
                          · have hw := hw.2 c5
                            refine r_iconst C (pc := 157) (v := 1) d6_ofInts_157 (by decide) ?_
                            refine r_goto C (pc := 158) (tgt := 162) d6_ofInts_158 (by decide) ?_
                            exact r_iret C (pc := 162) hr d6_ofInts_162 hw
set_option maxRecDepth 20000 in
theorem nd6_stepInts_67 {p : Program} {l : Launch} {e : Env} {s : State} {m : MethodId} {args : Array Value} {below : List Frame} {meth : Method} {c : Code} {D : va_G} {ca : Nat → ClassId} {ρ : Nat → Nat → Nat} {a0 : Nat} {x1 : Int32} {Q : Int32 → St → Prop} {t0 : Nat} {s1 : Int64} {S : St} (C : Cx true p l s m meth c R6 b6_stepInts 4 D ca ρ) (hr : meth.sig.returnType = (some .int)) (ha0 : a0 < 14) (ht0 : t0 < 14) (hw : wp6_stepInts_67 a0 x1 Q t0 s1 S) : wm true p l e { frames := 3, cells := 0, slots := 0, locals := 61 } s m args below meth c D ca ρ 4 0 0 (qi true below args s D ca ρ 0 0 Q) 67 [] [.long s1, .ref (ρ 1 t0)] S := by
  unfold wp6_stepInts_67 at hw
  refine r_callVv C (pc := 67) (fun sz => ct1_putNumber l D ca ρ sz C.2.2.2.2.2.2.1 ht0 hw) mf1_putNumber w6_191 rfl ht0 rfl rfl rfl rfl ⟨Nat.le_of_ble_eq_true rfl, Nat.le_of_ble_eq_true rfl⟩ rfl rfl (Nat.le_of_ble_eq_true rfl) ⟨Nat.zero_le _, Nat.zero_le _⟩ d6_stepInts_67 (fun S1 hw => ?_)
  refine r_goto C (pc := 70) (tgt := 84) d6_stepInts_70 (by decide) ?_
  refine r_iconst C (pc := 84) (v := 0) d6_stepInts_84 (by decide) ?_
  exact r_iret C (pc := 85) hr d6_stepInts_85 hw
set_option maxRecDepth 20000 in
theorem nd6_stepInts_43 {p : Program} {l : Launch} {e : Env} {s : State} {m : MethodId} {args : Array Value} {below : List Frame} {meth : Method} {c : Code} {D : va_G} {ca : Nat → ClassId} {ρ : Nat → Nat → Nat} {a0 : Nat} {x1 : Int32} {Q : Int32 → St → Prop} {x2 : Int32} {x3 : Int32} {S : St} (C : Cx true p l s m meth c R6 b6_stepInts 4 D ca ρ) (hr : meth.sig.returnType = (some .int)) (ha0 : a0 < 14)  (hw : wp6_stepInts_43 a0 x1 Q x2 x3 S) : wm true p l e { frames := 3, cells := 0, slots := 0, locals := 61 } s m args below meth c D ca ρ 4 0 0 (qi true below args s D ca ρ 0 0 Q) 43 [(0, .ref (ρ 1 a0)), (1, .int x1), (2, .int x2), (3, .int x3)] [] S := by
  unfold wp6_stepInts_43 at hw
  refine r_iload_n C (pc := 43) 2 rfl d6_stepInts_43 ?_
  refine r_if_ne C (pc := 44) (tgt := 49) d6_stepInts_44 (by decide) (fun c1 => ?_) (fun c1 => ?_)
  · have hw := hw.1 c1
    refine r_aload_n C (pc := 49) 0 rfl d6_stepInts_49 ?_
    refine r_iload_n C (pc := 50) 1 rfl d6_stepInts_50 ?_
    refine r_bipush C (pc := 51) (v := 33) d6_stepInts_51 (by decide) ?_
    refine r_icmp_ne C (pc := 53) (tgt := 63) d6_stepInts_53 (by decide) (fun c2 => ?_) (fun c2 => ?_)
    · have hw := hw.1 c2
      refine r_iload_n C (pc := 63) 3 rfl d6_stepInts_63 ?_
      refine r_iload_n C (pc := 64) 2 rfl d6_stepInts_64 ?_
      have h0 := hw.1
      have hw := hw.2
      refine r_irem C (pc := 65) d6_stepInts_65 h0 ?_
      refine r_i2l C (pc := 66) d6_stepInts_66 ?_
      refine r_sub (ls' := []) [] rfl ?_
      exact nd6_stepInts_67 C hr ha0 ha0 hw
    · have hw := hw.2 c2
      refine r_iload_n C (pc := 56) 3 rfl d6_stepInts_56 ?_
      refine r_iload_n C (pc := 57) 2 rfl d6_stepInts_57 ?_
      have h0 := hw.1
      have hw := hw.2
      refine r_idiv C (pc := 58) d6_stepInts_58 h0 ?_
      refine r_i2l C (pc := 59) d6_stepInts_59 ?_
      refine r_goto C (pc := 60) (tgt := 67) d6_stepInts_60 (by decide) ?_
      refine r_sub (ls' := []) [] rfl ?_
      exact nd6_stepInts_67 C hr ha0 ha0 hw
  · have hw := hw.2 c1
    refine r_iconst C (pc := 47) (v := 2) d6_stepInts_47 (by decide) ?_
    exact r_iret C (pc := 48) hr d6_stepInts_48 hw
set_option maxRecDepth 20000 in
theorem nd6_stepInts_21 {p : Program} {l : Launch} {e : Env} {s : State} {m : MethodId} {args : Array Value} {below : List Frame} {meth : Method} {c : Code} {D : va_G} {ca : Nat → ClassId} {ρ : Nat → Nat → Nat} {a0 : Nat} {x1 : Int32} {Q : Int32 → St → Prop} {t0 : Nat} {s1 : Int32} {S : St} (C : Cx true p l s m meth c R6 b6_stepInts 4 D ca ρ) (hr : meth.sig.returnType = (some .int)) (ha0 : a0 < 14) (ht0 : t0 < 14) (hw : wp6_stepInts_21 a0 x1 Q t0 s1 S) : wm true p l e { frames := 3, cells := 0, slots := 0, locals := 61 } s m args below meth c D ca ρ 4 0 0 (qi true below args s D ca ρ 0 0 Q) 21 [] [.int s1, .ref (ρ 1 t0)] S := by
  unfold wp6_stepInts_21 at hw
  refine r_callVv C (pc := 21) (fun sz => ct1_putTruth l D ca ρ sz C.2.2.2.2.2.2.1 ht0 hw) mf1_putTruth w6_230 rfl ht0 rfl rfl rfl rfl ⟨Nat.le_of_ble_eq_true rfl, Nat.le_of_ble_eq_true rfl⟩ rfl rfl (Nat.le_of_ble_eq_true rfl) ⟨Nat.zero_le _, Nat.zero_le _⟩ d6_stepInts_21 (fun S1 hw => ?_)
  refine r_iconst C (pc := 24) (v := 0) d6_stepInts_24 (by decide) ?_
  exact r_iret C (pc := 25) hr d6_stepInts_25 hw
set_option maxRecDepth 20000 in
theorem ct6_stepInts (l : Launch) (D : va_G) (ca : Nat → ClassId) (ρ : Nat → Nat → Nat) (sz : Nat) {S : St} {a0 : Nat} {x1 : Int32} {Q : Int32 → St → Prop} (hAp : Ap true ρ) (ha0 : a0 < 14) (hw : wp6_stepInts S a0 x1 Q) : Met l y6_stepInts [Cond.code y6_stepInts b6_stepInts 4 (some .int)] { frames := 3, cells := 0, slots := 0, locals := 61 } (va_Pc [.ref (ρ 1 a0), .int x1] (PreU true D ca ρ sz S)) (va_Qi Q (PostU true D ca ρ) (Ar true ρ sz)) 0 0 (Ar true ρ sz) := by
  refine met_of_wm (own := R6) (ls0 := [(0, .ref (ρ 1 a0)), (1, .int x1)]) rfl rfl hAp (Nat.le_of_ble_eq_true rfl) rfl fun p e s m args below meth c C hr hz => ?_
  subst hz
  unfold wp6_stepInts at hw
  refine r_aload_n C (pc := 0) 0 rfl d6_stepInts_0 ?_
  refine r_callVi C (pc := 1) (fun sz => ct1_takeInt l D ca ρ sz C.2.2.2.2.2.2.1 ha0 hw) mf1_takeInt w6_135 rfl ha0 rfl rfl rfl rfl ⟨Nat.le_of_ble_eq_true rfl, Nat.le_of_ble_eq_true rfl⟩ rfl rfl (Nat.le_of_ble_eq_true rfl) ⟨Nat.zero_le _, Nat.zero_le _⟩ d6_stepInts_1 (fun r1 S1 hw => ?_)
  refine r_istore_n C (pc := 4) (ls' := [(2, .int r1), (0, .ref (ρ 1 a0)), (1, .int x1)]) (Nat.le_of_ble_eq_true rfl) rfl d6_stepInts_4 ?_
  refine r_iload_n C (pc := 5) 2 rfl d6_stepInts_5 ?_
  refine r_bipush C (pc := 6) (v := 45) d6_stepInts_6 (by decide) ?_
  refine r_icmp_ne C (pc := 8) (tgt := 26) d6_stepInts_8 (by decide) (fun c1 => ?_) (fun c1 => ?_)
  · have hw := hw.1 c1
    refine r_aload_n C (pc := 26) 1 rfl d6_stepInts_26 ?_
    refine r_callVi C (pc := 27) (fun sz => ct1_takeInt l D ca ρ sz C.2.2.2.2.2.2.1 ha0 hw) mf1_takeInt w6_135 rfl ha0 rfl rfl rfl rfl ⟨Nat.le_of_ble_eq_true rfl, Nat.le_of_ble_eq_true rfl⟩ rfl rfl (Nat.le_of_ble_eq_true rfl) ⟨Nat.zero_le _, Nat.zero_le _⟩ d6_stepInts_27 (fun r2 S2 hw => ?_)
    refine r_istore_n C (pc := 30) (ls' := [(3, .int r2), (2, .int r1), (0, .ref (ρ 1 a0)), (1, .int x1)]) (Nat.le_of_ble_eq_true rfl) rfl d6_stepInts_30 ?_
    refine r_iload_n C (pc := 31) 3 rfl d6_stepInts_31 ?_
    refine r_bipush C (pc := 32) (v := 33) d6_stepInts_32 (by decide) ?_
    refine r_icmp_eq C (pc := 34) (tgt := 43) d6_stepInts_34 (by decide) (fun c2 => ?_) (fun c2 => ?_)
    · have hw := hw.1 c2
      refine r_sub (ls' := [(0, .ref (ρ 1 a0)), (1, .int x1), (2, .int r1), (3, .int r2)]) [2, 3, 1, 0] rfl ?_
      exact nd6_stepInts_43 C hr ha0 hw
    · have hw := hw.2 c2
      refine r_iload_n C (pc := 37) 3 rfl d6_stepInts_37 ?_
      refine r_bipush C (pc := 38) (v := 34) d6_stepInts_38 (by decide) ?_
      refine r_icmp_ne C (pc := 40) (tgt := 73) d6_stepInts_40 (by decide) (fun c3 => ?_) (fun c3 => ?_)
      · have hw := hw.1 c3
        refine r_aload_n C (pc := 73) 2 rfl d6_stepInts_73 ?_
        refine r_iload_n C (pc := 74) 3 rfl d6_stepInts_74 ?_
        refine r_iload_n C (pc := 75) 0 rfl d6_stepInts_75 ?_
        refine r_iload_n C (pc := 76) 1 rfl d6_stepInts_76 ?_
        refine r_callSi C (pc := 77) (fun sz => ct6_ofInts l D ca ρ sz C.2.2.2.2.2.2.1 hw) mf6_ofInts w6_234 rfl rfl ⟨Nat.le_of_ble_eq_true rfl, Nat.le_of_ble_eq_true rfl⟩ rfl rfl (Nat.le_of_ble_eq_true rfl) ⟨Nat.zero_le _, Nat.zero_le _⟩ d6_stepInts_77 (fun r3 S3 hw => ?_)
        refine r_i2l C (pc := 80) d6_stepInts_80 ?_
        refine r_callVv C (pc := 81) (fun sz => ct1_putNumber l D ca ρ sz C.2.2.2.2.2.2.1 ha0 hw) mf1_putNumber w6_191 rfl ha0 rfl rfl rfl rfl ⟨Nat.le_of_ble_eq_true rfl, Nat.le_of_ble_eq_true rfl⟩ rfl rfl (Nat.le_of_ble_eq_true rfl) ⟨Nat.zero_le _, Nat.zero_le _⟩ d6_stepInts_81 (fun S4 hw => ?_)
        refine r_iconst C (pc := 84) (v := 0) d6_stepInts_84 (by decide) ?_
        exact r_iret C (pc := 85) hr d6_stepInts_85 hw
      · have hw := hw.2 c3
        refine r_sub (ls' := [(0, .ref (ρ 1 a0)), (1, .int x1), (2, .int r1), (3, .int r2)]) [2, 3, 1, 0] rfl ?_
        exact nd6_stepInts_43 C hr ha0 hw
  · have hw := hw.2 c1
    refine r_aload_n C (pc := 11) 1 rfl d6_stepInts_11 ?_
    refine r_iload_n C (pc := 12) 0 rfl d6_stepInts_12 ?_
    refine r_if_ne C (pc := 13) (tgt := 20) d6_stepInts_13 (by decide) (fun c4 => ?_) (fun c4 => ?_)
    · have hw := hw.1 c4
      refine r_iconst C (pc := 20) (v := 0) d6_stepInts_20 (by decide) ?_
      refine r_sub (ls' := []) [] rfl ?_
      exact nd6_stepInts_21 C hr ha0 ha0 hw
    · have hw := hw.2 c4
      refine r_iconst C (pc := 16) (v := 1) d6_stepInts_16 (by decide) ?_
      refine r_goto C (pc := 17) (tgt := 21) d6_stepInts_17 (by decide) ?_
      refine r_sub (ls' := []) [] rfl ?_
      exact nd6_stepInts_21 C hr ha0 ha0 hw
set_option maxRecDepth 20000 in
theorem ct6_ofLongs (l : Launch) (D : va_G) (ca : Nat → ClassId) (ρ : Nat → Nat → Nat) (sz : Nat) {S : St} {x0 : Int32} {x1 : Int64} {x3 : Int64} {Q : Int64 → St → Prop} (hAp : Ap true ρ)  (hw : wp6_ofLongs S x0 x1 x3 Q) : Met l y6_ofLongs [Cond.code y6_ofLongs b6_ofLongs 5 (some .long)] { frames := 0, cells := 0, slots := 0, locals := 0 } (va_Pc [.int x0, .long x1, .long x3] (PreU true D ca ρ sz S)) (va_Ql Q (PostU true D ca ρ) (Ar true ρ sz)) 0 0 (Ar true ρ sz) := by
  refine met_of_wm (own := R6) (ls0 := [(0, .int x0), (1, .long x1), (3, .long x3)]) rfl rfl hAp (Nat.le_of_ble_eq_true rfl) rfl fun p e s m args below meth c C hr hz => ?_
  subst hz
  unfold wp6_ofLongs at hw
  refine r_iload_n C (pc := 0) 0 rfl d6_ofLongs_0 ?_
  refine r_tsw_in C (pc := 1) (tgt := 68) 50 d6_ofLongs_1 ⟨by decide, by decide, rfl⟩ (by decide) (fun c1_0 => ?_) (fun c1_0 => ?_)
  · have hw := hw.1 c1_0
    refine r_lload_n C (pc := 68) 1 rfl d6_ofLongs_68 ?_
    refine r_lload_n C (pc := 69) 2 rfl d6_ofLongs_69 ?_
    refine r_ladd C (pc := 70) d6_ofLongs_70 ?_
    exact r_lret C (pc := 71) hr d6_ofLongs_71 hw
  · have hw := hw.2 c1_0
    refine r_tsw_in C (pc := 1) (tgt := 72) 51 d6_ofLongs_1 ⟨by decide, by decide, rfl⟩ (by decide) (fun c1_1 => ?_) (fun c1_1 => ?_)
    · have hw := hw.1 c1_1
      refine r_lload_n C (pc := 72) 1 rfl d6_ofLongs_72 ?_
      refine r_lload_n C (pc := 73) 2 rfl d6_ofLongs_73 ?_
      refine r_lsub C (pc := 74) d6_ofLongs_74 ?_
      exact r_lret C (pc := 75) hr d6_ofLongs_75 hw
    · have hw := hw.2 c1_1
      refine r_tsw_in C (pc := 1) (tgt := 76) 52 d6_ofLongs_1 ⟨by decide, by decide, rfl⟩ (by decide) (fun c1_2 => ?_) (fun c1_2 => ?_)
      · have hw := hw.1 c1_2
        refine r_lload_n C (pc := 76) 1 rfl d6_ofLongs_76 ?_
        refine r_lload_n C (pc := 77) 2 rfl d6_ofLongs_77 ?_
        refine r_lmul C (pc := 78) d6_ofLongs_78 ?_
        exact r_lret C (pc := 79) hr d6_ofLongs_79 hw
      · have hw := hw.2 c1_2
        refine r_tsw_in C (pc := 1) (tgt := 80) 55 d6_ofLongs_1 ⟨by decide, by decide, rfl⟩ (by decide) (fun c1_3 => ?_) (fun c1_3 => ?_)
        · have hw := hw.1 c1_3
          refine r_lload_n C (pc := 80) 1 rfl d6_ofLongs_80 ?_
          refine r_lload_n C (pc := 81) 2 rfl d6_ofLongs_81 ?_
          refine r_land C (pc := 82) d6_ofLongs_82 ?_
          exact r_lret C (pc := 83) hr d6_ofLongs_83 hw
        · have hw := hw.2 c1_3
          refine r_tsw_in C (pc := 1) (tgt := 84) 56 d6_ofLongs_1 ⟨by decide, by decide, rfl⟩ (by decide) (fun c1_4 => ?_) (fun c1_4 => ?_)
          · have hw := hw.1 c1_4
            refine r_lload_n C (pc := 84) 1 rfl d6_ofLongs_84 ?_
            refine r_lload_n C (pc := 85) 2 rfl d6_ofLongs_85 ?_
            refine r_lor C (pc := 86) d6_ofLongs_86 ?_
            exact r_lret C (pc := 87) hr d6_ofLongs_87 hw
          · have hw := hw.2 c1_4
            refine r_tsw_in C (pc := 1) (tgt := 88) 57 d6_ofLongs_1 ⟨by decide, by decide, rfl⟩ (by decide) (fun c1_5 => ?_) (fun c1_5 => ?_)
            · have hw := hw.1 c1_5
              refine r_lload_n C (pc := 88) 1 rfl d6_ofLongs_88 ?_
              refine r_lload_n C (pc := 89) 2 rfl d6_ofLongs_89 ?_
              refine r_lxor C (pc := 90) d6_ofLongs_90 ?_
              exact r_lret C (pc := 91) hr d6_ofLongs_91 hw
            · have hw := hw.2 c1_5
              refine r_tsw_in C (pc := 1) (tgt := 92) 58 d6_ofLongs_1 ⟨by decide, by decide, rfl⟩ (by decide) (fun c1_6 => ?_) (fun c1_6 => ?_)
              · have hw := hw.1 c1_6
                refine r_lload_n C (pc := 92) 1 rfl d6_ofLongs_92 ?_
                refine r_lload_n C (pc := 93) 2 rfl d6_ofLongs_93 ?_
                refine r_l2i C (pc := 94) d6_ofLongs_94 ?_
                refine r_lshl C (pc := 95) d6_ofLongs_95 ?_
                exact r_lret C (pc := 96) hr d6_ofLongs_96 hw
              · have hw := hw.2 c1_6
                refine r_tsw_in C (pc := 1) (tgt := 97) 59 d6_ofLongs_1 ⟨by decide, by decide, rfl⟩ (by decide) (fun c1_7 => ?_) (fun c1_7 => ?_)
                · have hw := hw.1 c1_7
                  refine r_lload_n C (pc := 97) 1 rfl d6_ofLongs_97 ?_
                  refine r_lload_n C (pc := 98) 2 rfl d6_ofLongs_98 ?_
                  refine r_l2i C (pc := 99) d6_ofLongs_99 ?_
                  refine r_lshr C (pc := 100) d6_ofLongs_100 ?_
                  exact r_lret C (pc := 101) hr d6_ofLongs_101 hw
                · have hw := hw.2 c1_7
                  refine r_tsw_in C (pc := 1) (tgt := 102) 60 d6_ofLongs_1 ⟨by decide, by decide, rfl⟩ (by decide) (fun c1_8 => ?_) (fun c1_8 => ?_)
                  · have hw := hw.1 c1_8
                    refine r_lload_n C (pc := 102) 1 rfl d6_ofLongs_102 ?_
                    refine r_lload_n C (pc := 103) 2 rfl d6_ofLongs_103 ?_
                    refine r_l2i C (pc := 104) d6_ofLongs_104 ?_
                    refine r_lushr C (pc := 105) d6_ofLongs_105 ?_
                    exact r_lret C (pc := 106) hr d6_ofLongs_106 hw
                  · have hw := hw.2 c1_8
                    refine r_tsw_in C (pc := 1) (tgt := 107) 61 d6_ofLongs_1 ⟨by decide, by decide, rfl⟩ (by decide) (fun c1_9 => ?_) (fun c1_9 => ?_)
                    · have hw := hw.1 c1_9
                      refine r_lload_n C (pc := 107) 1 rfl d6_ofLongs_107 ?_
                      refine r_lload_n C (pc := 108) 2 rfl d6_ofLongs_108 ?_
                      refine r_lcmp C (pc := 109) d6_ofLongs_109 ?_
                      refine r_if_ne C (pc := 110) (tgt := 117) d6_ofLongs_110 (by decide) (fun c2 => ?_) (fun c2 => ?_)
                      · have hw := hw.1 c2
                        refine r_lconst C (pc := 117) (v := 0) d6_ofLongs_117 (by decide) ?_
                        exact r_lret C (pc := 118) hr d6_ofLongs_118 hw
                      · have hw := hw.2 c2
                        refine r_lconst C (pc := 113) (v := 1) d6_ofLongs_113 (by decide) ?_
                        refine r_goto C (pc := 114) (tgt := 118) d6_ofLongs_114 (by decide) ?_
                        exact r_lret C (pc := 118) hr d6_ofLongs_118 hw
                    · have hw := hw.2 c1_9
                      refine r_tsw_in C (pc := 1) (tgt := 119) 62 d6_ofLongs_1 ⟨by decide, by decide, rfl⟩ (by decide) (fun c1_10 => ?_) (fun c1_10 => ?_)
                      · have hw := hw.1 c1_10
                        refine r_lload_n C (pc := 119) 1 rfl d6_ofLongs_119 ?_
                        refine r_lload_n C (pc := 120) 2 rfl d6_ofLongs_120 ?_
                        refine r_lcmp C (pc := 121) d6_ofLongs_121 ?_
                        refine r_if_eq C (pc := 122) (tgt := 129) d6_ofLongs_122 (by decide) (fun c3 => ?_) (fun c3 => ?_)
                        · have hw := hw.1 c3
                          refine r_lconst C (pc := 129) (v := 0) d6_ofLongs_129 (by decide) ?_
                          exact r_lret C (pc := 130) hr d6_ofLongs_130 hw
                        · have hw := hw.2 c3
                          refine r_lconst C (pc := 125) (v := 1) d6_ofLongs_125 (by decide) ?_
                          refine r_goto C (pc := 126) (tgt := 130) d6_ofLongs_126 (by decide) ?_
                          exact r_lret C (pc := 130) hr d6_ofLongs_130 hw
                      · have hw := hw.2 c1_10
                        refine r_tsw_out C (pc := 1) (tgt := 131) [50, 51, 52, 55, 56, 57, 58, 59, 60, 61, 62] d6_ofLongs_1 (by intro v hv; simp only [List.mem_cons, List.not_mem_nil, or_false] at hv; rcases hv with rfl | rfl | rfl | rfl | rfl | rfl | rfl | rfl | rfl | rfl | rfl <;> assumption) (by decide +kernel) (by decide) ?_
                        refine r_lload_n C (pc := 131) 1 rfl d6_ofLongs_131 ?_
                        refine r_lload_n C (pc := 132) 2 rfl d6_ofLongs_132 ?_
                        refine r_lcmp C (pc := 133) d6_ofLongs_133 ?_
                        refine r_if_ge C (pc := 134) (tgt := 141) d6_ofLongs_134 (by decide) (fun c4 => ?_) (fun c4 => ?_)
                        · have hw := hw.1 c4
                          refine r_lconst C (pc := 141) (v := 0) d6_ofLongs_141 (by decide) ?_
                          exact r_lret C (pc := 142) hr d6_ofLongs_142 hw
                        · have hw := hw.2 c4
                          refine r_lconst C (pc := 137) (v := 1) d6_ofLongs_137 (by decide) ?_
                          refine r_goto C (pc := 138) (tgt := 142) d6_ofLongs_138 (by decide) ?_
                          exact r_lret C (pc := 142) hr d6_ofLongs_142 hw
set_option maxRecDepth 20000 in
theorem nd6_stepLongs_72 {p : Program} {l : Launch} {e : Env} {s : State} {m : MethodId} {args : Array Value} {below : List Frame} {meth : Method} {c : Code} {D : va_G} {ca : Nat → ClassId} {ρ : Nat → Nat → Nat} {a0 : Nat} {x1 : Int32} {Q : Int32 → St → Prop} {t0 : Nat} {s1 : Int64} {S : St} (C : Cx true p l s m meth c R6 b6_stepLongs 6 D ca ρ) (hr : meth.sig.returnType = (some .int)) (ha0 : a0 < 14) (ht0 : t0 < 14) (hw : wp6_stepLongs_72 a0 x1 Q t0 s1 S) : wm true p l e { frames := 2, cells := 0, slots := 0, locals := 46 } s m args below meth c D ca ρ 6 0 0 (qi true below args s D ca ρ 0 0 Q) 72 [] [.long s1, .ref (ρ 1 t0)] S := by
  unfold wp6_stepLongs_72 at hw
  refine r_callVv C (pc := 72) (fun sz => ct1_putNumber l D ca ρ sz C.2.2.2.2.2.2.1 ht0 hw) mf1_putNumber w6_191 rfl ht0 rfl rfl rfl rfl ⟨Nat.le_of_ble_eq_true rfl, Nat.le_of_ble_eq_true rfl⟩ rfl rfl (Nat.le_of_ble_eq_true rfl) ⟨Nat.zero_le _, Nat.zero_le _⟩ d6_stepLongs_72 (fun S1 hw => ?_)
  refine r_goto C (pc := 75) (tgt := 89) d6_stepLongs_75 (by decide) ?_
  refine r_iconst C (pc := 89) (v := 0) d6_stepLongs_89 (by decide) ?_
  exact r_iret C (pc := 90) hr d6_stepLongs_90 hw
set_option maxRecDepth 20000 in
theorem nd6_stepLongs_46 {p : Program} {l : Launch} {e : Env} {s : State} {m : MethodId} {args : Array Value} {below : List Frame} {meth : Method} {c : Code} {D : va_G} {ca : Nat → ClassId} {ρ : Nat → Nat → Nat} {a0 : Nat} {x1 : Int32} {Q : Int32 → St → Prop} {x2 : Int64} {x4 : Int64} {S : St} (C : Cx true p l s m meth c R6 b6_stepLongs 6 D ca ρ) (hr : meth.sig.returnType = (some .int)) (ha0 : a0 < 14)  (hw : wp6_stepLongs_46 a0 x1 Q x2 x4 S) : wm true p l e { frames := 2, cells := 0, slots := 0, locals := 46 } s m args below meth c D ca ρ 6 0 0 (qi true below args s D ca ρ 0 0 Q) 46 [(0, .ref (ρ 1 a0)), (1, .int x1), (2, .long x2), (4, .long x4)] [] S := by
  unfold wp6_stepLongs_46 at hw
  refine r_lload_n C (pc := 46) 2 rfl d6_stepLongs_46 ?_
  refine r_lconst C (pc := 47) (v := 0) d6_stepLongs_47 (by decide) ?_
  refine r_lcmp C (pc := 48) d6_stepLongs_48 ?_
  refine r_if_ne C (pc := 49) (tgt := 54) d6_stepLongs_49 (by decide) (fun c1 => ?_) (fun c1 => ?_)
  · have hw := hw.1 c1
    refine r_aload_n C (pc := 54) 0 rfl d6_stepLongs_54 ?_
    refine r_iload_n C (pc := 55) 1 rfl d6_stepLongs_55 ?_
    refine r_bipush C (pc := 56) (v := 53) d6_stepLongs_56 (by decide) ?_
    refine r_icmp_ne C (pc := 58) (tgt := 68) d6_stepLongs_58 (by decide) (fun c2 => ?_) (fun c2 => ?_)
    · have hw := hw.1 c2
      refine r_lload C (pc := 68) 3 rfl d6_stepLongs_68 ?_
      refine r_lload_n C (pc := 70) 2 rfl d6_stepLongs_70 ?_
      have h0 := hw.1
      have hw := hw.2
      refine r_lrem C (pc := 71) d6_stepLongs_71 h0 ?_
      refine r_sub (ls' := []) [] rfl ?_
      exact nd6_stepLongs_72 C hr ha0 ha0 hw
    · have hw := hw.2 c2
      refine r_lload C (pc := 61) 3 rfl d6_stepLongs_61 ?_
      refine r_lload_n C (pc := 63) 2 rfl d6_stepLongs_63 ?_
      have h0 := hw.1
      have hw := hw.2
      refine r_ldiv C (pc := 64) d6_stepLongs_64 h0 ?_
      refine r_goto C (pc := 65) (tgt := 72) d6_stepLongs_65 (by decide) ?_
      refine r_sub (ls' := []) [] rfl ?_
      exact nd6_stepLongs_72 C hr ha0 ha0 hw
  · have hw := hw.2 c1
    refine r_iconst C (pc := 52) (v := 2) d6_stepLongs_52 (by decide) ?_
    exact r_iret C (pc := 53) hr d6_stepLongs_53 hw
set_option maxRecDepth 20000 in
theorem nd6_stepLongs_23 {p : Program} {l : Launch} {e : Env} {s : State} {m : MethodId} {args : Array Value} {below : List Frame} {meth : Method} {c : Code} {D : va_G} {ca : Nat → ClassId} {ρ : Nat → Nat → Nat} {a0 : Nat} {x1 : Int32} {Q : Int32 → St → Prop} {t0 : Nat} {s1 : Int32} {S : St} (C : Cx true p l s m meth c R6 b6_stepLongs 6 D ca ρ) (hr : meth.sig.returnType = (some .int)) (ha0 : a0 < 14) (ht0 : t0 < 14) (hw : wp6_stepLongs_23 a0 x1 Q t0 s1 S) : wm true p l e { frames := 2, cells := 0, slots := 0, locals := 46 } s m args below meth c D ca ρ 6 0 0 (qi true below args s D ca ρ 0 0 Q) 23 [] [.int s1, .ref (ρ 1 t0)] S := by
  unfold wp6_stepLongs_23 at hw
  refine r_callVv C (pc := 23) (fun sz => ct1_putTruth l D ca ρ sz C.2.2.2.2.2.2.1 ht0 hw) mf1_putTruth w6_230 rfl ht0 rfl rfl rfl rfl ⟨Nat.le_of_ble_eq_true rfl, Nat.le_of_ble_eq_true rfl⟩ rfl rfl (Nat.le_of_ble_eq_true rfl) ⟨Nat.zero_le _, Nat.zero_le _⟩ d6_stepLongs_23 (fun S1 hw => ?_)
  refine r_iconst C (pc := 26) (v := 0) d6_stepLongs_26 (by decide) ?_
  exact r_iret C (pc := 27) hr d6_stepLongs_27 hw
set_option maxRecDepth 20000 in
theorem ct6_stepLongs (l : Launch) (D : va_G) (ca : Nat → ClassId) (ρ : Nat → Nat → Nat) (sz : Nat) {S : St} {a0 : Nat} {x1 : Int32} {Q : Int32 → St → Prop} (hAp : Ap true ρ) (ha0 : a0 < 14) (hw : wp6_stepLongs S a0 x1 Q) : Met l y6_stepLongs [Cond.code y6_stepLongs b6_stepLongs 6 (some .int)] { frames := 2, cells := 0, slots := 0, locals := 46 } (va_Pc [.ref (ρ 1 a0), .int x1] (PreU true D ca ρ sz S)) (va_Qi Q (PostU true D ca ρ) (Ar true ρ sz)) 0 0 (Ar true ρ sz) := by
  refine met_of_wm (own := R6) (ls0 := [(0, .ref (ρ 1 a0)), (1, .int x1)]) rfl rfl hAp (Nat.le_of_ble_eq_true rfl) rfl fun p e s m args below meth c C hr hz => ?_
  subst hz
  unfold wp6_stepLongs at hw
  refine r_aload_n C (pc := 0) 0 rfl d6_stepLongs_0 ?_
  refine r_callVl C (pc := 1) (fun sz => ct1_takeNumber l D ca ρ sz C.2.2.2.2.2.2.1 ha0 hw) mf1_takeNumber w6_211 rfl ha0 rfl rfl rfl rfl ⟨Nat.le_of_ble_eq_true rfl, Nat.le_of_ble_eq_true rfl⟩ rfl rfl (Nat.le_of_ble_eq_true rfl) ⟨Nat.zero_le _, Nat.zero_le _⟩ d6_stepLongs_1 (fun r1 S1 hw => ?_)
  refine r_lstore_n C (pc := 4) (ls' := [(2, .long r1), (0, .ref (ρ 1 a0)), (1, .int x1)]) (Nat.le_of_ble_eq_true rfl) rfl d6_stepLongs_4 ?_
  refine r_iload_n C (pc := 5) 2 rfl d6_stepLongs_5 ?_
  refine r_bipush C (pc := 6) (v := 64) d6_stepLongs_6 (by decide) ?_
  refine r_icmp_ne C (pc := 8) (tgt := 28) d6_stepLongs_8 (by decide) (fun c1 => ?_) (fun c1 => ?_)
  · have hw := hw.1 c1
    refine r_aload_n C (pc := 28) 1 rfl d6_stepLongs_28 ?_
    refine r_callVl C (pc := 29) (fun sz => ct1_takeNumber l D ca ρ sz C.2.2.2.2.2.2.1 ha0 hw) mf1_takeNumber w6_211 rfl ha0 rfl rfl rfl rfl ⟨Nat.le_of_ble_eq_true rfl, Nat.le_of_ble_eq_true rfl⟩ rfl rfl (Nat.le_of_ble_eq_true rfl) ⟨Nat.zero_le _, Nat.zero_le _⟩ d6_stepLongs_29 (fun r2 S2 hw => ?_)
    refine r_lstore C (pc := 32) (ls' := [(4, .long r2), (2, .long r1), (0, .ref (ρ 1 a0)), (1, .int x1)]) (Nat.le_of_ble_eq_true rfl) rfl d6_stepLongs_32 ?_
    refine r_iload_n C (pc := 34) 3 rfl d6_stepLongs_34 ?_
    refine r_bipush C (pc := 35) (v := 53) d6_stepLongs_35 (by decide) ?_
    refine r_icmp_eq C (pc := 37) (tgt := 46) d6_stepLongs_37 (by decide) (fun c2 => ?_) (fun c2 => ?_)
    · have hw := hw.1 c2
      refine r_sub (ls' := [(0, .ref (ρ 1 a0)), (1, .int x1), (2, .long r1), (4, .long r2)]) [2, 3, 1, 0] rfl ?_
      exact nd6_stepLongs_46 C hr ha0 hw
    · have hw := hw.2 c2
      refine r_iload_n C (pc := 40) 3 rfl d6_stepLongs_40 ?_
      refine r_bipush C (pc := 41) (v := 54) d6_stepLongs_41 (by decide) ?_
      refine r_icmp_ne C (pc := 43) (tgt := 78) d6_stepLongs_43 (by decide) (fun c3 => ?_) (fun c3 => ?_)
      · have hw := hw.1 c3
        refine r_aload_n C (pc := 78) 2 rfl d6_stepLongs_78 ?_
        refine r_iload_n C (pc := 79) 3 rfl d6_stepLongs_79 ?_
        refine r_lload C (pc := 80) 0 rfl d6_stepLongs_80 ?_
        refine r_lload_n C (pc := 82) 1 rfl d6_stepLongs_82 ?_
        refine r_callSl C (pc := 83) (fun sz => ct6_ofLongs l D ca ρ sz C.2.2.2.2.2.2.1 hw) mf6_ofLongs w6_240 rfl rfl ⟨Nat.le_of_ble_eq_true rfl, Nat.le_of_ble_eq_true rfl⟩ rfl rfl (Nat.le_of_ble_eq_true rfl) ⟨Nat.zero_le _, Nat.zero_le _⟩ d6_stepLongs_83 (fun r3 S3 hw => ?_)
        refine r_callVv C (pc := 86) (fun sz => ct1_putNumber l D ca ρ sz C.2.2.2.2.2.2.1 ha0 hw) mf1_putNumber w6_191 rfl ha0 rfl rfl rfl rfl ⟨Nat.le_of_ble_eq_true rfl, Nat.le_of_ble_eq_true rfl⟩ rfl rfl (Nat.le_of_ble_eq_true rfl) ⟨Nat.zero_le _, Nat.zero_le _⟩ d6_stepLongs_86 (fun S4 hw => ?_)
        refine r_iconst C (pc := 89) (v := 0) d6_stepLongs_89 (by decide) ?_
        exact r_iret C (pc := 90) hr d6_stepLongs_90 hw
      · have hw := hw.2 c3
        refine r_sub (ls' := [(0, .ref (ρ 1 a0)), (1, .int x1), (2, .long r1), (4, .long r2)]) [2, 3, 1, 0] rfl ?_
        exact nd6_stepLongs_46 C hr ha0 hw
  · have hw := hw.2 c1
    refine r_aload_n C (pc := 11) 1 rfl d6_stepLongs_11 ?_
    refine r_lload_n C (pc := 12) 0 rfl d6_stepLongs_12 ?_
    refine r_lconst C (pc := 13) (v := 0) d6_stepLongs_13 (by decide) ?_
    refine r_lcmp C (pc := 14) d6_stepLongs_14 ?_
    refine r_if_ne C (pc := 15) (tgt := 22) d6_stepLongs_15 (by decide) (fun c4 => ?_) (fun c4 => ?_)
    · have hw := hw.1 c4
      refine r_iconst C (pc := 22) (v := 0) d6_stepLongs_22 (by decide) ?_
      refine r_sub (ls' := []) [] rfl ?_
      exact nd6_stepLongs_23 C hr ha0 ha0 hw
    · have hw := hw.2 c4
      refine r_iconst C (pc := 18) (v := 1) d6_stepLongs_18 (by decide) ?_
      refine r_goto C (pc := 19) (tgt := 23) d6_stepLongs_19 (by decide) ?_
      refine r_sub (ls' := []) [] rfl ?_
      exact nd6_stepLongs_23 C hr ha0 ha0 hw
