set_option maxRecDepth 20000 in
theorem ct9_realGlobal (l : Launch) (D : va_G) (ca : Nat → ClassId) (ρ : Nat → Nat → Nat) (sz : Nat) {S : St}  {Q : UInt64 → St → Prop} (hAp : Ap false ρ)  (hw : wp9_realGlobal S Q) : Met l y9_realGlobal [Cond.code y9_realGlobal b9_realGlobal 1 (some .double)] { frames := 0, cells := 0, slots := 0, locals := 0 } (va_Pc [.ref (ρ 9 0)] (PreU false D ca ρ sz S)) (va_Qd Q (PostU false D ca ρ) (Ar false ρ sz)) 0 0 (Ar false ρ sz) := by
  refine met_of_wm (own := R9) (ls0 := [(0, .ref (ρ 9 0))]) rfl rfl hAp (Nat.le_of_ble_eq_true rfl) rfl fun p e s m args below meth c C hr hz => ?_
  subst hz
  unfold wp9_realGlobal at hw
  refine r_aload_n C (pc := 0) 0 rfl d9_realGlobal_0 ?_
  refine r_iconst C (pc := 1) (v := 0) d9_realGlobal_1 (by decide) ?_
  refine p9_code C (pc := 2) (Nat.le_of_ble_eq_true rfl) w9_88 d9_realGlobal_2 ?_
  refine r_S (fun S1 eS1 => ?_)
  have hw := hw S1 eS1
  refine r_aload_n C (pc := 5) 0 rfl d9_realGlobal_5 ?_
  refine g9_real C (pc := 6) (Nat.le_of_ble_eq_true rfl) w9_236 d9_realGlobal_6 ?_
  exact r_dret C (pc := 9) hr d9_realGlobal_9 hw
set_option maxRecDepth 20000 in
theorem ct9_memory (l : Launch) (D : va_G) (ca : Nat → ClassId) (ρ : Nat → Nat → Nat) (sz : Nat) {S : St} {x1 : Int32} {Q : Int32 → St → Prop} (hAp : Ap false ρ)  (hw : wp9_memory S x1 Q) : Met l y9_memory [Cond.code y9_memory b9_memory 2 (some .int)] { frames := 1, cells := 0, slots := 0, locals := 22 } (va_Pc [.ref (ρ 9 0), .int x1] (PreU false D ca ρ sz S)) (va_Qi Q (PostU false D ca ρ) (Ar false ρ sz)) 0 0 (Ar false ρ sz) := by
  refine met_of_wm (own := R9) (ls0 := [(0, .ref (ρ 9 0)), (1, .int x1)]) rfl rfl hAp (Nat.le_of_ble_eq_true rfl) rfl fun p e s m args below meth c C hr hz => ?_
  subst hz
  unfold wp9_memory at hw
  refine r_aload_n C (pc := 0) 0 rfl d9_memory_0 ?_
  refine r_iload_n C (pc := 1) 1 rfl d9_memory_1 ?_
  refine r_iconst C (pc := 2) (v := 0) d9_memory_2 (by decide) ?_
  refine r_bipush C (pc := 3) (v := 63) d9_memory_3 (by decide) ?_
  refine r_callSi C (pc := 5) (fun sz => ct9_in l D ca ρ sz C.2.2.2.2.2.2.1 hw) mf9_in w9_92 rfl rfl ⟨Nat.le_of_ble_eq_true rfl, Nat.le_of_ble_eq_true rfl⟩ rfl rfl (Nat.le_of_ble_eq_true rfl) ⟨Nat.zero_le _, Nat.zero_le _⟩ d9_memory_5 (fun r1 S1 hw => ?_)
  refine r_iconst C (pc := 8) (v := 1) d9_memory_8 (by decide) ?_
  refine r_callVi C (pc := 9) (fun sz => ct9_good l D ca ρ sz C.2.2.2.2.2.2.1 hw) mf9_good w9_100 rfl (Nat.le_of_ble_eq_true rfl) rfl rfl rfl rfl ⟨Nat.le_of_ble_eq_true rfl, Nat.le_of_ble_eq_true rfl⟩ rfl rfl (Nat.le_of_ble_eq_true rfl) ⟨Nat.zero_le _, Nat.zero_le _⟩ d9_memory_9 (fun r2 S2 hw => ?_)
  refine r_if_eq C (pc := 12) (tgt := 24) d9_memory_12 (by decide) (fun c1 => ?_) (fun c1 => ?_)
  · have hw := hw.1 c1
    refine r_iconst C (pc := 24) (v := 0) d9_memory_24 (by decide) ?_
    exact r_iret C (pc := 25) hr d9_memory_25 hw
  · have hw := hw.2 c1
    refine r_aload_n C (pc := 15) 0 rfl d9_memory_15 ?_
    refine g9_memory C (pc := 16) (Nat.le_of_ble_eq_true rfl) w9_31 d9_memory_16 ?_
    refine r_iload_n C (pc := 19) 1 rfl d9_memory_19 ?_
    have hi2 := hw.1
    have hw := hw.2
    refine ld1907 C (pc := 20) (Nat.le_of_ble_eq_true rfl) hi2 d9_memory_20 ?_
    refine r_goto C (pc := 21) (tgt := 25) d9_memory_21 (by decide) ?_
    exact r_iret C (pc := 25) hr d9_memory_25 hw
set_option maxRecDepth 20000 in
theorem nd9_wipe_45 {p : Program} {l : Launch} {e : Env} {s : State} {m : MethodId} {args : Array Value} {below : List Frame} {meth : Method} {c : Code} {D : va_G} {ca : Nat → ClassId} {ρ : Nat → Nat → Nat}  {Q : Int32 → St → Prop} {K : Int32 → Int32 → St → Prop} {x1 : Int32} {x2 : Int32} {S : St} (C : Cx false p l s m meth c R9 b9_wipe 3 D ca ρ) (hr : meth.sig.returnType = (some .int))  (hK : ∀ (x1 : Int32) (x2 : Int32) (S : St) , K x1 x2 S → wm false p l e { frames := 1, cells := 0, slots := 0, locals := 22 } s m args below meth c D ca ρ 3 0 0 (qi false below args s D ca ρ 0 0 Q) 27 [(0, .ref (ρ 9 0)), (1, .int x1), (2, .int x2)] [] S)  (hw : wp9_wipe_45 K  Q x1 x2 S) : wm false p l e { frames := 1, cells := 0, slots := 0, locals := 22 } s m args below meth c D ca ρ 3 0 0 (qi false below args s D ca ρ 0 0 Q) 45 [(0, .ref (ρ 9 0)), (1, .int x1), (2, .int x2)] [] S := by
  unfold wp9_wipe_45 at hw
  refine r_aload_n C (pc := 45) 0 rfl d9_wipe_45 ?_
  refine g9_memory C (pc := 46) (Nat.le_of_ble_eq_true rfl) w9_31 d9_wipe_46 ?_
  refine r_iload_n C (pc := 49) 2 rfl d9_wipe_49 ?_
  refine r_iconst C (pc := 50) (v := 0) d9_wipe_50 (by decide) ?_
  have hi1 := hw.1
  have hw := hw.2
  refine st1907 C (pc := 51) (Nat.le_of_ble_eq_true rfl) hi1 d9_wipe_51 ?_
  refine r_S (fun S1 eS1 => ?_)
  have hw := hw S1 eS1
  obtain ⟨x2_1, ex2_1⟩ : ∃ y : Int32, y = x2 + 1 := ⟨_, rfl⟩
  have hw := hw x2_1 ex2_1
  refine r_iinc C (pc := 52) (v := x2_1) (ls' := [(2, .int x2_1), (0, .ref (ρ 9 0)), (1, .int x1)]) 2 rfl (by rw [ex2_1]; rfl) (Nat.le_of_ble_eq_true rfl) rfl d9_wipe_52 ?_
  refine r_goto C (pc := 55) (tgt := 27) d9_wipe_55 (by decide) ?_
  refine r_sub (ls' := [(0, .ref (ρ 9 0)), (1, .int x1), (2, .int x2_1)]) [1, 2, 0] rfl ?_
  exact hK _ _ _ hw
set_option maxRecDepth 20000 in
theorem nd9_wipe_27 {p : Program} {l : Launch} {e : Env} {s : State} {m : MethodId} {args : Array Value} {below : List Frame} {meth : Method} {c : Code} {D : va_G} {ca : Nat → ClassId} {ρ : Nat → Nat → Nat}  {Q : Int32 → St → Prop} (C : Cx false p l s m meth c R9 b9_wipe 3 D ca ρ) (hr : meth.sig.returnType = (some .int))  : ∀ (n : Nat) (x1 : Int32) (x2 : Int32) (S : St) , wp9_wipe_27  Q n x1 x2 S → wm false p l e { frames := 1, cells := 0, slots := 0, locals := 22 } s m args below meth c D ca ρ 3 0 0 (qi false below args s D ca ρ 0 0 Q) 27 [(0, .ref (ρ 9 0)), (1, .int x1), (2, .int x2)] [] S := by
  intro n
  induction n with
  | zero => intro x1 x2 S  hw; exact hw.elim
  | succ n ih =>
    intro x1 x2 S  hw
    unfold wp9_wipe_27 at hw
    refine r_iload_n C (pc := 27) 2 rfl d9_wipe_27 ?_
    refine r_bipush C (pc := 28) (v := 64) d9_wipe_28 (by decide) ?_
    refine r_icmp_ge C (pc := 30) (tgt := 58) d9_wipe_30 (by decide) (fun c1 => ?_) (fun c1 => ?_)
    · have hw := hw.1 c1
      refine r_aload_n C (pc := 58) 0 rfl d9_wipe_58 ?_
      refine g9_wholes C (pc := 59) (Nat.le_of_ble_eq_true rfl) w9_34 d9_wipe_59 ?_
      refine r_iconst C (pc := 62) (v := 0) d9_wipe_62 (by decide) ?_
      refine r_lconst C (pc := 63) (v := 0) d9_wipe_63 (by decide) ?_
      have hi2 : vp_in 0 3 := by unfold vp_in; decide
      refine st1908 C (pc := 64) (Nat.le_of_ble_eq_true rfl) hi2 d9_wipe_64 ?_
      refine r_S (fun S1 eS1 => ?_)
      have hw := hw S1 eS1
      refine r_aload_n C (pc := 65) 0 rfl d9_wipe_65 ?_
      refine g9_wholes C (pc := 66) (Nat.le_of_ble_eq_true rfl) w9_34 d9_wipe_66 ?_
      refine r_iconst C (pc := 69) (v := 1) d9_wipe_69 (by decide) ?_
      refine r_lconst C (pc := 70) (v := 0) d9_wipe_70 (by decide) ?_
      have hi3 : vp_in 1 3 := by unfold vp_in; decide
      refine st1908 C (pc := 71) (Nat.le_of_ble_eq_true rfl) hi3 d9_wipe_71 ?_
      refine r_S (fun S2 eS2 => ?_)
      have hw := hw S2 eS2
      refine r_aload_n C (pc := 72) 0 rfl d9_wipe_72 ?_
      refine r_dconst0 C (pc := 73) d9_wipe_73 ?_
      refine p9_real C (pc := 74) (Nat.le_of_ble_eq_true rfl) w9_236 d9_wipe_74 ?_
      refine r_S (fun S3 eS3 => ?_)
      have hw := hw S3 eS3
      refine r_iload_n C (pc := 77) 1 rfl d9_wipe_77 ?_
      exact r_iret C (pc := 78) hr d9_wipe_78 hw
    · have hw := hw.2 c1
      refine r_aload_n C (pc := 33) 0 rfl d9_wipe_33 ?_
      refine g9_memory C (pc := 34) (Nat.le_of_ble_eq_true rfl) w9_31 d9_wipe_34 ?_
      refine r_iload_n C (pc := 37) 2 rfl d9_wipe_37 ?_
      have hi4 := hw.1
      have hw := hw.2
      refine ld1907 C (pc := 38) (Nat.le_of_ble_eq_true rfl) hi4 d9_wipe_38 ?_
      refine r_if_eq C (pc := 39) (tgt := 45) d9_wipe_39 (by decide) (fun c5 => ?_) (fun c5 => ?_)
      · have hw := hw.1 c5
        refine r_sub (ls' := [(0, .ref (ρ 9 0)), (1, .int x1), (2, .int x2)]) [0, 1, 2] rfl ?_
        exact nd9_wipe_45 C hr ih hw
      · have hw := hw.2 c5
        obtain ⟨x1_1, ex1_1⟩ : ∃ y : Int32, y = x1 + 1 := ⟨_, rfl⟩
        have hw := hw x1_1 ex1_1
        refine r_iinc C (pc := 42) (v := x1_1) (ls' := [(1, .int x1_1), (0, .ref (ρ 9 0)), (2, .int x2)]) 1 rfl (by rw [ex1_1]; rfl) (Nat.le_of_ble_eq_true rfl) rfl d9_wipe_42 ?_
        refine r_sub (ls' := [(0, .ref (ρ 9 0)), (1, .int x1_1), (2, .int x2)]) [1, 0, 2] rfl ?_
        exact nd9_wipe_45 C hr ih hw
set_option maxRecDepth 20000 in
theorem nd9_wipe_14 {p : Program} {l : Launch} {e : Env} {s : State} {m : MethodId} {args : Array Value} {below : List Frame} {meth : Method} {c : Code} {D : va_G} {ca : Nat → ClassId} {ρ : Nat → Nat → Nat}  {Q : Int32 → St → Prop} {s1 : Int32} {S : St} (C : Cx false p l s m meth c R9 b9_wipe 3 D ca ρ) (hr : meth.sig.returnType = (some .int))   (hw : wp9_wipe_14  Q s1 S) : wm false p l e { frames := 1, cells := 0, slots := 0, locals := 22 } s m args below meth c D ca ρ 3 0 0 (qi false below args s D ca ρ 0 0 Q) 14 [(0, .ref (ρ 9 0))] [.int s1, .ref (ρ 9 0)] S := by
  unfold wp9_wipe_14 at hw
  refine r_iconst C (pc := 14) (v := 1) d9_wipe_14 (by decide) ?_
  refine r_callVi C (pc := 15) (fun sz => ct9_good l D ca ρ sz C.2.2.2.2.2.2.1 hw) mf9_good w9_100 rfl (Nat.le_of_ble_eq_true rfl) rfl rfl rfl rfl ⟨Nat.le_of_ble_eq_true rfl, Nat.le_of_ble_eq_true rfl⟩ rfl rfl (Nat.le_of_ble_eq_true rfl) ⟨Nat.zero_le _, Nat.zero_le _⟩ d9_wipe_15 (fun r1 S1 hw => ?_)
  refine r_if_ne C (pc := 18) (tgt := 23) d9_wipe_18 (by decide) (fun c1 => ?_) (fun c1 => ?_)
  · have hw := hw.1 c1
    refine r_iconst C (pc := 23) (v := 0) d9_wipe_23 (by decide) ?_
    refine r_istore_n C (pc := 24) (ls' := [(1, .int 0), (0, .ref (ρ 9 0))]) (Nat.le_of_ble_eq_true rfl) rfl d9_wipe_24 ?_
    refine r_iconst C (pc := 25) (v := 0) d9_wipe_25 (by decide) ?_
    refine r_istore_n C (pc := 26) (ls' := [(2, .int 0), (1, .int 0), (0, .ref (ρ 9 0))]) (Nat.le_of_ble_eq_true rfl) rfl d9_wipe_26 ?_
    refine r_sub (ls' := [(0, .ref (ρ 9 0)), (1, .int 0), (2, .int 0)]) [2, 1, 0] rfl ?_
    obtain ⟨n, hw⟩ := hw
    exact nd9_wipe_27 C hr  n _ _ _ hw
  · have hw := hw.2 c1
    refine r_iconst C (pc := 21) (v := 0) d9_wipe_21 (by decide) ?_
    exact r_iret C (pc := 22) hr d9_wipe_22 hw
set_option maxRecDepth 20000 in
theorem ct9_wipe (l : Launch) (D : va_G) (ca : Nat → ClassId) (ρ : Nat → Nat → Nat) (sz : Nat) {S : St}  {Q : Int32 → St → Prop} (hAp : Ap false ρ)  (hw : wp9_wipe S Q) : Met l y9_wipe [Cond.code y9_wipe b9_wipe 3 (some .int)] { frames := 1, cells := 0, slots := 0, locals := 22 } (va_Pc [.ref (ρ 9 0)] (PreU false D ca ρ sz S)) (va_Qi Q (PostU false D ca ρ) (Ar false ρ sz)) 0 0 (Ar false ρ sz) := by
  refine met_of_wm (own := R9) (ls0 := [(0, .ref (ρ 9 0))]) rfl rfl hAp (Nat.le_of_ble_eq_true rfl) rfl fun p e s m args below meth c C hr hz => ?_
  subst hz
  unfold wp9_wipe at hw
  refine r_aload_n C (pc := 0) 0 rfl d9_wipe_0 ?_
  refine r_aload_n C (pc := 1) 0 rfl d9_wipe_1 ?_
  refine g9_status C (pc := 2) (Nat.le_of_ble_eq_true rfl) w9_104 d9_wipe_2 ?_
  refine r_iconst C (pc := 5) (v := 1) d9_wipe_5 (by decide) ?_
  refine r_icmp_eq C (pc := 6) (tgt := 13) d9_wipe_6 (by decide) (fun c1 => ?_) (fun c1 => ?_)
  · have hw := hw.1 c1
    refine r_iconst C (pc := 13) (v := 0) d9_wipe_13 (by decide) ?_
    refine r_sub (ls' := [(0, .ref (ρ 9 0))]) [0] rfl ?_
    exact nd9_wipe_14 C hr hw
  · have hw := hw.2 c1
    refine r_iconst C (pc := 9) (v := 1) d9_wipe_9 (by decide) ?_
    refine r_goto C (pc := 10) (tgt := 14) d9_wipe_10 (by decide) ?_
    refine r_sub (ls' := [(0, .ref (ρ 9 0))]) [0] rfl ?_
    exact nd9_wipe_14 C hr hw
set_option maxRecDepth 20000 in
theorem ct9_count (l : Launch) (D : va_G) (ca : Nat → ClassId) (ρ : Nat → Nat → Nat) (sz : Nat) {S : St} {x1 : Int32} {Q : Int32 → St → Prop} (hAp : Ap false ρ)  (hw : wp9_count S x1 Q) : Met l y9_count [Cond.code y9_count b9_count 2 (some .int)] { frames := 1, cells := 0, slots := 0, locals := 22 } (va_Pc [.ref (ρ 9 0), .int x1] (PreU false D ca ρ sz S)) (va_Qi Q (PostU false D ca ρ) (Ar false ρ sz)) 0 0 (Ar false ρ sz) := by
  refine met_of_wm (own := R9) (ls0 := [(0, .ref (ρ 9 0)), (1, .int x1)]) rfl rfl hAp (Nat.le_of_ble_eq_true rfl) rfl fun p e s m args below meth c C hr hz => ?_
  subst hz
  unfold wp9_count at hw
  refine r_aload_n C (pc := 0) 0 rfl d9_count_0 ?_
  refine r_iload_n C (pc := 1) 1 rfl d9_count_1 ?_
  refine r_iconst C (pc := 2) (v := 0) d9_count_2 (by decide) ?_
  refine r_bipush C (pc := 3) (v := 11) d9_count_3 (by decide) ?_
  refine r_callSi C (pc := 5) (fun sz => ct9_in l D ca ρ sz C.2.2.2.2.2.2.1 hw) mf9_in w9_92 rfl rfl ⟨Nat.le_of_ble_eq_true rfl, Nat.le_of_ble_eq_true rfl⟩ rfl rfl (Nat.le_of_ble_eq_true rfl) ⟨Nat.zero_le _, Nat.zero_le _⟩ d9_count_5 (fun r1 S1 hw => ?_)
  refine r_iconst C (pc := 8) (v := 1) d9_count_8 (by decide) ?_
  refine r_callVi C (pc := 9) (fun sz => ct9_good l D ca ρ sz C.2.2.2.2.2.2.1 hw) mf9_good w9_100 rfl (Nat.le_of_ble_eq_true rfl) rfl rfl rfl rfl ⟨Nat.le_of_ble_eq_true rfl, Nat.le_of_ble_eq_true rfl⟩ rfl rfl (Nat.le_of_ble_eq_true rfl) ⟨Nat.zero_le _, Nat.zero_le _⟩ d9_count_9 (fun r2 S2 hw => ?_)
  refine r_if_ne C (pc := 12) (tgt := 17) d9_count_12 (by decide) (fun c1 => ?_) (fun c1 => ?_)
  · have hw := hw.1 c1
    refine r_iload_n C (pc := 17) 1 rfl d9_count_17 ?_
    refine r_iconst C (pc := 18) (v := 5) d9_count_18 (by decide) ?_
    refine r_icmp_le C (pc := 19) (tgt := 32) d9_count_19 (by decide) (fun c2 => ?_) (fun c2 => ?_)
    · have hw := hw.1 c2
      refine r_iload_n C (pc := 32) 1 rfl d9_count_32 ?_
      refine r_if_ne C (pc := 33) (tgt := 43) d9_count_33 (by decide) (fun c3 => ?_) (fun c3 => ?_)
      · have hw := hw.1 c3
        refine r_iload_n C (pc := 43) 1 rfl d9_count_43 ?_
        refine r_iconst C (pc := 44) (v := 1) d9_count_44 (by decide) ?_
        refine r_icmp_ne C (pc := 45) (tgt := 55) d9_count_45 (by decide) (fun c4 => ?_) (fun c4 => ?_)
        · have hw := hw.1 c4
          refine r_iload_n C (pc := 55) 1 rfl d9_count_55 ?_
          refine r_iconst C (pc := 56) (v := 2) d9_count_56 (by decide) ?_
          refine r_icmp_ne C (pc := 57) (tgt := 79) d9_count_57 (by decide) (fun c5 => ?_) (fun c5 => ?_)
          · have hw := hw.1 c5
            refine r_iload_n C (pc := 79) 1 rfl d9_count_79 ?_
            refine r_iconst C (pc := 80) (v := 3) d9_count_80 (by decide) ?_
            refine r_icmp_ne C (pc := 81) (tgt := 91) d9_count_81 (by decide) (fun c6 => ?_) (fun c6 => ?_)
            · have hw := hw.1 c6
              refine r_iload_n C (pc := 91) 1 rfl d9_count_91 ?_
              refine r_iconst C (pc := 92) (v := 4) d9_count_92 (by decide) ?_
              refine r_icmp_ne C (pc := 93) (tgt := 111) d9_count_93 (by decide) (fun c7 => ?_) (fun c7 => ?_)
              · have hw := hw.1 c7
                refine r_aload_n C (pc := 111) 0 rfl d9_count_111 ?_
                refine g9_argued C (pc := 112) (Nat.le_of_ble_eq_true rfl) w9_187 d9_count_112 ?_
                exact r_iret C (pc := 115) hr d9_count_115 hw
              · have hw := hw.2 c7
                refine r_aload_n C (pc := 96) 0 rfl d9_count_96 ?_
                refine g9_checked C (pc := 97) (Nat.le_of_ble_eq_true rfl) w9_111 d9_count_97 ?_
                refine r_if_eq C (pc := 100) (tgt := 107) d9_count_100 (by decide) (fun c8 => ?_) (fun c8 => ?_)
                · have hw := hw.1 c8
                  refine r_iconst C (pc := 107) (v := 0) d9_count_107 (by decide) ?_
                  refine r_goto C (pc := 108) (tgt := 115) d9_count_108 (by decide) ?_
                  exact r_iret C (pc := 115) hr d9_count_115 hw
                · have hw := hw.2 c8
                  refine r_iconst C (pc := 103) (v := 1) d9_count_103 (by decide) ?_
                  refine r_goto C (pc := 104) (tgt := 115) d9_count_104 (by decide) ?_
                  exact r_iret C (pc := 115) hr d9_count_115 hw
            · have hw := hw.2 c6
              refine r_aload_n C (pc := 84) 0 rfl d9_count_84 ?_
              refine g9_latestTrap C (pc := 85) (Nat.le_of_ble_eq_true rfl) w9_291 d9_count_85 ?_
              refine r_goto C (pc := 88) (tgt := 115) d9_count_88 (by decide) ?_
              exact r_iret C (pc := 115) hr d9_count_115 hw
          · have hw := hw.2 c5
            refine r_aload_n C (pc := 60) 0 rfl d9_count_60 ?_
            refine g9_status C (pc := 61) (Nat.le_of_ble_eq_true rfl) w9_104 d9_count_61 ?_
            refine r_iconst C (pc := 64) (v := 1) d9_count_64 (by decide) ?_
            refine r_icmp_ne C (pc := 65) (tgt := 75) d9_count_65 (by decide) (fun c9 => ?_) (fun c9 => ?_)
            · have hw := hw.1 c9
              refine r_iconst C (pc := 75) (v := 0) d9_count_75 (by decide) ?_
              refine r_goto C (pc := 76) (tgt := 115) d9_count_76 (by decide) ?_
              exact r_iret C (pc := 115) hr d9_count_115 hw
            · have hw := hw.2 c9
              refine r_aload_n C (pc := 68) 0 rfl d9_count_68 ?_
              refine g9_calls C (pc := 69) (Nat.le_of_ble_eq_true rfl) w9_190 d9_count_69 ?_
              refine r_goto C (pc := 72) (tgt := 115) d9_count_72 (by decide) ?_
              exact r_iret C (pc := 115) hr d9_count_115 hw
        · have hw := hw.2 c4
          refine r_aload_n C (pc := 48) 0 rfl d9_count_48 ?_
          refine g9_steps C (pc := 49) (Nat.le_of_ble_eq_true rfl) w9_196 d9_count_49 ?_
          refine r_goto C (pc := 52) (tgt := 115) d9_count_52 (by decide) ?_
          exact r_iret C (pc := 115) hr d9_count_115 hw
      · have hw := hw.2 c3
        refine r_aload_n C (pc := 36) 0 rfl d9_count_36 ?_
        refine g9_status C (pc := 37) (Nat.le_of_ble_eq_true rfl) w9_104 d9_count_37 ?_
        refine r_goto C (pc := 40) (tgt := 115) d9_count_40 (by decide) ?_
        exact r_iret C (pc := 115) hr d9_count_115 hw
    · have hw := hw.2 c2
      refine r_aload_n C (pc := 22) 0 rfl d9_count_22 ?_
      refine g9_length C (pc := 23) (Nat.le_of_ble_eq_true rfl) w9_25 d9_count_23 ?_
      refine r_iload_n C (pc := 26) 1 rfl d9_count_26 ?_
      refine r_bipush C (pc := 27) (v := 6) d9_count_27 (by decide) ?_
      refine r_isub C (pc := 29) d9_count_29 ?_
      have hi10 := hw.1
      have hw := hw.2
      refine ld1905 C (pc := 30) (Nat.le_of_ble_eq_true rfl) hi10 d9_count_30 ?_
      exact r_iret C (pc := 31) hr d9_count_31 hw
  · have hw := hw.2 c1
    refine r_iconst C (pc := 15) (v := 0) d9_count_15 (by decide) ?_
    exact r_iret C (pc := 16) hr d9_count_16 hw
