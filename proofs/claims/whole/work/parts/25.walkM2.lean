set_option maxRecDepth 20000 in
theorem nd9_start_169 {p : Program} {l : Launch} {e : Env} {s : State} {m : MethodId} {args : Array Value} {below : List Frame} {meth : Method} {c : Code} {D : va_G} {ca : Nat → ClassId} {ρ : Nat → Nat → Nat} {x1 : Int32} {Q : Int32 → St → Prop} {K : Int32 → St → Prop} {x2 : Int32} {s1 : Int32} {s2 : UInt64} {S : St} (C : Cx false p l s m meth c R9 b9_start 3 D ca ρ) (hr : meth.sig.returnType = (some .int))  (hK : ∀ (x2 : Int32) (S : St) , K x2 S → wm false p l e { frames := 1, cells := 0, slots := 0, locals := 22 } s m args below meth c D ca ρ 3 0 0 (qi false below args s D ca ρ 0 0 Q) 110 [(0, .ref (ρ 9 0)), (1, .int x1), (2, .int x2)] [] S)  (hw : wp9_start_169 K x1 Q x2 s1 s2 S) : wm false p l e { frames := 1, cells := 0, slots := 0, locals := 22 } s m args below meth c D ca ρ 3 0 0 (qi false below args s D ca ρ 0 0 Q) 169 [(0, .ref (ρ 9 0)), (1, .int x1), (2, .int x2)] [.double s2, .int s1, .ref (ρ 1926 0)] S := by
  unfold wp9_start_169 at hw
  have hi1 := hw.1
  have hw := hw.2
  refine st1926 C (pc := 169) (Nat.le_of_ble_eq_true rfl) hi1 d9_start_169 ?_
  refine r_S (fun S1 eS1 => ?_)
  have hw := hw S1 eS1
  obtain ⟨x2_1, ex2_1⟩ : ∃ y : Int32, y = x2 + 1 := ⟨_, rfl⟩
  have hw := hw x2_1 ex2_1
  refine r_iinc C (pc := 170) (v := x2_1) (ls' := [(2, .int x2_1), (0, .ref (ρ 9 0)), (1, .int x1)]) 2 rfl (by rw [ex2_1]; rfl) (Nat.le_of_ble_eq_true rfl) rfl d9_start_170 ?_
  refine r_goto C (pc := 173) (tgt := 110) d9_start_173 (by decide) ?_
  refine r_sub (ls' := [(0, .ref (ρ 9 0)), (1, .int x1), (2, .int x2_1)]) [1, 2, 0] rfl ?_
  exact hK _ _ hw
set_option maxRecDepth 20000 in
theorem nd9_start_140 {p : Program} {l : Launch} {e : Env} {s : State} {m : MethodId} {args : Array Value} {below : List Frame} {meth : Method} {c : Code} {D : va_G} {ca : Nat → ClassId} {ρ : Nat → Nat → Nat} {x1 : Int32} {Q : Int32 → St → Prop} {K : Int32 → St → Prop} {x2 : Int32} {s1 : Int32} {s2 : Int64} {S : St} (C : Cx false p l s m meth c R9 b9_start 3 D ca ρ) (hr : meth.sig.returnType = (some .int))  (hK : ∀ (x2 : Int32) (S : St) , K x2 S → wm false p l e { frames := 1, cells := 0, slots := 0, locals := 22 } s m args below meth c D ca ρ 3 0 0 (qi false below args s D ca ρ 0 0 Q) 110 [(0, .ref (ρ 9 0)), (1, .int x1), (2, .int x2)] [] S)  (hw : wp9_start_140 K x1 Q x2 s1 s2 S) : wm false p l e { frames := 1, cells := 0, slots := 0, locals := 22 } s m args below meth c D ca ρ 3 0 0 (qi false below args s D ca ρ 0 0 Q) 140 [(0, .ref (ρ 9 0)), (1, .int x1), (2, .int x2)] [.long s2, .int s1, .ref (ρ 1925 0)] S := by
  unfold wp9_start_140 at hw
  have hi1 := hw.1
  have hw := hw.2
  refine st1925 C (pc := 140) (Nat.le_of_ble_eq_true rfl) hi1 d9_start_140 ?_
  refine r_S (fun S1 eS1 => ?_)
  have hw := hw S1 eS1
  refine r_aload_n C (pc := 141) 0 rfl d9_start_141 ?_
  refine g9_varReal C (pc := 142) (Nat.le_of_ble_eq_true rfl) w9_73 d9_start_142 ?_
  refine r_iload_n C (pc := 145) 2 rfl d9_start_145 ?_
  refine r_iload_n C (pc := 146) 2 rfl d9_start_146 ?_
  refine r_aload_n C (pc := 147) 0 rfl d9_start_147 ?_
  refine g9_argued C (pc := 148) (Nat.le_of_ble_eq_true rfl) w9_187 d9_start_148 ?_
  refine r_icmp_ge C (pc := 151) (tgt := 168) d9_start_151 (by decide) (fun c2 => ?_) (fun c2 => ?_)
  · have hw := hw.1 c2
    refine r_dconst0 C (pc := 168) d9_start_168 ?_
    refine r_sub (ls' := [(0, .ref (ρ 9 0)), (1, .int x1), (2, .int x2)]) [0, 1, 2] rfl ?_
    exact nd9_start_169 C hr hK hw
  · have hw := hw.2 c2
    refine r_aload_n C (pc := 154) 0 rfl d9_start_154 ?_
    refine g9_arguments C (pc := 155) (Nat.le_of_ble_eq_true rfl) w9_38 d9_start_155 ?_
    refine r_iload_n C (pc := 158) 2 rfl d9_start_158 ?_
    have hi3 := hw.1
    have hw := hw.2
    refine ld1910 C (pc := 159) (Nat.le_of_ble_eq_true rfl) hi3 d9_start_159 ?_
    refine r_i2d C (pc := 160) d9_start_160 ?_
    refine r_ldc2d C (pc := 161) w9_199 d9_start_161 ?_
    have h0 := hw.1
    have hw := hw.2
    refine r_dmul C (pc := 164) d9_start_164 h0 ?_
    refine r_goto C (pc := 165) (tgt := 169) d9_start_165 (by decide) ?_
    refine r_sub (ls' := [(0, .ref (ρ 9 0)), (1, .int x1), (2, .int x2)]) [0, 1, 2] rfl ?_
    exact nd9_start_169 C hr hK hw
set_option maxRecDepth 20000 in
theorem nd9_start_110 {p : Program} {l : Launch} {e : Env} {s : State} {m : MethodId} {args : Array Value} {below : List Frame} {meth : Method} {c : Code} {D : va_G} {ca : Nat → ClassId} {ρ : Nat → Nat → Nat} {x1 : Int32} {Q : Int32 → St → Prop} (C : Cx false p l s m meth c R9 b9_start 3 D ca ρ) (hr : meth.sig.returnType = (some .int))  : ∀ (n : Nat) (x2 : Int32) (S : St) , wp9_start_110 x1 Q n x2 S → wm false p l e { frames := 1, cells := 0, slots := 0, locals := 22 } s m args below meth c D ca ρ 3 0 0 (qi false below args s D ca ρ 0 0 Q) 110 [(0, .ref (ρ 9 0)), (1, .int x1), (2, .int x2)] [] S := by
  intro n
  induction n with
  | zero => intro x2 S  hw; exact hw.elim
  | succ n ih =>
    intro x2 S  hw
    unfold wp9_start_110 at hw
    refine r_iload_n C (pc := 110) 2 rfl d9_start_110 ?_
    refine r_bipush C (pc := 111) (v := 6) d9_start_111 (by decide) ?_
    refine r_icmp_ge C (pc := 113) (tgt := 176) d9_start_113 (by decide) (fun c1 => ?_) (fun c1 => ?_)
    · have hw := hw.1 c1
      refine r_aload_n C (pc := 176) 0 rfl d9_start_176 ?_
      refine r_iload_n C (pc := 177) 1 rfl d9_start_177 ?_
      refine r_iconst C (pc := 178) (v := 0) d9_start_178 (by decide) ?_
      refine r_callVv C (pc := 179) (fun sz => ct9_enter l D ca ρ sz C.2.2.2.2.2.2.1 hw) mf9_enter w9_201 rfl (Nat.le_of_ble_eq_true rfl) rfl rfl rfl rfl ⟨Nat.le_of_ble_eq_true rfl, Nat.le_of_ble_eq_true rfl⟩ rfl rfl (Nat.le_of_ble_eq_true rfl) ⟨Nat.zero_le _, Nat.zero_le _⟩ d9_start_179 (fun S1 hw => ?_)
      refine r_aload_n C (pc := 182) 0 rfl d9_start_182 ?_
      refine g9_argued C (pc := 183) (Nat.le_of_ble_eq_true rfl) w9_187 d9_start_183 ?_
      refine r_topi (fun x2_1 ex2_1 => ?_)
      have hw := hw x2_1 ex2_1
      refine r_istore_n C (pc := 186) (ls' := [(2, .int x2_1), (0, .ref (ρ 9 0)), (1, .int x1)]) (Nat.le_of_ble_eq_true rfl) rfl d9_start_186 ?_
      refine r_aload_n C (pc := 187) 1 rfl d9_start_187 ?_
      refine r_iconst C (pc := 188) (v := 0) d9_start_188 (by decide) ?_
      refine p9_argued C (pc := 189) (Nat.le_of_ble_eq_true rfl) w9_187 d9_start_189 ?_
      refine r_S (fun S2 eS2 => ?_)
      have hw := hw S2 eS2
      refine r_iload_n C (pc := 192) 0 rfl d9_start_192 ?_
      exact r_iret C (pc := 193) hr d9_start_193 hw
    · have hw := hw.2 c1
      refine r_aload_n C (pc := 116) 0 rfl d9_start_116 ?_
      refine g9_varWhole C (pc := 117) (Nat.le_of_ble_eq_true rfl) w9_70 d9_start_117 ?_
      refine r_iload_n C (pc := 120) 2 rfl d9_start_120 ?_
      refine r_iload_n C (pc := 121) 2 rfl d9_start_121 ?_
      refine r_aload_n C (pc := 122) 0 rfl d9_start_122 ?_
      refine g9_argued C (pc := 123) (Nat.le_of_ble_eq_true rfl) w9_187 d9_start_123 ?_
      refine r_icmp_ge C (pc := 126) (tgt := 139) d9_start_126 (by decide) (fun c2 => ?_) (fun c2 => ?_)
      · have hw := hw.1 c2
        refine r_lconst C (pc := 139) (v := 0) d9_start_139 (by decide) ?_
        refine r_sub (ls' := [(0, .ref (ρ 9 0)), (1, .int x1), (2, .int x2)]) [0, 1, 2] rfl ?_
        exact nd9_start_140 C hr ih hw
      · have hw := hw.2 c2
        refine r_aload_n C (pc := 129) 0 rfl d9_start_129 ?_
        refine g9_arguments C (pc := 130) (Nat.le_of_ble_eq_true rfl) w9_38 d9_start_130 ?_
        refine r_iload_n C (pc := 133) 2 rfl d9_start_133 ?_
        have hi3 := hw.1
        have hw := hw.2
        refine ld1910 C (pc := 134) (Nat.le_of_ble_eq_true rfl) hi3 d9_start_134 ?_
        refine r_i2l C (pc := 135) d9_start_135 ?_
        refine r_goto C (pc := 136) (tgt := 140) d9_start_136 (by decide) ?_
        refine r_sub (ls' := [(0, .ref (ρ 9 0)), (1, .int x1), (2, .int x2)]) [0, 1, 2] rfl ?_
        exact nd9_start_140 C hr ih hw
set_option maxRecDepth 20000 in
theorem nd9_start_74 {p : Program} {l : Launch} {e : Env} {s : State} {m : MethodId} {args : Array Value} {below : List Frame} {meth : Method} {c : Code} {D : va_G} {ca : Nat → ClassId} {ρ : Nat → Nat → Nat} {x1 : Int32} {Q : Int32 → St → Prop} {s1 : Int32} {S : St} (C : Cx false p l s m meth c R9 b9_start 3 D ca ρ) (hr : meth.sig.returnType = (some .int))   (hw : wp9_start_74 x1 Q s1 S) : wm false p l e { frames := 1, cells := 0, slots := 0, locals := 22 } s m args below meth c D ca ρ 3 0 0 (qi false below args s D ca ρ 0 0 Q) 74 [(0, .ref (ρ 9 0)), (1, .int x1)] [.int s1, .ref (ρ 9 0)] S := by
  unfold wp9_start_74 at hw
  refine r_iconst C (pc := 74) (v := 3) d9_start_74 (by decide) ?_
  refine r_callVi C (pc := 75) (fun sz => ct9_good l D ca ρ sz C.2.2.2.2.2.2.1 hw) mf9_good w9_100 rfl (Nat.le_of_ble_eq_true rfl) rfl rfl rfl rfl ⟨Nat.le_of_ble_eq_true rfl, Nat.le_of_ble_eq_true rfl⟩ rfl rfl (Nat.le_of_ble_eq_true rfl) ⟨Nat.zero_le _, Nat.zero_le _⟩ d9_start_75 (fun r1 S1 hw => ?_)
  refine r_if_ne C (pc := 78) (tgt := 83) d9_start_78 (by decide) (fun c1 => ?_) (fun c1 => ?_)
  · have hw := hw.1 c1
    refine r_aload_n C (pc := 83) 0 rfl d9_start_83 ?_
    refine r_iconst C (pc := 84) (v := 1) d9_start_84 (by decide) ?_
    refine p9_status C (pc := 85) (Nat.le_of_ble_eq_true rfl) w9_104 d9_start_85 ?_
    refine r_S (fun S2 eS2 => ?_)
    have hw := hw S2 eS2
    refine r_aload_n C (pc := 88) 0 rfl d9_start_88 ?_
    refine r_iconst C (pc := 89) (v := 0) d9_start_89 (by decide) ?_
    refine p9_steps C (pc := 90) (Nat.le_of_ble_eq_true rfl) w9_196 d9_start_90 ?_
    refine r_S (fun S3 eS3 => ?_)
    have hw := hw S3 eS3
    refine r_aload_n C (pc := 93) 0 rfl d9_start_93 ?_
    refine r_iconst C (pc := 94) (v := 0) d9_start_94 (by decide) ?_
    refine p9_calls C (pc := 95) (Nat.le_of_ble_eq_true rfl) w9_190 d9_start_95 ?_
    refine r_S (fun S4 eS4 => ?_)
    have hw := hw S4 eS4
    refine r_aload_n C (pc := 98) 0 rfl d9_start_98 ?_
    refine r_iconst C (pc := 99) (v := 0) d9_start_99 (by decide) ?_
    refine p9_frames C (pc := 100) (Nat.le_of_ble_eq_true rfl) w9_128 d9_start_100 ?_
    refine r_S (fun S5 eS5 => ?_)
    have hw := hw S5 eS5
    refine r_aload_n C (pc := 103) 0 rfl d9_start_103 ?_
    refine r_iconst C (pc := 104) (v := 0) d9_start_104 (by decide) ?_
    refine p9_height C (pc := 105) (Nat.le_of_ble_eq_true rfl) w9_122 d9_start_105 ?_
    refine r_S (fun S6 eS6 => ?_)
    have hw := hw S6 eS6
    refine r_iconst C (pc := 108) (v := 0) d9_start_108 (by decide) ?_
    refine r_istore_n C (pc := 109) (ls' := [(2, .int 0), (0, .ref (ρ 9 0)), (1, .int x1)]) (Nat.le_of_ble_eq_true rfl) rfl d9_start_109 ?_
    refine r_sub (ls' := [(0, .ref (ρ 9 0)), (1, .int x1), (2, .int 0)]) [1, 2, 0] rfl ?_
    obtain ⟨n, hw⟩ := hw
    exact nd9_start_110 C hr  n _ _ hw
  · have hw := hw.2 c1
    refine r_iconst C (pc := 81) (v := 0) d9_start_81 (by decide) ?_
    exact r_iret C (pc := 82) hr d9_start_82 hw
set_option maxRecDepth 20000 in
theorem nd9_start_46 {p : Program} {l : Launch} {e : Env} {s : State} {m : MethodId} {args : Array Value} {below : List Frame} {meth : Method} {c : Code} {D : va_G} {ca : Nat → ClassId} {ρ : Nat → Nat → Nat} {x1 : Int32} {Q : Int32 → St → Prop} {s1 : Int32} {S : St} (C : Cx false p l s m meth c R9 b9_start 3 D ca ρ) (hr : meth.sig.returnType = (some .int))   (hw : wp9_start_46 x1 Q s1 S) : wm false p l e { frames := 1, cells := 0, slots := 0, locals := 22 } s m args below meth c D ca ρ 3 0 0 (qi false below args s D ca ρ 0 0 Q) 46 [(0, .ref (ρ 9 0)), (1, .int x1)] [.int s1, .ref (ρ 9 0)] S := by
  unfold wp9_start_46 at hw
  refine r_iconst C (pc := 46) (v := 2) d9_start_46 (by decide) ?_
  refine r_callVi C (pc := 47) (fun sz => ct9_good l D ca ρ sz C.2.2.2.2.2.2.1 hw) mf9_good w9_100 rfl (Nat.le_of_ble_eq_true rfl) rfl rfl rfl rfl ⟨Nat.le_of_ble_eq_true rfl, Nat.le_of_ble_eq_true rfl⟩ rfl rfl (Nat.le_of_ble_eq_true rfl) ⟨Nat.zero_le _, Nat.zero_le _⟩ d9_start_47 (fun r1 S1 hw => ?_)
  refine r_if_ne C (pc := 50) (tgt := 55) d9_start_50 (by decide) (fun c1 => ?_) (fun c1 => ?_)
  · have hw := hw.1 c1
    refine r_aload_n C (pc := 55) 0 rfl d9_start_55 ?_
    refine r_aload_n C (pc := 56) 0 rfl d9_start_56 ?_
    refine g9_argued C (pc := 57) (Nat.le_of_ble_eq_true rfl) w9_187 d9_start_57 ?_
    refine r_aload_n C (pc := 60) 0 rfl d9_start_60 ?_
    refine g9_parameters C (pc := 61) (Nat.le_of_ble_eq_true rfl) w9_13 d9_start_61 ?_
    refine r_iload_n C (pc := 64) 1 rfl d9_start_64 ?_
    have hi2 := hw.1
    have hw := hw.2
    refine ld1901 C (pc := 65) (Nat.le_of_ble_eq_true rfl) hi2 d9_start_65 ?_
    refine r_icmp_ne C (pc := 66) (tgt := 73) d9_start_66 (by decide) (fun c3 => ?_) (fun c3 => ?_)
    · have hw := hw.1 c3
      refine r_iconst C (pc := 73) (v := 0) d9_start_73 (by decide) ?_
      refine r_sub (ls' := [(0, .ref (ρ 9 0)), (1, .int x1)]) [0, 1] rfl ?_
      exact nd9_start_74 C hr hw
    · have hw := hw.2 c3
      refine r_iconst C (pc := 69) (v := 1) d9_start_69 (by decide) ?_
      refine r_goto C (pc := 70) (tgt := 74) d9_start_70 (by decide) ?_
      refine r_sub (ls' := [(0, .ref (ρ 9 0)), (1, .int x1)]) [0, 1] rfl ?_
      exact nd9_start_74 C hr hw
  · have hw := hw.2 c1
    refine r_iconst C (pc := 53) (v := 0) d9_start_53 (by decide) ?_
    exact r_iret C (pc := 54) hr d9_start_54 hw
set_option maxRecDepth 20000 in
theorem nd9_start_45 {p : Program} {l : Launch} {e : Env} {s : State} {m : MethodId} {args : Array Value} {below : List Frame} {meth : Method} {c : Code} {D : va_G} {ca : Nat → ClassId} {ρ : Nat → Nat → Nat} {x1 : Int32} {Q : Int32 → St → Prop}  {S : St} (C : Cx false p l s m meth c R9 b9_start 3 D ca ρ) (hr : meth.sig.returnType = (some .int))   (hw : wp9_start_45 x1 Q  S) : wm false p l e { frames := 1, cells := 0, slots := 0, locals := 22 } s m args below meth c D ca ρ 3 0 0 (qi false below args s D ca ρ 0 0 Q) 45 [(0, .ref (ρ 9 0)), (1, .int x1)] [.ref (ρ 9 0)] S := by
  unfold wp9_start_45 at hw
  refine r_iconst C (pc := 45) (v := 0) d9_start_45 (by decide) ?_
  refine r_sub (ls' := [(0, .ref (ρ 9 0)), (1, .int x1)]) [0, 1] rfl ?_
  exact nd9_start_46 C hr hw
set_option maxRecDepth 20000 in
theorem ct9_start (l : Launch) (D : va_G) (ca : Nat → ClassId) (ρ : Nat → Nat → Nat) (sz : Nat) {S : St} {x1 : Int32} {Q : Int32 → St → Prop} (hAp : Ap false ρ)  (hw : wp9_start S x1 Q) : Met l y9_start [Cond.code y9_start b9_start 3 (some .int)] { frames := 1, cells := 0, slots := 0, locals := 22 } (va_Pc [.ref (ρ 9 0), .int x1] (PreU false D ca ρ sz S)) (va_Qi Q (PostU false D ca ρ) (Ar false ρ sz)) 0 0 (Ar false ρ sz) := by
  refine met_of_wm (own := R9) (ls0 := [(0, .ref (ρ 9 0)), (1, .int x1)]) rfl rfl hAp (Nat.le_of_ble_eq_true rfl) rfl fun p e s m args below meth c C hr hz => ?_
  subst hz
  unfold wp9_start at hw
  refine r_aload_n C (pc := 0) 0 rfl d9_start_0 ?_
  refine r_iload_n C (pc := 1) 1 rfl d9_start_1 ?_
  refine r_iconst C (pc := 2) (v := 0) d9_start_2 (by decide) ?_
  refine r_iconst C (pc := 3) (v := 5) d9_start_3 (by decide) ?_
  refine r_callSi C (pc := 4) (fun sz => ct9_in l D ca ρ sz C.2.2.2.2.2.2.1 hw) mf9_in w9_92 rfl rfl ⟨Nat.le_of_ble_eq_true rfl, Nat.le_of_ble_eq_true rfl⟩ rfl rfl (Nat.le_of_ble_eq_true rfl) ⟨Nat.zero_le _, Nat.zero_le _⟩ d9_start_4 (fun r1 S1 hw => ?_)
  refine r_iconst C (pc := 7) (v := 1) d9_start_7 (by decide) ?_
  refine r_callVi C (pc := 8) (fun sz => ct9_good l D ca ρ sz C.2.2.2.2.2.2.1 hw) mf9_good w9_100 rfl (Nat.le_of_ble_eq_true rfl) rfl rfl rfl rfl ⟨Nat.le_of_ble_eq_true rfl, Nat.le_of_ble_eq_true rfl⟩ rfl rfl (Nat.le_of_ble_eq_true rfl) ⟨Nat.zero_le _, Nat.zero_le _⟩ d9_start_8 (fun r2 S2 hw => ?_)
  refine r_if_ne C (pc := 11) (tgt := 16) d9_start_11 (by decide) (fun c1 => ?_) (fun c1 => ?_)
  · have hw := hw.1 c1
    refine r_aload_n C (pc := 16) 0 rfl d9_start_16 ?_
    refine r_aload_n C (pc := 17) 0 rfl d9_start_17 ?_
    refine g9_status C (pc := 18) (Nat.le_of_ble_eq_true rfl) w9_104 d9_start_18 ?_
    refine r_iconst C (pc := 21) (v := 1) d9_start_21 (by decide) ?_
    refine r_icmp_eq C (pc := 22) (tgt := 45) d9_start_22 (by decide) (fun c2 => ?_) (fun c2 => ?_)
    · have hw := hw.1 c2
      refine r_sub (ls' := [(0, .ref (ρ 9 0)), (1, .int x1)]) [0, 1] rfl ?_
      exact nd9_start_45 C hr hw
    · have hw := hw.2 c2
      refine r_aload_n C (pc := 25) 0 rfl d9_start_25 ?_
      refine g9_checked C (pc := 26) (Nat.le_of_ble_eq_true rfl) w9_111 d9_start_26 ?_
      refine r_if_eq C (pc := 29) (tgt := 45) d9_start_29 (by decide) (fun c3 => ?_) (fun c3 => ?_)
      · have hw := hw.1 c3
        refine r_sub (ls' := [(0, .ref (ρ 9 0)), (1, .int x1)]) [0, 1] rfl ?_
        exact nd9_start_45 C hr hw
      · have hw := hw.2 c3
        refine r_aload_n C (pc := 32) 0 rfl d9_start_32 ?_
        refine g9_length C (pc := 33) (Nat.le_of_ble_eq_true rfl) w9_25 d9_start_33 ?_
        refine r_iload_n C (pc := 36) 1 rfl d9_start_36 ?_
        have hi4 := hw.1
        have hw := hw.2
        refine ld1905 C (pc := 37) (Nat.le_of_ble_eq_true rfl) hi4 d9_start_37 ?_
        refine r_if_le C (pc := 38) (tgt := 45) d9_start_38 (by decide) (fun c5 => ?_) (fun c5 => ?_)
        · have hw := hw.1 c5
          refine r_sub (ls' := [(0, .ref (ρ 9 0)), (1, .int x1)]) [0, 1] rfl ?_
          exact nd9_start_45 C hr hw
        · have hw := hw.2 c5
          refine r_iconst C (pc := 41) (v := 1) d9_start_41 (by decide) ?_
          refine r_goto C (pc := 42) (tgt := 46) d9_start_42 (by decide) ?_
          refine r_sub (ls' := [(0, .ref (ρ 9 0)), (1, .int x1)]) [0, 1] rfl ?_
          exact nd9_start_46 C hr hw
  · have hw := hw.2 c1
    refine r_iconst C (pc := 14) (v := 0) d9_start_14 (by decide) ?_
    exact r_iret C (pc := 15) hr d9_start_15 hw
set_option maxRecDepth 20000 in
theorem ct9_push (l : Launch) (D : va_G) (ca : Nat → ClassId) (ρ : Nat → Nat → Nat) (sz : Nat) {S : St} {x1 : Int64} {x3 : UInt64} {Q : St → Prop} (hAp : Ap false ρ)  (hw : wp9_push S x1 x3 Q) : Met l y9_push [Cond.code y9_push b9_push 5 none] { frames := 0, cells := 0, slots := 0, locals := 0 } (va_Pc [.ref (ρ 9 0), .long x1, .double x3] (PreU false D ca ρ sz S)) (va_Qv Q (PostU false D ca ρ) (Ar false ρ sz)) 0 0 (Ar false ρ sz) := by
  refine met_of_wm (own := R9) (ls0 := [(0, .ref (ρ 9 0)), (1, .long x1), (3, .double x3)]) rfl rfl hAp (Nat.le_of_ble_eq_true rfl) rfl fun p e s m args below meth c C hr hz => ?_
  subst hz
  unfold wp9_push at hw
  refine r_aload_n C (pc := 0) 0 rfl d9_push_0 ?_
  refine g9_whole C (pc := 1) (Nat.le_of_ble_eq_true rfl) w9_60 d9_push_1 ?_
  refine r_aload_n C (pc := 4) 0 rfl d9_push_4 ?_
  refine g9_height C (pc := 5) (Nat.le_of_ble_eq_true rfl) w9_122 d9_push_5 ?_
  refine r_lload_n C (pc := 8) 1 rfl d9_push_8 ?_
  have hi1 := hw.1
  have hw := hw.2
  refine st1922 C (pc := 9) (Nat.le_of_ble_eq_true rfl) hi1 d9_push_9 ?_
  refine r_S (fun S1 eS1 => ?_)
  have hw := hw S1 eS1
  refine r_aload_n C (pc := 10) 0 rfl d9_push_10 ?_
  refine g9_reals C (pc := 11) (Nat.le_of_ble_eq_true rfl) w9_63 d9_push_11 ?_
  refine r_aload_n C (pc := 14) 0 rfl d9_push_14 ?_
  refine g9_height C (pc := 15) (Nat.le_of_ble_eq_true rfl) w9_122 d9_push_15 ?_
  refine r_dload_n C (pc := 18) 2 rfl d9_push_18 ?_
  have hi2 := hw.1
  have hw := hw.2
  refine st1923 C (pc := 19) (Nat.le_of_ble_eq_true rfl) hi2 d9_push_19 ?_
  refine r_S (fun S2 eS2 => ?_)
  have hw := hw S2 eS2
  refine r_aload_n C (pc := 20) 0 rfl d9_push_20 ?_
  refine r_dup C (pc := 21) rfl d9_push_21 ?_
  refine g9_height C (pc := 22) (Nat.le_of_ble_eq_true rfl) w9_122 d9_push_22 ?_
  refine r_iconst C (pc := 25) (v := 1) d9_push_25 (by decide) ?_
  refine r_iadd C (pc := 26) d9_push_26 ?_
  refine p9_height C (pc := 27) (Nat.le_of_ble_eq_true rfl) w9_122 d9_push_27 ?_
  refine r_S (fun S3 eS3 => ?_)
  have hw := hw S3 eS3
  exact r_vret C (pc := 30) hr d9_push_30 hw
set_option maxRecDepth 20000 in
theorem ct9_popInt (l : Launch) (D : va_G) (ca : Nat → ClassId) (ρ : Nat → Nat → Nat) (sz : Nat) {S : St}  {Q : Int32 → St → Prop} (hAp : Ap false ρ)  (hw : wp9_popInt S Q) : Met l y9_popInt [Cond.code y9_popInt b9_popInt 1 (some .int)] { frames := 0, cells := 0, slots := 0, locals := 0 } (va_Pc [.ref (ρ 9 0)] (PreU false D ca ρ sz S)) (va_Qi Q (PostU false D ca ρ) (Ar false ρ sz)) 0 0 (Ar false ρ sz) := by
  refine met_of_wm (own := R9) (ls0 := [(0, .ref (ρ 9 0))]) rfl rfl hAp (Nat.le_of_ble_eq_true rfl) rfl fun p e s m args below meth c C hr hz => ?_
  subst hz
  unfold wp9_popInt at hw
  refine r_aload_n C (pc := 0) 0 rfl d9_popInt_0 ?_
  refine r_dup C (pc := 1) rfl d9_popInt_1 ?_
  refine g9_height C (pc := 2) (Nat.le_of_ble_eq_true rfl) w9_122 d9_popInt_2 ?_
  refine r_iconst C (pc := 5) (v := 1) d9_popInt_5 (by decide) ?_
  refine r_isub C (pc := 6) d9_popInt_6 ?_
  refine p9_height C (pc := 7) (Nat.le_of_ble_eq_true rfl) w9_122 d9_popInt_7 ?_
  refine r_S (fun S1 eS1 => ?_)
  have hw := hw S1 eS1
  refine r_aload_n C (pc := 10) 0 rfl d9_popInt_10 ?_
  refine g9_whole C (pc := 11) (Nat.le_of_ble_eq_true rfl) w9_60 d9_popInt_11 ?_
  refine r_aload_n C (pc := 14) 0 rfl d9_popInt_14 ?_
  refine g9_height C (pc := 15) (Nat.le_of_ble_eq_true rfl) w9_122 d9_popInt_15 ?_
  have hi1 := hw.1
  have hw := hw.2
  refine ld1922 C (pc := 18) (Nat.le_of_ble_eq_true rfl) hi1 d9_popInt_18 ?_
  refine r_l2i C (pc := 19) d9_popInt_19 ?_
  exact r_iret C (pc := 20) hr d9_popInt_20 hw
set_option maxRecDepth 20000 in
theorem nd9_leave_66 {p : Program} {l : Launch} {e : Env} {s : State} {m : MethodId} {args : Array Value} {below : List Frame} {meth : Method} {c : Code} {D : va_G} {ca : Nat → ClassId} {ρ : Nat → Nat → Nat}  {Q : St → Prop} {x1 : Int32} {x2 : Int32} {x3 : Int64} {s0 : UInt64} {S : St} (C : Cx false p l s m meth c R9 b9_leave 7 D ca ρ) (hr : meth.sig.returnType = none)   (hw : wp9_leave_66  Q x1 x2 x3 s0 S) : wm false p l e { frames := 1, cells := 0, slots := 0, locals := 24 } s m args below meth c D ca ρ 7 0 0 (qv false below args s D ca ρ 0 0 Q) 66 [(0, .ref (ρ 9 0)), (1, .int x1), (2, .int x2), (3, .long x3)] [.double s0] S := by
  unfold wp9_leave_66 at hw
  refine r_dstore C (pc := 66) (ls' := [(5, .double s0), (0, .ref (ρ 9 0)), (1, .int x1), (2, .int x2), (3, .long x3)]) (Nat.le_of_ble_eq_true rfl) rfl d9_leave_66 ?_
  refine r_aload_n C (pc := 68) 1 rfl d9_leave_68 ?_
  refine r_aload_n C (pc := 69) 1 rfl d9_leave_69 ?_
  refine g9_frameBase C (pc := 70) (Nat.le_of_ble_eq_true rfl) w9_50 d9_leave_70 ?_
  refine r_aload_n C (pc := 73) 1 rfl d9_leave_73 ?_
  refine g9_callFrames C (pc := 74) (Nat.le_of_ble_eq_true rfl) w9_82 d9_leave_74 ?_
  refine r_aload_n C (pc := 77) 1 rfl d9_leave_77 ?_
  refine g9_calls C (pc := 78) (Nat.le_of_ble_eq_true rfl) w9_190 d9_leave_78 ?_
  refine r_iconst C (pc := 81) (v := 1) d9_leave_81 (by decide) ?_
  refine r_isub C (pc := 82) d9_leave_82 ?_
  have hi1 := hw.1
  have hw := hw.2
  refine ld1929 C (pc := 83) (Nat.le_of_ble_eq_true rfl) hi1 d9_leave_83 ?_
  have hi2 := hw.1
  have hw := hw.2
  refine ld1917 C (pc := 84) (Nat.le_of_ble_eq_true rfl) hi2 d9_leave_84 ?_
  refine p9_height C (pc := 85) (Nat.le_of_ble_eq_true rfl) w9_122 d9_leave_85 ?_
  refine r_S (fun S1 eS1 => ?_)
  have hw := hw S1 eS1
  refine r_aload_n C (pc := 88) 1 rfl d9_leave_88 ?_
  refine r_aload_n C (pc := 89) 1 rfl d9_leave_89 ?_
  refine g9_callFrames C (pc := 90) (Nat.le_of_ble_eq_true rfl) w9_82 d9_leave_90 ?_
  refine r_aload_n C (pc := 93) 1 rfl d9_leave_93 ?_
  refine g9_calls C (pc := 94) (Nat.le_of_ble_eq_true rfl) w9_190 d9_leave_94 ?_
  refine r_iconst C (pc := 97) (v := 1) d9_leave_97 (by decide) ?_
  refine r_isub C (pc := 98) d9_leave_98 ?_
  have hi3 := hw.1
  have hw := hw.2
  refine ld1929 C (pc := 99) (Nat.le_of_ble_eq_true rfl) hi3 d9_leave_99 ?_
  refine p9_frames C (pc := 100) (Nat.le_of_ble_eq_true rfl) w9_128 d9_leave_100 ?_
  refine r_S (fun S2 eS2 => ?_)
  have hw := hw S2 eS2
  refine r_aload_n C (pc := 103) 1 rfl d9_leave_103 ?_
  refine r_aload_n C (pc := 104) 1 rfl d9_leave_104 ?_
  refine g9_callBack C (pc := 105) (Nat.le_of_ble_eq_true rfl) w9_79 d9_leave_105 ?_
  refine r_aload_n C (pc := 108) 1 rfl d9_leave_108 ?_
  refine g9_calls C (pc := 109) (Nat.le_of_ble_eq_true rfl) w9_190 d9_leave_109 ?_
  refine r_iconst C (pc := 112) (v := 1) d9_leave_112 (by decide) ?_
  refine r_isub C (pc := 113) d9_leave_113 ?_
  have hi4 := hw.1
  have hw := hw.2
  refine ld1928 C (pc := 114) (Nat.le_of_ble_eq_true rfl) hi4 d9_leave_114 ?_
  refine p9_at C (pc := 115) (Nat.le_of_ble_eq_true rfl) w9_193 d9_leave_115 ?_
  refine r_S (fun S3 eS3 => ?_)
  have hw := hw S3 eS3
  refine r_aload_n C (pc := 118) 1 rfl d9_leave_118 ?_
  refine r_dup C (pc := 119) rfl d9_leave_119 ?_
  refine g9_calls C (pc := 120) (Nat.le_of_ble_eq_true rfl) w9_190 d9_leave_120 ?_
  refine r_iconst C (pc := 123) (v := 1) d9_leave_123 (by decide) ?_
  refine r_isub C (pc := 124) d9_leave_124 ?_
  refine p9_calls C (pc := 125) (Nat.le_of_ble_eq_true rfl) w9_190 d9_leave_125 ?_
  refine r_S (fun S4 eS4 => ?_)
  have hw := hw S4 eS4
  refine r_aload_n C (pc := 128) 1 rfl d9_leave_128 ?_
  refine g9_calls C (pc := 129) (Nat.le_of_ble_eq_true rfl) w9_190 d9_leave_129 ?_
  refine r_if_ne C (pc := 132) (tgt := 164) d9_leave_132 (by decide) (fun c5 => ?_) (fun c5 => ?_)
  · have hw := hw.1 c5
    refine r_iload_n C (pc := 164) 3 rfl d9_leave_164 ?_
    refine r_if_eq C (pc := 165) (tgt := 175) d9_leave_165 (by decide) (fun c6 => ?_) (fun c6 => ?_)
    · have hw := hw.1 c6
      exact r_vret C (pc := 175) hr d9_leave_175 hw
    · have hw := hw.2 c6
      refine r_aload_n C (pc := 168) 1 rfl d9_leave_168 ?_
      refine r_lload_n C (pc := 169) 4 rfl d9_leave_169 ?_
      refine r_dload C (pc := 170) 0 rfl d9_leave_170 ?_
      refine r_callVv C (pc := 172) (fun sz => ct9_push l D ca ρ sz C.2.2.2.2.2.2.1 hw) mf9_push w9_215 rfl (Nat.le_of_ble_eq_true rfl) rfl rfl rfl rfl ⟨Nat.le_of_ble_eq_true rfl, Nat.le_of_ble_eq_true rfl⟩ rfl rfl (Nat.le_of_ble_eq_true rfl) ⟨Nat.zero_le _, Nat.zero_le _⟩ d9_leave_172 (fun S5 hw => ?_)
      exact r_vret C (pc := 175) hr d9_leave_175 hw
  · have hw := hw.2 c5
    refine r_aload_n C (pc := 135) 1 rfl d9_leave_135 ?_
    refine r_iconst C (pc := 136) (v := 2) d9_leave_136 (by decide) ?_
    refine p9_status C (pc := 137) (Nat.le_of_ble_eq_true rfl) w9_104 d9_leave_137 ?_
    refine r_S (fun S6 eS6 => ?_)
    have hw := hw S6 eS6
    refine r_aload_n C (pc := 140) 1 rfl d9_leave_140 ?_
    refine r_aload_n C (pc := 141) 1 rfl d9_leave_141 ?_
    refine g9_result C (pc := 142) (Nat.le_of_ble_eq_true rfl) w9_19 d9_leave_142 ?_
    refine r_iload_n C (pc := 145) 2 rfl d9_leave_145 ?_
    have hi7 := hw.1
    have hw := hw.2
    refine ld1903 C (pc := 146) (Nat.le_of_ble_eq_true rfl) hi7 d9_leave_146 ?_
    refine p9_resultKind C (pc := 147) (Nat.le_of_ble_eq_true rfl) w9_204 d9_leave_147 ?_
    refine r_S (fun S7 eS7 => ?_)
    have hw := hw S7 eS7
    refine r_aload_n C (pc := 150) 1 rfl d9_leave_150 ?_
    refine r_lload_n C (pc := 151) 4 rfl d9_leave_151 ?_
    refine p9_resultWhole C (pc := 152) (Nat.le_of_ble_eq_true rfl) w9_207 d9_leave_152 ?_
    refine r_S (fun S8 eS8 => ?_)
    have hw := hw S8 eS8
    refine r_aload_n C (pc := 155) 1 rfl d9_leave_155 ?_
    refine r_dload C (pc := 156) 0 rfl d9_leave_156 ?_
    refine p9_resultReal C (pc := 158) (Nat.le_of_ble_eq_true rfl) w9_211 d9_leave_158 ?_
    refine r_S (fun S9 eS9 => ?_)
    have hw := hw S9 eS9
    refine r_goto C (pc := 161) (tgt := 175) d9_leave_161 (by decide) ?_
    exact r_vret C (pc := 175) hr d9_leave_175 hw
set_option maxRecDepth 20000 in
theorem nd9_leave_46 {p : Program} {l : Launch} {e : Env} {s : State} {m : MethodId} {args : Array Value} {below : List Frame} {meth : Method} {c : Code} {D : va_G} {ca : Nat → ClassId} {ρ : Nat → Nat → Nat}  {Q : St → Prop} {x1 : Int32} {x2 : Int32} {s0 : Int64} {S : St} (C : Cx false p l s m meth c R9 b9_leave 7 D ca ρ) (hr : meth.sig.returnType = none)   (hw : wp9_leave_46  Q x1 x2 s0 S) : wm false p l e { frames := 1, cells := 0, slots := 0, locals := 24 } s m args below meth c D ca ρ 7 0 0 (qv false below args s D ca ρ 0 0 Q) 46 [(0, .ref (ρ 9 0)), (1, .int x1), (2, .int x2)] [.long s0] S := by
  unfold wp9_leave_46 at hw
  refine r_lstore_n C (pc := 46) (ls' := [(3, .long s0), (0, .ref (ρ 9 0)), (1, .int x1), (2, .int x2)]) (Nat.le_of_ble_eq_true rfl) rfl d9_leave_46 ?_
  refine r_iload_n C (pc := 47) 3 rfl d9_leave_47 ?_
  refine r_if_eq C (pc := 48) (tgt := 65) d9_leave_48 (by decide) (fun c1 => ?_) (fun c1 => ?_)
  · have hw := hw.1 c1
    refine r_dconst0 C (pc := 65) d9_leave_65 ?_
    refine r_sub (ls' := [(0, .ref (ρ 9 0)), (1, .int x1), (2, .int x2), (3, .long s0)]) [1, 2, 3, 0] rfl ?_
    exact nd9_leave_66 C hr hw
  · have hw := hw.2 c1
    refine r_aload_n C (pc := 51) 1 rfl d9_leave_51 ?_
    refine g9_reals C (pc := 52) (Nat.le_of_ble_eq_true rfl) w9_63 d9_leave_52 ?_
    refine r_aload_n C (pc := 55) 1 rfl d9_leave_55 ?_
    refine g9_height C (pc := 56) (Nat.le_of_ble_eq_true rfl) w9_122 d9_leave_56 ?_
    refine r_iconst C (pc := 59) (v := 1) d9_leave_59 (by decide) ?_
    refine r_isub C (pc := 60) d9_leave_60 ?_
    have hi2 := hw.1
    have hw := hw.2
    refine ld1923 C (pc := 61) (Nat.le_of_ble_eq_true rfl) hi2 d9_leave_61 ?_
    refine r_goto C (pc := 62) (tgt := 66) d9_leave_62 (by decide) ?_
    refine r_sub (ls' := [(0, .ref (ρ 9 0)), (1, .int x1), (2, .int x2), (3, .long s0)]) [1, 2, 3, 0] rfl ?_
    exact nd9_leave_66 C hr hw
set_option maxRecDepth 20000 in
theorem nd9_leave_26 {p : Program} {l : Launch} {e : Env} {s : State} {m : MethodId} {args : Array Value} {below : List Frame} {meth : Method} {c : Code} {D : va_G} {ca : Nat → ClassId} {ρ : Nat → Nat → Nat}  {Q : St → Prop} {x1 : Int32} {s0 : Int32} {S : St} (C : Cx false p l s m meth c R9 b9_leave 7 D ca ρ) (hr : meth.sig.returnType = none)   (hw : wp9_leave_26  Q x1 s0 S) : wm false p l e { frames := 1, cells := 0, slots := 0, locals := 24 } s m args below meth c D ca ρ 7 0 0 (qv false below args s D ca ρ 0 0 Q) 26 [(0, .ref (ρ 9 0)), (1, .int x1)] [.int s0] S := by
  unfold wp9_leave_26 at hw
  refine r_istore_n C (pc := 26) (ls' := [(2, .int s0), (0, .ref (ρ 9 0)), (1, .int x1)]) (Nat.le_of_ble_eq_true rfl) rfl d9_leave_26 ?_
  refine r_iload_n C (pc := 27) 0 rfl d9_leave_27 ?_
  refine r_if_eq C (pc := 28) (tgt := 45) d9_leave_28 (by decide) (fun c1 => ?_) (fun c1 => ?_)
  · have hw := hw.1 c1
    refine r_lconst C (pc := 45) (v := 0) d9_leave_45 (by decide) ?_
    refine r_sub (ls' := [(0, .ref (ρ 9 0)), (1, .int x1), (2, .int s0)]) [1, 2, 0] rfl ?_
    exact nd9_leave_46 C hr hw
  · have hw := hw.2 c1
    refine r_aload_n C (pc := 31) 1 rfl d9_leave_31 ?_
    refine g9_whole C (pc := 32) (Nat.le_of_ble_eq_true rfl) w9_60 d9_leave_32 ?_
    refine r_aload_n C (pc := 35) 1 rfl d9_leave_35 ?_
    refine g9_height C (pc := 36) (Nat.le_of_ble_eq_true rfl) w9_122 d9_leave_36 ?_
    refine r_iconst C (pc := 39) (v := 1) d9_leave_39 (by decide) ?_
    refine r_isub C (pc := 40) d9_leave_40 ?_
    have hi2 := hw.1
    have hw := hw.2
    refine ld1922 C (pc := 41) (Nat.le_of_ble_eq_true rfl) hi2 d9_leave_41 ?_
    refine r_goto C (pc := 42) (tgt := 46) d9_leave_42 (by decide) ?_
    refine r_sub (ls' := [(0, .ref (ρ 9 0)), (1, .int x1), (2, .int s0)]) [1, 2, 0] rfl ?_
    exact nd9_leave_46 C hr hw
set_option maxRecDepth 20000 in
theorem ct9_leave (l : Launch) (D : va_G) (ca : Nat → ClassId) (ρ : Nat → Nat → Nat) (sz : Nat) {S : St}  {Q : St → Prop} (hAp : Ap false ρ)  (hw : wp9_leave S Q) : Met l y9_leave [Cond.code y9_leave b9_leave 7 none] { frames := 1, cells := 0, slots := 0, locals := 24 } (va_Pc [.ref (ρ 9 0)] (PreU false D ca ρ sz S)) (va_Qv Q (PostU false D ca ρ) (Ar false ρ sz)) 0 0 (Ar false ρ sz) := by
  refine met_of_wm (own := R9) (ls0 := [(0, .ref (ρ 9 0))]) rfl rfl hAp (Nat.le_of_ble_eq_true rfl) rfl fun p e s m args below meth c C hr hz => ?_
  subst hz
  unfold wp9_leave at hw
  refine r_aload_n C (pc := 0) 0 rfl d9_leave_0 ?_
  refine g9_callFunction C (pc := 1) (Nat.le_of_ble_eq_true rfl) w9_76 d9_leave_1 ?_
  refine r_aload_n C (pc := 4) 0 rfl d9_leave_4 ?_
  refine g9_calls C (pc := 5) (Nat.le_of_ble_eq_true rfl) w9_190 d9_leave_5 ?_
  refine r_iconst C (pc := 8) (v := 1) d9_leave_8 (by decide) ?_
  refine r_isub C (pc := 9) d9_leave_9 ?_
  have hi1 := hw.1
  have hw := hw.2
  refine ld1927 C (pc := 10) (Nat.le_of_ble_eq_true rfl) hi1 d9_leave_10 ?_
  refine r_topi (fun x1_1 ex1_1 => ?_)
  have hw := hw x1_1 ex1_1
  refine r_istore_n C (pc := 11) (ls' := [(1, .int x1_1), (0, .ref (ρ 9 0))]) (Nat.le_of_ble_eq_true rfl) rfl d9_leave_11 ?_
  refine r_aload_n C (pc := 12) 1 rfl d9_leave_12 ?_
  refine g9_result C (pc := 13) (Nat.le_of_ble_eq_true rfl) w9_19 d9_leave_13 ?_
  refine r_iload_n C (pc := 16) 0 rfl d9_leave_16 ?_
  have hi2 := hw.1
  have hw := hw.2
  refine ld1903 C (pc := 17) (Nat.le_of_ble_eq_true rfl) hi2 d9_leave_17 ?_
  refine r_if_eq C (pc := 18) (tgt := 25) d9_leave_18 (by decide) (fun c3 => ?_) (fun c3 => ?_)
  · have hw := hw.1 c3
    refine r_iconst C (pc := 25) (v := 0) d9_leave_25 (by decide) ?_
    refine r_sub (ls' := [(0, .ref (ρ 9 0)), (1, .int x1_1)]) [1, 0] rfl ?_
    exact nd9_leave_26 C hr hw
  · have hw := hw.2 c3
    refine r_iconst C (pc := 21) (v := 1) d9_leave_21 (by decide) ?_
    refine r_goto C (pc := 22) (tgt := 26) d9_leave_22 (by decide) ?_
    refine r_sub (ls' := [(0, .ref (ρ 9 0)), (1, .int x1_1)]) [1, 0] rfl ?_
    exact nd9_leave_26 C hr hw
set_option maxRecDepth 20000 in
theorem nd9_jump_159 {p : Program} {l : Launch} {e : Env} {s : State} {m : MethodId} {args : Array Value} {below : List Frame} {meth : Method} {c : Code} {D : va_G} {ca : Nat → ClassId} {ρ : Nat → Nat → Nat} {x1 : Int32} {Q : St → Prop} {x2 : Int32} {x3 : Int32} {x4 : Int32} {s1 : Int32} {S : St} (C : Cx false p l s m meth c R9 b9_jump 10 D ca ρ) (hr : meth.sig.returnType = none)   (hw : wp9_jump_159 x1 Q x2 x3 x4 s1 S) : wm false p l e { frames := 3, cells := 0, slots := 0, locals := 70 } s m args below meth c D ca ρ 10 0 0 (qv false below args s D ca ρ 0 0 Q) 159 [(0, .ref (ρ 9 0)), (2, .int x2), (3, .int x3), (4, .int x4)] [.int s1, .ref (ρ 9 0)] S := by
  unfold wp9_jump_159 at hw
  refine p9_frames C (pc := 159) (Nat.le_of_ble_eq_true rfl) w9_128 d9_jump_159 ?_
  refine r_S (fun S1 eS1 => ?_)
  have hw := hw S1 eS1
  refine r_aload_n C (pc := 162) 0 rfl d9_jump_162 ?_
  refine r_iload C (pc := 163) 3 rfl d9_jump_163 ?_
  refine r_if_eq C (pc := 165) (tgt := 177) d9_jump_165 (by decide) (fun c1 => ?_) (fun c1 => ?_)
  · have hw := hw.1 c1
    refine r_aload_n C (pc := 177) 0 rfl d9_jump_177 ?_
    refine r_iload_n C (pc := 178) 2 rfl d9_jump_178 ?_
    refine r_aload_n C (pc := 179) 0 rfl d9_jump_179 ?_
    refine g9_frameStart C (pc := 180) (Nat.le_of_ble_eq_true rfl) w9_67 d9_jump_180 ?_
    refine r_iload_n C (pc := 183) 1 rfl d9_jump_183 ?_
    have hi2 := hw.1
    have hw := hw.2
    refine ld1924 C (pc := 184) (Nat.le_of_ble_eq_true rfl) hi2 d9_jump_184 ?_
    refine r_iconst C (pc := 185) (v := 0) d9_jump_185 (by decide) ?_
    refine r_callVi C (pc := 186) (fun sz => ct9_seek l D ca ρ sz C.2.2.2.2.2.2.1 hw) mf9_seek w9_222 rfl (Nat.le_of_ble_eq_true rfl) rfl rfl rfl rfl ⟨Nat.le_of_ble_eq_true rfl, Nat.le_of_ble_eq_true rfl⟩ rfl rfl (Nat.le_of_ble_eq_true rfl) ⟨Nat.zero_le _, Nat.zero_le _⟩ d9_jump_186 (fun r1 S2 hw => ?_)
    refine r_iconst C (pc := 189) (v := 1) d9_jump_189 (by decide) ?_
    refine r_iadd C (pc := 190) d9_jump_190 ?_
    refine p9_at C (pc := 191) (Nat.le_of_ble_eq_true rfl) w9_193 d9_jump_191 ?_
    refine r_S (fun S3 eS3 => ?_)
    have hw := hw S3 eS3
    exact r_vret C (pc := 194) hr d9_jump_194 hw
  · have hw := hw.2 c1
    refine r_aload_n C (pc := 168) 0 rfl d9_jump_168 ?_
    refine g9_frameStart C (pc := 169) (Nat.le_of_ble_eq_true rfl) w9_67 d9_jump_169 ?_
    refine r_iload_n C (pc := 172) 1 rfl d9_jump_172 ?_
    have hi3 := hw.1
    have hw := hw.2
    refine ld1924 C (pc := 173) (Nat.le_of_ble_eq_true rfl) hi3 d9_jump_173 ?_
    refine r_goto C (pc := 174) (tgt := 191) d9_jump_174 (by decide) ?_
    refine p9_at C (pc := 191) (Nat.le_of_ble_eq_true rfl) w9_193 d9_jump_191 ?_
    refine r_S (fun S4 eS4 => ?_)
    have hw := hw S4 eS4
    exact r_vret C (pc := 194) hr d9_jump_194 hw
set_option maxRecDepth 20000 in
theorem nd9_jump_146 {p : Program} {l : Launch} {e : Env} {s : State} {m : MethodId} {args : Array Value} {below : List Frame} {meth : Method} {c : Code} {D : va_G} {ca : Nat → ClassId} {ρ : Nat → Nat → Nat} {x1 : Int32} {Q : St → Prop} {x2 : Int32} {x3 : Int32} {x4 : Int32} {S : St} (C : Cx false p l s m meth c R9 b9_jump 10 D ca ρ) (hr : meth.sig.returnType = none)   (hw : wp9_jump_146 x1 Q x2 x3 x4 S) : wm false p l e { frames := 3, cells := 0, slots := 0, locals := 70 } s m args below meth c D ca ρ 10 0 0 (qv false below args s D ca ρ 0 0 Q) 146 [(0, .ref (ρ 9 0)), (2, .int x2), (3, .int x3), (4, .int x4)] [] S := by
  unfold wp9_jump_146 at hw
  refine r_aload_n C (pc := 146) 0 rfl d9_jump_146 ?_
  refine r_iload C (pc := 147) 3 rfl d9_jump_147 ?_
  refine r_if_eq C (pc := 149) (tgt := 158) d9_jump_149 (by decide) (fun c1 => ?_) (fun c1 => ?_)
  · have hw := hw.1 c1
    refine r_iload_n C (pc := 158) 1 rfl d9_jump_158 ?_
    refine r_sub (ls' := [(0, .ref (ρ 9 0)), (2, .int x2), (3, .int x3), (4, .int x4)]) [0, 1, 2, 3] rfl ?_
    exact nd9_jump_159 C hr hw
  · have hw := hw.2 c1
    refine r_iload_n C (pc := 152) 1 rfl d9_jump_152 ?_
    refine r_iconst C (pc := 153) (v := 1) d9_jump_153 (by decide) ?_
    refine r_iadd C (pc := 154) d9_jump_154 ?_
    refine r_goto C (pc := 155) (tgt := 159) d9_jump_155 (by decide) ?_
    refine r_sub (ls' := [(0, .ref (ρ 9 0)), (2, .int x2), (3, .int x3), (4, .int x4)]) [0, 1, 2, 3] rfl ?_
    exact nd9_jump_159 C hr hw
set_option maxRecDepth 20000 in
theorem nd9_jump_121 {p : Program} {l : Launch} {e : Env} {s : State} {m : MethodId} {args : Array Value} {below : List Frame} {meth : Method} {c : Code} {D : va_G} {ca : Nat → ClassId} {ρ : Nat → Nat → Nat} {x1 : Int32} {Q : St → Prop} {x2 : Int32} {x3 : Int32} {x4 : Int32} {x5 : Int32} {x6 : Int64} {s0 : UInt64} {S : St} (C : Cx false p l s m meth c R9 b9_jump 10 D ca ρ) (hr : meth.sig.returnType = none)   (hw : wp9_jump_121 x1 Q x2 x3 x4 x5 x6 s0 S) : wm false p l e { frames := 3, cells := 0, slots := 0, locals := 70 } s m args below meth c D ca ρ 10 0 0 (qv false below args s D ca ρ 0 0 Q) 121 [(0, .ref (ρ 9 0)), (2, .int x2), (3, .int x3), (4, .int x4), (5, .int x5), (6, .long x6)] [.double s0] S := by
  unfold wp9_jump_121 at hw
  refine r_dstore C (pc := 121) (ls' := [(8, .double s0), (0, .ref (ρ 9 0)), (2, .int x2), (3, .int x3), (4, .int x4), (5, .int x5), (6, .long x6)]) (Nat.le_of_ble_eq_true rfl) rfl d9_jump_121 ?_
  refine r_aload_n C (pc := 123) 1 rfl d9_jump_123 ?_
  refine r_aload_n C (pc := 124) 1 rfl d9_jump_124 ?_
  refine g9_frameBase C (pc := 125) (Nat.le_of_ble_eq_true rfl) w9_50 d9_jump_125 ?_
  refine r_iload_n C (pc := 128) 2 rfl d9_jump_128 ?_
  have hi1 := hw.1
  have hw := hw.2
  refine ld1917 C (pc := 129) (Nat.le_of_ble_eq_true rfl) hi1 d9_jump_129 ?_
  refine p9_height C (pc := 130) (Nat.le_of_ble_eq_true rfl) w9_122 d9_jump_130 ?_
  refine r_S (fun S1 eS1 => ?_)
  have hw := hw S1 eS1
  refine r_iload C (pc := 133) 5 rfl d9_jump_133 ?_
  refine r_if_eq C (pc := 135) (tgt := 146) d9_jump_135 (by decide) (fun c2 => ?_) (fun c2 => ?_)
  · have hw := hw.1 c2
    refine r_sub (ls' := [(0, .ref (ρ 9 0)), (2, .int x2), (3, .int x3), (4, .int x4)]) [1, 2, 3, 4] rfl ?_
    exact nd9_jump_146 C hr hw
  · have hw := hw.2 c2
    refine r_aload_n C (pc := 138) 1 rfl d9_jump_138 ?_
    refine r_lload C (pc := 139) 6 rfl d9_jump_139 ?_
    refine r_dload C (pc := 141) 0 rfl d9_jump_141 ?_
    refine r_callVv C (pc := 143) (fun sz => ct9_push l D ca ρ sz C.2.2.2.2.2.2.1 hw) mf9_push w9_215 rfl (Nat.le_of_ble_eq_true rfl) rfl rfl rfl rfl ⟨Nat.le_of_ble_eq_true rfl, Nat.le_of_ble_eq_true rfl⟩ rfl rfl (Nat.le_of_ble_eq_true rfl) ⟨Nat.zero_le _, Nat.zero_le _⟩ d9_jump_143 (fun S2 hw => ?_)
    refine r_sub (ls' := [(0, .ref (ρ 9 0)), (2, .int x2), (3, .int x3), (4, .int x4)]) [1, 2, 3, 4] rfl ?_
    exact nd9_jump_146 C hr hw
set_option maxRecDepth 20000 in
theorem nd9_jump_99 {p : Program} {l : Launch} {e : Env} {s : State} {m : MethodId} {args : Array Value} {below : List Frame} {meth : Method} {c : Code} {D : va_G} {ca : Nat → ClassId} {ρ : Nat → Nat → Nat} {x1 : Int32} {Q : St → Prop} {x2 : Int32} {x3 : Int32} {x4 : Int32} {x5 : Int32} {s0 : Int64} {S : St} (C : Cx false p l s m meth c R9 b9_jump 10 D ca ρ) (hr : meth.sig.returnType = none)   (hw : wp9_jump_99 x1 Q x2 x3 x4 x5 s0 S) : wm false p l e { frames := 3, cells := 0, slots := 0, locals := 70 } s m args below meth c D ca ρ 10 0 0 (qv false below args s D ca ρ 0 0 Q) 99 [(0, .ref (ρ 9 0)), (2, .int x2), (3, .int x3), (4, .int x4), (5, .int x5)] [.long s0] S := by
  unfold wp9_jump_99 at hw
  refine r_lstore C (pc := 99) (ls' := [(6, .long s0), (0, .ref (ρ 9 0)), (2, .int x2), (3, .int x3), (4, .int x4), (5, .int x5)]) (Nat.le_of_ble_eq_true rfl) rfl d9_jump_99 ?_
  refine r_iload C (pc := 101) 5 rfl d9_jump_101 ?_
  refine r_if_eq C (pc := 103) (tgt := 120) d9_jump_103 (by decide) (fun c1 => ?_) (fun c1 => ?_)
  · have hw := hw.1 c1
    refine r_dconst0 C (pc := 120) d9_jump_120 ?_
    refine r_sub (ls' := [(0, .ref (ρ 9 0)), (2, .int x2), (3, .int x3), (4, .int x4), (5, .int x5), (6, .long s0)]) [1, 2, 3, 4, 5, 0] rfl ?_
    exact nd9_jump_121 C hr hw
  · have hw := hw.2 c1
    refine r_aload_n C (pc := 106) 1 rfl d9_jump_106 ?_
    refine g9_reals C (pc := 107) (Nat.le_of_ble_eq_true rfl) w9_63 d9_jump_107 ?_
    refine r_aload_n C (pc := 110) 1 rfl d9_jump_110 ?_
    refine g9_height C (pc := 111) (Nat.le_of_ble_eq_true rfl) w9_122 d9_jump_111 ?_
    refine r_iconst C (pc := 114) (v := 1) d9_jump_114 (by decide) ?_
    refine r_isub C (pc := 115) d9_jump_115 ?_
    have hi2 := hw.1
    have hw := hw.2
    refine ld1923 C (pc := 116) (Nat.le_of_ble_eq_true rfl) hi2 d9_jump_116 ?_
    refine r_goto C (pc := 117) (tgt := 121) d9_jump_117 (by decide) ?_
    refine r_sub (ls' := [(0, .ref (ρ 9 0)), (2, .int x2), (3, .int x3), (4, .int x4), (5, .int x5), (6, .long s0)]) [1, 2, 3, 4, 5, 0] rfl ?_
    exact nd9_jump_121 C hr hw
set_option maxRecDepth 20000 in
theorem nd9_jump_77 {p : Program} {l : Launch} {e : Env} {s : State} {m : MethodId} {args : Array Value} {below : List Frame} {meth : Method} {c : Code} {D : va_G} {ca : Nat → ClassId} {ρ : Nat → Nat → Nat} {x1 : Int32} {Q : St → Prop} {x2 : Int32} {x3 : Int32} {x4 : Int32} {s0 : Int32} {S : St} (C : Cx false p l s m meth c R9 b9_jump 10 D ca ρ) (hr : meth.sig.returnType = none)   (hw : wp9_jump_77 x1 Q x2 x3 x4 s0 S) : wm false p l e { frames := 3, cells := 0, slots := 0, locals := 70 } s m args below meth c D ca ρ 10 0 0 (qv false below args s D ca ρ 0 0 Q) 77 [(0, .ref (ρ 9 0)), (2, .int x2), (3, .int x3), (4, .int x4)] [.int s0] S := by
  unfold wp9_jump_77 at hw
  refine r_istore C (pc := 77) (ls' := [(5, .int s0), (0, .ref (ρ 9 0)), (2, .int x2), (3, .int x3), (4, .int x4)]) (Nat.le_of_ble_eq_true rfl) rfl d9_jump_77 ?_
  refine r_iload C (pc := 79) 0 rfl d9_jump_79 ?_
  refine r_if_eq C (pc := 81) (tgt := 98) d9_jump_81 (by decide) (fun c1 => ?_) (fun c1 => ?_)
  · have hw := hw.1 c1
    refine r_lconst C (pc := 98) (v := 0) d9_jump_98 (by decide) ?_
    refine r_sub (ls' := [(0, .ref (ρ 9 0)), (2, .int x2), (3, .int x3), (4, .int x4), (5, .int s0)]) [1, 2, 3, 4, 0] rfl ?_
    exact nd9_jump_99 C hr hw
  · have hw := hw.2 c1
    refine r_aload_n C (pc := 84) 1 rfl d9_jump_84 ?_
    refine g9_whole C (pc := 85) (Nat.le_of_ble_eq_true rfl) w9_60 d9_jump_85 ?_
    refine r_aload_n C (pc := 88) 1 rfl d9_jump_88 ?_
    refine g9_height C (pc := 89) (Nat.le_of_ble_eq_true rfl) w9_122 d9_jump_89 ?_
    refine r_iconst C (pc := 92) (v := 1) d9_jump_92 (by decide) ?_
    refine r_isub C (pc := 93) d9_jump_93 ?_
    have hi2 := hw.1
    have hw := hw.2
    refine ld1922 C (pc := 94) (Nat.le_of_ble_eq_true rfl) hi2 d9_jump_94 ?_
    refine r_goto C (pc := 95) (tgt := 99) d9_jump_95 (by decide) ?_
    refine r_sub (ls' := [(0, .ref (ρ 9 0)), (2, .int x2), (3, .int x3), (4, .int x4), (5, .int s0)]) [1, 2, 3, 4, 0] rfl ?_
    exact nd9_jump_99 C hr hw
set_option maxRecDepth 20000 in
theorem nd9_jump_76 {p : Program} {l : Launch} {e : Env} {s : State} {m : MethodId} {args : Array Value} {below : List Frame} {meth : Method} {c : Code} {D : va_G} {ca : Nat → ClassId} {ρ : Nat → Nat → Nat} {x1 : Int32} {Q : St → Prop} {x2 : Int32} {x3 : Int32} {x4 : Int32} {S : St} (C : Cx false p l s m meth c R9 b9_jump 10 D ca ρ) (hr : meth.sig.returnType = none)   (hw : wp9_jump_76 x1 Q x2 x3 x4 S) : wm false p l e { frames := 3, cells := 0, slots := 0, locals := 70 } s m args below meth c D ca ρ 10 0 0 (qv false below args s D ca ρ 0 0 Q) 76 [(0, .ref (ρ 9 0)), (2, .int x2), (3, .int x3), (4, .int x4)] [] S := by
  unfold wp9_jump_76 at hw
  refine r_iconst C (pc := 76) (v := 0) d9_jump_76 (by decide) ?_
  refine r_sub (ls' := [(0, .ref (ρ 9 0)), (2, .int x2), (3, .int x3), (4, .int x4)]) [0, 1, 2, 3] rfl ?_
  exact nd9_jump_77 C hr hw
set_option maxRecDepth 20000 in
theorem nd9_jump_56 {p : Program} {l : Launch} {e : Env} {s : State} {m : MethodId} {args : Array Value} {below : List Frame} {meth : Method} {c : Code} {D : va_G} {ca : Nat → ClassId} {ρ : Nat → Nat → Nat} {x1 : Int32} {Q : St → Prop} {x2 : Int32} {x3 : Int32} {s0 : Int32} {S : St} (C : Cx false p l s m meth c R9 b9_jump 10 D ca ρ) (hr : meth.sig.returnType = none)   (hw : wp9_jump_56 x1 Q x2 x3 s0 S) : wm false p l e { frames := 3, cells := 0, slots := 0, locals := 70 } s m args below meth c D ca ρ 10 0 0 (qv false below args s D ca ρ 0 0 Q) 56 [(0, .ref (ρ 9 0)), (2, .int x2), (3, .int x3)] [.int s0] S := by
  unfold wp9_jump_56 at hw
  refine r_istore C (pc := 56) (ls' := [(4, .int s0), (0, .ref (ρ 9 0)), (2, .int x2), (3, .int x3)]) (Nat.le_of_ble_eq_true rfl) rfl d9_jump_56 ?_
  refine r_iload C (pc := 58) 0 rfl d9_jump_58 ?_
  refine r_if_ne C (pc := 60) (tgt := 76) d9_jump_60 (by decide) (fun c1 => ?_) (fun c1 => ?_)
  · have hw := hw.1 c1
    refine r_sub (ls' := [(0, .ref (ρ 9 0)), (2, .int x2), (3, .int x3), (4, .int s0)]) [1, 2, 3, 0] rfl ?_
    exact nd9_jump_76 C hr hw
  · have hw := hw.2 c1
    refine r_aload_n C (pc := 63) 1 rfl d9_jump_63 ?_
    refine g9_frameKind C (pc := 64) (Nat.le_of_ble_eq_true rfl) w9_47 d9_jump_64 ?_
    refine r_iload_n C (pc := 67) 2 rfl d9_jump_67 ?_
    have hi2 := hw.1
    have hw := hw.2
    refine ld1916 C (pc := 68) (Nat.le_of_ble_eq_true rfl) hi2 d9_jump_68 ?_
    refine r_if_eq C (pc := 69) (tgt := 76) d9_jump_69 (by decide) (fun c3 => ?_) (fun c3 => ?_)
    · have hw := hw.1 c3
      refine r_sub (ls' := [(0, .ref (ρ 9 0)), (2, .int x2), (3, .int x3), (4, .int s0)]) [1, 2, 3, 0] rfl ?_
      exact nd9_jump_76 C hr hw
    · have hw := hw.2 c3
      refine r_iconst C (pc := 72) (v := 1) d9_jump_72 (by decide) ?_
      refine r_goto C (pc := 73) (tgt := 77) d9_jump_73 (by decide) ?_
      refine r_sub (ls' := [(0, .ref (ρ 9 0)), (2, .int x2), (3, .int x3), (4, .int s0)]) [1, 2, 3, 0] rfl ?_
      exact nd9_jump_77 C hr hw
set_option maxRecDepth 20000 in
theorem ct9_jump (l : Launch) (D : va_G) (ca : Nat → ClassId) (ρ : Nat → Nat → Nat) (sz : Nat) {S : St} {x1 : Int32} {Q : St → Prop} (hAp : Ap false ρ)  (hw : wp9_jump S x1 Q) : Met l y9_jump [Cond.code y9_jump b9_jump 10 none] { frames := 3, cells := 0, slots := 0, locals := 70 } (va_Pc [.ref (ρ 9 0), .int x1] (PreU false D ca ρ sz S)) (va_Qv Q (PostU false D ca ρ) (Ar false ρ sz)) 0 0 (Ar false ρ sz) := by
  refine met_of_wm (own := R9) (ls0 := [(0, .ref (ρ 9 0)), (1, .int x1)]) rfl rfl hAp (Nat.le_of_ble_eq_true rfl) rfl fun p e s m args below meth c C hr hz => ?_
  subst hz
  unfold wp9_jump at hw
  refine r_aload_n C (pc := 0) 0 rfl d9_jump_0 ?_
  refine g9_frames C (pc := 1) (Nat.le_of_ble_eq_true rfl) w9_128 d9_jump_1 ?_
  refine r_iconst C (pc := 4) (v := 1) d9_jump_4 (by decide) ?_
  refine r_isub C (pc := 5) d9_jump_5 ?_
  refine r_iload_n C (pc := 6) 1 rfl d9_jump_6 ?_
  refine r_isub C (pc := 7) d9_jump_7 ?_
  refine r_topi (fun x2_1 ex2_1 => ?_)
  have hw := hw x2_1 ex2_1
  refine r_istore_n C (pc := 8) (ls' := [(2, .int x2_1), (0, .ref (ρ 9 0)), (1, .int x1)]) (Nat.le_of_ble_eq_true rfl) rfl d9_jump_8 ?_
  refine r_aload_n C (pc := 9) 1 rfl d9_jump_9 ?_
  refine g9_callFunction C (pc := 10) (Nat.le_of_ble_eq_true rfl) w9_76 d9_jump_10 ?_
  refine r_aload_n C (pc := 13) 1 rfl d9_jump_13 ?_
  refine g9_calls C (pc := 14) (Nat.le_of_ble_eq_true rfl) w9_190 d9_jump_14 ?_
  refine r_iconst C (pc := 17) (v := 1) d9_jump_17 (by decide) ?_
  refine r_isub C (pc := 18) d9_jump_18 ?_
  have hi1 := hw.1
  have hw := hw.2
  refine ld1927 C (pc := 19) (Nat.le_of_ble_eq_true rfl) hi1 d9_jump_19 ?_
  refine r_topi (fun x3_1 ex3_1 => ?_)
  have hw := hw x3_1 ex3_1
  refine r_istore_n C (pc := 20) (ls' := [(3, .int x3_1), (2, .int x2_1), (0, .ref (ρ 9 0)), (1, .int x1)]) (Nat.le_of_ble_eq_true rfl) rfl d9_jump_20 ?_
  refine r_iload_n C (pc := 21) 1 rfl d9_jump_21 ?_
  refine r_aload_n C (pc := 22) 2 rfl d9_jump_22 ?_
  refine g9_callFrames C (pc := 23) (Nat.le_of_ble_eq_true rfl) w9_82 d9_jump_23 ?_
  refine r_aload_n C (pc := 26) 2 rfl d9_jump_26 ?_
  refine g9_calls C (pc := 27) (Nat.le_of_ble_eq_true rfl) w9_190 d9_jump_27 ?_
  refine r_iconst C (pc := 30) (v := 1) d9_jump_30 (by decide) ?_
  refine r_isub C (pc := 31) d9_jump_31 ?_
  have hi2 := hw.1
  have hw := hw.2
  refine ld1929 C (pc := 32) (Nat.le_of_ble_eq_true rfl) hi2 d9_jump_32 ?_
  refine r_icmp_ne C (pc := 33) (tgt := 41) d9_jump_33 (by decide) (fun c3 => ?_) (fun c3 => ?_)
  · have hw := hw.1 c3
    refine r_aload_n C (pc := 41) 2 rfl d9_jump_41 ?_
    refine g9_frameOp C (pc := 42) (Nat.le_of_ble_eq_true rfl) w9_44 d9_jump_42 ?_
    refine r_iload_n C (pc := 45) 1 rfl d9_jump_45 ?_
    have hi4 := hw.1
    have hw := hw.2
    refine ld1915 C (pc := 46) (Nat.le_of_ble_eq_true rfl) hi4 d9_jump_46 ?_
    refine r_iconst C (pc := 47) (v := 3) d9_jump_47 (by decide) ?_
    refine r_icmp_ne C (pc := 48) (tgt := 55) d9_jump_48 (by decide) (fun c5 => ?_) (fun c5 => ?_)
    · have hw := hw.1 c5
      refine r_iconst C (pc := 55) (v := 0) d9_jump_55 (by decide) ?_
      refine r_sub (ls' := [(0, .ref (ρ 9 0)), (2, .int x2_1), (3, .int x3_1)]) [2, 1, 0] rfl ?_
      exact nd9_jump_56 C hr hw
    · have hw := hw.2 c5
      refine r_iconst C (pc := 51) (v := 1) d9_jump_51 (by decide) ?_
      refine r_goto C (pc := 52) (tgt := 56) d9_jump_52 (by decide) ?_
      refine r_sub (ls' := [(0, .ref (ρ 9 0)), (2, .int x2_1), (3, .int x3_1)]) [2, 1, 0] rfl ?_
      exact nd9_jump_56 C hr hw
  · have hw := hw.2 c3
    refine r_aload_n C (pc := 36) 2 rfl d9_jump_36 ?_
    refine r_callVv C (pc := 37) (fun sz => ct9_leave l D ca ρ sz C.2.2.2.2.2.2.1 hw) mf9_leave w9_219 rfl (Nat.le_of_ble_eq_true rfl) rfl rfl rfl rfl ⟨Nat.le_of_ble_eq_true rfl, Nat.le_of_ble_eq_true rfl⟩ rfl rfl (Nat.le_of_ble_eq_true rfl) ⟨Nat.zero_le _, Nat.zero_le _⟩ d9_jump_37 (fun S1 hw => ?_)
    exact r_vret C (pc := 40) hr d9_jump_40 hw
set_option maxRecDepth 20000 in
theorem nd9_block_73 {p : Program} {l : Launch} {e : Env} {s : State} {m : MethodId} {args : Array Value} {below : List Frame} {meth : Method} {c : Code} {D : va_G} {ca : Nat → ClassId} {ρ : Nat → Nat → Nat} {x1 : Int32} {x2 : Int32} {x3 : Int32} {Q : St → Prop} {x4 : Int32} {x5 : Int32} {x6 : Int32} {S : St} (C : Cx false p l s m meth c R9 b9_block 7 D ca ρ) (hr : meth.sig.returnType = none)   (hw : wp9_block_73 x1 x2 x3 Q x4 x5 x6 S) : wm false p l e { frames := 3, cells := 0, slots := 0, locals := 70 } s m args below meth c D ca ρ 7 0 0 (qv false below args s D ca ρ 0 0 Q) 73 [(0, .ref (ρ 9 0)), (2, .int x2), (3, .int x3), (4, .int x4), (5, .int x5), (6, .int x6)] [] S := by
  unfold wp9_block_73 at hw
  refine r_aload_n C (pc := 73) 0 rfl d9_block_73 ?_
  refine g9_frameOp C (pc := 74) (Nat.le_of_ble_eq_true rfl) w9_44 d9_block_74 ?_
  refine r_aload_n C (pc := 77) 0 rfl d9_block_77 ?_
  refine g9_frames C (pc := 78) (Nat.le_of_ble_eq_true rfl) w9_128 d9_block_78 ?_
  refine r_iload_n C (pc := 81) 1 rfl d9_block_81 ?_
  have hi1 := hw.1
  have hw := hw.2
  refine st1915 C (pc := 82) (Nat.le_of_ble_eq_true rfl) hi1 d9_block_82 ?_
  refine r_S (fun S1 eS1 => ?_)
  have hw := hw S1 eS1
  refine r_aload_n C (pc := 83) 0 rfl d9_block_83 ?_
  refine g9_frameKind C (pc := 84) (Nat.le_of_ble_eq_true rfl) w9_47 d9_block_84 ?_
  refine r_aload_n C (pc := 87) 0 rfl d9_block_87 ?_
  refine g9_frames C (pc := 88) (Nat.le_of_ble_eq_true rfl) w9_128 d9_block_88 ?_
  refine r_iload_n C (pc := 91) 2 rfl d9_block_91 ?_
  have hi2 := hw.1
  have hw := hw.2
  refine st1916 C (pc := 92) (Nat.le_of_ble_eq_true rfl) hi2 d9_block_92 ?_
  refine r_S (fun S2 eS2 => ?_)
  have hw := hw S2 eS2
  refine r_aload_n C (pc := 93) 0 rfl d9_block_93 ?_
  refine g9_frameBase C (pc := 94) (Nat.le_of_ble_eq_true rfl) w9_50 d9_block_94 ?_
  refine r_aload_n C (pc := 97) 0 rfl d9_block_97 ?_
  refine g9_frames C (pc := 98) (Nat.le_of_ble_eq_true rfl) w9_128 d9_block_98 ?_
  refine r_aload_n C (pc := 101) 0 rfl d9_block_101 ?_
  refine g9_height C (pc := 102) (Nat.le_of_ble_eq_true rfl) w9_122 d9_block_102 ?_
  have hi3 := hw.1
  have hw := hw.2
  refine st1917 C (pc := 105) (Nat.le_of_ble_eq_true rfl) hi3 d9_block_105 ?_
  refine r_S (fun S3 eS3 => ?_)
  have hw := hw S3 eS3
  refine r_aload_n C (pc := 106) 0 rfl d9_block_106 ?_
  refine g9_frameStart C (pc := 107) (Nat.le_of_ble_eq_true rfl) w9_67 d9_block_107 ?_
  refine r_aload_n C (pc := 110) 0 rfl d9_block_110 ?_
  refine g9_frames C (pc := 111) (Nat.le_of_ble_eq_true rfl) w9_128 d9_block_111 ?_
  refine r_iload C (pc := 114) 4 rfl d9_block_114 ?_
  have hi4 := hw.1
  have hw := hw.2
  refine st1924 C (pc := 116) (Nat.le_of_ble_eq_true rfl) hi4 d9_block_116 ?_
  refine r_S (fun S4 eS4 => ?_)
  have hw := hw S4 eS4
  refine r_aload_n C (pc := 117) 0 rfl d9_block_117 ?_
  refine r_dup C (pc := 118) rfl d9_block_118 ?_
  refine g9_frames C (pc := 119) (Nat.le_of_ble_eq_true rfl) w9_128 d9_block_119 ?_
  refine r_iconst C (pc := 122) (v := 1) d9_block_122 (by decide) ?_
  refine r_iadd C (pc := 123) d9_block_123 ?_
  refine p9_frames C (pc := 124) (Nat.le_of_ble_eq_true rfl) w9_128 d9_block_124 ?_
  refine r_S (fun S5 eS5 => ?_)
  have hw := hw S5 eS5
  refine r_aload_n C (pc := 127) 0 rfl d9_block_127 ?_
  refine r_iload C (pc := 128) 3 rfl d9_block_128 ?_
  refine r_if_eq C (pc := 130) (tgt := 140) d9_block_130 (by decide) (fun c5 => ?_) (fun c5 => ?_)
  · have hw := hw.1 c5
    refine r_iload C (pc := 140) 4 rfl d9_block_140 ?_
    refine p9_at C (pc := 142) (Nat.le_of_ble_eq_true rfl) w9_193 d9_block_142 ?_
    refine r_S (fun S6 eS6 => ?_)
    have hw := hw S6 eS6
    exact r_vret C (pc := 145) hr d9_block_145 hw
  · have hw := hw.2 c5
    refine r_iload C (pc := 133) 5 rfl d9_block_133 ?_
    refine r_iconst C (pc := 135) (v := 1) d9_block_135 (by decide) ?_
    refine r_iadd C (pc := 136) d9_block_136 ?_
    refine r_goto C (pc := 137) (tgt := 142) d9_block_137 (by decide) ?_
    refine p9_at C (pc := 142) (Nat.le_of_ble_eq_true rfl) w9_193 d9_block_142 ?_
    refine r_S (fun S7 eS7 => ?_)
    have hw := hw S7 eS7
    exact r_vret C (pc := 145) hr d9_block_145 hw
set_option maxRecDepth 20000 in
theorem nd9_block_45 {p : Program} {l : Launch} {e : Env} {s : State} {m : MethodId} {args : Array Value} {below : List Frame} {meth : Method} {c : Code} {D : va_G} {ca : Nat → ClassId} {ρ : Nat → Nat → Nat} {x1 : Int32} {x2 : Int32} {x3 : Int32} {Q : St → Prop} {x4 : Int32} {x5 : Int32} {s0 : Int32} {S : St} (C : Cx false p l s m meth c R9 b9_block 7 D ca ρ) (hr : meth.sig.returnType = none)   (hw : wp9_block_45 x1 x2 x3 Q x4 x5 s0 S) : wm false p l e { frames := 3, cells := 0, slots := 0, locals := 70 } s m args below meth c D ca ρ 7 0 0 (qv false below args s D ca ρ 0 0 Q) 45 [(0, .ref (ρ 9 0)), (1, .int x1), (2, .int x2), (3, .int x3), (4, .int x4), (5, .int x5)] [.int s0] S := by
  unfold wp9_block_45 at hw
  refine r_istore C (pc := 45) (ls' := [(6, .int s0), (0, .ref (ρ 9 0)), (1, .int x1), (2, .int x2), (3, .int x3), (4, .int x4), (5, .int x5)]) (Nat.le_of_ble_eq_true rfl) rfl d9_block_45 ?_
  refine r_iload C (pc := 47) 5 rfl d9_block_47 ?_
  refine r_if_eq C (pc := 49) (tgt := 73) d9_block_49 (by decide) (fun c1 => ?_) (fun c1 => ?_)
  · have hw := hw.1 c1
    refine r_sub (ls' := [(0, .ref (ρ 9 0)), (2, .int x2), (3, .int x3), (4, .int x4), (5, .int x5), (6, .int s0)]) [1, 3, 4, 5, 6, 0] rfl ?_
    exact nd9_block_73 C hr hw
  · have hw := hw.2 c1
    refine r_aload_n C (pc := 52) 1 rfl d9_block_52 ?_
    refine r_iload_n C (pc := 53) 2 rfl d9_block_53 ?_
    refine r_iload C (pc := 54) 0 rfl d9_block_54 ?_
    refine r_callVi C (pc := 56) (fun sz => ct9_byteAt l D ca ρ sz C.2.2.2.2.2.2.1 hw) mf9_byteAt w9_115 rfl (Nat.le_of_ble_eq_true rfl) rfl rfl rfl rfl ⟨Nat.le_of_ble_eq_true rfl, Nat.le_of_ble_eq_true rfl⟩ rfl rfl (Nat.le_of_ble_eq_true rfl) ⟨Nat.zero_le _, Nat.zero_le _⟩ d9_block_56 (fun r1 S1 hw => ?_)
    refine r_bipush C (pc := 59) (v := 6) d9_block_59 (by decide) ?_
    refine r_icmp_ne C (pc := 61) (tgt := 73) d9_block_61 (by decide) (fun c2 => ?_) (fun c2 => ?_)
    · have hw := hw.1 c2
      refine r_sub (ls' := [(0, .ref (ρ 9 0)), (2, .int x2), (3, .int x3), (4, .int x4), (5, .int x5), (6, .int s0)]) [1, 3, 4, 5, 6, 0] rfl ?_
      exact nd9_block_73 C hr hw
    · have hw := hw.2 c2
      refine r_aload_n C (pc := 64) 1 rfl d9_block_64 ?_
      refine r_iload C (pc := 65) 0 rfl d9_block_65 ?_
      refine r_iconst C (pc := 67) (v := 1) d9_block_67 (by decide) ?_
      refine r_iadd C (pc := 68) d9_block_68 ?_
      refine p9_at C (pc := 69) (Nat.le_of_ble_eq_true rfl) w9_193 d9_block_69 ?_
      refine r_S (fun S2 eS2 => ?_)
      have hw := hw S2 eS2
      exact r_vret C (pc := 72) hr d9_block_72 hw
set_option maxRecDepth 20000 in
theorem nd9_block_17 {p : Program} {l : Launch} {e : Env} {s : State} {m : MethodId} {args : Array Value} {below : List Frame} {meth : Method} {c : Code} {D : va_G} {ca : Nat → ClassId} {ρ : Nat → Nat → Nat} {x1 : Int32} {x2 : Int32} {x3 : Int32} {Q : St → Prop} {s0 : Int32} {S : St} (C : Cx false p l s m meth c R9 b9_block 7 D ca ρ) (hr : meth.sig.returnType = none)   (hw : wp9_block_17 x1 x2 x3 Q s0 S) : wm false p l e { frames := 3, cells := 0, slots := 0, locals := 70 } s m args below meth c D ca ρ 7 0 0 (qv false below args s D ca ρ 0 0 Q) 17 [(0, .ref (ρ 9 0)), (1, .int x1), (2, .int x2), (3, .int x3)] [.int s0] S := by
  unfold wp9_block_17 at hw
  refine r_istore C (pc := 17) (ls' := [(4, .int s0), (0, .ref (ρ 9 0)), (1, .int x1), (2, .int x2), (3, .int x3)]) (Nat.le_of_ble_eq_true rfl) rfl d9_block_17 ?_
  refine r_aload_n C (pc := 19) 1 rfl d9_block_19 ?_
  refine g9_at C (pc := 20) (Nat.le_of_ble_eq_true rfl) w9_193 d9_block_20 ?_
  refine r_iconst C (pc := 23) (v := 2) d9_block_23 (by decide) ?_
  refine r_iadd C (pc := 24) d9_block_24 ?_
  refine r_topi (fun x5_1 ex5_1 => ?_)
  have hw := hw x5_1 ex5_1
  refine r_istore C (pc := 25) (ls' := [(5, .int x5_1), (4, .int s0), (0, .ref (ρ 9 0)), (1, .int x1), (2, .int x2), (3, .int x3)]) (Nat.le_of_ble_eq_true rfl) rfl d9_block_25 ?_
  refine r_iload C (pc := 27) 1 rfl d9_block_27 ?_
  refine r_if_eq C (pc := 29) (tgt := 43) d9_block_29 (by decide) (fun c1 => ?_) (fun c1 => ?_)
  · have hw := hw.1 c1
    refine r_iload C (pc := 43) 0 rfl d9_block_43 ?_
    refine r_sub (ls' := [(0, .ref (ρ 9 0)), (1, .int x1), (2, .int x2), (3, .int x3), (4, .int s0), (5, .int x5_1)]) [2, 3, 4, 5, 1, 0] rfl ?_
    exact nd9_block_45 C hr hw
  · have hw := hw.2 c1
    refine r_aload_n C (pc := 32) 2 rfl d9_block_32 ?_
    refine r_iload_n C (pc := 33) 3 rfl d9_block_33 ?_
    refine r_iload C (pc := 34) 0 rfl d9_block_34 ?_
    refine r_iconst C (pc := 36) (v := 1) d9_block_36 (by decide) ?_
    refine r_callVi C (pc := 37) (fun sz => ct9_seek l D ca ρ sz C.2.2.2.2.2.2.1 hw) mf9_seek w9_222 rfl (Nat.le_of_ble_eq_true rfl) rfl rfl rfl rfl ⟨Nat.le_of_ble_eq_true rfl, Nat.le_of_ble_eq_true rfl⟩ rfl rfl (Nat.le_of_ble_eq_true rfl) ⟨Nat.zero_le _, Nat.zero_le _⟩ d9_block_37 (fun r1 S1 hw => ?_)
    refine r_goto C (pc := 40) (tgt := 45) d9_block_40 (by decide) ?_
    refine r_sub (ls' := [(0, .ref (ρ 9 0)), (1, .int x1), (2, .int x2), (3, .int x3), (4, .int s0), (5, .int x5_1)]) [2, 3, 4, 5, 1, 0] rfl ?_
    exact nd9_block_45 C hr hw
set_option maxRecDepth 20000 in
theorem nd9_block_16 {p : Program} {l : Launch} {e : Env} {s : State} {m : MethodId} {args : Array Value} {below : List Frame} {meth : Method} {c : Code} {D : va_G} {ca : Nat → ClassId} {ρ : Nat → Nat → Nat} {x1 : Int32} {x2 : Int32} {x3 : Int32} {Q : St → Prop}  {S : St} (C : Cx false p l s m meth c R9 b9_block 7 D ca ρ) (hr : meth.sig.returnType = none)   (hw : wp9_block_16 x1 x2 x3 Q  S) : wm false p l e { frames := 3, cells := 0, slots := 0, locals := 70 } s m args below meth c D ca ρ 7 0 0 (qv false below args s D ca ρ 0 0 Q) 16 [(0, .ref (ρ 9 0)), (1, .int x1), (2, .int x2), (3, .int x3)] [] S := by
  unfold wp9_block_16 at hw
  refine r_iconst C (pc := 16) (v := 0) d9_block_16 (by decide) ?_
  refine r_sub (ls' := [(0, .ref (ρ 9 0)), (1, .int x1), (2, .int x2), (3, .int x3)]) [0, 1, 2, 3] rfl ?_
  exact nd9_block_17 C hr hw
set_option maxRecDepth 20000 in
theorem ct9_block (l : Launch) (D : va_G) (ca : Nat → ClassId) (ρ : Nat → Nat → Nat) (sz : Nat) {S : St} {x1 : Int32} {x2 : Int32} {x3 : Int32} {Q : St → Prop} (hAp : Ap false ρ)  (hw : wp9_block S x1 x2 x3 Q) : Met l y9_block [Cond.code y9_block b9_block 7 none] { frames := 3, cells := 0, slots := 0, locals := 70 } (va_Pc [.ref (ρ 9 0), .int x1, .int x2, .int x3] (PreU false D ca ρ sz S)) (va_Qv Q (PostU false D ca ρ) (Ar false ρ sz)) 0 0 (Ar false ρ sz) := by
  refine met_of_wm (own := R9) (ls0 := [(0, .ref (ρ 9 0)), (1, .int x1), (2, .int x2), (3, .int x3)]) rfl rfl hAp (Nat.le_of_ble_eq_true rfl) rfl fun p e s m args below meth c C hr hz => ?_
  subst hz
  unfold wp9_block at hw
  refine r_iload_n C (pc := 0) 2 rfl d9_block_0 ?_
  refine r_iconst C (pc := 1) (v := 4) d9_block_1 (by decide) ?_
  refine r_icmp_ne C (pc := 2) (tgt := 16) d9_block_2 (by decide) (fun c1 => ?_) (fun c1 => ?_)
  · have hw := hw.1 c1
    refine r_sub (ls' := [(0, .ref (ρ 9 0)), (1, .int x1), (2, .int x2), (3, .int x3)]) [0, 1, 2, 3] rfl ?_
    exact nd9_block_16 C hr hw
  · have hw := hw.2 c1
    refine r_aload_n C (pc := 5) 0 rfl d9_block_5 ?_
    refine r_callVi C (pc := 6) (fun sz => ct9_popInt l D ca ρ sz C.2.2.2.2.2.2.1 hw) mf9_popInt w9_226 rfl (Nat.le_of_ble_eq_true rfl) rfl rfl rfl rfl ⟨Nat.le_of_ble_eq_true rfl, Nat.le_of_ble_eq_true rfl⟩ rfl rfl (Nat.le_of_ble_eq_true rfl) ⟨Nat.zero_le _, Nat.zero_le _⟩ d9_block_6 (fun r1 S1 hw => ?_)
    refine r_if_ne C (pc := 9) (tgt := 16) d9_block_9 (by decide) (fun c2 => ?_) (fun c2 => ?_)
    · have hw := hw.1 c2
      refine r_sub (ls' := [(0, .ref (ρ 9 0)), (1, .int x1), (2, .int x2), (3, .int x3)]) [0, 1, 2, 3] rfl ?_
      exact nd9_block_16 C hr hw
    · have hw := hw.2 c2
      refine r_iconst C (pc := 12) (v := 1) d9_block_12 (by decide) ?_
      refine r_goto C (pc := 13) (tgt := 17) d9_block_13 (by decide) ?_
      refine r_sub (ls' := [(0, .ref (ρ 9 0)), (1, .int x1), (2, .int x2), (3, .int x3)]) [0, 1, 2, 3] rfl ?_
      exact nd9_block_17 C hr hw
set_option maxRecDepth 20000 in
theorem nd9_agree_34 {p : Program} {l : Launch} {e : Env} {s : State} {m : MethodId} {args : Array Value} {below : List Frame} {meth : Method} {c : Code} {D : va_G} {ca : Nat → ClassId} {ρ : Nat → Nat → Nat} {x1 : Int32} {x2 : Int32} {Q : Int32 → St → Prop} (C : Cx false p l s m meth c R9 b9_agree 4 D ca ρ) (hr : meth.sig.returnType = (some .boolean))  : ∀ (n : Nat) (x3 : Int32) (S : St) , wp9_agree_34 x1 x2 Q n x3 S → wm false p l e { frames := 0, cells := 0, slots := 0, locals := 0 } s m args below meth c D ca ρ 4 0 0 (qi false below args s D ca ρ 0 0 Q) 34 [(0, .ref (ρ 9 0)), (1, .int x1), (2, .int x2), (3, .int x3)] [] S := by
  intro n
  induction n with
  | zero => intro x3 S  hw; exact hw.elim
  | succ n ih =>
    intro x3 S  hw
    unfold wp9_agree_34 at hw
    refine r_iload_n C (pc := 34) 3 rfl d9_agree_34 ?_
    refine r_aload_n C (pc := 35) 0 rfl d9_agree_35 ?_
    refine g9_parameters C (pc := 36) (Nat.le_of_ble_eq_true rfl) w9_13 d9_agree_36 ?_
    refine r_iload_n C (pc := 39) 1 rfl d9_agree_39 ?_
    have hi1 := hw.1
    have hw := hw.2
    refine ld1901 C (pc := 40) (Nat.le_of_ble_eq_true rfl) hi1 d9_agree_40 ?_
    refine r_icmp_ge C (pc := 41) (tgt := 77) d9_agree_41 (by decide) (fun c2 => ?_) (fun c2 => ?_)
    · have hw := hw.1 c2
      refine r_iconst C (pc := 77) (v := 1) d9_agree_77 (by decide) ?_
      exact r_zret C (pc := 78) hr rfl d9_agree_78 hw
    · have hw := hw.2 c2
      refine r_aload_n C (pc := 44) 0 rfl d9_agree_44 ?_
      refine g9_kinds C (pc := 45) (Nat.le_of_ble_eq_true rfl) w9_7 d9_agree_45 ?_
      refine r_bipush C (pc := 48) (v := 6) d9_agree_48 (by decide) ?_
      refine r_iload_n C (pc := 50) 1 rfl d9_agree_50 ?_
      refine r_imul C (pc := 51) d9_agree_51 ?_
      refine r_iload_n C (pc := 52) 3 rfl d9_agree_52 ?_
      refine r_iadd C (pc := 53) d9_agree_53 ?_
      have hi3 := hw.1
      have hw := hw.2
      refine ld1900 C (pc := 54) (Nat.le_of_ble_eq_true rfl) hi3 d9_agree_54 ?_
      refine r_aload_n C (pc := 55) 0 rfl d9_agree_55 ?_
      refine g9_kinds C (pc := 56) (Nat.le_of_ble_eq_true rfl) w9_7 d9_agree_56 ?_
      refine r_bipush C (pc := 59) (v := 6) d9_agree_59 (by decide) ?_
      refine r_iload_n C (pc := 61) 2 rfl d9_agree_61 ?_
      refine r_imul C (pc := 62) d9_agree_62 ?_
      refine r_iload_n C (pc := 63) 3 rfl d9_agree_63 ?_
      refine r_iadd C (pc := 64) d9_agree_64 ?_
      have hi4 := hw.1
      have hw := hw.2
      refine ld1900 C (pc := 65) (Nat.le_of_ble_eq_true rfl) hi4 d9_agree_65 ?_
      refine r_icmp_eq C (pc := 66) (tgt := 71) d9_agree_66 (by decide) (fun c5 => ?_) (fun c5 => ?_)
      · have hw := hw.1 c5
        obtain ⟨x3_1, ex3_1⟩ : ∃ y : Int32, y = x3 + 1 := ⟨_, rfl⟩
        have hw := hw x3_1 ex3_1
        refine r_iinc C (pc := 71) (v := x3_1) (ls' := [(3, .int x3_1), (0, .ref (ρ 9 0)), (1, .int x1), (2, .int x2)]) 3 rfl (by rw [ex3_1]; rfl) (Nat.le_of_ble_eq_true rfl) rfl d9_agree_71 ?_
        refine r_goto C (pc := 74) (tgt := 34) d9_agree_74 (by decide) ?_
        refine r_sub (ls' := [(0, .ref (ρ 9 0)), (1, .int x1), (2, .int x2), (3, .int x3_1)]) [1, 2, 3, 0] rfl ?_
        exact ih _ _ hw
      · have hw := hw.2 c5
        refine r_iconst C (pc := 69) (v := 0) d9_agree_69 (by decide) ?_
        exact r_zret C (pc := 70) hr rfl d9_agree_70 hw
set_option maxRecDepth 20000 in
theorem ct9_agree (l : Launch) (D : va_G) (ca : Nat → ClassId) (ρ : Nat → Nat → Nat) (sz : Nat) {S : St} {x1 : Int32} {x2 : Int32} {Q : Int32 → St → Prop} (hAp : Ap false ρ)  (hw : wp9_agree S x1 x2 Q) : Met l y9_agree [Cond.code y9_agree b9_agree 4 (some .boolean)] { frames := 0, cells := 0, slots := 0, locals := 0 } (va_Pc [.ref (ρ 9 0), .int x1, .int x2] (PreU false D ca ρ sz S)) (va_Qi Q (PostU false D ca ρ) (Ar false ρ sz)) 0 0 (Ar false ρ sz) := by
  refine met_of_wm (own := R9) (ls0 := [(0, .ref (ρ 9 0)), (1, .int x1), (2, .int x2)]) rfl rfl hAp (Nat.le_of_ble_eq_true rfl) rfl fun p e s m args below meth c C hr hz => ?_
  subst hz
  unfold wp9_agree at hw
  refine r_aload_n C (pc := 0) 0 rfl d9_agree_0 ?_
  refine g9_parameters C (pc := 1) (Nat.le_of_ble_eq_true rfl) w9_13 d9_agree_1 ?_
  refine r_iload_n C (pc := 4) 1 rfl d9_agree_4 ?_
  have hi1 := hw.1
  have hw := hw.2
  refine ld1901 C (pc := 5) (Nat.le_of_ble_eq_true rfl) hi1 d9_agree_5 ?_
  refine r_aload_n C (pc := 6) 0 rfl d9_agree_6 ?_
  refine g9_parameters C (pc := 7) (Nat.le_of_ble_eq_true rfl) w9_13 d9_agree_7 ?_
  refine r_iload_n C (pc := 10) 2 rfl d9_agree_10 ?_
  have hi2 := hw.1
  have hw := hw.2
  refine ld1901 C (pc := 11) (Nat.le_of_ble_eq_true rfl) hi2 d9_agree_11 ?_
  refine r_icmp_ne C (pc := 12) (tgt := 30) d9_agree_12 (by decide) (fun c3 => ?_) (fun c3 => ?_)
  · have hw := hw.1 c3
    refine r_iconst C (pc := 30) (v := 0) d9_agree_30 (by decide) ?_
    exact r_zret C (pc := 31) hr rfl d9_agree_31 hw
  · have hw := hw.2 c3
    refine r_aload_n C (pc := 15) 0 rfl d9_agree_15 ?_
    refine g9_result C (pc := 16) (Nat.le_of_ble_eq_true rfl) w9_19 d9_agree_16 ?_
    refine r_iload_n C (pc := 19) 1 rfl d9_agree_19 ?_
    have hi4 := hw.1
    have hw := hw.2
    refine ld1903 C (pc := 20) (Nat.le_of_ble_eq_true rfl) hi4 d9_agree_20 ?_
    refine r_aload_n C (pc := 21) 0 rfl d9_agree_21 ?_
    refine g9_result C (pc := 22) (Nat.le_of_ble_eq_true rfl) w9_19 d9_agree_22 ?_
    refine r_iload_n C (pc := 25) 2 rfl d9_agree_25 ?_
    have hi5 := hw.1
    have hw := hw.2
    refine ld1903 C (pc := 26) (Nat.le_of_ble_eq_true rfl) hi5 d9_agree_26 ?_
    refine r_icmp_eq C (pc := 27) (tgt := 32) d9_agree_27 (by decide) (fun c6 => ?_) (fun c6 => ?_)
    · have hw := hw.1 c6
      refine r_iconst C (pc := 32) (v := 0) d9_agree_32 (by decide) ?_
      refine r_istore_n C (pc := 33) (ls' := [(3, .int 0), (0, .ref (ρ 9 0)), (1, .int x1), (2, .int x2)]) (Nat.le_of_ble_eq_true rfl) rfl d9_agree_33 ?_
      refine r_sub (ls' := [(0, .ref (ρ 9 0)), (1, .int x1), (2, .int x2), (3, .int 0)]) [1, 2, 3, 0] rfl ?_
      obtain ⟨n, hw⟩ := hw
      exact nd9_agree_34 C hr  n _ _ hw
    · have hw := hw.2 c6
      refine r_iconst C (pc := 30) (v := 0) d9_agree_30 (by decide) ?_
      exact r_zret C (pc := 31) hr rfl d9_agree_31 hw
set_option maxRecDepth 20000 in
theorem nd9_call_184 {p : Program} {l : Launch} {e : Env} {s : State} {m : MethodId} {args : Array Value} {below : List Frame} {meth : Method} {c : Code} {D : va_G} {ca : Nat → ClassId} {ρ : Nat → Nat → Nat} {x1 : Int32} {x2 : Int32} {Q : St → Prop} {K : Int32 → Int32 → Int32 → St → Prop} {x3 : Int32} {x4 : Int32} {x5 : Int32} {s1 : Int32} {s2 : UInt64} {S : St} (C : Cx false p l s m meth c R9 b9_call 6 D ca ρ) (hr : meth.sig.returnType = none)  (hK : ∀ (x3 : Int32) (x4 : Int32) (x5 : Int32) (S : St) , K x3 x4 x5 S → wm false p l e { frames := 1, cells := 0, slots := 0, locals := 23 } s m args below meth c D ca ρ 6 0 0 (qv false below args s D ca ρ 0 0 Q) 102 [(0, .ref (ρ 9 0)), (3, .int x3), (4, .int x4), (5, .int x5)] [] S)  (hw : wp9_call_184 K x1 x2 Q x3 x4 x5 s1 s2 S) : wm false p l e { frames := 1, cells := 0, slots := 0, locals := 23 } s m args below meth c D ca ρ 6 0 0 (qv false below args s D ca ρ 0 0 Q) 184 [(0, .ref (ρ 9 0)), (3, .int x3), (4, .int x4), (5, .int x5)] [.double s2, .int s1, .ref (ρ 1926 0)] S := by
  unfold wp9_call_184 at hw
  have hi1 := hw.1
  have hw := hw.2
  refine st1926 C (pc := 184) (Nat.le_of_ble_eq_true rfl) hi1 d9_call_184 ?_
  refine r_S (fun S1 eS1 => ?_)
  have hw := hw S1 eS1
  obtain ⟨x5_1, ex5_1⟩ : ∃ y : Int32, y = x5 + 1 := ⟨_, rfl⟩
  have hw := hw x5_1 ex5_1
  refine r_iinc C (pc := 185) (v := x5_1) (ls' := [(5, .int x5_1), (0, .ref (ρ 9 0)), (3, .int x3), (4, .int x4)]) 3 rfl (by rw [ex5_1]; rfl) (Nat.le_of_ble_eq_true rfl) rfl d9_call_185 ?_
  refine r_goto C (pc := 188) (tgt := 102) d9_call_188 (by decide) ?_
  refine r_sub (ls' := [(0, .ref (ρ 9 0)), (3, .int x3), (4, .int x4), (5, .int x5_1)]) [1, 2, 3, 0] rfl ?_
  exact hK _ _ _ _ hw
set_option maxRecDepth 20000 in
theorem nd9_call_146 {p : Program} {l : Launch} {e : Env} {s : State} {m : MethodId} {args : Array Value} {below : List Frame} {meth : Method} {c : Code} {D : va_G} {ca : Nat → ClassId} {ρ : Nat → Nat → Nat} {x1 : Int32} {x2 : Int32} {Q : St → Prop} {K : Int32 → Int32 → Int32 → St → Prop} {x3 : Int32} {x4 : Int32} {x5 : Int32} {s1 : Int32} {s2 : Int64} {S : St} (C : Cx false p l s m meth c R9 b9_call 6 D ca ρ) (hr : meth.sig.returnType = none)  (hK : ∀ (x3 : Int32) (x4 : Int32) (x5 : Int32) (S : St) , K x3 x4 x5 S → wm false p l e { frames := 1, cells := 0, slots := 0, locals := 23 } s m args below meth c D ca ρ 6 0 0 (qv false below args s D ca ρ 0 0 Q) 102 [(0, .ref (ρ 9 0)), (3, .int x3), (4, .int x4), (5, .int x5)] [] S)  (hw : wp9_call_146 K x1 x2 Q x3 x4 x5 s1 s2 S) : wm false p l e { frames := 1, cells := 0, slots := 0, locals := 23 } s m args below meth c D ca ρ 6 0 0 (qv false below args s D ca ρ 0 0 Q) 146 [(0, .ref (ρ 9 0)), (3, .int x3), (4, .int x4), (5, .int x5)] [.long s2, .int s1, .ref (ρ 1925 0)] S := by
  unfold wp9_call_146 at hw
  have hi1 := hw.1
  have hw := hw.2
  refine st1925 C (pc := 146) (Nat.le_of_ble_eq_true rfl) hi1 d9_call_146 ?_
  refine r_S (fun S1 eS1 => ?_)
  have hw := hw S1 eS1
  refine r_aload_n C (pc := 147) 0 rfl d9_call_147 ?_
  refine g9_varReal C (pc := 148) (Nat.le_of_ble_eq_true rfl) w9_73 d9_call_148 ?_
  refine r_bipush C (pc := 151) (v := 6) d9_call_151 (by decide) ?_
  refine r_aload_n C (pc := 153) 0 rfl d9_call_153 ?_
  refine g9_calls C (pc := 154) (Nat.le_of_ble_eq_true rfl) w9_190 d9_call_154 ?_
  refine r_imul C (pc := 157) d9_call_157 ?_
  refine r_iload C (pc := 158) 3 rfl d9_call_158 ?_
  refine r_iadd C (pc := 160) d9_call_160 ?_
  refine r_iload C (pc := 161) 3 rfl d9_call_161 ?_
  refine r_iload C (pc := 163) 2 rfl d9_call_163 ?_
  refine r_icmp_ge C (pc := 165) (tgt := 183) d9_call_165 (by decide) (fun c2 => ?_) (fun c2 => ?_)
  · have hw := hw.1 c2
    refine r_dconst0 C (pc := 183) d9_call_183 ?_
    refine r_sub (ls' := [(0, .ref (ρ 9 0)), (3, .int x3), (4, .int x4), (5, .int x5)]) [0, 1, 2, 3] rfl ?_
    exact nd9_call_184 C hr hK hw
  · have hw := hw.2 c2
    refine r_aload_n C (pc := 168) 0 rfl d9_call_168 ?_
    refine g9_reals C (pc := 169) (Nat.le_of_ble_eq_true rfl) w9_63 d9_call_169 ?_
    refine r_aload_n C (pc := 172) 0 rfl d9_call_172 ?_
    refine g9_height C (pc := 173) (Nat.le_of_ble_eq_true rfl) w9_122 d9_call_173 ?_
    refine r_iload C (pc := 176) 3 rfl d9_call_176 ?_
    refine r_iadd C (pc := 178) d9_call_178 ?_
    have hi3 := hw.1
    have hw := hw.2
    refine ld1923 C (pc := 179) (Nat.le_of_ble_eq_true rfl) hi3 d9_call_179 ?_
    refine r_goto C (pc := 180) (tgt := 184) d9_call_180 (by decide) ?_
    refine r_sub (ls' := [(0, .ref (ρ 9 0)), (3, .int x3), (4, .int x4), (5, .int x5)]) [0, 1, 2, 3] rfl ?_
    exact nd9_call_184 C hr hK hw
set_option maxRecDepth 20000 in
theorem nd9_call_102 {p : Program} {l : Launch} {e : Env} {s : State} {m : MethodId} {args : Array Value} {below : List Frame} {meth : Method} {c : Code} {D : va_G} {ca : Nat → ClassId} {ρ : Nat → Nat → Nat} {x1 : Int32} {x2 : Int32} {Q : St → Prop} (C : Cx false p l s m meth c R9 b9_call 6 D ca ρ) (hr : meth.sig.returnType = none)  : ∀ (n : Nat) (x3 : Int32) (x4 : Int32) (x5 : Int32) (S : St) , wp9_call_102 x1 x2 Q n x3 x4 x5 S → wm false p l e { frames := 1, cells := 0, slots := 0, locals := 23 } s m args below meth c D ca ρ 6 0 0 (qv false below args s D ca ρ 0 0 Q) 102 [(0, .ref (ρ 9 0)), (3, .int x3), (4, .int x4), (5, .int x5)] [] S := by
  intro n
  induction n with
  | zero => intro x3 x4 x5 S  hw; exact hw.elim
  | succ n ih =>
    intro x3 x4 x5 S  hw
    unfold wp9_call_102 at hw
    refine r_iload C (pc := 102) 3 rfl d9_call_102 ?_
    refine r_bipush C (pc := 104) (v := 6) d9_call_104 (by decide) ?_
    refine r_icmp_ge C (pc := 106) (tgt := 191) d9_call_106 (by decide) (fun c1 => ?_) (fun c1 => ?_)
    · have hw := hw.1 c1
      refine r_aload_n C (pc := 191) 0 rfl d9_call_191 ?_
      refine r_iload_n C (pc := 192) 1 rfl d9_call_192 ?_
      refine r_aload_n C (pc := 193) 0 rfl d9_call_193 ?_
      refine g9_at C (pc := 194) (Nat.le_of_ble_eq_true rfl) w9_193 d9_call_194 ?_
      refine r_iconst C (pc := 197) (v := 2) d9_call_197 (by decide) ?_
      refine r_iadd C (pc := 198) d9_call_198 ?_
      refine r_callVv C (pc := 199) (fun sz => ct9_enter l D ca ρ sz C.2.2.2.2.2.2.1 hw) mf9_enter w9_201 rfl (Nat.le_of_ble_eq_true rfl) rfl rfl rfl rfl ⟨Nat.le_of_ble_eq_true rfl, Nat.le_of_ble_eq_true rfl⟩ rfl rfl (Nat.le_of_ble_eq_true rfl) ⟨Nat.zero_le _, Nat.zero_le _⟩ d9_call_199 (fun S1 hw => ?_)
      exact r_vret C (pc := 202) hr d9_call_202 hw
    · have hw := hw.2 c1
      refine r_aload_n C (pc := 109) 0 rfl d9_call_109 ?_
      refine g9_varWhole C (pc := 110) (Nat.le_of_ble_eq_true rfl) w9_70 d9_call_110 ?_
      refine r_bipush C (pc := 113) (v := 6) d9_call_113 (by decide) ?_
      refine r_aload_n C (pc := 115) 0 rfl d9_call_115 ?_
      refine g9_calls C (pc := 116) (Nat.le_of_ble_eq_true rfl) w9_190 d9_call_116 ?_
      refine r_imul C (pc := 119) d9_call_119 ?_
      refine r_iload C (pc := 120) 3 rfl d9_call_120 ?_
      refine r_iadd C (pc := 122) d9_call_122 ?_
      refine r_iload C (pc := 123) 3 rfl d9_call_123 ?_
      refine r_iload C (pc := 125) 2 rfl d9_call_125 ?_
      refine r_icmp_ge C (pc := 127) (tgt := 145) d9_call_127 (by decide) (fun c2 => ?_) (fun c2 => ?_)
      · have hw := hw.1 c2
        refine r_lconst C (pc := 145) (v := 0) d9_call_145 (by decide) ?_
        refine r_sub (ls' := [(0, .ref (ρ 9 0)), (3, .int x3), (4, .int x4), (5, .int x5)]) [0, 1, 2, 3] rfl ?_
        exact nd9_call_146 C hr ih hw
      · have hw := hw.2 c2
        refine r_aload_n C (pc := 130) 0 rfl d9_call_130 ?_
        refine g9_whole C (pc := 131) (Nat.le_of_ble_eq_true rfl) w9_60 d9_call_131 ?_
        refine r_aload_n C (pc := 134) 0 rfl d9_call_134 ?_
        refine g9_height C (pc := 135) (Nat.le_of_ble_eq_true rfl) w9_122 d9_call_135 ?_
        refine r_iload C (pc := 138) 3 rfl d9_call_138 ?_
        refine r_iadd C (pc := 140) d9_call_140 ?_
        have hi3 := hw.1
        have hw := hw.2
        refine ld1922 C (pc := 141) (Nat.le_of_ble_eq_true rfl) hi3 d9_call_141 ?_
        refine r_goto C (pc := 142) (tgt := 146) d9_call_142 (by decide) ?_
        refine r_sub (ls' := [(0, .ref (ρ 9 0)), (3, .int x3), (4, .int x4), (5, .int x5)]) [0, 1, 2, 3] rfl ?_
        exact nd9_call_146 C hr ih hw
set_option maxRecDepth 20000 in
theorem nd9_call_65 {p : Program} {l : Launch} {e : Env} {s : State} {m : MethodId} {args : Array Value} {below : List Frame} {meth : Method} {c : Code} {D : va_G} {ca : Nat → ClassId} {ρ : Nat → Nat → Nat} {x1 : Int32} {x2 : Int32} {Q : St → Prop} {x3 : Int32} {S : St} (C : Cx false p l s m meth c R9 b9_call 6 D ca ρ) (hr : meth.sig.returnType = none)   (hw : wp9_call_65 x1 x2 Q x3 S) : wm false p l e { frames := 1, cells := 0, slots := 0, locals := 23 } s m args below meth c D ca ρ 6 0 0 (qv false below args s D ca ρ 0 0 Q) 65 [(0, .ref (ρ 9 0)), (3, .int x3)] [] S := by
  unfold wp9_call_65 at hw
  refine r_aload_n C (pc := 65) 0 rfl d9_call_65 ?_
  refine g9_parameters C (pc := 66) (Nat.le_of_ble_eq_true rfl) w9_13 d9_call_66 ?_
  refine r_iload_n C (pc := 69) 1 rfl d9_call_69 ?_
  have hi1 := hw.1
  have hw := hw.2
  refine ld1901 C (pc := 70) (Nat.le_of_ble_eq_true rfl) hi1 d9_call_70 ?_
  refine r_topi (fun x4_1 ex4_1 => ?_)
  have hw := hw x4_1 ex4_1
  refine r_istore C (pc := 71) (ls' := [(4, .int x4_1), (0, .ref (ρ 9 0)), (3, .int x3)]) (Nat.le_of_ble_eq_true rfl) rfl d9_call_71 ?_
  refine r_aload_n C (pc := 73) 1 rfl d9_call_73 ?_
  refine r_dup C (pc := 74) rfl d9_call_74 ?_
  refine g9_height C (pc := 75) (Nat.le_of_ble_eq_true rfl) w9_122 d9_call_75 ?_
  refine r_iload C (pc := 78) 0 rfl d9_call_78 ?_
  refine r_isub C (pc := 80) d9_call_80 ?_
  refine p9_height C (pc := 81) (Nat.le_of_ble_eq_true rfl) w9_122 d9_call_81 ?_
  refine r_S (fun S1 eS1 => ?_)
  have hw := hw S1 eS1
  refine r_aload_n C (pc := 84) 1 rfl d9_call_84 ?_
  refine g9_calls C (pc := 85) (Nat.le_of_ble_eq_true rfl) w9_190 d9_call_85 ?_
  refine r_bipush C (pc := 88) (v := 6) d9_call_88 (by decide) ?_
  refine r_icmp_ne C (pc := 90) (tgt := 99) d9_call_90 (by decide) (fun c2 => ?_) (fun c2 => ?_)
  · have hw := hw.1 c2
    refine r_iconst C (pc := 99) (v := 0) d9_call_99 (by decide) ?_
    refine r_istore C (pc := 100) (ls' := [(5, .int 0), (4, .int x4_1), (0, .ref (ρ 9 0)), (3, .int x3)]) (Nat.le_of_ble_eq_true rfl) rfl d9_call_100 ?_
    refine r_sub (ls' := [(0, .ref (ρ 9 0)), (3, .int x3), (4, .int x4_1), (5, .int 0)]) [2, 3, 1, 0] rfl ?_
    obtain ⟨n, hw⟩ := hw
    exact nd9_call_102 C hr  n _ _ _ _ hw
  · have hw := hw.2 c2
    refine r_aload_n C (pc := 93) 1 rfl d9_call_93 ?_
    refine r_iconst C (pc := 94) (v := 1) d9_call_94 (by decide) ?_
    refine p9_trap C (pc := 95) (Nat.le_of_ble_eq_true rfl) w9_233 d9_call_95 ?_
    refine r_S (fun S2 eS2 => ?_)
    have hw := hw S2 eS2
    exact r_vret C (pc := 98) hr d9_call_98 hw
set_option maxRecDepth 20000 in
theorem nd9_call_36 {p : Program} {l : Launch} {e : Env} {s : State} {m : MethodId} {args : Array Value} {below : List Frame} {meth : Method} {c : Code} {D : va_G} {ca : Nat → ClassId} {ρ : Nat → Nat → Nat} {x1 : Int32} {x2 : Int32} {Q : St → Prop} {s0 : Int32} {S : St} (C : Cx false p l s m meth c R9 b9_call 6 D ca ρ) (hr : meth.sig.returnType = none)   (hw : wp9_call_36 x1 x2 Q s0 S) : wm false p l e { frames := 1, cells := 0, slots := 0, locals := 23 } s m args below meth c D ca ρ 6 0 0 (qv false below args s D ca ρ 0 0 Q) 36 [(0, .ref (ρ 9 0)), (2, .int x2)] [.int s0] S := by
  unfold wp9_call_36 at hw
  refine r_istore_n C (pc := 36) (ls' := [(3, .int s0), (0, .ref (ρ 9 0)), (2, .int x2)]) (Nat.le_of_ble_eq_true rfl) rfl d9_call_36 ?_
  refine r_iload_n C (pc := 37) 0 rfl d9_call_37 ?_
  refine r_if_lt C (pc := 38) (tgt := 59) d9_call_38 (by decide) (fun c1 => ?_) (fun c1 => ?_)
  · have hw := hw.1 c1
    refine r_aload_n C (pc := 59) 1 rfl d9_call_59 ?_
    refine r_iconst C (pc := 60) (v := 4) d9_call_60 (by decide) ?_
    refine p9_trap C (pc := 61) (Nat.le_of_ble_eq_true rfl) w9_233 d9_call_61 ?_
    refine r_S (fun S1 eS1 => ?_)
    have hw := hw S1 eS1
    exact r_vret C (pc := 64) hr d9_call_64 hw
  · have hw := hw.2 c1
    refine r_aload_n C (pc := 41) 1 rfl d9_call_41 ?_
    refine g9_length C (pc := 42) (Nat.le_of_ble_eq_true rfl) w9_25 d9_call_42 ?_
    refine r_iload_n C (pc := 45) 0 rfl d9_call_45 ?_
    have hi2 := hw.1
    have hw := hw.2
    refine ld1905 C (pc := 46) (Nat.le_of_ble_eq_true rfl) hi2 d9_call_46 ?_
    refine r_if_eq C (pc := 47) (tgt := 59) d9_call_47 (by decide) (fun c3 => ?_) (fun c3 => ?_)
    · have hw := hw.1 c3
      refine r_aload_n C (pc := 59) 1 rfl d9_call_59 ?_
      refine r_iconst C (pc := 60) (v := 4) d9_call_60 (by decide) ?_
      refine p9_trap C (pc := 61) (Nat.le_of_ble_eq_true rfl) w9_233 d9_call_61 ?_
      refine r_S (fun S2 eS2 => ?_)
      have hw := hw S2 eS2
      exact r_vret C (pc := 64) hr d9_call_64 hw
    · have hw := hw.2 c3
      refine r_aload_n C (pc := 50) 1 rfl d9_call_50 ?_
      refine r_iload_n C (pc := 51) 0 rfl d9_call_51 ?_
      refine r_iload_n C (pc := 52) 2 rfl d9_call_52 ?_
      refine r_callVi C (pc := 53) (fun sz => ct9_agree l D ca ρ sz C.2.2.2.2.2.2.1 hw) mf9_agree w9_229 rfl (Nat.le_of_ble_eq_true rfl) rfl rfl rfl rfl ⟨Nat.le_of_ble_eq_true rfl, Nat.le_of_ble_eq_true rfl⟩ rfl rfl (Nat.le_of_ble_eq_true rfl) ⟨Nat.zero_le _, Nat.zero_le _⟩ d9_call_53 (fun r1 S3 hw => ?_)
      refine r_if_ne C (pc := 56) (tgt := 65) d9_call_56 (by decide) (fun c4 => ?_) (fun c4 => ?_)
      · have hw := hw.1 c4
        refine r_sub (ls' := [(0, .ref (ρ 9 0)), (3, .int s0)]) [1, 0] rfl ?_
        exact nd9_call_65 C hr hw
      · have hw := hw.2 c4
        refine r_aload_n C (pc := 59) 1 rfl d9_call_59 ?_
        refine r_iconst C (pc := 60) (v := 4) d9_call_60 (by decide) ?_
        refine p9_trap C (pc := 61) (Nat.le_of_ble_eq_true rfl) w9_233 d9_call_61 ?_
        refine r_S (fun S4 eS4 => ?_)
        have hw := hw S4 eS4
        exact r_vret C (pc := 64) hr d9_call_64 hw
set_option maxRecDepth 20000 in
theorem ct9_call (l : Launch) (D : va_G) (ca : Nat → ClassId) (ρ : Nat → Nat → Nat) (sz : Nat) {S : St} {x1 : Int32} {x2 : Int32} {Q : St → Prop} (hAp : Ap false ρ)  (hw : wp9_call S x1 x2 Q) : Met l y9_call [Cond.code y9_call b9_call 6 none] { frames := 1, cells := 0, slots := 0, locals := 23 } (va_Pc [.ref (ρ 9 0), .int x1, .int x2] (PreU false D ca ρ sz S)) (va_Qv Q (PostU false D ca ρ) (Ar false ρ sz)) 0 0 (Ar false ρ sz) := by
  refine met_of_wm (own := R9) (ls0 := [(0, .ref (ρ 9 0)), (1, .int x1), (2, .int x2)]) rfl rfl hAp (Nat.le_of_ble_eq_true rfl) rfl fun p e s m args below meth c C hr hz => ?_
  subst hz
  unfold wp9_call at hw
  refine r_iload_n C (pc := 0) 2 rfl d9_call_0 ?_
  refine r_istore_n C (pc := 1) (ls' := [(3, .int x2), (0, .ref (ρ 9 0)), (1, .int x1), (2, .int x2)]) (Nat.le_of_ble_eq_true rfl) rfl d9_call_1 ?_
  refine r_iload_n C (pc := 2) 2 rfl d9_call_2 ?_
  refine r_bipush C (pc := 3) (v := 12) d9_call_3 (by decide) ?_
  refine r_icmp_ne C (pc := 5) (tgt := 65) d9_call_5 (by decide) (fun c1 => ?_) (fun c1 => ?_)
  · have hw := hw.1 c1
    refine r_sub (ls' := [(0, .ref (ρ 9 0)), (3, .int x2)]) [1, 0] rfl ?_
    exact nd9_call_65 C hr hw
  · have hw := hw.2 c1
    refine r_aload_n C (pc := 8) 1 rfl d9_call_8 ?_
    refine r_callVi C (pc := 9) (fun sz => ct9_popInt l D ca ρ sz C.2.2.2.2.2.2.1 hw) mf9_popInt w9_226 rfl (Nat.le_of_ble_eq_true rfl) rfl rfl rfl rfl ⟨Nat.le_of_ble_eq_true rfl, Nat.le_of_ble_eq_true rfl⟩ rfl rfl (Nat.le_of_ble_eq_true rfl) ⟨Nat.zero_le _, Nat.zero_le _⟩ d9_call_9 (fun r1 S1 hw => ?_)
    refine r_istore C (pc := 12) (ls' := [(4, .int r1), (3, .int x2), (0, .ref (ρ 9 0)), (1, .int x1), (2, .int x2)]) (Nat.le_of_ble_eq_true rfl) rfl d9_call_12 ?_
    refine r_iload C (pc := 14) 0 rfl d9_call_14 ?_
    refine r_iconst C (pc := 16) (v := 0) d9_call_16 (by decide) ?_
    refine r_bipush C (pc := 17) (v := 7) d9_call_17 (by decide) ?_
    refine r_callSi C (pc := 19) (fun sz => ct9_in l D ca ρ sz C.2.2.2.2.2.2.1 hw) mf9_in w9_92 rfl rfl ⟨Nat.le_of_ble_eq_true rfl, Nat.le_of_ble_eq_true rfl⟩ rfl rfl (Nat.le_of_ble_eq_true rfl) ⟨Nat.zero_le _, Nat.zero_le _⟩ d9_call_19 (fun r2 S2 hw => ?_)
    refine r_if_eq C (pc := 22) (tgt := 35) d9_call_22 (by decide) (fun c2 => ?_) (fun c2 => ?_)
    · have hw := hw.1 c2
      refine r_iconst C (pc := 35) (v := (-1)) d9_call_35 (by decide) ?_
      refine r_sub (ls' := [(0, .ref (ρ 9 0)), (2, .int x2)]) [2, 4] rfl ?_
      exact nd9_call_36 C hr hw
    · have hw := hw.2 c2
      refine r_aload_n C (pc := 25) 2 rfl d9_call_25 ?_
      refine g9_table C (pc := 26) (Nat.le_of_ble_eq_true rfl) w9_28 d9_call_26 ?_
      refine r_iload C (pc := 29) 0 rfl d9_call_29 ?_
      have hi3 := hw.1
      have hw := hw.2
      refine ld1906 C (pc := 31) (Nat.le_of_ble_eq_true rfl) hi3 d9_call_31 ?_
      refine r_goto C (pc := 32) (tgt := 36) d9_call_32 (by decide) ?_
      refine r_sub (ls' := [(0, .ref (ρ 9 0)), (2, .int x2)]) [2, 4] rfl ?_
      exact nd9_call_36 C hr hw
set_option maxRecDepth 20000 in
theorem nd9_variable_122 {p : Program} {l : Launch} {e : Env} {s : State} {m : MethodId} {args : Array Value} {below : List Frame} {meth : Method} {c : Code} {D : va_G} {ca : Nat → ClassId} {ρ : Nat → Nat → Nat} {x1 : Int32} {x2 : Int32} {Q : St → Prop} {x3 : Int32} {x4 : Int32} {S : St} (C : Cx false p l s m meth c R9 b9_variable 5 D ca ρ) (hr : meth.sig.returnType = none)   (hw : wp9_variable_122 x1 x2 Q x3 x4 S) : wm false p l e { frames := 1, cells := 0, slots := 0, locals := 24 } s m args below meth c D ca ρ 5 0 0 (qv false below args s D ca ρ 0 0 Q) 122 [(0, .ref (ρ 9 0)), (1, .int x1), (2, .int x2), (3, .int x3), (4, .int x4)] [] S := by
  unfold wp9_variable_122 at hw
  refine r_iload_n C (pc := 122) 1 rfl d9_variable_122 ?_
  refine r_bipush C (pc := 123) (v := 19) d9_variable_123 (by decide) ?_
  refine r_icmp_ne C (pc := 125) (tgt := 144) d9_variable_125 (by decide) (fun c1 => ?_) (fun c1 => ?_)
  · have hw := hw.1 c1
    refine r_aload_n C (pc := 144) 0 rfl d9_variable_144 ?_
    refine g9_varWhole C (pc := 145) (Nat.le_of_ble_eq_true rfl) w9_70 d9_variable_145 ?_
    refine r_iload_n C (pc := 148) 3 rfl d9_variable_148 ?_
    refine r_aload_n C (pc := 149) 0 rfl d9_variable_149 ?_
    refine g9_whole C (pc := 150) (Nat.le_of_ble_eq_true rfl) w9_60 d9_variable_150 ?_
    refine r_iload C (pc := 153) 4 rfl d9_variable_153 ?_
    have hi2 := hw.1
    have hw := hw.2
    refine ld1922 C (pc := 155) (Nat.le_of_ble_eq_true rfl) hi2 d9_variable_155 ?_
    have hi3 := hw.1
    have hw := hw.2
    refine st1925 C (pc := 156) (Nat.le_of_ble_eq_true rfl) hi3 d9_variable_156 ?_
    refine r_S (fun S1 eS1 => ?_)
    have hw := hw S1 eS1
    refine r_aload_n C (pc := 157) 0 rfl d9_variable_157 ?_
    refine g9_varReal C (pc := 158) (Nat.le_of_ble_eq_true rfl) w9_73 d9_variable_158 ?_
    refine r_iload_n C (pc := 161) 3 rfl d9_variable_161 ?_
    refine r_aload_n C (pc := 162) 0 rfl d9_variable_162 ?_
    refine g9_reals C (pc := 163) (Nat.le_of_ble_eq_true rfl) w9_63 d9_variable_163 ?_
    refine r_iload C (pc := 166) 4 rfl d9_variable_166 ?_
    have hi4 := hw.1
    have hw := hw.2
    refine ld1923 C (pc := 168) (Nat.le_of_ble_eq_true rfl) hi4 d9_variable_168 ?_
    have hi5 := hw.1
    have hw := hw.2
    refine st1926 C (pc := 169) (Nat.le_of_ble_eq_true rfl) hi5 d9_variable_169 ?_
    refine r_S (fun S2 eS2 => ?_)
    have hw := hw S2 eS2
    exact r_vret C (pc := 170) hr d9_variable_170 hw
  · have hw := hw.2 c1
    refine r_aload_n C (pc := 128) 0 rfl d9_variable_128 ?_
    refine g9_wholes C (pc := 129) (Nat.le_of_ble_eq_true rfl) w9_34 d9_variable_129 ?_
    refine r_iload_n C (pc := 132) 2 rfl d9_variable_132 ?_
    refine r_aload_n C (pc := 133) 0 rfl d9_variable_133 ?_
    refine g9_whole C (pc := 134) (Nat.le_of_ble_eq_true rfl) w9_60 d9_variable_134 ?_
    refine r_iload C (pc := 137) 4 rfl d9_variable_137 ?_
    have hi6 := hw.1
    have hw := hw.2
    refine ld1922 C (pc := 139) (Nat.le_of_ble_eq_true rfl) hi6 d9_variable_139 ?_
    have hi7 := hw.1
    have hw := hw.2
    refine st1908 C (pc := 140) (Nat.le_of_ble_eq_true rfl) hi7 d9_variable_140 ?_
    refine r_S (fun S3 eS3 => ?_)
    have hw := hw S3 eS3
    refine r_goto C (pc := 141) (tgt := 170) d9_variable_141 (by decide) ?_
    exact r_vret C (pc := 170) hr d9_variable_170 hw
set_option maxRecDepth 20000 in
theorem nd9_variable_95 {p : Program} {l : Launch} {e : Env} {s : State} {m : MethodId} {args : Array Value} {below : List Frame} {meth : Method} {c : Code} {D : va_G} {ca : Nat → ClassId} {ρ : Nat → Nat → Nat} {x1 : Int32} {x2 : Int32} {Q : St → Prop} {x3 : Int32} {s0 : Int32} {S : St} (C : Cx false p l s m meth c R9 b9_variable 5 D ca ρ) (hr : meth.sig.returnType = none)   (hw : wp9_variable_95 x1 x2 Q x3 s0 S) : wm false p l e { frames := 1, cells := 0, slots := 0, locals := 24 } s m args below meth c D ca ρ 5 0 0 (qv false below args s D ca ρ 0 0 Q) 95 [(0, .ref (ρ 9 0)), (1, .int x1), (2, .int x2), (3, .int x3)] [.int s0] S := by
  unfold wp9_variable_95 at hw
  refine r_istore C (pc := 95) (ls' := [(4, .int s0), (0, .ref (ρ 9 0)), (1, .int x1), (2, .int x2), (3, .int x3)]) (Nat.le_of_ble_eq_true rfl) rfl d9_variable_95 ?_
  refine r_iload_n C (pc := 97) 2 rfl d9_variable_97 ?_
  refine r_bipush C (pc := 98) (v := 19) d9_variable_98 (by decide) ?_
  refine r_icmp_ne C (pc := 100) (tgt := 122) d9_variable_100 (by decide) (fun c1 => ?_) (fun c1 => ?_)
  · have hw := hw.1 c1
    refine r_sub (ls' := [(0, .ref (ρ 9 0)), (1, .int x1), (2, .int x2), (3, .int x3), (4, .int s0)]) [1, 2, 3, 4, 0] rfl ?_
    exact nd9_variable_122 C hr hw
  · have hw := hw.2 c1
    refine r_iload_n C (pc := 103) 3 rfl d9_variable_103 ?_
    refine r_iconst C (pc := 104) (v := 2) d9_variable_104 (by decide) ?_
    refine r_icmp_ne C (pc := 105) (tgt := 122) d9_variable_105 (by decide) (fun c2 => ?_) (fun c2 => ?_)
    · have hw := hw.1 c2
      refine r_sub (ls' := [(0, .ref (ρ 9 0)), (1, .int x1), (2, .int x2), (3, .int x3), (4, .int s0)]) [1, 2, 3, 4, 0] rfl ?_
      exact nd9_variable_122 C hr hw
    · have hw := hw.2 c2
      refine r_aload_n C (pc := 108) 1 rfl d9_variable_108 ?_
      refine r_aload_n C (pc := 109) 1 rfl d9_variable_109 ?_
      refine g9_reals C (pc := 110) (Nat.le_of_ble_eq_true rfl) w9_63 d9_variable_110 ?_
      refine r_iload C (pc := 113) 0 rfl d9_variable_113 ?_
      have hi3 := hw.1
      have hw := hw.2
      refine ld1923 C (pc := 115) (Nat.le_of_ble_eq_true rfl) hi3 d9_variable_115 ?_
      refine p9_real C (pc := 116) (Nat.le_of_ble_eq_true rfl) w9_236 d9_variable_116 ?_
      refine r_S (fun S1 eS1 => ?_)
      have hw := hw S1 eS1
      refine r_goto C (pc := 119) (tgt := 170) d9_variable_119 (by decide) ?_
      exact r_vret C (pc := 170) hr d9_variable_170 hw
set_option maxRecDepth 20000 in
theorem nd9_variable_76 {p : Program} {l : Launch} {e : Env} {s : State} {m : MethodId} {args : Array Value} {below : List Frame} {meth : Method} {c : Code} {D : va_G} {ca : Nat → ClassId} {ρ : Nat → Nat → Nat} {x1 : Int32} {x2 : Int32} {Q : St → Prop} {x3 : Int32} {S : St} (C : Cx false p l s m meth c R9 b9_variable 5 D ca ρ) (hr : meth.sig.returnType = none)   (hw : wp9_variable_76 x1 x2 Q x3 S) : wm false p l e { frames := 1, cells := 0, slots := 0, locals := 24 } s m args below meth c D ca ρ 5 0 0 (qv false below args s D ca ρ 0 0 Q) 76 [(0, .ref (ρ 9 0)), (1, .int x1), (2, .int x2), (3, .int x3)] [] S := by
  unfold wp9_variable_76 at hw
  refine r_iload_n C (pc := 76) 1 rfl d9_variable_76 ?_
  refine r_bipush C (pc := 77) (v := 17) d9_variable_77 (by decide) ?_
  refine r_icmp_ne C (pc := 79) (tgt := 91) d9_variable_79 (by decide) (fun c1 => ?_) (fun c1 => ?_)
  · have hw := hw.1 c1
    refine r_aload_n C (pc := 91) 0 rfl d9_variable_91 ?_
    refine g9_height C (pc := 92) (Nat.le_of_ble_eq_true rfl) w9_122 d9_variable_92 ?_
    refine r_sub (ls' := [(0, .ref (ρ 9 0)), (1, .int x1), (2, .int x2), (3, .int x3)]) [0, 1, 2, 3] rfl ?_
    exact nd9_variable_95 C hr hw
  · have hw := hw.2 c1
    refine r_aload_n C (pc := 82) 0 rfl d9_variable_82 ?_
    refine g9_height C (pc := 83) (Nat.le_of_ble_eq_true rfl) w9_122 d9_variable_83 ?_
    refine r_iconst C (pc := 86) (v := 1) d9_variable_86 (by decide) ?_
    refine r_isub C (pc := 87) d9_variable_87 ?_
    refine r_goto C (pc := 88) (tgt := 95) d9_variable_88 (by decide) ?_
    refine r_sub (ls' := [(0, .ref (ρ 9 0)), (1, .int x1), (2, .int x2), (3, .int x3)]) [0, 1, 2, 3] rfl ?_
    exact nd9_variable_95 C hr hw
set_option maxRecDepth 20000 in
theorem ct9_variable (l : Launch) (D : va_G) (ca : Nat → ClassId) (ρ : Nat → Nat → Nat) (sz : Nat) {S : St} {x1 : Int32} {x2 : Int32} {Q : St → Prop} (hAp : Ap false ρ)  (hw : wp9_variable S x1 x2 Q) : Met l y9_variable [Cond.code y9_variable b9_variable 5 none] { frames := 1, cells := 0, slots := 0, locals := 24 } (va_Pc [.ref (ρ 9 0), .int x1, .int x2] (PreU false D ca ρ sz S)) (va_Qv Q (PostU false D ca ρ) (Ar false ρ sz)) 0 0 (Ar false ρ sz) := by
  refine met_of_wm (own := R9) (ls0 := [(0, .ref (ρ 9 0)), (1, .int x1), (2, .int x2)]) rfl rfl hAp (Nat.le_of_ble_eq_true rfl) rfl fun p e s m args below meth c C hr hz => ?_
  subst hz
  unfold wp9_variable at hw
  refine r_bipush C (pc := 0) (v := 6) d9_variable_0 (by decide) ?_
  refine r_aload_n C (pc := 2) 0 rfl d9_variable_2 ?_
  refine g9_calls C (pc := 3) (Nat.le_of_ble_eq_true rfl) w9_190 d9_variable_3 ?_
  refine r_iconst C (pc := 6) (v := 1) d9_variable_6 (by decide) ?_
  refine r_isub C (pc := 7) d9_variable_7 ?_
  refine r_imul C (pc := 8) d9_variable_8 ?_
  refine r_iload_n C (pc := 9) 2 rfl d9_variable_9 ?_
  refine r_iadd C (pc := 10) d9_variable_10 ?_
  refine r_topi (fun x3_1 ex3_1 => ?_)
  have hw := hw x3_1 ex3_1
  refine r_istore_n C (pc := 11) (ls' := [(3, .int x3_1), (0, .ref (ρ 9 0)), (1, .int x1), (2, .int x2)]) (Nat.le_of_ble_eq_true rfl) rfl d9_variable_11 ?_
  refine r_iload_n C (pc := 12) 2 rfl d9_variable_12 ?_
  refine r_bipush C (pc := 13) (v := 15) d9_variable_13 (by decide) ?_
  refine r_icmp_ne C (pc := 15) (tgt := 37) d9_variable_15 (by decide) (fun c1 => ?_) (fun c1 => ?_)
  · have hw := hw.1 c1
    refine r_iload_n C (pc := 37) 2 rfl d9_variable_37 ?_
    refine r_bipush C (pc := 38) (v := 18) d9_variable_38 (by decide) ?_
    refine r_icmp_ne C (pc := 40) (tgt := 60) d9_variable_40 (by decide) (fun c2 => ?_) (fun c2 => ?_)
    · have hw := hw.1 c2
      refine r_iload_n C (pc := 60) 2 rfl d9_variable_60 ?_
      refine r_bipush C (pc := 61) (v := 17) d9_variable_61 (by decide) ?_
      refine r_icmp_eq C (pc := 63) (tgt := 76) d9_variable_63 (by decide) (fun c3 => ?_) (fun c3 => ?_)
      · have hw := hw.1 c3
        refine r_sub (ls' := [(0, .ref (ρ 9 0)), (1, .int x1), (2, .int x2), (3, .int x3_1)]) [1, 2, 3, 0] rfl ?_
        exact nd9_variable_76 C hr hw
      · have hw := hw.2 c3
        refine r_aload_n C (pc := 66) 1 rfl d9_variable_66 ?_
        refine r_dup C (pc := 67) rfl d9_variable_67 ?_
        refine g9_height C (pc := 68) (Nat.le_of_ble_eq_true rfl) w9_122 d9_variable_68 ?_
        refine r_iconst C (pc := 71) (v := 1) d9_variable_71 (by decide) ?_
        refine r_isub C (pc := 72) d9_variable_72 ?_
        refine p9_height C (pc := 73) (Nat.le_of_ble_eq_true rfl) w9_122 d9_variable_73 ?_
        refine r_S (fun S1 eS1 => ?_)
        have hw := hw S1 eS1
        refine r_sub (ls' := [(0, .ref (ρ 9 0)), (1, .int x1), (2, .int x2), (3, .int x3_1)]) [1, 2, 3, 0] rfl ?_
        exact nd9_variable_76 C hr hw
    · have hw := hw.2 c2
      refine r_aload_n C (pc := 43) 1 rfl d9_variable_43 ?_
      refine r_aload_n C (pc := 44) 1 rfl d9_variable_44 ?_
      refine g9_wholes C (pc := 45) (Nat.le_of_ble_eq_true rfl) w9_34 d9_variable_45 ?_
      refine r_iload_n C (pc := 48) 3 rfl d9_variable_48 ?_
      have hi4 := hw.1
      have hw := hw.2
      refine ld1908 C (pc := 49) (Nat.le_of_ble_eq_true rfl) hi4 d9_variable_49 ?_
      refine r_aload_n C (pc := 50) 1 rfl d9_variable_50 ?_
      refine g9_real C (pc := 51) (Nat.le_of_ble_eq_true rfl) w9_236 d9_variable_51 ?_
      refine r_callVv C (pc := 54) (fun sz => ct9_push l D ca ρ sz C.2.2.2.2.2.2.1 hw) mf9_push w9_215 rfl (Nat.le_of_ble_eq_true rfl) rfl rfl rfl rfl ⟨Nat.le_of_ble_eq_true rfl, Nat.le_of_ble_eq_true rfl⟩ rfl rfl (Nat.le_of_ble_eq_true rfl) ⟨Nat.zero_le _, Nat.zero_le _⟩ d9_variable_54 (fun S2 hw => ?_)
      refine r_goto C (pc := 57) (tgt := 170) d9_variable_57 (by decide) ?_
      exact r_vret C (pc := 170) hr d9_variable_170 hw
  · have hw := hw.2 c1
    refine r_aload_n C (pc := 18) 1 rfl d9_variable_18 ?_
    refine r_aload_n C (pc := 19) 1 rfl d9_variable_19 ?_
    refine g9_varWhole C (pc := 20) (Nat.le_of_ble_eq_true rfl) w9_70 d9_variable_20 ?_
    refine r_iload_n C (pc := 23) 0 rfl d9_variable_23 ?_
    have hi5 := hw.1
    have hw := hw.2
    refine ld1925 C (pc := 24) (Nat.le_of_ble_eq_true rfl) hi5 d9_variable_24 ?_
    refine r_aload_n C (pc := 25) 1 rfl d9_variable_25 ?_
    refine g9_varReal C (pc := 26) (Nat.le_of_ble_eq_true rfl) w9_73 d9_variable_26 ?_
    refine r_iload_n C (pc := 29) 0 rfl d9_variable_29 ?_
    have hi6 := hw.1
    have hw := hw.2
    refine ld1926 C (pc := 30) (Nat.le_of_ble_eq_true rfl) hi6 d9_variable_30 ?_
    refine r_callVv C (pc := 31) (fun sz => ct9_push l D ca ρ sz C.2.2.2.2.2.2.1 hw) mf9_push w9_215 rfl (Nat.le_of_ble_eq_true rfl) rfl rfl rfl rfl ⟨Nat.le_of_ble_eq_true rfl, Nat.le_of_ble_eq_true rfl⟩ rfl rfl (Nat.le_of_ble_eq_true rfl) ⟨Nat.zero_le _, Nat.zero_le _⟩ d9_variable_31 (fun S3 hw => ?_)
    refine r_goto C (pc := 34) (tgt := 170) d9_variable_34 (by decide) ?_
    exact r_vret C (pc := 170) hr d9_variable_170 hw
set_option maxRecDepth 20000 in
theorem nd9_access_191 {p : Program} {l : Launch} {e : Env} {s : State} {m : MethodId} {args : Array Value} {below : List Frame} {meth : Method} {c : Code} {D : va_G} {ca : Nat → ClassId} {ρ : Nat → Nat → Nat} {x1 : Int32} {x2 : Int32} {Q : St → Prop} {s1 : Int64} {S : St} (C : Cx false p l s m meth c R9 b9_access 12 D ca ρ) (hr : meth.sig.returnType = none)   (hw : wp9_access_191 x1 x2 Q s1 S) : wm false p l e { frames := 1, cells := 0, slots := 0, locals := 24 } s m args below meth c D ca ρ 12 0 0 (qv false below args s D ca ρ 0 0 Q) 191 [] [.long s1, .ref (ρ 9 0)] S := by
  unfold wp9_access_191 at hw
  refine r_dconst0 C (pc := 191) d9_access_191 ?_
  refine r_callVv C (pc := 192) (fun sz => ct9_push l D ca ρ sz C.2.2.2.2.2.2.1 hw) mf9_push w9_215 rfl (Nat.le_of_ble_eq_true rfl) rfl rfl rfl rfl ⟨Nat.le_of_ble_eq_true rfl, Nat.le_of_ble_eq_true rfl⟩ rfl rfl (Nat.le_of_ble_eq_true rfl) ⟨Nat.zero_le _, Nat.zero_le _⟩ d9_access_192 (fun S1 hw => ?_)
  exact r_vret C (pc := 195) hr d9_access_195 hw
set_option maxRecDepth 20000 in
theorem nd9_access_163 {p : Program} {l : Launch} {e : Env} {s : State} {m : MethodId} {args : Array Value} {below : List Frame} {meth : Method} {c : Code} {D : va_G} {ca : Nat → ClassId} {ρ : Nat → Nat → Nat} {x1 : Int32} {x2 : Int32} {Q : St → Prop} {K : Int64 → Int64 → Int64 → Int32 → St → Prop} {x4 : Int64} {x6 : Int64} {x8 : Int64} {x10 : Int32} {S : St} (C : Cx false p l s m meth c R9 b9_access 12 D ca ρ) (hr : meth.sig.returnType = none)  (hK : ∀ (x4 : Int64) (x6 : Int64) (x8 : Int64) (x10 : Int32) (S : St) , K x4 x6 x8 x10 S → wm false p l e { frames := 1, cells := 0, slots := 0, locals := 24 } s m args below meth c D ca ρ 12 0 0 (qv false below args s D ca ρ 0 0 Q) 105 [(0, .ref (ρ 9 0)), (1, .int x1), (4, .long x4), (6, .long x6), (8, .long x8), (10, .int x10)] [] S)  (hw : wp9_access_163 K x1 x2 Q x4 x6 x8 x10 S) : wm false p l e { frames := 1, cells := 0, slots := 0, locals := 24 } s m args below meth c D ca ρ 12 0 0 (qv false below args s D ca ρ 0 0 Q) 163 [(0, .ref (ρ 9 0)), (1, .int x1), (4, .long x4), (6, .long x6), (8, .long x8), (10, .int x10)] [] S := by
  unfold wp9_access_163 at hw
  obtain ⟨x10_1, ex10_1⟩ : ∃ y : Int32, y = x10 + (-1) := ⟨_, rfl⟩
  have hw := hw x10_1 ex10_1
  refine r_iinc C (pc := 163) (v := x10_1) (ls' := [(10, .int x10_1), (0, .ref (ρ 9 0)), (1, .int x1), (4, .long x4), (6, .long x6), (8, .long x8)]) 5 rfl (by rw [ex10_1]; rfl) (Nat.le_of_ble_eq_true rfl) rfl d9_access_163 ?_
  refine r_goto C (pc := 166) (tgt := 105) d9_access_166 (by decide) ?_
  refine r_sub (ls' := [(0, .ref (ρ 9 0)), (1, .int x1), (4, .long x4), (6, .long x6), (8, .long x8), (10, .int x10_1)]) [1, 2, 3, 4, 5, 0] rfl ?_
  exact hK _ _ _ _ _ hw
set_option maxRecDepth 20000 in
theorem nd9_access_105 {p : Program} {l : Launch} {e : Env} {s : State} {m : MethodId} {args : Array Value} {below : List Frame} {meth : Method} {c : Code} {D : va_G} {ca : Nat → ClassId} {ρ : Nat → Nat → Nat} {x1 : Int32} {x2 : Int32} {Q : St → Prop} (C : Cx false p l s m meth c R9 b9_access 12 D ca ρ) (hr : meth.sig.returnType = none)  : ∀ (n : Nat) (x4 : Int64) (x6 : Int64) (x8 : Int64) (x10 : Int32) (S : St) , wp9_access_105 x1 x2 Q n x4 x6 x8 x10 S → wm false p l e { frames := 1, cells := 0, slots := 0, locals := 24 } s m args below meth c D ca ρ 12 0 0 (qv false below args s D ca ρ 0 0 Q) 105 [(0, .ref (ρ 9 0)), (1, .int x1), (4, .long x4), (6, .long x6), (8, .long x8), (10, .int x10)] [] S := by
  intro n
  induction n with
  | zero => intro x4 x6 x8 x10 S  hw; exact hw.elim
  | succ n ih =>
    intro x4 x6 x8 x10 S  hw
    unfold wp9_access_105 at hw
    refine r_iload C (pc := 105) 5 rfl d9_access_105 ?_
    refine r_if_lt C (pc := 107) (tgt := 169) d9_access_107 (by decide) (fun c1 => ?_) (fun c1 => ?_)
    · have hw := hw.1 c1
      refine r_iload_n C (pc := 169) 1 rfl d9_access_169 ?_
      refine r_bipush C (pc := 170) (v := 26) d9_access_170 (by decide) ?_
      refine r_icmp_ge C (pc := 172) (tgt := 195) d9_access_172 (by decide) (fun c2 => ?_) (fun c2 => ?_)
      · have hw := hw.1 c2
        exact r_vret C (pc := 195) hr d9_access_195 hw
      · have hw := hw.2 c2
        refine r_aload_n C (pc := 175) 0 rfl d9_access_175 ?_
        refine r_iload_n C (pc := 176) 1 rfl d9_access_176 ?_
        refine r_bipush C (pc := 177) (v := 23) d9_access_177 (by decide) ?_
        refine r_icmp_ne C (pc := 179) (tgt := 189) d9_access_179 (by decide) (fun c3 => ?_) (fun c3 => ?_)
        · have hw := hw.1 c3
          refine r_lload C (pc := 189) 4 rfl d9_access_189 ?_
          refine r_sub (ls' := []) [] rfl ?_
          exact nd9_access_191 C hr hw
        · have hw := hw.2 c3
          refine r_lload C (pc := 182) 4 rfl d9_access_182 ?_
          refine r_l2i C (pc := 184) d9_access_184 ?_
          refine r_i2l C (pc := 185) d9_access_185 ?_
          refine r_goto C (pc := 186) (tgt := 191) d9_access_186 (by decide) ?_
          refine r_sub (ls' := []) [] rfl ?_
          exact nd9_access_191 C hr hw
    · have hw := hw.2 c1
      refine r_lload C (pc := 110) 3 rfl d9_access_110 ?_
      refine r_l2i C (pc := 112) d9_access_112 ?_
      refine r_iload C (pc := 113) 5 rfl d9_access_113 ?_
      refine r_iadd C (pc := 115) d9_access_115 ?_
      refine r_topi (fun x11_1 ex11_1 => ?_)
      have hw := hw x11_1 ex11_1
      refine r_istore C (pc := 116) (ls' := [(11, .int x11_1), (0, .ref (ρ 9 0)), (1, .int x1), (4, .long x4), (6, .long x6), (8, .long x8), (10, .int x10)]) (Nat.le_of_ble_eq_true rfl) rfl d9_access_116 ?_
      refine r_iload_n C (pc := 118) 2 rfl d9_access_118 ?_
      refine r_bipush C (pc := 119) (v := 26) d9_access_119 (by decide) ?_
      refine r_icmp_lt C (pc := 121) (tgt := 147) d9_access_121 (by decide) (fun c4 => ?_) (fun c4 => ?_)
      · have hw := hw.1 c4
        refine r_lload C (pc := 147) 5 rfl d9_access_147 ?_
        refine r_bipush C (pc := 149) (v := 8) d9_access_149 (by decide) ?_
        refine r_lshl C (pc := 151) d9_access_151 ?_
        refine r_aload_n C (pc := 152) 1 rfl d9_access_152 ?_
        refine g9_memory C (pc := 153) (Nat.le_of_ble_eq_true rfl) w9_31 d9_access_153 ?_
        refine r_iload C (pc := 156) 0 rfl d9_access_156 ?_
        have hi5 := hw.1
        have hw := hw.2
        refine ld1907 C (pc := 158) (Nat.le_of_ble_eq_true rfl) hi5 d9_access_158 ?_
        refine r_i2l C (pc := 159) d9_access_159 ?_
        refine r_lor C (pc := 160) d9_access_160 ?_
        refine r_topl (fun x8_1 ex8_1 => ?_)
        have hw := hw x8_1 ex8_1
        refine r_lstore C (pc := 161) (ls' := [(8, .long x8_1), (11, .int x11_1), (0, .ref (ρ 9 0)), (1, .int x1), (4, .long x4), (6, .long x6), (10, .int x10)]) (Nat.le_of_ble_eq_true rfl) rfl d9_access_161 ?_
        refine r_sub (ls' := [(0, .ref (ρ 9 0)), (1, .int x1), (4, .long x4), (6, .long x6), (8, .long x8_1), (10, .int x10)]) [2, 3, 4, 5, 0, 6] rfl ?_
        exact nd9_access_163 C hr ih hw
      · have hw := hw.2 c4
        refine r_aload_n C (pc := 124) 1 rfl d9_access_124 ?_
        refine g9_memory C (pc := 125) (Nat.le_of_ble_eq_true rfl) w9_31 d9_access_125 ?_
        refine r_iload C (pc := 128) 0 rfl d9_access_128 ?_
        refine r_lload C (pc := 130) 3 rfl d9_access_130 ?_
        refine r_bipush C (pc := 132) (v := 8) d9_access_132 (by decide) ?_
        refine r_iload C (pc := 134) 6 rfl d9_access_134 ?_
        refine r_imul C (pc := 136) d9_access_136 ?_
        refine r_lshr C (pc := 137) d9_access_137 ?_
        refine r_l2i C (pc := 138) d9_access_138 ?_
        refine r_sipush C (pc := 139) (v := 255) d9_access_139 (by decide) ?_
        refine r_iand C (pc := 142) d9_access_142 ?_
        have hi6 := hw.1
        have hw := hw.2
        refine st1907 C (pc := 143) (Nat.le_of_ble_eq_true rfl) hi6 d9_access_143 ?_
        refine r_S (fun S1 eS1 => ?_)
        have hw := hw S1 eS1
        refine r_goto C (pc := 144) (tgt := 163) d9_access_144 (by decide) ?_
        refine r_sub (ls' := [(0, .ref (ρ 9 0)), (1, .int x1), (4, .long x4), (6, .long x6), (8, .long x8), (10, .int x10)]) [1, 2, 3, 4, 5, 6] rfl ?_
        exact nd9_access_163 C hr ih hw
set_option maxRecDepth 20000 in
theorem nd9_access_51 {p : Program} {l : Launch} {e : Env} {s : State} {m : MethodId} {args : Array Value} {below : List Frame} {meth : Method} {c : Code} {D : va_G} {ca : Nat → ClassId} {ρ : Nat → Nat → Nat} {x1 : Int32} {x2 : Int32} {Q : St → Prop} {x3 : Int32} {S : St} (C : Cx false p l s m meth c R9 b9_access 12 D ca ρ) (hr : meth.sig.returnType = none)   (hw : wp9_access_51 x1 x2 Q x3 S) : wm false p l e { frames := 1, cells := 0, slots := 0, locals := 24 } s m args below meth c D ca ρ 12 0 0 (qv false below args s D ca ρ 0 0 Q) 51 [(0, .ref (ρ 9 0)), (1, .int x1), (2, .int x2), (3, .int x3)] [] S := by
  unfold wp9_access_51 at hw
  refine r_aload_n C (pc := 51) 0 rfl d9_access_51 ?_
  refine g9_whole C (pc := 52) (Nat.le_of_ble_eq_true rfl) w9_60 d9_access_52 ?_
  refine r_aload_n C (pc := 55) 0 rfl d9_access_55 ?_
  refine g9_height C (pc := 56) (Nat.le_of_ble_eq_true rfl) w9_122 d9_access_56 ?_
  have hi1 := hw.1
  have hw := hw.2
  refine ld1922 C (pc := 59) (Nat.le_of_ble_eq_true rfl) hi1 d9_access_59 ?_
  refine r_topl (fun x4_1 ex4_1 => ?_)
  have hw := hw x4_1 ex4_1
  refine r_lstore C (pc := 60) (ls' := [(4, .long x4_1), (0, .ref (ρ 9 0)), (1, .int x1), (2, .int x2), (3, .int x3)]) (Nat.le_of_ble_eq_true rfl) rfl d9_access_60 ?_
  refine r_aload_n C (pc := 62) 1 rfl d9_access_62 ?_
  refine r_callVi C (pc := 63) (fun sz => ct9_popInt l D ca ρ sz C.2.2.2.2.2.2.1 hw) mf9_popInt w9_226 rfl (Nat.le_of_ble_eq_true rfl) rfl rfl rfl rfl ⟨Nat.le_of_ble_eq_true rfl, Nat.le_of_ble_eq_true rfl⟩ rfl rfl (Nat.le_of_ble_eq_true rfl) ⟨Nat.zero_le _, Nat.zero_le _⟩ d9_access_63 (fun r1 S1 hw => ?_)
  refine r_i2l C (pc := 66) d9_access_66 ?_
  refine r_iload_n C (pc := 67) 3 rfl d9_access_67 ?_
  refine r_i2l C (pc := 68) d9_access_68 ?_
  refine r_ladd C (pc := 69) d9_access_69 ?_
  refine r_topl (fun x6_1 ex6_1 => ?_)
  have hw := hw x6_1 ex6_1
  refine r_lstore C (pc := 70) (ls' := [(6, .long x6_1), (4, .long x4_1), (0, .ref (ρ 9 0)), (1, .int x1), (2, .int x2), (3, .int x3)]) (Nat.le_of_ble_eq_true rfl) rfl d9_access_70 ?_
  refine r_lload C (pc := 72) 0 rfl d9_access_72 ?_
  refine r_lconst C (pc := 74) (v := 0) d9_access_74 (by decide) ?_
  refine r_lcmp C (pc := 75) d9_access_75 ?_
  refine r_if_lt C (pc := 76) (tgt := 91) d9_access_76 (by decide) (fun c2 => ?_) (fun c2 => ?_)
  · have hw := hw.1 c2
    refine r_aload_n C (pc := 91) 2 rfl d9_access_91 ?_
    refine r_iconst C (pc := 92) (v := 3) d9_access_92 (by decide) ?_
    refine p9_trap C (pc := 93) (Nat.le_of_ble_eq_true rfl) w9_233 d9_access_93 ?_
    refine r_S (fun S2 eS2 => ?_)
    have hw := hw S2 eS2
    exact r_vret C (pc := 96) hr d9_access_96 hw
  · have hw := hw.2 c2
    refine r_lload C (pc := 79) 0 rfl d9_access_79 ?_
    refine r_iload_n C (pc := 81) 5 rfl d9_access_81 ?_
    refine r_i2l C (pc := 82) d9_access_82 ?_
    refine r_ladd C (pc := 83) d9_access_83 ?_
    refine r_ldc2 C (pc := 84) w9_239 d9_access_84 ?_
    refine r_lcmp C (pc := 87) d9_access_87 ?_
    refine r_if_le C (pc := 88) (tgt := 97) d9_access_88 (by decide) (fun c3 => ?_) (fun c3 => ?_)
    · have hw := hw.1 c3
      refine r_lconst C (pc := 97) (v := 0) d9_access_97 (by decide) ?_
      refine r_lstore C (pc := 98) (ls' := [(8, .long 0), (6, .long x6_1), (4, .long x4_1), (0, .ref (ρ 9 0)), (1, .int x1), (2, .int x2), (3, .int x3)]) (Nat.le_of_ble_eq_true rfl) rfl d9_access_98 ?_
      refine r_iload_n C (pc := 100) 6 rfl d9_access_100 ?_
      refine r_iconst C (pc := 101) (v := 1) d9_access_101 (by decide) ?_
      refine r_isub C (pc := 102) d9_access_102 ?_
      refine r_topi (fun x10_1 ex10_1 => ?_)
      have hw := hw x10_1 ex10_1
      refine r_istore C (pc := 103) (ls' := [(10, .int x10_1), (8, .long 0), (6, .long x6_1), (4, .long x4_1), (0, .ref (ρ 9 0)), (1, .int x1), (2, .int x2), (3, .int x3)]) (Nat.le_of_ble_eq_true rfl) rfl d9_access_103 ?_
      refine r_sub (ls' := [(0, .ref (ρ 9 0)), (1, .int x1), (4, .long x4_1), (6, .long x6_1), (8, .long 0), (10, .int x10_1)]) [4, 5, 3, 2, 1, 0] rfl ?_
      obtain ⟨n, hw⟩ := hw
      exact nd9_access_105 C hr  n _ _ _ _ _ hw
    · have hw := hw.2 c3
      refine r_aload_n C (pc := 91) 2 rfl d9_access_91 ?_
      refine r_iconst C (pc := 92) (v := 3) d9_access_92 (by decide) ?_
      refine p9_trap C (pc := 93) (Nat.le_of_ble_eq_true rfl) w9_233 d9_access_93 ?_
      refine r_S (fun S3 eS3 => ?_)
      have hw := hw S3 eS3
      exact r_vret C (pc := 96) hr d9_access_96 hw
set_option maxRecDepth 20000 in
theorem nd9_access_34 {p : Program} {l : Launch} {e : Env} {s : State} {m : MethodId} {args : Array Value} {below : List Frame} {meth : Method} {c : Code} {D : va_G} {ca : Nat → ClassId} {ρ : Nat → Nat → Nat} {x1 : Int32} {x2 : Int32} {Q : St → Prop} {s0 : Int32} {S : St} (C : Cx false p l s m meth c R9 b9_access 12 D ca ρ) (hr : meth.sig.returnType = none)   (hw : wp9_access_34 x1 x2 Q s0 S) : wm false p l e { frames := 1, cells := 0, slots := 0, locals := 24 } s m args below meth c D ca ρ 12 0 0 (qv false below args s D ca ρ 0 0 Q) 34 [(0, .ref (ρ 9 0)), (1, .int x1), (2, .int x2)] [.int s0] S := by
  unfold wp9_access_34 at hw
  refine r_istore_n C (pc := 34) (ls' := [(3, .int s0), (0, .ref (ρ 9 0)), (1, .int x1), (2, .int x2)]) (Nat.le_of_ble_eq_true rfl) rfl d9_access_34 ?_
  refine r_iload_n C (pc := 35) 2 rfl d9_access_35 ?_
  refine r_bipush C (pc := 36) (v := 26) d9_access_36 (by decide) ?_
  refine r_icmp_lt C (pc := 38) (tgt := 51) d9_access_38 (by decide) (fun c1 => ?_) (fun c1 => ?_)
  · have hw := hw.1 c1
    refine r_sub (ls' := [(0, .ref (ρ 9 0)), (1, .int x1), (2, .int x2), (3, .int s0)]) [1, 2, 3, 0] rfl ?_
    exact nd9_access_51 C hr hw
  · have hw := hw.2 c1
    refine r_aload_n C (pc := 41) 1 rfl d9_access_41 ?_
    refine r_dup C (pc := 42) rfl d9_access_42 ?_
    refine g9_height C (pc := 43) (Nat.le_of_ble_eq_true rfl) w9_122 d9_access_43 ?_
    refine r_iconst C (pc := 46) (v := 1) d9_access_46 (by decide) ?_
    refine r_isub C (pc := 47) d9_access_47 ?_
    refine p9_height C (pc := 48) (Nat.le_of_ble_eq_true rfl) w9_122 d9_access_48 ?_
    refine r_S (fun S1 eS1 => ?_)
    have hw := hw S1 eS1
    refine r_sub (ls' := [(0, .ref (ρ 9 0)), (1, .int x1), (2, .int x2), (3, .int s0)]) [1, 2, 3, 0] rfl ?_
    exact nd9_access_51 C hr hw
set_option maxRecDepth 20000 in
theorem nd9_access_28 {p : Program} {l : Launch} {e : Env} {s : State} {m : MethodId} {args : Array Value} {below : List Frame} {meth : Method} {c : Code} {D : va_G} {ca : Nat → ClassId} {ρ : Nat → Nat → Nat} {x1 : Int32} {x2 : Int32} {Q : St → Prop}  {S : St} (C : Cx false p l s m meth c R9 b9_access 12 D ca ρ) (hr : meth.sig.returnType = none)   (hw : wp9_access_28 x1 x2 Q  S) : wm false p l e { frames := 1, cells := 0, slots := 0, locals := 24 } s m args below meth c D ca ρ 12 0 0 (qv false below args s D ca ρ 0 0 Q) 28 [(0, .ref (ρ 9 0)), (1, .int x1), (2, .int x2)] [] S := by
  unfold wp9_access_28 at hw
  refine r_bipush C (pc := 28) (v := 8) d9_access_28 (by decide) ?_
  refine r_goto C (pc := 30) (tgt := 34) d9_access_30 (by decide) ?_
  refine r_sub (ls' := [(0, .ref (ρ 9 0)), (1, .int x1), (2, .int x2)]) [0, 1, 2] rfl ?_
  exact nd9_access_34 C hr hw
set_option maxRecDepth 20000 in
theorem nd9_access_12 {p : Program} {l : Launch} {e : Env} {s : State} {m : MethodId} {args : Array Value} {below : List Frame} {meth : Method} {c : Code} {D : va_G} {ca : Nat → ClassId} {ρ : Nat → Nat → Nat} {x1 : Int32} {x2 : Int32} {Q : St → Prop}  {S : St} (C : Cx false p l s m meth c R9 b9_access 12 D ca ρ) (hr : meth.sig.returnType = none)   (hw : wp9_access_12 x1 x2 Q  S) : wm false p l e { frames := 1, cells := 0, slots := 0, locals := 24 } s m args below meth c D ca ρ 12 0 0 (qv false below args s D ca ρ 0 0 Q) 12 [(0, .ref (ρ 9 0)), (1, .int x1), (2, .int x2)] [] S := by
  unfold wp9_access_12 at hw
  refine r_iconst C (pc := 12) (v := 1) d9_access_12 (by decide) ?_
  refine r_goto C (pc := 13) (tgt := 34) d9_access_13 (by decide) ?_
  refine r_sub (ls' := [(0, .ref (ρ 9 0)), (1, .int x1), (2, .int x2)]) [0, 1, 2] rfl ?_
  exact nd9_access_34 C hr hw
set_option maxRecDepth 20000 in
theorem ct9_access (l : Launch) (D : va_G) (ca : Nat → ClassId) (ρ : Nat → Nat → Nat) (sz : Nat) {S : St} {x1 : Int32} {x2 : Int32} {Q : St → Prop} (hAp : Ap false ρ)  (hw : wp9_access S x1 x2 Q) : Met l y9_access [Cond.code y9_access b9_access 12 none] { frames := 1, cells := 0, slots := 0, locals := 24 } (va_Pc [.ref (ρ 9 0), .int x1, .int x2] (PreU false D ca ρ sz S)) (va_Qv Q (PostU false D ca ρ) (Ar false ρ sz)) 0 0 (Ar false ρ sz) := by
  refine met_of_wm (own := R9) (ls0 := [(0, .ref (ρ 9 0)), (1, .int x1), (2, .int x2)]) rfl rfl hAp (Nat.le_of_ble_eq_true rfl) rfl fun p e s m args below meth c C hr hz => ?_
  subst hz
  unfold wp9_access at hw
  refine r_iload_n C (pc := 0) 1 rfl d9_access_0 ?_
  refine r_bipush C (pc := 1) (v := 24) d9_access_1 (by decide) ?_
  refine r_icmp_eq C (pc := 3) (tgt := 12) d9_access_3 (by decide) (fun c1 => ?_) (fun c1 => ?_)
  · have hw := hw.1 c1
    refine r_sub (ls' := [(0, .ref (ρ 9 0)), (1, .int x1), (2, .int x2)]) [0, 1, 2] rfl ?_
    exact nd9_access_12 C hr hw
  · have hw := hw.2 c1
    refine r_iload_n C (pc := 6) 1 rfl d9_access_6 ?_
    refine r_bipush C (pc := 7) (v := 27) d9_access_7 (by decide) ?_
    refine r_icmp_ne C (pc := 9) (tgt := 16) d9_access_9 (by decide) (fun c2 => ?_) (fun c2 => ?_)
    · have hw := hw.1 c2
      refine r_iload_n C (pc := 16) 1 rfl d9_access_16 ?_
      refine r_bipush C (pc := 17) (v := 25) d9_access_17 (by decide) ?_
      refine r_icmp_eq C (pc := 19) (tgt := 28) d9_access_19 (by decide) (fun c3 => ?_) (fun c3 => ?_)
      · have hw := hw.1 c3
        refine r_sub (ls' := [(0, .ref (ρ 9 0)), (1, .int x1), (2, .int x2)]) [0, 1, 2] rfl ?_
        exact nd9_access_28 C hr hw
      · have hw := hw.2 c3
        refine r_iload_n C (pc := 22) 1 rfl d9_access_22 ?_
        refine r_bipush C (pc := 23) (v := 28) d9_access_23 (by decide) ?_
        refine r_icmp_ne C (pc := 25) (tgt := 33) d9_access_25 (by decide) (fun c4 => ?_) (fun c4 => ?_)
        · have hw := hw.1 c4
          refine r_iconst C (pc := 33) (v := 4) d9_access_33 (by decide) ?_
          refine r_sub (ls' := [(0, .ref (ρ 9 0)), (1, .int x1), (2, .int x2)]) [0, 1, 2] rfl ?_
          exact nd9_access_34 C hr hw
        · have hw := hw.2 c4
          refine r_sub (ls' := [(0, .ref (ρ 9 0)), (1, .int x1), (2, .int x2)]) [0, 1, 2] rfl ?_
          exact nd9_access_28 C hr hw
    · have hw := hw.2 c2
      refine r_sub (ls' := [(0, .ref (ρ 9 0)), (1, .int x1), (2, .int x2)]) [0, 1, 2] rfl ?_
      exact nd9_access_12 C hr hw
set_option maxRecDepth 20000 in
theorem ct9_bits (l : Launch) (D : va_G) (ca : Nat → ClassId) (ρ : Nat → Nat → Nat) (sz : Nat) {S : St} {x0 : Int32} {x1 : Int64} {x3 : Int64} {x5 : Int32} {Q : Int64 → St → Prop} (hAp : Ap false ρ)  (hw : wp9_bits S x0 x1 x3 x5 Q) : Met l y9_bits [Cond.code y9_bits b9_bits 7 (some .long)] { frames := 0, cells := 0, slots := 0, locals := 0 } (va_Pc [.int x0, .long x1, .long x3, .int x5] (PreU false D ca ρ sz S)) (va_Ql Q (PostU false D ca ρ) (Ar false ρ sz)) 0 0 (Ar false ρ sz) := by
  refine met_of_wm (own := R9) (ls0 := [(0, .int x0), (1, .long x1), (3, .long x3), (5, .int x5)]) rfl rfl hAp (Nat.le_of_ble_eq_true rfl) rfl fun p e s m args below meth c C hr hz => ?_
  subst hz
  unfold wp9_bits at hw
  refine r_lload_n C (pc := 0) 2 rfl d9_bits_0 ?_
  refine r_l2i C (pc := 1) d9_bits_1 ?_
  refine r_iload C (pc := 2) 3 rfl d9_bits_2 ?_
  refine r_iconst C (pc := 4) (v := 1) d9_bits_4 (by decide) ?_
  refine r_isub C (pc := 5) d9_bits_5 ?_
  refine r_iand C (pc := 6) d9_bits_6 ?_
  refine r_topi (fun x6_1 ex6_1 => ?_)
  have hw := hw x6_1 ex6_1
  refine r_istore C (pc := 7) (ls' := [(6, .int x6_1), (0, .int x0), (1, .long x1), (3, .long x3), (5, .int x5)]) (Nat.le_of_ble_eq_true rfl) rfl d9_bits_7 ?_
  refine r_iload_n C (pc := 9) 1 rfl d9_bits_9 ?_
  refine r_iconst C (pc := 10) (v := 5) d9_bits_10 (by decide) ?_
  refine r_icmp_ne C (pc := 11) (tgt := 18) d9_bits_11 (by decide) (fun c1 => ?_) (fun c1 => ?_)
  · have hw := hw.1 c1
    refine r_iload_n C (pc := 18) 1 rfl d9_bits_18 ?_
    refine r_bipush C (pc := 19) (v := 6) d9_bits_19 (by decide) ?_
    refine r_icmp_ne C (pc := 21) (tgt := 28) d9_bits_21 (by decide) (fun c2 => ?_) (fun c2 => ?_)
    · have hw := hw.1 c2
      refine r_iload_n C (pc := 28) 1 rfl d9_bits_28 ?_
      refine r_bipush C (pc := 29) (v := 7) d9_bits_29 (by decide) ?_
      refine r_icmp_ne C (pc := 31) (tgt := 38) d9_bits_31 (by decide) (fun c3 => ?_) (fun c3 => ?_)
      · have hw := hw.1 c3
        refine r_iload_n C (pc := 38) 1 rfl d9_bits_38 ?_
        refine r_bipush C (pc := 39) (v := 8) d9_bits_39 (by decide) ?_
        refine r_icmp_ne C (pc := 41) (tgt := 49) d9_bits_41 (by decide) (fun c4 => ?_) (fun c4 => ?_)
        · have hw := hw.1 c4
          refine r_iload_n C (pc := 49) 1 rfl d9_bits_49 ?_
          refine r_bipush C (pc := 50) (v := 9) d9_bits_50 (by decide) ?_
          refine r_icmp_ne C (pc := 52) (tgt := 60) d9_bits_52 (by decide) (fun c5 => ?_) (fun c5 => ?_)
          · have hw := hw.1 c5
            refine r_iload C (pc := 60) 4 rfl d9_bits_60 ?_
            refine r_bipush C (pc := 62) (v := 64) d9_bits_62 (by decide) ?_
            refine r_icmp_ne C (pc := 64) (tgt := 74) d9_bits_64 (by decide) (fun c6 => ?_) (fun c6 => ?_)
            · have hw := hw.1 c6
              refine r_lload_n C (pc := 74) 2 rfl d9_bits_74 ?_
              refine r_l2i C (pc := 75) d9_bits_75 ?_
              refine r_iload C (pc := 76) 0 rfl d9_bits_76 ?_
              refine r_iushr C (pc := 78) d9_bits_78 ?_
              refine r_i2l C (pc := 79) d9_bits_79 ?_
              exact r_lret C (pc := 80) hr d9_bits_80 hw
            · have hw := hw.2 c6
              refine r_lload_n C (pc := 67) 2 rfl d9_bits_67 ?_
              refine r_iload C (pc := 68) 0 rfl d9_bits_68 ?_
              refine r_lushr C (pc := 70) d9_bits_70 ?_
              refine r_goto C (pc := 71) (tgt := 80) d9_bits_71 (by decide) ?_
              exact r_lret C (pc := 80) hr d9_bits_80 hw
          · have hw := hw.2 c5
            refine r_lload_n C (pc := 55) 2 rfl d9_bits_55 ?_
            refine r_iload C (pc := 56) 0 rfl d9_bits_56 ?_
            refine r_lshr C (pc := 58) d9_bits_58 ?_
            exact r_lret C (pc := 59) hr d9_bits_59 hw
        · have hw := hw.2 c4
          refine r_lload_n C (pc := 44) 2 rfl d9_bits_44 ?_
          refine r_iload C (pc := 45) 0 rfl d9_bits_45 ?_
          refine r_lshl C (pc := 47) d9_bits_47 ?_
          exact r_lret C (pc := 48) hr d9_bits_48 hw
      · have hw := hw.2 c3
        refine r_lload_n C (pc := 34) 2 rfl d9_bits_34 ?_
        refine r_lload_n C (pc := 35) 3 rfl d9_bits_35 ?_
        refine r_lxor C (pc := 36) d9_bits_36 ?_
        exact r_lret C (pc := 37) hr d9_bits_37 hw
    · have hw := hw.2 c2
      refine r_lload_n C (pc := 24) 2 rfl d9_bits_24 ?_
      refine r_lload_n C (pc := 25) 3 rfl d9_bits_25 ?_
      refine r_lor C (pc := 26) d9_bits_26 ?_
      exact r_lret C (pc := 27) hr d9_bits_27 hw
  · have hw := hw.2 c1
    refine r_lload_n C (pc := 14) 2 rfl d9_bits_14 ?_
    refine r_lload_n C (pc := 15) 3 rfl d9_bits_15 ?_
    refine r_land C (pc := 16) d9_bits_16 ?_
    exact r_lret C (pc := 17) hr d9_bits_17 hw
