set_option maxRecDepth 20000 in
theorem nd9_calculate_251 {p : Program} {l : Launch} {e : Env} {s : State} {m : MethodId} {args : Array Value} {below : List Frame} {meth : Method} {c : Code} {D : va_G} {ca : Nat → ClassId} {ρ : Nat → Nat → Nat} {x1 : Int32} {x2 : Int32} {Q : St → Prop} {s1 : Int64} {S : St} (C : Cx false p l s m meth c R9 b9_calculate 9 D ca ρ) (hr : meth.sig.returnType = none)   (hw : wp9_calculate_251 x1 x2 Q s1 S) : wm false p l e { frames := 1, cells := 0, slots := 0, locals := 26 } s m args below meth c D ca ρ 9 0 0 (qv false below args s D ca ρ 0 0 Q) 251 [] [.long s1, .ref (ρ 9 0)] S := by
  unfold wp9_calculate_251 at hw
  refine r_dconst0 C (pc := 251) d9_calculate_251 ?_
  refine r_callVv C (pc := 252) (fun sz => ct9_push l D ca ρ sz C.2.2.2.2.2.2.1 hw) mf9_push w9_215 rfl (Nat.le_of_ble_eq_true rfl) rfl rfl rfl rfl ⟨Nat.le_of_ble_eq_true rfl, Nat.le_of_ble_eq_true rfl⟩ rfl rfl (Nat.le_of_ble_eq_true rfl) ⟨Nat.zero_le _, Nat.zero_le _⟩ d9_calculate_252 (fun S1 hw => ?_)
  exact r_vret C (pc := 255) hr d9_calculate_255 hw
set_option maxRecDepth 20000 in
theorem nd9_calculate_235 {p : Program} {l : Launch} {e : Env} {s : State} {m : MethodId} {args : Array Value} {below : List Frame} {meth : Method} {c : Code} {D : va_G} {ca : Nat → ClassId} {ρ : Nat → Nat → Nat} {x1 : Int32} {x2 : Int32} {Q : St → Prop} {x7 : Int64} {S : St} (C : Cx false p l s m meth c R9 b9_calculate 9 D ca ρ) (hr : meth.sig.returnType = none)   (hw : wp9_calculate_235 x1 x2 Q x7 S) : wm false p l e { frames := 1, cells := 0, slots := 0, locals := 26 } s m args below meth c D ca ρ 9 0 0 (qv false below args s D ca ρ 0 0 Q) 235 [(0, .ref (ρ 9 0)), (2, .int x2), (7, .long x7)] [] S := by
  unfold wp9_calculate_235 at hw
  refine r_aload_n C (pc := 235) 0 rfl d9_calculate_235 ?_
  refine r_iload_n C (pc := 236) 1 rfl d9_calculate_236 ?_
  refine r_bipush C (pc := 237) (v := 32) d9_calculate_237 (by decide) ?_
  refine r_icmp_ne C (pc := 239) (tgt := 249) d9_calculate_239 (by decide) (fun c1 => ?_) (fun c1 => ?_)
  · have hw := hw.1 c1
    refine r_lload C (pc := 249) 2 rfl d9_calculate_249 ?_
    refine r_sub (ls' := []) [] rfl ?_
    exact nd9_calculate_251 C hr hw
  · have hw := hw.2 c1
    refine r_lload C (pc := 242) 2 rfl d9_calculate_242 ?_
    refine r_l2i C (pc := 244) d9_calculate_244 ?_
    refine r_i2l C (pc := 245) d9_calculate_245 ?_
    refine r_goto C (pc := 246) (tgt := 251) d9_calculate_246 (by decide) ?_
    refine r_sub (ls' := []) [] rfl ?_
    exact nd9_calculate_251 C hr hw
set_option maxRecDepth 20000 in
theorem nd9_calculate_233 {p : Program} {l : Launch} {e : Env} {s : State} {m : MethodId} {args : Array Value} {below : List Frame} {meth : Method} {c : Code} {D : va_G} {ca : Nat → ClassId} {ρ : Nat → Nat → Nat} {x1 : Int32} {x2 : Int32} {Q : St → Prop} {s0 : Int64} {S : St} (C : Cx false p l s m meth c R9 b9_calculate 9 D ca ρ) (hr : meth.sig.returnType = none)   (hw : wp9_calculate_233 x1 x2 Q s0 S) : wm false p l e { frames := 1, cells := 0, slots := 0, locals := 26 } s m args below meth c D ca ρ 9 0 0 (qv false below args s D ca ρ 0 0 Q) 233 [(0, .ref (ρ 9 0)), (2, .int x2)] [.long s0] S := by
  unfold wp9_calculate_233 at hw
  refine r_lstore C (pc := 233) (ls' := [(7, .long s0), (0, .ref (ρ 9 0)), (2, .int x2)]) (Nat.le_of_ble_eq_true rfl) rfl d9_calculate_233 ?_
  refine r_sub (ls' := [(0, .ref (ρ 9 0)), (2, .int x2), (7, .long s0)]) [1, 2, 0] rfl ?_
  exact nd9_calculate_235 C hr hw
set_option maxRecDepth 20000 in
theorem nd9_calculate_208 {p : Program} {l : Launch} {e : Env} {s : State} {m : MethodId} {args : Array Value} {below : List Frame} {meth : Method} {c : Code} {D : va_G} {ca : Nat → ClassId} {ρ : Nat → Nat → Nat} {x1 : Int32} {x2 : Int32} {Q : St → Prop} {s0 : Int64} {S : St} (C : Cx false p l s m meth c R9 b9_calculate 9 D ca ρ) (hr : meth.sig.returnType = none)   (hw : wp9_calculate_208 x1 x2 Q s0 S) : wm false p l e { frames := 1, cells := 0, slots := 0, locals := 26 } s m args below meth c D ca ρ 9 0 0 (qv false below args s D ca ρ 0 0 Q) 208 [(0, .ref (ρ 9 0)), (2, .int x2)] [.long s0] S := by
  unfold wp9_calculate_208 at hw
  refine r_lstore C (pc := 208) (ls' := [(7, .long s0), (0, .ref (ρ 9 0)), (2, .int x2)]) (Nat.le_of_ble_eq_true rfl) rfl d9_calculate_208 ?_
  refine r_goto C (pc := 210) (tgt := 235) d9_calculate_210 (by decide) ?_
  refine r_sub (ls' := [(0, .ref (ρ 9 0)), (2, .int x2), (7, .long s0)]) [1, 2, 0] rfl ?_
  exact nd9_calculate_235 C hr hw
set_option maxRecDepth 20000 in
theorem nd9_calculate_185 {p : Program} {l : Launch} {e : Env} {s : State} {m : MethodId} {args : Array Value} {below : List Frame} {meth : Method} {c : Code} {D : va_G} {ca : Nat → ClassId} {ρ : Nat → Nat → Nat} {x1 : Int32} {x2 : Int32} {Q : St → Prop} {s0 : Int64} {S : St} (C : Cx false p l s m meth c R9 b9_calculate 9 D ca ρ) (hr : meth.sig.returnType = none)   (hw : wp9_calculate_185 x1 x2 Q s0 S) : wm false p l e { frames := 1, cells := 0, slots := 0, locals := 26 } s m args below meth c D ca ρ 9 0 0 (qv false below args s D ca ρ 0 0 Q) 185 [(0, .ref (ρ 9 0)), (2, .int x2)] [.long s0] S := by
  unfold wp9_calculate_185 at hw
  refine r_lstore C (pc := 185) (ls' := [(7, .long s0), (0, .ref (ρ 9 0)), (2, .int x2)]) (Nat.le_of_ble_eq_true rfl) rfl d9_calculate_185 ?_
  refine r_goto C (pc := 187) (tgt := 235) d9_calculate_187 (by decide) ?_
  refine r_sub (ls' := [(0, .ref (ρ 9 0)), (2, .int x2), (7, .long s0)]) [1, 2, 0] rfl ?_
  exact nd9_calculate_235 C hr hw
set_option maxRecDepth 20000 in
theorem nd9_calculate_162 {p : Program} {l : Launch} {e : Env} {s : State} {m : MethodId} {args : Array Value} {below : List Frame} {meth : Method} {c : Code} {D : va_G} {ca : Nat → ClassId} {ρ : Nat → Nat → Nat} {x1 : Int32} {x2 : Int32} {Q : St → Prop} {s0 : Int64} {S : St} (C : Cx false p l s m meth c R9 b9_calculate 9 D ca ρ) (hr : meth.sig.returnType = none)   (hw : wp9_calculate_162 x1 x2 Q s0 S) : wm false p l e { frames := 1, cells := 0, slots := 0, locals := 26 } s m args below meth c D ca ρ 9 0 0 (qv false below args s D ca ρ 0 0 Q) 162 [(0, .ref (ρ 9 0)), (2, .int x2)] [.long s0] S := by
  unfold wp9_calculate_162 at hw
  refine r_lstore C (pc := 162) (ls' := [(7, .long s0), (0, .ref (ρ 9 0)), (2, .int x2)]) (Nat.le_of_ble_eq_true rfl) rfl d9_calculate_162 ?_
  refine r_goto C (pc := 164) (tgt := 235) d9_calculate_164 (by decide) ?_
  refine r_sub (ls' := [(0, .ref (ρ 9 0)), (2, .int x2), (7, .long s0)]) [1, 2, 0] rfl ?_
  exact nd9_calculate_235 C hr hw
set_option maxRecDepth 20000 in
theorem nd9_calculate_56 {p : Program} {l : Launch} {e : Env} {s : State} {m : MethodId} {args : Array Value} {below : List Frame} {meth : Method} {c : Code} {D : va_G} {ca : Nat → ClassId} {ρ : Nat → Nat → Nat} {x1 : Int32} {x2 : Int32} {Q : St → Prop} {x3 : Int64} {x5 : Int64} {S : St} (C : Cx false p l s m meth c R9 b9_calculate 9 D ca ρ) (hr : meth.sig.returnType = none)   (hw : wp9_calculate_56 x1 x2 Q x3 x5 S) : wm false p l e { frames := 1, cells := 0, slots := 0, locals := 26 } s m args below meth c D ca ρ 9 0 0 (qv false below args s D ca ρ 0 0 Q) 56 [(0, .ref (ρ 9 0)), (1, .int x1), (2, .int x2), (3, .long x3), (5, .long x5)] [] S := by
  unfold wp9_calculate_56 at hw
  refine r_iload_n C (pc := 56) 1 rfl d9_calculate_56 ?_
  refine r_if_ne C (pc := 57) (tgt := 69) d9_calculate_57 (by decide) (fun c1 => ?_) (fun c1 => ?_)
  · have hw := hw.1 c1
    refine r_iload_n C (pc := 69) 1 rfl d9_calculate_69 ?_
    refine r_iconst C (pc := 70) (v := 1) d9_calculate_70 (by decide) ?_
    refine r_icmp_ne C (pc := 71) (tgt := 83) d9_calculate_71 (by decide) (fun c2 => ?_) (fun c2 => ?_)
    · have hw := hw.1 c2
      refine r_iload_n C (pc := 83) 1 rfl d9_calculate_83 ?_
      refine r_iconst C (pc := 84) (v := 2) d9_calculate_84 (by decide) ?_
      refine r_icmp_ne C (pc := 85) (tgt := 97) d9_calculate_85 (by decide) (fun c3 => ?_) (fun c3 => ?_)
      · have hw := hw.1 c3
        refine r_iload_n C (pc := 97) 1 rfl d9_calculate_97 ?_
        refine r_iconst C (pc := 98) (v := 3) d9_calculate_98 (by decide) ?_
        refine r_icmp_ne C (pc := 99) (tgt := 111) d9_calculate_99 (by decide) (fun c4 => ?_) (fun c4 => ?_)
        · have hw := hw.1 c4
          refine r_iload_n C (pc := 111) 1 rfl d9_calculate_111 ?_
          refine r_iconst C (pc := 112) (v := 4) d9_calculate_112 (by decide) ?_
          refine r_icmp_ne C (pc := 113) (tgt := 125) d9_calculate_113 (by decide) (fun c5 => ?_) (fun c5 => ?_)
          · have hw := hw.1 c5
            refine r_iload_n C (pc := 125) 1 rfl d9_calculate_125 ?_
            refine r_bipush C (pc := 126) (v := 11) d9_calculate_126 (by decide) ?_
            refine r_icmp_ge C (pc := 128) (tgt := 144) d9_calculate_128 (by decide) (fun c6 => ?_) (fun c6 => ?_)
            · have hw := hw.1 c6
              refine r_iload_n C (pc := 144) 1 rfl d9_calculate_144 ?_
              refine r_bipush C (pc := 145) (v := 11) d9_calculate_145 (by decide) ?_
              refine r_icmp_ne C (pc := 147) (tgt := 167) d9_calculate_147 (by decide) (fun c7 => ?_) (fun c7 => ?_)
              · have hw := hw.1 c7
                refine r_iload_n C (pc := 167) 1 rfl d9_calculate_167 ?_
                refine r_bipush C (pc := 168) (v := 12) d9_calculate_168 (by decide) ?_
                refine r_icmp_ne C (pc := 170) (tgt := 190) d9_calculate_170 (by decide) (fun c8 => ?_) (fun c8 => ?_)
                · have hw := hw.1 c8
                  refine r_iload_n C (pc := 190) 1 rfl d9_calculate_190 ?_
                  refine r_bipush C (pc := 191) (v := 13) d9_calculate_191 (by decide) ?_
                  refine r_icmp_ne C (pc := 193) (tgt := 213) d9_calculate_193 (by decide) (fun c9 => ?_) (fun c9 => ?_)
                  · have hw := hw.1 c9
                    refine r_lload_n C (pc := 213) 3 rfl d9_calculate_213 ?_
                    refine r_ldc2 C (pc := 214) w9_245 d9_calculate_214 ?_
                    refine r_land C (pc := 217) d9_calculate_217 ?_
                    refine r_lload C (pc := 218) 4 rfl d9_calculate_218 ?_
                    refine r_ldc2 C (pc := 220) w9_245 d9_calculate_220 ?_
                    refine r_land C (pc := 223) d9_calculate_223 ?_
                    refine r_lcmp C (pc := 224) d9_calculate_224 ?_
                    refine r_if_ge C (pc := 225) (tgt := 232) d9_calculate_225 (by decide) (fun c10 => ?_) (fun c10 => ?_)
                    · have hw := hw.1 c10
                      refine r_lconst C (pc := 232) (v := 0) d9_calculate_232 (by decide) ?_
                      refine r_sub (ls' := [(0, .ref (ρ 9 0)), (2, .int x2)]) [0, 2] rfl ?_
                      exact nd9_calculate_233 C hr hw
                    · have hw := hw.2 c10
                      refine r_lconst C (pc := 228) (v := 1) d9_calculate_228 (by decide) ?_
                      refine r_goto C (pc := 229) (tgt := 233) d9_calculate_229 (by decide) ?_
                      refine r_sub (ls' := [(0, .ref (ρ 9 0)), (2, .int x2)]) [0, 2] rfl ?_
                      exact nd9_calculate_233 C hr hw
                  · have hw := hw.2 c9
                    refine r_lload_n C (pc := 196) 3 rfl d9_calculate_196 ?_
                    refine r_lload C (pc := 197) 4 rfl d9_calculate_197 ?_
                    refine r_lcmp C (pc := 199) d9_calculate_199 ?_
                    refine r_if_ge C (pc := 200) (tgt := 207) d9_calculate_200 (by decide) (fun c11 => ?_) (fun c11 => ?_)
                    · have hw := hw.1 c11
                      refine r_lconst C (pc := 207) (v := 0) d9_calculate_207 (by decide) ?_
                      refine r_sub (ls' := [(0, .ref (ρ 9 0)), (2, .int x2)]) [0, 2] rfl ?_
                      exact nd9_calculate_208 C hr hw
                    · have hw := hw.2 c11
                      refine r_lconst C (pc := 203) (v := 1) d9_calculate_203 (by decide) ?_
                      refine r_goto C (pc := 204) (tgt := 208) d9_calculate_204 (by decide) ?_
                      refine r_sub (ls' := [(0, .ref (ρ 9 0)), (2, .int x2)]) [0, 2] rfl ?_
                      exact nd9_calculate_208 C hr hw
                · have hw := hw.2 c8
                  refine r_lload_n C (pc := 173) 3 rfl d9_calculate_173 ?_
                  refine r_lload C (pc := 174) 4 rfl d9_calculate_174 ?_
                  refine r_lcmp C (pc := 176) d9_calculate_176 ?_
                  refine r_if_eq C (pc := 177) (tgt := 184) d9_calculate_177 (by decide) (fun c12 => ?_) (fun c12 => ?_)
                  · have hw := hw.1 c12
                    refine r_lconst C (pc := 184) (v := 0) d9_calculate_184 (by decide) ?_
                    refine r_sub (ls' := [(0, .ref (ρ 9 0)), (2, .int x2)]) [0, 2] rfl ?_
                    exact nd9_calculate_185 C hr hw
                  · have hw := hw.2 c12
                    refine r_lconst C (pc := 180) (v := 1) d9_calculate_180 (by decide) ?_
                    refine r_goto C (pc := 181) (tgt := 185) d9_calculate_181 (by decide) ?_
                    refine r_sub (ls' := [(0, .ref (ρ 9 0)), (2, .int x2)]) [0, 2] rfl ?_
                    exact nd9_calculate_185 C hr hw
              · have hw := hw.2 c7
                refine r_lload_n C (pc := 150) 3 rfl d9_calculate_150 ?_
                refine r_lload C (pc := 151) 4 rfl d9_calculate_151 ?_
                refine r_lcmp C (pc := 153) d9_calculate_153 ?_
                refine r_if_ne C (pc := 154) (tgt := 161) d9_calculate_154 (by decide) (fun c13 => ?_) (fun c13 => ?_)
                · have hw := hw.1 c13
                  refine r_lconst C (pc := 161) (v := 0) d9_calculate_161 (by decide) ?_
                  refine r_sub (ls' := [(0, .ref (ρ 9 0)), (2, .int x2)]) [0, 2] rfl ?_
                  exact nd9_calculate_162 C hr hw
                · have hw := hw.2 c13
                  refine r_lconst C (pc := 157) (v := 1) d9_calculate_157 (by decide) ?_
                  refine r_goto C (pc := 158) (tgt := 162) d9_calculate_158 (by decide) ?_
                  refine r_sub (ls' := [(0, .ref (ρ 9 0)), (2, .int x2)]) [0, 2] rfl ?_
                  exact nd9_calculate_162 C hr hw
            · have hw := hw.2 c6
              refine r_iload_n C (pc := 131) 1 rfl d9_calculate_131 ?_
              refine r_lload_n C (pc := 132) 3 rfl d9_calculate_132 ?_
              refine r_lload C (pc := 133) 4 rfl d9_calculate_133 ?_
              refine r_iload_n C (pc := 135) 2 rfl d9_calculate_135 ?_
              refine r_callSl C (pc := 136) (fun sz => ct9_bits l D ca ρ sz C.2.2.2.2.2.2.1 hw) mf9_bits w9_241 rfl rfl ⟨Nat.le_of_ble_eq_true rfl, Nat.le_of_ble_eq_true rfl⟩ rfl rfl (Nat.le_of_ble_eq_true rfl) ⟨Nat.zero_le _, Nat.zero_le _⟩ d9_calculate_136 (fun r1 S1 hw => ?_)
              refine r_lstore C (pc := 139) (ls' := [(7, .long r1), (0, .ref (ρ 9 0)), (1, .int x1), (2, .int x2), (3, .long x3), (5, .long x5)]) (Nat.le_of_ble_eq_true rfl) rfl d9_calculate_139 ?_
              refine r_goto C (pc := 141) (tgt := 235) d9_calculate_141 (by decide) ?_
              refine r_sub (ls' := [(0, .ref (ρ 9 0)), (2, .int x2), (7, .long r1)]) [1, 3, 0] rfl ?_
              exact nd9_calculate_235 C hr hw
          · have hw := hw.2 c5
            refine r_lload_n C (pc := 116) 3 rfl d9_calculate_116 ?_
            refine r_lload C (pc := 117) 4 rfl d9_calculate_117 ?_
            have h0 := hw.1
            have hw := hw.2
            refine r_lrem C (pc := 119) d9_calculate_119 h0 ?_
            refine r_topl (fun x7_1 ex7_1 => ?_)
            have hw := hw x7_1 ex7_1
            refine r_lstore C (pc := 120) (ls' := [(7, .long x7_1), (0, .ref (ρ 9 0)), (1, .int x1), (2, .int x2), (3, .long x3), (5, .long x5)]) (Nat.le_of_ble_eq_true rfl) rfl d9_calculate_120 ?_
            refine r_goto C (pc := 122) (tgt := 235) d9_calculate_122 (by decide) ?_
            refine r_sub (ls' := [(0, .ref (ρ 9 0)), (2, .int x2), (7, .long x7_1)]) [1, 3, 0] rfl ?_
            exact nd9_calculate_235 C hr hw
        · have hw := hw.2 c4
          refine r_lload_n C (pc := 102) 3 rfl d9_calculate_102 ?_
          refine r_lload C (pc := 103) 4 rfl d9_calculate_103 ?_
          have h0 := hw.1
          have hw := hw.2
          refine r_ldiv C (pc := 105) d9_calculate_105 h0 ?_
          refine r_topl (fun x7_2 ex7_2 => ?_)
          have hw := hw x7_2 ex7_2
          refine r_lstore C (pc := 106) (ls' := [(7, .long x7_2), (0, .ref (ρ 9 0)), (1, .int x1), (2, .int x2), (3, .long x3), (5, .long x5)]) (Nat.le_of_ble_eq_true rfl) rfl d9_calculate_106 ?_
          refine r_goto C (pc := 108) (tgt := 235) d9_calculate_108 (by decide) ?_
          refine r_sub (ls' := [(0, .ref (ρ 9 0)), (2, .int x2), (7, .long x7_2)]) [1, 3, 0] rfl ?_
          exact nd9_calculate_235 C hr hw
      · have hw := hw.2 c3
        refine r_lload_n C (pc := 88) 3 rfl d9_calculate_88 ?_
        refine r_lload C (pc := 89) 4 rfl d9_calculate_89 ?_
        refine r_lmul C (pc := 91) d9_calculate_91 ?_
        refine r_topl (fun x7_3 ex7_3 => ?_)
        have hw := hw x7_3 ex7_3
        refine r_lstore C (pc := 92) (ls' := [(7, .long x7_3), (0, .ref (ρ 9 0)), (1, .int x1), (2, .int x2), (3, .long x3), (5, .long x5)]) (Nat.le_of_ble_eq_true rfl) rfl d9_calculate_92 ?_
        refine r_goto C (pc := 94) (tgt := 235) d9_calculate_94 (by decide) ?_
        refine r_sub (ls' := [(0, .ref (ρ 9 0)), (2, .int x2), (7, .long x7_3)]) [1, 3, 0] rfl ?_
        exact nd9_calculate_235 C hr hw
    · have hw := hw.2 c2
      refine r_lload_n C (pc := 74) 3 rfl d9_calculate_74 ?_
      refine r_lload C (pc := 75) 4 rfl d9_calculate_75 ?_
      refine r_lsub C (pc := 77) d9_calculate_77 ?_
      refine r_topl (fun x7_4 ex7_4 => ?_)
      have hw := hw x7_4 ex7_4
      refine r_lstore C (pc := 78) (ls' := [(7, .long x7_4), (0, .ref (ρ 9 0)), (1, .int x1), (2, .int x2), (3, .long x3), (5, .long x5)]) (Nat.le_of_ble_eq_true rfl) rfl d9_calculate_78 ?_
      refine r_goto C (pc := 80) (tgt := 235) d9_calculate_80 (by decide) ?_
      refine r_sub (ls' := [(0, .ref (ρ 9 0)), (2, .int x2), (7, .long x7_4)]) [1, 3, 0] rfl ?_
      exact nd9_calculate_235 C hr hw
  · have hw := hw.2 c1
    refine r_lload_n C (pc := 60) 3 rfl d9_calculate_60 ?_
    refine r_lload C (pc := 61) 4 rfl d9_calculate_61 ?_
    refine r_ladd C (pc := 63) d9_calculate_63 ?_
    refine r_topl (fun x7_5 ex7_5 => ?_)
    have hw := hw x7_5 ex7_5
    refine r_lstore C (pc := 64) (ls' := [(7, .long x7_5), (0, .ref (ρ 9 0)), (1, .int x1), (2, .int x2), (3, .long x3), (5, .long x5)]) (Nat.le_of_ble_eq_true rfl) rfl d9_calculate_64 ?_
    refine r_goto C (pc := 66) (tgt := 235) d9_calculate_66 (by decide) ?_
    refine r_sub (ls' := [(0, .ref (ρ 9 0)), (2, .int x2), (7, .long x7_5)]) [1, 3, 0] rfl ?_
    exact nd9_calculate_235 C hr hw
set_option maxRecDepth 20000 in
theorem nd9_calculate_43 {p : Program} {l : Launch} {e : Env} {s : State} {m : MethodId} {args : Array Value} {below : List Frame} {meth : Method} {c : Code} {D : va_G} {ca : Nat → ClassId} {ρ : Nat → Nat → Nat} {x1 : Int32} {x2 : Int32} {Q : St → Prop} {x3 : Int64} {x5 : Int64} {S : St} (C : Cx false p l s m meth c R9 b9_calculate 9 D ca ρ) (hr : meth.sig.returnType = none)   (hw : wp9_calculate_43 x1 x2 Q x3 x5 S) : wm false p l e { frames := 1, cells := 0, slots := 0, locals := 26 } s m args below meth c D ca ρ 9 0 0 (qv false below args s D ca ρ 0 0 Q) 43 [(0, .ref (ρ 9 0)), (1, .int x1), (2, .int x2), (3, .long x3), (5, .long x5)] [] S := by
  unfold wp9_calculate_43 at hw
  refine r_lload C (pc := 43) 4 rfl d9_calculate_43 ?_
  refine r_lconst C (pc := 45) (v := 0) d9_calculate_45 (by decide) ?_
  refine r_lcmp C (pc := 46) d9_calculate_46 ?_
  refine r_if_ne C (pc := 47) (tgt := 56) d9_calculate_47 (by decide) (fun c1 => ?_) (fun c1 => ?_)
  · have hw := hw.1 c1
    refine r_sub (ls' := [(0, .ref (ρ 9 0)), (1, .int x1), (2, .int x2), (3, .long x3), (5, .long x5)]) [0, 1, 2, 3, 4] rfl ?_
    exact nd9_calculate_56 C hr hw
  · have hw := hw.2 c1
    refine r_aload_n C (pc := 50) 0 rfl d9_calculate_50 ?_
    refine r_iconst C (pc := 51) (v := 2) d9_calculate_51 (by decide) ?_
    refine p9_trap C (pc := 52) (Nat.le_of_ble_eq_true rfl) w9_233 d9_calculate_52 ?_
    refine r_S (fun S1 eS1 => ?_)
    have hw := hw S1 eS1
    exact r_vret C (pc := 55) hr d9_calculate_55 hw
set_option maxRecDepth 20000 in
theorem ct9_calculate (l : Launch) (D : va_G) (ca : Nat → ClassId) (ρ : Nat → Nat → Nat) (sz : Nat) {S : St} {x1 : Int32} {x2 : Int32} {Q : St → Prop} (hAp : Ap false ρ)  (hw : wp9_calculate S x1 x2 Q) : Met l y9_calculate [Cond.code y9_calculate b9_calculate 9 none] { frames := 1, cells := 0, slots := 0, locals := 26 } (va_Pc [.ref (ρ 9 0), .int x1, .int x2] (PreU false D ca ρ sz S)) (va_Qv Q (PostU false D ca ρ) (Ar false ρ sz)) 0 0 (Ar false ρ sz) := by
  refine met_of_wm (own := R9) (ls0 := [(0, .ref (ρ 9 0)), (1, .int x1), (2, .int x2)]) rfl rfl hAp (Nat.le_of_ble_eq_true rfl) rfl fun p e s m args below meth c C hr hz => ?_
  subst hz
  unfold wp9_calculate at hw
  refine r_aload_n C (pc := 0) 0 rfl d9_calculate_0 ?_
  refine r_dup C (pc := 1) rfl d9_calculate_1 ?_
  refine g9_height C (pc := 2) (Nat.le_of_ble_eq_true rfl) w9_122 d9_calculate_2 ?_
  refine r_iconst C (pc := 5) (v := 2) d9_calculate_5 (by decide) ?_
  refine r_isub C (pc := 6) d9_calculate_6 ?_
  refine p9_height C (pc := 7) (Nat.le_of_ble_eq_true rfl) w9_122 d9_calculate_7 ?_
  refine r_S (fun S1 eS1 => ?_)
  have hw := hw S1 eS1
  refine r_aload_n C (pc := 10) 0 rfl d9_calculate_10 ?_
  refine g9_whole C (pc := 11) (Nat.le_of_ble_eq_true rfl) w9_60 d9_calculate_11 ?_
  refine r_aload_n C (pc := 14) 0 rfl d9_calculate_14 ?_
  refine g9_height C (pc := 15) (Nat.le_of_ble_eq_true rfl) w9_122 d9_calculate_15 ?_
  have hi1 := hw.1
  have hw := hw.2
  refine ld1922 C (pc := 18) (Nat.le_of_ble_eq_true rfl) hi1 d9_calculate_18 ?_
  refine r_topl (fun x3_1 ex3_1 => ?_)
  have hw := hw x3_1 ex3_1
  refine r_lstore_n C (pc := 19) (ls' := [(3, .long x3_1), (0, .ref (ρ 9 0)), (1, .int x1), (2, .int x2)]) (Nat.le_of_ble_eq_true rfl) rfl d9_calculate_19 ?_
  refine r_aload_n C (pc := 20) 1 rfl d9_calculate_20 ?_
  refine g9_whole C (pc := 21) (Nat.le_of_ble_eq_true rfl) w9_60 d9_calculate_21 ?_
  refine r_aload_n C (pc := 24) 1 rfl d9_calculate_24 ?_
  refine g9_height C (pc := 25) (Nat.le_of_ble_eq_true rfl) w9_122 d9_calculate_25 ?_
  refine r_iconst C (pc := 28) (v := 1) d9_calculate_28 (by decide) ?_
  refine r_iadd C (pc := 29) d9_calculate_29 ?_
  have hi2 := hw.1
  have hw := hw.2
  refine ld1922 C (pc := 30) (Nat.le_of_ble_eq_true rfl) hi2 d9_calculate_30 ?_
  refine r_topl (fun x5_1 ex5_1 => ?_)
  have hw := hw x5_1 ex5_1
  refine r_lstore C (pc := 31) (ls' := [(5, .long x5_1), (3, .long x3_1), (0, .ref (ρ 9 0)), (1, .int x1), (2, .int x2)]) (Nat.le_of_ble_eq_true rfl) rfl d9_calculate_31 ?_
  refine r_iload_n C (pc := 33) 3 rfl d9_calculate_33 ?_
  refine r_iconst C (pc := 34) (v := 3) d9_calculate_34 (by decide) ?_
  refine r_icmp_eq C (pc := 35) (tgt := 43) d9_calculate_35 (by decide) (fun c3 => ?_) (fun c3 => ?_)
  · have hw := hw.1 c3
    refine r_sub (ls' := [(0, .ref (ρ 9 0)), (1, .int x1), (2, .int x2), (3, .long x3_1), (5, .long x5_1)]) [2, 3, 4, 1, 0] rfl ?_
    exact nd9_calculate_43 C hr hw
  · have hw := hw.2 c3
    refine r_iload_n C (pc := 38) 3 rfl d9_calculate_38 ?_
    refine r_iconst C (pc := 39) (v := 4) d9_calculate_39 (by decide) ?_
    refine r_icmp_ne C (pc := 40) (tgt := 56) d9_calculate_40 (by decide) (fun c4 => ?_) (fun c4 => ?_)
    · have hw := hw.1 c4
      refine r_sub (ls' := [(0, .ref (ρ 9 0)), (1, .int x1), (2, .int x2), (3, .long x3_1), (5, .long x5_1)]) [2, 3, 4, 1, 0] rfl ?_
      exact nd9_calculate_56 C hr hw
    · have hw := hw.2 c4
      refine r_sub (ls' := [(0, .ref (ρ 9 0)), (1, .int x1), (2, .int x2), (3, .long x3_1), (5, .long x5_1)]) [2, 3, 4, 1, 0] rfl ?_
      exact nd9_calculate_43 C hr hw
set_option maxRecDepth 20000 in
theorem nd9_measure_141 {p : Program} {l : Launch} {e : Env} {s : State} {m : MethodId} {args : Array Value} {below : List Frame} {meth : Method} {c : Code} {D : va_G} {ca : Nat → ClassId} {ρ : Nat → Nat → Nat} {x1 : Int32} {Q : St → Prop} {s0 : UInt64} {S : St} (C : Cx false p l s m meth c R9 b9_measure 8 D ca ρ) (hr : meth.sig.returnType = none)   (hw : wp9_measure_141 x1 Q s0 S) : wm false p l e { frames := 1, cells := 0, slots := 0, locals := 24 } s m args below meth c D ca ρ 8 0 0 (qv false below args s D ca ρ 0 0 Q) 141 [(0, .ref (ρ 9 0))] [.double s0] S := by
  unfold wp9_measure_141 at hw
  refine r_dstore C (pc := 141) (ls' := [(6, .double s0), (0, .ref (ρ 9 0))]) (Nat.le_of_ble_eq_true rfl) rfl d9_measure_141 ?_
  refine r_dload C (pc := 143) 0 rfl d9_measure_143 ?_
  refine r_ldc2d C (pc := 145) w9_247 d9_measure_145 ?_
  refine r_dcmp C (pc := 148) d9_measure_148 ?_
  refine r_if_gt C (pc := 149) (tgt := 161) d9_measure_149 (by decide) (fun c1 => ?_) (fun c1 => ?_)
  · have hw := hw.1 c1
    refine r_aload_n C (pc := 161) 1 rfl d9_measure_161 ?_
    refine r_iconst C (pc := 162) (v := 5) d9_measure_162 (by decide) ?_
    refine p9_trap C (pc := 163) (Nat.le_of_ble_eq_true rfl) w9_233 d9_measure_163 ?_
    refine r_S (fun S1 eS1 => ?_)
    have hw := hw S1 eS1
    refine r_goto C (pc := 166) (tgt := 176) d9_measure_166 (by decide) ?_
    exact r_vret C (pc := 176) hr d9_measure_176 hw
  · have hw := hw.2 c1
    refine r_dload C (pc := 152) 0 rfl d9_measure_152 ?_
    refine r_ldc2d C (pc := 154) w9_249 d9_measure_154 ?_
    refine r_dcmp C (pc := 157) d9_measure_157 ?_
    refine r_if_ge C (pc := 158) (tgt := 169) d9_measure_158 (by decide) (fun c2 => ?_) (fun c2 => ?_)
    · have hw := hw.1 c2
      refine r_aload_n C (pc := 169) 1 rfl d9_measure_169 ?_
      refine r_lconst C (pc := 170) (v := 0) d9_measure_170 (by decide) ?_
      refine r_dload C (pc := 171) 0 rfl d9_measure_171 ?_
      refine r_callVv C (pc := 173) (fun sz => ct9_push l D ca ρ sz C.2.2.2.2.2.2.1 hw) mf9_push w9_215 rfl (Nat.le_of_ble_eq_true rfl) rfl rfl rfl rfl ⟨Nat.le_of_ble_eq_true rfl, Nat.le_of_ble_eq_true rfl⟩ rfl rfl (Nat.le_of_ble_eq_true rfl) ⟨Nat.zero_le _, Nat.zero_le _⟩ d9_measure_173 (fun S2 hw => ?_)
      exact r_vret C (pc := 176) hr d9_measure_176 hw
    · have hw := hw.2 c2
      refine r_aload_n C (pc := 161) 1 rfl d9_measure_161 ?_
      refine r_iconst C (pc := 162) (v := 5) d9_measure_162 (by decide) ?_
      refine p9_trap C (pc := 163) (Nat.le_of_ble_eq_true rfl) w9_233 d9_measure_163 ?_
      refine r_S (fun S3 eS3 => ?_)
      have hw := hw S3 eS3
      refine r_goto C (pc := 166) (tgt := 176) d9_measure_166 (by decide) ?_
      exact r_vret C (pc := 176) hr d9_measure_176 hw
set_option maxRecDepth 20000 in
theorem nd9_measure_98 {p : Program} {l : Launch} {e : Env} {s : State} {m : MethodId} {args : Array Value} {below : List Frame} {meth : Method} {c : Code} {D : va_G} {ca : Nat → ClassId} {ρ : Nat → Nat → Nat} {x1 : Int32} {Q : St → Prop} {x2 : UInt64} {x4 : UInt64} {S : St} (C : Cx false p l s m meth c R9 b9_measure 8 D ca ρ) (hr : meth.sig.returnType = none)   (hw : wp9_measure_98 x1 Q x2 x4 S) : wm false p l e { frames := 1, cells := 0, slots := 0, locals := 24 } s m args below meth c D ca ρ 8 0 0 (qv false below args s D ca ρ 0 0 Q) 98 [(0, .ref (ρ 9 0)), (1, .int x1), (2, .double x2), (4, .double x4)] [] S := by
  unfold wp9_measure_98 at hw
  refine r_iload_n C (pc := 98) 1 rfl d9_measure_98 ?_
  refine r_bipush C (pc := 99) (v := 70) d9_measure_99 (by decide) ?_
  refine r_icmp_ne C (pc := 101) (tgt := 111) d9_measure_101 (by decide) (fun c1 => ?_) (fun c1 => ?_)
  · have hw := hw.1 c1
    refine r_iload_n C (pc := 111) 1 rfl d9_measure_111 ?_
    refine r_bipush C (pc := 112) (v := 71) d9_measure_112 (by decide) ?_
    refine r_icmp_ne C (pc := 114) (tgt := 124) d9_measure_114 (by decide) (fun c2 => ?_) (fun c2 => ?_)
    · have hw := hw.1 c2
      refine r_iload_n C (pc := 124) 1 rfl d9_measure_124 ?_
      refine r_bipush C (pc := 125) (v := 72) d9_measure_125 (by decide) ?_
      refine r_icmp_ne C (pc := 127) (tgt := 137) d9_measure_127 (by decide) (fun c3 => ?_) (fun c3 => ?_)
      · have hw := hw.1 c3
        refine r_dload_n C (pc := 137) 2 rfl d9_measure_137 ?_
        refine r_dload C (pc := 138) 3 rfl d9_measure_138 ?_
        have h0 := hw.1
        have hw := hw.2
        refine r_ddiv C (pc := 140) d9_measure_140 h0 ?_
        refine r_sub (ls' := [(0, .ref (ρ 9 0))]) [0] rfl ?_
        exact nd9_measure_141 C hr hw
      · have hw := hw.2 c3
        refine r_dload_n C (pc := 130) 2 rfl d9_measure_130 ?_
        refine r_dload C (pc := 131) 3 rfl d9_measure_131 ?_
        have h0 := hw.1
        have hw := hw.2
        refine r_dmul C (pc := 133) d9_measure_133 h0 ?_
        refine r_goto C (pc := 134) (tgt := 141) d9_measure_134 (by decide) ?_
        refine r_sub (ls' := [(0, .ref (ρ 9 0))]) [0] rfl ?_
        exact nd9_measure_141 C hr hw
    · have hw := hw.2 c2
      refine r_dload_n C (pc := 117) 2 rfl d9_measure_117 ?_
      refine r_dload C (pc := 118) 3 rfl d9_measure_118 ?_
      have h0 := hw.1
      have hw := hw.2
      refine r_dsub C (pc := 120) d9_measure_120 h0 ?_
      refine r_goto C (pc := 121) (tgt := 141) d9_measure_121 (by decide) ?_
      refine r_sub (ls' := [(0, .ref (ρ 9 0))]) [0] rfl ?_
      exact nd9_measure_141 C hr hw
  · have hw := hw.2 c1
    refine r_dload_n C (pc := 104) 2 rfl d9_measure_104 ?_
    refine r_dload C (pc := 105) 3 rfl d9_measure_105 ?_
    have h0 := hw.1
    have hw := hw.2
    refine r_dadd C (pc := 107) d9_measure_107 h0 ?_
    refine r_goto C (pc := 108) (tgt := 141) d9_measure_108 (by decide) ?_
    refine r_sub (ls' := [(0, .ref (ρ 9 0))]) [0] rfl ?_
    exact nd9_measure_141 C hr hw
set_option maxRecDepth 20000 in
theorem nd9_measure_74 {p : Program} {l : Launch} {e : Env} {s : State} {m : MethodId} {args : Array Value} {below : List Frame} {meth : Method} {c : Code} {D : va_G} {ca : Nat → ClassId} {ρ : Nat → Nat → Nat} {x1 : Int32} {Q : St → Prop} {s1 : Int64} {S : St} (C : Cx false p l s m meth c R9 b9_measure 8 D ca ρ) (hr : meth.sig.returnType = none)   (hw : wp9_measure_74 x1 Q s1 S) : wm false p l e { frames := 1, cells := 0, slots := 0, locals := 24 } s m args below meth c D ca ρ 8 0 0 (qv false below args s D ca ρ 0 0 Q) 74 [] [.long s1, .ref (ρ 9 0)] S := by
  unfold wp9_measure_74 at hw
  refine r_dconst0 C (pc := 74) d9_measure_74 ?_
  refine r_callVv C (pc := 75) (fun sz => ct9_push l D ca ρ sz C.2.2.2.2.2.2.1 hw) mf9_push w9_215 rfl (Nat.le_of_ble_eq_true rfl) rfl rfl rfl rfl ⟨Nat.le_of_ble_eq_true rfl, Nat.le_of_ble_eq_true rfl⟩ rfl rfl (Nat.le_of_ble_eq_true rfl) ⟨Nat.zero_le _, Nat.zero_le _⟩ d9_measure_75 (fun S1 hw => ?_)
  exact r_vret C (pc := 78) hr d9_measure_78 hw
set_option maxRecDepth 20000 in
theorem nd9_measure_73 {p : Program} {l : Launch} {e : Env} {s : State} {m : MethodId} {args : Array Value} {below : List Frame} {meth : Method} {c : Code} {D : va_G} {ca : Nat → ClassId} {ρ : Nat → Nat → Nat} {x1 : Int32} {Q : St → Prop}  {S : St} (C : Cx false p l s m meth c R9 b9_measure 8 D ca ρ) (hr : meth.sig.returnType = none)   (hw : wp9_measure_73 x1 Q  S) : wm false p l e { frames := 1, cells := 0, slots := 0, locals := 24 } s m args below meth c D ca ρ 8 0 0 (qv false below args s D ca ρ 0 0 Q) 73 [] [.ref (ρ 9 0)] S := by
  unfold wp9_measure_73 at hw
  refine r_lconst C (pc := 73) (v := 0) d9_measure_73 (by decide) ?_
  refine r_sub (ls' := []) [] rfl ?_
  exact nd9_measure_74 C hr hw
set_option maxRecDepth 20000 in
theorem nd9_measure_69 {p : Program} {l : Launch} {e : Env} {s : State} {m : MethodId} {args : Array Value} {below : List Frame} {meth : Method} {c : Code} {D : va_G} {ca : Nat → ClassId} {ρ : Nat → Nat → Nat} {x1 : Int32} {Q : St → Prop}  {S : St} (C : Cx false p l s m meth c R9 b9_measure 8 D ca ρ) (hr : meth.sig.returnType = none)   (hw : wp9_measure_69 x1 Q  S) : wm false p l e { frames := 1, cells := 0, slots := 0, locals := 24 } s m args below meth c D ca ρ 8 0 0 (qv false below args s D ca ρ 0 0 Q) 69 [] [.ref (ρ 9 0)] S := by
  unfold wp9_measure_69 at hw
  refine r_lconst C (pc := 69) (v := 1) d9_measure_69 (by decide) ?_
  refine r_goto C (pc := 70) (tgt := 74) d9_measure_70 (by decide) ?_
  refine r_sub (ls' := []) [] rfl ?_
  exact nd9_measure_74 C hr hw
set_option maxRecDepth 20000 in
theorem nd9_measure_45 {p : Program} {l : Launch} {e : Env} {s : State} {m : MethodId} {args : Array Value} {below : List Frame} {meth : Method} {c : Code} {D : va_G} {ca : Nat → ClassId} {ρ : Nat → Nat → Nat} {x1 : Int32} {Q : St → Prop} {x2 : UInt64} {x4 : UInt64} {S : St} (C : Cx false p l s m meth c R9 b9_measure 8 D ca ρ) (hr : meth.sig.returnType = none)   (hw : wp9_measure_45 x1 Q x2 x4 S) : wm false p l e { frames := 1, cells := 0, slots := 0, locals := 24 } s m args below meth c D ca ρ 8 0 0 (qv false below args s D ca ρ 0 0 Q) 45 [(0, .ref (ρ 9 0)), (1, .int x1), (2, .double x2), (4, .double x4)] [] S := by
  unfold wp9_measure_45 at hw
  refine r_aload_n C (pc := 45) 0 rfl d9_measure_45 ?_
  refine r_iload_n C (pc := 46) 1 rfl d9_measure_46 ?_
  refine r_bipush C (pc := 47) (v := 74) d9_measure_47 (by decide) ?_
  refine r_icmp_ne C (pc := 49) (tgt := 62) d9_measure_49 (by decide) (fun c1 => ?_) (fun c1 => ?_)
  · have hw := hw.1 c1
    refine r_dload_n C (pc := 62) 2 rfl d9_measure_62 ?_
    refine r_dload C (pc := 63) 3 rfl d9_measure_63 ?_
    refine r_dcmp C (pc := 65) d9_measure_65 ?_
    refine r_if_ge C (pc := 66) (tgt := 73) d9_measure_66 (by decide) (fun c2 => ?_) (fun c2 => ?_)
    · have hw := hw.1 c2
      refine r_sub (ls' := []) [] rfl ?_
      exact nd9_measure_73 C hr hw
    · have hw := hw.2 c2
      refine r_sub (ls' := []) [] rfl ?_
      exact nd9_measure_69 C hr hw
  · have hw := hw.2 c1
    refine r_dload_n C (pc := 52) 2 rfl d9_measure_52 ?_
    refine r_dload C (pc := 53) 3 rfl d9_measure_53 ?_
    refine r_dcmp C (pc := 55) d9_measure_55 ?_
    refine r_if_ne C (pc := 56) (tgt := 73) d9_measure_56 (by decide) (fun c3 => ?_) (fun c3 => ?_)
    · have hw := hw.1 c3
      refine r_sub (ls' := []) [] rfl ?_
      exact nd9_measure_73 C hr hw
    · have hw := hw.2 c3
      refine r_goto C (pc := 59) (tgt := 69) d9_measure_59 (by decide) ?_
      refine r_sub (ls' := []) [] rfl ?_
      exact nd9_measure_69 C hr hw
set_option maxRecDepth 20000 in
theorem ct9_measure (l : Launch) (D : va_G) (ca : Nat → ClassId) (ρ : Nat → Nat → Nat) (sz : Nat) {S : St} {x1 : Int32} {Q : St → Prop} (hAp : Ap false ρ)  (hw : wp9_measure S x1 Q) : Met l y9_measure [Cond.code y9_measure b9_measure 8 none] { frames := 1, cells := 0, slots := 0, locals := 24 } (va_Pc [.ref (ρ 9 0), .int x1] (PreU false D ca ρ sz S)) (va_Qv Q (PostU false D ca ρ) (Ar false ρ sz)) 0 0 (Ar false ρ sz) := by
  refine met_of_wm (own := R9) (ls0 := [(0, .ref (ρ 9 0)), (1, .int x1)]) rfl rfl hAp (Nat.le_of_ble_eq_true rfl) rfl fun p e s m args below meth c C hr hz => ?_
  subst hz
  unfold wp9_measure at hw
  refine r_aload_n C (pc := 0) 0 rfl d9_measure_0 ?_
  refine r_dup C (pc := 1) rfl d9_measure_1 ?_
  refine g9_height C (pc := 2) (Nat.le_of_ble_eq_true rfl) w9_122 d9_measure_2 ?_
  refine r_iconst C (pc := 5) (v := 2) d9_measure_5 (by decide) ?_
  refine r_isub C (pc := 6) d9_measure_6 ?_
  refine p9_height C (pc := 7) (Nat.le_of_ble_eq_true rfl) w9_122 d9_measure_7 ?_
  refine r_S (fun S1 eS1 => ?_)
  have hw := hw S1 eS1
  refine r_aload_n C (pc := 10) 0 rfl d9_measure_10 ?_
  refine g9_reals C (pc := 11) (Nat.le_of_ble_eq_true rfl) w9_63 d9_measure_11 ?_
  refine r_aload_n C (pc := 14) 0 rfl d9_measure_14 ?_
  refine g9_height C (pc := 15) (Nat.le_of_ble_eq_true rfl) w9_122 d9_measure_15 ?_
  have hi1 := hw.1
  have hw := hw.2
  refine ld1923 C (pc := 18) (Nat.le_of_ble_eq_true rfl) hi1 d9_measure_18 ?_
  refine r_topd (fun x2_1 ex2_1 => ?_)
  have hw := hw x2_1 ex2_1
  refine r_dstore_n C (pc := 19) (ls' := [(2, .double x2_1), (0, .ref (ρ 9 0)), (1, .int x1)]) (Nat.le_of_ble_eq_true rfl) rfl d9_measure_19 ?_
  refine r_aload_n C (pc := 20) 1 rfl d9_measure_20 ?_
  refine g9_reals C (pc := 21) (Nat.le_of_ble_eq_true rfl) w9_63 d9_measure_21 ?_
  refine r_aload_n C (pc := 24) 1 rfl d9_measure_24 ?_
  refine g9_height C (pc := 25) (Nat.le_of_ble_eq_true rfl) w9_122 d9_measure_25 ?_
  refine r_iconst C (pc := 28) (v := 1) d9_measure_28 (by decide) ?_
  refine r_iadd C (pc := 29) d9_measure_29 ?_
  have hi2 := hw.1
  have hw := hw.2
  refine ld1923 C (pc := 30) (Nat.le_of_ble_eq_true rfl) hi2 d9_measure_30 ?_
  refine r_topd (fun x4_1 ex4_1 => ?_)
  have hw := hw x4_1 ex4_1
  refine r_dstore C (pc := 31) (ls' := [(4, .double x4_1), (2, .double x2_1), (0, .ref (ρ 9 0)), (1, .int x1)]) (Nat.le_of_ble_eq_true rfl) rfl d9_measure_31 ?_
  refine r_iload_n C (pc := 33) 3 rfl d9_measure_33 ?_
  refine r_bipush C (pc := 34) (v := 74) d9_measure_34 (by decide) ?_
  refine r_icmp_eq C (pc := 36) (tgt := 45) d9_measure_36 (by decide) (fun c3 => ?_) (fun c3 => ?_)
  · have hw := hw.1 c3
    refine r_sub (ls' := [(0, .ref (ρ 9 0)), (1, .int x1), (2, .double x2_1), (4, .double x4_1)]) [2, 3, 1, 0] rfl ?_
    exact nd9_measure_45 C hr hw
  · have hw := hw.2 c3
    refine r_iload_n C (pc := 39) 3 rfl d9_measure_39 ?_
    refine r_bipush C (pc := 40) (v := 75) d9_measure_40 (by decide) ?_
    refine r_icmp_ne C (pc := 42) (tgt := 79) d9_measure_42 (by decide) (fun c4 => ?_) (fun c4 => ?_)
    · have hw := hw.1 c4
      refine r_iload_n C (pc := 79) 3 rfl d9_measure_79 ?_
      refine r_bipush C (pc := 80) (v := 73) d9_measure_80 (by decide) ?_
      refine r_icmp_ne C (pc := 82) (tgt := 98) d9_measure_82 (by decide) (fun c5 => ?_) (fun c5 => ?_)
      · have hw := hw.1 c5
        refine r_sub (ls' := [(0, .ref (ρ 9 0)), (1, .int x1), (2, .double x2_1), (4, .double x4_1)]) [2, 3, 1, 0] rfl ?_
        exact nd9_measure_98 C hr hw
      · have hw := hw.2 c5
        refine r_dload C (pc := 85) 0 rfl d9_measure_85 ?_
        refine r_dconst0 C (pc := 87) d9_measure_87 ?_
        refine r_dcmp C (pc := 88) d9_measure_88 ?_
        refine r_if_ne C (pc := 89) (tgt := 98) d9_measure_89 (by decide) (fun c6 => ?_) (fun c6 => ?_)
        · have hw := hw.1 c6
          refine r_sub (ls' := [(0, .ref (ρ 9 0)), (1, .int x1), (2, .double x2_1), (4, .double x4_1)]) [2, 3, 1, 0] rfl ?_
          exact nd9_measure_98 C hr hw
        · have hw := hw.2 c6
          refine r_aload_n C (pc := 92) 2 rfl d9_measure_92 ?_
          refine r_iconst C (pc := 93) (v := 2) d9_measure_93 (by decide) ?_
          refine p9_trap C (pc := 94) (Nat.le_of_ble_eq_true rfl) w9_233 d9_measure_94 ?_
          refine r_S (fun S2 eS2 => ?_)
          have hw := hw S2 eS2
          exact r_vret C (pc := 97) hr d9_measure_97 hw
    · have hw := hw.2 c4
      refine r_sub (ls' := [(0, .ref (ρ 9 0)), (1, .int x1), (2, .double x2_1), (4, .double x4_1)]) [2, 3, 1, 0] rfl ?_
      exact nd9_measure_45 C hr hw
set_option maxRecDepth 20000 in
theorem nd9_turn_124 {p : Program} {l : Launch} {e : Env} {s : State} {m : MethodId} {args : Array Value} {below : List Frame} {meth : Method} {c : Code} {D : va_G} {ca : Nat → ClassId} {ρ : Nat → Nat → Nat} {x1 : Int32} {Q : St → Prop} {x2 : Int64} {S : St} (C : Cx false p l s m meth c R9 b9_turn 6 D ca ρ) (hr : meth.sig.returnType = none)   (hw : wp9_turn_124 x1 Q x2 S) : wm false p l e { frames := 1, cells := 0, slots := 0, locals := 24 } s m args below meth c D ca ρ 6 0 0 (qv false below args s D ca ρ 0 0 Q) 124 [(0, .ref (ρ 9 0)), (2, .long x2)] [] S := by
  unfold wp9_turn_124 at hw
  refine r_aload_n C (pc := 124) 0 rfl d9_turn_124 ?_
  refine r_lconst C (pc := 125) (v := 0) d9_turn_125 (by decide) ?_
  refine r_lload_n C (pc := 126) 1 rfl d9_turn_126 ?_
  refine r_l2d C (pc := 127) d9_turn_127 ?_
  refine r_callVv C (pc := 128) (fun sz => ct9_push l D ca ρ sz C.2.2.2.2.2.2.1 hw) mf9_push w9_215 rfl (Nat.le_of_ble_eq_true rfl) rfl rfl rfl rfl ⟨Nat.le_of_ble_eq_true rfl, Nat.le_of_ble_eq_true rfl⟩ rfl rfl (Nat.le_of_ble_eq_true rfl) ⟨Nat.zero_le _, Nat.zero_le _⟩ d9_turn_128 (fun S1 hw => ?_)
  refine r_goto C (pc := 131) (tgt := 188) d9_turn_131 (by decide) ?_
  exact r_vret C (pc := 188) hr d9_turn_188 hw
set_option maxRecDepth 20000 in
theorem nd9_turn_55 {p : Program} {l : Launch} {e : Env} {s : State} {m : MethodId} {args : Array Value} {below : List Frame} {meth : Method} {c : Code} {D : va_G} {ca : Nat → ClassId} {ρ : Nat → Nat → Nat} {x1 : Int32} {Q : St → Prop} {s1 : Int64} {S : St} (C : Cx false p l s m meth c R9 b9_turn 6 D ca ρ) (hr : meth.sig.returnType = none)   (hw : wp9_turn_55 x1 Q s1 S) : wm false p l e { frames := 1, cells := 0, slots := 0, locals := 24 } s m args below meth c D ca ρ 6 0 0 (qv false below args s D ca ρ 0 0 Q) 55 [] [.long s1, .ref (ρ 9 0)] S := by
  unfold wp9_turn_55 at hw
  refine r_dconst0 C (pc := 55) d9_turn_55 ?_
  refine r_callVv C (pc := 56) (fun sz => ct9_push l D ca ρ sz C.2.2.2.2.2.2.1 hw) mf9_push w9_215 rfl (Nat.le_of_ble_eq_true rfl) rfl rfl rfl rfl ⟨Nat.le_of_ble_eq_true rfl, Nat.le_of_ble_eq_true rfl⟩ rfl rfl (Nat.le_of_ble_eq_true rfl) ⟨Nat.zero_le _, Nat.zero_le _⟩ d9_turn_56 (fun S1 hw => ?_)
  refine r_goto C (pc := 59) (tgt := 188) d9_turn_59 (by decide) ?_
  exact r_vret C (pc := 188) hr d9_turn_188 hw
set_option maxRecDepth 20000 in
theorem nd9_turn_43 {p : Program} {l : Launch} {e : Env} {s : State} {m : MethodId} {args : Array Value} {below : List Frame} {meth : Method} {c : Code} {D : va_G} {ca : Nat → ClassId} {ρ : Nat → Nat → Nat} {x1 : Int32} {Q : St → Prop} {x2 : Int64} {S : St} (C : Cx false p l s m meth c R9 b9_turn 6 D ca ρ) (hr : meth.sig.returnType = none)   (hw : wp9_turn_43 x1 Q x2 S) : wm false p l e { frames := 1, cells := 0, slots := 0, locals := 24 } s m args below meth c D ca ρ 6 0 0 (qv false below args s D ca ρ 0 0 Q) 43 [(0, .ref (ρ 9 0)), (2, .long x2)] [] S := by
  unfold wp9_turn_43 at hw
  refine r_aload_n C (pc := 43) 0 rfl d9_turn_43 ?_
  refine r_lload_n C (pc := 44) 1 rfl d9_turn_44 ?_
  refine r_lconst C (pc := 45) (v := 0) d9_turn_45 (by decide) ?_
  refine r_lcmp C (pc := 46) d9_turn_46 ?_
  refine r_if_ne C (pc := 47) (tgt := 54) d9_turn_47 (by decide) (fun c1 => ?_) (fun c1 => ?_)
  · have hw := hw.1 c1
    refine r_lconst C (pc := 54) (v := 0) d9_turn_54 (by decide) ?_
    refine r_sub (ls' := []) [] rfl ?_
    exact nd9_turn_55 C hr hw
  · have hw := hw.2 c1
    refine r_lconst C (pc := 50) (v := 1) d9_turn_50 (by decide) ?_
    refine r_goto C (pc := 51) (tgt := 55) d9_turn_51 (by decide) ?_
    refine r_sub (ls' := []) [] rfl ?_
    exact nd9_turn_55 C hr hw
set_option maxRecDepth 20000 in
theorem ct9_turn (l : Launch) (D : va_G) (ca : Nat → ClassId) (ρ : Nat → Nat → Nat) (sz : Nat) {S : St} {x1 : Int32} {Q : St → Prop} (hAp : Ap false ρ)  (hw : wp9_turn S x1 Q) : Met l y9_turn [Cond.code y9_turn b9_turn 6 none] { frames := 1, cells := 0, slots := 0, locals := 24 } (va_Pc [.ref (ρ 9 0), .int x1] (PreU false D ca ρ sz S)) (va_Qv Q (PostU false D ca ρ) (Ar false ρ sz)) 0 0 (Ar false ρ sz) := by
  refine met_of_wm (own := R9) (ls0 := [(0, .ref (ρ 9 0)), (1, .int x1)]) rfl rfl hAp (Nat.le_of_ble_eq_true rfl) rfl fun p e s m args below meth c C hr hz => ?_
  subst hz
  unfold wp9_turn at hw
  refine r_aload_n C (pc := 0) 0 rfl d9_turn_0 ?_
  refine r_dup C (pc := 1) rfl d9_turn_1 ?_
  refine g9_height C (pc := 2) (Nat.le_of_ble_eq_true rfl) w9_122 d9_turn_2 ?_
  refine r_iconst C (pc := 5) (v := 1) d9_turn_5 (by decide) ?_
  refine r_isub C (pc := 6) d9_turn_6 ?_
  refine p9_height C (pc := 7) (Nat.le_of_ble_eq_true rfl) w9_122 d9_turn_7 ?_
  refine r_S (fun S1 eS1 => ?_)
  have hw := hw S1 eS1
  refine r_aload_n C (pc := 10) 0 rfl d9_turn_10 ?_
  refine g9_whole C (pc := 11) (Nat.le_of_ble_eq_true rfl) w9_60 d9_turn_11 ?_
  refine r_aload_n C (pc := 14) 0 rfl d9_turn_14 ?_
  refine g9_height C (pc := 15) (Nat.le_of_ble_eq_true rfl) w9_122 d9_turn_15 ?_
  have hi1 := hw.1
  have hw := hw.2
  refine ld1922 C (pc := 18) (Nat.le_of_ble_eq_true rfl) hi1 d9_turn_18 ?_
  refine r_topl (fun x2_1 ex2_1 => ?_)
  have hw := hw x2_1 ex2_1
  refine r_lstore_n C (pc := 19) (ls' := [(2, .long x2_1), (0, .ref (ρ 9 0)), (1, .int x1)]) (Nat.le_of_ble_eq_true rfl) rfl d9_turn_19 ?_
  refine r_aload_n C (pc := 20) 1 rfl d9_turn_20 ?_
  refine g9_reals C (pc := 21) (Nat.le_of_ble_eq_true rfl) w9_63 d9_turn_21 ?_
  refine r_aload_n C (pc := 24) 1 rfl d9_turn_24 ?_
  refine g9_height C (pc := 25) (Nat.le_of_ble_eq_true rfl) w9_122 d9_turn_25 ?_
  have hi2 := hw.1
  have hw := hw.2
  refine ld1923 C (pc := 28) (Nat.le_of_ble_eq_true rfl) hi2 d9_turn_28 ?_
  refine r_topd (fun x4_1 ex4_1 => ?_)
  have hw := hw x4_1 ex4_1
  refine r_dstore C (pc := 29) (ls' := [(4, .double x4_1), (2, .long x2_1), (0, .ref (ρ 9 0)), (1, .int x1)]) (Nat.le_of_ble_eq_true rfl) rfl d9_turn_29 ?_
  refine r_iload_n C (pc := 31) 3 rfl d9_turn_31 ?_
  refine r_bipush C (pc := 32) (v := 45) d9_turn_32 (by decide) ?_
  refine r_icmp_eq C (pc := 34) (tgt := 43) d9_turn_34 (by decide) (fun c3 => ?_) (fun c3 => ?_)
  · have hw := hw.1 c3
    refine r_sub (ls' := [(0, .ref (ρ 9 0)), (2, .long x2_1)]) [2, 1] rfl ?_
    exact nd9_turn_43 C hr hw
  · have hw := hw.2 c3
    refine r_iload_n C (pc := 37) 3 rfl d9_turn_37 ?_
    refine r_bipush C (pc := 38) (v := 64) d9_turn_38 (by decide) ?_
    refine r_icmp_ne C (pc := 40) (tgt := 62) d9_turn_40 (by decide) (fun c4 => ?_) (fun c4 => ?_)
    · have hw := hw.1 c4
      refine r_iload_n C (pc := 62) 3 rfl d9_turn_62 ?_
      refine r_bipush C (pc := 63) (v := 76) d9_turn_63 (by decide) ?_
      refine r_icmp_ne C (pc := 65) (tgt := 80) d9_turn_65 (by decide) (fun c5 => ?_) (fun c5 => ?_)
      · have hw := hw.1 c5
        refine r_iload_n C (pc := 80) 3 rfl d9_turn_80 ?_
        refine r_bipush C (pc := 81) (v := 80) d9_turn_81 (by decide) ?_
        refine r_icmp_ne C (pc := 83) (tgt := 97) d9_turn_83 (by decide) (fun c6 => ?_) (fun c6 => ?_)
        · have hw := hw.1 c6
          refine r_iload_n C (pc := 97) 3 rfl d9_turn_97 ?_
          refine r_bipush C (pc := 98) (v := 81) d9_turn_98 (by decide) ?_
          refine r_icmp_ne C (pc := 100) (tgt := 112) d9_turn_100 (by decide) (fun c7 => ?_) (fun c7 => ?_)
          · have hw := hw.1 c7
            refine r_iload_n C (pc := 112) 3 rfl d9_turn_112 ?_
            refine r_bipush C (pc := 113) (v := 82) d9_turn_113 (by decide) ?_
            refine r_icmp_eq C (pc := 115) (tgt := 124) d9_turn_115 (by decide) (fun c8 => ?_) (fun c8 => ?_)
            · have hw := hw.1 c8
              refine r_sub (ls' := [(0, .ref (ρ 9 0)), (2, .long x2_1)]) [2, 1] rfl ?_
              exact nd9_turn_124 C hr hw
            · have hw := hw.2 c8
              refine r_iload_n C (pc := 118) 3 rfl d9_turn_118 ?_
              refine r_bipush C (pc := 119) (v := 84) d9_turn_119 (by decide) ?_
              refine r_icmp_ne C (pc := 121) (tgt := 134) d9_turn_121 (by decide) (fun c9 => ?_) (fun c9 => ?_)
              · have hw := hw.1 c9
                refine r_iload_n C (pc := 134) 3 rfl d9_turn_134 ?_
                refine r_bipush C (pc := 135) (v := 85) d9_turn_135 (by decide) ?_
                refine r_icmp_ne C (pc := 137) (tgt := 153) d9_turn_137 (by decide) (fun c10 => ?_) (fun c10 => ?_)
                · have hw := hw.1 c10
                  refine r_dload C (pc := 153) 0 rfl d9_turn_153 ?_
                  refine r_ldc2d C (pc := 155) w9_251 d9_turn_155 ?_
                  refine r_dcmp C (pc := 158) d9_turn_158 ?_
                  refine r_if_le C (pc := 159) (tgt := 183) d9_turn_159 (by decide) (fun c11 => ?_) (fun c11 => ?_)
                  · have hw := hw.1 c11
                    refine r_aload_n C (pc := 183) 2 rfl d9_turn_183 ?_
                    refine r_iconst C (pc := 184) (v := 5) d9_turn_184 (by decide) ?_
                    refine p9_trap C (pc := 185) (Nat.le_of_ble_eq_true rfl) w9_233 d9_turn_185 ?_
                    refine r_S (fun S2 eS2 => ?_)
                    have hw := hw S2 eS2
                    exact r_vret C (pc := 188) hr d9_turn_188 hw
                  · have hw := hw.2 c11
                    refine r_dload C (pc := 162) 0 rfl d9_turn_162 ?_
                    refine r_ldc2d C (pc := 164) w9_253 d9_turn_164 ?_
                    refine r_dcmp C (pc := 167) d9_turn_167 ?_
                    refine r_if_ge C (pc := 168) (tgt := 183) d9_turn_168 (by decide) (fun c12 => ?_) (fun c12 => ?_)
                    · have hw := hw.1 c12
                      refine r_aload_n C (pc := 183) 2 rfl d9_turn_183 ?_
                      refine r_iconst C (pc := 184) (v := 5) d9_turn_184 (by decide) ?_
                      refine p9_trap C (pc := 185) (Nat.le_of_ble_eq_true rfl) w9_233 d9_turn_185 ?_
                      refine r_S (fun S3 eS3 => ?_)
                      have hw := hw S3 eS3
                      exact r_vret C (pc := 188) hr d9_turn_188 hw
                    · have hw := hw.2 c12
                      refine r_aload_n C (pc := 171) 2 rfl d9_turn_171 ?_
                      refine r_dload C (pc := 172) 0 rfl d9_turn_172 ?_
                      refine r_d2i C (pc := 174) d9_turn_174 ?_
                      refine r_i2l C (pc := 175) d9_turn_175 ?_
                      refine r_dconst0 C (pc := 176) d9_turn_176 ?_
                      refine r_callVv C (pc := 177) (fun sz => ct9_push l D ca ρ sz C.2.2.2.2.2.2.1 hw) mf9_push w9_215 rfl (Nat.le_of_ble_eq_true rfl) rfl rfl rfl rfl ⟨Nat.le_of_ble_eq_true rfl, Nat.le_of_ble_eq_true rfl⟩ rfl rfl (Nat.le_of_ble_eq_true rfl) ⟨Nat.zero_le _, Nat.zero_le _⟩ d9_turn_177 (fun S4 hw => ?_)
                      refine r_goto C (pc := 180) (tgt := 188) d9_turn_180 (by decide) ?_
                      exact r_vret C (pc := 188) hr d9_turn_188 hw
                · have hw := hw.2 c10
                  refine r_aload_n C (pc := 140) 2 rfl d9_turn_140 ?_
                  refine r_lload_n C (pc := 141) 1 rfl d9_turn_141 ?_
                  refine r_ldc2 C (pc := 142) w9_245 d9_turn_142 ?_
                  refine r_land C (pc := 145) d9_turn_145 ?_
                  refine r_dconst0 C (pc := 146) d9_turn_146 ?_
                  refine r_callVv C (pc := 147) (fun sz => ct9_push l D ca ρ sz C.2.2.2.2.2.2.1 hw) mf9_push w9_215 rfl (Nat.le_of_ble_eq_true rfl) rfl rfl rfl rfl ⟨Nat.le_of_ble_eq_true rfl, Nat.le_of_ble_eq_true rfl⟩ rfl rfl (Nat.le_of_ble_eq_true rfl) ⟨Nat.zero_le _, Nat.zero_le _⟩ d9_turn_147 (fun S5 hw => ?_)
                  refine r_goto C (pc := 150) (tgt := 188) d9_turn_150 (by decide) ?_
                  exact r_vret C (pc := 188) hr d9_turn_188 hw
              · have hw := hw.2 c9
                refine r_sub (ls' := [(0, .ref (ρ 9 0)), (2, .long x2_1)]) [2, 1] rfl ?_
                exact nd9_turn_124 C hr hw
          · have hw := hw.2 c7
            refine r_aload_n C (pc := 103) 2 rfl d9_turn_103 ?_
            refine r_lload_n C (pc := 104) 1 rfl d9_turn_104 ?_
            refine r_dconst0 C (pc := 105) d9_turn_105 ?_
            refine r_callVv C (pc := 106) (fun sz => ct9_push l D ca ρ sz C.2.2.2.2.2.2.1 hw) mf9_push w9_215 rfl (Nat.le_of_ble_eq_true rfl) rfl rfl rfl rfl ⟨Nat.le_of_ble_eq_true rfl, Nat.le_of_ble_eq_true rfl⟩ rfl rfl (Nat.le_of_ble_eq_true rfl) ⟨Nat.zero_le _, Nat.zero_le _⟩ d9_turn_106 (fun S6 hw => ?_)
            refine r_goto C (pc := 109) (tgt := 188) d9_turn_109 (by decide) ?_
            exact r_vret C (pc := 188) hr d9_turn_188 hw
        · have hw := hw.2 c6
          refine r_aload_n C (pc := 86) 2 rfl d9_turn_86 ?_
          refine r_lload_n C (pc := 87) 1 rfl d9_turn_87 ?_
          refine r_l2i C (pc := 88) d9_turn_88 ?_
          refine r_i2l C (pc := 89) d9_turn_89 ?_
          refine r_dconst0 C (pc := 90) d9_turn_90 ?_
          refine r_callVv C (pc := 91) (fun sz => ct9_push l D ca ρ sz C.2.2.2.2.2.2.1 hw) mf9_push w9_215 rfl (Nat.le_of_ble_eq_true rfl) rfl rfl rfl rfl ⟨Nat.le_of_ble_eq_true rfl, Nat.le_of_ble_eq_true rfl⟩ rfl rfl (Nat.le_of_ble_eq_true rfl) ⟨Nat.zero_le _, Nat.zero_le _⟩ d9_turn_91 (fun S7 hw => ?_)
          refine r_goto C (pc := 94) (tgt := 188) d9_turn_94 (by decide) ?_
          exact r_vret C (pc := 188) hr d9_turn_188 hw
      · have hw := hw.2 c5
        refine r_aload_n C (pc := 68) 2 rfl d9_turn_68 ?_
        refine r_lconst C (pc := 69) (v := 0) d9_turn_69 (by decide) ?_
        refine r_dconst0 C (pc := 70) d9_turn_70 ?_
        refine r_dload C (pc := 71) 0 rfl d9_turn_71 ?_
        have h0 := hw.1
        have hw := hw.2
        refine r_dsub C (pc := 73) d9_turn_73 h0 ?_
        refine r_callVv C (pc := 74) (fun sz => ct9_push l D ca ρ sz C.2.2.2.2.2.2.1 hw) mf9_push w9_215 rfl (Nat.le_of_ble_eq_true rfl) rfl rfl rfl rfl ⟨Nat.le_of_ble_eq_true rfl, Nat.le_of_ble_eq_true rfl⟩ rfl rfl (Nat.le_of_ble_eq_true rfl) ⟨Nat.zero_le _, Nat.zero_le _⟩ d9_turn_74 (fun S8 hw => ?_)
        refine r_goto C (pc := 77) (tgt := 188) d9_turn_77 (by decide) ?_
        exact r_vret C (pc := 188) hr d9_turn_188 hw
    · have hw := hw.2 c4
      refine r_sub (ls' := [(0, .ref (ρ 9 0)), (2, .long x2_1)]) [2, 1] rfl ?_
      exact nd9_turn_43 C hr hw
set_option maxRecDepth 20000 in
theorem nd9_plain_62 {p : Program} {l : Launch} {e : Env} {s : State} {m : MethodId} {args : Array Value} {below : List Frame} {meth : Method} {c : Code} {D : va_G} {ca : Nat → ClassId} {ρ : Nat → Nat → Nat} {x1 : Int32} {x2 : Int32} {Q : St → Prop}  {S : St} (C : Cx false p l s m meth c R9 b9_plain 3 D ca ρ) (hr : meth.sig.returnType = none)   (hw : wp9_plain_62 x1 x2 Q  S) : wm false p l e { frames := 2, cells := 0, slots := 0, locals := 55 } s m args below meth c D ca ρ 3 0 0 (qv false below args s D ca ρ 0 0 Q) 62 [(0, .ref (ρ 9 0)), (1, .int x1)] [] S := by
  unfold wp9_plain_62 at hw
  refine r_aload_n C (pc := 62) 0 rfl d9_plain_62 ?_
  refine r_iload_n C (pc := 63) 1 rfl d9_plain_63 ?_
  refine r_callVv C (pc := 64) (fun sz => ct9_turn l D ca ρ sz C.2.2.2.2.2.2.1 hw) mf9_turn w9_258 rfl (Nat.le_of_ble_eq_true rfl) rfl rfl rfl rfl ⟨Nat.le_of_ble_eq_true rfl, Nat.le_of_ble_eq_true rfl⟩ rfl rfl (Nat.le_of_ble_eq_true rfl) ⟨Nat.zero_le _, Nat.zero_le _⟩ d9_plain_64 (fun S1 hw => ?_)
  refine r_goto C (pc := 67) (tgt := 113) d9_plain_67 (by decide) ?_
  exact r_vret C (pc := 113) hr d9_plain_113 hw
set_option maxRecDepth 20000 in
theorem nd9_plain_29 {p : Program} {l : Launch} {e : Env} {s : State} {m : MethodId} {args : Array Value} {below : List Frame} {meth : Method} {c : Code} {D : va_G} {ca : Nat → ClassId} {ρ : Nat → Nat → Nat} {x1 : Int32} {x2 : Int32} {Q : St → Prop}  {S : St} (C : Cx false p l s m meth c R9 b9_plain 3 D ca ρ) (hr : meth.sig.returnType = none)   (hw : wp9_plain_29 x1 x2 Q  S) : wm false p l e { frames := 2, cells := 0, slots := 0, locals := 55 } s m args below meth c D ca ρ 3 0 0 (qv false below args s D ca ρ 0 0 Q) 29 [(0, .ref (ρ 9 0)), (1, .int x1), (2, .int x2)] [] S := by
  unfold wp9_plain_29 at hw
  refine r_iload_n C (pc := 29) 1 rfl d9_plain_29 ?_
  refine r_bipush C (pc := 30) (v := 28) d9_plain_30 (by decide) ?_
  refine r_icmp_gt C (pc := 32) (tgt := 44) d9_plain_32 (by decide) (fun c1 => ?_) (fun c1 => ?_)
  · have hw := hw.1 c1
    refine r_iload_n C (pc := 44) 1 rfl d9_plain_44 ?_
    refine r_bipush C (pc := 45) (v := 45) d9_plain_45 (by decide) ?_
    refine r_icmp_eq C (pc := 47) (tgt := 62) d9_plain_47 (by decide) (fun c2 => ?_) (fun c2 => ?_)
    · have hw := hw.1 c2
      refine r_sub (ls' := [(0, .ref (ρ 9 0)), (1, .int x1)]) [0, 1] rfl ?_
      exact nd9_plain_62 C hr hw
    · have hw := hw.2 c2
      refine r_iload_n C (pc := 50) 1 rfl d9_plain_50 ?_
      refine r_bipush C (pc := 51) (v := 64) d9_plain_51 (by decide) ?_
      refine r_icmp_eq C (pc := 53) (tgt := 62) d9_plain_53 (by decide) (fun c3 => ?_) (fun c3 => ?_)
      · have hw := hw.1 c3
        refine r_sub (ls' := [(0, .ref (ρ 9 0)), (1, .int x1)]) [0, 1] rfl ?_
        exact nd9_plain_62 C hr hw
      · have hw := hw.2 c3
        refine r_iload_n C (pc := 56) 1 rfl d9_plain_56 ?_
        refine r_bipush C (pc := 57) (v := 76) d9_plain_57 (by decide) ?_
        refine r_icmp_lt C (pc := 59) (tgt := 70) d9_plain_59 (by decide) (fun c4 => ?_) (fun c4 => ?_)
        · have hw := hw.1 c4
          refine r_iload_n C (pc := 70) 1 rfl d9_plain_70 ?_
          refine r_bipush C (pc := 71) (v := 50) d9_plain_71 (by decide) ?_
          refine r_icmp_ge C (pc := 73) (tgt := 89) d9_plain_73 (by decide) (fun c5 => ?_) (fun c5 => ?_)
          · have hw := hw.1 c5
            refine r_iload_n C (pc := 89) 1 rfl d9_plain_89 ?_
            refine r_bipush C (pc := 90) (v := 65) d9_plain_90 (by decide) ?_
            refine r_icmp_ge C (pc := 92) (tgt := 108) d9_plain_92 (by decide) (fun c6 => ?_) (fun c6 => ?_)
            · have hw := hw.1 c6
              refine r_aload_n C (pc := 108) 0 rfl d9_plain_108 ?_
              refine r_iload_n C (pc := 109) 1 rfl d9_plain_109 ?_
              refine r_callVv C (pc := 110) (fun sz => ct9_measure l D ca ρ sz C.2.2.2.2.2.2.1 hw) mf9_measure w9_264 rfl (Nat.le_of_ble_eq_true rfl) rfl rfl rfl rfl ⟨Nat.le_of_ble_eq_true rfl, Nat.le_of_ble_eq_true rfl⟩ rfl rfl (Nat.le_of_ble_eq_true rfl) ⟨Nat.zero_le _, Nat.zero_le _⟩ d9_plain_110 (fun S1 hw => ?_)
              exact r_vret C (pc := 113) hr d9_plain_113 hw
            · have hw := hw.2 c6
              refine r_aload_n C (pc := 95) 0 rfl d9_plain_95 ?_
              refine r_iload_n C (pc := 96) 1 rfl d9_plain_96 ?_
              refine r_bipush C (pc := 97) (v := 50) d9_plain_97 (by decide) ?_
              refine r_isub C (pc := 99) d9_plain_99 ?_
              refine r_bipush C (pc := 100) (v := 64) d9_plain_100 (by decide) ?_
              refine r_callVv C (pc := 102) (fun sz => ct9_calculate l D ca ρ sz C.2.2.2.2.2.2.1 hw) mf9_calculate w9_261 rfl (Nat.le_of_ble_eq_true rfl) rfl rfl rfl rfl ⟨Nat.le_of_ble_eq_true rfl, Nat.le_of_ble_eq_true rfl⟩ rfl rfl (Nat.le_of_ble_eq_true rfl) ⟨Nat.zero_le _, Nat.zero_le _⟩ d9_plain_102 (fun S2 hw => ?_)
              refine r_goto C (pc := 105) (tgt := 113) d9_plain_105 (by decide) ?_
              exact r_vret C (pc := 113) hr d9_plain_113 hw
          · have hw := hw.2 c5
            refine r_aload_n C (pc := 76) 0 rfl d9_plain_76 ?_
            refine r_iload_n C (pc := 77) 1 rfl d9_plain_77 ?_
            refine r_bipush C (pc := 78) (v := 30) d9_plain_78 (by decide) ?_
            refine r_isub C (pc := 80) d9_plain_80 ?_
            refine r_bipush C (pc := 81) (v := 32) d9_plain_81 (by decide) ?_
            refine r_callVv C (pc := 83) (fun sz => ct9_calculate l D ca ρ sz C.2.2.2.2.2.2.1 hw) mf9_calculate w9_261 rfl (Nat.le_of_ble_eq_true rfl) rfl rfl rfl rfl ⟨Nat.le_of_ble_eq_true rfl, Nat.le_of_ble_eq_true rfl⟩ rfl rfl (Nat.le_of_ble_eq_true rfl) ⟨Nat.zero_le _, Nat.zero_le _⟩ d9_plain_83 (fun S3 hw => ?_)
            refine r_goto C (pc := 86) (tgt := 113) d9_plain_86 (by decide) ?_
            exact r_vret C (pc := 113) hr d9_plain_113 hw
        · have hw := hw.2 c4
          refine r_sub (ls' := [(0, .ref (ρ 9 0)), (1, .int x1)]) [0, 1] rfl ?_
          exact nd9_plain_62 C hr hw
  · have hw := hw.2 c1
    refine r_aload_n C (pc := 35) 0 rfl d9_plain_35 ?_
    refine r_iload_n C (pc := 36) 1 rfl d9_plain_36 ?_
    refine r_iload_n C (pc := 37) 2 rfl d9_plain_37 ?_
    refine r_callVv C (pc := 38) (fun sz => ct9_access l D ca ρ sz C.2.2.2.2.2.2.1 hw) mf9_access w9_255 rfl (Nat.le_of_ble_eq_true rfl) rfl rfl rfl rfl ⟨Nat.le_of_ble_eq_true rfl, Nat.le_of_ble_eq_true rfl⟩ rfl rfl (Nat.le_of_ble_eq_true rfl) ⟨Nat.zero_le _, Nat.zero_le _⟩ d9_plain_38 (fun S4 hw => ?_)
    refine r_goto C (pc := 41) (tgt := 113) d9_plain_41 (by decide) ?_
    exact r_vret C (pc := 113) hr d9_plain_113 hw
set_option maxRecDepth 20000 in
theorem ct9_plain (l : Launch) (D : va_G) (ca : Nat → ClassId) (ρ : Nat → Nat → Nat) (sz : Nat) {S : St} {x1 : Int32} {x2 : Int32} {Q : St → Prop} (hAp : Ap false ρ)  (hw : wp9_plain S x1 x2 Q) : Met l y9_plain [Cond.code y9_plain b9_plain 3 none] { frames := 2, cells := 0, slots := 0, locals := 55 } (va_Pc [.ref (ρ 9 0), .int x1, .int x2] (PreU false D ca ρ sz S)) (va_Qv Q (PostU false D ca ρ) (Ar false ρ sz)) 0 0 (Ar false ρ sz) := by
  refine met_of_wm (own := R9) (ls0 := [(0, .ref (ρ 9 0)), (1, .int x1), (2, .int x2)]) rfl rfl hAp (Nat.le_of_ble_eq_true rfl) rfl fun p e s m args below meth c C hr hz => ?_
  subst hz
  unfold wp9_plain at hw
  refine r_iload_n C (pc := 0) 1 rfl d9_plain_0 ?_
  refine r_bipush C (pc := 1) (v := 20) d9_plain_1 (by decide) ?_
  refine r_icmp_lt C (pc := 3) (tgt := 29) d9_plain_3 (by decide) (fun c1 => ?_) (fun c1 => ?_)
  · have hw := hw.1 c1
    refine r_sub (ls' := [(0, .ref (ρ 9 0)), (1, .int x1), (2, .int x2)]) [0, 1, 2] rfl ?_
    exact nd9_plain_29 C hr hw
  · have hw := hw.2 c1
    refine r_iload_n C (pc := 6) 1 rfl d9_plain_6 ?_
    refine r_bipush C (pc := 7) (v := 22) d9_plain_7 (by decide) ?_
    refine r_icmp_gt C (pc := 9) (tgt := 29) d9_plain_9 (by decide) (fun c2 => ?_) (fun c2 => ?_)
    · have hw := hw.1 c2
      refine r_sub (ls' := [(0, .ref (ρ 9 0)), (1, .int x1), (2, .int x2)]) [0, 1, 2] rfl ?_
      exact nd9_plain_29 C hr hw
    · have hw := hw.2 c2
      refine r_aload_n C (pc := 12) 0 rfl d9_plain_12 ?_
      refine r_iload_n C (pc := 13) 2 rfl d9_plain_13 ?_
      refine r_i2b C (pc := 14) d9_plain_14 ?_
      refine r_i2l C (pc := 15) d9_plain_15 ?_
      refine r_iload_n C (pc := 16) 2 rfl d9_plain_16 ?_
      refine r_i2b C (pc := 17) d9_plain_17 ?_
      refine r_i2d C (pc := 18) d9_plain_18 ?_
      refine r_ldc2d C (pc := 19) w9_199 d9_plain_19 ?_
      have h0 := hw.1
      have hw := hw.2
      refine r_dmul C (pc := 22) d9_plain_22 h0 ?_
      refine r_callVv C (pc := 23) (fun sz => ct9_push l D ca ρ sz C.2.2.2.2.2.2.1 hw) mf9_push w9_215 rfl (Nat.le_of_ble_eq_true rfl) rfl rfl rfl rfl ⟨Nat.le_of_ble_eq_true rfl, Nat.le_of_ble_eq_true rfl⟩ rfl rfl (Nat.le_of_ble_eq_true rfl) ⟨Nat.zero_le _, Nat.zero_le _⟩ d9_plain_23 (fun S1 hw => ?_)
      refine r_goto C (pc := 26) (tgt := 113) d9_plain_26 (by decide) ?_
      exact r_vret C (pc := 113) hr d9_plain_113 hw
set_option maxRecDepth 20000 in
theorem ct9_select (l : Launch) (D : va_G) (ca : Nat → ClassId) (ρ : Nat → Nat → Nat) (sz : Nat) {S : St}  {Q : St → Prop} (hAp : Ap false ρ)  (hw : wp9_select S Q) : Met l y9_select [Cond.code y9_select b9_select 2 none] { frames := 1, cells := 0, slots := 0, locals := 20 } (va_Pc [.ref (ρ 9 0)] (PreU false D ca ρ sz S)) (va_Qv Q (PostU false D ca ρ) (Ar false ρ sz)) 0 0 (Ar false ρ sz) := by
  refine met_of_wm (own := R9) (ls0 := [(0, .ref (ρ 9 0))]) rfl rfl hAp (Nat.le_of_ble_eq_true rfl) rfl fun p e s m args below meth c C hr hz => ?_
  subst hz
  unfold wp9_select at hw
  refine r_aload_n C (pc := 0) 0 rfl d9_select_0 ?_
  refine r_callVi C (pc := 1) (fun sz => ct9_popInt l D ca ρ sz C.2.2.2.2.2.2.1 hw) mf9_popInt w9_226 rfl (Nat.le_of_ble_eq_true rfl) rfl rfl rfl rfl ⟨Nat.le_of_ble_eq_true rfl, Nat.le_of_ble_eq_true rfl⟩ rfl rfl (Nat.le_of_ble_eq_true rfl) ⟨Nat.zero_le _, Nat.zero_le _⟩ d9_select_1 (fun r1 S1 hw => ?_)
  refine r_istore_n C (pc := 4) (ls' := [(1, .int r1), (0, .ref (ρ 9 0))]) (Nat.le_of_ble_eq_true rfl) rfl d9_select_4 ?_
  refine r_aload_n C (pc := 5) 1 rfl d9_select_5 ?_
  refine r_dup C (pc := 6) rfl d9_select_6 ?_
  refine g9_height C (pc := 7) (Nat.le_of_ble_eq_true rfl) w9_122 d9_select_7 ?_
  refine r_iconst C (pc := 10) (v := 1) d9_select_10 (by decide) ?_
  refine r_isub C (pc := 11) d9_select_11 ?_
  refine p9_height C (pc := 12) (Nat.le_of_ble_eq_true rfl) w9_122 d9_select_12 ?_
  refine r_S (fun S2 eS2 => ?_)
  have hw := hw S2 eS2
  refine r_iload_n C (pc := 15) 0 rfl d9_select_15 ?_
  refine r_if_eq C (pc := 16) (tgt := 20) d9_select_16 (by decide) (fun c1 => ?_) (fun c1 => ?_)
  · have hw := hw.1 c1
    refine r_aload_n C (pc := 20) 1 rfl d9_select_20 ?_
    refine g9_whole C (pc := 21) (Nat.le_of_ble_eq_true rfl) w9_60 d9_select_21 ?_
    refine r_aload_n C (pc := 24) 1 rfl d9_select_24 ?_
    refine g9_height C (pc := 25) (Nat.le_of_ble_eq_true rfl) w9_122 d9_select_25 ?_
    refine r_iconst C (pc := 28) (v := 1) d9_select_28 (by decide) ?_
    refine r_isub C (pc := 29) d9_select_29 ?_
    refine r_aload_n C (pc := 30) 1 rfl d9_select_30 ?_
    refine g9_whole C (pc := 31) (Nat.le_of_ble_eq_true rfl) w9_60 d9_select_31 ?_
    refine r_aload_n C (pc := 34) 1 rfl d9_select_34 ?_
    refine g9_height C (pc := 35) (Nat.le_of_ble_eq_true rfl) w9_122 d9_select_35 ?_
    have hi2 := hw.1
    have hw := hw.2
    refine ld1922 C (pc := 38) (Nat.le_of_ble_eq_true rfl) hi2 d9_select_38 ?_
    have hi3 := hw.1
    have hw := hw.2
    refine st1922 C (pc := 39) (Nat.le_of_ble_eq_true rfl) hi3 d9_select_39 ?_
    refine r_S (fun S3 eS3 => ?_)
    have hw := hw S3 eS3
    refine r_aload_n C (pc := 40) 1 rfl d9_select_40 ?_
    refine g9_reals C (pc := 41) (Nat.le_of_ble_eq_true rfl) w9_63 d9_select_41 ?_
    refine r_aload_n C (pc := 44) 1 rfl d9_select_44 ?_
    refine g9_height C (pc := 45) (Nat.le_of_ble_eq_true rfl) w9_122 d9_select_45 ?_
    refine r_iconst C (pc := 48) (v := 1) d9_select_48 (by decide) ?_
    refine r_isub C (pc := 49) d9_select_49 ?_
    refine r_aload_n C (pc := 50) 1 rfl d9_select_50 ?_
    refine g9_reals C (pc := 51) (Nat.le_of_ble_eq_true rfl) w9_63 d9_select_51 ?_
    refine r_aload_n C (pc := 54) 1 rfl d9_select_54 ?_
    refine g9_height C (pc := 55) (Nat.le_of_ble_eq_true rfl) w9_122 d9_select_55 ?_
    have hi4 := hw.1
    have hw := hw.2
    refine ld1923 C (pc := 58) (Nat.le_of_ble_eq_true rfl) hi4 d9_select_58 ?_
    have hi5 := hw.1
    have hw := hw.2
    refine st1923 C (pc := 59) (Nat.le_of_ble_eq_true rfl) hi5 d9_select_59 ?_
    refine r_S (fun S4 eS4 => ?_)
    have hw := hw S4 eS4
    exact r_vret C (pc := 60) hr d9_select_60 hw
  · have hw := hw.2 c1
    exact r_vret C (pc := 19) hr d9_select_19 hw
set_option maxRecDepth 20000 in
theorem nd9_moves_207 {p : Program} {l : Launch} {e : Env} {s : State} {m : MethodId} {args : Array Value} {below : List Frame} {meth : Method} {c : Code} {D : va_G} {ca : Nat → ClassId} {ρ : Nat → Nat → Nat} {x1 : Int32} {x2 : Int32} {x3 : Int32} {Q : St → Prop} {s2 : Int32} {s3 : Int32} {s4 : Int32} {S : St} (C : Cx false p l s m meth c R9 b9_moves 5 D ca ρ) (hr : meth.sig.returnType = none)   (hw : wp9_moves_207 x1 x2 x3 Q s2 s3 s4 S) : wm false p l e { frames := 4, cells := 0, slots := 0, locals := 99 } s m args below meth c D ca ρ 5 0 0 (qv false below args s D ca ρ 0 0 Q) 207 [] [.int s4, .int s3, .int s2, .ref (ρ 9 0), .ref (ρ 9 0)] S := by
  unfold wp9_moves_207 at hw
  refine r_iadd C (pc := 207) d9_moves_207 ?_
  refine r_callVi C (pc := 208) (fun sz => ct9_byteAt l D ca ρ sz C.2.2.2.2.2.2.1 hw) mf9_byteAt w9_115 rfl (Nat.le_of_ble_eq_true rfl) rfl rfl rfl rfl ⟨Nat.le_of_ble_eq_true rfl, Nat.le_of_ble_eq_true rfl⟩ rfl rfl (Nat.le_of_ble_eq_true rfl) ⟨Nat.zero_le _, Nat.zero_le _⟩ d9_moves_208 (fun r1 S1 hw => ?_)
  refine r_callVv C (pc := 211) (fun sz => ct9_jump l D ca ρ sz C.2.2.2.2.2.2.1 hw) mf9_jump w9_270 rfl (Nat.le_of_ble_eq_true rfl) rfl rfl rfl rfl ⟨Nat.le_of_ble_eq_true rfl, Nat.le_of_ble_eq_true rfl⟩ rfl rfl (Nat.le_of_ble_eq_true rfl) ⟨Nat.zero_le _, Nat.zero_le _⟩ d9_moves_211 (fun S2 hw => ?_)
  refine r_goto C (pc := 214) (tgt := 223) d9_moves_214 (by decide) ?_
  exact r_vret C (pc := 223) hr d9_moves_223 hw
set_option maxRecDepth 20000 in
theorem ct9_moves (l : Launch) (D : va_G) (ca : Nat → ClassId) (ρ : Nat → Nat → Nat) (sz : Nat) {S : St} {x1 : Int32} {x2 : Int32} {x3 : Int32} {Q : St → Prop} (hAp : Ap false ρ)  (hw : wp9_moves S x1 x2 x3 Q) : Met l y9_moves [Cond.code y9_moves b9_moves 5 none] { frames := 4, cells := 0, slots := 0, locals := 99 } (va_Pc [.ref (ρ 9 0), .int x1, .int x2, .int x3] (PreU false D ca ρ sz S)) (va_Qv Q (PostU false D ca ρ) (Ar false ρ sz)) 0 0 (Ar false ρ sz) := by
  refine met_of_wm (own := R9) (ls0 := [(0, .ref (ρ 9 0)), (1, .int x1), (2, .int x2), (3, .int x3)]) rfl rfl hAp (Nat.le_of_ble_eq_true rfl) rfl fun p e s m args below meth c C hr hz => ?_
  subst hz
  unfold wp9_moves at hw
  refine r_iload_n C (pc := 0) 2 rfl d9_moves_0 ?_
  refine r_bipush C (pc := 1) (v := 6) d9_moves_1 (by decide) ?_
  refine r_icmp_ne C (pc := 3) (tgt := 56) d9_moves_3 (by decide) (fun c1 => ?_) (fun c1 => ?_)
  · have hw := hw.1 c1
    refine r_iload_n C (pc := 56) 2 rfl d9_moves_56 ?_
    refine r_iconst C (pc := 57) (v := 5) d9_moves_57 (by decide) ?_
    refine r_icmp_ne C (pc := 58) (tgt := 92) d9_moves_58 (by decide) (fun c2 => ?_) (fun c2 => ?_)
    · have hw := hw.1 c2
      refine r_iload_n C (pc := 92) 2 rfl d9_moves_92 ?_
      refine r_iconst C (pc := 93) (v := 5) d9_moves_93 (by decide) ?_
      refine r_icmp_ge C (pc := 94) (tgt := 107) d9_moves_94 (by decide) (fun c3 => ?_) (fun c3 => ?_)
      · have hw := hw.1 c3
        refine r_iload_n C (pc := 107) 2 rfl d9_moves_107 ?_
        refine r_bipush C (pc := 108) (v := 7) d9_moves_108 (by decide) ?_
        refine r_icmp_ne C (pc := 110) (tgt := 121) d9_moves_110 (by decide) (fun c4 => ?_) (fun c4 => ?_)
        · have hw := hw.1 c4
          refine r_iload_n C (pc := 121) 2 rfl d9_moves_121 ?_
          refine r_bipush C (pc := 122) (v := 10) d9_moves_122 (by decide) ?_
          refine r_icmp_ne C (pc := 124) (tgt := 134) d9_moves_124 (by decide) (fun c5 => ?_) (fun c5 => ?_)
          · have hw := hw.1 c5
            refine r_iload_n C (pc := 134) 2 rfl d9_moves_134 ?_
            refine r_bipush C (pc := 135) (v := 8) d9_moves_135 (by decide) ?_
            refine r_icmp_ne C (pc := 137) (tgt := 168) d9_moves_137 (by decide) (fun c6 => ?_) (fun c6 => ?_)
            · have hw := hw.1 c6
              refine r_iload_n C (pc := 168) 2 rfl d9_moves_168 ?_
              refine r_bipush C (pc := 169) (v := 9) d9_moves_169 (by decide) ?_
              refine r_icmp_ne C (pc := 171) (tgt := 217) d9_moves_171 (by decide) (fun c7 => ?_) (fun c7 => ?_)
              · have hw := hw.1 c7
                refine r_aload_n C (pc := 217) 0 rfl d9_moves_217 ?_
                refine r_iload_n C (pc := 218) 2 rfl d9_moves_218 ?_
                refine r_iload_n C (pc := 219) 3 rfl d9_moves_219 ?_
                refine r_callVv C (pc := 220) (fun sz => ct9_call l D ca ρ sz C.2.2.2.2.2.2.1 hw) mf9_call w9_273 rfl (Nat.le_of_ble_eq_true rfl) rfl rfl rfl rfl ⟨Nat.le_of_ble_eq_true rfl, Nat.le_of_ble_eq_true rfl⟩ rfl rfl (Nat.le_of_ble_eq_true rfl) ⟨Nat.zero_le _, Nat.zero_le _⟩ d9_moves_220 (fun S1 hw => ?_)
                exact r_vret C (pc := 223) hr d9_moves_223 hw
              · have hw := hw.2 c7
                refine r_aload_n C (pc := 174) 0 rfl d9_moves_174 ?_
                refine r_callVi C (pc := 175) (fun sz => ct9_popInt l D ca ρ sz C.2.2.2.2.2.2.1 hw) mf9_popInt w9_226 rfl (Nat.le_of_ble_eq_true rfl) rfl rfl rfl rfl ⟨Nat.le_of_ble_eq_true rfl, Nat.le_of_ble_eq_true rfl⟩ rfl rfl (Nat.le_of_ble_eq_true rfl) ⟨Nat.zero_le _, Nat.zero_le _⟩ d9_moves_175 (fun r1 S2 hw => ?_)
                refine r_istore C (pc := 178) (ls' := [(4, .int r1), (0, .ref (ρ 9 0)), (1, .int x1), (2, .int x2), (3, .int x3)]) (Nat.le_of_ble_eq_true rfl) rfl d9_moves_178 ?_
                refine r_aload_n C (pc := 180) 1 rfl d9_moves_180 ?_
                refine r_aload_n C (pc := 181) 1 rfl d9_moves_181 ?_
                refine r_iload_n C (pc := 182) 2 rfl d9_moves_182 ?_
                refine r_aload_n C (pc := 183) 1 rfl d9_moves_183 ?_
                refine g9_at C (pc := 184) (Nat.le_of_ble_eq_true rfl) w9_193 d9_moves_184 ?_
                refine r_iconst C (pc := 187) (v := 2) d9_moves_187 (by decide) ?_
                refine r_iadd C (pc := 188) d9_moves_188 ?_
                refine r_iload C (pc := 189) 0 rfl d9_moves_189 ?_
                refine r_iconst C (pc := 191) (v := 0) d9_moves_191 (by decide) ?_
                refine r_iload_n C (pc := 192) 4 rfl d9_moves_192 ?_
                refine r_iconst C (pc := 193) (v := 1) d9_moves_193 (by decide) ?_
                refine r_isub C (pc := 194) d9_moves_194 ?_
                refine r_callSi C (pc := 195) (fun sz => ct9_in l D ca ρ sz C.2.2.2.2.2.2.1 hw) mf9_in w9_92 rfl rfl ⟨Nat.le_of_ble_eq_true rfl, Nat.le_of_ble_eq_true rfl⟩ rfl rfl (Nat.le_of_ble_eq_true rfl) ⟨Nat.zero_le _, Nat.zero_le _⟩ d9_moves_195 (fun r2 S3 hw => ?_)
                refine r_if_eq C (pc := 198) (tgt := 206) d9_moves_198 (by decide) (fun c8 => ?_) (fun c8 => ?_)
                · have hw := hw.1 c8
                  refine r_iload_n C (pc := 206) 4 rfl d9_moves_206 ?_
                  refine r_sub (ls' := []) [] rfl ?_
                  exact nd9_moves_207 C hr hw
                · have hw := hw.2 c8
                  refine r_iload C (pc := 201) 0 rfl d9_moves_201 ?_
                  refine r_goto C (pc := 203) (tgt := 207) d9_moves_203 (by decide) ?_
                  refine r_sub (ls' := []) [] rfl ?_
                  exact nd9_moves_207 C hr hw
            · have hw := hw.2 c6
              refine r_aload_n C (pc := 140) 0 rfl d9_moves_140 ?_
              refine r_callVi C (pc := 141) (fun sz => ct9_popInt l D ca ρ sz C.2.2.2.2.2.2.1 hw) mf9_popInt w9_226 rfl (Nat.le_of_ble_eq_true rfl) rfl rfl rfl rfl ⟨Nat.le_of_ble_eq_true rfl, Nat.le_of_ble_eq_true rfl⟩ rfl rfl (Nat.le_of_ble_eq_true rfl) ⟨Nat.zero_le _, Nat.zero_le _⟩ d9_moves_141 (fun r3 S4 hw => ?_)
              refine r_if_eq C (pc := 144) (tgt := 155) d9_moves_144 (by decide) (fun c9 => ?_) (fun c9 => ?_)
              · have hw := hw.1 c9
                refine r_aload_n C (pc := 155) 0 rfl d9_moves_155 ?_
                refine r_dup C (pc := 156) rfl d9_moves_156 ?_
                refine g9_at C (pc := 157) (Nat.le_of_ble_eq_true rfl) w9_193 d9_moves_157 ?_
                refine r_iconst C (pc := 160) (v := 2) d9_moves_160 (by decide) ?_
                refine r_iadd C (pc := 161) d9_moves_161 ?_
                refine p9_at C (pc := 162) (Nat.le_of_ble_eq_true rfl) w9_193 d9_moves_162 ?_
                refine r_S (fun S5 eS5 => ?_)
                have hw := hw S5 eS5
                refine r_goto C (pc := 165) (tgt := 223) d9_moves_165 (by decide) ?_
                exact r_vret C (pc := 223) hr d9_moves_223 hw
              · have hw := hw.2 c9
                refine r_aload_n C (pc := 147) 0 rfl d9_moves_147 ?_
                refine r_iload_n C (pc := 148) 3 rfl d9_moves_148 ?_
                refine r_callVv C (pc := 149) (fun sz => ct9_jump l D ca ρ sz C.2.2.2.2.2.2.1 hw) mf9_jump w9_270 rfl (Nat.le_of_ble_eq_true rfl) rfl rfl rfl rfl ⟨Nat.le_of_ble_eq_true rfl, Nat.le_of_ble_eq_true rfl⟩ rfl rfl (Nat.le_of_ble_eq_true rfl) ⟨Nat.zero_le _, Nat.zero_le _⟩ d9_moves_149 (fun S6 hw => ?_)
                refine r_goto C (pc := 152) (tgt := 223) d9_moves_152 (by decide) ?_
                exact r_vret C (pc := 223) hr d9_moves_223 hw
          · have hw := hw.2 c5
            refine r_aload_n C (pc := 127) 0 rfl d9_moves_127 ?_
            refine r_callVv C (pc := 128) (fun sz => ct9_leave l D ca ρ sz C.2.2.2.2.2.2.1 hw) mf9_leave w9_219 rfl (Nat.le_of_ble_eq_true rfl) rfl rfl rfl rfl ⟨Nat.le_of_ble_eq_true rfl, Nat.le_of_ble_eq_true rfl⟩ rfl rfl (Nat.le_of_ble_eq_true rfl) ⟨Nat.zero_le _, Nat.zero_le _⟩ d9_moves_128 (fun S7 hw => ?_)
            refine r_goto C (pc := 131) (tgt := 223) d9_moves_131 (by decide) ?_
            exact r_vret C (pc := 223) hr d9_moves_223 hw
        · have hw := hw.2 c4
          refine r_aload_n C (pc := 113) 0 rfl d9_moves_113 ?_
          refine r_iload_n C (pc := 114) 3 rfl d9_moves_114 ?_
          refine r_callVv C (pc := 115) (fun sz => ct9_jump l D ca ρ sz C.2.2.2.2.2.2.1 hw) mf9_jump w9_270 rfl (Nat.le_of_ble_eq_true rfl) rfl rfl rfl rfl ⟨Nat.le_of_ble_eq_true rfl, Nat.le_of_ble_eq_true rfl⟩ rfl rfl (Nat.le_of_ble_eq_true rfl) ⟨Nat.zero_le _, Nat.zero_le _⟩ d9_moves_115 (fun S8 hw => ?_)
          refine r_goto C (pc := 118) (tgt := 223) d9_moves_118 (by decide) ?_
          exact r_vret C (pc := 223) hr d9_moves_223 hw
      · have hw := hw.2 c3
        refine r_aload_n C (pc := 97) 0 rfl d9_moves_97 ?_
        refine r_iload_n C (pc := 98) 1 rfl d9_moves_98 ?_
        refine r_iload_n C (pc := 99) 2 rfl d9_moves_99 ?_
        refine r_iload_n C (pc := 100) 3 rfl d9_moves_100 ?_
        refine r_callVv C (pc := 101) (fun sz => ct9_block l D ca ρ sz C.2.2.2.2.2.2.1 hw) mf9_block w9_267 rfl (Nat.le_of_ble_eq_true rfl) rfl rfl rfl rfl ⟨Nat.le_of_ble_eq_true rfl, Nat.le_of_ble_eq_true rfl⟩ rfl rfl (Nat.le_of_ble_eq_true rfl) ⟨Nat.zero_le _, Nat.zero_le _⟩ d9_moves_101 (fun S9 hw => ?_)
        refine r_goto C (pc := 104) (tgt := 223) d9_moves_104 (by decide) ?_
        exact r_vret C (pc := 223) hr d9_moves_223 hw
    · have hw := hw.2 c2
      refine r_aload_n C (pc := 61) 0 rfl d9_moves_61 ?_
      refine r_dup C (pc := 62) rfl d9_moves_62 ?_
      refine g9_frames C (pc := 63) (Nat.le_of_ble_eq_true rfl) w9_128 d9_moves_63 ?_
      refine r_iconst C (pc := 66) (v := 1) d9_moves_66 (by decide) ?_
      refine r_isub C (pc := 67) d9_moves_67 ?_
      refine p9_frames C (pc := 68) (Nat.le_of_ble_eq_true rfl) w9_128 d9_moves_68 ?_
      refine r_S (fun S10 eS10 => ?_)
      have hw := hw S10 eS10
      refine r_aload_n C (pc := 71) 0 rfl d9_moves_71 ?_
      refine r_aload_n C (pc := 72) 0 rfl d9_moves_72 ?_
      refine r_iload_n C (pc := 73) 1 rfl d9_moves_73 ?_
      refine r_aload_n C (pc := 74) 0 rfl d9_moves_74 ?_
      refine g9_at C (pc := 75) (Nat.le_of_ble_eq_true rfl) w9_193 d9_moves_75 ?_
      refine r_iconst C (pc := 78) (v := 1) d9_moves_78 (by decide) ?_
      refine r_iadd C (pc := 79) d9_moves_79 ?_
      refine r_iconst C (pc := 80) (v := 0) d9_moves_80 (by decide) ?_
      refine r_callVi C (pc := 81) (fun sz => ct9_seek l D ca ρ sz C.2.2.2.2.2.2.1 hw) mf9_seek w9_222 rfl (Nat.le_of_ble_eq_true rfl) rfl rfl rfl rfl ⟨Nat.le_of_ble_eq_true rfl, Nat.le_of_ble_eq_true rfl⟩ rfl rfl (Nat.le_of_ble_eq_true rfl) ⟨Nat.zero_le _, Nat.zero_le _⟩ d9_moves_81 (fun r4 S11 hw => ?_)
      refine r_iconst C (pc := 84) (v := 1) d9_moves_84 (by decide) ?_
      refine r_iadd C (pc := 85) d9_moves_85 ?_
      refine p9_at C (pc := 86) (Nat.le_of_ble_eq_true rfl) w9_193 d9_moves_86 ?_
      refine r_S (fun S12 eS12 => ?_)
      have hw := hw S12 eS12
      refine r_goto C (pc := 89) (tgt := 223) d9_moves_89 (by decide) ?_
      exact r_vret C (pc := 223) hr d9_moves_223 hw
  · have hw := hw.2 c1
    refine r_aload_n C (pc := 6) 0 rfl d9_moves_6 ?_
    refine g9_frames C (pc := 7) (Nat.le_of_ble_eq_true rfl) w9_128 d9_moves_7 ?_
    refine r_iconst C (pc := 10) (v := 1) d9_moves_10 (by decide) ?_
    refine r_isub C (pc := 11) d9_moves_11 ?_
    refine r_aload_n C (pc := 12) 0 rfl d9_moves_12 ?_
    refine g9_callFrames C (pc := 13) (Nat.le_of_ble_eq_true rfl) w9_82 d9_moves_13 ?_
    refine r_aload_n C (pc := 16) 0 rfl d9_moves_16 ?_
    refine g9_calls C (pc := 17) (Nat.le_of_ble_eq_true rfl) w9_190 d9_moves_17 ?_
    refine r_iconst C (pc := 20) (v := 1) d9_moves_20 (by decide) ?_
    refine r_isub C (pc := 21) d9_moves_21 ?_
    have hi10 := hw.1
    have hw := hw.2
    refine ld1929 C (pc := 22) (Nat.le_of_ble_eq_true rfl) hi10 d9_moves_22 ?_
    refine r_icmp_ne C (pc := 23) (tgt := 33) d9_moves_23 (by decide) (fun c11 => ?_) (fun c11 => ?_)
    · have hw := hw.1 c11
      refine r_aload_n C (pc := 33) 0 rfl d9_moves_33 ?_
      refine r_dup C (pc := 34) rfl d9_moves_34 ?_
      refine g9_frames C (pc := 35) (Nat.le_of_ble_eq_true rfl) w9_128 d9_moves_35 ?_
      refine r_iconst C (pc := 38) (v := 1) d9_moves_38 (by decide) ?_
      refine r_isub C (pc := 39) d9_moves_39 ?_
      refine p9_frames C (pc := 40) (Nat.le_of_ble_eq_true rfl) w9_128 d9_moves_40 ?_
      refine r_S (fun S13 eS13 => ?_)
      have hw := hw S13 eS13
      refine r_aload_n C (pc := 43) 0 rfl d9_moves_43 ?_
      refine r_dup C (pc := 44) rfl d9_moves_44 ?_
      refine g9_at C (pc := 45) (Nat.le_of_ble_eq_true rfl) w9_193 d9_moves_45 ?_
      refine r_iconst C (pc := 48) (v := 1) d9_moves_48 (by decide) ?_
      refine r_iadd C (pc := 49) d9_moves_49 ?_
      refine p9_at C (pc := 50) (Nat.le_of_ble_eq_true rfl) w9_193 d9_moves_50 ?_
      refine r_S (fun S14 eS14 => ?_)
      have hw := hw S14 eS14
      refine r_goto C (pc := 53) (tgt := 223) d9_moves_53 (by decide) ?_
      exact r_vret C (pc := 223) hr d9_moves_223 hw
    · have hw := hw.2 c11
      refine r_aload_n C (pc := 26) 0 rfl d9_moves_26 ?_
      refine r_callVv C (pc := 27) (fun sz => ct9_leave l D ca ρ sz C.2.2.2.2.2.2.1 hw) mf9_leave w9_219 rfl (Nat.le_of_ble_eq_true rfl) rfl rfl rfl rfl ⟨Nat.le_of_ble_eq_true rfl, Nat.le_of_ble_eq_true rfl⟩ rfl rfl (Nat.le_of_ble_eq_true rfl) ⟨Nat.zero_le _, Nat.zero_le _⟩ d9_moves_27 (fun S15 hw => ?_)
      refine r_goto C (pc := 30) (tgt := 223) d9_moves_30 (by decide) ?_
      exact r_vret C (pc := 223) hr d9_moves_223 hw
set_option maxRecDepth 20000 in
theorem nd9_step_166 {p : Program} {l : Launch} {e : Env} {s : State} {m : MethodId} {args : Array Value} {below : List Frame} {meth : Method} {c : Code} {D : va_G} {ca : Nat → ClassId} {ρ : Nat → Nat → Nat}  {Q : St → Prop} {x2 : Int32} {x3 : Int32} {x4 : Int32} {S : St} (C : Cx false p l s m meth c R9 b9_step 5 D ca ρ) (hr : meth.sig.returnType = none)   (hw : wp9_step_166  Q x2 x3 x4 S) : wm false p l e { frames := 5, cells := 0, slots := 0, locals := 123 } s m args below meth c D ca ρ 5 0 0 (qv false below args s D ca ρ 0 0 Q) 166 [(0, .ref (ρ 9 0)), (2, .int x2), (3, .int x3), (4, .int x4)] [] S := by
  unfold wp9_step_166 at hw
  refine r_iload_n C (pc := 166) 1 rfl d9_step_166 ?_
  refine r_bipush C (pc := 167) (v := 19) d9_step_167 (by decide) ?_
  refine r_icmp_le C (pc := 169) (tgt := 178) d9_step_169 (by decide) (fun c1 => ?_) (fun c1 => ?_)
  · have hw := hw.1 c1
    refine r_aload_n C (pc := 178) 0 rfl d9_step_178 ?_
    refine r_iload C (pc := 179) 3 rfl d9_step_179 ?_
    refine p9_at C (pc := 181) (Nat.le_of_ble_eq_true rfl) w9_193 d9_step_181 ?_
    refine r_S (fun S1 eS1 => ?_)
    have hw := hw S1 eS1
    exact r_vret C (pc := 184) hr d9_step_184 hw
  · have hw := hw.2 c1
    refine r_aload_n C (pc := 172) 0 rfl d9_step_172 ?_
    refine r_iload_n C (pc := 173) 1 rfl d9_step_173 ?_
    refine r_iload_n C (pc := 174) 2 rfl d9_step_174 ?_
    refine r_callVv C (pc := 175) (fun sz => ct9_plain l D ca ρ sz C.2.2.2.2.2.2.1 hw) mf9_plain w9_285 rfl (Nat.le_of_ble_eq_true rfl) rfl rfl rfl rfl ⟨Nat.le_of_ble_eq_true rfl, Nat.le_of_ble_eq_true rfl⟩ rfl rfl (Nat.le_of_ble_eq_true rfl) ⟨Nat.zero_le _, Nat.zero_le _⟩ d9_step_175 (fun S2 hw => ?_)
    refine r_aload_n C (pc := 178) 0 rfl d9_step_178 ?_
    refine r_iload C (pc := 179) 3 rfl d9_step_179 ?_
    refine p9_at C (pc := 181) (Nat.le_of_ble_eq_true rfl) w9_193 d9_step_181 ?_
    refine r_S (fun S3 eS3 => ?_)
    have hw := hw S3 eS3
    exact r_vret C (pc := 184) hr d9_step_184 hw
set_option maxRecDepth 20000 in
theorem nd9_step_101 {p : Program} {l : Launch} {e : Env} {s : State} {m : MethodId} {args : Array Value} {below : List Frame} {meth : Method} {c : Code} {D : va_G} {ca : Nat → ClassId} {ρ : Nat → Nat → Nat}  {Q : St → Prop} {x2 : Int32} {x3 : Int32} {x4 : Int32} {S : St} (C : Cx false p l s m meth c R9 b9_step 5 D ca ρ) (hr : meth.sig.returnType = none)   (hw : wp9_step_101  Q x2 x3 x4 S) : wm false p l e { frames := 5, cells := 0, slots := 0, locals := 123 } s m args below meth c D ca ρ 5 0 0 (qv false below args s D ca ρ 0 0 Q) 101 [(0, .ref (ρ 9 0)), (2, .int x2), (3, .int x3), (4, .int x4)] [] S := by
  unfold wp9_step_101 at hw
  refine r_iload_n C (pc := 101) 1 rfl d9_step_101 ?_
  refine r_if_ne C (pc := 102) (tgt := 113) d9_step_102 (by decide) (fun c1 => ?_) (fun c1 => ?_)
  · have hw := hw.1 c1
    refine r_iload_n C (pc := 113) 1 rfl d9_step_113 ?_
    refine r_bipush C (pc := 114) (v := 13) d9_step_114 (by decide) ?_
    refine r_icmp_ne C (pc := 116) (tgt := 132) d9_step_116 (by decide) (fun c2 => ?_) (fun c2 => ?_)
    · have hw := hw.1 c2
      refine r_iload_n C (pc := 132) 1 rfl d9_step_132 ?_
      refine r_bipush C (pc := 133) (v := 14) d9_step_133 (by decide) ?_
      refine r_icmp_ne C (pc := 135) (tgt := 145) d9_step_135 (by decide) (fun c3 => ?_) (fun c3 => ?_)
      · have hw := hw.1 c3
        refine r_iload_n C (pc := 145) 1 rfl d9_step_145 ?_
        refine r_bipush C (pc := 146) (v := 15) d9_step_146 (by decide) ?_
        refine r_icmp_lt C (pc := 148) (tgt := 166) d9_step_148 (by decide) (fun c4 => ?_) (fun c4 => ?_)
        · have hw := hw.1 c4
          refine r_sub (ls' := [(0, .ref (ρ 9 0)), (2, .int x2), (3, .int x3), (4, .int x4)]) [0, 1, 2, 3] rfl ?_
          exact nd9_step_166 C hr hw
        · have hw := hw.2 c4
          refine r_iload_n C (pc := 151) 1 rfl d9_step_151 ?_
          refine r_bipush C (pc := 152) (v := 19) d9_step_152 (by decide) ?_
          refine r_icmp_gt C (pc := 154) (tgt := 166) d9_step_154 (by decide) (fun c5 => ?_) (fun c5 => ?_)
          · have hw := hw.1 c5
            refine r_sub (ls' := [(0, .ref (ρ 9 0)), (2, .int x2), (3, .int x3), (4, .int x4)]) [0, 1, 2, 3] rfl ?_
            exact nd9_step_166 C hr hw
          · have hw := hw.2 c5
            refine r_aload_n C (pc := 157) 0 rfl d9_step_157 ?_
            refine r_iload_n C (pc := 158) 1 rfl d9_step_158 ?_
            refine r_iload_n C (pc := 159) 2 rfl d9_step_159 ?_
            refine r_callVv C (pc := 160) (fun sz => ct9_variable l D ca ρ sz C.2.2.2.2.2.2.1 hw) mf9_variable w9_282 rfl (Nat.le_of_ble_eq_true rfl) rfl rfl rfl rfl ⟨Nat.le_of_ble_eq_true rfl, Nat.le_of_ble_eq_true rfl⟩ rfl rfl (Nat.le_of_ble_eq_true rfl) ⟨Nat.zero_le _, Nat.zero_le _⟩ d9_step_160 (fun S1 hw => ?_)
            refine r_goto C (pc := 163) (tgt := 178) d9_step_163 (by decide) ?_
            refine r_aload_n C (pc := 178) 0 rfl d9_step_178 ?_
            refine r_iload C (pc := 179) 3 rfl d9_step_179 ?_
            refine p9_at C (pc := 181) (Nat.le_of_ble_eq_true rfl) w9_193 d9_step_181 ?_
            refine r_S (fun S2 eS2 => ?_)
            have hw := hw S2 eS2
            exact r_vret C (pc := 184) hr d9_step_184 hw
      · have hw := hw.2 c3
        refine r_aload_n C (pc := 138) 0 rfl d9_step_138 ?_
        refine r_callVv C (pc := 139) (fun sz => ct9_select l D ca ρ sz C.2.2.2.2.2.2.1 hw) mf9_select w9_279 rfl (Nat.le_of_ble_eq_true rfl) rfl rfl rfl rfl ⟨Nat.le_of_ble_eq_true rfl, Nat.le_of_ble_eq_true rfl⟩ rfl rfl (Nat.le_of_ble_eq_true rfl) ⟨Nat.zero_le _, Nat.zero_le _⟩ d9_step_139 (fun S3 hw => ?_)
        refine r_goto C (pc := 142) (tgt := 178) d9_step_142 (by decide) ?_
        refine r_aload_n C (pc := 178) 0 rfl d9_step_178 ?_
        refine r_iload C (pc := 179) 3 rfl d9_step_179 ?_
        refine p9_at C (pc := 181) (Nat.le_of_ble_eq_true rfl) w9_193 d9_step_181 ?_
        refine r_S (fun S4 eS4 => ?_)
        have hw := hw S4 eS4
        exact r_vret C (pc := 184) hr d9_step_184 hw
    · have hw := hw.2 c2
      refine r_aload_n C (pc := 119) 0 rfl d9_step_119 ?_
      refine r_dup C (pc := 120) rfl d9_step_120 ?_
      refine g9_height C (pc := 121) (Nat.le_of_ble_eq_true rfl) w9_122 d9_step_121 ?_
      refine r_iconst C (pc := 124) (v := 1) d9_step_124 (by decide) ?_
      refine r_isub C (pc := 125) d9_step_125 ?_
      refine p9_height C (pc := 126) (Nat.le_of_ble_eq_true rfl) w9_122 d9_step_126 ?_
      refine r_S (fun S5 eS5 => ?_)
      have hw := hw S5 eS5
      refine r_goto C (pc := 129) (tgt := 178) d9_step_129 (by decide) ?_
      refine r_aload_n C (pc := 178) 0 rfl d9_step_178 ?_
      refine r_iload C (pc := 179) 3 rfl d9_step_179 ?_
      refine p9_at C (pc := 181) (Nat.le_of_ble_eq_true rfl) w9_193 d9_step_181 ?_
      refine r_S (fun S6 eS6 => ?_)
      have hw := hw S6 eS6
      exact r_vret C (pc := 184) hr d9_step_184 hw
  · have hw := hw.2 c1
    refine r_aload_n C (pc := 105) 0 rfl d9_step_105 ?_
    refine r_iconst C (pc := 106) (v := 1) d9_step_106 (by decide) ?_
    refine p9_trap C (pc := 107) (Nat.le_of_ble_eq_true rfl) w9_233 d9_step_107 ?_
    refine r_S (fun S7 eS7 => ?_)
    have hw := hw S7 eS7
    refine r_goto C (pc := 110) (tgt := 178) d9_step_110 (by decide) ?_
    refine r_aload_n C (pc := 178) 0 rfl d9_step_178 ?_
    refine r_iload C (pc := 179) 3 rfl d9_step_179 ?_
    refine p9_at C (pc := 181) (Nat.le_of_ble_eq_true rfl) w9_193 d9_step_181 ?_
    refine r_S (fun S8 eS8 => ?_)
    have hw := hw S8 eS8
    exact r_vret C (pc := 184) hr d9_step_184 hw
set_option maxRecDepth 20000 in
theorem nd9_step_48 {p : Program} {l : Launch} {e : Env} {s : State} {m : MethodId} {args : Array Value} {below : List Frame} {meth : Method} {c : Code} {D : va_G} {ca : Nat → ClassId} {ρ : Nat → Nat → Nat}  {Q : St → Prop} {x1 : Int32} {x2 : Int32} {s0 : Int32} {S : St} (C : Cx false p l s m meth c R9 b9_step 5 D ca ρ) (hr : meth.sig.returnType = none)   (hw : wp9_step_48  Q x1 x2 s0 S) : wm false p l e { frames := 5, cells := 0, slots := 0, locals := 123 } s m args below meth c D ca ρ 5 0 0 (qv false below args s D ca ρ 0 0 Q) 48 [(0, .ref (ρ 9 0)), (1, .int x1), (2, .int x2)] [.int s0] S := by
  unfold wp9_step_48 at hw
  refine r_istore_n C (pc := 48) (ls' := [(3, .int s0), (0, .ref (ρ 9 0)), (1, .int x1), (2, .int x2)]) (Nat.le_of_ble_eq_true rfl) rfl d9_step_48 ?_
  refine r_aload_n C (pc := 49) 1 rfl d9_step_49 ?_
  refine g9_at C (pc := 50) (Nat.le_of_ble_eq_true rfl) w9_193 d9_step_50 ?_
  refine r_iconst C (pc := 53) (v := 1) d9_step_53 (by decide) ?_
  refine r_iadd C (pc := 54) d9_step_54 ?_
  refine r_aload_n C (pc := 55) 1 rfl d9_step_55 ?_
  refine r_iload_n C (pc := 56) 2 rfl d9_step_56 ?_
  refine r_aload_n C (pc := 57) 1 rfl d9_step_57 ?_
  refine g9_at C (pc := 58) (Nat.le_of_ble_eq_true rfl) w9_193 d9_step_58 ?_
  refine r_callVi C (pc := 61) (fun sz => ct9_behind l D ca ρ sz C.2.2.2.2.2.2.1 hw) mf9_behind w9_119 rfl (Nat.le_of_ble_eq_true rfl) rfl rfl rfl rfl ⟨Nat.le_of_ble_eq_true rfl, Nat.le_of_ble_eq_true rfl⟩ rfl rfl (Nat.le_of_ble_eq_true rfl) ⟨Nat.zero_le _, Nat.zero_le _⟩ d9_step_61 (fun r1 S1 hw => ?_)
  refine r_iadd C (pc := 64) d9_step_64 ?_
  refine r_topi (fun x4_1 ex4_1 => ?_)
  have hw := hw x4_1 ex4_1
  refine r_istore C (pc := 65) (ls' := [(4, .int x4_1), (3, .int s0), (0, .ref (ρ 9 0)), (1, .int x1), (2, .int x2)]) (Nat.le_of_ble_eq_true rfl) rfl d9_step_65 ?_
  refine r_aload_n C (pc := 67) 2 rfl d9_step_67 ?_
  refine r_iconst C (pc := 68) (v := 0) d9_step_68 (by decide) ?_
  refine p9_trap C (pc := 69) (Nat.le_of_ble_eq_true rfl) w9_233 d9_step_69 ?_
  refine r_S (fun S2 eS2 => ?_)
  have hw := hw S2 eS2
  refine r_aload_n C (pc := 72) 2 rfl d9_step_72 ?_
  refine r_dup C (pc := 73) rfl d9_step_73 ?_
  refine g9_steps C (pc := 74) (Nat.le_of_ble_eq_true rfl) w9_196 d9_step_74 ?_
  refine r_iconst C (pc := 77) (v := 1) d9_step_77 (by decide) ?_
  refine r_iadd C (pc := 78) d9_step_78 ?_
  refine p9_steps C (pc := 79) (Nat.le_of_ble_eq_true rfl) w9_196 d9_step_79 ?_
  refine r_S (fun S3 eS3 => ?_)
  have hw := hw S3 eS3
  refine r_iload_n C (pc := 82) 4 rfl d9_step_82 ?_
  refine r_iconst C (pc := 83) (v := 2) d9_step_83 (by decide) ?_
  refine r_icmp_lt C (pc := 84) (tgt := 101) d9_step_84 (by decide) (fun c1 => ?_) (fun c1 => ?_)
  · have hw := hw.1 c1
    refine r_sub (ls' := [(0, .ref (ρ 9 0)), (2, .int x2), (3, .int s0), (4, .int x4_1)]) [2, 4, 1, 0] rfl ?_
    exact nd9_step_101 C hr hw
  · have hw := hw.2 c1
    refine r_iload_n C (pc := 87) 4 rfl d9_step_87 ?_
    refine r_bipush C (pc := 88) (v := 12) d9_step_88 (by decide) ?_
    refine r_icmp_gt C (pc := 90) (tgt := 101) d9_step_90 (by decide) (fun c2 => ?_) (fun c2 => ?_)
    · have hw := hw.1 c2
      refine r_sub (ls' := [(0, .ref (ρ 9 0)), (2, .int x2), (3, .int s0), (4, .int x4_1)]) [2, 4, 1, 0] rfl ?_
      exact nd9_step_101 C hr hw
    · have hw := hw.2 c2
      refine r_aload_n C (pc := 93) 2 rfl d9_step_93 ?_
      refine r_iload_n C (pc := 94) 3 rfl d9_step_94 ?_
      refine r_iload_n C (pc := 95) 4 rfl d9_step_95 ?_
      refine r_iload_n C (pc := 96) 1 rfl d9_step_96 ?_
      refine r_callVv C (pc := 97) (fun sz => ct9_moves l D ca ρ sz C.2.2.2.2.2.2.1 hw) mf9_moves w9_276 rfl (Nat.le_of_ble_eq_true rfl) rfl rfl rfl rfl ⟨Nat.le_of_ble_eq_true rfl, Nat.le_of_ble_eq_true rfl⟩ rfl rfl (Nat.le_of_ble_eq_true rfl) ⟨Nat.zero_le _, Nat.zero_le _⟩ d9_step_97 (fun S4 hw => ?_)
      exact r_vret C (pc := 100) hr d9_step_100 hw
set_option maxRecDepth 20000 in
theorem ct9_step (l : Launch) (D : va_G) (ca : Nat → ClassId) (ρ : Nat → Nat → Nat) (sz : Nat) {S : St}  {Q : St → Prop} (hAp : Ap false ρ)  (hw : wp9_step S Q) : Met l y9_step [Cond.code y9_step b9_step 5 none] { frames := 5, cells := 0, slots := 0, locals := 123 } (va_Pc [.ref (ρ 9 0)] (PreU false D ca ρ sz S)) (va_Qv Q (PostU false D ca ρ) (Ar false ρ sz)) 0 0 (Ar false ρ sz) := by
  refine met_of_wm (own := R9) (ls0 := [(0, .ref (ρ 9 0))]) rfl rfl hAp (Nat.le_of_ble_eq_true rfl) rfl fun p e s m args below meth c C hr hz => ?_
  subst hz
  unfold wp9_step at hw
  refine r_aload_n C (pc := 0) 0 rfl d9_step_0 ?_
  refine g9_callFunction C (pc := 1) (Nat.le_of_ble_eq_true rfl) w9_76 d9_step_1 ?_
  refine r_aload_n C (pc := 4) 0 rfl d9_step_4 ?_
  refine g9_calls C (pc := 5) (Nat.le_of_ble_eq_true rfl) w9_190 d9_step_5 ?_
  refine r_iconst C (pc := 8) (v := 1) d9_step_8 (by decide) ?_
  refine r_isub C (pc := 9) d9_step_9 ?_
  have hi1 := hw.1
  have hw := hw.2
  refine ld1927 C (pc := 10) (Nat.le_of_ble_eq_true rfl) hi1 d9_step_10 ?_
  refine r_topi (fun x1_1 ex1_1 => ?_)
  have hw := hw x1_1 ex1_1
  refine r_istore_n C (pc := 11) (ls' := [(1, .int x1_1), (0, .ref (ρ 9 0))]) (Nat.le_of_ble_eq_true rfl) rfl d9_step_11 ?_
  refine r_aload_n C (pc := 12) 1 rfl d9_step_12 ?_
  refine r_iload_n C (pc := 13) 0 rfl d9_step_13 ?_
  refine r_aload_n C (pc := 14) 1 rfl d9_step_14 ?_
  refine g9_at C (pc := 15) (Nat.le_of_ble_eq_true rfl) w9_193 d9_step_15 ?_
  refine r_callVi C (pc := 18) (fun sz => ct9_byteAt l D ca ρ sz C.2.2.2.2.2.2.1 hw) mf9_byteAt w9_115 rfl (Nat.le_of_ble_eq_true rfl) rfl rfl rfl rfl ⟨Nat.le_of_ble_eq_true rfl, Nat.le_of_ble_eq_true rfl⟩ rfl rfl (Nat.le_of_ble_eq_true rfl) ⟨Nat.zero_le _, Nat.zero_le _⟩ d9_step_18 (fun r1 S1 hw => ?_)
  refine r_istore_n C (pc := 21) (ls' := [(2, .int r1), (1, .int x1_1), (0, .ref (ρ 9 0))]) (Nat.le_of_ble_eq_true rfl) rfl d9_step_21 ?_
  refine r_aload_n C (pc := 22) 2 rfl d9_step_22 ?_
  refine g9_at C (pc := 23) (Nat.le_of_ble_eq_true rfl) w9_193 d9_step_23 ?_
  refine r_iconst C (pc := 26) (v := 1) d9_step_26 (by decide) ?_
  refine r_iadd C (pc := 27) d9_step_27 ?_
  refine r_bipush C (pc := 28) (v := 60) d9_step_28 (by decide) ?_
  refine r_icmp_ge C (pc := 30) (tgt := 47) d9_step_30 (by decide) (fun c2 => ?_) (fun c2 => ?_)
  · have hw := hw.1 c2
    refine r_iconst C (pc := 47) (v := 0) d9_step_47 (by decide) ?_
    refine r_sub (ls' := [(0, .ref (ρ 9 0)), (1, .int x1_1), (2, .int r1)]) [2, 1, 0] rfl ?_
    exact nd9_step_48 C hr hw
  · have hw := hw.2 c2
    refine r_aload_n C (pc := 33) 2 rfl d9_step_33 ?_
    refine r_iload_n C (pc := 34) 1 rfl d9_step_34 ?_
    refine r_aload_n C (pc := 35) 2 rfl d9_step_35 ?_
    refine g9_at C (pc := 36) (Nat.le_of_ble_eq_true rfl) w9_193 d9_step_36 ?_
    refine r_iconst C (pc := 39) (v := 1) d9_step_39 (by decide) ?_
    refine r_iadd C (pc := 40) d9_step_40 ?_
    refine r_callVi C (pc := 41) (fun sz => ct9_byteAt l D ca ρ sz C.2.2.2.2.2.2.1 hw) mf9_byteAt w9_115 rfl (Nat.le_of_ble_eq_true rfl) rfl rfl rfl rfl ⟨Nat.le_of_ble_eq_true rfl, Nat.le_of_ble_eq_true rfl⟩ rfl rfl (Nat.le_of_ble_eq_true rfl) ⟨Nat.zero_le _, Nat.zero_le _⟩ d9_step_41 (fun r2 S2 hw => ?_)
    refine r_goto C (pc := 44) (tgt := 48) d9_step_44 (by decide) ?_
    refine r_sub (ls' := [(0, .ref (ρ 9 0)), (1, .int x1_1), (2, .int r1)]) [2, 1, 0] rfl ?_
    exact nd9_step_48 C hr hw
set_option maxRecDepth 20000 in
theorem nd9_run_42 {p : Program} {l : Launch} {e : Env} {s : State} {m : MethodId} {args : Array Value} {below : List Frame} {meth : Method} {c : Code} {D : va_G} {ca : Nat → ClassId} {ρ : Nat → Nat → Nat} {x1 : Int32} {Q : Int32 → St → Prop} (C : Cx false p l s m meth c R9 b9_run 3 D ca ρ) (hr : meth.sig.returnType = (some .int))  : ∀ (n : Nat) (x2 : Int32) (S : St) , wp9_run_42 x1 Q n x2 S → wm false p l e { frames := 6, cells := 0, slots := 0, locals := 147 } s m args below meth c D ca ρ 3 0 0 (qi false below args s D ca ρ 0 0 Q) 42 [(0, .ref (ρ 9 0)), (1, .int x1), (2, .int x2)] [] S := by
  intro n
  induction n with
  | zero => intro x2 S  hw; exact hw.elim
  | succ n ih =>
    intro x2 S  hw
    unfold wp9_run_42 at hw
    refine r_iload_n C (pc := 42) 2 rfl d9_run_42 ?_
    refine r_iload_n C (pc := 43) 1 rfl d9_run_43 ?_
    refine r_icmp_ge C (pc := 44) (tgt := 107) d9_run_44 (by decide) (fun c1 => ?_) (fun c1 => ?_)
    · have hw := hw.1 c1
      refine r_iload_n C (pc := 107) 2 rfl d9_run_107 ?_
      exact r_iret C (pc := 108) hr d9_run_108 hw
    · have hw := hw.2 c1
      refine r_aload_n C (pc := 47) 0 rfl d9_run_47 ?_
      refine g9_status C (pc := 48) (Nat.le_of_ble_eq_true rfl) w9_104 d9_run_48 ?_
      refine r_iconst C (pc := 51) (v := 1) d9_run_51 (by decide) ?_
      refine r_icmp_ne C (pc := 52) (tgt := 107) d9_run_52 (by decide) (fun c2 => ?_) (fun c2 => ?_)
      · have hw := hw.1 c2
        refine r_iload_n C (pc := 107) 2 rfl d9_run_107 ?_
        exact r_iret C (pc := 108) hr d9_run_108 hw
      · have hw := hw.2 c2
        refine r_aload_n C (pc := 55) 0 rfl d9_run_55 ?_
        refine r_callVv C (pc := 56) (fun sz => ct9_step l D ca ρ sz C.2.2.2.2.2.2.1 hw) mf9_step w9_288 rfl (Nat.le_of_ble_eq_true rfl) rfl rfl rfl rfl ⟨Nat.le_of_ble_eq_true rfl, Nat.le_of_ble_eq_true rfl⟩ rfl rfl (Nat.le_of_ble_eq_true rfl) ⟨Nat.zero_le _, Nat.zero_le _⟩ d9_run_56 (fun S1 hw => ?_)
        obtain ⟨x2_1, ex2_1⟩ : ∃ y : Int32, y = x2 + 1 := ⟨_, rfl⟩
        have hw := hw x2_1 ex2_1
        refine r_iinc C (pc := 59) (v := x2_1) (ls' := [(2, .int x2_1), (0, .ref (ρ 9 0)), (1, .int x1)]) 2 rfl (by rw [ex2_1]; rfl) (Nat.le_of_ble_eq_true rfl) rfl d9_run_59 ?_
        refine r_aload_n C (pc := 62) 1 rfl d9_run_62 ?_
        refine g9_trap C (pc := 63) (Nat.le_of_ble_eq_true rfl) w9_233 d9_run_63 ?_
        refine r_if_le C (pc := 66) (tgt := 42) d9_run_66 (by decide) (fun c3 => ?_) (fun c3 => ?_)
        · have hw := hw.1 c3
          refine r_sub (ls' := [(0, .ref (ρ 9 0)), (1, .int x1), (2, .int x2_1)]) [1, 2, 0] rfl ?_
          exact ih _ _ hw
        · have hw := hw.2 c3
          refine r_aload_n C (pc := 69) 1 rfl d9_run_69 ?_
          refine r_iconst C (pc := 70) (v := 3) d9_run_70 (by decide) ?_
          refine p9_status C (pc := 71) (Nat.le_of_ble_eq_true rfl) w9_104 d9_run_71 ?_
          refine r_S (fun S2 eS2 => ?_)
          have hw := hw S2 eS2
          refine r_aload_n C (pc := 74) 1 rfl d9_run_74 ?_
          refine r_aload_n C (pc := 75) 1 rfl d9_run_75 ?_
          refine g9_trap C (pc := 76) (Nat.le_of_ble_eq_true rfl) w9_233 d9_run_76 ?_
          refine p9_latestTrap C (pc := 79) (Nat.le_of_ble_eq_true rfl) w9_291 d9_run_79 ?_
          refine r_S (fun S3 eS3 => ?_)
          have hw := hw S3 eS3
          refine r_aload_n C (pc := 82) 1 rfl d9_run_82 ?_
          refine r_aload_n C (pc := 83) 1 rfl d9_run_83 ?_
          refine g9_trap C (pc := 84) (Nat.le_of_ble_eq_true rfl) w9_233 d9_run_84 ?_
          refine r_iconst C (pc := 87) (v := 1) d9_run_87 (by decide) ?_
          refine r_icmp_ne C (pc := 88) (tgt := 96) d9_run_88 (by decide) (fun c4 => ?_) (fun c4 => ?_)
          · have hw := hw.1 c4
            refine r_aload_n C (pc := 96) 1 rfl d9_run_96 ?_
            refine g9_trap C (pc := 97) (Nat.le_of_ble_eq_true rfl) w9_233 d9_run_97 ?_
            refine r_iconst C (pc := 100) (v := 1) d9_run_100 (by decide) ?_
            refine r_iadd C (pc := 101) d9_run_101 ?_
            refine p9_code C (pc := 102) (Nat.le_of_ble_eq_true rfl) w9_88 d9_run_102 ?_
            refine r_S (fun S4 eS4 => ?_)
            have hw := hw S4 eS4
            refine r_iconst C (pc := 105) (v := 0) d9_run_105 (by decide) ?_
            exact r_iret C (pc := 106) hr d9_run_106 hw
          · have hw := hw.2 c4
            refine r_bipush C (pc := 91) (v := 7) d9_run_91 (by decide) ?_
            refine r_goto C (pc := 93) (tgt := 102) d9_run_93 (by decide) ?_
            refine p9_code C (pc := 102) (Nat.le_of_ble_eq_true rfl) w9_88 d9_run_102 ?_
            refine r_S (fun S5 eS5 => ?_)
            have hw := hw S5 eS5
            refine r_iconst C (pc := 105) (v := 0) d9_run_105 (by decide) ?_
            exact r_iret C (pc := 106) hr d9_run_106 hw
set_option maxRecDepth 20000 in
theorem nd9_run_31 {p : Program} {l : Launch} {e : Env} {s : State} {m : MethodId} {args : Array Value} {below : List Frame} {meth : Method} {c : Code} {D : va_G} {ca : Nat → ClassId} {ρ : Nat → Nat → Nat} {x1 : Int32} {Q : Int32 → St → Prop} {s1 : Int32} {S : St} (C : Cx false p l s m meth c R9 b9_run 3 D ca ρ) (hr : meth.sig.returnType = (some .int))   (hw : wp9_run_31 x1 Q s1 S) : wm false p l e { frames := 6, cells := 0, slots := 0, locals := 147 } s m args below meth c D ca ρ 3 0 0 (qi false below args s D ca ρ 0 0 Q) 31 [(0, .ref (ρ 9 0)), (1, .int x1)] [.int s1, .ref (ρ 9 0)] S := by
  unfold wp9_run_31 at hw
  refine r_iconst C (pc := 31) (v := 2) d9_run_31 (by decide) ?_
  refine r_callVi C (pc := 32) (fun sz => ct9_good l D ca ρ sz C.2.2.2.2.2.2.1 hw) mf9_good w9_100 rfl (Nat.le_of_ble_eq_true rfl) rfl rfl rfl rfl ⟨Nat.le_of_ble_eq_true rfl, Nat.le_of_ble_eq_true rfl⟩ rfl rfl (Nat.le_of_ble_eq_true rfl) ⟨Nat.zero_le _, Nat.zero_le _⟩ d9_run_32 (fun r1 S1 hw => ?_)
  refine r_if_ne C (pc := 35) (tgt := 40) d9_run_35 (by decide) (fun c1 => ?_) (fun c1 => ?_)
  · have hw := hw.1 c1
    refine r_iconst C (pc := 40) (v := 0) d9_run_40 (by decide) ?_
    refine r_istore_n C (pc := 41) (ls' := [(2, .int 0), (0, .ref (ρ 9 0)), (1, .int x1)]) (Nat.le_of_ble_eq_true rfl) rfl d9_run_41 ?_
    refine r_sub (ls' := [(0, .ref (ρ 9 0)), (1, .int x1), (2, .int 0)]) [1, 2, 0] rfl ?_
    obtain ⟨n, hw⟩ := hw
    exact nd9_run_42 C hr  n _ _ hw
  · have hw := hw.2 c1
    refine r_iconst C (pc := 38) (v := 0) d9_run_38 (by decide) ?_
    exact r_iret C (pc := 39) hr d9_run_39 hw
set_option maxRecDepth 20000 in
theorem ct9_run (l : Launch) (D : va_G) (ca : Nat → ClassId) (ρ : Nat → Nat → Nat) (sz : Nat) {S : St} {x1 : Int32} {Q : Int32 → St → Prop} (hAp : Ap false ρ)  (hw : wp9_run S x1 Q) : Met l y9_run [Cond.code y9_run b9_run 3 (some .int)] { frames := 6, cells := 0, slots := 0, locals := 147 } (va_Pc [.ref (ρ 9 0), .int x1] (PreU false D ca ρ sz S)) (va_Qi Q (PostU false D ca ρ) (Ar false ρ sz)) 0 0 (Ar false ρ sz) := by
  refine met_of_wm (own := R9) (ls0 := [(0, .ref (ρ 9 0)), (1, .int x1)]) rfl rfl hAp (Nat.le_of_ble_eq_true rfl) rfl fun p e s m args below meth c C hr hz => ?_
  subst hz
  unfold wp9_run at hw
  refine r_aload_n C (pc := 0) 0 rfl d9_run_0 ?_
  refine r_iload_n C (pc := 1) 1 rfl d9_run_1 ?_
  refine r_iconst C (pc := 2) (v := 1) d9_run_2 (by decide) ?_
  refine r_bipush C (pc := 3) (v := 20) d9_run_3 (by decide) ?_
  refine r_callSi C (pc := 5) (fun sz => ct9_in l D ca ρ sz C.2.2.2.2.2.2.1 hw) mf9_in w9_92 rfl rfl ⟨Nat.le_of_ble_eq_true rfl, Nat.le_of_ble_eq_true rfl⟩ rfl rfl (Nat.le_of_ble_eq_true rfl) ⟨Nat.zero_le _, Nat.zero_le _⟩ d9_run_5 (fun r1 S1 hw => ?_)
  refine r_iconst C (pc := 8) (v := 1) d9_run_8 (by decide) ?_
  refine r_callVi C (pc := 9) (fun sz => ct9_good l D ca ρ sz C.2.2.2.2.2.2.1 hw) mf9_good w9_100 rfl (Nat.le_of_ble_eq_true rfl) rfl rfl rfl rfl ⟨Nat.le_of_ble_eq_true rfl, Nat.le_of_ble_eq_true rfl⟩ rfl rfl (Nat.le_of_ble_eq_true rfl) ⟨Nat.zero_le _, Nat.zero_le _⟩ d9_run_9 (fun r2 S2 hw => ?_)
  refine r_if_ne C (pc := 12) (tgt := 17) d9_run_12 (by decide) (fun c1 => ?_) (fun c1 => ?_)
  · have hw := hw.1 c1
    refine r_aload_n C (pc := 17) 0 rfl d9_run_17 ?_
    refine r_aload_n C (pc := 18) 0 rfl d9_run_18 ?_
    refine g9_status C (pc := 19) (Nat.le_of_ble_eq_true rfl) w9_104 d9_run_19 ?_
    refine r_iconst C (pc := 22) (v := 1) d9_run_22 (by decide) ?_
    refine r_icmp_ne C (pc := 23) (tgt := 30) d9_run_23 (by decide) (fun c2 => ?_) (fun c2 => ?_)
    · have hw := hw.1 c2
      refine r_iconst C (pc := 30) (v := 0) d9_run_30 (by decide) ?_
      refine r_sub (ls' := [(0, .ref (ρ 9 0)), (1, .int x1)]) [0, 1] rfl ?_
      exact nd9_run_31 C hr hw
    · have hw := hw.2 c2
      refine r_iconst C (pc := 26) (v := 1) d9_run_26 (by decide) ?_
      refine r_goto C (pc := 27) (tgt := 31) d9_run_27 (by decide) ?_
      refine r_sub (ls' := [(0, .ref (ρ 9 0)), (1, .int x1)]) [0, 1] rfl ?_
      exact nd9_run_31 C hr hw
  · have hw := hw.2 c1
    refine r_iconst C (pc := 15) (v := 0) d9_run_15 (by decide) ?_
    exact r_iret C (pc := 16) hr d9_run_16 hw
set_option maxRecDepth 20000 in
theorem nd9_stop_14 {p : Program} {l : Launch} {e : Env} {s : State} {m : MethodId} {args : Array Value} {below : List Frame} {meth : Method} {c : Code} {D : va_G} {ca : Nat → ClassId} {ρ : Nat → Nat → Nat}  {Q : Int32 → St → Prop} {s1 : Int32} {S : St} (C : Cx false p l s m meth c R9 b9_stop 1 D ca ρ) (hr : meth.sig.returnType = (some .int))   (hw : wp9_stop_14  Q s1 S) : wm false p l e { frames := 1, cells := 0, slots := 0, locals := 22 } s m args below meth c D ca ρ 1 0 0 (qi false below args s D ca ρ 0 0 Q) 14 [(0, .ref (ρ 9 0))] [.int s1, .ref (ρ 9 0)] S := by
  unfold wp9_stop_14 at hw
  refine r_iconst C (pc := 14) (v := 1) d9_stop_14 (by decide) ?_
  refine r_callVi C (pc := 15) (fun sz => ct9_good l D ca ρ sz C.2.2.2.2.2.2.1 hw) mf9_good w9_100 rfl (Nat.le_of_ble_eq_true rfl) rfl rfl rfl rfl ⟨Nat.le_of_ble_eq_true rfl, Nat.le_of_ble_eq_true rfl⟩ rfl rfl (Nat.le_of_ble_eq_true rfl) ⟨Nat.zero_le _, Nat.zero_le _⟩ d9_stop_15 (fun r1 S1 hw => ?_)
  refine r_if_ne C (pc := 18) (tgt := 23) d9_stop_18 (by decide) (fun c1 => ?_) (fun c1 => ?_)
  · have hw := hw.1 c1
    refine r_aload_n C (pc := 23) 0 rfl d9_stop_23 ?_
    refine r_iconst C (pc := 24) (v := 0) d9_stop_24 (by decide) ?_
    refine p9_status C (pc := 25) (Nat.le_of_ble_eq_true rfl) w9_104 d9_stop_25 ?_
    refine r_S (fun S2 eS2 => ?_)
    have hw := hw S2 eS2
    refine r_aload_n C (pc := 28) 0 rfl d9_stop_28 ?_
    refine g9_steps C (pc := 29) (Nat.le_of_ble_eq_true rfl) w9_196 d9_stop_29 ?_
    exact r_iret C (pc := 32) hr d9_stop_32 hw
  · have hw := hw.2 c1
    refine r_iconst C (pc := 21) (v := 0) d9_stop_21 (by decide) ?_
    exact r_iret C (pc := 22) hr d9_stop_22 hw
set_option maxRecDepth 20000 in
theorem ct9_stop (l : Launch) (D : va_G) (ca : Nat → ClassId) (ρ : Nat → Nat → Nat) (sz : Nat) {S : St}  {Q : Int32 → St → Prop} (hAp : Ap false ρ)  (hw : wp9_stop S Q) : Met l y9_stop [Cond.code y9_stop b9_stop 1 (some .int)] { frames := 1, cells := 0, slots := 0, locals := 22 } (va_Pc [.ref (ρ 9 0)] (PreU false D ca ρ sz S)) (va_Qi Q (PostU false D ca ρ) (Ar false ρ sz)) 0 0 (Ar false ρ sz) := by
  refine met_of_wm (own := R9) (ls0 := [(0, .ref (ρ 9 0))]) rfl rfl hAp (Nat.le_of_ble_eq_true rfl) rfl fun p e s m args below meth c C hr hz => ?_
  subst hz
  unfold wp9_stop at hw
  refine r_aload_n C (pc := 0) 0 rfl d9_stop_0 ?_
  refine r_aload_n C (pc := 1) 0 rfl d9_stop_1 ?_
  refine g9_status C (pc := 2) (Nat.le_of_ble_eq_true rfl) w9_104 d9_stop_2 ?_
  refine r_iconst C (pc := 5) (v := 1) d9_stop_5 (by decide) ?_
  refine r_icmp_ne C (pc := 6) (tgt := 13) d9_stop_6 (by decide) (fun c1 => ?_) (fun c1 => ?_)
  · have hw := hw.1 c1
    refine r_iconst C (pc := 13) (v := 0) d9_stop_13 (by decide) ?_
    refine r_sub (ls' := [(0, .ref (ρ 9 0))]) [0] rfl ?_
    exact nd9_stop_14 C hr hw
  · have hw := hw.2 c1
    refine r_iconst C (pc := 9) (v := 1) d9_stop_9 (by decide) ?_
    refine r_goto C (pc := 10) (tgt := 14) d9_stop_10 (by decide) ?_
    refine r_sub (ls' := [(0, .ref (ρ 9 0))]) [0] rfl ?_
    exact nd9_stop_14 C hr hw
set_option maxRecDepth 20000 in
theorem nd9_result_45 {p : Program} {l : Launch} {e : Env} {s : State} {m : MethodId} {args : Array Value} {below : List Frame} {meth : Method} {c : Code} {D : va_G} {ca : Nat → ClassId} {ρ : Nat → Nat → Nat}  {Q : Int64 → St → Prop} {s1 : Int32} {S : St} (C : Cx false p l s m meth c R9 b9_result 1 D ca ρ) (hr : meth.sig.returnType = (some .long))   (hw : wp9_result_45  Q s1 S) : wm false p l e { frames := 1, cells := 0, slots := 0, locals := 22 } s m args below meth c D ca ρ 1 0 0 (ql false below args s D ca ρ 0 0 Q) 45 [(0, .ref (ρ 9 0))] [.int s1, .ref (ρ 9 0)] S := by
  unfold wp9_result_45 at hw
  refine r_iconst C (pc := 45) (v := 2) d9_result_45 (by decide) ?_
  refine r_callVi C (pc := 46) (fun sz => ct9_good l D ca ρ sz C.2.2.2.2.2.2.1 hw) mf9_good w9_100 rfl (Nat.le_of_ble_eq_true rfl) rfl rfl rfl rfl ⟨Nat.le_of_ble_eq_true rfl, Nat.le_of_ble_eq_true rfl⟩ rfl rfl (Nat.le_of_ble_eq_true rfl) ⟨Nat.zero_le _, Nat.zero_le _⟩ d9_result_46 (fun r1 S1 hw => ?_)
  refine r_if_eq C (pc := 49) (tgt := 59) d9_result_49 (by decide) (fun c1 => ?_) (fun c1 => ?_)
  · have hw := hw.1 c1
    refine r_lconst C (pc := 59) (v := 0) d9_result_59 (by decide) ?_
    exact r_lret C (pc := 60) hr d9_result_60 hw
  · have hw := hw.2 c1
    refine r_aload_n C (pc := 52) 0 rfl d9_result_52 ?_
    refine g9_resultWhole C (pc := 53) (Nat.le_of_ble_eq_true rfl) w9_207 d9_result_53 ?_
    refine r_goto C (pc := 56) (tgt := 60) d9_result_56 (by decide) ?_
    exact r_lret C (pc := 60) hr d9_result_60 hw
set_option maxRecDepth 20000 in
theorem nd9_result_40 {p : Program} {l : Launch} {e : Env} {s : State} {m : MethodId} {args : Array Value} {below : List Frame} {meth : Method} {c : Code} {D : va_G} {ca : Nat → ClassId} {ρ : Nat → Nat → Nat}  {Q : Int64 → St → Prop}  {S : St} (C : Cx false p l s m meth c R9 b9_result 1 D ca ρ) (hr : meth.sig.returnType = (some .long))   (hw : wp9_result_40  Q  S) : wm false p l e { frames := 1, cells := 0, slots := 0, locals := 22 } s m args below meth c D ca ρ 1 0 0 (ql false below args s D ca ρ 0 0 Q) 40 [(0, .ref (ρ 9 0))] [.ref (ρ 9 0)] S := by
  unfold wp9_result_40 at hw
  refine r_iconst C (pc := 40) (v := 1) d9_result_40 (by decide) ?_
  refine r_goto C (pc := 41) (tgt := 45) d9_result_41 (by decide) ?_
  refine r_sub (ls' := [(0, .ref (ρ 9 0))]) [0] rfl ?_
  exact nd9_result_45 C hr hw
set_option maxRecDepth 20000 in
theorem nd9_result_14 {p : Program} {l : Launch} {e : Env} {s : State} {m : MethodId} {args : Array Value} {below : List Frame} {meth : Method} {c : Code} {D : va_G} {ca : Nat → ClassId} {ρ : Nat → Nat → Nat}  {Q : Int64 → St → Prop} {s1 : Int32} {S : St} (C : Cx false p l s m meth c R9 b9_result 1 D ca ρ) (hr : meth.sig.returnType = (some .long))   (hw : wp9_result_14  Q s1 S) : wm false p l e { frames := 1, cells := 0, slots := 0, locals := 22 } s m args below meth c D ca ρ 1 0 0 (ql false below args s D ca ρ 0 0 Q) 14 [(0, .ref (ρ 9 0))] [.int s1, .ref (ρ 9 0)] S := by
  unfold wp9_result_14 at hw
  refine r_iconst C (pc := 14) (v := 1) d9_result_14 (by decide) ?_
  refine r_callVi C (pc := 15) (fun sz => ct9_good l D ca ρ sz C.2.2.2.2.2.2.1 hw) mf9_good w9_100 rfl (Nat.le_of_ble_eq_true rfl) rfl rfl rfl rfl ⟨Nat.le_of_ble_eq_true rfl, Nat.le_of_ble_eq_true rfl⟩ rfl rfl (Nat.le_of_ble_eq_true rfl) ⟨Nat.zero_le _, Nat.zero_le _⟩ d9_result_15 (fun r1 S1 hw => ?_)
  refine r_if_ne C (pc := 18) (tgt := 23) d9_result_18 (by decide) (fun c1 => ?_) (fun c1 => ?_)
  · have hw := hw.1 c1
    refine r_aload_n C (pc := 23) 0 rfl d9_result_23 ?_
    refine r_aload_n C (pc := 24) 0 rfl d9_result_24 ?_
    refine g9_resultKind C (pc := 25) (Nat.le_of_ble_eq_true rfl) w9_204 d9_result_25 ?_
    refine r_iconst C (pc := 28) (v := 1) d9_result_28 (by decide) ?_
    refine r_icmp_eq C (pc := 29) (tgt := 40) d9_result_29 (by decide) (fun c2 => ?_) (fun c2 => ?_)
    · have hw := hw.1 c2
      refine r_sub (ls' := [(0, .ref (ρ 9 0))]) [0] rfl ?_
      exact nd9_result_40 C hr hw
    · have hw := hw.2 c2
      refine r_aload_n C (pc := 32) 0 rfl d9_result_32 ?_
      refine g9_resultKind C (pc := 33) (Nat.le_of_ble_eq_true rfl) w9_204 d9_result_33 ?_
      refine r_iconst C (pc := 36) (v := 2) d9_result_36 (by decide) ?_
      refine r_icmp_ne C (pc := 37) (tgt := 44) d9_result_37 (by decide) (fun c3 => ?_) (fun c3 => ?_)
      · have hw := hw.1 c3
        refine r_iconst C (pc := 44) (v := 0) d9_result_44 (by decide) ?_
        refine r_sub (ls' := [(0, .ref (ρ 9 0))]) [0] rfl ?_
        exact nd9_result_45 C hr hw
      · have hw := hw.2 c3
        refine r_sub (ls' := [(0, .ref (ρ 9 0))]) [0] rfl ?_
        exact nd9_result_40 C hr hw
  · have hw := hw.2 c1
    refine r_lconst C (pc := 21) (v := 0) d9_result_21 (by decide) ?_
    exact r_lret C (pc := 22) hr d9_result_22 hw
set_option maxRecDepth 20000 in
theorem ct9_result (l : Launch) (D : va_G) (ca : Nat → ClassId) (ρ : Nat → Nat → Nat) (sz : Nat) {S : St}  {Q : Int64 → St → Prop} (hAp : Ap false ρ)  (hw : wp9_result S Q) : Met l y9_result [Cond.code y9_result b9_result 1 (some .long)] { frames := 1, cells := 0, slots := 0, locals := 22 } (va_Pc [.ref (ρ 9 0)] (PreU false D ca ρ sz S)) (va_Ql Q (PostU false D ca ρ) (Ar false ρ sz)) 0 0 (Ar false ρ sz) := by
  refine met_of_wm (own := R9) (ls0 := [(0, .ref (ρ 9 0))]) rfl rfl hAp (Nat.le_of_ble_eq_true rfl) rfl fun p e s m args below meth c C hr hz => ?_
  subst hz
  unfold wp9_result at hw
  refine r_aload_n C (pc := 0) 0 rfl d9_result_0 ?_
  refine r_aload_n C (pc := 1) 0 rfl d9_result_1 ?_
  refine g9_status C (pc := 2) (Nat.le_of_ble_eq_true rfl) w9_104 d9_result_2 ?_
  refine r_iconst C (pc := 5) (v := 2) d9_result_5 (by decide) ?_
  refine r_icmp_ne C (pc := 6) (tgt := 13) d9_result_6 (by decide) (fun c1 => ?_) (fun c1 => ?_)
  · have hw := hw.1 c1
    refine r_iconst C (pc := 13) (v := 0) d9_result_13 (by decide) ?_
    refine r_sub (ls' := [(0, .ref (ρ 9 0))]) [0] rfl ?_
    exact nd9_result_14 C hr hw
  · have hw := hw.2 c1
    refine r_iconst C (pc := 9) (v := 1) d9_result_9 (by decide) ?_
    refine r_goto C (pc := 10) (tgt := 14) d9_result_10 (by decide) ?_
    refine r_sub (ls' := [(0, .ref (ρ 9 0))]) [0] rfl ?_
    exact nd9_result_14 C hr hw
set_option maxRecDepth 20000 in
theorem nd9_real_37 {p : Program} {l : Launch} {e : Env} {s : State} {m : MethodId} {args : Array Value} {below : List Frame} {meth : Method} {c : Code} {D : va_G} {ca : Nat → ClassId} {ρ : Nat → Nat → Nat}  {Q : UInt64 → St → Prop} {s1 : Int32} {S : St} (C : Cx false p l s m meth c R9 b9_real 1 D ca ρ) (hr : meth.sig.returnType = (some .double))   (hw : wp9_real_37  Q s1 S) : wm false p l e { frames := 1, cells := 0, slots := 0, locals := 22 } s m args below meth c D ca ρ 1 0 0 (qd false below args s D ca ρ 0 0 Q) 37 [(0, .ref (ρ 9 0))] [.int s1, .ref (ρ 9 0)] S := by
  unfold wp9_real_37 at hw
  refine r_iconst C (pc := 37) (v := 2) d9_real_37 (by decide) ?_
  refine r_callVi C (pc := 38) (fun sz => ct9_good l D ca ρ sz C.2.2.2.2.2.2.1 hw) mf9_good w9_100 rfl (Nat.le_of_ble_eq_true rfl) rfl rfl rfl rfl ⟨Nat.le_of_ble_eq_true rfl, Nat.le_of_ble_eq_true rfl⟩ rfl rfl (Nat.le_of_ble_eq_true rfl) ⟨Nat.zero_le _, Nat.zero_le _⟩ d9_real_38 (fun r1 S1 hw => ?_)
  refine r_if_eq C (pc := 41) (tgt := 51) d9_real_41 (by decide) (fun c1 => ?_) (fun c1 => ?_)
  · have hw := hw.1 c1
    refine r_dconst0 C (pc := 51) d9_real_51 ?_
    exact r_dret C (pc := 52) hr d9_real_52 hw
  · have hw := hw.2 c1
    refine r_aload_n C (pc := 44) 0 rfl d9_real_44 ?_
    refine g9_resultReal C (pc := 45) (Nat.le_of_ble_eq_true rfl) w9_211 d9_real_45 ?_
    refine r_goto C (pc := 48) (tgt := 52) d9_real_48 (by decide) ?_
    exact r_dret C (pc := 52) hr d9_real_52 hw
set_option maxRecDepth 20000 in
theorem nd9_real_14 {p : Program} {l : Launch} {e : Env} {s : State} {m : MethodId} {args : Array Value} {below : List Frame} {meth : Method} {c : Code} {D : va_G} {ca : Nat → ClassId} {ρ : Nat → Nat → Nat}  {Q : UInt64 → St → Prop} {s1 : Int32} {S : St} (C : Cx false p l s m meth c R9 b9_real 1 D ca ρ) (hr : meth.sig.returnType = (some .double))   (hw : wp9_real_14  Q s1 S) : wm false p l e { frames := 1, cells := 0, slots := 0, locals := 22 } s m args below meth c D ca ρ 1 0 0 (qd false below args s D ca ρ 0 0 Q) 14 [(0, .ref (ρ 9 0))] [.int s1, .ref (ρ 9 0)] S := by
  unfold wp9_real_14 at hw
  refine r_iconst C (pc := 14) (v := 1) d9_real_14 (by decide) ?_
  refine r_callVi C (pc := 15) (fun sz => ct9_good l D ca ρ sz C.2.2.2.2.2.2.1 hw) mf9_good w9_100 rfl (Nat.le_of_ble_eq_true rfl) rfl rfl rfl rfl ⟨Nat.le_of_ble_eq_true rfl, Nat.le_of_ble_eq_true rfl⟩ rfl rfl (Nat.le_of_ble_eq_true rfl) ⟨Nat.zero_le _, Nat.zero_le _⟩ d9_real_15 (fun r1 S1 hw => ?_)
  refine r_if_ne C (pc := 18) (tgt := 23) d9_real_18 (by decide) (fun c1 => ?_) (fun c1 => ?_)
  · have hw := hw.1 c1
    refine r_aload_n C (pc := 23) 0 rfl d9_real_23 ?_
    refine r_aload_n C (pc := 24) 0 rfl d9_real_24 ?_
    refine g9_resultKind C (pc := 25) (Nat.le_of_ble_eq_true rfl) w9_204 d9_real_25 ?_
    refine r_iconst C (pc := 28) (v := 3) d9_real_28 (by decide) ?_
    refine r_icmp_ne C (pc := 29) (tgt := 36) d9_real_29 (by decide) (fun c2 => ?_) (fun c2 => ?_)
    · have hw := hw.1 c2
      refine r_iconst C (pc := 36) (v := 0) d9_real_36 (by decide) ?_
      refine r_sub (ls' := [(0, .ref (ρ 9 0))]) [0] rfl ?_
      exact nd9_real_37 C hr hw
    · have hw := hw.2 c2
      refine r_iconst C (pc := 32) (v := 1) d9_real_32 (by decide) ?_
      refine r_goto C (pc := 33) (tgt := 37) d9_real_33 (by decide) ?_
      refine r_sub (ls' := [(0, .ref (ρ 9 0))]) [0] rfl ?_
      exact nd9_real_37 C hr hw
  · have hw := hw.2 c1
    refine r_dconst0 C (pc := 21) d9_real_21 ?_
    exact r_dret C (pc := 22) hr d9_real_22 hw
set_option maxRecDepth 20000 in
theorem ct9_real (l : Launch) (D : va_G) (ca : Nat → ClassId) (ρ : Nat → Nat → Nat) (sz : Nat) {S : St}  {Q : UInt64 → St → Prop} (hAp : Ap false ρ)  (hw : wp9_real S Q) : Met l y9_real [Cond.code y9_real b9_real 1 (some .double)] { frames := 1, cells := 0, slots := 0, locals := 22 } (va_Pc [.ref (ρ 9 0)] (PreU false D ca ρ sz S)) (va_Qd Q (PostU false D ca ρ) (Ar false ρ sz)) 0 0 (Ar false ρ sz) := by
  refine met_of_wm (own := R9) (ls0 := [(0, .ref (ρ 9 0))]) rfl rfl hAp (Nat.le_of_ble_eq_true rfl) rfl fun p e s m args below meth c C hr hz => ?_
  subst hz
  unfold wp9_real at hw
  refine r_aload_n C (pc := 0) 0 rfl d9_real_0 ?_
  refine r_aload_n C (pc := 1) 0 rfl d9_real_1 ?_
  refine g9_status C (pc := 2) (Nat.le_of_ble_eq_true rfl) w9_104 d9_real_2 ?_
  refine r_iconst C (pc := 5) (v := 2) d9_real_5 (by decide) ?_
  refine r_icmp_ne C (pc := 6) (tgt := 13) d9_real_6 (by decide) (fun c1 => ?_) (fun c1 => ?_)
  · have hw := hw.1 c1
    refine r_iconst C (pc := 13) (v := 0) d9_real_13 (by decide) ?_
    refine r_sub (ls' := [(0, .ref (ρ 9 0))]) [0] rfl ?_
    exact nd9_real_14 C hr hw
  · have hw := hw.2 c1
    refine r_iconst C (pc := 9) (v := 1) d9_real_9 (by decide) ?_
    refine r_goto C (pc := 10) (tgt := 14) d9_real_10 (by decide) ?_
    refine r_sub (ls' := [(0, .ref (ρ 9 0))]) [0] rfl ?_
    exact nd9_real_14 C hr hw
set_option maxRecDepth 20000 in
theorem ct9_global (l : Launch) (D : va_G) (ca : Nat → ClassId) (ρ : Nat → Nat → Nat) (sz : Nat) {S : St} {x1 : Int32} {Q : Int64 → St → Prop} (hAp : Ap false ρ)  (hw : wp9_global S x1 Q) : Met l y9_global [Cond.code y9_global b9_global 2 (some .long)] { frames := 1, cells := 0, slots := 0, locals := 22 } (va_Pc [.ref (ρ 9 0), .int x1] (PreU false D ca ρ sz S)) (va_Ql Q (PostU false D ca ρ) (Ar false ρ sz)) 0 0 (Ar false ρ sz) := by
  refine met_of_wm (own := R9) (ls0 := [(0, .ref (ρ 9 0)), (1, .int x1)]) rfl rfl hAp (Nat.le_of_ble_eq_true rfl) rfl fun p e s m args below meth c C hr hz => ?_
  subst hz
  unfold wp9_global at hw
  refine r_aload_n C (pc := 0) 0 rfl d9_global_0 ?_
  refine r_iload_n C (pc := 1) 1 rfl d9_global_1 ?_
  refine r_iconst C (pc := 2) (v := 0) d9_global_2 (by decide) ?_
  refine r_iconst C (pc := 3) (v := 1) d9_global_3 (by decide) ?_
  refine r_callSi C (pc := 4) (fun sz => ct9_in l D ca ρ sz C.2.2.2.2.2.2.1 hw) mf9_in w9_92 rfl rfl ⟨Nat.le_of_ble_eq_true rfl, Nat.le_of_ble_eq_true rfl⟩ rfl rfl (Nat.le_of_ble_eq_true rfl) ⟨Nat.zero_le _, Nat.zero_le _⟩ d9_global_4 (fun r1 S1 hw => ?_)
  refine r_iconst C (pc := 7) (v := 1) d9_global_7 (by decide) ?_
  refine r_callVi C (pc := 8) (fun sz => ct9_good l D ca ρ sz C.2.2.2.2.2.2.1 hw) mf9_good w9_100 rfl (Nat.le_of_ble_eq_true rfl) rfl rfl rfl rfl ⟨Nat.le_of_ble_eq_true rfl, Nat.le_of_ble_eq_true rfl⟩ rfl rfl (Nat.le_of_ble_eq_true rfl) ⟨Nat.zero_le _, Nat.zero_le _⟩ d9_global_8 (fun r2 S2 hw => ?_)
  refine r_if_eq C (pc := 11) (tgt := 23) d9_global_11 (by decide) (fun c1 => ?_) (fun c1 => ?_)
  · have hw := hw.1 c1
    refine r_lconst C (pc := 23) (v := 0) d9_global_23 (by decide) ?_
    exact r_lret C (pc := 24) hr d9_global_24 hw
  · have hw := hw.2 c1
    refine r_aload_n C (pc := 14) 0 rfl d9_global_14 ?_
    refine g9_wholes C (pc := 15) (Nat.le_of_ble_eq_true rfl) w9_34 d9_global_15 ?_
    refine r_iload_n C (pc := 18) 1 rfl d9_global_18 ?_
    have hi2 := hw.1
    have hw := hw.2
    refine ld1908 C (pc := 19) (Nat.le_of_ble_eq_true rfl) hi2 d9_global_19 ?_
    refine r_goto C (pc := 20) (tgt := 24) d9_global_20 (by decide) ?_
    exact r_lret C (pc := 24) hr d9_global_24 hw
