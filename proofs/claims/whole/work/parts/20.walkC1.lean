set_option maxRecDepth 20000 in
theorem ct2_die (l : Launch) (D : va_G) (ca : Nat → ClassId) (ρ : Nat → Nat → Nat) (sz : Nat) {S : St}  {Q : St → Prop} (hAp : Ap true ρ)  (hw : wp2_die S Q) : Met l y2_die [Cond.code y2_die b2_die 1 none] { frames := 0, cells := 0, slots := 0, locals := 0 } (va_Pc [.ref (ρ 2 0)] (PreU true D ca ρ sz S)) (va_Qv Q (PostU true D ca ρ) (Ar true ρ sz)) 0 0 (Ar true ρ sz) := by
  refine met_of_wm (own := R2) (ls0 := [(0, .ref (ρ 2 0))]) rfl rfl hAp (Nat.le_of_ble_eq_true rfl) rfl fun p e s m args below meth c C hr hz => ?_
  subst hz
  unfold wp2_die at hw
  refine r_aload_n C (pc := 0) 0 rfl d2_die_0 ?_
  refine r_aload_n C (pc := 1) 0 rfl d2_die_1 ?_
  have hg1 := hw.1
  have hw := hw.2
  refine g2_inner C (pc := 2) (Nat.le_of_ble_eq_true rfl) w2_30 d2_die_2 ?_
  refine gN3_base C (pc := 5) hg1 w2_130 d2_die_5 ?_
  refine p2_height C (pc := 8) (Nat.le_of_ble_eq_true rfl) w2_34 d2_die_8 ?_
  refine r_S (fun S1 eS1 => ?_)
  have hw := hw S1 eS1
  refine r_aload_n C (pc := 11) 0 rfl d2_die_11 ?_
  have hg2 := hw.1
  have hw := hw.2
  refine g2_inner C (pc := 12) (Nat.le_of_ble_eq_true rfl) w2_30 d2_die_12 ?_
  refine r_iconst C (pc := 15) (v := 1) d2_die_15 (by decide) ?_
  refine pN3_dead C (pc := 16) hg2 (Or.inr rfl) w2_113 d2_die_16 ?_
  refine r_S (fun S2 eS2 => ?_)
  have hw := hw S2 eS2
  exact r_vret C (pc := 19) hr d2_die_19 hw
set_option maxRecDepth 20000 in
theorem nd2_take_29 {p : Program} {l : Launch} {e : Env} {s : State} {m : MethodId} {args : Array Value} {below : List Frame} {meth : Method} {c : Code} {D : va_G} {ca : Nat → ClassId} {ρ : Nat → Nat → Nat} {x1 : Int32} {Q : Int32 → St → Prop}  {S : St} (C : Cx true p l s m meth c R2 b2_take 3 D ca ρ) (hr : meth.sig.returnType = (some .int))   (hw : wp2_take_29 x1 Q  S) : wm true p l e { frames := 0, cells := 0, slots := 0, locals := 0 } s m args below meth c D ca ρ 3 0 0 (qi true below args s D ca ρ 0 0 Q) 29 [(0, .ref (ρ 2 0))] [] S := by
  unfold wp2_take_29 at hw
  refine r_aload_n C (pc := 29) 0 rfl d2_take_29 ?_
  refine r_aload_n C (pc := 30) 0 rfl d2_take_30 ?_
  refine g2_bad C (pc := 31) (Nat.le_of_ble_eq_true rfl) w2_41 d2_take_31 ?_
  refine r_if_ne C (pc := 34) (tgt := 47) d2_take_34 (by decide) (fun c1 => ?_) (fun c1 => ?_)
  · have hw := hw.1 c1
    refine r_iconst C (pc := 47) (v := 1) d2_take_47 (by decide) ?_
    refine r_goto C (pc := 48) (tgt := 52) d2_take_48 (by decide) ?_
    refine p2_bad C (pc := 52) (Nat.le_of_ble_eq_true rfl) (Or.inr rfl) w2_41 d2_take_52 ?_
    refine r_S (fun S1 eS1 => ?_)
    have hw := hw S1 eS1
    refine r_iconst C (pc := 55) (v := 4) d2_take_55 (by decide) ?_
    exact r_iret C (pc := 56) hr d2_take_56 hw
  · have hw := hw.2 c1
    refine r_aload_n C (pc := 37) 0 rfl d2_take_37 ?_
    have hg2 := hw.1
    have hw := hw.2
    refine g2_inner C (pc := 38) (Nat.le_of_ble_eq_true rfl) w2_30 d2_take_38 ?_
    refine gN3_dead C (pc := 41) hg2 w2_113 d2_take_41 ?_
    refine r_if_ne C (pc := 44) (tgt := 51) d2_take_44 (by decide) (fun c3 => ?_) (fun c3 => ?_)
    · have hw := hw.1 c3
      refine r_iconst C (pc := 51) (v := 0) d2_take_51 (by decide) ?_
      refine p2_bad C (pc := 52) (Nat.le_of_ble_eq_true rfl) (Or.inl rfl) w2_41 d2_take_52 ?_
      refine r_S (fun S2 eS2 => ?_)
      have hw := hw S2 eS2
      refine r_iconst C (pc := 55) (v := 4) d2_take_55 (by decide) ?_
      exact r_iret C (pc := 56) hr d2_take_56 hw
    · have hw := hw.2 c3
      refine r_iconst C (pc := 47) (v := 1) d2_take_47 (by decide) ?_
      refine r_goto C (pc := 48) (tgt := 52) d2_take_48 (by decide) ?_
      refine p2_bad C (pc := 52) (Nat.le_of_ble_eq_true rfl) (Or.inr rfl) w2_41 d2_take_52 ?_
      refine r_S (fun S3 eS3 => ?_)
      have hw := hw S3 eS3
      refine r_iconst C (pc := 55) (v := 4) d2_take_55 (by decide) ?_
      exact r_iret C (pc := 56) hr d2_take_56 hw
set_option maxRecDepth 20000 in
theorem ct2_take (l : Launch) (D : va_G) (ca : Nat → ClassId) (ρ : Nat → Nat → Nat) (sz : Nat) {S : St} {x1 : Int32} {Q : Int32 → St → Prop} (hAp : Ap true ρ)  (hw : wp2_take S x1 Q) : Met l y2_take [Cond.code y2_take b2_take 3 (some .int)] { frames := 0, cells := 0, slots := 0, locals := 0 } (va_Pc [.ref (ρ 2 0), .int x1] (PreU true D ca ρ sz S)) (va_Qi Q (PostU true D ca ρ) (Ar true ρ sz)) 0 0 (Ar true ρ sz) := by
  refine met_of_wm (own := R2) (ls0 := [(0, .ref (ρ 2 0)), (1, .int x1)]) rfl rfl hAp (Nat.le_of_ble_eq_true rfl) rfl fun p e s m args below meth c C hr hz => ?_
  subst hz
  unfold wp2_take at hw
  refine r_iload_n C (pc := 0) 1 rfl d2_take_0 ?_
  refine r_if_ne C (pc := 1) (tgt := 6) d2_take_1 (by decide) (fun c1 => ?_) (fun c1 => ?_)
  · have hw := hw.1 c1
    refine r_aload_n C (pc := 6) 0 rfl d2_take_6 ?_
    refine g2_height C (pc := 7) (Nat.le_of_ble_eq_true rfl) w2_34 d2_take_7 ?_
    refine r_aload_n C (pc := 10) 0 rfl d2_take_10 ?_
    have hg2 := hw.1
    have hw := hw.2
    refine g2_inner C (pc := 11) (Nat.le_of_ble_eq_true rfl) w2_30 d2_take_11 ?_
    refine gN3_base C (pc := 14) hg2 w2_130 d2_take_14 ?_
    refine r_icmp_le C (pc := 17) (tgt := 29) d2_take_17 (by decide) (fun c3 => ?_) (fun c3 => ?_)
    · have hw := hw.1 c3
      refine r_sub (ls' := [(0, .ref (ρ 2 0))]) [0] rfl ?_
      exact nd2_take_29 C hr hw
    · have hw := hw.2 c3
      refine r_aload_n C (pc := 20) 0 rfl d2_take_20 ?_
      refine g2_height C (pc := 21) (Nat.le_of_ble_eq_true rfl) w2_34 d2_take_21 ?_
      refine r_bipush C (pc := 24) (v := 16) d2_take_24 (by decide) ?_
      refine r_icmp_le C (pc := 26) (tgt := 57) d2_take_26 (by decide) (fun c4 => ?_) (fun c4 => ?_)
      · have hw := hw.1 c4
        refine r_aload_n C (pc := 57) 0 rfl d2_take_57 ?_
        refine r_dup C (pc := 58) rfl d2_take_58 ?_
        refine g2_height C (pc := 59) (Nat.le_of_ble_eq_true rfl) w2_34 d2_take_59 ?_
        refine r_iconst C (pc := 62) (v := 1) d2_take_62 (by decide) ?_
        refine r_isub C (pc := 63) d2_take_63 ?_
        refine p2_height C (pc := 64) (Nat.le_of_ble_eq_true rfl) w2_34 d2_take_64 ?_
        refine r_S (fun S1 eS1 => ?_)
        have hw := hw S1 eS1
        refine r_aload_n C (pc := 67) 0 rfl d2_take_67 ?_
        refine g2_stack C (pc := 68) (Nat.le_of_ble_eq_true rfl) w2_9 d2_take_68 ?_
        refine r_aload_n C (pc := 71) 0 rfl d2_take_71 ?_
        refine g2_height C (pc := 72) (Nat.le_of_ble_eq_true rfl) w2_34 d2_take_72 ?_
        have hi5 := hw.1
        have hw := hw.2
        refine ld1201 C (pc := 75) (Nat.le_of_ble_eq_true rfl) hi5 d2_take_75 ?_
        refine r_topi (fun x2_1 ex2_1 => ?_)
        have hw := hw x2_1 ex2_1
        refine r_istore_n C (pc := 76) (ls' := [(2, .int x2_1), (0, .ref (ρ 2 0)), (1, .int x1)]) (Nat.le_of_ble_eq_true rfl) rfl d2_take_76 ?_
        refine r_iload_n C (pc := 77) 0 rfl d2_take_77 ?_
        refine r_iload_n C (pc := 78) 2 rfl d2_take_78 ?_
        refine r_icmp_eq C (pc := 79) (tgt := 97) d2_take_79 (by decide) (fun c6 => ?_) (fun c6 => ?_)
        · have hw := hw.1 c6
          refine r_iload_n C (pc := 97) 0 rfl d2_take_97 ?_
          exact r_iret C (pc := 98) hr d2_take_98 hw
        · have hw := hw.2 c6
          refine r_iload_n C (pc := 82) 0 rfl d2_take_82 ?_
          refine r_iconst C (pc := 83) (v := 4) d2_take_83 (by decide) ?_
          refine r_icmp_eq C (pc := 84) (tgt := 97) d2_take_84 (by decide) (fun c7 => ?_) (fun c7 => ?_)
          · have hw := hw.1 c7
            refine r_iload_n C (pc := 97) 0 rfl d2_take_97 ?_
            exact r_iret C (pc := 98) hr d2_take_98 hw
          · have hw := hw.2 c7
            refine r_iload_n C (pc := 87) 2 rfl d2_take_87 ?_
            refine r_iconst C (pc := 88) (v := 4) d2_take_88 (by decide) ?_
            refine r_icmp_eq C (pc := 89) (tgt := 97) d2_take_89 (by decide) (fun c8 => ?_) (fun c8 => ?_)
            · have hw := hw.1 c8
              refine r_iload_n C (pc := 97) 0 rfl d2_take_97 ?_
              exact r_iret C (pc := 98) hr d2_take_98 hw
            · have hw := hw.2 c8
              refine r_aload_n C (pc := 92) 1 rfl d2_take_92 ?_
              refine r_iconst C (pc := 93) (v := 1) d2_take_93 (by decide) ?_
              refine p2_bad C (pc := 94) (Nat.le_of_ble_eq_true rfl) (Or.inr rfl) w2_41 d2_take_94 ?_
              refine r_S (fun S2 eS2 => ?_)
              have hw := hw S2 eS2
              refine r_iload_n C (pc := 97) 0 rfl d2_take_97 ?_
              exact r_iret C (pc := 98) hr d2_take_98 hw
      · have hw := hw.2 c4
        refine r_sub (ls' := [(0, .ref (ρ 2 0))]) [0] rfl ?_
        exact nd2_take_29 C hr hw
  · have hw := hw.2 c1
    refine r_iconst C (pc := 4) (v := 0) d2_take_4 (by decide) ?_
    exact r_iret C (pc := 5) hr d2_take_5 hw
set_option maxRecDepth 20000 in
theorem ct3_lacksElse (l : Launch) (D : va_G) (ca : Nat → ClassId) (ρ : Nat → Nat → Nat) (sz : Nat) {S : St} {o : Nat} {Q : Int32 → St → Prop} (hAp : Ap true ρ) (ho : o < 8) (hw : wp3_lacksElse S o Q) : Met l y3_lacksElse [Cond.code y3_lacksElse b3_lacksElse 1 (some .boolean)] { frames := 0, cells := 0, slots := 0, locals := 0 } (va_Pc [.ref (ρ 3 o)] (PreU true D ca ρ sz S)) (va_Qi Q (PostU true D ca ρ) (Ar true ρ sz)) 0 0 (Ar true ρ sz) := by
  refine met_of_wm (own := R3) (ls0 := [(0, .ref (ρ 3 o))]) rfl rfl hAp (Nat.le_of_ble_eq_true rfl) rfl fun p e s m args below meth c C hr hz => ?_
  subst hz
  unfold wp3_lacksElse at hw
  refine r_aload_n C (pc := 0) 0 rfl d3_lacksElse_0 ?_
  refine g3_opener C (pc := 1) ho w3_15 d3_lacksElse_1 ?_
  refine r_iconst C (pc := 4) (v := 4) d3_lacksElse_4 (by decide) ?_
  refine r_icmp_ne C (pc := 5) (tgt := 19) d3_lacksElse_5 (by decide) (fun c1 => ?_) (fun c1 => ?_)
  · have hw := hw.1 c1
    refine r_iconst C (pc := 19) (v := 0) d3_lacksElse_19 (by decide) ?_
    exact r_zret C (pc := 20) hr rfl d3_lacksElse_20 hw
  · have hw := hw.2 c1
    refine r_aload_n C (pc := 8) 0 rfl d3_lacksElse_8 ?_
    refine g3_hasElse C (pc := 9) ho w3_28 d3_lacksElse_9 ?_
    refine r_if_ne C (pc := 12) (tgt := 19) d3_lacksElse_12 (by decide) (fun c2 => ?_) (fun c2 => ?_)
    · have hw := hw.1 c2
      refine r_iconst C (pc := 19) (v := 0) d3_lacksElse_19 (by decide) ?_
      exact r_zret C (pc := 20) hr rfl d3_lacksElse_20 hw
    · have hw := hw.2 c2
      refine r_iconst C (pc := 15) (v := 1) d3_lacksElse_15 (by decide) ?_
      refine r_goto C (pc := 16) (tgt := 20) d3_lacksElse_16 (by decide) ?_
      exact r_zret C (pc := 20) hr rfl d3_lacksElse_20 hw
set_option maxRecDepth 20000 in
theorem ct2_takeAllOfFrame (l : Launch) (D : va_G) (ca : Nat → ClassId) (ρ : Nat → Nat → Nat) (sz : Nat) {S : St}  {Q : St → Prop} (hAp : Ap true ρ)  (hw : wp2_takeAllOfFrame S Q) : Met l y2_takeAllOfFrame [Cond.code y2_takeAllOfFrame b2_takeAllOfFrame 1 none] { frames := 1, cells := 0, slots := 0, locals := 22 } (va_Pc [.ref (ρ 2 0)] (PreU true D ca ρ sz S)) (va_Qv Q (PostU true D ca ρ) (Ar true ρ sz)) 0 0 (Ar true ρ sz) := by
  refine met_of_wm (own := R2) (ls0 := [(0, .ref (ρ 2 0))]) rfl rfl hAp (Nat.le_of_ble_eq_true rfl) rfl fun p e s m args below meth c C hr hz => ?_
  subst hz
  unfold wp2_takeAllOfFrame at hw
  refine r_aload_n C (pc := 0) 0 rfl d2_takeAllOfFrame_0 ?_
  refine r_aload_n C (pc := 1) 0 rfl d2_takeAllOfFrame_1 ?_
  have hg1 := hw.1
  have hw := hw.2
  refine g2_inner C (pc := 2) (Nat.le_of_ble_eq_true rfl) w2_30 d2_takeAllOfFrame_2 ?_
  refine gN3_outcome C (pc := 5) hg1 w2_122 d2_takeAllOfFrame_5 ?_
  refine r_callVi C (pc := 8) (fun sz => ct2_take l D ca ρ sz C.2.2.2.2.2.2.1 hw) mf2_take w2_90 rfl (Nat.le_of_ble_eq_true rfl) rfl rfl rfl rfl ⟨Nat.le_of_ble_eq_true rfl, Nat.le_of_ble_eq_true rfl⟩ rfl rfl (Nat.le_of_ble_eq_true rfl) ⟨Nat.zero_le _, Nat.zero_le _⟩ d2_takeAllOfFrame_8 (fun r1 S1 hw => ?_)
  refine r_pop C (pc := 11) rfl d2_takeAllOfFrame_11 ?_
  refine r_aload_n C (pc := 12) 0 rfl d2_takeAllOfFrame_12 ?_
  refine g2_height C (pc := 13) (Nat.le_of_ble_eq_true rfl) w2_34 d2_takeAllOfFrame_13 ?_
  refine r_aload_n C (pc := 16) 0 rfl d2_takeAllOfFrame_16 ?_
  have hg2 := hw.1
  have hw := hw.2
  refine g2_inner C (pc := 17) (Nat.le_of_ble_eq_true rfl) w2_30 d2_takeAllOfFrame_17 ?_
  refine gN3_base C (pc := 20) hg2 w2_130 d2_takeAllOfFrame_20 ?_
  refine r_icmp_eq C (pc := 23) (tgt := 31) d2_takeAllOfFrame_23 (by decide) (fun c3 => ?_) (fun c3 => ?_)
  · have hw := hw.1 c3
    exact r_vret C (pc := 31) hr d2_takeAllOfFrame_31 hw
  · have hw := hw.2 c3
    refine r_aload_n C (pc := 26) 0 rfl d2_takeAllOfFrame_26 ?_
    refine r_iconst C (pc := 27) (v := 1) d2_takeAllOfFrame_27 (by decide) ?_
    refine p2_bad C (pc := 28) (Nat.le_of_ble_eq_true rfl) (Or.inr rfl) w2_41 d2_takeAllOfFrame_28 ?_
    refine r_S (fun S2 eS2 => ?_)
    have hw := hw S2 eS2
    exact r_vret C (pc := 31) hr d2_takeAllOfFrame_31 hw
set_option maxRecDepth 20000 in
theorem ct2_turnToElse (l : Launch) (D : va_G) (ca : Nat → ClassId) (ρ : Nat → Nat → Nat) (sz : Nat) {S : St} {x1 : Int32} {Q : St → Prop} (hAp : Ap true ρ)  (hw : wp2_turnToElse S x1 Q) : Met l y2_turnToElse [Cond.code y2_turnToElse b2_turnToElse 2 none] { frames := 2, cells := 0, slots := 0, locals := 42 } (va_Pc [.ref (ρ 2 0), .int x1] (PreU true D ca ρ sz S)) (va_Qv Q (PostU true D ca ρ) (Ar true ρ sz)) 0 0 (Ar true ρ sz) := by
  refine met_of_wm (own := R2) (ls0 := [(0, .ref (ρ 2 0)), (1, .int x1)]) rfl rfl hAp (Nat.le_of_ble_eq_true rfl) rfl fun p e s m args below meth c C hr hz => ?_
  subst hz
  unfold wp2_turnToElse at hw
  refine r_aload_n C (pc := 0) 0 rfl d2_turnToElse_0 ?_
  have hg1 := hw.1
  have hw := hw.2
  refine g2_inner C (pc := 1) (Nat.le_of_ble_eq_true rfl) w2_30 d2_turnToElse_1 ?_
  refine r_callVi C (pc := 4) (fun sz => ct3_lacksElse l D ca ρ sz C.2.2.2.2.2.2.1 hg1 hw) mf3_lacksElse w2_106 rfl hg1 rfl rfl rfl rfl ⟨Nat.le_of_ble_eq_true rfl, Nat.le_of_ble_eq_true rfl⟩ rfl rfl (Nat.le_of_ble_eq_true rfl) ⟨Nat.zero_le _, Nat.zero_le _⟩ d2_turnToElse_4 (fun r1 S1 hw => ?_)
  refine r_if_ne C (pc := 7) (tgt := 16) d2_turnToElse_7 (by decide) (fun c2 => ?_) (fun c2 => ?_)
  · have hw := hw.1 c2
    refine r_aload_n C (pc := 16) 0 rfl d2_turnToElse_16 ?_
    refine r_callVv C (pc := 17) (fun sz => ct2_takeAllOfFrame l D ca ρ sz C.2.2.2.2.2.2.1 hw) mf2_takeAllOfFrame w2_110 rfl (Nat.le_of_ble_eq_true rfl) rfl rfl rfl rfl ⟨Nat.le_of_ble_eq_true rfl, Nat.le_of_ble_eq_true rfl⟩ rfl rfl (Nat.le_of_ble_eq_true rfl) ⟨Nat.zero_le _, Nat.zero_le _⟩ d2_turnToElse_17 (fun S2 hw => ?_)
    refine r_aload_n C (pc := 20) 0 rfl d2_turnToElse_20 ?_
    have hg3 := hw.1
    have hw := hw.2
    refine g2_inner C (pc := 21) (Nat.le_of_ble_eq_true rfl) w2_30 d2_turnToElse_21 ?_
    refine r_iconst C (pc := 24) (v := 0) d2_turnToElse_24 (by decide) ?_
    refine pN3_dead C (pc := 25) hg3 (Or.inl rfl) w2_113 d2_turnToElse_25 ?_
    refine r_S (fun S3 eS3 => ?_)
    have hw := hw S3 eS3
    refine r_aload_n C (pc := 28) 0 rfl d2_turnToElse_28 ?_
    have hg4 := hw.1
    have hw := hw.2
    refine g2_inner C (pc := 29) (Nat.le_of_ble_eq_true rfl) w2_30 d2_turnToElse_29 ?_
    refine r_iconst C (pc := 32) (v := 1) d2_turnToElse_32 (by decide) ?_
    refine pN3_hasElse C (pc := 33) hg4 (Or.inr rfl) w2_116 d2_turnToElse_33 ?_
    refine r_S (fun S4 eS4 => ?_)
    have hw := hw S4 eS4
    refine r_aload_n C (pc := 36) 0 rfl d2_turnToElse_36 ?_
    have hg5 := hw.1
    have hw := hw.2
    refine g2_function C (pc := 37) (Nat.le_of_ble_eq_true rfl) w2_26 d2_turnToElse_37 ?_
    refine r_aload_n C (pc := 40) 0 rfl d2_turnToElse_40 ?_
    have hg6 := hw.1
    have hw := hw.2
    refine g2_inner C (pc := 41) (Nat.le_of_ble_eq_true rfl) w2_30 d2_turnToElse_41 ?_
    refine gN3_begin C (pc := 44) hg6 w2_119 d2_turnToElse_44 ?_
    refine r_iload_n C (pc := 47) 1 rfl d2_turnToElse_47 ?_
    refine r_iconst C (pc := 48) (v := 1) d2_turnToElse_48 (by decide) ?_
    refine r_iadd C (pc := 49) d2_turnToElse_49 ?_
    refine r_callVv C (pc := 50) (fun sz => ct4_noteElse l D ca ρ sz C.2.2.2.2.2.2.1 hg5 hw) mf4_noteElse w2_103 rfl hg5 rfl rfl rfl rfl ⟨Nat.le_of_ble_eq_true rfl, Nat.le_of_ble_eq_true rfl⟩ rfl rfl (Nat.le_of_ble_eq_true rfl) ⟨Nat.zero_le _, Nat.zero_le _⟩ d2_turnToElse_50 (fun S5 hw => ?_)
    exact r_vret C (pc := 53) hr d2_turnToElse_53 hw
  · have hw := hw.2 c2
    refine r_aload_n C (pc := 10) 0 rfl d2_turnToElse_10 ?_
    refine r_iconst C (pc := 11) (v := 1) d2_turnToElse_11 (by decide) ?_
    refine p2_bad C (pc := 12) (Nat.le_of_ble_eq_true rfl) (Or.inr rfl) w2_41 d2_turnToElse_12 ?_
    refine r_S (fun S6 eS6 => ?_)
    have hw := hw S6 eS6
    exact r_vret C (pc := 15) hr d2_turnToElse_15 hw
set_option maxRecDepth 20000 in
theorem ct2_put (l : Launch) (D : va_G) (ca : Nat → ClassId) (ρ : Nat → Nat → Nat) (sz : Nat) {S : St} {x1 : Int32} {Q : St → Prop} (hAp : Ap true ρ)  (hw : wp2_put S x1 Q) : Met l y2_put [Cond.code y2_put b2_put 2 none] { frames := 0, cells := 0, slots := 0, locals := 0 } (va_Pc [.ref (ρ 2 0), .int x1] (PreU true D ca ρ sz S)) (va_Qv Q (PostU true D ca ρ) (Ar true ρ sz)) 0 0 (Ar true ρ sz) := by
  refine met_of_wm (own := R2) (ls0 := [(0, .ref (ρ 2 0)), (1, .int x1)]) rfl rfl hAp (Nat.le_of_ble_eq_true rfl) rfl fun p e s m args below meth c C hr hz => ?_
  subst hz
  unfold wp2_put at hw
  refine r_iload_n C (pc := 0) 1 rfl d2_put_0 ?_
  refine r_if_ne C (pc := 1) (tgt := 5) d2_put_1 (by decide) (fun c1 => ?_) (fun c1 => ?_)
  · have hw := hw.1 c1
    refine r_aload_n C (pc := 5) 0 rfl d2_put_5 ?_
    refine g2_height C (pc := 6) (Nat.le_of_ble_eq_true rfl) w2_34 d2_put_6 ?_
    refine r_if_lt C (pc := 9) (tgt := 21) d2_put_9 (by decide) (fun c2 => ?_) (fun c2 => ?_)
    · have hw := hw.1 c2
      refine r_aload_n C (pc := 21) 0 rfl d2_put_21 ?_
      refine r_iconst C (pc := 22) (v := 1) d2_put_22 (by decide) ?_
      refine p2_bad C (pc := 23) (Nat.le_of_ble_eq_true rfl) (Or.inr rfl) w2_41 d2_put_23 ?_
      refine r_S (fun S1 eS1 => ?_)
      have hw := hw S1 eS1
      exact r_vret C (pc := 26) hr d2_put_26 hw
    · have hw := hw.2 c2
      refine r_aload_n C (pc := 12) 0 rfl d2_put_12 ?_
      refine g2_height C (pc := 13) (Nat.le_of_ble_eq_true rfl) w2_34 d2_put_13 ?_
      refine r_bipush C (pc := 16) (v := 16) d2_put_16 (by decide) ?_
      refine r_icmp_lt C (pc := 18) (tgt := 27) d2_put_18 (by decide) (fun c3 => ?_) (fun c3 => ?_)
      · have hw := hw.1 c3
        refine r_aload_n C (pc := 27) 0 rfl d2_put_27 ?_
        refine g2_stack C (pc := 28) (Nat.le_of_ble_eq_true rfl) w2_9 d2_put_28 ?_
        refine r_aload_n C (pc := 31) 0 rfl d2_put_31 ?_
        refine g2_height C (pc := 32) (Nat.le_of_ble_eq_true rfl) w2_34 d2_put_32 ?_
        refine r_iload_n C (pc := 35) 1 rfl d2_put_35 ?_
        have hi4 := hw.1
        have hw := hw.2
        refine st1201 C (pc := 36) (Nat.le_of_ble_eq_true rfl) hi4 d2_put_36 ?_
        refine r_S (fun S2 eS2 => ?_)
        have hw := hw S2 eS2
        refine r_aload_n C (pc := 37) 0 rfl d2_put_37 ?_
        refine r_dup C (pc := 38) rfl d2_put_38 ?_
        refine g2_height C (pc := 39) (Nat.le_of_ble_eq_true rfl) w2_34 d2_put_39 ?_
        refine r_iconst C (pc := 42) (v := 1) d2_put_42 (by decide) ?_
        refine r_iadd C (pc := 43) d2_put_43 ?_
        refine p2_height C (pc := 44) (Nat.le_of_ble_eq_true rfl) w2_34 d2_put_44 ?_
        refine r_S (fun S3 eS3 => ?_)
        have hw := hw S3 eS3
        exact r_vret C (pc := 47) hr d2_put_47 hw
      · have hw := hw.2 c3
        refine r_aload_n C (pc := 21) 0 rfl d2_put_21 ?_
        refine r_iconst C (pc := 22) (v := 1) d2_put_22 (by decide) ?_
        refine p2_bad C (pc := 23) (Nat.le_of_ble_eq_true rfl) (Or.inr rfl) w2_41 d2_put_23 ?_
        refine r_S (fun S4 eS4 => ?_)
        have hw := hw S4 eS4
        exact r_vret C (pc := 26) hr d2_put_26 hw
  · have hw := hw.2 c1
    exact r_vret C (pc := 4) hr d2_put_4 hw
set_option maxRecDepth 20000 in
theorem ct4_noteEnd (l : Launch) (D : va_G) (ca : Nat → ClassId) (ρ : Nat → Nat → Nat) (sz : Nat) {S : St} {o : Nat} {x1 : Int32} {x2 : Int32} {Q : St → Prop} (hAp : Ap true ρ) (ho : o < 6) (hw : wp4_noteEnd S o x1 x2 Q) : Met l y4_noteEnd [Cond.code y4_noteEnd b4_noteEnd 3 none] { frames := 0, cells := 0, slots := 0, locals := 0 } (va_Pc [.ref (ρ 4 o), .int x1, .int x2] (PreU true D ca ρ sz S)) (va_Qv Q (PostU true D ca ρ) (Ar true ρ sz)) 0 0 (Ar true ρ sz) := by
  refine met_of_wm (own := R4) (ls0 := [(0, .ref (ρ 4 o)), (1, .int x1), (2, .int x2)]) rfl rfl hAp (Nat.le_of_ble_eq_true rfl) rfl fun p e s m args below meth c C hr hz => ?_
  subst hz
  unfold wp4_noteEnd at hw
  refine r_iload_n C (pc := 0) 1 rfl d4_noteEnd_0 ?_
  refine r_if_lt C (pc := 1) (tgt := 17) d4_noteEnd_1 (by decide) (fun c1 => ?_) (fun c1 => ?_)
  · have hw := hw.1 c1
    exact r_vret C (pc := 17) hr d4_noteEnd_17 hw
  · have hw := hw.2 c1
    refine r_iload_n C (pc := 4) 1 rfl d4_noteEnd_4 ?_
    refine r_bipush C (pc := 5) (v := 60) d4_noteEnd_5 (by decide) ?_
    refine r_icmp_ge C (pc := 7) (tgt := 17) d4_noteEnd_7 (by decide) (fun c2 => ?_) (fun c2 => ?_)
    · have hw := hw.1 c2
      exact r_vret C (pc := 17) hr d4_noteEnd_17 hw
    · have hw := hw.2 c2
      refine r_aload_n C (pc := 10) 0 rfl d4_noteEnd_10 ?_
      refine g4_behindEnd C (pc := 11) ho w4_21 d4_noteEnd_11 ?_
      refine r_iload_n C (pc := 14) 1 rfl d4_noteEnd_14 ?_
      refine r_iload_n C (pc := 15) 2 rfl d4_noteEnd_15 ?_
      have hi3 := hw.1
      have hw := hw.2
      refine st1403 C (pc := 16) ho hi3 d4_noteEnd_16 ?_
      refine r_S (fun S1 eS1 => ?_)
      have hw := hw S1 eS1
      exact r_vret C (pc := 17) hr d4_noteEnd_17 hw
set_option maxRecDepth 20000 in
theorem nd2_endFrame_26 {p : Program} {l : Launch} {e : Env} {s : State} {m : MethodId} {args : Array Value} {below : List Frame} {meth : Method} {c : Code} {D : va_G} {ca : Nat → ClassId} {ρ : Nat → Nat → Nat} {x1 : Int32} {Q : St → Prop}  {S : St} (C : Cx true p l s m meth c R2 b2_endFrame 2 D ca ρ) (hr : meth.sig.returnType = none)   (hw : wp2_endFrame_26 x1 Q  S) : wm true p l e { frames := 2, cells := 0, slots := 0, locals := 42 } s m args below meth c D ca ρ 2 0 0 (qv true below args s D ca ρ 0 0 Q) 26 [(0, .ref (ρ 2 0)), (1, .int x1)] [] S := by
  unfold wp2_endFrame_26 at hw
  refine r_aload_n C (pc := 26) 0 rfl d2_endFrame_26 ?_
  refine r_callVv C (pc := 27) (fun sz => ct2_takeAllOfFrame l D ca ρ sz C.2.2.2.2.2.2.1 hw) mf2_takeAllOfFrame w2_110 rfl (Nat.le_of_ble_eq_true rfl) rfl rfl rfl rfl ⟨Nat.le_of_ble_eq_true rfl, Nat.le_of_ble_eq_true rfl⟩ rfl rfl (Nat.le_of_ble_eq_true rfl) ⟨Nat.zero_le _, Nat.zero_le _⟩ d2_endFrame_27 (fun S1 hw => ?_)
  refine r_aload_n C (pc := 30) 0 rfl d2_endFrame_30 ?_
  refine r_aload_n C (pc := 31) 0 rfl d2_endFrame_31 ?_
  have hg1 := hw.1
  have hw := hw.2
  refine g2_inner C (pc := 32) (Nat.le_of_ble_eq_true rfl) w2_30 d2_endFrame_32 ?_
  refine gN3_outcome C (pc := 35) hg1 w2_122 d2_endFrame_35 ?_
  refine r_callVv C (pc := 38) (fun sz => ct2_put l D ca ρ sz C.2.2.2.2.2.2.1 hw) mf2_put w2_124 rfl (Nat.le_of_ble_eq_true rfl) rfl rfl rfl rfl ⟨Nat.le_of_ble_eq_true rfl, Nat.le_of_ble_eq_true rfl⟩ rfl rfl (Nat.le_of_ble_eq_true rfl) ⟨Nat.zero_le _, Nat.zero_le _⟩ d2_endFrame_38 (fun S2 hw => ?_)
  refine r_aload_n C (pc := 41) 0 rfl d2_endFrame_41 ?_
  have hg2 := hw.1
  have hw := hw.2
  refine g2_function C (pc := 42) (Nat.le_of_ble_eq_true rfl) w2_26 d2_endFrame_42 ?_
  refine r_aload_n C (pc := 45) 0 rfl d2_endFrame_45 ?_
  have hg3 := hw.1
  have hw := hw.2
  refine g2_inner C (pc := 46) (Nat.le_of_ble_eq_true rfl) w2_30 d2_endFrame_46 ?_
  refine gN3_begin C (pc := 49) hg3 w2_119 d2_endFrame_49 ?_
  refine r_iload_n C (pc := 52) 1 rfl d2_endFrame_52 ?_
  refine r_iconst C (pc := 53) (v := 1) d2_endFrame_53 (by decide) ?_
  refine r_iadd C (pc := 54) d2_endFrame_54 ?_
  refine r_callVv C (pc := 55) (fun sz => ct4_noteEnd l D ca ρ sz C.2.2.2.2.2.2.1 hg2 hw) mf4_noteEnd w2_127 rfl hg2 rfl rfl rfl rfl ⟨Nat.le_of_ble_eq_true rfl, Nat.le_of_ble_eq_true rfl⟩ rfl rfl (Nat.le_of_ble_eq_true rfl) ⟨Nat.zero_le _, Nat.zero_le _⟩ d2_endFrame_55 (fun S3 hw => ?_)
  refine r_aload_n C (pc := 58) 0 rfl d2_endFrame_58 ?_
  refine r_dup C (pc := 59) rfl d2_endFrame_59 ?_
  refine g2_frames C (pc := 60) (Nat.le_of_ble_eq_true rfl) w2_38 d2_endFrame_60 ?_
  refine r_iconst C (pc := 63) (v := 1) d2_endFrame_63 (by decide) ?_
  refine r_isub C (pc := 64) d2_endFrame_64 ?_
  refine p2_frames C (pc := 65) (Nat.le_of_ble_eq_true rfl) w2_38 d2_endFrame_65 ?_
  refine r_S (fun S4 eS4 => ?_)
  have hw := hw S4 eS4
  refine r_aload_n C (pc := 68) 0 rfl d2_endFrame_68 ?_
  refine g2_frames C (pc := 69) (Nat.le_of_ble_eq_true rfl) w2_38 d2_endFrame_69 ?_
  refine r_if_le C (pc := 72) (tgt := 99) d2_endFrame_72 (by decide) (fun c4 => ?_) (fun c4 => ?_)
  · have hw := hw.1 c4
    exact r_vret C (pc := 99) hr d2_endFrame_99 hw
  · have hw := hw.2 c4
    refine r_aload_n C (pc := 75) 0 rfl d2_endFrame_75 ?_
    refine g2_frames C (pc := 76) (Nat.le_of_ble_eq_true rfl) w2_38 d2_endFrame_76 ?_
    refine r_bipush C (pc := 79) (v := 8) d2_endFrame_79 (by decide) ?_
    refine r_icmp_gt C (pc := 81) (tgt := 99) d2_endFrame_81 (by decide) (fun c5 => ?_) (fun c5 => ?_)
    · have hw := hw.1 c5
      exact r_vret C (pc := 99) hr d2_endFrame_99 hw
    · have hw := hw.2 c5
      refine r_aload_n C (pc := 84) 0 rfl d2_endFrame_84 ?_
      refine r_aload_n C (pc := 85) 0 rfl d2_endFrame_85 ?_
      refine g2_rows C (pc := 86) (Nat.le_of_ble_eq_true rfl) w2_17 d2_endFrame_86 ?_
      refine r_aload_n C (pc := 89) 0 rfl d2_endFrame_89 ?_
      refine g2_frames C (pc := 90) (Nat.le_of_ble_eq_true rfl) w2_38 d2_endFrame_90 ?_
      refine r_iconst C (pc := 93) (v := 1) d2_endFrame_93 (by decide) ?_
      refine r_isub C (pc := 94) d2_endFrame_94 ?_
      have hi6 := hw.1
      have hw := hw.2
      refine ld1202 C (pc := 95) hi6 d2_endFrame_95 ?_
      refine p2_inner C (pc := 96) (Nat.le_of_ble_eq_true rfl) w2_30 d2_endFrame_96 ?_
      refine r_S (fun S5 eS5 => ?_)
      have hw := hw S5 eS5
      exact r_vret C (pc := 99) hr d2_endFrame_99 hw
set_option maxRecDepth 20000 in
theorem ct2_endFrame (l : Launch) (D : va_G) (ca : Nat → ClassId) (ρ : Nat → Nat → Nat) (sz : Nat) {S : St} {x1 : Int32} {Q : St → Prop} (hAp : Ap true ρ)  (hw : wp2_endFrame S x1 Q) : Met l y2_endFrame [Cond.code y2_endFrame b2_endFrame 2 none] { frames := 2, cells := 0, slots := 0, locals := 42 } (va_Pc [.ref (ρ 2 0), .int x1] (PreU true D ca ρ sz S)) (va_Qv Q (PostU true D ca ρ) (Ar true ρ sz)) 0 0 (Ar true ρ sz) := by
  refine met_of_wm (own := R2) (ls0 := [(0, .ref (ρ 2 0)), (1, .int x1)]) rfl rfl hAp (Nat.le_of_ble_eq_true rfl) rfl fun p e s m args below meth c C hr hz => ?_
  subst hz
  unfold wp2_endFrame at hw
  refine r_aload_n C (pc := 0) 0 rfl d2_endFrame_0 ?_
  have hg1 := hw.1
  have hw := hw.2
  refine g2_inner C (pc := 1) (Nat.le_of_ble_eq_true rfl) w2_30 d2_endFrame_1 ?_
  refine gN3_outcome C (pc := 4) hg1 w2_122 d2_endFrame_4 ?_
  refine r_if_eq C (pc := 7) (tgt := 26) d2_endFrame_7 (by decide) (fun c2 => ?_) (fun c2 => ?_)
  · have hw := hw.1 c2
    refine r_sub (ls' := [(0, .ref (ρ 2 0)), (1, .int x1)]) [0, 1] rfl ?_
    exact nd2_endFrame_26 C hr hw
  · have hw := hw.2 c2
    refine r_aload_n C (pc := 10) 0 rfl d2_endFrame_10 ?_
    have hg3 := hw.1
    have hw := hw.2
    refine g2_inner C (pc := 11) (Nat.le_of_ble_eq_true rfl) w2_30 d2_endFrame_11 ?_
    refine r_callVi C (pc := 14) (fun sz => ct3_lacksElse l D ca ρ sz C.2.2.2.2.2.2.1 hg3 hw) mf3_lacksElse w2_106 rfl hg3 rfl rfl rfl rfl ⟨Nat.le_of_ble_eq_true rfl, Nat.le_of_ble_eq_true rfl⟩ rfl rfl (Nat.le_of_ble_eq_true rfl) ⟨Nat.zero_le _, Nat.zero_le _⟩ d2_endFrame_14 (fun r1 S1 hw => ?_)
    refine r_if_eq C (pc := 17) (tgt := 26) d2_endFrame_17 (by decide) (fun c4 => ?_) (fun c4 => ?_)
    · have hw := hw.1 c4
      refine r_sub (ls' := [(0, .ref (ρ 2 0)), (1, .int x1)]) [0, 1] rfl ?_
      exact nd2_endFrame_26 C hr hw
    · have hw := hw.2 c4
      refine r_aload_n C (pc := 20) 0 rfl d2_endFrame_20 ?_
      refine r_iconst C (pc := 21) (v := 1) d2_endFrame_21 (by decide) ?_
      refine p2_bad C (pc := 22) (Nat.le_of_ble_eq_true rfl) (Or.inr rfl) w2_41 d2_endFrame_22 ?_
      refine r_S (fun S2 eS2 => ?_)
      have hw := hw S2 eS2
      exact r_vret C (pc := 25) hr d2_endFrame_25 hw
set_option maxRecDepth 20000 in
theorem ct2_goOverFrames (l : Launch) (D : va_G) (ca : Nat → ClassId) (ρ : Nat → Nat → Nat) (sz : Nat) {S : St} {x1 : Int32} {x2 : Int32} {x3 : Int32} {Q : St → Prop} (hAp : Ap true ρ)  (hw : wp2_goOverFrames S x1 x2 x3 Q) : Met l y2_goOverFrames [Cond.code y2_goOverFrames b2_goOverFrames 4 none] { frames := 3, cells := 0, slots := 0, locals := 63 } (va_Pc [.ref (ρ 2 0), .int x1, .int x2, .int x3] (PreU true D ca ρ sz S)) (va_Qv Q (PostU true D ca ρ) (Ar true ρ sz)) 0 0 (Ar true ρ sz) := by
  refine met_of_wm (own := R2) (ls0 := [(0, .ref (ρ 2 0)), (1, .int x1), (2, .int x2), (3, .int x3)]) rfl rfl hAp (Nat.le_of_ble_eq_true rfl) rfl fun p e s m args below meth c C hr hz => ?_
  subst hz
  unfold wp2_goOverFrames at hw
  refine r_iload_n C (pc := 0) 2 rfl d2_goOverFrames_0 ?_
  refine r_tsw_in C (pc := 1) (tgt := 44) 0 d2_goOverFrames_1 ⟨by decide, by decide, rfl⟩ (by decide) (fun c1_0 => ?_) (fun c1_0 => ?_)
  · have hw := hw.1 c1_0
    refine r_aload_n C (pc := 44) 0 rfl d2_goOverFrames_44 ?_
    refine r_callVv C (pc := 45) (fun sz => ct2_die l D ca ρ sz C.2.2.2.2.2.2.1 hw) mf2_die w2_87 rfl (Nat.le_of_ble_eq_true rfl) rfl rfl rfl rfl ⟨Nat.le_of_ble_eq_true rfl, Nat.le_of_ble_eq_true rfl⟩ rfl rfl (Nat.le_of_ble_eq_true rfl) ⟨Nat.zero_le _, Nat.zero_le _⟩ d2_goOverFrames_45 (fun S1 hw => ?_)
    refine r_goto C (pc := 48) (tgt := 93) d2_goOverFrames_48 (by decide) ?_
    exact r_vret C (pc := 93) hr d2_goOverFrames_93 hw
  · have hw := hw.2 c1_0
    refine r_tsw_in C (pc := 1) (tgt := 51) 2 d2_goOverFrames_1 ⟨by decide, by decide, rfl⟩ (by decide) (fun c1_1 => ?_) (fun c1_1 => ?_)
    · have hw := hw.1 c1_1
      refine r_aload_n C (pc := 51) 0 rfl d2_goOverFrames_51 ?_
      refine r_iload_n C (pc := 52) 1 rfl d2_goOverFrames_52 ?_
      refine r_iload_n C (pc := 53) 2 rfl d2_goOverFrames_53 ?_
      refine r_iload_n C (pc := 54) 3 rfl d2_goOverFrames_54 ?_
      refine r_callVv C (pc := 55) (fun sz => ct2_beginFrame l D ca ρ sz C.2.2.2.2.2.2.1 hw) mf2_beginFrame w2_53 rfl (Nat.le_of_ble_eq_true rfl) rfl rfl rfl rfl ⟨Nat.le_of_ble_eq_true rfl, Nat.le_of_ble_eq_true rfl⟩ rfl rfl (Nat.le_of_ble_eq_true rfl) ⟨Nat.zero_le _, Nat.zero_le _⟩ d2_goOverFrames_55 (fun S2 hw => ?_)
      refine r_goto C (pc := 58) (tgt := 93) d2_goOverFrames_58 (by decide) ?_
      exact r_vret C (pc := 93) hr d2_goOverFrames_93 hw
    · have hw := hw.2 c1_1
      refine r_tsw_in C (pc := 1) (tgt := 51) 3 d2_goOverFrames_1 ⟨by decide, by decide, rfl⟩ (by decide) (fun c1_2 => ?_) (fun c1_2 => ?_)
      · have hw := hw.1 c1_2
        refine r_aload_n C (pc := 51) 0 rfl d2_goOverFrames_51 ?_
        refine r_iload_n C (pc := 52) 1 rfl d2_goOverFrames_52 ?_
        refine r_iload_n C (pc := 53) 2 rfl d2_goOverFrames_53 ?_
        refine r_iload_n C (pc := 54) 3 rfl d2_goOverFrames_54 ?_
        refine r_callVv C (pc := 55) (fun sz => ct2_beginFrame l D ca ρ sz C.2.2.2.2.2.2.1 hw) mf2_beginFrame w2_53 rfl (Nat.le_of_ble_eq_true rfl) rfl rfl rfl rfl ⟨Nat.le_of_ble_eq_true rfl, Nat.le_of_ble_eq_true rfl⟩ rfl rfl (Nat.le_of_ble_eq_true rfl) ⟨Nat.zero_le _, Nat.zero_le _⟩ d2_goOverFrames_55 (fun S3 hw => ?_)
        refine r_goto C (pc := 58) (tgt := 93) d2_goOverFrames_58 (by decide) ?_
        exact r_vret C (pc := 93) hr d2_goOverFrames_93 hw
      · have hw := hw.2 c1_2
        refine r_tsw_in C (pc := 1) (tgt := 61) 4 d2_goOverFrames_1 ⟨by decide, by decide, rfl⟩ (by decide) (fun c1_3 => ?_) (fun c1_3 => ?_)
        · have hw := hw.1 c1_3
          refine r_aload_n C (pc := 61) 0 rfl d2_goOverFrames_61 ?_
          refine r_iconst C (pc := 62) (v := 1) d2_goOverFrames_62 (by decide) ?_
          refine r_callVi C (pc := 63) (fun sz => ct2_take l D ca ρ sz C.2.2.2.2.2.2.1 hw) mf2_take w2_90 rfl (Nat.le_of_ble_eq_true rfl) rfl rfl rfl rfl ⟨Nat.le_of_ble_eq_true rfl, Nat.le_of_ble_eq_true rfl⟩ rfl rfl (Nat.le_of_ble_eq_true rfl) ⟨Nat.zero_le _, Nat.zero_le _⟩ d2_goOverFrames_63 (fun r1 S4 hw => ?_)
          refine r_pop C (pc := 66) rfl d2_goOverFrames_66 ?_
          refine r_aload_n C (pc := 67) 0 rfl d2_goOverFrames_67 ?_
          refine r_iload_n C (pc := 68) 1 rfl d2_goOverFrames_68 ?_
          refine r_iload_n C (pc := 69) 2 rfl d2_goOverFrames_69 ?_
          refine r_iload_n C (pc := 70) 3 rfl d2_goOverFrames_70 ?_
          refine r_callVv C (pc := 71) (fun sz => ct2_beginFrame l D ca ρ sz C.2.2.2.2.2.2.1 hw) mf2_beginFrame w2_53 rfl (Nat.le_of_ble_eq_true rfl) rfl rfl rfl rfl ⟨Nat.le_of_ble_eq_true rfl, Nat.le_of_ble_eq_true rfl⟩ rfl rfl (Nat.le_of_ble_eq_true rfl) ⟨Nat.zero_le _, Nat.zero_le _⟩ d2_goOverFrames_71 (fun S5 hw => ?_)
          refine r_goto C (pc := 74) (tgt := 93) d2_goOverFrames_74 (by decide) ?_
          exact r_vret C (pc := 93) hr d2_goOverFrames_93 hw
        · have hw := hw.2 c1_3
          refine r_tsw_in C (pc := 1) (tgt := 77) 5 d2_goOverFrames_1 ⟨by decide, by decide, rfl⟩ (by decide) (fun c1_4 => ?_) (fun c1_4 => ?_)
          · have hw := hw.1 c1_4
            refine r_aload_n C (pc := 77) 0 rfl d2_goOverFrames_77 ?_
            refine r_iload_n C (pc := 78) 1 rfl d2_goOverFrames_78 ?_
            refine r_callVv C (pc := 79) (fun sz => ct2_turnToElse l D ca ρ sz C.2.2.2.2.2.2.1 hw) mf2_turnToElse w2_93 rfl (Nat.le_of_ble_eq_true rfl) rfl rfl rfl rfl ⟨Nat.le_of_ble_eq_true rfl, Nat.le_of_ble_eq_true rfl⟩ rfl rfl (Nat.le_of_ble_eq_true rfl) ⟨Nat.zero_le _, Nat.zero_le _⟩ d2_goOverFrames_79 (fun S6 hw => ?_)
            refine r_goto C (pc := 82) (tgt := 93) d2_goOverFrames_82 (by decide) ?_
            exact r_vret C (pc := 93) hr d2_goOverFrames_93 hw
          · have hw := hw.2 c1_4
            refine r_tsw_in C (pc := 1) (tgt := 85) 6 d2_goOverFrames_1 ⟨by decide, by decide, rfl⟩ (by decide) (fun c1_5 => ?_) (fun c1_5 => ?_)
            · have hw := hw.1 c1_5
              refine r_aload_n C (pc := 85) 0 rfl d2_goOverFrames_85 ?_
              refine r_iload_n C (pc := 86) 1 rfl d2_goOverFrames_86 ?_
              refine r_callVv C (pc := 87) (fun sz => ct2_endFrame l D ca ρ sz C.2.2.2.2.2.2.1 hw) mf2_endFrame w2_96 rfl (Nat.le_of_ble_eq_true rfl) rfl rfl rfl rfl ⟨Nat.le_of_ble_eq_true rfl, Nat.le_of_ble_eq_true rfl⟩ rfl rfl (Nat.le_of_ble_eq_true rfl) ⟨Nat.zero_le _, Nat.zero_le _⟩ d2_goOverFrames_87 (fun S7 hw => ?_)
              refine r_goto C (pc := 90) (tgt := 93) d2_goOverFrames_90 (by decide) ?_
              exact r_vret C (pc := 93) hr d2_goOverFrames_93 hw
            · have hw := hw.2 c1_5
              refine r_tsw_out C (pc := 1) (tgt := 93) [0, 2, 3, 4, 5, 6] d2_goOverFrames_1 (by intro v hv; simp only [List.mem_cons, List.not_mem_nil, or_false] at hv; rcases hv with rfl | rfl | rfl | rfl | rfl | rfl <;> assumption) (by decide +kernel) (by decide) ?_
              exact r_vret C (pc := 93) hr d2_goOverFrames_93 hw
set_option maxRecDepth 20000 in
theorem ct3_kindOfJump (l : Launch) (D : va_G) (ca : Nat → ClassId) (ρ : Nat → Nat → Nat) (sz : Nat) {S : St} {o : Nat} {Q : Int32 → St → Prop} (hAp : Ap true ρ) (ho : o < 8) (hw : wp3_kindOfJump S o Q) : Met l y3_kindOfJump [Cond.code y3_kindOfJump b3_kindOfJump 1 (some .int)] { frames := 0, cells := 0, slots := 0, locals := 0 } (va_Pc [.ref (ρ 3 o)] (PreU true D ca ρ sz S)) (va_Qi Q (PostU true D ca ρ) (Ar true ρ sz)) 0 0 (Ar true ρ sz) := by
  refine met_of_wm (own := R3) (ls0 := [(0, .ref (ρ 3 o))]) rfl rfl hAp (Nat.le_of_ble_eq_true rfl) rfl fun p e s m args below meth c C hr hz => ?_
  subst hz
  unfold wp3_kindOfJump at hw
  refine r_aload_n C (pc := 0) 0 rfl d3_kindOfJump_0 ?_
  refine g3_opener C (pc := 1) ho w3_15 d3_kindOfJump_1 ?_
  refine r_iconst C (pc := 4) (v := 3) d3_kindOfJump_4 (by decide) ?_
  refine r_icmp_ne C (pc := 5) (tgt := 12) d3_kindOfJump_5 (by decide) (fun c1 => ?_) (fun c1 => ?_)
  · have hw := hw.1 c1
    refine r_aload_n C (pc := 12) 0 rfl d3_kindOfJump_12 ?_
    refine g3_outcome C (pc := 13) ho w3_21 d3_kindOfJump_13 ?_
    exact r_iret C (pc := 16) hr d3_kindOfJump_16 hw
  · have hw := hw.2 c1
    refine r_iconst C (pc := 8) (v := 0) d3_kindOfJump_8 (by decide) ?_
    refine r_goto C (pc := 9) (tgt := 16) d3_kindOfJump_9 (by decide) ?_
    exact r_iret C (pc := 16) hr d3_kindOfJump_16 hw
set_option maxRecDepth 20000 in
theorem ct2_kindOfJump (l : Launch) (D : va_G) (ca : Nat → ClassId) (ρ : Nat → Nat → Nat) (sz : Nat) {S : St} {x1 : Int32} {Q : Int32 → St → Prop} (hAp : Ap true ρ)  (hw : wp2_kindOfJump S x1 Q) : Met l y2_kindOfJump [Cond.code y2_kindOfJump b2_kindOfJump 3 (some .int)] { frames := 1, cells := 0, slots := 0, locals := 20 } (va_Pc [.ref (ρ 2 0), .int x1] (PreU true D ca ρ sz S)) (va_Qi Q (PostU true D ca ρ) (Ar true ρ sz)) 0 0 (Ar true ρ sz) := by
  refine met_of_wm (own := R2) (ls0 := [(0, .ref (ρ 2 0)), (1, .int x1)]) rfl rfl hAp (Nat.le_of_ble_eq_true rfl) rfl fun p e s m args below meth c C hr hz => ?_
  subst hz
  unfold wp2_kindOfJump at hw
  refine r_aload_n C (pc := 0) 0 rfl d2_kindOfJump_0 ?_
  refine g2_frames C (pc := 1) (Nat.le_of_ble_eq_true rfl) w2_38 d2_kindOfJump_1 ?_
  refine r_iconst C (pc := 4) (v := 1) d2_kindOfJump_4 (by decide) ?_
  refine r_isub C (pc := 5) d2_kindOfJump_5 ?_
  refine r_iload_n C (pc := 6) 1 rfl d2_kindOfJump_6 ?_
  refine r_isub C (pc := 7) d2_kindOfJump_7 ?_
  refine r_topi (fun x2_1 ex2_1 => ?_)
  have hw := hw x2_1 ex2_1
  refine r_istore_n C (pc := 8) (ls' := [(2, .int x2_1), (0, .ref (ρ 2 0)), (1, .int x1)]) (Nat.le_of_ble_eq_true rfl) rfl d2_kindOfJump_8 ?_
  refine r_iload_n C (pc := 9) 0 rfl d2_kindOfJump_9 ?_
  refine r_if_lt C (pc := 10) (tgt := 19) d2_kindOfJump_10 (by decide) (fun c1 => ?_) (fun c1 => ?_)
  · have hw := hw.1 c1
    refine r_aload_n C (pc := 19) 1 rfl d2_kindOfJump_19 ?_
    refine r_iconst C (pc := 20) (v := 1) d2_kindOfJump_20 (by decide) ?_
    refine p2_bad C (pc := 21) (Nat.le_of_ble_eq_true rfl) (Or.inr rfl) w2_41 d2_kindOfJump_21 ?_
    refine r_S (fun S1 eS1 => ?_)
    have hw := hw S1 eS1
    refine r_iconst C (pc := 24) (v := 0) d2_kindOfJump_24 (by decide) ?_
    exact r_iret C (pc := 25) hr d2_kindOfJump_25 hw
  · have hw := hw.2 c1
    refine r_iload_n C (pc := 13) 0 rfl d2_kindOfJump_13 ?_
    refine r_bipush C (pc := 14) (v := 8) d2_kindOfJump_14 (by decide) ?_
    refine r_icmp_lt C (pc := 16) (tgt := 26) d2_kindOfJump_16 (by decide) (fun c2 => ?_) (fun c2 => ?_)
    · have hw := hw.1 c2
      refine r_aload_n C (pc := 26) 1 rfl d2_kindOfJump_26 ?_
      refine g2_rows C (pc := 27) (Nat.le_of_ble_eq_true rfl) w2_17 d2_kindOfJump_27 ?_
      refine r_iload_n C (pc := 30) 0 rfl d2_kindOfJump_30 ?_
      have hi3 := hw.1
      have hw := hw.2
      refine ld1202 C (pc := 31) hi3 d2_kindOfJump_31 ?_
      refine r_callVi C (pc := 32) (fun sz => ct3_kindOfJump l D ca ρ sz C.2.2.2.2.2.2.1 (vp_lt hi3) hw) mf3_kindOfJump w2_140 rfl (vp_lt hi3) rfl rfl rfl rfl ⟨Nat.le_of_ble_eq_true rfl, Nat.le_of_ble_eq_true rfl⟩ rfl rfl (Nat.le_of_ble_eq_true rfl) ⟨Nat.zero_le _, Nat.zero_le _⟩ d2_kindOfJump_32 (fun r1 S2 hw => ?_)
      exact r_iret C (pc := 35) hr d2_kindOfJump_35 hw
    · have hw := hw.2 c2
      refine r_aload_n C (pc := 19) 1 rfl d2_kindOfJump_19 ?_
      refine r_iconst C (pc := 20) (v := 1) d2_kindOfJump_20 (by decide) ?_
      refine p2_bad C (pc := 21) (Nat.le_of_ble_eq_true rfl) (Or.inr rfl) w2_41 d2_kindOfJump_21 ?_
      refine r_S (fun S3 eS3 => ?_)
      have hw := hw S3 eS3
      refine r_iconst C (pc := 24) (v := 0) d2_kindOfJump_24 (by decide) ?_
      exact r_iret C (pc := 25) hr d2_kindOfJump_25 hw
set_option maxRecDepth 20000 in
theorem nd2_kindOfJumps_46 {p : Program} {l : Launch} {e : Env} {s : State} {m : MethodId} {args : Array Value} {below : List Frame} {meth : Method} {c : Code} {D : va_G} {ca : Nat → ClassId} {ρ : Nat → Nat → Nat} {x1 : Int32} {x2 : Int32} {Q : Int32 → St → Prop} {K : Int32 → Int32 → St → Prop} {x3 : Int32} {x4 : Int32} {S : St} (C : Cx true p l s m meth c R2 b2_kindOfJumps 5 D ca ρ) (hr : meth.sig.returnType = (some .int))  (hK : ∀ (x3 : Int32) (x4 : Int32) (S : St) , K x3 x4 S → wm true p l e { frames := 2, cells := 0, slots := 0, locals := 42 } s m args below meth c D ca ρ 5 0 0 (qi true below args s D ca ρ 0 0 Q) 16 [(0, .ref (ρ 2 0)), (1, .int x1), (2, .int x2), (3, .int x3), (4, .int x4)] [] S)  (hw : wp2_kindOfJumps_46 K x1 x2 Q x3 x4 S) : wm true p l e { frames := 2, cells := 0, slots := 0, locals := 42 } s m args below meth c D ca ρ 5 0 0 (qi true below args s D ca ρ 0 0 Q) 46 [(0, .ref (ρ 2 0)), (1, .int x1), (2, .int x2), (3, .int x3), (4, .int x4)] [] S := by
  unfold wp2_kindOfJumps_46 at hw
  obtain ⟨x4_1, ex4_1⟩ : ∃ y : Int32, y = x4 + 1 := ⟨_, rfl⟩
  have hw := hw x4_1 ex4_1
  refine r_iinc C (pc := 46) (v := x4_1) (ls' := [(4, .int x4_1), (0, .ref (ρ 2 0)), (1, .int x1), (2, .int x2), (3, .int x3)]) 4 rfl (by rw [ex4_1]; rfl) (Nat.le_of_ble_eq_true rfl) rfl d2_kindOfJumps_46 ?_
  refine r_goto C (pc := 49) (tgt := 16) d2_kindOfJumps_49 (by decide) ?_
  refine r_sub (ls' := [(0, .ref (ρ 2 0)), (1, .int x1), (2, .int x2), (3, .int x3), (4, .int x4_1)]) [1, 2, 3, 4, 0] rfl ?_
  exact hK _ _ _ hw
set_option maxRecDepth 20000 in
theorem nd2_kindOfJumps_16 {p : Program} {l : Launch} {e : Env} {s : State} {m : MethodId} {args : Array Value} {below : List Frame} {meth : Method} {c : Code} {D : va_G} {ca : Nat → ClassId} {ρ : Nat → Nat → Nat} {x1 : Int32} {x2 : Int32} {Q : Int32 → St → Prop} (C : Cx true p l s m meth c R2 b2_kindOfJumps 5 D ca ρ) (hr : meth.sig.returnType = (some .int))  : ∀ (n : Nat) (x3 : Int32) (x4 : Int32) (S : St) , wp2_kindOfJumps_16 x1 x2 Q n x3 x4 S → wm true p l e { frames := 2, cells := 0, slots := 0, locals := 42 } s m args below meth c D ca ρ 5 0 0 (qi true below args s D ca ρ 0 0 Q) 16 [(0, .ref (ρ 2 0)), (1, .int x1), (2, .int x2), (3, .int x3), (4, .int x4)] [] S := by
  intro n
  induction n with
  | zero => intro x3 x4 S  hw; exact hw.elim
  | succ n ih =>
    intro x3 x4 S  hw
    unfold wp2_kindOfJumps_16 at hw
    refine r_iload C (pc := 16) 4 rfl d2_kindOfJumps_16 ?_
    refine r_iload_n C (pc := 18) 2 rfl d2_kindOfJumps_18 ?_
    refine r_icmp_ge C (pc := 19) (tgt := 52) d2_kindOfJumps_19 (by decide) (fun c1 => ?_) (fun c1 => ?_)
    · have hw := hw.1 c1
      refine r_iload_n C (pc := 52) 3 rfl d2_kindOfJumps_52 ?_
      exact r_iret C (pc := 53) hr d2_kindOfJumps_53 hw
    · have hw := hw.2 c1
      refine r_aload_n C (pc := 22) 0 rfl d2_kindOfJumps_22 ?_
      refine r_aload_n C (pc := 23) 0 rfl d2_kindOfJumps_23 ?_
      have hg2 := hw.1
      have hw := hw.2
      refine g2_function C (pc := 24) (Nat.le_of_ble_eq_true rfl) w2_26 d2_kindOfJumps_24 ?_
      refine r_iload_n C (pc := 27) 1 rfl d2_kindOfJumps_27 ?_
      refine r_iload C (pc := 28) 4 rfl d2_kindOfJumps_28 ?_
      refine r_iadd C (pc := 30) d2_kindOfJumps_30 ?_
      refine r_callVi C (pc := 31) (fun sz => ct4_byteAt l D ca ρ sz C.2.2.2.2.2.2.1 hg2 hw) mf4_byteAt w2_68 rfl hg2 rfl rfl rfl rfl ⟨Nat.le_of_ble_eq_true rfl, Nat.le_of_ble_eq_true rfl⟩ rfl rfl (Nat.le_of_ble_eq_true rfl) ⟨Nat.zero_le _, Nat.zero_le _⟩ d2_kindOfJumps_31 (fun r1 S1 hw => ?_)
      refine r_callVi C (pc := 34) (fun sz => ct2_kindOfJump l D ca ρ sz C.2.2.2.2.2.2.1 hw) mf2_kindOfJump w2_133 rfl (Nat.le_of_ble_eq_true rfl) rfl rfl rfl rfl ⟨Nat.le_of_ble_eq_true rfl, Nat.le_of_ble_eq_true rfl⟩ rfl rfl (Nat.le_of_ble_eq_true rfl) ⟨Nat.zero_le _, Nat.zero_le _⟩ d2_kindOfJumps_34 (fun r2 S2 hw => ?_)
      refine r_iload_n C (pc := 37) 3 rfl d2_kindOfJumps_37 ?_
      refine r_icmp_eq C (pc := 38) (tgt := 46) d2_kindOfJumps_38 (by decide) (fun c3 => ?_) (fun c3 => ?_)
      · have hw := hw.1 c3
        refine r_sub (ls' := [(0, .ref (ρ 2 0)), (1, .int x1), (2, .int x2), (3, .int x3), (4, .int x4)]) [0, 1, 2, 3, 4] rfl ?_
        exact nd2_kindOfJumps_46 C hr ih hw
      · have hw := hw.2 c3
        refine r_aload_n C (pc := 41) 0 rfl d2_kindOfJumps_41 ?_
        refine r_iconst C (pc := 42) (v := 1) d2_kindOfJumps_42 (by decide) ?_
        refine p2_bad C (pc := 43) (Nat.le_of_ble_eq_true rfl) (Or.inr rfl) w2_41 d2_kindOfJumps_43 ?_
        refine r_S (fun S3 eS3 => ?_)
        have hw := hw S3 eS3
        refine r_sub (ls' := [(0, .ref (ρ 2 0)), (1, .int x1), (2, .int x2), (3, .int x3), (4, .int x4)]) [0, 1, 2, 3, 4] rfl ?_
        exact nd2_kindOfJumps_46 C hr ih hw
set_option maxRecDepth 20000 in
theorem ct2_kindOfJumps (l : Launch) (D : va_G) (ca : Nat → ClassId) (ρ : Nat → Nat → Nat) (sz : Nat) {S : St} {x1 : Int32} {x2 : Int32} {Q : Int32 → St → Prop} (hAp : Ap true ρ)  (hw : wp2_kindOfJumps S x1 x2 Q) : Met l y2_kindOfJumps [Cond.code y2_kindOfJumps b2_kindOfJumps 5 (some .int)] { frames := 2, cells := 0, slots := 0, locals := 42 } (va_Pc [.ref (ρ 2 0), .int x1, .int x2] (PreU true D ca ρ sz S)) (va_Qi Q (PostU true D ca ρ) (Ar true ρ sz)) 0 0 (Ar true ρ sz) := by
  refine met_of_wm (own := R2) (ls0 := [(0, .ref (ρ 2 0)), (1, .int x1), (2, .int x2)]) rfl rfl hAp (Nat.le_of_ble_eq_true rfl) rfl fun p e s m args below meth c C hr hz => ?_
  subst hz
  unfold wp2_kindOfJumps at hw
  refine r_aload_n C (pc := 0) 0 rfl d2_kindOfJumps_0 ?_
  refine r_aload_n C (pc := 1) 0 rfl d2_kindOfJumps_1 ?_
  have hg1 := hw.1
  have hw := hw.2
  refine g2_function C (pc := 2) (Nat.le_of_ble_eq_true rfl) w2_26 d2_kindOfJumps_2 ?_
  refine r_iload_n C (pc := 5) 1 rfl d2_kindOfJumps_5 ?_
  refine r_callVi C (pc := 6) (fun sz => ct4_byteAt l D ca ρ sz C.2.2.2.2.2.2.1 hg1 hw) mf4_byteAt w2_68 rfl hg1 rfl rfl rfl rfl ⟨Nat.le_of_ble_eq_true rfl, Nat.le_of_ble_eq_true rfl⟩ rfl rfl (Nat.le_of_ble_eq_true rfl) ⟨Nat.zero_le _, Nat.zero_le _⟩ d2_kindOfJumps_6 (fun r1 S1 hw => ?_)
  refine r_callVi C (pc := 9) (fun sz => ct2_kindOfJump l D ca ρ sz C.2.2.2.2.2.2.1 hw) mf2_kindOfJump w2_133 rfl (Nat.le_of_ble_eq_true rfl) rfl rfl rfl rfl ⟨Nat.le_of_ble_eq_true rfl, Nat.le_of_ble_eq_true rfl⟩ rfl rfl (Nat.le_of_ble_eq_true rfl) ⟨Nat.zero_le _, Nat.zero_le _⟩ d2_kindOfJumps_9 (fun r2 S2 hw => ?_)
  refine r_istore_n C (pc := 12) (ls' := [(3, .int r2), (0, .ref (ρ 2 0)), (1, .int x1), (2, .int x2)]) (Nat.le_of_ble_eq_true rfl) rfl d2_kindOfJumps_12 ?_
  refine r_iconst C (pc := 13) (v := 1) d2_kindOfJumps_13 (by decide) ?_
  refine r_istore C (pc := 14) (ls' := [(4, .int 1), (3, .int r2), (0, .ref (ρ 2 0)), (1, .int x1), (2, .int x2)]) (Nat.le_of_ble_eq_true rfl) rfl d2_kindOfJumps_14 ?_
  refine r_sub (ls' := [(0, .ref (ρ 2 0)), (1, .int x1), (2, .int x2), (3, .int r2), (4, .int 1)]) [2, 3, 4, 1, 0] rfl ?_
  obtain ⟨n, hw⟩ := hw
  exact nd2_kindOfJumps_16 C hr  n _ _ _ hw
set_option maxRecDepth 20000 in
theorem ct2_goOverJumps (l : Launch) (D : va_G) (ca : Nat → ClassId) (ρ : Nat → Nat → Nat) (sz : Nat) {S : St} {x1 : Int32} {x2 : Int32} {x3 : Int32} {Q : St → Prop} (hAp : Ap true ρ)  (hw : wp2_goOverJumps S x1 x2 x3 Q) : Met l y2_goOverJumps [Cond.code y2_goOverJumps b2_goOverJumps 4 none] { frames := 3, cells := 0, slots := 0, locals := 66 } (va_Pc [.ref (ρ 2 0), .int x1, .int x2, .int x3] (PreU true D ca ρ sz S)) (va_Qv Q (PostU true D ca ρ) (Ar true ρ sz)) 0 0 (Ar true ρ sz) := by
  refine met_of_wm (own := R2) (ls0 := [(0, .ref (ρ 2 0)), (1, .int x1), (2, .int x2), (3, .int x3)]) rfl rfl hAp (Nat.le_of_ble_eq_true rfl) rfl fun p e s m args below meth c C hr hz => ?_
  subst hz
  unfold wp2_goOverJumps at hw
  refine r_iload_n C (pc := 0) 2 rfl d2_goOverJumps_0 ?_
  refine r_tsw_in C (pc := 1) (tgt := 28) 7 d2_goOverJumps_1 ⟨by decide, by decide, rfl⟩ (by decide) (fun c1_0 => ?_) (fun c1_0 => ?_)
  · have hw := hw.1 c1_0
    refine r_aload_n C (pc := 28) 0 rfl d2_goOverJumps_28 ?_
    refine r_aload_n C (pc := 29) 0 rfl d2_goOverJumps_29 ?_
    refine r_iload_n C (pc := 30) 3 rfl d2_goOverJumps_30 ?_
    refine r_callVi C (pc := 31) (fun sz => ct2_kindOfJump l D ca ρ sz C.2.2.2.2.2.2.1 hw) mf2_kindOfJump w2_133 rfl (Nat.le_of_ble_eq_true rfl) rfl rfl rfl rfl ⟨Nat.le_of_ble_eq_true rfl, Nat.le_of_ble_eq_true rfl⟩ rfl rfl (Nat.le_of_ble_eq_true rfl) ⟨Nat.zero_le _, Nat.zero_le _⟩ d2_goOverJumps_31 (fun r1 S1 hw => ?_)
    refine r_callVi C (pc := 34) (fun sz => ct2_take l D ca ρ sz C.2.2.2.2.2.2.1 hw) mf2_take w2_90 rfl (Nat.le_of_ble_eq_true rfl) rfl rfl rfl rfl ⟨Nat.le_of_ble_eq_true rfl, Nat.le_of_ble_eq_true rfl⟩ rfl rfl (Nat.le_of_ble_eq_true rfl) ⟨Nat.zero_le _, Nat.zero_le _⟩ d2_goOverJumps_34 (fun r2 S2 hw => ?_)
    refine r_pop C (pc := 37) rfl d2_goOverJumps_37 ?_
    refine r_aload_n C (pc := 38) 0 rfl d2_goOverJumps_38 ?_
    refine r_callVv C (pc := 39) (fun sz => ct2_die l D ca ρ sz C.2.2.2.2.2.2.1 hw) mf2_die w2_87 rfl (Nat.le_of_ble_eq_true rfl) rfl rfl rfl rfl ⟨Nat.le_of_ble_eq_true rfl, Nat.le_of_ble_eq_true rfl⟩ rfl rfl (Nat.le_of_ble_eq_true rfl) ⟨Nat.zero_le _, Nat.zero_le _⟩ d2_goOverJumps_39 (fun S3 hw => ?_)
    refine r_goto C (pc := 42) (tgt := 117) d2_goOverJumps_42 (by decide) ?_
    exact r_vret C (pc := 117) hr d2_goOverJumps_117 hw
  · have hw := hw.2 c1_0
    refine r_tsw_in C (pc := 1) (tgt := 45) 8 d2_goOverJumps_1 ⟨by decide, by decide, rfl⟩ (by decide) (fun c1_1 => ?_) (fun c1_1 => ?_)
    · have hw := hw.1 c1_1
      refine r_aload_n C (pc := 45) 0 rfl d2_goOverJumps_45 ?_
      refine r_iconst C (pc := 46) (v := 1) d2_goOverJumps_46 (by decide) ?_
      refine r_callVi C (pc := 47) (fun sz => ct2_take l D ca ρ sz C.2.2.2.2.2.2.1 hw) mf2_take w2_90 rfl (Nat.le_of_ble_eq_true rfl) rfl rfl rfl rfl ⟨Nat.le_of_ble_eq_true rfl, Nat.le_of_ble_eq_true rfl⟩ rfl rfl (Nat.le_of_ble_eq_true rfl) ⟨Nat.zero_le _, Nat.zero_le _⟩ d2_goOverJumps_47 (fun r3 S4 hw => ?_)
      refine r_pop C (pc := 50) rfl d2_goOverJumps_50 ?_
      refine r_aload_n C (pc := 51) 0 rfl d2_goOverJumps_51 ?_
      refine r_aload_n C (pc := 52) 0 rfl d2_goOverJumps_52 ?_
      refine r_iload_n C (pc := 53) 3 rfl d2_goOverJumps_53 ?_
      refine r_callVi C (pc := 54) (fun sz => ct2_kindOfJump l D ca ρ sz C.2.2.2.2.2.2.1 hw) mf2_kindOfJump w2_133 rfl (Nat.le_of_ble_eq_true rfl) rfl rfl rfl rfl ⟨Nat.le_of_ble_eq_true rfl, Nat.le_of_ble_eq_true rfl⟩ rfl rfl (Nat.le_of_ble_eq_true rfl) ⟨Nat.zero_le _, Nat.zero_le _⟩ d2_goOverJumps_54 (fun r4 S5 hw => ?_)
      refine r_callVi C (pc := 57) (fun sz => ct2_take l D ca ρ sz C.2.2.2.2.2.2.1 hw) mf2_take w2_90 rfl (Nat.le_of_ble_eq_true rfl) rfl rfl rfl rfl ⟨Nat.le_of_ble_eq_true rfl, Nat.le_of_ble_eq_true rfl⟩ rfl rfl (Nat.le_of_ble_eq_true rfl) ⟨Nat.zero_le _, Nat.zero_le _⟩ d2_goOverJumps_57 (fun r5 S6 hw => ?_)
      refine r_pop C (pc := 60) rfl d2_goOverJumps_60 ?_
      refine r_aload_n C (pc := 61) 0 rfl d2_goOverJumps_61 ?_
      refine r_aload_n C (pc := 62) 0 rfl d2_goOverJumps_62 ?_
      refine r_iload_n C (pc := 63) 3 rfl d2_goOverJumps_63 ?_
      refine r_callVi C (pc := 64) (fun sz => ct2_kindOfJump l D ca ρ sz C.2.2.2.2.2.2.1 hw) mf2_kindOfJump w2_133 rfl (Nat.le_of_ble_eq_true rfl) rfl rfl rfl rfl ⟨Nat.le_of_ble_eq_true rfl, Nat.le_of_ble_eq_true rfl⟩ rfl rfl (Nat.le_of_ble_eq_true rfl) ⟨Nat.zero_le _, Nat.zero_le _⟩ d2_goOverJumps_64 (fun r6 S7 hw => ?_)
      refine r_callVv C (pc := 67) (fun sz => ct2_put l D ca ρ sz C.2.2.2.2.2.2.1 hw) mf2_put w2_124 rfl (Nat.le_of_ble_eq_true rfl) rfl rfl rfl rfl ⟨Nat.le_of_ble_eq_true rfl, Nat.le_of_ble_eq_true rfl⟩ rfl rfl (Nat.le_of_ble_eq_true rfl) ⟨Nat.zero_le _, Nat.zero_le _⟩ d2_goOverJumps_67 (fun S8 hw => ?_)
      refine r_goto C (pc := 70) (tgt := 117) d2_goOverJumps_70 (by decide) ?_
      exact r_vret C (pc := 117) hr d2_goOverJumps_117 hw
    · have hw := hw.2 c1_1
      refine r_tsw_in C (pc := 1) (tgt := 73) 9 d2_goOverJumps_1 ⟨by decide, by decide, rfl⟩ (by decide) (fun c1_2 => ?_) (fun c1_2 => ?_)
      · have hw := hw.1 c1_2
        refine r_aload_n C (pc := 73) 0 rfl d2_goOverJumps_73 ?_
        refine r_iconst C (pc := 74) (v := 1) d2_goOverJumps_74 (by decide) ?_
        refine r_callVi C (pc := 75) (fun sz => ct2_take l D ca ρ sz C.2.2.2.2.2.2.1 hw) mf2_take w2_90 rfl (Nat.le_of_ble_eq_true rfl) rfl rfl rfl rfl ⟨Nat.le_of_ble_eq_true rfl, Nat.le_of_ble_eq_true rfl⟩ rfl rfl (Nat.le_of_ble_eq_true rfl) ⟨Nat.zero_le _, Nat.zero_le _⟩ d2_goOverJumps_75 (fun r7 S9 hw => ?_)
        refine r_pop C (pc := 78) rfl d2_goOverJumps_78 ?_
        refine r_aload_n C (pc := 79) 0 rfl d2_goOverJumps_79 ?_
        refine r_aload_n C (pc := 80) 0 rfl d2_goOverJumps_80 ?_
        refine r_iload_n C (pc := 81) 1 rfl d2_goOverJumps_81 ?_
        refine r_iconst C (pc := 82) (v := 2) d2_goOverJumps_82 (by decide) ?_
        refine r_iadd C (pc := 83) d2_goOverJumps_83 ?_
        refine r_iload_n C (pc := 84) 3 rfl d2_goOverJumps_84 ?_
        refine r_iconst C (pc := 85) (v := 1) d2_goOverJumps_85 (by decide) ?_
        refine r_iadd C (pc := 86) d2_goOverJumps_86 ?_
        refine r_callVi C (pc := 87) (fun sz => ct2_kindOfJumps l D ca ρ sz C.2.2.2.2.2.2.1 hw) mf2_kindOfJumps w2_136 rfl (Nat.le_of_ble_eq_true rfl) rfl rfl rfl rfl ⟨Nat.le_of_ble_eq_true rfl, Nat.le_of_ble_eq_true rfl⟩ rfl rfl (Nat.le_of_ble_eq_true rfl) ⟨Nat.zero_le _, Nat.zero_le _⟩ d2_goOverJumps_87 (fun r8 S10 hw => ?_)
        refine r_callVi C (pc := 90) (fun sz => ct2_take l D ca ρ sz C.2.2.2.2.2.2.1 hw) mf2_take w2_90 rfl (Nat.le_of_ble_eq_true rfl) rfl rfl rfl rfl ⟨Nat.le_of_ble_eq_true rfl, Nat.le_of_ble_eq_true rfl⟩ rfl rfl (Nat.le_of_ble_eq_true rfl) ⟨Nat.zero_le _, Nat.zero_le _⟩ d2_goOverJumps_90 (fun r9 S11 hw => ?_)
        refine r_pop C (pc := 93) rfl d2_goOverJumps_93 ?_
        refine r_aload_n C (pc := 94) 0 rfl d2_goOverJumps_94 ?_
        refine r_callVv C (pc := 95) (fun sz => ct2_die l D ca ρ sz C.2.2.2.2.2.2.1 hw) mf2_die w2_87 rfl (Nat.le_of_ble_eq_true rfl) rfl rfl rfl rfl ⟨Nat.le_of_ble_eq_true rfl, Nat.le_of_ble_eq_true rfl⟩ rfl rfl (Nat.le_of_ble_eq_true rfl) ⟨Nat.zero_le _, Nat.zero_le _⟩ d2_goOverJumps_95 (fun S12 hw => ?_)
        refine r_goto C (pc := 98) (tgt := 117) d2_goOverJumps_98 (by decide) ?_
        exact r_vret C (pc := 117) hr d2_goOverJumps_117 hw
      · have hw := hw.2 c1_2
        refine r_tsw_out C (pc := 1) (tgt := 101) [7, 8, 9] d2_goOverJumps_1 (by intro v hv; simp only [List.mem_cons, List.not_mem_nil, or_false] at hv; rcases hv with rfl | rfl | rfl <;> assumption) (by decide +kernel) (by decide) ?_
        refine r_aload_n C (pc := 101) 0 rfl d2_goOverJumps_101 ?_
        refine r_aload_n C (pc := 102) 0 rfl d2_goOverJumps_102 ?_
        have hg2 := hw.1
        have hw := hw.2
        refine g2_function C (pc := 103) (Nat.le_of_ble_eq_true rfl) w2_26 d2_goOverJumps_103 ?_
        refine r_callVi C (pc := 106) (fun sz => ct4_outcome l D ca ρ sz C.2.2.2.2.2.2.1 hg2 hw) mf4_outcome w2_47 rfl hg2 rfl rfl rfl rfl ⟨Nat.le_of_ble_eq_true rfl, Nat.le_of_ble_eq_true rfl⟩ rfl rfl (Nat.le_of_ble_eq_true rfl) ⟨Nat.zero_le _, Nat.zero_le _⟩ d2_goOverJumps_106 (fun r10 S13 hw => ?_)
        refine r_callVi C (pc := 109) (fun sz => ct2_take l D ca ρ sz C.2.2.2.2.2.2.1 hw) mf2_take w2_90 rfl (Nat.le_of_ble_eq_true rfl) rfl rfl rfl rfl ⟨Nat.le_of_ble_eq_true rfl, Nat.le_of_ble_eq_true rfl⟩ rfl rfl (Nat.le_of_ble_eq_true rfl) ⟨Nat.zero_le _, Nat.zero_le _⟩ d2_goOverJumps_109 (fun r11 S14 hw => ?_)
        refine r_pop C (pc := 112) rfl d2_goOverJumps_112 ?_
        refine r_aload_n C (pc := 113) 0 rfl d2_goOverJumps_113 ?_
        refine r_callVv C (pc := 114) (fun sz => ct2_die l D ca ρ sz C.2.2.2.2.2.2.1 hw) mf2_die w2_87 rfl (Nat.le_of_ble_eq_true rfl) rfl rfl rfl rfl ⟨Nat.le_of_ble_eq_true rfl, Nat.le_of_ble_eq_true rfl⟩ rfl rfl (Nat.le_of_ble_eq_true rfl) ⟨Nat.zero_le _, Nat.zero_le _⟩ d2_goOverJumps_114 (fun S15 hw => ?_)
        exact r_vret C (pc := 117) hr d2_goOverJumps_117 hw
set_option maxRecDepth 20000 in
theorem nd2_goOverCall_41 {p : Program} {l : Launch} {e : Env} {s : State} {m : MethodId} {args : Array Value} {below : List Frame} {meth : Method} {c : Code} {D : va_G} {ca : Nat → ClassId} {ρ : Nat → Nat → Nat} {x1 : Int32} {x2 : Int32} {Q : St → Prop} (C : Cx true p l s m meth c R2 b2_goOverCall 4 D ca ρ) (hr : meth.sig.returnType = none)  : ∀ (n : Nat) (x3 : Int32) (S : St) , wp2_goOverCall_41 x1 x2 Q n x3 S → wm true p l e { frames := 1, cells := 0, slots := 0, locals := 22 } s m args below meth c D ca ρ 4 0 0 (qv true below args s D ca ρ 0 0 Q) 41 [(0, .ref (ρ 2 0)), (1, .int x1), (3, .int x3)] [] S := by
  intro n
  induction n with
  | zero => intro x3 S  hw; exact hw.elim
  | succ n ih =>
    intro x3 S  hw
    unfold wp2_goOverCall_41 at hw
    refine r_iload_n C (pc := 41) 2 rfl d2_goOverCall_41 ?_
    refine r_if_lt C (pc := 42) (tgt := 66) d2_goOverCall_42 (by decide) (fun c1 => ?_) (fun c1 => ?_)
    · have hw := hw.1 c1
      refine r_aload_n C (pc := 66) 0 rfl d2_goOverCall_66 ?_
      refine r_aload_n C (pc := 67) 0 rfl d2_goOverCall_67 ?_
      refine g2_functions C (pc := 68) (Nat.le_of_ble_eq_true rfl) w2_21 d2_goOverCall_68 ?_
      refine r_iload_n C (pc := 71) 1 rfl d2_goOverCall_71 ?_
      have hi2 := hw.1
      have hw := hw.2
      refine ld1800 C (pc := 72) hi2 d2_goOverCall_72 ?_
      refine r_callVi C (pc := 73) (fun sz => ct4_outcome l D ca ρ sz C.2.2.2.2.2.2.1 (vp_lt hi2) hw) mf4_outcome w2_47 rfl (vp_lt hi2) rfl rfl rfl rfl ⟨Nat.le_of_ble_eq_true rfl, Nat.le_of_ble_eq_true rfl⟩ rfl rfl (Nat.le_of_ble_eq_true rfl) ⟨Nat.zero_le _, Nat.zero_le _⟩ d2_goOverCall_73 (fun r1 S1 hw => ?_)
      refine r_callVv C (pc := 76) (fun sz => ct2_put l D ca ρ sz C.2.2.2.2.2.2.1 hw) mf2_put w2_124 rfl (Nat.le_of_ble_eq_true rfl) rfl rfl rfl rfl ⟨Nat.le_of_ble_eq_true rfl, Nat.le_of_ble_eq_true rfl⟩ rfl rfl (Nat.le_of_ble_eq_true rfl) ⟨Nat.zero_le _, Nat.zero_le _⟩ d2_goOverCall_76 (fun S2 hw => ?_)
      exact r_vret C (pc := 79) hr d2_goOverCall_79 hw
    · have hw := hw.2 c1
      refine r_aload_n C (pc := 45) 0 rfl d2_goOverCall_45 ?_
      refine r_aload_n C (pc := 46) 0 rfl d2_goOverCall_46 ?_
      refine g2_functions C (pc := 47) (Nat.le_of_ble_eq_true rfl) w2_21 d2_goOverCall_47 ?_
      refine r_iload_n C (pc := 50) 1 rfl d2_goOverCall_50 ?_
      have hi3 := hw.1
      have hw := hw.2
      refine ld1800 C (pc := 51) hi3 d2_goOverCall_51 ?_
      refine r_iload_n C (pc := 52) 2 rfl d2_goOverCall_52 ?_
      refine r_callVi C (pc := 53) (fun sz => ct4_kindOf l D ca ρ sz C.2.2.2.2.2.2.1 (vp_lt hi3) hw) mf4_kindOf w2_152 rfl (vp_lt hi3) rfl rfl rfl rfl ⟨Nat.le_of_ble_eq_true rfl, Nat.le_of_ble_eq_true rfl⟩ rfl rfl (Nat.le_of_ble_eq_true rfl) ⟨Nat.zero_le _, Nat.zero_le _⟩ d2_goOverCall_53 (fun r2 S3 hw => ?_)
      refine r_callVi C (pc := 56) (fun sz => ct2_take l D ca ρ sz C.2.2.2.2.2.2.1 hw) mf2_take w2_90 rfl (Nat.le_of_ble_eq_true rfl) rfl rfl rfl rfl ⟨Nat.le_of_ble_eq_true rfl, Nat.le_of_ble_eq_true rfl⟩ rfl rfl (Nat.le_of_ble_eq_true rfl) ⟨Nat.zero_le _, Nat.zero_le _⟩ d2_goOverCall_56 (fun r3 S4 hw => ?_)
      refine r_pop C (pc := 59) rfl d2_goOverCall_59 ?_
      obtain ⟨x3_1, ex3_1⟩ : ∃ y : Int32, y = x3 + (-1) := ⟨_, rfl⟩
      have hw := hw x3_1 ex3_1
      refine r_iinc C (pc := 60) (v := x3_1) (ls' := [(3, .int x3_1), (0, .ref (ρ 2 0)), (1, .int x1)]) 2 rfl (by rw [ex3_1]; rfl) (Nat.le_of_ble_eq_true rfl) rfl d2_goOverCall_60 ?_
      refine r_goto C (pc := 63) (tgt := 41) d2_goOverCall_63 (by decide) ?_
      refine r_sub (ls' := [(0, .ref (ρ 2 0)), (1, .int x1), (3, .int x3_1)]) [1, 2, 0] rfl ?_
      exact ih _ _ hw
set_option maxRecDepth 20000 in
theorem nd2_goOverCall_29 {p : Program} {l : Launch} {e : Env} {s : State} {m : MethodId} {args : Array Value} {below : List Frame} {meth : Method} {c : Code} {D : va_G} {ca : Nat → ClassId} {ρ : Nat → Nat → Nat} {x1 : Int32} {x2 : Int32} {Q : St → Prop}  {S : St} (C : Cx true p l s m meth c R2 b2_goOverCall 4 D ca ρ) (hr : meth.sig.returnType = none)   (hw : wp2_goOverCall_29 x1 x2 Q  S) : wm true p l e { frames := 1, cells := 0, slots := 0, locals := 22 } s m args below meth c D ca ρ 4 0 0 (qv true below args s D ca ρ 0 0 Q) 29 [(0, .ref (ρ 2 0)), (1, .int x1)] [] S := by
  unfold wp2_goOverCall_29 at hw
  refine r_aload_n C (pc := 29) 0 rfl d2_goOverCall_29 ?_
  refine g2_functions C (pc := 30) (Nat.le_of_ble_eq_true rfl) w2_21 d2_goOverCall_30 ?_
  refine r_iload_n C (pc := 33) 1 rfl d2_goOverCall_33 ?_
  have hi1 := hw.1
  have hw := hw.2
  refine ld1800 C (pc := 34) hi1 d2_goOverCall_34 ?_
  refine r_callVi C (pc := 35) (fun sz => ct4_parameterCount l D ca ρ sz C.2.2.2.2.2.2.1 (vp_lt hi1) hw) mf4_parameterCount w2_162 rfl (vp_lt hi1) rfl rfl rfl rfl ⟨Nat.le_of_ble_eq_true rfl, Nat.le_of_ble_eq_true rfl⟩ rfl rfl (Nat.le_of_ble_eq_true rfl) ⟨Nat.zero_le _, Nat.zero_le _⟩ d2_goOverCall_35 (fun r1 S1 hw => ?_)
  refine r_iconst C (pc := 38) (v := 1) d2_goOverCall_38 (by decide) ?_
  refine r_isub C (pc := 39) d2_goOverCall_39 ?_
  refine r_topi (fun x3_1 ex3_1 => ?_)
  have hw := hw x3_1 ex3_1
  refine r_istore_n C (pc := 40) (ls' := [(3, .int x3_1), (0, .ref (ρ 2 0)), (1, .int x1)]) (Nat.le_of_ble_eq_true rfl) rfl d2_goOverCall_40 ?_
  refine r_sub (ls' := [(0, .ref (ρ 2 0)), (1, .int x1), (3, .int x3_1)]) [1, 2, 0] rfl ?_
  obtain ⟨n, hw⟩ := hw
  exact nd2_goOverCall_41 C hr  n _ _ hw
set_option maxRecDepth 20000 in
theorem ct2_goOverCall (l : Launch) (D : va_G) (ca : Nat → ClassId) (ρ : Nat → Nat → Nat) (sz : Nat) {S : St} {x1 : Int32} {x2 : Int32} {Q : St → Prop} (hAp : Ap true ρ)  (hw : wp2_goOverCall S x1 x2 Q) : Met l y2_goOverCall [Cond.code y2_goOverCall b2_goOverCall 4 none] { frames := 1, cells := 0, slots := 0, locals := 22 } (va_Pc [.ref (ρ 2 0), .int x1, .int x2] (PreU true D ca ρ sz S)) (va_Qv Q (PostU true D ca ρ) (Ar true ρ sz)) 0 0 (Ar true ρ sz) := by
  refine met_of_wm (own := R2) (ls0 := [(0, .ref (ρ 2 0)), (1, .int x1), (2, .int x2)]) rfl rfl hAp (Nat.le_of_ble_eq_true rfl) rfl fun p e s m args below meth c C hr hz => ?_
  subst hz
  unfold wp2_goOverCall at hw
  refine r_iload_n C (pc := 0) 1 rfl d2_goOverCall_0 ?_
  refine r_callNi C (pc := 1) (fun sz => ct8_isFunction l D ca ρ sz C.2.2.2.2.2.2.1 hw) mf8_isFunction w2_158 rfl rfl ⟨Nat.le_of_ble_eq_true rfl, Nat.le_of_ble_eq_true rfl⟩ rfl rfl (Nat.le_of_ble_eq_true rfl) ⟨Nat.zero_le _, Nat.zero_le _⟩ d2_goOverCall_1 (fun r1 S1 hw => ?_)
  refine r_if_eq C (pc := 4) (tgt := 23) d2_goOverCall_4 (by decide) (fun c1 => ?_) (fun c1 => ?_)
  · have hw := hw.1 c1
    refine r_aload_n C (pc := 23) 0 rfl d2_goOverCall_23 ?_
    refine r_iconst C (pc := 24) (v := 1) d2_goOverCall_24 (by decide) ?_
    refine p2_bad C (pc := 25) (Nat.le_of_ble_eq_true rfl) (Or.inr rfl) w2_41 d2_goOverCall_25 ?_
    refine r_S (fun S2 eS2 => ?_)
    have hw := hw S2 eS2
    exact r_vret C (pc := 28) hr d2_goOverCall_28 hw
  · have hw := hw.2 c1
    refine r_iload_n C (pc := 7) 2 rfl d2_goOverCall_7 ?_
    refine r_if_eq C (pc := 8) (tgt := 29) d2_goOverCall_8 (by decide) (fun c2 => ?_) (fun c2 => ?_)
    · have hw := hw.1 c2
      refine r_sub (ls' := [(0, .ref (ρ 2 0)), (1, .int x1)]) [0, 1] rfl ?_
      exact nd2_goOverCall_29 C hr hw
    · have hw := hw.2 c2
      refine r_aload_n C (pc := 11) 0 rfl d2_goOverCall_11 ?_
      refine g2_functions C (pc := 12) (Nat.le_of_ble_eq_true rfl) w2_21 d2_goOverCall_12 ?_
      refine r_iload_n C (pc := 15) 1 rfl d2_goOverCall_15 ?_
      have hi3 := hw.1
      have hw := hw.2
      refine ld1800 C (pc := 16) hi3 d2_goOverCall_16 ?_
      refine r_callVi C (pc := 17) (fun sz => ct4_length l D ca ρ sz C.2.2.2.2.2.2.1 (vp_lt hi3) hw) mf4_length w2_57 rfl (vp_lt hi3) rfl rfl rfl rfl ⟨Nat.le_of_ble_eq_true rfl, Nat.le_of_ble_eq_true rfl⟩ rfl rfl (Nat.le_of_ble_eq_true rfl) ⟨Nat.zero_le _, Nat.zero_le _⟩ d2_goOverCall_17 (fun r2 S3 hw => ?_)
      refine r_if_ne C (pc := 20) (tgt := 29) d2_goOverCall_20 (by decide) (fun c4 => ?_) (fun c4 => ?_)
      · have hw := hw.1 c4
        refine r_sub (ls' := [(0, .ref (ρ 2 0)), (1, .int x1)]) [0, 1] rfl ?_
        exact nd2_goOverCall_29 C hr hw
      · have hw := hw.2 c4
        refine r_aload_n C (pc := 23) 0 rfl d2_goOverCall_23 ?_
        refine r_iconst C (pc := 24) (v := 1) d2_goOverCall_24 (by decide) ?_
        refine p2_bad C (pc := 25) (Nat.le_of_ble_eq_true rfl) (Or.inr rfl) w2_41 d2_goOverCall_25 ?_
        refine r_S (fun S4 eS4 => ?_)
        have hw := hw S4 eS4
        exact r_vret C (pc := 28) hr d2_goOverCall_28 hw
set_option maxRecDepth 20000 in
theorem nd2_goOverSelect_29 {p : Program} {l : Launch} {e : Env} {s : State} {m : MethodId} {args : Array Value} {below : List Frame} {meth : Method} {c : Code} {D : va_G} {ca : Nat → ClassId} {ρ : Nat → Nat → Nat}  {Q : St → Prop} {s1 : Int32} {S : St} (C : Cx true p l s m meth c R2 b2_goOverSelect 3 D ca ρ) (hr : meth.sig.returnType = none)   (hw : wp2_goOverSelect_29  Q s1 S) : wm true p l e { frames := 1, cells := 0, slots := 0, locals := 22 } s m args below meth c D ca ρ 3 0 0 (qv true below args s D ca ρ 0 0 Q) 29 [] [.int s1, .ref (ρ 2 0)] S := by
  unfold wp2_goOverSelect_29 at hw
  refine r_callVv C (pc := 29) (fun sz => ct2_put l D ca ρ sz C.2.2.2.2.2.2.1 hw) mf2_put w2_124 rfl (Nat.le_of_ble_eq_true rfl) rfl rfl rfl rfl ⟨Nat.le_of_ble_eq_true rfl, Nat.le_of_ble_eq_true rfl⟩ rfl rfl (Nat.le_of_ble_eq_true rfl) ⟨Nat.zero_le _, Nat.zero_le _⟩ d2_goOverSelect_29 (fun S1 hw => ?_)
  exact r_vret C (pc := 32) hr d2_goOverSelect_32 hw
set_option maxRecDepth 20000 in
theorem ct2_goOverSelect (l : Launch) (D : va_G) (ca : Nat → ClassId) (ρ : Nat → Nat → Nat) (sz : Nat) {S : St}  {Q : St → Prop} (hAp : Ap true ρ)  (hw : wp2_goOverSelect S Q) : Met l y2_goOverSelect [Cond.code y2_goOverSelect b2_goOverSelect 3 none] { frames := 1, cells := 0, slots := 0, locals := 22 } (va_Pc [.ref (ρ 2 0)] (PreU true D ca ρ sz S)) (va_Qv Q (PostU true D ca ρ) (Ar true ρ sz)) 0 0 (Ar true ρ sz) := by
  refine met_of_wm (own := R2) (ls0 := [(0, .ref (ρ 2 0))]) rfl rfl hAp (Nat.le_of_ble_eq_true rfl) rfl fun p e s m args below meth c C hr hz => ?_
  subst hz
  unfold wp2_goOverSelect at hw
  refine r_aload_n C (pc := 0) 0 rfl d2_goOverSelect_0 ?_
  refine r_iconst C (pc := 1) (v := 1) d2_goOverSelect_1 (by decide) ?_
  refine r_callVi C (pc := 2) (fun sz => ct2_take l D ca ρ sz C.2.2.2.2.2.2.1 hw) mf2_take w2_90 rfl (Nat.le_of_ble_eq_true rfl) rfl rfl rfl rfl ⟨Nat.le_of_ble_eq_true rfl, Nat.le_of_ble_eq_true rfl⟩ rfl rfl (Nat.le_of_ble_eq_true rfl) ⟨Nat.zero_le _, Nat.zero_le _⟩ d2_goOverSelect_2 (fun r1 S1 hw => ?_)
  refine r_pop C (pc := 5) rfl d2_goOverSelect_5 ?_
  refine r_aload_n C (pc := 6) 0 rfl d2_goOverSelect_6 ?_
  refine r_iconst C (pc := 7) (v := 4) d2_goOverSelect_7 (by decide) ?_
  refine r_callVi C (pc := 8) (fun sz => ct2_take l D ca ρ sz C.2.2.2.2.2.2.1 hw) mf2_take w2_90 rfl (Nat.le_of_ble_eq_true rfl) rfl rfl rfl rfl ⟨Nat.le_of_ble_eq_true rfl, Nat.le_of_ble_eq_true rfl⟩ rfl rfl (Nat.le_of_ble_eq_true rfl) ⟨Nat.zero_le _, Nat.zero_le _⟩ d2_goOverSelect_8 (fun r2 S2 hw => ?_)
  refine r_istore_n C (pc := 11) (ls' := [(1, .int r2), (0, .ref (ρ 2 0))]) (Nat.le_of_ble_eq_true rfl) rfl d2_goOverSelect_11 ?_
  refine r_aload_n C (pc := 12) 1 rfl d2_goOverSelect_12 ?_
  refine r_iload_n C (pc := 13) 0 rfl d2_goOverSelect_13 ?_
  refine r_callVi C (pc := 14) (fun sz => ct2_take l D ca ρ sz C.2.2.2.2.2.2.1 hw) mf2_take w2_90 rfl (Nat.le_of_ble_eq_true rfl) rfl rfl rfl rfl ⟨Nat.le_of_ble_eq_true rfl, Nat.le_of_ble_eq_true rfl⟩ rfl rfl (Nat.le_of_ble_eq_true rfl) ⟨Nat.zero_le _, Nat.zero_le _⟩ d2_goOverSelect_14 (fun r3 S3 hw => ?_)
  refine r_istore_n C (pc := 17) (ls' := [(2, .int r3), (1, .int r2), (0, .ref (ρ 2 0))]) (Nat.le_of_ble_eq_true rfl) rfl d2_goOverSelect_17 ?_
  refine r_aload_n C (pc := 18) 2 rfl d2_goOverSelect_18 ?_
  refine r_iload_n C (pc := 19) 1 rfl d2_goOverSelect_19 ?_
  refine r_iconst C (pc := 20) (v := 4) d2_goOverSelect_20 (by decide) ?_
  refine r_icmp_ne C (pc := 21) (tgt := 28) d2_goOverSelect_21 (by decide) (fun c1 => ?_) (fun c1 => ?_)
  · have hw := hw.1 c1
    refine r_iload_n C (pc := 28) 1 rfl d2_goOverSelect_28 ?_
    refine r_sub (ls' := []) [] rfl ?_
    exact nd2_goOverSelect_29 C hr hw
  · have hw := hw.2 c1
    refine r_iload_n C (pc := 24) 0 rfl d2_goOverSelect_24 ?_
    refine r_goto C (pc := 25) (tgt := 29) d2_goOverSelect_25 (by decide) ?_
    refine r_sub (ls' := []) [] rfl ?_
    exact nd2_goOverSelect_29 C hr hw
set_option maxRecDepth 20000 in
theorem ct2_goOverGlobal (l : Launch) (D : va_G) (ca : Nat → ClassId) (ρ : Nat → Nat → Nat) (sz : Nat) {S : St} {x1 : Int32} {x2 : Int32} {Q : St → Prop} (hAp : Ap true ρ)  (hw : wp2_goOverGlobal S x1 x2 Q) : Met l y2_goOverGlobal [Cond.code y2_goOverGlobal b2_goOverGlobal 4 none] { frames := 1, cells := 0, slots := 0, locals := 22 } (va_Pc [.ref (ρ 2 0), .int x1, .int x2] (PreU true D ca ρ sz S)) (va_Qv Q (PostU true D ca ρ) (Ar true ρ sz)) 0 0 (Ar true ρ sz) := by
  refine met_of_wm (own := R2) (ls0 := [(0, .ref (ρ 2 0)), (1, .int x1), (2, .int x2)]) rfl rfl hAp (Nat.le_of_ble_eq_true rfl) rfl fun p e s m args below meth c C hr hz => ?_
  subst hz
  unfold wp2_goOverGlobal at hw
  refine r_iload_n C (pc := 0) 2 rfl d2_goOverGlobal_0 ?_
  refine r_iconst C (pc := 1) (v := 1) d2_goOverGlobal_1 (by decide) ?_
  refine r_iadd C (pc := 2) d2_goOverGlobal_2 ?_
  refine r_topi (fun x3_1 ex3_1 => ?_)
  have hw := hw x3_1 ex3_1
  refine r_istore_n C (pc := 3) (ls' := [(3, .int x3_1), (0, .ref (ρ 2 0)), (1, .int x1), (2, .int x2)]) (Nat.le_of_ble_eq_true rfl) rfl d2_goOverGlobal_3 ?_
  refine r_iload_n C (pc := 4) 0 rfl d2_goOverGlobal_4 ?_
  refine r_iconst C (pc := 5) (v := 3) d2_goOverGlobal_5 (by decide) ?_
  refine r_icmp_le C (pc := 6) (tgt := 17) d2_goOverGlobal_6 (by decide) (fun c1 => ?_) (fun c1 => ?_)
  · have hw := hw.1 c1
    refine r_iload_n C (pc := 17) 2 rfl d2_goOverGlobal_17 ?_
    refine r_bipush C (pc := 18) (v := 18) d2_goOverGlobal_18 (by decide) ?_
    refine r_icmp_ne C (pc := 20) (tgt := 31) d2_goOverGlobal_20 (by decide) (fun c2 => ?_) (fun c2 => ?_)
    · have hw := hw.1 c2
      refine r_aload_n C (pc := 31) 1 rfl d2_goOverGlobal_31 ?_
      refine r_iload_n C (pc := 32) 0 rfl d2_goOverGlobal_32 ?_
      refine r_callVi C (pc := 33) (fun sz => ct2_take l D ca ρ sz C.2.2.2.2.2.2.1 hw) mf2_take w2_90 rfl (Nat.le_of_ble_eq_true rfl) rfl rfl rfl rfl ⟨Nat.le_of_ble_eq_true rfl, Nat.le_of_ble_eq_true rfl⟩ rfl rfl (Nat.le_of_ble_eq_true rfl) ⟨Nat.zero_le _, Nat.zero_le _⟩ d2_goOverGlobal_33 (fun r1 S1 hw => ?_)
      refine r_pop C (pc := 36) rfl d2_goOverGlobal_36 ?_
      exact r_vret C (pc := 37) hr d2_goOverGlobal_37 hw
    · have hw := hw.2 c2
      refine r_aload_n C (pc := 23) 1 rfl d2_goOverGlobal_23 ?_
      refine r_iload_n C (pc := 24) 0 rfl d2_goOverGlobal_24 ?_
      refine r_callVv C (pc := 25) (fun sz => ct2_put l D ca ρ sz C.2.2.2.2.2.2.1 hw) mf2_put w2_124 rfl (Nat.le_of_ble_eq_true rfl) rfl rfl rfl rfl ⟨Nat.le_of_ble_eq_true rfl, Nat.le_of_ble_eq_true rfl⟩ rfl rfl (Nat.le_of_ble_eq_true rfl) ⟨Nat.zero_le _, Nat.zero_le _⟩ d2_goOverGlobal_25 (fun S2 hw => ?_)
      refine r_goto C (pc := 28) (tgt := 37) d2_goOverGlobal_28 (by decide) ?_
      exact r_vret C (pc := 37) hr d2_goOverGlobal_37 hw
  · have hw := hw.2 c1
    refine r_aload_n C (pc := 9) 1 rfl d2_goOverGlobal_9 ?_
    refine r_iconst C (pc := 10) (v := 1) d2_goOverGlobal_10 (by decide) ?_
    refine p2_bad C (pc := 11) (Nat.le_of_ble_eq_true rfl) (Or.inr rfl) w2_41 d2_goOverGlobal_11 ?_
    refine r_S (fun S3 eS3 => ?_)
    have hw := hw S3 eS3
    refine r_goto C (pc := 14) (tgt := 37) d2_goOverGlobal_14 (by decide) ?_
    exact r_vret C (pc := 37) hr d2_goOverGlobal_37 hw
set_option maxRecDepth 20000 in
theorem nd2_goOverVariable_22 {p : Program} {l : Launch} {e : Env} {s : State} {m : MethodId} {args : Array Value} {below : List Frame} {meth : Method} {c : Code} {D : va_G} {ca : Nat → ClassId} {ρ : Nat → Nat → Nat} {x1 : Int32} {x2 : Int32} {Q : St → Prop}  {S : St} (C : Cx true p l s m meth c R2 b2_goOverVariable 3 D ca ρ) (hr : meth.sig.returnType = none)   (hw : wp2_goOverVariable_22 x1 x2 Q  S) : wm true p l e { frames := 1, cells := 0, slots := 0, locals := 22 } s m args below meth c D ca ρ 3 0 0 (qv true below args s D ca ρ 0 0 Q) 22 [(0, .ref (ρ 2 0)), (1, .int x1), (2, .int x2)] [] S := by
  unfold wp2_goOverVariable_22 at hw
  refine r_iload_n C (pc := 22) 1 rfl d2_goOverVariable_22 ?_
  refine r_bipush C (pc := 23) (v := 16) d2_goOverVariable_23 (by decide) ?_
  refine r_icmp_eq C (pc := 25) (tgt := 33) d2_goOverVariable_25 (by decide) (fun c1 => ?_) (fun c1 => ?_)
  · have hw := hw.1 c1
    exact r_vret C (pc := 33) hr d2_goOverVariable_33 hw
  · have hw := hw.2 c1
    refine r_aload_n C (pc := 28) 0 rfl d2_goOverVariable_28 ?_
    refine r_iload_n C (pc := 29) 2 rfl d2_goOverVariable_29 ?_
    refine r_callVv C (pc := 30) (fun sz => ct2_put l D ca ρ sz C.2.2.2.2.2.2.1 hw) mf2_put w2_124 rfl (Nat.le_of_ble_eq_true rfl) rfl rfl rfl rfl ⟨Nat.le_of_ble_eq_true rfl, Nat.le_of_ble_eq_true rfl⟩ rfl rfl (Nat.le_of_ble_eq_true rfl) ⟨Nat.zero_le _, Nat.zero_le _⟩ d2_goOverVariable_30 (fun S1 hw => ?_)
    exact r_vret C (pc := 33) hr d2_goOverVariable_33 hw
set_option maxRecDepth 20000 in
theorem ct2_goOverVariable (l : Launch) (D : va_G) (ca : Nat → ClassId) (ρ : Nat → Nat → Nat) (sz : Nat) {S : St} {x1 : Int32} {x2 : Int32} {Q : St → Prop} (hAp : Ap true ρ)  (hw : wp2_goOverVariable S x1 x2 Q) : Met l y2_goOverVariable [Cond.code y2_goOverVariable b2_goOverVariable 3 none] { frames := 1, cells := 0, slots := 0, locals := 22 } (va_Pc [.ref (ρ 2 0), .int x1, .int x2] (PreU true D ca ρ sz S)) (va_Qv Q (PostU true D ca ρ) (Ar true ρ sz)) 0 0 (Ar true ρ sz) := by
  refine met_of_wm (own := R2) (ls0 := [(0, .ref (ρ 2 0)), (1, .int x1), (2, .int x2)]) rfl rfl hAp (Nat.le_of_ble_eq_true rfl) rfl fun p e s m args below meth c C hr hz => ?_
  subst hz
  unfold wp2_goOverVariable at hw
  refine r_iload_n C (pc := 0) 2 rfl d2_goOverVariable_0 ?_
  refine r_if_ne C (pc := 1) (tgt := 10) d2_goOverVariable_1 (by decide) (fun c1 => ?_) (fun c1 => ?_)
  · have hw := hw.1 c1
    refine r_iload_n C (pc := 10) 1 rfl d2_goOverVariable_10 ?_
    refine r_bipush C (pc := 11) (v := 15) d2_goOverVariable_11 (by decide) ?_
    refine r_icmp_eq C (pc := 13) (tgt := 22) d2_goOverVariable_13 (by decide) (fun c2 => ?_) (fun c2 => ?_)
    · have hw := hw.1 c2
      refine r_sub (ls' := [(0, .ref (ρ 2 0)), (1, .int x1), (2, .int x2)]) [0, 1, 2] rfl ?_
      exact nd2_goOverVariable_22 C hr hw
    · have hw := hw.2 c2
      refine r_aload_n C (pc := 16) 0 rfl d2_goOverVariable_16 ?_
      refine r_iload_n C (pc := 17) 2 rfl d2_goOverVariable_17 ?_
      refine r_callVi C (pc := 18) (fun sz => ct2_take l D ca ρ sz C.2.2.2.2.2.2.1 hw) mf2_take w2_90 rfl (Nat.le_of_ble_eq_true rfl) rfl rfl rfl rfl ⟨Nat.le_of_ble_eq_true rfl, Nat.le_of_ble_eq_true rfl⟩ rfl rfl (Nat.le_of_ble_eq_true rfl) ⟨Nat.zero_le _, Nat.zero_le _⟩ d2_goOverVariable_18 (fun r1 S1 hw => ?_)
      refine r_pop C (pc := 21) rfl d2_goOverVariable_21 ?_
      refine r_sub (ls' := [(0, .ref (ρ 2 0)), (1, .int x1), (2, .int x2)]) [0, 1, 2] rfl ?_
      exact nd2_goOverVariable_22 C hr hw
  · have hw := hw.2 c1
    refine r_aload_n C (pc := 4) 0 rfl d2_goOverVariable_4 ?_
    refine r_iconst C (pc := 5) (v := 1) d2_goOverVariable_5 (by decide) ?_
    refine p2_bad C (pc := 6) (Nat.le_of_ble_eq_true rfl) (Or.inr rfl) w2_41 d2_goOverVariable_6 ?_
    refine r_S (fun S2 eS2 => ?_)
    have hw := hw S2 eS2
    exact r_vret C (pc := 9) hr d2_goOverVariable_9 hw
set_option maxRecDepth 20000 in
theorem ct2_goOverValues (l : Launch) (D : va_G) (ca : Nat → ClassId) (ρ : Nat → Nat → Nat) (sz : Nat) {S : St} {x1 : Int32} {x2 : Int32} {Q : St → Prop} (hAp : Ap true ρ)  (hw : wp2_goOverValues S x1 x2 Q) : Met l y2_goOverValues [Cond.code y2_goOverValues b2_goOverValues 3 none] { frames := 2, cells := 0, slots := 0, locals := 45 } (va_Pc [.ref (ρ 2 0), .int x1, .int x2] (PreU true D ca ρ sz S)) (va_Qv Q (PostU true D ca ρ) (Ar true ρ sz)) 0 0 (Ar true ρ sz) := by
  refine met_of_wm (own := R2) (ls0 := [(0, .ref (ρ 2 0)), (1, .int x1), (2, .int x2)]) rfl rfl hAp (Nat.le_of_ble_eq_true rfl) rfl fun p e s m args below meth c C hr hz => ?_
  subst hz
  unfold wp2_goOverValues at hw
  refine r_iload_n C (pc := 0) 1 rfl d2_goOverValues_0 ?_
  refine r_tsw_in C (pc := 1) (tgt := 52) 11 d2_goOverValues_1 ⟨by decide, by decide, rfl⟩ (by decide) (fun c1_0 => ?_) (fun c1_0 => ?_)
  · have hw := hw.1 c1_0
    refine r_aload_n C (pc := 52) 0 rfl d2_goOverValues_52 ?_
    refine r_iload_n C (pc := 53) 2 rfl d2_goOverValues_53 ?_
    refine r_iconst C (pc := 54) (v := 1) d2_goOverValues_54 (by decide) ?_
    refine r_callVv C (pc := 55) (fun sz => ct2_goOverCall l D ca ρ sz C.2.2.2.2.2.2.1 hw) mf2_goOverCall w2_142 rfl (Nat.le_of_ble_eq_true rfl) rfl rfl rfl rfl ⟨Nat.le_of_ble_eq_true rfl, Nat.le_of_ble_eq_true rfl⟩ rfl rfl (Nat.le_of_ble_eq_true rfl) ⟨Nat.zero_le _, Nat.zero_le _⟩ d2_goOverValues_55 (fun S1 hw => ?_)
    refine r_goto C (pc := 58) (tgt := 114) d2_goOverValues_58 (by decide) ?_
    exact r_vret C (pc := 114) hr d2_goOverValues_114 hw
  · have hw := hw.2 c1_0
    refine r_tsw_in C (pc := 1) (tgt := 61) 12 d2_goOverValues_1 ⟨by decide, by decide, rfl⟩ (by decide) (fun c1_1 => ?_) (fun c1_1 => ?_)
    · have hw := hw.1 c1_1
      refine r_aload_n C (pc := 61) 0 rfl d2_goOverValues_61 ?_
      refine r_iconst C (pc := 62) (v := 1) d2_goOverValues_62 (by decide) ?_
      refine r_callVi C (pc := 63) (fun sz => ct2_take l D ca ρ sz C.2.2.2.2.2.2.1 hw) mf2_take w2_90 rfl (Nat.le_of_ble_eq_true rfl) rfl rfl rfl rfl ⟨Nat.le_of_ble_eq_true rfl, Nat.le_of_ble_eq_true rfl⟩ rfl rfl (Nat.le_of_ble_eq_true rfl) ⟨Nat.zero_le _, Nat.zero_le _⟩ d2_goOverValues_63 (fun r1 S2 hw => ?_)
      refine r_pop C (pc := 66) rfl d2_goOverValues_66 ?_
      refine r_aload_n C (pc := 67) 0 rfl d2_goOverValues_67 ?_
      refine r_iload_n C (pc := 68) 2 rfl d2_goOverValues_68 ?_
      refine r_iconst C (pc := 69) (v := 0) d2_goOverValues_69 (by decide) ?_
      refine r_callVv C (pc := 70) (fun sz => ct2_goOverCall l D ca ρ sz C.2.2.2.2.2.2.1 hw) mf2_goOverCall w2_142 rfl (Nat.le_of_ble_eq_true rfl) rfl rfl rfl rfl ⟨Nat.le_of_ble_eq_true rfl, Nat.le_of_ble_eq_true rfl⟩ rfl rfl (Nat.le_of_ble_eq_true rfl) ⟨Nat.zero_le _, Nat.zero_le _⟩ d2_goOverValues_70 (fun S3 hw => ?_)
      refine r_goto C (pc := 73) (tgt := 114) d2_goOverValues_73 (by decide) ?_
      exact r_vret C (pc := 114) hr d2_goOverValues_114 hw
    · have hw := hw.2 c1_1
      refine r_tsw_in C (pc := 1) (tgt := 76) 13 d2_goOverValues_1 ⟨by decide, by decide, rfl⟩ (by decide) (fun c1_2 => ?_) (fun c1_2 => ?_)
      · have hw := hw.1 c1_2
        refine r_aload_n C (pc := 76) 0 rfl d2_goOverValues_76 ?_
        refine r_iconst C (pc := 77) (v := 4) d2_goOverValues_77 (by decide) ?_
        refine r_callVi C (pc := 78) (fun sz => ct2_take l D ca ρ sz C.2.2.2.2.2.2.1 hw) mf2_take w2_90 rfl (Nat.le_of_ble_eq_true rfl) rfl rfl rfl rfl ⟨Nat.le_of_ble_eq_true rfl, Nat.le_of_ble_eq_true rfl⟩ rfl rfl (Nat.le_of_ble_eq_true rfl) ⟨Nat.zero_le _, Nat.zero_le _⟩ d2_goOverValues_78 (fun r2 S4 hw => ?_)
        refine r_pop C (pc := 81) rfl d2_goOverValues_81 ?_
        refine r_goto C (pc := 82) (tgt := 114) d2_goOverValues_82 (by decide) ?_
        exact r_vret C (pc := 114) hr d2_goOverValues_114 hw
      · have hw := hw.2 c1_2
        refine r_tsw_in C (pc := 1) (tgt := 85) 14 d2_goOverValues_1 ⟨by decide, by decide, rfl⟩ (by decide) (fun c1_3 => ?_) (fun c1_3 => ?_)
        · have hw := hw.1 c1_3
          refine r_aload_n C (pc := 85) 0 rfl d2_goOverValues_85 ?_
          refine r_callVv C (pc := 86) (fun sz => ct2_goOverSelect l D ca ρ sz C.2.2.2.2.2.2.1 hw) mf2_goOverSelect w2_146 rfl (Nat.le_of_ble_eq_true rfl) rfl rfl rfl rfl ⟨Nat.le_of_ble_eq_true rfl, Nat.le_of_ble_eq_true rfl⟩ rfl rfl (Nat.le_of_ble_eq_true rfl) ⟨Nat.zero_le _, Nat.zero_le _⟩ d2_goOverValues_86 (fun S5 hw => ?_)
          refine r_goto C (pc := 89) (tgt := 114) d2_goOverValues_89 (by decide) ?_
          exact r_vret C (pc := 114) hr d2_goOverValues_114 hw
        · have hw := hw.2 c1_3
          refine r_tsw_in C (pc := 1) (tgt := 92) 18 d2_goOverValues_1 ⟨by decide, by decide, rfl⟩ (by decide) (fun c1_4 => ?_) (fun c1_4 => ?_)
          · have hw := hw.1 c1_4
            refine r_aload_n C (pc := 92) 0 rfl d2_goOverValues_92 ?_
            refine r_iload_n C (pc := 93) 1 rfl d2_goOverValues_93 ?_
            refine r_iload_n C (pc := 94) 2 rfl d2_goOverValues_94 ?_
            refine r_callVv C (pc := 95) (fun sz => ct2_goOverGlobal l D ca ρ sz C.2.2.2.2.2.2.1 hw) mf2_goOverGlobal w2_149 rfl (Nat.le_of_ble_eq_true rfl) rfl rfl rfl rfl ⟨Nat.le_of_ble_eq_true rfl, Nat.le_of_ble_eq_true rfl⟩ rfl rfl (Nat.le_of_ble_eq_true rfl) ⟨Nat.zero_le _, Nat.zero_le _⟩ d2_goOverValues_95 (fun S6 hw => ?_)
            refine r_goto C (pc := 98) (tgt := 114) d2_goOverValues_98 (by decide) ?_
            exact r_vret C (pc := 114) hr d2_goOverValues_114 hw
          · have hw := hw.2 c1_4
            refine r_tsw_in C (pc := 1) (tgt := 92) 19 d2_goOverValues_1 ⟨by decide, by decide, rfl⟩ (by decide) (fun c1_5 => ?_) (fun c1_5 => ?_)
            · have hw := hw.1 c1_5
              refine r_aload_n C (pc := 92) 0 rfl d2_goOverValues_92 ?_
              refine r_iload_n C (pc := 93) 1 rfl d2_goOverValues_93 ?_
              refine r_iload_n C (pc := 94) 2 rfl d2_goOverValues_94 ?_
              refine r_callVv C (pc := 95) (fun sz => ct2_goOverGlobal l D ca ρ sz C.2.2.2.2.2.2.1 hw) mf2_goOverGlobal w2_149 rfl (Nat.le_of_ble_eq_true rfl) rfl rfl rfl rfl ⟨Nat.le_of_ble_eq_true rfl, Nat.le_of_ble_eq_true rfl⟩ rfl rfl (Nat.le_of_ble_eq_true rfl) ⟨Nat.zero_le _, Nat.zero_le _⟩ d2_goOverValues_95 (fun S7 hw => ?_)
              refine r_goto C (pc := 98) (tgt := 114) d2_goOverValues_98 (by decide) ?_
              exact r_vret C (pc := 114) hr d2_goOverValues_114 hw
            · have hw := hw.2 c1_5
              refine r_tsw_out C (pc := 1) (tgt := 101) [11, 12, 13, 14, 18, 19] d2_goOverValues_1 (by intro v hv; simp only [List.mem_cons, List.not_mem_nil, or_false] at hv; rcases hv with rfl | rfl | rfl | rfl | rfl | rfl <;> assumption) (by decide +kernel) (by decide) ?_
              refine r_aload_n C (pc := 101) 0 rfl d2_goOverValues_101 ?_
              refine r_iload_n C (pc := 102) 1 rfl d2_goOverValues_102 ?_
              refine r_aload_n C (pc := 103) 0 rfl d2_goOverValues_103 ?_
              have hg2 := hw.1
              have hw := hw.2
              refine g2_function C (pc := 104) (Nat.le_of_ble_eq_true rfl) w2_26 d2_goOverValues_104 ?_
              refine r_iload_n C (pc := 107) 2 rfl d2_goOverValues_107 ?_
              refine r_callVi C (pc := 108) (fun sz => ct4_kindOf l D ca ρ sz C.2.2.2.2.2.2.1 hg2 hw) mf4_kindOf w2_152 rfl hg2 rfl rfl rfl rfl ⟨Nat.le_of_ble_eq_true rfl, Nat.le_of_ble_eq_true rfl⟩ rfl rfl (Nat.le_of_ble_eq_true rfl) ⟨Nat.zero_le _, Nat.zero_le _⟩ d2_goOverValues_108 (fun r3 S8 hw => ?_)
              refine r_callVv C (pc := 111) (fun sz => ct2_goOverVariable l D ca ρ sz C.2.2.2.2.2.2.1 hw) mf2_goOverVariable w2_155 rfl (Nat.le_of_ble_eq_true rfl) rfl rfl rfl rfl ⟨Nat.le_of_ble_eq_true rfl, Nat.le_of_ble_eq_true rfl⟩ rfl rfl (Nat.le_of_ble_eq_true rfl) ⟨Nat.zero_le _, Nat.zero_le _⟩ d2_goOverValues_111 (fun S9 hw => ?_)
              exact r_vret C (pc := 114) hr d2_goOverValues_114 hw
set_option maxRecDepth 20000 in
theorem ct2_goOverSignature (l : Launch) (D : va_G) (ca : Nat → ClassId) (ρ : Nat → Nat → Nat) (sz : Nat) {S : St} {x1 : Int32} {Q : St → Prop} (hAp : Ap true ρ)  (hw : wp2_goOverSignature S x1 Q) : Met l y2_goOverSignature [Cond.code y2_goOverSignature b2_goOverSignature 2 none] { frames := 1, cells := 0, slots := 0, locals := 22 } (va_Pc [.ref (ρ 2 0), .int x1] (PreU true D ca ρ sz S)) (va_Qv Q (PostU true D ca ρ) (Ar true ρ sz)) 0 0 (Ar true ρ sz) := by
  refine met_of_wm (own := R2) (ls0 := [(0, .ref (ρ 2 0)), (1, .int x1)]) rfl rfl hAp (Nat.le_of_ble_eq_true rfl) rfl fun p e s m args below meth c C hr hz => ?_
  subst hz
  unfold wp2_goOverSignature at hw
  refine r_aload_n C (pc := 0) 0 rfl d2_goOverSignature_0 ?_
  refine r_iload_n C (pc := 1) 1 rfl d2_goOverSignature_1 ?_
  refine r_bipush C (pc := 2) (v := 100) d2_goOverSignature_2 (by decide) ?_
  refine r_idiv C (pc := 4) d2_goOverSignature_4 (by decide) ?_
  refine r_callVi C (pc := 5) (fun sz => ct2_take l D ca ρ sz C.2.2.2.2.2.2.1 hw) mf2_take w2_90 rfl (Nat.le_of_ble_eq_true rfl) rfl rfl rfl rfl ⟨Nat.le_of_ble_eq_true rfl, Nat.le_of_ble_eq_true rfl⟩ rfl rfl (Nat.le_of_ble_eq_true rfl) ⟨Nat.zero_le _, Nat.zero_le _⟩ d2_goOverSignature_5 (fun r1 S1 hw => ?_)
  refine r_pop C (pc := 8) rfl d2_goOverSignature_8 ?_
  refine r_aload_n C (pc := 9) 0 rfl d2_goOverSignature_9 ?_
  refine r_iload_n C (pc := 10) 1 rfl d2_goOverSignature_10 ?_
  refine r_bipush C (pc := 11) (v := 10) d2_goOverSignature_11 (by decide) ?_
  refine r_idiv C (pc := 13) d2_goOverSignature_13 (by decide) ?_
  refine r_bipush C (pc := 14) (v := 10) d2_goOverSignature_14 (by decide) ?_
  refine r_irem C (pc := 16) d2_goOverSignature_16 (by decide) ?_
  refine r_callVi C (pc := 17) (fun sz => ct2_take l D ca ρ sz C.2.2.2.2.2.2.1 hw) mf2_take w2_90 rfl (Nat.le_of_ble_eq_true rfl) rfl rfl rfl rfl ⟨Nat.le_of_ble_eq_true rfl, Nat.le_of_ble_eq_true rfl⟩ rfl rfl (Nat.le_of_ble_eq_true rfl) ⟨Nat.zero_le _, Nat.zero_le _⟩ d2_goOverSignature_17 (fun r2 S2 hw => ?_)
  refine r_pop C (pc := 20) rfl d2_goOverSignature_20 ?_
  refine r_aload_n C (pc := 21) 0 rfl d2_goOverSignature_21 ?_
  refine r_iload_n C (pc := 22) 1 rfl d2_goOverSignature_22 ?_
  refine r_bipush C (pc := 23) (v := 10) d2_goOverSignature_23 (by decide) ?_
  refine r_irem C (pc := 25) d2_goOverSignature_25 (by decide) ?_
  refine r_callVv C (pc := 26) (fun sz => ct2_put l D ca ρ sz C.2.2.2.2.2.2.1 hw) mf2_put w2_124 rfl (Nat.le_of_ble_eq_true rfl) rfl rfl rfl rfl ⟨Nat.le_of_ble_eq_true rfl, Nat.le_of_ble_eq_true rfl⟩ rfl rfl (Nat.le_of_ble_eq_true rfl) ⟨Nat.zero_le _, Nat.zero_le _⟩ d2_goOverSignature_26 (fun S3 hw => ?_)
  exact r_vret C (pc := 29) hr d2_goOverSignature_29 hw
set_option maxRecDepth 20000 in
theorem ct2_goOver (l : Launch) (D : va_G) (ca : Nat → ClassId) (ρ : Nat → Nat → Nat) (sz : Nat) {S : St} {x1 : Int32} {Q : St → Prop} (hAp : Ap true ρ)  (hw : wp2_goOver S x1 Q) : Met l y2_goOver [Cond.code y2_goOver b2_goOver 4 none] { frames := 4, cells := 0, slots := 0, locals := 89 } (va_Pc [.ref (ρ 2 0), .int x1] (PreU true D ca ρ sz S)) (va_Qv Q (PostU true D ca ρ) (Ar true ρ sz)) 0 0 (Ar true ρ sz) := by
  refine met_of_wm (own := R2) (ls0 := [(0, .ref (ρ 2 0)), (1, .int x1)]) rfl rfl hAp (Nat.le_of_ble_eq_true rfl) rfl fun p e s m args below meth c C hr hz => ?_
  subst hz
  unfold wp2_goOver at hw
  refine r_aload_n C (pc := 0) 0 rfl d2_goOver_0 ?_
  have hg1 := hw.1
  have hw := hw.2
  refine g2_function C (pc := 1) (Nat.le_of_ble_eq_true rfl) w2_26 d2_goOver_1 ?_
  refine r_iload_n C (pc := 4) 1 rfl d2_goOver_4 ?_
  refine r_callVi C (pc := 5) (fun sz => ct4_byteAt l D ca ρ sz C.2.2.2.2.2.2.1 hg1 hw) mf4_byteAt w2_68 rfl hg1 rfl rfl rfl rfl ⟨Nat.le_of_ble_eq_true rfl, Nat.le_of_ble_eq_true rfl⟩ rfl rfl (Nat.le_of_ble_eq_true rfl) ⟨Nat.zero_le _, Nat.zero_le _⟩ d2_goOver_5 (fun r1 S1 hw => ?_)
  refine r_istore_n C (pc := 8) (ls' := [(2, .int r1), (0, .ref (ρ 2 0)), (1, .int x1)]) (Nat.le_of_ble_eq_true rfl) rfl d2_goOver_8 ?_
  refine r_aload_n C (pc := 9) 1 rfl d2_goOver_9 ?_
  have hg2 := hw.1
  have hw := hw.2
  refine g2_function C (pc := 10) (Nat.le_of_ble_eq_true rfl) w2_26 d2_goOver_10 ?_
  refine r_iload_n C (pc := 13) 2 rfl d2_goOver_13 ?_
  refine r_iconst C (pc := 14) (v := 1) d2_goOver_14 (by decide) ?_
  refine r_iadd C (pc := 15) d2_goOver_15 ?_
  refine r_callVi C (pc := 16) (fun sz => ct4_byteAt l D ca ρ sz C.2.2.2.2.2.2.1 hg2 hw) mf4_byteAt w2_68 rfl hg2 rfl rfl rfl rfl ⟨Nat.le_of_ble_eq_true rfl, Nat.le_of_ble_eq_true rfl⟩ rfl rfl (Nat.le_of_ble_eq_true rfl) ⟨Nat.zero_le _, Nat.zero_le _⟩ d2_goOver_16 (fun r2 S2 hw => ?_)
  refine r_istore_n C (pc := 19) (ls' := [(3, .int r2), (2, .int r1), (0, .ref (ρ 2 0)), (1, .int x1)]) (Nat.le_of_ble_eq_true rfl) rfl d2_goOver_19 ?_
  refine r_iload_n C (pc := 20) 1 rfl d2_goOver_20 ?_
  refine r_bipush C (pc := 21) (v := 6) d2_goOver_21 (by decide) ?_
  refine r_icmp_gt C (pc := 23) (tgt := 36) d2_goOver_23 (by decide) (fun c3 => ?_) (fun c3 => ?_)
  · have hw := hw.1 c3
    refine r_iload_n C (pc := 36) 1 rfl d2_goOver_36 ?_
    refine r_bipush C (pc := 37) (v := 10) d2_goOver_37 (by decide) ?_
    refine r_icmp_gt C (pc := 39) (tgt := 52) d2_goOver_39 (by decide) (fun c4 => ?_) (fun c4 => ?_)
    · have hw := hw.1 c4
      refine r_iload_n C (pc := 52) 1 rfl d2_goOver_52 ?_
      refine r_bipush C (pc := 53) (v := 19) d2_goOver_53 (by decide) ?_
      refine r_icmp_gt C (pc := 55) (tgt := 67) d2_goOver_55 (by decide) (fun c5 => ?_) (fun c5 => ?_)
      · have hw := hw.1 c5
        refine r_aload_n C (pc := 67) 2 rfl d2_goOver_67 ?_
        refine r_iload_n C (pc := 68) 1 rfl d2_goOver_68 ?_
        refine r_callSi C (pc := 69) (fun sz => ct5_signature l D ca ρ sz C.2.2.2.2.2.2.1 hw) mf5_signature w2_81 rfl rfl ⟨Nat.le_of_ble_eq_true rfl, Nat.le_of_ble_eq_true rfl⟩ rfl rfl (Nat.le_of_ble_eq_true rfl) ⟨Nat.zero_le _, Nat.zero_le _⟩ d2_goOver_69 (fun r3 S3 hw => ?_)
        refine r_callVv C (pc := 72) (fun sz => ct2_goOverSignature l D ca ρ sz C.2.2.2.2.2.2.1 hw) mf2_goOverSignature w2_84 rfl (Nat.le_of_ble_eq_true rfl) rfl rfl rfl rfl ⟨Nat.le_of_ble_eq_true rfl, Nat.le_of_ble_eq_true rfl⟩ rfl rfl (Nat.le_of_ble_eq_true rfl) ⟨Nat.zero_le _, Nat.zero_le _⟩ d2_goOver_72 (fun S4 hw => ?_)
        exact r_vret C (pc := 75) hr d2_goOver_75 hw
      · have hw := hw.2 c5
        refine r_aload_n C (pc := 58) 2 rfl d2_goOver_58 ?_
        refine r_iload_n C (pc := 59) 1 rfl d2_goOver_59 ?_
        refine r_iload_n C (pc := 60) 0 rfl d2_goOver_60 ?_
        refine r_callVv C (pc := 61) (fun sz => ct2_goOverValues l D ca ρ sz C.2.2.2.2.2.2.1 hw) mf2_goOverValues w2_77 rfl (Nat.le_of_ble_eq_true rfl) rfl rfl rfl rfl ⟨Nat.le_of_ble_eq_true rfl, Nat.le_of_ble_eq_true rfl⟩ rfl rfl (Nat.le_of_ble_eq_true rfl) ⟨Nat.zero_le _, Nat.zero_le _⟩ d2_goOver_61 (fun S5 hw => ?_)
        refine r_goto C (pc := 64) (tgt := 75) d2_goOver_64 (by decide) ?_
        exact r_vret C (pc := 75) hr d2_goOver_75 hw
    · have hw := hw.2 c4
      refine r_aload_n C (pc := 42) 2 rfl d2_goOver_42 ?_
      refine r_iload_n C (pc := 43) 3 rfl d2_goOver_43 ?_
      refine r_iload_n C (pc := 44) 1 rfl d2_goOver_44 ?_
      refine r_iload_n C (pc := 45) 0 rfl d2_goOver_45 ?_
      refine r_callVv C (pc := 46) (fun sz => ct2_goOverJumps l D ca ρ sz C.2.2.2.2.2.2.1 hw) mf2_goOverJumps w2_74 rfl (Nat.le_of_ble_eq_true rfl) rfl rfl rfl rfl ⟨Nat.le_of_ble_eq_true rfl, Nat.le_of_ble_eq_true rfl⟩ rfl rfl (Nat.le_of_ble_eq_true rfl) ⟨Nat.zero_le _, Nat.zero_le _⟩ d2_goOver_46 (fun S6 hw => ?_)
      refine r_goto C (pc := 49) (tgt := 75) d2_goOver_49 (by decide) ?_
      exact r_vret C (pc := 75) hr d2_goOver_75 hw
  · have hw := hw.2 c3
    refine r_aload_n C (pc := 26) 2 rfl d2_goOver_26 ?_
    refine r_iload_n C (pc := 27) 3 rfl d2_goOver_27 ?_
    refine r_iload_n C (pc := 28) 1 rfl d2_goOver_28 ?_
    refine r_iload_n C (pc := 29) 0 rfl d2_goOver_29 ?_
    refine r_callVv C (pc := 30) (fun sz => ct2_goOverFrames l D ca ρ sz C.2.2.2.2.2.2.1 hw) mf2_goOverFrames w2_71 rfl (Nat.le_of_ble_eq_true rfl) rfl rfl rfl rfl ⟨Nat.le_of_ble_eq_true rfl, Nat.le_of_ble_eq_true rfl⟩ rfl rfl (Nat.le_of_ble_eq_true rfl) ⟨Nat.zero_le _, Nat.zero_le _⟩ d2_goOver_30 (fun S7 hw => ?_)
    refine r_goto C (pc := 33) (tgt := 75) d2_goOver_33 (by decide) ?_
    exact r_vret C (pc := 75) hr d2_goOver_75 hw
set_option maxRecDepth 20000 in
theorem nd2_faultIn_125 {p : Program} {l : Launch} {e : Env} {s : State} {m : MethodId} {args : Array Value} {below : List Frame} {meth : Method} {c : Code} {D : va_G} {ca : Nat → ClassId} {ρ : Nat → Nat → Nat} {a1 : Nat} {Q : Int32 → St → Prop}  {S : St} (C : Cx true p l s m meth c R2 b2_faultIn 5 D ca ρ) (hr : meth.sig.returnType = (some .int)) (ha1 : a1 < 6)  (hw : wp2_faultIn_125 a1 Q  S) : wm true p l e { frames := 5, cells := 0, slots := 0, locals := 112 } s m args below meth c D ca ρ 5 0 0 (qi true below args s D ca ρ 0 0 Q) 125 [(0, .ref (ρ 2 0))] [] S := by
  unfold wp2_faultIn_125 at hw
  refine r_aload_n C (pc := 125) 0 rfl d2_faultIn_125 ?_
  refine g2_frames C (pc := 126) (Nat.le_of_ble_eq_true rfl) w2_38 d2_faultIn_126 ?_
  refine r_if_ne C (pc := 129) (tgt := 136) d2_faultIn_129 (by decide) (fun c1 => ?_) (fun c1 => ?_)
  · have hw := hw.1 c1
    refine r_aload_n C (pc := 136) 0 rfl d2_faultIn_136 ?_
    have hg2 := hw.1
    have hw := hw.2
    refine g2_function C (pc := 137) (Nat.le_of_ble_eq_true rfl) w2_26 d2_faultIn_137 ?_
    refine r_callVi C (pc := 140) (fun sz => ct4_length l D ca ρ sz C.2.2.2.2.2.2.1 hg2 hw) mf4_length w2_57 rfl hg2 rfl rfl rfl rfl ⟨Nat.le_of_ble_eq_true rfl, Nat.le_of_ble_eq_true rfl⟩ rfl rfl (Nat.le_of_ble_eq_true rfl) ⟨Nat.zero_le _, Nat.zero_le _⟩ d2_faultIn_140 (fun r1 S1 hw => ?_)
    exact r_iret C (pc := 143) hr d2_faultIn_143 hw
  · have hw := hw.2 c1
    refine r_iconst C (pc := 132) (v := (-1)) d2_faultIn_132 (by decide) ?_
    refine r_goto C (pc := 133) (tgt := 143) d2_faultIn_133 (by decide) ?_
    exact r_iret C (pc := 143) hr d2_faultIn_143 hw
set_option maxRecDepth 20000 in
theorem nd2_faultIn_37 {p : Program} {l : Launch} {e : Env} {s : State} {m : MethodId} {args : Array Value} {below : List Frame} {meth : Method} {c : Code} {D : va_G} {ca : Nat → ClassId} {ρ : Nat → Nat → Nat} {a1 : Nat} {Q : Int32 → St → Prop} (C : Cx true p l s m meth c R2 b2_faultIn 5 D ca ρ) (hr : meth.sig.returnType = (some .int)) (ha1 : a1 < 6) : ∀ (n : Nat) (x2 : Int32) (x3 : Int32) (S : St) , wp2_faultIn_37 a1 Q n x2 x3 S → wm true p l e { frames := 5, cells := 0, slots := 0, locals := 112 } s m args below meth c D ca ρ 5 0 0 (qi true below args s D ca ρ 0 0 Q) 37 [(0, .ref (ρ 2 0)), (2, .int x2), (3, .int x3)] [] S := by
  intro n
  induction n with
  | zero => intro x2 x3 S  hw; exact hw.elim
  | succ n ih =>
    intro x2 x3 S  hw
    unfold wp2_faultIn_37 at hw
    refine r_iload_n C (pc := 37) 2 rfl d2_faultIn_37 ?_
    refine r_bipush C (pc := 38) (v := 60) d2_faultIn_38 (by decide) ?_
    refine r_icmp_ge C (pc := 40) (tgt := 125) d2_faultIn_40 (by decide) (fun c1 => ?_) (fun c1 => ?_)
    · have hw := hw.1 c1
      refine r_sub (ls' := [(0, .ref (ρ 2 0))]) [0] rfl ?_
      exact nd2_faultIn_125 C hr ha1 hw
    · have hw := hw.2 c1
      refine r_iload_n C (pc := 43) 1 rfl d2_faultIn_43 ?_
      refine r_aload_n C (pc := 44) 0 rfl d2_faultIn_44 ?_
      have hg2 := hw.1
      have hw := hw.2
      refine g2_function C (pc := 45) (Nat.le_of_ble_eq_true rfl) w2_26 d2_faultIn_45 ?_
      refine r_callVi C (pc := 48) (fun sz => ct4_length l D ca ρ sz C.2.2.2.2.2.2.1 hg2 hw) mf4_length w2_57 rfl hg2 rfl rfl rfl rfl ⟨Nat.le_of_ble_eq_true rfl, Nat.le_of_ble_eq_true rfl⟩ rfl rfl (Nat.le_of_ble_eq_true rfl) ⟨Nat.zero_le _, Nat.zero_le _⟩ d2_faultIn_48 (fun r1 S1 hw => ?_)
      refine r_icmp_ge C (pc := 51) (tgt := 125) d2_faultIn_51 (by decide) (fun c3 => ?_) (fun c3 => ?_)
      · have hw := hw.1 c3
        refine r_sub (ls' := [(0, .ref (ρ 2 0))]) [0] rfl ?_
        exact nd2_faultIn_125 C hr ha1 hw
      · have hw := hw.2 c3
        refine r_aload_n C (pc := 54) 0 rfl d2_faultIn_54 ?_
        have hg4 := hw.1
        have hw := hw.2
        refine g2_function C (pc := 55) (Nat.le_of_ble_eq_true rfl) w2_26 d2_faultIn_55 ?_
        refine r_iload_n C (pc := 58) 1 rfl d2_faultIn_58 ?_
        refine r_callVi C (pc := 59) (fun sz => ct4_sizeAt l D ca ρ sz C.2.2.2.2.2.2.1 hg4 hw) mf4_sizeAt w2_60 rfl hg4 rfl rfl rfl rfl ⟨Nat.le_of_ble_eq_true rfl, Nat.le_of_ble_eq_true rfl⟩ rfl rfl (Nat.le_of_ble_eq_true rfl) ⟨Nat.zero_le _, Nat.zero_le _⟩ d2_faultIn_59 (fun r2 S2 hw => ?_)
        refine r_istore C (pc := 62) (ls' := [(4, .int r2), (0, .ref (ρ 2 0)), (2, .int x2), (3, .int x3)]) (Nat.le_of_ble_eq_true rfl) rfl d2_faultIn_62 ?_
        refine r_aload_n C (pc := 64) 1 rfl d2_faultIn_64 ?_
        refine g2_frames C (pc := 65) (Nat.le_of_ble_eq_true rfl) w2_38 d2_faultIn_65 ?_
        refine r_if_eq C (pc := 68) (tgt := 76) d2_faultIn_68 (by decide) (fun c5 => ?_) (fun c5 => ?_)
        · have hw := hw.1 c5
          refine r_iload_n C (pc := 76) 2 rfl d2_faultIn_76 ?_
          exact r_iret C (pc := 77) hr d2_faultIn_77 hw
        · have hw := hw.2 c5
          refine r_iload C (pc := 71) 0 rfl d2_faultIn_71 ?_
          refine r_if_ne C (pc := 73) (tgt := 78) d2_faultIn_73 (by decide) (fun c6 => ?_) (fun c6 => ?_)
          · have hw := hw.1 c6
            refine r_iload_n C (pc := 78) 2 rfl d2_faultIn_78 ?_
            refine r_iload C (pc := 79) 0 rfl d2_faultIn_79 ?_
            refine r_iadd C (pc := 81) d2_faultIn_81 ?_
            refine r_aload_n C (pc := 82) 1 rfl d2_faultIn_82 ?_
            have hg7 := hw.1
            have hw := hw.2
            refine g2_function C (pc := 83) (Nat.le_of_ble_eq_true rfl) w2_26 d2_faultIn_83 ?_
            refine r_callVi C (pc := 86) (fun sz => ct4_length l D ca ρ sz C.2.2.2.2.2.2.1 hg7 hw) mf4_length w2_57 rfl hg7 rfl rfl rfl rfl ⟨Nat.le_of_ble_eq_true rfl, Nat.le_of_ble_eq_true rfl⟩ rfl rfl (Nat.le_of_ble_eq_true rfl) ⟨Nat.zero_le _, Nat.zero_le _⟩ d2_faultIn_86 (fun r3 S3 hw => ?_)
            refine r_icmp_le C (pc := 89) (tgt := 100) d2_faultIn_89 (by decide) (fun c8 => ?_) (fun c8 => ?_)
            · have hw := hw.1 c8
              refine r_aload_n C (pc := 100) 1 rfl d2_faultIn_100 ?_
              refine r_iload_n C (pc := 101) 2 rfl d2_faultIn_101 ?_
              refine r_callVv C (pc := 102) (fun sz => ct2_goOver l D ca ρ sz C.2.2.2.2.2.2.1 hw) mf2_goOver w2_64 rfl (Nat.le_of_ble_eq_true rfl) rfl rfl rfl rfl ⟨Nat.le_of_ble_eq_true rfl, Nat.le_of_ble_eq_true rfl⟩ rfl rfl (Nat.le_of_ble_eq_true rfl) ⟨Nat.zero_le _, Nat.zero_le _⟩ d2_faultIn_102 (fun S4 hw => ?_)
              refine r_aload_n C (pc := 105) 1 rfl d2_faultIn_105 ?_
              refine g2_bad C (pc := 106) (Nat.le_of_ble_eq_true rfl) w2_41 d2_faultIn_106 ?_
              refine r_if_eq C (pc := 109) (tgt := 114) d2_faultIn_109 (by decide) (fun c9 => ?_) (fun c9 => ?_)
              · have hw := hw.1 c9
                refine r_iload_n C (pc := 114) 2 rfl d2_faultIn_114 ?_
                refine r_iload C (pc := 115) 0 rfl d2_faultIn_115 ?_
                refine r_iadd C (pc := 117) d2_faultIn_117 ?_
                refine r_topi (fun x2_1 ex2_1 => ?_)
                have hw := hw x2_1 ex2_1
                refine r_istore_n C (pc := 118) (ls' := [(2, .int x2_1), (4, .int r2), (0, .ref (ρ 2 0)), (3, .int x3)]) (Nat.le_of_ble_eq_true rfl) rfl d2_faultIn_118 ?_
                obtain ⟨x3_1, ex3_1⟩ : ∃ y : Int32, y = x3 + 1 := ⟨_, rfl⟩
                have hw := hw x3_1 ex3_1
                refine r_iinc C (pc := 119) (v := x3_1) (ls' := [(3, .int x3_1), (2, .int x2_1), (4, .int r2), (0, .ref (ρ 2 0))]) 3 rfl (by rw [ex3_1]; rfl) (Nat.le_of_ble_eq_true rfl) rfl d2_faultIn_119 ?_
                refine r_goto C (pc := 122) (tgt := 37) d2_faultIn_122 (by decide) ?_
                refine r_sub (ls' := [(0, .ref (ρ 2 0)), (2, .int x2_1), (3, .int x3_1)]) [3, 1, 0] rfl ?_
                exact ih _ _ _ hw
              · have hw := hw.2 c9
                refine r_iload_n C (pc := 112) 2 rfl d2_faultIn_112 ?_
                exact r_iret C (pc := 113) hr d2_faultIn_113 hw
            · have hw := hw.2 c8
              refine r_aload_n C (pc := 92) 1 rfl d2_faultIn_92 ?_
              have hg10 := hw.1
              have hw := hw.2
              refine g2_function C (pc := 93) (Nat.le_of_ble_eq_true rfl) w2_26 d2_faultIn_93 ?_
              refine r_callVi C (pc := 96) (fun sz => ct4_length l D ca ρ sz C.2.2.2.2.2.2.1 hg10 hw) mf4_length w2_57 rfl hg10 rfl rfl rfl rfl ⟨Nat.le_of_ble_eq_true rfl, Nat.le_of_ble_eq_true rfl⟩ rfl rfl (Nat.le_of_ble_eq_true rfl) ⟨Nat.zero_le _, Nat.zero_le _⟩ d2_faultIn_96 (fun r4 S5 hw => ?_)
              exact r_iret C (pc := 99) hr d2_faultIn_99 hw
          · have hw := hw.2 c6
            refine r_iload_n C (pc := 76) 2 rfl d2_faultIn_76 ?_
            exact r_iret C (pc := 77) hr d2_faultIn_77 hw
set_option maxRecDepth 20000 in
theorem ct2_faultIn (l : Launch) (D : va_G) (ca : Nat → ClassId) (ρ : Nat → Nat → Nat) (sz : Nat) {S : St} {a1 : Nat} {Q : Int32 → St → Prop} (hAp : Ap true ρ) (ha1 : a1 < 6) (hw : wp2_faultIn S a1 Q) : Met l y2_faultIn [Cond.code y2_faultIn b2_faultIn 5 (some .int)] { frames := 5, cells := 0, slots := 0, locals := 112 } (va_Pc [.ref (ρ 2 0), .ref (ρ 4 a1)] (PreU true D ca ρ sz S)) (va_Qi Q (PostU true D ca ρ) (Ar true ρ sz)) 0 0 (Ar true ρ sz) := by
  refine met_of_wm (own := R2) (ls0 := [(0, .ref (ρ 2 0)), (1, .ref (ρ 4 a1))]) rfl rfl hAp (Nat.le_of_ble_eq_true rfl) rfl fun p e s m args below meth c C hr hz => ?_
  subst hz
  unfold wp2_faultIn at hw
  refine r_aload_n C (pc := 0) 0 rfl d2_faultIn_0 ?_
  refine r_aload_n C (pc := 1) 1 rfl d2_faultIn_1 ?_
  refine p2_function C (pc := 2) (Nat.le_of_ble_eq_true rfl) w2_26 d2_faultIn_2 ?_
  refine r_S (fun S1 eS1 => ?_)
  have hw := hw S1 eS1
  refine r_aload_n C (pc := 5) 0 rfl d2_faultIn_5 ?_
  refine r_iconst C (pc := 6) (v := 0) d2_faultIn_6 (by decide) ?_
  refine p2_height C (pc := 7) (Nat.le_of_ble_eq_true rfl) w2_34 d2_faultIn_7 ?_
  refine r_S (fun S2 eS2 => ?_)
  have hw := hw S2 eS2
  refine r_aload_n C (pc := 10) 0 rfl d2_faultIn_10 ?_
  refine r_iconst C (pc := 11) (v := 0) d2_faultIn_11 (by decide) ?_
  refine p2_frames C (pc := 12) (Nat.le_of_ble_eq_true rfl) w2_38 d2_faultIn_12 ?_
  refine r_S (fun S3 eS3 => ?_)
  have hw := hw S3 eS3
  refine r_aload_n C (pc := 15) 0 rfl d2_faultIn_15 ?_
  refine r_iconst C (pc := 16) (v := 0) d2_faultIn_16 (by decide) ?_
  refine p2_bad C (pc := 17) (Nat.le_of_ble_eq_true rfl) (Or.inl rfl) w2_41 d2_faultIn_17 ?_
  refine r_S (fun S4 eS4 => ?_)
  have hw := hw S4 eS4
  refine r_aload_n C (pc := 20) 0 rfl d2_faultIn_20 ?_
  refine r_iconst C (pc := 21) (v := (-1)) d2_faultIn_21 (by decide) ?_
  refine r_iconst C (pc := 22) (v := 2) d2_faultIn_22 (by decide) ?_
  refine r_aload_n C (pc := 23) 0 rfl d2_faultIn_23 ?_
  have hg1 := hw.1
  have hw := hw.2
  refine g2_function C (pc := 24) (Nat.le_of_ble_eq_true rfl) w2_26 d2_faultIn_24 ?_
  refine r_callVi C (pc := 27) (fun sz => ct4_outcome l D ca ρ sz C.2.2.2.2.2.2.1 hg1 hw) mf4_outcome w2_47 rfl hg1 rfl rfl rfl rfl ⟨Nat.le_of_ble_eq_true rfl, Nat.le_of_ble_eq_true rfl⟩ rfl rfl (Nat.le_of_ble_eq_true rfl) ⟨Nat.zero_le _, Nat.zero_le _⟩ d2_faultIn_27 (fun r1 S5 hw => ?_)
  refine r_callVv C (pc := 30) (fun sz => ct2_beginFrame l D ca ρ sz C.2.2.2.2.2.2.1 hw) mf2_beginFrame w2_53 rfl (Nat.le_of_ble_eq_true rfl) rfl rfl rfl rfl ⟨Nat.le_of_ble_eq_true rfl, Nat.le_of_ble_eq_true rfl⟩ rfl rfl (Nat.le_of_ble_eq_true rfl) ⟨Nat.zero_le _, Nat.zero_le _⟩ d2_faultIn_30 (fun S6 hw => ?_)
  refine r_iconst C (pc := 33) (v := 0) d2_faultIn_33 (by decide) ?_
  refine r_istore_n C (pc := 34) (ls' := [(2, .int 0), (0, .ref (ρ 2 0)), (1, .ref (ρ 4 a1))]) (Nat.le_of_ble_eq_true rfl) rfl d2_faultIn_34 ?_
  refine r_iconst C (pc := 35) (v := 0) d2_faultIn_35 (by decide) ?_
  refine r_istore_n C (pc := 36) (ls' := [(3, .int 0), (2, .int 0), (0, .ref (ρ 2 0)), (1, .ref (ρ 4 a1))]) (Nat.le_of_ble_eq_true rfl) rfl d2_faultIn_36 ?_
  refine r_sub (ls' := [(0, .ref (ρ 2 0)), (2, .int 0), (3, .int 0)]) [2, 1, 0] rfl ?_
  obtain ⟨n, hw⟩ := hw
  exact nd2_faultIn_37 C hr ha1 n _ _ _ hw
set_option maxRecDepth 20000 in
theorem ct4_addVariable (l : Launch) (D : va_G) (ca : Nat → ClassId) (ρ : Nat → Nat → Nat) (sz : Nat) {S : St} {o : Nat} {x1 : Int32} {Q : St → Prop} (hAp : Ap true ρ) (ho : o < 6) (hw : wp4_addVariable S o x1 Q) : Met l y4_addVariable [Cond.code y4_addVariable b4_addVariable 2 none] { frames := 0, cells := 0, slots := 0, locals := 0 } (va_Pc [.ref (ρ 4 o), .int x1] (PreU true D ca ρ sz S)) (va_Qv Q (PostU true D ca ρ) (Ar true ρ sz)) 0 0 (Ar true ρ sz) := by
  refine met_of_wm (own := R4) (ls0 := [(0, .ref (ρ 4 o)), (1, .int x1)]) rfl rfl hAp (Nat.le_of_ble_eq_true rfl) rfl fun p e s m args below meth c C hr hz => ?_
  subst hz
  unfold wp4_addVariable at hw
  refine r_iload_n C (pc := 0) 1 rfl d4_addVariable_0 ?_
  refine r_if_eq C (pc := 1) (tgt := 33) d4_addVariable_1 (by decide) (fun c1 => ?_) (fun c1 => ?_)
  · have hw := hw.1 c1
    exact r_vret C (pc := 33) hr d4_addVariable_33 hw
  · have hw := hw.2 c1
    refine r_aload_n C (pc := 4) 0 rfl d4_addVariable_4 ?_
    refine g4_variableCount C (pc := 5) ho w4_24 d4_addVariable_5 ?_
    refine r_bipush C (pc := 8) (v := 6) d4_addVariable_8 (by decide) ?_
    refine r_icmp_ge C (pc := 10) (tgt := 33) d4_addVariable_10 (by decide) (fun c2 => ?_) (fun c2 => ?_)
    · have hw := hw.1 c2
      exact r_vret C (pc := 33) hr d4_addVariable_33 hw
    · have hw := hw.2 c2
      refine r_aload_n C (pc := 13) 0 rfl d4_addVariable_13 ?_
      refine g4_kinds C (pc := 14) ho w4_9 d4_addVariable_14 ?_
      refine r_aload_n C (pc := 17) 0 rfl d4_addVariable_17 ?_
      refine g4_variableCount C (pc := 18) ho w4_24 d4_addVariable_18 ?_
      refine r_iload_n C (pc := 21) 1 rfl d4_addVariable_21 ?_
      have hi3 := hw.1
      have hw := hw.2
      refine st1400 C (pc := 22) ho hi3 d4_addVariable_22 ?_
      refine r_S (fun S1 eS1 => ?_)
      have hw := hw S1 eS1
      refine r_aload_n C (pc := 23) 0 rfl d4_addVariable_23 ?_
      refine r_dup C (pc := 24) rfl d4_addVariable_24 ?_
      refine g4_variableCount C (pc := 25) ho w4_24 d4_addVariable_25 ?_
      refine r_iconst C (pc := 28) (v := 1) d4_addVariable_28 (by decide) ?_
      refine r_iadd C (pc := 29) d4_addVariable_29 ?_
      refine p4_variableCount C (pc := 30) ho w4_24 d4_addVariable_30 ?_
      refine r_S (fun S2 eS2 => ?_)
      have hw := hw S2 eS2
      exact r_vret C (pc := 33) hr d4_addVariable_33 hw
set_option maxRecDepth 20000 in
theorem ct4_addVariables (l : Launch) (D : va_G) (ca : Nat → ClassId) (ρ : Nat → Nat → Nat) (sz : Nat) {S : St} {o : Nat} {x1 : Int32} {Q : St → Prop} (hAp : Ap true ρ) (ho : o < 6) (hw : wp4_addVariables S o x1 Q) : Met l y4_addVariables [Cond.code y4_addVariables b4_addVariables 2 none] { frames := 1, cells := 0, slots := 0, locals := 21 } (va_Pc [.ref (ρ 4 o), .int x1] (PreU true D ca ρ sz S)) (va_Qv Q (PostU true D ca ρ) (Ar true ρ sz)) 0 0 (Ar true ρ sz) := by
  refine met_of_wm (own := R4) (ls0 := [(0, .ref (ρ 4 o)), (1, .int x1)]) rfl rfl hAp (Nat.le_of_ble_eq_true rfl) rfl fun p e s m args below meth c C hr hz => ?_
  subst hz
  unfold wp4_addVariables at hw
  refine r_aload_n C (pc := 0) 0 rfl d4_addVariables_0 ?_
  refine r_iload_n C (pc := 1) 1 rfl d4_addVariables_1 ?_
  refine r_bipush C (pc := 2) (v := 100) d4_addVariables_2 (by decide) ?_
  refine r_idiv C (pc := 4) d4_addVariables_4 (by decide) ?_
  refine r_callVv C (pc := 5) (fun sz => ct4_addVariable l D ca ρ sz C.2.2.2.2.2.2.1 ho hw) mf4_addVariable w4_41 rfl ho rfl rfl rfl rfl ⟨Nat.le_of_ble_eq_true rfl, Nat.le_of_ble_eq_true rfl⟩ rfl rfl (Nat.le_of_ble_eq_true rfl) ⟨Nat.zero_le _, Nat.zero_le _⟩ d4_addVariables_5 (fun S1 hw => ?_)
  refine r_aload_n C (pc := 8) 0 rfl d4_addVariables_8 ?_
  refine r_iload_n C (pc := 9) 1 rfl d4_addVariables_9 ?_
  refine r_bipush C (pc := 10) (v := 10) d4_addVariables_10 (by decide) ?_
  refine r_idiv C (pc := 12) d4_addVariables_12 (by decide) ?_
  refine r_bipush C (pc := 13) (v := 10) d4_addVariables_13 (by decide) ?_
  refine r_irem C (pc := 15) d4_addVariables_15 (by decide) ?_
  refine r_callVv C (pc := 16) (fun sz => ct4_addVariable l D ca ρ sz C.2.2.2.2.2.2.1 ho hw) mf4_addVariable w4_41 rfl ho rfl rfl rfl rfl ⟨Nat.le_of_ble_eq_true rfl, Nat.le_of_ble_eq_true rfl⟩ rfl rfl (Nat.le_of_ble_eq_true rfl) ⟨Nat.zero_le _, Nat.zero_le _⟩ d4_addVariables_16 (fun S2 hw => ?_)
  refine r_aload_n C (pc := 19) 0 rfl d4_addVariables_19 ?_
  refine r_iload_n C (pc := 20) 1 rfl d4_addVariables_20 ?_
  refine r_bipush C (pc := 21) (v := 10) d4_addVariables_21 (by decide) ?_
  refine r_irem C (pc := 23) d4_addVariables_23 (by decide) ?_
  refine r_callVv C (pc := 24) (fun sz => ct4_addVariable l D ca ρ sz C.2.2.2.2.2.2.1 ho hw) mf4_addVariable w4_41 rfl ho rfl rfl rfl rfl ⟨Nat.le_of_ble_eq_true rfl, Nat.le_of_ble_eq_true rfl⟩ rfl rfl (Nat.le_of_ble_eq_true rfl) ⟨Nat.zero_le _, Nat.zero_le _⟩ d4_addVariables_24 (fun S3 hw => ?_)
  exact r_vret C (pc := 27) hr d4_addVariables_27 hw
set_option maxRecDepth 20000 in
theorem ct4_reshape (l : Launch) (D : va_G) (ca : Nat → ClassId) (ρ : Nat → Nat → Nat) (sz : Nat) {S : St} {o : Nat} {x1 : Int32} {x2 : Int32} {x3 : Int32} {Q : St → Prop} (hAp : Ap true ρ) (ho : o < 6) (hw : wp4_reshape S o x1 x2 x3 Q) : Met l y4_reshape [Cond.code y4_reshape b4_reshape 4 none] { frames := 2, cells := 0, slots := 0, locals := 42 } (va_Pc [.ref (ρ 4 o), .int x1, .int x2, .int x3] (PreU true D ca ρ sz S)) (va_Qv Q (PostU true D ca ρ) (Ar true ρ sz)) 0 0 (Ar true ρ sz) := by
  refine met_of_wm (own := R4) (ls0 := [(0, .ref (ρ 4 o)), (1, .int x1), (2, .int x2), (3, .int x3)]) rfl rfl hAp (Nat.le_of_ble_eq_true rfl) rfl fun p e s m args below meth c C hr hz => ?_
  subst hz
  unfold wp4_reshape at hw
  refine r_aload_n C (pc := 0) 0 rfl d4_reshape_0 ?_
  refine r_iconst C (pc := 1) (v := 0) d4_reshape_1 (by decide) ?_
  refine p4_variableCount C (pc := 2) ho w4_24 d4_reshape_2 ?_
  refine r_S (fun S1 eS1 => ?_)
  have hw := hw S1 eS1
  refine r_aload_n C (pc := 5) 0 rfl d4_reshape_5 ?_
  refine r_iload_n C (pc := 6) 1 rfl d4_reshape_6 ?_
  refine r_callVv C (pc := 7) (fun sz => ct4_addVariables l D ca ρ sz C.2.2.2.2.2.2.1 ho hw) mf4_addVariables w4_28 rfl ho rfl rfl rfl rfl ⟨Nat.le_of_ble_eq_true rfl, Nat.le_of_ble_eq_true rfl⟩ rfl rfl (Nat.le_of_ble_eq_true rfl) ⟨Nat.zero_le _, Nat.zero_le _⟩ d4_reshape_7 (fun S2 hw => ?_)
  refine r_aload_n C (pc := 10) 0 rfl d4_reshape_10 ?_
  refine r_aload_n C (pc := 11) 0 rfl d4_reshape_11 ?_
  refine g4_variableCount C (pc := 12) ho w4_24 d4_reshape_12 ?_
  refine p4_parameterCount C (pc := 15) ho w4_32 d4_reshape_15 ?_
  refine r_S (fun S3 eS3 => ?_)
  have hw := hw S3 eS3
  refine r_aload_n C (pc := 18) 0 rfl d4_reshape_18 ?_
  refine r_iload_n C (pc := 19) 3 rfl d4_reshape_19 ?_
  refine r_callVv C (pc := 20) (fun sz => ct4_addVariables l D ca ρ sz C.2.2.2.2.2.2.1 ho hw) mf4_addVariables w4_28 rfl ho rfl rfl rfl rfl ⟨Nat.le_of_ble_eq_true rfl, Nat.le_of_ble_eq_true rfl⟩ rfl rfl (Nat.le_of_ble_eq_true rfl) ⟨Nat.zero_le _, Nat.zero_le _⟩ d4_reshape_20 (fun S4 hw => ?_)
  refine r_aload_n C (pc := 23) 0 rfl d4_reshape_23 ?_
  refine r_iload_n C (pc := 24) 2 rfl d4_reshape_24 ?_
  refine p4_outcome C (pc := 25) ho w4_35 d4_reshape_25 ?_
  refine r_S (fun S5 eS5 => ?_)
  have hw := hw S5 eS5
  refine r_aload_n C (pc := 28) 0 rfl d4_reshape_28 ?_
  refine r_iconst C (pc := 29) (v := 0) d4_reshape_29 (by decide) ?_
  refine p4_length C (pc := 30) ho w4_38 d4_reshape_30 ?_
  refine r_S (fun S6 eS6 => ?_)
  have hw := hw S6 eS6
  exact r_vret C (pc := 33) hr d4_reshape_33 hw
set_option maxRecDepth 20000 in
theorem ct4_variableCount (l : Launch) (D : va_G) (ca : Nat → ClassId) (ρ : Nat → Nat → Nat) (sz : Nat) {S : St} {o : Nat} {Q : Int32 → St → Prop} (hAp : Ap true ρ) (ho : o < 6) (hw : wp4_variableCount S o Q) : Met l y4_variableCount [Cond.code y4_variableCount b4_variableCount 1 (some .int)] { frames := 0, cells := 0, slots := 0, locals := 0 } (va_Pc [.ref (ρ 4 o)] (PreU true D ca ρ sz S)) (va_Qi Q (PostU true D ca ρ) (Ar true ρ sz)) 0 0 (Ar true ρ sz) := by
  refine met_of_wm (own := R4) (ls0 := [(0, .ref (ρ 4 o))]) rfl rfl hAp (Nat.le_of_ble_eq_true rfl) rfl fun p e s m args below meth c C hr hz => ?_
  subst hz
  unfold wp4_variableCount at hw
  refine r_aload_n C (pc := 0) 0 rfl d4_variableCount_0 ?_
  refine g4_variableCount C (pc := 1) ho w4_24 d4_variableCount_1 ?_
  exact r_iret C (pc := 4) hr d4_variableCount_4 hw
set_option maxRecDepth 20000 in
theorem nd4_isCalledLike_26 {p : Program} {l : Launch} {e : Env} {s : State} {m : MethodId} {args : Array Value} {below : List Frame} {meth : Method} {c : Code} {D : va_G} {ca : Nat → ClassId} {ρ : Nat → Nat → Nat} {o : Nat} {a1 : Nat} {Q : Int32 → St → Prop} (C : Cx true p l s m meth c R4 b4_isCalledLike 3 D ca ρ) (hr : meth.sig.returnType = (some .boolean)) (ho : o < 6) (ha1 : a1 < 6) : ∀ (n : Nat) (x2 : Int32) (S : St) , wp4_isCalledLike_26 o a1 Q n x2 S → wm true p l e { frames := 1, cells := 0, slots := 0, locals := 21 } s m args below meth c D ca ρ 3 0 0 (qi true below args s D ca ρ 0 0 Q) 26 [(0, .ref (ρ 4 o)), (1, .ref (ρ 4 a1)), (2, .int x2)] [] S := by
  intro n
  induction n with
  | zero => intro x2 S  hw; exact hw.elim
  | succ n ih =>
    intro x2 S  hw
    unfold wp4_isCalledLike_26 at hw
    refine r_iload_n C (pc := 26) 2 rfl d4_isCalledLike_26 ?_
    refine r_aload_n C (pc := 27) 0 rfl d4_isCalledLike_27 ?_
    refine g4_parameterCount C (pc := 28) ho w4_32 d4_isCalledLike_28 ?_
    refine r_icmp_ge C (pc := 31) (tgt := 55) d4_isCalledLike_31 (by decide) (fun c1 => ?_) (fun c1 => ?_)
    · have hw := hw.1 c1
      refine r_iconst C (pc := 55) (v := 1) d4_isCalledLike_55 (by decide) ?_
      exact r_zret C (pc := 56) hr rfl d4_isCalledLike_56 hw
    · have hw := hw.2 c1
      refine r_aload_n C (pc := 34) 0 rfl d4_isCalledLike_34 ?_
      refine r_iload_n C (pc := 35) 2 rfl d4_isCalledLike_35 ?_
      refine r_callVi C (pc := 36) (fun sz => ct4_kindOf l D ca ρ sz C.2.2.2.2.2.2.1 ho hw) mf4_kindOf w4_44 rfl ho rfl rfl rfl rfl ⟨Nat.le_of_ble_eq_true rfl, Nat.le_of_ble_eq_true rfl⟩ rfl rfl (Nat.le_of_ble_eq_true rfl) ⟨Nat.zero_le _, Nat.zero_le _⟩ d4_isCalledLike_36 (fun r1 S1 hw => ?_)
      refine r_aload_n C (pc := 39) 1 rfl d4_isCalledLike_39 ?_
      refine r_iload_n C (pc := 40) 2 rfl d4_isCalledLike_40 ?_
      refine r_callVi C (pc := 41) (fun sz => ct4_kindOf l D ca ρ sz C.2.2.2.2.2.2.1 ha1 hw) mf4_kindOf w4_44 rfl ha1 rfl rfl rfl rfl ⟨Nat.le_of_ble_eq_true rfl, Nat.le_of_ble_eq_true rfl⟩ rfl rfl (Nat.le_of_ble_eq_true rfl) ⟨Nat.zero_le _, Nat.zero_le _⟩ d4_isCalledLike_41 (fun r2 S2 hw => ?_)
      refine r_icmp_eq C (pc := 44) (tgt := 49) d4_isCalledLike_44 (by decide) (fun c2 => ?_) (fun c2 => ?_)
      · have hw := hw.1 c2
        obtain ⟨x2_1, ex2_1⟩ : ∃ y : Int32, y = x2 + 1 := ⟨_, rfl⟩
        have hw := hw x2_1 ex2_1
        refine r_iinc C (pc := 49) (v := x2_1) (ls' := [(2, .int x2_1), (0, .ref (ρ 4 o)), (1, .ref (ρ 4 a1))]) 2 rfl (by rw [ex2_1]; rfl) (Nat.le_of_ble_eq_true rfl) rfl d4_isCalledLike_49 ?_
        refine r_goto C (pc := 52) (tgt := 26) d4_isCalledLike_52 (by decide) ?_
        refine r_sub (ls' := [(0, .ref (ρ 4 o)), (1, .ref (ρ 4 a1)), (2, .int x2_1)]) [1, 2, 0] rfl ?_
        exact ih _ _ hw
      · have hw := hw.2 c2
        refine r_iconst C (pc := 47) (v := 0) d4_isCalledLike_47 (by decide) ?_
        exact r_zret C (pc := 48) hr rfl d4_isCalledLike_48 hw
set_option maxRecDepth 20000 in
theorem ct4_isCalledLike (l : Launch) (D : va_G) (ca : Nat → ClassId) (ρ : Nat → Nat → Nat) (sz : Nat) {S : St} {o : Nat} {a1 : Nat} {Q : Int32 → St → Prop} (hAp : Ap true ρ) (ho : o < 6) (ha1 : a1 < 6) (hw : wp4_isCalledLike S o a1 Q) : Met l y4_isCalledLike [Cond.code y4_isCalledLike b4_isCalledLike 3 (some .boolean)] { frames := 1, cells := 0, slots := 0, locals := 21 } (va_Pc [.ref (ρ 4 o), .ref (ρ 4 a1)] (PreU true D ca ρ sz S)) (va_Qi Q (PostU true D ca ρ) (Ar true ρ sz)) 0 0 (Ar true ρ sz) := by
  refine met_of_wm (own := R4) (ls0 := [(0, .ref (ρ 4 o)), (1, .ref (ρ 4 a1))]) rfl rfl hAp (Nat.le_of_ble_eq_true rfl) rfl fun p e s m args below meth c C hr hz => ?_
  subst hz
  unfold wp4_isCalledLike at hw
  refine r_aload_n C (pc := 0) 0 rfl d4_isCalledLike_0 ?_
  refine g4_parameterCount C (pc := 1) ho w4_32 d4_isCalledLike_1 ?_
  refine r_aload_n C (pc := 4) 1 rfl d4_isCalledLike_4 ?_
  refine g4_parameterCount C (pc := 5) ha1 w4_32 d4_isCalledLike_5 ?_
  refine r_icmp_ne C (pc := 8) (tgt := 22) d4_isCalledLike_8 (by decide) (fun c1 => ?_) (fun c1 => ?_)
  · have hw := hw.1 c1
    refine r_iconst C (pc := 22) (v := 0) d4_isCalledLike_22 (by decide) ?_
    exact r_zret C (pc := 23) hr rfl d4_isCalledLike_23 hw
  · have hw := hw.2 c1
    refine r_aload_n C (pc := 11) 0 rfl d4_isCalledLike_11 ?_
    refine g4_outcome C (pc := 12) ho w4_35 d4_isCalledLike_12 ?_
    refine r_aload_n C (pc := 15) 1 rfl d4_isCalledLike_15 ?_
    refine g4_outcome C (pc := 16) ha1 w4_35 d4_isCalledLike_16 ?_
    refine r_icmp_eq C (pc := 19) (tgt := 24) d4_isCalledLike_19 (by decide) (fun c2 => ?_) (fun c2 => ?_)
    · have hw := hw.1 c2
      refine r_iconst C (pc := 24) (v := 0) d4_isCalledLike_24 (by decide) ?_
      refine r_istore_n C (pc := 25) (ls' := [(2, .int 0), (0, .ref (ρ 4 o)), (1, .ref (ρ 4 a1))]) (Nat.le_of_ble_eq_true rfl) rfl d4_isCalledLike_25 ?_
      refine r_sub (ls' := [(0, .ref (ρ 4 o)), (1, .ref (ρ 4 a1)), (2, .int 0)]) [1, 2, 0] rfl ?_
      obtain ⟨n, hw⟩ := hw
      exact nd4_isCalledLike_26 C hr ho ha1 n _ _ hw
    · have hw := hw.2 c2
      refine r_iconst C (pc := 22) (v := 0) d4_isCalledLike_22 (by decide) ?_
      exact r_zret C (pc := 23) hr rfl d4_isCalledLike_23 hw
set_option maxRecDepth 20000 in
theorem ct4_append (l : Launch) (D : va_G) (ca : Nat → ClassId) (ρ : Nat → Nat → Nat) (sz : Nat) {S : St} {o : Nat} {x1 : Int32} {Q : St → Prop} (hAp : Ap true ρ) (ho : o < 6) (hw : wp4_append S o x1 Q) : Met l y4_append [Cond.code y4_append b4_append 2 none] { frames := 0, cells := 0, slots := 0, locals := 0 } (va_Pc [.ref (ρ 4 o), .int x1] (PreU true D ca ρ sz S)) (va_Qv Q (PostU true D ca ρ) (Ar true ρ sz)) 0 0 (Ar true ρ sz) := by
  refine met_of_wm (own := R4) (ls0 := [(0, .ref (ρ 4 o)), (1, .int x1)]) rfl rfl hAp (Nat.le_of_ble_eq_true rfl) rfl fun p e s m args below meth c C hr hz => ?_
  subst hz
  unfold wp4_append at hw
  refine r_aload_n C (pc := 0) 0 rfl d4_append_0 ?_
  refine g4_length C (pc := 1) ho w4_38 d4_append_1 ?_
  refine r_bipush C (pc := 4) (v := 60) d4_append_4 (by decide) ?_
  refine r_icmp_ge C (pc := 6) (tgt := 29) d4_append_6 (by decide) (fun c1 => ?_) (fun c1 => ?_)
  · have hw := hw.1 c1
    exact r_vret C (pc := 29) hr d4_append_29 hw
  · have hw := hw.2 c1
    refine r_aload_n C (pc := 9) 0 rfl d4_append_9 ?_
    refine g4_bytes C (pc := 10) ho w4_15 d4_append_10 ?_
    refine r_aload_n C (pc := 13) 0 rfl d4_append_13 ?_
    refine g4_length C (pc := 14) ho w4_38 d4_append_14 ?_
    refine r_iload_n C (pc := 17) 1 rfl d4_append_17 ?_
    have hi2 := hw.1
    have hw := hw.2
    refine st1401 C (pc := 18) ho hi2 d4_append_18 ?_
    refine r_S (fun S1 eS1 => ?_)
    have hw := hw S1 eS1
    refine r_aload_n C (pc := 19) 0 rfl d4_append_19 ?_
    refine r_dup C (pc := 20) rfl d4_append_20 ?_
    refine g4_length C (pc := 21) ho w4_38 d4_append_21 ?_
    refine r_iconst C (pc := 24) (v := 1) d4_append_24 (by decide) ?_
    refine r_iadd C (pc := 25) d4_append_25 ?_
    refine p4_length C (pc := 26) ho w4_38 d4_append_26 ?_
    refine r_S (fun S2 eS2 => ?_)
    have hw := hw S2 eS2
    exact r_vret C (pc := 29) hr d4_append_29 hw
set_option maxRecDepth 20000 in
theorem ct6_outcomeKind (l : Launch) (D : va_G) (ca : Nat → ClassId) (ρ : Nat → Nat → Nat) (sz : Nat) {S : St}  {Q : Int32 → St → Prop} (hAp : Ap true ρ)  (hw : wp6_outcomeKind S Q) : Met l y6_outcomeKind [Cond.code y6_outcomeKind b6_outcomeKind 1 (some .int)] { frames := 0, cells := 0, slots := 0, locals := 0 } (va_Pc [.ref (ρ 6 0)] (PreU true D ca ρ sz S)) (va_Qi Q (PostU true D ca ρ) (Ar true ρ sz)) 0 0 (Ar true ρ sz) := by
  refine met_of_wm (own := R6) (ls0 := [(0, .ref (ρ 6 0))]) rfl rfl hAp (Nat.le_of_ble_eq_true rfl) rfl fun p e s m args below meth c C hr hz => ?_
  subst hz
  unfold wp6_outcomeKind at hw
  refine r_aload_n C (pc := 0) 0 rfl d6_outcomeKind_0 ?_
  refine g6_outcomeKind C (pc := 1) (Nat.le_of_ble_eq_true rfl) w6_51 d6_outcomeKind_1 ?_
  exact r_iret C (pc := 4) hr d6_outcomeKind_4 hw
set_option maxRecDepth 20000 in
theorem ct6_outcomeNumber (l : Launch) (D : va_G) (ca : Nat → ClassId) (ρ : Nat → Nat → Nat) (sz : Nat) {S : St}  {Q : Int64 → St → Prop} (hAp : Ap true ρ)  (hw : wp6_outcomeNumber S Q) : Met l y6_outcomeNumber [Cond.code y6_outcomeNumber b6_outcomeNumber 1 (some .long)] { frames := 1, cells := 0, slots := 0, locals := 21 } (va_Pc [.ref (ρ 6 0)] (PreU true D ca ρ sz S)) (va_Ql Q (PostU true D ca ρ) (Ar true ρ sz)) 0 0 (Ar true ρ sz) := by
  refine met_of_wm (own := R6) (ls0 := [(0, .ref (ρ 6 0))]) rfl rfl hAp (Nat.le_of_ble_eq_true rfl) rfl fun p e s m args below meth c C hr hz => ?_
  subst hz
  unfold wp6_outcomeNumber at hw
  refine r_aload_n C (pc := 0) 0 rfl d6_outcomeNumber_0 ?_
  refine g6_outcome C (pc := 1) (Nat.le_of_ble_eq_true rfl) w6_33 d6_outcomeNumber_1 ?_
  refine r_iconst C (pc := 4) (v := 0) d6_outcomeNumber_4 (by decide) ?_
  refine r_callVl C (pc := 5) (fun sz => ct1_numberAt l D ca ρ sz C.2.2.2.2.2.2.1 (Nat.le_of_ble_eq_true rfl) hw) mf1_numberAt w6_54 rfl (Nat.le_of_ble_eq_true rfl) rfl rfl rfl rfl ⟨Nat.le_of_ble_eq_true rfl, Nat.le_of_ble_eq_true rfl⟩ rfl rfl (Nat.le_of_ble_eq_true rfl) ⟨Nat.zero_le _, Nat.zero_le _⟩ d6_outcomeNumber_5 (fun r1 S1 hw => ?_)
  exact r_lret C (pc := 8) hr d6_outcomeNumber_8 hw
