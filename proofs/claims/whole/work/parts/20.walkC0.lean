set_option maxRecDepth 20000 in
theorem ct1_realAt (l : Launch) (D : va_G) (ca : Nat → ClassId) (ρ : Nat → Nat → Nat) (sz : Nat) {S : St} {o : Nat} {x1 : Int32} {Q : UInt64 → St → Prop} (hAp : Ap true ρ) (ho : o < 14) (hw : wp1_realAt S o x1 Q) : Met l y1_realAt [Cond.code y1_realAt b1_realAt 2 (some .double)] { frames := 0, cells := 0, slots := 0, locals := 0 } (va_Pc [.ref (ρ 1 o), .int x1] (PreU true D ca ρ sz S)) (va_Qd Q (PostU true D ca ρ) (Ar true ρ sz)) 0 0 (Ar true ρ sz) := by
  refine met_of_wm (own := R1) (ls0 := [(0, .ref (ρ 1 o)), (1, .int x1)]) rfl rfl hAp (Nat.le_of_ble_eq_true rfl) rfl fun p e s m args below meth c C hr hz => ?_
  subst hz
  unfold wp1_realAt at hw
  refine r_iload_n C (pc := 0) 1 rfl d1_realAt_0 ?_
  refine r_if_lt C (pc := 1) (tgt := 22) d1_realAt_1 (by decide) (fun c1 => ?_) (fun c1 => ?_)
  · have hw := hw.1 c1
    refine r_dconst0 C (pc := 22) d1_realAt_22 ?_
    exact r_dret C (pc := 23) hr d1_realAt_23 hw
  · have hw := hw.2 c1
    refine r_iload_n C (pc := 4) 1 rfl d1_realAt_4 ?_
    refine r_aload_n C (pc := 5) 0 rfl d1_realAt_5 ?_
    refine g1_reals C (pc := 6) ho w1_13 d1_realAt_6 ?_
    refine al1101 C (pc := 9) ho d1_realAt_9 ?_
    refine r_icmp_ge C (pc := 10) (tgt := 22) d1_realAt_10 (by decide) (fun c2 => ?_) (fun c2 => ?_)
    · have hw := hw.1 c2
      refine r_dconst0 C (pc := 22) d1_realAt_22 ?_
      exact r_dret C (pc := 23) hr d1_realAt_23 hw
    · have hw := hw.2 c2
      refine r_aload_n C (pc := 13) 0 rfl d1_realAt_13 ?_
      refine g1_reals C (pc := 14) ho w1_13 d1_realAt_14 ?_
      refine r_iload_n C (pc := 17) 1 rfl d1_realAt_17 ?_
      have hi3 := hw.1
      have hw := hw.2
      refine ld1101 C (pc := 18) ho hi3 d1_realAt_18 ?_
      refine r_goto C (pc := 19) (tgt := 23) d1_realAt_19 (by decide) ?_
      exact r_dret C (pc := 23) hr d1_realAt_23 hw
set_option maxRecDepth 20000 in
theorem ct8_realGlobal (l : Launch) (D : va_G) (ca : Nat → ClassId) (ρ : Nat → Nat → Nat) (sz : Nat) {S : St}  {Q : UInt64 → St → Prop} (hAp : Ap true ρ)  (hw : wp8_realGlobal S Q) : Met l y8_realGlobal [Cond.code y8_realGlobal b8_realGlobal 1 (some .double)] { frames := 1, cells := 0, slots := 0, locals := 21 } (va_Pc [.ref (ρ 8 0)] (PreU true D ca ρ sz S)) (va_Qd Q (PostU true D ca ρ) (Ar true ρ sz)) 0 0 (Ar true ρ sz) := by
  refine met_of_wm (own := R8) (ls0 := [(0, .ref (ρ 8 0))]) rfl rfl hAp (Nat.le_of_ble_eq_true rfl) rfl fun p e s m args below meth c C hr hz => ?_
  subst hz
  unfold wp8_realGlobal at hw
  refine r_aload_n C (pc := 0) 0 rfl d8_realGlobal_0 ?_
  refine g8_machine C (pc := 1) (Nat.le_of_ble_eq_true rfl) w8_37 d8_realGlobal_1 ?_
  refine gN6_globals C (pc := 4) (Nat.le_of_ble_eq_true rfl) w8_127 d8_realGlobal_4 ?_
  refine r_iconst C (pc := 7) (v := 2) d8_realGlobal_7 (by decide) ?_
  refine r_callVd C (pc := 8) (fun sz => ct1_realAt l D ca ρ sz C.2.2.2.2.2.2.1 (Nat.le_of_ble_eq_true rfl) hw) mf1_realAt w8_137 rfl (Nat.le_of_ble_eq_true rfl) rfl rfl rfl rfl ⟨Nat.le_of_ble_eq_true rfl, Nat.le_of_ble_eq_true rfl⟩ rfl rfl (Nat.le_of_ble_eq_true rfl) ⟨Nat.zero_le _, Nat.zero_le _⟩ d8_realGlobal_8 (fun r1 S1 hw => ?_)
  exact r_dret C (pc := 11) hr d8_realGlobal_11 hw
set_option maxRecDepth 20000 in
theorem ct8_isFunction (l : Launch) (D : va_G) (ca : Nat → ClassId) (ρ : Nat → Nat → Nat) (sz : Nat) {S : St} {x0 : Int32} {Q : Int32 → St → Prop} (hAp : Ap true ρ)  (hw : wp8_isFunction S x0 Q) : Met l y8_isFunction [Cond.code y8_isFunction b8_isFunction 1 (some .boolean)] { frames := 0, cells := 0, slots := 0, locals := 0 } (va_Pc [.int x0] (PreU true D ca ρ sz S)) (va_Qi Q (PostU true D ca ρ) (Ar true ρ sz)) 0 0 (Ar true ρ sz) := by
  refine met_of_wm (own := R8) (ls0 := [(0, .int x0)]) rfl rfl hAp (Nat.le_of_ble_eq_true rfl) rfl fun p e s m args below meth c C hr hz => ?_
  subst hz
  unfold wp8_isFunction at hw
  refine r_iload_n C (pc := 0) 0 rfl d8_isFunction_0 ?_
  refine r_if_lt C (pc := 1) (tgt := 14) d8_isFunction_1 (by decide) (fun c1 => ?_) (fun c1 => ?_)
  · have hw := hw.1 c1
    refine r_iconst C (pc := 14) (v := 0) d8_isFunction_14 (by decide) ?_
    exact r_zret C (pc := 15) hr rfl d8_isFunction_15 hw
  · have hw := hw.2 c1
    refine r_iload_n C (pc := 4) 0 rfl d8_isFunction_4 ?_
    refine r_bipush C (pc := 5) (v := 6) d8_isFunction_5 (by decide) ?_
    refine r_icmp_ge C (pc := 7) (tgt := 14) d8_isFunction_7 (by decide) (fun c2 => ?_) (fun c2 => ?_)
    · have hw := hw.1 c2
      refine r_iconst C (pc := 14) (v := 0) d8_isFunction_14 (by decide) ?_
      exact r_zret C (pc := 15) hr rfl d8_isFunction_15 hw
    · have hw := hw.2 c2
      refine r_iconst C (pc := 10) (v := 1) d8_isFunction_10 (by decide) ?_
      refine r_goto C (pc := 11) (tgt := 15) d8_isFunction_11 (by decide) ?_
      exact r_zret C (pc := 15) hr rfl d8_isFunction_15 hw
set_option maxRecDepth 20000 in
theorem nd8_isKindRow_17 {p : Program} {l : Launch} {e : Env} {s : State} {m : MethodId} {args : Array Value} {below : List Frame} {meth : Method} {c : Code} {D : va_G} {ca : Nat → ClassId} {ρ : Nat → Nat → Nat} {x0 : Int32} {Q : Int32 → St → Prop} (C : Cx true p l s m meth c R8 b8_isKindRow 3 D ca ρ) (hr : meth.sig.returnType = (some .boolean))  : ∀ (n : Nat) (x1 : Int32) (x2 : Int32) (S : St) , wp8_isKindRow_17 x0 Q n x1 x2 S → wm true p l e { frames := 0, cells := 0, slots := 0, locals := 0 } s m args below meth c D ca ρ 3 0 0 (qi true below args s D ca ρ 0 0 Q) 17 [(1, .int x1), (2, .int x2)] [] S := by
  intro n
  induction n with
  | zero => intro x1 x2 S  hw; exact hw.elim
  | succ n ih =>
    intro x1 x2 S  hw
    unfold wp8_isKindRow_17 at hw
    refine r_iload_n C (pc := 17) 1 rfl d8_isKindRow_17 ?_
    refine r_iconst C (pc := 18) (v := 3) d8_isKindRow_18 (by decide) ?_
    refine r_icmp_ge C (pc := 19) (tgt := 55) d8_isKindRow_19 (by decide) (fun c1 => ?_) (fun c1 => ?_)
    · have hw := hw.1 c1
      refine r_iconst C (pc := 55) (v := 1) d8_isKindRow_55 (by decide) ?_
      exact r_zret C (pc := 56) hr rfl d8_isKindRow_56 hw
    · have hw := hw.2 c1
      refine r_iload_n C (pc := 22) 0 rfl d8_isKindRow_22 ?_
      refine r_if_le C (pc := 23) (tgt := 55) d8_isKindRow_23 (by decide) (fun c2 => ?_) (fun c2 => ?_)
      · have hw := hw.1 c2
        refine r_iconst C (pc := 55) (v := 1) d8_isKindRow_55 (by decide) ?_
        exact r_zret C (pc := 56) hr rfl d8_isKindRow_56 hw
      · have hw := hw.2 c2
        refine r_iload_n C (pc := 26) 0 rfl d8_isKindRow_26 ?_
        refine r_bipush C (pc := 27) (v := 10) d8_isKindRow_27 (by decide) ?_
        refine r_irem C (pc := 29) d8_isKindRow_29 (by decide) ?_
        refine r_iconst C (pc := 30) (v := 1) d8_isKindRow_30 (by decide) ?_
        refine r_icmp_lt C (pc := 31) (tgt := 42) d8_isKindRow_31 (by decide) (fun c3 => ?_) (fun c3 => ?_)
        · have hw := hw.1 c3
          refine r_iconst C (pc := 42) (v := 0) d8_isKindRow_42 (by decide) ?_
          exact r_zret C (pc := 43) hr rfl d8_isKindRow_43 hw
        · have hw := hw.2 c3
          refine r_iload_n C (pc := 34) 0 rfl d8_isKindRow_34 ?_
          refine r_bipush C (pc := 35) (v := 10) d8_isKindRow_35 (by decide) ?_
          refine r_irem C (pc := 37) d8_isKindRow_37 (by decide) ?_
          refine r_iconst C (pc := 38) (v := 3) d8_isKindRow_38 (by decide) ?_
          refine r_icmp_le C (pc := 39) (tgt := 44) d8_isKindRow_39 (by decide) (fun c4 => ?_) (fun c4 => ?_)
          · have hw := hw.1 c4
            refine r_iload_n C (pc := 44) 0 rfl d8_isKindRow_44 ?_
            refine r_bipush C (pc := 45) (v := 10) d8_isKindRow_45 (by decide) ?_
            refine r_idiv C (pc := 47) d8_isKindRow_47 (by decide) ?_
            refine r_topi (fun x1_1 ex1_1 => ?_)
            have hw := hw x1_1 ex1_1
            refine r_istore_n C (pc := 48) (ls' := [(1, .int x1_1), (2, .int x2)]) (Nat.le_of_ble_eq_true rfl) rfl d8_isKindRow_48 ?_
            obtain ⟨x2_1, ex2_1⟩ : ∃ y : Int32, y = x2 + 1 := ⟨_, rfl⟩
            have hw := hw x2_1 ex2_1
            refine r_iinc C (pc := 49) (v := x2_1) (ls' := [(2, .int x2_1), (1, .int x1_1)]) 1 rfl (by rw [ex2_1]; rfl) (Nat.le_of_ble_eq_true rfl) rfl d8_isKindRow_49 ?_
            refine r_goto C (pc := 52) (tgt := 17) d8_isKindRow_52 (by decide) ?_
            refine r_sub (ls' := [(1, .int x1_1), (2, .int x2_1)]) [1, 0] rfl ?_
            exact ih _ _ _ hw
          · have hw := hw.2 c4
            refine r_iconst C (pc := 42) (v := 0) d8_isKindRow_42 (by decide) ?_
            exact r_zret C (pc := 43) hr rfl d8_isKindRow_43 hw
set_option maxRecDepth 20000 in
theorem ct8_isKindRow (l : Launch) (D : va_G) (ca : Nat → ClassId) (ρ : Nat → Nat → Nat) (sz : Nat) {S : St} {x0 : Int32} {Q : Int32 → St → Prop} (hAp : Ap true ρ)  (hw : wp8_isKindRow S x0 Q) : Met l y8_isKindRow [Cond.code y8_isKindRow b8_isKindRow 3 (some .boolean)] { frames := 0, cells := 0, slots := 0, locals := 0 } (va_Pc [.int x0] (PreU true D ca ρ sz S)) (va_Qi Q (PostU true D ca ρ) (Ar true ρ sz)) 0 0 (Ar true ρ sz) := by
  refine met_of_wm (own := R8) (ls0 := [(0, .int x0)]) rfl rfl hAp (Nat.le_of_ble_eq_true rfl) rfl fun p e s m args below meth c C hr hz => ?_
  subst hz
  unfold wp8_isKindRow at hw
  refine r_iload_n C (pc := 0) 0 rfl d8_isKindRow_0 ?_
  refine r_if_lt C (pc := 1) (tgt := 11) d8_isKindRow_1 (by decide) (fun c1 => ?_) (fun c1 => ?_)
  · have hw := hw.1 c1
    refine r_iconst C (pc := 11) (v := 0) d8_isKindRow_11 (by decide) ?_
    exact r_zret C (pc := 12) hr rfl d8_isKindRow_12 hw
  · have hw := hw.2 c1
    refine r_iload_n C (pc := 4) 0 rfl d8_isKindRow_4 ?_
    refine r_sipush C (pc := 5) (v := 333) d8_isKindRow_5 (by decide) ?_
    refine r_icmp_le C (pc := 8) (tgt := 13) d8_isKindRow_8 (by decide) (fun c2 => ?_) (fun c2 => ?_)
    · have hw := hw.1 c2
      refine r_iload_n C (pc := 13) 0 rfl d8_isKindRow_13 ?_
      refine r_istore_n C (pc := 14) (ls' := [(1, .int x0), (0, .int x0)]) (Nat.le_of_ble_eq_true rfl) rfl d8_isKindRow_14 ?_
      refine r_iconst C (pc := 15) (v := 0) d8_isKindRow_15 (by decide) ?_
      refine r_istore_n C (pc := 16) (ls' := [(2, .int 0), (1, .int x0), (0, .int x0)]) (Nat.le_of_ble_eq_true rfl) rfl d8_isKindRow_16 ?_
      refine r_sub (ls' := [(1, .int x0), (2, .int 0)]) [1, 0] rfl ?_
      obtain ⟨n, hw⟩ := hw
      exact nd8_isKindRow_17 C hr  n _ _ _ hw
    · have hw := hw.2 c2
      refine r_iconst C (pc := 11) (v := 0) d8_isKindRow_11 (by decide) ?_
      exact r_zret C (pc := 12) hr rfl d8_isKindRow_12 hw
set_option maxRecDepth 20000 in
theorem ct6_depth (l : Launch) (D : va_G) (ca : Nat → ClassId) (ρ : Nat → Nat → Nat) (sz : Nat) {S : St}  {Q : Int32 → St → Prop} (hAp : Ap true ρ)  (hw : wp6_depth S Q) : Met l y6_depth [Cond.code y6_depth b6_depth 1 (some .int)] { frames := 0, cells := 0, slots := 0, locals := 0 } (va_Pc [.ref (ρ 6 0)] (PreU true D ca ρ sz S)) (va_Qi Q (PostU true D ca ρ) (Ar true ρ sz)) 0 0 (Ar true ρ sz) := by
  refine met_of_wm (own := R6) (ls0 := [(0, .ref (ρ 6 0))]) rfl rfl hAp (Nat.le_of_ble_eq_true rfl) rfl fun p e s m args below meth c C hr hz => ?_
  subst hz
  unfold wp6_depth at hw
  refine r_aload_n C (pc := 0) 0 rfl d6_depth_0 ?_
  refine g6_depth C (pc := 1) (Nat.le_of_ble_eq_true rfl) w6_47 d6_depth_1 ?_
  exact r_iret C (pc := 4) hr d6_depth_4 hw
set_option maxRecDepth 20000 in
theorem ct8_phaseAfter (l : Launch) (D : va_G) (ca : Nat → ClassId) (ρ : Nat → Nat → Nat) (sz : Nat) {S : St} {x1 : Int32} {Q : Int32 → St → Prop} (hAp : Ap true ρ)  (hw : wp8_phaseAfter S x1 Q) : Met l y8_phaseAfter [Cond.code y8_phaseAfter b8_phaseAfter 2 (some .int)] { frames := 1, cells := 0, slots := 0, locals := 20 } (va_Pc [.ref (ρ 8 0), .int x1] (PreU true D ca ρ sz S)) (va_Qi Q (PostU true D ca ρ) (Ar true ρ sz)) 0 0 (Ar true ρ sz) := by
  refine met_of_wm (own := R8) (ls0 := [(0, .ref (ρ 8 0)), (1, .int x1)]) rfl rfl hAp (Nat.le_of_ble_eq_true rfl) rfl fun p e s m args below meth c C hr hz => ?_
  subst hz
  unfold wp8_phaseAfter at hw
  refine r_iload_n C (pc := 0) 1 rfl d8_phaseAfter_0 ?_
  refine r_if_eq C (pc := 1) (tgt := 6) d8_phaseAfter_1 (by decide) (fun c1 => ?_) (fun c1 => ?_)
  · have hw := hw.1 c1
    refine r_aload_n C (pc := 6) 0 rfl d8_phaseAfter_6 ?_
    refine g8_machine C (pc := 7) (Nat.le_of_ble_eq_true rfl) w8_37 d8_phaseAfter_7 ?_
    refine r_callVi C (pc := 10) (fun sz => ct6_depth l D ca ρ sz C.2.2.2.2.2.2.1 hw) mf6_depth w8_155 rfl (Nat.le_of_ble_eq_true rfl) rfl rfl rfl rfl ⟨Nat.le_of_ble_eq_true rfl, Nat.le_of_ble_eq_true rfl⟩ rfl rfl (Nat.le_of_ble_eq_true rfl) ⟨Nat.zero_le _, Nat.zero_le _⟩ d8_phaseAfter_10 (fun r1 S1 hw => ?_)
    refine r_if_ne C (pc := 13) (tgt := 20) d8_phaseAfter_13 (by decide) (fun c2 => ?_) (fun c2 => ?_)
    · have hw := hw.1 c2
      refine r_iconst C (pc := 20) (v := 1) d8_phaseAfter_20 (by decide) ?_
      exact r_iret C (pc := 21) hr d8_phaseAfter_21 hw
    · have hw := hw.2 c2
      refine r_iconst C (pc := 16) (v := 2) d8_phaseAfter_16 (by decide) ?_
      refine r_goto C (pc := 17) (tgt := 21) d8_phaseAfter_17 (by decide) ?_
      exact r_iret C (pc := 21) hr d8_phaseAfter_21 hw
  · have hw := hw.2 c1
    refine r_iconst C (pc := 4) (v := 3) d8_phaseAfter_4 (by decide) ?_
    exact r_iret C (pc := 5) hr d8_phaseAfter_5 hw
set_option maxRecDepth 20000 in
theorem ct1_set (l : Launch) (D : va_G) (ca : Nat → ClassId) (ρ : Nat → Nat → Nat) (sz : Nat) {S : St} {o : Nat} {x1 : Int32} {x2 : Int64} {x4 : UInt64} {Q : St → Prop} (hAp : Ap true ρ) (ho : o < 14) (hw : wp1_set S o x1 x2 x4 Q) : Met l y1_set [Cond.code y1_set b1_set 6 none] { frames := 0, cells := 0, slots := 0, locals := 0 } (va_Pc [.ref (ρ 1 o), .int x1, .long x2, .double x4] (PreU true D ca ρ sz S)) (va_Qv Q (PostU true D ca ρ) (Ar true ρ sz)) 0 0 (Ar true ρ sz) := by
  refine met_of_wm (own := R1) (ls0 := [(0, .ref (ρ 1 o)), (1, .int x1), (2, .long x2), (4, .double x4)]) rfl rfl hAp (Nat.le_of_ble_eq_true rfl) rfl fun p e s m args below meth c C hr hz => ?_
  subst hz
  unfold wp1_set at hw
  refine r_iload_n C (pc := 0) 1 rfl d1_set_0 ?_
  refine r_if_lt C (pc := 1) (tgt := 37) d1_set_1 (by decide) (fun c1 => ?_) (fun c1 => ?_)
  · have hw := hw.1 c1
    exact r_vret C (pc := 37) hr d1_set_37 hw
  · have hw := hw.2 c1
    refine r_iload_n C (pc := 4) 1 rfl d1_set_4 ?_
    refine r_aload_n C (pc := 5) 0 rfl d1_set_5 ?_
    refine g1_numbers C (pc := 6) ho w1_7 d1_set_6 ?_
    refine al1100 C (pc := 9) ho d1_set_9 ?_
    refine r_icmp_ge C (pc := 10) (tgt := 37) d1_set_10 (by decide) (fun c2 => ?_) (fun c2 => ?_)
    · have hw := hw.1 c2
      exact r_vret C (pc := 37) hr d1_set_37 hw
    · have hw := hw.2 c2
      refine r_iload_n C (pc := 13) 1 rfl d1_set_13 ?_
      refine r_aload_n C (pc := 14) 0 rfl d1_set_14 ?_
      refine g1_reals C (pc := 15) ho w1_13 d1_set_15 ?_
      refine al1101 C (pc := 18) ho d1_set_18 ?_
      refine r_icmp_ge C (pc := 19) (tgt := 37) d1_set_19 (by decide) (fun c3 => ?_) (fun c3 => ?_)
      · have hw := hw.1 c3
        exact r_vret C (pc := 37) hr d1_set_37 hw
      · have hw := hw.2 c3
        refine r_aload_n C (pc := 22) 0 rfl d1_set_22 ?_
        refine g1_numbers C (pc := 23) ho w1_7 d1_set_23 ?_
        refine r_iload_n C (pc := 26) 1 rfl d1_set_26 ?_
        refine r_lload_n C (pc := 27) 2 rfl d1_set_27 ?_
        have hi4 := hw.1
        have hw := hw.2
        refine st1100 C (pc := 28) ho hi4 d1_set_28 ?_
        refine r_S (fun S1 eS1 => ?_)
        have hw := hw S1 eS1
        refine r_aload_n C (pc := 29) 0 rfl d1_set_29 ?_
        refine g1_reals C (pc := 30) ho w1_13 d1_set_30 ?_
        refine r_iload_n C (pc := 33) 1 rfl d1_set_33 ?_
        refine r_dload C (pc := 34) 3 rfl d1_set_34 ?_
        have hi5 := hw.1
        have hw := hw.2
        refine st1101 C (pc := 36) ho hi5 d1_set_36 ?_
        refine r_S (fun S2 eS2 => ?_)
        have hw := hw S2 eS2
        exact r_vret C (pc := 37) hr d1_set_37 hw
set_option maxRecDepth 20000 in
theorem nd1_clear_2 {p : Program} {l : Launch} {e : Env} {s : State} {m : MethodId} {args : Array Value} {below : List Frame} {meth : Method} {c : Code} {D : va_G} {ca : Nat → ClassId} {ρ : Nat → Nat → Nat} {o : Nat} {Q : St → Prop} (C : Cx true p l s m meth c R1 b1_clear 2 D ca ρ) (hr : meth.sig.returnType = none) (ho : o < 14) : ∀ (n : Nat) (x1 : Int32) (S : St) , wp1_clear_2 o Q n x1 S → wm true p l e { frames := 1, cells := 0, slots := 0, locals := 25 } s m args below meth c D ca ρ 2 0 0 (qv true below args s D ca ρ 0 0 Q) 2 [(0, .ref (ρ 1 o)), (1, .int x1)] [] S := by
  intro n
  induction n with
  | zero => intro x1 S  hw; exact hw.elim
  | succ n ih =>
    intro x1 S  hw
    unfold wp1_clear_2 at hw
    refine r_iload_n C (pc := 2) 1 rfl d1_clear_2 ?_
    refine r_aload_n C (pc := 3) 0 rfl d1_clear_3 ?_
    refine g1_numbers C (pc := 4) ho w1_7 d1_clear_4 ?_
    refine al1100 C (pc := 7) ho d1_clear_7 ?_
    refine r_icmp_ge C (pc := 8) (tgt := 24) d1_clear_8 (by decide) (fun c1 => ?_) (fun c1 => ?_)
    · have hw := hw.1 c1
      refine r_aload_n C (pc := 24) 0 rfl d1_clear_24 ?_
      refine r_iconst C (pc := 25) (v := 0) d1_clear_25 (by decide) ?_
      refine p1_height C (pc := 26) ho w1_21 d1_clear_26 ?_
      refine r_S (fun S1 eS1 => ?_)
      have hw := hw S1 eS1
      exact r_vret C (pc := 29) hr d1_clear_29 hw
    · have hw := hw.2 c1
      refine r_aload_n C (pc := 11) 0 rfl d1_clear_11 ?_
      refine r_iload_n C (pc := 12) 1 rfl d1_clear_12 ?_
      refine r_lconst C (pc := 13) (v := 0) d1_clear_13 (by decide) ?_
      refine r_dconst0 C (pc := 14) d1_clear_14 ?_
      refine r_callVv C (pc := 15) (fun sz => ct1_set l D ca ρ sz C.2.2.2.2.2.2.1 ho hw) mf1_set w1_17 rfl ho rfl rfl rfl rfl ⟨Nat.le_of_ble_eq_true rfl, Nat.le_of_ble_eq_true rfl⟩ rfl rfl (Nat.le_of_ble_eq_true rfl) ⟨Nat.zero_le _, Nat.zero_le _⟩ d1_clear_15 (fun S2 hw => ?_)
      obtain ⟨x1_1, ex1_1⟩ : ∃ y : Int32, y = x1 + 1 := ⟨_, rfl⟩
      have hw := hw x1_1 ex1_1
      refine r_iinc C (pc := 18) (v := x1_1) (ls' := [(1, .int x1_1), (0, .ref (ρ 1 o))]) 1 rfl (by rw [ex1_1]; rfl) (Nat.le_of_ble_eq_true rfl) rfl d1_clear_18 ?_
      refine r_goto C (pc := 21) (tgt := 2) d1_clear_21 (by decide) ?_
      refine r_sub (ls' := [(0, .ref (ρ 1 o)), (1, .int x1_1)]) [1, 0] rfl ?_
      exact ih _ _ hw
set_option maxRecDepth 20000 in
theorem ct1_clear (l : Launch) (D : va_G) (ca : Nat → ClassId) (ρ : Nat → Nat → Nat) (sz : Nat) {S : St} {o : Nat} {Q : St → Prop} (hAp : Ap true ρ) (ho : o < 14) (hw : wp1_clear S o Q) : Met l y1_clear [Cond.code y1_clear b1_clear 2 none] { frames := 1, cells := 0, slots := 0, locals := 25 } (va_Pc [.ref (ρ 1 o)] (PreU true D ca ρ sz S)) (va_Qv Q (PostU true D ca ρ) (Ar true ρ sz)) 0 0 (Ar true ρ sz) := by
  refine met_of_wm (own := R1) (ls0 := [(0, .ref (ρ 1 o))]) rfl rfl hAp (Nat.le_of_ble_eq_true rfl) rfl fun p e s m args below meth c C hr hz => ?_
  subst hz
  unfold wp1_clear at hw
  refine r_iconst C (pc := 0) (v := 0) d1_clear_0 (by decide) ?_
  refine r_istore_n C (pc := 1) (ls' := [(1, .int 0), (0, .ref (ρ 1 o))]) (Nat.le_of_ble_eq_true rfl) rfl d1_clear_1 ?_
  refine r_sub (ls' := [(0, .ref (ρ 1 o)), (1, .int 0)]) [1, 0] rfl ?_
  obtain ⟨n, hw⟩ := hw
  exact nd1_clear_2 C hr ho n _ _ hw
set_option maxRecDepth 20000 in
theorem ct0_begin (l : Launch) (D : va_G) (ca : Nat → ClassId) (ρ : Nat → Nat → Nat) (sz : Nat) {S : St} {o : Nat} {a1 : Nat} {Q : St → Prop} (hAp : Ap true ρ) (ho : o < 6) (ha1 : a1 < 6) (hw : wp0_begin S o a1 Q) : Met l y0_begin [Cond.code y0_begin b0_begin 2 none] { frames := 2, cells := 0, slots := 0, locals := 46 } (va_Pc [.ref (ρ 0 o), .ref (ρ 4 a1)] (PreU true D ca ρ sz S)) (va_Qv Q (PostU true D ca ρ) (Ar true ρ sz)) 0 0 (Ar true ρ sz) := by
  refine met_of_wm (own := R0) (ls0 := [(0, .ref (ρ 0 o)), (1, .ref (ρ 4 a1))]) rfl rfl hAp (Nat.le_of_ble_eq_true rfl) rfl fun p e s m args below meth c C hr hz => ?_
  subst hz
  unfold wp0_begin at hw
  refine r_aload_n C (pc := 0) 0 rfl d0_begin_0 ?_
  refine r_aload_n C (pc := 1) 1 rfl d0_begin_1 ?_
  refine p0_function C (pc := 2) ho w0_30 d0_begin_2 ?_
  refine r_S (fun S1 eS1 => ?_)
  have hw := hw S1 eS1
  refine r_aload_n C (pc := 5) 0 rfl d0_begin_5 ?_
  refine r_iconst C (pc := 6) (v := 0) d0_begin_6 (by decide) ?_
  refine p0_place C (pc := 7) ho w0_34 d0_begin_7 ?_
  refine r_S (fun S2 eS2 => ?_)
  have hw := hw S2 eS2
  refine r_aload_n C (pc := 10) 0 rfl d0_begin_10 ?_
  refine r_iconst C (pc := 11) (v := 1) d0_begin_11 (by decide) ?_
  refine p0_frames C (pc := 12) ho w0_38 d0_begin_12 ?_
  refine r_S (fun S3 eS3 => ?_)
  have hw := hw S3 eS3
  refine r_aload_n C (pc := 15) 0 rfl d0_begin_15 ?_
  refine g0_stack C (pc := 16) ho w0_14 d0_begin_16 ?_
  refine r_callVv C (pc := 19) (fun sz => ct1_clear l D ca ρ sz C.2.2.2.2.2.2.1 (b2 ho) hw) mf1_clear w0_41 rfl (b2 ho) rfl rfl rfl rfl ⟨Nat.le_of_ble_eq_true rfl, Nat.le_of_ble_eq_true rfl⟩ rfl rfl (Nat.le_of_ble_eq_true rfl) ⟨Nat.zero_le _, Nat.zero_le _⟩ d0_begin_19 (fun S4 hw => ?_)
  refine r_aload_n C (pc := 22) 0 rfl d0_begin_22 ?_
  refine g0_variables C (pc := 23) ho w0_20 d0_begin_23 ?_
  refine r_callVv C (pc := 26) (fun sz => ct1_clear l D ca ρ sz C.2.2.2.2.2.2.1 (b3 ho) hw) mf1_clear w0_41 rfl (b3 ho) rfl rfl rfl rfl ⟨Nat.le_of_ble_eq_true rfl, Nat.le_of_ble_eq_true rfl⟩ rfl rfl (Nat.le_of_ble_eq_true rfl) ⟨Nat.zero_le _, Nat.zero_le _⟩ d0_begin_26 (fun S5 hw => ?_)
  exact r_vret C (pc := 29) hr d0_begin_29 hw
set_option maxRecDepth 20000 in
theorem ct4_kindOf (l : Launch) (D : va_G) (ca : Nat → ClassId) (ρ : Nat → Nat → Nat) (sz : Nat) {S : St} {o : Nat} {x1 : Int32} {Q : Int32 → St → Prop} (hAp : Ap true ρ) (ho : o < 6) (hw : wp4_kindOf S o x1 Q) : Met l y4_kindOf [Cond.code y4_kindOf b4_kindOf 2 (some .int)] { frames := 0, cells := 0, slots := 0, locals := 0 } (va_Pc [.ref (ρ 4 o), .int x1] (PreU true D ca ρ sz S)) (va_Qi Q (PostU true D ca ρ) (Ar true ρ sz)) 0 0 (Ar true ρ sz) := by
  refine met_of_wm (own := R4) (ls0 := [(0, .ref (ρ 4 o)), (1, .int x1)]) rfl rfl hAp (Nat.le_of_ble_eq_true rfl) rfl fun p e s m args below meth c C hr hz => ?_
  subst hz
  unfold wp4_kindOf at hw
  refine r_iload_n C (pc := 0) 1 rfl d4_kindOf_0 ?_
  refine r_if_lt C (pc := 1) (tgt := 21) d4_kindOf_1 (by decide) (fun c1 => ?_) (fun c1 => ?_)
  · have hw := hw.1 c1
    refine r_iconst C (pc := 21) (v := 0) d4_kindOf_21 (by decide) ?_
    exact r_iret C (pc := 22) hr d4_kindOf_22 hw
  · have hw := hw.2 c1
    refine r_iload_n C (pc := 4) 1 rfl d4_kindOf_4 ?_
    refine r_aload_n C (pc := 5) 0 rfl d4_kindOf_5 ?_
    refine g4_variableCount C (pc := 6) ho w4_24 d4_kindOf_6 ?_
    refine r_icmp_ge C (pc := 9) (tgt := 21) d4_kindOf_9 (by decide) (fun c2 => ?_) (fun c2 => ?_)
    · have hw := hw.1 c2
      refine r_iconst C (pc := 21) (v := 0) d4_kindOf_21 (by decide) ?_
      exact r_iret C (pc := 22) hr d4_kindOf_22 hw
    · have hw := hw.2 c2
      refine r_aload_n C (pc := 12) 0 rfl d4_kindOf_12 ?_
      refine g4_kinds C (pc := 13) ho w4_9 d4_kindOf_13 ?_
      refine r_iload_n C (pc := 16) 1 rfl d4_kindOf_16 ?_
      have hi3 := hw.1
      have hw := hw.2
      refine ld1400 C (pc := 17) ho hi3 d4_kindOf_17 ?_
      refine r_goto C (pc := 18) (tgt := 22) d4_kindOf_18 (by decide) ?_
      exact r_iret C (pc := 22) hr d4_kindOf_22 hw
set_option maxRecDepth 20000 in
theorem ct0_setParameter (l : Launch) (D : va_G) (ca : Nat → ClassId) (ρ : Nat → Nat → Nat) (sz : Nat) {S : St} {o : Nat} {x1 : Int32} {x2 : Int32} {Q : St → Prop} (hAp : Ap true ρ) (ho : o < 6) (hw : wp0_setParameter S o x1 x2 Q) : Met l y0_setParameter [Cond.code y0_setParameter b0_setParameter 3 none] { frames := 1, cells := 0, slots := 0, locals := 25 } (va_Pc [.ref (ρ 0 o), .int x1, .int x2] (PreU true D ca ρ sz S)) (va_Qv Q (PostU true D ca ρ) (Ar true ρ sz)) 0 0 (Ar true ρ sz) := by
  refine met_of_wm (own := R0) (ls0 := [(0, .ref (ρ 0 o)), (1, .int x1), (2, .int x2)]) rfl rfl hAp (Nat.le_of_ble_eq_true rfl) rfl fun p e s m args below meth c C hr hz => ?_
  subst hz
  unfold wp0_setParameter at hw
  refine r_aload_n C (pc := 0) 0 rfl d0_setParameter_0 ?_
  have hg1 := hw.1
  have hw := hw.2
  refine g0_function C (pc := 1) ho w0_30 d0_setParameter_1 ?_
  refine r_iload_n C (pc := 4) 1 rfl d0_setParameter_4 ?_
  refine r_callVi C (pc := 5) (fun sz => ct4_kindOf l D ca ρ sz C.2.2.2.2.2.2.1 hg1 hw) mf4_kindOf w0_44 rfl hg1 rfl rfl rfl rfl ⟨Nat.le_of_ble_eq_true rfl, Nat.le_of_ble_eq_true rfl⟩ rfl rfl (Nat.le_of_ble_eq_true rfl) ⟨Nat.zero_le _, Nat.zero_le _⟩ d0_setParameter_5 (fun r1 S1 hw => ?_)
  refine r_iconst C (pc := 8) (v := 3) d0_setParameter_8 (by decide) ?_
  refine r_icmp_ne C (pc := 9) (tgt := 30) d0_setParameter_9 (by decide) (fun c2 => ?_) (fun c2 => ?_)
  · have hw := hw.1 c2
    refine r_aload_n C (pc := 30) 0 rfl d0_setParameter_30 ?_
    refine g0_variables C (pc := 31) ho w0_20 d0_setParameter_31 ?_
    refine r_iload_n C (pc := 34) 1 rfl d0_setParameter_34 ?_
    refine r_iload_n C (pc := 35) 2 rfl d0_setParameter_35 ?_
    refine r_i2l C (pc := 36) d0_setParameter_36 ?_
    refine r_dconst0 C (pc := 37) d0_setParameter_37 ?_
    refine r_callVv C (pc := 38) (fun sz => ct1_set l D ca ρ sz C.2.2.2.2.2.2.1 (b3 ho) hw) mf1_set w0_52 rfl (b3 ho) rfl rfl rfl rfl ⟨Nat.le_of_ble_eq_true rfl, Nat.le_of_ble_eq_true rfl⟩ rfl rfl (Nat.le_of_ble_eq_true rfl) ⟨Nat.zero_le _, Nat.zero_le _⟩ d0_setParameter_38 (fun S2 hw => ?_)
    exact r_vret C (pc := 41) hr d0_setParameter_41 hw
  · have hw := hw.2 c2
    refine r_aload_n C (pc := 12) 0 rfl d0_setParameter_12 ?_
    refine g0_variables C (pc := 13) ho w0_20 d0_setParameter_13 ?_
    refine r_iload_n C (pc := 16) 1 rfl d0_setParameter_16 ?_
    refine r_lconst C (pc := 17) (v := 0) d0_setParameter_17 (by decide) ?_
    refine r_iload_n C (pc := 18) 2 rfl d0_setParameter_18 ?_
    refine r_i2d C (pc := 19) d0_setParameter_19 ?_
    refine r_ldc2d C (pc := 20) w0_50 d0_setParameter_20 ?_
    have h0 := hw.1
    have hw := hw.2
    refine r_dmul C (pc := 23) d0_setParameter_23 h0 ?_
    refine r_callVv C (pc := 24) (fun sz => ct1_set l D ca ρ sz C.2.2.2.2.2.2.1 (b3 ho) hw) mf1_set w0_52 rfl (b3 ho) rfl rfl rfl rfl ⟨Nat.le_of_ble_eq_true rfl, Nat.le_of_ble_eq_true rfl⟩ rfl rfl (Nat.le_of_ble_eq_true rfl) ⟨Nat.zero_le _, Nat.zero_le _⟩ d0_setParameter_24 (fun S3 hw => ?_)
    refine r_goto C (pc := 27) (tgt := 41) d0_setParameter_27 (by decide) ?_
    exact r_vret C (pc := 41) hr d0_setParameter_41 hw
set_option maxRecDepth 20000 in
theorem ct1_height (l : Launch) (D : va_G) (ca : Nat → ClassId) (ρ : Nat → Nat → Nat) (sz : Nat) {S : St} {o : Nat} {Q : Int32 → St → Prop} (hAp : Ap true ρ) (ho : o < 14) (hw : wp1_height S o Q) : Met l y1_height [Cond.code y1_height b1_height 1 (some .int)] { frames := 0, cells := 0, slots := 0, locals := 0 } (va_Pc [.ref (ρ 1 o)] (PreU true D ca ρ sz S)) (va_Qi Q (PostU true D ca ρ) (Ar true ρ sz)) 0 0 (Ar true ρ sz) := by
  refine met_of_wm (own := R1) (ls0 := [(0, .ref (ρ 1 o))]) rfl rfl hAp (Nat.le_of_ble_eq_true rfl) rfl fun p e s m args below meth c C hr hz => ?_
  subst hz
  unfold wp1_height at hw
  refine r_aload_n C (pc := 0) 0 rfl d1_height_0 ?_
  refine g1_height C (pc := 1) ho w1_21 d1_height_1 ?_
  exact r_iret C (pc := 4) hr d1_height_4 hw
set_option maxRecDepth 20000 in
theorem ct4_parameterCount (l : Launch) (D : va_G) (ca : Nat → ClassId) (ρ : Nat → Nat → Nat) (sz : Nat) {S : St} {o : Nat} {Q : Int32 → St → Prop} (hAp : Ap true ρ) (ho : o < 6) (hw : wp4_parameterCount S o Q) : Met l y4_parameterCount [Cond.code y4_parameterCount b4_parameterCount 1 (some .int)] { frames := 0, cells := 0, slots := 0, locals := 0 } (va_Pc [.ref (ρ 4 o)] (PreU true D ca ρ sz S)) (va_Qi Q (PostU true D ca ρ) (Ar true ρ sz)) 0 0 (Ar true ρ sz) := by
  refine met_of_wm (own := R4) (ls0 := [(0, .ref (ρ 4 o))]) rfl rfl hAp (Nat.le_of_ble_eq_true rfl) rfl fun p e s m args below meth c C hr hz => ?_
  subst hz
  unfold wp4_parameterCount at hw
  refine r_aload_n C (pc := 0) 0 rfl d4_parameterCount_0 ?_
  refine g4_parameterCount C (pc := 1) ho w4_32 d4_parameterCount_1 ?_
  exact r_iret C (pc := 4) hr d4_parameterCount_4 hw
set_option maxRecDepth 20000 in
theorem ct1_numberAt (l : Launch) (D : va_G) (ca : Nat → ClassId) (ρ : Nat → Nat → Nat) (sz : Nat) {S : St} {o : Nat} {x1 : Int32} {Q : Int64 → St → Prop} (hAp : Ap true ρ) (ho : o < 14) (hw : wp1_numberAt S o x1 Q) : Met l y1_numberAt [Cond.code y1_numberAt b1_numberAt 2 (some .long)] { frames := 0, cells := 0, slots := 0, locals := 0 } (va_Pc [.ref (ρ 1 o), .int x1] (PreU true D ca ρ sz S)) (va_Ql Q (PostU true D ca ρ) (Ar true ρ sz)) 0 0 (Ar true ρ sz) := by
  refine met_of_wm (own := R1) (ls0 := [(0, .ref (ρ 1 o)), (1, .int x1)]) rfl rfl hAp (Nat.le_of_ble_eq_true rfl) rfl fun p e s m args below meth c C hr hz => ?_
  subst hz
  unfold wp1_numberAt at hw
  refine r_iload_n C (pc := 0) 1 rfl d1_numberAt_0 ?_
  refine r_if_lt C (pc := 1) (tgt := 22) d1_numberAt_1 (by decide) (fun c1 => ?_) (fun c1 => ?_)
  · have hw := hw.1 c1
    refine r_lconst C (pc := 22) (v := 0) d1_numberAt_22 (by decide) ?_
    exact r_lret C (pc := 23) hr d1_numberAt_23 hw
  · have hw := hw.2 c1
    refine r_iload_n C (pc := 4) 1 rfl d1_numberAt_4 ?_
    refine r_aload_n C (pc := 5) 0 rfl d1_numberAt_5 ?_
    refine g1_numbers C (pc := 6) ho w1_7 d1_numberAt_6 ?_
    refine al1100 C (pc := 9) ho d1_numberAt_9 ?_
    refine r_icmp_ge C (pc := 10) (tgt := 22) d1_numberAt_10 (by decide) (fun c2 => ?_) (fun c2 => ?_)
    · have hw := hw.1 c2
      refine r_lconst C (pc := 22) (v := 0) d1_numberAt_22 (by decide) ?_
      exact r_lret C (pc := 23) hr d1_numberAt_23 hw
    · have hw := hw.2 c2
      refine r_aload_n C (pc := 13) 0 rfl d1_numberAt_13 ?_
      refine g1_numbers C (pc := 14) ho w1_7 d1_numberAt_14 ?_
      refine r_iload_n C (pc := 17) 1 rfl d1_numberAt_17 ?_
      have hi3 := hw.1
      have hw := hw.2
      refine ld1100 C (pc := 18) ho hi3 d1_numberAt_18 ?_
      refine r_goto C (pc := 19) (tgt := 23) d1_numberAt_19 (by decide) ?_
      exact r_lret C (pc := 23) hr d1_numberAt_23 hw
set_option maxRecDepth 20000 in
theorem ct1_setFrom (l : Launch) (D : va_G) (ca : Nat → ClassId) (ρ : Nat → Nat → Nat) (sz : Nat) {S : St} {o : Nat} {x1 : Int32} {a2 : Nat} {x3 : Int32} {Q : St → Prop} (hAp : Ap true ρ) (ho : o < 14) (ha2 : a2 < 14) (hw : wp1_setFrom S o x1 a2 x3 Q) : Met l y1_setFrom [Cond.code y1_setFrom b1_setFrom 4 none] { frames := 1, cells := 0, slots := 0, locals := 25 } (va_Pc [.ref (ρ 1 o), .int x1, .ref (ρ 1 a2), .int x3] (PreU true D ca ρ sz S)) (va_Qv Q (PostU true D ca ρ) (Ar true ρ sz)) 0 0 (Ar true ρ sz) := by
  refine met_of_wm (own := R1) (ls0 := [(0, .ref (ρ 1 o)), (1, .int x1), (2, .ref (ρ 1 a2)), (3, .int x3)]) rfl rfl hAp (Nat.le_of_ble_eq_true rfl) rfl fun p e s m args below meth c C hr hz => ?_
  subst hz
  unfold wp1_setFrom at hw
  refine r_aload_n C (pc := 0) 0 rfl d1_setFrom_0 ?_
  refine r_iload_n C (pc := 1) 1 rfl d1_setFrom_1 ?_
  refine r_aload_n C (pc := 2) 2 rfl d1_setFrom_2 ?_
  refine r_iload_n C (pc := 3) 3 rfl d1_setFrom_3 ?_
  refine r_callVl C (pc := 4) (fun sz => ct1_numberAt l D ca ρ sz C.2.2.2.2.2.2.1 ha2 hw) mf1_numberAt w1_25 rfl ha2 rfl rfl rfl rfl ⟨Nat.le_of_ble_eq_true rfl, Nat.le_of_ble_eq_true rfl⟩ rfl rfl (Nat.le_of_ble_eq_true rfl) ⟨Nat.zero_le _, Nat.zero_le _⟩ d1_setFrom_4 (fun r1 S1 hw => ?_)
  refine r_aload_n C (pc := 7) 2 rfl d1_setFrom_7 ?_
  refine r_iload_n C (pc := 8) 3 rfl d1_setFrom_8 ?_
  refine r_callVd C (pc := 9) (fun sz => ct1_realAt l D ca ρ sz C.2.2.2.2.2.2.1 ha2 hw) mf1_realAt w1_29 rfl ha2 rfl rfl rfl rfl ⟨Nat.le_of_ble_eq_true rfl, Nat.le_of_ble_eq_true rfl⟩ rfl rfl (Nat.le_of_ble_eq_true rfl) ⟨Nat.zero_le _, Nat.zero_le _⟩ d1_setFrom_9 (fun r2 S2 hw => ?_)
  refine r_callVv C (pc := 12) (fun sz => ct1_set l D ca ρ sz C.2.2.2.2.2.2.1 ho hw) mf1_set w1_17 rfl ho rfl rfl rfl rfl ⟨Nat.le_of_ble_eq_true rfl, Nat.le_of_ble_eq_true rfl⟩ rfl rfl (Nat.le_of_ble_eq_true rfl) ⟨Nat.zero_le _, Nat.zero_le _⟩ d1_setFrom_12 (fun S3 hw => ?_)
  exact r_vret C (pc := 15) hr d1_setFrom_15 hw
set_option maxRecDepth 20000 in
theorem ct1_cutTo (l : Launch) (D : va_G) (ca : Nat → ClassId) (ρ : Nat → Nat → Nat) (sz : Nat) {S : St} {o : Nat} {x1 : Int32} {Q : St → Prop} (hAp : Ap true ρ) (ho : o < 14) (hw : wp1_cutTo S o x1 Q) : Met l y1_cutTo [Cond.code y1_cutTo b1_cutTo 2 none] { frames := 0, cells := 0, slots := 0, locals := 0 } (va_Pc [.ref (ρ 1 o), .int x1] (PreU true D ca ρ sz S)) (va_Qv Q (PostU true D ca ρ) (Ar true ρ sz)) 0 0 (Ar true ρ sz) := by
  refine met_of_wm (own := R1) (ls0 := [(0, .ref (ρ 1 o)), (1, .int x1)]) rfl rfl hAp (Nat.le_of_ble_eq_true rfl) rfl fun p e s m args below meth c C hr hz => ?_
  subst hz
  unfold wp1_cutTo at hw
  refine r_iload_n C (pc := 0) 1 rfl d1_cutTo_0 ?_
  refine r_if_lt C (pc := 1) (tgt := 17) d1_cutTo_1 (by decide) (fun c1 => ?_) (fun c1 => ?_)
  · have hw := hw.1 c1
    exact r_vret C (pc := 17) hr d1_cutTo_17 hw
  · have hw := hw.2 c1
    refine r_iload_n C (pc := 4) 1 rfl d1_cutTo_4 ?_
    refine r_aload_n C (pc := 5) 0 rfl d1_cutTo_5 ?_
    refine g1_height C (pc := 6) ho w1_21 d1_cutTo_6 ?_
    refine r_icmp_ge C (pc := 9) (tgt := 17) d1_cutTo_9 (by decide) (fun c2 => ?_) (fun c2 => ?_)
    · have hw := hw.1 c2
      exact r_vret C (pc := 17) hr d1_cutTo_17 hw
    · have hw := hw.2 c2
      refine r_aload_n C (pc := 12) 0 rfl d1_cutTo_12 ?_
      refine r_iload_n C (pc := 13) 1 rfl d1_cutTo_13 ?_
      refine p1_height C (pc := 14) ho w1_21 d1_cutTo_14 ?_
      refine r_S (fun S1 eS1 => ?_)
      have hw := hw S1 eS1
      exact r_vret C (pc := 17) hr d1_cutTo_17 hw
set_option maxRecDepth 20000 in
theorem nd0_takeParametersFrom_15 {p : Program} {l : Launch} {e : Env} {s : State} {m : MethodId} {args : Array Value} {below : List Frame} {meth : Method} {c : Code} {D : va_G} {ca : Nat → ClassId} {ρ : Nat → Nat → Nat} {o : Nat} {a1 : Nat} {Q : St → Prop} (C : Cx true p l s m meth c R0 b0_takeParametersFrom 4 D ca ρ) (hr : meth.sig.returnType = none) (ho : o < 6) (ha1 : a1 < 14) : ∀ (n : Nat) (x2 : Int32) (x3 : Int32) (S : St) , wp0_takeParametersFrom_15 o a1 Q n x2 x3 S → wm true p l e { frames := 2, cells := 0, slots := 0, locals := 48 } s m args below meth c D ca ρ 4 0 0 (qv true below args s D ca ρ 0 0 Q) 15 [(0, .ref (ρ 0 o)), (1, .ref (ρ 1 a1)), (2, .int x2), (3, .int x3)] [] S := by
  intro n
  induction n with
  | zero => intro x2 x3 S  hw; exact hw.elim
  | succ n ih =>
    intro x2 x3 S  hw
    unfold wp0_takeParametersFrom_15 at hw
    refine r_iload_n C (pc := 15) 3 rfl d0_takeParametersFrom_15 ?_
    refine r_aload_n C (pc := 16) 0 rfl d0_takeParametersFrom_16 ?_
    have hg1 := hw.1
    have hw := hw.2
    refine g0_function C (pc := 17) ho w0_30 d0_takeParametersFrom_17 ?_
    refine r_callVi C (pc := 20) (fun sz => ct4_parameterCount l D ca ρ sz C.2.2.2.2.2.2.1 hg1 hw) mf4_parameterCount w0_60 rfl hg1 rfl rfl rfl rfl ⟨Nat.le_of_ble_eq_true rfl, Nat.le_of_ble_eq_true rfl⟩ rfl rfl (Nat.le_of_ble_eq_true rfl) ⟨Nat.zero_le _, Nat.zero_le _⟩ d0_takeParametersFrom_20 (fun r1 S1 hw => ?_)
    refine r_icmp_ge C (pc := 23) (tgt := 44) d0_takeParametersFrom_23 (by decide) (fun c2 => ?_) (fun c2 => ?_)
    · have hw := hw.1 c2
      refine r_aload_n C (pc := 44) 1 rfl d0_takeParametersFrom_44 ?_
      refine r_iload_n C (pc := 45) 2 rfl d0_takeParametersFrom_45 ?_
      refine r_callVv C (pc := 46) (fun sz => ct1_cutTo l D ca ρ sz C.2.2.2.2.2.2.1 ha1 hw) mf1_cutTo w0_67 rfl ha1 rfl rfl rfl rfl ⟨Nat.le_of_ble_eq_true rfl, Nat.le_of_ble_eq_true rfl⟩ rfl rfl (Nat.le_of_ble_eq_true rfl) ⟨Nat.zero_le _, Nat.zero_le _⟩ d0_takeParametersFrom_46 (fun S2 hw => ?_)
      exact r_vret C (pc := 49) hr d0_takeParametersFrom_49 hw
    · have hw := hw.2 c2
      refine r_aload_n C (pc := 26) 0 rfl d0_takeParametersFrom_26 ?_
      refine g0_variables C (pc := 27) ho w0_20 d0_takeParametersFrom_27 ?_
      refine r_iload_n C (pc := 30) 3 rfl d0_takeParametersFrom_30 ?_
      refine r_aload_n C (pc := 31) 1 rfl d0_takeParametersFrom_31 ?_
      refine r_iload_n C (pc := 32) 2 rfl d0_takeParametersFrom_32 ?_
      refine r_iload_n C (pc := 33) 3 rfl d0_takeParametersFrom_33 ?_
      refine r_iadd C (pc := 34) d0_takeParametersFrom_34 ?_
      refine r_callVv C (pc := 35) (fun sz => ct1_setFrom l D ca ρ sz C.2.2.2.2.2.2.1 (b3 ho) ha1 hw) mf1_setFrom w0_63 rfl (b3 ho) rfl rfl rfl rfl ⟨Nat.le_of_ble_eq_true rfl, Nat.le_of_ble_eq_true rfl⟩ rfl rfl (Nat.le_of_ble_eq_true rfl) ⟨Nat.zero_le _, Nat.zero_le _⟩ d0_takeParametersFrom_35 (fun S3 hw => ?_)
      obtain ⟨x3_1, ex3_1⟩ : ∃ y : Int32, y = x3 + 1 := ⟨_, rfl⟩
      have hw := hw x3_1 ex3_1
      refine r_iinc C (pc := 38) (v := x3_1) (ls' := [(3, .int x3_1), (0, .ref (ρ 0 o)), (1, .ref (ρ 1 a1)), (2, .int x2)]) 3 rfl (by rw [ex3_1]; rfl) (Nat.le_of_ble_eq_true rfl) rfl d0_takeParametersFrom_38 ?_
      refine r_goto C (pc := 41) (tgt := 15) d0_takeParametersFrom_41 (by decide) ?_
      refine r_sub (ls' := [(0, .ref (ρ 0 o)), (1, .ref (ρ 1 a1)), (2, .int x2), (3, .int x3_1)]) [1, 2, 3, 0] rfl ?_
      exact ih _ _ _ hw
set_option maxRecDepth 20000 in
theorem ct0_takeParametersFrom (l : Launch) (D : va_G) (ca : Nat → ClassId) (ρ : Nat → Nat → Nat) (sz : Nat) {S : St} {o : Nat} {a1 : Nat} {Q : St → Prop} (hAp : Ap true ρ) (ho : o < 6) (ha1 : a1 < 14) (hw : wp0_takeParametersFrom S o a1 Q) : Met l y0_takeParametersFrom [Cond.code y0_takeParametersFrom b0_takeParametersFrom 4 none] { frames := 2, cells := 0, slots := 0, locals := 48 } (va_Pc [.ref (ρ 0 o), .ref (ρ 1 a1)] (PreU true D ca ρ sz S)) (va_Qv Q (PostU true D ca ρ) (Ar true ρ sz)) 0 0 (Ar true ρ sz) := by
  refine met_of_wm (own := R0) (ls0 := [(0, .ref (ρ 0 o)), (1, .ref (ρ 1 a1))]) rfl rfl hAp (Nat.le_of_ble_eq_true rfl) rfl fun p e s m args below meth c C hr hz => ?_
  subst hz
  unfold wp0_takeParametersFrom at hw
  refine r_aload_n C (pc := 0) 1 rfl d0_takeParametersFrom_0 ?_
  refine r_callVi C (pc := 1) (fun sz => ct1_height l D ca ρ sz C.2.2.2.2.2.2.1 ha1 hw) mf1_height w0_56 rfl ha1 rfl rfl rfl rfl ⟨Nat.le_of_ble_eq_true rfl, Nat.le_of_ble_eq_true rfl⟩ rfl rfl (Nat.le_of_ble_eq_true rfl) ⟨Nat.zero_le _, Nat.zero_le _⟩ d0_takeParametersFrom_1 (fun r1 S1 hw => ?_)
  refine r_aload_n C (pc := 4) 0 rfl d0_takeParametersFrom_4 ?_
  have hg1 := hw.1
  have hw := hw.2
  refine g0_function C (pc := 5) ho w0_30 d0_takeParametersFrom_5 ?_
  refine r_callVi C (pc := 8) (fun sz => ct4_parameterCount l D ca ρ sz C.2.2.2.2.2.2.1 hg1 hw) mf4_parameterCount w0_60 rfl hg1 rfl rfl rfl rfl ⟨Nat.le_of_ble_eq_true rfl, Nat.le_of_ble_eq_true rfl⟩ rfl rfl (Nat.le_of_ble_eq_true rfl) ⟨Nat.zero_le _, Nat.zero_le _⟩ d0_takeParametersFrom_8 (fun r2 S2 hw => ?_)
  refine r_isub C (pc := 11) d0_takeParametersFrom_11 ?_
  refine r_topi (fun x2_1 ex2_1 => ?_)
  have hw := hw x2_1 ex2_1
  refine r_istore_n C (pc := 12) (ls' := [(2, .int x2_1), (0, .ref (ρ 0 o)), (1, .ref (ρ 1 a1))]) (Nat.le_of_ble_eq_true rfl) rfl d0_takeParametersFrom_12 ?_
  refine r_iconst C (pc := 13) (v := 0) d0_takeParametersFrom_13 (by decide) ?_
  refine r_istore_n C (pc := 14) (ls' := [(3, .int 0), (2, .int x2_1), (0, .ref (ρ 0 o)), (1, .ref (ρ 1 a1))]) (Nat.le_of_ble_eq_true rfl) rfl d0_takeParametersFrom_14 ?_
  refine r_sub (ls' := [(0, .ref (ρ 0 o)), (1, .ref (ρ 1 a1)), (2, .int x2_1), (3, .int 0)]) [2, 3, 1, 0] rfl ?_
  obtain ⟨n, hw⟩ := hw
  exact nd0_takeParametersFrom_15 C hr ho ha1 n _ _ _ hw
set_option maxRecDepth 20000 in
theorem ct0_beginFrame (l : Launch) (D : va_G) (ca : Nat → ClassId) (ρ : Nat → Nat → Nat) (sz : Nat) {S : St} {o : Nat} {x1 : Int32} {Q : St → Prop} (hAp : Ap true ρ) (ho : o < 6) (hw : wp0_beginFrame S o x1 Q) : Met l y0_beginFrame [Cond.code y0_beginFrame b0_beginFrame 2 none] { frames := 1, cells := 0, slots := 0, locals := 20 } (va_Pc [.ref (ρ 0 o), .int x1] (PreU true D ca ρ sz S)) (va_Qv Q (PostU true D ca ρ) (Ar true ρ sz)) 0 0 (Ar true ρ sz) := by
  refine met_of_wm (own := R0) (ls0 := [(0, .ref (ρ 0 o)), (1, .int x1)]) rfl rfl hAp (Nat.le_of_ble_eq_true rfl) rfl fun p e s m args below meth c C hr hz => ?_
  subst hz
  unfold wp0_beginFrame at hw
  refine r_aload_n C (pc := 0) 0 rfl d0_beginFrame_0 ?_
  refine g0_frames C (pc := 1) ho w0_38 d0_beginFrame_1 ?_
  refine r_if_lt C (pc := 4) (tgt := 52) d0_beginFrame_4 (by decide) (fun c1 => ?_) (fun c1 => ?_)
  · have hw := hw.1 c1
    exact r_vret C (pc := 52) hr d0_beginFrame_52 hw
  · have hw := hw.2 c1
    refine r_aload_n C (pc := 7) 0 rfl d0_beginFrame_7 ?_
    refine g0_frames C (pc := 8) ho w0_38 d0_beginFrame_8 ?_
    refine r_bipush C (pc := 11) (v := 8) d0_beginFrame_11 (by decide) ?_
    refine r_icmp_ge C (pc := 13) (tgt := 52) d0_beginFrame_13 (by decide) (fun c2 => ?_) (fun c2 => ?_)
    · have hw := hw.1 c2
      exact r_vret C (pc := 52) hr d0_beginFrame_52 hw
    · have hw := hw.2 c2
      refine r_aload_n C (pc := 16) 0 rfl d0_beginFrame_16 ?_
      refine g0_begins C (pc := 17) ho w0_23 d0_beginFrame_17 ?_
      refine r_aload_n C (pc := 20) 0 rfl d0_beginFrame_20 ?_
      refine g0_frames C (pc := 21) ho w0_38 d0_beginFrame_21 ?_
      refine r_iload_n C (pc := 24) 1 rfl d0_beginFrame_24 ?_
      have hi3 := hw.1
      have hw := hw.2
      refine st1002 C (pc := 25) ho hi3 d0_beginFrame_25 ?_
      refine r_S (fun S1 eS1 => ?_)
      have hw := hw S1 eS1
      refine r_aload_n C (pc := 26) 0 rfl d0_beginFrame_26 ?_
      refine g0_bases C (pc := 27) ho w0_27 d0_beginFrame_27 ?_
      refine r_aload_n C (pc := 30) 0 rfl d0_beginFrame_30 ?_
      refine g0_frames C (pc := 31) ho w0_38 d0_beginFrame_31 ?_
      refine r_aload_n C (pc := 34) 0 rfl d0_beginFrame_34 ?_
      refine g0_stack C (pc := 35) ho w0_14 d0_beginFrame_35 ?_
      refine r_callVi C (pc := 38) (fun sz => ct1_height l D ca ρ sz C.2.2.2.2.2.2.1 (b2 ho) hw) mf1_height w0_56 rfl (b2 ho) rfl rfl rfl rfl ⟨Nat.le_of_ble_eq_true rfl, Nat.le_of_ble_eq_true rfl⟩ rfl rfl (Nat.le_of_ble_eq_true rfl) ⟨Nat.zero_le _, Nat.zero_le _⟩ d0_beginFrame_38 (fun r1 S2 hw => ?_)
      have hi4 := hw.1
      have hw := hw.2
      refine st1003 C (pc := 41) ho hi4 d0_beginFrame_41 ?_
      refine r_S (fun S3 eS3 => ?_)
      have hw := hw S3 eS3
      refine r_aload_n C (pc := 42) 0 rfl d0_beginFrame_42 ?_
      refine r_dup C (pc := 43) rfl d0_beginFrame_43 ?_
      refine g0_frames C (pc := 44) ho w0_38 d0_beginFrame_44 ?_
      refine r_iconst C (pc := 47) (v := 1) d0_beginFrame_47 (by decide) ?_
      refine r_iadd C (pc := 48) d0_beginFrame_48 ?_
      refine p0_frames C (pc := 49) ho w0_38 d0_beginFrame_49 ?_
      refine r_S (fun S4 eS4 => ?_)
      have hw := hw S4 eS4
      exact r_vret C (pc := 52) hr d0_beginFrame_52 hw
set_option maxRecDepth 20000 in
theorem ct1_drop (l : Launch) (D : va_G) (ca : Nat → ClassId) (ρ : Nat → Nat → Nat) (sz : Nat) {S : St} {o : Nat} {Q : St → Prop} (hAp : Ap true ρ) (ho : o < 14) (hw : wp1_drop S o Q) : Met l y1_drop [Cond.code y1_drop b1_drop 1 none] { frames := 0, cells := 0, slots := 0, locals := 0 } (va_Pc [.ref (ρ 1 o)] (PreU true D ca ρ sz S)) (va_Qv Q (PostU true D ca ρ) (Ar true ρ sz)) 0 0 (Ar true ρ sz) := by
  refine met_of_wm (own := R1) (ls0 := [(0, .ref (ρ 1 o))]) rfl rfl hAp (Nat.le_of_ble_eq_true rfl) rfl fun p e s m args below meth c C hr hz => ?_
  subst hz
  unfold wp1_drop at hw
  refine r_aload_n C (pc := 0) 0 rfl d1_drop_0 ?_
  refine g1_height C (pc := 1) ho w1_21 d1_drop_1 ?_
  refine r_if_le C (pc := 4) (tgt := 17) d1_drop_4 (by decide) (fun c1 => ?_) (fun c1 => ?_)
  · have hw := hw.1 c1
    exact r_vret C (pc := 17) hr d1_drop_17 hw
  · have hw := hw.2 c1
    refine r_aload_n C (pc := 7) 0 rfl d1_drop_7 ?_
    refine r_dup C (pc := 8) rfl d1_drop_8 ?_
    refine g1_height C (pc := 9) ho w1_21 d1_drop_9 ?_
    refine r_iconst C (pc := 12) (v := 1) d1_drop_12 (by decide) ?_
    refine r_isub C (pc := 13) d1_drop_13 ?_
    refine p1_height C (pc := 14) ho w1_21 d1_drop_14 ?_
    refine r_S (fun S1 eS1 => ?_)
    have hw := hw S1 eS1
    exact r_vret C (pc := 17) hr d1_drop_17 hw
set_option maxRecDepth 20000 in
theorem ct1_takeNumber (l : Launch) (D : va_G) (ca : Nat → ClassId) (ρ : Nat → Nat → Nat) (sz : Nat) {S : St} {o : Nat} {Q : Int64 → St → Prop} (hAp : Ap true ρ) (ho : o < 14) (hw : wp1_takeNumber S o Q) : Met l y1_takeNumber [Cond.code y1_takeNumber b1_takeNumber 1 (some .long)] { frames := 1, cells := 0, slots := 0, locals := 21 } (va_Pc [.ref (ρ 1 o)] (PreU true D ca ρ sz S)) (va_Ql Q (PostU true D ca ρ) (Ar true ρ sz)) 0 0 (Ar true ρ sz) := by
  refine met_of_wm (own := R1) (ls0 := [(0, .ref (ρ 1 o))]) rfl rfl hAp (Nat.le_of_ble_eq_true rfl) rfl fun p e s m args below meth c C hr hz => ?_
  subst hz
  unfold wp1_takeNumber at hw
  refine r_aload_n C (pc := 0) 0 rfl d1_takeNumber_0 ?_
  refine r_callVv C (pc := 1) (fun sz => ct1_drop l D ca ρ sz C.2.2.2.2.2.2.1 ho hw) mf1_drop w1_37 rfl ho rfl rfl rfl rfl ⟨Nat.le_of_ble_eq_true rfl, Nat.le_of_ble_eq_true rfl⟩ rfl rfl (Nat.le_of_ble_eq_true rfl) ⟨Nat.zero_le _, Nat.zero_le _⟩ d1_takeNumber_1 (fun S1 hw => ?_)
  refine r_aload_n C (pc := 4) 0 rfl d1_takeNumber_4 ?_
  refine r_aload_n C (pc := 5) 0 rfl d1_takeNumber_5 ?_
  refine g1_height C (pc := 6) ho w1_21 d1_takeNumber_6 ?_
  refine r_callVl C (pc := 9) (fun sz => ct1_numberAt l D ca ρ sz C.2.2.2.2.2.2.1 ho hw) mf1_numberAt w1_25 rfl ho rfl rfl rfl rfl ⟨Nat.le_of_ble_eq_true rfl, Nat.le_of_ble_eq_true rfl⟩ rfl rfl (Nat.le_of_ble_eq_true rfl) ⟨Nat.zero_le _, Nat.zero_le _⟩ d1_takeNumber_9 (fun r1 S2 hw => ?_)
  exact r_lret C (pc := 12) hr d1_takeNumber_12 hw
set_option maxRecDepth 20000 in
theorem ct1_takeInt (l : Launch) (D : va_G) (ca : Nat → ClassId) (ρ : Nat → Nat → Nat) (sz : Nat) {S : St} {o : Nat} {Q : Int32 → St → Prop} (hAp : Ap true ρ) (ho : o < 14) (hw : wp1_takeInt S o Q) : Met l y1_takeInt [Cond.code y1_takeInt b1_takeInt 1 (some .int)] { frames := 2, cells := 0, slots := 0, locals := 41 } (va_Pc [.ref (ρ 1 o)] (PreU true D ca ρ sz S)) (va_Qi Q (PostU true D ca ρ) (Ar true ρ sz)) 0 0 (Ar true ρ sz) := by
  refine met_of_wm (own := R1) (ls0 := [(0, .ref (ρ 1 o))]) rfl rfl hAp (Nat.le_of_ble_eq_true rfl) rfl fun p e s m args below meth c C hr hz => ?_
  subst hz
  unfold wp1_takeInt at hw
  refine r_aload_n C (pc := 0) 0 rfl d1_takeInt_0 ?_
  refine r_callVl C (pc := 1) (fun sz => ct1_takeNumber l D ca ρ sz C.2.2.2.2.2.2.1 ho hw) mf1_takeNumber w1_40 rfl ho rfl rfl rfl rfl ⟨Nat.le_of_ble_eq_true rfl, Nat.le_of_ble_eq_true rfl⟩ rfl rfl (Nat.le_of_ble_eq_true rfl) ⟨Nat.zero_le _, Nat.zero_le _⟩ d1_takeInt_1 (fun r1 S1 hw => ?_)
  refine r_l2i C (pc := 4) d1_takeInt_4 ?_
  exact r_iret C (pc := 5) hr d1_takeInt_5 hw
set_option maxRecDepth 20000 in
theorem ct4_behindElse (l : Launch) (D : va_G) (ca : Nat → ClassId) (ρ : Nat → Nat → Nat) (sz : Nat) {S : St} {o : Nat} {x1 : Int32} {Q : Int32 → St → Prop} (hAp : Ap true ρ) (ho : o < 6) (hw : wp4_behindElse S o x1 Q) : Met l y4_behindElse [Cond.code y4_behindElse b4_behindElse 2 (some .int)] { frames := 0, cells := 0, slots := 0, locals := 0 } (va_Pc [.ref (ρ 4 o), .int x1] (PreU true D ca ρ sz S)) (va_Qi Q (PostU true D ca ρ) (Ar true ρ sz)) 0 0 (Ar true ρ sz) := by
  refine met_of_wm (own := R4) (ls0 := [(0, .ref (ρ 4 o)), (1, .int x1)]) rfl rfl hAp (Nat.le_of_ble_eq_true rfl) rfl fun p e s m args below meth c C hr hz => ?_
  subst hz
  unfold wp4_behindElse at hw
  refine r_iload_n C (pc := 0) 1 rfl d4_behindElse_0 ?_
  refine r_if_lt C (pc := 1) (tgt := 19) d4_behindElse_1 (by decide) (fun c1 => ?_) (fun c1 => ?_)
  · have hw := hw.1 c1
    refine r_iconst C (pc := 19) (v := 0) d4_behindElse_19 (by decide) ?_
    exact r_iret C (pc := 20) hr d4_behindElse_20 hw
  · have hw := hw.2 c1
    refine r_iload_n C (pc := 4) 1 rfl d4_behindElse_4 ?_
    refine r_bipush C (pc := 5) (v := 60) d4_behindElse_5 (by decide) ?_
    refine r_icmp_ge C (pc := 7) (tgt := 19) d4_behindElse_7 (by decide) (fun c2 => ?_) (fun c2 => ?_)
    · have hw := hw.1 c2
      refine r_iconst C (pc := 19) (v := 0) d4_behindElse_19 (by decide) ?_
      exact r_iret C (pc := 20) hr d4_behindElse_20 hw
    · have hw := hw.2 c2
      refine r_aload_n C (pc := 10) 0 rfl d4_behindElse_10 ?_
      refine g4_behindElse C (pc := 11) ho w4_18 d4_behindElse_11 ?_
      refine r_iload_n C (pc := 14) 1 rfl d4_behindElse_14 ?_
      have hi3 := hw.1
      have hw := hw.2
      refine ld1402 C (pc := 15) ho hi3 d4_behindElse_15 ?_
      refine r_goto C (pc := 16) (tgt := 20) d4_behindElse_16 (by decide) ?_
      exact r_iret C (pc := 20) hr d4_behindElse_20 hw
set_option maxRecDepth 20000 in
theorem ct4_behindEnd (l : Launch) (D : va_G) (ca : Nat → ClassId) (ρ : Nat → Nat → Nat) (sz : Nat) {S : St} {o : Nat} {x1 : Int32} {Q : Int32 → St → Prop} (hAp : Ap true ρ) (ho : o < 6) (hw : wp4_behindEnd S o x1 Q) : Met l y4_behindEnd [Cond.code y4_behindEnd b4_behindEnd 2 (some .int)] { frames := 0, cells := 0, slots := 0, locals := 0 } (va_Pc [.ref (ρ 4 o), .int x1] (PreU true D ca ρ sz S)) (va_Qi Q (PostU true D ca ρ) (Ar true ρ sz)) 0 0 (Ar true ρ sz) := by
  refine met_of_wm (own := R4) (ls0 := [(0, .ref (ρ 4 o)), (1, .int x1)]) rfl rfl hAp (Nat.le_of_ble_eq_true rfl) rfl fun p e s m args below meth c C hr hz => ?_
  subst hz
  unfold wp4_behindEnd at hw
  refine r_iload_n C (pc := 0) 1 rfl d4_behindEnd_0 ?_
  refine r_if_lt C (pc := 1) (tgt := 19) d4_behindEnd_1 (by decide) (fun c1 => ?_) (fun c1 => ?_)
  · have hw := hw.1 c1
    refine r_iconst C (pc := 19) (v := 0) d4_behindEnd_19 (by decide) ?_
    exact r_iret C (pc := 20) hr d4_behindEnd_20 hw
  · have hw := hw.2 c1
    refine r_iload_n C (pc := 4) 1 rfl d4_behindEnd_4 ?_
    refine r_bipush C (pc := 5) (v := 60) d4_behindEnd_5 (by decide) ?_
    refine r_icmp_ge C (pc := 7) (tgt := 19) d4_behindEnd_7 (by decide) (fun c2 => ?_) (fun c2 => ?_)
    · have hw := hw.1 c2
      refine r_iconst C (pc := 19) (v := 0) d4_behindEnd_19 (by decide) ?_
      exact r_iret C (pc := 20) hr d4_behindEnd_20 hw
    · have hw := hw.2 c2
      refine r_aload_n C (pc := 10) 0 rfl d4_behindEnd_10 ?_
      refine g4_behindEnd C (pc := 11) ho w4_21 d4_behindEnd_11 ?_
      refine r_iload_n C (pc := 14) 1 rfl d4_behindEnd_14 ?_
      have hi3 := hw.1
      have hw := hw.2
      refine ld1403 C (pc := 15) ho hi3 d4_behindEnd_15 ?_
      refine r_goto C (pc := 16) (tgt := 20) d4_behindEnd_16 (by decide) ?_
      exact r_iret C (pc := 20) hr d4_behindEnd_20 hw
set_option maxRecDepth 20000 in
theorem ct0_beginIf (l : Launch) (D : va_G) (ca : Nat → ClassId) (ρ : Nat → Nat → Nat) (sz : Nat) {S : St} {o : Nat} {x1 : Int32} {Q : St → Prop} (hAp : Ap true ρ) (ho : o < 6) (hw : wp0_beginIf S o x1 Q) : Met l y0_beginIf [Cond.code y0_beginIf b0_beginIf 2 none] { frames := 3, cells := 0, slots := 0, locals := 61 } (va_Pc [.ref (ρ 0 o), .int x1] (PreU true D ca ρ sz S)) (va_Qv Q (PostU true D ca ρ) (Ar true ρ sz)) 0 0 (Ar true ρ sz) := by
  refine met_of_wm (own := R0) (ls0 := [(0, .ref (ρ 0 o)), (1, .int x1)]) rfl rfl hAp (Nat.le_of_ble_eq_true rfl) rfl fun p e s m args below meth c C hr hz => ?_
  subst hz
  unfold wp0_beginIf at hw
  refine r_aload_n C (pc := 0) 0 rfl d0_beginIf_0 ?_
  refine g0_stack C (pc := 1) ho w0_14 d0_beginIf_1 ?_
  refine r_callVi C (pc := 4) (fun sz => ct1_takeInt l D ca ρ sz C.2.2.2.2.2.2.1 (b2 ho) hw) mf1_takeInt w0_70 rfl (b2 ho) rfl rfl rfl rfl ⟨Nat.le_of_ble_eq_true rfl, Nat.le_of_ble_eq_true rfl⟩ rfl rfl (Nat.le_of_ble_eq_true rfl) ⟨Nat.zero_le _, Nat.zero_le _⟩ d0_beginIf_4 (fun r1 S1 hw => ?_)
  refine r_if_eq C (pc := 7) (tgt := 18) d0_beginIf_7 (by decide) (fun c1 => ?_) (fun c1 => ?_)
  · have hw := hw.1 c1
    refine r_aload_n C (pc := 18) 0 rfl d0_beginIf_18 ?_
    have hg2 := hw.1
    have hw := hw.2
    refine g0_function C (pc := 19) ho w0_30 d0_beginIf_19 ?_
    refine r_iload_n C (pc := 22) 1 rfl d0_beginIf_22 ?_
    refine r_callVi C (pc := 23) (fun sz => ct4_behindElse l D ca ρ sz C.2.2.2.2.2.2.1 hg2 hw) mf4_behindElse w0_76 rfl hg2 rfl rfl rfl rfl ⟨Nat.le_of_ble_eq_true rfl, Nat.le_of_ble_eq_true rfl⟩ rfl rfl (Nat.le_of_ble_eq_true rfl) ⟨Nat.zero_le _, Nat.zero_le _⟩ d0_beginIf_23 (fun r2 S2 hw => ?_)
    refine r_if_eq C (pc := 26) (tgt := 49) d0_beginIf_26 (by decide) (fun c3 => ?_) (fun c3 => ?_)
    · have hw := hw.1 c3
      refine r_aload_n C (pc := 49) 0 rfl d0_beginIf_49 ?_
      refine r_aload_n C (pc := 50) 0 rfl d0_beginIf_50 ?_
      have hg4 := hw.1
      have hw := hw.2
      refine g0_function C (pc := 51) ho w0_30 d0_beginIf_51 ?_
      refine r_iload_n C (pc := 54) 1 rfl d0_beginIf_54 ?_
      refine r_callVi C (pc := 55) (fun sz => ct4_behindEnd l D ca ρ sz C.2.2.2.2.2.2.1 hg4 hw) mf4_behindEnd w0_79 rfl hg4 rfl rfl rfl rfl ⟨Nat.le_of_ble_eq_true rfl, Nat.le_of_ble_eq_true rfl⟩ rfl rfl (Nat.le_of_ble_eq_true rfl) ⟨Nat.zero_le _, Nat.zero_le _⟩ d0_beginIf_55 (fun r3 S3 hw => ?_)
      refine p0_place C (pc := 58) ho w0_34 d0_beginIf_58 ?_
      refine r_S (fun S4 eS4 => ?_)
      have hw := hw S4 eS4
      exact r_vret C (pc := 61) hr d0_beginIf_61 hw
    · have hw := hw.2 c3
      refine r_aload_n C (pc := 29) 0 rfl d0_beginIf_29 ?_
      refine r_iload_n C (pc := 30) 1 rfl d0_beginIf_30 ?_
      refine r_callVv C (pc := 31) (fun sz => ct0_beginFrame l D ca ρ sz C.2.2.2.2.2.2.1 ho hw) mf0_beginFrame w0_73 rfl ho rfl rfl rfl rfl ⟨Nat.le_of_ble_eq_true rfl, Nat.le_of_ble_eq_true rfl⟩ rfl rfl (Nat.le_of_ble_eq_true rfl) ⟨Nat.zero_le _, Nat.zero_le _⟩ d0_beginIf_31 (fun S5 hw => ?_)
      refine r_aload_n C (pc := 34) 0 rfl d0_beginIf_34 ?_
      refine r_aload_n C (pc := 35) 0 rfl d0_beginIf_35 ?_
      have hg5 := hw.1
      have hw := hw.2
      refine g0_function C (pc := 36) ho w0_30 d0_beginIf_36 ?_
      refine r_iload_n C (pc := 39) 1 rfl d0_beginIf_39 ?_
      refine r_callVi C (pc := 40) (fun sz => ct4_behindElse l D ca ρ sz C.2.2.2.2.2.2.1 hg5 hw) mf4_behindElse w0_76 rfl hg5 rfl rfl rfl rfl ⟨Nat.le_of_ble_eq_true rfl, Nat.le_of_ble_eq_true rfl⟩ rfl rfl (Nat.le_of_ble_eq_true rfl) ⟨Nat.zero_le _, Nat.zero_le _⟩ d0_beginIf_40 (fun r4 S6 hw => ?_)
      refine p0_place C (pc := 43) ho w0_34 d0_beginIf_43 ?_
      refine r_S (fun S7 eS7 => ?_)
      have hw := hw S7 eS7
      refine r_goto C (pc := 46) (tgt := 61) d0_beginIf_46 (by decide) ?_
      exact r_vret C (pc := 61) hr d0_beginIf_61 hw
  · have hw := hw.2 c1
    refine r_aload_n C (pc := 10) 0 rfl d0_beginIf_10 ?_
    refine r_iload_n C (pc := 11) 1 rfl d0_beginIf_11 ?_
    refine r_callVv C (pc := 12) (fun sz => ct0_beginFrame l D ca ρ sz C.2.2.2.2.2.2.1 ho hw) mf0_beginFrame w0_73 rfl ho rfl rfl rfl rfl ⟨Nat.le_of_ble_eq_true rfl, Nat.le_of_ble_eq_true rfl⟩ rfl rfl (Nat.le_of_ble_eq_true rfl) ⟨Nat.zero_le _, Nat.zero_le _⟩ d0_beginIf_12 (fun S8 hw => ?_)
    refine r_goto C (pc := 15) (tgt := 61) d0_beginIf_15 (by decide) ?_
    exact r_vret C (pc := 61) hr d0_beginIf_61 hw
set_option maxRecDepth 20000 in
theorem ct0_endFrame (l : Launch) (D : va_G) (ca : Nat → ClassId) (ρ : Nat → Nat → Nat) (sz : Nat) {S : St} {o : Nat} {Q : St → Prop} (hAp : Ap true ρ) (ho : o < 6) (hw : wp0_endFrame S o Q) : Met l y0_endFrame [Cond.code y0_endFrame b0_endFrame 1 none] { frames := 0, cells := 0, slots := 0, locals := 0 } (va_Pc [.ref (ρ 0 o)] (PreU true D ca ρ sz S)) (va_Qv Q (PostU true D ca ρ) (Ar true ρ sz)) 0 0 (Ar true ρ sz) := by
  refine met_of_wm (own := R0) (ls0 := [(0, .ref (ρ 0 o))]) rfl rfl hAp (Nat.le_of_ble_eq_true rfl) rfl fun p e s m args below meth c C hr hz => ?_
  subst hz
  unfold wp0_endFrame at hw
  refine r_aload_n C (pc := 0) 0 rfl d0_endFrame_0 ?_
  refine r_dup C (pc := 1) rfl d0_endFrame_1 ?_
  refine g0_frames C (pc := 2) ho w0_38 d0_endFrame_2 ?_
  refine r_iconst C (pc := 5) (v := 1) d0_endFrame_5 (by decide) ?_
  refine r_isub C (pc := 6) d0_endFrame_6 ?_
  refine p0_frames C (pc := 7) ho w0_38 d0_endFrame_7 ?_
  refine r_S (fun S1 eS1 => ?_)
  have hw := hw S1 eS1
  exact r_vret C (pc := 10) hr d0_endFrame_10 hw
set_option maxRecDepth 20000 in
theorem ct0_goBehindEnd (l : Launch) (D : va_G) (ca : Nat → ClassId) (ρ : Nat → Nat → Nat) (sz : Nat) {S : St} {o : Nat} {Q : St → Prop} (hAp : Ap true ρ) (ho : o < 6) (hw : wp0_goBehindEnd S o Q) : Met l y0_goBehindEnd [Cond.code y0_goBehindEnd b0_goBehindEnd 1 none] { frames := 1, cells := 0, slots := 0, locals := 21 } (va_Pc [.ref (ρ 0 o)] (PreU true D ca ρ sz S)) (va_Qv Q (PostU true D ca ρ) (Ar true ρ sz)) 0 0 (Ar true ρ sz) := by
  refine met_of_wm (own := R0) (ls0 := [(0, .ref (ρ 0 o))]) rfl rfl hAp (Nat.le_of_ble_eq_true rfl) rfl fun p e s m args below meth c C hr hz => ?_
  subst hz
  unfold wp0_goBehindEnd at hw
  refine r_aload_n C (pc := 0) 0 rfl d0_goBehindEnd_0 ?_
  refine r_dup C (pc := 1) rfl d0_goBehindEnd_1 ?_
  refine g0_frames C (pc := 2) ho w0_38 d0_goBehindEnd_2 ?_
  refine r_iconst C (pc := 5) (v := 1) d0_goBehindEnd_5 (by decide) ?_
  refine r_isub C (pc := 6) d0_goBehindEnd_6 ?_
  refine p0_frames C (pc := 7) ho w0_38 d0_goBehindEnd_7 ?_
  refine r_S (fun S1 eS1 => ?_)
  have hw := hw S1 eS1
  refine r_aload_n C (pc := 10) 0 rfl d0_goBehindEnd_10 ?_
  refine g0_frames C (pc := 11) ho w0_38 d0_goBehindEnd_11 ?_
  refine r_if_lt C (pc := 14) (tgt := 46) d0_goBehindEnd_14 (by decide) (fun c1 => ?_) (fun c1 => ?_)
  · have hw := hw.1 c1
    exact r_vret C (pc := 46) hr d0_goBehindEnd_46 hw
  · have hw := hw.2 c1
    refine r_aload_n C (pc := 17) 0 rfl d0_goBehindEnd_17 ?_
    refine g0_frames C (pc := 18) ho w0_38 d0_goBehindEnd_18 ?_
    refine r_bipush C (pc := 21) (v := 8) d0_goBehindEnd_21 (by decide) ?_
    refine r_icmp_ge C (pc := 23) (tgt := 46) d0_goBehindEnd_23 (by decide) (fun c2 => ?_) (fun c2 => ?_)
    · have hw := hw.1 c2
      exact r_vret C (pc := 46) hr d0_goBehindEnd_46 hw
    · have hw := hw.2 c2
      refine r_aload_n C (pc := 26) 0 rfl d0_goBehindEnd_26 ?_
      refine r_aload_n C (pc := 27) 0 rfl d0_goBehindEnd_27 ?_
      have hg3 := hw.1
      have hw := hw.2
      refine g0_function C (pc := 28) ho w0_30 d0_goBehindEnd_28 ?_
      refine r_aload_n C (pc := 31) 0 rfl d0_goBehindEnd_31 ?_
      refine g0_begins C (pc := 32) ho w0_23 d0_goBehindEnd_32 ?_
      refine r_aload_n C (pc := 35) 0 rfl d0_goBehindEnd_35 ?_
      refine g0_frames C (pc := 36) ho w0_38 d0_goBehindEnd_36 ?_
      have hi4 := hw.1
      have hw := hw.2
      refine ld1002 C (pc := 39) ho hi4 d0_goBehindEnd_39 ?_
      refine r_callVi C (pc := 40) (fun sz => ct4_behindEnd l D ca ρ sz C.2.2.2.2.2.2.1 hg3 hw) mf4_behindEnd w0_79 rfl hg3 rfl rfl rfl rfl ⟨Nat.le_of_ble_eq_true rfl, Nat.le_of_ble_eq_true rfl⟩ rfl rfl (Nat.le_of_ble_eq_true rfl) ⟨Nat.zero_le _, Nat.zero_le _⟩ d0_goBehindEnd_40 (fun r1 S2 hw => ?_)
      refine p0_place C (pc := 43) ho w0_34 d0_goBehindEnd_43 ?_
      refine r_S (fun S3 eS3 => ?_)
      have hw := hw S3 eS3
      exact r_vret C (pc := 46) hr d0_goBehindEnd_46 hw
set_option maxRecDepth 20000 in
theorem ct4_byteAt (l : Launch) (D : va_G) (ca : Nat → ClassId) (ρ : Nat → Nat → Nat) (sz : Nat) {S : St} {o : Nat} {x1 : Int32} {Q : Int32 → St → Prop} (hAp : Ap true ρ) (ho : o < 6) (hw : wp4_byteAt S o x1 Q) : Met l y4_byteAt [Cond.code y4_byteAt b4_byteAt 2 (some .int)] { frames := 0, cells := 0, slots := 0, locals := 0 } (va_Pc [.ref (ρ 4 o), .int x1] (PreU true D ca ρ sz S)) (va_Qi Q (PostU true D ca ρ) (Ar true ρ sz)) 0 0 (Ar true ρ sz) := by
  refine met_of_wm (own := R4) (ls0 := [(0, .ref (ρ 4 o)), (1, .int x1)]) rfl rfl hAp (Nat.le_of_ble_eq_true rfl) rfl fun p e s m args below meth c C hr hz => ?_
  subst hz
  unfold wp4_byteAt at hw
  refine r_iload_n C (pc := 0) 1 rfl d4_byteAt_0 ?_
  refine r_if_lt C (pc := 1) (tgt := 21) d4_byteAt_1 (by decide) (fun c1 => ?_) (fun c1 => ?_)
  · have hw := hw.1 c1
    refine r_iconst C (pc := 21) (v := 0) d4_byteAt_21 (by decide) ?_
    exact r_iret C (pc := 22) hr d4_byteAt_22 hw
  · have hw := hw.2 c1
    refine r_iload_n C (pc := 4) 1 rfl d4_byteAt_4 ?_
    refine r_aload_n C (pc := 5) 0 rfl d4_byteAt_5 ?_
    refine g4_length C (pc := 6) ho w4_38 d4_byteAt_6 ?_
    refine r_icmp_ge C (pc := 9) (tgt := 21) d4_byteAt_9 (by decide) (fun c2 => ?_) (fun c2 => ?_)
    · have hw := hw.1 c2
      refine r_iconst C (pc := 21) (v := 0) d4_byteAt_21 (by decide) ?_
      exact r_iret C (pc := 22) hr d4_byteAt_22 hw
    · have hw := hw.2 c2
      refine r_aload_n C (pc := 12) 0 rfl d4_byteAt_12 ?_
      refine g4_bytes C (pc := 13) ho w4_15 d4_byteAt_13 ?_
      refine r_iload_n C (pc := 16) 1 rfl d4_byteAt_16 ?_
      have hi3 := hw.1
      have hw := hw.2
      refine ld1401 C (pc := 17) ho hi3 d4_byteAt_17 ?_
      refine r_goto C (pc := 18) (tgt := 22) d4_byteAt_18 (by decide) ?_
      exact r_iret C (pc := 22) hr d4_byteAt_22 hw
set_option maxRecDepth 20000 in
theorem ct1_put (l : Launch) (D : va_G) (ca : Nat → ClassId) (ρ : Nat → Nat → Nat) (sz : Nat) {S : St} {o : Nat} {x1 : Int64} {x3 : UInt64} {Q : St → Prop} (hAp : Ap true ρ) (ho : o < 14) (hw : wp1_put S o x1 x3 Q) : Met l y1_put [Cond.code y1_put b1_put 5 none] { frames := 0, cells := 0, slots := 0, locals := 0 } (va_Pc [.ref (ρ 1 o), .long x1, .double x3] (PreU true D ca ρ sz S)) (va_Qv Q (PostU true D ca ρ) (Ar true ρ sz)) 0 0 (Ar true ρ sz) := by
  refine met_of_wm (own := R1) (ls0 := [(0, .ref (ρ 1 o)), (1, .long x1), (3, .double x3)]) rfl rfl hAp (Nat.le_of_ble_eq_true rfl) rfl fun p e s m args below meth c C hr hz => ?_
  subst hz
  unfold wp1_put at hw
  refine r_aload_n C (pc := 0) 0 rfl d1_put_0 ?_
  refine g1_height C (pc := 1) ho w1_21 d1_put_1 ?_
  refine r_if_lt C (pc := 4) (tgt := 61) d1_put_4 (by decide) (fun c1 => ?_) (fun c1 => ?_)
  · have hw := hw.1 c1
    exact r_vret C (pc := 61) hr d1_put_61 hw
  · have hw := hw.2 c1
    refine r_aload_n C (pc := 7) 0 rfl d1_put_7 ?_
    refine g1_height C (pc := 8) ho w1_21 d1_put_8 ?_
    refine r_aload_n C (pc := 11) 0 rfl d1_put_11 ?_
    refine g1_numbers C (pc := 12) ho w1_7 d1_put_12 ?_
    refine al1100 C (pc := 15) ho d1_put_15 ?_
    refine r_icmp_ge C (pc := 16) (tgt := 61) d1_put_16 (by decide) (fun c2 => ?_) (fun c2 => ?_)
    · have hw := hw.1 c2
      exact r_vret C (pc := 61) hr d1_put_61 hw
    · have hw := hw.2 c2
      refine r_aload_n C (pc := 19) 0 rfl d1_put_19 ?_
      refine g1_height C (pc := 20) ho w1_21 d1_put_20 ?_
      refine r_aload_n C (pc := 23) 0 rfl d1_put_23 ?_
      refine g1_reals C (pc := 24) ho w1_13 d1_put_24 ?_
      refine al1101 C (pc := 27) ho d1_put_27 ?_
      refine r_icmp_ge C (pc := 28) (tgt := 61) d1_put_28 (by decide) (fun c3 => ?_) (fun c3 => ?_)
      · have hw := hw.1 c3
        exact r_vret C (pc := 61) hr d1_put_61 hw
      · have hw := hw.2 c3
        refine r_aload_n C (pc := 31) 0 rfl d1_put_31 ?_
        refine g1_numbers C (pc := 32) ho w1_7 d1_put_32 ?_
        refine r_aload_n C (pc := 35) 0 rfl d1_put_35 ?_
        refine g1_height C (pc := 36) ho w1_21 d1_put_36 ?_
        refine r_lload_n C (pc := 39) 1 rfl d1_put_39 ?_
        have hi4 := hw.1
        have hw := hw.2
        refine st1100 C (pc := 40) ho hi4 d1_put_40 ?_
        refine r_S (fun S1 eS1 => ?_)
        have hw := hw S1 eS1
        refine r_aload_n C (pc := 41) 0 rfl d1_put_41 ?_
        refine g1_reals C (pc := 42) ho w1_13 d1_put_42 ?_
        refine r_aload_n C (pc := 45) 0 rfl d1_put_45 ?_
        refine g1_height C (pc := 46) ho w1_21 d1_put_46 ?_
        refine r_dload_n C (pc := 49) 2 rfl d1_put_49 ?_
        have hi5 := hw.1
        have hw := hw.2
        refine st1101 C (pc := 50) ho hi5 d1_put_50 ?_
        refine r_S (fun S2 eS2 => ?_)
        have hw := hw S2 eS2
        refine r_aload_n C (pc := 51) 0 rfl d1_put_51 ?_
        refine r_dup C (pc := 52) rfl d1_put_52 ?_
        refine g1_height C (pc := 53) ho w1_21 d1_put_53 ?_
        refine r_iconst C (pc := 56) (v := 1) d1_put_56 (by decide) ?_
        refine r_iadd C (pc := 57) d1_put_57 ?_
        refine p1_height C (pc := 58) ho w1_21 d1_put_58 ?_
        refine r_S (fun S3 eS3 => ?_)
        have hw := hw S3 eS3
        exact r_vret C (pc := 61) hr d1_put_61 hw
set_option maxRecDepth 20000 in
theorem ct1_putFrom (l : Launch) (D : va_G) (ca : Nat → ClassId) (ρ : Nat → Nat → Nat) (sz : Nat) {S : St} {o : Nat} {a1 : Nat} {x2 : Int32} {Q : St → Prop} (hAp : Ap true ρ) (ho : o < 14) (ha1 : a1 < 14) (hw : wp1_putFrom S o a1 x2 Q) : Met l y1_putFrom [Cond.code y1_putFrom b1_putFrom 3 none] { frames := 1, cells := 0, slots := 0, locals := 24 } (va_Pc [.ref (ρ 1 o), .ref (ρ 1 a1), .int x2] (PreU true D ca ρ sz S)) (va_Qv Q (PostU true D ca ρ) (Ar true ρ sz)) 0 0 (Ar true ρ sz) := by
  refine met_of_wm (own := R1) (ls0 := [(0, .ref (ρ 1 o)), (1, .ref (ρ 1 a1)), (2, .int x2)]) rfl rfl hAp (Nat.le_of_ble_eq_true rfl) rfl fun p e s m args below meth c C hr hz => ?_
  subst hz
  unfold wp1_putFrom at hw
  refine r_aload_n C (pc := 0) 0 rfl d1_putFrom_0 ?_
  refine r_aload_n C (pc := 1) 1 rfl d1_putFrom_1 ?_
  refine r_iload_n C (pc := 2) 2 rfl d1_putFrom_2 ?_
  refine r_callVl C (pc := 3) (fun sz => ct1_numberAt l D ca ρ sz C.2.2.2.2.2.2.1 ha1 hw) mf1_numberAt w1_25 rfl ha1 rfl rfl rfl rfl ⟨Nat.le_of_ble_eq_true rfl, Nat.le_of_ble_eq_true rfl⟩ rfl rfl (Nat.le_of_ble_eq_true rfl) ⟨Nat.zero_le _, Nat.zero_le _⟩ d1_putFrom_3 (fun r1 S1 hw => ?_)
  refine r_aload_n C (pc := 6) 1 rfl d1_putFrom_6 ?_
  refine r_iload_n C (pc := 7) 2 rfl d1_putFrom_7 ?_
  refine r_callVd C (pc := 8) (fun sz => ct1_realAt l D ca ρ sz C.2.2.2.2.2.2.1 ha1 hw) mf1_realAt w1_29 rfl ha1 rfl rfl rfl rfl ⟨Nat.le_of_ble_eq_true rfl, Nat.le_of_ble_eq_true rfl⟩ rfl rfl (Nat.le_of_ble_eq_true rfl) ⟨Nat.zero_le _, Nat.zero_le _⟩ d1_putFrom_8 (fun r2 S2 hw => ?_)
  refine r_callVv C (pc := 11) (fun sz => ct1_put l D ca ρ sz C.2.2.2.2.2.2.1 ho hw) mf1_put w1_33 rfl ho rfl rfl rfl rfl ⟨Nat.le_of_ble_eq_true rfl, Nat.le_of_ble_eq_true rfl⟩ rfl rfl (Nat.le_of_ble_eq_true rfl) ⟨Nat.zero_le _, Nat.zero_le _⟩ d1_putFrom_11 (fun S3 hw => ?_)
  exact r_vret C (pc := 14) hr d1_putFrom_14 hw
set_option maxRecDepth 20000 in
theorem nd0_jumpsWithin_119 {p : Program} {l : Launch} {e : Env} {s : State} {m : MethodId} {args : Array Value} {below : List Frame} {meth : Method} {c : Code} {D : va_G} {ca : Nat → ClassId} {ρ : Nat → Nat → Nat} {o : Nat} {x1 : Int32} {Q : Int32 → St → Prop} {x2 : Int32} {x3 : Int32} {S : St} (C : Cx true p l s m meth c R0 b0_jumpsWithin 5 D ca ρ) (hr : meth.sig.returnType = (some .boolean)) (ho : o < 6)  (hw : wp0_jumpsWithin_119 o x1 Q x2 x3 S) : wm true p l e { frames := 2, cells := 0, slots := 0, locals := 46 } s m args below meth c D ca ρ 5 0 0 (qi true below args s D ca ρ 0 0 Q) 119 [(0, .ref (ρ 0 o)), (2, .int x2), (3, .int x3)] [] S := by
  unfold wp0_jumpsWithin_119 at hw
  refine r_aload_n C (pc := 119) 0 rfl d0_jumpsWithin_119 ?_
  refine r_aload_n C (pc := 120) 0 rfl d0_jumpsWithin_120 ?_
  have hg1 := hw.1
  have hw := hw.2
  refine g0_function C (pc := 121) ho w0_30 d0_jumpsWithin_121 ?_
  refine r_iload_n C (pc := 124) 2 rfl d0_jumpsWithin_124 ?_
  refine r_callVi C (pc := 125) (fun sz => ct4_behindEnd l D ca ρ sz C.2.2.2.2.2.2.1 hg1 hw) mf4_behindEnd w0_79 rfl hg1 rfl rfl rfl rfl ⟨Nat.le_of_ble_eq_true rfl, Nat.le_of_ble_eq_true rfl⟩ rfl rfl (Nat.le_of_ble_eq_true rfl) ⟨Nat.zero_le _, Nat.zero_le _⟩ d0_jumpsWithin_125 (fun r1 S1 hw => ?_)
  refine p0_place C (pc := 128) ho w0_34 d0_jumpsWithin_128 ?_
  refine r_S (fun S2 eS2 => ?_)
  have hw := hw S2 eS2
  refine r_aload_n C (pc := 131) 0 rfl d0_jumpsWithin_131 ?_
  refine r_iload_n C (pc := 132) 1 rfl d0_jumpsWithin_132 ?_
  refine p0_frames C (pc := 133) ho w0_38 d0_jumpsWithin_133 ?_
  refine r_S (fun S3 eS3 => ?_)
  have hw := hw S3 eS3
  refine r_iconst C (pc := 136) (v := 1) d0_jumpsWithin_136 (by decide) ?_
  exact r_zret C (pc := 137) hr rfl d0_jumpsWithin_137 hw
set_option maxRecDepth 20000 in
theorem ct0_jumpsWithin (l : Launch) (D : va_G) (ca : Nat → ClassId) (ρ : Nat → Nat → Nat) (sz : Nat) {S : St} {o : Nat} {x1 : Int32} {Q : Int32 → St → Prop} (hAp : Ap true ρ) (ho : o < 6) (hw : wp0_jumpsWithin S o x1 Q) : Met l y0_jumpsWithin [Cond.code y0_jumpsWithin b0_jumpsWithin 5 (some .boolean)] { frames := 2, cells := 0, slots := 0, locals := 46 } (va_Pc [.ref (ρ 0 o), .int x1] (PreU true D ca ρ sz S)) (va_Qi Q (PostU true D ca ρ) (Ar true ρ sz)) 0 0 (Ar true ρ sz) := by
  refine met_of_wm (own := R0) (ls0 := [(0, .ref (ρ 0 o)), (1, .int x1)]) rfl rfl hAp (Nat.le_of_ble_eq_true rfl) rfl fun p e s m args below meth c C hr hz => ?_
  subst hz
  unfold wp0_jumpsWithin at hw
  refine r_aload_n C (pc := 0) 0 rfl d0_jumpsWithin_0 ?_
  refine g0_frames C (pc := 1) ho w0_38 d0_jumpsWithin_1 ?_
  refine r_iconst C (pc := 4) (v := 1) d0_jumpsWithin_4 (by decide) ?_
  refine r_isub C (pc := 5) d0_jumpsWithin_5 ?_
  refine r_iload_n C (pc := 6) 1 rfl d0_jumpsWithin_6 ?_
  refine r_isub C (pc := 7) d0_jumpsWithin_7 ?_
  refine r_topi (fun x2_1 ex2_1 => ?_)
  have hw := hw x2_1 ex2_1
  refine r_istore_n C (pc := 8) (ls' := [(2, .int x2_1), (0, .ref (ρ 0 o)), (1, .int x1)]) (Nat.le_of_ble_eq_true rfl) rfl d0_jumpsWithin_8 ?_
  refine r_iload_n C (pc := 9) 0 rfl d0_jumpsWithin_9 ?_
  refine r_if_le C (pc := 10) (tgt := 19) d0_jumpsWithin_10 (by decide) (fun c1 => ?_) (fun c1 => ?_)
  · have hw := hw.1 c1
    refine r_iconst C (pc := 19) (v := 0) d0_jumpsWithin_19 (by decide) ?_
    exact r_zret C (pc := 20) hr rfl d0_jumpsWithin_20 hw
  · have hw := hw.2 c1
    refine r_iload_n C (pc := 13) 0 rfl d0_jumpsWithin_13 ?_
    refine r_bipush C (pc := 14) (v := 8) d0_jumpsWithin_14 (by decide) ?_
    refine r_icmp_lt C (pc := 16) (tgt := 21) d0_jumpsWithin_16 (by decide) (fun c2 => ?_) (fun c2 => ?_)
    · have hw := hw.1 c2
      refine r_aload_n C (pc := 21) 1 rfl d0_jumpsWithin_21 ?_
      refine g0_begins C (pc := 22) ho w0_23 d0_jumpsWithin_22 ?_
      refine r_iload_n C (pc := 25) 0 rfl d0_jumpsWithin_25 ?_
      have hi3 := hw.1
      have hw := hw.2
      refine ld1002 C (pc := 26) ho hi3 d0_jumpsWithin_26 ?_
      refine r_topi (fun x3_1 ex3_1 => ?_)
      have hw := hw x3_1 ex3_1
      refine r_istore_n C (pc := 27) (ls' := [(3, .int x3_1), (2, .int x2_1), (0, .ref (ρ 0 o)), (1, .int x1)]) (Nat.le_of_ble_eq_true rfl) rfl d0_jumpsWithin_27 ?_
      refine r_aload_n C (pc := 28) 2 rfl d0_jumpsWithin_28 ?_
      have hg4 := hw.1
      have hw := hw.2
      refine g0_function C (pc := 29) ho w0_30 d0_jumpsWithin_29 ?_
      refine r_iload_n C (pc := 32) 0 rfl d0_jumpsWithin_32 ?_
      refine r_callVi C (pc := 33) (fun sz => ct4_byteAt l D ca ρ sz C.2.2.2.2.2.2.1 hg4 hw) mf4_byteAt w0_82 rfl hg4 rfl rfl rfl rfl ⟨Nat.le_of_ble_eq_true rfl, Nat.le_of_ble_eq_true rfl⟩ rfl rfl (Nat.le_of_ble_eq_true rfl) ⟨Nat.zero_le _, Nat.zero_le _⟩ d0_jumpsWithin_33 (fun r1 S1 hw => ?_)
      refine r_iconst C (pc := 36) (v := 3) d0_jumpsWithin_36 (by decide) ?_
      refine r_icmp_ne C (pc := 37) (tgt := 69) d0_jumpsWithin_37 (by decide) (fun c5 => ?_) (fun c5 => ?_)
      · have hw := hw.1 c5
        refine r_aload_n C (pc := 69) 2 rfl d0_jumpsWithin_69 ?_
        refine g0_stack C (pc := 70) ho w0_14 d0_jumpsWithin_70 ?_
        refine r_callVi C (pc := 73) (fun sz => ct1_height l D ca ρ sz C.2.2.2.2.2.2.1 (b2 ho) hw) mf1_height w0_56 rfl (b2 ho) rfl rfl rfl rfl ⟨Nat.le_of_ble_eq_true rfl, Nat.le_of_ble_eq_true rfl⟩ rfl rfl (Nat.le_of_ble_eq_true rfl) ⟨Nat.zero_le _, Nat.zero_le _⟩ d0_jumpsWithin_73 (fun r2 S2 hw => ?_)
        refine r_iconst C (pc := 76) (v := 1) d0_jumpsWithin_76 (by decide) ?_
        refine r_isub C (pc := 77) d0_jumpsWithin_77 ?_
        refine r_topi (fun x4_1 ex4_1 => ?_)
        have hw := hw x4_1 ex4_1
        refine r_istore C (pc := 78) (ls' := [(4, .int x4_1), (3, .int x3_1), (2, .int x2_1), (0, .ref (ρ 0 o)), (1, .int x1)]) (Nat.le_of_ble_eq_true rfl) rfl d0_jumpsWithin_78 ?_
        refine r_aload_n C (pc := 80) 3 rfl d0_jumpsWithin_80 ?_
        refine g0_stack C (pc := 81) ho w0_14 d0_jumpsWithin_81 ?_
        refine r_aload_n C (pc := 84) 3 rfl d0_jumpsWithin_84 ?_
        refine g0_bases C (pc := 85) ho w0_27 d0_jumpsWithin_85 ?_
        refine r_iload_n C (pc := 88) 2 rfl d0_jumpsWithin_88 ?_
        have hi6 := hw.1
        have hw := hw.2
        refine ld1003 C (pc := 89) ho hi6 d0_jumpsWithin_89 ?_
        refine r_callVv C (pc := 90) (fun sz => ct1_cutTo l D ca ρ sz C.2.2.2.2.2.2.1 (b2 ho) hw) mf1_cutTo w0_67 rfl (b2 ho) rfl rfl rfl rfl ⟨Nat.le_of_ble_eq_true rfl, Nat.le_of_ble_eq_true rfl⟩ rfl rfl (Nat.le_of_ble_eq_true rfl) ⟨Nat.zero_le _, Nat.zero_le _⟩ d0_jumpsWithin_90 (fun S3 hw => ?_)
        refine r_aload_n C (pc := 93) 3 rfl d0_jumpsWithin_93 ?_
        have hg7 := hw.1
        have hw := hw.2
        refine g0_function C (pc := 94) ho w0_30 d0_jumpsWithin_94 ?_
        refine r_iload_n C (pc := 97) 1 rfl d0_jumpsWithin_97 ?_
        refine r_iconst C (pc := 98) (v := 1) d0_jumpsWithin_98 (by decide) ?_
        refine r_iadd C (pc := 99) d0_jumpsWithin_99 ?_
        refine r_callVi C (pc := 100) (fun sz => ct4_byteAt l D ca ρ sz C.2.2.2.2.2.2.1 hg7 hw) mf4_byteAt w0_82 rfl hg7 rfl rfl rfl rfl ⟨Nat.le_of_ble_eq_true rfl, Nat.le_of_ble_eq_true rfl⟩ rfl rfl (Nat.le_of_ble_eq_true rfl) ⟨Nat.zero_le _, Nat.zero_le _⟩ d0_jumpsWithin_100 (fun r3 S4 hw => ?_)
        refine r_if_eq C (pc := 103) (tgt := 119) d0_jumpsWithin_103 (by decide) (fun c8 => ?_) (fun c8 => ?_)
        · have hw := hw.1 c8
          refine r_sub (ls' := [(0, .ref (ρ 0 o)), (2, .int x2_1), (3, .int x3_1)]) [3, 2, 1] rfl ?_
          exact nd0_jumpsWithin_119 C hr ho hw
        · have hw := hw.2 c8
          refine r_aload_n C (pc := 106) 3 rfl d0_jumpsWithin_106 ?_
          refine g0_stack C (pc := 107) ho w0_14 d0_jumpsWithin_107 ?_
          refine r_aload_n C (pc := 110) 3 rfl d0_jumpsWithin_110 ?_
          refine g0_stack C (pc := 111) ho w0_14 d0_jumpsWithin_111 ?_
          refine r_iload C (pc := 114) 0 rfl d0_jumpsWithin_114 ?_
          refine r_callVv C (pc := 116) (fun sz => ct1_putFrom l D ca ρ sz C.2.2.2.2.2.2.1 (b2 ho) (b2 ho) hw) mf1_putFrom w0_87 rfl (b2 ho) rfl rfl rfl rfl ⟨Nat.le_of_ble_eq_true rfl, Nat.le_of_ble_eq_true rfl⟩ rfl rfl (Nat.le_of_ble_eq_true rfl) ⟨Nat.zero_le _, Nat.zero_le _⟩ d0_jumpsWithin_116 (fun S5 hw => ?_)
          refine r_sub (ls' := [(0, .ref (ρ 0 o)), (2, .int x2_1), (3, .int x3_1)]) [3, 2, 1] rfl ?_
          exact nd0_jumpsWithin_119 C hr ho hw
      · have hw := hw.2 c5
        refine r_aload_n C (pc := 40) 2 rfl d0_jumpsWithin_40 ?_
        refine g0_stack C (pc := 41) ho w0_14 d0_jumpsWithin_41 ?_
        refine r_aload_n C (pc := 44) 2 rfl d0_jumpsWithin_44 ?_
        refine g0_bases C (pc := 45) ho w0_27 d0_jumpsWithin_45 ?_
        refine r_iload_n C (pc := 48) 1 rfl d0_jumpsWithin_48 ?_
        have hi9 := hw.1
        have hw := hw.2
        refine ld1003 C (pc := 49) ho hi9 d0_jumpsWithin_49 ?_
        refine r_callVv C (pc := 50) (fun sz => ct1_cutTo l D ca ρ sz C.2.2.2.2.2.2.1 (b2 ho) hw) mf1_cutTo w0_67 rfl (b2 ho) rfl rfl rfl rfl ⟨Nat.le_of_ble_eq_true rfl, Nat.le_of_ble_eq_true rfl⟩ rfl rfl (Nat.le_of_ble_eq_true rfl) ⟨Nat.zero_le _, Nat.zero_le _⟩ d0_jumpsWithin_50 (fun S6 hw => ?_)
        refine r_aload_n C (pc := 53) 2 rfl d0_jumpsWithin_53 ?_
        refine r_iload_n C (pc := 54) 0 rfl d0_jumpsWithin_54 ?_
        refine r_iconst C (pc := 55) (v := 2) d0_jumpsWithin_55 (by decide) ?_
        refine r_iadd C (pc := 56) d0_jumpsWithin_56 ?_
        refine p0_place C (pc := 57) ho w0_34 d0_jumpsWithin_57 ?_
        refine r_S (fun S7 eS7 => ?_)
        have hw := hw S7 eS7
        refine r_aload_n C (pc := 60) 2 rfl d0_jumpsWithin_60 ?_
        refine r_iload_n C (pc := 61) 1 rfl d0_jumpsWithin_61 ?_
        refine r_iconst C (pc := 62) (v := 1) d0_jumpsWithin_62 (by decide) ?_
        refine r_iadd C (pc := 63) d0_jumpsWithin_63 ?_
        refine p0_frames C (pc := 64) ho w0_38 d0_jumpsWithin_64 ?_
        refine r_S (fun S8 eS8 => ?_)
        have hw := hw S8 eS8
        refine r_iconst C (pc := 67) (v := 1) d0_jumpsWithin_67 (by decide) ?_
        exact r_zret C (pc := 68) hr rfl d0_jumpsWithin_68 hw
    · have hw := hw.2 c2
      refine r_iconst C (pc := 19) (v := 0) d0_jumpsWithin_19 (by decide) ?_
      exact r_zret C (pc := 20) hr rfl d0_jumpsWithin_20 hw
set_option maxRecDepth 20000 in
theorem ct1_putNumber (l : Launch) (D : va_G) (ca : Nat → ClassId) (ρ : Nat → Nat → Nat) (sz : Nat) {S : St} {o : Nat} {x1 : Int64} {Q : St → Prop} (hAp : Ap true ρ) (ho : o < 14) (hw : wp1_putNumber S o x1 Q) : Met l y1_putNumber [Cond.code y1_putNumber b1_putNumber 3 none] { frames := 1, cells := 0, slots := 0, locals := 24 } (va_Pc [.ref (ρ 1 o), .long x1] (PreU true D ca ρ sz S)) (va_Qv Q (PostU true D ca ρ) (Ar true ρ sz)) 0 0 (Ar true ρ sz) := by
  refine met_of_wm (own := R1) (ls0 := [(0, .ref (ρ 1 o)), (1, .long x1)]) rfl rfl hAp (Nat.le_of_ble_eq_true rfl) rfl fun p e s m args below meth c C hr hz => ?_
  subst hz
  unfold wp1_putNumber at hw
  refine r_aload_n C (pc := 0) 0 rfl d1_putNumber_0 ?_
  refine r_lload_n C (pc := 1) 1 rfl d1_putNumber_1 ?_
  refine r_dconst0 C (pc := 2) d1_putNumber_2 ?_
  refine r_callVv C (pc := 3) (fun sz => ct1_put l D ca ρ sz C.2.2.2.2.2.2.1 ho hw) mf1_put w1_33 rfl ho rfl rfl rfl rfl ⟨Nat.le_of_ble_eq_true rfl, Nat.le_of_ble_eq_true rfl⟩ rfl rfl (Nat.le_of_ble_eq_true rfl) ⟨Nat.zero_le _, Nat.zero_le _⟩ d1_putNumber_3 (fun S1 hw => ?_)
  exact r_vret C (pc := 6) hr d1_putNumber_6 hw
set_option maxRecDepth 20000 in
theorem ct1_putReal (l : Launch) (D : va_G) (ca : Nat → ClassId) (ρ : Nat → Nat → Nat) (sz : Nat) {S : St} {o : Nat} {x1 : UInt64} {Q : St → Prop} (hAp : Ap true ρ) (ho : o < 14) (hw : wp1_putReal S o x1 Q) : Met l y1_putReal [Cond.code y1_putReal b1_putReal 3 none] { frames := 1, cells := 0, slots := 0, locals := 24 } (va_Pc [.ref (ρ 1 o), .double x1] (PreU true D ca ρ sz S)) (va_Qv Q (PostU true D ca ρ) (Ar true ρ sz)) 0 0 (Ar true ρ sz) := by
  refine met_of_wm (own := R1) (ls0 := [(0, .ref (ρ 1 o)), (1, .double x1)]) rfl rfl hAp (Nat.le_of_ble_eq_true rfl) rfl fun p e s m args below meth c C hr hz => ?_
  subst hz
  unfold wp1_putReal at hw
  refine r_aload_n C (pc := 0) 0 rfl d1_putReal_0 ?_
  refine r_lconst C (pc := 1) (v := 0) d1_putReal_1 (by decide) ?_
  refine r_dload_n C (pc := 2) 1 rfl d1_putReal_2 ?_
  refine r_callVv C (pc := 3) (fun sz => ct1_put l D ca ρ sz C.2.2.2.2.2.2.1 ho hw) mf1_put w1_33 rfl ho rfl rfl rfl rfl ⟨Nat.le_of_ble_eq_true rfl, Nat.le_of_ble_eq_true rfl⟩ rfl rfl (Nat.le_of_ble_eq_true rfl) ⟨Nat.zero_le _, Nat.zero_le _⟩ d1_putReal_3 (fun S1 hw => ?_)
  exact r_vret C (pc := 6) hr d1_putReal_6 hw
set_option maxRecDepth 20000 in
theorem nd1_putTruth_10 {p : Program} {l : Launch} {e : Env} {s : State} {m : MethodId} {args : Array Value} {below : List Frame} {meth : Method} {c : Code} {D : va_G} {ca : Nat → ClassId} {ρ : Nat → Nat → Nat} {o : Nat} {x1 : Int32} {Q : St → Prop} {t0 : Nat} {s1 : Int64} {S : St} (C : Cx true p l s m meth c R1 b1_putTruth 2 D ca ρ) (hr : meth.sig.returnType = none) (ho : o < 14) (ht0 : t0 < 14) (hw : wp1_putTruth_10 o x1 Q t0 s1 S) : wm true p l e { frames := 1, cells := 0, slots := 0, locals := 24 } s m args below meth c D ca ρ 2 0 0 (qv true below args s D ca ρ 0 0 Q) 10 [] [.long s1, .ref (ρ 1 t0)] S := by
  unfold wp1_putTruth_10 at hw
  refine r_dconst0 C (pc := 10) d1_putTruth_10 ?_
  refine r_callVv C (pc := 11) (fun sz => ct1_put l D ca ρ sz C.2.2.2.2.2.2.1 ht0 hw) mf1_put w1_33 rfl ht0 rfl rfl rfl rfl ⟨Nat.le_of_ble_eq_true rfl, Nat.le_of_ble_eq_true rfl⟩ rfl rfl (Nat.le_of_ble_eq_true rfl) ⟨Nat.zero_le _, Nat.zero_le _⟩ d1_putTruth_11 (fun S1 hw => ?_)
  exact r_vret C (pc := 14) hr d1_putTruth_14 hw
set_option maxRecDepth 20000 in
theorem ct1_putTruth (l : Launch) (D : va_G) (ca : Nat → ClassId) (ρ : Nat → Nat → Nat) (sz : Nat) {S : St} {o : Nat} {x1 : Int32} {Q : St → Prop} (hAp : Ap true ρ) (ho : o < 14) (hw : wp1_putTruth S o x1 Q) : Met l y1_putTruth [Cond.code y1_putTruth b1_putTruth 2 none] { frames := 1, cells := 0, slots := 0, locals := 24 } (va_Pc [.ref (ρ 1 o), .int x1] (PreU true D ca ρ sz S)) (va_Qv Q (PostU true D ca ρ) (Ar true ρ sz)) 0 0 (Ar true ρ sz) := by
  refine met_of_wm (own := R1) (ls0 := [(0, .ref (ρ 1 o)), (1, .int x1)]) rfl rfl hAp (Nat.le_of_ble_eq_true rfl) rfl fun p e s m args below meth c C hr hz => ?_
  subst hz
  unfold wp1_putTruth at hw
  refine r_aload_n C (pc := 0) 0 rfl d1_putTruth_0 ?_
  refine r_iload_n C (pc := 1) 1 rfl d1_putTruth_1 ?_
  refine r_if_eq C (pc := 2) (tgt := 9) d1_putTruth_2 (by decide) (fun c1 => ?_) (fun c1 => ?_)
  · have hw := hw.1 c1
    refine r_lconst C (pc := 9) (v := 0) d1_putTruth_9 (by decide) ?_
    refine r_sub (ls' := []) [] rfl ?_
    exact nd1_putTruth_10 C hr ho ho hw
  · have hw := hw.2 c1
    refine r_lconst C (pc := 5) (v := 1) d1_putTruth_5 (by decide) ?_
    refine r_goto C (pc := 6) (tgt := 10) d1_putTruth_6 (by decide) ?_
    refine r_sub (ls' := []) [] rfl ?_
    exact nd1_putTruth_10 C hr ho ho hw
set_option maxRecDepth 20000 in
theorem ct1_takeReal (l : Launch) (D : va_G) (ca : Nat → ClassId) (ρ : Nat → Nat → Nat) (sz : Nat) {S : St} {o : Nat} {Q : UInt64 → St → Prop} (hAp : Ap true ρ) (ho : o < 14) (hw : wp1_takeReal S o Q) : Met l y1_takeReal [Cond.code y1_takeReal b1_takeReal 1 (some .double)] { frames := 1, cells := 0, slots := 0, locals := 21 } (va_Pc [.ref (ρ 1 o)] (PreU true D ca ρ sz S)) (va_Qd Q (PostU true D ca ρ) (Ar true ρ sz)) 0 0 (Ar true ρ sz) := by
  refine met_of_wm (own := R1) (ls0 := [(0, .ref (ρ 1 o))]) rfl rfl hAp (Nat.le_of_ble_eq_true rfl) rfl fun p e s m args below meth c C hr hz => ?_
  subst hz
  unfold wp1_takeReal at hw
  refine r_aload_n C (pc := 0) 0 rfl d1_takeReal_0 ?_
  refine r_callVv C (pc := 1) (fun sz => ct1_drop l D ca ρ sz C.2.2.2.2.2.2.1 ho hw) mf1_drop w1_37 rfl ho rfl rfl rfl rfl ⟨Nat.le_of_ble_eq_true rfl, Nat.le_of_ble_eq_true rfl⟩ rfl rfl (Nat.le_of_ble_eq_true rfl) ⟨Nat.zero_le _, Nat.zero_le _⟩ d1_takeReal_1 (fun S1 hw => ?_)
  refine r_aload_n C (pc := 4) 0 rfl d1_takeReal_4 ?_
  refine r_aload_n C (pc := 5) 0 rfl d1_takeReal_5 ?_
  refine g1_height C (pc := 6) ho w1_21 d1_takeReal_6 ?_
  refine r_callVd C (pc := 9) (fun sz => ct1_realAt l D ca ρ sz C.2.2.2.2.2.2.1 ho hw) mf1_realAt w1_29 rfl ho rfl rfl rfl rfl ⟨Nat.le_of_ble_eq_true rfl, Nat.le_of_ble_eq_true rfl⟩ rfl rfl (Nat.le_of_ble_eq_true rfl) ⟨Nat.zero_le _, Nat.zero_le _⟩ d1_takeReal_9 (fun r1 S2 hw => ?_)
  exact r_dret C (pc := 12) hr d1_takeReal_12 hw
set_option maxRecDepth 20000 in
theorem ct4_outcome (l : Launch) (D : va_G) (ca : Nat → ClassId) (ρ : Nat → Nat → Nat) (sz : Nat) {S : St} {o : Nat} {Q : Int32 → St → Prop} (hAp : Ap true ρ) (ho : o < 6) (hw : wp4_outcome S o Q) : Met l y4_outcome [Cond.code y4_outcome b4_outcome 1 (some .int)] { frames := 0, cells := 0, slots := 0, locals := 0 } (va_Pc [.ref (ρ 4 o)] (PreU true D ca ρ sz S)) (va_Qi Q (PostU true D ca ρ) (Ar true ρ sz)) 0 0 (Ar true ρ sz) := by
  refine met_of_wm (own := R4) (ls0 := [(0, .ref (ρ 4 o))]) rfl rfl hAp (Nat.le_of_ble_eq_true rfl) rfl fun p e s m args below meth c C hr hz => ?_
  subst hz
  unfold wp4_outcome at hw
  refine r_aload_n C (pc := 0) 0 rfl d4_outcome_0 ?_
  refine g4_outcome C (pc := 1) ho w4_35 d4_outcome_1 ?_
  exact r_iret C (pc := 4) hr d4_outcome_4 hw
set_option maxRecDepth 20000 in
theorem ct3_open (l : Launch) (D : va_G) (ca : Nat → ClassId) (ρ : Nat → Nat → Nat) (sz : Nat) {S : St} {o : Nat} {x1 : Int32} {x2 : Int32} {x3 : Int32} {x4 : Int32} {Q : St → Prop} (hAp : Ap true ρ) (ho : o < 8) (hw : wp3_open S o x1 x2 x3 x4 Q) : Met l y3_open [Cond.code y3_open b3_open 5 none] { frames := 0, cells := 0, slots := 0, locals := 0 } (va_Pc [.ref (ρ 3 o), .int x1, .int x2, .int x3, .int x4] (PreU true D ca ρ sz S)) (va_Qv Q (PostU true D ca ρ) (Ar true ρ sz)) 0 0 (Ar true ρ sz) := by
  refine met_of_wm (own := R3) (ls0 := [(0, .ref (ρ 3 o)), (1, .int x1), (2, .int x2), (3, .int x3), (4, .int x4)]) rfl rfl hAp (Nat.le_of_ble_eq_true rfl) rfl fun p e s m args below meth c C hr hz => ?_
  subst hz
  unfold wp3_open at hw
  refine r_aload_n C (pc := 0) 0 rfl d3_open_0 ?_
  refine r_iload_n C (pc := 1) 1 rfl d3_open_1 ?_
  refine p3_begin C (pc := 2) ho w3_9 d3_open_2 ?_
  refine r_S (fun S1 eS1 => ?_)
  have hw := hw S1 eS1
  refine r_aload_n C (pc := 5) 0 rfl d3_open_5 ?_
  refine r_iload_n C (pc := 6) 2 rfl d3_open_6 ?_
  refine p3_opener C (pc := 7) ho w3_15 d3_open_7 ?_
  refine r_S (fun S2 eS2 => ?_)
  have hw := hw S2 eS2
  refine r_aload_n C (pc := 10) 0 rfl d3_open_10 ?_
  refine r_iload_n C (pc := 11) 3 rfl d3_open_11 ?_
  refine p3_base C (pc := 12) ho w3_18 d3_open_12 ?_
  refine r_S (fun S3 eS3 => ?_)
  have hw := hw S3 eS3
  refine r_aload_n C (pc := 15) 0 rfl d3_open_15 ?_
  refine r_iload C (pc := 16) 4 rfl d3_open_16 ?_
  refine p3_outcome C (pc := 18) ho w3_21 d3_open_18 ?_
  refine r_S (fun S4 eS4 => ?_)
  have hw := hw S4 eS4
  refine r_aload_n C (pc := 21) 0 rfl d3_open_21 ?_
  refine r_iconst C (pc := 22) (v := 0) d3_open_22 (by decide) ?_
  refine p3_dead C (pc := 23) ho (Or.inl rfl) w3_24 d3_open_23 ?_
  refine r_S (fun S5 eS5 => ?_)
  have hw := hw S5 eS5
  refine r_aload_n C (pc := 26) 0 rfl d3_open_26 ?_
  refine r_iconst C (pc := 27) (v := 0) d3_open_27 (by decide) ?_
  refine p3_hasElse C (pc := 28) ho (Or.inl rfl) w3_28 d3_open_28 ?_
  refine r_S (fun S6 eS6 => ?_)
  have hw := hw S6 eS6
  exact r_vret C (pc := 31) hr d3_open_31 hw
set_option maxRecDepth 20000 in
theorem ct4_noteElse (l : Launch) (D : va_G) (ca : Nat → ClassId) (ρ : Nat → Nat → Nat) (sz : Nat) {S : St} {o : Nat} {x1 : Int32} {x2 : Int32} {Q : St → Prop} (hAp : Ap true ρ) (ho : o < 6) (hw : wp4_noteElse S o x1 x2 Q) : Met l y4_noteElse [Cond.code y4_noteElse b4_noteElse 3 none] { frames := 0, cells := 0, slots := 0, locals := 0 } (va_Pc [.ref (ρ 4 o), .int x1, .int x2] (PreU true D ca ρ sz S)) (va_Qv Q (PostU true D ca ρ) (Ar true ρ sz)) 0 0 (Ar true ρ sz) := by
  refine met_of_wm (own := R4) (ls0 := [(0, .ref (ρ 4 o)), (1, .int x1), (2, .int x2)]) rfl rfl hAp (Nat.le_of_ble_eq_true rfl) rfl fun p e s m args below meth c C hr hz => ?_
  subst hz
  unfold wp4_noteElse at hw
  refine r_iload_n C (pc := 0) 1 rfl d4_noteElse_0 ?_
  refine r_if_lt C (pc := 1) (tgt := 17) d4_noteElse_1 (by decide) (fun c1 => ?_) (fun c1 => ?_)
  · have hw := hw.1 c1
    exact r_vret C (pc := 17) hr d4_noteElse_17 hw
  · have hw := hw.2 c1
    refine r_iload_n C (pc := 4) 1 rfl d4_noteElse_4 ?_
    refine r_bipush C (pc := 5) (v := 60) d4_noteElse_5 (by decide) ?_
    refine r_icmp_ge C (pc := 7) (tgt := 17) d4_noteElse_7 (by decide) (fun c2 => ?_) (fun c2 => ?_)
    · have hw := hw.1 c2
      exact r_vret C (pc := 17) hr d4_noteElse_17 hw
    · have hw := hw.2 c2
      refine r_aload_n C (pc := 10) 0 rfl d4_noteElse_10 ?_
      refine g4_behindElse C (pc := 11) ho w4_18 d4_noteElse_11 ?_
      refine r_iload_n C (pc := 14) 1 rfl d4_noteElse_14 ?_
      refine r_iload_n C (pc := 15) 2 rfl d4_noteElse_15 ?_
      have hi3 := hw.1
      have hw := hw.2
      refine st1402 C (pc := 16) ho hi3 d4_noteElse_16 ?_
      refine r_S (fun S1 eS1 => ?_)
      have hw := hw S1 eS1
      exact r_vret C (pc := 17) hr d4_noteElse_17 hw
set_option maxRecDepth 20000 in
theorem ct2_beginFrame (l : Launch) (D : va_G) (ca : Nat → ClassId) (ρ : Nat → Nat → Nat) (sz : Nat) {S : St} {x1 : Int32} {x2 : Int32} {x3 : Int32} {Q : St → Prop} (hAp : Ap true ρ)  (hw : wp2_beginFrame S x1 x2 x3 Q) : Met l y2_beginFrame [Cond.code y2_beginFrame b2_beginFrame 4 none] { frames := 1, cells := 0, slots := 0, locals := 24 } (va_Pc [.ref (ρ 2 0), .int x1, .int x2, .int x3] (PreU true D ca ρ sz S)) (va_Qv Q (PostU true D ca ρ) (Ar true ρ sz)) 0 0 (Ar true ρ sz) := by
  refine met_of_wm (own := R2) (ls0 := [(0, .ref (ρ 2 0)), (1, .int x1), (2, .int x2), (3, .int x3)]) rfl rfl hAp (Nat.le_of_ble_eq_true rfl) rfl fun p e s m args below meth c C hr hz => ?_
  subst hz
  unfold wp2_beginFrame at hw
  refine r_aload_n C (pc := 0) 0 rfl d2_beginFrame_0 ?_
  refine g2_frames C (pc := 1) (Nat.le_of_ble_eq_true rfl) w2_38 d2_beginFrame_1 ?_
  refine r_if_lt C (pc := 4) (tgt := 21) d2_beginFrame_4 (by decide) (fun c1 => ?_) (fun c1 => ?_)
  · have hw := hw.1 c1
    refine r_aload_n C (pc := 21) 0 rfl d2_beginFrame_21 ?_
    refine r_iconst C (pc := 22) (v := 1) d2_beginFrame_22 (by decide) ?_
    refine p2_bad C (pc := 23) (Nat.le_of_ble_eq_true rfl) (Or.inr rfl) w2_41 d2_beginFrame_23 ?_
    refine r_S (fun S1 eS1 => ?_)
    have hw := hw S1 eS1
    exact r_vret C (pc := 26) hr d2_beginFrame_26 hw
  · have hw := hw.2 c1
    refine r_aload_n C (pc := 7) 0 rfl d2_beginFrame_7 ?_
    refine g2_frames C (pc := 8) (Nat.le_of_ble_eq_true rfl) w2_38 d2_beginFrame_8 ?_
    refine r_bipush C (pc := 11) (v := 8) d2_beginFrame_11 (by decide) ?_
    refine r_icmp_ge C (pc := 13) (tgt := 21) d2_beginFrame_13 (by decide) (fun c2 => ?_) (fun c2 => ?_)
    · have hw := hw.1 c2
      refine r_aload_n C (pc := 21) 0 rfl d2_beginFrame_21 ?_
      refine r_iconst C (pc := 22) (v := 1) d2_beginFrame_22 (by decide) ?_
      refine p2_bad C (pc := 23) (Nat.le_of_ble_eq_true rfl) (Or.inr rfl) w2_41 d2_beginFrame_23 ?_
      refine r_S (fun S2 eS2 => ?_)
      have hw := hw S2 eS2
      exact r_vret C (pc := 26) hr d2_beginFrame_26 hw
    · have hw := hw.2 c2
      refine r_iload_n C (pc := 16) 3 rfl d2_beginFrame_16 ?_
      refine r_iconst C (pc := 17) (v := 3) d2_beginFrame_17 (by decide) ?_
      refine r_icmp_le C (pc := 18) (tgt := 27) d2_beginFrame_18 (by decide) (fun c3 => ?_) (fun c3 => ?_)
      · have hw := hw.1 c3
        refine r_aload_n C (pc := 27) 0 rfl d2_beginFrame_27 ?_
        refine r_aload_n C (pc := 28) 0 rfl d2_beginFrame_28 ?_
        refine g2_rows C (pc := 29) (Nat.le_of_ble_eq_true rfl) w2_17 d2_beginFrame_29 ?_
        refine r_aload_n C (pc := 32) 0 rfl d2_beginFrame_32 ?_
        refine g2_frames C (pc := 33) (Nat.le_of_ble_eq_true rfl) w2_38 d2_beginFrame_33 ?_
        have hi4 := hw.1
        have hw := hw.2
        refine ld1202 C (pc := 36) hi4 d2_beginFrame_36 ?_
        refine p2_inner C (pc := 37) (Nat.le_of_ble_eq_true rfl) w2_30 d2_beginFrame_37 ?_
        refine r_S (fun S3 eS3 => ?_)
        have hw := hw S3 eS3
        refine r_aload_n C (pc := 40) 0 rfl d2_beginFrame_40 ?_
        have hg5 := hw.1
        have hw := hw.2
        refine g2_inner C (pc := 41) (Nat.le_of_ble_eq_true rfl) w2_30 d2_beginFrame_41 ?_
        refine r_iload_n C (pc := 44) 1 rfl d2_beginFrame_44 ?_
        refine r_iload_n C (pc := 45) 2 rfl d2_beginFrame_45 ?_
        refine r_aload_n C (pc := 46) 0 rfl d2_beginFrame_46 ?_
        refine g2_height C (pc := 47) (Nat.le_of_ble_eq_true rfl) w2_34 d2_beginFrame_47 ?_
        refine r_iload_n C (pc := 50) 3 rfl d2_beginFrame_50 ?_
        refine r_callVv C (pc := 51) (fun sz => ct3_open l D ca ρ sz C.2.2.2.2.2.2.1 hg5 hw) mf3_open w2_99 rfl hg5 rfl rfl rfl rfl ⟨Nat.le_of_ble_eq_true rfl, Nat.le_of_ble_eq_true rfl⟩ rfl rfl (Nat.le_of_ble_eq_true rfl) ⟨Nat.zero_le _, Nat.zero_le _⟩ d2_beginFrame_51 (fun S4 hw => ?_)
        refine r_aload_n C (pc := 54) 0 rfl d2_beginFrame_54 ?_
        refine r_dup C (pc := 55) rfl d2_beginFrame_55 ?_
        refine g2_frames C (pc := 56) (Nat.le_of_ble_eq_true rfl) w2_38 d2_beginFrame_56 ?_
        refine r_iconst C (pc := 59) (v := 1) d2_beginFrame_59 (by decide) ?_
        refine r_iadd C (pc := 60) d2_beginFrame_60 ?_
        refine p2_frames C (pc := 61) (Nat.le_of_ble_eq_true rfl) w2_38 d2_beginFrame_61 ?_
        refine r_S (fun S5 eS5 => ?_)
        have hw := hw S5 eS5
        refine r_aload_n C (pc := 64) 0 rfl d2_beginFrame_64 ?_
        have hg6 := hw.1
        have hw := hw.2
        refine g2_function C (pc := 65) (Nat.le_of_ble_eq_true rfl) w2_26 d2_beginFrame_65 ?_
        refine r_iload_n C (pc := 68) 1 rfl d2_beginFrame_68 ?_
        refine r_iconst C (pc := 69) (v := 0) d2_beginFrame_69 (by decide) ?_
        refine r_callVv C (pc := 70) (fun sz => ct4_noteElse l D ca ρ sz C.2.2.2.2.2.2.1 hg6 hw) mf4_noteElse w2_103 rfl hg6 rfl rfl rfl rfl ⟨Nat.le_of_ble_eq_true rfl, Nat.le_of_ble_eq_true rfl⟩ rfl rfl (Nat.le_of_ble_eq_true rfl) ⟨Nat.zero_le _, Nat.zero_le _⟩ d2_beginFrame_70 (fun S6 hw => ?_)
        exact r_vret C (pc := 73) hr d2_beginFrame_73 hw
      · have hw := hw.2 c3
        refine r_aload_n C (pc := 21) 0 rfl d2_beginFrame_21 ?_
        refine r_iconst C (pc := 22) (v := 1) d2_beginFrame_22 (by decide) ?_
        refine p2_bad C (pc := 23) (Nat.le_of_ble_eq_true rfl) (Or.inr rfl) w2_41 d2_beginFrame_23 ?_
        refine r_S (fun S7 eS7 => ?_)
        have hw := hw S7 eS7
        exact r_vret C (pc := 26) hr d2_beginFrame_26 hw
set_option maxRecDepth 20000 in
theorem ct4_length (l : Launch) (D : va_G) (ca : Nat → ClassId) (ρ : Nat → Nat → Nat) (sz : Nat) {S : St} {o : Nat} {Q : Int32 → St → Prop} (hAp : Ap true ρ) (ho : o < 6) (hw : wp4_length S o Q) : Met l y4_length [Cond.code y4_length b4_length 1 (some .int)] { frames := 0, cells := 0, slots := 0, locals := 0 } (va_Pc [.ref (ρ 4 o)] (PreU true D ca ρ sz S)) (va_Qi Q (PostU true D ca ρ) (Ar true ρ sz)) 0 0 (Ar true ρ sz) := by
  refine met_of_wm (own := R4) (ls0 := [(0, .ref (ρ 4 o))]) rfl rfl hAp (Nat.le_of_ble_eq_true rfl) rfl fun p e s m args below meth c C hr hz => ?_
  subst hz
  unfold wp4_length at hw
  refine r_aload_n C (pc := 0) 0 rfl d4_length_0 ?_
  refine g4_length C (pc := 1) ho w4_38 d4_length_1 ?_
  exact r_iret C (pc := 4) hr d4_length_4 hw
set_option maxRecDepth 20000 in
theorem nd5_signature_71 {p : Program} {l : Launch} {e : Env} {s : State} {m : MethodId} {args : Array Value} {below : List Frame} {meth : Method} {c : Code} {D : va_G} {ca : Nat → ClassId} {ρ : Nat → Nat → Nat} {x0 : Int32} {Q : Int32 → St → Prop}  {S : St} (C : Cx true p l s m meth c R5 b5_signature 1 D ca ρ) (hr : meth.sig.returnType = (some .int))   (hw : wp5_signature_71 x0 Q  S) : wm true p l e { frames := 0, cells := 0, slots := 0, locals := 0 } s m args below meth c D ca ρ 1 0 0 (qi true below args s D ca ρ 0 0 Q) 71 [(0, .int x0)] [] S := by
  unfold wp5_signature_71 at hw
  refine r_iload_n C (pc := 71) 0 rfl d5_signature_71 ?_
  refine r_tsw_in C (pc := 72) (tgt := 428) 1 d5_signature_72 ⟨by decide, by decide, rfl⟩ (by decide) (fun c1_0 => ?_) (fun c1_0 => ?_)
  · have hw := hw.1 c1_0
    refine r_iconst C (pc := 428) (v := 0) d5_signature_428 (by decide) ?_
    exact r_iret C (pc := 429) hr d5_signature_429 hw
  · have hw := hw.2 c1_0
    refine r_tsw_in C (pc := 72) (tgt := 430) 20 d5_signature_72 ⟨by decide, by decide, rfl⟩ (by decide) (fun c1_1 => ?_) (fun c1_1 => ?_)
    · have hw := hw.1 c1_1
      refine r_iconst C (pc := 430) (v := 1) d5_signature_430 (by decide) ?_
      exact r_iret C (pc := 431) hr d5_signature_431 hw
    · have hw := hw.2 c1_1
      refine r_tsw_in C (pc := 72) (tgt := 432) 21 d5_signature_72 ⟨by decide, by decide, rfl⟩ (by decide) (fun c1_2 => ?_) (fun c1_2 => ?_)
      · have hw := hw.1 c1_2
        refine r_iconst C (pc := 432) (v := 2) d5_signature_432 (by decide) ?_
        exact r_iret C (pc := 433) hr d5_signature_433 hw
      · have hw := hw.2 c1_2
        refine r_tsw_in C (pc := 72) (tgt := 434) 22 d5_signature_72 ⟨by decide, by decide, rfl⟩ (by decide) (fun c1_3 => ?_) (fun c1_3 => ?_)
        · have hw := hw.1 c1_3
          refine r_iconst C (pc := 434) (v := 3) d5_signature_434 (by decide) ?_
          exact r_iret C (pc := 435) hr d5_signature_435 hw
        · have hw := hw.2 c1_3
          refine r_tsw_in C (pc := 72) (tgt := 436) 23 d5_signature_72 ⟨by decide, by decide, rfl⟩ (by decide) (fun c1_4 => ?_) (fun c1_4 => ?_)
          · have hw := hw.1 c1_4
            refine r_bipush C (pc := 436) (v := 101) d5_signature_436 (by decide) ?_
            exact r_iret C (pc := 438) hr d5_signature_438 hw
          · have hw := hw.2 c1_4
            refine r_tsw_in C (pc := 72) (tgt := 436) 24 d5_signature_72 ⟨by decide, by decide, rfl⟩ (by decide) (fun c1_5 => ?_) (fun c1_5 => ?_)
            · have hw := hw.1 c1_5
              refine r_bipush C (pc := 436) (v := 101) d5_signature_436 (by decide) ?_
              exact r_iret C (pc := 438) hr d5_signature_438 hw
            · have hw := hw.2 c1_5
              refine r_tsw_in C (pc := 72) (tgt := 446) 25 d5_signature_72 ⟨by decide, by decide, rfl⟩ (by decide) (fun c1_6 => ?_) (fun c1_6 => ?_)
              · have hw := hw.1 c1_6
                refine r_bipush C (pc := 446) (v := 102) d5_signature_446 (by decide) ?_
                exact r_iret C (pc := 448) hr d5_signature_448 hw
              · have hw := hw.2 c1_6
                refine r_tsw_in C (pc := 72) (tgt := 439) 26 d5_signature_72 ⟨by decide, by decide, rfl⟩ (by decide) (fun c1_7 => ?_) (fun c1_7 => ?_)
                · have hw := hw.1 c1_7
                  refine r_bipush C (pc := 439) (v := 110) d5_signature_439 (by decide) ?_
                  exact r_iret C (pc := 441) hr d5_signature_441 hw
                · have hw := hw.2 c1_7
                  refine r_tsw_in C (pc := 72) (tgt := 439) 27 d5_signature_72 ⟨by decide, by decide, rfl⟩ (by decide) (fun c1_8 => ?_) (fun c1_8 => ?_)
                  · have hw := hw.1 c1_8
                    refine r_bipush C (pc := 439) (v := 110) d5_signature_439 (by decide) ?_
                    exact r_iret C (pc := 441) hr d5_signature_441 hw
                  · have hw := hw.2 c1_8
                    refine r_tsw_in C (pc := 72) (tgt := 442) 28 d5_signature_72 ⟨by decide, by decide, rfl⟩ (by decide) (fun c1_9 => ?_) (fun c1_9 => ?_)
                    · have hw := hw.1 c1_9
                      refine r_sipush C (pc := 442) (v := 210) d5_signature_442 (by decide) ?_
                      exact r_iret C (pc := 445) hr d5_signature_445 hw
                    · have hw := hw.2 c1_9
                      refine r_tsw_in C (pc := 72) (tgt := 436) 45 d5_signature_72 ⟨by decide, by decide, rfl⟩ (by decide) (fun c1_10 => ?_) (fun c1_10 => ?_)
                      · have hw := hw.1 c1_10
                        refine r_bipush C (pc := 436) (v := 101) d5_signature_436 (by decide) ?_
                        exact r_iret C (pc := 438) hr d5_signature_438 hw
                      · have hw := hw.2 c1_10
                        refine r_tsw_in C (pc := 72) (tgt := 449) 64 d5_signature_72 ⟨by decide, by decide, rfl⟩ (by decide) (fun c1_11 => ?_) (fun c1_11 => ?_)
                        · have hw := hw.1 c1_11
                          refine r_sipush C (pc := 449) (v := 201) d5_signature_449 (by decide) ?_
                          exact r_iret C (pc := 452) hr d5_signature_452 hw
                        · have hw := hw.2 c1_11
                          refine r_tsw_in C (pc := 72) (tgt := 453) 76 d5_signature_72 ⟨by decide, by decide, rfl⟩ (by decide) (fun c1_12 => ?_) (fun c1_12 => ?_)
                          · have hw := hw.1 c1_12
                            refine r_sipush C (pc := 453) (v := 303) d5_signature_453 (by decide) ?_
                            exact r_iret C (pc := 456) hr d5_signature_456 hw
                          · have hw := hw.2 c1_12
                            refine r_tsw_in C (pc := 72) (tgt := 449) 80 d5_signature_72 ⟨by decide, by decide, rfl⟩ (by decide) (fun c1_13 => ?_) (fun c1_13 => ?_)
                            · have hw := hw.1 c1_13
                              refine r_sipush C (pc := 449) (v := 201) d5_signature_449 (by decide) ?_
                              exact r_iret C (pc := 452) hr d5_signature_452 hw
                            · have hw := hw.2 c1_13
                              refine r_tsw_in C (pc := 72) (tgt := 446) 81 d5_signature_72 ⟨by decide, by decide, rfl⟩ (by decide) (fun c1_14 => ?_) (fun c1_14 => ?_)
                              · have hw := hw.1 c1_14
                                refine r_bipush C (pc := 446) (v := 102) d5_signature_446 (by decide) ?_
                                exact r_iret C (pc := 448) hr d5_signature_448 hw
                              · have hw := hw.2 c1_14
                                refine r_tsw_in C (pc := 72) (tgt := 457) 82 d5_signature_72 ⟨by decide, by decide, rfl⟩ (by decide) (fun c1_15 => ?_) (fun c1_15 => ?_)
                                · have hw := hw.1 c1_15
                                  refine r_bipush C (pc := 457) (v := 103) d5_signature_457 (by decide) ?_
                                  exact r_iret C (pc := 459) hr d5_signature_459 hw
                                · have hw := hw.2 c1_15
                                  refine r_tsw_in C (pc := 72) (tgt := 460) 83 d5_signature_72 ⟨by decide, by decide, rfl⟩ (by decide) (fun c1_16 => ?_) (fun c1_16 => ?_)
                                  · have hw := hw.1 c1_16
                                    refine r_sipush C (pc := 460) (v := 301) d5_signature_460 (by decide) ?_
                                    exact r_iret C (pc := 463) hr d5_signature_463 hw
                                  · have hw := hw.2 c1_16
                                    refine r_tsw_in C (pc := 72) (tgt := 464) 84 d5_signature_72 ⟨by decide, by decide, rfl⟩ (by decide) (fun c1_17 => ?_) (fun c1_17 => ?_)
                                    · have hw := hw.1 c1_17
                                      refine r_sipush C (pc := 464) (v := 203) d5_signature_464 (by decide) ?_
                                      exact r_iret C (pc := 467) hr d5_signature_467 hw
                                    · have hw := hw.2 c1_17
                                      refine r_tsw_in C (pc := 72) (tgt := 446) 85 d5_signature_72 ⟨by decide, by decide, rfl⟩ (by decide) (fun c1_18 => ?_) (fun c1_18 => ?_)
                                      · have hw := hw.1 c1_18
                                        refine r_bipush C (pc := 446) (v := 102) d5_signature_446 (by decide) ?_
                                        exact r_iret C (pc := 448) hr d5_signature_448 hw
                                      · have hw := hw.2 c1_18
                                        refine r_tsw_out C (pc := 72) (tgt := 468) [1, 20, 21, 22, 23, 24, 25, 26, 27, 28, 45, 64, 76, 80, 81, 82, 83, 84, 85] d5_signature_72 (by intro v hv; simp only [List.mem_cons, List.not_mem_nil, or_false] at hv; rcases hv with rfl | rfl | rfl | rfl | rfl | rfl | rfl | rfl | rfl | rfl | rfl | rfl | rfl | rfl | rfl | rfl | rfl | rfl | rfl <;> assumption) (by decide +kernel) (by decide) ?_
                                        refine r_iconst C (pc := 468) (v := (-1)) d5_signature_468 (by decide) ?_
                                        exact r_iret C (pc := 469) hr d5_signature_469 hw
set_option maxRecDepth 20000 in
theorem nd5_signature_43 {p : Program} {l : Launch} {e : Env} {s : State} {m : MethodId} {args : Array Value} {below : List Frame} {meth : Method} {c : Code} {D : va_G} {ca : Nat → ClassId} {ρ : Nat → Nat → Nat} {x0 : Int32} {Q : Int32 → St → Prop}  {S : St} (C : Cx true p l s m meth c R5 b5_signature 1 D ca ρ) (hr : meth.sig.returnType = (some .int))   (hw : wp5_signature_43 x0 Q  S) : wm true p l e { frames := 0, cells := 0, slots := 0, locals := 0 } s m args below meth c D ca ρ 1 0 0 (qi true below args s D ca ρ 0 0 Q) 43 [(0, .int x0)] [] S := by
  unfold wp5_signature_43 at hw
  refine r_iload_n C (pc := 43) 0 rfl d5_signature_43 ?_
  refine r_bipush C (pc := 44) (v := 70) d5_signature_44 (by decide) ?_
  refine r_icmp_lt C (pc := 46) (tgt := 71) d5_signature_46 (by decide) (fun c1 => ?_) (fun c1 => ?_)
  · have hw := hw.1 c1
    refine r_sub (ls' := [(0, .int x0)]) [0] rfl ?_
    exact nd5_signature_71 C hr hw
  · have hw := hw.2 c1
    refine r_iload_n C (pc := 49) 0 rfl d5_signature_49 ?_
    refine r_bipush C (pc := 50) (v := 76) d5_signature_50 (by decide) ?_
    refine r_icmp_ge C (pc := 52) (tgt := 71) d5_signature_52 (by decide) (fun c2 => ?_) (fun c2 => ?_)
    · have hw := hw.1 c2
      refine r_sub (ls' := [(0, .int x0)]) [0] rfl ?_
      exact nd5_signature_71 C hr hw
    · have hw := hw.2 c2
      refine r_iload_n C (pc := 55) 0 rfl d5_signature_55 ?_
      refine r_bipush C (pc := 56) (v := 73) d5_signature_56 (by decide) ?_
      refine r_icmp_gt C (pc := 58) (tgt := 67) d5_signature_58 (by decide) (fun c3 => ?_) (fun c3 => ?_)
      · have hw := hw.1 c3
        refine r_sipush C (pc := 67) (v := 331) d5_signature_67 (by decide) ?_
        exact r_iret C (pc := 70) hr d5_signature_70 hw
      · have hw := hw.2 c3
        refine r_sipush C (pc := 61) (v := 333) d5_signature_61 (by decide) ?_
        refine r_goto C (pc := 64) (tgt := 70) d5_signature_64 (by decide) ?_
        exact r_iret C (pc := 70) hr d5_signature_70 hw
set_option maxRecDepth 20000 in
theorem nd5_signature_15 {p : Program} {l : Launch} {e : Env} {s : State} {m : MethodId} {args : Array Value} {below : List Frame} {meth : Method} {c : Code} {D : va_G} {ca : Nat → ClassId} {ρ : Nat → Nat → Nat} {x0 : Int32} {Q : Int32 → St → Prop}  {S : St} (C : Cx true p l s m meth c R5 b5_signature 1 D ca ρ) (hr : meth.sig.returnType = (some .int))   (hw : wp5_signature_15 x0 Q  S) : wm true p l e { frames := 0, cells := 0, slots := 0, locals := 0 } s m args below meth c D ca ρ 1 0 0 (qi true below args s D ca ρ 0 0 Q) 15 [(0, .int x0)] [] S := by
  unfold wp5_signature_15 at hw
  refine r_iload_n C (pc := 15) 0 rfl d5_signature_15 ?_
  refine r_bipush C (pc := 16) (v := 50) d5_signature_16 (by decide) ?_
  refine r_icmp_lt C (pc := 18) (tgt := 43) d5_signature_18 (by decide) (fun c1 => ?_) (fun c1 => ?_)
  · have hw := hw.1 c1
    refine r_sub (ls' := [(0, .int x0)]) [0] rfl ?_
    exact nd5_signature_43 C hr hw
  · have hw := hw.2 c1
    refine r_iload_n C (pc := 21) 0 rfl d5_signature_21 ?_
    refine r_bipush C (pc := 22) (v := 64) d5_signature_22 (by decide) ?_
    refine r_icmp_ge C (pc := 24) (tgt := 43) d5_signature_24 (by decide) (fun c2 => ?_) (fun c2 => ?_)
    · have hw := hw.1 c2
      refine r_sub (ls' := [(0, .int x0)]) [0] rfl ?_
      exact nd5_signature_43 C hr hw
    · have hw := hw.2 c2
      refine r_iload_n C (pc := 27) 0 rfl d5_signature_27 ?_
      refine r_bipush C (pc := 28) (v := 60) d5_signature_28 (by decide) ?_
      refine r_icmp_gt C (pc := 30) (tgt := 39) d5_signature_30 (by decide) (fun c3 => ?_) (fun c3 => ?_)
      · have hw := hw.1 c3
        refine r_sipush C (pc := 39) (v := 221) d5_signature_39 (by decide) ?_
        exact r_iret C (pc := 42) hr d5_signature_42 hw
      · have hw := hw.2 c3
        refine r_sipush C (pc := 33) (v := 222) d5_signature_33 (by decide) ?_
        refine r_goto C (pc := 36) (tgt := 42) d5_signature_36 (by decide) ?_
        exact r_iret C (pc := 42) hr d5_signature_42 hw
set_option maxRecDepth 20000 in
theorem ct5_signature (l : Launch) (D : va_G) (ca : Nat → ClassId) (ρ : Nat → Nat → Nat) (sz : Nat) {S : St} {x0 : Int32} {Q : Int32 → St → Prop} (hAp : Ap true ρ)  (hw : wp5_signature S x0 Q) : Met l y5_signature [Cond.code y5_signature b5_signature 1 (some .int)] { frames := 0, cells := 0, slots := 0, locals := 0 } (va_Pc [.int x0] (PreU true D ca ρ sz S)) (va_Qi Q (PostU true D ca ρ) (Ar true ρ sz)) 0 0 (Ar true ρ sz) := by
  refine met_of_wm (own := R5) (ls0 := [(0, .int x0)]) rfl rfl hAp (Nat.le_of_ble_eq_true rfl) rfl fun p e s m args below meth c C hr hz => ?_
  subst hz
  unfold wp5_signature at hw
  refine r_iload_n C (pc := 0) 0 rfl d5_signature_0 ?_
  refine r_bipush C (pc := 1) (v := 30) d5_signature_1 (by decide) ?_
  refine r_icmp_lt C (pc := 3) (tgt := 15) d5_signature_3 (by decide) (fun c1 => ?_) (fun c1 => ?_)
  · have hw := hw.1 c1
    refine r_sub (ls' := [(0, .int x0)]) [0] rfl ?_
    exact nd5_signature_15 C hr hw
  · have hw := hw.2 c1
    refine r_iload_n C (pc := 6) 0 rfl d5_signature_6 ?_
    refine r_bipush C (pc := 7) (v := 45) d5_signature_7 (by decide) ?_
    refine r_icmp_ge C (pc := 9) (tgt := 15) d5_signature_9 (by decide) (fun c2 => ?_) (fun c2 => ?_)
    · have hw := hw.1 c2
      refine r_sub (ls' := [(0, .int x0)]) [0] rfl ?_
      exact nd5_signature_15 C hr hw
    · have hw := hw.2 c2
      refine r_bipush C (pc := 12) (v := 111) d5_signature_12 (by decide) ?_
      exact r_iret C (pc := 14) hr d5_signature_14 hw
set_option maxRecDepth 20000 in
theorem nd5_isKnown_10 {p : Program} {l : Launch} {e : Env} {s : State} {m : MethodId} {args : Array Value} {below : List Frame} {meth : Method} {c : Code} {D : va_G} {ca : Nat → ClassId} {ρ : Nat → Nat → Nat} {x0 : Int32} {Q : Int32 → St → Prop}  {S : St} (C : Cx true p l s m meth c R5 b5_isKnown 1 D ca ρ) (hr : meth.sig.returnType = (some .boolean))   (hw : wp5_isKnown_10 x0 Q  S) : wm true p l e { frames := 1, cells := 0, slots := 0, locals := 20 } s m args below meth c D ca ρ 1 0 0 (qi true below args s D ca ρ 0 0 Q) 10 [(0, .int x0)] [] S := by
  unfold wp5_isKnown_10 at hw
  refine r_iload_n C (pc := 10) 0 rfl d5_isKnown_10 ?_
  refine r_callSi C (pc := 11) (fun sz => ct5_signature l D ca ρ sz C.2.2.2.2.2.2.1 hw) mf5_signature w5_9 rfl rfl ⟨Nat.le_of_ble_eq_true rfl, Nat.le_of_ble_eq_true rfl⟩ rfl rfl (Nat.le_of_ble_eq_true rfl) ⟨Nat.zero_le _, Nat.zero_le _⟩ d5_isKnown_11 (fun r1 S1 hw => ?_)
  refine r_iconst C (pc := 14) (v := (-1)) d5_isKnown_14 (by decide) ?_
  refine r_icmp_eq C (pc := 15) (tgt := 22) d5_isKnown_15 (by decide) (fun c1 => ?_) (fun c1 => ?_)
  · have hw := hw.1 c1
    refine r_iconst C (pc := 22) (v := 0) d5_isKnown_22 (by decide) ?_
    exact r_zret C (pc := 23) hr rfl d5_isKnown_23 hw
  · have hw := hw.2 c1
    refine r_iconst C (pc := 18) (v := 1) d5_isKnown_18 (by decide) ?_
    refine r_goto C (pc := 19) (tgt := 23) d5_isKnown_19 (by decide) ?_
    exact r_zret C (pc := 23) hr rfl d5_isKnown_23 hw
set_option maxRecDepth 20000 in
theorem ct5_isKnown (l : Launch) (D : va_G) (ca : Nat → ClassId) (ρ : Nat → Nat → Nat) (sz : Nat) {S : St} {x0 : Int32} {Q : Int32 → St → Prop} (hAp : Ap true ρ)  (hw : wp5_isKnown S x0 Q) : Met l y5_isKnown [Cond.code y5_isKnown b5_isKnown 1 (some .boolean)] { frames := 1, cells := 0, slots := 0, locals := 20 } (va_Pc [.int x0] (PreU true D ca ρ sz S)) (va_Qi Q (PostU true D ca ρ) (Ar true ρ sz)) 0 0 (Ar true ρ sz) := by
  refine met_of_wm (own := R5) (ls0 := [(0, .int x0)]) rfl rfl hAp (Nat.le_of_ble_eq_true rfl) rfl fun p e s m args below meth c C hr hz => ?_
  subst hz
  unfold wp5_isKnown at hw
  refine r_iload_n C (pc := 0) 0 rfl d5_isKnown_0 ?_
  refine r_if_lt C (pc := 1) (tgt := 10) d5_isKnown_1 (by decide) (fun c1 => ?_) (fun c1 => ?_)
  · have hw := hw.1 c1
    refine r_sub (ls' := [(0, .int x0)]) [0] rfl ?_
    exact nd5_isKnown_10 C hr hw
  · have hw := hw.2 c1
    refine r_iload_n C (pc := 4) 0 rfl d5_isKnown_4 ?_
    refine r_bipush C (pc := 5) (v := 19) d5_isKnown_5 (by decide) ?_
    refine r_icmp_le C (pc := 7) (tgt := 18) d5_isKnown_7 (by decide) (fun c2 => ?_) (fun c2 => ?_)
    · have hw := hw.1 c2
      refine r_iconst C (pc := 18) (v := 1) d5_isKnown_18 (by decide) ?_
      refine r_goto C (pc := 19) (tgt := 23) d5_isKnown_19 (by decide) ?_
      exact r_zret C (pc := 23) hr rfl d5_isKnown_23 hw
    · have hw := hw.2 c2
      refine r_sub (ls' := [(0, .int x0)]) [0] rfl ?_
      exact nd5_isKnown_10 C hr hw
set_option maxRecDepth 20000 in
theorem nd5_hasOperand_22 {p : Program} {l : Launch} {e : Env} {s : State} {m : MethodId} {args : Array Value} {below : List Frame} {meth : Method} {c : Code} {D : va_G} {ca : Nat → ClassId} {ρ : Nat → Nat → Nat} {x0 : Int32} {Q : Int32 → St → Prop}  {S : St} (C : Cx true p l s m meth c R5 b5_hasOperand 1 D ca ρ) (hr : meth.sig.returnType = (some .boolean))   (hw : wp5_hasOperand_22 x0 Q  S) : wm true p l e { frames := 0, cells := 0, slots := 0, locals := 0 } s m args below meth c D ca ρ 1 0 0 (qi true below args s D ca ρ 0 0 Q) 22 [(0, .int x0)] [] S := by
  unfold wp5_hasOperand_22 at hw
  refine r_iload_n C (pc := 22) 0 rfl d5_hasOperand_22 ?_
  refine r_bipush C (pc := 23) (v := 11) d5_hasOperand_23 (by decide) ?_
  refine r_icmp_eq C (pc := 25) (tgt := 46) d5_hasOperand_25 (by decide) (fun c1 => ?_) (fun c1 => ?_)
  · have hw := hw.1 c1
    refine r_iconst C (pc := 46) (v := 1) d5_hasOperand_46 (by decide) ?_
    refine r_goto C (pc := 47) (tgt := 51) d5_hasOperand_47 (by decide) ?_
    exact r_zret C (pc := 51) hr rfl d5_hasOperand_51 hw
  · have hw := hw.2 c1
    refine r_iload_n C (pc := 28) 0 rfl d5_hasOperand_28 ?_
    refine r_bipush C (pc := 29) (v := 12) d5_hasOperand_29 (by decide) ?_
    refine r_icmp_eq C (pc := 31) (tgt := 46) d5_hasOperand_31 (by decide) (fun c2 => ?_) (fun c2 => ?_)
    · have hw := hw.1 c2
      refine r_iconst C (pc := 46) (v := 1) d5_hasOperand_46 (by decide) ?_
      refine r_goto C (pc := 47) (tgt := 51) d5_hasOperand_47 (by decide) ?_
      exact r_zret C (pc := 51) hr rfl d5_hasOperand_51 hw
    · have hw := hw.2 c2
      refine r_iload_n C (pc := 34) 0 rfl d5_hasOperand_34 ?_
      refine r_bipush C (pc := 35) (v := 15) d5_hasOperand_35 (by decide) ?_
      refine r_icmp_lt C (pc := 37) (tgt := 50) d5_hasOperand_37 (by decide) (fun c3 => ?_) (fun c3 => ?_)
      · have hw := hw.1 c3
        refine r_iconst C (pc := 50) (v := 0) d5_hasOperand_50 (by decide) ?_
        exact r_zret C (pc := 51) hr rfl d5_hasOperand_51 hw
      · have hw := hw.2 c3
        refine r_iload_n C (pc := 40) 0 rfl d5_hasOperand_40 ?_
        refine r_bipush C (pc := 41) (v := 28) d5_hasOperand_41 (by decide) ?_
        refine r_icmp_gt C (pc := 43) (tgt := 50) d5_hasOperand_43 (by decide) (fun c4 => ?_) (fun c4 => ?_)
        · have hw := hw.1 c4
          refine r_iconst C (pc := 50) (v := 0) d5_hasOperand_50 (by decide) ?_
          exact r_zret C (pc := 51) hr rfl d5_hasOperand_51 hw
        · have hw := hw.2 c4
          refine r_iconst C (pc := 46) (v := 1) d5_hasOperand_46 (by decide) ?_
          refine r_goto C (pc := 47) (tgt := 51) d5_hasOperand_47 (by decide) ?_
          exact r_zret C (pc := 51) hr rfl d5_hasOperand_51 hw
set_option maxRecDepth 20000 in
theorem nd5_hasOperand_10 {p : Program} {l : Launch} {e : Env} {s : State} {m : MethodId} {args : Array Value} {below : List Frame} {meth : Method} {c : Code} {D : va_G} {ca : Nat → ClassId} {ρ : Nat → Nat → Nat} {x0 : Int32} {Q : Int32 → St → Prop}  {S : St} (C : Cx true p l s m meth c R5 b5_hasOperand 1 D ca ρ) (hr : meth.sig.returnType = (some .boolean))   (hw : wp5_hasOperand_10 x0 Q  S) : wm true p l e { frames := 0, cells := 0, slots := 0, locals := 0 } s m args below meth c D ca ρ 1 0 0 (qi true below args s D ca ρ 0 0 Q) 10 [(0, .int x0)] [] S := by
  unfold wp5_hasOperand_10 at hw
  refine r_iload_n C (pc := 10) 0 rfl d5_hasOperand_10 ?_
  refine r_bipush C (pc := 11) (v := 7) d5_hasOperand_11 (by decide) ?_
  refine r_icmp_lt C (pc := 13) (tgt := 22) d5_hasOperand_13 (by decide) (fun c1 => ?_) (fun c1 => ?_)
  · have hw := hw.1 c1
    refine r_sub (ls' := [(0, .int x0)]) [0] rfl ?_
    exact nd5_hasOperand_22 C hr hw
  · have hw := hw.2 c1
    refine r_iload_n C (pc := 16) 0 rfl d5_hasOperand_16 ?_
    refine r_bipush C (pc := 17) (v := 9) d5_hasOperand_17 (by decide) ?_
    refine r_icmp_le C (pc := 19) (tgt := 46) d5_hasOperand_19 (by decide) (fun c2 => ?_) (fun c2 => ?_)
    · have hw := hw.1 c2
      refine r_iconst C (pc := 46) (v := 1) d5_hasOperand_46 (by decide) ?_
      refine r_goto C (pc := 47) (tgt := 51) d5_hasOperand_47 (by decide) ?_
      exact r_zret C (pc := 51) hr rfl d5_hasOperand_51 hw
    · have hw := hw.2 c2
      refine r_sub (ls' := [(0, .int x0)]) [0] rfl ?_
      exact nd5_hasOperand_22 C hr hw
set_option maxRecDepth 20000 in
theorem ct5_hasOperand (l : Launch) (D : va_G) (ca : Nat → ClassId) (ρ : Nat → Nat → Nat) (sz : Nat) {S : St} {x0 : Int32} {Q : Int32 → St → Prop} (hAp : Ap true ρ)  (hw : wp5_hasOperand S x0 Q) : Met l y5_hasOperand [Cond.code y5_hasOperand b5_hasOperand 1 (some .boolean)] { frames := 0, cells := 0, slots := 0, locals := 0 } (va_Pc [.int x0] (PreU true D ca ρ sz S)) (va_Qi Q (PostU true D ca ρ) (Ar true ρ sz)) 0 0 (Ar true ρ sz) := by
  refine met_of_wm (own := R5) (ls0 := [(0, .int x0)]) rfl rfl hAp (Nat.le_of_ble_eq_true rfl) rfl fun p e s m args below meth c C hr hz => ?_
  subst hz
  unfold wp5_hasOperand at hw
  refine r_iload_n C (pc := 0) 0 rfl d5_hasOperand_0 ?_
  refine r_iconst C (pc := 1) (v := 2) d5_hasOperand_1 (by decide) ?_
  refine r_icmp_lt C (pc := 2) (tgt := 10) d5_hasOperand_2 (by decide) (fun c1 => ?_) (fun c1 => ?_)
  · have hw := hw.1 c1
    refine r_sub (ls' := [(0, .int x0)]) [0] rfl ?_
    exact nd5_hasOperand_10 C hr hw
  · have hw := hw.2 c1
    refine r_iload_n C (pc := 5) 0 rfl d5_hasOperand_5 ?_
    refine r_iconst C (pc := 6) (v := 4) d5_hasOperand_6 (by decide) ?_
    refine r_icmp_le C (pc := 7) (tgt := 46) d5_hasOperand_7 (by decide) (fun c2 => ?_) (fun c2 => ?_)
    · have hw := hw.1 c2
      refine r_iconst C (pc := 46) (v := 1) d5_hasOperand_46 (by decide) ?_
      refine r_goto C (pc := 47) (tgt := 51) d5_hasOperand_47 (by decide) ?_
      exact r_zret C (pc := 51) hr rfl d5_hasOperand_51 hw
    · have hw := hw.2 c2
      refine r_sub (ls' := [(0, .int x0)]) [0] rfl ?_
      exact nd5_hasOperand_10 C hr hw
set_option maxRecDepth 20000 in
theorem ct4_sizeAt (l : Launch) (D : va_G) (ca : Nat → ClassId) (ρ : Nat → Nat → Nat) (sz : Nat) {S : St} {o : Nat} {x1 : Int32} {Q : Int32 → St → Prop} (hAp : Ap true ρ) (ho : o < 6) (hw : wp4_sizeAt S o x1 Q) : Met l y4_sizeAt [Cond.code y4_sizeAt b4_sizeAt 4 (some .int)] { frames := 2, cells := 0, slots := 0, locals := 40 } (va_Pc [.ref (ρ 4 o), .int x1] (PreU true D ca ρ sz S)) (va_Qi Q (PostU true D ca ρ) (Ar true ρ sz)) 0 0 (Ar true ρ sz) := by
  refine met_of_wm (own := R4) (ls0 := [(0, .ref (ρ 4 o)), (1, .int x1)]) rfl rfl hAp (Nat.le_of_ble_eq_true rfl) rfl fun p e s m args below meth c C hr hz => ?_
  subst hz
  unfold wp4_sizeAt at hw
  refine r_aload_n C (pc := 0) 0 rfl d4_sizeAt_0 ?_
  refine r_iload_n C (pc := 1) 1 rfl d4_sizeAt_1 ?_
  refine r_callVi C (pc := 2) (fun sz => ct4_byteAt l D ca ρ sz C.2.2.2.2.2.2.1 ho hw) mf4_byteAt w4_48 rfl ho rfl rfl rfl rfl ⟨Nat.le_of_ble_eq_true rfl, Nat.le_of_ble_eq_true rfl⟩ rfl rfl (Nat.le_of_ble_eq_true rfl) ⟨Nat.zero_le _, Nat.zero_le _⟩ d4_sizeAt_2 (fun r1 S1 hw => ?_)
  refine r_istore_n C (pc := 5) (ls' := [(2, .int r1), (0, .ref (ρ 4 o)), (1, .int x1)]) (Nat.le_of_ble_eq_true rfl) rfl d4_sizeAt_5 ?_
  refine r_iload_n C (pc := 6) 0 rfl d4_sizeAt_6 ?_
  refine r_callSi C (pc := 7) (fun sz => ct5_isKnown l D ca ρ sz C.2.2.2.2.2.2.1 hw) mf5_isKnown w4_51 rfl rfl ⟨Nat.le_of_ble_eq_true rfl, Nat.le_of_ble_eq_true rfl⟩ rfl rfl (Nat.le_of_ble_eq_true rfl) ⟨Nat.zero_le _, Nat.zero_le _⟩ d4_sizeAt_7 (fun r2 S2 hw => ?_)
  refine r_if_ne C (pc := 10) (tgt := 15) d4_sizeAt_10 (by decide) (fun c1 => ?_) (fun c1 => ?_)
  · have hw := hw.1 c1
    refine r_iload_n C (pc := 15) 0 rfl d4_sizeAt_15 ?_
    refine r_bipush C (pc := 16) (v := 9) d4_sizeAt_16 (by decide) ?_
    refine r_icmp_ne C (pc := 18) (tgt := 42) d4_sizeAt_18 (by decide) (fun c2 => ?_) (fun c2 => ?_)
    · have hw := hw.1 c2
      refine r_iload_n C (pc := 42) 0 rfl d4_sizeAt_42 ?_
      refine r_callSi C (pc := 43) (fun sz => ct5_hasOperand l D ca ρ sz C.2.2.2.2.2.2.1 hw) mf5_hasOperand w4_57 rfl rfl ⟨Nat.le_of_ble_eq_true rfl, Nat.le_of_ble_eq_true rfl⟩ rfl rfl (Nat.le_of_ble_eq_true rfl) ⟨Nat.zero_le _, Nat.zero_le _⟩ d4_sizeAt_43 (fun r3 S3 hw => ?_)
      refine r_if_eq C (pc := 46) (tgt := 53) d4_sizeAt_46 (by decide) (fun c3 => ?_) (fun c3 => ?_)
      · have hw := hw.1 c3
        refine r_iconst C (pc := 53) (v := 1) d4_sizeAt_53 (by decide) ?_
        exact r_iret C (pc := 54) hr d4_sizeAt_54 hw
      · have hw := hw.2 c3
        refine r_iconst C (pc := 49) (v := 2) d4_sizeAt_49 (by decide) ?_
        refine r_goto C (pc := 50) (tgt := 54) d4_sizeAt_50 (by decide) ?_
        exact r_iret C (pc := 54) hr d4_sizeAt_54 hw
    · have hw := hw.2 c2
      refine r_aload_n C (pc := 21) 1 rfl d4_sizeAt_21 ?_
      refine r_iload_n C (pc := 22) 2 rfl d4_sizeAt_22 ?_
      refine r_iconst C (pc := 23) (v := 1) d4_sizeAt_23 (by decide) ?_
      refine r_iadd C (pc := 24) d4_sizeAt_24 ?_
      refine r_callVi C (pc := 25) (fun sz => ct4_byteAt l D ca ρ sz C.2.2.2.2.2.2.1 ho hw) mf4_byteAt w4_48 rfl ho rfl rfl rfl rfl ⟨Nat.le_of_ble_eq_true rfl, Nat.le_of_ble_eq_true rfl⟩ rfl rfl (Nat.le_of_ble_eq_true rfl) ⟨Nat.zero_le _, Nat.zero_le _⟩ d4_sizeAt_25 (fun r4 S4 hw => ?_)
      refine r_istore_n C (pc := 28) (ls' := [(3, .int r4), (2, .int r1), (0, .ref (ρ 4 o)), (1, .int x1)]) (Nat.le_of_ble_eq_true rfl) rfl d4_sizeAt_28 ?_
      refine r_iload_n C (pc := 29) 0 rfl d4_sizeAt_29 ?_
      refine r_iconst C (pc := 30) (v := 3) d4_sizeAt_30 (by decide) ?_
      refine r_icmp_le C (pc := 31) (tgt := 38) d4_sizeAt_31 (by decide) (fun c4 => ?_) (fun c4 => ?_)
      · have hw := hw.1 c4
        refine r_iload_n C (pc := 38) 0 rfl d4_sizeAt_38 ?_
        refine r_iconst C (pc := 39) (v := 3) d4_sizeAt_39 (by decide) ?_
        refine r_iadd C (pc := 40) d4_sizeAt_40 ?_
        exact r_iret C (pc := 41) hr d4_sizeAt_41 hw
      · have hw := hw.2 c4
        refine r_iconst C (pc := 34) (v := 0) d4_sizeAt_34 (by decide) ?_
        refine r_goto C (pc := 35) (tgt := 41) d4_sizeAt_35 (by decide) ?_
        exact r_iret C (pc := 41) hr d4_sizeAt_41 hw
  · have hw := hw.2 c1
    refine r_iconst C (pc := 13) (v := 0) d4_sizeAt_13 (by decide) ?_
    exact r_iret C (pc := 14) hr d4_sizeAt_14 hw
