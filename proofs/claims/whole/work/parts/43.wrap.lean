theorem cl_13 : Cond.classLink RL 13 (excN (kdL 13)) ∈ tbl := tb_of 262 (by decide +kernel) rfl
theorem cl_15 : Cond.classLink RL 15 (excN (kdL 15)) ∈ tbl := tb_of 263 (by decide +kernel) rfl
theorem cl_21 : Cond.classLink RL 21 (excN (kdL 21)) ∈ tbl := tb_of 375 (by decide +kernel) rfl
theorem cl_31 : Cond.classLink RL 31 (excN (kdL 31)) ∈ tbl := tb_of 413 (by decide +kernel) rfl
theorem cl_46 : Cond.classLink RL 46 (excN (kdL 46)) ∈ tbl := tb_of 611 (by decide +kernel) rfl
theorem cl_48 : Cond.classLink RL 48 (excN (kdL 48)) ∈ tbl := tb_of 612 (by decide +kernel) rfl
theorem cl_50 : Cond.classLink RL 50 (excN (kdL 50)) ∈ tbl := tb_of 613 (by decide +kernel) rfl
def hh_shape : List (Nat × Nat × Nat × Nat) := [(0, 14, 17, 13), (0, 14, 21, 15)]
def cd_shape : Nat → Option Int32
  | 1 => some 1
  | 2 => some 2
  | _ => none
set_option maxRecDepth 20000 in
theorem cl_shape_w (l : Launch) (htr : l.stackTraces = false) (D : va_G) (ca : Nat → ClassId) (b : Nat) {S M : St} {f : Nat → Int64} {g : Nat → UInt64} {x1 : Int32} {x2 : Int32} {x3 : Int32} {x4 : Int32} {Qw : Int32 → LW → Prop} (hw : wp8_shape S x1 x2 x3 x4 (fun r S' => Qw 0 (S', vp_updL f 0 r.toInt64, g)) (fun k S' => ∃ j, cd_shape k = some j ∧ Qw j (S', f, g))) : Met l yL_shape [Cond.codeWith yL_shape bL_shape 7 (some .int) hh_shape] { frames := 7, cells := 1, slots := 6, locals := 114 } (va_Pc [.ref (rho b 8 0), .int x1, .int x2, .int x3, .int x4, .ref (b + 135)] (PreL D ca b S M f g)) (va_Qi Qw (PostL D ca b M) (frs b)) 1 6 (frs b) := by
  refine met_of_wn (own := RL) (ls0 := [(0, .ref (rho b 8 0)), (1, .int x1), (2, .int x2), (3, .int x3), (4, .int x4), (5, .ref (b + 135))]) rfl rfl (Nat.le_of_ble_eq_true rfl) rfl fun p e s m args below meth c C hr hEx hZ hb => ?_
  refine n_aload C (pc := 0) 5 rfl dL_shape_0 ?_
  refine n_iconst C (pc := 2) (v := 0) dL_shape_2 (by decide) ?_
  refine n_aload_n C (pc := 3) 0 rfl dL_shape_3 ?_
  refine n_iload_n C (pc := 4) 1 rfl dL_shape_4 ?_
  refine n_iload_n C (pc := 5) 2 rfl dL_shape_5 ?_
  refine n_iload_n C (pc := 6) 3 rfl dL_shape_6 ?_
  refine n_iload C (pc := 7) 4 rfl dL_shape_7 ?_
  refine n_callW C hZ hb (hh := hh_shape) hEx (fun q hq => by
    unfold hh_shape at hq
    simp only [List.mem_cons, List.not_mem_nil, or_false] at hq
    rcases hq with rfl | rfl <;> exact ⟨by decide, by decide, by decide, by decide, by first | exact cl_13 | exact cl_15⟩) (pc := 9) (n := 4) (As := [.int x1, .int x2, .int x3, .int x4]) (rest := [.int 0, .ref (b + 135)]) (fun sz => ct8_shape l htr D ca (rho b) sz (Ap_PT b) hw) mf8_shape rfl wL_7 rfl rfl ⟨Nat.le_of_ble_eq_true rfl, Nat.le_of_ble_eq_true rfl⟩ rfl rfl (Nat.le_of_ble_eq_true rfl) ⟨Nat.le_of_ble_eq_true rfl, Nat.le_of_ble_eq_true rfl⟩ dL_shape_9 ?_ ?_
  · rintro oc t ⟨r, S', rfl, hq, hB⟩
    refine ⟨_, S', rfl, hB, ?_⟩
    refine n_i2l C (pc := 12) dL_shape_12 ?_
    refine n_last C (pc := 13) rfl dL_shape_13 ?_
    refine n_goto C (pc := 14) (tgt := 25) dL_shape_14 (by decide) ?_
    refine n_iconst C (pc := 25) (v := 0) dL_shape_25 (by decide) ?_
    exact n_iretL C hr dL_shape_26 hq
  · rintro k S' ⟨j, hj, hq⟩
    unfold cd_shape at hj
    split at hj
    · cases hj
      refine ⟨⟨by decide, by decide⟩, 17, rfl, fun a => ?_⟩
      refine n_astore C (pc := 17) (ls' := [(6, .ref a), (0, .ref (rho b 8 0)), (1, .int x1), (2, .int x2), (3, .int x3), (4, .int x4), (5, .ref (b + 135))]) (Nat.le_of_ble_eq_true rfl) rfl dL_shape_17 ?_
      refine n_iconst C (pc := 19) (v := 1) dL_shape_19 (by decide) ?_
      exact n_iretL C hr dL_shape_20 hq
    · cases hj
      refine ⟨⟨by decide, by decide⟩, 21, rfl, fun a => ?_⟩
      refine n_astore C (pc := 21) (ls' := [(6, .ref a), (0, .ref (rho b 8 0)), (1, .int x1), (2, .int x2), (3, .int x3), (4, .int x4), (5, .ref (b + 135))]) (Nat.le_of_ble_eq_true rfl) rfl dL_shape_21 ?_
      refine n_iconst C (pc := 23) (v := 2) dL_shape_23 (by decide) ?_
      exact n_iretL C hr dL_shape_24 hq
    · cases hj
def hh_code : List (Nat × Nat × Nat × Nat) := [(0, 13, 16, 13), (0, 13, 20, 15), (0, 13, 24, 21)]
def cd_code : Nat → Option Int32
  | 1 => some 1
  | 2 => some 2
  | 3 => some 3
  | _ => none
set_option maxRecDepth 20000 in
theorem cl_code_w (l : Launch) (htr : l.stackTraces = false) (D : va_G) (ca : Nat → ClassId) (b : Nat) {S M : St} {f : Nat → Int64} {g : Nat → UInt64} {x1 : Int32} {x2 : Int64} {x3 : Int32} {Qw : Int32 → LW → Prop} (hw : wp8_code S x1 x2 x3 (fun r S' => Qw 0 (S', vp_updL f 0 r.toInt64, g)) (fun k S' => ∃ j, cd_code k = some j ∧ Qw j (S', f, g))) : Met l yL_code [Cond.codeWith yL_code bL_code 7 (some .int) hh_code] { frames := 7, cells := 1, slots := 6, locals := 115 } (va_Pc [.ref (rho b 8 0), .int x1, .long x2, .int x3, .ref (b + 135)] (PreL D ca b S M f g)) (va_Qi Qw (PostL D ca b M) (frs b)) 1 6 (frs b) := by
  refine met_of_wn (own := RL) (ls0 := [(0, .ref (rho b 8 0)), (1, .int x1), (2, .long x2), (4, .int x3), (5, .ref (b + 135))]) rfl rfl (Nat.le_of_ble_eq_true rfl) rfl fun p e s m args below meth c C hr hEx hZ hb => ?_
  refine n_aload C (pc := 0) 4 rfl dL_code_0 ?_
  refine n_iconst C (pc := 2) (v := 0) dL_code_2 (by decide) ?_
  refine n_aload_n C (pc := 3) 0 rfl dL_code_3 ?_
  refine n_iload_n C (pc := 4) 1 rfl dL_code_4 ?_
  refine n_lload_n C (pc := 5) 2 rfl dL_code_5 ?_
  refine n_iload C (pc := 6) 3 rfl dL_code_6 ?_
  refine n_callW C hZ hb (hh := hh_code) hEx (fun q hq => by
    unfold hh_code at hq
    simp only [List.mem_cons, List.not_mem_nil, or_false] at hq
    rcases hq with rfl | rfl | rfl <;> exact ⟨by decide, by decide, by decide, by decide, by first | exact cl_13 | exact cl_15 | exact cl_21⟩) (pc := 8) (n := 3) (As := [.int x1, .long x2, .int x3]) (rest := [.int 0, .ref (b + 135)]) (fun sz => ct8_code l htr D ca (rho b) sz (Ap_PT b) hw) mf8_code rfl wL_17 rfl rfl ⟨Nat.le_of_ble_eq_true rfl, Nat.le_of_ble_eq_true rfl⟩ rfl rfl (Nat.le_of_ble_eq_true rfl) ⟨Nat.le_of_ble_eq_true rfl, Nat.le_of_ble_eq_true rfl⟩ dL_code_8 ?_ ?_
  · rintro oc t ⟨r, S', rfl, hq, hB⟩
    refine ⟨_, S', rfl, hB, ?_⟩
    refine n_i2l C (pc := 11) dL_code_11 ?_
    refine n_last C (pc := 12) rfl dL_code_12 ?_
    refine n_goto C (pc := 13) (tgt := 28) dL_code_13 (by decide) ?_
    refine n_iconst C (pc := 28) (v := 0) dL_code_28 (by decide) ?_
    exact n_iretL C hr dL_code_29 hq
  · rintro k S' ⟨j, hj, hq⟩
    unfold cd_code at hj
    split at hj
    · cases hj
      refine ⟨⟨by decide, by decide⟩, 16, rfl, fun a => ?_⟩
      refine n_astore C (pc := 16) (ls' := [(6, .ref a), (0, .ref (rho b 8 0)), (1, .int x1), (2, .long x2), (4, .int x3), (5, .ref (b + 135))]) (Nat.le_of_ble_eq_true rfl) rfl dL_code_16 ?_
      refine n_iconst C (pc := 18) (v := 1) dL_code_18 (by decide) ?_
      exact n_iretL C hr dL_code_19 hq
    · cases hj
      refine ⟨⟨by decide, by decide⟩, 20, rfl, fun a => ?_⟩
      refine n_astore C (pc := 20) (ls' := [(6, .ref a), (0, .ref (rho b 8 0)), (1, .int x1), (2, .long x2), (4, .int x3), (5, .ref (b + 135))]) (Nat.le_of_ble_eq_true rfl) rfl dL_code_20 ?_
      refine n_iconst C (pc := 22) (v := 2) dL_code_22 (by decide) ?_
      exact n_iretL C hr dL_code_23 hq
    · cases hj
      refine ⟨⟨by decide, by decide⟩, 24, rfl, fun a => ?_⟩
      refine n_astore C (pc := 24) (ls' := [(6, .ref a), (0, .ref (rho b 8 0)), (1, .int x1), (2, .long x2), (4, .int x3), (5, .ref (b + 135))]) (Nat.le_of_ble_eq_true rfl) rfl dL_code_24 ?_
      refine n_iconst C (pc := 26) (v := 3) dL_code_26 (by decide) ?_
      exact n_iretL C hr dL_code_27 hq
    · cases hj
def hh_table : List (Nat × Nat × Nat × Nat) := [(0, 10, 13, 13)]
def cd_table : Nat → Option Int32
  | 1 => some 1
  | _ => none
set_option maxRecDepth 20000 in
theorem cl_table_w (l : Launch) (htr : l.stackTraces = false) (D : va_G) (ca : Nat → ClassId) (b : Nat) {S M : St} {f : Nat → Int64} {g : Nat → UInt64} {x1 : Int32} {x2 : Int32} {Qw : Int32 → LW → Prop} (hw : wp8_table S x1 x2 (fun r S' => Qw 0 (S', vp_updL f 0 r.toInt64, g)) (fun k S' => ∃ j, cd_table k = some j ∧ Qw j (S', f, g))) : Met l yL_table [Cond.codeWith yL_table bL_table 5 (some .int) hh_table] { frames := 7, cells := 1, slots := 6, locals := 113 } (va_Pc [.ref (rho b 8 0), .int x1, .int x2, .ref (b + 135)] (PreL D ca b S M f g)) (va_Qi Qw (PostL D ca b M) (frs b)) 1 6 (frs b) := by
  refine met_of_wn (own := RL) (ls0 := [(0, .ref (rho b 8 0)), (1, .int x1), (2, .int x2), (3, .ref (b + 135))]) rfl rfl (Nat.le_of_ble_eq_true rfl) rfl fun p e s m args below meth c C hr hEx hZ hb => ?_
  refine n_aload_n C (pc := 0) 3 rfl dL_table_0 ?_
  refine n_iconst C (pc := 1) (v := 0) dL_table_1 (by decide) ?_
  refine n_aload_n C (pc := 2) 0 rfl dL_table_2 ?_
  refine n_iload_n C (pc := 3) 1 rfl dL_table_3 ?_
  refine n_iload_n C (pc := 4) 2 rfl dL_table_4 ?_
  refine n_callW C hZ hb (hh := hh_table) hEx (fun q hq => by
    unfold hh_table at hq
    simp only [List.mem_cons, List.not_mem_nil, or_false] at hq
    rcases hq with rfl <;> exact ⟨by decide, by decide, by decide, by decide, by first | exact cl_13⟩) (pc := 5) (n := 2) (As := [.int x1, .int x2]) (rest := [.int 0, .ref (b + 135)]) (fun sz => ct8_table l htr D ca (rho b) sz (Ap_PT b) hw) mf8_table rfl wL_23 rfl rfl ⟨Nat.le_of_ble_eq_true rfl, Nat.le_of_ble_eq_true rfl⟩ rfl rfl (Nat.le_of_ble_eq_true rfl) ⟨Nat.le_of_ble_eq_true rfl, Nat.le_of_ble_eq_true rfl⟩ dL_table_5 ?_ ?_
  · rintro oc t ⟨r, S', rfl, hq, hB⟩
    refine ⟨_, S', rfl, hB, ?_⟩
    refine n_i2l C (pc := 8) dL_table_8 ?_
    refine n_last C (pc := 9) rfl dL_table_9 ?_
    refine n_goto C (pc := 10) (tgt := 17) dL_table_10 (by decide) ?_
    refine n_iconst C (pc := 17) (v := 0) dL_table_17 (by decide) ?_
    exact n_iretL C hr dL_table_18 hq
  · rintro k S' ⟨j, hj, hq⟩
    unfold cd_table at hj
    split at hj
    · cases hj
      refine ⟨⟨by decide, by decide⟩, 13, rfl, fun a => ?_⟩
      refine n_astore C (pc := 13) (ls' := [(4, .ref a), (0, .ref (rho b 8 0)), (1, .int x1), (2, .int x2), (3, .ref (b + 135))]) (Nat.le_of_ble_eq_true rfl) rfl dL_table_13 ?_
      refine n_iconst C (pc := 15) (v := 1) dL_table_15 (by decide) ?_
      exact n_iretL C hr dL_table_16 hq
    · cases hj
def hh_check : List (Nat × Nat × Nat × Nat) := [(0, 8, 11, 15), (0, 8, 14, 31)]
def cd_check : Nat → Option Int32
  | 2 => some 1
  | 5 => some 2
  | _ => none
set_option maxRecDepth 20000 in
theorem cl_check_w (l : Launch) (htr : l.stackTraces = false) (D : va_G) (ca : Nat → ClassId) (b : Nat) {S M : St} {f : Nat → Int64} {g : Nat → UInt64}  {Qw : Int32 → LW → Prop} (hw : wp8_check S  (fun r S' => Qw 0 (S', vp_updL f 0 r.toInt64, g)) (fun k S' => ∃ j, cd_check k = some j ∧ Qw j (S', f, g))) : Met l yL_check [Cond.codeWith yL_check bL_check 3 (some .int) hh_check] { frames := 7, cells := 1, slots := 6, locals := 158 } (va_Pc [.ref (rho b 8 0), .ref (b + 135)] (PreL D ca b S M f g)) (va_Qi Qw (PostL D ca b M) (frs b)) 1 6 (frs b) := by
  refine met_of_wn (own := RL) (ls0 := [(0, .ref (rho b 8 0)), (1, .ref (b + 135))]) rfl rfl (Nat.le_of_ble_eq_true rfl) rfl fun p e s m args below meth c C hr hEx hZ hb => ?_
  refine n_aload_n C (pc := 0) 1 rfl dL_check_0 ?_
  refine n_iconst C (pc := 1) (v := 0) dL_check_1 (by decide) ?_
  refine n_aload_n C (pc := 2) 0 rfl dL_check_2 ?_
  refine n_callW C hZ hb (hh := hh_check) hEx (fun q hq => by
    unfold hh_check at hq
    simp only [List.mem_cons, List.not_mem_nil, or_false] at hq
    rcases hq with rfl | rfl <;> exact ⟨by decide, by decide, by decide, by decide, by first | exact cl_15 | exact cl_31⟩) (pc := 3) (n := 0) (As := []) (rest := [.int 0, .ref (b + 135)]) (fun sz => ct8_check l htr D ca (rho b) sz (Ap_PT b) hw) mf8_check rfl wL_27 rfl rfl ⟨Nat.le_of_ble_eq_true rfl, Nat.le_of_ble_eq_true rfl⟩ rfl rfl (Nat.le_of_ble_eq_true rfl) ⟨Nat.le_of_ble_eq_true rfl, Nat.le_of_ble_eq_true rfl⟩ dL_check_3 ?_ ?_
  · rintro oc t ⟨r, S', rfl, hq, hB⟩
    refine ⟨_, S', rfl, hB, ?_⟩
    refine n_i2l C (pc := 6) dL_check_6 ?_
    refine n_last C (pc := 7) rfl dL_check_7 ?_
    refine n_goto C (pc := 8) (tgt := 17) dL_check_8 (by decide) ?_
    refine n_iconst C (pc := 17) (v := 0) dL_check_17 (by decide) ?_
    exact n_iretL C hr dL_check_18 hq
  · rintro k S' ⟨j, hj, hq⟩
    unfold cd_check at hj
    split at hj
    · cases hj
      refine ⟨⟨by decide, by decide⟩, 11, rfl, fun a => ?_⟩
      refine n_astore_n C (pc := 11) (ls' := [(2, .ref a), (0, .ref (rho b 8 0)), (1, .ref (b + 135))]) (Nat.le_of_ble_eq_true rfl) rfl dL_check_11 ?_
      refine n_iconst C (pc := 12) (v := 1) dL_check_12 (by decide) ?_
      exact n_iretL C hr dL_check_13 hq
    · cases hj
      refine ⟨⟨by decide, by decide⟩, 14, rfl, fun a => ?_⟩
      refine n_astore_n C (pc := 14) (ls' := [(2, .ref a), (0, .ref (rho b 8 0)), (1, .ref (b + 135))]) (Nat.le_of_ble_eq_true rfl) rfl dL_check_14 ?_
      refine n_iconst C (pc := 15) (v := 2) dL_check_15 (by decide) ?_
      exact n_iretL C hr dL_check_16 hq
    · cases hj
def hh_fault : List (Nat × Nat × Nat × Nat) := [(0, 9, 12, 13)]
def cd_fault : Nat → Option Int32
  | 1 => some 1
  | _ => none
set_option maxRecDepth 20000 in
theorem cl_fault_w (l : Launch) (htr : l.stackTraces = false) (D : va_G) (ca : Nat → ClassId) (b : Nat) {S M : St} {f : Nat → Int64} {g : Nat → UInt64} {x1 : Int32} {Qw : Int32 → LW → Prop} (hw : wp8_fault S x1 (fun r S' => Qw 0 (S', vp_updL f 0 r.toInt64, g)) (fun k S' => ∃ j, cd_fault k = some j ∧ Qw j (S', f, g))) : Met l yL_fault [Cond.codeWith yL_fault bL_fault 4 (some .int) hh_fault] { frames := 7, cells := 1, slots := 6, locals := 157 } (va_Pc [.ref (rho b 8 0), .int x1, .ref (b + 135)] (PreL D ca b S M f g)) (va_Qi Qw (PostL D ca b M) (frs b)) 1 6 (frs b) := by
  refine met_of_wn (own := RL) (ls0 := [(0, .ref (rho b 8 0)), (1, .int x1), (2, .ref (b + 135))]) rfl rfl (Nat.le_of_ble_eq_true rfl) rfl fun p e s m args below meth c C hr hEx hZ hb => ?_
  refine n_aload_n C (pc := 0) 2 rfl dL_fault_0 ?_
  refine n_iconst C (pc := 1) (v := 0) dL_fault_1 (by decide) ?_
  refine n_aload_n C (pc := 2) 0 rfl dL_fault_2 ?_
  refine n_iload_n C (pc := 3) 1 rfl dL_fault_3 ?_
  refine n_callW C hZ hb (hh := hh_fault) hEx (fun q hq => by
    unfold hh_fault at hq
    simp only [List.mem_cons, List.not_mem_nil, or_false] at hq
    rcases hq with rfl <;> exact ⟨by decide, by decide, by decide, by decide, by first | exact cl_13⟩) (pc := 4) (n := 1) (As := [.int x1]) (rest := [.int 0, .ref (b + 135)]) (fun sz => ct8_fault l htr D ca (rho b) sz (Ap_PT b) hw) mf8_fault rfl wL_33 rfl rfl ⟨Nat.le_of_ble_eq_true rfl, Nat.le_of_ble_eq_true rfl⟩ rfl rfl (Nat.le_of_ble_eq_true rfl) ⟨Nat.le_of_ble_eq_true rfl, Nat.le_of_ble_eq_true rfl⟩ dL_fault_4 ?_ ?_
  · rintro oc t ⟨r, S', rfl, hq, hB⟩
    refine ⟨_, S', rfl, hB, ?_⟩
    refine n_i2l C (pc := 7) dL_fault_7 ?_
    refine n_last C (pc := 8) rfl dL_fault_8 ?_
    refine n_goto C (pc := 9) (tgt := 15) dL_fault_9 (by decide) ?_
    refine n_iconst C (pc := 15) (v := 0) dL_fault_15 (by decide) ?_
    exact n_iretL C hr dL_fault_16 hq
  · rintro k S' ⟨j, hj, hq⟩
    unfold cd_fault at hj
    split at hj
    · cases hj
      refine ⟨⟨by decide, by decide⟩, 12, rfl, fun a => ?_⟩
      refine n_astore_n C (pc := 12) (ls' := [(3, .ref a), (0, .ref (rho b 8 0)), (1, .int x1), (2, .ref (b + 135))]) (Nat.le_of_ble_eq_true rfl) rfl dL_fault_12 ?_
      refine n_iconst C (pc := 13) (v := 1) dL_fault_13 (by decide) ?_
      exact n_iretL C hr dL_fault_14 hq
    · cases hj
def hh_argue : List (Nat × Nat × Nat × Nat) := [(0, 9, 12, 21)]
def cd_argue : Nat → Option Int32
  | 3 => some 1
  | _ => none
set_option maxRecDepth 20000 in
theorem cl_argue_w (l : Launch) (htr : l.stackTraces = false) (D : va_G) (ca : Nat → ClassId) (b : Nat) {S M : St} {f : Nat → Int64} {g : Nat → UInt64} {x1 : Int32} {Qw : Int32 → LW → Prop} (hw : wp8_argue S x1 (fun r S' => Qw 0 (S', vp_updL f 0 r.toInt64, g)) (fun k S' => ∃ j, cd_argue k = some j ∧ Qw j (S', f, g))) : Met l yL_argue [Cond.codeWith yL_argue bL_argue 4 (some .int) hh_argue] { frames := 7, cells := 1, slots := 6, locals := 111 } (va_Pc [.ref (rho b 8 0), .int x1, .ref (b + 135)] (PreL D ca b S M f g)) (va_Qi Qw (PostL D ca b M) (frs b)) 1 6 (frs b) := by
  refine met_of_wn (own := RL) (ls0 := [(0, .ref (rho b 8 0)), (1, .int x1), (2, .ref (b + 135))]) rfl rfl (Nat.le_of_ble_eq_true rfl) rfl fun p e s m args below meth c C hr hEx hZ hb => ?_
  refine n_aload_n C (pc := 0) 2 rfl dL_argue_0 ?_
  refine n_iconst C (pc := 1) (v := 0) dL_argue_1 (by decide) ?_
  refine n_aload_n C (pc := 2) 0 rfl dL_argue_2 ?_
  refine n_iload_n C (pc := 3) 1 rfl dL_argue_3 ?_
  refine n_callW C hZ hb (hh := hh_argue) hEx (fun q hq => by
    unfold hh_argue at hq
    simp only [List.mem_cons, List.not_mem_nil, or_false] at hq
    rcases hq with rfl <;> exact ⟨by decide, by decide, by decide, by decide, by first | exact cl_21⟩) (pc := 4) (n := 1) (As := [.int x1]) (rest := [.int 0, .ref (b + 135)]) (fun sz => ct8_argue l htr D ca (rho b) sz (Ap_PT b) hw) mf8_argue rfl wL_37 rfl rfl ⟨Nat.le_of_ble_eq_true rfl, Nat.le_of_ble_eq_true rfl⟩ rfl rfl (Nat.le_of_ble_eq_true rfl) ⟨Nat.le_of_ble_eq_true rfl, Nat.le_of_ble_eq_true rfl⟩ dL_argue_4 ?_ ?_
  · rintro oc t ⟨r, S', rfl, hq, hB⟩
    refine ⟨_, S', rfl, hB, ?_⟩
    refine n_i2l C (pc := 7) dL_argue_7 ?_
    refine n_last C (pc := 8) rfl dL_argue_8 ?_
    refine n_goto C (pc := 9) (tgt := 15) dL_argue_9 (by decide) ?_
    refine n_iconst C (pc := 15) (v := 0) dL_argue_15 (by decide) ?_
    exact n_iretL C hr dL_argue_16 hq
  · rintro k S' ⟨j, hj, hq⟩
    unfold cd_argue at hj
    split at hj
    · cases hj
      refine ⟨⟨by decide, by decide⟩, 12, rfl, fun a => ?_⟩
      refine n_astore_n C (pc := 12) (ls' := [(3, .ref a), (0, .ref (rho b 8 0)), (1, .int x1), (2, .ref (b + 135))]) (Nat.le_of_ble_eq_true rfl) rfl dL_argue_12 ?_
      refine n_iconst C (pc := 13) (v := 1) dL_argue_13 (by decide) ?_
      exact n_iretL C hr dL_argue_14 hq
    · cases hj
def hh_start : List (Nat × Nat × Nat × Nat) := [(0, 9, 12, 13), (0, 9, 15, 15), (0, 9, 18, 31)]
def cd_start : Nat → Option Int32
  | 1 => some 1
  | 2 => some 2
  | 5 => some 3
  | _ => none
set_option maxRecDepth 20000 in
theorem cl_start_w (l : Launch) (htr : l.stackTraces = false) (D : va_G) (ca : Nat → ClassId) (b : Nat) {S M : St} {f : Nat → Int64} {g : Nat → UInt64} {x1 : Int32} {Qw : Int32 → LW → Prop} (hw : wp8_start S x1 (fun r S' => Qw 0 (S', vp_updL f 0 r.toInt64, g)) (fun k S' => ∃ j, cd_start k = some j ∧ Qw j (S', f, g))) : Met l yL_start [Cond.codeWith yL_start bL_start 4 (some .int) hh_start] { frames := 7, cells := 1, slots := 6, locals := 112 } (va_Pc [.ref (rho b 8 0), .int x1, .ref (b + 135)] (PreL D ca b S M f g)) (va_Qi Qw (PostL D ca b M) (frs b)) 1 6 (frs b) := by
  refine met_of_wn (own := RL) (ls0 := [(0, .ref (rho b 8 0)), (1, .int x1), (2, .ref (b + 135))]) rfl rfl (Nat.le_of_ble_eq_true rfl) rfl fun p e s m args below meth c C hr hEx hZ hb => ?_
  refine n_aload_n C (pc := 0) 2 rfl dL_start_0 ?_
  refine n_iconst C (pc := 1) (v := 0) dL_start_1 (by decide) ?_
  refine n_aload_n C (pc := 2) 0 rfl dL_start_2 ?_
  refine n_iload_n C (pc := 3) 1 rfl dL_start_3 ?_
  refine n_callW C hZ hb (hh := hh_start) hEx (fun q hq => by
    unfold hh_start at hq
    simp only [List.mem_cons, List.not_mem_nil, or_false] at hq
    rcases hq with rfl | rfl | rfl <;> exact ⟨by decide, by decide, by decide, by decide, by first | exact cl_13 | exact cl_15 | exact cl_31⟩) (pc := 4) (n := 1) (As := [.int x1]) (rest := [.int 0, .ref (b + 135)]) (fun sz => ct8_start l htr D ca (rho b) sz (Ap_PT b) hw) mf8_start rfl wL_40 rfl rfl ⟨Nat.le_of_ble_eq_true rfl, Nat.le_of_ble_eq_true rfl⟩ rfl rfl (Nat.le_of_ble_eq_true rfl) ⟨Nat.le_of_ble_eq_true rfl, Nat.le_of_ble_eq_true rfl⟩ dL_start_4 ?_ ?_
  · rintro oc t ⟨r, S', rfl, hq, hB⟩
    refine ⟨_, S', rfl, hB, ?_⟩
    refine n_i2l C (pc := 7) dL_start_7 ?_
    refine n_last C (pc := 8) rfl dL_start_8 ?_
    refine n_goto C (pc := 9) (tgt := 21) dL_start_9 (by decide) ?_
    refine n_iconst C (pc := 21) (v := 0) dL_start_21 (by decide) ?_
    exact n_iretL C hr dL_start_22 hq
  · rintro k S' ⟨j, hj, hq⟩
    unfold cd_start at hj
    split at hj
    · cases hj
      refine ⟨⟨by decide, by decide⟩, 12, rfl, fun a => ?_⟩
      refine n_astore_n C (pc := 12) (ls' := [(3, .ref a), (0, .ref (rho b 8 0)), (1, .int x1), (2, .ref (b + 135))]) (Nat.le_of_ble_eq_true rfl) rfl dL_start_12 ?_
      refine n_iconst C (pc := 13) (v := 1) dL_start_13 (by decide) ?_
      exact n_iretL C hr dL_start_14 hq
    · cases hj
      refine ⟨⟨by decide, by decide⟩, 15, rfl, fun a => ?_⟩
      refine n_astore_n C (pc := 15) (ls' := [(3, .ref a), (0, .ref (rho b 8 0)), (1, .int x1), (2, .ref (b + 135))]) (Nat.le_of_ble_eq_true rfl) rfl dL_start_15 ?_
      refine n_iconst C (pc := 16) (v := 2) dL_start_16 (by decide) ?_
      exact n_iretL C hr dL_start_17 hq
    · cases hj
      refine ⟨⟨by decide, by decide⟩, 18, rfl, fun a => ?_⟩
      refine n_astore_n C (pc := 18) (ls' := [(3, .ref a), (0, .ref (rho b 8 0)), (1, .int x1), (2, .ref (b + 135))]) (Nat.le_of_ble_eq_true rfl) rfl dL_start_18 ?_
      refine n_iconst C (pc := 19) (v := 3) dL_start_19 (by decide) ?_
      exact n_iretL C hr dL_start_20 hq
    · cases hj
def hh_run : List (Nat × Nat × Nat × Nat) := [(0, 9, 12, 13), (0, 9, 15, 15), (0, 9, 18, 46), (0, 9, 21, 21), (0, 9, 24, 48), (0, 9, 27, 31), (0, 9, 31, 50)]
def cd_run : Nat → Option Int32
  | 1 => some 1
  | 2 => some 2
  | 4 => some 3
  | 3 => some 4
  | 6 => some 5
  | 5 => some 6
  | 7 => some 7
  | _ => none
set_option maxRecDepth 20000 in
theorem cl_run_w (l : Launch) (htr : l.stackTraces = false) (D : va_G) (ca : Nat → ClassId) (b : Nat) {S M : St} {f : Nat → Int64} {g : Nat → UInt64} {x1 : Int32} {Qw : Int32 → LW → Prop} (hw : wp8_run S x1 (fun r S' => Qw 0 (S', vp_updL f 0 r.toInt64, g)) (fun k S' => ∃ j, cd_run k = some j ∧ Qw j (S', f, g))) : Met l yL_run [Cond.codeWith yL_run bL_run 4 (some .int) hh_run] { frames := 8, cells := 1, slots := 6, locals := 166 } (va_Pc [.ref (rho b 8 0), .int x1, .ref (b + 135)] (PreL D ca b S M f g)) (va_Qi Qw (PostL D ca b M) (frs b)) 1 6 (frs b) := by
  refine met_of_wn (own := RL) (ls0 := [(0, .ref (rho b 8 0)), (1, .int x1), (2, .ref (b + 135))]) rfl rfl (Nat.le_of_ble_eq_true rfl) rfl fun p e s m args below meth c C hr hEx hZ hb => ?_
  refine n_aload_n C (pc := 0) 2 rfl dL_run_0 ?_
  refine n_iconst C (pc := 1) (v := 0) dL_run_1 (by decide) ?_
  refine n_aload_n C (pc := 2) 0 rfl dL_run_2 ?_
  refine n_iload_n C (pc := 3) 1 rfl dL_run_3 ?_
  refine n_callW C hZ hb (hh := hh_run) hEx (fun q hq => by
    unfold hh_run at hq
    simp only [List.mem_cons, List.not_mem_nil, or_false] at hq
    rcases hq with rfl | rfl | rfl | rfl | rfl | rfl | rfl <;> exact ⟨by decide, by decide, by decide, by decide, by first | exact cl_13 | exact cl_15 | exact cl_21 | exact cl_31 | exact cl_46 | exact cl_48 | exact cl_50⟩) (pc := 4) (n := 1) (As := [.int x1]) (rest := [.int 0, .ref (b + 135)]) (fun sz => ct8_run l htr D ca (rho b) sz (Ap_PT b) hw) mf8_run rfl wL_43 rfl rfl ⟨Nat.le_of_ble_eq_true rfl, Nat.le_of_ble_eq_true rfl⟩ rfl rfl (Nat.le_of_ble_eq_true rfl) ⟨Nat.le_of_ble_eq_true rfl, Nat.le_of_ble_eq_true rfl⟩ dL_run_4 ?_ ?_
  · rintro oc t ⟨r, S', rfl, hq, hB⟩
    refine ⟨_, S', rfl, hB, ?_⟩
    refine n_i2l C (pc := 7) dL_run_7 ?_
    refine n_last C (pc := 8) rfl dL_run_8 ?_
    refine n_goto C (pc := 9) (tgt := 35) dL_run_9 (by decide) ?_
    refine n_iconst C (pc := 35) (v := 0) dL_run_35 (by decide) ?_
    exact n_iretL C hr dL_run_36 hq
  · rintro k S' ⟨j, hj, hq⟩
    unfold cd_run at hj
    split at hj
    · cases hj
      refine ⟨⟨by decide, by decide⟩, 12, rfl, fun a => ?_⟩
      refine n_astore_n C (pc := 12) (ls' := [(3, .ref a), (0, .ref (rho b 8 0)), (1, .int x1), (2, .ref (b + 135))]) (Nat.le_of_ble_eq_true rfl) rfl dL_run_12 ?_
      refine n_iconst C (pc := 13) (v := 1) dL_run_13 (by decide) ?_
      exact n_iretL C hr dL_run_14 hq
    · cases hj
      refine ⟨⟨by decide, by decide⟩, 15, rfl, fun a => ?_⟩
      refine n_astore_n C (pc := 15) (ls' := [(3, .ref a), (0, .ref (rho b 8 0)), (1, .int x1), (2, .ref (b + 135))]) (Nat.le_of_ble_eq_true rfl) rfl dL_run_15 ?_
      refine n_iconst C (pc := 16) (v := 2) dL_run_16 (by decide) ?_
      exact n_iretL C hr dL_run_17 hq
    · cases hj
      refine ⟨⟨by decide, by decide⟩, 18, rfl, fun a => ?_⟩
      refine n_astore_n C (pc := 18) (ls' := [(3, .ref a), (0, .ref (rho b 8 0)), (1, .int x1), (2, .ref (b + 135))]) (Nat.le_of_ble_eq_true rfl) rfl dL_run_18 ?_
      refine n_iconst C (pc := 19) (v := 3) dL_run_19 (by decide) ?_
      exact n_iretL C hr dL_run_20 hq
    · cases hj
      refine ⟨⟨by decide, by decide⟩, 21, rfl, fun a => ?_⟩
      refine n_astore_n C (pc := 21) (ls' := [(3, .ref a), (0, .ref (rho b 8 0)), (1, .int x1), (2, .ref (b + 135))]) (Nat.le_of_ble_eq_true rfl) rfl dL_run_21 ?_
      refine n_iconst C (pc := 22) (v := 4) dL_run_22 (by decide) ?_
      exact n_iretL C hr dL_run_23 hq
    · cases hj
      refine ⟨⟨by decide, by decide⟩, 24, rfl, fun a => ?_⟩
      refine n_astore_n C (pc := 24) (ls' := [(3, .ref a), (0, .ref (rho b 8 0)), (1, .int x1), (2, .ref (b + 135))]) (Nat.le_of_ble_eq_true rfl) rfl dL_run_24 ?_
      refine n_iconst C (pc := 25) (v := 5) dL_run_25 (by decide) ?_
      exact n_iretL C hr dL_run_26 hq
    · cases hj
      refine ⟨⟨by decide, by decide⟩, 27, rfl, fun a => ?_⟩
      refine n_astore_n C (pc := 27) (ls' := [(3, .ref a), (0, .ref (rho b 8 0)), (1, .int x1), (2, .ref (b + 135))]) (Nat.le_of_ble_eq_true rfl) rfl dL_run_27 ?_
      refine n_bipush C (pc := 28) (v := 6) dL_run_28 (by decide) ?_
      exact n_iretL C hr dL_run_30 hq
    · cases hj
      refine ⟨⟨by decide, by decide⟩, 31, rfl, fun a => ?_⟩
      refine n_astore_n C (pc := 31) (ls' := [(3, .ref a), (0, .ref (rho b 8 0)), (1, .int x1), (2, .ref (b + 135))]) (Nat.le_of_ble_eq_true rfl) rfl dL_run_31 ?_
      refine n_bipush C (pc := 32) (v := 7) dL_run_32 (by decide) ?_
      exact n_iretL C hr dL_run_34 hq
    · cases hj
def hh_stop : List (Nat × Nat × Nat × Nat) := [(0, 8, 11, 15)]
def cd_stop : Nat → Option Int32
  | 2 => some 1
  | _ => none
set_option maxRecDepth 20000 in
theorem cl_stop_w (l : Launch) (htr : l.stackTraces = false) (D : va_G) (ca : Nat → ClassId) (b : Nat) {S M : St} {f : Nat → Int64} {g : Nat → UInt64}  {Qw : Int32 → LW → Prop} (hw : wp8_stop S  (fun r S' => Qw 0 (S', vp_updL f 0 r.toInt64, g)) (fun k S' => ∃ j, cd_stop k = some j ∧ Qw j (S', f, g))) : Met l yL_stop [Cond.codeWith yL_stop bL_stop 3 (some .int) hh_stop] { frames := 7, cells := 1, slots := 6, locals := 110 } (va_Pc [.ref (rho b 8 0), .ref (b + 135)] (PreL D ca b S M f g)) (va_Qi Qw (PostL D ca b M) (frs b)) 1 6 (frs b) := by
  refine met_of_wn (own := RL) (ls0 := [(0, .ref (rho b 8 0)), (1, .ref (b + 135))]) rfl rfl (Nat.le_of_ble_eq_true rfl) rfl fun p e s m args below meth c C hr hEx hZ hb => ?_
  refine n_aload_n C (pc := 0) 1 rfl dL_stop_0 ?_
  refine n_iconst C (pc := 1) (v := 0) dL_stop_1 (by decide) ?_
  refine n_aload_n C (pc := 2) 0 rfl dL_stop_2 ?_
  refine n_callW C hZ hb (hh := hh_stop) hEx (fun q hq => by
    unfold hh_stop at hq
    simp only [List.mem_cons, List.not_mem_nil, or_false] at hq
    rcases hq with rfl <;> exact ⟨by decide, by decide, by decide, by decide, by first | exact cl_15⟩) (pc := 3) (n := 0) (As := []) (rest := [.int 0, .ref (b + 135)]) (fun sz => ct8_stop l htr D ca (rho b) sz (Ap_PT b) hw) mf8_stop rfl wL_52 rfl rfl ⟨Nat.le_of_ble_eq_true rfl, Nat.le_of_ble_eq_true rfl⟩ rfl rfl (Nat.le_of_ble_eq_true rfl) ⟨Nat.le_of_ble_eq_true rfl, Nat.le_of_ble_eq_true rfl⟩ dL_stop_3 ?_ ?_
  · rintro oc t ⟨r, S', rfl, hq, hB⟩
    refine ⟨_, S', rfl, hB, ?_⟩
    refine n_i2l C (pc := 6) dL_stop_6 ?_
    refine n_last C (pc := 7) rfl dL_stop_7 ?_
    refine n_goto C (pc := 8) (tgt := 14) dL_stop_8 (by decide) ?_
    refine n_iconst C (pc := 14) (v := 0) dL_stop_14 (by decide) ?_
    exact n_iretL C hr dL_stop_15 hq
  · rintro k S' ⟨j, hj, hq⟩
    unfold cd_stop at hj
    split at hj
    · cases hj
      refine ⟨⟨by decide, by decide⟩, 11, rfl, fun a => ?_⟩
      refine n_astore_n C (pc := 11) (ls' := [(2, .ref a), (0, .ref (rho b 8 0)), (1, .ref (b + 135))]) (Nat.le_of_ble_eq_true rfl) rfl dL_stop_11 ?_
      refine n_iconst C (pc := 12) (v := 1) dL_stop_12 (by decide) ?_
      exact n_iretL C hr dL_stop_13 hq
    · cases hj
def hh_result : List (Nat × Nat × Nat × Nat) := [(0, 7, 10, 15), (0, 7, 13, 48)]
def cd_result : Nat → Option Int32
  | 2 => some 1
  | 6 => some 2
  | _ => none
set_option maxRecDepth 20000 in
theorem cl_result_w (l : Launch) (htr : l.stackTraces = false) (D : va_G) (ca : Nat → ClassId) (b : Nat) {S M : St} {f : Nat → Int64} {g : Nat → UInt64}  {Qw : Int32 → LW → Prop} (hw : wp8_result S  (fun r S' => Qw 0 (S', vp_updL f 0 r, g)) (fun k S' => ∃ j, cd_result k = some j ∧ Qw j (S', f, g))) : Met l yL_result [Cond.codeWith yL_result bL_result 3 (some .int) hh_result] { frames := 7, cells := 1, slots := 6, locals := 110 } (va_Pc [.ref (rho b 8 0), .ref (b + 135)] (PreL D ca b S M f g)) (va_Qi Qw (PostL D ca b M) (frs b)) 1 6 (frs b) := by
  refine met_of_wn (own := RL) (ls0 := [(0, .ref (rho b 8 0)), (1, .ref (b + 135))]) rfl rfl (Nat.le_of_ble_eq_true rfl) rfl fun p e s m args below meth c C hr hEx hZ hb => ?_
  refine n_aload_n C (pc := 0) 1 rfl dL_result_0 ?_
  refine n_iconst C (pc := 1) (v := 0) dL_result_1 (by decide) ?_
  refine n_aload_n C (pc := 2) 0 rfl dL_result_2 ?_
  refine n_callW C hZ hb (hh := hh_result) hEx (fun q hq => by
    unfold hh_result at hq
    simp only [List.mem_cons, List.not_mem_nil, or_false] at hq
    rcases hq with rfl | rfl <;> exact ⟨by decide, by decide, by decide, by decide, by first | exact cl_15 | exact cl_48⟩) (pc := 3) (n := 0) (As := []) (rest := [.int 0, .ref (b + 135)]) (fun sz => ct8_result l htr D ca (rho b) sz (Ap_PT b) hw) mf8_result rfl wL_55 rfl rfl ⟨Nat.le_of_ble_eq_true rfl, Nat.le_of_ble_eq_true rfl⟩ rfl rfl (Nat.le_of_ble_eq_true rfl) ⟨Nat.le_of_ble_eq_true rfl, Nat.le_of_ble_eq_true rfl⟩ dL_result_3 ?_ ?_
  · rintro oc t ⟨r, S', rfl, hq, hB⟩
    refine ⟨_, S', rfl, hB, ?_⟩
    refine n_last C (pc := 6) rfl dL_result_6 ?_
    refine n_goto C (pc := 7) (tgt := 16) dL_result_7 (by decide) ?_
    refine n_iconst C (pc := 16) (v := 0) dL_result_16 (by decide) ?_
    exact n_iretL C hr dL_result_17 hq
  · rintro k S' ⟨j, hj, hq⟩
    unfold cd_result at hj
    split at hj
    · cases hj
      refine ⟨⟨by decide, by decide⟩, 10, rfl, fun a => ?_⟩
      refine n_astore_n C (pc := 10) (ls' := [(2, .ref a), (0, .ref (rho b 8 0)), (1, .ref (b + 135))]) (Nat.le_of_ble_eq_true rfl) rfl dL_result_10 ?_
      refine n_iconst C (pc := 11) (v := 1) dL_result_11 (by decide) ?_
      exact n_iretL C hr dL_result_12 hq
    · cases hj
      refine ⟨⟨by decide, by decide⟩, 13, rfl, fun a => ?_⟩
      refine n_astore_n C (pc := 13) (ls' := [(2, .ref a), (0, .ref (rho b 8 0)), (1, .ref (b + 135))]) (Nat.le_of_ble_eq_true rfl) rfl dL_result_13 ?_
      refine n_iconst C (pc := 14) (v := 2) dL_result_14 (by decide) ?_
      exact n_iretL C hr dL_result_15 hq
    · cases hj
def hh_real : List (Nat × Nat × Nat × Nat) := [(0, 7, 10, 15), (0, 7, 13, 48)]
def cd_real : Nat → Option Int32
  | 2 => some 1
  | 6 => some 2
  | _ => none
set_option maxRecDepth 20000 in
theorem cl_real_w (l : Launch) (htr : l.stackTraces = false) (D : va_G) (ca : Nat → ClassId) (b : Nat) {S M : St} {f : Nat → Int64} {g : Nat → UInt64}  {Qw : Int32 → LW → Prop} (hw : wp8_real S  (fun r S' => Qw 0 (S', f, vf_upd g 0 r)) (fun k S' => ∃ j, cd_real k = some j ∧ Qw j (S', f, g))) : Met l yL_real [Cond.codeWith yL_real bL_real 3 (some .int) hh_real] { frames := 7, cells := 1, slots := 6, locals := 110 } (va_Pc [.ref (rho b 8 0), .ref (b + 136)] (PreL D ca b S M f g)) (va_Qi Qw (PostL D ca b M) (frs b)) 1 6 (frs b) := by
  refine met_of_wn (own := RL) (ls0 := [(0, .ref (rho b 8 0)), (1, .ref (b + 136))]) rfl rfl (Nat.le_of_ble_eq_true rfl) rfl fun p e s m args below meth c C hr hEx hZ hb => ?_
  refine n_aload_n C (pc := 0) 1 rfl dL_real_0 ?_
  refine n_iconst C (pc := 1) (v := 0) dL_real_1 (by decide) ?_
  refine n_aload_n C (pc := 2) 0 rfl dL_real_2 ?_
  refine n_callW C hZ hb (hh := hh_real) hEx (fun q hq => by
    unfold hh_real at hq
    simp only [List.mem_cons, List.not_mem_nil, or_false] at hq
    rcases hq with rfl | rfl <;> exact ⟨by decide, by decide, by decide, by decide, by first | exact cl_15 | exact cl_48⟩) (pc := 3) (n := 0) (As := []) (rest := [.int 0, .ref (b + 136)]) (fun sz => ct8_real l htr D ca (rho b) sz (Ap_PT b) hw) mf8_real rfl wL_59 rfl rfl ⟨Nat.le_of_ble_eq_true rfl, Nat.le_of_ble_eq_true rfl⟩ rfl rfl (Nat.le_of_ble_eq_true rfl) ⟨Nat.le_of_ble_eq_true rfl, Nat.le_of_ble_eq_true rfl⟩ dL_real_3 ?_ ?_
  · rintro oc t ⟨r, S', rfl, hq, hB⟩
    refine ⟨_, S', rfl, hB, ?_⟩
    refine n_dast C (pc := 6) rfl dL_real_6 ?_
    refine n_goto C (pc := 7) (tgt := 16) dL_real_7 (by decide) ?_
    refine n_iconst C (pc := 16) (v := 0) dL_real_16 (by decide) ?_
    exact n_iretL C hr dL_real_17 hq
  · rintro k S' ⟨j, hj, hq⟩
    unfold cd_real at hj
    split at hj
    · cases hj
      refine ⟨⟨by decide, by decide⟩, 10, rfl, fun a => ?_⟩
      refine n_astore_n C (pc := 10) (ls' := [(2, .ref a), (0, .ref (rho b 8 0)), (1, .ref (b + 136))]) (Nat.le_of_ble_eq_true rfl) rfl dL_real_10 ?_
      refine n_iconst C (pc := 11) (v := 1) dL_real_11 (by decide) ?_
      exact n_iretL C hr dL_real_12 hq
    · cases hj
      refine ⟨⟨by decide, by decide⟩, 13, rfl, fun a => ?_⟩
      refine n_astore_n C (pc := 13) (ls' := [(2, .ref a), (0, .ref (rho b 8 0)), (1, .ref (b + 136))]) (Nat.le_of_ble_eq_true rfl) rfl dL_real_13 ?_
      refine n_iconst C (pc := 14) (v := 2) dL_real_14 (by decide) ?_
      exact n_iretL C hr dL_real_15 hq
    · cases hj
def hh_global : List (Nat × Nat × Nat × Nat) := [(0, 8, 11, 13)]
def cd_global : Nat → Option Int32
  | 1 => some 1
  | _ => none
set_option maxRecDepth 20000 in
theorem cl_global_w (l : Launch) (htr : l.stackTraces = false) (D : va_G) (ca : Nat → ClassId) (b : Nat) {S M : St} {f : Nat → Int64} {g : Nat → UInt64} {x1 : Int32} {Qw : Int32 → LW → Prop} (hw : wp8_global S x1 (fun r S' => Qw 0 (S', vp_updL f 0 r, g)) (fun k S' => ∃ j, cd_global k = some j ∧ Qw j (S', f, g))) : Met l yL_global [Cond.codeWith yL_global bL_global 4 (some .int) hh_global] { frames := 7, cells := 1, slots := 6, locals := 111 } (va_Pc [.ref (rho b 8 0), .int x1, .ref (b + 135)] (PreL D ca b S M f g)) (va_Qi Qw (PostL D ca b M) (frs b)) 1 6 (frs b) := by
  refine met_of_wn (own := RL) (ls0 := [(0, .ref (rho b 8 0)), (1, .int x1), (2, .ref (b + 135))]) rfl rfl (Nat.le_of_ble_eq_true rfl) rfl fun p e s m args below meth c C hr hEx hZ hb => ?_
  refine n_aload_n C (pc := 0) 2 rfl dL_global_0 ?_
  refine n_iconst C (pc := 1) (v := 0) dL_global_1 (by decide) ?_
  refine n_aload_n C (pc := 2) 0 rfl dL_global_2 ?_
  refine n_iload_n C (pc := 3) 1 rfl dL_global_3 ?_
  refine n_callW C hZ hb (hh := hh_global) hEx (fun q hq => by
    unfold hh_global at hq
    simp only [List.mem_cons, List.not_mem_nil, or_false] at hq
    rcases hq with rfl <;> exact ⟨by decide, by decide, by decide, by decide, by first | exact cl_13⟩) (pc := 4) (n := 1) (As := [.int x1]) (rest := [.int 0, .ref (b + 135)]) (fun sz => ct8_global l htr D ca (rho b) sz (Ap_PT b) hw) mf8_global rfl wL_63 rfl rfl ⟨Nat.le_of_ble_eq_true rfl, Nat.le_of_ble_eq_true rfl⟩ rfl rfl (Nat.le_of_ble_eq_true rfl) ⟨Nat.le_of_ble_eq_true rfl, Nat.le_of_ble_eq_true rfl⟩ dL_global_4 ?_ ?_
  · rintro oc t ⟨r, S', rfl, hq, hB⟩
    refine ⟨_, S', rfl, hB, ?_⟩
    refine n_last C (pc := 7) rfl dL_global_7 ?_
    refine n_goto C (pc := 8) (tgt := 14) dL_global_8 (by decide) ?_
    refine n_iconst C (pc := 14) (v := 0) dL_global_14 (by decide) ?_
    exact n_iretL C hr dL_global_15 hq
  · rintro k S' ⟨j, hj, hq⟩
    unfold cd_global at hj
    split at hj
    · cases hj
      refine ⟨⟨by decide, by decide⟩, 11, rfl, fun a => ?_⟩
      refine n_astore_n C (pc := 11) (ls' := [(3, .ref a), (0, .ref (rho b 8 0)), (1, .int x1), (2, .ref (b + 135))]) (Nat.le_of_ble_eq_true rfl) rfl dL_global_11 ?_
      refine n_iconst C (pc := 12) (v := 1) dL_global_12 (by decide) ?_
      exact n_iretL C hr dL_global_13 hq
    · cases hj
def hh_memory : List (Nat × Nat × Nat × Nat) := [(0, 9, 12, 13)]
def cd_memory : Nat → Option Int32
  | 1 => some 1
  | _ => none
set_option maxRecDepth 20000 in
theorem cl_memory_w (l : Launch) (htr : l.stackTraces = false) (D : va_G) (ca : Nat → ClassId) (b : Nat) {S M : St} {f : Nat → Int64} {g : Nat → UInt64} {x1 : Int32} {Qw : Int32 → LW → Prop} (hw : wp8_memory S x1 (fun r S' => Qw 0 (S', vp_updL f 0 r.toInt64, g)) (fun k S' => ∃ j, cd_memory k = some j ∧ Qw j (S', f, g))) : Met l yL_memory [Cond.codeWith yL_memory bL_memory 4 (some .int) hh_memory] { frames := 7, cells := 1, slots := 6, locals := 111 } (va_Pc [.ref (rho b 8 0), .int x1, .ref (b + 135)] (PreL D ca b S M f g)) (va_Qi Qw (PostL D ca b M) (frs b)) 1 6 (frs b) := by
  refine met_of_wn (own := RL) (ls0 := [(0, .ref (rho b 8 0)), (1, .int x1), (2, .ref (b + 135))]) rfl rfl (Nat.le_of_ble_eq_true rfl) rfl fun p e s m args below meth c C hr hEx hZ hb => ?_
  refine n_aload_n C (pc := 0) 2 rfl dL_memory_0 ?_
  refine n_iconst C (pc := 1) (v := 0) dL_memory_1 (by decide) ?_
  refine n_aload_n C (pc := 2) 0 rfl dL_memory_2 ?_
  refine n_iload_n C (pc := 3) 1 rfl dL_memory_3 ?_
  refine n_callW C hZ hb (hh := hh_memory) hEx (fun q hq => by
    unfold hh_memory at hq
    simp only [List.mem_cons, List.not_mem_nil, or_false] at hq
    rcases hq with rfl <;> exact ⟨by decide, by decide, by decide, by decide, by first | exact cl_13⟩) (pc := 4) (n := 1) (As := [.int x1]) (rest := [.int 0, .ref (b + 135)]) (fun sz => ct8_memory l htr D ca (rho b) sz (Ap_PT b) hw) mf8_memory rfl wL_67 rfl rfl ⟨Nat.le_of_ble_eq_true rfl, Nat.le_of_ble_eq_true rfl⟩ rfl rfl (Nat.le_of_ble_eq_true rfl) ⟨Nat.le_of_ble_eq_true rfl, Nat.le_of_ble_eq_true rfl⟩ dL_memory_4 ?_ ?_
  · rintro oc t ⟨r, S', rfl, hq, hB⟩
    refine ⟨_, S', rfl, hB, ?_⟩
    refine n_i2l C (pc := 7) dL_memory_7 ?_
    refine n_last C (pc := 8) rfl dL_memory_8 ?_
    refine n_goto C (pc := 9) (tgt := 15) dL_memory_9 (by decide) ?_
    refine n_iconst C (pc := 15) (v := 0) dL_memory_15 (by decide) ?_
    exact n_iretL C hr dL_memory_16 hq
  · rintro k S' ⟨j, hj, hq⟩
    unfold cd_memory at hj
    split at hj
    · cases hj
      refine ⟨⟨by decide, by decide⟩, 12, rfl, fun a => ?_⟩
      refine n_astore_n C (pc := 12) (ls' := [(3, .ref a), (0, .ref (rho b 8 0)), (1, .int x1), (2, .ref (b + 135))]) (Nat.le_of_ble_eq_true rfl) rfl dL_memory_12 ?_
      refine n_iconst C (pc := 13) (v := 1) dL_memory_13 (by decide) ?_
      exact n_iretL C hr dL_memory_14 hq
    · cases hj
def hh_wipe : List (Nat × Nat × Nat × Nat) := [(0, 8, 11, 15)]
def cd_wipe : Nat → Option Int32
  | 2 => some 1
  | _ => none
set_option maxRecDepth 20000 in
theorem cl_wipe_w (l : Launch) (htr : l.stackTraces = false) (D : va_G) (ca : Nat → ClassId) (b : Nat) {S M : St} {f : Nat → Int64} {g : Nat → UInt64}  {Qw : Int32 → LW → Prop} (hw : wp8_wipe S  (fun r S' => Qw 0 (S', vp_updL f 0 r.toInt64, g)) (fun k S' => ∃ j, cd_wipe k = some j ∧ Qw j (S', f, g))) : Met l yL_wipe [Cond.codeWith yL_wipe bL_wipe 3 (some .int) hh_wipe] { frames := 7, cells := 1, slots := 6, locals := 110 } (va_Pc [.ref (rho b 8 0), .ref (b + 135)] (PreL D ca b S M f g)) (va_Qi Qw (PostL D ca b M) (frs b)) 1 6 (frs b) := by
  refine met_of_wn (own := RL) (ls0 := [(0, .ref (rho b 8 0)), (1, .ref (b + 135))]) rfl rfl (Nat.le_of_ble_eq_true rfl) rfl fun p e s m args below meth c C hr hEx hZ hb => ?_
  refine n_aload_n C (pc := 0) 1 rfl dL_wipe_0 ?_
  refine n_iconst C (pc := 1) (v := 0) dL_wipe_1 (by decide) ?_
  refine n_aload_n C (pc := 2) 0 rfl dL_wipe_2 ?_
  refine n_callW C hZ hb (hh := hh_wipe) hEx (fun q hq => by
    unfold hh_wipe at hq
    simp only [List.mem_cons, List.not_mem_nil, or_false] at hq
    rcases hq with rfl <;> exact ⟨by decide, by decide, by decide, by decide, by first | exact cl_15⟩) (pc := 3) (n := 0) (As := []) (rest := [.int 0, .ref (b + 135)]) (fun sz => ct8_wipe l htr D ca (rho b) sz (Ap_PT b) hw) mf8_wipe rfl wL_70 rfl rfl ⟨Nat.le_of_ble_eq_true rfl, Nat.le_of_ble_eq_true rfl⟩ rfl rfl (Nat.le_of_ble_eq_true rfl) ⟨Nat.le_of_ble_eq_true rfl, Nat.le_of_ble_eq_true rfl⟩ dL_wipe_3 ?_ ?_
  · rintro oc t ⟨r, S', rfl, hq, hB⟩
    refine ⟨_, S', rfl, hB, ?_⟩
    refine n_i2l C (pc := 6) dL_wipe_6 ?_
    refine n_last C (pc := 7) rfl dL_wipe_7 ?_
    refine n_goto C (pc := 8) (tgt := 14) dL_wipe_8 (by decide) ?_
    refine n_iconst C (pc := 14) (v := 0) dL_wipe_14 (by decide) ?_
    exact n_iretL C hr dL_wipe_15 hq
  · rintro k S' ⟨j, hj, hq⟩
    unfold cd_wipe at hj
    split at hj
    · cases hj
      refine ⟨⟨by decide, by decide⟩, 11, rfl, fun a => ?_⟩
      refine n_astore_n C (pc := 11) (ls' := [(2, .ref a), (0, .ref (rho b 8 0)), (1, .ref (b + 135))]) (Nat.le_of_ble_eq_true rfl) rfl dL_wipe_11 ?_
      refine n_iconst C (pc := 12) (v := 1) dL_wipe_12 (by decide) ?_
      exact n_iretL C hr dL_wipe_13 hq
    · cases hj
def hh_count : List (Nat × Nat × Nat × Nat) := [(0, 9, 12, 13)]
def cd_count : Nat → Option Int32
  | 1 => some 1
  | _ => none
set_option maxRecDepth 20000 in
theorem cl_count_w (l : Launch) (htr : l.stackTraces = false) (D : va_G) (ca : Nat → ClassId) (b : Nat) {S M : St} {f : Nat → Int64} {g : Nat → UInt64} {x1 : Int32} {Qw : Int32 → LW → Prop} (hw : wp8_count S x1 (fun r S' => Qw 0 (S', vp_updL f 0 r.toInt64, g)) (fun k S' => ∃ j, cd_count k = some j ∧ Qw j (S', f, g))) : Met l yL_count [Cond.codeWith yL_count bL_count 4 (some .int) hh_count] { frames := 7, cells := 1, slots := 6, locals := 111 } (va_Pc [.ref (rho b 8 0), .int x1, .ref (b + 135)] (PreL D ca b S M f g)) (va_Qi Qw (PostL D ca b M) (frs b)) 1 6 (frs b) := by
  refine met_of_wn (own := RL) (ls0 := [(0, .ref (rho b 8 0)), (1, .int x1), (2, .ref (b + 135))]) rfl rfl (Nat.le_of_ble_eq_true rfl) rfl fun p e s m args below meth c C hr hEx hZ hb => ?_
  refine n_aload_n C (pc := 0) 2 rfl dL_count_0 ?_
  refine n_iconst C (pc := 1) (v := 0) dL_count_1 (by decide) ?_
  refine n_aload_n C (pc := 2) 0 rfl dL_count_2 ?_
  refine n_iload_n C (pc := 3) 1 rfl dL_count_3 ?_
  refine n_callW C hZ hb (hh := hh_count) hEx (fun q hq => by
    unfold hh_count at hq
    simp only [List.mem_cons, List.not_mem_nil, or_false] at hq
    rcases hq with rfl <;> exact ⟨by decide, by decide, by decide, by decide, by first | exact cl_13⟩) (pc := 4) (n := 1) (As := [.int x1]) (rest := [.int 0, .ref (b + 135)]) (fun sz => ct8_count l htr D ca (rho b) sz (Ap_PT b) hw) mf8_count rfl wL_73 rfl rfl ⟨Nat.le_of_ble_eq_true rfl, Nat.le_of_ble_eq_true rfl⟩ rfl rfl (Nat.le_of_ble_eq_true rfl) ⟨Nat.le_of_ble_eq_true rfl, Nat.le_of_ble_eq_true rfl⟩ dL_count_4 ?_ ?_
  · rintro oc t ⟨r, S', rfl, hq, hB⟩
    refine ⟨_, S', rfl, hB, ?_⟩
    refine n_i2l C (pc := 7) dL_count_7 ?_
    refine n_last C (pc := 8) rfl dL_count_8 ?_
    refine n_goto C (pc := 9) (tgt := 15) dL_count_9 (by decide) ?_
    refine n_iconst C (pc := 15) (v := 0) dL_count_15 (by decide) ?_
    exact n_iretL C hr dL_count_16 hq
  · rintro k S' ⟨j, hj, hq⟩
    unfold cd_count at hj
    split at hj
    · cases hj
      refine ⟨⟨by decide, by decide⟩, 12, rfl, fun a => ?_⟩
      refine n_astore_n C (pc := 12) (ls' := [(3, .ref a), (0, .ref (rho b 8 0)), (1, .int x1), (2, .ref (b + 135))]) (Nat.le_of_ble_eq_true rfl) rfl dL_count_12 ?_
      refine n_iconst C (pc := 13) (v := 1) dL_count_13 (by decide) ?_
      exact n_iretL C hr dL_count_14 hq
    · cases hj
