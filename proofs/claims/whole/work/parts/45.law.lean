def qw_shape (K : St → St → Prop) (M : St) (x1 : Int32) (x2 : Int32) (x3 : Int32) (x4 : Int32) : Int32 → LW → Prop := fun z u => wp9_shape M x1 x2 x3 x4 (fun rb M' => wp9_thrown M' (fun th M2 => th = z ∧ (z = 0 → u.2.1 0 = rb.toInt64) ∧ K u.1 M2))
def st_shape (K : St → St → Prop) (S M : St) (x1 : Int32) (x2 : Int32) (x3 : Int32) (x4 : Int32) (f : Nat → Int64) (g : Nat → UInt64) : Prop := wp8_shape S x1 x2 x3 x4 (fun r S' => qw_shape K M x1 x2 x3 x4 0 (S', vp_updL f 0 r.toInt64, g)) (fun k S' => ∃ j, cd_shape k = some j ∧ qw_shape K M x1 x2 x3 x4 j (S', f, g))
def qw_code (K : St → St → Prop) (M : St) (x1 : Int32) (x2 : Int64) (x3 : Int32) : Int32 → LW → Prop := fun z u => wp9_code M x1 x2 x3 (fun rb M' => wp9_thrown M' (fun th M2 => th = z ∧ (z = 0 → u.2.1 0 = rb.toInt64) ∧ K u.1 M2))
def st_code (K : St → St → Prop) (S M : St) (x1 : Int32) (x2 : Int64) (x3 : Int32) (f : Nat → Int64) (g : Nat → UInt64) : Prop := wp8_code S x1 x2 x3 (fun r S' => qw_code K M x1 x2 x3 0 (S', vp_updL f 0 r.toInt64, g)) (fun k S' => ∃ j, cd_code k = some j ∧ qw_code K M x1 x2 x3 j (S', f, g))
def qw_table (K : St → St → Prop) (M : St) (x1 : Int32) (x2 : Int32) : Int32 → LW → Prop := fun z u => wp9_table M x1 x2 (fun rb M' => wp9_thrown M' (fun th M2 => th = z ∧ (z = 0 → u.2.1 0 = rb.toInt64) ∧ K u.1 M2))
def st_table (K : St → St → Prop) (S M : St) (x1 : Int32) (x2 : Int32) (f : Nat → Int64) (g : Nat → UInt64) : Prop := wp8_table S x1 x2 (fun r S' => qw_table K M x1 x2 0 (S', vp_updL f 0 r.toInt64, g)) (fun k S' => ∃ j, cd_table k = some j ∧ qw_table K M x1 x2 j (S', f, g))
def qw_check (K : St → St → Prop) (M : St)  : Int32 → LW → Prop := fun z u => wp9_check M  (fun rb M' => wp9_thrown M' (fun th M2 => th = z ∧ (z = 0 → u.2.1 0 = rb.toInt64) ∧ K u.1 M2))
def st_check (K : St → St → Prop) (S M : St)  (f : Nat → Int64) (g : Nat → UInt64) : Prop := wp8_check S  (fun r S' => qw_check K M  0 (S', vp_updL f 0 r.toInt64, g)) (fun k S' => ∃ j, cd_check k = some j ∧ qw_check K M  j (S', f, g))
def qw_fault (K : St → St → Prop) (M : St) (x1 : Int32) : Int32 → LW → Prop := fun z u => wp9_fault M x1 (fun rb M' => wp9_thrown M' (fun th M2 => th = z ∧ (z = 0 → u.2.1 0 = rb.toInt64) ∧ K u.1 M2))
def st_fault (K : St → St → Prop) (S M : St) (x1 : Int32) (f : Nat → Int64) (g : Nat → UInt64) : Prop := wp8_fault S x1 (fun r S' => qw_fault K M x1 0 (S', vp_updL f 0 r.toInt64, g)) (fun k S' => ∃ j, cd_fault k = some j ∧ qw_fault K M x1 j (S', f, g))
def qw_argue (K : St → St → Prop) (M : St) (x1 : Int32) : Int32 → LW → Prop := fun z u => wp9_argue M x1 (fun rb M' => wp9_thrown M' (fun th M2 => th = z ∧ (z = 0 → u.2.1 0 = rb.toInt64) ∧ K u.1 M2))
def st_argue (K : St → St → Prop) (S M : St) (x1 : Int32) (f : Nat → Int64) (g : Nat → UInt64) : Prop := wp8_argue S x1 (fun r S' => qw_argue K M x1 0 (S', vp_updL f 0 r.toInt64, g)) (fun k S' => ∃ j, cd_argue k = some j ∧ qw_argue K M x1 j (S', f, g))
def qw_start (K : St → St → Prop) (M : St) (x1 : Int32) : Int32 → LW → Prop := fun z u => wp9_start M x1 (fun rb M' => wp9_thrown M' (fun th M2 => th = z ∧ (z = 0 → u.2.1 0 = rb.toInt64) ∧ K u.1 M2))
def st_start (K : St → St → Prop) (S M : St) (x1 : Int32) (f : Nat → Int64) (g : Nat → UInt64) : Prop := wp8_start S x1 (fun r S' => qw_start K M x1 0 (S', vp_updL f 0 r.toInt64, g)) (fun k S' => ∃ j, cd_start k = some j ∧ qw_start K M x1 j (S', f, g))
def qw_run (K : St → St → Prop) (M : St) (x1 : Int32) : Int32 → LW → Prop := fun z u => wp9_run M x1 (fun rb M' => wp9_thrown M' (fun th M2 => th = z ∧ (z = 0 → u.2.1 0 = rb.toInt64) ∧ K u.1 M2))
def st_run (K : St → St → Prop) (S M : St) (x1 : Int32) (f : Nat → Int64) (g : Nat → UInt64) : Prop := wp8_run S x1 (fun r S' => qw_run K M x1 0 (S', vp_updL f 0 r.toInt64, g)) (fun k S' => ∃ j, cd_run k = some j ∧ qw_run K M x1 j (S', f, g))
def qw_stop (K : St → St → Prop) (M : St)  : Int32 → LW → Prop := fun z u => wp9_stop M  (fun rb M' => wp9_thrown M' (fun th M2 => th = z ∧ (z = 0 → u.2.1 0 = rb.toInt64) ∧ K u.1 M2))
def st_stop (K : St → St → Prop) (S M : St)  (f : Nat → Int64) (g : Nat → UInt64) : Prop := wp8_stop S  (fun r S' => qw_stop K M  0 (S', vp_updL f 0 r.toInt64, g)) (fun k S' => ∃ j, cd_stop k = some j ∧ qw_stop K M  j (S', f, g))
def qw_result (K : St → St → Prop) (M : St)  : Int32 → LW → Prop := fun z u => wp9_result M  (fun rb M' => wp9_thrown M' (fun th M2 => th = z ∧ (z = 0 → u.2.1 0 = rb) ∧ K u.1 M2))
def st_result (K : St → St → Prop) (S M : St)  (f : Nat → Int64) (g : Nat → UInt64) : Prop := wp8_result S  (fun r S' => qw_result K M  0 (S', vp_updL f 0 r, g)) (fun k S' => ∃ j, cd_result k = some j ∧ qw_result K M  j (S', f, g))
def qw_real (K : St → St → Prop) (M : St)  : Int32 → LW → Prop := fun z u => wp9_real M  (fun rb M' => wp9_thrown M' (fun th M2 => th = z ∧ (z = 0 → agD (u.2.2 0) rb) ∧ K u.1 M2))
def st_real (K : St → St → Prop) (S M : St)  (f : Nat → Int64) (g : Nat → UInt64) : Prop := wp8_real S  (fun r S' => qw_real K M  0 (S', f, vf_upd g 0 r)) (fun k S' => ∃ j, cd_real k = some j ∧ qw_real K M  j (S', f, g))
def qw_global (K : St → St → Prop) (M : St) (x1 : Int32) : Int32 → LW → Prop := fun z u => wp9_global M x1 (fun rb M' => wp9_thrown M' (fun th M2 => th = z ∧ (z = 0 → u.2.1 0 = rb) ∧ K u.1 M2))
def st_global (K : St → St → Prop) (S M : St) (x1 : Int32) (f : Nat → Int64) (g : Nat → UInt64) : Prop := wp8_global S x1 (fun r S' => qw_global K M x1 0 (S', vp_updL f 0 r, g)) (fun k S' => ∃ j, cd_global k = some j ∧ qw_global K M x1 j (S', f, g))
def st_realGlobal (K : St → St → Prop) (S M : St) : Prop := wp8_realGlobal S (fun r S' => wp9_realGlobal M (fun rb M' => agD r rb ∧ K S' M'))
def qw_memory (K : St → St → Prop) (M : St) (x1 : Int32) : Int32 → LW → Prop := fun z u => wp9_memory M x1 (fun rb M' => wp9_thrown M' (fun th M2 => th = z ∧ (z = 0 → u.2.1 0 = rb.toInt64) ∧ K u.1 M2))
def st_memory (K : St → St → Prop) (S M : St) (x1 : Int32) (f : Nat → Int64) (g : Nat → UInt64) : Prop := wp8_memory S x1 (fun r S' => qw_memory K M x1 0 (S', vp_updL f 0 r.toInt64, g)) (fun k S' => ∃ j, cd_memory k = some j ∧ qw_memory K M x1 j (S', f, g))
def qw_wipe (K : St → St → Prop) (M : St)  : Int32 → LW → Prop := fun z u => wp9_wipe M  (fun rb M' => wp9_thrown M' (fun th M2 => th = z ∧ (z = 0 → u.2.1 0 = rb.toInt64) ∧ K u.1 M2))
def st_wipe (K : St → St → Prop) (S M : St)  (f : Nat → Int64) (g : Nat → UInt64) : Prop := wp8_wipe S  (fun r S' => qw_wipe K M  0 (S', vp_updL f 0 r.toInt64, g)) (fun k S' => ∃ j, cd_wipe k = some j ∧ qw_wipe K M  j (S', f, g))
def qw_count (K : St → St → Prop) (M : St) (x1 : Int32) : Int32 → LW → Prop := fun z u => wp9_count M x1 (fun rb M' => wp9_thrown M' (fun th M2 => th = z ∧ (z = 0 → u.2.1 0 = rb.toInt64) ∧ K u.1 M2))
def st_count (K : St → St → Prop) (S M : St) (x1 : Int32) (f : Nat → Int64) (g : Nat → UInt64) : Prop := wp8_count S x1 (fun r S' => qw_count K M x1 0 (S', vp_updL f 0 r.toInt64, g)) (fun k S' => ∃ j, cd_count k = some j ∧ qw_count K M x1 j (S', f, g))
/-- what the law asks of a relation K of the two objects: each call keeps it, and both answer alike -/
def stepAll (K : St → St → Prop) : Prop := ∀ S M, K S M → (∀ (x1 : Int32) (x2 : Int32) (x3 : Int32) (x4 : Int32) (f : Nat → Int64) (g : Nat → UInt64), st_shape K S M x1 x2 x3 x4 f g) ∧ (∀ (x1 : Int32) (x2 : Int64) (x3 : Int32) (f : Nat → Int64) (g : Nat → UInt64), st_code K S M x1 x2 x3 f g) ∧ (∀ (x1 : Int32) (x2 : Int32) (f : Nat → Int64) (g : Nat → UInt64), st_table K S M x1 x2 f g) ∧ (∀  (f : Nat → Int64) (g : Nat → UInt64), st_check K S M  f g) ∧ (∀ (x1 : Int32) (f : Nat → Int64) (g : Nat → UInt64), st_fault K S M x1 f g) ∧ (∀ (x1 : Int32) (f : Nat → Int64) (g : Nat → UInt64), st_argue K S M x1 f g) ∧ (∀ (x1 : Int32) (f : Nat → Int64) (g : Nat → UInt64), st_start K S M x1 f g) ∧ (∀ (x1 : Int32) (f : Nat → Int64) (g : Nat → UInt64), st_run K S M x1 f g) ∧ (∀  (f : Nat → Int64) (g : Nat → UInt64), st_stop K S M  f g) ∧ (∀  (f : Nat → Int64) (g : Nat → UInt64), st_result K S M  f g) ∧ (∀  (f : Nat → Int64) (g : Nat → UInt64), st_real K S M  f g) ∧ (∀ (x1 : Int32) (f : Nat → Int64) (g : Nat → UInt64), st_global K S M x1 f g) ∧ (st_realGlobal K S M) ∧ (∀ (x1 : Int32) (f : Nat → Int64) (g : Nat → UInt64), st_memory K S M x1 f g) ∧ (∀  (f : Nat → Int64) (g : Nat → UInt64), st_wipe K S M  f g) ∧ (∀ (x1 : Int32) (f : Nat → Int64) (g : Nat → UInt64), st_count K S M x1 f g)
theorem sw_shape_1 : Cond.static yL_shape ∈ tbl := tb_of 260 (by decide +kernel) rfl
set_option maxRecDepth 100000 in
theorem sw_shape_2 : Cond.codeWith yL_shape bL_shape 7 (some .int) hh_shape ∈ tbl := tb_of 261 rfl rfl
theorem sw_code_1 : Cond.static yL_code ∈ tbl := tb_of 373 (by decide +kernel) rfl
set_option maxRecDepth 100000 in
theorem sw_code_2 : Cond.codeWith yL_code bL_code 7 (some .int) hh_code ∈ tbl := tb_of 374 rfl rfl
theorem sw_table_1 : Cond.static yL_table ∈ tbl := tb_of 404 (by decide +kernel) rfl
set_option maxRecDepth 100000 in
theorem sw_table_2 : Cond.codeWith yL_table bL_table 5 (some .int) hh_table ∈ tbl := tb_of 405 rfl rfl
theorem sw_check_1 : Cond.static yL_check ∈ tbl := tb_of 411 (by decide +kernel) rfl
set_option maxRecDepth 100000 in
theorem sw_check_2 : Cond.codeWith yL_check bL_check 3 (some .int) hh_check ∈ tbl := tb_of 412 rfl rfl
theorem sw_fault_1 : Cond.static yL_fault ∈ tbl := tb_of 563 (by decide +kernel) rfl
set_option maxRecDepth 100000 in
theorem sw_fault_2 : Cond.codeWith yL_fault bL_fault 4 (some .int) hh_fault ∈ tbl := tb_of 564 rfl rfl
theorem sw_argue_1 : Cond.static yL_argue ∈ tbl := tb_of 570 (by decide +kernel) rfl
set_option maxRecDepth 100000 in
theorem sw_argue_2 : Cond.codeWith yL_argue bL_argue 4 (some .int) hh_argue ∈ tbl := tb_of 571 rfl rfl
theorem sw_start_1 : Cond.static yL_start ∈ tbl := tb_of 577 (by decide +kernel) rfl
set_option maxRecDepth 100000 in
theorem sw_start_2 : Cond.codeWith yL_start bL_start 4 (some .int) hh_start ∈ tbl := tb_of 578 rfl rfl
theorem sw_run_1 : Cond.static yL_run ∈ tbl := tb_of 609 (by decide +kernel) rfl
set_option maxRecDepth 100000 in
theorem sw_run_2 : Cond.codeWith yL_run bL_run 4 (some .int) hh_run ∈ tbl := tb_of 610 rfl rfl
theorem sw_stop_1 : Cond.static yL_stop ∈ tbl := tb_of 874 (by decide +kernel) rfl
set_option maxRecDepth 100000 in
theorem sw_stop_2 : Cond.codeWith yL_stop bL_stop 3 (some .int) hh_stop ∈ tbl := tb_of 875 rfl rfl
theorem sw_result_1 : Cond.static yL_result ∈ tbl := tb_of 881 (by decide +kernel) rfl
set_option maxRecDepth 100000 in
theorem sw_result_2 : Cond.codeWith yL_result bL_result 3 (some .int) hh_result ∈ tbl := tb_of 882 rfl rfl
theorem sw_real_1 : Cond.static yL_real ∈ tbl := tb_of 897 (by decide +kernel) rfl
set_option maxRecDepth 100000 in
theorem sw_real_2 : Cond.codeWith yL_real bL_real 3 (some .int) hh_real ∈ tbl := tb_of 898 rfl rfl
theorem sw_global_1 : Cond.static yL_global ∈ tbl := tb_of 909 (by decide +kernel) rfl
set_option maxRecDepth 100000 in
theorem sw_global_2 : Cond.codeWith yL_global bL_global 4 (some .int) hh_global ∈ tbl := tb_of 910 rfl rfl
theorem sw_memory_1 : Cond.static yL_memory ∈ tbl := tb_of 917 (by decide +kernel) rfl
set_option maxRecDepth 100000 in
theorem sw_memory_2 : Cond.codeWith yL_memory bL_memory 4 (some .int) hh_memory ∈ tbl := tb_of 918 rfl rfl
theorem sw_wipe_1 : Cond.static yL_wipe ∈ tbl := tb_of 925 (by decide +kernel) rfl
set_option maxRecDepth 100000 in
theorem sw_wipe_2 : Cond.codeWith yL_wipe bL_wipe 3 (some .int) hh_wipe ∈ tbl := tb_of 926 rfl rfl
theorem sw_count_1 : Cond.static yL_count ∈ tbl := tb_of 937 (by decide +kernel) rfl
set_option maxRecDepth 100000 in
theorem sw_count_2 : Cond.codeWith yL_count bL_count 4 (some .int) hh_count ∈ tbl := tb_of 938 rfl rfl
theorem sw_ini : Cond.initialized RL ∈ tbl := tb_of 0 (by decide +kernel) rfl
set_option maxHeartbeats 2000000 in
theorem lw_shape {p : Program} {l : Launch} {e : Env} {s : State} {m : MethodId} {below : List Frame} {meth : Method} {c : Code} {D : va_G} {ca : Nat → ClassId} {b sb L : Nat} {xs : Nat → Int32} (htr : l.stackTraces = false) (hLm : L ≤ 2560) (C : Cn p l s m meth c RL bL_law 10 D ca) (hX : va_X sb L xs s s.heap) (hbl : sb < s.heap.size) (hbs : b = s.heap.size) (hZ : Zs (frs b) s s.heap) (K : St → St → Prop) {i : Nat} (hi : i + 5 ≤ L) {S M : St} {f : Nat → Int64} {g : Nat → UInt64} (hs : ∀ (x1 : Int32) (x2 : Int32) (x3 : Int32) (x4 : Int32) (f : Nat → Int64) (g : Nat → UInt64), st_shape K S M x1 x2 x3 x4 f g) (hend : ∀ (S' M' : St) (f' : Nat → Int64) (g' : Nat → UInt64) (ce sl : Nat), ce ≤ 138 + i → sl ≤ 3455 + 6 * i → K S' M' → wn p l e room_1 s m #[Value.ref sb] below meth c 10 ce sl (lw_Z below #[Value.ref sb] s) (frs b) (GL D ca b S' M' f' g') 1068 [(0, .ref sb), (1, .ref (rho b 8 0)), (2, .ref (rho b 9 0)), (3, .ref (b + 135)), (4, .ref (b + 136)), (5, .int (nI i))] []) : wn p l e room_1 s m #[Value.ref sb] below meth c 10 (137 + i) (3449 + 6 * i) (lw_Z below #[Value.ref sb] s) (frs b) (GL D ca b S M f g) 124 [(0, .ref sb), (1, .ref (rho b 8 0)), (2, .ref (rho b 9 0)), (3, .ref (b + 135)), (4, .ref (b + 136)), (5, .int (nI i))] [] := by
  have hcells : 137 + i + 1 ≤ room_1.cells := by show _ ≤ 601024; omega
  have hslots : 3449 + 6 * i + 6 ≤ room_1.slots := by show _ ≤ 7293034; omega
  have hcells0 : 137 + i ≤ room_1.cells := by show _ ≤ 601024; omega
  have hslots0 : 3449 + 6 * i ≤ room_1.slots := by show _ ≤ 7293034; omega
  refine n_aload_n C (pc := 124) 1 rfl dL_law_124 ?_
  refine n_aload_n C (pc := 125) 0 rfl dL_law_125 ?_
  refine n_iload C (pc := 126) 5 rfl dL_law_126 ?_
  refine n_iconst C (pc := 128) (v := 1) dL_law_128 (by decide) ?_
  refine n_iadd C (pc := 129) dL_law_129 ?_
  refine n_sarg C hX hbl hbs hLm (pc := 130) (j := i + 1) (nI_add i 1) (by omega) dL_law_130 ?_
  refine n_aload_n C (pc := 131) 0 rfl dL_law_131 ?_
  refine n_iload C (pc := 132) 5 rfl dL_law_132 ?_
  refine n_iconst C (pc := 134) (v := 2) dL_law_134 (by decide) ?_
  refine n_iadd C (pc := 135) dL_law_135 ?_
  refine n_sarg C hX hbl hbs hLm (pc := 136) (j := i + 2) (nI_add i 2) (by omega) dL_law_136 ?_
  refine n_aload_n C (pc := 137) 0 rfl dL_law_137 ?_
  refine n_iload C (pc := 138) 5 rfl dL_law_138 ?_
  refine n_iconst C (pc := 140) (v := 3) dL_law_140 (by decide) ?_
  refine n_iadd C (pc := 141) dL_law_141 ?_
  refine n_sarg C hX hbl hbs hLm (pc := 142) (j := i + 3) (nI_add i 3) (by omega) dL_law_142 ?_
  refine n_aload_n C (pc := 143) 0 rfl dL_law_143 ?_
  refine n_iload C (pc := 144) 5 rfl dL_law_144 ?_
  refine n_iconst C (pc := 146) (v := 4) dL_law_146 (by decide) ?_
  refine n_iadd C (pc := 147) dL_law_147 ?_
  refine n_sarg C hX hbl hbs hLm (pc := 148) (j := i + 4) (nI_add i 4) (by omega) dL_law_148 ?_
  refine n_aload_n C (pc := 149) 3 rfl dL_law_149 ?_
  refine n_callSW C hZ (pc := 150) (n := 6) (As := [.ref (rho b 8 0), .int (xs (i + 1)), .int (xs (i + 2)), .int (xs (i + 3)), .int (xs (i + 4)), .ref (b + 135)]) (rest := []) (cl_shape_w l htr D ca b (hs ((xs (i + 1))) ((xs (i + 2))) ((xs (i + 3))) ((xs (i + 4))) _ _)) sw_shape_1 sw_ini sw_shape_2 ⟨by decide, by decide⟩ (by decide +kernel) wL_80 rfl rfl ⟨Nat.le_of_ble_eq_true rfl, Nat.le_of_ble_eq_true rfl⟩ rfl rfl (Nat.le_of_ble_eq_true rfl) ⟨hcells, hslots⟩ dL_law_150 (fun z u hz => ?_)
  refine n_istore C (pc := 153) (ls' := [(6, .int z), (0, .ref sb), (1, .ref (rho b 8 0)), (2, .ref (rho b 9 0)), (3, .ref (b + 135)), (4, .ref (b + 136)), (5, .int (nI i))]) (Nat.le_of_ble_eq_true rfl) rfl dL_law_153 ?_
  refine n_aload_n C (pc := 155) 3 rfl dL_law_155 ?_
  refine n_aload_n C (pc := 156) 1 rfl dL_law_156 ?_
  refine n_iload C (pc := 157) 6 rfl dL_law_157 ?_
  refine n_iconst C (pc := 159) (v := 1) dL_law_159 (by decide) ?_
  refine n_iadd C (pc := 160) dL_law_160 ?_
  refine n_sarg C hX hbl hbs hLm (pc := 161) (j := i + 1) (nI_add i 1) (by omega) dL_law_161 ?_
  refine n_aload_n C (pc := 162) 1 rfl dL_law_162 ?_
  refine n_iload C (pc := 163) 6 rfl dL_law_163 ?_
  refine n_iconst C (pc := 165) (v := 2) dL_law_165 (by decide) ?_
  refine n_iadd C (pc := 166) dL_law_166 ?_
  refine n_sarg C hX hbl hbs hLm (pc := 167) (j := i + 2) (nI_add i 2) (by omega) dL_law_167 ?_
  refine n_aload_n C (pc := 168) 1 rfl dL_law_168 ?_
  refine n_iload C (pc := 169) 6 rfl dL_law_169 ?_
  refine n_iconst C (pc := 171) (v := 3) dL_law_171 (by decide) ?_
  refine n_iadd C (pc := 172) dL_law_172 ?_
  refine n_sarg C hX hbl hbs hLm (pc := 173) (j := i + 3) (nI_add i 3) (by omega) dL_law_173 ?_
  refine n_aload_n C (pc := 174) 1 rfl dL_law_174 ?_
  refine n_iload C (pc := 175) 6 rfl dL_law_175 ?_
  refine n_iconst C (pc := 177) (v := 4) dL_law_177 (by decide) ?_
  refine n_iadd C (pc := 178) dL_law_178 ?_
  refine n_sarg C hX hbl hbs hLm (pc := 179) (j := i + 4) (nI_add i 4) (by omega) dL_law_179 ?_
  refine n_callFi C hbs (pc := 180) (n := 4) (As := [.int (xs (i + 1)), .int (xs (i + 2)), .int (xs (i + 3)), .int (xs (i + 4))]) (rest := []) (fun sz => ct9_shape l D ca (rho b) sz (Ap_PF b) hz) mf9_shape rfl wL_85 rfl rfl ⟨Nat.le_of_ble_eq_true rfl, Nat.le_of_ble_eq_true rfl⟩ rfl rfl (Nat.le_of_ble_eq_true rfl) ⟨hcells, hslots⟩ dL_law_180 (fun rb X45 hr => ?_)
  refine n_istore C (pc := 183) (ls' := [(7, .int rb), (6, .int z), (0, .ref sb), (1, .ref (rho b 8 0)), (2, .ref (rho b 9 0)), (3, .ref (b + 135)), (4, .ref (b + 136)), (5, .int (nI i))]) (Nat.le_of_ble_eq_true rfl) rfl dL_law_183 ?_
  refine n_aload_n C (pc := 185) 4 rfl dL_law_185 ?_
  refine n_callFi C hbs (pc := 186) (n := 0) (As := []) (rest := []) (fun sz => ct9_thrown l D ca (rho b) sz (Ap_PF b) hr) mf9_thrown rfl wL_86 rfl rfl ⟨Nat.le_of_ble_eq_true rfl, Nat.le_of_ble_eq_true rfl⟩ rfl rfl (Nat.le_of_ble_eq_true rfl) ⟨hcells, hslots⟩ dL_law_186 (fun th X48 hq => ?_)
  refine n_iload C (pc := 189) 1 rfl dL_law_189 ?_
  refine n_icmp_eq C (pc := 191) (tgt := 196) dL_law_191 (by decide) (fun _ => ?_) (fun q => absurd hq.1 q)
  refine n_iload C (pc := 196) 1 rfl dL_law_196 ?_
  refine n_if_ne C (pc := 198) (tgt := 213) dL_law_198 (by decide) (fun _ => ?_) (fun h0 => ?_)
  · refine n_goto C (pc := 213) (tgt := 1068) dL_law_213 (by decide) ?_
    refine n_sub (ls' := [(0, .ref sb), (1, .ref (rho b 8 0)), (2, .ref (rho b 9 0)), (3, .ref (b + 135)), (4, .ref (b + 136)), (5, .int (nI i))]) [2, 3, 4, 5, 6, 7] rfl ?_
    exact hend _ _ _ _ _ _ (by omega) (by omega) hq.2.2
  · have hag := hq.2.1 h0
    refine n_aload_n C (pc := 201) 5 rfl dL_law_201 ?_
    refine n_iconst C (pc := 202) (v := 0) dL_law_202 (by decide) ?_
    refine n_lout C (pc := 203) dL_law_203 ?_
    refine n_iload C (pc := 204) 0 rfl dL_law_204 ?_
    refine n_i2l C (pc := 206) dL_law_206 ?_
    refine n_lcmp C (pc := 207) dL_law_207 ?_
    refine n_if_eq C (pc := 208) (tgt := 213) dL_law_208 (by decide) (fun _ => ?_) (fun q => absurd (by rw [hag]; exact lgc_self _) q)
    refine n_goto C (pc := 213) (tgt := 1068) dL_law_213 (by decide) ?_
    refine n_sub (ls' := [(0, .ref sb), (1, .ref (rho b 8 0)), (2, .ref (rho b 9 0)), (3, .ref (b + 135)), (4, .ref (b + 136)), (5, .int (nI i))]) [2, 3, 4, 5, 6, 7] rfl ?_
    exact hend _ _ _ _ _ _ (by omega) (by omega) hq.2.2
set_option maxHeartbeats 2000000 in
theorem lw_code {p : Program} {l : Launch} {e : Env} {s : State} {m : MethodId} {below : List Frame} {meth : Method} {c : Code} {D : va_G} {ca : Nat → ClassId} {b sb L : Nat} {xs : Nat → Int32} (htr : l.stackTraces = false) (hLm : L ≤ 2560) (C : Cn p l s m meth c RL bL_law 10 D ca) (hX : va_X sb L xs s s.heap) (hbl : sb < s.heap.size) (hbs : b = s.heap.size) (hZ : Zs (frs b) s s.heap) (K : St → St → Prop) {i : Nat} (hi : i + 5 ≤ L) {S M : St} {f : Nat → Int64} {g : Nat → UInt64} (hs : ∀ (x1 : Int32) (x2 : Int64) (x3 : Int32) (f : Nat → Int64) (g : Nat → UInt64), st_code K S M x1 x2 x3 f g) (hend : ∀ (S' M' : St) (f' : Nat → Int64) (g' : Nat → UInt64) (ce sl : Nat), ce ≤ 138 + i → sl ≤ 3455 + 6 * i → K S' M' → wn p l e room_1 s m #[Value.ref sb] below meth c 10 ce sl (lw_Z below #[Value.ref sb] s) (frs b) (GL D ca b S' M' f' g') 1068 [(0, .ref sb), (1, .ref (rho b 8 0)), (2, .ref (rho b 9 0)), (3, .ref (b + 135)), (4, .ref (b + 136)), (5, .int (nI i))] []) : wn p l e room_1 s m #[Value.ref sb] below meth c 10 (137 + i) (3449 + 6 * i) (lw_Z below #[Value.ref sb] s) (frs b) (GL D ca b S M f g) 216 [(0, .ref sb), (1, .ref (rho b 8 0)), (2, .ref (rho b 9 0)), (3, .ref (b + 135)), (4, .ref (b + 136)), (5, .int (nI i))] [] := by
  have hcells : 137 + i + 1 ≤ room_1.cells := by show _ ≤ 601024; omega
  have hslots : 3449 + 6 * i + 6 ≤ room_1.slots := by show _ ≤ 7293034; omega
  have hcells0 : 137 + i ≤ room_1.cells := by show _ ≤ 601024; omega
  have hslots0 : 3449 + 6 * i ≤ room_1.slots := by show _ ≤ 7293034; omega
  refine n_aload_n C (pc := 216) 1 rfl dL_law_216 ?_
  refine n_aload_n C (pc := 217) 0 rfl dL_law_217 ?_
  refine n_iload C (pc := 218) 5 rfl dL_law_218 ?_
  refine n_iconst C (pc := 220) (v := 1) dL_law_220 (by decide) ?_
  refine n_iadd C (pc := 221) dL_law_221 ?_
  refine n_sarg C hX hbl hbs hLm (pc := 222) (j := i + 1) (nI_add i 1) (by omega) dL_law_222 ?_
  refine n_aload_n C (pc := 223) 0 rfl dL_law_223 ?_
  refine n_iload C (pc := 224) 5 rfl dL_law_224 ?_
  refine n_iconst C (pc := 226) (v := 2) dL_law_226 (by decide) ?_
  refine n_iadd C (pc := 227) dL_law_227 ?_
  refine n_sarg C hX hbl hbs hLm (pc := 228) (j := i + 2) (nI_add i 2) (by omega) dL_law_228 ?_
  refine n_i2l C (pc := 229) dL_law_229 ?_
  refine n_bipush C (pc := 230) (v := 32) dL_law_230 (by decide) ?_
  refine n_lshl C (pc := 232) dL_law_232 ?_
  refine n_aload_n C (pc := 233) 0 rfl dL_law_233 ?_
  refine n_iload C (pc := 234) 5 rfl dL_law_234 ?_
  refine n_iconst C (pc := 236) (v := 3) dL_law_236 (by decide) ?_
  refine n_iadd C (pc := 237) dL_law_237 ?_
  refine n_sarg C hX hbl hbs hLm (pc := 238) (j := i + 3) (nI_add i 3) (by omega) dL_law_238 ?_
  refine n_i2l C (pc := 239) dL_law_239 ?_
  refine n_ldc2 C (pc := 240) wL_89 dL_law_240 ?_
  refine n_land C (pc := 243) dL_law_243 ?_
  refine n_lor C (pc := 244) dL_law_244 ?_
  refine n_aload_n C (pc := 245) 0 rfl dL_law_245 ?_
  refine n_iload C (pc := 246) 5 rfl dL_law_246 ?_
  refine n_iconst C (pc := 248) (v := 4) dL_law_248 (by decide) ?_
  refine n_iadd C (pc := 249) dL_law_249 ?_
  refine n_sarg C hX hbl hbs hLm (pc := 250) (j := i + 4) (nI_add i 4) (by omega) dL_law_250 ?_
  refine n_aload_n C (pc := 251) 3 rfl dL_law_251 ?_
  refine n_callSW C hZ (pc := 252) (n := 5) (As := [.ref (rho b 8 0), .int (xs (i + 1)), .long ((jlshl (((xs (i + 2))).toInt64) 32) ||| ((((xs (i + 3))).toInt64) &&& (4294967295))), .int (xs (i + 4)), .ref (b + 135)]) (rest := []) (cl_code_w l htr D ca b (hs ((xs (i + 1))) (((jlshl (((xs (i + 2))).toInt64) 32) ||| ((((xs (i + 3))).toInt64) &&& (4294967295)))) ((xs (i + 4))) _ _)) sw_code_1 sw_ini sw_code_2 ⟨by decide, by decide⟩ (by decide +kernel) wL_91 rfl rfl ⟨Nat.le_of_ble_eq_true rfl, Nat.le_of_ble_eq_true rfl⟩ rfl rfl (Nat.le_of_ble_eq_true rfl) ⟨hcells, hslots⟩ dL_law_252 (fun z u hz => ?_)
  refine n_istore C (pc := 255) (ls' := [(6, .int z), (0, .ref sb), (1, .ref (rho b 8 0)), (2, .ref (rho b 9 0)), (3, .ref (b + 135)), (4, .ref (b + 136)), (5, .int (nI i))]) (Nat.le_of_ble_eq_true rfl) rfl dL_law_255 ?_
  refine n_aload_n C (pc := 257) 3 rfl dL_law_257 ?_
  refine n_aload_n C (pc := 258) 1 rfl dL_law_258 ?_
  refine n_iload C (pc := 259) 6 rfl dL_law_259 ?_
  refine n_iconst C (pc := 261) (v := 1) dL_law_261 (by decide) ?_
  refine n_iadd C (pc := 262) dL_law_262 ?_
  refine n_sarg C hX hbl hbs hLm (pc := 263) (j := i + 1) (nI_add i 1) (by omega) dL_law_263 ?_
  refine n_aload_n C (pc := 264) 1 rfl dL_law_264 ?_
  refine n_iload C (pc := 265) 6 rfl dL_law_265 ?_
  refine n_iconst C (pc := 267) (v := 2) dL_law_267 (by decide) ?_
  refine n_iadd C (pc := 268) dL_law_268 ?_
  refine n_sarg C hX hbl hbs hLm (pc := 269) (j := i + 2) (nI_add i 2) (by omega) dL_law_269 ?_
  refine n_i2l C (pc := 270) dL_law_270 ?_
  refine n_bipush C (pc := 271) (v := 32) dL_law_271 (by decide) ?_
  refine n_lshl C (pc := 273) dL_law_273 ?_
  refine n_aload_n C (pc := 274) 1 rfl dL_law_274 ?_
  refine n_iload C (pc := 275) 6 rfl dL_law_275 ?_
  refine n_iconst C (pc := 277) (v := 3) dL_law_277 (by decide) ?_
  refine n_iadd C (pc := 278) dL_law_278 ?_
  refine n_sarg C hX hbl hbs hLm (pc := 279) (j := i + 3) (nI_add i 3) (by omega) dL_law_279 ?_
  refine n_i2l C (pc := 280) dL_law_280 ?_
  refine n_ldc2 C (pc := 281) wL_89 dL_law_281 ?_
  refine n_land C (pc := 284) dL_law_284 ?_
  refine n_lor C (pc := 285) dL_law_285 ?_
  refine n_aload_n C (pc := 286) 1 rfl dL_law_286 ?_
  refine n_iload C (pc := 287) 6 rfl dL_law_287 ?_
  refine n_iconst C (pc := 289) (v := 4) dL_law_289 (by decide) ?_
  refine n_iadd C (pc := 290) dL_law_290 ?_
  refine n_sarg C hX hbl hbs hLm (pc := 291) (j := i + 4) (nI_add i 4) (by omega) dL_law_291 ?_
  refine n_callFi C hbs (pc := 292) (n := 3) (As := [.int (xs (i + 1)), .long ((jlshl (((xs (i + 2))).toInt64) 32) ||| ((((xs (i + 3))).toInt64) &&& (4294967295))), .int (xs (i + 4))]) (rest := []) (fun sz => ct9_code l D ca (rho b) sz (Ap_PF b) hz) mf9_code rfl wL_94 rfl rfl ⟨Nat.le_of_ble_eq_true rfl, Nat.le_of_ble_eq_true rfl⟩ rfl rfl (Nat.le_of_ble_eq_true rfl) ⟨hcells, hslots⟩ dL_law_292 (fun rb X59 hr => ?_)
  refine n_istore C (pc := 295) (ls' := [(7, .int rb), (6, .int z), (0, .ref sb), (1, .ref (rho b 8 0)), (2, .ref (rho b 9 0)), (3, .ref (b + 135)), (4, .ref (b + 136)), (5, .int (nI i))]) (Nat.le_of_ble_eq_true rfl) rfl dL_law_295 ?_
  refine n_aload_n C (pc := 297) 4 rfl dL_law_297 ?_
  refine n_callFi C hbs (pc := 298) (n := 0) (As := []) (rest := []) (fun sz => ct9_thrown l D ca (rho b) sz (Ap_PF b) hr) mf9_thrown rfl wL_86 rfl rfl ⟨Nat.le_of_ble_eq_true rfl, Nat.le_of_ble_eq_true rfl⟩ rfl rfl (Nat.le_of_ble_eq_true rfl) ⟨hcells, hslots⟩ dL_law_298 (fun th X62 hq => ?_)
  refine n_iload C (pc := 301) 1 rfl dL_law_301 ?_
  refine n_icmp_eq C (pc := 303) (tgt := 308) dL_law_303 (by decide) (fun _ => ?_) (fun q => absurd hq.1 q)
  refine n_iload C (pc := 308) 1 rfl dL_law_308 ?_
  refine n_if_ne C (pc := 310) (tgt := 325) dL_law_310 (by decide) (fun _ => ?_) (fun h0 => ?_)
  · refine n_goto C (pc := 325) (tgt := 1068) dL_law_325 (by decide) ?_
    refine n_sub (ls' := [(0, .ref sb), (1, .ref (rho b 8 0)), (2, .ref (rho b 9 0)), (3, .ref (b + 135)), (4, .ref (b + 136)), (5, .int (nI i))]) [2, 3, 4, 5, 6, 7] rfl ?_
    exact hend _ _ _ _ _ _ (by omega) (by omega) hq.2.2
  · have hag := hq.2.1 h0
    refine n_aload_n C (pc := 313) 5 rfl dL_law_313 ?_
    refine n_iconst C (pc := 314) (v := 0) dL_law_314 (by decide) ?_
    refine n_lout C (pc := 315) dL_law_315 ?_
    refine n_iload C (pc := 316) 0 rfl dL_law_316 ?_
    refine n_i2l C (pc := 318) dL_law_318 ?_
    refine n_lcmp C (pc := 319) dL_law_319 ?_
    refine n_if_eq C (pc := 320) (tgt := 325) dL_law_320 (by decide) (fun _ => ?_) (fun q => absurd (by rw [hag]; exact lgc_self _) q)
    refine n_goto C (pc := 325) (tgt := 1068) dL_law_325 (by decide) ?_
    refine n_sub (ls' := [(0, .ref sb), (1, .ref (rho b 8 0)), (2, .ref (rho b 9 0)), (3, .ref (b + 135)), (4, .ref (b + 136)), (5, .int (nI i))]) [2, 3, 4, 5, 6, 7] rfl ?_
    exact hend _ _ _ _ _ _ (by omega) (by omega) hq.2.2
set_option maxHeartbeats 2000000 in
theorem lw_table {p : Program} {l : Launch} {e : Env} {s : State} {m : MethodId} {below : List Frame} {meth : Method} {c : Code} {D : va_G} {ca : Nat → ClassId} {b sb L : Nat} {xs : Nat → Int32} (htr : l.stackTraces = false) (hLm : L ≤ 2560) (C : Cn p l s m meth c RL bL_law 10 D ca) (hX : va_X sb L xs s s.heap) (hbl : sb < s.heap.size) (hbs : b = s.heap.size) (hZ : Zs (frs b) s s.heap) (K : St → St → Prop) {i : Nat} (hi : i + 5 ≤ L) {S M : St} {f : Nat → Int64} {g : Nat → UInt64} (hs : ∀ (x1 : Int32) (x2 : Int32) (f : Nat → Int64) (g : Nat → UInt64), st_table K S M x1 x2 f g) (hend : ∀ (S' M' : St) (f' : Nat → Int64) (g' : Nat → UInt64) (ce sl : Nat), ce ≤ 138 + i → sl ≤ 3455 + 6 * i → K S' M' → wn p l e room_1 s m #[Value.ref sb] below meth c 10 ce sl (lw_Z below #[Value.ref sb] s) (frs b) (GL D ca b S' M' f' g') 1068 [(0, .ref sb), (1, .ref (rho b 8 0)), (2, .ref (rho b 9 0)), (3, .ref (b + 135)), (4, .ref (b + 136)), (5, .int (nI i))] []) : wn p l e room_1 s m #[Value.ref sb] below meth c 10 (137 + i) (3449 + 6 * i) (lw_Z below #[Value.ref sb] s) (frs b) (GL D ca b S M f g) 328 [(0, .ref sb), (1, .ref (rho b 8 0)), (2, .ref (rho b 9 0)), (3, .ref (b + 135)), (4, .ref (b + 136)), (5, .int (nI i))] [] := by
  have hcells : 137 + i + 1 ≤ room_1.cells := by show _ ≤ 601024; omega
  have hslots : 3449 + 6 * i + 6 ≤ room_1.slots := by show _ ≤ 7293034; omega
  have hcells0 : 137 + i ≤ room_1.cells := by show _ ≤ 601024; omega
  have hslots0 : 3449 + 6 * i ≤ room_1.slots := by show _ ≤ 7293034; omega
  refine n_aload_n C (pc := 328) 1 rfl dL_law_328 ?_
  refine n_aload_n C (pc := 329) 0 rfl dL_law_329 ?_
  refine n_iload C (pc := 330) 5 rfl dL_law_330 ?_
  refine n_iconst C (pc := 332) (v := 1) dL_law_332 (by decide) ?_
  refine n_iadd C (pc := 333) dL_law_333 ?_
  refine n_sarg C hX hbl hbs hLm (pc := 334) (j := i + 1) (nI_add i 1) (by omega) dL_law_334 ?_
  refine n_aload_n C (pc := 335) 0 rfl dL_law_335 ?_
  refine n_iload C (pc := 336) 5 rfl dL_law_336 ?_
  refine n_iconst C (pc := 338) (v := 2) dL_law_338 (by decide) ?_
  refine n_iadd C (pc := 339) dL_law_339 ?_
  refine n_sarg C hX hbl hbs hLm (pc := 340) (j := i + 2) (nI_add i 2) (by omega) dL_law_340 ?_
  refine n_aload_n C (pc := 341) 3 rfl dL_law_341 ?_
  refine n_callSW C hZ (pc := 342) (n := 4) (As := [.ref (rho b 8 0), .int (xs (i + 1)), .int (xs (i + 2)), .ref (b + 135)]) (rest := []) (cl_table_w l htr D ca b (hs ((xs (i + 1))) ((xs (i + 2))) _ _)) sw_table_1 sw_ini sw_table_2 ⟨by decide, by decide⟩ (by decide +kernel) wL_95 rfl rfl ⟨Nat.le_of_ble_eq_true rfl, Nat.le_of_ble_eq_true rfl⟩ rfl rfl (Nat.le_of_ble_eq_true rfl) ⟨hcells, hslots⟩ dL_law_342 (fun z u hz => ?_)
  refine n_istore C (pc := 345) (ls' := [(6, .int z), (0, .ref sb), (1, .ref (rho b 8 0)), (2, .ref (rho b 9 0)), (3, .ref (b + 135)), (4, .ref (b + 136)), (5, .int (nI i))]) (Nat.le_of_ble_eq_true rfl) rfl dL_law_345 ?_
  refine n_aload_n C (pc := 347) 3 rfl dL_law_347 ?_
  refine n_aload_n C (pc := 348) 1 rfl dL_law_348 ?_
  refine n_iload C (pc := 349) 6 rfl dL_law_349 ?_
  refine n_iconst C (pc := 351) (v := 1) dL_law_351 (by decide) ?_
  refine n_iadd C (pc := 352) dL_law_352 ?_
  refine n_sarg C hX hbl hbs hLm (pc := 353) (j := i + 1) (nI_add i 1) (by omega) dL_law_353 ?_
  refine n_aload_n C (pc := 354) 1 rfl dL_law_354 ?_
  refine n_iload C (pc := 355) 6 rfl dL_law_355 ?_
  refine n_iconst C (pc := 357) (v := 2) dL_law_357 (by decide) ?_
  refine n_iadd C (pc := 358) dL_law_358 ?_
  refine n_sarg C hX hbl hbs hLm (pc := 359) (j := i + 2) (nI_add i 2) (by omega) dL_law_359 ?_
  refine n_callFi C hbs (pc := 360) (n := 2) (As := [.int (xs (i + 1)), .int (xs (i + 2))]) (rest := []) (fun sz => ct9_table l D ca (rho b) sz (Ap_PF b) hz) mf9_table rfl wL_98 rfl rfl ⟨Nat.le_of_ble_eq_true rfl, Nat.le_of_ble_eq_true rfl⟩ rfl rfl (Nat.le_of_ble_eq_true rfl) ⟨hcells, hslots⟩ dL_law_360 (fun rb X25 hr => ?_)
  refine n_istore C (pc := 363) (ls' := [(7, .int rb), (6, .int z), (0, .ref sb), (1, .ref (rho b 8 0)), (2, .ref (rho b 9 0)), (3, .ref (b + 135)), (4, .ref (b + 136)), (5, .int (nI i))]) (Nat.le_of_ble_eq_true rfl) rfl dL_law_363 ?_
  refine n_aload_n C (pc := 365) 4 rfl dL_law_365 ?_
  refine n_callFi C hbs (pc := 366) (n := 0) (As := []) (rest := []) (fun sz => ct9_thrown l D ca (rho b) sz (Ap_PF b) hr) mf9_thrown rfl wL_86 rfl rfl ⟨Nat.le_of_ble_eq_true rfl, Nat.le_of_ble_eq_true rfl⟩ rfl rfl (Nat.le_of_ble_eq_true rfl) ⟨hcells, hslots⟩ dL_law_366 (fun th X28 hq => ?_)
  refine n_iload C (pc := 369) 1 rfl dL_law_369 ?_
  refine n_icmp_eq C (pc := 371) (tgt := 376) dL_law_371 (by decide) (fun _ => ?_) (fun q => absurd hq.1 q)
  refine n_iload C (pc := 376) 1 rfl dL_law_376 ?_
  refine n_if_ne C (pc := 378) (tgt := 393) dL_law_378 (by decide) (fun _ => ?_) (fun h0 => ?_)
  · refine n_goto C (pc := 393) (tgt := 1068) dL_law_393 (by decide) ?_
    refine n_sub (ls' := [(0, .ref sb), (1, .ref (rho b 8 0)), (2, .ref (rho b 9 0)), (3, .ref (b + 135)), (4, .ref (b + 136)), (5, .int (nI i))]) [2, 3, 4, 5, 6, 7] rfl ?_
    exact hend _ _ _ _ _ _ (by omega) (by omega) hq.2.2
  · have hag := hq.2.1 h0
    refine n_aload_n C (pc := 381) 5 rfl dL_law_381 ?_
    refine n_iconst C (pc := 382) (v := 0) dL_law_382 (by decide) ?_
    refine n_lout C (pc := 383) dL_law_383 ?_
    refine n_iload C (pc := 384) 0 rfl dL_law_384 ?_
    refine n_i2l C (pc := 386) dL_law_386 ?_
    refine n_lcmp C (pc := 387) dL_law_387 ?_
    refine n_if_eq C (pc := 388) (tgt := 393) dL_law_388 (by decide) (fun _ => ?_) (fun q => absurd (by rw [hag]; exact lgc_self _) q)
    refine n_goto C (pc := 393) (tgt := 1068) dL_law_393 (by decide) ?_
    refine n_sub (ls' := [(0, .ref sb), (1, .ref (rho b 8 0)), (2, .ref (rho b 9 0)), (3, .ref (b + 135)), (4, .ref (b + 136)), (5, .int (nI i))]) [2, 3, 4, 5, 6, 7] rfl ?_
    exact hend _ _ _ _ _ _ (by omega) (by omega) hq.2.2
set_option maxHeartbeats 2000000 in
theorem lw_check {p : Program} {l : Launch} {e : Env} {s : State} {m : MethodId} {below : List Frame} {meth : Method} {c : Code} {D : va_G} {ca : Nat → ClassId} {b sb L : Nat} {xs : Nat → Int32} (htr : l.stackTraces = false) (hLm : L ≤ 2560) (C : Cn p l s m meth c RL bL_law 10 D ca) (hX : va_X sb L xs s s.heap) (hbl : sb < s.heap.size) (hbs : b = s.heap.size) (hZ : Zs (frs b) s s.heap) (K : St → St → Prop) {i : Nat} (hi : i + 5 ≤ L) {S M : St} {f : Nat → Int64} {g : Nat → UInt64} (hs : ∀  (f : Nat → Int64) (g : Nat → UInt64), st_check K S M  f g) (hend : ∀ (S' M' : St) (f' : Nat → Int64) (g' : Nat → UInt64) (ce sl : Nat), ce ≤ 138 + i → sl ≤ 3455 + 6 * i → K S' M' → wn p l e room_1 s m #[Value.ref sb] below meth c 10 ce sl (lw_Z below #[Value.ref sb] s) (frs b) (GL D ca b S' M' f' g') 1068 [(0, .ref sb), (1, .ref (rho b 8 0)), (2, .ref (rho b 9 0)), (3, .ref (b + 135)), (4, .ref (b + 136)), (5, .int (nI i))] []) : wn p l e room_1 s m #[Value.ref sb] below meth c 10 (137 + i) (3449 + 6 * i) (lw_Z below #[Value.ref sb] s) (frs b) (GL D ca b S M f g) 396 [(0, .ref sb), (1, .ref (rho b 8 0)), (2, .ref (rho b 9 0)), (3, .ref (b + 135)), (4, .ref (b + 136)), (5, .int (nI i))] [] := by
  have hcells : 137 + i + 1 ≤ room_1.cells := by show _ ≤ 601024; omega
  have hslots : 3449 + 6 * i + 6 ≤ room_1.slots := by show _ ≤ 7293034; omega
  have hcells0 : 137 + i ≤ room_1.cells := by show _ ≤ 601024; omega
  have hslots0 : 3449 + 6 * i ≤ room_1.slots := by show _ ≤ 7293034; omega
  refine n_aload_n C (pc := 396) 1 rfl dL_law_396 ?_
  refine n_aload_n C (pc := 397) 3 rfl dL_law_397 ?_
  refine n_callSW C hZ (pc := 398) (n := 2) (As := [.ref (rho b 8 0), .ref (b + 135)]) (rest := []) (cl_check_w l htr D ca b (hs _ _)) sw_check_1 sw_ini sw_check_2 ⟨by decide, by decide⟩ (by decide +kernel) wL_99 rfl rfl ⟨Nat.le_of_ble_eq_true rfl, Nat.le_of_ble_eq_true rfl⟩ rfl rfl (Nat.le_of_ble_eq_true rfl) ⟨hcells, hslots⟩ dL_law_398 (fun z u hz => ?_)
  refine n_istore C (pc := 401) (ls' := [(6, .int z), (0, .ref sb), (1, .ref (rho b 8 0)), (2, .ref (rho b 9 0)), (3, .ref (b + 135)), (4, .ref (b + 136)), (5, .int (nI i))]) (Nat.le_of_ble_eq_true rfl) rfl dL_law_401 ?_
  refine n_aload_n C (pc := 403) 3 rfl dL_law_403 ?_
  refine n_callFi C hbs (pc := 404) (n := 0) (As := []) (rest := []) (fun sz => ct9_check l D ca (rho b) sz (Ap_PF b) hz) mf9_check rfl wL_102 rfl rfl ⟨Nat.le_of_ble_eq_true rfl, Nat.le_of_ble_eq_true rfl⟩ rfl rfl (Nat.le_of_ble_eq_true rfl) ⟨hcells, hslots⟩ dL_law_404 (fun rb X5 hr => ?_)
  refine n_istore C (pc := 407) (ls' := [(7, .int rb), (6, .int z), (0, .ref sb), (1, .ref (rho b 8 0)), (2, .ref (rho b 9 0)), (3, .ref (b + 135)), (4, .ref (b + 136)), (5, .int (nI i))]) (Nat.le_of_ble_eq_true rfl) rfl dL_law_407 ?_
  refine n_aload_n C (pc := 409) 4 rfl dL_law_409 ?_
  refine n_callFi C hbs (pc := 410) (n := 0) (As := []) (rest := []) (fun sz => ct9_thrown l D ca (rho b) sz (Ap_PF b) hr) mf9_thrown rfl wL_86 rfl rfl ⟨Nat.le_of_ble_eq_true rfl, Nat.le_of_ble_eq_true rfl⟩ rfl rfl (Nat.le_of_ble_eq_true rfl) ⟨hcells, hslots⟩ dL_law_410 (fun th X8 hq => ?_)
  refine n_iload C (pc := 413) 1 rfl dL_law_413 ?_
  refine n_icmp_eq C (pc := 415) (tgt := 420) dL_law_415 (by decide) (fun _ => ?_) (fun q => absurd hq.1 q)
  refine n_iload C (pc := 420) 1 rfl dL_law_420 ?_
  refine n_if_ne C (pc := 422) (tgt := 437) dL_law_422 (by decide) (fun _ => ?_) (fun h0 => ?_)
  · refine n_goto C (pc := 437) (tgt := 1068) dL_law_437 (by decide) ?_
    refine n_sub (ls' := [(0, .ref sb), (1, .ref (rho b 8 0)), (2, .ref (rho b 9 0)), (3, .ref (b + 135)), (4, .ref (b + 136)), (5, .int (nI i))]) [2, 3, 4, 5, 6, 7] rfl ?_
    exact hend _ _ _ _ _ _ (by omega) (by omega) hq.2.2
  · have hag := hq.2.1 h0
    refine n_aload_n C (pc := 425) 5 rfl dL_law_425 ?_
    refine n_iconst C (pc := 426) (v := 0) dL_law_426 (by decide) ?_
    refine n_lout C (pc := 427) dL_law_427 ?_
    refine n_iload C (pc := 428) 0 rfl dL_law_428 ?_
    refine n_i2l C (pc := 430) dL_law_430 ?_
    refine n_lcmp C (pc := 431) dL_law_431 ?_
    refine n_if_eq C (pc := 432) (tgt := 437) dL_law_432 (by decide) (fun _ => ?_) (fun q => absurd (by rw [hag]; exact lgc_self _) q)
    refine n_goto C (pc := 437) (tgt := 1068) dL_law_437 (by decide) ?_
    refine n_sub (ls' := [(0, .ref sb), (1, .ref (rho b 8 0)), (2, .ref (rho b 9 0)), (3, .ref (b + 135)), (4, .ref (b + 136)), (5, .int (nI i))]) [2, 3, 4, 5, 6, 7] rfl ?_
    exact hend _ _ _ _ _ _ (by omega) (by omega) hq.2.2
set_option maxHeartbeats 2000000 in
theorem lw_fault {p : Program} {l : Launch} {e : Env} {s : State} {m : MethodId} {below : List Frame} {meth : Method} {c : Code} {D : va_G} {ca : Nat → ClassId} {b sb L : Nat} {xs : Nat → Int32} (htr : l.stackTraces = false) (hLm : L ≤ 2560) (C : Cn p l s m meth c RL bL_law 10 D ca) (hX : va_X sb L xs s s.heap) (hbl : sb < s.heap.size) (hbs : b = s.heap.size) (hZ : Zs (frs b) s s.heap) (K : St → St → Prop) {i : Nat} (hi : i + 5 ≤ L) {S M : St} {f : Nat → Int64} {g : Nat → UInt64} (hs : ∀ (x1 : Int32) (f : Nat → Int64) (g : Nat → UInt64), st_fault K S M x1 f g) (hend : ∀ (S' M' : St) (f' : Nat → Int64) (g' : Nat → UInt64) (ce sl : Nat), ce ≤ 138 + i → sl ≤ 3455 + 6 * i → K S' M' → wn p l e room_1 s m #[Value.ref sb] below meth c 10 ce sl (lw_Z below #[Value.ref sb] s) (frs b) (GL D ca b S' M' f' g') 1068 [(0, .ref sb), (1, .ref (rho b 8 0)), (2, .ref (rho b 9 0)), (3, .ref (b + 135)), (4, .ref (b + 136)), (5, .int (nI i))] []) : wn p l e room_1 s m #[Value.ref sb] below meth c 10 (137 + i) (3449 + 6 * i) (lw_Z below #[Value.ref sb] s) (frs b) (GL D ca b S M f g) 440 [(0, .ref sb), (1, .ref (rho b 8 0)), (2, .ref (rho b 9 0)), (3, .ref (b + 135)), (4, .ref (b + 136)), (5, .int (nI i))] [] := by
  have hcells : 137 + i + 1 ≤ room_1.cells := by show _ ≤ 601024; omega
  have hslots : 3449 + 6 * i + 6 ≤ room_1.slots := by show _ ≤ 7293034; omega
  have hcells0 : 137 + i ≤ room_1.cells := by show _ ≤ 601024; omega
  have hslots0 : 3449 + 6 * i ≤ room_1.slots := by show _ ≤ 7293034; omega
  refine n_aload_n C (pc := 440) 1 rfl dL_law_440 ?_
  refine n_aload_n C (pc := 441) 0 rfl dL_law_441 ?_
  refine n_iload C (pc := 442) 5 rfl dL_law_442 ?_
  refine n_iconst C (pc := 444) (v := 1) dL_law_444 (by decide) ?_
  refine n_iadd C (pc := 445) dL_law_445 ?_
  refine n_sarg C hX hbl hbs hLm (pc := 446) (j := i + 1) (nI_add i 1) (by omega) dL_law_446 ?_
  refine n_aload_n C (pc := 447) 3 rfl dL_law_447 ?_
  refine n_callSW C hZ (pc := 448) (n := 3) (As := [.ref (rho b 8 0), .int (xs (i + 1)), .ref (b + 135)]) (rest := []) (cl_fault_w l htr D ca b (hs ((xs (i + 1))) _ _)) sw_fault_1 sw_ini sw_fault_2 ⟨by decide, by decide⟩ (by decide +kernel) wL_103 rfl rfl ⟨Nat.le_of_ble_eq_true rfl, Nat.le_of_ble_eq_true rfl⟩ rfl rfl (Nat.le_of_ble_eq_true rfl) ⟨hcells, hslots⟩ dL_law_448 (fun z u hz => ?_)
  refine n_istore C (pc := 451) (ls' := [(6, .int z), (0, .ref sb), (1, .ref (rho b 8 0)), (2, .ref (rho b 9 0)), (3, .ref (b + 135)), (4, .ref (b + 136)), (5, .int (nI i))]) (Nat.le_of_ble_eq_true rfl) rfl dL_law_451 ?_
  refine n_aload_n C (pc := 453) 3 rfl dL_law_453 ?_
  refine n_aload_n C (pc := 454) 1 rfl dL_law_454 ?_
  refine n_iload C (pc := 455) 6 rfl dL_law_455 ?_
  refine n_iconst C (pc := 457) (v := 1) dL_law_457 (by decide) ?_
  refine n_iadd C (pc := 458) dL_law_458 ?_
  refine n_sarg C hX hbl hbs hLm (pc := 459) (j := i + 1) (nI_add i 1) (by omega) dL_law_459 ?_
  refine n_callFi C hbs (pc := 460) (n := 1) (As := [.int (xs (i + 1))]) (rest := []) (fun sz => ct9_fault l D ca (rho b) sz (Ap_PF b) hz) mf9_fault rfl wL_106 rfl rfl ⟨Nat.le_of_ble_eq_true rfl, Nat.le_of_ble_eq_true rfl⟩ rfl rfl (Nat.le_of_ble_eq_true rfl) ⟨hcells, hslots⟩ dL_law_460 (fun rb X15 hr => ?_)
  refine n_istore C (pc := 463) (ls' := [(7, .int rb), (6, .int z), (0, .ref sb), (1, .ref (rho b 8 0)), (2, .ref (rho b 9 0)), (3, .ref (b + 135)), (4, .ref (b + 136)), (5, .int (nI i))]) (Nat.le_of_ble_eq_true rfl) rfl dL_law_463 ?_
  refine n_aload_n C (pc := 465) 4 rfl dL_law_465 ?_
  refine n_callFi C hbs (pc := 466) (n := 0) (As := []) (rest := []) (fun sz => ct9_thrown l D ca (rho b) sz (Ap_PF b) hr) mf9_thrown rfl wL_86 rfl rfl ⟨Nat.le_of_ble_eq_true rfl, Nat.le_of_ble_eq_true rfl⟩ rfl rfl (Nat.le_of_ble_eq_true rfl) ⟨hcells, hslots⟩ dL_law_466 (fun th X18 hq => ?_)
  refine n_iload C (pc := 469) 1 rfl dL_law_469 ?_
  refine n_icmp_eq C (pc := 471) (tgt := 476) dL_law_471 (by decide) (fun _ => ?_) (fun q => absurd hq.1 q)
  refine n_iload C (pc := 476) 1 rfl dL_law_476 ?_
  refine n_if_ne C (pc := 478) (tgt := 493) dL_law_478 (by decide) (fun _ => ?_) (fun h0 => ?_)
  · refine n_goto C (pc := 493) (tgt := 1068) dL_law_493 (by decide) ?_
    refine n_sub (ls' := [(0, .ref sb), (1, .ref (rho b 8 0)), (2, .ref (rho b 9 0)), (3, .ref (b + 135)), (4, .ref (b + 136)), (5, .int (nI i))]) [2, 3, 4, 5, 6, 7] rfl ?_
    exact hend _ _ _ _ _ _ (by omega) (by omega) hq.2.2
  · have hag := hq.2.1 h0
    refine n_aload_n C (pc := 481) 5 rfl dL_law_481 ?_
    refine n_iconst C (pc := 482) (v := 0) dL_law_482 (by decide) ?_
    refine n_lout C (pc := 483) dL_law_483 ?_
    refine n_iload C (pc := 484) 0 rfl dL_law_484 ?_
    refine n_i2l C (pc := 486) dL_law_486 ?_
    refine n_lcmp C (pc := 487) dL_law_487 ?_
    refine n_if_eq C (pc := 488) (tgt := 493) dL_law_488 (by decide) (fun _ => ?_) (fun q => absurd (by rw [hag]; exact lgc_self _) q)
    refine n_goto C (pc := 493) (tgt := 1068) dL_law_493 (by decide) ?_
    refine n_sub (ls' := [(0, .ref sb), (1, .ref (rho b 8 0)), (2, .ref (rho b 9 0)), (3, .ref (b + 135)), (4, .ref (b + 136)), (5, .int (nI i))]) [2, 3, 4, 5, 6, 7] rfl ?_
    exact hend _ _ _ _ _ _ (by omega) (by omega) hq.2.2
set_option maxHeartbeats 2000000 in
theorem lw_argue {p : Program} {l : Launch} {e : Env} {s : State} {m : MethodId} {below : List Frame} {meth : Method} {c : Code} {D : va_G} {ca : Nat → ClassId} {b sb L : Nat} {xs : Nat → Int32} (htr : l.stackTraces = false) (hLm : L ≤ 2560) (C : Cn p l s m meth c RL bL_law 10 D ca) (hX : va_X sb L xs s s.heap) (hbl : sb < s.heap.size) (hbs : b = s.heap.size) (hZ : Zs (frs b) s s.heap) (K : St → St → Prop) {i : Nat} (hi : i + 5 ≤ L) {S M : St} {f : Nat → Int64} {g : Nat → UInt64} (hs : ∀ (x1 : Int32) (f : Nat → Int64) (g : Nat → UInt64), st_argue K S M x1 f g) (hend : ∀ (S' M' : St) (f' : Nat → Int64) (g' : Nat → UInt64) (ce sl : Nat), ce ≤ 138 + i → sl ≤ 3455 + 6 * i → K S' M' → wn p l e room_1 s m #[Value.ref sb] below meth c 10 ce sl (lw_Z below #[Value.ref sb] s) (frs b) (GL D ca b S' M' f' g') 1068 [(0, .ref sb), (1, .ref (rho b 8 0)), (2, .ref (rho b 9 0)), (3, .ref (b + 135)), (4, .ref (b + 136)), (5, .int (nI i))] []) : wn p l e room_1 s m #[Value.ref sb] below meth c 10 (137 + i) (3449 + 6 * i) (lw_Z below #[Value.ref sb] s) (frs b) (GL D ca b S M f g) 496 [(0, .ref sb), (1, .ref (rho b 8 0)), (2, .ref (rho b 9 0)), (3, .ref (b + 135)), (4, .ref (b + 136)), (5, .int (nI i))] [] := by
  have hcells : 137 + i + 1 ≤ room_1.cells := by show _ ≤ 601024; omega
  have hslots : 3449 + 6 * i + 6 ≤ room_1.slots := by show _ ≤ 7293034; omega
  have hcells0 : 137 + i ≤ room_1.cells := by show _ ≤ 601024; omega
  have hslots0 : 3449 + 6 * i ≤ room_1.slots := by show _ ≤ 7293034; omega
  refine n_aload_n C (pc := 496) 1 rfl dL_law_496 ?_
  refine n_aload_n C (pc := 497) 0 rfl dL_law_497 ?_
  refine n_iload C (pc := 498) 5 rfl dL_law_498 ?_
  refine n_iconst C (pc := 500) (v := 1) dL_law_500 (by decide) ?_
  refine n_iadd C (pc := 501) dL_law_501 ?_
  refine n_sarg C hX hbl hbs hLm (pc := 502) (j := i + 1) (nI_add i 1) (by omega) dL_law_502 ?_
  refine n_aload_n C (pc := 503) 3 rfl dL_law_503 ?_
  refine n_callSW C hZ (pc := 504) (n := 3) (As := [.ref (rho b 8 0), .int (xs (i + 1)), .ref (b + 135)]) (rest := []) (cl_argue_w l htr D ca b (hs ((xs (i + 1))) _ _)) sw_argue_1 sw_ini sw_argue_2 ⟨by decide, by decide⟩ (by decide +kernel) wL_107 rfl rfl ⟨Nat.le_of_ble_eq_true rfl, Nat.le_of_ble_eq_true rfl⟩ rfl rfl (Nat.le_of_ble_eq_true rfl) ⟨hcells, hslots⟩ dL_law_504 (fun z u hz => ?_)
  refine n_istore C (pc := 507) (ls' := [(6, .int z), (0, .ref sb), (1, .ref (rho b 8 0)), (2, .ref (rho b 9 0)), (3, .ref (b + 135)), (4, .ref (b + 136)), (5, .int (nI i))]) (Nat.le_of_ble_eq_true rfl) rfl dL_law_507 ?_
  refine n_aload_n C (pc := 509) 3 rfl dL_law_509 ?_
  refine n_aload_n C (pc := 510) 1 rfl dL_law_510 ?_
  refine n_iload C (pc := 511) 6 rfl dL_law_511 ?_
  refine n_iconst C (pc := 513) (v := 1) dL_law_513 (by decide) ?_
  refine n_iadd C (pc := 514) dL_law_514 ?_
  refine n_sarg C hX hbl hbs hLm (pc := 515) (j := i + 1) (nI_add i 1) (by omega) dL_law_515 ?_
  refine n_callFi C hbs (pc := 516) (n := 1) (As := [.int (xs (i + 1))]) (rest := []) (fun sz => ct9_argue l D ca (rho b) sz (Ap_PF b) hz) mf9_argue rfl wL_109 rfl rfl ⟨Nat.le_of_ble_eq_true rfl, Nat.le_of_ble_eq_true rfl⟩ rfl rfl (Nat.le_of_ble_eq_true rfl) ⟨hcells, hslots⟩ dL_law_516 (fun rb X15 hr => ?_)
  refine n_istore C (pc := 519) (ls' := [(7, .int rb), (6, .int z), (0, .ref sb), (1, .ref (rho b 8 0)), (2, .ref (rho b 9 0)), (3, .ref (b + 135)), (4, .ref (b + 136)), (5, .int (nI i))]) (Nat.le_of_ble_eq_true rfl) rfl dL_law_519 ?_
  refine n_aload_n C (pc := 521) 4 rfl dL_law_521 ?_
  refine n_callFi C hbs (pc := 522) (n := 0) (As := []) (rest := []) (fun sz => ct9_thrown l D ca (rho b) sz (Ap_PF b) hr) mf9_thrown rfl wL_86 rfl rfl ⟨Nat.le_of_ble_eq_true rfl, Nat.le_of_ble_eq_true rfl⟩ rfl rfl (Nat.le_of_ble_eq_true rfl) ⟨hcells, hslots⟩ dL_law_522 (fun th X18 hq => ?_)
  refine n_iload C (pc := 525) 1 rfl dL_law_525 ?_
  refine n_icmp_eq C (pc := 527) (tgt := 532) dL_law_527 (by decide) (fun _ => ?_) (fun q => absurd hq.1 q)
  refine n_iload C (pc := 532) 1 rfl dL_law_532 ?_
  refine n_if_ne C (pc := 534) (tgt := 549) dL_law_534 (by decide) (fun _ => ?_) (fun h0 => ?_)
  · refine n_goto C (pc := 549) (tgt := 1068) dL_law_549 (by decide) ?_
    refine n_sub (ls' := [(0, .ref sb), (1, .ref (rho b 8 0)), (2, .ref (rho b 9 0)), (3, .ref (b + 135)), (4, .ref (b + 136)), (5, .int (nI i))]) [2, 3, 4, 5, 6, 7] rfl ?_
    exact hend _ _ _ _ _ _ (by omega) (by omega) hq.2.2
  · have hag := hq.2.1 h0
    refine n_aload_n C (pc := 537) 5 rfl dL_law_537 ?_
    refine n_iconst C (pc := 538) (v := 0) dL_law_538 (by decide) ?_
    refine n_lout C (pc := 539) dL_law_539 ?_
    refine n_iload C (pc := 540) 0 rfl dL_law_540 ?_
    refine n_i2l C (pc := 542) dL_law_542 ?_
    refine n_lcmp C (pc := 543) dL_law_543 ?_
    refine n_if_eq C (pc := 544) (tgt := 549) dL_law_544 (by decide) (fun _ => ?_) (fun q => absurd (by rw [hag]; exact lgc_self _) q)
    refine n_goto C (pc := 549) (tgt := 1068) dL_law_549 (by decide) ?_
    refine n_sub (ls' := [(0, .ref sb), (1, .ref (rho b 8 0)), (2, .ref (rho b 9 0)), (3, .ref (b + 135)), (4, .ref (b + 136)), (5, .int (nI i))]) [2, 3, 4, 5, 6, 7] rfl ?_
    exact hend _ _ _ _ _ _ (by omega) (by omega) hq.2.2
set_option maxHeartbeats 2000000 in
theorem lw_start {p : Program} {l : Launch} {e : Env} {s : State} {m : MethodId} {below : List Frame} {meth : Method} {c : Code} {D : va_G} {ca : Nat → ClassId} {b sb L : Nat} {xs : Nat → Int32} (htr : l.stackTraces = false) (hLm : L ≤ 2560) (C : Cn p l s m meth c RL bL_law 10 D ca) (hX : va_X sb L xs s s.heap) (hbl : sb < s.heap.size) (hbs : b = s.heap.size) (hZ : Zs (frs b) s s.heap) (K : St → St → Prop) {i : Nat} (hi : i + 5 ≤ L) {S M : St} {f : Nat → Int64} {g : Nat → UInt64} (hs : ∀ (x1 : Int32) (f : Nat → Int64) (g : Nat → UInt64), st_start K S M x1 f g) (hend : ∀ (S' M' : St) (f' : Nat → Int64) (g' : Nat → UInt64) (ce sl : Nat), ce ≤ 138 + i → sl ≤ 3455 + 6 * i → K S' M' → wn p l e room_1 s m #[Value.ref sb] below meth c 10 ce sl (lw_Z below #[Value.ref sb] s) (frs b) (GL D ca b S' M' f' g') 1068 [(0, .ref sb), (1, .ref (rho b 8 0)), (2, .ref (rho b 9 0)), (3, .ref (b + 135)), (4, .ref (b + 136)), (5, .int (nI i))] []) : wn p l e room_1 s m #[Value.ref sb] below meth c 10 (137 + i) (3449 + 6 * i) (lw_Z below #[Value.ref sb] s) (frs b) (GL D ca b S M f g) 552 [(0, .ref sb), (1, .ref (rho b 8 0)), (2, .ref (rho b 9 0)), (3, .ref (b + 135)), (4, .ref (b + 136)), (5, .int (nI i))] [] := by
  have hcells : 137 + i + 1 ≤ room_1.cells := by show _ ≤ 601024; omega
  have hslots : 3449 + 6 * i + 6 ≤ room_1.slots := by show _ ≤ 7293034; omega
  have hcells0 : 137 + i ≤ room_1.cells := by show _ ≤ 601024; omega
  have hslots0 : 3449 + 6 * i ≤ room_1.slots := by show _ ≤ 7293034; omega
  refine n_aload_n C (pc := 552) 1 rfl dL_law_552 ?_
  refine n_aload_n C (pc := 553) 0 rfl dL_law_553 ?_
  refine n_iload C (pc := 554) 5 rfl dL_law_554 ?_
  refine n_iconst C (pc := 556) (v := 1) dL_law_556 (by decide) ?_
  refine n_iadd C (pc := 557) dL_law_557 ?_
  refine n_sarg C hX hbl hbs hLm (pc := 558) (j := i + 1) (nI_add i 1) (by omega) dL_law_558 ?_
  refine n_aload_n C (pc := 559) 3 rfl dL_law_559 ?_
  refine n_callSW C hZ (pc := 560) (n := 3) (As := [.ref (rho b 8 0), .int (xs (i + 1)), .ref (b + 135)]) (rest := []) (cl_start_w l htr D ca b (hs ((xs (i + 1))) _ _)) sw_start_1 sw_ini sw_start_2 ⟨by decide, by decide⟩ (by decide +kernel) wL_110 rfl rfl ⟨Nat.le_of_ble_eq_true rfl, Nat.le_of_ble_eq_true rfl⟩ rfl rfl (Nat.le_of_ble_eq_true rfl) ⟨hcells, hslots⟩ dL_law_560 (fun z u hz => ?_)
  refine n_istore C (pc := 563) (ls' := [(6, .int z), (0, .ref sb), (1, .ref (rho b 8 0)), (2, .ref (rho b 9 0)), (3, .ref (b + 135)), (4, .ref (b + 136)), (5, .int (nI i))]) (Nat.le_of_ble_eq_true rfl) rfl dL_law_563 ?_
  refine n_aload_n C (pc := 565) 3 rfl dL_law_565 ?_
  refine n_aload_n C (pc := 566) 1 rfl dL_law_566 ?_
  refine n_iload C (pc := 567) 6 rfl dL_law_567 ?_
  refine n_iconst C (pc := 569) (v := 1) dL_law_569 (by decide) ?_
  refine n_iadd C (pc := 570) dL_law_570 ?_
  refine n_sarg C hX hbl hbs hLm (pc := 571) (j := i + 1) (nI_add i 1) (by omega) dL_law_571 ?_
  refine n_callFi C hbs (pc := 572) (n := 1) (As := [.int (xs (i + 1))]) (rest := []) (fun sz => ct9_start l D ca (rho b) sz (Ap_PF b) hz) mf9_start rfl wL_112 rfl rfl ⟨Nat.le_of_ble_eq_true rfl, Nat.le_of_ble_eq_true rfl⟩ rfl rfl (Nat.le_of_ble_eq_true rfl) ⟨hcells, hslots⟩ dL_law_572 (fun rb X15 hr => ?_)
  refine n_istore C (pc := 575) (ls' := [(7, .int rb), (6, .int z), (0, .ref sb), (1, .ref (rho b 8 0)), (2, .ref (rho b 9 0)), (3, .ref (b + 135)), (4, .ref (b + 136)), (5, .int (nI i))]) (Nat.le_of_ble_eq_true rfl) rfl dL_law_575 ?_
  refine n_aload_n C (pc := 577) 4 rfl dL_law_577 ?_
  refine n_callFi C hbs (pc := 578) (n := 0) (As := []) (rest := []) (fun sz => ct9_thrown l D ca (rho b) sz (Ap_PF b) hr) mf9_thrown rfl wL_86 rfl rfl ⟨Nat.le_of_ble_eq_true rfl, Nat.le_of_ble_eq_true rfl⟩ rfl rfl (Nat.le_of_ble_eq_true rfl) ⟨hcells, hslots⟩ dL_law_578 (fun th X18 hq => ?_)
  refine n_iload C (pc := 581) 1 rfl dL_law_581 ?_
  refine n_icmp_eq C (pc := 583) (tgt := 588) dL_law_583 (by decide) (fun _ => ?_) (fun q => absurd hq.1 q)
  refine n_iload C (pc := 588) 1 rfl dL_law_588 ?_
  refine n_if_ne C (pc := 590) (tgt := 605) dL_law_590 (by decide) (fun _ => ?_) (fun h0 => ?_)
  · refine n_goto C (pc := 605) (tgt := 1068) dL_law_605 (by decide) ?_
    refine n_sub (ls' := [(0, .ref sb), (1, .ref (rho b 8 0)), (2, .ref (rho b 9 0)), (3, .ref (b + 135)), (4, .ref (b + 136)), (5, .int (nI i))]) [2, 3, 4, 5, 6, 7] rfl ?_
    exact hend _ _ _ _ _ _ (by omega) (by omega) hq.2.2
  · have hag := hq.2.1 h0
    refine n_aload_n C (pc := 593) 5 rfl dL_law_593 ?_
    refine n_iconst C (pc := 594) (v := 0) dL_law_594 (by decide) ?_
    refine n_lout C (pc := 595) dL_law_595 ?_
    refine n_iload C (pc := 596) 0 rfl dL_law_596 ?_
    refine n_i2l C (pc := 598) dL_law_598 ?_
    refine n_lcmp C (pc := 599) dL_law_599 ?_
    refine n_if_eq C (pc := 600) (tgt := 605) dL_law_600 (by decide) (fun _ => ?_) (fun q => absurd (by rw [hag]; exact lgc_self _) q)
    refine n_goto C (pc := 605) (tgt := 1068) dL_law_605 (by decide) ?_
    refine n_sub (ls' := [(0, .ref sb), (1, .ref (rho b 8 0)), (2, .ref (rho b 9 0)), (3, .ref (b + 135)), (4, .ref (b + 136)), (5, .int (nI i))]) [2, 3, 4, 5, 6, 7] rfl ?_
    exact hend _ _ _ _ _ _ (by omega) (by omega) hq.2.2
set_option maxHeartbeats 2000000 in
theorem lw_run {p : Program} {l : Launch} {e : Env} {s : State} {m : MethodId} {below : List Frame} {meth : Method} {c : Code} {D : va_G} {ca : Nat → ClassId} {b sb L : Nat} {xs : Nat → Int32} (htr : l.stackTraces = false) (hLm : L ≤ 2560) (C : Cn p l s m meth c RL bL_law 10 D ca) (hX : va_X sb L xs s s.heap) (hbl : sb < s.heap.size) (hbs : b = s.heap.size) (hZ : Zs (frs b) s s.heap) (K : St → St → Prop) {i : Nat} (hi : i + 5 ≤ L) {S M : St} {f : Nat → Int64} {g : Nat → UInt64} (hs : ∀ (x1 : Int32) (f : Nat → Int64) (g : Nat → UInt64), st_run K S M x1 f g) (hend : ∀ (S' M' : St) (f' : Nat → Int64) (g' : Nat → UInt64) (ce sl : Nat), ce ≤ 138 + i → sl ≤ 3455 + 6 * i → K S' M' → wn p l e room_1 s m #[Value.ref sb] below meth c 10 ce sl (lw_Z below #[Value.ref sb] s) (frs b) (GL D ca b S' M' f' g') 1068 [(0, .ref sb), (1, .ref (rho b 8 0)), (2, .ref (rho b 9 0)), (3, .ref (b + 135)), (4, .ref (b + 136)), (5, .int (nI i))] []) : wn p l e room_1 s m #[Value.ref sb] below meth c 10 (137 + i) (3449 + 6 * i) (lw_Z below #[Value.ref sb] s) (frs b) (GL D ca b S M f g) 608 [(0, .ref sb), (1, .ref (rho b 8 0)), (2, .ref (rho b 9 0)), (3, .ref (b + 135)), (4, .ref (b + 136)), (5, .int (nI i))] [] := by
  have hcells : 137 + i + 1 ≤ room_1.cells := by show _ ≤ 601024; omega
  have hslots : 3449 + 6 * i + 6 ≤ room_1.slots := by show _ ≤ 7293034; omega
  have hcells0 : 137 + i ≤ room_1.cells := by show _ ≤ 601024; omega
  have hslots0 : 3449 + 6 * i ≤ room_1.slots := by show _ ≤ 7293034; omega
  refine n_aload_n C (pc := 608) 1 rfl dL_law_608 ?_
  refine n_aload_n C (pc := 609) 0 rfl dL_law_609 ?_
  refine n_iload C (pc := 610) 5 rfl dL_law_610 ?_
  refine n_iconst C (pc := 612) (v := 1) dL_law_612 (by decide) ?_
  refine n_iadd C (pc := 613) dL_law_613 ?_
  refine n_sarg C hX hbl hbs hLm (pc := 614) (j := i + 1) (nI_add i 1) (by omega) dL_law_614 ?_
  refine n_aload_n C (pc := 615) 3 rfl dL_law_615 ?_
  refine n_callSW C hZ (pc := 616) (n := 3) (As := [.ref (rho b 8 0), .int (xs (i + 1)), .ref (b + 135)]) (rest := []) (cl_run_w l htr D ca b (hs ((xs (i + 1))) _ _)) sw_run_1 sw_ini sw_run_2 ⟨by decide, by decide⟩ (by decide +kernel) wL_113 rfl rfl ⟨Nat.le_of_ble_eq_true rfl, Nat.le_of_ble_eq_true rfl⟩ rfl rfl (Nat.le_of_ble_eq_true rfl) ⟨hcells, hslots⟩ dL_law_616 (fun z u hz => ?_)
  refine n_istore C (pc := 619) (ls' := [(6, .int z), (0, .ref sb), (1, .ref (rho b 8 0)), (2, .ref (rho b 9 0)), (3, .ref (b + 135)), (4, .ref (b + 136)), (5, .int (nI i))]) (Nat.le_of_ble_eq_true rfl) rfl dL_law_619 ?_
  refine n_aload_n C (pc := 621) 3 rfl dL_law_621 ?_
  refine n_aload_n C (pc := 622) 1 rfl dL_law_622 ?_
  refine n_iload C (pc := 623) 6 rfl dL_law_623 ?_
  refine n_iconst C (pc := 625) (v := 1) dL_law_625 (by decide) ?_
  refine n_iadd C (pc := 626) dL_law_626 ?_
  refine n_sarg C hX hbl hbs hLm (pc := 627) (j := i + 1) (nI_add i 1) (by omega) dL_law_627 ?_
  refine n_callFi C hbs (pc := 628) (n := 1) (As := [.int (xs (i + 1))]) (rest := []) (fun sz => ct9_run l D ca (rho b) sz (Ap_PF b) hz) mf9_run rfl wL_115 rfl rfl ⟨Nat.le_of_ble_eq_true rfl, Nat.le_of_ble_eq_true rfl⟩ rfl rfl (Nat.le_of_ble_eq_true rfl) ⟨hcells, hslots⟩ dL_law_628 (fun rb X15 hr => ?_)
  refine n_istore C (pc := 631) (ls' := [(7, .int rb), (6, .int z), (0, .ref sb), (1, .ref (rho b 8 0)), (2, .ref (rho b 9 0)), (3, .ref (b + 135)), (4, .ref (b + 136)), (5, .int (nI i))]) (Nat.le_of_ble_eq_true rfl) rfl dL_law_631 ?_
  refine n_aload_n C (pc := 633) 4 rfl dL_law_633 ?_
  refine n_callFi C hbs (pc := 634) (n := 0) (As := []) (rest := []) (fun sz => ct9_thrown l D ca (rho b) sz (Ap_PF b) hr) mf9_thrown rfl wL_86 rfl rfl ⟨Nat.le_of_ble_eq_true rfl, Nat.le_of_ble_eq_true rfl⟩ rfl rfl (Nat.le_of_ble_eq_true rfl) ⟨hcells, hslots⟩ dL_law_634 (fun th X18 hq => ?_)
  refine n_iload C (pc := 637) 1 rfl dL_law_637 ?_
  refine n_icmp_eq C (pc := 639) (tgt := 644) dL_law_639 (by decide) (fun _ => ?_) (fun q => absurd hq.1 q)
  refine n_iload C (pc := 644) 1 rfl dL_law_644 ?_
  refine n_if_ne C (pc := 646) (tgt := 661) dL_law_646 (by decide) (fun _ => ?_) (fun h0 => ?_)
  · refine n_goto C (pc := 661) (tgt := 1068) dL_law_661 (by decide) ?_
    refine n_sub (ls' := [(0, .ref sb), (1, .ref (rho b 8 0)), (2, .ref (rho b 9 0)), (3, .ref (b + 135)), (4, .ref (b + 136)), (5, .int (nI i))]) [2, 3, 4, 5, 6, 7] rfl ?_
    exact hend _ _ _ _ _ _ (by omega) (by omega) hq.2.2
  · have hag := hq.2.1 h0
    refine n_aload_n C (pc := 649) 5 rfl dL_law_649 ?_
    refine n_iconst C (pc := 650) (v := 0) dL_law_650 (by decide) ?_
    refine n_lout C (pc := 651) dL_law_651 ?_
    refine n_iload C (pc := 652) 0 rfl dL_law_652 ?_
    refine n_i2l C (pc := 654) dL_law_654 ?_
    refine n_lcmp C (pc := 655) dL_law_655 ?_
    refine n_if_eq C (pc := 656) (tgt := 661) dL_law_656 (by decide) (fun _ => ?_) (fun q => absurd (by rw [hag]; exact lgc_self _) q)
    refine n_goto C (pc := 661) (tgt := 1068) dL_law_661 (by decide) ?_
    refine n_sub (ls' := [(0, .ref sb), (1, .ref (rho b 8 0)), (2, .ref (rho b 9 0)), (3, .ref (b + 135)), (4, .ref (b + 136)), (5, .int (nI i))]) [2, 3, 4, 5, 6, 7] rfl ?_
    exact hend _ _ _ _ _ _ (by omega) (by omega) hq.2.2
set_option maxHeartbeats 2000000 in
theorem lw_stop {p : Program} {l : Launch} {e : Env} {s : State} {m : MethodId} {below : List Frame} {meth : Method} {c : Code} {D : va_G} {ca : Nat → ClassId} {b sb L : Nat} {xs : Nat → Int32} (htr : l.stackTraces = false) (hLm : L ≤ 2560) (C : Cn p l s m meth c RL bL_law 10 D ca) (hX : va_X sb L xs s s.heap) (hbl : sb < s.heap.size) (hbs : b = s.heap.size) (hZ : Zs (frs b) s s.heap) (K : St → St → Prop) {i : Nat} (hi : i + 5 ≤ L) {S M : St} {f : Nat → Int64} {g : Nat → UInt64} (hs : ∀  (f : Nat → Int64) (g : Nat → UInt64), st_stop K S M  f g) (hend : ∀ (S' M' : St) (f' : Nat → Int64) (g' : Nat → UInt64) (ce sl : Nat), ce ≤ 138 + i → sl ≤ 3455 + 6 * i → K S' M' → wn p l e room_1 s m #[Value.ref sb] below meth c 10 ce sl (lw_Z below #[Value.ref sb] s) (frs b) (GL D ca b S' M' f' g') 1068 [(0, .ref sb), (1, .ref (rho b 8 0)), (2, .ref (rho b 9 0)), (3, .ref (b + 135)), (4, .ref (b + 136)), (5, .int (nI i))] []) : wn p l e room_1 s m #[Value.ref sb] below meth c 10 (137 + i) (3449 + 6 * i) (lw_Z below #[Value.ref sb] s) (frs b) (GL D ca b S M f g) 664 [(0, .ref sb), (1, .ref (rho b 8 0)), (2, .ref (rho b 9 0)), (3, .ref (b + 135)), (4, .ref (b + 136)), (5, .int (nI i))] [] := by
  have hcells : 137 + i + 1 ≤ room_1.cells := by show _ ≤ 601024; omega
  have hslots : 3449 + 6 * i + 6 ≤ room_1.slots := by show _ ≤ 7293034; omega
  have hcells0 : 137 + i ≤ room_1.cells := by show _ ≤ 601024; omega
  have hslots0 : 3449 + 6 * i ≤ room_1.slots := by show _ ≤ 7293034; omega
  refine n_aload_n C (pc := 664) 1 rfl dL_law_664 ?_
  refine n_aload_n C (pc := 665) 3 rfl dL_law_665 ?_
  refine n_callSW C hZ (pc := 666) (n := 2) (As := [.ref (rho b 8 0), .ref (b + 135)]) (rest := []) (cl_stop_w l htr D ca b (hs _ _)) sw_stop_1 sw_ini sw_stop_2 ⟨by decide, by decide⟩ (by decide +kernel) wL_116 rfl rfl ⟨Nat.le_of_ble_eq_true rfl, Nat.le_of_ble_eq_true rfl⟩ rfl rfl (Nat.le_of_ble_eq_true rfl) ⟨hcells, hslots⟩ dL_law_666 (fun z u hz => ?_)
  refine n_istore C (pc := 669) (ls' := [(6, .int z), (0, .ref sb), (1, .ref (rho b 8 0)), (2, .ref (rho b 9 0)), (3, .ref (b + 135)), (4, .ref (b + 136)), (5, .int (nI i))]) (Nat.le_of_ble_eq_true rfl) rfl dL_law_669 ?_
  refine n_aload_n C (pc := 671) 3 rfl dL_law_671 ?_
  refine n_callFi C hbs (pc := 672) (n := 0) (As := []) (rest := []) (fun sz => ct9_stop l D ca (rho b) sz (Ap_PF b) hz) mf9_stop rfl wL_118 rfl rfl ⟨Nat.le_of_ble_eq_true rfl, Nat.le_of_ble_eq_true rfl⟩ rfl rfl (Nat.le_of_ble_eq_true rfl) ⟨hcells, hslots⟩ dL_law_672 (fun rb X5 hr => ?_)
  refine n_istore C (pc := 675) (ls' := [(7, .int rb), (6, .int z), (0, .ref sb), (1, .ref (rho b 8 0)), (2, .ref (rho b 9 0)), (3, .ref (b + 135)), (4, .ref (b + 136)), (5, .int (nI i))]) (Nat.le_of_ble_eq_true rfl) rfl dL_law_675 ?_
  refine n_aload_n C (pc := 677) 4 rfl dL_law_677 ?_
  refine n_callFi C hbs (pc := 678) (n := 0) (As := []) (rest := []) (fun sz => ct9_thrown l D ca (rho b) sz (Ap_PF b) hr) mf9_thrown rfl wL_86 rfl rfl ⟨Nat.le_of_ble_eq_true rfl, Nat.le_of_ble_eq_true rfl⟩ rfl rfl (Nat.le_of_ble_eq_true rfl) ⟨hcells, hslots⟩ dL_law_678 (fun th X8 hq => ?_)
  refine n_iload C (pc := 681) 1 rfl dL_law_681 ?_
  refine n_icmp_eq C (pc := 683) (tgt := 688) dL_law_683 (by decide) (fun _ => ?_) (fun q => absurd hq.1 q)
  refine n_iload C (pc := 688) 1 rfl dL_law_688 ?_
  refine n_if_ne C (pc := 690) (tgt := 705) dL_law_690 (by decide) (fun _ => ?_) (fun h0 => ?_)
  · refine n_goto C (pc := 705) (tgt := 1068) dL_law_705 (by decide) ?_
    refine n_sub (ls' := [(0, .ref sb), (1, .ref (rho b 8 0)), (2, .ref (rho b 9 0)), (3, .ref (b + 135)), (4, .ref (b + 136)), (5, .int (nI i))]) [2, 3, 4, 5, 6, 7] rfl ?_
    exact hend _ _ _ _ _ _ (by omega) (by omega) hq.2.2
  · have hag := hq.2.1 h0
    refine n_aload_n C (pc := 693) 5 rfl dL_law_693 ?_
    refine n_iconst C (pc := 694) (v := 0) dL_law_694 (by decide) ?_
    refine n_lout C (pc := 695) dL_law_695 ?_
    refine n_iload C (pc := 696) 0 rfl dL_law_696 ?_
    refine n_i2l C (pc := 698) dL_law_698 ?_
    refine n_lcmp C (pc := 699) dL_law_699 ?_
    refine n_if_eq C (pc := 700) (tgt := 705) dL_law_700 (by decide) (fun _ => ?_) (fun q => absurd (by rw [hag]; exact lgc_self _) q)
    refine n_goto C (pc := 705) (tgt := 1068) dL_law_705 (by decide) ?_
    refine n_sub (ls' := [(0, .ref sb), (1, .ref (rho b 8 0)), (2, .ref (rho b 9 0)), (3, .ref (b + 135)), (4, .ref (b + 136)), (5, .int (nI i))]) [2, 3, 4, 5, 6, 7] rfl ?_
    exact hend _ _ _ _ _ _ (by omega) (by omega) hq.2.2
set_option maxHeartbeats 2000000 in
theorem lw_result {p : Program} {l : Launch} {e : Env} {s : State} {m : MethodId} {below : List Frame} {meth : Method} {c : Code} {D : va_G} {ca : Nat → ClassId} {b sb L : Nat} {xs : Nat → Int32} (htr : l.stackTraces = false) (hLm : L ≤ 2560) (C : Cn p l s m meth c RL bL_law 10 D ca) (hX : va_X sb L xs s s.heap) (hbl : sb < s.heap.size) (hbs : b = s.heap.size) (hZ : Zs (frs b) s s.heap) (K : St → St → Prop) {i : Nat} (hi : i + 5 ≤ L) {S M : St} {f : Nat → Int64} {g : Nat → UInt64} (hs : ∀  (f : Nat → Int64) (g : Nat → UInt64), st_result K S M  f g) (hend : ∀ (S' M' : St) (f' : Nat → Int64) (g' : Nat → UInt64) (ce sl : Nat), ce ≤ 138 + i → sl ≤ 3455 + 6 * i → K S' M' → wn p l e room_1 s m #[Value.ref sb] below meth c 10 ce sl (lw_Z below #[Value.ref sb] s) (frs b) (GL D ca b S' M' f' g') 1068 [(0, .ref sb), (1, .ref (rho b 8 0)), (2, .ref (rho b 9 0)), (3, .ref (b + 135)), (4, .ref (b + 136)), (5, .int (nI i))] []) : wn p l e room_1 s m #[Value.ref sb] below meth c 10 (137 + i) (3449 + 6 * i) (lw_Z below #[Value.ref sb] s) (frs b) (GL D ca b S M f g) 708 [(0, .ref sb), (1, .ref (rho b 8 0)), (2, .ref (rho b 9 0)), (3, .ref (b + 135)), (4, .ref (b + 136)), (5, .int (nI i))] [] := by
  have hcells : 137 + i + 1 ≤ room_1.cells := by show _ ≤ 601024; omega
  have hslots : 3449 + 6 * i + 6 ≤ room_1.slots := by show _ ≤ 7293034; omega
  have hcells0 : 137 + i ≤ room_1.cells := by show _ ≤ 601024; omega
  have hslots0 : 3449 + 6 * i ≤ room_1.slots := by show _ ≤ 7293034; omega
  refine n_aload_n C (pc := 708) 1 rfl dL_law_708 ?_
  refine n_aload_n C (pc := 709) 3 rfl dL_law_709 ?_
  refine n_callSW C hZ (pc := 710) (n := 2) (As := [.ref (rho b 8 0), .ref (b + 135)]) (rest := []) (cl_result_w l htr D ca b (hs _ _)) sw_result_1 sw_ini sw_result_2 ⟨by decide, by decide⟩ (by decide +kernel) wL_119 rfl rfl ⟨Nat.le_of_ble_eq_true rfl, Nat.le_of_ble_eq_true rfl⟩ rfl rfl (Nat.le_of_ble_eq_true rfl) ⟨hcells, hslots⟩ dL_law_710 (fun z u hz => ?_)
  refine n_istore C (pc := 713) (ls' := [(6, .int z), (0, .ref sb), (1, .ref (rho b 8 0)), (2, .ref (rho b 9 0)), (3, .ref (b + 135)), (4, .ref (b + 136)), (5, .int (nI i))]) (Nat.le_of_ble_eq_true rfl) rfl dL_law_713 ?_
  refine n_aload_n C (pc := 715) 3 rfl dL_law_715 ?_
  refine n_callFl C hbs (pc := 716) (n := 0) (As := []) (rest := []) (fun sz => ct9_result l D ca (rho b) sz (Ap_PF b) hz) mf9_result rfl wL_121 rfl rfl ⟨Nat.le_of_ble_eq_true rfl, Nat.le_of_ble_eq_true rfl⟩ rfl rfl (Nat.le_of_ble_eq_true rfl) ⟨hcells, hslots⟩ dL_law_716 (fun rb X5 hr => ?_)
  refine n_lstore C (pc := 719) (ls' := [(7, .long rb), (6, .int z), (0, .ref sb), (1, .ref (rho b 8 0)), (2, .ref (rho b 9 0)), (3, .ref (b + 135)), (4, .ref (b + 136)), (5, .int (nI i))]) (Nat.le_of_ble_eq_true rfl) rfl dL_law_719 ?_
  refine n_aload_n C (pc := 721) 4 rfl dL_law_721 ?_
  refine n_callFi C hbs (pc := 722) (n := 0) (As := []) (rest := []) (fun sz => ct9_thrown l D ca (rho b) sz (Ap_PF b) hr) mf9_thrown rfl wL_86 rfl rfl ⟨Nat.le_of_ble_eq_true rfl, Nat.le_of_ble_eq_true rfl⟩ rfl rfl (Nat.le_of_ble_eq_true rfl) ⟨hcells, hslots⟩ dL_law_722 (fun th X8 hq => ?_)
  refine n_iload C (pc := 725) 1 rfl dL_law_725 ?_
  refine n_icmp_eq C (pc := 727) (tgt := 732) dL_law_727 (by decide) (fun _ => ?_) (fun q => absurd hq.1 q)
  refine n_iload C (pc := 732) 1 rfl dL_law_732 ?_
  refine n_if_ne C (pc := 734) (tgt := 748) dL_law_734 (by decide) (fun _ => ?_) (fun h0 => ?_)
  · refine n_goto C (pc := 748) (tgt := 1068) dL_law_748 (by decide) ?_
    refine n_sub (ls' := [(0, .ref sb), (1, .ref (rho b 8 0)), (2, .ref (rho b 9 0)), (3, .ref (b + 135)), (4, .ref (b + 136)), (5, .int (nI i))]) [2, 3, 4, 5, 6, 7] rfl ?_
    exact hend _ _ _ _ _ _ (by omega) (by omega) hq.2.2
  · have hag := hq.2.1 h0
    refine n_aload_n C (pc := 737) 5 rfl dL_law_737 ?_
    refine n_iconst C (pc := 738) (v := 0) dL_law_738 (by decide) ?_
    refine n_lout C (pc := 739) dL_law_739 ?_
    refine n_lload C (pc := 740) 0 rfl dL_law_740 ?_
    refine n_lcmp C (pc := 742) dL_law_742 ?_
    refine n_if_eq C (pc := 743) (tgt := 748) dL_law_743 (by decide) (fun _ => ?_) (fun q => absurd (by rw [hag]; exact lgc_self _) q)
    refine n_goto C (pc := 748) (tgt := 1068) dL_law_748 (by decide) ?_
    refine n_sub (ls' := [(0, .ref sb), (1, .ref (rho b 8 0)), (2, .ref (rho b 9 0)), (3, .ref (b + 135)), (4, .ref (b + 136)), (5, .int (nI i))]) [2, 3, 4, 5, 6, 7] rfl ?_
    exact hend _ _ _ _ _ _ (by omega) (by omega) hq.2.2
set_option maxHeartbeats 2000000 in
theorem lw_real {p : Program} {l : Launch} {e : Env} {s : State} {m : MethodId} {below : List Frame} {meth : Method} {c : Code} {D : va_G} {ca : Nat → ClassId} {b sb L : Nat} {xs : Nat → Int32} (htr : l.stackTraces = false) (hLm : L ≤ 2560) (C : Cn p l s m meth c RL bL_law 10 D ca) (hX : va_X sb L xs s s.heap) (hbl : sb < s.heap.size) (hbs : b = s.heap.size) (hZ : Zs (frs b) s s.heap) (K : St → St → Prop) {i : Nat} (hi : i + 5 ≤ L) {S M : St} {f : Nat → Int64} {g : Nat → UInt64} (hs : ∀  (f : Nat → Int64) (g : Nat → UInt64), st_real K S M  f g) (hend : ∀ (S' M' : St) (f' : Nat → Int64) (g' : Nat → UInt64) (ce sl : Nat), ce ≤ 138 + i → sl ≤ 3455 + 6 * i → K S' M' → wn p l e room_1 s m #[Value.ref sb] below meth c 10 ce sl (lw_Z below #[Value.ref sb] s) (frs b) (GL D ca b S' M' f' g') 1068 [(0, .ref sb), (1, .ref (rho b 8 0)), (2, .ref (rho b 9 0)), (3, .ref (b + 135)), (4, .ref (b + 136)), (5, .int (nI i))] []) : wn p l e room_1 s m #[Value.ref sb] below meth c 10 (137 + i) (3449 + 6 * i) (lw_Z below #[Value.ref sb] s) (frs b) (GL D ca b S M f g) 751 [(0, .ref sb), (1, .ref (rho b 8 0)), (2, .ref (rho b 9 0)), (3, .ref (b + 135)), (4, .ref (b + 136)), (5, .int (nI i))] [] := by
  have hcells : 137 + i + 1 ≤ room_1.cells := by show _ ≤ 601024; omega
  have hslots : 3449 + 6 * i + 6 ≤ room_1.slots := by show _ ≤ 7293034; omega
  have hcells0 : 137 + i ≤ room_1.cells := by show _ ≤ 601024; omega
  have hslots0 : 3449 + 6 * i ≤ room_1.slots := by show _ ≤ 7293034; omega
  refine n_aload_n C (pc := 751) 1 rfl dL_law_751 ?_
  refine n_aload C (pc := 752) 4 rfl dL_law_752 ?_
  refine n_callSW C hZ (pc := 754) (n := 2) (As := [.ref (rho b 8 0), .ref (b + 136)]) (rest := []) (cl_real_w l htr D ca b (hs _ _)) sw_real_1 sw_ini sw_real_2 ⟨by decide, by decide⟩ (by decide +kernel) wL_122 rfl rfl ⟨Nat.le_of_ble_eq_true rfl, Nat.le_of_ble_eq_true rfl⟩ rfl rfl (Nat.le_of_ble_eq_true rfl) ⟨hcells, hslots⟩ dL_law_754 (fun z u hz => ?_)
  refine n_istore C (pc := 757) (ls' := [(6, .int z), (0, .ref sb), (1, .ref (rho b 8 0)), (2, .ref (rho b 9 0)), (3, .ref (b + 135)), (4, .ref (b + 136)), (5, .int (nI i))]) (Nat.le_of_ble_eq_true rfl) rfl dL_law_757 ?_
  refine n_aload_n C (pc := 759) 3 rfl dL_law_759 ?_
  refine n_callFd C hbs (pc := 760) (n := 0) (As := []) (rest := []) (fun sz => ct9_real l D ca (rho b) sz (Ap_PF b) hz) mf9_real rfl wL_125 rfl rfl ⟨Nat.le_of_ble_eq_true rfl, Nat.le_of_ble_eq_true rfl⟩ rfl rfl (Nat.le_of_ble_eq_true rfl) ⟨hcells, hslots⟩ dL_law_760 (fun rb X5 hr => ?_)
  refine n_dstore C (pc := 763) (ls' := [(7, .double rb), (6, .int z), (0, .ref sb), (1, .ref (rho b 8 0)), (2, .ref (rho b 9 0)), (3, .ref (b + 135)), (4, .ref (b + 136)), (5, .int (nI i))]) (Nat.le_of_ble_eq_true rfl) rfl dL_law_763 ?_
  refine n_aload_n C (pc := 765) 4 rfl dL_law_765 ?_
  refine n_callFi C hbs (pc := 766) (n := 0) (As := []) (rest := []) (fun sz => ct9_thrown l D ca (rho b) sz (Ap_PF b) hr) mf9_thrown rfl wL_86 rfl rfl ⟨Nat.le_of_ble_eq_true rfl, Nat.le_of_ble_eq_true rfl⟩ rfl rfl (Nat.le_of_ble_eq_true rfl) ⟨hcells, hslots⟩ dL_law_766 (fun th X8 hq => ?_)
  refine n_iload C (pc := 769) 1 rfl dL_law_769 ?_
  refine n_icmp_eq C (pc := 771) (tgt := 776) dL_law_771 (by decide) (fun _ => ?_) (fun q => absurd hq.1 q)
  refine n_iload C (pc := 776) 1 rfl dL_law_776 ?_
  refine n_if_ne C (pc := 778) (tgt := 813) dL_law_778 (by decide) (fun _ => ?_) (fun h0 => ?_)
  · refine n_goto C (pc := 813) (tgt := 1068) dL_law_813 (by decide) ?_
    refine n_sub (ls' := [(0, .ref sb), (1, .ref (rho b 8 0)), (2, .ref (rho b 9 0)), (3, .ref (b + 135)), (4, .ref (b + 136)), (5, .int (nI i))]) [2, 3, 4, 5, 6, 7] rfl ?_
    exact hend _ _ _ _ _ _ (by omega) (by omega) hq.2.2
  · have hag := hq.2.1 h0
    refine n_aload C (pc := 781) 6 rfl dL_law_781 ?_
    refine n_iconst C (pc := 783) (v := 0) dL_law_783 (by decide) ?_
    refine n_dout C (pc := 784) dL_law_784 ?_
    refine n_dload C (pc := 785) 0 rfl dL_law_785 ?_
    refine n_dcmp C (pc := 787) dL_law_787 ?_
    refine n_if_eq C (pc := 788) (tgt := 813) dL_law_788 (by decide) (fun _ => ?_) (fun q => ?_)
    · refine n_goto C (pc := 813) (tgt := 1068) dL_law_813 (by decide) ?_
      refine n_sub (ls' := [(0, .ref sb), (1, .ref (rho b 8 0)), (2, .ref (rho b 9 0)), (3, .ref (b + 135)), (4, .ref (b + 136)), (5, .int (nI i))]) [2, 3, 4, 5, 6, 7] rfl ?_
      exact hend _ _ _ _ _ _ (by omega) (by omega) hq.2.2
    · have hn := hag.resolve_left q
      refine n_aload C (pc := 791) 6 rfl dL_law_791 ?_
      refine n_iconst C (pc := 793) (v := 0) dL_law_793 (by decide) ?_
      refine n_dout C (pc := 794) dL_law_794 ?_
      refine n_aload C (pc := 795) 6 rfl dL_law_795 ?_
      refine n_iconst C (pc := 797) (v := 0) dL_law_797 (by decide) ?_
      refine n_dout C (pc := 798) dL_law_798 ?_
      refine n_dcmp C (pc := 799) dL_law_799 ?_
      refine n_if_eq C (pc := 800) (tgt := 811) dL_law_800 (by decide) (fun q => absurd q hn.1) (fun _ => ?_)
      refine n_dload C (pc := 803) 0 rfl dL_law_803 ?_
      refine n_dload C (pc := 805) 0 rfl dL_law_805 ?_
      refine n_dcmp C (pc := 807) dL_law_807 ?_
      refine n_if_ne C (pc := 808) (tgt := 813) dL_law_808 (by decide) (fun _ => ?_) (fun q => absurd q hn.2)
      refine n_goto C (pc := 813) (tgt := 1068) dL_law_813 (by decide) ?_
      refine n_sub (ls' := [(0, .ref sb), (1, .ref (rho b 8 0)), (2, .ref (rho b 9 0)), (3, .ref (b + 135)), (4, .ref (b + 136)), (5, .int (nI i))]) [2, 3, 4, 5, 6, 7] rfl ?_
      exact hend _ _ _ _ _ _ (by omega) (by omega) hq.2.2
set_option maxHeartbeats 2000000 in
theorem lw_global {p : Program} {l : Launch} {e : Env} {s : State} {m : MethodId} {below : List Frame} {meth : Method} {c : Code} {D : va_G} {ca : Nat → ClassId} {b sb L : Nat} {xs : Nat → Int32} (htr : l.stackTraces = false) (hLm : L ≤ 2560) (C : Cn p l s m meth c RL bL_law 10 D ca) (hX : va_X sb L xs s s.heap) (hbl : sb < s.heap.size) (hbs : b = s.heap.size) (hZ : Zs (frs b) s s.heap) (K : St → St → Prop) {i : Nat} (hi : i + 5 ≤ L) {S M : St} {f : Nat → Int64} {g : Nat → UInt64} (hs : ∀ (x1 : Int32) (f : Nat → Int64) (g : Nat → UInt64), st_global K S M x1 f g) (hend : ∀ (S' M' : St) (f' : Nat → Int64) (g' : Nat → UInt64) (ce sl : Nat), ce ≤ 138 + i → sl ≤ 3455 + 6 * i → K S' M' → wn p l e room_1 s m #[Value.ref sb] below meth c 10 ce sl (lw_Z below #[Value.ref sb] s) (frs b) (GL D ca b S' M' f' g') 1068 [(0, .ref sb), (1, .ref (rho b 8 0)), (2, .ref (rho b 9 0)), (3, .ref (b + 135)), (4, .ref (b + 136)), (5, .int (nI i))] []) : wn p l e room_1 s m #[Value.ref sb] below meth c 10 (137 + i) (3449 + 6 * i) (lw_Z below #[Value.ref sb] s) (frs b) (GL D ca b S M f g) 816 [(0, .ref sb), (1, .ref (rho b 8 0)), (2, .ref (rho b 9 0)), (3, .ref (b + 135)), (4, .ref (b + 136)), (5, .int (nI i))] [] := by
  have hcells : 137 + i + 1 ≤ room_1.cells := by show _ ≤ 601024; omega
  have hslots : 3449 + 6 * i + 6 ≤ room_1.slots := by show _ ≤ 7293034; omega
  have hcells0 : 137 + i ≤ room_1.cells := by show _ ≤ 601024; omega
  have hslots0 : 3449 + 6 * i ≤ room_1.slots := by show _ ≤ 7293034; omega
  refine n_aload_n C (pc := 816) 1 rfl dL_law_816 ?_
  refine n_aload_n C (pc := 817) 0 rfl dL_law_817 ?_
  refine n_iload C (pc := 818) 5 rfl dL_law_818 ?_
  refine n_iconst C (pc := 820) (v := 1) dL_law_820 (by decide) ?_
  refine n_iadd C (pc := 821) dL_law_821 ?_
  refine n_sarg C hX hbl hbs hLm (pc := 822) (j := i + 1) (nI_add i 1) (by omega) dL_law_822 ?_
  refine n_aload_n C (pc := 823) 3 rfl dL_law_823 ?_
  refine n_callSW C hZ (pc := 824) (n := 3) (As := [.ref (rho b 8 0), .int (xs (i + 1)), .ref (b + 135)]) (rest := []) (cl_global_w l htr D ca b (hs ((xs (i + 1))) _ _)) sw_global_1 sw_ini sw_global_2 ⟨by decide, by decide⟩ (by decide +kernel) wL_126 rfl rfl ⟨Nat.le_of_ble_eq_true rfl, Nat.le_of_ble_eq_true rfl⟩ rfl rfl (Nat.le_of_ble_eq_true rfl) ⟨hcells, hslots⟩ dL_law_824 (fun z u hz => ?_)
  refine n_istore C (pc := 827) (ls' := [(6, .int z), (0, .ref sb), (1, .ref (rho b 8 0)), (2, .ref (rho b 9 0)), (3, .ref (b + 135)), (4, .ref (b + 136)), (5, .int (nI i))]) (Nat.le_of_ble_eq_true rfl) rfl dL_law_827 ?_
  refine n_aload_n C (pc := 829) 3 rfl dL_law_829 ?_
  refine n_aload_n C (pc := 830) 1 rfl dL_law_830 ?_
  refine n_iload C (pc := 831) 6 rfl dL_law_831 ?_
  refine n_iconst C (pc := 833) (v := 1) dL_law_833 (by decide) ?_
  refine n_iadd C (pc := 834) dL_law_834 ?_
  refine n_sarg C hX hbl hbs hLm (pc := 835) (j := i + 1) (nI_add i 1) (by omega) dL_law_835 ?_
  refine n_callFl C hbs (pc := 836) (n := 1) (As := [.int (xs (i + 1))]) (rest := []) (fun sz => ct9_global l D ca (rho b) sz (Ap_PF b) hz) mf9_global rfl wL_128 rfl rfl ⟨Nat.le_of_ble_eq_true rfl, Nat.le_of_ble_eq_true rfl⟩ rfl rfl (Nat.le_of_ble_eq_true rfl) ⟨hcells, hslots⟩ dL_law_836 (fun rb X15 hr => ?_)
  refine n_lstore C (pc := 839) (ls' := [(7, .long rb), (6, .int z), (0, .ref sb), (1, .ref (rho b 8 0)), (2, .ref (rho b 9 0)), (3, .ref (b + 135)), (4, .ref (b + 136)), (5, .int (nI i))]) (Nat.le_of_ble_eq_true rfl) rfl dL_law_839 ?_
  refine n_aload_n C (pc := 841) 4 rfl dL_law_841 ?_
  refine n_callFi C hbs (pc := 842) (n := 0) (As := []) (rest := []) (fun sz => ct9_thrown l D ca (rho b) sz (Ap_PF b) hr) mf9_thrown rfl wL_86 rfl rfl ⟨Nat.le_of_ble_eq_true rfl, Nat.le_of_ble_eq_true rfl⟩ rfl rfl (Nat.le_of_ble_eq_true rfl) ⟨hcells, hslots⟩ dL_law_842 (fun th X18 hq => ?_)
  refine n_iload C (pc := 845) 1 rfl dL_law_845 ?_
  refine n_icmp_eq C (pc := 847) (tgt := 852) dL_law_847 (by decide) (fun _ => ?_) (fun q => absurd hq.1 q)
  refine n_iload C (pc := 852) 1 rfl dL_law_852 ?_
  refine n_if_ne C (pc := 854) (tgt := 868) dL_law_854 (by decide) (fun _ => ?_) (fun h0 => ?_)
  · refine n_goto C (pc := 868) (tgt := 1068) dL_law_868 (by decide) ?_
    refine n_sub (ls' := [(0, .ref sb), (1, .ref (rho b 8 0)), (2, .ref (rho b 9 0)), (3, .ref (b + 135)), (4, .ref (b + 136)), (5, .int (nI i))]) [2, 3, 4, 5, 6, 7] rfl ?_
    exact hend _ _ _ _ _ _ (by omega) (by omega) hq.2.2
  · have hag := hq.2.1 h0
    refine n_aload_n C (pc := 857) 5 rfl dL_law_857 ?_
    refine n_iconst C (pc := 858) (v := 0) dL_law_858 (by decide) ?_
    refine n_lout C (pc := 859) dL_law_859 ?_
    refine n_lload C (pc := 860) 0 rfl dL_law_860 ?_
    refine n_lcmp C (pc := 862) dL_law_862 ?_
    refine n_if_eq C (pc := 863) (tgt := 868) dL_law_863 (by decide) (fun _ => ?_) (fun q => absurd (by rw [hag]; exact lgc_self _) q)
    refine n_goto C (pc := 868) (tgt := 1068) dL_law_868 (by decide) ?_
    refine n_sub (ls' := [(0, .ref sb), (1, .ref (rho b 8 0)), (2, .ref (rho b 9 0)), (3, .ref (b + 135)), (4, .ref (b + 136)), (5, .int (nI i))]) [2, 3, 4, 5, 6, 7] rfl ?_
    exact hend _ _ _ _ _ _ (by omega) (by omega) hq.2.2
set_option maxHeartbeats 2000000 in
theorem lw_realGlobal {p : Program} {l : Launch} {e : Env} {s : State} {m : MethodId} {below : List Frame} {meth : Method} {c : Code} {D : va_G} {ca : Nat → ClassId} {b sb L : Nat} {xs : Nat → Int32} (htr : l.stackTraces = false) (hLm : L ≤ 2560) (C : Cn p l s m meth c RL bL_law 10 D ca) (hX : va_X sb L xs s s.heap) (hbl : sb < s.heap.size) (hbs : b = s.heap.size) (hZ : Zs (frs b) s s.heap) (K : St → St → Prop) {i : Nat} (hi : i + 5 ≤ L) {S M : St} {f : Nat → Int64} {g : Nat → UInt64} (hs : st_realGlobal K S M) (hend : ∀ (S' M' : St) (f' : Nat → Int64) (g' : Nat → UInt64) (ce sl : Nat), ce ≤ 138 + i → sl ≤ 3455 + 6 * i → K S' M' → wn p l e room_1 s m #[Value.ref sb] below meth c 10 ce sl (lw_Z below #[Value.ref sb] s) (frs b) (GL D ca b S' M' f' g') 1068 [(0, .ref sb), (1, .ref (rho b 8 0)), (2, .ref (rho b 9 0)), (3, .ref (b + 135)), (4, .ref (b + 136)), (5, .int (nI i))] []) : wn p l e room_1 s m #[Value.ref sb] below meth c 10 (137 + i) (3449 + 6 * i) (lw_Z below #[Value.ref sb] s) (frs b) (GL D ca b S M f g) 871 [(0, .ref sb), (1, .ref (rho b 8 0)), (2, .ref (rho b 9 0)), (3, .ref (b + 135)), (4, .ref (b + 136)), (5, .int (nI i))] [] := by
  have hcells : 137 + i + 1 ≤ room_1.cells := by show _ ≤ 601024; omega
  have hslots : 3449 + 6 * i + 6 ≤ room_1.slots := by show _ ≤ 7293034; omega
  have hcells0 : 137 + i ≤ room_1.cells := by show _ ≤ 601024; omega
  have hslots0 : 3449 + 6 * i ≤ room_1.slots := by show _ ≤ 7293034; omega
  refine n_aload_n C (pc := 871) 1 rfl dL_law_871 ?_
  refine n_callTd C hbs (pc := 872) (n := 0) (As := []) (rest := []) (fun sz => ct8_realGlobal l D ca (rho b) sz (Ap_PT b) hs) mf8_realGlobal rfl wL_129 rfl rfl ⟨Nat.le_of_ble_eq_true rfl, Nat.le_of_ble_eq_true rfl⟩ rfl rfl (Nat.le_of_ble_eq_true rfl) ⟨hcells0, hslots0⟩ dL_law_872 (fun r X1 hz => ?_)
  refine n_dstore C (pc := 875) (ls' := [(6, .double r), (0, .ref sb), (1, .ref (rho b 8 0)), (2, .ref (rho b 9 0)), (3, .ref (b + 135)), (4, .ref (b + 136)), (5, .int (nI i))]) (Nat.le_of_ble_eq_true rfl) rfl dL_law_875 ?_
  refine n_aload_n C (pc := 877) 3 rfl dL_law_877 ?_
  refine n_callFd C hbs (pc := 878) (n := 0) (As := []) (rest := []) (fun sz => ct9_realGlobal l D ca (rho b) sz (Ap_PF b) hz) mf9_realGlobal rfl wL_132 rfl rfl ⟨Nat.le_of_ble_eq_true rfl, Nat.le_of_ble_eq_true rfl⟩ rfl rfl (Nat.le_of_ble_eq_true rfl) ⟨hcells0, hslots0⟩ dL_law_878 (fun rb X4 hq => ?_)
  refine n_dstore C (pc := 881) (ls' := [(8, .double rb), (6, .double r), (0, .ref sb), (1, .ref (rho b 8 0)), (2, .ref (rho b 9 0)), (3, .ref (b + 135)), (4, .ref (b + 136)), (5, .int (nI i))]) (Nat.le_of_ble_eq_true rfl) rfl dL_law_881 ?_
  refine n_dload C (pc := 883) 1 rfl dL_law_883 ?_
  refine n_dload C (pc := 885) 0 rfl dL_law_885 ?_
  refine n_dcmp C (pc := 887) dL_law_887 ?_
  refine n_if_eq C (pc := 888) (tgt := 909) dL_law_888 (by decide) (fun _ => ?_) (fun q => ?_)
  · refine n_goto C (pc := 909) (tgt := 1068) dL_law_909 (by decide) ?_
    refine n_sub (ls' := [(0, .ref sb), (1, .ref (rho b 8 0)), (2, .ref (rho b 9 0)), (3, .ref (b + 135)), (4, .ref (b + 136)), (5, .int (nI i))]) [2, 3, 4, 5, 6, 7] rfl ?_
    exact hend _ _ _ _ _ _ (by omega) (by omega) hq.2
  · have hn := hq.1.resolve_left q
    refine n_dload C (pc := 891) 1 rfl dL_law_891 ?_
    refine n_dload C (pc := 893) 1 rfl dL_law_893 ?_
    refine n_dcmp C (pc := 895) dL_law_895 ?_
    refine n_if_eq C (pc := 896) (tgt := 907) dL_law_896 (by decide) (fun q => absurd q hn.1) (fun _ => ?_)
    refine n_dload C (pc := 899) 0 rfl dL_law_899 ?_
    refine n_dload C (pc := 901) 0 rfl dL_law_901 ?_
    refine n_dcmp C (pc := 903) dL_law_903 ?_
    refine n_if_ne C (pc := 904) (tgt := 909) dL_law_904 (by decide) (fun _ => ?_) (fun q => absurd q hn.2)
    refine n_goto C (pc := 909) (tgt := 1068) dL_law_909 (by decide) ?_
    refine n_sub (ls' := [(0, .ref sb), (1, .ref (rho b 8 0)), (2, .ref (rho b 9 0)), (3, .ref (b + 135)), (4, .ref (b + 136)), (5, .int (nI i))]) [2, 3, 4, 5, 6, 7] rfl ?_
    exact hend _ _ _ _ _ _ (by omega) (by omega) hq.2
set_option maxHeartbeats 2000000 in
theorem lw_memory {p : Program} {l : Launch} {e : Env} {s : State} {m : MethodId} {below : List Frame} {meth : Method} {c : Code} {D : va_G} {ca : Nat → ClassId} {b sb L : Nat} {xs : Nat → Int32} (htr : l.stackTraces = false) (hLm : L ≤ 2560) (C : Cn p l s m meth c RL bL_law 10 D ca) (hX : va_X sb L xs s s.heap) (hbl : sb < s.heap.size) (hbs : b = s.heap.size) (hZ : Zs (frs b) s s.heap) (K : St → St → Prop) {i : Nat} (hi : i + 5 ≤ L) {S M : St} {f : Nat → Int64} {g : Nat → UInt64} (hs : ∀ (x1 : Int32) (f : Nat → Int64) (g : Nat → UInt64), st_memory K S M x1 f g) (hend : ∀ (S' M' : St) (f' : Nat → Int64) (g' : Nat → UInt64) (ce sl : Nat), ce ≤ 138 + i → sl ≤ 3455 + 6 * i → K S' M' → wn p l e room_1 s m #[Value.ref sb] below meth c 10 ce sl (lw_Z below #[Value.ref sb] s) (frs b) (GL D ca b S' M' f' g') 1068 [(0, .ref sb), (1, .ref (rho b 8 0)), (2, .ref (rho b 9 0)), (3, .ref (b + 135)), (4, .ref (b + 136)), (5, .int (nI i))] []) : wn p l e room_1 s m #[Value.ref sb] below meth c 10 (137 + i) (3449 + 6 * i) (lw_Z below #[Value.ref sb] s) (frs b) (GL D ca b S M f g) 912 [(0, .ref sb), (1, .ref (rho b 8 0)), (2, .ref (rho b 9 0)), (3, .ref (b + 135)), (4, .ref (b + 136)), (5, .int (nI i))] [] := by
  have hcells : 137 + i + 1 ≤ room_1.cells := by show _ ≤ 601024; omega
  have hslots : 3449 + 6 * i + 6 ≤ room_1.slots := by show _ ≤ 7293034; omega
  have hcells0 : 137 + i ≤ room_1.cells := by show _ ≤ 601024; omega
  have hslots0 : 3449 + 6 * i ≤ room_1.slots := by show _ ≤ 7293034; omega
  refine n_aload_n C (pc := 912) 1 rfl dL_law_912 ?_
  refine n_aload_n C (pc := 913) 0 rfl dL_law_913 ?_
  refine n_iload C (pc := 914) 5 rfl dL_law_914 ?_
  refine n_iconst C (pc := 916) (v := 1) dL_law_916 (by decide) ?_
  refine n_iadd C (pc := 917) dL_law_917 ?_
  refine n_sarg C hX hbl hbs hLm (pc := 918) (j := i + 1) (nI_add i 1) (by omega) dL_law_918 ?_
  refine n_aload_n C (pc := 919) 3 rfl dL_law_919 ?_
  refine n_callSW C hZ (pc := 920) (n := 3) (As := [.ref (rho b 8 0), .int (xs (i + 1)), .ref (b + 135)]) (rest := []) (cl_memory_w l htr D ca b (hs ((xs (i + 1))) _ _)) sw_memory_1 sw_ini sw_memory_2 ⟨by decide, by decide⟩ (by decide +kernel) wL_133 rfl rfl ⟨Nat.le_of_ble_eq_true rfl, Nat.le_of_ble_eq_true rfl⟩ rfl rfl (Nat.le_of_ble_eq_true rfl) ⟨hcells, hslots⟩ dL_law_920 (fun z u hz => ?_)
  refine n_istore C (pc := 923) (ls' := [(6, .int z), (0, .ref sb), (1, .ref (rho b 8 0)), (2, .ref (rho b 9 0)), (3, .ref (b + 135)), (4, .ref (b + 136)), (5, .int (nI i))]) (Nat.le_of_ble_eq_true rfl) rfl dL_law_923 ?_
  refine n_aload_n C (pc := 925) 3 rfl dL_law_925 ?_
  refine n_aload_n C (pc := 926) 1 rfl dL_law_926 ?_
  refine n_iload C (pc := 927) 6 rfl dL_law_927 ?_
  refine n_iconst C (pc := 929) (v := 1) dL_law_929 (by decide) ?_
  refine n_iadd C (pc := 930) dL_law_930 ?_
  refine n_sarg C hX hbl hbs hLm (pc := 931) (j := i + 1) (nI_add i 1) (by omega) dL_law_931 ?_
  refine n_callFi C hbs (pc := 932) (n := 1) (As := [.int (xs (i + 1))]) (rest := []) (fun sz => ct9_memory l D ca (rho b) sz (Ap_PF b) hz) mf9_memory rfl wL_135 rfl rfl ⟨Nat.le_of_ble_eq_true rfl, Nat.le_of_ble_eq_true rfl⟩ rfl rfl (Nat.le_of_ble_eq_true rfl) ⟨hcells, hslots⟩ dL_law_932 (fun rb X15 hr => ?_)
  refine n_istore C (pc := 935) (ls' := [(7, .int rb), (6, .int z), (0, .ref sb), (1, .ref (rho b 8 0)), (2, .ref (rho b 9 0)), (3, .ref (b + 135)), (4, .ref (b + 136)), (5, .int (nI i))]) (Nat.le_of_ble_eq_true rfl) rfl dL_law_935 ?_
  refine n_aload_n C (pc := 937) 4 rfl dL_law_937 ?_
  refine n_callFi C hbs (pc := 938) (n := 0) (As := []) (rest := []) (fun sz => ct9_thrown l D ca (rho b) sz (Ap_PF b) hr) mf9_thrown rfl wL_86 rfl rfl ⟨Nat.le_of_ble_eq_true rfl, Nat.le_of_ble_eq_true rfl⟩ rfl rfl (Nat.le_of_ble_eq_true rfl) ⟨hcells, hslots⟩ dL_law_938 (fun th X18 hq => ?_)
  refine n_iload C (pc := 941) 1 rfl dL_law_941 ?_
  refine n_icmp_eq C (pc := 943) (tgt := 948) dL_law_943 (by decide) (fun _ => ?_) (fun q => absurd hq.1 q)
  refine n_iload C (pc := 948) 1 rfl dL_law_948 ?_
  refine n_if_ne C (pc := 950) (tgt := 965) dL_law_950 (by decide) (fun _ => ?_) (fun h0 => ?_)
  · refine n_goto C (pc := 965) (tgt := 1068) dL_law_965 (by decide) ?_
    refine n_sub (ls' := [(0, .ref sb), (1, .ref (rho b 8 0)), (2, .ref (rho b 9 0)), (3, .ref (b + 135)), (4, .ref (b + 136)), (5, .int (nI i))]) [2, 3, 4, 5, 6, 7] rfl ?_
    exact hend _ _ _ _ _ _ (by omega) (by omega) hq.2.2
  · have hag := hq.2.1 h0
    refine n_aload_n C (pc := 953) 5 rfl dL_law_953 ?_
    refine n_iconst C (pc := 954) (v := 0) dL_law_954 (by decide) ?_
    refine n_lout C (pc := 955) dL_law_955 ?_
    refine n_iload C (pc := 956) 0 rfl dL_law_956 ?_
    refine n_i2l C (pc := 958) dL_law_958 ?_
    refine n_lcmp C (pc := 959) dL_law_959 ?_
    refine n_if_eq C (pc := 960) (tgt := 965) dL_law_960 (by decide) (fun _ => ?_) (fun q => absurd (by rw [hag]; exact lgc_self _) q)
    refine n_goto C (pc := 965) (tgt := 1068) dL_law_965 (by decide) ?_
    refine n_sub (ls' := [(0, .ref sb), (1, .ref (rho b 8 0)), (2, .ref (rho b 9 0)), (3, .ref (b + 135)), (4, .ref (b + 136)), (5, .int (nI i))]) [2, 3, 4, 5, 6, 7] rfl ?_
    exact hend _ _ _ _ _ _ (by omega) (by omega) hq.2.2
set_option maxHeartbeats 2000000 in
theorem lw_wipe {p : Program} {l : Launch} {e : Env} {s : State} {m : MethodId} {below : List Frame} {meth : Method} {c : Code} {D : va_G} {ca : Nat → ClassId} {b sb L : Nat} {xs : Nat → Int32} (htr : l.stackTraces = false) (hLm : L ≤ 2560) (C : Cn p l s m meth c RL bL_law 10 D ca) (hX : va_X sb L xs s s.heap) (hbl : sb < s.heap.size) (hbs : b = s.heap.size) (hZ : Zs (frs b) s s.heap) (K : St → St → Prop) {i : Nat} (hi : i + 5 ≤ L) {S M : St} {f : Nat → Int64} {g : Nat → UInt64} (hs : ∀  (f : Nat → Int64) (g : Nat → UInt64), st_wipe K S M  f g) (hend : ∀ (S' M' : St) (f' : Nat → Int64) (g' : Nat → UInt64) (ce sl : Nat), ce ≤ 138 + i → sl ≤ 3455 + 6 * i → K S' M' → wn p l e room_1 s m #[Value.ref sb] below meth c 10 ce sl (lw_Z below #[Value.ref sb] s) (frs b) (GL D ca b S' M' f' g') 1068 [(0, .ref sb), (1, .ref (rho b 8 0)), (2, .ref (rho b 9 0)), (3, .ref (b + 135)), (4, .ref (b + 136)), (5, .int (nI i))] []) : wn p l e room_1 s m #[Value.ref sb] below meth c 10 (137 + i) (3449 + 6 * i) (lw_Z below #[Value.ref sb] s) (frs b) (GL D ca b S M f g) 968 [(0, .ref sb), (1, .ref (rho b 8 0)), (2, .ref (rho b 9 0)), (3, .ref (b + 135)), (4, .ref (b + 136)), (5, .int (nI i))] [] := by
  have hcells : 137 + i + 1 ≤ room_1.cells := by show _ ≤ 601024; omega
  have hslots : 3449 + 6 * i + 6 ≤ room_1.slots := by show _ ≤ 7293034; omega
  have hcells0 : 137 + i ≤ room_1.cells := by show _ ≤ 601024; omega
  have hslots0 : 3449 + 6 * i ≤ room_1.slots := by show _ ≤ 7293034; omega
  refine n_aload_n C (pc := 968) 1 rfl dL_law_968 ?_
  refine n_aload_n C (pc := 969) 3 rfl dL_law_969 ?_
  refine n_callSW C hZ (pc := 970) (n := 2) (As := [.ref (rho b 8 0), .ref (b + 135)]) (rest := []) (cl_wipe_w l htr D ca b (hs _ _)) sw_wipe_1 sw_ini sw_wipe_2 ⟨by decide, by decide⟩ (by decide +kernel) wL_136 rfl rfl ⟨Nat.le_of_ble_eq_true rfl, Nat.le_of_ble_eq_true rfl⟩ rfl rfl (Nat.le_of_ble_eq_true rfl) ⟨hcells, hslots⟩ dL_law_970 (fun z u hz => ?_)
  refine n_istore C (pc := 973) (ls' := [(6, .int z), (0, .ref sb), (1, .ref (rho b 8 0)), (2, .ref (rho b 9 0)), (3, .ref (b + 135)), (4, .ref (b + 136)), (5, .int (nI i))]) (Nat.le_of_ble_eq_true rfl) rfl dL_law_973 ?_
  refine n_aload_n C (pc := 975) 3 rfl dL_law_975 ?_
  refine n_callFi C hbs (pc := 976) (n := 0) (As := []) (rest := []) (fun sz => ct9_wipe l D ca (rho b) sz (Ap_PF b) hz) mf9_wipe rfl wL_138 rfl rfl ⟨Nat.le_of_ble_eq_true rfl, Nat.le_of_ble_eq_true rfl⟩ rfl rfl (Nat.le_of_ble_eq_true rfl) ⟨hcells, hslots⟩ dL_law_976 (fun rb X5 hr => ?_)
  refine n_istore C (pc := 979) (ls' := [(7, .int rb), (6, .int z), (0, .ref sb), (1, .ref (rho b 8 0)), (2, .ref (rho b 9 0)), (3, .ref (b + 135)), (4, .ref (b + 136)), (5, .int (nI i))]) (Nat.le_of_ble_eq_true rfl) rfl dL_law_979 ?_
  refine n_aload_n C (pc := 981) 4 rfl dL_law_981 ?_
  refine n_callFi C hbs (pc := 982) (n := 0) (As := []) (rest := []) (fun sz => ct9_thrown l D ca (rho b) sz (Ap_PF b) hr) mf9_thrown rfl wL_86 rfl rfl ⟨Nat.le_of_ble_eq_true rfl, Nat.le_of_ble_eq_true rfl⟩ rfl rfl (Nat.le_of_ble_eq_true rfl) ⟨hcells, hslots⟩ dL_law_982 (fun th X8 hq => ?_)
  refine n_iload C (pc := 985) 1 rfl dL_law_985 ?_
  refine n_icmp_eq C (pc := 987) (tgt := 992) dL_law_987 (by decide) (fun _ => ?_) (fun q => absurd hq.1 q)
  refine n_iload C (pc := 992) 1 rfl dL_law_992 ?_
  refine n_if_ne C (pc := 994) (tgt := 1009) dL_law_994 (by decide) (fun _ => ?_) (fun h0 => ?_)
  · refine n_goto C (pc := 1009) (tgt := 1068) dL_law_1009 (by decide) ?_
    refine n_sub (ls' := [(0, .ref sb), (1, .ref (rho b 8 0)), (2, .ref (rho b 9 0)), (3, .ref (b + 135)), (4, .ref (b + 136)), (5, .int (nI i))]) [2, 3, 4, 5, 6, 7] rfl ?_
    exact hend _ _ _ _ _ _ (by omega) (by omega) hq.2.2
  · have hag := hq.2.1 h0
    refine n_aload_n C (pc := 997) 5 rfl dL_law_997 ?_
    refine n_iconst C (pc := 998) (v := 0) dL_law_998 (by decide) ?_
    refine n_lout C (pc := 999) dL_law_999 ?_
    refine n_iload C (pc := 1000) 0 rfl dL_law_1000 ?_
    refine n_i2l C (pc := 1002) dL_law_1002 ?_
    refine n_lcmp C (pc := 1003) dL_law_1003 ?_
    refine n_if_eq C (pc := 1004) (tgt := 1009) dL_law_1004 (by decide) (fun _ => ?_) (fun q => absurd (by rw [hag]; exact lgc_self _) q)
    refine n_goto C (pc := 1009) (tgt := 1068) dL_law_1009 (by decide) ?_
    refine n_sub (ls' := [(0, .ref sb), (1, .ref (rho b 8 0)), (2, .ref (rho b 9 0)), (3, .ref (b + 135)), (4, .ref (b + 136)), (5, .int (nI i))]) [2, 3, 4, 5, 6, 7] rfl ?_
    exact hend _ _ _ _ _ _ (by omega) (by omega) hq.2.2
set_option maxHeartbeats 2000000 in
theorem lw_count {p : Program} {l : Launch} {e : Env} {s : State} {m : MethodId} {below : List Frame} {meth : Method} {c : Code} {D : va_G} {ca : Nat → ClassId} {b sb L : Nat} {xs : Nat → Int32} (htr : l.stackTraces = false) (hLm : L ≤ 2560) (C : Cn p l s m meth c RL bL_law 10 D ca) (hX : va_X sb L xs s s.heap) (hbl : sb < s.heap.size) (hbs : b = s.heap.size) (hZ : Zs (frs b) s s.heap) (K : St → St → Prop) {i : Nat} (hi : i + 5 ≤ L) {S M : St} {f : Nat → Int64} {g : Nat → UInt64} (hs : ∀ (x1 : Int32) (f : Nat → Int64) (g : Nat → UInt64), st_count K S M x1 f g) (hend : ∀ (S' M' : St) (f' : Nat → Int64) (g' : Nat → UInt64) (ce sl : Nat), ce ≤ 138 + i → sl ≤ 3455 + 6 * i → K S' M' → wn p l e room_1 s m #[Value.ref sb] below meth c 10 ce sl (lw_Z below #[Value.ref sb] s) (frs b) (GL D ca b S' M' f' g') 1068 [(0, .ref sb), (1, .ref (rho b 8 0)), (2, .ref (rho b 9 0)), (3, .ref (b + 135)), (4, .ref (b + 136)), (5, .int (nI i))] []) : wn p l e room_1 s m #[Value.ref sb] below meth c 10 (137 + i) (3449 + 6 * i) (lw_Z below #[Value.ref sb] s) (frs b) (GL D ca b S M f g) 1012 [(0, .ref sb), (1, .ref (rho b 8 0)), (2, .ref (rho b 9 0)), (3, .ref (b + 135)), (4, .ref (b + 136)), (5, .int (nI i))] [] := by
  have hcells : 137 + i + 1 ≤ room_1.cells := by show _ ≤ 601024; omega
  have hslots : 3449 + 6 * i + 6 ≤ room_1.slots := by show _ ≤ 7293034; omega
  have hcells0 : 137 + i ≤ room_1.cells := by show _ ≤ 601024; omega
  have hslots0 : 3449 + 6 * i ≤ room_1.slots := by show _ ≤ 7293034; omega
  refine n_aload_n C (pc := 1012) 1 rfl dL_law_1012 ?_
  refine n_aload_n C (pc := 1013) 0 rfl dL_law_1013 ?_
  refine n_iload C (pc := 1014) 5 rfl dL_law_1014 ?_
  refine n_iconst C (pc := 1016) (v := 1) dL_law_1016 (by decide) ?_
  refine n_iadd C (pc := 1017) dL_law_1017 ?_
  refine n_sarg C hX hbl hbs hLm (pc := 1018) (j := i + 1) (nI_add i 1) (by omega) dL_law_1018 ?_
  refine n_aload_n C (pc := 1019) 3 rfl dL_law_1019 ?_
  refine n_callSW C hZ (pc := 1020) (n := 3) (As := [.ref (rho b 8 0), .int (xs (i + 1)), .ref (b + 135)]) (rest := []) (cl_count_w l htr D ca b (hs ((xs (i + 1))) _ _)) sw_count_1 sw_ini sw_count_2 ⟨by decide, by decide⟩ (by decide +kernel) wL_139 rfl rfl ⟨Nat.le_of_ble_eq_true rfl, Nat.le_of_ble_eq_true rfl⟩ rfl rfl (Nat.le_of_ble_eq_true rfl) ⟨hcells, hslots⟩ dL_law_1020 (fun z u hz => ?_)
  refine n_istore C (pc := 1023) (ls' := [(6, .int z), (0, .ref sb), (1, .ref (rho b 8 0)), (2, .ref (rho b 9 0)), (3, .ref (b + 135)), (4, .ref (b + 136)), (5, .int (nI i))]) (Nat.le_of_ble_eq_true rfl) rfl dL_law_1023 ?_
  refine n_aload_n C (pc := 1025) 3 rfl dL_law_1025 ?_
  refine n_aload_n C (pc := 1026) 1 rfl dL_law_1026 ?_
  refine n_iload C (pc := 1027) 6 rfl dL_law_1027 ?_
  refine n_iconst C (pc := 1029) (v := 1) dL_law_1029 (by decide) ?_
  refine n_iadd C (pc := 1030) dL_law_1030 ?_
  refine n_sarg C hX hbl hbs hLm (pc := 1031) (j := i + 1) (nI_add i 1) (by omega) dL_law_1031 ?_
  refine n_callFi C hbs (pc := 1032) (n := 1) (As := [.int (xs (i + 1))]) (rest := []) (fun sz => ct9_count l D ca (rho b) sz (Ap_PF b) hz) mf9_count rfl wL_141 rfl rfl ⟨Nat.le_of_ble_eq_true rfl, Nat.le_of_ble_eq_true rfl⟩ rfl rfl (Nat.le_of_ble_eq_true rfl) ⟨hcells, hslots⟩ dL_law_1032 (fun rb X15 hr => ?_)
  refine n_istore C (pc := 1035) (ls' := [(7, .int rb), (6, .int z), (0, .ref sb), (1, .ref (rho b 8 0)), (2, .ref (rho b 9 0)), (3, .ref (b + 135)), (4, .ref (b + 136)), (5, .int (nI i))]) (Nat.le_of_ble_eq_true rfl) rfl dL_law_1035 ?_
  refine n_aload_n C (pc := 1037) 4 rfl dL_law_1037 ?_
  refine n_callFi C hbs (pc := 1038) (n := 0) (As := []) (rest := []) (fun sz => ct9_thrown l D ca (rho b) sz (Ap_PF b) hr) mf9_thrown rfl wL_86 rfl rfl ⟨Nat.le_of_ble_eq_true rfl, Nat.le_of_ble_eq_true rfl⟩ rfl rfl (Nat.le_of_ble_eq_true rfl) ⟨hcells, hslots⟩ dL_law_1038 (fun th X18 hq => ?_)
  refine n_iload C (pc := 1041) 1 rfl dL_law_1041 ?_
  refine n_icmp_eq C (pc := 1043) (tgt := 1048) dL_law_1043 (by decide) (fun _ => ?_) (fun q => absurd hq.1 q)
  refine n_iload C (pc := 1048) 1 rfl dL_law_1048 ?_
  refine n_if_ne C (pc := 1050) (tgt := 1065) dL_law_1050 (by decide) (fun _ => ?_) (fun h0 => ?_)
  · refine n_goto C (pc := 1065) (tgt := 1068) dL_law_1065 (by decide) ?_
    refine n_sub (ls' := [(0, .ref sb), (1, .ref (rho b 8 0)), (2, .ref (rho b 9 0)), (3, .ref (b + 135)), (4, .ref (b + 136)), (5, .int (nI i))]) [2, 3, 4, 5, 6, 7] rfl ?_
    exact hend _ _ _ _ _ _ (by omega) (by omega) hq.2.2
  · have hag := hq.2.1 h0
    refine n_aload_n C (pc := 1053) 5 rfl dL_law_1053 ?_
    refine n_iconst C (pc := 1054) (v := 0) dL_law_1054 (by decide) ?_
    refine n_lout C (pc := 1055) dL_law_1055 ?_
    refine n_iload C (pc := 1056) 0 rfl dL_law_1056 ?_
    refine n_i2l C (pc := 1058) dL_law_1058 ?_
    refine n_lcmp C (pc := 1059) dL_law_1059 ?_
    refine n_if_eq C (pc := 1060) (tgt := 1065) dL_law_1060 (by decide) (fun _ => ?_) (fun q => absurd (by rw [hag]; exact lgc_self _) q)
    refine n_goto C (pc := 1065) (tgt := 1068) dL_law_1065 (by decide) ?_
    refine n_sub (ls' := [(0, .ref sb), (1, .ref (rho b 8 0)), (2, .ref (rho b 9 0)), (3, .ref (b + 135)), (4, .ref (b + 136)), (5, .int (nI i))]) [2, 3, 4, 5, 6, 7] rfl ?_
    exact hend _ _ _ _ _ _ (by omega) (by omega) hq.2.2
set_option maxHeartbeats 2000000 in
theorem law_loop {p : Program} {l : Launch} {e : Env} {s : State} {m : MethodId} {below : List Frame} {meth : Method} {c : Code} {D : va_G} {ca : Nat → ClassId} {b sb L : Nat} {xs : Nat → Int32} (htr : l.stackTraces = false) (hLm : L ≤ 2560) (C : Cn p l s m meth c RL bL_law 10 D ca) (hr : meth.sig.returnType = ret) (hX : va_X sb L xs s s.heap) (hbl : sb < s.heap.size) (hbs : b = s.heap.size) (hZ : Zs (frs b) s s.heap) (K : St → St → Prop) (hK : stepAll K) :
    ∀ (n i : Nat) (S M : St) (f : Nat → Int64) (g : Nat → UInt64), i ≤ L + 5 → L + 10 ≤ i + n → K S M → wn p l e room_1 s m #[Value.ref sb] below meth c 10 (137 + i) (3449 + 6 * i) (lw_Z below #[Value.ref sb] s) (frs b) (GL D ca b S M f g) 28 [(0, .ref sb), (1, .ref (rho b 8 0)), (2, .ref (rho b 9 0)), (3, .ref (b + 135)), (4, .ref (b + 136)), (5, .int (nI i))] [] := by
  intro n
  induction n with
  | zero => intro i S M f g h1 h2; omega
  | succ n ih =>
    intro i S M f g h1 h2 hSM
    have hlocks : meth.locks = false := C.2.2.2.2.2.2.2
    refine n_iload C (pc := 28) 5 rfl dL_law_28 ?_
    refine n_aload_n C (pc := 30) 0 rfl dL_law_30 ?_
    refine n_slen C hX hbl hbs (pc := 31) dL_law_31 ?_
    refine n_iconst C (pc := 32) (v := 5) dL_law_32 (by decide) ?_
    refine n_isub C (pc := 33) dL_law_33 ?_
    refine n_icmp_gt C (pc := 34) (tgt := 1074) dL_law_34 (by decide) (fun q => ?_) (fun q => ?_)
    · have hi := (lw_head hLm (by omega)).mp q
      refine n_iconst C (pc := 1074) (v := 1) dL_law_1074 (by decide) ?_
      intro H locs la k1 k2 k3
      refine va_forget (fun q hq => by have := k2.2.2 q hq; show s.heap.size ≤ _; rw [← hbs]; exact this) ?_
      refine W.widen (k := 601024) (n := 7293034) (by omega) (by omega) ?_
      exact lw_ret C.1 C.2.1 hr hlocks dL_law_1075
    · have hi : i + 5 ≤ L := by
        have := mt (lw_head hLm (by omega)).mpr q
        omega
      have hend : ∀ (S' M' : St) (f' : Nat → Int64) (g' : Nat → UInt64) (ce sl : Nat), ce ≤ 138 + i → sl ≤ 3455 + 6 * i → K S' M' → wn p l e room_1 s m #[Value.ref sb] below meth c 10 ce sl (lw_Z below #[Value.ref sb] s) (frs b) (GL D ca b S' M' f' g') 1068 [(0, .ref sb), (1, .ref (rho b 8 0)), (2, .ref (rho b 9 0)), (3, .ref (b + 135)), (4, .ref (b + 136)), (5, .int (nI i))] [] := by
        intro S' M' f' g' ce sl hc1 hc2 hk
        refine n_iinc C (pc := 1068) (n := 5) (v := nI (i + 5)) (ls' := [(5, .int (nI (i + 5))), (0, .ref sb), (1, .ref (rho b 8 0)), (2, .ref (rho b 9 0)), (3, .ref (b + 135)), (4, .ref (b + 136))]) 5 rfl (nI_add i 5) (Nat.le_of_ble_eq_true rfl) rfl dL_law_1068 ?_
        refine n_goto C (pc := 1071) (tgt := 28) dL_law_1071 (by decide) ?_
        refine n_sub (ls' := [(0, .ref sb), (1, .ref (rho b 8 0)), (2, .ref (rho b 9 0)), (3, .ref (b + 135)), (4, .ref (b + 136)), (5, .int (nI (i + 5)))]) [1, 2, 3, 4, 5, 0] rfl ?_
        refine n_wide (cells' := 137 + (i + 5)) (slots' := 3449 + 6 * (i + 5)) (by omega) (by omega) ?_
        exact ih (i + 5) S' M' f' g' (by omega) (by omega) hk
      obtain ⟨h_shape, h_code, h_table, h_check, h_fault, h_argue, h_start, h_run, h_stop, h_result, h_real, h_global, h_realGlobal, h_memory, h_wipe, h_count⟩ := hK S M hSM
      refine n_aload_n C (pc := 37) 0 rfl dL_law_37 ?_
      refine n_iload C (pc := 38) 5 rfl dL_law_38 ?_
      refine n_sarg C hX hbl hbs hLm (pc := 40) (j := i) rfl (by omega) dL_law_40 ?_
      refine n_bipush C (pc := 41) (v := 15) dL_law_41 (by decide) ?_
      refine n_iand C (pc := 43) dL_law_43 ?_
      refine n_tsw_in C (pc := 44) (off := 80) (tgt := 124) (0) dL_law_44 (by decide) (by decide) (fun _ => lw_shape htr hLm C hX hbl hbs hZ K hi h_shape hend) (fun q0 => ?_)
      refine n_tsw_in C (pc := 44) (off := 172) (tgt := 216) (1) dL_law_44 (by decide) (by decide) (fun _ => lw_code htr hLm C hX hbl hbs hZ K hi h_code hend) (fun q1 => ?_)
      refine n_tsw_in C (pc := 44) (off := 284) (tgt := 328) (2) dL_law_44 (by decide) (by decide) (fun _ => lw_table htr hLm C hX hbl hbs hZ K hi h_table hend) (fun q2 => ?_)
      refine n_tsw_in C (pc := 44) (off := 352) (tgt := 396) (3) dL_law_44 (by decide) (by decide) (fun _ => lw_check htr hLm C hX hbl hbs hZ K hi h_check hend) (fun q3 => ?_)
      refine n_tsw_in C (pc := 44) (off := 396) (tgt := 440) (4) dL_law_44 (by decide) (by decide) (fun _ => lw_fault htr hLm C hX hbl hbs hZ K hi h_fault hend) (fun q4 => ?_)
      refine n_tsw_in C (pc := 44) (off := 452) (tgt := 496) (5) dL_law_44 (by decide) (by decide) (fun _ => lw_argue htr hLm C hX hbl hbs hZ K hi h_argue hend) (fun q5 => ?_)
      refine n_tsw_in C (pc := 44) (off := 508) (tgt := 552) (6) dL_law_44 (by decide) (by decide) (fun _ => lw_start htr hLm C hX hbl hbs hZ K hi h_start hend) (fun q6 => ?_)
      refine n_tsw_in C (pc := 44) (off := 564) (tgt := 608) (7) dL_law_44 (by decide) (by decide) (fun _ => lw_run htr hLm C hX hbl hbs hZ K hi h_run hend) (fun q7 => ?_)
      refine n_tsw_in C (pc := 44) (off := 620) (tgt := 664) (8) dL_law_44 (by decide) (by decide) (fun _ => lw_stop htr hLm C hX hbl hbs hZ K hi h_stop hend) (fun q8 => ?_)
      refine n_tsw_in C (pc := 44) (off := 664) (tgt := 708) (9) dL_law_44 (by decide) (by decide) (fun _ => lw_result htr hLm C hX hbl hbs hZ K hi h_result hend) (fun q9 => ?_)
      refine n_tsw_in C (pc := 44) (off := 707) (tgt := 751) (10) dL_law_44 (by decide) (by decide) (fun _ => lw_real htr hLm C hX hbl hbs hZ K hi h_real hend) (fun q10 => ?_)
      refine n_tsw_in C (pc := 44) (off := 772) (tgt := 816) (11) dL_law_44 (by decide) (by decide) (fun _ => lw_global htr hLm C hX hbl hbs hZ K hi h_global hend) (fun q11 => ?_)
      refine n_tsw_in C (pc := 44) (off := 827) (tgt := 871) (12) dL_law_44 (by decide) (by decide) (fun _ => lw_realGlobal htr hLm C hX hbl hbs hZ K hi h_realGlobal hend) (fun q12 => ?_)
      refine n_tsw_in C (pc := 44) (off := 868) (tgt := 912) (13) dL_law_44 (by decide) (by decide) (fun _ => lw_memory htr hLm C hX hbl hbs hZ K hi h_memory hend) (fun q13 => ?_)
      refine n_tsw_in C (pc := 44) (off := 924) (tgt := 968) (14) dL_law_44 (by decide) (by decide) (fun _ => lw_wipe htr hLm C hX hbl hbs hZ K hi h_wipe hend) (fun q14 => ?_)
      refine n_tsw_in C (pc := 44) (off := 968) (tgt := 1012) (15) dL_law_44 (by decide) (by decide) (fun _ => lw_count htr hLm C hX hbl hbs hZ K hi h_count hend) (fun q15 => ?_)
      refine n_tsw_out C (pc := 44) (tgt := 1068) [0, 1, 2, 3, 4, 5, 6, 7, 8, 9, 10, 11, 12, 13, 14, 15] dL_law_44 (fun v hv => by
        simp only [List.mem_cons, List.not_mem_nil, or_false] at hv
        rcases hv with rfl | rfl | rfl | rfl | rfl | rfl | rfl | rfl | rfl | rfl | rfl | rfl | rfl | rfl | rfl | rfl <;> assumption) (by decide +kernel) (by decide) ?_
      exact hend _ _ _ _ _ _ (by omega) (by omega) hSM
