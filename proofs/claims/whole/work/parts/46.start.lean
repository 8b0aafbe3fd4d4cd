/-! FROM THE LAW'S ENTRY TO ITS LOOP -/
theorem arrP {s : State} {ty : FieldType} {args : Array Value} (h : (Cond.arrayClass ty).before args s = true) (hp : ∀ C, ty ≠ .object C) : ∃ cA, ArrOfT s cA ty ∧ va_RA s cA ty := by
  obtain ⟨cA, k, comp, h1, h2, h3⟩ := Cond.arrayClass_spec h
  refine ⟨cA, fun N z => ⟨(fun k h => by cases h), k, h2, comp, h3⟩, ?_⟩
  cases ty with
  | object C => exact absurd rfl (hp C)
  | _ => exact h1
theorem arrO {s : State} {Cn : String} {args : Array Value} (h : (Cond.arrayOver (.object Cn)).before args s = true) : ∃ cA, ArrOfT s cA (.object Cn) ∧ va_RA s cA (.object Cn) := by
  obtain ⟨comp, cA, k, h1, h2, h3, h4, h5⟩ := Cond.arrayOver_spec h
  exact ⟨cA, fun N z => ⟨(fun k h => by cases h), k, h3, comp, h4⟩, k, comp, h3, h4, h1, h5⟩
theorem K_start {s : State} (hT : Tb s) : ∃ (D : va_G) (ca : Nat → ClassId), va_K D classes (tys ca) s := by
  obtain ⟨c0, i0, k0⟩ := u_known (s := s) (args := #[]) (C := R0) (T := T0) (N := 7) (n := 7) (fun w hw => hT w hw _) in0 (hT _ (tb_of 159 (by decide +kernel) rfl) _)
  obtain ⟨c1, i1, k1⟩ := u_known (s := s) (args := #[]) (C := R1) (T := T1) (N := 3) (n := 3) (fun w hw => hT w hw _) in1 (hT _ (tb_of 142 (by decide +kernel) rfl) _)
  obtain ⟨c2, i2, k2⟩ := u_known (s := s) (args := #[]) (C := R2) (T := T2) (N := 8) (n := 8) (fun w hw => hT w hw _) in2 (hT _ (tb_of 62 (by decide +kernel) rfl) _)
  obtain ⟨c3, i3, k3⟩ := u_known (s := s) (args := #[]) (C := R3) (T := T3) (N := 6) (n := 6) (fun w hw => hT w hw _) in3 (hT _ (tb_of 69 (by decide +kernel) rfl) _)
  obtain ⟨c4, i4, k4⟩ := u_known (s := s) (args := #[]) (C := R4) (T := T4) (N := 8) (n := 8) (fun w hw => hT w hw _) in4 (hT _ (tb_of 30 (by decide +kernel) rfl) _)
  obtain ⟨c6, i6, k6⟩ := u_known (s := s) (args := #[]) (C := R6) (T := T6) (N := 8) (n := 8) (fun w hw => hT w hw _) in6 (hT _ (tb_of 124 (by decide +kernel) rfl) _)
  obtain ⟨c7, i7, k7⟩ := u_known (s := s) (args := #[]) (C := R7) (T := T7) (N := 1) (n := 1) (fun w hw => hT w hw _) in7 (hT _ (tb_of 132 (by decide +kernel) rfl) _)
  obtain ⟨c8, i8, k8⟩ := u_known (s := s) (args := #[]) (C := R8) (T := T8) (N := 10) (n := 10) (fun w hw => hT w hw _) in8 (hT _ (tb_of 21 (by decide +kernel) rfl) _)
  obtain ⟨c9, i9, k9⟩ := u_known (s := s) (args := #[]) (C := R9) (T := T9) (N := 41) (n := 41) (fun w hw => hT w hw _) in9 (hT _ (tb_of 944 (by decide +kernel) rfl) _)
  obtain ⟨a0, ha0⟩ := arrP (args := #[]) (hT (.arrayClass .int) (tb_of 60 (by decide +kernel) rfl) _) (fun C h => by cases h)
  obtain ⟨a1, ha1⟩ := arrP (args := #[]) (hT (.arrayClass .long) (tb_of 157 (by decide +kernel) rfl) _) (fun C h => by cases h)
  obtain ⟨a2, ha2⟩ := arrP (args := #[]) (hT (.arrayClass .double) (tb_of 158 (by decide +kernel) rfl) _) (fun C h => by cases h)
  obtain ⟨a3, ha3⟩ := arrP (args := #[]) (hT (.arrayClass .boolean) (tb_of 1073 (by decide +kernel) rfl) _) (fun C h => by cases h)
  obtain ⟨a10, ha10⟩ := arrO (args := #[]) (hT (.arrayOver (.object "StackForge$Call")) (tb_of 130 (by decide +kernel) rfl) _)
  obtain ⟨a13, ha13⟩ := arrO (args := #[]) (hT (.arrayOver (.object "StackForge$Frame")) (tb_of 68 (by decide +kernel) rfl) _)
  obtain ⟨a14, ha14⟩ := arrO (args := #[]) (hT (.arrayOver (.object "StackForge$Function")) (tb_of 29 (by decide +kernel) rfl) _)
  refine ⟨(fun k => match k with | 0 => c0 | 1 => c1 | 2 => c2 | 3 => c3 | 4 => c4 | 5 => c3 | 6 => c6 | 7 => c7 | 8 => c8 | _ => c9, fun k => match k with | 0 => i0 | 1 => i1 | 2 => i2 | 3 => i3 | 4 => i4 | 5 => i3 | 6 => i6 | 7 => i7 | 8 => i8 | _ => i9), (fun k => match k with | 0 => a0 | 1 => a1 | 2 => a2 | 3 => a3 | 10 => a10 | 13 => a13 | _ => a14), ?_, ?_⟩
  · intro k q hq
    match k, hq with
    | 0, hq => cases hq; exact k0
    | 1, hq => cases hq; exact k1
    | 2, hq => cases hq; exact k2
    | 3, hq => cases hq; exact k3
    | 4, hq => cases hq; exact k4
    | 5, hq => cases hq; exact k3
    | 6, hq => cases hq; exact k6
    | 7, hq => cases hq; exact k7
    | 8, hq => cases hq; exact k8
    | 9, hq => cases hq; exact k9
    | k + 10, hq => simp [classes] at hq
  · intro k q hq
    match k, hq with
    | 0, hq => cases hq; exact ha0
    | 1, hq => cases hq; exact ha1
    | 2, hq => cases hq; exact ha2
    | 3, hq => cases hq; exact ha3
    | 4, hq => cases hq; exact ha10
    | 5, hq => cases hq; exact ha13
    | 6, hq => cases hq; exact ha14
    | k + 7, hq => simp [tys] at hq
theorem cst_yes {U : State} {j k : Nat} {args : Array Value} (h : (Cond.castable (excN j) (excN k)).before args U = true) : ∃ cj ck, U.vm.findClass (excN j) = some cj ∧ U.vm.findClass (excN k) = some ck ∧ (∃ z, U.vm.classes[cj]? = some z) ∧ (∃ z, U.vm.classes[ck]? = some z) ∧ U.vm.assignable cj ck = true := by
  obtain ⟨c, t, h1, h2, h3⟩ := Cond.castable_spec h
  obtain ⟨z, h4, -⟩ := Vm.findClass_spec h1
  obtain ⟨w, h5, -⟩ := Vm.findClass_spec h2
  exact ⟨c, t, h1, h2, ⟨z, h4⟩, ⟨w, h5⟩, h3⟩
theorem cst_no {U : State} {j k : Nat} {args : Array Value} (h : (Cond.not (.castable (excN j) (excN k))).before args U = true) : ∃ cj ck, U.vm.findClass (excN j) = some cj ∧ U.vm.findClass (excN k) = some ck ∧ (∃ z, U.vm.classes[cj]? = some z) ∧ (∃ z, U.vm.classes[ck]? = some z) ∧ U.vm.assignable cj ck = false := by
  obtain ⟨c, t, h1, h2, h3⟩ := va_Nc.of h
  obtain ⟨z, h4, -⟩ := Vm.findClass_spec h1
  obtain ⟨w, h5, -⟩ := Vm.findClass_spec h2
  exact ⟨c, t, h1, h2, ⟨z, h4⟩, ⟨w, h5⟩, h3⟩
theorem Cst_start {s : State} {args : Array Value} (hT : Tb s) (hgv : (Jvm.Cond.and given_1 narrow_1).before args s = true) : Cst s := by
  have hs := flat_of_before _ hgv
  intro j k h1 h2 h3 h4
  match j, k, h1, h2, h3, h4 with
  | 1, 1, _, _, _, _ => exact cst_yes (args := #[]) (hT _ (tb_of 276 (by decide +kernel) rfl) _)
  | 1, 2, _, _, _, _ => exact cst_no (args := args) (hs (.not (.castable (excN 1) (excN 2))) (by decide +kernel))
  | 1, 3, _, _, _, _ => exact cst_no (args := args) (hs (.not (.castable (excN 1) (excN 3))) (by decide +kernel))
  | 1, 4, _, _, _, _ => exact cst_no (args := args) (hs (.not (.castable (excN 1) (excN 4))) (by decide +kernel))
  | 1, 5, _, _, _, _ => exact cst_no (args := args) (hs (.not (.castable (excN 1) (excN 5))) (by decide +kernel))
  | 1, 6, _, _, _, _ => exact cst_no (args := args) (hs (.not (.castable (excN 1) (excN 6))) (by decide +kernel))
  | 1, 7, _, _, _, _ => exact cst_yes (args := #[]) (hT _ (tb_of 1316 (by decide +kernel) rfl) _)
  | 2, 1, _, _, _, _ => exact cst_no (args := args) (hs (.not (.castable (excN 2) (excN 1))) (by decide +kernel))
  | 2, 2, _, _, _, _ => exact cst_yes (args := #[]) (hT _ (tb_of 343 (by decide +kernel) rfl) _)
  | 2, 3, _, _, _, _ => exact cst_no (args := args) (hs (.not (.castable (excN 2) (excN 3))) (by decide +kernel))
  | 2, 4, _, _, _, _ => exact cst_no (args := args) (hs (.not (.castable (excN 2) (excN 4))) (by decide +kernel))
  | 2, 5, _, _, _, _ => exact cst_no (args := args) (hs (.not (.castable (excN 2) (excN 5))) (by decide +kernel))
  | 2, 6, _, _, _, _ => exact cst_no (args := args) (hs (.not (.castable (excN 2) (excN 6))) (by decide +kernel))
  | 2, 7, _, _, _, _ => exact cst_yes (args := #[]) (hT _ (tb_of 1317 (by decide +kernel) rfl) _)
  | 3, 1, _, _, _, _ => exact cst_no (args := args) (hs (.not (.castable (excN 3) (excN 1))) (by decide +kernel))
  | 3, 2, _, _, _, _ => exact cst_no (args := args) (hs (.not (.castable (excN 3) (excN 2))) (by decide +kernel))
  | 3, 3, _, _, _, _ => exact cst_yes (args := #[]) (hT _ (tb_of 386 (by decide +kernel) rfl) _)
  | 3, 4, _, _, _, _ => exact cst_no (args := args) (hs (.not (.castable (excN 3) (excN 4))) (by decide +kernel))
  | 3, 5, _, _, _, _ => exact cst_no (args := args) (hs (.not (.castable (excN 3) (excN 5))) (by decide +kernel))
  | 3, 6, _, _, _, _ => exact cst_no (args := args) (hs (.not (.castable (excN 3) (excN 6))) (by decide +kernel))
  | 3, 7, _, _, _, _ => exact cst_yes (args := #[]) (hT _ (tb_of 1318 (by decide +kernel) rfl) _)
  | 4, 1, _, _, _, _ => exact cst_no (args := args) (hs (.not (.castable (excN 4) (excN 1))) (by decide +kernel))
  | 4, 2, _, _, _, _ => exact cst_no (args := args) (hs (.not (.castable (excN 4) (excN 2))) (by decide +kernel))
  | 4, 3, _, _, _, _ => exact cst_no (args := args) (hs (.not (.castable (excN 4) (excN 3))) (by decide +kernel))
  | 4, 4, _, _, _, _ => exact cst_yes (args := #[]) (hT _ (tb_of 833 (by decide +kernel) rfl) _)
  | 4, 5, _, _, _, _ => exact cst_no (args := args) (hs (.not (.castable (excN 4) (excN 5))) (by decide +kernel))
  | 4, 6, _, _, _, _ => exact cst_no (args := args) (hs (.not (.castable (excN 4) (excN 6))) (by decide +kernel))
  | 4, 7, _, _, _, _ => exact cst_yes (args := #[]) (hT _ (tb_of 1315 (by decide +kernel) rfl) _)
  | 5, 1, _, _, _, _ => exact cst_no (args := args) (hs (.not (.castable (excN 5) (excN 1))) (by decide +kernel))
  | 5, 2, _, _, _, _ => exact cst_no (args := args) (hs (.not (.castable (excN 5) (excN 2))) (by decide +kernel))
  | 5, 3, _, _, _, _ => exact cst_no (args := args) (hs (.not (.castable (excN 5) (excN 3))) (by decide +kernel))
  | 5, 4, _, _, _, _ => exact cst_no (args := args) (hs (.not (.castable (excN 5) (excN 4))) (by decide +kernel))
  | 5, 5, _, _, _, _ => exact cst_yes (args := #[]) (hT _ (tb_of 549 (by decide +kernel) rfl) _)
  | 5, 6, _, _, _, _ => exact cst_no (args := args) (hs (.not (.castable (excN 5) (excN 6))) (by decide +kernel))
  | 5, 7, _, _, _, _ => exact cst_yes (args := #[]) (hT _ (tb_of 1319 (by decide +kernel) rfl) _)
  | 6, 1, _, _, _, _ => exact cst_no (args := args) (hs (.not (.castable (excN 6) (excN 1))) (by decide +kernel))
  | 6, 2, _, _, _, _ => exact cst_no (args := args) (hs (.not (.castable (excN 6) (excN 2))) (by decide +kernel))
  | 6, 3, _, _, _, _ => exact cst_no (args := args) (hs (.not (.castable (excN 6) (excN 3))) (by decide +kernel))
  | 6, 4, _, _, _, _ => exact cst_no (args := args) (hs (.not (.castable (excN 6) (excN 4))) (by decide +kernel))
  | 6, 5, _, _, _, _ => exact cst_no (args := args) (hs (.not (.castable (excN 6) (excN 5))) (by decide +kernel))
  | 6, 6, _, _, _, _ => exact cst_yes (args := #[]) (hT _ (tb_of 848 (by decide +kernel) rfl) _)
  | 6, 7, _, _, _, _ => exact cst_yes (args := #[]) (hT _ (tb_of 1320 (by decide +kernel) rfl) _)
  | 7, 1, _, _, _, _ => exact cst_no (args := args) (hs (.not (.castable (excN 7) (excN 1))) (by decide +kernel))
  | 7, 2, _, _, _, _ => exact cst_no (args := args) (hs (.not (.castable (excN 7) (excN 2))) (by decide +kernel))
  | 7, 3, _, _, _, _ => exact cst_no (args := args) (hs (.not (.castable (excN 7) (excN 3))) (by decide +kernel))
  | 7, 4, _, _, _, _ => exact cst_no (args := args) (hs (.not (.castable (excN 7) (excN 4))) (by decide +kernel))
  | 7, 5, _, _, _, _ => exact cst_no (args := args) (hs (.not (.castable (excN 7) (excN 5))) (by decide +kernel))
  | 7, 6, _, _, _, _ => exact cst_no (args := args) (hs (.not (.castable (excN 7) (excN 6))) (by decide +kernel))
  | 7, 7, _, _, _, _ => exact cst_yes (args := #[]) (hT _ (tb_of 863 (by decide +kernel) rfl) _)
  | 0, _, h1, _, _, _ => omega
  | _, 0, _, _, h3, _ => omega
  | j + 8, _, _, h2, _, _ => omega
  | _, k + 8, _, _, _, h4 => omega
theorem Zs_start {s : State} {args : Array Value} (hts : ∀ w ∈ lw_tbl, w.before args s = true) (hgv : (Jvm.Cond.and given_1 narrow_1).before args s = true) : Zs (frs s.heap.size) s s.heap := by
  have hs := flat_of_before _ hgv
  refine ⟨Zx.of (args := args) (args' := args) (hts _ (by decide +kernel)) (hs _ (by decide +kernel)) (fun a ha => Nat.not_le.mpr ha), Zx.of (args := args) (args' := args) (hts _ (by decide +kernel)) (hs _ (by decide +kernel)) (fun a ha => Nat.not_le.mpr ha)⟩
set_option maxHeartbeats 2000000 in
set_option maxRecDepth 100000 in
theorem law_start {p : Program} {e : Env} {s : State} {m : MethodId} {below : List Frame} {meth : Method} {c : Code} (l : Launch) (htr : l.stackTraces = false) {b L : Nat} {xs : Nat → Int32} (hL : L ≤ 2560) (C0 : lw_At p s m meth c b L xs) (K : St → St → Prop) (hK : stepAll K) (h0 : K S0 S0) : W p l e room_1 s m #[Value.ref b] below meth c s.heap [] 0 0 (lw_Z below #[Value.ref b] s) (entryFrame m ([Value.ref b] : List Value).toArray 10) := by
  obtain ⟨hx, hb, hr, hml, hown, hts, hX, hbl, hlocks, hgv⟩ := id C0
  have hT : Tb s := Tb.of hts
  have hC : Cst s := Cst_start hT hgv
  have hZ := Zs_start hts hgv
  obtain ⟨D, ca, hKs⟩ := K_start hT
  have CG : Cg p l s m meth c RL bL_law 10 D ca := ⟨hx, hb, hml, hown, hT, hKs, hlocks⟩
  have CN : Cn p l s m meth c RL bL_law 10 D ca := ⟨hx, hb, hml, hown, hT, hKs, hC, hlocks⟩
  have hl := lv_entry ([.ref b]) (n := 10) (Nat.le_of_ble_eq_true rfl)
  rw [lg_entry_eq]
  have hl : lv_has _ 10 [(0, .ref b)] := hl
  suffices h : wg p l e room_1 s m #[Value.ref b] below meth c D s.heap.size 10 0 0 (lw_Z below #[Value.ref b] s) 0 [(0, .ref b)] [] (fun _ => none) 0 from h s.heap [] _ ⟨rfl, fun k e h => by cases h⟩ va_S.rf hl
  refine q_new CG (pc := 0) (kd := 8) (fs := [.null, .null, .null, .null, .null, .int 0, .int 0, .int 0, .int 0, .int 0]) rfl in8 ty8_ok (by decide +kernel) (tb_of 20 (by decide +kernel) rfl) (tb_of 21 (by decide +kernel) rfl) (tb_of 1 (by decide +kernel) rfl) (Nat.le_of_ble_eq_true rfl) (Nat.le_of_ble_eq_true rfl) (Nat.le_refl _) dL_law_0 ?_
  refine q_dup CG (pc := 3) rfl dL_law_3 ?_
  refine q_callI CG (pc := 4) (na := 0) (ci8 l D ca s.heap.size (k := 0) (n := 1) up_eq (by omega)) rfl (tb_of 23 (by decide +kernel) rfl) (tb_of 1 (by decide +kernel) rfl) ctc8 ⟨by decide +kernel, by decide +kernel, by decide +kernel⟩ wL_76 rfl rfl ⟨Nat.le_of_ble_eq_true rfl, Nat.le_of_ble_eq_true rfl⟩ rfl rfl (Nat.le_of_ble_eq_true rfl) ⟨Nat.le_of_ble_eq_true rfl, Nat.le_of_ble_eq_true rfl⟩ (Nat.le_refl _) dL_law_4 ?_
  refine q_astore_n CG (pc := 7) (ls' := [(1, .ref (s.heap.size + 0)), (0, .ref b)]) (Nat.le_of_ble_eq_true rfl) rfl dL_law_7 ?_
  refine q_new CG (pc := 8) (kd := 9) (fs := [.null, .null, .null, .null, .null, .null, .null, .null, .null, .double FP.dconst0, .null, .int 0, .int 0, .null, .int 0, .null, .null, .null, .null, .null, .int 0, .int 0, .null, .null, .null, .null, .null, .null, .null, .null, .int 0, .int 0, .int 0, .int 0, .int 0, .int 0, .int 0, .long 0, .double FP.dconst0, .int 0, .null]) rfl in9 ty9_ok (by decide +kernel) (tb_of 943 (by decide +kernel) rfl) (tb_of 944 (by decide +kernel) rfl) (tb_of 9 (by decide +kernel) rfl) (Nat.le_of_ble_eq_true rfl) (Nat.le_of_ble_eq_true rfl) (Nat.le_refl _) dL_law_8 ?_
  refine q_dup CG (pc := 11) rfl dL_law_11 ?_
  refine q_callI CG (pc := 12) (na := 0) (ci9 l D ca s.heap.size (k := 109) (n := 110) up_eq (by omega)) rfl (tb_of 946 (by decide +kernel) rfl) (tb_of 9 (by decide +kernel) rfl) ctc9 ⟨by decide +kernel, by decide +kernel, by decide +kernel⟩ wL_79 rfl rfl ⟨Nat.le_of_ble_eq_true rfl, Nat.le_of_ble_eq_true rfl⟩ rfl rfl (Nat.le_of_ble_eq_true rfl) ⟨Nat.le_of_ble_eq_true rfl, Nat.le_of_ble_eq_true rfl⟩ (Nat.le_refl _) dL_law_12 ?_
  refine q_astore_n CG (pc := 15) (ls' := [(2, .ref (s.heap.size + 109)), (1, .ref (s.heap.size + 0)), (0, .ref b)]) (Nat.le_of_ble_eq_true rfl) rfl dL_law_15 ?_
  refine q_iconst CG (pc := 16) (v := 1) dL_law_16 (by decide) ?_
  refine q_newa CG (pc := 17) (ty := .long) (t0 := 1) (ti := 1) (N := 1) (a := .inr (.inl (fun _ => 0))) rfl (fun _ h => h) rfl (fun _ => rfl) (tb_of 157 (by decide +kernel) rfl) (by decide) (by decide) (by decide) (Nat.le_of_ble_eq_true rfl) (Nat.le_of_ble_eq_true rfl) dL_law_17 ?_
  refine q_astore_n CG (pc := 19) (ls' := [(3, .ref (s.heap.size + 135)), (2, .ref (s.heap.size + 109)), (1, .ref (s.heap.size + 0)), (0, .ref b)]) (Nat.le_of_ble_eq_true rfl) rfl dL_law_19 ?_
  refine q_iconst CG (pc := 20) (v := 1) dL_law_20 (by decide) ?_
  refine q_newa CG (pc := 21) (ty := .double) (t0 := 2) (ti := 2) (N := 1) (a := .inr (.inr (.inr (.inl (fun _ => 0))))) rfl (fun _ h => h) rfl (fun _ => rfl) (tb_of 158 (by decide +kernel) rfl) (by decide) (by decide) (by decide) (Nat.le_of_ble_eq_true rfl) (Nat.le_of_ble_eq_true rfl) dL_law_21 ?_
  refine q_astore CG (pc := 23) (ls' := [(4, .ref (s.heap.size + 136)), (3, .ref (s.heap.size + 135)), (2, .ref (s.heap.size + 109)), (1, .ref (s.heap.size + 0)), (0, .ref b)]) (Nat.le_of_ble_eq_true rfl) rfl dL_law_23 ?_
  refine q_iconst CG (pc := 25) (v := 0) dL_law_25 (by decide) ?_
  refine q_istore CG (pc := 26) (ls' := [(5, .int 0), (4, .ref (s.heap.size + 136)), (3, .ref (s.heap.size + 135)), (2, .ref (s.heap.size + 109)), (1, .ref (s.heap.size + 0)), (0, .ref b)]) (Nat.le_of_ble_eq_true rfl) rfl dL_law_26 ?_
  intro H locs la k1 k2 k3
  have hloop := law_loop (p := p) (l := l) (e := e) (s := s) (m := m) (below := below) (D := D) (ca := ca) (b := s.heap.size) htr hL CN hr hX hbl rfl hZ K hK (L + 11) 0 S0 S0 (fun _ => 0) (fun _ => 0) (by omega) (by omega) h0
  have k1' : gp D s.heap.size (wZ ca s.heap.size) 137 H := k1
  exact hloop H locs la ⟨pic_PT k1', pic_PF k1', k1'.2 135 _ rfl, k1'.2 136 _ rfl⟩ k2 (lv_sub k3 [5, 4, 3, 2, 1, 0] rfl)
