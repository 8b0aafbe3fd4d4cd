/-! THE LAW'S OWN CALLS AND LOADS -/
section LCALLS
variable {p : Program} {l : Launch} {e : Env} {R : Room} {s : State} {m : MethodId} {args : Array Value} {below : List Frame} {meth : Method} {c : Code} {D : va_G} {ca : Nat → ClassId} {b nL cells slots : Nat} {Q : State → Prop} {pc : Nat} {ls : List (Nat × Value)} {st : List Value} {own : String} {cc : ByteArray} {S M : St} {f : Nat → Int64} {g : Nat → UInt64}
/-- a static method with an exception table -/
theorem n_callSW (C : Cn p l s m meth c RL cc nL D ca) (hZ : Zs (frs b) s s.heap) {hh : List (Nat × Nat × Nat × Nat)} {index mL n mc ms : Nat} {y : MethodName} {bb : ByteArray} {ret : Option FieldType} {rm : Room} {As rest : List Value} {Qw : Int32 → LW → Prop}
    (hM : Met l y [Cond.codeWith y bb mL ret hh] rm (va_Pc As (PreL D ca b S M f g)) (va_Qi Qw (PostL D ca b M) (frs b)) mc ms (frs b)) (hI : Cond.static y ∈ tbl) (hN : Cond.initialized y.cls ∈ tbl) (hCd : Cond.codeWith y bb mL ret hh ∈ tbl) (hy : y.cls ≠ "java/lang/invoke/MethodHandle" ∧ y.cls ≠ "java/lang/invoke/VarHandle") (hds : (parseMethodDescriptor y.desc).map (fun d => d.parameters.length) = some n) (hL : Cond.methodLink RL index y ∈ tbl) (hrc : rm.cells = mc) (hrs : rm.slots = ms) (hR : rm.frames + 1 ≤ R.frames ∧ 8 + (mL + 11) + rm.locals ≤ R.locals) (hn : As.length = n) (hst : st = As.reverse ++ rest) (hW : (rest.map fun v => v.category).sum ≤ 8) (hcs : cells + mc ≤ R.cells ∧ slots + ms ≤ R.slots) (hd : decode cc pc = .ok (.invokestatic index, 3))
    (k : ∀ z u, Qw z u → wn p l e R s m args below meth c nL (cells + mc) (slots + ms) Q (frs b) (GL D ca b u.1 M u.2.1 u.2.2) (pc + 3) ls (.int z :: rest)) : wn p l e R s m args below meth c nL cells slots Q (frs b) (GL D ca b S M f g) pc ls st := by
  intro H locs la h1 h2 h3
  obtain ⟨hx, hbc, hml, hown, hTb, hK0, hCs, -⟩ := C
  have hK : Back l R p e below s args y 3 8 (PreOf R mc ms (va_Pc As (PreL D ca b S M f g))) (PostOf (va_Qi Qw (PostL D ca b M) (frs b)) mc ms (frs b)) :=
    va_backW (hh := hh) (bytes := bb) (maxL := mL) (ret := ret) hM PreL.blind hrc hrs hR.1 hR.2 (fun w hw a' U hW => by cases List.mem_singleton.mp hw; exact hTb.warm hW _ hCd a') (List.mem_singleton_self _) (fun a' U hW => hTb.warm hW _ hN a')
  have hrun : va_Run p l e R s m args below meth c H locs cells slots mc ms (F0 m pc la st) rest (va_Qi Qw (PostL D ca b M) (frs b) As.toArray) (frs b) := by
    intro T hT X
    obtain ⟨mk, methM, cM, hnamed, hmethM, -, -, -, -, -, -, hsigM⟩ := Cond.codeWith_spec (hTb _ hCd args)
    have hstatic : methM.isStatic = true := Cond.static_spec hnamed hmethM (hTb _ hI args)
    obtain ⟨kP, hkP, -⟩ := className_of_methodNamed hnamed
    have hinitP : kP.init = .initialized := Cond.initialized_spec (findClass_of_methodNamed hnamed) hkP (hTb _ hN args)
    have hlen : As.length = methM.sig.parameters.length := by
      have h2 := hds
      rw [hsigM] at h2
      rw [hn]; exact (Option.some.inj h2).symm
    obtain ⟨vm₁, X₁, hstep₁⟩ := X.invokestatic hx hown (hTb _ hL args) hnamed hmethM hstatic hkP hinitP hy (g := F0 m pc la st) rfl (argsL := As) (rest := rest) hlen hst (by rw [hbc]; exact hd)
    have hWm := X₁.warmed
    obtain ⟨v, B, X', hpost, hsteps⟩ := hK m meth c ⟨T.setVm vm₁, locs, cells, slots⟩ { F0 m pc la st with stack := rest } (.invokestatic index) mk As.toArray X₁ rfl (by show la.size = _; rw [hml]; exact h3.1) (by rw [hbc]; exact hd) (by
      show 2 * 0 + (rest.map fun v => v.category).sum ≤ 8
      omega) (X₁.named hnamed) ⟨hcs.1, hcs.2, rfl, by show GL D ca b S M f g T.heap; rw [hT]; exact h1, hTb.warm hWm, va_K.moved hWm.alike hK0, hCs.moved hWm.alike, by
        have := (hZ.kept h2.2.1).moved (U := T.setVm vm₁) hWm.alike
        rw [← hT] at this
        exact this⟩
    obtain ⟨U', l2, c2, s2⟩ := B
    obtain ⟨g', mk', t, L, e1, e2, hq, g1, hL', g2, g3⟩ := hpost
    dsimp only [Pt.U, Pt.locs, Pt.cells, Pt.slots] at X' e1 e2 g1 g2 g3 hsteps
    subst g1; subst g2; subst g3
    exact ⟨v, (T.setVm vm₁).calling g' mk' As.toArray, t, U', L, hT, X', hL', e1, e2, hq, fun target h => hstep₁ _ fun acts => by rw [doInvoke_state]; exact hsteps.trans h⟩
  refine va_calli hrun h2 (fun q _ h => h) (fun q h => h) (fun r u t H1 locs1 e1 hvm hq hb hz hk hS => k r u hq H1 locs1 la (by unfold PostL at hb; rw [← e1]; exact hb) hS h3)
theorem n_slen (C : Cn p l s m meth c own cc nL D ca) {sb L : Nat} {xs : Nat → Int32} (hX : va_X sb L xs s s.heap) (hbl : sb < s.heap.size) (hbs : b = s.heap.size) {G : Heap → Prop} (hd : decode cc pc = .ok (.arraylength, 1)) (k : wn p l e R s m args below meth c nL cells slots Q (frs b) G (pc + 1) ls (.int (nI L) :: st)) : wn p l e R s m args below meth c nL cells slots Q (frs b) G pc ls (.ref sb :: st) :=
  fun H locs la h1 h2 h3 => va_slen C.1 C.2.1 hX hbl (by show ¬ b ≤ sb; omega) h2 hd (k H locs la h1 h2 h3)
theorem n_sarg (C : Cn p l s m meth c own cc nL D ca) {sb L : Nat} {xs : Nat → Int32} (hX : va_X sb L xs s s.heap) (hbl : sb < s.heap.size) (hbs : b = s.heap.size) (hLm : L ≤ 2560) {G : Heap → Prop} {j : Nat} {x : Int32} (hx : x = nI j) (hj : j < L) (hd : decode cc pc = .ok (.iaload, 1)) (k : wn p l e R s m args below meth c nL cells slots Q (frs b) G (pc + 1) ls (.int (xs j) :: st)) : wn p l e R s m args below meth c nL cells slots Q (frs b) G pc ls (.int x :: .ref sb :: st) := by
  intro H locs la h1 h2 h3
  subst hx
  refine va_sld C.1 C.2.1 hX hbl (by show ¬ b ≤ sb; omega) h2 (vp_in_nI hj (by omega)) hd ?_
  rw [nI_clamp (by omega)]
  exact k H locs la h1 h2 h3
theorem n_lout (C : Cn p l s m meth c own cc nL D ca) (hd : decode cc pc = .ok (.laload, 1)) (k : wn p l e R s m args below meth c nL cells slots Q (frs b) (GL D ca b S M f g) (pc + 1) ls (.long (f 0) :: st)) : wn p l e R s m args below meth c nL cells slots Q (frs b) (GL D ca b S M f g) pc ls (.int 0 :: .ref (b + 135) :: st) := by
  intro H locs la h1 h2 h3
  refine va_lald C.1 C.2.1 C.2.2.2.2.2.1 (ws := [(b + 135, .inl (ca 1, 1, .inr (.inl f)))]) (fun j q hq => ?_) 0 1 rfl rfl (vp_in_nI (n := 0) (N := 1) (by omega) (by omega)) hd (k H locs la h1 h2 h3)
  cases j with
  | zero => cases hq; exact h1.2.2.1
  | succ j => simp at hq
theorem n_dout (C : Cn p l s m meth c own cc nL D ca) (hd : decode cc pc = .ok (.daload, 1)) (k : wn p l e R s m args below meth c nL cells slots Q (frs b) (GL D ca b S M f g) (pc + 1) ls (.double (g 0) :: st)) : wn p l e R s m args below meth c nL cells slots Q (frs b) (GL D ca b S M f g) pc ls (.int 0 :: .ref (b + 136) :: st) := by
  intro H locs la h1 h2 h3
  refine va_dald C.1 C.2.1 C.2.2.2.2.2.1 (ws := [(b + 136, .inl (ca 2, 1, .inr (.inr (.inr (.inl g)))))]) (fun j q hq => ?_) 0 2 rfl rfl (vp_in_nI (n := 0) (N := 1) (by omega) (by omega)) hd (k H locs la h1 h2 h3)
  cases j with
  | zero => cases hq; exact h1.2.2.2
  | succ j => simp at hq
theorem n_callFi (C : Cn p l s m meth c own cc nL D ca) (hbs : b = s.heap.size) {index mL n : Nat} {y : MethodName} {bb : ByteArray} {ret : Option FieldType} {rm : Room} {As rest : List Value} {Qm : Int32 → St → Prop} (hM : ∀ sz, Met l y [Cond.code y bb mL ret] rm (va_Pc (.ref (rho b 9 0) :: As) (PreU false D ca (rho b) sz M)) (va_Qi Qm (PostU false D ca (rho b)) (Ar false (rho b) sz)) 0 0 (Ar false (rho b) sz)) (mf : MfV y bb mL ret n) (hyc : y.cls = R9) (hL : Cond.methodLink own index y ∈ tbl) (hrc : rm.cells = 0) (hrs : rm.slots = 0) (hR : rm.frames + 1 ≤ R.frames ∧ 8 + (mL + 11) + rm.locals ≤ R.locals) (hn : As.length = n) (hst : st = As.reverse ++ .ref (rho b 9 0) :: rest) (hW : (rest.map fun v => v.category).sum ≤ 8) (hcs : cells ≤ R.cells ∧ slots ≤ R.slots) (hd : decode cc pc = .ok (.invokevirtual index, 3)) (k : ∀ r X', Qm r X' → wn p l e R s m args below meth c nL cells slots Q (frs b) (GL D ca b S X' f g) (pc + 3) ls (.int r :: rest)) : wn p l e R s m args below meth c nL cells slots Q (frs b) (GL D ca b S M f g) pc ls st := by
  intro H locs la h1 h2 h3
  obtain ⟨hI, hS, hN, hC, hd2⟩ := mf
  have hle : ∀ q, Ar false (rho b) H.size q → b ≤ q := fun q hq => by
    rcases hq with hq | hq
    · exact reg_le hq
    · have := h2.1
      omega
  have hrecv : ∃ cell : Cell, H[rho b 9 0]? = some cell ∧ cell.vm.isStatics = false ∧ s.vm.findClass y.cls = some cell.cls := hyc ▸ va_recv C.2.2.2.2.2.1 (h1.2.1.one rfl (Nat.le_of_ble_eq_true rfl) (k := 9) (i := 0) rfl) (ci := 9) (q0 := 0) (rfl : classes[9]? = some (R9, T9, _)) rfl
  refine va_calli (va_runV (Ts := tbl) (As := As) (rest := rest) ⟨C.1, C.2.1, C.2.2.1, C.2.2.2.1, fun w hw => C.2.2.2.2.1 w hw _⟩ (hM H.size) ⟨callB_mk n C.2.2.2.2.1 hC hN hL hrc hrs hd2 hR, C.2.2.2.2.1 _ hI _, C.2.2.2.2.1 _ hS _⟩ ⟨PreU.blind, hrecv, fun U hU hWm => ⟨rfl, by rw [hU], C.2.2.2.2.1.warm hWm, va_K.moved hWm.alike C.2.2.2.2.2.1, by rw [hU]; exact h1.2.1⟩⟩ rfl hn h3.1 hst (lv_room hW) hd ⟨hcs.1, hcs.2⟩) h2 (fun q _ h => hle q h) (fun q h => hle q h) (fun r s2 t H1 locs1 e1 hvm hq hb hz hk hS => k r s2 hq H1 locs1 la (h1.callF (by unfold PostU at hb; rw [← e1]; exact hb) hk) hS h3)
theorem n_callFl (C : Cn p l s m meth c own cc nL D ca) (hbs : b = s.heap.size) {index mL n : Nat} {y : MethodName} {bb : ByteArray} {ret : Option FieldType} {rm : Room} {As rest : List Value} {Qm : Int64 → St → Prop} (hM : ∀ sz, Met l y [Cond.code y bb mL ret] rm (va_Pc (.ref (rho b 9 0) :: As) (PreU false D ca (rho b) sz M)) (va_Ql Qm (PostU false D ca (rho b)) (Ar false (rho b) sz)) 0 0 (Ar false (rho b) sz)) (mf : MfV y bb mL ret n) (hyc : y.cls = R9) (hL : Cond.methodLink own index y ∈ tbl) (hrc : rm.cells = 0) (hrs : rm.slots = 0) (hR : rm.frames + 1 ≤ R.frames ∧ 8 + (mL + 11) + rm.locals ≤ R.locals) (hn : As.length = n) (hst : st = As.reverse ++ .ref (rho b 9 0) :: rest) (hW : (rest.map fun v => v.category).sum ≤ 8) (hcs : cells ≤ R.cells ∧ slots ≤ R.slots) (hd : decode cc pc = .ok (.invokevirtual index, 3)) (k : ∀ r X', Qm r X' → wn p l e R s m args below meth c nL cells slots Q (frs b) (GL D ca b S X' f g) (pc + 3) ls (.long r :: rest)) : wn p l e R s m args below meth c nL cells slots Q (frs b) (GL D ca b S M f g) pc ls st := by
  intro H locs la h1 h2 h3
  obtain ⟨hI, hS, hN, hC, hd2⟩ := mf
  have hle : ∀ q, Ar false (rho b) H.size q → b ≤ q := fun q hq => by
    rcases hq with hq | hq
    · exact reg_le hq
    · have := h2.1
      omega
  have hrecv : ∃ cell : Cell, H[rho b 9 0]? = some cell ∧ cell.vm.isStatics = false ∧ s.vm.findClass y.cls = some cell.cls := hyc ▸ va_recv C.2.2.2.2.2.1 (h1.2.1.one rfl (Nat.le_of_ble_eq_true rfl) (k := 9) (i := 0) rfl) (ci := 9) (q0 := 0) (rfl : classes[9]? = some (R9, T9, _)) rfl
  refine va_calll (va_runV (Ts := tbl) (As := As) (rest := rest) ⟨C.1, C.2.1, C.2.2.1, C.2.2.2.1, fun w hw => C.2.2.2.2.1 w hw _⟩ (hM H.size) ⟨callB_mk n C.2.2.2.2.1 hC hN hL hrc hrs hd2 hR, C.2.2.2.2.1 _ hI _, C.2.2.2.2.1 _ hS _⟩ ⟨PreU.blind, hrecv, fun U hU hWm => ⟨rfl, by rw [hU], C.2.2.2.2.1.warm hWm, va_K.moved hWm.alike C.2.2.2.2.2.1, by rw [hU]; exact h1.2.1⟩⟩ rfl hn h3.1 hst (lv_room hW) hd ⟨hcs.1, hcs.2⟩) h2 (fun q _ h => hle q h) (fun q h => hle q h) (fun r s2 t H1 locs1 e1 hvm hq hb hz hk hS => k r s2 hq H1 locs1 la (h1.callF (by unfold PostU at hb; rw [← e1]; exact hb) hk) hS h3)
theorem n_callFd (C : Cn p l s m meth c own cc nL D ca) (hbs : b = s.heap.size) {index mL n : Nat} {y : MethodName} {bb : ByteArray} {ret : Option FieldType} {rm : Room} {As rest : List Value} {Qm : UInt64 → St → Prop} (hM : ∀ sz, Met l y [Cond.code y bb mL ret] rm (va_Pc (.ref (rho b 9 0) :: As) (PreU false D ca (rho b) sz M)) (va_Qd Qm (PostU false D ca (rho b)) (Ar false (rho b) sz)) 0 0 (Ar false (rho b) sz)) (mf : MfV y bb mL ret n) (hyc : y.cls = R9) (hL : Cond.methodLink own index y ∈ tbl) (hrc : rm.cells = 0) (hrs : rm.slots = 0) (hR : rm.frames + 1 ≤ R.frames ∧ 8 + (mL + 11) + rm.locals ≤ R.locals) (hn : As.length = n) (hst : st = As.reverse ++ .ref (rho b 9 0) :: rest) (hW : (rest.map fun v => v.category).sum ≤ 8) (hcs : cells ≤ R.cells ∧ slots ≤ R.slots) (hd : decode cc pc = .ok (.invokevirtual index, 3)) (k : ∀ r X', Qm r X' → wn p l e R s m args below meth c nL cells slots Q (frs b) (GL D ca b S X' f g) (pc + 3) ls (.double r :: rest)) : wn p l e R s m args below meth c nL cells slots Q (frs b) (GL D ca b S M f g) pc ls st := by
  intro H locs la h1 h2 h3
  obtain ⟨hI, hS, hN, hC, hd2⟩ := mf
  have hle : ∀ q, Ar false (rho b) H.size q → b ≤ q := fun q hq => by
    rcases hq with hq | hq
    · exact reg_le hq
    · have := h2.1
      omega
  have hrecv : ∃ cell : Cell, H[rho b 9 0]? = some cell ∧ cell.vm.isStatics = false ∧ s.vm.findClass y.cls = some cell.cls := hyc ▸ va_recv C.2.2.2.2.2.1 (h1.2.1.one rfl (Nat.le_of_ble_eq_true rfl) (k := 9) (i := 0) rfl) (ci := 9) (q0 := 0) (rfl : classes[9]? = some (R9, T9, _)) rfl
  refine va_calld (va_runV (Ts := tbl) (As := As) (rest := rest) ⟨C.1, C.2.1, C.2.2.1, C.2.2.2.1, fun w hw => C.2.2.2.2.1 w hw _⟩ (hM H.size) ⟨callB_mk n C.2.2.2.2.1 hC hN hL hrc hrs hd2 hR, C.2.2.2.2.1 _ hI _, C.2.2.2.2.1 _ hS _⟩ ⟨PreU.blind, hrecv, fun U hU hWm => ⟨rfl, by rw [hU], C.2.2.2.2.1.warm hWm, va_K.moved hWm.alike C.2.2.2.2.2.1, by rw [hU]; exact h1.2.1⟩⟩ rfl hn h3.1 hst (lv_room hW) hd ⟨hcs.1, hcs.2⟩) h2 (fun q _ h => hle q h) (fun q h => hle q h) (fun r s2 t H1 locs1 e1 hvm hq hb hz hk hS => k r s2 hq H1 locs1 la (h1.callF (by unfold PostU at hb; rw [← e1]; exact hb) hk) hS h3)
theorem n_callTd (C : Cn p l s m meth c own cc nL D ca) (hbs : b = s.heap.size) {index mL n : Nat} {y : MethodName} {bb : ByteArray} {ret : Option FieldType} {rm : Room} {As rest : List Value} {Qm : UInt64 → St → Prop} (hM : ∀ sz, Met l y [Cond.code y bb mL ret] rm (va_Pc (.ref (rho b 8 0) :: As) (PreU true D ca (rho b) sz S)) (va_Qd Qm (PostU true D ca (rho b)) (Ar true (rho b) sz)) 0 0 (Ar true (rho b) sz)) (mf : MfV y bb mL ret n) (hyc : y.cls = R8) (hL : Cond.methodLink own index y ∈ tbl) (hrc : rm.cells = 0) (hrs : rm.slots = 0) (hR : rm.frames + 1 ≤ R.frames ∧ 8 + (mL + 11) + rm.locals ≤ R.locals) (hn : As.length = n) (hst : st = As.reverse ++ .ref (rho b 8 0) :: rest) (hW : (rest.map fun v => v.category).sum ≤ 8) (hcs : cells ≤ R.cells ∧ slots ≤ R.slots) (hd : decode cc pc = .ok (.invokevirtual index, 3)) (k : ∀ r X', Qm r X' → wn p l e R s m args below meth c nL cells slots Q (frs b) (GL D ca b X' M f g) (pc + 3) ls (.double r :: rest)) : wn p l e R s m args below meth c nL cells slots Q (frs b) (GL D ca b S M f g) pc ls st := by
  intro H locs la h1 h2 h3
  obtain ⟨hI, hS, hN, hC, hd2⟩ := mf
  have hle : ∀ q, Ar true (rho b) H.size q → b ≤ q := fun q hq => by
    rcases hq with hq | hq
    · exact reg_le hq
    · have := h2.1
      omega
  have hrecv : ∃ cell : Cell, H[rho b 8 0]? = some cell ∧ cell.vm.isStatics = false ∧ s.vm.findClass y.cls = some cell.cls := hyc ▸ va_recv C.2.2.2.2.2.1 (h1.1.one rfl (Nat.le_of_ble_eq_true rfl) (k := 8) (i := 0) rfl) (ci := 8) (q0 := 0) (rfl : classes[8]? = some (R8, T8, _)) rfl
  refine va_calld (va_runV (Ts := tbl) (As := As) (rest := rest) ⟨C.1, C.2.1, C.2.2.1, C.2.2.2.1, fun w hw => C.2.2.2.2.1 w hw _⟩ (hM H.size) ⟨callB_mk n C.2.2.2.2.1 hC hN hL hrc hrs hd2 hR, C.2.2.2.2.1 _ hI _, C.2.2.2.2.1 _ hS _⟩ ⟨PreU.blind, hrecv, fun U hU hWm => ⟨rfl, by rw [hU], C.2.2.2.2.1.warm hWm, va_K.moved hWm.alike C.2.2.2.2.2.1, by rw [hU]; exact h1.1⟩⟩ rfl hn h3.1 hst (lv_room hW) hd ⟨hcs.1, hcs.2⟩) h2 (fun q _ h => hle q h) (fun q h => hle q h) (fun r s2 t H1 locs1 e1 hvm hq hb hz hk hS => k r s2 hq H1 locs1 la (h1.callT (by unfold PostU at hb; rw [← e1]; exact hb) hk) hS h3)
end LCALLS
theorem lw_head {L i : Nat} (hL : L ≤ 2560) (hi : i ≤ 3000) : nI L - 5 < nI i ↔ L < i + 5 := by
  rw [Int32.lt_iff_toInt_lt, Int32.toInt_sub, nI_toInt (by omega), nI_toInt (by omega), show (5 : Int32).toInt = 5 from rfl, Int.bmod_eq_of_le (by omega) (by omega)]
  omega
theorem lgc_self (x : Int64) : lg_cmp x x = 0 := by simp [lg_cmp]
/-- what the law's test of two doubles lets pass -/
def agD (x y : UInt64) : Prop := Op.cmpValue (FP.dcmp x y) .l = 0 ∨ (¬ Op.cmpValue (FP.dcmp x x) .l = 0 ∧ ¬ Op.cmpValue (FP.dcmp y y) .l = 0)
theorem agD_self (x : UInt64) : agD x x := by
  by_cases h : Op.cmpValue (FP.dcmp x x) .l = 0
  · exact Or.inl h
  · exact Or.inr ⟨h, h⟩
