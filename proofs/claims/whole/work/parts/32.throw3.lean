theorem x_i {Qm : Int32 → St → Prop} {Tm : Nat → St → Prop} {B : St → State → Prop} {A : Nat → Prop} {a : Array Value} {s : State} {o : Outcome} {t : State} (h : va_Qi Qm B A a s o t) : XQ (pri Qm B) Tm B A a s o t := ⟨Or.inl h.1, h.2⟩
theorem x_l {Qm : Int64 → St → Prop} {Tm : Nat → St → Prop} {B : St → State → Prop} {A : Nat → Prop} {a : Array Value} {s : State} {o : Outcome} {t : State} (h : va_Ql Qm B A a s o t) : XQ (prl Qm B) Tm B A a s o t := ⟨Or.inl h.1, h.2⟩
theorem x_d {Qm : UInt64 → St → Prop} {Tm : Nat → St → Prop} {B : St → State → Prop} {A : Nat → Prop} {a : Array Value} {s : State} {o : Outcome} {t : State} (h : va_Qd Qm B A a s o t) : XQ (prd Qm B) Tm B A a s o t := ⟨Or.inl h.1, h.2⟩
theorem x_v {Qm : St → Prop} {Tm : Nat → St → Prop} {B : St → State → Prop} {A : Nat → Prop} {a : Array Value} {s : State} {o : Outcome} {t : State} (h : va_Qv Qm B A a s o t) : XQ (prv Qm B) Tm B A a s o t := ⟨Or.inl h.1, h.2⟩
abbrev xq (u : Bool) (below : List Frame) (args : Array Value) (s : State) (D : va_G) (ca : Nat → ClassId) (ρ : Nat → Nat → Nat) (mc ms : Nat) (PR : Outcome → State → Prop) (Tm : Nat → St → Prop) : State → Prop := MX below (XQ PR Tm (PostU u D ca ρ) (Ar u ρ s.heap.size)) args s mc ms (Ar u ρ s.heap.size)
def PreX (u : Bool) (D : va_G) (ca : Nat → ClassId) (ρ : Nat → Nat → Nat) (sz : Nat) (S : St) (U : State) : Prop := PreU u D ca ρ sz S U ∧ Zs (Ar u ρ sz) U U.heap
theorem PreX.blind {u : Bool} {D : va_G} {ca : Nat → ClassId} {ρ : Nat → Nat → Nat} {sz : Nat} {S : St} {As : List Value} : FrameBlind (va_Pc As (PreX u D ca ρ sz S)) := by
  intro a U g mk h
  obtain ⟨rfl, ⟨h1, h2, h3, h4⟩, h5⟩ := h
  exact ⟨rfl, ⟨h1, h2.warm (State.WarmedH.refl U), va_K.moved (Vm.Alike.refl U.vm) h3, h4⟩, h5.moved (Vm.Alike.refl U.vm)⟩
theorem metX_of_wm {u : Bool} {l : Launch} {y : MethodName} {b : ByteArray} {mL : Nat} {ret : Option FieldType} {rm : Room} {As : List Value} {ls0 : List (Nat × Value)} {D : va_G} {ca : Nat → ClassId} {ρ : Nat → Nat → Nat} {sz : Nat} {S : St} {Qc : Array Value → State → Outcome → State → Prop} {mc ms : Nat} {free : Addr → Prop} {own : String} (hp : plainName y.cls = true) (hown : y.cls = own) (hAp : Ap u ρ) (hlen : (lg_sl As).length ≤ mL) (hls : lv_args 0 As = ls0)
    (k : ∀ (p : Program) (e : Env) (s : State) (m : MethodId) (args : Array Value) (below : List Frame) (meth : Method) (c : Code), Cx u p l s m meth c own b mL D ca ρ → meth.sig.returnType = ret → s.heap.size = sz → (∀ x ∈ c.exceptionTable.toList, ∀ pc, covers x pc = false) → Zs (Ar u ρ s.heap.size) s s.heap → wm u p l e rm s m args below meth c D ca ρ mL 0 0 (MX below Qc args s mc ms free) 0 ls0 [] S) : MetX l y [Cond.code y b mL ret] rm (va_Pc As (PreX u D ca ρ sz S)) Qc mc ms free := by
  refine MetX.ofW (cc := b) (maxL := mL) (ret := ret) hp rfl ?_
  intro p e s m args below meth c s₁ B hml hx hv
  obtain ⟨rfl, ⟨hsz, hT, hK, hP⟩, hZ⟩ := hv
  have hown' : s.vm.findClass own = some m.cls := hown ▸ findClass_of_methodNamed B.named
  have hl := lv_entry As (n := mL) hlen
  rw [lg_entry_eq]
  rw [hls] at hl
  exact k p e s m As.toArray below meth c ⟨B.exec, B.bytes, hml, hown', hT, hK, hAp, B.notSynchronized⟩ B.returns hsz hx (by rw [hsz]; exact hZ) s.heap [] _ hP va_S.rf hl
/-- A CALL OF A METHOD THAT RETURNS OR THROWS, behind the instruction's own step -/
theorem callX_core {p : Program} {l : Launch} {e : Env} {R : Room} {s : State} {m : MethodId} {args : Array Value} {below : List Frame} {meth : Method} {c : Code} {U : State} {Ls : List Loc} {c0 s0 : Nat} (X : Stand p l e R s m args below meth c U Ls c0 s0) {y : MethodName} {b : ByteArray} {mL : Nat} {ret : Option FieldType} {rm : Room} {Pc : Array Value → State → Prop} {Qc : Array Value → State → Outcome → State → Prop} {mc ms : Nat} {free : Addr → Prop}
    (hM : MetX l y [Cond.code y b mL ret] rm Pc Qc mc ms free) {g : JFrame} (hg : g.method = m) (hsize : g.locals.size = c.maxLocals) {ig : Instr} (hdg : decode c.code g.pc = .ok (ig, 3)) {mk : MethodId} {a : Array Value} (hn : U.methodNamed? y = some mk) (hcode : (Cond.code y b mL ret).before a U = true) (hini : (Cond.initialized y.cls).before a U = true)
    (hframes : rm.frames + 1 ≤ R.frames) (hlocals : 2 * g.monitorRoom + (g.stack.map fun v => v.category).sum + (mL + 11) + rm.locals ≤ R.locals) (hcells : c0 + rm.cells ≤ R.cells) (hslots : s0 + rm.slots ≤ R.slots) (hP : Pc a (U.calling g mk a)) :
    ∃ (o : Outcome) (t T' : State) (L : List Loc), Stand p l e R s m args below meth c T' (Ls ++ L) (c0 + mc) (s0 + ms) ∧ T'.heap = t.heap ∧ T'.vm = t.vm ∧ Qc a (U.calling g mk a) o t ∧ (∀ q ∈ L, free q.base) ∧
      ((∃ v, o = .returned v ∧ Steps p.tables e below (doInvoke e (U.setTop g) [] mk a).1 (T'.setTop { g with pc := g.pc + 3, stack := v.toList ++ g.stack })) ∨ (∃ x, o = .threw x ∧ Steps p.tables e below (doInvoke e (U.setTop g) [] mk a).1 ((T'.setTop g).pushFrame (.throwing x)))) := by
  obtain ⟨methY, cY, hmY, hcY, -, hlY, -, -, -, -⟩ := Cond.code_spec hn hcode
  obtain ⟨kY, hkY, -⟩ := className_of_methodNamed hn
  have hinitY : kY.init = .initialized := Cond.initialized_spec (findClass_of_methodNamed hn) hkY hini
  have h : At U g.method c below := by rw [hg]; exact X.here
  have hpre : (headSpec [Cond.code y b mL ret] rm).pre.before a U = true := atoms_intro (fun w hw => by cases List.mem_singleton.mp hw; exact hcode)
  have happ : (headSpec [Cond.code y b mL ret] rm).appliesLoose y e.platform (U.calling g mk a) = true :=
    Spec.appliesLoose_calling (g := g) h hdg hn hkY hinitY
      (X.room_calling (g := g) (R' := rm) hsize hmY hcY hframes (by rw [hlY]; exact hlocals) hcells hslots) hpre
  obtain ⟨mid, hmid⟩ := h.above
  have hfr : (U.setTop g).frames = (.java g :: mid) ++ below := by rw [State.frames_setTop' g h.top, hmid]; rfl
  obtain ⟨o, s₂, hsteps, -, hend, hq, L, ⟨ho, hW2, hsame⟩, hL⟩ := Steps.callFree hM p X.admits X.cas X.clock (acts := []) hfr happ hP trivial
  rw [State.frames_setTop' g h.top] at hend
  rw [X.tail] at hend
  rcases ho with ⟨v, rfl⟩ | ⟨x, rfl⟩
  · obtain ⟨T', X', hw, -, ht⟩ := X.outOf hg hdg hend hW2 hsame
    refine ⟨_, s₂, T', L, X', by rw [ht]; simp, ?_, hq, hL, Or.inl ⟨v, rfl, by rw [← ht]; exact hsteps⟩⟩
    rw [ht]; simp
  · obtain ⟨T', X', hw, -, ht⟩ := X.outOfThrown hg hend hW2 hsame
    refine ⟨_, s₂, T', L, X', by rw [ht]; exact (Stand.throwing_heap T' g x).symm, ?_, hq, hL, Or.inr ⟨x, rfl, by rw [← ht]; exact hsteps⟩⟩
    rw [ht]; exact (Stand.throwing_vm T' g x).symm
section CALLX
variable {u : Bool} {p : Program} {l : Launch} {e : Env} {R : Room} {s : State} {m : MethodId} {args : Array Value} {below : List Frame} {meth : Method} {c : Code} {D : va_G} {ca : Nat → ClassId} {ρ : Nat → Nat → Nat} {nL cells slots pc : Nat} {ls : List (Nat × Value)} {st : List Value} {S : St} {own : String} {cc : ByteArray}
/-- a static void method that may throw, out of a method that doesn't catch -/
theorem r_callXS (C : Cx u p l s m meth c own cc nL D ca ρ) (hZ : Zs (Ar u ρ s.heap.size) s s.heap) (hX : ∀ x ∈ c.exceptionTable.toList, ∀ pc, covers x pc = false) {index mL n mc ms mc' ms' : Nat} {y : MethodName} {b : ByteArray} {ret : Option FieldType} {rm : Room} {As rest : List Value} {Qm : St → Prop} {Tm Tm' : Nat → St → Prop} {PR : Outcome → State → Prop}
    (hM : ∀ sz, MetX l y [Cond.code y b mL ret] rm (va_Pc As (PreX u D ca ρ sz S)) (XQ (prv Qm (PostU u D ca ρ)) Tm' (PostU u D ca ρ) (Ar u ρ sz)) mc ms (Ar u ρ sz)) (mf : MfS y b mL ret n) (hL : Cond.methodLink own index y ∈ tbl) (hrc : rm.cells = mc) (hrs : rm.slots = ms) (hR : rm.frames + 1 ≤ R.frames ∧ 8 + (mL + 11) + rm.locals ≤ R.locals) (hn : As.length = n) (hst : st = As.reverse ++ rest) (hW : (rest.map fun v => v.category).sum ≤ 8) (hcs : cells + mc ≤ R.cells ∧ slots + ms ≤ R.slots) (hm' : cells + mc ≤ mc' ∧ slots + ms ≤ ms') (hd : decode cc pc = .ok (.invokestatic index, 3))
    (hT : ∀ k S', Tm' k S' → Tm k S') (k : ∀ S', Qm S' → wm u p l e R s m args below meth c D ca ρ nL (cells + mc) (slots + ms) (xq u below args s D ca ρ mc' ms' PR Tm) (pc + 3) ls rest S') : wm u p l e R s m args below meth c D ca ρ nL cells slots (xq u below args s D ca ρ mc' ms' PR Tm) pc ls st S := by
  intro H locs la h1 h2 h3 T hT0 X
  subst hT0
  obtain ⟨hI, hN, hC, hd2⟩ := mf
  have hlk : meth.locks = false := C.2.2.2.2.2.2.2
  obtain ⟨hx, hb, hml, hown, hTb, hK, hA, -⟩ := C
  obtain ⟨mk, hnamed⟩ := Cond.code_named (hTb _ hC args)
  obtain ⟨methM, cM, hmethM, -, -, -, -, -, -, hsigM⟩ := Cond.code_spec hnamed (hTb _ hC args)
  have hstatic : methM.isStatic = true := Cond.static_spec hnamed hmethM (hTb _ hI args)
  obtain ⟨kP, hkP, -⟩ := className_of_methodNamed hnamed
  have hinitP : kP.init = .initialized := Cond.initialized_spec (findClass_of_methodNamed hnamed) hkP (hTb _ hN args)
  have hlen : As.length = methM.sig.parameters.length := by
    have h2 := hd2.2.2
    rw [hsigM] at h2
    rw [hn]; exact (Option.some.inj h2).symm
  obtain ⟨vm₁, X₁, hstep₁⟩ := X.invokestatic hx hown (hTb _ hL args) hnamed hmethM hstatic hkP hinitP ⟨hd2.1, hd2.2.1⟩ (g := F0 m pc la st) rfl (argsL := As) (rest := rest) hlen hst (by rw [hb]; exact hd)
  have hWm := X₁.warmed
  have hTb1 : Tb (T.setVm vm₁) := hTb.warm hWm
  obtain ⟨o, t, T', L, X', e1, e2, ⟨hq, hF⟩, hLf, hend⟩ := callX_core X₁ (hM T.heap.size) (g := { F0 m pc la st with stack := rest }) rfl (by show la.size = _; rw [hml]; exact h3.1) (by rw [hb]; exact hd) (mk := mk) (a := As.toArray) (X₁.named hnamed) (hTb1 _ hC _) (hTb1 _ hN _) hR.1 (by
    have hr := hR.2
    show 2 * 0 + (rest.map fun v => v.category).sum + (mL + 11) + rm.locals ≤ R.locals
    omega) (by rw [hrc]; exact hcs.1) (by rw [hrs]; exact hcs.2) ⟨rfl, ⟨⟨rfl, hTb1.warm (State.WarmedH.refl _), va_K.moved hWm.alike hK, h1⟩, by
      have := (hZ.kept h2.2.1).moved (U := (T.setVm vm₁)) hWm.alike
      exact (this.narrow (fun q hq hA' => Ar.le h2.1 hA')).moved (Vm.Alike.refl _)⟩⟩
  have hF : va_F (Ar u ρ T.heap.size) T t := hF
  have hS' : va_S (Ar u ρ s.heap.size) s.heap T'.heap (locs ++ L) := by
    refine ⟨Nat.le_trans h2.1 (by rw [e1]; exact hF.1), fun q z1 z2 => ?_, fun q hq => ?_⟩
    · rw [e1, hF.2 q (Nat.lt_of_lt_of_le z1 h2.1) (fun z => z2 (Ar.le h2.1 z))]
      exact h2.2.1 q z1 z2
    · rcases List.mem_append.mp hq with z | z
      · exact h2.2.2 q z
      · exact Ar.le h2.1 (hLf q z)
  rcases hend with ⟨v, rfl, hst1⟩ | ⟨x, rfl, hst1⟩
  · rcases hq with ⟨S', hv, hq, hB⟩ | ⟨k', a', S', hv, -⟩
    · cases hv
      obtain ⟨t2, a1, b1⟩ := k S' hq T'.heap (locs ++ L) la (by unfold PostU at hB; rw [e1]; exact hB) hS' h3 T' rfl X'
      exact ⟨t2, hstep₁ _ fun acts => by rw [doInvoke_state]; exact hst1.trans a1, b1⟩
    · cases hv
  · rcases hq with ⟨S', hv, -⟩ | ⟨k', a', S', hv, hTk, hB, hE⟩
    · cases hv
    · cases hv
      obtain ⟨w1, w2, w3, w4, w5⟩ := X'.leaveThrown x (g := { F0 m pc la st with stack := rest }) rfl rfl rfl (fun z hz => hX z hz _) hlk
      refine ⟨T'.setFrames (.throwing x :: below), hstep₁ _ fun acts => by rw [doInvoke_state]; exact hst1.trans w1, .threw x, w2, w3, ⟨Or.inr ⟨k', x, S', rfl, hT _ _ hTk, ?_, ?_⟩, ?_⟩, locs ++ L, ⟨Or.inr ⟨_, rfl⟩, w4, w5.mono hm'.1 hm'.2⟩, hS'.2.2⟩
      · show pic u D ca ρ S' T'.heap
        unfold PostU at hB; rw [e1]; exact hB
      · obtain ⟨ce, y1, y2, y3⟩ := hE
        exact ⟨ce, by show T'.heap[x]? = _; rw [e1]; exact y1, y2, by show T'.vm.findClass _ = _; rw [e2]; exact y3⟩
      · exact hS'.F rfl
end CALLX
