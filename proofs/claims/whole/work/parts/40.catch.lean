/-! CATCHES of classes that may not be resolved yet -/
theorem go_cold {E : CtlPost} {e : Env} {d : Bool} {acts : List Action} {s : State} {f : JFrame} {a : Addr} {Q : Handler → Pre} {x : ExceptionTableEntry} {t : List ExceptionTableEntry} {c : ClassId} {cell : Cell} {vm' : Vm}
    (hx : covers x f.pc = true) (h0 : x.catchType ≠ 0) (hg : (Jvm.resolveClass f.method.cls x.catchType).Gives e.toSetting s.vm (.ok c) vm') (hsz : vm'.classes.size ≤ s.vm.classes.size) (hcell : s.heap[a]? = some cell) (hobj : ∀ k, cell.vm ≠ .statics k) (hk : ∃ k, vm'.classes[cell.cls]? = some k) (hc : ∃ k, vm'.classes[c]? = some k) :
    wp (findHandler.go f a (x :: t)) Q E e d acts s ↔ if vm'.assignable cell.cls c = true then Q (.found x.handlerPc) d acts (s.setVm vm') else wp (findHandler.go f a t) Q E e d acts (s.setVm vm') := by
  simp only [covers] at hx
  obtain ⟨ha, ht⟩ := hg.op (op := VmOp.resolveClass f.method.cls x.catchType) rfl
  cases hfit : vm'.assignable cell.cls c <;>
    simp [findHandler.go, hx, h0, ha, ht, hsz, hcell, hobj, hk, hc, hfit, VmOp.dirties, VmOp.acts]
/-- the exceptions' classes, as far as a catch asks -/
def Cst (U : State) : Prop := ∀ j k, 1 ≤ j → j ≤ 7 → 1 ≤ k → k ≤ 7 → ∃ cj ck, U.vm.findClass (excN j) = some cj ∧ U.vm.findClass (excN k) = some ck ∧ (∃ z, U.vm.classes[cj]? = some z) ∧ (∃ z, U.vm.classes[ck]? = some z) ∧ U.vm.assignable cj ck = decide (j = k ∨ k = 7)
theorem Cst.moved {u U : State} (h : u.vm.Alike U.vm) (hC : Cst u) : Cst U := by
  intro j k a1 a2 a3 a4
  obtain ⟨cj, ck, h1, h2, ⟨z, h3⟩, ⟨w, h4⟩, h5⟩ := hC j k a1 a2 a3 a4
  obtain ⟨z', h6, -⟩ := h.2.2 _ _ h3
  obtain ⟨w', h7, -⟩ := h.2.2 _ _ h4
  exact ⟨cj, ck, by rw [h.findClass]; exact h1, by rw [h.findClass]; exact h2, ⟨z', h6⟩, ⟨w', h7⟩, by rw [h.assignable]; exact h5⟩
abbrev tup (x : ExceptionTableEntry) : Nat × Nat × Nat × Nat := (x.startPc, x.endPc, x.handlerPc, x.catchType)
/-- the handler of exception number j: the first that names its class, or RuntimeException -/
def look (kd : Nat → Nat) : List (Nat × Nat × Nat × Nat) → Nat → Option Nat
  | [], _ => none
  | (_, _, h, i) :: r, j => if j = kd i ∨ kd i = 7 then some h else look kd r j
theorem go_all {s : State} {e : Env} (hpl : e.platform.magicAccessors = ({} : Platform).magicAccessors) {own : String} {f : JFrame} (hown : s.vm.findClass own = some f.method.cls) (hT : Tb s) (hC : Cst s) {j : Nat} (hj : 1 ≤ j ∧ j ≤ 7) {kd : Nat → Nat} :
    ∀ (xs : List ExceptionTableEntry) (U : State) (a : Addr) (cell : Cell), s.WarmedH U.vm → U.heap[a]? = some cell → cell.vm = .none → U.vm.findClass (excN j) = some cell.cls → (∀ x ∈ xs, covers x f.pc = true ∧ x.catchType ≠ 0 ∧ 1 ≤ kd x.catchType ∧ kd x.catchType ≤ 7 ∧ Cond.classLink own x.catchType (excN (kd x.catchType)) ∈ tbl) → ∀ pc, look kd (xs.map tup) j = some pc →
      ∃ vm', s.WarmedH vm' ∧ ∀ (Q : Handler → Pre) (E : CtlPost) (d : Bool) (acts : List Action), wp (findHandler.go f a xs) Q E e d acts U ↔ Q (.found pc) d acts (U.setVm vm') := by
  intro xs
  induction xs with
  | nil => intro U a cell _ _ _ _ _ pc h; cases h
  | cons x t ih =>
    intro U a cell hW hcell hvm hfc hall pc hlook
    obtain ⟨h1, h2, h3, h4, h5⟩ := hall x List.mem_cons_self
    obtain ⟨c, hc1, hcl⟩ := Cond.classLink_spec hown (hT _ h5 #[]) e.platform hpl
    obtain ⟨hg, hW1, hr⟩ := State.classEntry (e := e) hW hcl
    generalize hvm' : U.vm.noted f.method.cls x.catchType (.cls c) = vm₁ at hg hW1 hr
    obtain ⟨cj, ck, b1, b2, b3, b4, b5⟩ := (hC.moved hW1.alike (U := s.setVm vm₁)) j (kd x.catchType) hj.1 hj.2 h3 h4
    have e1 : cj = cell.cls := by
      have : (s.setVm vm₁).vm.findClass (excN j) = some cell.cls := by
        show vm₁.findClass _ = _
        rw [hW1.alike.findClass, ← hW.alike.findClass]; exact hfc
      exact Option.some.inj (b1.symm.trans this)
    have e2 : ck = c := by
      have : (s.setVm vm₁).vm.findClass (excN (kd x.catchType)) = some c := by
        show vm₁.findClass _ = _
        rw [hW1.alike.findClass]; exact hc1
      exact Option.some.inj (b2.symm.trans this)
    subst e1; subst e2
    have hsz : vm₁.classes.size ≤ U.vm.classes.size := by rw [hW1.alike.2.1, hW.alike.2.1]; exact Nat.le_refl _
    have hobj : ∀ k, cell.vm ≠ .statics k := fun k q => by rw [hvm] at q; cases q
    simp only [List.map_cons, look] at hlook
    by_cases hm : j = kd x.catchType ∨ kd x.catchType = 7
    · rw [if_pos hm] at hlook
      cases hlook
      refine ⟨vm₁, hW1, fun Q E d acts => ?_⟩
      rw [go_cold h1 h2 hg hsz hcell hobj b3 b4, if_pos]
      show (s.setVm vm₁).vm.assignable _ _ = true
      rw [b5]; exact decide_eq_true hm
    · rw [if_neg hm] at hlook
      obtain ⟨vm', g1, g2⟩ := ih (U.setVm vm₁) a cell hW1 hcell hvm (by show vm₁.findClass _ = _; rw [hW1.alike.findClass, ← hW.alike.findClass]; exact hfc) (fun y hy => hall y (List.mem_cons_of_mem _ hy)) pc hlook
      refine ⟨vm', g1, fun Q E d acts => ?_⟩
      rw [go_cold h1 h2 hg hsz hcell hobj b3 b4, if_neg]
      · exact g2 Q E d acts
      · show ¬ (s.setVm vm₁).vm.assignable _ _ = true
        rw [b5]; simpa using hm
theorem stepThrowing_catchV {e : Env} {s : State} {a : Addr} {f : JFrame} {r : List Frame} {pc : Nat} {vm' : Vm} (hfind : ∀ (Q : Handler → Pre) (E : CtlPost) (d : Bool) (acts : List Action), wp (findHandler f a) Q E e d acts s ↔ Q (.found pc) d acts (s.setVm vm')) :
    (stepThrowing e s a (.java f :: r)).Is ((s.setVm vm').setFrames (.java { f with pc := pc, stack := [.ref a] } :: r)) [] := by
  simp only [stepThrowing, searchFrame, vmDo]
  generalize hr : Sem.go _ e false [] s = res
  obtain ⟨as, rfl, ha⟩ := Sem.eq_ok_of hr (a := Handler.found pc) (s' := s.setVm vm') (acts' := []) (by simp [hfind _ _ _ _])
  exact ⟨rfl, ha⟩
theorem caughtV {p : Program} {l : Launch} {e : Env} {R : Room} {s : State} {m : MethodId} {args : Array Value} {below : List Frame} {meth : Method} {c : Code} {T : State} {locs : List Loc} {cells slots : Nat} (X : Stand p l e R s m args below meth c T locs cells slots) {own : String} (hown : s.vm.findClass own = some m.cls) (hT : Tb s) (hC : Cst s) {a j : Nat} (hj : 1 ≤ j ∧ j ≤ 7) {g : JFrame} (hg : g.method = m) (hE : Exc j a T) {kd : Nat → Nat} (hall : ∀ x ∈ c.exceptionTable.toList, covers x g.pc = true ∧ x.catchType ≠ 0 ∧ 1 ≤ kd x.catchType ∧ kd x.catchType ≤ 7 ∧ Cond.classLink own x.catchType (excN (kd x.catchType)) ∈ tbl) {pc : Nat} (hl : look kd (c.exceptionTable.toList.map tup) j = some pc) :
    ∃ vm', Stand p l e R s m args below meth c (T.setVm vm') locs cells slots ∧ ∀ target, Steps p.tables e below ((T.setVm vm').setTop { g with pc := pc, stack := [.ref a] }) target → Steps p.tables e below ((T.setTop g).pushFrame (.throwing a)) target := by
  subst hg
  have hpl : e.platform.magicAccessors = ({} : Platform).magicAccessors := by rw [X.admits.platform]
  obtain ⟨cell, c1, c2, c3⟩ := hE
  obtain ⟨vm', h1, h2⟩ := go_all hpl (f := g) hown hT hC hj c.exceptionTable.toList ((T.setTop g).pushFrame (.throwing a)) a cell (by rw [Stand.throwing_vm]; exact X.warmed) (by rw [Stand.throwing_heap]; exact c1) c2 (by rw [Stand.throwing_vm]; exact c3) hall pc hl
  refine ⟨vm', X.noted h1, fun target hrest => ?_⟩
  have hm : ((T.setTop g).pushFrame (.throwing a)).vm.method? g.method = some meth := by rw [Stand.throwing_vm]; exact X.method'
  have h : At T g.method c below := X.here
  obtain ⟨hgo, hw⟩ := h.throwing a
  refine Steps.head hgo hw ?_
  rw [stepThread_throwing (frames_entered h.top _), (stepThrowing_catchV (s := (T.setTop g).pushFrame (.throwing a)) (vm' := vm') (fun Q E d acts => (W.findHandler_eq hm X.code).trans (h2 Q E d acts))).1]
  obtain ⟨g₀, hg⟩ := Option.isSome_iff_exists.mp h.top
  obtain ⟨r, hr⟩ := State.topJava?_eq_some.mp hg
  have hr' : (T.setVm vm').frames = .java g₀ :: r := hr
  rw [State.setTop_of_frames _ hr'] at hrest
  rw [State.pushFrame, State.setTop_of_frames _ hr, State.setFrames_setFrames]
  have : ((T.setFrames (.throwing a :: (T.setFrames (.java g :: r)).frames)).setVm vm').setFrames (.java { g with pc := pc, stack := [.ref a] } :: T.frames.tail) = (T.setVm vm').setFrames (.java { g with pc := pc, stack := [.ref a] } :: r) := by
    rw [hr]
    show (((T.setVm vm').setFrames _).setFrames _) = _
    rw [State.setFrames_setFrames]
    rfl
  rw [this]
  exact hrest
