/-! WHAT IS THROWN: contracts whose method returns or throws; the row of 'throw new E()' under a launch without stack traces -/
theorem st_isRef {args : Array Value} {U : State} {n d : String} {c : ClassId} {k : Class} {i : Nat} {f : Field} {a : Addr} {cell : Cell} {v : Value} (h2 : U.fieldFound? Bundle.tN n d = some (c, k, i, f)) (h3 : f.isStatic = true) (h4 : k.statics = some a) (h5 : U.heap[a]? = some cell) (h6 : cell.vm.isStatics = true) (h7 : cell.slots[f.slot]? = some v) (h8 : v.isRef = true) : (Cond.isRef (.static Bundle.tN n d)).before args U = true := by
  have hv : (Term.static Bundle.tN n d).eval args U none [] U = some v := by
    simp [Term.eval, State.fieldNamed?, h2, h3, h4, h5, h6, h7]
  simp only [Cond.before, Cond.holds, Cond.value, hv]
  cases v <;> simp [Value.isRef] at h8 ⊢
/-- a static of Throwable's, nobody asks what it holds -/
def Zx (n d : String) (A : Nat → Prop) (U : State) (H : Heap) : Prop := ∃ (c : ClassId) (k : Class) (i : Nat) (f : Field) (a : Addr) (cell : Cell) (v : Value), U.vm.findClass Bundle.tN = some c ∧ U.fieldFound? Bundle.tN n d = some (c, k, i, f) ∧ f.isStatic = true ∧ k.statics = some a ∧ H[a]? = some cell ∧ cell.vm.isStatics = true ∧ cell.cls = c ∧ f.slot < cell.slots.size ∧ k.staticTypes[f.slot]? = some f.type ∧ cell.slots[f.slot]? = some v ∧ v.isRef = true ∧ ¬ A a
theorem Zx.moved {n d : String} {A : Nat → Prop} {u U : State} {H : Heap} (hvm : u.vm.Alike U.vm) (h : Zx n d A u H) : Zx n d A U H := by
  obtain ⟨c, k, i, f, a, cell, v, h1, h2, h3, h4, h5, h6, h7, h8, h9, h10⟩ := h
  obtain ⟨k', hi', he⟩ := State.fieldFound?_setVm hvm h2
  exact ⟨c, k', i, f, a, cell, v, by rw [hvm.findClass]; exact h1, hi', h3, by rw [he]; exact h4, h5, h6, h7, h8, by rw [he]; exact h9, h10⟩
theorem Zx.kept {n d : String} {A : Nat → Prop} {U : State} {H H1 : Heap} (h : Zx n d A U H) (hq : ∀ a : Nat, a < H.size → ¬ A a → H1[a]? = H[a]?) : Zx n d A U H1 := by
  obtain ⟨c, k, i, f, a, cell, v, h1, h2, h3, h4, h5, h6, h7, h8, h9, h10, h11, h12⟩ := h
  exact ⟨c, k, i, f, a, cell, v, h1, h2, h3, h4, by rw [hq a (Array.getElem?_eq_some_iff.mp h5).1 h12]; exact h5, h6, h7, h8, h9, h10, h11, h12⟩
theorem Zx.narrow {n d : String} {A B : Nat → Prop} {U : State} {H : Heap} (h : Zx n d A U H) (hAB : ∀ q, q < H.size → B q → A q) : Zx n d B U H := by
  obtain ⟨c, k, i, f, a, cell, v, h1, h2, h3, h4, h5, h6, h7, h8, h9, h10, h11, h12⟩ := h
  exact ⟨c, k, i, f, a, cell, v, h1, h2, h3, h4, h5, h6, h7, h8, h9, h10, h11, fun z => h12 (hAB a (Array.getElem?_eq_some_iff.mp h5).1 z)⟩
theorem Zx.lay {n d : String} {A : Nat → Prop} {U : State} {args : Array Value} (h : Zx n d A U U.heap) : (Cond.laysStatic Bundle.tN n d).before args U = true := by
  obtain ⟨c, k, i, f, a, cell, v, h1, h2, h3, h4, h5, h6, h7, h8, h9, h10⟩ := h
  exact Cond.laysStatic_of h1 h2 h3 h4 h5 h6 h7 h8 h9
theorem Zx.ref {n d : String} {A : Nat → Prop} {U : State} {args : Array Value} (h : Zx n d A U U.heap) : (Cond.isRef (.static Bundle.tN n d)).before args U = true := by
  obtain ⟨c, k, i, f, a, cell, v, h1, h2, h3, h4, h5, h6, h7, h8, h9, h10, h11, h12⟩ := h
  exact st_isRef h2 h3 h4 h5 h6 h10 h11
theorem Zx.of {n d : String} {A : Nat → Prop} {U : State} {args args' : Array Value} (hl : (Cond.laysStatic Bundle.tN n d).before args U = true) (h : (Cond.isRef (.static Bundle.tN n d)).before args' U = true) (hA : ∀ a : Nat, a < U.heap.size → ¬ A a) : Zx n d A U U.heap := by
  obtain ⟨c, k, i, f, a, cell, hc, hi, hst, ha, hcell, hs, hcls, hlt, hty⟩ := Cond.laysStatic_spec hl
  have he : (Term.static Bundle.tN n d).eval args' U none [] U = cell.slots[f.slot]? := by
    simp [Term.eval, State.fieldNamed?, hi, hst, ha, hcell, hs]
  have h := h
  simp only [Cond.before, Cond.holds, Cond.value] at h
  rw [he] at h
  cases hv : cell.slots[f.slot]? with
  | none => simp [hv] at h
  | some v =>
    refine ⟨c, k, i, f, a, cell, v, hc, hi, hst, ha, hcell, hs, hcls, hlt, hty, hv, ?_, hA a (Array.getElem?_eq_some_iff.mp hcell).1⟩
    rw [hv] at h
    cases v <;> simp at h ⊢ <;> rfl
def Zs (A : Nat → Prop) (U : State) (H : Heap) : Prop := Zx "UNASSIGNED_STACK" Bundle.steD A U H ∧ Zx "SUPPRESSED_SENTINEL" Bundle.listD A U H
theorem Zs.moved {A : Nat → Prop} {u U : State} {H : Heap} (hvm : u.vm.Alike U.vm) (h : Zs A u H) : Zs A U H := ⟨h.1.moved hvm, h.2.moved hvm⟩
theorem Zs.kept {A : Nat → Prop} {U : State} {H H1 : Heap} (h : Zs A U H) (hq : ∀ a : Nat, a < H.size → ¬ A a → H1[a]? = H[a]?) : Zs A U H1 := ⟨h.1.kept hq, h.2.kept hq⟩
theorem Zs.narrow {A B : Nat → Prop} {U : State} {H : Heap} (h : Zs A U H) (hAB : ∀ q, q < H.size → B q → A q) : Zs B U H := ⟨h.1.narrow hAB, h.2.narrow hAB⟩
-- the exceptions by number
def excN : Nat → String
  | 1 => "java/lang/IllegalArgumentException" | 2 => "java/lang/IllegalStateException" | 3 => "java/lang/IndexOutOfBoundsException" | 4 => "java/lang/ArithmeticException" | 5 => "java/lang/UnsupportedOperationException" | 6 => "java/util/NoSuchElementException" | _ => "java/lang/RuntimeException"
def excC : Nat → List String
  | 1 => ["java/lang/RuntimeException", "java/lang/Exception"] | 2 => ["java/lang/RuntimeException", "java/lang/Exception"] | 3 => ["java/lang/RuntimeException", "java/lang/Exception"] | 4 => ["java/lang/RuntimeException", "java/lang/Exception"] | 5 => ["java/lang/RuntimeException", "java/lang/Exception"] | 6 => ["java/lang/RuntimeException", "java/lang/Exception"] | _ => ["java/lang/Exception"]
/-- the words of a throw that lie in the tables -/
def thrOk (own : String) (ik ic k : Nat) : Prop := (Cond.classLink own ik (excN k) ∈ tbl ∧ Cond.instantiable (excN k) 6 ∈ tbl ∧ Cond.initialized (excN k) ∈ tbl) ∧ ∀ w ∈ Bundle.ownAtoms0 own ic (excN k) (excC k), w ∈ tbl ∨ w = .laysStatic Bundle.tN "UNASSIGNED_STACK" Bundle.steD ∨ w = .laysStatic Bundle.tN "SUPPRESSED_SENTINEL" Bundle.listD ∨ w = .isRef (.static Bundle.tN "UNASSIGNED_STACK" Bundle.steD) ∨ w = .isRef (.static Bundle.tN "SUPPRESSED_SENTINEL" Bundle.listD)
theorem thrOk_of {own : String} {ik ic k : Nat} (h : (([Cond.classLink own ik (excN k), Cond.instantiable (excN k) 6, Cond.initialized (excN k)]).all (fun w => decide (w ∈ tables_1) && gw w)) = true)
    (h2 : (Bundle.ownAtoms0 own ic (excN k) (excC k)).all (fun w => (decide (w ∈ tables_1) && gw w) || decide (w = .laysStatic Bundle.tN "UNASSIGNED_STACK" Bundle.steD) || decide (w = .laysStatic Bundle.tN "SUPPRESSED_SENTINEL" Bundle.listD) || decide (w = .isRef (.static Bundle.tN "UNASSIGNED_STACK" Bundle.steD)) || decide (w = .isRef (.static Bundle.tN "SUPPRESSED_SENTINEL" Bundle.listD))) = true) : thrOk own ik ic k := by
  have h1 := tb_all _ h
  refine ⟨⟨h1 _ (by simp), h1 _ (by simp), h1 _ (by simp)⟩, fun w hw => ?_⟩
  have h3 := List.all_eq_true.mp h2 w hw
  simp only [Bool.or_eq_true, Bool.and_eq_true, decide_eq_true_eq] at h3
  rcases h3 with (((⟨a, b⟩ | h3) | h3) | h3) | h3
  · exact Or.inl (List.mem_filter.mpr ⟨List.mem_append_right _ a, b⟩)
  · exact Or.inr (Or.inl h3)
  · exact Or.inr (Or.inr (Or.inl h3))
  · exact Or.inr (Or.inr (Or.inr (Or.inl h3)))
  · exact Or.inr (Or.inr (Or.inr (Or.inr h3)))
theorem thr_before {own : String} {ik ic k : Nat} (h : thrOk own ik ic k) {A : Nat → Prop} {U : State} (hT : Tb U) (hZ : Zs A U U.heap) (args : Array Value) : ∀ w ∈ Bundle.ownAtoms0 own ic (excN k) (excC k), w.before args U = true := by
  intro w hw
  rcases h.2 w hw with h | rfl | rfl | rfl | rfl
  · exact hT w h args
  · exact hZ.1.lay
  · exact hZ.2.lay
  · exact hZ.1.ref
  · exact hZ.2.ref
-- outcomes
def FEX (first : State) (o : Outcome) (t : State) (L : List Loc) (k n : Nat) : Prop := ((∃ v, o = .returned v) ∨ ∃ a, o = .threw a) ∧ first.WarmedH t.vm ∧ first.sameButNew ({ t with vm := first.vm } : State) L k n
def MetX (l : Launch) (y : MethodName) (ws : List Cond) (rm : Room) (Pc : Array Value → State → Prop) (Qc : Array Value → State → Outcome → State → Prop) (mc ms : Nat) (free : Addr → Prop) : Prop :=
  MetFree l y (headSpec ws rm) Pc (fun _ _ _ _ _ => True) (fun a st o t => Qc a st o t ∧ ∃ L, FEX st o t L mc ms ∧ ∀ q ∈ L, free q.base)
def MX (below : List Frame) (Qc : Array Value → State → Outcome → State → Prop) (a : Array Value) (s : State) (mc ms : Nat) (free : Addr → Prop) : State → Prop := fun t =>
  ∃ o, t.status = .running ∧ Ended t below o ∧ Qc a s o t ∧ ∃ L, FEX s o t L mc ms ∧ ∀ q ∈ L, free q.base
theorem MX.ofMQ {below : List Frame} {Qc Qc' : Array Value → State → Outcome → State → Prop} {a : Array Value} {s : State} {mc ms : Nat} {free : Addr → Prop} {t : State} (hq : ∀ o t, Qc a s o t → Qc' a s o t) (h : MQ below Qc a s mc ms free t) : MX below Qc' a s mc ms free t := by
  obtain ⟨o, h1, h2, h3, L, ⟨h4, h5⟩, h6⟩ := h
  exact ⟨o, h1, h2, hq _ _ h3, L, ⟨Or.inl h4, h5⟩, h6⟩
theorem MetX.ofW {l : Launch} {y : MethodName} {ws ws' : List Cond} {rm : Room} {Pc : Array Value → State → Prop} {Qc : Array Value → State → Outcome → State → Prop} {mc ms : Nat} {free : Addr → Prop} {cc : ByteArray} {maxL : Nat} {ret : Option FieldType}
    (hy : plainName y.cls = true) (hw : ws = Cond.code y cc maxL ret :: ws')
    (body : ∀ p e s m args below meth c s₁, BodyLoose p l y (headSpec ws rm) cc maxL ret e s m args below meth c s₁ → c.maxLocals = maxL → (∀ x ∈ c.exceptionTable.toList, ∀ pc, covers x pc = false) → Pc args s →
      W p l e (headSpec ws rm).room s m args below meth c s.heap [] 0 0 (MX below Qc args s mc ms free) (entryFrame m args maxL)) : MetX l y ws rm Pc Qc mc ms free := by
  refine MetFree.of_bodyS (code := cc) (maxLocals := maxL) (ret := ret) hy ?_ ?_
  · intro args s m h hn
    obtain ⟨meth, c, h1, h2, h3, h4, h5, h6, -, -⟩ := Cond.code_spec hn (atoms_spec (ws := ws) h _ (by rw [hw]; exact List.mem_cons_self))
    exact ⟨meth, c, h1, h2, h3, h4, h5, h6⟩
  · intro p e s m args below meth c s₁ B hml hP _
    have hh0 : s₁.heap = s.heap := by rw [B.state]; rfl
    have hx : ∀ x ∈ c.exceptionTable.toList, ∀ pc, covers x pc = false := by
      intro x hx pc
      exact covers_of_empty (B.noHandlers (atoms_spec (ws := ws) B.pre _ (by rw [hw]; exact List.mem_cons_self))) pc x hx
    obtain ⟨t, a1, o, b1, b2, b3⟩ := body p e s m args below meth c s₁ B hml hx hP s₁ hh0 (Stand.of_body B)
    exact ⟨t, o, a1, b1, b2, ⟨b3.1, b3.2⟩⟩
