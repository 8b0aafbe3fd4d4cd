/-! CONSTRUCTORS: a world that grows: cells at b + 0, b + 1 .. in the order in which they are made -/
def gp (D : va_G) (b : Nat) (wf : Nat → Option va_E) (n : Nat) (H : Heap) : Prop := H.size = b + n ∧ ∀ k e, wf k = some e → va_at D classes (b + k, e) H
def up (wf : Nat → Option va_E) (k : Nat) (e : va_E) : Nat → Option va_E := fun j => if j = k then some e else wf j
theorem up_eq {wf : Nat → Option va_E} {k : Nat} {e : va_E} : up wf k e k = some e := by simp [up]
theorem up_ne {wf : Nat → Option va_E} {k j : Nat} {e : va_E} {x : Option va_E} (hj : j ≠ k) (h : wf j = x) : up wf k e j = x := by simp [up, hj, h]
def Cg (p : Program) (l : Launch) (s : State) (m : MethodId) (meth : Method) (c : Code) (own : String) (cc : ByteArray) (nL : Nat) (D : va_G) (ca : Nat → ClassId) : Prop :=
  p.tables.exec = Jvm.exec ∧ c.code = cc ∧ c.maxLocals = nL ∧ s.vm.findClass own = some m.cls ∧ Tb s ∧ va_K D classes (tys ca) s ∧ meth.locks = false
def wg (p : Program) (l : Launch) (e : Env) (R : Room) (s : State) (m : MethodId) (args : Array Value) (below : List Frame) (meth : Method) (c : Code) (D : va_G) (b nL cells slots : Nat) (Q : State → Prop) (pc : Nat) (ls : List (Nat × Value)) (st : List Value) (wf : Nat → Option va_E) (n : Nat) : Prop :=
  ∀ (H : Heap) (locs : List Loc) (la : Array Slot), gp D b wf n H → va_S (fun q => b ≤ q) s.heap H locs → lv_has la nL ls → W p l e R s m args below meth c H locs cells slots Q (F0 m pc la st)
def PreG (D : va_G) (ca : Nat → ClassId) (b : Nat) (wf : Nat → Option va_E) (n : Nat) (U : State) : Prop := gp D b wf n U.heap ∧ Tb U ∧ va_K D classes (tys ca) U
def PostG (D : va_G) (b : Nat) (wf : Nat → Option va_E) (n : Nat) : Unit → State → Prop := fun _ t => gp D b wf n t.heap
theorem PreG.blind {D : va_G} {ca : Nat → ClassId} {b n : Nat} {wf : Nat → Option va_E} {As : List Value} : FrameBlind (va_Pc As (PreG D ca b wf n)) := by
  intro a U g mk h
  obtain ⟨rfl, h1, h2, h3⟩ := h
  exact ⟨rfl, h1, h2.warm (State.WarmedH.refl U), va_K.moved (Vm.Alike.refl U.vm) h3⟩
theorem met_of_wg {l : Launch} {y : MethodName} {bb : ByteArray} {mL : Nat} {ret : Option FieldType} {rm : Room} {As : List Value} {ls0 : List (Nat × Value)} {D : va_G} {ca : Nat → ClassId} {b n : Nat} {wf : Nat → Option va_E} {Qc : Array Value → State → Outcome → State → Prop} {mc ms : Nat} {free : Addr → Prop} {own : String} (hp : plainName y.cls = true) (hown : y.cls = own) (hlen : (lg_sl As).length ≤ mL) (hls : lv_args 0 As = ls0)
    (k : ∀ (p : Program) (e : Env) (s : State) (m : MethodId) (args : Array Value) (below : List Frame) (meth : Method) (c : Code), Cg p l s m meth c own bb mL D ca → meth.sig.returnType = ret → meth.name = y.name → b ≤ s.heap.size → wg p l e rm s m args below meth c D b mL 0 0 (MQ below Qc args s mc ms free) 0 ls0 [] wf n) : Met l y [Cond.code y bb mL ret] rm (va_Pc As (PreG D ca b wf n)) Qc mc ms free := by
  refine Met.ofW (cc := bb) (maxL := mL) (ret := ret) hp rfl ?_
  intro p e s m args below meth c s₁ B hml hv
  obtain ⟨rfl, hP, hT, hK⟩ := hv
  have hown' : s.vm.findClass own = some m.cls := hown ▸ findClass_of_methodNamed B.named
  have hl := lv_entry As (n := mL) hlen
  rw [lg_entry_eq]
  rw [hls] at hl
  exact k p e s m As.toArray below meth c ⟨B.exec, B.bytes, hml, hown', hT, hK, B.notSynchronized⟩ B.returns (name_of_methodNamed B.named B.method).1 (by rw [hP.1]; omega) s.heap [] _ hP va_S.rf hl
theorem gp.kept {D : va_G} {b n : Nat} {wf : Nat → Option va_E} {H H1 : Heap} (h : gp D b wf n H) {k : Nat} {e : va_E} (he : va_at D classes (b + k, e) H1) (hz : H1.size = H.size) (oq : ∀ q : Nat, q ≠ b + k → H1[q]? = H[q]?) : gp D b (up wf k e) n H1 := by
  refine ⟨by rw [hz]; exact h.1, fun j e' hj => ?_⟩
  by_cases hjk : j = k
  · subst hjk
    rw [up_eq] at hj; cases hj; exact he
  · simp only [up, hjk, if_false] at hj
    exact (h.2 j e' hj).kept (oq _ (by omega))
theorem gp.grow {D : va_G} {b n : Nat} {wf : Nat → Option va_E} {H H1 : Heap} (h : gp D b wf n H) {e : va_E} (he : va_at D classes (b + n, e) H1) (hz : H1.size = H.size + 1) (oq : ∀ q : Nat, q < H.size → H1[q]? = H[q]?) : gp D b (up wf n e) (n + 1) H1 := by
  refine ⟨by rw [hz, h.1]; omega, fun j e' hj => ?_⟩
  by_cases hjk : j = n
  · subst hjk
    rw [up_eq] at hj; cases hj; exact he
  · simp only [up, hjk, if_false] at hj
    exact (h.2 j e' hj).kept (oq _ (h.2 j e' hj).lt)
theorem gp.one {D : va_G} {b n : Nat} {wf : Nat → Option va_E} {H : Heap} (h : gp D b wf n H) {k : Nat} {e : va_E} (he : wf k = some e) : va_P D classes [(b + k, e)] H := by
  intro j q hq
  cases j with
  | zero => cases hq; exact h.2 k e he
  | succ j => simp at hq
section GROWS
variable {p : Program} {l : Launch} {e : Env} {R : Room} {s : State} {m : MethodId} {args : Array Value} {below : List Frame} {meth : Method} {c : Code} {D : va_G} {ca : Nat → ClassId} {b : Nat} {nL cells slots : Nat} {Q : State → Prop} {pc : Nat} {ls : List (Nat × Value)} {st : List Value} {wf : Nat → Option va_E} {n : Nat} {own : String} {cc : ByteArray}
theorem q_iconst (C : Cg p l s m meth c own cc nL D ca) {z : Int} {v : Int32} (hd : decode cc pc = .ok (.iconst z, 1)) (hv : Int32.ofInt z = v) (k : wg p l e R s m args below meth c D b nL cells slots Q (pc + 1) ls (.int v :: st) wf n) : wg p l e R s m args below meth c D b nL cells slots Q (pc) ls st wf n := fun H locs la h1 h2 h3 => lv_iconst C.1 C.2.1 hd hv (k H locs la h1 h2 h3)
theorem q_bipush (C : Cg p l s m meth c own cc nL D ca) {z : Int} {v : Int32} (hd : decode cc pc = .ok (.bipush z, 2)) (hv : (Int8.ofInt z).toInt32 = v) (k : wg p l e R s m args below meth c D b nL cells slots Q (pc + 2) ls (.int v :: st) wf n) : wg p l e R s m args below meth c D b nL cells slots Q (pc) ls st wf n := fun H locs la h1 h2 h3 => lv_bipush C.1 C.2.1 hd hv (k H locs la h1 h2 h3)
theorem q_sipush (C : Cg p l s m meth c own cc nL D ca) {z : Int} {v : Int32} (hd : decode cc pc = .ok (.sipush z, 3)) (hv : (Int16.ofInt z).toInt32 = v) (k : wg p l e R s m args below meth c D b nL cells slots Q (pc + 3) ls (.int v :: st) wf n) : wg p l e R s m args below meth c D b nL cells slots Q (pc) ls st wf n := fun H locs la h1 h2 h3 => lv_sipush C.1 C.2.1 hd hv (k H locs la h1 h2 h3)
theorem q_iload_n (C : Cg p l s m meth c own cc nL D ca) {z : Fin 4} {x : Int32} (pl : Nat) (hl : ls[pl]? = some ((z : Nat), .int x)) (hd : decode cc pc = .ok (.iload_n z, 1)) (k : wg p l e R s m args below meth c D b nL cells slots Q (pc + 1) ls (.int x :: st) wf n) : wg p l e R s m args below meth c D b nL cells slots Q (pc) ls st wf n := fun H locs la h1 h2 h3 => lv_iload_n C.1 C.2.1 hd rfl (lv_at h3 pl hl) (k H locs la h1 h2 h3)
theorem q_istore_n (C : Cg p l s m meth c own cc nL D ca) {z : Fin 4} {x : Int32} {ls' : List (Nat × Value)} (hn : (z : Nat) < nL) (hl : ((z : Nat), Value.int x) :: ls.filter (fun q => !(q.1 == (z : Nat)) && !(q.1 + 1 == (z : Nat) && q.2.category == 2)) = ls') (hd : decode cc pc = .ok (.istore_n z, 1)) (k : wg p l e R s m args below meth c D b nL cells slots Q (pc + 1) ls' st wf n) : wg p l e R s m args below meth c D b nL cells slots Q (pc) ls (.int x :: st) wf n := fun H locs la h1 h2 h3 => lv_istore_n C.1 C.2.1 hd rfl h3 hn hl (fun la h => k H locs la h1 h2 h)
theorem q_istore (C : Cg p l s m meth c own cc nL D ca) {z : Nat} {x : Int32} {ls' : List (Nat × Value)} (hn : z < nL) (hl : (z, Value.int x) :: ls.filter (fun q => !(q.1 == z) && !(q.1 + 1 == z && q.2.category == 2)) = ls') (hd : decode cc pc = .ok (.istore z, 2)) (k : wg p l e R s m args below meth c D b nL cells slots Q (pc + 2) ls' st wf n) : wg p l e R s m args below meth c D b nL cells slots Q (pc) ls (.int x :: st) wf n := fun H locs la h1 h2 h3 => lv_istore C.1 C.2.1 hd h3 hn hl (fun la h => k H locs la h1 h2 h)
theorem q_aload_n (C : Cg p l s m meth c own cc nL D ca) {z : Fin 4} {x : Nat} (pl : Nat) (hl : ls[pl]? = some ((z : Nat), .ref x)) (hd : decode cc pc = .ok (.aload_n z, 1)) (k : wg p l e R s m args below meth c D b nL cells slots Q (pc + 1) ls (.ref x :: st) wf n) : wg p l e R s m args below meth c D b nL cells slots Q (pc) ls st wf n := fun H locs la h1 h2 h3 => lv_aload_n C.1 C.2.1 hd rfl (lv_at h3 pl hl) (k H locs la h1 h2 h3)
theorem q_astore_n (C : Cg p l s m meth c own cc nL D ca) {z : Fin 4} {x : Nat} {ls' : List (Nat × Value)} (hn : (z : Nat) < nL) (hl : ((z : Nat), Value.ref x) :: ls.filter (fun q => !(q.1 == (z : Nat)) && !(q.1 + 1 == (z : Nat) && q.2.category == 2)) = ls') (hd : decode cc pc = .ok (.astore_n z, 1)) (k : wg p l e R s m args below meth c D b nL cells slots Q (pc + 1) ls' st wf n) : wg p l e R s m args below meth c D b nL cells slots Q (pc) ls (.ref x :: st) wf n := fun H locs la h1 h2 h3 => lv_astore_n C.1 C.2.1 hd rfl h3 hn hl (fun la h => k H locs la h1 h2 h)
theorem q_astore (C : Cg p l s m meth c own cc nL D ca) {z : Nat} {x : Nat} {ls' : List (Nat × Value)} (hn : z < nL) (hl : (z, Value.ref x) :: ls.filter (fun q => !(q.1 == z) && !(q.1 + 1 == z && q.2.category == 2)) = ls') (hd : decode cc pc = .ok (.astore z, 2)) (k : wg p l e R s m args below meth c D b nL cells slots Q (pc + 2) ls' st wf n) : wg p l e R s m args below meth c D b nL cells slots Q (pc) ls (.ref x :: st) wf n := fun H locs la h1 h2 h3 => lv_astore C.1 C.2.1 hd h3 hn hl (fun la h => k H locs la h1 h2 h)
theorem q_iinc (C : Cg p l s m meth c own cc nL D ca) {i : Nat} {z : Int} {x v : Int32} {ls' : List (Nat × Value)} (pl : Nat) (hk : ls[pl]? = some (i, .int x)) (hv : x + Int32.ofInt z = v) (hn : i < nL) (hl : (i, Value.int v) :: ls.filter (fun q => !(q.1 == i) && !(q.1 + 1 == i && q.2.category == 2)) = ls') (hd : decode cc pc = .ok (.iinc i z, 3)) (k : wg p l e R s m args below meth c D b nL cells slots Q (pc + 3) ls' st wf n) : wg p l e R s m args below meth c D b nL cells slots Q (pc) ls st wf n := fun H locs la h1 h2 h3 => lv_iinc C.1 C.2.1 hd h3 hk hv hn hl (fun la h => k H locs la h1 h2 h)
theorem q_dup (C : Cg p l s m meth c own cc nL D ca) {v : Value} (hv : v.category = 1) (hd : decode cc pc = .ok (.dup, 1)) (k : wg p l e R s m args below meth c D b nL cells slots Q (pc + 1) ls (v :: v :: st) wf n) : wg p l e R s m args below meth c D b nL cells slots Q (pc) ls (v :: st) wf n := fun H locs la h1 h2 h3 => lv_dup C.1 C.2.1 hd hv (k H locs la h1 h2 h3)
theorem q_goto (C : Cg p l s m meth c own cc nL D ca) {off : Int} {tgt : Nat} (hd : decode cc pc = .ok (.goto off, 3)) (ht : (pc : Int) + off = (tgt : Int)) (k : wg p l e R s m args below meth c D b nL cells slots Q (tgt) ls st wf n) : wg p l e R s m args below meth c D b nL cells slots Q (pc) ls st wf n := fun H locs la h1 h2 h3 => lv_goto C.1 C.2.1 hd ht (k H locs la h1 h2 h3)
theorem q_ge_t (C : Cg p l s m meth c own cc nL D ca) {x y : Int32} {off : Int} {tgt : Nat} (hd : decode cc pc = .ok (.if_icmp .ge off, 3)) (ht : (pc : Int) + off = (tgt : Int)) (hc : y ≤ x) (k : wg p l e R s m args below meth c D b nL cells slots Q (tgt) ls st wf n) : wg p l e R s m args below meth c D b nL cells slots Q (pc) ls (.int y :: .int x :: st) wf n := fun H locs la h1 h2 h3 => lv_icmp_ge C.1 C.2.1 hd ht (fun _ => k H locs la h1 h2 h3) (fun q => absurd hc q)
theorem q_ge_f (C : Cg p l s m meth c own cc nL D ca) {x y : Int32} {off : Int} {tgt : Nat} (hd : decode cc pc = .ok (.if_icmp .ge off, 3)) (ht : (pc : Int) + off = (tgt : Int)) (hc : ¬ y ≤ x) (k : wg p l e R s m args below meth c D b nL cells slots Q (pc + 3) ls st wf n) : wg p l e R s m args below meth c D b nL cells slots Q (pc) ls (.int y :: .int x :: st) wf n := fun H locs la h1 h2 h3 => lv_icmp_ge C.1 C.2.1 hd ht (fun q => absurd q hc) (fun _ => k H locs la h1 h2 h3)
theorem q_new (C : Cg p l s m meth c own cc nL D ca) {kd index N : Nat} {Cn : String} {T : u_T} {ty : Nat → FieldType} {fs : List Value} (hcl : classes[kd]? = some (Cn, T, N)) (hin : ∀ w ∈ u_ws Cn T N, w ∈ tbl) (hty : ∀ k, k < N → parseFieldDescriptor (T k).2.2.1 = some (ty k)) (hfs : ∀ j, j < N → defaultValue (ty j) = vp_V fs j) (w1 : Cond.classLink own index Cn ∈ tbl) (w2 : Cond.instantiable Cn N ∈ tbl) (w3 : Cond.initialized Cn ∈ tbl) (hc : cells + 1 ≤ R.cells) (hs : slots + N ≤ R.slots) (hb : b ≤ s.heap.size) (hd : decode cc pc = .ok (.new index, 3)) (k : wg p l e R s m args below meth c D b nL (cells + 1) (slots + N) Q (pc + 3) ls (.ref (b + n) :: st) (up wf n (.inr (kd, fs))) (n + 1)) : wg p l e R s m args below meth c D b nL cells slots Q (pc) ls st wf n := by
  intro H locs la h1 h2 h3
  have hKn := C.2.2.2.2.2.1.1 kd _ hcl
  refine W.newcK C.1 C.2.1 C.2.2.2.1 (C.2.2.2.2.1 _ w1 _) (C.2.2.2.2.1 _ w2 _) (C.2.2.2.2.1 _ w3 _) rfl hd hc hs hKn.2.1 rfl fun H1 kC hkC e1 z1 o1 => ?_
  have hsz := h1.1
  have e1' : t_OB (b + n) (D.1 kd) N (D.2 kd) H1 (vp_V fs) := by
    rw [hsz] at e1
    exact (u_born ty (fun w hw => C.2.2.2.2.1 w hw #[]) hin hKn hkC e1 hty).to hfs
  rw [hsz]
  exact k H1 locs la (h1.grow ⟨_, hcl, e1'⟩ z1 o1) ⟨by have := h2.1; omega, fun q q1 q2 => (o1 q (by have := h2.1; omega)).trans (h2.2.1 q q1 q2), h2.2.2⟩ h3
theorem q_newa (C : Cg p l s m meth c own cc nL D ca) {atype : ArrayType} {ty : FieldType} {t0 ti N : Nat} {x : Int32} {a : (Nat → Int32) ⊕ (Nat → Int64) ⊕ (Nat → UInt32) ⊕ (Nat → UInt64) ⊕ (Nat → Option Nat)} (hty : newarray.typeOf atype = ty) (hobj : ∀ cA, va_RA s cA ty → s.vm.findClass ("[" ++ ty.toString) = some cA) (ht : (tys ca)[t0]? = some (ca ti, ty)) (ha : ∀ cA : ClassId, vp_cell cA (N, a) = arrV cA N (fun _ => defaultValue ty)) (w1 : Cond.arrayClass ty ∈ tbl) (hn : ¬ x < 0) (hN : x.toNatClampNeg = N) (hbytes : N * componentBytes ty ≤ 536870912) (hc : cells + 1 ≤ R.cells) (hs : slots + N ≤ R.slots) (hd : decode cc pc = .ok (.newarray atype, 2)) (k : wg p l e R s m args below meth c D b nL (cells + 1) (slots + N) Q (pc + 2) ls (.ref (b + n) :: st) (up wf n (.inl (ca ti, N, a))) (n + 1)) : wg p l e R s m args below meth c D b nL cells slots Q (pc) ls (.int x :: st) wf n := by
  subst hty
  intro H locs la h1 h2 h3
  have hsz := h1.1
  refine va_newaK C.1 C.2.1 (C.2.2.2.2.1 _ w1 _) rfl hd rfl hn hN hbytes hc hs rfl fun H1 cA e1 z1 o1 hAr hNm => ?_
  have hcA : cA = ca ti := Option.some.inj (hNm.symm.trans (hobj _ (C.2.2.2.2.2.1.2 t0 _ ht).2))
  subst hcA
  rw [hsz] at e1
  rw [hsz]
  exact k H1 locs la (h1.grow (e := .inl (ca ti, N, a)) (by show H1[b + n]? = some (vp_cell _ _); rw [ha]; exact e1) z1 o1) ⟨by have := h2.1; omega, fun q q1 q2 => (o1 q (by have := h2.1; omega)).trans (h2.2.1 q q1 q2), h2.2.2⟩ h3
theorem q_anew (C : Cg p l s m meth c own cc nL D ca) {Cn : String} {index t0 ti N : Nat} {x : Int32} (ht : (tys ca)[t0]? = some (ca ti, .object Cn)) (w1 : Cond.classLink own index Cn ∈ tbl) (w2 : Cond.arrayOver (.object Cn) ∈ tbl) (hn : ¬ x < 0) (hN : x.toNatClampNeg = N) (hbytes : N * 4 ≤ 536870912) (hc : cells + 1 ≤ R.cells) (hs : slots + N ≤ R.slots) (hd : decode cc pc = .ok (.anewarray index, 3)) (k : wg p l e R s m args below meth c D b nL (cells + 1) (slots + N) Q (pc + 3) ls (.ref (b + n) :: st) (up wf n (.inl (ca ti, N, .inr (.inr (.inr (.inr (fun _ => none))))))) (n + 1)) : wg p l e R s m args below meth c D b nL cells slots Q (pc) ls (.int x :: st) wf n := by
  intro H locs la h1 h2 h3
  subst hN
  have hsz := h1.1
  refine W.anew C.1 C.2.1 C.2.2.2.1 (C.2.2.2.2.1 _ w1 _) (C.2.2.2.2.1 _ w2 _) rfl hd rfl hn hbytes hc hs fun cA kA comp f1 f2 f3 f4 => ?_
  obtain ⟨kA', comp', y1, y2, y3, y4⟩ := (C.2.2.2.2.2.1.2 t0 _ ht).2
  have hcA : cA = ca ti := Option.some.inj (f1.symm.trans y4)
  subst hcA
  generalize hH1 : H.push ({ cls := ca ti, slots := Array.replicate x.toNatClampNeg .null, vm := .none } : Cell) = H1
  have z1 : H1.size = H.size + 1 := by rw [← hH1, Array.size_push]
  have e1 : H1[b + n]? = some (arrV (ca ti) x.toNatClampNeg (fun _ => .null)) := by rw [← hsz, ← hH1, Array.getElem?_push_size, ← arrV_new]
  have o1 : ∀ q : Nat, q < H.size → H1[q]? = H[q]? := fun q hq => by rw [← hH1, Array.getElem?_push, if_neg (Nat.ne_of_lt hq)]
  rw [hsz]
  exact k H1 locs la (h1.grow (e := .inl (ca ti, x.toNatClampNeg, .inr (.inr (.inr (.inr (fun _ => none)))))) (by show H1[b + n]? = some (vp_cell _ _); rw [vp_cell_q]; exact e1) z1 o1) ⟨by have := h2.1; omega, fun q q1 q2 => (o1 q (by have := h2.1; omega)).trans (h2.2.1 q q1 q2), h2.2.2⟩ h3
theorem q_get (C : Cg p l s m meth c own cc nL D ca) {kd i index N : Nat} {fs : List Value} {Cn : String} {T : u_T} {v : Value} (hc : wf i = some (.inr (kd, fs))) (hcl : classes[kd]? = some (Cn, T, N)) (hin : ∀ w ∈ u_ws Cn T N, w ∈ tbl) (kf : Nat) (hk : kf < N) (hv : fs[kf]? = some v) (hw : Cond.fieldLink own index (T kf).1 (T kf).2.1 (T kf).2.2.1 ∈ tbl) (hd : decode cc pc = .ok (.getfield index, 3)) (k : wg p l e R s m args below meth c D b nL cells slots Q (pc + 3) ls (v :: st) wf n) : wg p l e R s m args below meth c D b nL cells slots Q (pc) ls (.ref (b + i) :: st) wf n :=
  fun H locs la h1 h2 h3 => va_get (Ts := tbl) (ws := [(b + i, .inr (kd, fs))]) C.1 C.2.1 (fun w hw => C.2.2.2.2.1 w hw _) hin C.2.2.2.1 C.2.2.2.2.2.1 (h1.one hc) 0 rfl hcl kf hk (C.2.2.2.2.1 _ hw _) (fun _ h => h) hv hd (k H locs la h1 h2 h3)
theorem q_put (C : Cg p l s m meth c own cc nL D ca) (hmn : meth.name = "<init>") {kd i index N : Nat} {fs : List Value} {Cn : String} {T : u_T} {v : Value} {ty0 : Nat → FieldType} (hc : wf i = some (.inr (kd, fs))) (hcl : classes[kd]? = some (Cn, T, N)) (hin : ∀ w ∈ u_ws Cn T N, w ∈ tbl) (hty : ∀ k, k < N → parseFieldDescriptor (T k).2.2.1 = some (ty0 k)) (hnm : ∀ a, a < N → ∀ b, b < N → a ≠ b → (T a).2.1 ≠ (T b).2.1) (kf : Nat) (hk : kf < N) (hdecl : (T kf).1 = own) (hn : narrow (ty0 kf) v = v) (hfit : fits (ty0 kf) v = true) (hl : kf < fs.length) {fs' : List Value} (hset : fs.set kf v = fs')
    (hw : Cond.fieldLink own index (T kf).1 (T kf).2.1 (T kf).2.2.1 ∈ tbl) (hd : decode cc pc = .ok (.putfield index, 3)) (k : wg p l e R s m args below meth c D b nL cells slots Q (pc + 3) ls st (up wf i (.inr (kd, fs'))) n) : wg p l e R s m args below meth c D b nL cells slots Q (pc) ls (v :: .ref (b + i) :: st) wf n := by
  subst hset
  intro H locs la h1 h2 h3
  obtain ⟨hx, hb, hml, hown, hT, hK, -⟩ := C
  have hap := va_apart (s := s) (own := own) (fun w hw => hT w hw #[]) hin ty0 hty hnm hK hcl
  have hat := h1.2 i _ hc
  obtain ⟨r, g1, cell, q1, q2, q3, q4⟩ := hat
  have hr : r = (Cn, T, N) := Option.some.inj (g1.symm.trans hcl)
  subst hr
  obtain ⟨hS, hfc, kC, hkC, hkind⟩ := hK.1 kd _ hcl
  obtain ⟨cf, kf', fi, f, hi2, hsl⟩ := hS kf hk
  have hlay := u_lays (s := s) (args := #[]) (fun w hw => hT w hw #[]) hin hk
  have hst := (u_facts hfc hkC hlay hi2).1
  have h6 := u_fits hfc hkC hkind hlay hi2 (hty kf hk) hn hfit
  have hfin : hasFlag f.accessFlags Acc.final = false ∨ (m.cls = cf ∧ meth.name = "<init>") := by
    rcases hlay with h | h
    · exact Or.inl (u_store hfc hkC hkind h hi2 (hty kf hk) hn hfit).1
    · refine Or.inr ⟨?_, hmn⟩
      obtain ⟨_, _, c', _, _, _, -, -, hf', -, -, -, hown2, -⟩ := Cond.laysFinal_spec h
      have e1 : c' = cf := by have := hi2.symm.trans hf'; simp at this; exact this.1.symm
      rw [hdecl] at hown2
      rw [← e1]; exact Option.some.inj (hown.symm.trans hown2)
  have ha : b + i < H.size := (Array.getElem?_eq_some_iff.mp q1).1
  have hslot : f.slot < cell.slots.size := by rw [hsl]; exact k2_hasslot (q4 kf hk)
  refine W.putf hx hb hown (hT _ hw _) hi2 hst hfin q1 (by rw [q3]; exact fun h => by cases h) hslot h6.1 (by rw [q3, q2]; exact h6.2) rfl rfl hd ?_
  have e1 : (H.setIfInBounds (b + i) (cell.setSlot f.slot v))[b + i]? = some (cell.setSlot f.slot v) := by simp [Array.getElem?_setIfInBounds, ha]
  have e3 : ∀ q : Nat, q ≠ b + i → (H.setIfInBounds (b + i) (cell.setSlot f.slot v))[q]? = H[q]? := fun q hq => by simp [Array.getElem?_setIfInBounds, Ne.symm hq]
  have e2 : (H.setIfInBounds (b + i) (cell.setSlot f.slot v)).size = H.size := by simp
  rw [hsl] at e1 e2 e3 ⊢
  refine k _ _ la (h1.kept ?_ e2 e3) (h2.put e2 e3 (by show b ≤ b + i; omega)) h3
  exact ⟨_, hcl, t_OB.to (V := updV (vp_V fs) kf v) ⟨_, e1, q2, q3, t_set q4 hap hk v⟩ (fun j _ => vp_updV_set hl v j)⟩
theorem q_iast (C : Cg p l s m meth c own cc nL D ca) {i N : Nat} {f : Nat → Int32} {x v : Int32} (hc : wf i = some (.inl (ca 0, N, .inl f))) (hin : vp_in x N) (hd : decode cc pc = .ok (.iastore, 1)) (k : wg p l e R s m args below meth c D b nL cells slots Q (pc + 1) ls st (up wf i (.inl (ca 0, N, .inl (upd f x.toNatClampNeg v)))) n) : wg p l e R s m args below meth c D b nL cells slots Q (pc) ls (.int v :: .int x :: .ref (b + i) :: st) wf n := by
  intro H locs la h1 h2 h3
  refine W.iast C.1 C.2.1 (h1.2 i _ hc) ((C.2.2.2.2.2.1.2 0 _ rfl).1 N (fun j => .int (f j))) (fun q => by cases q) (by show ¬ (x < 0 ∨ (arrV _ _ _).slots.size ≤ _); rw [arrV_size]; exact hin) rfl rfl hd fun H1 e1 z oq => ?_
  refine k H1 _ la (h1.kept ?_ z oq) (h2.put z oq (by show b ≤ b + i; omega)) h3
  show H1[b + i]? = some (vp_cell _ _)
  rw [e1]
  rw [vp_cell_i, vp_cell_i, arrV_store]
  congr 2
  funext q
  by_cases hq : q = x.toNatClampNeg
  · subst hq
    simp [updV, upd]
  · simp [updV, upd, hq]
theorem q_aast (C : Cg p l s m meth c own cc nL D ca) {i j ti t0 ci N : Nat} {f : Nat → Option Nat} {x : Int32} {r : vw_C} {vs : List Value} (hc : wf i = some (.inl (ca ti, N, .inr (.inr (.inr (.inr f)))))) (ht : (tys ca)[t0]? = some (ca ti, .object r.1)) (hv : wf j = some (.inr (ci, vs))) (hci : classes[ci]? = some r) (hin : vp_in x N) (hd : decode cc pc = .ok (.aastore, 1)) (k : wg p l e R s m args below meth c D b nL cells slots Q (pc + 1) ls st (up wf i (.inl (ca ti, N, .inr (.inr (.inr (.inr (va_up f x.toNatClampNeg (some (b + j))))))))) n) : wg p l e R s m args below meth c D b nL cells slots Q (pc) ls (.ref (b + j) :: .int x :: .ref (b + i) :: st) wf n := by
  intro H locs la h1 h2 h3
  have hlt : x.toNatClampNeg < N := Nat.not_le.mp fun q => hin (Or.inr q)
  have h0 : ¬ x < 0 := fun q => hin (Or.inl q)
  obtain ⟨r', hr', cellV, g1, g2, g3, -⟩ := h1.2 j _ hv
  have hcls := (C.2.2.2.2.2.1.1 ci r hci).2
  obtain ⟨kA, comp, k1, k2, k3, -⟩ := (C.2.2.2.2.2.1.2 t0 _ ht).2
  have hcomp : comp = D.1 ci := Option.some.inj (k3.symm.trans hcls.1)
  subst hcomp
  obtain ⟨kC, hkC, -⟩ := hcls.2
  refine W.aast C.1 C.2.1 (h1.2 i _ hc) (fun q h => by cases h) (fun h => by cases h) k1 k2 rfl hkC ⟨h0, by show _ < (arrV _ _ _).slots.size; rw [arrV_size]; exact hlt⟩ g1 (fun q h => by rw [g3] at h; cases h) (by rw [g2]; exact hkC) (by rw [g2]; exact va_assign hcls) rfl rfl hd fun H1 e1 z oq => ?_
  refine k H1 _ la (h1.kept ?_ z oq) (h2.put z oq (by show b ≤ b + i; omega)) h3
  show H1[b + i]? = some (vp_cell _ _)
  rw [e1]
  rw [vp_cell_q, vp_cell_q, arrV_store]
  congr 2
  funext q
  by_cases hq : q = x.toNatClampNeg
  · subst hq
    simp [updV, va_up, va_rf]
  · simp [updV, va_up, hq]
theorem q_aald (C : Cg p l s m meth c own cc nL D ca) {i ti t0 N v : Nat} {f : Nat → Option Nat} {x : Int32} {Cn : String} (hc : wf i = some (.inl (ca ti, N, .inr (.inr (.inr (.inr f)))))) (ht : (tys ca)[t0]? = some (ca ti, .object Cn)) (hin : vp_in x N) (hv : f x.toNatClampNeg = some v) (hd : decode cc pc = .ok (.aaload, 1)) (k : wg p l e R s m args below meth c D b nL cells slots Q (pc + 1) ls (.ref v :: st) wf n) : wg p l e R s m args below meth c D b nL cells slots Q (pc) ls (.int x :: .ref (b + i) :: st) wf n := by
  intro H locs la h1 h2 h3
  refine va_aldq C.1 C.2.1 C.2.2.2.2.2.1 (h1.one hc) 0 t0 rfl ht hin hd ?_
  rw [hv]
  exact k H locs la h1 h2 h3
theorem q_obj (C : Cg p l s m meth c own cc nL D ca) {idx : Nat} {a : Nat} (w1 : Cond.methodLink own idx Lib.objectInit ∈ tbl) (w2 : Cond.instanceMethod Lib.objectInit ∈ tbl) (w3 : Cond.code Lib.objectInit ⟨#[0xb1]⟩ 1 none ∈ tbl) (hst : (st.map fun v => v.category).sum ≤ 8) (hf : 1 ≤ R.frames) (hl : 20 ≤ R.locals) (hd : decode cc pc = .ok (.invokespecial idx, 3)) (k : wg p l e R s m args below meth c D b nL cells slots Q (pc + 3) ls st wf n) : wg p l e R s m args below meth c D b nL cells slots Q (pc) ls (.ref a :: st) wf n := by
  intro H locs la h1 h2 h3
  refine W.objInit C.1 C.2.1 C.2.2.2.1 (C.2.2.2.2.1 _ w1 _) (C.2.2.2.2.1 _ w2 _) (C.2.2.2.2.1 _ w3 _) (g := F0 m pc la (.ref a :: st)) rfl (by show la.size = _; rw [C.2.2.1]; exact h3.1) (a := a) (rest := st) rfl hd hf (by show 2 * 0 + (st.map fun v => v.category).sum + 12 ≤ R.locals; omega) ?_
  exact k H locs la h1 h2 h3
theorem q_ret (C : Cg p l s m meth c own cc nL D ca) {wf' : Nat → Option va_E} {n' : Nat} (hr : meth.sig.returnType = none) (hb : b ≤ s.heap.size) (hd : decode cc pc = .ok (.return_, 1)) (hw : wf = wf') (hn : n = n') {mc ms : Nat} (hmc : cells = mc) (hms : slots = ms) : wg p l e R s m args below meth c D b nL cells slots (MQ below (va_Qv (fun _ => True) (PostG D b wf' n') (fun q => b ≤ q)) args s mc ms (fun q => b ≤ q)) pc ls [] wf n := by
  intro H locs la h1 h2 h3
  subst hw; subst hn; subst hmc; subst hms
  have hlk := C.2.2.2.2.2.2
  exact W.vret C.1 C.2.1 hr (fun t ht hW => ⟨⟨(), rfl, trivial, by unfold PostG; rw [ht]; exact h1⟩, h2.F ht⟩) h2.2.2 hd hlk
theorem q_callI (C : Cg p l s m meth c own cc nL D ca) {i index mL na : Nat} {y : MethodName} {bb : ByteArray} {rm : Room} {As rest : List Value} {wf' : Nat → Option va_E} {n' mc ms : Nat} (hM : Met l y [Cond.code y bb mL none] rm (va_Pc (.ref (b + i) :: As) (PreG D ca b wf n)) (va_Qv (fun _ => True) (PostG D b wf' n') (fun q => b ≤ q)) mc ms (fun q => b ≤ q)) (hy : y.name = "<init>") (hI : Cond.instanceMethod y ∈ tbl) (hN : Cond.initialized y.cls ∈ tbl) (hC : Cond.code y bb mL none ∈ tbl) (hd2 : y.cls ≠ "java/lang/invoke/MethodHandle" ∧ y.cls ≠ "java/lang/invoke/VarHandle" ∧ (parseMethodDescriptor y.desc).map (fun d => d.parameters.length) = some na) (hL : Cond.methodLink own index y ∈ tbl) (hrc : rm.cells = mc) (hrs : rm.slots = ms) (hR : rm.frames + 1 ≤ R.frames ∧ 8 + (mL + 11) + rm.locals ≤ R.locals) (hn : As.length = na) (hst : st = As.reverse ++ .ref (b + i) :: rest) (hW : (rest.map fun v => v.category).sum ≤ 8) (hcs : cells + mc ≤ R.cells ∧ slots + ms ≤ R.slots) (hb : b ≤ s.heap.size) (hd : decode cc pc = .ok (.invokespecial index, 3)) (k : wg p l e R s m args below meth c D b nL (cells + mc) (slots + ms) Q (pc + 3) ls rest wf' n') : wg p l e R s m args below meth c D b nL cells slots Q (pc) ls st wf n := by
  intro H locs la h1 h2 h3
  refine va_callv (va_runI (Ts := tbl) (As := As) (rest := rest) ⟨C.1, C.2.1, C.2.2.1, C.2.2.2.1, fun w hw => C.2.2.2.2.1 w hw _⟩ hM ⟨callB_mk na C.2.2.2.2.1 hC hN hL hrc hrs hd2 hR, hy, C.2.2.2.2.1 _ hI _⟩ ⟨PreG.blind, fun U hU hWm => ⟨rfl, by rw [hU]; exact h1, C.2.2.2.2.1.warm hWm, va_K.moved hWm.alike C.2.2.2.2.2.1⟩⟩ rfl hn h3.1 hst (lv_room hW) hd ⟨hcs.1, hcs.2⟩) h2 (fun q _ h => h) (fun q h => h) (fun _ t H1 locs1 e1 hvm hq hbb hz hk hS => k H1 locs1 la (by unfold PostG at hbb; rw [← e1]; exact hbb) hS h3)
theorem q_callIN (C : Cg p l s m meth c own cc nL D ca) {i index mL na : Nat} {y : MethodName} {host : String} {bb : ByteArray} {rm : Room} {As rest : List Value} {wf' : Nat → Option va_E} {n' mc ms : Nat} (hM : Met l y [Cond.code y bb mL none] rm (va_Pc (.ref (b + i) :: As) (PreG D ca b wf n)) (va_Qv (fun _ => True) (PostG D b wf' n') (fun q => b ≤ q)) mc ms (fun q => b ≤ q)) (hy : y.name = "<init>") (hI : Cond.instanceMethod y ∈ tbl) (hN : Cond.initialized y.cls ∈ tbl) (hC : Cond.code y bb mL none ∈ tbl) (hd2 : y.cls ≠ "java/lang/invoke/MethodHandle" ∧ y.cls ≠ "java/lang/invoke/VarHandle" ∧ (parseMethodDescriptor y.desc).map (fun d => d.parameters.length) = some na) (hL : Cond.methodLinkNest own index y host ∈ tbl) (hrc : rm.cells = mc) (hrs : rm.slots = ms) (hR : rm.frames + 1 ≤ R.frames ∧ 8 + (mL + 11) + rm.locals ≤ R.locals) (hn : As.length = na) (hst : st = As.reverse ++ .ref (b + i) :: rest) (hW : (rest.map fun v => v.category).sum ≤ 8) (hcs : cells + mc ≤ R.cells ∧ slots + ms ≤ R.slots) (hb : b ≤ s.heap.size) (hd : decode cc pc = .ok (.invokespecial index, 3)) (k : wg p l e R s m args below meth c D b nL (cells + mc) (slots + ms) Q (pc + 3) ls rest wf' n') : wg p l e R s m args below meth c D b nL cells slots Q (pc) ls st wf n := by
  intro H locs la h1 h2 h3
  refine va_callv (va_runIN (Ts := tbl) (As := As) (rest := rest) ⟨C.1, C.2.1, C.2.2.1, C.2.2.2.1, fun w hw => C.2.2.2.2.1 w hw _⟩ hM ⟨callN_mk na C.2.2.2.2.1 hC hN hL hrc hrs hd2 hR, hy, C.2.2.2.2.1 _ hI _⟩ ⟨PreG.blind, fun U hU hWm => ⟨rfl, by rw [hU]; exact h1, C.2.2.2.2.1.warm hWm, va_K.moved hWm.alike C.2.2.2.2.2.1⟩⟩ rfl hn h3.1 hst (lv_room hW) hd ⟨hcs.1, hcs.2⟩) h2 (fun q _ h => h) (fun q h => h) (fun _ t H1 locs1 e1 hvm hq hbb hz hk hS => k H1 locs1 la (by unfold PostG at hbb; rw [← e1]; exact hbb) hS h3)
end GROWS
