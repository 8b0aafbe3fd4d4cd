/-! THE LAW'S WORLD: the class's object (S), the reference's (M), out (f), outD (g) -/
def GL (D : va_G) (ca : Nat → ClassId) (b : Nat) (S M : St) (f : Nat → Int64) (g : Nat → UInt64) (H : Heap) : Prop :=
  pic true D ca (rho b) S H ∧ pic false D ca (rho b) M H ∧ va_at D classes (b + 135, .inl (ca 1, 1, .inr (.inl f))) H ∧ va_at D classes (b + 136, .inl (ca 2, 1, .inr (.inr (.inr (.inl g))))) H
theorem reg_t {b x : Nat} (h : reg true (rho b) (b + x)) : x < 109 := by
  obtain ⟨k, i, h1, h2, h3⟩ := h
  have := (off_PT k i h1 h2).2
  have h3 : b + x = b + offC k i := h3
  omega
theorem reg_f {b x : Nat} (h : reg false (rho b) (b + x)) : 109 ≤ x ∧ x < 135 := by
  obtain ⟨k, i, h1, h2, h3⟩ := h
  have := off_PF k i h1 h2
  have h3 : b + x = b + offC k i := h3
  omega
theorem reg_le {u : Bool} {b q : Nat} (h : reg u (rho b) q) : b ≤ q := by
  obtain ⟨k, i, h1, h2, h3⟩ := h
  rw [h3]; exact Nat.le_add_right _ _
theorem GL.callT {D : va_G} {ca : Nat → ClassId} {b : Nat} {S S' M : St} {f : Nat → Int64} {g : Nat → UInt64} {H H' : Heap} (h : GL D ca b S M f g H) (hP : pic true D ca (rho b) S' H') (hk : ∀ q : Nat, q < H.size → ¬ Ar true (rho b) H.size q → H'[q]? = H[q]?) : GL D ca b S' M f g H' := by
  have key : ∀ x e, 109 ≤ x → va_at D classes (b + x, e) H → va_at D classes (b + x, e) H' := by
    intro x e hx ha
    refine ha.kept (hk _ ha.lt fun z => ?_)
    rcases z with z | z
    · have := reg_t z; omega
    · have : b + x < H.size := ha.lt
      omega
  exact ⟨hP, fun k i h1 h2 => key _ _ (off_PF k i h1 h2).1 (h.2.1 k i h1 h2), key 135 _ (by omega) h.2.2.1, key 136 _ (by omega) h.2.2.2⟩
theorem GL.callF {D : va_G} {ca : Nat → ClassId} {b : Nat} {S M M' : St} {f : Nat → Int64} {g : Nat → UInt64} {H H' : Heap} (h : GL D ca b S M f g H) (hP : pic false D ca (rho b) M' H') (hk : ∀ q : Nat, q < H.size → ¬ Ar false (rho b) H.size q → H'[q]? = H[q]?) : GL D ca b S M' f g H' := by
  have key : ∀ x e, (x < 109 ∨ 135 ≤ x) → va_at D classes (b + x, e) H → va_at D classes (b + x, e) H' := by
    intro x e hx ha
    refine ha.kept (hk _ ha.lt fun z => ?_)
    rcases z with z | z
    · have := reg_f z; omega
    · have : b + x < H.size := ha.lt
      omega
  exact ⟨fun k i h1 h2 => key _ _ (Or.inl (off_PT k i h1 h2).2) (h.1 k i h1 h2), hP, key 135 _ (by omega) h.2.2.1, key 136 _ (by omega) h.2.2.2⟩
theorem GL.outL {D : va_G} {ca : Nat → ClassId} {b : Nat} {S M : St} {f f' : Nat → Int64} {g : Nat → UInt64} {H H' : Heap} (h : GL D ca b S M f g H) (he : va_at D classes (b + 135, .inl (ca 1, 1, .inr (.inl f'))) H') (oq : ∀ q : Nat, q ≠ b + 135 → H'[q]? = H[q]?) : GL D ca b S M f' g H' :=
  ⟨fun k i h1 h2 => (h.1 k i h1 h2).kept (oq _ (by have := (off_PT k i h1 h2).2; show b + offC k i ≠ _; omega)), fun k i h1 h2 => (h.2.1 k i h1 h2).kept (oq _ (by have := (off_PF k i h1 h2).2; show b + offC k i ≠ _; omega)), he, h.2.2.2.kept (oq _ (by show b + 136 ≠ _; omega))⟩
theorem GL.outD {D : va_G} {ca : Nat → ClassId} {b : Nat} {S M : St} {f : Nat → Int64} {g g' : Nat → UInt64} {H H' : Heap} (h : GL D ca b S M f g H) (he : va_at D classes (b + 136, .inl (ca 2, 1, .inr (.inr (.inr (.inl g'))))) H') (oq : ∀ q : Nat, q ≠ b + 136 → H'[q]? = H[q]?) : GL D ca b S M f g' H' :=
  ⟨fun k i h1 h2 => (h.1 k i h1 h2).kept (oq _ (by have := (off_PT k i h1 h2).2; show b + offC k i ≠ _; omega)), fun k i h1 h2 => (h.2.1 k i h1 h2).kept (oq _ (by have := (off_PF k i h1 h2).2; show b + offC k i ≠ _; omega)), h.2.2.1.kept (oq _ (by show b + 135 ≠ _; omega)), he⟩
abbrev frs (b : Nat) : Nat → Prop := fun q => b ≤ q
def PreL (D : va_G) (ca : Nat → ClassId) (b : Nat) (S M : St) (f : Nat → Int64) (g : Nat → UInt64) (U : State) : Prop := GL D ca b S M f g U.heap ∧ Tb U ∧ va_K D classes (tys ca) U ∧ Cst U ∧ Zs (frs b) U U.heap
theorem PreL.blind {D : va_G} {ca : Nat → ClassId} {b : Nat} {S M : St} {f : Nat → Int64} {g : Nat → UInt64} {As : List Value} : FrameBlind (va_Pc As (PreL D ca b S M f g)) := by
  intro a U g mk h
  obtain ⟨rfl, h1, h2, h3, h4, h5⟩ := h
  exact ⟨rfl, h1, h2.warm (State.WarmedH.refl U), va_K.moved (Vm.Alike.refl U.vm) h3, h4.moved (Vm.Alike.refl U.vm), h5.moved (Vm.Alike.refl U.vm)⟩
abbrev LW : Type := St × (Nat → Int64) × (Nat → UInt64)
def PostL (D : va_G) (ca : Nat → ClassId) (b : Nat) (M : St) (u : LW) (t : State) : Prop := GL D ca b u.1 M u.2.1 u.2.2 t.heap
-- which class a constant of the law's names
def kdL : Nat → Nat
  | 13 => 1 | 15 => 2 | 21 => 3 | 46 => 4 | 31 => 5 | 48 => 6 | _ => 7
def Cw (pc : Nat) (q : Nat × Nat × Nat × Nat) : Prop := (decide (q.1 ≤ pc) && decide (pc < q.2.1)) = true ∧ q.2.2.2 ≠ 0 ∧ 1 ≤ kdL q.2.2.2 ∧ kdL q.2.2.2 ≤ 7 ∧ Cond.classLink RL q.2.2.2 (excN (kdL q.2.2.2)) ∈ tbl
theorem met_of_wn {l : Launch} {y : MethodName} {bb : ByteArray} {mL : Nat} {ret : Option FieldType} {hh : List (Nat × Nat × Nat × Nat)} {rm : Room} {As : List Value} {ls0 : List (Nat × Value)} {D : va_G} {ca : Nat → ClassId} {b : Nat} {S M : St} {f : Nat → Int64} {g : Nat → UInt64} {Qc : Array Value → State → Outcome → State → Prop} {mc ms : Nat} {free : Addr → Prop} {own : String} (hp : plainName y.cls = true) (hown : y.cls = own) (hlen : (lg_sl As).length ≤ mL) (hls : lv_args 0 As = ls0)
    (k : ∀ (p : Program) (e : Env) (s : State) (m : MethodId) (args : Array Value) (below : List Frame) (meth : Method) (c : Code), Cn p l s m meth c own bb mL D ca → meth.sig.returnType = ret → c.exceptionTable.toList.map tup = hh → Zs (frs b) s s.heap → b + 137 ≤ s.heap.size → wn p l e rm s m args below meth c mL 0 0 (MQ below Qc args s mc ms free) (frs b) (GL D ca b S M f g) 0 ls0 []) : Met l y [Cond.codeWith y bb mL ret hh] rm (va_Pc As (PreL D ca b S M f g)) Qc mc ms free := by
  refine va_MetW (cc := bb) (maxL := mL) (ret := ret) (hh := hh) hp rfl ?_
  intro p e s m args below meth c s₁ B hml hv
  obtain ⟨rfl, hG, hT, hK, hC, hZ⟩ := hv
  have hown' : s.vm.findClass own = some m.cls := hown ▸ findClass_of_methodNamed B.named
  obtain ⟨m9, meth9, c9, hn9, hm9, hc9, -, -, hx9, -⟩ := Cond.codeWith_spec (atoms_spec (ws := [Cond.codeWith y bb mL ret hh]) B.pre _ List.mem_cons_self)
  cases B.named.symm.trans hn9
  cases B.method.symm.trans hm9
  have hcc : c9 = c := Option.some.inj (hc9.symm.trans (Stand.of_body B).code)
  subst hcc
  have hl := lv_entry As (n := mL) hlen
  rw [lg_entry_eq]
  rw [hls] at hl
  exact k p e s m As.toArray below meth c9 ⟨B.exec, B.bytes, hml, hown', hT, hK, hC, B.notSynchronized⟩ B.returns hx9 hZ (by have : b + 136 < s.heap.size := hG.2.2.2.lt; omega) s.heap [] _ hG va_S.rf hl
section LROWS
variable {p : Program} {l : Launch} {e : Env} {R : Room} {s : State} {m : MethodId} {args : Array Value} {below : List Frame} {meth : Method} {c : Code} {D : va_G} {ca : Nat → ClassId} {b nL cells slots : Nat} {Q : State → Prop} {pc : Nat} {ls : List (Nat × Value)} {st : List Value} {own : String} {cc : ByteArray} {S M : St} {f : Nat → Int64} {g : Nat → UInt64}
/-- the call of one of the class's methods that may throw, inside a try -/
theorem n_callW (C : Cn p l s m meth c RL cc nL D ca) (hZ : Zs (frs b) s s.heap) (hb : b + 137 ≤ s.heap.size) {hh : List (Nat × Nat × Nat × Nat)} (hEx : c.exceptionTable.toList.map tup = hh) (hcov : ∀ q ∈ hh, Cw pc q) {index mL n mc ms : Nat} {y : MethodName} {bb : ByteArray} {ret : Option FieldType} {rm : Room} {As rest : List Value} {PR : Outcome → State → Prop} {Tm : Nat → St → Prop}
    (hM : ∀ sz, MetX l y [Cond.code y bb mL ret] rm (va_Pc (.ref (rho b 8 0) :: As) (PreX true D ca (rho b) sz S)) (XQ PR Tm (PostU true D ca (rho b)) (Ar true (rho b) sz)) mc ms (Ar true (rho b) sz)) (mf : MfV y bb mL ret n) (hyc : y.cls = R8) (hL : Cond.methodLink RL index y ∈ tbl) (hrc : rm.cells = mc) (hrs : rm.slots = ms) (hR : rm.frames + 1 ≤ R.frames ∧ 8 + (mL + 11) + rm.locals ≤ R.locals) (hn : As.length = n) (hst : st = As.reverse ++ .ref (rho b 8 0) :: rest) (hW : (rest.map fun v => v.category).sum ≤ 8) (hcs : cells + mc ≤ R.cells ∧ slots + ms ≤ R.slots) (hd : decode cc pc = .ok (.invokevirtual index, 3))
    (kr : ∀ oc t, PR oc t → ∃ v S', oc = .returned (some v) ∧ PostU true D ca (rho b) S' t ∧ wn p l e R s m args below meth c nL (cells + mc) (slots + ms) Q (frs b) (GL D ca b S' M f g) (pc + 3) ls (v :: rest))
    (kc : ∀ k S', Tm k S' → (1 ≤ k ∧ k ≤ 7) ∧ ∃ h, look kdL hh k = some h ∧ ∀ a, wn p l e R s m args below meth c nL (cells + mc) (slots + ms) Q (frs b) (GL D ca b S' M f g) h ls [.ref a]) : wn p l e R s m args below meth c nL cells slots Q (frs b) (GL D ca b S M f g) pc ls st := by
  intro H locs la h1 h2 h3 T hT0 X
  subst hT0
  obtain ⟨hI, hSel, hN, hC, hd2⟩ := mf
  obtain ⟨hx, hbc, hml, hown, hTb, hK, hCs, -⟩ := C
  obtain ⟨cellB, hcB, hoB, hclB⟩ : ∃ cell : Cell, T.heap[rho b 8 0]? = some cell ∧ cell.vm.isStatics = false ∧ s.vm.findClass y.cls = some cell.cls := hyc ▸ va_recv hK (h1.1.one rfl (Nat.le_of_ble_eq_true rfl) (k := 8) (i := 0) rfl) (ci := 8) (q0 := 0) (rfl : classes[8]? = some (R8, T8, 10)) rfl
  obtain ⟨mk, methM, hnamed, hmethM, hstM, habM⟩ := Cond.instanceMethod_spec (hTb _ hI args)
  obtain ⟨methM', cM, hmethM', -, -, -, -, -, -, hsigM⟩ := Cond.code_spec hnamed (hTb _ hC args)
  cases hmethM.symm.trans hmethM'
  obtain ⟨c2, r2, m2, q1, q2, q3, q4, kP, hkP, hkPi⟩ := Cond.selects_spec (hTb _ hSel args)
  cases hclB.symm.trans q1
  cases (State.methodFound?_of_named hnamed ⟨hd2.1, hd2.2.1⟩).symm.trans q2
  cases hnamed.symm.trans q3
  have hselP : selectMethod e.platform s.vm cellB.cls mk = .method mk := by rw [Launch.admits_selectMethod X.admits]; exact q4
  have hlen : As.length = methM.sig.parameters.length := by
    have h2 := hd2.2.2
    rw [hsigM] at h2
    rw [hn]; exact (Option.some.inj h2).symm
  obtain ⟨vm₁, X₁, hstep₁⟩ := X.invokevirtual hx hown (hTb _ hL args) hnamed hmethM hstM hkP hkPi ⟨hd2.1, hd2.2.1⟩ (a := rho b 8 0) (cell := cellB) hcB
    (fun z h => by rw [h] at hoB; cases hoB) hselP hmethM habM hkP hkPi (g := F0 m pc la st) rfl (argsL := As) (rest := rest) hlen hst (by rw [hbc]; exact hd)
  have hWm := X₁.warmed
  have hTb1 : Tb (T.setVm vm₁) := hTb.warm hWm
  have hle : ∀ q, Ar true (rho b) T.heap.size q → b ≤ q := fun q hq => by
    rcases hq with hq | hq
    · exact reg_le hq
    · have := h2.1
      omega
  obtain ⟨o, t, T', L, X', e1, e2, ⟨hq, hF⟩, hLf, hend⟩ := callX_core X₁ (hM T.heap.size) (g := { F0 m pc la st with stack := rest }) rfl (by show la.size = _; rw [hml]; exact h3.1) (by rw [hbc]; exact hd) (mk := mk) (a := (Value.ref (rho b 8 0) :: As).toArray) (X₁.named hnamed) (hTb1 _ hC _) (hTb1 _ hN _) hR.1 (by
    have hr := hR.2
    show 2 * 0 + (rest.map fun v => v.category).sum + (mL + 11) + rm.locals ≤ R.locals
    omega) (by rw [hrc]; exact hcs.1) (by rw [hrs]; exact hcs.2) ⟨rfl, ⟨⟨rfl, hTb1.warm (State.WarmedH.refl _), va_K.moved hWm.alike hK, h1.1⟩, by
      have := (hZ.kept h2.2.1).moved (U := (T.setVm vm₁)) hWm.alike
      exact (this.narrow (fun q _ hA' => hle q hA')).moved (Vm.Alike.refl _)⟩⟩
  have hF : va_F (Ar true (rho b) T.heap.size) T t := hF
  have hS' : va_S (frs b) s.heap T'.heap (locs ++ L) := by
    refine ⟨Nat.le_trans h2.1 (by rw [e1]; exact hF.1), fun q z1 z2 => ?_, fun q hq => ?_⟩
    · rw [e1, hF.2 q (Nat.lt_of_lt_of_le z1 h2.1) (fun z => z2 (hle q z))]
      exact h2.2.1 q z1 z2
    · rcases List.mem_append.mp hq with z | z
      · exact h2.2.2 q z
      · exact hle _ (hLf q z)
  have hG : ∀ S', PostU true D ca (rho b) S' t → GL D ca b S' M f g T'.heap := fun S' hB => by
    rw [e1]
    exact h1.callT hB hF.2
  rcases hend with ⟨v, rfl, hst1⟩ | ⟨x, rfl, hst1⟩
  · rcases hq with hq | ⟨k', a', S', hv, -⟩
    · obtain ⟨v', S', hv, hB, kk⟩ := kr _ _ hq
      cases hv
      obtain ⟨t2, a1, b1⟩ := kk T'.heap (locs ++ L) la (hG S' hB) hS' h3 T' rfl X'
      exact ⟨t2, hstep₁ _ fun acts => by rw [doInvoke_state]; exact hst1.trans a1, b1⟩
    · cases hv
  · rcases hq with hq | ⟨k', a', S', hv, hTk, hB, hE⟩
    · obtain ⟨v', S', hv, -⟩ := kr _ _ hq
      cases hv
    · cases hv
      obtain ⟨hk7, h, hlk, kk⟩ := kc _ _ hTk
      have hE' : Exc k' x T' := by
        obtain ⟨ce, y1, y2, y3⟩ := hE
        exact ⟨ce, by rw [e1]; exact y1, y2, by rw [e2]; exact y3⟩
      obtain ⟨vm', X'', hcatch⟩ := caughtV X' hown hTb hCs hk7 (g := { F0 m pc la st with stack := rest }) rfl hE' (kd := kdL) (fun z hz => by
        have := hcov (tup z) (by rw [← hEx]; exact List.mem_map_of_mem hz)
        exact this) (pc := h) (by rw [hEx]; exact hlk)
      obtain ⟨t2, a1, b1⟩ := kk x T'.heap (locs ++ L) la (hG S' hB) hS' h3 (T'.setVm vm') rfl X''
      exact ⟨t2, hstep₁ _ fun acts => by rw [doInvoke_state]; exact hst1.trans (hcatch _ a1), b1⟩
theorem n_last (C : Cn p l s m meth c own cc nL D ca) {v : Int64} {f' : Nat → Int64} (hf : vp_updL f 0 v = f') (hd : decode cc pc = .ok (.lastore, 1)) (k : wn p l e R s m args below meth c nL cells slots Q (frs b) (GL D ca b S M f' g) (pc + 1) ls st) : wn p l e R s m args below meth c nL cells slots Q (frs b) (GL D ca b S M f g) pc ls (.long v :: .int 0 :: .ref (b + 135) :: st) := by
  intro H locs la h1 h2 h3
  subst hf
  refine W.last C.1 C.2.1 h1.2.2.1 ((C.2.2.2.2.2.1.2 1 _ rfl).1 1 (fun j => .long (f j))) (fun q => by cases q) (by show ¬ ((0 : Int32) < 0 ∨ (arrV _ _ _).slots.size ≤ _); rw [arrV_size]; intro h; rcases h with h | h; exact absurd h (by decide); exact absurd (show (1 : Nat) ≤ (0 : Int32).toNatClampNeg from h) (by decide)) rfl rfl hd fun H1 e1 z oq => ?_
  refine k H1 _ la (h1.outL ?_ oq) (h2.put z oq (by show b ≤ b + 135; omega)) h3
  show H1[b + 135]? = some (vp_cell _ _)
  rw [e1]
  rw [vp_cell_l, vp_cell_l, arrV_store]
  congr 2
  funext q
  by_cases hq : q = (0 : Int32).toNatClampNeg
  · subst hq
    simp [updV, vp_updL]
  · have hq' : ¬ q = 0 := hq
    simp [updV, vp_updL, hq']
theorem n_dast (C : Cn p l s m meth c own cc nL D ca) {v : UInt64} {g' : Nat → UInt64} (hf : vf_upd g 0 v = g') (hd : decode cc pc = .ok (.dastore, 1)) (k : wn p l e R s m args below meth c nL cells slots Q (frs b) (GL D ca b S M f g') (pc + 1) ls st) : wn p l e R s m args below meth c nL cells slots Q (frs b) (GL D ca b S M f g) pc ls (.double v :: .int 0 :: .ref (b + 136) :: st) := by
  intro H locs la h1 h2 h3
  subst hf
  refine W.dast C.1 C.2.1 h1.2.2.2 ((C.2.2.2.2.2.1.2 2 _ rfl).1 1 (fun j => .double (g j))) (fun q => by cases q) (by show ¬ ((0 : Int32) < 0 ∨ (arrV _ _ _).slots.size ≤ _); rw [arrV_size]; intro h; rcases h with h | h; exact absurd h (by decide); exact absurd (show (1 : Nat) ≤ (0 : Int32).toNatClampNeg from h) (by decide)) rfl rfl hd fun H1 e1 z oq => ?_
  refine k H1 _ la (h1.outD ?_ oq) (h2.put z oq (by show b ≤ b + 136; omega)) h3
  show H1[b + 136]? = some (vp_cell _ _)
  rw [e1]
  rw [vp_cell_d, vp_cell_d, arrV_store]
  congr 2
  funext q
  by_cases hq : q = (0 : Int32).toNatClampNeg
  · subst hq
    simp [updV, vf_upd]
  · have hq' : ¬ q = 0 := hq
    simp [updV, vf_upd, hq']
theorem n_iretL (C : Cn p l s m meth c own cc nL D ca) {z : Int32} {Qw : Int32 → LW → Prop} (hr : meth.sig.returnType = some .int) (hd : decode cc pc = .ok (.ireturn, 1)) (hq : Qw z (S, f, g)) : wn p l e R s m args below meth c nL cells slots (MQ below (va_Qi Qw (PostL D ca b M) (frs b)) args s cells slots (frs b)) (frs b) (GL D ca b S M f g) pc ls [.int z] := by
  intro H locs la h1 h2 h3
  have hlk := C.2.2.2.2.2.2.2
  exact W.iret C.1 C.2.1 hr (fun t ht hW => ⟨⟨z, (S, f, g), rfl, hq, by unfold PostL; rw [ht]; exact h1⟩, h2.F ht⟩) h2.2.2 hd hlk
end LROWS
