theorem W.mono {p : Program} {l : Launch} {e : Env} {R : Room} {s : State} {m : MethodId} {args : Array Value} {below : List Frame} {meth : Method} {c : Code} {H : Heap} {locs : List Loc} {cells slots : Nat} {Q Q' : State → Prop} {g : JFrame} (h : ∀ t, Q t → Q' t) (k : W p l e R s m args below meth c H locs cells slots Q g) : W p l e R s m args below meth c H locs cells slots Q' g := by
  intro T hT X
  obtain ⟨t, a, b⟩ := k T hT X
  exact ⟨t, a, h t b⟩
theorem wm.mono {u : Bool} {p : Program} {l : Launch} {e : Env} {R : Room} {s : State} {m : MethodId} {args : Array Value} {below : List Frame} {meth : Method} {c : Code} {D : va_G} {ca : Nat → ClassId} {ρ : Nat → Nat → Nat} {nL cells slots pc : Nat} {Q Q' : State → Prop} {ls : List (Nat × Value)} {st : List Value} {S : St} (h : ∀ t, Q t → Q' t) (k : wm u p l e R s m args below meth c D ca ρ nL cells slots Q pc ls st S) : wm u p l e R s m args below meth c D ca ρ nL cells slots Q' pc ls st S :=
  fun H locs la h1 h2 h3 => (k H locs la h1 h2 h3).mono h
/-- the invocation as if it had begun with this heap: what was written and made before is the start's -/
def rebS (s T : State) : State := { s with heap := T.heap, slotsUsed := T.slotsUsed }
def rebR (R : Room) (cells slots : Nat) : Room := { R with cells := R.cells - cells, slots := R.slots - slots }
theorem rebase {p : Program} {l : Launch} {e : Env} {R : Room} {s : State} {m : MethodId} {args : Array Value} {below : List Frame} {meth : Method} {c : Code} {T : State} {locs : List Loc} {cells slots : Nat} (X : Stand p l e R s m args below meth c T locs cells slots) (hc : cells ≤ R.cells) (hs : slots ≤ R.slots) : Stand p l e (rebR R cells slots) (rebS s T) m args below meth c T [] 0 0 := by
  have hsame := X.same
  refine ⟨X.admits, X.cas, X.clock, X.frames, ?_, X.hears, X.method, X.code, X.here, X.tail, X.warmed, X.limits, X.bytes, ?_⟩
  · have h := X.room
    have h1 := X.heapSize
    have h2 := X.used
    have h3 := X.book
    simp only [State.hasRoom, Bool.and_eq_true, decide_eq_true_eq] at h ⊢
    obtain ⟨⟨⟨⟨a1, a2⟩, a3⟩, a4⟩, a5⟩ := h
    refine ⟨⟨⟨⟨a1, a2⟩, ?_⟩, ?_⟩, ?_⟩
    · show T.heap.size + (R.cells - cells) ≤ _
      omega
    · show T.slotsUsed + (R.slots - slots) ≤ _
      omega
    · exact h3
  · refine ⟨?_, Nat.le_refl _, Nat.le_refl _, ?_, ?_, ?_⟩
    · have e1 := hsame.1
      show T.setVm s.vm = { (rebS s T).setFrames T.frames with heap := T.heap, slotsUsed := T.slotsUsed }
      rw [e1]
      simp [rebS, State.setFrames, State.setVm]
      rfl
    · show T.slotsUsed = T.slotsUsed + ((T.heap.toList.drop T.heap.size).map (·.slots.size)).sum
      have : T.heap.toList.drop T.heap.size = [] := List.drop_eq_nil_of_le (by simp)
      rw [this]; simp
    · show ((T.heap.toList.drop T.heap.size).map (·.slots.size)).sum ≤ 0
      have : T.heap.toList.drop T.heap.size = [] := List.drop_eq_nil_of_le (by simp)
      rw [this]; simp
    · intro a cell h
      exact ⟨cell, h, rfl, rfl, fun _ _ => rfl⟩
def Exc (k : Nat) (a : Addr) (t : State) : Prop := ∃ cell : Cell, t.heap[a]? = some cell ∧ cell.vm = .none ∧ t.vm.findClass (excN k) = some cell.cls
/-- a contract's end: it returns (PR), or throws number k with the world S' -/
def XQ (PR : Outcome → State → Prop) (Tm : Nat → St → Prop) (B : St → State → Prop) (A : Nat → Prop) : Array Value → State → Outcome → State → Prop := fun _ st oc t => (PR oc t ∨ ∃ (k : Nat) (a : Addr) (S' : St), oc = .threw a ∧ Tm k S' ∧ B S' t ∧ Exc k a t) ∧ va_F A st t
def pri (Qm : Int32 → St → Prop) (B : St → State → Prop) (oc : Outcome) (t : State) : Prop := ∃ r S', oc = .returned (some (.int r)) ∧ Qm r S' ∧ B S' t
def prl (Qm : Int64 → St → Prop) (B : St → State → Prop) (oc : Outcome) (t : State) : Prop := ∃ r S', oc = .returned (some (.long r)) ∧ Qm r S' ∧ B S' t
def prd (Qm : UInt64 → St → Prop) (B : St → State → Prop) (oc : Outcome) (t : State) : Prop := ∃ r S', oc = .returned (some (.double r)) ∧ Qm r S' ∧ B S' t
def prv (Qm : St → Prop) (B : St → State → Prop) (oc : Outcome) (t : State) : Prop := ∃ S', oc = .returned none ∧ Qm S' ∧ B S' t
theorem same_cell {s U : State} {k n : Nat} (h : s.sameButNew ({ U with vm := s.vm } : State) [] k n) {a : Nat} (ha : a < s.heap.size) : U.heap[a]? = s.heap[a]? := by
  obtain ⟨-, -, -, -, -, h6⟩ := h
  cases hc : s.heap[a]? with
  | none => simp at hc; omega
  | some cell =>
    obtain ⟨c', h1, h2, h3, h4⟩ := h6 a cell hc
    have h1 : U.heap[a]? = some c' := h1
    rw [h1]
    have : c'.slots = cell.slots := by
      apply Array.ext_getElem?
      intro i
      exact h4 i (by simp)
    rw [h2, this]
section THROW
variable {u : Bool} {p : Program} {l : Launch} {e : Env} {R : Room} {s : State} {m : MethodId} {args : Array Value} {below : List Frame} {meth : Method} {c : Code} {D : va_G} {ca : Nat → ClassId} {ρ : Nat → Nat → Nat} {nL cells slots pc : Nat} {ls : List (Nat × Value)} {st : List Value} {S : St} {own : String} {cc : ByteArray}
set_option maxHeartbeats 1000000 in
theorem r_throw (C : Cx u p l s m meth c own cc nL D ca ρ) (htr : l.stackTraces = false) (hZ : Zs (Ar u ρ s.heap.size) s s.heap) (hX : ∀ x ∈ c.exceptionTable.toList, ∀ pc, covers x pc = false) {PR : Outcome → State → Prop} {Tm : Nat → St → Prop} (k : Nat) {ik ic : Nat} (hw : thrOk own ik ic k) (hfit : Bundle.fit (excN k) = true ∧ (∀ n ∈ excC k, Bundle.fit n = true) ∧ (excC k).length ≤ 2)
    (d0 : decode cc pc = .ok (.new ik, 3)) (d3 : decode cc (pc + 3) = .ok (.dup, 1)) (d4 : decode cc (pc + 3 + 1) = .ok (.invokespecial ic, 3)) (d7 : decode cc (pc + 3 + 1 + 3) = .ok (.athrow, 1)) (hc : cells + 1 ≤ R.cells) (hs : slots + 6 ≤ R.slots) (hRf : 6 ≤ R.frames) (hRl : 90 ≤ R.locals) (hst : (st.map fun v => v.category).sum ≤ 8) (hT : Tm k S) :
    wm u p l e R s m args below meth c D ca ρ nL cells slots (MX below (XQ PR Tm (PostU u D ca ρ) (Ar u ρ s.heap.size)) args s (cells + 1) (slots + 6) (Ar u ρ s.heap.size)) pc ls st S := by
  intro H locs la h1 h2 h3 T hT0 X
  subst hT0
  have hlk : meth.locks = false := C.2.2.2.2.2.2.2
  obtain ⟨hx, hb, hml, hown, hTb, hK, hA, -⟩ := C
  have X' := rebase X (by omega) (by omega)
  have hvmS : (rebS s T).vm = s.vm := rfl
  have hTb' : Tb (rebS s T) := hTb.warm (State.WarmedH.refl s)
  have hZ' : Zs (Ar u ρ s.heap.size) (rebS s T) T.heap := by
    have := hZ.kept h2.2.1
    exact this.moved (Vm.Alike.refl s.vm)
  have hall := thr_before hw hTb' hZ' args
  obtain ⟨⟨hcl, hins, hini⟩, -⟩ := hw
  have key : W p l e (rebR R cells slots) (rebS s T) m args below meth c (rebS s T).heap [] 0 0 (fun U => U.status = .running ∧ Ended U below (.threw T.heap.size) ∧ (rebS s T).WarmedH U.vm ∧ (rebS s T).sameButNew ({ U with vm := (rebS s T).vm } : State) [] 1 6 ∧ ∃ ce, U.heap[T.heap.size]? = some ce ∧ ce.vm = .none ∧ (rebS s T).vm.findClass (excN k) = some ce.cls) (F0 m pc la st) := by
    have w1 : (Cond.classLink own ik (excN k)).before args (rebS s T) = true := hTb' _ hcl args
    have w2 : (Cond.instantiable (excN k) 6).before args (rebS s T) = true := hTb' _ hins args
    have w3 : (Cond.initialized (excN k)).before args (rebS s T) = true := hTb' _ hini args
    have hown' : (rebS s T).vm.findClass own = some m.cls := hown
    refine W.newc (g := F0 m pc la st) hx hb hown' w1 w2 w3 rfl d0 (by show 0 + 1 ≤ R.cells - cells; omega) (by show 0 + 6 ≤ R.slots - slots; omega) (fun cC kC f1 f2 f3 f4 => ?_)
    refine lv_dup hx hb d3 rfl ?_
    intro V hV Y
    have hsz : (rebS s T).heap.size = T.heap.size := rfl
    have hcell : V.heap[T.heap.size]? = some (freshCell cC kC) := by
      rw [hV]
      show (T.heap.push _)[T.heap.size]? = _
      simp [freshCell]
    obtain ⟨U, g1, g2, g3, g4, g5, ce, g6, g7⟩ := Y.ctorThrow0 hx (by rw [Y.admits.platform]; exact htr) (own := own) (cls := excN k) (names := excC k) (ic := ic) hown hfit.1 hfit.2.1 hall (by intro x hx; cases hx) (a := T.heap.size) f1 f2 hcell (Nat.le_refl _) (g := F0 m (pc + 3 + 1) la (.ref T.heap.size :: .ref T.heap.size :: st)) rfl (by show la.size = c.maxLocals; rw [hml]; exact h3.1) rfl rfl (rest := st) rfl (by rw [hb]; exact d4) (by rw [hb]; exact d7) (fun x hx' => hX x hx' _) (by have := hfit.2.2; show (excC k).length + 3 < R.frames; omega) (by
        have := hfit.2.2
        show 2 * 0 + ((Value.ref T.heap.size :: st).map fun v => v.category).sum + (13 * ((excC k).length + 1) + 41) ≤ R.locals
        simp only [List.map_cons, List.sum_cons]
        have : (Value.ref T.heap.size).category = 1 := rfl
        omega) hlk
    exact ⟨U, g1, g2, g3, g4, g5, ce, g6, g7.vm, g7.cls⟩
  obtain ⟨U, g1, g2, g3, g4, g5, ce, g6, g7, g8⟩ := key T rfl X'
  have hWU : s.WarmedH U.vm := g4
  have hold : ∀ q : Nat, q < T.heap.size → U.heap[q]? = T.heap[q]? := fun q hq => same_cell g5 hq
  have hsame : s.sameButNew ({ U with vm := s.vm } : State) locs (cells + 1) (slots + 6) := by
    have h5 : (T.setVm s.vm).sameButNew ({ U with vm := s.vm } : State) [] 1 6 := by
      obtain ⟨a1, a2, a3, a4, a5, a6⟩ := g5
      refine ⟨?_, a2, a3, a4, a5, a6⟩
      rw [X.same.1]
      refine Eq.trans (show ({ U with vm := s.vm } : State) = _ from a1) ?_
      have z2 : ∀ fs, ({ s.setFrames (T.setVm s.vm).frames with heap := (T.setVm s.vm).heap, slotsUsed := (T.setVm s.vm).slotsUsed } : State).setFrames fs = { s.setFrames fs with heap := T.heap, slotsUsed := T.slotsUsed } := by
        intro fs
        show ({ (s.setFrames (T.setVm s.vm).frames).setFrames fs with heap := T.heap, slotsUsed := T.slotsUsed } : State) = _
        rw [State.setFrames_setFrames]
      have z3 := z2 ({ U with vm := s.vm } : State).frames
      exact (congrArg (fun V : State => ({ V with heap := U.heap, slotsUsed := U.slotsUsed } : State)) z3).symm
    have := X.same.trans h5
    rwa [List.append_nil] at this
  have hgrow : T.heap.size ≤ U.heap.size := g5.2.1
  have hpic : pic u D ca ρ S U.heap := fun k' i' hu hi => (h1 k' i' hu hi).kept (hold _ (h1 k' i' hu hi).lt)
  refine ⟨U, g1, .threw T.heap.size, g2, g3, ⟨Or.inr ⟨k, T.heap.size, S, rfl, hT, hpic, ce, g6, g7, ?_⟩, ?_⟩, locs, ⟨Or.inr ⟨_, rfl⟩, hWU, hsame⟩, h2.2.2⟩
  · rw [hWU.alike.findClass]; exact g8
  · refine ⟨Nat.le_trans h2.1 hgrow, fun q hq hA' => ?_⟩
    rw [hold q (Nat.lt_of_lt_of_le hq h2.1)]
    exact h2.2.1 q hq hA'
end THROW
