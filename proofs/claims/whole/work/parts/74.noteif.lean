/-- the notes of the frame that a BLOCK, LOOP or IF begins -/
theorem note_begin {P : Prog} (hw : PW P) {C : St} (hN : XN P C) {f m pc : Nat} {s : SB} (hf : f < 6) (h : Here P f (m + 1) pc s) (ho : 2 ≤ pC P f pc) (ho2 : pC P f pc ≤ 4) :
    qn (ckOne P f pc s) = qn s + 1 ∧ szI P f pc = 2 ∧ gA C 1403 f pc = nI (endOf P f (qn s) m (pc + 2) (ckOne P f pc s) + 1) ∧
    (pC P f (stopOf P f (qn s) m (pc + 2) (ckOne P f pc s)) = 5 → gA C 1402 f pc = nI (stopOf P f (qn s) m (pc + 2) (ckOne P f pc s) + 1)) ∧
    (¬ pC P f (stopOf P f (qn s) m (pc + 2) (ckOne P f pc s)) = 5 → gA C 1402 f pc = 0 ∧ stopOf P f (qn s) m (pc + 2) (ckOne P f pc s) = endOf P f (qn s) m (pc + 2) (ckOne P f pc s)) := by
  have h' := h.one hw hf
  obtain ⟨⟨ok, hr0⟩, g0, hb0, hfi0, hbi0, hp0, hn, -⟩ := id h
  have hl := (hw f hf).2.2.2.2.1
  have hpc := ok.1
  have esz : szI P f pc = 2 := by unfold szI; rw [if_neg (by omega), if_pos (by omega)]
  have hq : qn (ckOne P f pc s) = qn s + 1 := by rw [N_one, if_pos ⟨ho, ho2⟩]
  rw [esz] at h' hr0
  obtain ⟨hr, g, hb, hfi, hbi, hp, -, -⟩ := id h'
  have ebg : fg (qF (ckOne P f pc s) (qn s)) = pc := by
    rcases G_one (P := P) (f := f) (pc := pc) ok.2.1 (show qn s < qn (ckOne P f pc s) by omega) with ⟨z, -⟩ | ⟨-, z⟩
    · omega
    · exact z
  have own := hbi.own (by omega) ok.2.1 (show qn s < qn (ckOne P f pc s) by omega)
  rw [ebg] at own
  obtain ⟨hck, N, hNN⟩ := hN f hf (by omega)
  obtain ⟨N', hN'⟩ := hn N
  have hc := hNN pc (by omega)
  have eN : nts P f (m + 1) pc s N' = nts P f m (pc + 2) (ckOne P f pc s) (fup N'.1 pc 0, N'.2) := by
    show nts P f m (pc + szI P f pc) (ckOne P f pc s) (ckN P f pc s N') = _
    rw [esz]
    have : ckN P f pc s N' = (fup N'.1 pc 0, N'.2) := by unfold ckN; rw [if_pos ⟨ho, ho2⟩]
    rw [this]
  rw [← hN', eN] at hc
  refine ⟨hq, esz, ?_, fun z => ?_, fun z => ?_⟩
  · rw [hc.2]
    exact note_end hw hf m _ _ _ hr g hb (by omega) own
  · rw [hc.1]
    exact note_else2 hw hf m _ _ _ hr g hb (by omega) own z
  · obtain ⟨k, u, h1, h2, h3, -⟩ := stops hw hf m (pc + 2) _ hr g hb (show qn s < qn (ckOne P f pc s) by omega)
    have h6 : pC P f (stopOf P f (qn s) m (pc + 2) (ckOne P f pc s)) = 6 := h3.resolve_left z
    have := note_else1 hw hf m (pc + 2) _ (fup N'.1 pc 0, N'.2) hr g hb (show qn s < qn (ckOne P f pc s) by omega) own (fun e he => by rw [← he]; exact h6)
    refine ⟨?_, this.2⟩
    rw [hc.1, this.1]
    show (if pc = pc then (0 : Int32) else N'.1 pc) = 0
    rw [if_pos rfl]
