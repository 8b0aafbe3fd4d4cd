/-! PURE: the class's notes tell the same places -/
def nts (P : Prog) (f : Nat) : Nat → Nat → SB → Nt → Nt
  | 0, _, _, N => N
  | m + 1, pc, s, N => nts P f m (pc + szI P f pc) (ckOne P f pc s) (ckN P f pc s N)
theorem goN_nts {P : Prog} {f : Nat} : ∀ (m n pc : Nat) (s : SB) (N : Nt), Run P f m pc s → m < n → goN P f n pc s N = nts P f m pc s N := by
  intro m
  induction m with
  | zero =>
    intro n pc s N h hn
    cases n with
    | zero => omega
    | succ n => unfold goN nts; rw [if_pos h.1]
  | succ m ih =>
    intro n pc s N h hn
    cases n with
    | zero => omega
    | succ n =>
      unfold goN nts
      have := h.1.1
      rw [if_neg (by omega)]
      exact ih n _ _ _ h.2 (by omega)
/-- the begins behind an instruction -/
theorem G_one {P : Prog} {f pc : Nat} {s : SB} (h1 : 1 ≤ qn s) {i : Nat} (hi : i < qn (ckOne P f pc s)) : (i < qn s ∧ fg (qF (ckOne P f pc s) i) = fg (qF s i)) ∨ (i = qn s ∧ fg (qF (ckOne P f pc s) i) = pc) := by
  have hN := N_one P f pc s
  by_cases z : i < qn s
  · left
    refine ⟨z, ?_⟩
    by_cases z2 : i = qn s - 1
    · rw [z2]; exact (T_one h1).2.2.2
    · rw [F_one (by omega)]
  · right
    have hb : 2 ≤ pC P f pc ∧ pC P f pc ≤ 4 := by
      by_cases y : 2 ≤ pC P f pc ∧ pC P f pc ≤ 4
      · exact y
      · rw [if_neg y] at hN
        split at hN <;> omega
    rw [if_pos hb] at hN
    have hiq : i = qn s := by omega
    refine ⟨hiq, ?_⟩
    have e : ckOne P f pc s = bg (pC P f pc) (pC P f (pc + 1)) pc s := by unfold ckOne; rw [if_neg (by omega), if_neg (by omega), if_pos (by omega)]
    obtain ⟨b, e1, e2⟩ := fr_bg (pC P f pc) (pC P f (pc + 1)) pc s
    rw [e, e2, hiq]
    show fg (if qn s = qn s then _ else _) = pc
    rw [if_pos rfl]; rfl
theorem N_stay {P : Prog} {f pc b : Nat} {s : SB} {N : Nt} (hb : b < pc) (hF : b ≠ fg (sTop s)) : (ckN P f pc s N).1 b = N.1 b ∧ (ckN P f pc s N).2 b = N.2 b := by
  unfold ckN
  split
  · refine ⟨?_, rfl⟩
    show (if b = pc then _ else _) = _
    rw [if_neg (by omega)]
  · split
    · refine ⟨?_, rfl⟩
      show (if b = fg (sTop s) then _ else _) = _
      rw [if_neg hF]
    · split
      · refine ⟨rfl, ?_⟩
        show (if b = fg (sTop s) then _ else _) = _
        rw [if_neg hF]
      · exact ⟨rfl, rfl⟩
theorem notes_stay {P : Prog} {f b : Nat} : ∀ (m pc : Nat) (s : SB) (N : Nt), Run P f m pc s → b < pc → (∀ i, i < qn s → fg (qF s i) ≠ b) → (nts P f m pc s N).1 b = N.1 b ∧ (nts P f m pc s N).2 b = N.2 b := by
  intro m
  induction m with
  | zero => intro pc s N _ _ _; exact ⟨rfl, rfl⟩
  | succ m ih =>
    intro pc s N h hb hF
    obtain ⟨ok, hr⟩ := h
    have h1 := ok.2.1
    have hz := szI_pos P f pc
    have hs := N_stay (P := P) (f := f) (N := N) hb (fun z => hF (qn s - 1) (by omega) z.symm)
    have := ih _ _ (ckN P f pc s N) hr (by omega) (fun i hi => by
      rcases G_one h1 hi with ⟨z1, z2⟩ | ⟨z1, z2⟩
      · rw [z2]; exact hF i z1
      · rw [z2]; omega)
    exact ⟨this.1.trans hs.1, this.2.trans hs.2⟩
/-- only frame t begins at b -/
def Own (t b pc : Nat) (s : SB) : Prop := b < pc ∧ fg (qF s t) = b ∧ ∀ i, i < qn s → i ≠ t → fg (qF s i) ≠ b
theorem Own.one {P : Prog} {f t b pc : Nat} {s : SB} (h : Own t b pc s) (h1 : 1 ≤ qn s) (ht : t < qn s) (ht2 : t < qn (ckOne P f pc s)) : Own t b (pc + szI P f pc) (ckOne P f pc s) := by
  have hz := szI_pos P f pc
  refine ⟨by have := h.1; omega, ?_, fun i hi hne => ?_⟩
  · rcases G_one h1 ht2 with ⟨z1, z2⟩ | ⟨z1, z2⟩
    · rw [z2]; exact h.2.1
    · omega
  · rcases G_one h1 hi with ⟨z1, z2⟩ | ⟨z1, z2⟩
    · rw [z2]; exact h.2.2 i z1 hne
    · rw [z2]; have := h.1; omega
theorem note_end {P : Prog} (hw : PW P) {f t b : Nat} (hf : f < 6) : ∀ (m pc : Nat) (s : SB) (N : Nt), Run P f m pc s → WG s → qb s = 0 → t < qn s → Own t b pc s → (nts P f m pc s N).2 b = nI (endOf P f t m pc s + 1) := by
  intro m
  induction m with
  | zero => intro pc s N h g hb ht; have := h.2; omega
  | succ m ih =>
    intro pc s N h g hb ht ho
    obtain ⟨ok, hr⟩ := h
    have h1 := ok.2.1
    have hz := szI_pos P f pc
    unfold nts endOf
    by_cases z : pC P f pc = 6 ∧ qn s = t + 1
    · rw [if_pos z]
      have hN := N_one P f pc s
      rw [if_neg (by omega), if_pos z.1] at hN
      have hst := notes_stay (b := b) m _ _ (ckN P f pc s N) hr (by have := ho.1; omega) (fun i hi => by
        rcases G_one h1 hi with ⟨z1, z2⟩ | ⟨z1, z2⟩
        · rw [z2]; exact ho.2.2 i z1 (by omega)
        · omega)
      rw [hst.2]
      have et : fg (sTop s) = b := by
        unfold sTop
        rw [z.2, Nat.add_sub_cancel]; exact ho.2.1
      have e : ckN P f pc s N = (N.1, fup N.2 (fg (sTop s)) (nI (pc + 1))) := by unfold ckN; rw [if_neg (by omega), if_neg (by omega), if_pos z.1]
      rw [e, et]
      show (if b = b then nI (pc + 1) else N.2 b) = _
      rw [if_pos rfl]
    · rw [if_neg z]
      have k1 := keep1 (P := P) (f := f) (pc := pc) g.1 ht z
      have g1 := g_ckOne hw hf ok.1 ok.2.2.2.2.1 g ok.2.1 hb
      exact ih _ _ _ hr g1 ok.2.2.2.2.2 k1.1 (ho.one h1 ht k1.1)
/-- behind its ELSE, or without one: the note of the ELSE stays, and no other ELSE comes -/
theorem note_else1 {P : Prog} (hw : PW P) {f t b : Nat} (hf : f < 6) : ∀ (m pc : Nat) (s : SB) (N : Nt), Run P f m pc s → WG s → qb s = 0 → t < qn s → Own t b pc s → (∀ e, pC P f (stopOf P f t m pc s) = e → e = 6) → (nts P f m pc s N).1 b = N.1 b ∧ stopOf P f t m pc s = endOf P f t m pc s := by
  intro m
  induction m with
  | zero => intro pc s N h g hb ht; have := h.2; omega
  | succ m ih =>
    intro pc s N h g hb ht ho hs
    obtain ⟨ok, hr⟩ := h
    have h1 := ok.2.1
    have hz := szI_pos P f pc
    unfold nts
    unfold stopOf at hs ⊢
    unfold endOf
    by_cases z : (pC P f pc = 5 ∨ pC P f pc = 6) ∧ qn s = t + 1
    · rw [if_pos z] at hs ⊢
      have h6 : pC P f pc = 6 := hs _ rfl
      rw [if_pos ⟨h6, z.2⟩]
      have hN := N_one P f pc s
      rw [if_neg (by omega), if_pos h6] at hN
      have hst := notes_stay (b := b) m _ _ (ckN P f pc s N) hr (by have := ho.1; omega) (fun i hi => by
        rcases G_one h1 hi with ⟨z1, z2⟩ | ⟨z1, z2⟩
        · rw [z2]; exact ho.2.2 i z1 (by omega)
        · omega)
      refine ⟨?_, rfl⟩
      rw [hst.1]
      unfold ckN
      rw [if_neg (by omega), if_neg (by omega), if_pos h6]
    · rw [if_neg z] at hs ⊢
      have z6 : ¬ (pC P f pc = 6 ∧ qn s = t + 1) := fun y => z ⟨Or.inr y.1, y.2⟩
      rw [if_neg z6]
      have k1 := keep1 (P := P) (f := f) (pc := pc) g.1 ht z6
      have g1 := g_ckOne hw hf ok.1 ok.2.2.2.2.1 g ok.2.1 hb
      have := ih _ _ (ckN P f pc s N) hr g1 ok.2.2.2.2.2 k1.1 (ho.one h1 ht k1.1) hs
      refine ⟨this.1.trans ?_, this.2⟩
      unfold ckN
      split
      · show (if b = pc then _ else _) = _
        rw [if_neg (by have := ho.1; omega)]
      · split
        · rename_i h5
          show (if b = fg (sTop s) then _ else _) = _
          refine if_neg fun y => ?_
          have hq : ¬ qn s = t + 1 := fun w => z ⟨Or.inl h5, w⟩
          exact ho.2.2 (qn s - 1) (by omega) (by omega) y.symm
        · split <;> rfl
