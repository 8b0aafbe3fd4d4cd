/-! PURE: where a frame ends, where its part ends; the reference's seek -/
def endOf (P : Prog) (f t : Nat) : Nat → Nat → SB → Nat
  | 0, pc, _ => pc
  | m + 1, pc, s => if pC P f pc = 6 ∧ qn s = t + 1 then pc else endOf P f t m (pc + szI P f pc) (ckOne P f pc s)
def stopOf (P : Prog) (f t : Nat) : Nat → Nat → SB → Nat
  | 0, pc, _ => pc
  | m + 1, pc, s => if (pC P f pc = 5 ∨ pC P f pc = 6) ∧ qn s = t + 1 then pc else stopOf P f t m (pc + szI P f pc) (ckOne P f pc s)
theorem m_seek6 {P : Prog} {M : St} {f t : Nat} {x2 x3 : Int32} {Q : Int32 → St → Prop} (hP : PM P M) (hw : PW P) (hf : f < 6) : ∀ (m pc : Nat) (s : SB), Run P f m pc s → WG s → qb s = 0 → t < qn s → (x3 = 0 → Q (nI (endOf P f t m pc s)) M) → (¬ x3 = 0 → Q (nI (stopOf P f t m pc s)) M) → wp9_seek_6 (nI f) x2 x3 Q (m + 1) (nI (qn s - (t + 1))) (nI pc) M := by
  have hl := (hw f hf).2.2.2.2.1
  intro m
  induction m with
  | zero => intro pc s h g hb ht; have := h.2; omega
  | succ m ih =>
    intro pc s h g hb ht k0 k1
    obtain ⟨ok, hr⟩ := h
    have hpc := ok.1
    have hc := (hw f hf).2.2.2.2.2.2 pc hpc
    have hn := (g.2 hb).1
    have g1 := g_ckOne hw hf hpc ok.2.2.2.2.1 g ok.2.1 hb
    have hN := N_one P f pc s
    have hz := szI_pos P f pc
    unfold endOf at k0
    unfold stopOf at k1
    -- one instruction on
    have step : ¬ (pC P f pc = 6 ∧ qn s = t + 1) → (x3 = 0 → Q (nI (endOf P f t m (pc + szI P f pc) (ckOne P f pc s))) M) → (¬ x3 = 0 → Q (nI (stopOf P f t m (pc + szI P f pc) (ckOne P f pc s))) M) → wp9_seek_38 (fun k0 k1 S9 => wp9_seek_6 (nI f) x2 x3 Q (m + 1) k0 k1 S9) (nI f) x2 x3 Q (nI (qn s - (t + 1))) (nI pc) M := by
      intro hne k0 k1
      have go71 : ∀ d, d = qn (ckOne P f pc s) - (t + 1) → t < qn (ckOne P f pc s) → wp9_seek_71 (fun k0 k1 S9 => wp9_seek_6 (nI f) x2 x3 Q (m + 1) k0 k1 S9) (nI f) x2 x3 Q (nI d) (nI pc) M := by
        intro d hd ht2
        unfold wp9_seek_71
        refine m_behind hP hw hf hpc ?_
        intro x5 e
        rw [l1, nI_add, nI_add, show pc + (1 + (szI P f pc - 1)) = pc + szI P f pc by omega] at e
        subst e; subst hd
        exact ih _ _ hr g1 ok.2.2.2.2.2 ht2 k0 k1
      have go56 : ∀ d, (pC P f pc = 6 → 1 ≤ d) → (if pC P f pc = 6 then d - 1 else d) = qn (ckOne P f pc s) - (t + 1) → t < qn (ckOne P f pc s) → wp9_seek_56 (fun k0 k1 S9 => wp9_seek_6 (nI f) x2 x3 Q (m + 1) k0 k1 S9) (nI f) x2 x3 Q (nI d) (nI pc) M := by
        intro d h1 h2 h3
        unfold wp9_seek_56
        refine m_byteAt hP hw hf hpc ⟨fun c => ?_, fun c x4 e => ?_⟩
        · rw [if_neg (nN (b := 6) c)] at h2
          exact go71 d h2 h3
        · have c := nE (b := 6) (by omega) (by omega) c
          rw [if_pos c] at h2
          have h1 := h1 c
          have e : x4 = nI (d - 1) := by
            rw [e, show d = d - 1 + 1 by omega, nI_neg1]; rfl
          subst e
          exact go71 (d - 1) h2 h3
      unfold wp9_seek_38
      refine m_byteAt hP hw hf hpc ?_
      refine m_in (lo := 2) (hi := 4) (by omega) (by omega) (by omega) (fun z => ⟨fun y => absurd y (by decide), fun _ x4 e => ?_⟩) (fun z => ⟨fun _ => ?_, fun y => absurd rfl y⟩)
      · rw [nI_1] at e
        subst e
        rw [if_pos z] at hN
        exact go56 _ (fun y => by omega) (by rw [if_neg (by omega), hN]; omega) (by omega)
      · rw [if_neg z] at hN
        by_cases z6 : pC P f pc = 6
        · rw [if_pos z6] at hN
          have : ¬ qn s = t + 1 := fun y => hne ⟨z6, y⟩
          exact go56 _ (fun _ => by omega) (by rw [if_pos z6, hN]; omega) (by omega)
        · rw [if_neg z6] at hN
          exact go56 _ (fun y => absurd y z6) (by rw [if_neg z6, hN]) (by omega)
    unfold wp9_seek_6
    refine ⟨fun c => ?_, fun c => ?_⟩
    · have c := (nI_ltI (a := 0) (by omega) (by omega)).mp c
      have hne : ¬ qn s = t + 1 := by omega
      rw [if_neg (fun z => hne z.2)] at k0 k1
      exact step (fun z => hne z.2) k0 k1
    · have c : ¬ 0 < qn s - (t + 1) := fun z => c ((nI_ltI (a := 0) (by omega) (by omega)).mpr z)
      have he : qn s = t + 1 := by omega
      refine m_byteAt hP hw hf hpc ⟨fun c6 => ?_, fun c6 => ⟨fun cx => ?_, fun cx => ?_⟩⟩
      · have c6 := nE (b := 6) (by omega) (by omega) c6
        rw [if_pos ⟨c6, he⟩] at k0
        rw [if_pos ⟨Or.inr c6, he⟩] at k1
        by_cases cx : x3 = 0
        · exact k0 cx
        · exact k1 cx
      · have c6 := nN (b := 6) c6
        rw [if_neg (fun z => c6 z.1)] at k0
        exact step (fun z => c6 z.1) k0 (fun z => absurd cx z)
      · have c6 := nN (b := 6) c6
        refine m_byteAt hP hw hf hpc ⟨fun c5 => ?_, fun c5 => ?_⟩
        · have c5 := nE (b := 5) (by omega) (by omega) c5
          rw [if_pos ⟨Or.inl c5, he⟩] at k1
          exact k1 cx
        · have c5 := nN (b := 5) c5
          rw [if_neg (fun z => z.1.elim c5 c6)] at k1
          exact step (fun z => c6 z.1) (fun z => absurd z cx) k1
/-- behind an instruction with this frame open: from its first instruction's place on -/
theorem m_seek {P : Prog} {M : St} {f t m pc : Nat} {s : SB} {x3 : Int32} {Q : Int32 → St → Prop} (hP : PM P M) (hw : PW P) (hf : f < 6) (h : Run P f m pc s) (g : WG s) (hb : qb s = 0) (ht : qn s = t + 1) (k0 : x3 = 0 → Q (nI (endOf P f t m pc s)) M) (k1 : ¬ x3 = 0 → Q (nI (stopOf P f t m pc s)) M) : wp9_seek M (nI f) (nI pc) x3 Q := by
  unfold wp9_seek
  refine ⟨m + 1, ?_⟩
  have := m_seek6 (x2 := nI pc) (t := t) hP hw hf m pc s h g hb (by omega) k0 k1
  rw [ht, Nat.sub_self] at this
  exact this
