/-! PURE: the pass; the reference's find is the pass -/
theorem m_checkOne {P : Prog} {M0 : St} {s : SB} {M : St} {f pc : Nat} {Q : St → Prop} (hP : PM P M0) (hw : PW P) (hf : f < 6) (h : RS M0 s M) (g : WG s) (h1 : 1 ≤ qn s) (hb : qb s = 0) (hpc : pc < pL P f) (hk : known (pC P f pc)) (hs : pc + szI P f pc ≤ pL P f) (kk : ∀ M', RS M0 (ckOne P f pc s) M' → Q M') : wp9_checkOne M (nI f) (nI pc) Q := by
  have hl := (hw f hf).2.2.2.2.1
  have w := g.1
  have hc := (hw f hf).2.2.2.2.2.2 pc hpc
  have key : ∀ b : Int32, (pc + 1 < pL P f → b = nI (pC P f (pc + 1))) → wp9_checkOne_27 (nI f) (nI pc) Q (nI (pC P f pc)) b M := by
    intro b hbb
    have sz2 : (2 ≤ pC P f pc ∧ pC P f pc ≤ 4) ∨ pC P f pc = 7 ∨ pC P f pc = 8 ∨ pC P f pc = 11 ∨ pC P f pc = 12 ∨ (15 ≤ pC P f pc ∧ pC P f pc ≤ 28) → pc + 1 < pL P f := by
      intro z
      have : szI P f pc = 2 := by unfold szI; rw [if_neg (by omega), if_pos z]
      omega
    unfold wp9_checkOne_27 wp9_checkOne_60 wp9_checkOne_71
    have k60 : (pC P f pc = 1 ∨ 4 < pC P f pc) → (nI (pC P f pc) = 5 → wp9_close M (nI (pC P f pc)) (fun S1 => Q S1)) ∧ (¬ nI (pC P f pc) = 5 → (¬ nI (pC P f pc) = 6 → (nI (pC P f pc) < 7 → wp9_checkOne_101 (nI f) (nI pc) Q (nI (pC P f pc)) b M) ∧ (¬ nI (pC P f pc) < 7 → (10 < nI (pC P f pc) → wp9_checkOne_101 (nI f) (nI pc) Q (nI (pC P f pc)) b M) ∧ (¬ 10 < nI (pC P f pc) → wp9_checkJump M (nI f) (nI pc) (nI (pC P f pc)) (fun S1 => Q S1)))) ∧ (nI (pC P f pc) = 6 → wp9_close M (nI (pC P f pc)) (fun S1 => Q S1))) := by
      intro ho
      have k101 : 10 < pC P f pc ∨ pC P f pc = 1 → wp9_checkOne_101 (nI f) (nI pc) Q (nI (pC P f pc)) b M := fun z =>
        m_one101 hP hw hf h w h1 hpc hk (fun z => ⟨sz2 (by omega), hbb (sz2 (by omega))⟩) z kk
      have kcl : pC P f pc = 5 ∨ pC P f pc = 6 → wp9_close M (nI (pC P f pc)) (fun S1 => Q S1) := by
        intro z
        unfold ckOne at kk
        rw [if_neg (by omega), if_neg (by omega), if_neg (by omega), if_pos (by omega)] at kk
        exact m_close h w h1 hc kk
      refine ⟨fun c => kcl (Or.inl (nE (b := 5) (by omega) (by omega) c)), fun c => ⟨fun c1 => ⟨fun c2 => ?_, fun c2 => ⟨fun c3 => ?_, fun c3 => ?_⟩⟩, fun c1 => kcl (Or.inr (nE (b := 6) (by omega) (by omega) c1))⟩⟩
      · have c := nN (b := 5) c
        have c1 := nN (b := 6) c1
        have c2 := (nI_ltI (b := 7) (by omega) (by omega)).mp c2
        exact k101 (by omega)
      · have c3 := (nI_ltI (a := 10) (by omega) (by omega)).mp c3
        exact k101 (by omega)
      · have c2 : ¬ pC P f pc < 7 := fun z => c2 ((nI_ltI (b := 7) (by omega) (by omega)).mpr z)
        have c3 : ¬ 10 < pC P f pc := fun z => c3 ((nI_ltI (a := 10) (by omega) (by omega)).mpr z)
        unfold ckOne at kk
        rw [if_neg (by omega), if_neg (by omega), if_neg (by omega), if_neg (by omega), if_pos (by omega)] at kk
        refine m_checkJump hP hw hf h w h1 hc ?_ kk
        by_cases z9 : pC P f pc = 9
        · right; left
          refine ⟨z9, ?_⟩
          unfold szI at hs
          rw [if_pos z9] at hs
          split at hs <;> omega
        · by_cases z10 : pC P f pc = 10
          · exact Or.inl z10
          · exact Or.inr (Or.inr ⟨by omega, sz2 (by omega)⟩)
    refine ⟨fun c => ⟨fun c1 => ?_, fun c1 => ⟨fun c2 => ?_, fun c2 => ?_⟩⟩, fun c => ?_⟩
    · have c := nN (b := 0) c
      have c1 := (nI_ltI (b := 2) (by omega) (by omega)).mp c1
      exact k60 (by omega)
    · have c2 := (nI_ltI (a := 4) (by omega) (by omega)).mp c2
      exact k60 (by omega)
    · have c := nN (b := 0) c
      have c1 : ¬ pC P f pc < 2 := fun z => c1 ((nI_ltI (b := 2) (by omega) (by omega)).mpr z)
      have c2 : ¬ 4 < pC P f pc := fun z => c2 ((nI_ltI (a := 4) (by omega) (by omega)).mpr z)
      have hl1 := sz2 (by omega)
      have hb2 := hbb hl1
      subst hb2
      unfold ckOne at kk
      rw [if_neg (by omega), if_neg (by omega), if_pos (by omega)] at kk
      exact m_begin h w (fun _ => h1) hc ((hw f hf).2.2.2.2.2.2 (pc + 1) hl1) kk
    · have c := nE (b := 0) (by omega) (by omega) c
      unfold ckOne at kk
      rw [if_pos c] at kk
      exact m_die h w h1 kk
  unfold wp9_checkOne
  refine m_byteAt (h.pm hP) hw hf hpc ?_
  rw [nI_1]
  refine ⟨fun c => ?_, fun c => ?_⟩
  · have c := (nI_leI (a := 60) (by omega) (by omega)).mp c
    exact key 0 (fun z => by omega)
  · have c : ¬ 60 ≤ pc + 1 := fun z => c ((nI_leI (a := 60) (by omega) (by omega)).mpr z)
    exact m_byteAny (h.pm hP) hf (by omega) fun r hr => key r hr
/-- the pass: none if nothing is bad, else the place -/
def go (P : Prog) (f : Nat) : Nat → Nat → SB → Option Nat
  | 0, pc, _ => some pc
  | n + 1, pc, s => if pL P f ≤ pc then (if qn s = 0 then none else some (pL P f)) else if qn s = 0 ∨ ¬ known (pC P f pc) ∨ (pC P f pc = 9 ∧ pc + 1 < pL P f ∧ 3 < pC P f (pc + 1)) then some pc else if pL P f < pc + szI P f pc then some (pL P f) else if qb (ckOne P f pc s) = 0 then go P f n (pc + szI P f pc) (ckOne P f pc s) else some pc
def nio (o : Option Nat) : Int32 := match o with | none => -1 | some p => nI p
def s00 : SB := (0, fun _ => 0, 0, fun _ => (0, 0, 0, 0, 0, 0), 0)
def sIni (P : Prog) (f : Nat) : SB := bg 0 (pR P f) 60 s00
def chk (P : Prog) (f : Nat) : Option Nat := go P f 61 0 (sIni P f)
theorem szI_pos (P : Prog) (f i : Nat) : 1 ≤ szI P f i := by
  unfold szI; split
  · split <;> omega
  · split <;> omega
theorem m_find28 {P : Prog} {M0 : St} {f : Nat} {Q : Int32 → St → Prop} (hP : PM P M0) (hw : PW P) (hf : f < 6) : ∀ (n pc : Nat) (s : SB) (M : St), pL P f < pc + n → pc ≤ pL P f → RS M0 s M → WG s → qb s = 0 → (∀ M', Ag kM M0 M' → Q (nio (go P f n pc s)) M') → wp9_find_28 (nI f) Q n (nI pc) M := by
  have hl := (hw f hf).2.2.2.2.1
  intro n
  induction n with
  | zero => intro pc s M h1 h2; omega
  | succ n ih =>
    intro pc s M hfu hpl h g hb kk
    have w2 := g.1.2.1
    have hpm := h.pm hP
    have hag := h.2.2.2.2.2
    unfold wp9_find_28
    unfold go at kk
    rw [nI_clamp (by omega), (hpm f hf).2.2.2.1, h.2.1]
    refine ⟨vp_in_nI hf (by omega), fun c => ⟨fun c2 => ⟨vp_in_nI hf (by omega), ?_⟩, fun c2 => ?_⟩, fun c => ?_⟩
    · have c := (nI_leI (by omega) (by omega)).mp c
      have c2 := nN (b := 0) c2
      rw [if_pos c, if_neg c2] at kk
      exact kk M hag
    · have c := (nI_leI (by omega) (by omega)).mp c
      have c2 := nE (b := 0) (by omega) (by omega) c2
      rw [if_pos c, if_pos c2] at kk
      exact kk M hag
    · have c : ¬ pL P f ≤ pc := fun z => c ((nI_leI (by omega) (by omega)).mpr z)
      rw [if_neg c] at kk
      have hpc : pc < pL P f := by omega
      have hc := (hw f hf).2.2.2.2.2.2 pc hpc
      refine m_byteAt hpm hw hf hpc ?_
      rw [h.2.1]
      refine ⟨fun c2 => ?_, fun c2 => ?_⟩
      · have c2 := nE (b := 0) (by omega) (by omega) c2
        rw [if_pos (Or.inl c2)] at kk
        exact kk M hag
      · have c2 := nN (b := 0) c2
        have rest : ¬ (pC P f pc = 9 ∧ pc + 1 < pL P f ∧ 3 < pC P f (pc + 1)) → known (pC P f pc) → wp9_find_91 (fun k0 S9 => wp9_find_28 (nI f) Q n k0 S9) (nI f) Q (nI pc) M := by
          intro z1 z2
          rw [if_neg (fun z => z.elim c2 (fun z => z.elim (fun z => z z2) z1))] at kk
          unfold wp9_find_91
          refine m_behind hpm hw hf hpc ?_
          have hsz := szI_pos P f pc
          intro x4 e
          have e : x4 = nI (pc + szI P f pc) := by
            rw [e, nI_1, nI_add]
            congr 1; omega
          subst e
          have hbig : szI P f pc < 300 := by
            unfold szI; split
            · split
              · have := (hw f hf).2.2.2.2.2.2 (pc + 1) (by omega); omega
              · omega
            · split <;> omega
          rw [nI_clamp (by omega), (hpm f hf).2.2.2.1]
          refine ⟨vp_in_nI hf (by omega), fun c3 => ?_, fun c3 => ⟨vp_in_nI hf (by omega), ?_⟩⟩
          · have c3 := (nI_leI (by omega) (by omega)).mp c3
            rw [if_neg (by omega)] at kk
            refine m_checkOne hP hw hf h g (by omega) hb hpc z2 c3 fun M2 h2 => ?_
            have g2 := g_ckOne hw hf hpc c3 g (by omega) hb
            have wb := g2.1.2.2.1
            rw [h2.2.2.1]
            refine ⟨fun c4 => ?_, fun c4 => ?_⟩
            · have c4 := nE (b := 0) (by omega) (by omega) c4
              rw [if_pos c4] at kk
              exact ih _ _ M2 (by omega) c3 h2 g2 c4 kk
            · have c4 := nN (b := 0) c4
              rw [if_neg c4] at kk
              exact kk M2 h2.2.2.2.2.2
          · have c3 : ¬ pc + szI P f pc ≤ pL P f := fun z => c3 ((nI_leI (by omega) (by omega)).mpr z)
            rw [if_pos (by omega)] at kk
            exact kk M hag
        refine m_isKnown hc (fun z2 => ⟨fun z => absurd z (by decide), fun _ => ⟨fun c3 => ?_, fun c3 => ⟨vp_in_nI hf (by omega), ?_⟩⟩⟩) (fun z2 => ⟨fun _ => ?_, fun z => absurd rfl z⟩)
        · exact rest (fun z => nN (b := 9) c3 z.1) z2
        · have c3 := nE (b := 9) (by omega) (by omega) c3
          rw [(hpm f hf).2.2.2.1, nI_1]
          refine ⟨fun c4 => ?_, fun c4 => ?_⟩
          · have c4 := (nI_leI (by omega) (by omega)).mp c4
            exact rest (by omega) z2
          · have c4 : ¬ pL P f ≤ pc + 1 := fun z => c4 ((nI_leI (by omega) (by omega)).mpr z)
            refine m_byteAt hpm hw hf (by omega) ?_
            have hc1 := (hw f hf).2.2.2.2.2.2 (pc + 1) (by omega)
            refine ⟨fun c5 => ?_, fun c5 => ?_⟩
            · have c5 := (nI_leI (b := 3) (by omega) (by omega)).mp c5
              exact rest (by omega) z2
            · have c5 : ¬ pC P f (pc + 1) ≤ 3 := fun z => c5 ((nI_leI (b := 3) (by omega) (by omega)).mpr z)
              rw [if_pos (Or.inr (Or.inr ⟨c3, by omega, by omega⟩))] at kk
              exact kk M hag
        · rw [if_pos (Or.inr (Or.inl z2))] at kk
          exact kk M hag
theorem WG_s00 : WG s00 := ⟨⟨by decide, by decide, by decide, fun i hi => absurd hi (Nat.not_lt_zero i), fun i hi => absurd hi (Nat.not_lt_zero i), fun i j _ hj => absurd hj (Nat.not_lt_zero j), fun i hi => absurd hi (Nat.not_lt_zero i)⟩, fun _ => ⟨by decide, fun i hi => absurd hi (Nat.not_lt_zero i), fun i hi => absurd hi (Nat.not_lt_zero i)⟩⟩
theorem sIni_ok {P : Prog} (hw : PW P) {f : Nat} (hf : f < 6) : WG (sIni P f) ∧ qb (sIni P f) = 0 ∧ sIni P f = (0, fun _ => 0, 1, fup (fun _ => (0, 0, 0, 0, 0, 0)) 0 (0, pR P f, 0, 0, 0, 60), 0) := by
  have hr := (hw f hf).2.2.2.1
  have e : sIni P f = (0, fun _ => 0, 1, fup (fun _ => (0, 0, 0, 0, 0, 0)) 0 (0, pR P f, 0, 0, 0, 60), 0) := by
    unfold sIni bg
    rw [if_neg (by decide)]
    unfold bg2
    rw [if_neg (by intro z; rcases z with z | z; omega; exact absurd z (by decide))]
    rfl
  exact ⟨g_bg WG_s00 (by decide) (by decide) (by omega), by rw [e]; rfl, e⟩
theorem m_find {P : Prog} {M : St} {f : Nat} {Q : Int32 → St → Prop} (hP : PM P M) (hw : PW P) (hf : f < 6) (kk : ∀ M', Ag kM M M' → Q (nio (chk P f)) M') : wp9_find M (nI f) Q := by
  unfold wp9_find
  intro S1 e1 S2 e2 S3 e3
  subst e1; subst e2; subst e3
  have hr := (hw f hf).2.2.2.1
  have hl := (hw f hf).2.2.2.2.1
  have ag : Ag kM M (sI (sI (sI M 1920 0 0) 1914 0 0) 1921 0 0) := ((Ag.rf.sI ⟨by decide, by decide⟩).sI ⟨by decide, by decide⟩).sI ⟨by decide, by decide⟩
  have h0 : RS M s00 (sI (sI (sI M 1920 0 0) 1914 0 0) 1921 0 0) := ⟨rfl, rfl, rfl, fun i hi => absurd hi (Nat.not_lt_zero i), fun i hi => absurd hi (Nat.not_lt_zero i), ag⟩
  have hpm := h0.pm hP
  rw [nI_clamp (by omega), (hpm f hf).2.2.1]
  refine ⟨vp_in_nI hf (by omega), ?_⟩
  obtain ⟨g1, g2, -⟩ := sIni_ok hw hf
  exact m_begin (op := 0) (pc := 60) h0 WG_s00.1 (fun z => absurd z (by decide)) (by decide) (by omega) fun M1 h1 => ⟨61, m_find28 hP hw hf 61 0 (sIni P f) M1 (by omega) (by omega) h1 g1 g2 kk⟩
