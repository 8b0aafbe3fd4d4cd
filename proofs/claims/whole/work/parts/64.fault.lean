/-! PURE: the class's checker is the pass -/
theorem FI_same {P : Prog} {f : Nat} {s t : SB} (h : FI P f s) (e : qF t = qF s) (hn : qn t ≤ qn s) : FI P f t := by
  unfold FI at *
  rw [e]
  exact ⟨h.1, h.2.1, h.2.2.1, fun i hi => h.2.2.2 i (by omega)⟩
theorem FI_keep {P : Prog} {f : Nat} {s t : SB} (h : FI P f s) (e : ∀ i, fk (qF t i) = fk (qF s i) ∧ fb (qF t i) = fb (qF s i) ∧ fo (qF t i) = fo (qF s i) ∧ fg (qF t i) = fg (qF s i)) (hn : qn t ≤ qn s) : FI P f t := by
  unfold FI at *
  rw [(e 0).1, (e 0).2.1, (e 0).2.2.1]
  exact ⟨h.1, h.2.1, h.2.2.1, fun i hi => by rw [(e i).2.2.2]; exact h.2.2.2 i (by omega)⟩
theorem k_die (s : SB) : ∀ i, fk (qF (die s) i) = fk (qF s i) ∧ fb (qF (die s) i) = fb (qF s i) ∧ fo (qF (die s) i) = fo (qF s i) ∧ fg (qF (die s) i) = fg (qF s i) := by
  intro i
  show fk (if i = qn s - 1 then _ else _) = _ ∧ fb (if i = qn s - 1 then _ else _) = _ ∧ fo (if i = qn s - 1 then _ else _) = _ ∧ fg (if i = qn s - 1 then _ else _) = _
  by_cases z : i = qn s - 1
  · subst z
    rw [if_pos rfl]
    exact ⟨rfl, rfl, rfl, rfl⟩
  · rw [if_neg z]; exact ⟨rfl, rfl, rfl, rfl⟩
theorem k_else1 (s : SB) : ∀ i, fk (qF (clElse1 s) i) = fk (qF s i) ∧ fb (qF (clElse1 s) i) = fb (qF s i) ∧ fo (qF (clElse1 s) i) = fo (qF s i) ∧ fg (qF (clElse1 s) i) = fg (qF s i) := by
  intro i
  show fk (if i = qn s - 1 then _ else _) = _ ∧ fb (if i = qn s - 1 then _ else _) = _ ∧ fo (if i = qn s - 1 then _ else _) = _ ∧ fg (if i = qn s - 1 then _ else _) = _
  by_cases z : i = qn s - 1
  · subst z
    rw [if_pos rfl]
    exact ⟨rfl, rfl, rfl, rfl⟩
  · rw [if_neg z]; exact ⟨rfl, rfl, rfl, rfl⟩
theorem k_else (s : SB) : ∀ i, fk (qF (clElse s) i) = fk (qF s i) ∧ fb (qF (clElse s) i) = fb (qF s i) ∧ fo (qF (clElse s) i) = fo (qF s i) ∧ fg (qF (clElse s) i) = fg (qF s i) := by
  intro i
  unfold clElse
  split
  · exact k_else1 s i
  · exact k_else1 (sBad s) i
theorem n_clEnd (s : SB) : qn (clEnd s) = qn s - 1 ∧ qF (clEnd s) = qF s := by
  have key : ∀ s, qn (clEnd1 s) = qn s - 1 ∧ qF (clEnd1 s) = qF s := by
    intro s
    unfold clEnd1
    split
    · exact ⟨rfl, rfl⟩
    · have h := f_ptIf (fk (sTop s)) (qh s, qK s, qn s - 1, qF s, qb s)
      exact ⟨h.1.trans rfl, h.2.trans rfl⟩
  unfold clEnd
  split
  · exact key (sBad s)
  · exact key s
/-- the frames behind an instruction -/
theorem n_dieIf (s : SB) : qn (dieIf s) = qn s := by unfold dieIf; split <;> rfl
theorem k_dieIf (s : SB) : ∀ i, fk (qF (dieIf s) i) = fk (qF s i) ∧ fb (qF (dieIf s) i) = fb (qF s i) ∧ fo (qF (dieIf s) i) = fo (qF s i) ∧ fg (qF (dieIf s) i) = fg (qF s i) := by
  intro i
  unfold dieIf; split
  · exact k_die s i
  · exact ⟨rfl, rfl, rfl, rfl⟩
theorem fr_jump (P : Prog) (f pc op : Nat) (s : SB) : ∃ t, qn t = qn s ∧ qF t = qF s ∧ qn (ckJump P f pc op s) = qn t ∧ ∀ i, fk (qF (ckJump P f pc op s) i) = fk (qF t i) ∧ fb (qF (ckJump P f pc op s) i) = fb (qF t i) ∧ fo (qF (ckJump P f pc op s) i) = fo (qF t i) ∧ fg (qF (ckJump P f pc op s) i) = fg (qF t i) := by
  unfold ckJump
  split
  · exact ⟨_, (f_tkIf _ s).1, (f_tkIf _ s).2, n_dieIf _, k_dieIf _⟩
  · split
    · refine ⟨_, ?_, ?_, n_dieIf _, k_dieIf _⟩
      · rw [(f_tkIf _ _).1, (f_lbls _ _ _ _ _).1, (f_lbl _ _).1, (f_tk _ _).1]
      · rw [(f_tkIf _ _).2, (f_lbls _ _ _ _ _).2, (f_lbl _ _).2, (f_tk _ _).2]
    · split
      · refine ⟨_, ?_, ?_, rfl, fun i => ⟨rfl, rfl, rfl, rfl⟩⟩
        · rw [(f_ptIf _ _).1, (f_tkIf _ _).1, (f_lbl _ _).1, (f_tk _ _).1]
        · rw [(f_ptIf _ _).2, (f_tkIf _ _).2, (f_lbl _ _).2, (f_tk _ _).2]
      · refine ⟨_, ?_, ?_, n_dieIf _, k_dieIf _⟩
        · rw [(f_tkIf _ _).1, (f_lbl _ _).1]
        · rw [(f_tkIf _ _).2, (f_lbl _ _).2]
theorem fr_call (P : Prog) (g op : Nat) (s : SB) : qn (ckCall P g op s) = qn s ∧ qF (ckCall P g op s) = qF s := by
  have key : ∀ s, qn (ckCall1 P g op s) = qn s ∧ qF (ckCall1 P g op s) = qF s := by
    intro s
    unfold ckCall1
    split
    · exact ⟨rfl, rfl⟩
    · split
      · exact ⟨rfl, rfl⟩
      · exact ⟨(f_ptIf _ _).1.trans (f_tks P g _ s).1, (f_ptIf _ _).2.trans (f_tks P g _ s).2⟩
  unfold ckCall
  split
  · exact ⟨(key _).1.trans (f_tk 1 s).1, (key _).2.trans (f_tk 1 s).2⟩
  · exact key s
theorem fr_sel (s : SB) : qn (ckSel s) = qn s ∧ qF (ckSel s) = qF s := by
  have key : ∀ y x t, qn (ckSel1 y x t) = qn t ∧ qF (ckSel1 y x t) = qF t := by
    intro y x t
    unfold ckSel1
    split
    · exact f_pt _ _
    · exact f_pt _ _
  have h3 : qn (tkA (tkA (tk 1 s)).2).2 = qn s ∧ qF (tkA (tkA (tk 1 s)).2).2 = qF s := ⟨(f_tkA _).1.trans ((f_tkA _).1.trans (f_tk 1 s).1), (f_tkA _).2.trans ((f_tkA _).2.trans (f_tk 1 s).2)⟩
  unfold ckSel
  split
  · exact ⟨(key _ _ _).1.trans h3.1, (key _ _ _).2.trans h3.2⟩
  · exact ⟨(key _ _ _).1.trans h3.1, (key _ _ _).2.trans h3.2⟩
theorem fr_var (P : Prog) (f op v : Nat) (s : SB) : qn (ckVar P f op v s) = qn s ∧ qF (ckVar P f op v s) = qF s := by
  have key : ∀ k, qn (ckVar1 op k s) = qn s ∧ qF (ckVar1 op k s) = qF s := by
    intro k
    unfold ckVar1
    split
    · exact f_pt k s
    · split
      · exact ⟨(f_pt k _).1.trans (f_tk k s).1, (f_pt k _).2.trans (f_tk k s).2⟩
      · exact f_tk k s
  unfold ckVar
  split
  · split
    · exact key _
    · exact ⟨rfl, rfl⟩
  · split
    · exact key _
    · exact ⟨rfl, rfl⟩
theorem fr_plain (op : Nat) (s : SB) : qn (ckPlain op s) = qn s ∧ qF (ckPlain op s) = qF s :=
  ⟨(f_ptIf _ _).1.trans ((f_tkIf _ _).1.trans (f_tkIf _ _).1), (f_ptIf _ _).2.trans ((f_tkIf _ _).2.trans (f_tkIf _ _).2)⟩
theorem fr_bg2 (op k pc : Nat) (s : SB) : qn (bg2 op k pc s) = qn s + 1 ∧ qF (bg2 op k pc s) = fup (qF s) (qn s) (op, k, qh s, 0, 0, pc) := by
  unfold bg2; split <;> exact ⟨rfl, rfl⟩
theorem fr_bg (op k pc : Nat) (s : SB) : ∃ h, qn (bg op k pc s) = qn s + 1 ∧ qF (bg op k pc s) = fup (qF s) (qn s) (op, k, h, 0, 0, pc) := by
  unfold bg; split
  · refine ⟨qh (tk 1 s), ?_, ?_⟩
    · rw [(fr_bg2 op k pc _).1, (f_tk 1 s).1]
    · rw [(fr_bg2 op k pc _).2, (f_tk 1 s).1, (f_tk 1 s).2]
  · exact ⟨qh s, fr_bg2 op k pc s⟩
theorem fr_cl (op : Nat) (s : SB) : (op = 5 → qn (cl op s) = qn s) ∧ (¬ op = 5 → qn (cl op s) = qn s - 1) ∧ ∀ i, fk (qF (cl op s) i) = fk (qF s i) ∧ fb (qF (cl op s) i) = fb (qF s i) ∧ fo (qF (cl op s) i) = fo (qF s i) ∧ fg (qF (cl op s) i) = fg (qF s i) := by
  have ft := f_clt s
  unfold cl
  split
  · rename_i c
    refine ⟨fun _ => ?_, fun z => absurd c z, fun i => ?_⟩
    · have : ∀ t, qn (clElse t) = qn t := fun t => by unfold clElse; split <;> rfl
      rw [this, ft.1]
    · have := k_else (cl2 (tkIf (fk (sTop s)) s)) i
      rw [ft.2] at this
      exact this
  · rename_i c
    refine ⟨fun z => absurd z c, fun _ => ?_, fun i => ?_⟩
    · rw [(n_clEnd _).1, ft.1]
    · rw [(n_clEnd _).2, ft.2]; exact ⟨rfl, rfl, rfl, rfl⟩
theorem FI_one {P : Prog} {f pc : Nat} {s : SB} (h : FI P f s) (h1 : 1 ≤ qn s) (hpc : pc ≤ 60) : FI P f (ckOne P f pc s) ∧ (¬ pC P f pc = 6 → 1 ≤ qn (ckOne P f pc s)) := by
  unfold ckOne
  split
  · exact ⟨FI_keep h (k_die s) (Nat.le_refl _), fun _ => h1⟩
  · split
    · exact ⟨h, fun _ => h1⟩
    · split
      · obtain ⟨b, e1, e2⟩ := fr_bg (pC P f pc) (pC P f (pc + 1)) pc s
        refine ⟨?_, fun _ => by rw [e1]; omega⟩
        unfold FI at *
        rw [e1, e2]
        have z : ∀ i, i < qn s → fup (qF s) (qn s) (pC P f pc, pC P f (pc + 1), b, 0, 0, pc) i = qF s i := fun i hi => if_neg (by omega)
        refine ⟨by rw [z 0 (by omega)]; exact h.1, by rw [z 0 (by omega)]; exact h.2.1, by rw [z 0 (by omega)]; exact h.2.2.1, fun i hi => ?_⟩
        by_cases zi : i = qn s
        · show fg (if i = qn s then _ else _) ≤ 60
          rw [if_pos zi]; exact hpc
        · rw [z i (by omega)]; exact h.2.2.2 i (by omega)
      · split
        · have hc := fr_cl (pC P f pc) s
          have hn : qn (cl (pC P f pc) s) ≤ qn s := by
            by_cases z : pC P f pc = 5
            · rw [hc.1 z]; exact Nat.le_refl _
            · rw [hc.2.1 z]; omega
          refine ⟨FI_keep h hc.2.2 hn, fun z => ?_⟩
          rw [hc.1 (by omega)]; exact h1
        · split
          · obtain ⟨t, e1, e2, e3, e4⟩ := fr_jump P f pc (pC P f pc) s
            refine ⟨FI_keep (FI_same h e2 (by omega)) e4 (by omega), fun _ => by omega⟩
          · split
            · have e := fr_call P (pC P f (pc + 1)) (pC P f pc) s
              exact ⟨FI_same h e.2 (by omega), fun _ => by omega⟩
            · split
              · have e := f_tkA s
                exact ⟨FI_same h e.2 (by omega), fun _ => by omega⟩
              · split
                · have e := fr_sel s
                  exact ⟨FI_same h e.2 (by omega), fun _ => by omega⟩
                · split
                  · have e := fr_var P f (pC P f pc) (pC P f (pc + 1)) s
                    exact ⟨FI_same h e.2 (by omega), fun _ => by omega⟩
                  · have e := fr_plain (pC P f pc) s
                    exact ⟨FI_same h e.2 (by omega), fun _ => by omega⟩
/-- the notes that a pass to its end leaves -/
def goN (P : Prog) (f : Nat) : Nat → Nat → SB → Nt → Nt
  | 0, _, _, N => N
  | n + 1, pc, s, N => if pL P f ≤ pc then N else goN P f n (pc + szI P f pc) (ckOne P f pc s) (ckN P f pc s N)
theorem RX.c {C0 : St} {f : Nat} {s : SB} {N : Nt} {C : St} (h : RX C0 f s N C) : AgC f C0 C ∧ gR C 1203 0 = f ∧ Sp C := by
  unfold RX at h
  split at h
  · split at h
    · exact ⟨h.1, h.2.1, h.2.2.1⟩
    · exact ⟨h.1, h.2.1, h.2.2.1.p⟩
  · exact ⟨h.1, h.2.1, h.2.2.1⟩
theorem RX.n {C0 : St} {f : Nat} {s : SB} {N : Nt} {C : St} (h : RX C0 f s N C) (hb : qb s = 0) : gI C 1206 0 = nI (qn s) ∧ gI C 1207 0 = 0 ∧ ∀ i, i < 60 → gA C 1402 f i = N.1 i ∧ gA C 1403 f i = N.2 i := by
  unfold RX at h
  rw [if_pos hb] at h
  split at h
  · rename_i z
    exact ⟨by rw [h.2.2.2.2.1, z]; rfl, h.2.2.2.1, h.2.2.2.2.2⟩
  · exact ⟨h.2.2.2.2.2.1, h.2.2.2.1, h.2.2.2.2.2.2.2.2.2⟩
theorem c_fault37 {P : Prog} {C0 : St} {f a : Nat} {Q : Int32 → St → Prop} (hP : PC P C0) (hw : PW P) (hf : f < 6) : ∀ (n pc i : Nat) (s : SB) (N : Nt) (C : St), pL P f < pc + n → pc ≤ pL P f → i ≤ pc → RX C0 f s N C → WG s → qb s = 0 → FI P f s → (∀ C', AgC f C0 C' → Sp C' → (go P f n pc s = none → ∀ j, j < 60 → gA C' 1402 f j = (goN P f n pc s N).1 j ∧ gA C' 1403 f j = (goN P f n pc s N).2 j) → Q (nio (go P f n pc s)) C') → wp2_faultIn_37 a Q n (nI pc) (nI i) C := by
  have hl := (hw f hf).2.2.2.2.1
  intro n
  induction n with
  | zero => intro pc i s N C h1 h2; omega
  | succ n ih =>
    intro pc i s N C hfu hpl hi h g hb hfi kk
    have hx := h.n hb
    have hcm := h.c
    have hp := (hP.agC hcm.1) f hf
    have hn := (g.2 hb).1
    unfold wp2_faultIn_37 wp4_length
    unfold go goN at kk
    have fin : pL P f ≤ pc → wp2_faultIn_125 a Q C := by
      intro c
      rw [if_pos c] at kk
      unfold wp2_faultIn_125 wp4_length
      rw [hx.1, hcm.2.1, hp.2.2.2.1]
      refine ⟨fun c2 => ⟨hf, ?_⟩, fun c2 => ?_⟩
      · rw [if_neg (nN (b := 0) c2)] at kk
        exact kk C hcm.1 hcm.2.2 (fun z => by cases z)
      · rw [if_pos (nE (b := 0) (by omega) (by omega) c2)] at kk
        refine kk C hcm.1 hcm.2.2 fun _ => ?_
        rw [if_pos c]
        exact hx.2.2
    refine ⟨fun c => fin ?_, fun _ => ⟨by rw [hcm.2.1]; exact hf, ?_⟩⟩
    · have c := (nI_leI (a := 60) (by omega) (by omega)).mp c
      omega
    · rw [hcm.2.1, hp.2.2.2.1]
      refine ⟨fun c => fin ((nI_leI (by omega) (by omega)).mp c), fun c => ⟨by rw [hcm.2.1]; exact hf, ?_⟩⟩
      rw [hcm.2.1]
      have c : ¬ pL P f ≤ pc := fun z => c ((nI_leI (by omega) (by omega)).mpr z)
      have hpc : pc < pL P f := by omega
      have hc := (hw f hf).2.2.2.2.2.2 pc hpc
      rw [if_neg c] at kk
      refine c_sizeAt (hP.agC hcm.1) hw hf hpc ?_
      have hbt := bt_lt hw hf (pc + 1)
      have hszb : szC P f pc < 300 := by
        unfold szC szI
        split
        · split
          · split <;> omega
          · split <;> omega
        · omega
      rw [hx.1, hcm.2.1]
      refine ⟨fun c2 => ?_, fun c2 => ⟨fun c3 => ⟨hf, ?_⟩, fun c3 => ?_⟩⟩
      · rw [if_pos (Or.inl (nE (b := 0) (by omega) (by omega) c2))] at kk
        exact kk C hcm.1 hcm.2.2 (fun z => by cases z)
      · have c2 := nN (b := 0) c2
        have c3 := nN (b := 0) c3
        rw [hp.2.2.2.1, nI_add]
        have hkn : known (pC P f pc) := Decidable.byContradiction fun y => c3 (if_neg y)
        have h9 : ¬ (pC P f pc = 9 ∧ pc + 1 < pL P f ∧ 3 < pC P f (pc + 1)) := by
          intro y
          refine c3 ?_
          unfold szC
          rw [if_pos hkn, if_pos y.1, if_neg]
          rw [show bt P f (pc + 1) = pC P f (pc + 1) from if_pos y.2.1]; omega
        rw [if_neg (fun z => z.elim c2 (fun z => z.elim (fun z => z hkn) h9))] at kk
        have hsz : (pc + szC P f pc ≤ pL P f ↔ pc + szI P f pc ≤ pL P f) ∧ (pc + szC P f pc ≤ pL P f → szC P f pc = szI P f pc) := by
          unfold szC
          rw [if_pos hkn]
          by_cases z9 : pC P f pc = 9
          · rw [if_pos z9]
            unfold szI
            rw [if_pos z9]
            unfold bt
            by_cases zl : pc + 1 < pL P f
            · rw [if_pos zl, if_pos zl, if_pos (by omega)]
              omega
            · rw [if_neg zl, if_neg zl, if_pos (by omega)]
              omega
          · rw [if_neg z9]
            exact ⟨Iff.rfl, fun _ => rfl⟩
        refine ⟨fun c4 => ?_, fun c4 => ⟨by rw [hcm.2.1]; exact hf, ?_⟩⟩
        · have c4 := (nI_leI (by omega) (by omega)).mp c4
          have c5 := hsz.1.mp c4
          have e6 := hsz.2 c4
          rw [if_neg (by omega)] at kk
          have hRT : RT C0 f s N C := by
            have := h
            unfold RX at this
            rw [if_pos hb, if_neg c2] at this
            exact RTg.t this hb
          have hone := FI_one (P := P) (f := f) (pc := pc) hfi (by omega) (by omega)
          refine c_goOver hP hw hf hRT g hb (by omega) hfi hpc hkn c5 hone.2 fun C4 h4 => ?_
          have g4 := g_ckOne hw hf hpc c5 g (by omega) hb
          have hz := szI_pos P f pc
          by_cases hb4 : qb (ckOne P f pc s) = 0
          · rw [(h4.n hb4).2.1]
            refine ⟨fun _ x2 e2 x3 e3 => ?_, fun z => absurd rfl z⟩
            rw [if_pos hb4] at kk
            rw [e6] at e2
            rw [nI_1] at e3
            subst e2; subst e3
            refine ih _ (i + 1) _ _ C4 (by omega) c5 (by omega) h4 g4 hb4 hone.1 fun C' k1 k2 k3 => kk C' k1 k2 fun z => ?_
            rw [if_neg c]
            exact k3 z
          · rw [if_neg hb4] at kk
            have hz4 : RTz C0 f C4 := by
              have := h4
              unfold RX at this
              rw [if_neg hb4] at this
              exact this
            rw [hz4.2.2.2]
            refine ⟨fun z => absurd z (by decide), fun _ => ?_⟩
            exact kk C4 hz4.1 hz4.2.2.1 (fun z => by cases z)
        · have c4 : ¬ pc + szC P f pc ≤ pL P f := fun z => c4 ((nI_leI (by omega) (by omega)).mpr z)
          rw [hcm.2.1, hp.2.2.2.1]
          have c5 : pL P f < pc + szI P f pc := Nat.not_le.mp (fun z => c4 (hsz.1.mpr z))
          rw [if_pos c5] at kk
          exact kk C hcm.1 hcm.2.2 (fun z => by cases z)
      · have c3 := nE (b := 0) (by omega) (by omega) c3
        have cond : qn s = 0 ∨ ¬ known (pC P f pc) ∨ (pC P f pc = 9 ∧ pc + 1 < pL P f ∧ 3 < pC P f (pc + 1)) := by
          by_cases hkn : known (pC P f pc)
          · right; right
            unfold szC at c3
            rw [if_pos hkn] at c3
            by_cases z9 : pC P f pc = 9
            · rw [if_pos z9] at c3
              unfold bt at c3
              by_cases zl : pc + 1 < pL P f
              · rw [if_pos zl] at c3
                refine ⟨z9, zl, ?_⟩
                split at c3
                · omega
                · omega
              · rw [if_neg zl, if_pos (by omega)] at c3; omega
            · rw [if_neg z9] at c3
              have := szI_pos P f pc
              omega
          · exact Or.inr (Or.inl hkn)
        rw [if_pos cond] at kk
        exact kk C hcm.1 hcm.2.2 (fun z => by cases z)
theorem FI_ini {P : Prog} (hw : PW P) {f : Nat} (hf : f < 6) : FI P f (sIni P f) := by
  rw [(sIni_ok hw hf).2.2]
  refine ⟨rfl, rfl, rfl, fun i hi => ?_⟩
  have hi : i < 1 := hi
  have : i = 0 := by omega
  subst this
  show 60 ≤ 60
  exact Nat.le_refl _
/-- the notes before the first instruction -/
def N1 (C : St) (f : Nat) : Nt := (fup (fun j => gA C 1402 f j) 60 0, fun j => gA C 1403 f j)
theorem sR_over (S : St) (k i v w : Nat) : sR (sR S k i v) k i w = sR S k i w := by
  unfold sR
  refine Prod.ext rfl (Prod.ext rfl (Prod.ext rfl (Prod.ext rfl (Prod.ext ?_ rfl))))
  funext a b
  show (if a = k ∧ b = i then w else if a = k ∧ b = i then v else _) = if a = k ∧ b = i then w else _
  split <;> rfl
theorem c_faultIn {P : Prog} {C : St} {f : Nat} {Q : Int32 → St → Prop} (hP : PC P C) (hw : PW P) (hf : f < 6) (hS : Sp C) (kk : ∀ C', AgC f C C' → Sp C' → (chk P f = none → ∀ j, j < 60 → gA C' 1402 f j = (goN P f 61 0 (sIni P f) (N1 C f)).1 j ∧ gA C' 1403 f j = (goN P f 61 0 (sIni P f) (N1 C f)).2 j) → Q (nio (chk P f)) C') : wp2_faultIn C f Q := by
  have hr := (hw f hf).2.2.2.1
  have hl := (hw f hf).2.2.2.2.1
  unfold wp2_faultIn wp4_outcome
  intro S1 e1 S2 e2 S3 e3 S4 e4
  subst e1; subst e2; subst e3; subst e4
  generalize hX : sI (sI (sI (sR C 1203 0 f) 1205 0 0) 1206 0 0) 1207 0 0 = X
  have k2 : ∀ k, 1201 ≤ k → k ≤ 1207 → kC k := fun k z1 z2 => Or.inl ⟨z1, z2⟩
  have h0 : AgC f C X := by
    rw [← hX]
    exact (((AgC.sR ⟨Ag.rf, fun g _ i => ⟨rfl, rfl⟩⟩ (k2 _ (by decide) (by decide))).sI (k2 _ (by decide) (by decide))).sI (k2 _ (by decide) (by decide))).sI (k2 _ (by decide) (by decide))
  have x1 : gR X 1203 0 = f := by rw [← hX]; rfl
  have x2 : gI X 1205 0 = 0 := by rw [← hX]; rfl
  have x3 : gI X 1206 0 = 0 := by rw [← hX]; rfl
  have x4 : gI X 1207 0 = 0 := by rw [← hX]; rfl
  have x5 : ∀ i, i < 8 → ∃ b, b ≤ 16 ∧ gI X 1302 i = nI b := by
    intro i hi
    obtain ⟨b, b1, b2⟩ := hS.2 i hi
    exact ⟨b, b1, by rw [← hX]; simpa [gI_sI, gI_sR] using b2⟩
  have x6 : ∀ j, gA X 1402 f j = gA C 1402 f j ∧ gA X 1403 f j = gA C 1403 f j := by
    intro j; rw [← hX]; exact ⟨rfl, rfl⟩
  have hR : RTg C f s00 (fun j => gA C 1402 f j, fun j => gA C 1403 f j) (sR X 1204 0 0) :=
    ⟨h0.sR (k2 _ (by decide) (by decide)), x1, ⟨by show 0 < 8; decide, x5, ⟨0, by decide, x2⟩, 0, by decide, x3⟩, x4, x2, x3, rfl, fun i hi => absurd hi (Nat.not_lt_zero i), fun i hi => absurd hi (Nat.not_lt_zero i), fun i _ => x6 i⟩
  have hp := (hP.agC h0) f hf
  rw [x1, hp.2.2.1]
  refine ⟨hf, ?_⟩
  have H := c_begin (op := 0) (op' := 2) (k := pR P f) (pc := 60) (Q := fun S6 => ∃ n, wp2_faultIn_37 f Q n 0 0 S6) hf (RTg.t hR rfl) WG_s00 rfl (by omega) (by decide) fun C' h' => by
    obtain ⟨g1, g2, g3⟩ := sIni_ok hw hf
    have e : bg2 0 (pR P f) 60 s00 = sIni P f := rfl
    rw [e] at h'
    refine ⟨61, c_fault37 hP hw hf 61 0 0 (sIni P f) (N1 C f) C' (by omega) (by omega) (by omega) ?_ g1 g2 (FI_ini hw hf) kk⟩
    exact RT.x h' (by rw [g3]; show 1 ≤ 1; omega)
  show wp2_beginFrame X (-1) 2 (nI (pR P f)) (fun S6 => ∃ n, wp2_faultIn_37 f Q n 0 0 S6)
  unfold wp2_beginFrame at H ⊢
  have y3 : gI (sR X 1204 0 0) 1206 0 = 0 := x3
  rw [y3] at H
  rw [x3]
  refine ⟨fun c => absurd c (by decide), fun c1 => ⟨fun c2 => absurd c2 (by decide), fun c2 => ⟨fun c3 => ⟨(((H.2 c1).2 c2).1 c3).1, fun S3 e => ?_⟩, fun c3 => absurd ((nI_leI (b := 3) (by omega) (by omega)).mpr hr) c3⟩⟩⟩
  exact (((H.2 c1).2 c2).1 c3).2 S3 (by rw [sR_over]; exact e)
