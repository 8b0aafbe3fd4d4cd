/-! PURE: what a pass to its end keeps -/
theorem K_tkA (s : SB) : qK (tkA s).2 = qK s := by
  unfold tkA
  split
  · show qK (if _ then _ else _) = _
    split <;> rfl
  · rfl
theorem K_tk (k : Nat) (s : SB) : qK (tk k s) = qK s := by
  unfold tk
  split
  · exact K_tkA s
  · split
    · exact K_tkA s
    · exact K_tkA s
theorem K_tkIf (k : Nat) (s : SB) : qK (tkIf k s) = qK s := by
  unfold tkIf; split
  · rfl
  · exact K_tk k s
theorem K_pt {k i : Nat} {s : SB} (h : i < qh s) : qK (pt k s) i = qK s i := by
  unfold pt; split
  · rfl
  · show (if i = qh s then k else qK s i) = _
    rw [if_neg (by omega)]
theorem K_ptIf {k i : Nat} {s : SB} (h : i < qh s) : qK (ptIf k s) i = qK s i := by
  unfold ptIf; split
  · rfl
  · exact K_pt h
theorem K_lbl (d : Nat) (s : SB) : qK (lbl d s).2 = qK s := by unfold lbl; split <;> rfl
theorem K_lbls (c : Nat → Nat) (k : Nat) : ∀ (m i : Nat) (s : SB), qK (lbls c k m i s) = qK s := by
  intro m
  induction m with
  | zero => intro i s; rfl
  | succ m ih =>
    intro i s
    refine (ih (i + 1) _).trans ?_
    split
    · exact K_lbl _ s
    · exact K_lbl _ s
theorem K_dieIf (s : SB) : qK (dieIf s) = qK s := by unfold dieIf; split <;> rfl
theorem K_cl2 (s : SB) : qK (cl2 s) = qK s := by unfold cl2; split <;> rfl
theorem K_tks (P : Prog) (g : Nat) : ∀ (n : Nat) (s : SB), qK (tks P g n s) = qK s := by
  intro n
  induction n with
  | zero => intro s; rfl
  | succ n ih => intro s; exact (ih _).trans (K_tk _ s)
/-- the height is never below the top frame's base -/
theorem hb_top {s t : SB} (w : WS t) (h1 : 1 ≤ qn s) (e : qn t = qn s ∧ qF t = qF s) : fb (sTop s) ≤ qh t := by
  have := w.2.2.2.2.2.2 (qn s - 1) (by omega)
  rw [e.2] at this
  exact this
theorem K_jump {P : Prog} {f pc op : Nat} {s : SB} (w : WS s) (h1 : 1 ≤ qn s) {i : Nat} (hi : i < fb (sTop s)) : qK (ckJump P f pc op s) i = qK s i := by
  unfold ckJump
  split
  · rw [K_dieIf, K_tkIf]
  · split
    · rw [K_dieIf, K_tkIf, K_lbls, K_lbl, K_tk]
    · split
      · have w1 := w_tk w 1
        have wl := (w_lbl w1 (pC P f (pc + 1))).1
        have wt := w_tkIf wl (lbl (pC P f (pc + 1)) (tk 1 s)).1
        rw [K_ptIf, K_tkIf, K_lbl, K_tk]
        refine Nat.lt_of_lt_of_le hi (hb_top wt h1 ⟨?_, ?_⟩)
        · rw [(f_tkIf _ _).1, (f_lbl _ _).1, (f_tk _ _).1]
        · rw [(f_tkIf _ _).2, (f_lbl _ _).2, (f_tk _ _).2]
      · rw [K_dieIf, K_tkIf, K_lbl]
theorem K_call {P : Prog} {g op : Nat} {s : SB} (w : WS s) (h1 : 1 ≤ qn s) {i : Nat} (hi : i < fb (sTop s)) : qK (ckCall P g op s) i = qK s i := by
  have key : ∀ s, WS s → 1 ≤ qn s → i < fb (sTop s) → qK (ckCall1 P g op s) i = qK s i := by
    intro s w h1 hi
    unfold ckCall1
    split
    · rfl
    · split
      · rfl
      · rw [K_ptIf, K_tks]
        exact Nat.lt_of_lt_of_le hi (hb_top (w_tks P g _ s w) h1 (f_tks P g _ s))
  unfold ckCall
  split
  · rw [key _ (w_tk w 1) (by rw [(f_tk _ _).1]; exact h1) (by rw [f_top (f_tk 1 s)]; exact hi), K_tk]
  · exact key s w h1 hi
theorem K_sel {s : SB} (w : WS s) (h1 : 1 ≤ qn s) {i : Nat} (hi : i < fb (sTop s)) : qK (ckSel s) i = qK s i := by
  have w1 := w_tk w 1
  have w2 := (w_tkA w1).1
  have w3 := (w_tkA w2).1
  have e3 : qn (tkA (tkA (tk 1 s)).2).2 = qn s ∧ qF (tkA (tkA (tk 1 s)).2).2 = qF s := ⟨(f_tkA _).1.trans ((f_tkA _).1.trans (f_tk 1 s).1), (f_tkA _).2.trans ((f_tkA _).2.trans (f_tk 1 s).2)⟩
  have hh := Nat.lt_of_lt_of_le hi (hb_top w3 h1 e3)
  have kk : qK (tkA (tkA (tk 1 s)).2).2 = qK s := by rw [K_tkA, K_tkA, K_tk]
  have key : ∀ y x t, i < qh t → qK (ckSel1 y x t) i = qK t i := by
    intro y x t h
    unfold ckSel1
    split
    · exact K_pt h
    · exact K_pt h
  unfold ckSel
  split
  · rw [key _ _ _ hh, kk]
  · rw [key _ _ (sBad _) hh]
    show qK (tkA (tkA (tk 1 s)).2).2 i = _
    rw [kk]
theorem K_var {P : Prog} {f op v : Nat} {s : SB} (w : WS s) (h1 : 1 ≤ qn s) {i : Nat} (hi : i < fb (sTop s)) : qK (ckVar P f op v s) i = qK s i := by
  have h0 := Nat.lt_of_lt_of_le hi (hb_top w h1 ⟨rfl, rfl⟩)
  have key : ∀ k, qK (ckVar1 op k s) i = qK s i := by
    intro k
    unfold ckVar1
    split
    · exact K_pt h0
    · split
      · rw [K_pt (Nat.lt_of_lt_of_le hi (hb_top (w_tk w k) h1 (f_tk k s))), K_tk]
      · rw [K_tk]
  unfold ckVar
  split
  · split
    · exact key _
    · rfl
  · split
    · exact key _
    · rfl
theorem K_plain {op : Nat} {s : SB} (w : WS s) (h1 : 1 ≤ qn s) {i : Nat} (hi : i < fb (sTop s)) : qK (ckPlain op s) i = qK s i := by
  unfold ckPlain
  have e : qn (tkIf (sg op / 10 % 10) (tkIf (sg op / 100) s)) = qn s ∧ qF (tkIf (sg op / 10 % 10) (tkIf (sg op / 100) s)) = qF s := ⟨(f_tkIf _ _).1.trans (f_tkIf _ _).1, (f_tkIf _ _).2.trans (f_tkIf _ _).2⟩
  rw [K_ptIf (Nat.lt_of_lt_of_le hi (hb_top (w_tkIf (w_tkIf w _) _) h1 e)), K_tkIf, K_tkIf]
theorem K_cl {op : Nat} {s : SB} (w : WS s) (h1 : 1 ≤ qn s) {i : Nat} (hi : i < fb (sTop s)) : qK (cl op s) i = qK s i := by
  have ft := f_clt s
  have wt := w_cl2 (w_tkIf w (fk (sTop s)))
  have hh := Nat.lt_of_lt_of_le hi (hb_top wt h1 ft)
  have kk : qK (cl2 (tkIf (fk (sTop s)) s)) = qK s := by rw [K_cl2, K_tkIf]
  unfold cl
  split
  · have : ∀ t, qK (clElse t) = qK t := fun t => by unfold clElse; split <;> rfl
    rw [this, kk]
  · have : ∀ t, i < qh t → qK (clEnd t) i = qK t i := by
      intro t h
      have key : ∀ t, i < qh t → qK (clEnd1 t) i = qK t i := by
        intro t h
        unfold clEnd1
        split
        · rfl
        · rw [K_ptIf (s := (qh t, qK t, qn t - 1, qF t, qb t)) h]; rfl
      unfold clEnd
      split
      · exact key (sBad t) h
      · exact key t h
    rw [this _ hh, kk]
theorem K_one {P : Prog} {f pc : Nat} {s : SB} (w : WS s) (h1 : 1 ≤ qn s) {i : Nat} (hi : i < fb (sTop s)) : qK (ckOne P f pc s) i = qK s i := by
  unfold ckOne
  split
  · rfl
  · split
    · rfl
    · split
      · have key : ∀ s, qK (bg2 (pC P f pc) (pC P f (pc + 1)) pc s) = qK s := fun s => by unfold bg2; split <;> rfl
        unfold bg
        split
        · rw [key, K_tk]
        · rw [key]
      · split
        · exact K_cl w h1 hi
        · split
          · exact K_jump w h1 hi
          · split
            · exact K_call w h1 hi
            · split
              · rw [K_tkA]
              · split
                · exact K_sel w h1 hi
                · split
                  · exact K_var w h1 hi
                  · exact K_plain w h1 hi
theorem F_die {s : SB} {i : Nat} (hi : i < qn s - 1) : qF (die s) i = qF s i := by
  show (if i = qn s - 1 then _ else _) = _
  rw [if_neg (by omega)]
theorem F_dieIf {s : SB} {i : Nat} (hi : i < qn s - 1) : qF (dieIf s) i = qF s i := by
  unfold dieIf; split
  · exact F_die hi
  · rfl
/-- the frames below the top one stay as they are -/
theorem F_one {P : Prog} {f pc : Nat} {s : SB} {i : Nat} (hi : i < qn s - 1) : qF (ckOne P f pc s) i = qF s i := by
  unfold ckOne
  split
  · exact F_die hi
  · split
    · rfl
    · split
      · obtain ⟨b, e1, e2⟩ := fr_bg (pC P f pc) (pC P f (pc + 1)) pc s
        rw [e2]
        show (if i = qn s then _ else _) = _
        rw [if_neg (by omega)]
      · split
        · have ft := f_clt s
          unfold cl
          split
          · have key : ∀ t, i < qn t - 1 → qF (clElse t) i = qF t i := by
              intro t h
              unfold clElse
              split
              · show (if i = qn t - 1 then _ else _) = _
                rw [if_neg (by omega)]
              · show (if i = qn t - 1 then _ else _) = _
                rw [if_neg (by omega)]; rfl
            rw [key _ (by rw [ft.1]; exact hi), ft.2]
          · rw [(n_clEnd _).2, ft.2]
        · split
          · unfold ckJump
            split
            · rw [F_dieIf (by rw [(f_tkIf _ _).1]; exact hi), (f_tkIf _ _).2]
            · split
              · rw [F_dieIf (by rw [(f_tkIf _ _).1, (f_lbls _ _ _ _ _).1, (f_lbl _ _).1, (f_tk _ _).1]; exact hi), (f_tkIf _ _).2, (f_lbls _ _ _ _ _).2, (f_lbl _ _).2, (f_tk _ _).2]
              · split
                · rw [(f_ptIf _ _).2, (f_tkIf _ _).2, (f_lbl _ _).2, (f_tk _ _).2]
                · rw [F_dieIf (by rw [(f_tkIf _ _).1, (f_lbl _ _).1]; exact hi), (f_tkIf _ _).2, (f_lbl _ _).2]
          · split
            · rw [(fr_call P _ _ s).2]
            · split
              · rw [(f_tkA s).2]
              · split
                · rw [(fr_sel s).2]
                · split
                  · rw [(fr_var P f _ _ s).2]
                  · rw [(fr_plain _ s).2]
