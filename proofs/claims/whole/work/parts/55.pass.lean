/-! PURE: the pass keeps the bounds; the reference's find is the pass -/
theorem w_bg1 {s : SB} (w : WS s) (hn : qn s ≤ 8) {op k pc : Nat} (ho : op < 256) (hk : k < 256) : WS (bg1 op k pc s) := by
  refine ⟨w.1, by show qn s + 1 ≤ 9; omega, w.2.2.1, w.2.2.2.1, fun i hi => ?_, fun i j hij hj => ?_, fun i hi => ?_⟩
  · have hi : i < qn s + 1 := hi
    show fo (fup _ _ _ i) < 256 ∧ fk (fup _ _ _ i) < 256 ∧ fb (fup _ _ _ i) ≤ 16 ∧ fd (fup _ _ _ i) ≤ 1 ∧ fe (fup _ _ _ i) ≤ 1
    unfold fup
    split
    · exact ⟨ho, hk, w.1, by show 0 ≤ 1; omega, by show 0 ≤ 1; omega⟩
    · exact w.2.2.2.2.1 i (by omega)
  · have hj : j < qn s + 1 := hj
    show fb (if i = qn s then _ else _) ≤ fb (if j = qn s then _ else _)
    by_cases zj : j = qn s
    · rw [if_pos zj]
      by_cases zi : i = qn s
      · rw [if_pos zi]; exact Nat.le_refl _
      · rw [if_neg zi]; exact w.2.2.2.2.2.2 i (by omega)
    · rw [if_neg zj, if_neg (by omega)]
      exact w.2.2.2.2.2.1 i j hij (by omega)
  · have hi : i < qn s + 1 := hi
    show fb (if i = qn s then _ else _) ≤ qh s
    by_cases zi : i = qn s
    · rw [if_pos zi]; exact Nat.le_refl _
    · rw [if_neg zi]; exact w.2.2.2.2.2.2 i (by omega)
theorem w_bg {s : SB} (w : WS s) (hn : qn s ≤ 8) {op k pc : Nat} (ho : op < 256) (hk : k < 256) : WS (bg op k pc s) := by
  have key : ∀ s, WS s → qn s ≤ 8 → WS (bg2 op k pc s) := by
    intro s w hn
    unfold bg2; split
    · exact w_bg1 (w_bad w) hn ho hk
    · exact w_bg1 w hn ho hk
  unfold bg; split
  · exact key _ (w_tk w 1) (by rw [(f_tk 1 s).1]; exact hn)
  · exact key _ w hn
theorem w_else1 {s : SB} (w : WS s) (h1 : 1 ≤ qn s) : WS (clElse1 s) := by
  have h5 := w_top w h1
  refine ⟨w.1, w.2.1, w.2.2.1, w.2.2.2.1, fun i hi => ?_, fun i j hij hj => ?_, fun i hi => ?_⟩
  · have hi : i < qn s := hi
    show fo (fup _ _ _ i) < 256 ∧ fk (fup _ _ _ i) < 256 ∧ fb (fup _ _ _ i) ≤ 16 ∧ fd (fup _ _ _ i) ≤ 1 ∧ fe (fup _ _ _ i) ≤ 1
    unfold fup
    split
    · exact ⟨h5.1, h5.2.1, h5.2.2.1, by show 0 ≤ 1; omega, Nat.le_refl 1⟩
    · exact w.2.2.2.2.1 i hi
  · have hj : j < qn s := hj
    have key : ∀ i, fb (qF (clElse1 s) i) = fb (qF s i) := by
      intro i
      show fb (if i = qn s - 1 then _ else _) = _
      split
      · rename_i z; subst z; rfl
      · rfl
    rw [key, key]
    exact w.2.2.2.2.2.1 i j hij hj
  · have hi : i < qn s := hi
    have key : fb (qF (clElse1 s) i) = fb (qF s i) := by
      show fb (if i = qn s - 1 then _ else _) = _
      split
      · rename_i z; subst z; rfl
      · rfl
    rw [key]
    exact w.2.2.2.2.2.2 i hi
/-- the bounds of a pass that is under way: kinds and frames in order, and not too many frames if nothing is bad -/
def WG (s : SB) : Prop := WS s ∧ (qb s = 0 → qn s ≤ 8 ∧ (∀ i, i < qn s → fk (qF s i) ≤ 3) ∧ ∀ i, i < qh s → 1 ≤ qK s i ∧ qK s i ≤ 4)
theorem b_tkA (s : SB) : qb (tkA s).2 = 0 → qb s = 0 := by
  unfold tkA
  split
  · show qb (if _ then _ else _) = 0 → _
    split
    · intro h; exact absurd h (by show ¬ 1 = 0; decide)
    · exact id
  · exact id
theorem g_tkA {s : SB} (g : WG s) : WG (tkA s).2 ∧ (qb s = 0 → 1 ≤ (tkA s).1 ∧ (tkA s).1 ≤ 4) := by
  refine ⟨⟨(w_tkA g.1).1, fun hb => ?_⟩, fun hb => ?_⟩
  · have hb0 := b_tkA s hb
    obtain ⟨g1, g2, g3⟩ := g.2 hb0
    have f := f_tkA s
    rw [f.1, f.2]
    refine ⟨g1, g2, ?_⟩
    unfold tkA
    split
    · have e : ∀ c : Prop, ∀ _ : Decidable c, qh (if c then sBad s else s) = qh s ∧ qK (if c then sBad s else s) = qK s := by
        intro c _; split <;> exact ⟨rfl, rfl⟩
      intro i hi
      have hi : i < qh (if fd (sTop s) = 0 then sBad s else s) := hi
      rw [(e _ _).1] at hi
      show 1 ≤ qK (if fd (sTop s) = 0 then sBad s else s) i ∧ qK (if fd (sTop s) = 0 then sBad s else s) i ≤ 4
      rw [(e _ _).2]
      exact g3 i hi
    · intro i hi
      have hi : i < qh s - 1 := hi
      exact g3 i (by omega)
  · unfold tkA
    split
    · show 1 ≤ 4 ∧ 4 ≤ 4; decide
    · rename_i c
      exact (g.2 hb).2.2 (qh s - 1) (by omega)
theorem g_bad {s : SB} (w : WS s) : WG (sBad s) := ⟨w_bad w, fun h => absurd h (by show ¬ 1 = 0; decide)⟩
theorem g_tk {s : SB} (g : WG s) (k : Nat) : WG (tk k s) := by
  unfold tk
  split
  · exact (g_tkA g).1
  · split
    · exact (g_tkA g).1
    · exact g_bad (w_tkA g.1).1
theorem g_tkIf {s : SB} (g : WG s) (k : Nat) : WG (tkIf k s) := by
  unfold tkIf; split
  · exact g
  · exact g_tk g k
theorem g_pt {s : SB} (g : WG s) {k : Nat} (hk : k < 256) (hk1 : qb s = 0 → 1 ≤ k ∧ k ≤ 4) : WG (pt k s) := by
  refine ⟨w_pt g.1 hk, ?_⟩
  unfold pt
  split
  · intro h; exact absurd h (by show ¬ 1 = 0; decide)
  · intro h
    have h : qb s = 0 := h
    obtain ⟨g1, g2, g3⟩ := g.2 h
    refine ⟨g1, g2, fun i hi => ?_⟩
    have hi : i < qh s + 1 := hi
    show 1 ≤ (if i = qh s then k else qK s i) ∧ (if i = qh s then k else qK s i) ≤ 4
    split
    · exact hk1 h
    · exact g3 i (by omega)
theorem g_ptIf {s : SB} (g : WG s) {k : Nat} (hk : k < 256) (hk1 : qb s = 0 → k ≤ 4) : WG (ptIf k s) := by
  unfold ptIf; split
  · exact g
  · rename_i c
    exact g_pt g hk (fun h => by have := hk1 h; omega)
theorem g_bg {s : SB} (g : WG s) (hn : qn s ≤ 8) {op k pc : Nat} (ho : op < 256) (hk : k < 256) : WG (bg op k pc s) := by
  refine ⟨w_bg g.1 hn ho hk, ?_⟩
  have key : ∀ s, WG s → qb (bg2 op k pc s) = 0 → qn (bg2 op k pc s) ≤ 8 ∧ (∀ i, i < qn (bg2 op k pc s) → fk (qF (bg2 op k pc s) i) ≤ 3) ∧ ∀ i, i < qh (bg2 op k pc s) → 1 ≤ qK (bg2 op k pc s) i ∧ qK (bg2 op k pc s) i ≤ 4 := by
    intro s g
    unfold bg2
    split
    · intro h; exact absurd h (by show ¬ 1 = 0; decide)
    · rename_i c
      intro h
      have h : qb s = 0 := h
      obtain ⟨g1, g2, g3⟩ := g.2 h
      refine ⟨by show qn s + 1 ≤ 8; omega, fun i hi => ?_, g3⟩
      have hi : i < qn s + 1 := hi
      show fk (if i = qn s then (op, k, qh s, 0, 0, pc) else qF s i) ≤ 3
      split
      · show k ≤ 3; omega
      · exact g2 i (by omega)
  unfold bg; split
  · exact key _ (g_tk g 1)
  · exact key _ g
theorem g_die {s : SB} (g : WG s) (h1 : 1 ≤ qn s) : WG (die s) := by
  refine ⟨w_die g.1 h1, fun h => ?_⟩
  have h : qb s = 0 := h
  obtain ⟨g1, g2, g3⟩ := g.2 h
  have h8 := g.1.2.2.2.2.2.2 (qn s - 1) (by omega)
  refine ⟨g1, fun i hi => ?_, fun i hi => ?_⟩
  · have hi : i < qn s := hi
    show fk (if i = qn s - 1 then _ else _) ≤ 3
    split
    · exact g2 (qn s - 1) (by omega)
    · exact g2 i hi
  · have hi : i < fb (qF s (qn s - 1)) := hi
    exact g3 i (by omega)
theorem g_dieIf {s : SB} (g : WG s) (h1 : 1 ≤ qn s) : WG (dieIf s) := by
  unfold dieIf; split
  · exact g_die g h1
  · exact g
theorem g_cl2 {s : SB} (g : WG s) : WG (cl2 s) := by
  unfold cl2; split
  · exact g
  · exact g_bad g.1
theorem g_else {s : SB} (g : WG s) (h1 : 1 ≤ qn s) : WG (clElse s) := by
  have key : ∀ s, WG s → 1 ≤ qn s → WG (clElse1 s) := by
    intro s g h1
    refine ⟨w_else1 g.1 h1, fun h => ?_⟩
    have h : qb s = 0 := h
    obtain ⟨g1, g2, g3⟩ := g.2 h
    refine ⟨g1, fun i hi => ?_, g3⟩
    have hi : i < qn s := hi
    show fk (if i = qn s - 1 then _ else _) ≤ 3
    split
    · exact g2 (qn s - 1) (by omega)
    · exact g2 i hi
  unfold clElse; split
  · exact key s g h1
  · exact key _ (g_bad g.1) h1
theorem g_end {s : SB} (g : WG s) (h1 : 1 ≤ qn s) (hk : fk (sTop s) < 256) (hk1 : qb s = 0 → fk (sTop s) ≤ 4) : WG (clEnd s) := by
  have key : ∀ s, WG s → fk (sTop s) < 256 → (qb s = 0 → fk (sTop s) ≤ 4) → WG (clEnd1 s) := by
    intro s g hk hk1
    have g' : WG (qh s, qK s, qn s - 1, qF s, qb s) := by
      refine ⟨w_pop g.1, fun h => ?_⟩
      obtain ⟨g1, g2, g3⟩ := g.2 h
      exact ⟨by show qn s - 1 ≤ 8; omega, fun i hi => g2 i (by have hi : i < qn s - 1 := hi; omega), g3⟩
    unfold clEnd1; split
    · exact g'
    · exact g_ptIf g' hk hk1
  unfold clEnd; split
  · exact key _ (g_bad g.1) hk (fun h => absurd h (by show ¬ 1 = 0; decide))
  · exact key s g hk hk1
theorem g_cl {s : SB} (g : WG s) (h1 : 1 ≤ qn s) (hb : qb s = 0) (op : Nat) : WG (cl op s) := by
  have g1 := g_cl2 (g_tkIf g (fk (sTop s)))
  have f1 : qn (cl2 (tkIf (fk (sTop s)) s)) = qn s ∧ qF (cl2 (tkIf (fk (sTop s)) s)) = qF s := ⟨(f_cl2 _).1.trans (f_tkIf _ s).1, (f_cl2 _).2.trans (f_tkIf _ s).2⟩
  have h2 : 1 ≤ qn (cl2 (tkIf (fk (sTop s)) s)) := by rw [f1.1]; exact h1
  have hk := (g.2 hb).2.1 (qn s - 1) (by omega)
  unfold cl; split
  · exact g_else g1 h2
  · refine g_end g1 h2 ?_ ?_
    · rw [f_top f1]; exact Nat.lt_of_le_of_lt hk (by decide)
    · intro _; rw [f_top f1]; exact Nat.le_trans hk (by decide)
theorem g_lbl {s : SB} (g : WG s) (d : Nat) : WG (lbl d s).2 ∧ (qb (lbl d s).2 = 0 → (lbl d s).1 ≤ 3) := by
  unfold lbl; split
  · refine ⟨g, fun h => ?_⟩
    have h : qb s = 0 := h
    show (if _ then _ else _) ≤ 3
    split
    · omega
    · exact (g.2 h).2.1 _ (by omega)
  · exact ⟨g_bad g.1, fun _ => by show 0 ≤ 3; omega⟩
theorem g_lbls (c : Nat → Nat) (k : Nat) : ∀ (m i : Nat) (s : SB), WG s → WG (lbls c k m i s) := by
  intro m
  induction m with
  | zero => intro i s g; exact g
  | succ m ih =>
    intro i s g
    refine ih (i + 1) _ ?_
    split
    · exact (g_lbl g _).1
    · exact g_bad (g_lbl g _).1.1
theorem b_tkIf (k : Nat) (s : SB) : qb (tkIf k s) = 0 → qb s = 0 := by
  unfold tkIf; split
  · exact id
  · unfold tk
    split
    · exact b_tkA s
    · split
      · exact b_tkA s
      · intro h; exact absurd h (by show ¬ 1 = 0; decide)
theorem g_ckJump {P : Prog} {f pc op : Nat} {s : SB} (g : WG s) (h1 : 1 ≤ qn s) : WG (ckJump P f pc op s) := by
  unfold ckJump
  split
  · exact g_dieIf (g_tkIf g _) (by rw [(f_tkIf _ s).1]; exact h1)
  · split
    · refine g_dieIf (g_tkIf (g_lbls _ _ _ _ _ (g_lbl (g_tk g 1) _).1) _) ?_
      rw [(f_tkIf _ _).1, (f_lbls _ _ _ _ _).1, (f_lbl _ _).1, (f_tk _ _).1]; exact h1
    · split
      · have gl := g_lbl (g_tk g 1) (pC P f (pc + 1))
        have gt := g_tkIf gl.1 (lbl (pC P f (pc + 1)) (tk 1 s)).1
        exact g_ptIf gt (w_lbl (g_tk g 1).1 _).2 (fun z => Nat.le_trans (gl.2 (b_tkIf _ _ z)) (by decide))
      · exact g_dieIf (g_tkIf (g_lbl g _).1 _) (by rw [(f_tkIf _ _).1, (f_lbl _ _).1]; exact h1)
theorem g_tks (P : Prog) (g : Nat) : ∀ (n : Nat) (s : SB), WG s → WG (tks P g n s) := by
  intro n
  induction n with
  | zero => intro s w; exact w
  | succ n ih => intro s w; exact ih _ (g_tk w _)
theorem g_ckCall {P : Prog} (hw : PW P) {g op : Nat} {s : SB} (G : WG s) : WG (ckCall P g op s) := by
  have key : ∀ s, WG s → WG (ckCall1 P g op s) := by
    intro s G
    unfold ckCall1
    split
    · exact g_bad G.1
    · split
      · exact g_bad G.1
      · have := (hw g (by omega)).2.2.2.1
        exact g_ptIf (g_tks P g _ s G) (by omega) (fun _ => by omega)
  unfold ckCall; split
  · exact key _ (g_tk G 1)
  · exact key s G
theorem g_ckSel {s : SB} (g : WG s) : WG (ckSel s) := by
  have g1 := g_tk g 1
  have g2 := g_tkA g1
  have g3 := g_tkA g2.1
  have w2 := w_tkA g1.1
  have w3 := w_tkA g2.1.1
  have key : ∀ y x t, WG t → y < 256 → x < 256 → (qb t = 0 → (1 ≤ y ∧ y ≤ 4) ∧ 1 ≤ x ∧ x ≤ 4) → WG (ckSel1 y x t) := by
    intro y x t gt hy hx h
    unfold ckSel1; split
    · exact g_pt gt hy (fun z => (h z).1)
    · exact g_pt gt hx (fun z => (h z).2)
  unfold ckSel; split
  · exact key _ _ _ g3.1 w2.2 w3.2 (fun z => ⟨g2.2 (b_tkA _ (b_tkA _ z)), g3.2 (b_tkA _ z)⟩)
  · exact key _ _ _ (g_bad g3.1.1) w2.2 w3.2 (fun z => absurd z (by show ¬ 1 = 0; decide))
theorem g_ckVar {P : Prog} (hw : PW P) {f op v : Nat} (hf : f < 6) {s : SB} (g : WG s) : WG (ckVar P f op v s) := by
  have key : ∀ k, 1 ≤ k → k ≤ 3 → WG (ckVar1 op k s) := by
    intro k h1 h3
    unfold ckVar1
    split
    · exact g_pt g (by omega) (fun _ => by omega)
    · split
      · exact g_pt (g_tk g k) (by omega) (fun _ => by omega)
      · exact g_tk g k
  unfold ckVar; split
  · split
    · rename_i c
      have := (hw f hf).2.2.2.2.2.1 v c
      exact key _ this.1 this.2
    · exact g_bad g.1
  · split
    · exact key _ (by omega) (by omega)
    · exact g_bad g.1
theorem sg_ok (op : Nat) : sg op % 10 ≤ 4 := by
  by_cases h : op < 86
  · have : ∀ o, o < 86 → sg o % 10 ≤ 4 := by decide
    exact this op h
  · have : sg op = 102 := by
      unfold sg
      repeat rw [if_neg (by omega)]
    rw [this]; decide
theorem g_ckPlain {op : Nat} {s : SB} (g : WG s) : WG (ckPlain op s) := g_ptIf (g_tkIf (g_tkIf g _) _) (by have := sg_ok op; omega) (fun _ => sg_ok op)
theorem g_ckOne {P : Prog} (hw : PW P) {f pc : Nat} (hf : f < 6) (hpc : pc < pL P f) (hs : pc + szI P f pc ≤ pL P f) {s : SB} (g : WG s) (h1 : 1 ≤ qn s) (hb : qb s = 0) : WG (ckOne P f pc s) := by
  have hc := (hw f hf).2.2.2.2.2.2 pc hpc
  have hn := (g.2 hb).1
  unfold ckOne
  split
  · exact g_die g h1
  · split
    · exact g
    · split
      · have : szI P f pc = 2 := by unfold szI; rw [if_neg (by omega), if_pos (by omega)]
        exact g_bg g hn hc ((hw f hf).2.2.2.2.2.2 (pc + 1) (by omega))
      · split
        · exact g_cl g h1 hb _
        · split
          · exact g_ckJump g h1
          · split
            · exact g_ckCall hw g
            · split
              · exact (g_tkA g).1
              · split
                · exact g_ckSel g
                · split
                  · exact g_ckVar hw hf g
                  · exact g_ckPlain g
