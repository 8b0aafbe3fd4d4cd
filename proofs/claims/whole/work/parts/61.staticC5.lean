theorem c_jumps {P : Prog} {C0 : St} {f : Nat} {s : SB} {N : Nt} {C : St} {pc op : Nat} {Q : St → Prop} (hP : PC P C0) (hw : PW P) (hf : f < 6) (h : RT C0 f s N C) (g : WG s) (hb : qb s = 0) (h1 : 1 ≤ qn s) (hk0 : fk (qF s 0) = pR P f) (hop : op = 10 ∨ (op = 9 ∧ pc + 2 + pC P f (pc + 1) < pL P f) ∨ ((op = 7 ∨ op = 8) ∧ pc + 1 < pL P f)) (kk : ∀ C', RT C0 f (ckJump P f pc op s) N C' → Q C') : wp2_goOverJumps C (nI pc) (nI op) (nI (bt P f (pc + 1))) Q := by
  have hl := (hw f hf).2.2.2.2.1
  have k4 : ∀ d t, WG t → qb (lbl d t).2 = 0 → ¬ (lbl d t).1 = 4 := fun d t gt z => by have := (g_lbl gt d).2 z; omega
  unfold ckJump at kk
  unfold wp2_goOverJumps
  refine ⟨fun c => ?_, fun c => ⟨fun c1 => ?_, fun c1 => ⟨fun c2 => ?_, fun c2 => ?_⟩⟩⟩
  · have c : op = 7 := nE (b := 7) (by omega) (by omega) c
    rw [if_neg (by omega), if_neg (by omega), if_neg (by omega)] at kk
    have hb1 : bt P f (pc + 1) = pC P f (pc + 1) := if_pos (by omega)
    have hc := (hw f hf).2.2.2.2.2.2 (pc + 1) (by omega)
    rw [hb1]
    refine c_kind (d := pC P f (pc + 1)) h g h1 (fun _ => rfl) hc fun r C1 hr h2 => ?_
    have gl := g_lbl g (pC P f (pc + 1))
    have wl := w_lbl g.1 (pC P f (pc + 1))
    have fl := f_lbl (pC P f (pc + 1)) s
    have q1 : 1 ≤ qn (lbl (pC P f (pc + 1)) s).2 := by rw [fl.1]; exact h1
    refine c_takeX h2 gl.1 q1 hr wl.2 (k4 _ _ g) fun r2 C2 h3 => ?_
    exact c_die h3 (g_tkIf gl.1 _) (by rw [(f_tkIf _ _).1]; exact q1) kk
  · have c1 : op = 8 := nE (b := 8) (by omega) (by omega) c1
    rw [if_neg (by omega), if_neg (by omega), if_pos c1] at kk
    have hb1 : bt P f (pc + 1) = pC P f (pc + 1) := if_pos (by omega)
    have hc := (hw f hf).2.2.2.2.2.2 (pc + 1) (by omega)
    rw [hb1]
    refine c_take (k := 1) h g h1 (by omega) (by omega) fun r0 C0' h0 => ?_
    have e1 : tkIf 1 s = tk 1 s := if_neg (by decide)
    rw [e1] at h0
    have g1 := g_tk g 1
    have q0 : 1 ≤ qn (tk 1 s) := by rw [(f_tk _ _).1]; exact h1
    refine c_kind (d := pC P f (pc + 1)) h0 g1 q0 (fun _ => rfl) hc fun r C1 hr h2 => ?_
    have gl := g_lbl g1 (pC P f (pc + 1))
    have wl := w_lbl g1.1 (pC P f (pc + 1))
    have fl := f_lbl (pC P f (pc + 1)) (tk 1 s)
    have q1 : 1 ≤ qn (lbl (pC P f (pc + 1)) (tk 1 s)).2 := by rw [fl.1]; exact q0
    refine c_takeX h2 gl.1 q1 hr wl.2 (k4 _ _ g1) fun r2 C2 h3 => ?_
    have gt := g_tkIf gl.1 (lbl (pC P f (pc + 1)) (tk 1 s)).1
    have ft := f_tkIf (lbl (pC P f (pc + 1)) (tk 1 s)).1 (lbl (pC P f (pc + 1)) (tk 1 s)).2
    -- the kind asked for once more
    refine c_kind (d := pC P f (pc + 1)) h3 gt (by rw [ft.1]; exact q1) (fun _ => rfl) hc fun r3 C3 hr3 h4 => ?_
    have same : ∀ t, qn t = qn (tk 1 s) → qF t = qF (tk 1 s) → qb t = 0 → pC P f (pc + 1) < qn (tk 1 s) → lbl (pC P f (pc + 1)) t = ((lbl (pC P f (pc + 1)) (tk 1 s)).1, t) := by
      intro t e1 e2 _ hd
      unfold lbl
      rw [e1, e2, if_pos hd, if_pos hd]
    have fx : qn (tkIf (lbl (pC P f (pc + 1)) (tk 1 s)).1 (lbl (pC P f (pc + 1)) (tk 1 s)).2) = qn (tk 1 s) ∧ qF (tkIf (lbl (pC P f (pc + 1)) (tk 1 s)).1 (lbl (pC P f (pc + 1)) (tk 1 s)).2) = qF (tk 1 s) := ⟨ft.1.trans fl.1, ft.2.trans fl.2⟩
    by_cases z : qb (tkIf (lbl (pC P f (pc + 1)) (tk 1 s)).1 (lbl (pC P f (pc + 1)) (tk 1 s)).2) = 0
    · have z2 := b_tkIf _ _ z
      have hd := (b_lbl z2).2
      have e3 := same _ fx.1 fx.2 z hd
      rw [e3] at h4 hr3
      exact c_put h4 gt (fun y => hr3 y) wl.2 kk
    · refine cb_put (f := f) (C0 := C0) ?_ fun C4 h5 => kk C4 (RTb.t h5 (fun y => z (b_ptIf y)))
      exact h4.b (fun y => z (b_lbl y).1)
  · have c2 : op = 9 := nE (b := 9) (by omega) (by omega) c2
    rw [if_neg (by omega), if_pos c2] at kk
    have hop' : pc + 2 + pC P f (pc + 1) < pL P f := by omega
    have hb1 : bt P f (pc + 1) = pC P f (pc + 1) := if_pos (by omega)
    have hc := (hw f hf).2.2.2.2.2.2 (pc + 1) (by omega)
    have hc2 := (hw f hf).2.2.2.2.2.2 (pc + 2) (by omega)
    rw [hb1]
    refine c_take (k := 1) h g h1 (by omega) (by omega) fun r0 C1 h0 => ?_
    have e1 : tkIf 1 s = tk 1 s := if_neg (by decide)
    rw [e1] at h0
    have g1 := g_tk g 1
    have q0 : 1 ≤ qn (tk 1 s) := by rw [(f_tk _ _).1]; exact h1
    unfold wp2_kindOfJumps
    refine ⟨by rw [h0.c.2.1]; exact hf, ?_⟩
    rw [h0.c.2.1, show nI pc + 2 = nI (pc + 2) from nI_add pc 2, nI_1]
    refine c_byteAt (hP.agC h0.c.1) hw hf (by omega) ?_
    have hb2 : bt P f (pc + 2) = pC P f (pc + 2) := if_pos (by omega)
    rw [hb2]
    refine c_kind (d := pC P f (pc + 2)) h0 g1 q0 (fun _ => rfl) hc2 fun r C2 hr h2 => ?_
    have gl := g_lbl g1 (pC P f (pc + 2))
    have wl := w_lbl g1.1 (pC P f (pc + 2))
    have fl := f_lbl (pC P f (pc + 2)) (tk 1 s)
    have q1 : 1 ≤ qn (lbl (pC P f (pc + 2)) (tk 1 s)).2 := by rw [fl.1]; exact q0
    refine ⟨pC P f (pc + 1) + 1, ?_⟩
    rw [l1]
    refine c_kinds (k := (lbl (pC P f (pc + 2)) (tk 1 s)).1) hP hw hf (by omega) hop' wl.2 (pC P f (pc + 1)) 1 _ C2 h2 gl.1 q1 hr (by omega) fun C3 h3 => ?_
    have el := lbls_0 (fun i => pC P f (pc + 2 + i)) (pC P f (pc + 1)) (tk 1 s)
    have el2 : lbls (fun i => pC P f (pc + 2 + i)) (lbl (pC P f (pc + 2)) (tk 1 s)).1 (pC P f (pc + 1) + 1) 0 (lbl (pC P f (pc + 2)) (tk 1 s)).2 = lbls (fun i => pC P f (pc + 2 + i)) (lbl (pC P f (pc + 2)) (tk 1 s)).1 (pC P f (pc + 1)) 1 (lbl (pC P f (pc + 2)) (tk 1 s)).2 := el
    rw [el2] at kk
    have g3 := g_lbls (fun i => pC P f (pc + 2 + i)) (lbl (pC P f (pc + 2)) (tk 1 s)).1 (pC P f (pc + 1)) 1 _ gl.1
    have f3 := f_lbls (fun i => pC P f (pc + 2 + i)) (lbl (pC P f (pc + 2)) (tk 1 s)).1 (pC P f (pc + 1)) 1 (lbl (pC P f (pc + 2)) (tk 1 s)).2
    have hbl := b_lbls (fun i => pC P f (pc + 2 + i)) (lbl (pC P f (pc + 2)) (tk 1 s)).1 (pC P f (pc + 1)) 1 (lbl (pC P f (pc + 2)) (tk 1 s)).2
    refine c_takeX h3 g3 (by rw [f3.1]; exact q1) (fun z => hr (hbl z)) wl.2 (fun z => k4 _ _ g1 (hbl z)) fun r2 C4 h4 => ?_
    exact c_die h4 (g_tkIf g3 _) (by rw [(f_tkIf _ _).1, f3.1]; exact q1) kk
  · have d1 := nN (b := 7) c
    have d2 := nN (b := 8) c1
    have d3 := nN (b := 9) c2
    have hr := (hw f hf).2.2.2.1
    rw [if_pos (by omega), hk0] at kk
    refine ⟨by rw [h.c.2.1]; exact hf, ?_⟩
    unfold wp4_outcome
    rw [h.c.2.1, ((hP.agC h.c.1) f hf).2.2.1]
    refine c_take h g h1 (by omega) (by omega) fun r C1 h2 => ?_
    exact c_die h2 (g_tkIf g _) (by rw [(f_tkIf _ _).1]; exact h1) kk
theorem cb_params {P : Prog} {C0 : St} {f g : Nat} {x2 : Int32} {Q : St → Prop} (hP : PC P C0) (hw : PW P) (hg : g < 6) : ∀ (n : Nat) (C : St), n ≤ pN P g → RTb C0 f C → (∀ C', RTb C0 f C' → Q C') → wp2_goOverCall_41 (nI g) x2 Q (n + 1) (nI n - 1) C := by
  have hb := hw g hg
  intro n
  induction n with
  | zero =>
    intro C hn h kk
    unfold wp2_goOverCall_41 wp4_outcome
    exact ⟨fun _ => ⟨vp_in_nI hg (by omega), cb_put h kk⟩, fun c => absurd (by decide) c⟩
  | succ n ih =>
    intro C hn h kk
    unfold wp2_goOverCall_41
    rw [nI_pred]
    refine ⟨fun c => absurd c (nI_pos (by omega)), fun _ => ⟨vp_in_nI hg (by omega), ?_⟩⟩
    rw [nI_clamp (by omega)]
    unfold wp4_kindOf
    have next : ∀ (r : Int32) C', RTb C0 f C' → ∀ x3_1 : Int32, x3_1 = nI n + (-1) → wp2_goOverCall_41 (nI g) x2 Q (n + 1) x3_1 C' := by
      intro r C' h' x3 e; subst e
      rw [← Int32.sub_eq_add_neg]
      exact ih C' (by omega) h' kk
    have hp := (hP.agC h.1) g hg
    refine ⟨fun _ => cb_take h next, fun _ => ⟨fun _ => cb_take h next, fun c2 => ⟨?_, cb_take h next⟩⟩⟩
    exact vp_in_nI (by omega) (by omega)
theorem c_params {P : Prog} {C0 : St} {f g : Nat} {N : Nt} {x2 : Int32} {Q : St → Prop} (hP : PC P C0) (hw : PW P) (hg : g < 6) : ∀ (n : Nat) (s : SB) (C : St), n ≤ pN P g → RT C0 f s N C → WG s → 1 ≤ qn s → (∀ C', RT C0 f (ptIf (pR P g) (tks P g n s)) N C' → Q C') → wp2_goOverCall_41 (nI g) x2 Q (n + 1) (nI n - 1) C := by
  have hb := hw g hg
  intro n
  induction n with
  | zero =>
    intro s C hn h G h1 kk
    unfold wp2_goOverCall_41 wp4_outcome
    refine ⟨fun _ => ⟨vp_in_nI hg (by omega), ?_⟩, fun c => absurd (by decide) c⟩
    rw [nI_clamp (by omega), ((hP.agC h.c.1) g hg).2.2.1]
    exact c_put h G (fun _ => rfl) (by omega) kk
  | succ n ih =>
    intro s C hn h G h1 kk
    unfold wp2_goOverCall_41
    rw [nI_pred]
    refine ⟨fun c => absurd c (nI_pos (by omega)), fun _ => ⟨vp_in_nI hg (by omega), ?_⟩⟩
    rw [nI_clamp (by omega)]
    unfold wp4_kindOf
    have hp := (hP.agC h.c.1) g hg
    rw [hp.2.1]
    refine ⟨fun c => absurd c (nI_pos (by omega)), fun _ => ⟨fun c => absurd ((nI_leI (by omega) (by omega)).mp c) (by omega), fun _ => ⟨vp_in_nI (by omega) (by omega), ?_⟩⟩⟩
    rw [nI_clamp (by omega), hp.2.2.2.2.1 n (by omega)]
    have hk := hb.2.2.2.2.2.1 n (by omega)
    refine c_take h G h1 (by omega) (by omega) fun r C1 h2 => ?_
    intro x3 e; subst e
    rw [← Int32.sub_eq_add_neg]
    have e1 : tkIf (pK P g n) s = tk (pK P g n) s := if_neg (by omega)
    rw [e1] at h2
    exact ih _ C1 (by omega) h2 (g_tk G _) (by rw [(f_tk _ _).1]; exact h1) kk
theorem c_call1 {P : Prog} {C0 : St} {f g op : Nat} {s : SB} {N : Nt} {C : St} {x2 : Int32} {Q : St → Prop} (hP : PC P C0) (hw : PW P) (h : RT C0 f s N C) (G : WG s) (h1 : 1 ≤ qn s) (hg : g < 256) (hx : op = 11 ∧ x2 = 1 ∨ op = 12 ∧ x2 = 0) (kk : ∀ C', RT C0 f (ckCall1 P g op s) N C' → Q C') : wp2_goOverCall C (nI g) x2 Q := by
  unfold wp2_goOverCall wp8_isFunction
  unfold ckCall1 at kk
  refine ⟨fun c => absurd c (nI_pos (by omega)), fun _ => ⟨fun c => ⟨fun _ S2 e => ?_, fun c2 => absurd rfl c2⟩, fun c => ⟨fun c2 => absurd c2 (by decide), fun _ => ?_⟩⟩⟩
  · have c := (nI_leI (a := 6) (by omega) (by omega)).mp c
    rw [if_pos (by omega)] at kk
    subst e
    exact kk _ (RTb.t (c_bad h.c) e_bad)
  · have c : ¬ 6 ≤ g := fun z => c ((nI_leI (a := 6) (by omega) (by omega)).mpr z)
    have hg6 : g < 6 := by omega
    have hp := (hP.agC h.c.1) g hg6
    rw [if_neg (by omega)] at kk
    have go29 : (∀ C', RT C0 f (ptIf (pR P g) (tks P g (pN P g) s)) N C' → Q C') → wp2_goOverCall_29 (nI g) x2 Q C := by
      intro kk
      unfold wp2_goOverCall_29 wp4_parameterCount
      refine ⟨vp_in_nI hg6 (by omega), ?_⟩
      rw [nI_clamp (by omega), hp.1]
      intro x3 e; subst e
      exact ⟨pN P g + 1, c_params hP hw hg6 (pN P g) s C (Nat.le_refl _) h G h1 kk⟩
    refine ⟨fun c2 => ?_, fun c2 => ⟨vp_in_nI hg6 (by omega), ?_⟩⟩
    · rcases hx with hx | hx
      · rw [hx.2] at c2; exact absurd c2 (by decide)
      · rw [if_neg (by omega)] at kk
        exact go29 kk
    · rcases hx with hx | hx
      · unfold wp4_length
        rw [nI_clamp (by omega), hp.2.2.2.1]
        have hl := (hw g hg6).2.2.2.2.1
        refine ⟨fun c3 => ?_, fun c3 S4 e => ?_⟩
        · have c3 := nN (b := 0) c3
          rw [if_neg (by omega)] at kk
          exact go29 kk
        · have c3 := nE (b := 0) (by omega) (by omega) c3
          rw [if_pos ⟨hx.1, c3⟩] at kk
          subst e
          exact kk _ (RTb.t (c_bad h.c) e_bad)
      · exact absurd hx.2 c2
theorem c_select {C0 : St} {f : Nat} {s : SB} {N : Nt} {C : St} {Q : St → Prop} (h : RT C0 f s N C) (g : WG s) (h1 : 1 ≤ qn s) (kk : ∀ C', RT C0 f (ckSel s) N C' → Q C') : wp2_goOverSelect C Q := by
  unfold wp2_goOverSelect wp2_goOverSelect_29
  refine c_take (k := 1) h g h1 (by omega) (by omega) fun r0 C1 h0 => ?_
  have e1 : tkIf 1 s = tk 1 s := if_neg (by decide)
  rw [e1] at h0
  have g1 := g_tk g 1
  have q1 : 1 ≤ qn (tk 1 s) := by rw [(f_tk _ _).1]; exact h1
  unfold ckSel at kk
  generalize tk 1 s = t at h0 g1 q1 kk
  refine c_takeAny h0 g1 q1 fun y C2 hy h2 => ?_
  have g2 := g_tkA g1
  have w2 := w_tkA g1.1
  have q2 : 1 ≤ qn (tkA t).2 := by rw [(f_tkA _).1]; exact q1
  have hb2 := b_tkA t
  generalize tkA t = a at hy h2 g2 w2 q2 hb2 kk
  by_cases z : qb a.2 = 0
  · have zt := hb2 z
    rw [hy zt]
    have ya := g2.2 zt
    have g3 := g_tkA g2.1
    have w3 := w_tkA g2.1.1
    have hb3 := b_tkA a.2
    refine cg_take (h2.g z) g2.1.1 z q2 (g2.1.2 z).1 (by omega) (by omega) fun C3 h3 => ?_
    generalize tkA a.2 = e at h3 g3 w3 hb3 kk
    have e2 : (if e.1 = 4 ∨ a.1 = 4 ∨ e.1 = a.1 then ckSel1 a.1 e.1 e.2 else ckSel1 a.1 e.1 (sBad e.2)) = ckSel1 a.1 e.1 (if e.1 = a.1 ∨ e.1 = 4 ∨ a.1 = 4 then e.2 else sBad e.2) := by
      by_cases q : e.1 = 4 ∨ a.1 = 4 ∨ e.1 = a.1
      · rw [if_pos q, if_pos (by omega)]
      · rw [if_neg q, if_neg (by omega)]
    rw [e2] at kk
    have g4 : WG (if e.1 = a.1 ∨ e.1 = 4 ∨ a.1 = 4 then e.2 else sBad e.2) := by
      split
      · exact g3.1
      · exact g_bad g3.1.1
    have rel : qb (if e.1 = a.1 ∨ e.1 = 4 ∨ a.1 = 4 then e.2 else sBad e.2) = 0 → (e.1 = a.1 ∨ e.1 = 4 ∨ a.1 = 4) := by
      intro y
      by_cases q : e.1 = a.1 ∨ e.1 = 4 ∨ a.1 = 4
      · exact q
      · rw [if_neg q] at y
        exact absurd y e_bad
    have e1b := g3.2 z
    generalize (if e.1 = a.1 ∨ e.1 = 4 ∨ a.1 = 4 then e.2 else sBad e.2) = u at h3 kk g4 rel
    unfold ckSel1 at kk
    refine ⟨fun c => ?_, fun c => ?_⟩
    · have c := nN (b := 4) c
      -- y is a kind: it is put
      by_cases q : e.1 = 4
      · rw [if_pos q] at kk
        exact c_put (k := a.1) h3 g4 (fun _ => rfl) (by omega) (by rw [show ptIf a.1 u = pt a.1 u from if_neg (by omega)]; exact kk)
      · rw [if_neg q] at kk
        by_cases zu : qb u = 0
        · have : e.1 = a.1 := by have := rel zu; omega
          rw [this] at kk
          exact c_put (k := a.1) h3 g4 (fun _ => rfl) (by omega) (by rw [show ptIf a.1 u = pt a.1 u from if_neg (by omega)]; exact kk)
        · exact cb_put (h3.b zu) fun C4 h4 => kk C4 (RTb.t h4 (fun y => zu (b_pt y)))
    · have c := nE (b := 4) (by omega) (by omega) c
      have e3 : (if e.1 = 4 then pt a.1 u else pt e.1 u) = pt e.1 u := by
        by_cases q : e.1 = 4
        · rw [if_pos q, q, c]
        · rw [if_neg q]
      rw [e3] at kk
      exact c_put (k := e.1) h3 g4 (fun _ => rfl) (by omega) (by rw [show ptIf e.1 u = pt e.1 u from if_neg (by omega)]; exact kk)
  · have nb : ∀ (x : Nat × SB), (qb x.2 = 0 → qb a.2 = 0) → ¬ qb (if x.1 = 4 ∨ a.1 = 4 ∨ x.1 = a.1 then ckSel1 a.1 x.1 x.2 else ckSel1 a.1 x.1 (sBad x.2)) = 0 := by
      intro x hx y
      have sel : ∀ t, qb (ckSel1 a.1 x.1 t) = 0 → qb t = 0 := by
        intro t y
        unfold ckSel1 at y
        split at y
        · exact b_pt y
        · exact b_pt y
      split at y
      · exact z (hx (sel _ y))
      · exact absurd (sel _ y) e_bad
    refine cb_take (h2.b z) fun r C3 h3 => ?_
    have fin : ∀ C', RTb C0 f C' → Q C' := fun C' h' => kk C' (RTb.t h' (nb (tkA a.2) (b_tkA a.2)))
    exact ⟨fun _ => cb_put h3 fin, fun _ => cb_put h3 fin⟩
