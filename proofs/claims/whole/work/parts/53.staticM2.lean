theorem m_params {P : Prog} {M0 : St} {g op : Nat} {Q : St → Prop} (hP : PM P M0) (hw : PW P) (hg : g < 6) : ∀ (n : Nat) (s : SB) (M : St), n ≤ pN P g → RS M0 s M → WS s → 1 ≤ qn s → (∀ M', RS M0 (ptIf (pR P g) (tks P g n s)) M' → Q M') → wp9_checkCall_46 (nI g) (nI op) Q (n + 1) (nI n - 1) M := by
  have hb := hw g hg
  intro n
  induction n with
  | zero =>
    intro s M hn h w h1 kk
    unfold wp9_checkCall_46
    refine ⟨fun _ => ⟨vp_in_nI hg (by omega), ?_⟩, fun c => absurd (by decide) c⟩
    rw [nI_clamp (by omega), ((h.pm hP) g hg).2.2.1]
    exact m_putIf h w (by omega) kk
  | succ n ih =>
    intro s M hn h w h1 kk
    unfold wp9_checkCall_46
    rw [nI_pred]
    refine ⟨fun c => absurd c (nI_pos (by omega)), fun _ => ?_⟩
    rw [show (6 : Int32) * nI g + nI n = nI (6 * g + n) by rw [l6, nI_mul, nI_add], nI_clamp (by omega)]
    refine ⟨vp_in_nI (by omega) (by omega), ?_⟩
    rw [((h.pm hP) g hg).2.2.2.2.1 n (by omega)]
    have hk := hb.2.2.2.2.2.1 n (by omega)
    refine m_take h w h1 (by omega) fun M1 g1 => ?_
    intro x3 e; subst e
    rw [← Int32.sub_eq_add_neg]
    exact ih (tk (pK P g n) s) M1 (by omega) g1 (w_tk w _) (by rw [(f_tk _ s).1]; exact h1) kk
theorem m_checkCall1 {P : Prog} {M0 : St} {s : SB} {M : St} {g op : Nat} {Q : St → Prop} (hP : PM P M0) (hw : PW P) (h : RS M0 s M) (w : WS s) (h1 : 1 ≤ qn s) (ho : op < 256) (hg : g < 256) (kk : ∀ M', RS M0 (ckCall1 P g op s) M' → Q M') : wp9_checkCall_11 (nI g) (nI op) Q M := by
  unfold wp9_checkCall_11
  unfold ckCall1 at kk
  refine ⟨fun c => ?_, fun c => ?_⟩
  · rw [if_pos ((nI_ltI (a := 5) (by omega) (by omega)).mp c)] at kk
    intro S1 e; subst e
    exact kk _ (m_bad h)
  · have c : ¬ 5 < g := fun z => c ((nI_ltI (a := 5) (by omega) (by omega)).mpr z)
    have hg6 : g < 6 := by omega
    have hb := hw g hg6
    rw [if_neg c] at kk
    have key : (∀ M', RS M0 (ptIf (pR P g) (tks P g (pN P g) s)) M' → Q M') → wp9_checkCall_37 (nI g) (nI op) Q M := by
      intro kk
      unfold wp9_checkCall_37
      refine ⟨vp_in_nI hg6 (by omega), ?_⟩
      rw [nI_clamp (by omega), ((h.pm hP) g hg6).1]
      intro x3 e; subst e
      exact ⟨pN P g + 1, m_params hP hw hg6 (pN P g) s M (Nat.le_refl _) h w h1 kk⟩
    refine ⟨fun c2 => ?_, fun c2 => ⟨vp_in_nI hg6 (by omega), ?_⟩⟩
    · rw [if_neg (fun z => nN (b := 11) c2 z.1)] at kk
      exact key kk
    · have c2 := nE (b := 11) (by omega) (by omega) c2
      rw [nI_clamp (by omega), ((h.pm hP) g hg6).2.2.2.1]
      refine ⟨fun c3 => ?_, fun c3 => ?_⟩
      · rw [if_neg (fun z => nN (b := 0) c3 z.2)] at kk
        exact key kk
      · rw [if_pos ⟨c2, nE (b := 0) (by omega) (by omega) c3⟩] at kk
        intro S1 e; subst e
        exact kk _ (m_bad h)
theorem m_checkCall {P : Prog} {M0 : St} {s : SB} {M : St} {g op : Nat} {Q : St → Prop} (hP : PM P M0) (hw : PW P) (h : RS M0 s M) (w : WS s) (h1 : 1 ≤ qn s) (ho : op < 256) (hg : g < 256) (kk : ∀ M', RS M0 (ckCall P g op s) M' → Q M') : wp9_checkCall M (nI g) (nI op) Q := by
  unfold wp9_checkCall
  unfold ckCall at kk
  refine ⟨fun c => ?_, fun c => ?_⟩
  · rw [if_neg (nN (b := 12) c)] at kk
    exact m_checkCall1 hP hw h w h1 ho hg kk
  · rw [if_pos (nE (b := 12) (by omega) (by omega) c)] at kk
    exact m_take (k := 1) h w h1 (by omega) fun M1 g1 => m_checkCall1 hP hw g1 (w_tk w 1) (by rw [(f_tk 1 s).1]; exact h1) ho hg kk
theorem m_sel1 {M0 : St} {s : SB} {M : St} {y x : Nat} {Q : St → Prop} (h : RS M0 s M) (w : WS s) (hy : y < 256) (hx : x < 256) (kk : ∀ M', RS M0 (ckSel1 y x s) M' → Q M') : wp9_checkSelect_35 Q (nI y) (nI x) M := by
  unfold wp9_checkSelect_35 wp9_checkSelect_46
  unfold ckSel1 at kk
  refine ⟨fun c => ?_, fun c => ?_⟩
  · rw [if_neg (nN (b := 4) c)] at kk
    exact m_put h w kk
  · rw [if_pos (nE (b := 4) (by omega) (by omega) c)] at kk
    exact m_put h w kk
theorem m_checkSelect {M0 : St} {s : SB} {M : St} {Q : St → Prop} (h : RS M0 s M) (w : WS s) (h1 : 1 ≤ qn s) (kk : ∀ M', RS M0 (ckSel s) M' → Q M') : wp9_checkSelect M Q := by
  unfold wp9_checkSelect
  refine m_take (k := 1) h w h1 (by omega) fun M1 g1 => ?_
  have w1 := w_tk w 1
  have q1 : 1 ≤ qn (tk 1 s) := by rw [(f_tk 1 s).1]; exact h1
  refine m_takeAny g1 w1 q1 fun M2 g2 => ?_
  have w2 := w_tkA w1
  have q2 : 1 ≤ qn (tkA (tk 1 s)).2 := by rw [(f_tkA _).1]; exact q1
  refine m_takeAny g2 w2.1 q2 fun M3 g3 => ?_
  have w3 := w_tkA w2.1
  have wa := w2.2
  have wb := w3.2
  unfold ckSel at kk
  generalize tkA (tk 1 s) = a at *
  generalize tkA a.2 = e at *
  refine ⟨fun c => ?_, fun c => ⟨fun c2 => ?_, fun c2 => ⟨fun c3 => ?_, fun c3 => ?_⟩⟩⟩
  · rw [if_pos (Or.inl (nE (b := 4) (by omega) (by omega) c))] at kk
    exact m_sel1 g3 w3.1 wa wb kk
  · rw [if_pos (Or.inr (Or.inl (nE (b := 4) (by omega) (by omega) c2)))] at kk
    exact m_sel1 g3 w3.1 wa wb kk
  · rw [if_pos (Or.inr (Or.inr (nE (by omega) (by omega) c3)))] at kk
    exact m_sel1 g3 w3.1 wa wb kk
  · rw [if_neg (fun z => z.elim (nN (b := 4) c) (fun z => z.elim (nN (b := 4) c2) (nN c3)))] at kk
    intro S4 e; subst e
    exact m_sel1 (m_bad g3) (w_bad w3.1) wa wb kk
theorem m_var60 {M0 : St} {s : SB} {M : St} {x1 x3 : Int32} {op k : Nat} {Q : St → Prop} (h : RS M0 s M) (w : WS s) (h1 : 1 ≤ qn s) (ho : 15 ≤ op) (ho2 : op ≤ 19) (hk : k < 256) (kk : ∀ M', RS M0 (ckVar1 op k s) M' → Q M') : wp9_checkVariable_60 x1 (nI op) x3 Q (nI k) M := by
  have key : ∀ (s : SB) (M : St), RS M0 s M → WS s → (∀ M', RS M0 (pt k s) M' → Q M') → wp9_checkVariable_104 x1 (nI op) x3 Q (nI k) M := fun s M h w kk => m_put h w kk
  obtain rfl | rfl | rfl | rfl | rfl : op = 15 ∨ op = 16 ∨ op = 17 ∨ op = 18 ∨ op = 19 := by omega
  · exact ⟨fun c => absurd c (by decide), fun _ => ⟨fun c => absurd c (by decide), fun _ => ⟨fun _ => ⟨fun _ => m_put h w kk, fun c => absurd rfl c⟩, fun c => absurd c (by decide)⟩⟩⟩
  · exact ⟨fun _ => m_take h w h1 hk fun M1 g => ⟨fun c => absurd c (by decide), fun _ => ⟨fun c => absurd c (by decide), fun _ => ⟨fun _ => kk _ g, fun c => absurd c (by decide)⟩⟩⟩, fun c => absurd rfl c⟩
  · exact ⟨fun c => absurd c (by decide), fun _ => ⟨fun _ => m_take h w h1 hk fun M1 g => ⟨fun c => absurd c (by decide), fun _ => ⟨fun _ => m_put g (w_tk w k) kk, fun c => absurd rfl c⟩⟩, fun c => absurd rfl c⟩⟩
  · exact ⟨fun c => absurd c (by decide), fun _ => ⟨fun c => absurd c (by decide), fun _ => ⟨fun _ => ⟨fun c => absurd c (by decide), fun _ => ⟨fun c => absurd c (by decide), fun _ => ⟨fun c => absurd rfl c, fun _ => m_put h w kk⟩⟩⟩, fun c => absurd c (by decide)⟩⟩⟩
  · exact ⟨fun c => absurd c (by decide), fun _ => ⟨fun c => absurd c (by decide), fun _ => ⟨fun c => absurd rfl c, fun _ => m_take h w h1 hk fun M1 g => ⟨fun c => absurd c (by decide), fun _ => ⟨fun c => absurd c (by decide), fun _ => ⟨fun _ => kk _ g, fun c => absurd c (by decide)⟩⟩⟩⟩⟩⟩
theorem m_checkVariable {P : Prog} {M0 : St} {s : SB} {M : St} {f op v : Nat} {Q : St → Prop} (hP : PM P M0) (hw : PW P) (hf : f < 6) (h : RS M0 s M) (w : WS s) (h1 : 1 ≤ qn s) (ho : 15 ≤ op) (ho2 : op ≤ 19) (hv : v < 256) (kk : ∀ M', RS M0 (ckVar P f op v s) M' → Q M') : wp9_checkVariable M (nI f) (nI op) (nI v) Q := by
  have hb := hw f hf
  unfold wp9_checkVariable wp9_checkVariable_11 wp9_checkVariable_29
  unfold ckVar at kk
  refine ⟨fun c => ⟨fun _ => ⟨vp_in_nI hf (by omega), ?_⟩, fun c => absurd rfl c⟩, fun c => ⟨fun c => absurd c (by decide), fun _ => ⟨fun c2 => ⟨fun c => absurd c (by decide), fun _ => ?_⟩, fun c2 => ?_⟩⟩⟩
  · rw [if_pos ((nI_ltI (b := 18) (by omega) (by omega)).mp c)] at kk
    rw [nI_clamp (by omega), ((h.pm hP) f hf).2.1]
    refine ⟨fun c2 => ⟨fun _ => ?_, fun c => absurd rfl c⟩, fun c2 => ?_⟩
    · have c2 := (nI_ltI (by omega) (by omega)).mp c2
      rw [if_pos c2] at kk
      rw [show (6 : Int32) * nI f + nI v = nI (6 * f + v) by rw [l6, nI_mul, nI_add], nI_clamp (by omega), ((h.pm hP) f hf).2.2.2.2.1 v c2]
      have hk := hb.2.2.2.2.2.1 v c2
      exact ⟨vp_in_nI (by omega) (by omega), m_var60 h w h1 ho ho2 (by omega) kk⟩
    · have c2 := fun z => c2 ((nI_ltI (by omega) (by omega)).mpr z)
      rw [if_neg c2] at kk
      intro S1 e; subst e
      exact kk _ (m_bad h)
  · have c := fun z => c ((nI_ltI (b := 18) (by omega) (by omega)).mpr z)
    have c2 := (nI_ltI (b := 3) (by omega) (by omega)).mp c2
    rw [if_neg c, if_pos c2] at kk
    rw [nI_1]
    exact m_var60 h w h1 ho ho2 (by omega) kk
  · have c := fun z => c ((nI_ltI (b := 18) (by omega) (by omega)).mpr z)
    have c2 := fun z => c2 ((nI_ltI (b := 3) (by omega) (by omega)).mpr z)
    rw [if_neg c, if_neg c2] at kk
    intro S1 e; subst e
    exact kk _ (m_bad h)
theorem m_pl20 {M0 : St} {s : SB} {M : St} {Q : St → Prop} (h : RS M0 s M) (w : WS s) (h1 : 1 ≤ qn s) (kk : ∀ M', RS M0 (ckPlain 20 s) M' → Q M') : wp9_checkPlain M (nI 20) Q := by
  simp (decide := true) only [wp9_checkPlain, wp9_checkPlain_23, wp9_checkPlain_54, wp9_checkPlain_77, wp9_checkPlain_125, wp9_checkPlain_140, wp9_checkPlain_159, wp9_checkPlain_164, wp9_checkPlain_179, wp9_checkPlain_221, wp9_checkPlain_247, wp9_checkPlain_263, wp9_checkPlain_268, true_implies, false_implies, true_and, and_true, not_true, not_false_iff]
  exact m_put (k := 1) h w kk
theorem m_pl21 {M0 : St} {s : SB} {M : St} {Q : St → Prop} (h : RS M0 s M) (w : WS s) (h1 : 1 ≤ qn s) (kk : ∀ M', RS M0 (ckPlain 21 s) M' → Q M') : wp9_checkPlain M (nI 21) Q := by
  simp (decide := true) only [wp9_checkPlain, wp9_checkPlain_23, wp9_checkPlain_54, wp9_checkPlain_77, wp9_checkPlain_125, wp9_checkPlain_140, wp9_checkPlain_159, wp9_checkPlain_164, wp9_checkPlain_179, wp9_checkPlain_221, wp9_checkPlain_247, wp9_checkPlain_263, wp9_checkPlain_268, true_implies, false_implies, true_and, and_true, not_true, not_false_iff]
  exact m_put (k := 2) h w kk
theorem m_pl22 {M0 : St} {s : SB} {M : St} {Q : St → Prop} (h : RS M0 s M) (w : WS s) (h1 : 1 ≤ qn s) (kk : ∀ M', RS M0 (ckPlain 22 s) M' → Q M') : wp9_checkPlain M (nI 22) Q := by
  simp (decide := true) only [wp9_checkPlain, wp9_checkPlain_23, wp9_checkPlain_54, wp9_checkPlain_77, wp9_checkPlain_125, wp9_checkPlain_140, wp9_checkPlain_159, wp9_checkPlain_164, wp9_checkPlain_179, wp9_checkPlain_221, wp9_checkPlain_247, wp9_checkPlain_263, wp9_checkPlain_268, true_implies, false_implies, true_and, and_true, not_true, not_false_iff]
  exact m_put (k := 3) h w kk
theorem m_pl23 {M0 : St} {s : SB} {M : St} {Q : St → Prop} (h : RS M0 s M) (w : WS s) (h1 : 1 ≤ qn s) (kk : ∀ M', RS M0 (ckPlain 23 s) M' → Q M') : wp9_checkPlain M (nI 23) Q := by
  simp (decide := true) only [wp9_checkPlain, wp9_checkPlain_23, wp9_checkPlain_54, wp9_checkPlain_77, wp9_checkPlain_125, wp9_checkPlain_140, wp9_checkPlain_159, wp9_checkPlain_164, wp9_checkPlain_179, wp9_checkPlain_221, wp9_checkPlain_247, wp9_checkPlain_263, wp9_checkPlain_268, true_implies, false_implies, true_and, and_true, not_true, not_false_iff]
  refine m_take (k := 1) h w h1 (by omega) fun M1 g1 => ?_
  exact m_put (k := 1) g1 (w_tk w 1) kk
theorem m_pl24 {M0 : St} {s : SB} {M : St} {Q : St → Prop} (h : RS M0 s M) (w : WS s) (h1 : 1 ≤ qn s) (kk : ∀ M', RS M0 (ckPlain 24 s) M' → Q M') : wp9_checkPlain M (nI 24) Q := by
  simp (decide := true) only [wp9_checkPlain, wp9_checkPlain_23, wp9_checkPlain_54, wp9_checkPlain_77, wp9_checkPlain_125, wp9_checkPlain_140, wp9_checkPlain_159, wp9_checkPlain_164, wp9_checkPlain_179, wp9_checkPlain_221, wp9_checkPlain_247, wp9_checkPlain_263, wp9_checkPlain_268, true_implies, false_implies, true_and, and_true, not_true, not_false_iff]
  refine m_take (k := 1) h w h1 (by omega) fun M1 g1 => ?_
  exact m_put (k := 1) g1 (w_tk w 1) kk
theorem m_pl25 {M0 : St} {s : SB} {M : St} {Q : St → Prop} (h : RS M0 s M) (w : WS s) (h1 : 1 ≤ qn s) (kk : ∀ M', RS M0 (ckPlain 25 s) M' → Q M') : wp9_checkPlain M (nI 25) Q := by
  simp (decide := true) only [wp9_checkPlain, wp9_checkPlain_23, wp9_checkPlain_54, wp9_checkPlain_77, wp9_checkPlain_125, wp9_checkPlain_140, wp9_checkPlain_159, wp9_checkPlain_164, wp9_checkPlain_179, wp9_checkPlain_221, wp9_checkPlain_247, wp9_checkPlain_263, wp9_checkPlain_268, true_implies, false_implies, true_and, and_true, not_true, not_false_iff]
  refine m_take (k := 1) h w h1 (by omega) fun M1 g1 => ?_
  exact m_put (k := 2) g1 (w_tk w 1) kk
theorem m_pl26 {M0 : St} {s : SB} {M : St} {Q : St → Prop} (h : RS M0 s M) (w : WS s) (h1 : 1 ≤ qn s) (kk : ∀ M', RS M0 (ckPlain 26 s) M' → Q M') : wp9_checkPlain M (nI 26) Q := by
  simp (decide := true) only [wp9_checkPlain, wp9_checkPlain_23, wp9_checkPlain_54, wp9_checkPlain_77, wp9_checkPlain_125, wp9_checkPlain_140, wp9_checkPlain_159, wp9_checkPlain_164, wp9_checkPlain_179, wp9_checkPlain_221, wp9_checkPlain_247, wp9_checkPlain_263, wp9_checkPlain_268, true_implies, false_implies, true_and, and_true, not_true, not_false_iff]
  refine m_take (k := 1) h w h1 (by omega) fun M1 g1 => ?_
  refine m_take (k := 1) g1 (w_tk w 1) (by rw [(f_tk 1 _).1]; exact h1) (by omega) fun M2 g2 => ?_
  exact kk _ g2
theorem m_pl27 {M0 : St} {s : SB} {M : St} {Q : St → Prop} (h : RS M0 s M) (w : WS s) (h1 : 1 ≤ qn s) (kk : ∀ M', RS M0 (ckPlain 27 s) M' → Q M') : wp9_checkPlain M (nI 27) Q := by
  simp (decide := true) only [wp9_checkPlain, wp9_checkPlain_23, wp9_checkPlain_54, wp9_checkPlain_77, wp9_checkPlain_125, wp9_checkPlain_140, wp9_checkPlain_159, wp9_checkPlain_164, wp9_checkPlain_179, wp9_checkPlain_221, wp9_checkPlain_247, wp9_checkPlain_263, wp9_checkPlain_268, true_implies, false_implies, true_and, and_true, not_true, not_false_iff]
  refine m_take (k := 1) h w h1 (by omega) fun M1 g1 => ?_
  refine m_take (k := 1) g1 (w_tk w 1) (by rw [(f_tk 1 _).1]; exact h1) (by omega) fun M2 g2 => ?_
  exact kk _ g2
theorem m_pl28 {M0 : St} {s : SB} {M : St} {Q : St → Prop} (h : RS M0 s M) (w : WS s) (h1 : 1 ≤ qn s) (kk : ∀ M', RS M0 (ckPlain 28 s) M' → Q M') : wp9_checkPlain M (nI 28) Q := by
  simp (decide := true) only [wp9_checkPlain, wp9_checkPlain_23, wp9_checkPlain_54, wp9_checkPlain_77, wp9_checkPlain_125, wp9_checkPlain_140, wp9_checkPlain_159, wp9_checkPlain_164, wp9_checkPlain_179, wp9_checkPlain_221, wp9_checkPlain_247, wp9_checkPlain_263, wp9_checkPlain_268, true_implies, false_implies, true_and, and_true, not_true, not_false_iff]
  refine m_take (k := 2) h w h1 (by omega) fun M1 g1 => ?_
  refine m_take (k := 1) g1 (w_tk w 2) (by rw [(f_tk 2 _).1]; exact h1) (by omega) fun M2 g2 => ?_
  exact kk _ g2
theorem m_pl30 {M0 : St} {s : SB} {M : St} {Q : St → Prop} (h : RS M0 s M) (w : WS s) (h1 : 1 ≤ qn s) (kk : ∀ M', RS M0 (ckPlain 30 s) M' → Q M') : wp9_checkPlain M (nI 30) Q := by
  simp (decide := true) only [wp9_checkPlain, wp9_checkPlain_23, wp9_checkPlain_54, wp9_checkPlain_77, wp9_checkPlain_125, wp9_checkPlain_140, wp9_checkPlain_159, wp9_checkPlain_164, wp9_checkPlain_179, wp9_checkPlain_221, wp9_checkPlain_247, wp9_checkPlain_263, wp9_checkPlain_268, true_implies, false_implies, true_and, and_true, not_true, not_false_iff]
  refine m_take (k := 1) h w h1 (by omega) fun M1 g1 => ?_
  refine m_take (k := 1) g1 (w_tk w 1) (by rw [(f_tk 1 _).1]; exact h1) (by omega) fun M2 g2 => ?_
  exact m_put (k := 1) g2 (w_tk (w_tk w 1) 1) kk
theorem m_pl31 {M0 : St} {s : SB} {M : St} {Q : St → Prop} (h : RS M0 s M) (w : WS s) (h1 : 1 ≤ qn s) (kk : ∀ M', RS M0 (ckPlain 31 s) M' → Q M') : wp9_checkPlain M (nI 31) Q := by
  simp (decide := true) only [wp9_checkPlain, wp9_checkPlain_23, wp9_checkPlain_54, wp9_checkPlain_77, wp9_checkPlain_125, wp9_checkPlain_140, wp9_checkPlain_159, wp9_checkPlain_164, wp9_checkPlain_179, wp9_checkPlain_221, wp9_checkPlain_247, wp9_checkPlain_263, wp9_checkPlain_268, true_implies, false_implies, true_and, and_true, not_true, not_false_iff]
  refine m_take (k := 1) h w h1 (by omega) fun M1 g1 => ?_
  refine m_take (k := 1) g1 (w_tk w 1) (by rw [(f_tk 1 _).1]; exact h1) (by omega) fun M2 g2 => ?_
  exact m_put (k := 1) g2 (w_tk (w_tk w 1) 1) kk
theorem m_pl32 {M0 : St} {s : SB} {M : St} {Q : St → Prop} (h : RS M0 s M) (w : WS s) (h1 : 1 ≤ qn s) (kk : ∀ M', RS M0 (ckPlain 32 s) M' → Q M') : wp9_checkPlain M (nI 32) Q := by
  simp (decide := true) only [wp9_checkPlain, wp9_checkPlain_23, wp9_checkPlain_54, wp9_checkPlain_77, wp9_checkPlain_125, wp9_checkPlain_140, wp9_checkPlain_159, wp9_checkPlain_164, wp9_checkPlain_179, wp9_checkPlain_221, wp9_checkPlain_247, wp9_checkPlain_263, wp9_checkPlain_268, true_implies, false_implies, true_and, and_true, not_true, not_false_iff]
  refine m_take (k := 1) h w h1 (by omega) fun M1 g1 => ?_
  refine m_take (k := 1) g1 (w_tk w 1) (by rw [(f_tk 1 _).1]; exact h1) (by omega) fun M2 g2 => ?_
  exact m_put (k := 1) g2 (w_tk (w_tk w 1) 1) kk
theorem m_pl33 {M0 : St} {s : SB} {M : St} {Q : St → Prop} (h : RS M0 s M) (w : WS s) (h1 : 1 ≤ qn s) (kk : ∀ M', RS M0 (ckPlain 33 s) M' → Q M') : wp9_checkPlain M (nI 33) Q := by
  simp (decide := true) only [wp9_checkPlain, wp9_checkPlain_23, wp9_checkPlain_54, wp9_checkPlain_77, wp9_checkPlain_125, wp9_checkPlain_140, wp9_checkPlain_159, wp9_checkPlain_164, wp9_checkPlain_179, wp9_checkPlain_221, wp9_checkPlain_247, wp9_checkPlain_263, wp9_checkPlain_268, true_implies, false_implies, true_and, and_true, not_true, not_false_iff]
  refine m_take (k := 1) h w h1 (by omega) fun M1 g1 => ?_
  refine m_take (k := 1) g1 (w_tk w 1) (by rw [(f_tk 1 _).1]; exact h1) (by omega) fun M2 g2 => ?_
  exact m_put (k := 1) g2 (w_tk (w_tk w 1) 1) kk
theorem m_pl34 {M0 : St} {s : SB} {M : St} {Q : St → Prop} (h : RS M0 s M) (w : WS s) (h1 : 1 ≤ qn s) (kk : ∀ M', RS M0 (ckPlain 34 s) M' → Q M') : wp9_checkPlain M (nI 34) Q := by
  simp (decide := true) only [wp9_checkPlain, wp9_checkPlain_23, wp9_checkPlain_54, wp9_checkPlain_77, wp9_checkPlain_125, wp9_checkPlain_140, wp9_checkPlain_159, wp9_checkPlain_164, wp9_checkPlain_179, wp9_checkPlain_221, wp9_checkPlain_247, wp9_checkPlain_263, wp9_checkPlain_268, true_implies, false_implies, true_and, and_true, not_true, not_false_iff]
  refine m_take (k := 1) h w h1 (by omega) fun M1 g1 => ?_
  refine m_take (k := 1) g1 (w_tk w 1) (by rw [(f_tk 1 _).1]; exact h1) (by omega) fun M2 g2 => ?_
  exact m_put (k := 1) g2 (w_tk (w_tk w 1) 1) kk
theorem m_pl35 {M0 : St} {s : SB} {M : St} {Q : St → Prop} (h : RS M0 s M) (w : WS s) (h1 : 1 ≤ qn s) (kk : ∀ M', RS M0 (ckPlain 35 s) M' → Q M') : wp9_checkPlain M (nI 35) Q := by
  simp (decide := true) only [wp9_checkPlain, wp9_checkPlain_23, wp9_checkPlain_54, wp9_checkPlain_77, wp9_checkPlain_125, wp9_checkPlain_140, wp9_checkPlain_159, wp9_checkPlain_164, wp9_checkPlain_179, wp9_checkPlain_221, wp9_checkPlain_247, wp9_checkPlain_263, wp9_checkPlain_268, true_implies, false_implies, true_and, and_true, not_true, not_false_iff]
  refine m_take (k := 1) h w h1 (by omega) fun M1 g1 => ?_
  refine m_take (k := 1) g1 (w_tk w 1) (by rw [(f_tk 1 _).1]; exact h1) (by omega) fun M2 g2 => ?_
  exact m_put (k := 1) g2 (w_tk (w_tk w 1) 1) kk
theorem m_pl36 {M0 : St} {s : SB} {M : St} {Q : St → Prop} (h : RS M0 s M) (w : WS s) (h1 : 1 ≤ qn s) (kk : ∀ M', RS M0 (ckPlain 36 s) M' → Q M') : wp9_checkPlain M (nI 36) Q := by
  simp (decide := true) only [wp9_checkPlain, wp9_checkPlain_23, wp9_checkPlain_54, wp9_checkPlain_77, wp9_checkPlain_125, wp9_checkPlain_140, wp9_checkPlain_159, wp9_checkPlain_164, wp9_checkPlain_179, wp9_checkPlain_221, wp9_checkPlain_247, wp9_checkPlain_263, wp9_checkPlain_268, true_implies, false_implies, true_and, and_true, not_true, not_false_iff]
  refine m_take (k := 1) h w h1 (by omega) fun M1 g1 => ?_
  refine m_take (k := 1) g1 (w_tk w 1) (by rw [(f_tk 1 _).1]; exact h1) (by omega) fun M2 g2 => ?_
  exact m_put (k := 1) g2 (w_tk (w_tk w 1) 1) kk
theorem m_pl37 {M0 : St} {s : SB} {M : St} {Q : St → Prop} (h : RS M0 s M) (w : WS s) (h1 : 1 ≤ qn s) (kk : ∀ M', RS M0 (ckPlain 37 s) M' → Q M') : wp9_checkPlain M (nI 37) Q := by
  simp (decide := true) only [wp9_checkPlain, wp9_checkPlain_23, wp9_checkPlain_54, wp9_checkPlain_77, wp9_checkPlain_125, wp9_checkPlain_140, wp9_checkPlain_159, wp9_checkPlain_164, wp9_checkPlain_179, wp9_checkPlain_221, wp9_checkPlain_247, wp9_checkPlain_263, wp9_checkPlain_268, true_implies, false_implies, true_and, and_true, not_true, not_false_iff]
  refine m_take (k := 1) h w h1 (by omega) fun M1 g1 => ?_
  refine m_take (k := 1) g1 (w_tk w 1) (by rw [(f_tk 1 _).1]; exact h1) (by omega) fun M2 g2 => ?_
  exact m_put (k := 1) g2 (w_tk (w_tk w 1) 1) kk
theorem m_pl38 {M0 : St} {s : SB} {M : St} {Q : St → Prop} (h : RS M0 s M) (w : WS s) (h1 : 1 ≤ qn s) (kk : ∀ M', RS M0 (ckPlain 38 s) M' → Q M') : wp9_checkPlain M (nI 38) Q := by
  simp (decide := true) only [wp9_checkPlain, wp9_checkPlain_23, wp9_checkPlain_54, wp9_checkPlain_77, wp9_checkPlain_125, wp9_checkPlain_140, wp9_checkPlain_159, wp9_checkPlain_164, wp9_checkPlain_179, wp9_checkPlain_221, wp9_checkPlain_247, wp9_checkPlain_263, wp9_checkPlain_268, true_implies, false_implies, true_and, and_true, not_true, not_false_iff]
  refine m_take (k := 1) h w h1 (by omega) fun M1 g1 => ?_
  refine m_take (k := 1) g1 (w_tk w 1) (by rw [(f_tk 1 _).1]; exact h1) (by omega) fun M2 g2 => ?_
  exact m_put (k := 1) g2 (w_tk (w_tk w 1) 1) kk
theorem m_pl39 {M0 : St} {s : SB} {M : St} {Q : St → Prop} (h : RS M0 s M) (w : WS s) (h1 : 1 ≤ qn s) (kk : ∀ M', RS M0 (ckPlain 39 s) M' → Q M') : wp9_checkPlain M (nI 39) Q := by
  simp (decide := true) only [wp9_checkPlain, wp9_checkPlain_23, wp9_checkPlain_54, wp9_checkPlain_77, wp9_checkPlain_125, wp9_checkPlain_140, wp9_checkPlain_159, wp9_checkPlain_164, wp9_checkPlain_179, wp9_checkPlain_221, wp9_checkPlain_247, wp9_checkPlain_263, wp9_checkPlain_268, true_implies, false_implies, true_and, and_true, not_true, not_false_iff]
  refine m_take (k := 1) h w h1 (by omega) fun M1 g1 => ?_
  refine m_take (k := 1) g1 (w_tk w 1) (by rw [(f_tk 1 _).1]; exact h1) (by omega) fun M2 g2 => ?_
  exact m_put (k := 1) g2 (w_tk (w_tk w 1) 1) kk
theorem m_pl40 {M0 : St} {s : SB} {M : St} {Q : St → Prop} (h : RS M0 s M) (w : WS s) (h1 : 1 ≤ qn s) (kk : ∀ M', RS M0 (ckPlain 40 s) M' → Q M') : wp9_checkPlain M (nI 40) Q := by
  simp (decide := true) only [wp9_checkPlain, wp9_checkPlain_23, wp9_checkPlain_54, wp9_checkPlain_77, wp9_checkPlain_125, wp9_checkPlain_140, wp9_checkPlain_159, wp9_checkPlain_164, wp9_checkPlain_179, wp9_checkPlain_221, wp9_checkPlain_247, wp9_checkPlain_263, wp9_checkPlain_268, true_implies, false_implies, true_and, and_true, not_true, not_false_iff]
  refine m_take (k := 1) h w h1 (by omega) fun M1 g1 => ?_
  refine m_take (k := 1) g1 (w_tk w 1) (by rw [(f_tk 1 _).1]; exact h1) (by omega) fun M2 g2 => ?_
  exact m_put (k := 1) g2 (w_tk (w_tk w 1) 1) kk
theorem m_pl41 {M0 : St} {s : SB} {M : St} {Q : St → Prop} (h : RS M0 s M) (w : WS s) (h1 : 1 ≤ qn s) (kk : ∀ M', RS M0 (ckPlain 41 s) M' → Q M') : wp9_checkPlain M (nI 41) Q := by
  simp (decide := true) only [wp9_checkPlain, wp9_checkPlain_23, wp9_checkPlain_54, wp9_checkPlain_77, wp9_checkPlain_125, wp9_checkPlain_140, wp9_checkPlain_159, wp9_checkPlain_164, wp9_checkPlain_179, wp9_checkPlain_221, wp9_checkPlain_247, wp9_checkPlain_263, wp9_checkPlain_268, true_implies, false_implies, true_and, and_true, not_true, not_false_iff]
  refine m_take (k := 1) h w h1 (by omega) fun M1 g1 => ?_
  refine m_take (k := 1) g1 (w_tk w 1) (by rw [(f_tk 1 _).1]; exact h1) (by omega) fun M2 g2 => ?_
  exact m_put (k := 1) g2 (w_tk (w_tk w 1) 1) kk
theorem m_pl42 {M0 : St} {s : SB} {M : St} {Q : St → Prop} (h : RS M0 s M) (w : WS s) (h1 : 1 ≤ qn s) (kk : ∀ M', RS M0 (ckPlain 42 s) M' → Q M') : wp9_checkPlain M (nI 42) Q := by
  simp (decide := true) only [wp9_checkPlain, wp9_checkPlain_23, wp9_checkPlain_54, wp9_checkPlain_77, wp9_checkPlain_125, wp9_checkPlain_140, wp9_checkPlain_159, wp9_checkPlain_164, wp9_checkPlain_179, wp9_checkPlain_221, wp9_checkPlain_247, wp9_checkPlain_263, wp9_checkPlain_268, true_implies, false_implies, true_and, and_true, not_true, not_false_iff]
  refine m_take (k := 1) h w h1 (by omega) fun M1 g1 => ?_
  refine m_take (k := 1) g1 (w_tk w 1) (by rw [(f_tk 1 _).1]; exact h1) (by omega) fun M2 g2 => ?_
  exact m_put (k := 1) g2 (w_tk (w_tk w 1) 1) kk
theorem m_pl43 {M0 : St} {s : SB} {M : St} {Q : St → Prop} (h : RS M0 s M) (w : WS s) (h1 : 1 ≤ qn s) (kk : ∀ M', RS M0 (ckPlain 43 s) M' → Q M') : wp9_checkPlain M (nI 43) Q := by
  simp (decide := true) only [wp9_checkPlain, wp9_checkPlain_23, wp9_checkPlain_54, wp9_checkPlain_77, wp9_checkPlain_125, wp9_checkPlain_140, wp9_checkPlain_159, wp9_checkPlain_164, wp9_checkPlain_179, wp9_checkPlain_221, wp9_checkPlain_247, wp9_checkPlain_263, wp9_checkPlain_268, true_implies, false_implies, true_and, and_true, not_true, not_false_iff]
  refine m_take (k := 1) h w h1 (by omega) fun M1 g1 => ?_
  refine m_take (k := 1) g1 (w_tk w 1) (by rw [(f_tk 1 _).1]; exact h1) (by omega) fun M2 g2 => ?_
  exact m_put (k := 1) g2 (w_tk (w_tk w 1) 1) kk
theorem m_pl44 {M0 : St} {s : SB} {M : St} {Q : St → Prop} (h : RS M0 s M) (w : WS s) (h1 : 1 ≤ qn s) (kk : ∀ M', RS M0 (ckPlain 44 s) M' → Q M') : wp9_checkPlain M (nI 44) Q := by
  simp (decide := true) only [wp9_checkPlain, wp9_checkPlain_23, wp9_checkPlain_54, wp9_checkPlain_77, wp9_checkPlain_125, wp9_checkPlain_140, wp9_checkPlain_159, wp9_checkPlain_164, wp9_checkPlain_179, wp9_checkPlain_221, wp9_checkPlain_247, wp9_checkPlain_263, wp9_checkPlain_268, true_implies, false_implies, true_and, and_true, not_true, not_false_iff]
  refine m_take (k := 1) h w h1 (by omega) fun M1 g1 => ?_
  refine m_take (k := 1) g1 (w_tk w 1) (by rw [(f_tk 1 _).1]; exact h1) (by omega) fun M2 g2 => ?_
  exact m_put (k := 1) g2 (w_tk (w_tk w 1) 1) kk
theorem m_pl45 {M0 : St} {s : SB} {M : St} {Q : St → Prop} (h : RS M0 s M) (w : WS s) (h1 : 1 ≤ qn s) (kk : ∀ M', RS M0 (ckPlain 45 s) M' → Q M') : wp9_checkPlain M (nI 45) Q := by
  simp (decide := true) only [wp9_checkPlain, wp9_checkPlain_23, wp9_checkPlain_54, wp9_checkPlain_77, wp9_checkPlain_125, wp9_checkPlain_140, wp9_checkPlain_159, wp9_checkPlain_164, wp9_checkPlain_179, wp9_checkPlain_221, wp9_checkPlain_247, wp9_checkPlain_263, wp9_checkPlain_268, true_implies, false_implies, true_and, and_true, not_true, not_false_iff]
  refine m_take (k := 1) h w h1 (by omega) fun M1 g1 => ?_
  exact m_put (k := 1) g1 (w_tk w 1) kk
theorem m_pl50 {M0 : St} {s : SB} {M : St} {Q : St → Prop} (h : RS M0 s M) (w : WS s) (h1 : 1 ≤ qn s) (kk : ∀ M', RS M0 (ckPlain 50 s) M' → Q M') : wp9_checkPlain M (nI 50) Q := by
  simp (decide := true) only [wp9_checkPlain, wp9_checkPlain_23, wp9_checkPlain_54, wp9_checkPlain_77, wp9_checkPlain_125, wp9_checkPlain_140, wp9_checkPlain_159, wp9_checkPlain_164, wp9_checkPlain_179, wp9_checkPlain_221, wp9_checkPlain_247, wp9_checkPlain_263, wp9_checkPlain_268, true_implies, false_implies, true_and, and_true, not_true, not_false_iff]
  refine m_take (k := 2) h w h1 (by omega) fun M1 g1 => ?_
  refine m_take (k := 2) g1 (w_tk w 2) (by rw [(f_tk 2 _).1]; exact h1) (by omega) fun M2 g2 => ?_
  exact m_put (k := 2) g2 (w_tk (w_tk w 2) 2) kk
theorem m_pl51 {M0 : St} {s : SB} {M : St} {Q : St → Prop} (h : RS M0 s M) (w : WS s) (h1 : 1 ≤ qn s) (kk : ∀ M', RS M0 (ckPlain 51 s) M' → Q M') : wp9_checkPlain M (nI 51) Q := by
  simp (decide := true) only [wp9_checkPlain, wp9_checkPlain_23, wp9_checkPlain_54, wp9_checkPlain_77, wp9_checkPlain_125, wp9_checkPlain_140, wp9_checkPlain_159, wp9_checkPlain_164, wp9_checkPlain_179, wp9_checkPlain_221, wp9_checkPlain_247, wp9_checkPlain_263, wp9_checkPlain_268, true_implies, false_implies, true_and, and_true, not_true, not_false_iff]
  refine m_take (k := 2) h w h1 (by omega) fun M1 g1 => ?_
  refine m_take (k := 2) g1 (w_tk w 2) (by rw [(f_tk 2 _).1]; exact h1) (by omega) fun M2 g2 => ?_
  exact m_put (k := 2) g2 (w_tk (w_tk w 2) 2) kk
theorem m_pl52 {M0 : St} {s : SB} {M : St} {Q : St → Prop} (h : RS M0 s M) (w : WS s) (h1 : 1 ≤ qn s) (kk : ∀ M', RS M0 (ckPlain 52 s) M' → Q M') : wp9_checkPlain M (nI 52) Q := by
  simp (decide := true) only [wp9_checkPlain, wp9_checkPlain_23, wp9_checkPlain_54, wp9_checkPlain_77, wp9_checkPlain_125, wp9_checkPlain_140, wp9_checkPlain_159, wp9_checkPlain_164, wp9_checkPlain_179, wp9_checkPlain_221, wp9_checkPlain_247, wp9_checkPlain_263, wp9_checkPlain_268, true_implies, false_implies, true_and, and_true, not_true, not_false_iff]
  refine m_take (k := 2) h w h1 (by omega) fun M1 g1 => ?_
  refine m_take (k := 2) g1 (w_tk w 2) (by rw [(f_tk 2 _).1]; exact h1) (by omega) fun M2 g2 => ?_
  exact m_put (k := 2) g2 (w_tk (w_tk w 2) 2) kk
theorem m_pl53 {M0 : St} {s : SB} {M : St} {Q : St → Prop} (h : RS M0 s M) (w : WS s) (h1 : 1 ≤ qn s) (kk : ∀ M', RS M0 (ckPlain 53 s) M' → Q M') : wp9_checkPlain M (nI 53) Q := by
  simp (decide := true) only [wp9_checkPlain, wp9_checkPlain_23, wp9_checkPlain_54, wp9_checkPlain_77, wp9_checkPlain_125, wp9_checkPlain_140, wp9_checkPlain_159, wp9_checkPlain_164, wp9_checkPlain_179, wp9_checkPlain_221, wp9_checkPlain_247, wp9_checkPlain_263, wp9_checkPlain_268, true_implies, false_implies, true_and, and_true, not_true, not_false_iff]
  refine m_take (k := 2) h w h1 (by omega) fun M1 g1 => ?_
  refine m_take (k := 2) g1 (w_tk w 2) (by rw [(f_tk 2 _).1]; exact h1) (by omega) fun M2 g2 => ?_
  exact m_put (k := 2) g2 (w_tk (w_tk w 2) 2) kk
theorem m_pl54 {M0 : St} {s : SB} {M : St} {Q : St → Prop} (h : RS M0 s M) (w : WS s) (h1 : 1 ≤ qn s) (kk : ∀ M', RS M0 (ckPlain 54 s) M' → Q M') : wp9_checkPlain M (nI 54) Q := by
  simp (decide := true) only [wp9_checkPlain, wp9_checkPlain_23, wp9_checkPlain_54, wp9_checkPlain_77, wp9_checkPlain_125, wp9_checkPlain_140, wp9_checkPlain_159, wp9_checkPlain_164, wp9_checkPlain_179, wp9_checkPlain_221, wp9_checkPlain_247, wp9_checkPlain_263, wp9_checkPlain_268, true_implies, false_implies, true_and, and_true, not_true, not_false_iff]
  refine m_take (k := 2) h w h1 (by omega) fun M1 g1 => ?_
  refine m_take (k := 2) g1 (w_tk w 2) (by rw [(f_tk 2 _).1]; exact h1) (by omega) fun M2 g2 => ?_
  exact m_put (k := 2) g2 (w_tk (w_tk w 2) 2) kk
theorem m_pl55 {M0 : St} {s : SB} {M : St} {Q : St → Prop} (h : RS M0 s M) (w : WS s) (h1 : 1 ≤ qn s) (kk : ∀ M', RS M0 (ckPlain 55 s) M' → Q M') : wp9_checkPlain M (nI 55) Q := by
  simp (decide := true) only [wp9_checkPlain, wp9_checkPlain_23, wp9_checkPlain_54, wp9_checkPlain_77, wp9_checkPlain_125, wp9_checkPlain_140, wp9_checkPlain_159, wp9_checkPlain_164, wp9_checkPlain_179, wp9_checkPlain_221, wp9_checkPlain_247, wp9_checkPlain_263, wp9_checkPlain_268, true_implies, false_implies, true_and, and_true, not_true, not_false_iff]
  refine m_take (k := 2) h w h1 (by omega) fun M1 g1 => ?_
  refine m_take (k := 2) g1 (w_tk w 2) (by rw [(f_tk 2 _).1]; exact h1) (by omega) fun M2 g2 => ?_
  exact m_put (k := 2) g2 (w_tk (w_tk w 2) 2) kk
theorem m_pl56 {M0 : St} {s : SB} {M : St} {Q : St → Prop} (h : RS M0 s M) (w : WS s) (h1 : 1 ≤ qn s) (kk : ∀ M', RS M0 (ckPlain 56 s) M' → Q M') : wp9_checkPlain M (nI 56) Q := by
  simp (decide := true) only [wp9_checkPlain, wp9_checkPlain_23, wp9_checkPlain_54, wp9_checkPlain_77, wp9_checkPlain_125, wp9_checkPlain_140, wp9_checkPlain_159, wp9_checkPlain_164, wp9_checkPlain_179, wp9_checkPlain_221, wp9_checkPlain_247, wp9_checkPlain_263, wp9_checkPlain_268, true_implies, false_implies, true_and, and_true, not_true, not_false_iff]
  refine m_take (k := 2) h w h1 (by omega) fun M1 g1 => ?_
  refine m_take (k := 2) g1 (w_tk w 2) (by rw [(f_tk 2 _).1]; exact h1) (by omega) fun M2 g2 => ?_
  exact m_put (k := 2) g2 (w_tk (w_tk w 2) 2) kk
theorem m_pl57 {M0 : St} {s : SB} {M : St} {Q : St → Prop} (h : RS M0 s M) (w : WS s) (h1 : 1 ≤ qn s) (kk : ∀ M', RS M0 (ckPlain 57 s) M' → Q M') : wp9_checkPlain M (nI 57) Q := by
  simp (decide := true) only [wp9_checkPlain, wp9_checkPlain_23, wp9_checkPlain_54, wp9_checkPlain_77, wp9_checkPlain_125, wp9_checkPlain_140, wp9_checkPlain_159, wp9_checkPlain_164, wp9_checkPlain_179, wp9_checkPlain_221, wp9_checkPlain_247, wp9_checkPlain_263, wp9_checkPlain_268, true_implies, false_implies, true_and, and_true, not_true, not_false_iff]
  refine m_take (k := 2) h w h1 (by omega) fun M1 g1 => ?_
  refine m_take (k := 2) g1 (w_tk w 2) (by rw [(f_tk 2 _).1]; exact h1) (by omega) fun M2 g2 => ?_
  exact m_put (k := 2) g2 (w_tk (w_tk w 2) 2) kk
theorem m_pl58 {M0 : St} {s : SB} {M : St} {Q : St → Prop} (h : RS M0 s M) (w : WS s) (h1 : 1 ≤ qn s) (kk : ∀ M', RS M0 (ckPlain 58 s) M' → Q M') : wp9_checkPlain M (nI 58) Q := by
  simp (decide := true) only [wp9_checkPlain, wp9_checkPlain_23, wp9_checkPlain_54, wp9_checkPlain_77, wp9_checkPlain_125, wp9_checkPlain_140, wp9_checkPlain_159, wp9_checkPlain_164, wp9_checkPlain_179, wp9_checkPlain_221, wp9_checkPlain_247, wp9_checkPlain_263, wp9_checkPlain_268, true_implies, false_implies, true_and, and_true, not_true, not_false_iff]
  refine m_take (k := 2) h w h1 (by omega) fun M1 g1 => ?_
  refine m_take (k := 2) g1 (w_tk w 2) (by rw [(f_tk 2 _).1]; exact h1) (by omega) fun M2 g2 => ?_
  exact m_put (k := 2) g2 (w_tk (w_tk w 2) 2) kk
theorem m_pl59 {M0 : St} {s : SB} {M : St} {Q : St → Prop} (h : RS M0 s M) (w : WS s) (h1 : 1 ≤ qn s) (kk : ∀ M', RS M0 (ckPlain 59 s) M' → Q M') : wp9_checkPlain M (nI 59) Q := by
  simp (decide := true) only [wp9_checkPlain, wp9_checkPlain_23, wp9_checkPlain_54, wp9_checkPlain_77, wp9_checkPlain_125, wp9_checkPlain_140, wp9_checkPlain_159, wp9_checkPlain_164, wp9_checkPlain_179, wp9_checkPlain_221, wp9_checkPlain_247, wp9_checkPlain_263, wp9_checkPlain_268, true_implies, false_implies, true_and, and_true, not_true, not_false_iff]
  refine m_take (k := 2) h w h1 (by omega) fun M1 g1 => ?_
  refine m_take (k := 2) g1 (w_tk w 2) (by rw [(f_tk 2 _).1]; exact h1) (by omega) fun M2 g2 => ?_
  exact m_put (k := 2) g2 (w_tk (w_tk w 2) 2) kk
theorem m_pl60 {M0 : St} {s : SB} {M : St} {Q : St → Prop} (h : RS M0 s M) (w : WS s) (h1 : 1 ≤ qn s) (kk : ∀ M', RS M0 (ckPlain 60 s) M' → Q M') : wp9_checkPlain M (nI 60) Q := by
  simp (decide := true) only [wp9_checkPlain, wp9_checkPlain_23, wp9_checkPlain_54, wp9_checkPlain_77, wp9_checkPlain_125, wp9_checkPlain_140, wp9_checkPlain_159, wp9_checkPlain_164, wp9_checkPlain_179, wp9_checkPlain_221, wp9_checkPlain_247, wp9_checkPlain_263, wp9_checkPlain_268, true_implies, false_implies, true_and, and_true, not_true, not_false_iff]
  refine m_take (k := 2) h w h1 (by omega) fun M1 g1 => ?_
  refine m_take (k := 2) g1 (w_tk w 2) (by rw [(f_tk 2 _).1]; exact h1) (by omega) fun M2 g2 => ?_
  exact m_put (k := 2) g2 (w_tk (w_tk w 2) 2) kk
theorem m_pl61 {M0 : St} {s : SB} {M : St} {Q : St → Prop} (h : RS M0 s M) (w : WS s) (h1 : 1 ≤ qn s) (kk : ∀ M', RS M0 (ckPlain 61 s) M' → Q M') : wp9_checkPlain M (nI 61) Q := by
  simp (decide := true) only [wp9_checkPlain, wp9_checkPlain_23, wp9_checkPlain_54, wp9_checkPlain_77, wp9_checkPlain_125, wp9_checkPlain_140, wp9_checkPlain_159, wp9_checkPlain_164, wp9_checkPlain_179, wp9_checkPlain_221, wp9_checkPlain_247, wp9_checkPlain_263, wp9_checkPlain_268, true_implies, false_implies, true_and, and_true, not_true, not_false_iff]
  refine m_take (k := 2) h w h1 (by omega) fun M1 g1 => ?_
  refine m_take (k := 2) g1 (w_tk w 2) (by rw [(f_tk 2 _).1]; exact h1) (by omega) fun M2 g2 => ?_
  exact m_put (k := 1) g2 (w_tk (w_tk w 2) 2) kk
theorem m_pl62 {M0 : St} {s : SB} {M : St} {Q : St → Prop} (h : RS M0 s M) (w : WS s) (h1 : 1 ≤ qn s) (kk : ∀ M', RS M0 (ckPlain 62 s) M' → Q M') : wp9_checkPlain M (nI 62) Q := by
  simp (decide := true) only [wp9_checkPlain, wp9_checkPlain_23, wp9_checkPlain_54, wp9_checkPlain_77, wp9_checkPlain_125, wp9_checkPlain_140, wp9_checkPlain_159, wp9_checkPlain_164, wp9_checkPlain_179, wp9_checkPlain_221, wp9_checkPlain_247, wp9_checkPlain_263, wp9_checkPlain_268, true_implies, false_implies, true_and, and_true, not_true, not_false_iff]
  refine m_take (k := 2) h w h1 (by omega) fun M1 g1 => ?_
  refine m_take (k := 2) g1 (w_tk w 2) (by rw [(f_tk 2 _).1]; exact h1) (by omega) fun M2 g2 => ?_
  exact m_put (k := 1) g2 (w_tk (w_tk w 2) 2) kk
theorem m_pl63 {M0 : St} {s : SB} {M : St} {Q : St → Prop} (h : RS M0 s M) (w : WS s) (h1 : 1 ≤ qn s) (kk : ∀ M', RS M0 (ckPlain 63 s) M' → Q M') : wp9_checkPlain M (nI 63) Q := by
  simp (decide := true) only [wp9_checkPlain, wp9_checkPlain_23, wp9_checkPlain_54, wp9_checkPlain_77, wp9_checkPlain_125, wp9_checkPlain_140, wp9_checkPlain_159, wp9_checkPlain_164, wp9_checkPlain_179, wp9_checkPlain_221, wp9_checkPlain_247, wp9_checkPlain_263, wp9_checkPlain_268, true_implies, false_implies, true_and, and_true, not_true, not_false_iff]
  refine m_take (k := 2) h w h1 (by omega) fun M1 g1 => ?_
  refine m_take (k := 2) g1 (w_tk w 2) (by rw [(f_tk 2 _).1]; exact h1) (by omega) fun M2 g2 => ?_
  exact m_put (k := 1) g2 (w_tk (w_tk w 2) 2) kk
theorem m_pl64 {M0 : St} {s : SB} {M : St} {Q : St → Prop} (h : RS M0 s M) (w : WS s) (h1 : 1 ≤ qn s) (kk : ∀ M', RS M0 (ckPlain 64 s) M' → Q M') : wp9_checkPlain M (nI 64) Q := by
  simp (decide := true) only [wp9_checkPlain, wp9_checkPlain_23, wp9_checkPlain_54, wp9_checkPlain_77, wp9_checkPlain_125, wp9_checkPlain_140, wp9_checkPlain_159, wp9_checkPlain_164, wp9_checkPlain_179, wp9_checkPlain_221, wp9_checkPlain_247, wp9_checkPlain_263, wp9_checkPlain_268, true_implies, false_implies, true_and, and_true, not_true, not_false_iff]
  refine m_take (k := 2) h w h1 (by omega) fun M1 g1 => ?_
  exact m_put (k := 1) g1 (w_tk w 2) kk
theorem m_pl70 {M0 : St} {s : SB} {M : St} {Q : St → Prop} (h : RS M0 s M) (w : WS s) (h1 : 1 ≤ qn s) (kk : ∀ M', RS M0 (ckPlain 70 s) M' → Q M') : wp9_checkPlain M (nI 70) Q := by
  simp (decide := true) only [wp9_checkPlain, wp9_checkPlain_23, wp9_checkPlain_54, wp9_checkPlain_77, wp9_checkPlain_125, wp9_checkPlain_140, wp9_checkPlain_159, wp9_checkPlain_164, wp9_checkPlain_179, wp9_checkPlain_221, wp9_checkPlain_247, wp9_checkPlain_263, wp9_checkPlain_268, true_implies, false_implies, true_and, and_true, not_true, not_false_iff]
  refine m_take (k := 3) h w h1 (by omega) fun M1 g1 => ?_
  refine m_take (k := 3) g1 (w_tk w 3) (by rw [(f_tk 3 _).1]; exact h1) (by omega) fun M2 g2 => ?_
  exact m_put (k := 3) g2 (w_tk (w_tk w 3) 3) kk
theorem m_pl71 {M0 : St} {s : SB} {M : St} {Q : St → Prop} (h : RS M0 s M) (w : WS s) (h1 : 1 ≤ qn s) (kk : ∀ M', RS M0 (ckPlain 71 s) M' → Q M') : wp9_checkPlain M (nI 71) Q := by
  simp (decide := true) only [wp9_checkPlain, wp9_checkPlain_23, wp9_checkPlain_54, wp9_checkPlain_77, wp9_checkPlain_125, wp9_checkPlain_140, wp9_checkPlain_159, wp9_checkPlain_164, wp9_checkPlain_179, wp9_checkPlain_221, wp9_checkPlain_247, wp9_checkPlain_263, wp9_checkPlain_268, true_implies, false_implies, true_and, and_true, not_true, not_false_iff]
  refine m_take (k := 3) h w h1 (by omega) fun M1 g1 => ?_
  refine m_take (k := 3) g1 (w_tk w 3) (by rw [(f_tk 3 _).1]; exact h1) (by omega) fun M2 g2 => ?_
  exact m_put (k := 3) g2 (w_tk (w_tk w 3) 3) kk
theorem m_pl72 {M0 : St} {s : SB} {M : St} {Q : St → Prop} (h : RS M0 s M) (w : WS s) (h1 : 1 ≤ qn s) (kk : ∀ M', RS M0 (ckPlain 72 s) M' → Q M') : wp9_checkPlain M (nI 72) Q := by
  simp (decide := true) only [wp9_checkPlain, wp9_checkPlain_23, wp9_checkPlain_54, wp9_checkPlain_77, wp9_checkPlain_125, wp9_checkPlain_140, wp9_checkPlain_159, wp9_checkPlain_164, wp9_checkPlain_179, wp9_checkPlain_221, wp9_checkPlain_247, wp9_checkPlain_263, wp9_checkPlain_268, true_implies, false_implies, true_and, and_true, not_true, not_false_iff]
  refine m_take (k := 3) h w h1 (by omega) fun M1 g1 => ?_
  refine m_take (k := 3) g1 (w_tk w 3) (by rw [(f_tk 3 _).1]; exact h1) (by omega) fun M2 g2 => ?_
  exact m_put (k := 3) g2 (w_tk (w_tk w 3) 3) kk
theorem m_pl73 {M0 : St} {s : SB} {M : St} {Q : St → Prop} (h : RS M0 s M) (w : WS s) (h1 : 1 ≤ qn s) (kk : ∀ M', RS M0 (ckPlain 73 s) M' → Q M') : wp9_checkPlain M (nI 73) Q := by
  simp (decide := true) only [wp9_checkPlain, wp9_checkPlain_23, wp9_checkPlain_54, wp9_checkPlain_77, wp9_checkPlain_125, wp9_checkPlain_140, wp9_checkPlain_159, wp9_checkPlain_164, wp9_checkPlain_179, wp9_checkPlain_221, wp9_checkPlain_247, wp9_checkPlain_263, wp9_checkPlain_268, true_implies, false_implies, true_and, and_true, not_true, not_false_iff]
  refine m_take (k := 3) h w h1 (by omega) fun M1 g1 => ?_
  refine m_take (k := 3) g1 (w_tk w 3) (by rw [(f_tk 3 _).1]; exact h1) (by omega) fun M2 g2 => ?_
  exact m_put (k := 3) g2 (w_tk (w_tk w 3) 3) kk
theorem m_pl74 {M0 : St} {s : SB} {M : St} {Q : St → Prop} (h : RS M0 s M) (w : WS s) (h1 : 1 ≤ qn s) (kk : ∀ M', RS M0 (ckPlain 74 s) M' → Q M') : wp9_checkPlain M (nI 74) Q := by
  simp (decide := true) only [wp9_checkPlain, wp9_checkPlain_23, wp9_checkPlain_54, wp9_checkPlain_77, wp9_checkPlain_125, wp9_checkPlain_140, wp9_checkPlain_159, wp9_checkPlain_164, wp9_checkPlain_179, wp9_checkPlain_221, wp9_checkPlain_247, wp9_checkPlain_263, wp9_checkPlain_268, true_implies, false_implies, true_and, and_true, not_true, not_false_iff]
  refine m_take (k := 3) h w h1 (by omega) fun M1 g1 => ?_
  refine m_take (k := 3) g1 (w_tk w 3) (by rw [(f_tk 3 _).1]; exact h1) (by omega) fun M2 g2 => ?_
  exact m_put (k := 1) g2 (w_tk (w_tk w 3) 3) kk
theorem m_pl75 {M0 : St} {s : SB} {M : St} {Q : St → Prop} (h : RS M0 s M) (w : WS s) (h1 : 1 ≤ qn s) (kk : ∀ M', RS M0 (ckPlain 75 s) M' → Q M') : wp9_checkPlain M (nI 75) Q := by
  simp (decide := true) only [wp9_checkPlain, wp9_checkPlain_23, wp9_checkPlain_54, wp9_checkPlain_77, wp9_checkPlain_125, wp9_checkPlain_140, wp9_checkPlain_159, wp9_checkPlain_164, wp9_checkPlain_179, wp9_checkPlain_221, wp9_checkPlain_247, wp9_checkPlain_263, wp9_checkPlain_268, true_implies, false_implies, true_and, and_true, not_true, not_false_iff]
  refine m_take (k := 3) h w h1 (by omega) fun M1 g1 => ?_
  refine m_take (k := 3) g1 (w_tk w 3) (by rw [(f_tk 3 _).1]; exact h1) (by omega) fun M2 g2 => ?_
  exact m_put (k := 1) g2 (w_tk (w_tk w 3) 3) kk
theorem m_pl76 {M0 : St} {s : SB} {M : St} {Q : St → Prop} (h : RS M0 s M) (w : WS s) (h1 : 1 ≤ qn s) (kk : ∀ M', RS M0 (ckPlain 76 s) M' → Q M') : wp9_checkPlain M (nI 76) Q := by
  simp (decide := true) only [wp9_checkPlain, wp9_checkPlain_23, wp9_checkPlain_54, wp9_checkPlain_77, wp9_checkPlain_125, wp9_checkPlain_140, wp9_checkPlain_159, wp9_checkPlain_164, wp9_checkPlain_179, wp9_checkPlain_221, wp9_checkPlain_247, wp9_checkPlain_263, wp9_checkPlain_268, true_implies, false_implies, true_and, and_true, not_true, not_false_iff]
  refine m_take (k := 3) h w h1 (by omega) fun M1 g1 => ?_
  exact m_put (k := 3) g1 (w_tk w 3) kk
theorem m_pl80 {M0 : St} {s : SB} {M : St} {Q : St → Prop} (h : RS M0 s M) (w : WS s) (h1 : 1 ≤ qn s) (kk : ∀ M', RS M0 (ckPlain 80 s) M' → Q M') : wp9_checkPlain M (nI 80) Q := by
  simp (decide := true) only [wp9_checkPlain, wp9_checkPlain_23, wp9_checkPlain_54, wp9_checkPlain_77, wp9_checkPlain_125, wp9_checkPlain_140, wp9_checkPlain_159, wp9_checkPlain_164, wp9_checkPlain_179, wp9_checkPlain_221, wp9_checkPlain_247, wp9_checkPlain_263, wp9_checkPlain_268, true_implies, false_implies, true_and, and_true, not_true, not_false_iff]
  refine m_take (k := 2) h w h1 (by omega) fun M1 g1 => ?_
  exact m_put (k := 1) g1 (w_tk w 2) kk
theorem m_pl81 {M0 : St} {s : SB} {M : St} {Q : St → Prop} (h : RS M0 s M) (w : WS s) (h1 : 1 ≤ qn s) (kk : ∀ M', RS M0 (ckPlain 81 s) M' → Q M') : wp9_checkPlain M (nI 81) Q := by
  simp (decide := true) only [wp9_checkPlain, wp9_checkPlain_23, wp9_checkPlain_54, wp9_checkPlain_77, wp9_checkPlain_125, wp9_checkPlain_140, wp9_checkPlain_159, wp9_checkPlain_164, wp9_checkPlain_179, wp9_checkPlain_221, wp9_checkPlain_247, wp9_checkPlain_263, wp9_checkPlain_268, true_implies, false_implies, true_and, and_true, not_true, not_false_iff]
  refine m_take (k := 1) h w h1 (by omega) fun M1 g1 => ?_
  exact m_put (k := 2) g1 (w_tk w 1) kk
theorem m_pl82 {M0 : St} {s : SB} {M : St} {Q : St → Prop} (h : RS M0 s M) (w : WS s) (h1 : 1 ≤ qn s) (kk : ∀ M', RS M0 (ckPlain 82 s) M' → Q M') : wp9_checkPlain M (nI 82) Q := by
  simp (decide := true) only [wp9_checkPlain, wp9_checkPlain_23, wp9_checkPlain_54, wp9_checkPlain_77, wp9_checkPlain_125, wp9_checkPlain_140, wp9_checkPlain_159, wp9_checkPlain_164, wp9_checkPlain_179, wp9_checkPlain_221, wp9_checkPlain_247, wp9_checkPlain_263, wp9_checkPlain_268, true_implies, false_implies, true_and, and_true, not_true, not_false_iff]
  refine m_take (k := 1) h w h1 (by omega) fun M1 g1 => ?_
  exact m_put (k := 3) g1 (w_tk w 1) kk
theorem m_pl83 {M0 : St} {s : SB} {M : St} {Q : St → Prop} (h : RS M0 s M) (w : WS s) (h1 : 1 ≤ qn s) (kk : ∀ M', RS M0 (ckPlain 83 s) M' → Q M') : wp9_checkPlain M (nI 83) Q := by
  simp (decide := true) only [wp9_checkPlain, wp9_checkPlain_23, wp9_checkPlain_54, wp9_checkPlain_77, wp9_checkPlain_125, wp9_checkPlain_140, wp9_checkPlain_159, wp9_checkPlain_164, wp9_checkPlain_179, wp9_checkPlain_221, wp9_checkPlain_247, wp9_checkPlain_263, wp9_checkPlain_268, true_implies, false_implies, true_and, and_true, not_true, not_false_iff]
  refine m_take (k := 3) h w h1 (by omega) fun M1 g1 => ?_
  exact m_put (k := 1) g1 (w_tk w 3) kk
theorem m_pl84 {M0 : St} {s : SB} {M : St} {Q : St → Prop} (h : RS M0 s M) (w : WS s) (h1 : 1 ≤ qn s) (kk : ∀ M', RS M0 (ckPlain 84 s) M' → Q M') : wp9_checkPlain M (nI 84) Q := by
  simp (decide := true) only [wp9_checkPlain, wp9_checkPlain_23, wp9_checkPlain_54, wp9_checkPlain_77, wp9_checkPlain_125, wp9_checkPlain_140, wp9_checkPlain_159, wp9_checkPlain_164, wp9_checkPlain_179, wp9_checkPlain_221, wp9_checkPlain_247, wp9_checkPlain_263, wp9_checkPlain_268, true_implies, false_implies, true_and, and_true, not_true, not_false_iff]
  refine m_take (k := 2) h w h1 (by omega) fun M1 g1 => ?_
  exact m_put (k := 3) g1 (w_tk w 2) kk
theorem m_pl85 {M0 : St} {s : SB} {M : St} {Q : St → Prop} (h : RS M0 s M) (w : WS s) (h1 : 1 ≤ qn s) (kk : ∀ M', RS M0 (ckPlain 85 s) M' → Q M') : wp9_checkPlain M (nI 85) Q := by
  simp (decide := true) only [wp9_checkPlain, wp9_checkPlain_23, wp9_checkPlain_54, wp9_checkPlain_77, wp9_checkPlain_125, wp9_checkPlain_140, wp9_checkPlain_159, wp9_checkPlain_164, wp9_checkPlain_179, wp9_checkPlain_221, wp9_checkPlain_247, wp9_checkPlain_263, wp9_checkPlain_268, true_implies, false_implies, true_and, and_true, not_true, not_false_iff]
  refine m_take (k := 1) h w h1 (by omega) fun M1 g1 => ?_
  exact m_put (k := 2) g1 (w_tk w 1) kk
theorem m_checkPlain {M0 : St} {s : SB} {M : St} {op : Nat} {Q : St → Prop} (h : RS M0 s M) (w : WS s) (h1 : 1 ≤ qn s) (ho : 20 ≤ op) (hk : known op) (kk : ∀ M', RS M0 (ckPlain op s) M' → Q M') : wp9_checkPlain M (nI op) Q := by
  have hc : op = 20 ∨ op = 21 ∨ op = 22 ∨ op = 23 ∨ op = 24 ∨ op = 25 ∨ op = 26 ∨ op = 27 ∨ op = 28 ∨ op = 30 ∨ op = 31 ∨ op = 32 ∨ op = 33 ∨ op = 34 ∨ op = 35 ∨ op = 36 ∨ op = 37 ∨ op = 38 ∨ op = 39 ∨ op = 40 ∨ op = 41 ∨ op = 42 ∨ op = 43 ∨ op = 44 ∨ op = 45 ∨ op = 50 ∨ op = 51 ∨ op = 52 ∨ op = 53 ∨ op = 54 ∨ op = 55 ∨ op = 56 ∨ op = 57 ∨ op = 58 ∨ op = 59 ∨ op = 60 ∨ op = 61 ∨ op = 62 ∨ op = 63 ∨ op = 64 ∨ op = 70 ∨ op = 71 ∨ op = 72 ∨ op = 73 ∨ op = 74 ∨ op = 75 ∨ op = 76 ∨ op = 80 ∨ op = 81 ∨ op = 82 ∨ op = 83 ∨ op = 84 ∨ op = 85 := by unfold known at hk; omega
  rcases hc with rfl | rfl | rfl | rfl | rfl | rfl | rfl | rfl | rfl | rfl | rfl | rfl | rfl | rfl | rfl | rfl | rfl | rfl | rfl | rfl | rfl | rfl | rfl | rfl | rfl | rfl | rfl | rfl | rfl | rfl | rfl | rfl | rfl | rfl | rfl | rfl | rfl | rfl | rfl | rfl | rfl | rfl | rfl | rfl | rfl | rfl | rfl | rfl | rfl | rfl | rfl | rfl | rfl
  · exact m_pl20 h w h1 kk
  · exact m_pl21 h w h1 kk
  · exact m_pl22 h w h1 kk
  · exact m_pl23 h w h1 kk
  · exact m_pl24 h w h1 kk
  · exact m_pl25 h w h1 kk
  · exact m_pl26 h w h1 kk
  · exact m_pl27 h w h1 kk
  · exact m_pl28 h w h1 kk
  · exact m_pl30 h w h1 kk
  · exact m_pl31 h w h1 kk
  · exact m_pl32 h w h1 kk
  · exact m_pl33 h w h1 kk
  · exact m_pl34 h w h1 kk
  · exact m_pl35 h w h1 kk
  · exact m_pl36 h w h1 kk
  · exact m_pl37 h w h1 kk
  · exact m_pl38 h w h1 kk
  · exact m_pl39 h w h1 kk
  · exact m_pl40 h w h1 kk
  · exact m_pl41 h w h1 kk
  · exact m_pl42 h w h1 kk
  · exact m_pl43 h w h1 kk
  · exact m_pl44 h w h1 kk
  · exact m_pl45 h w h1 kk
  · exact m_pl50 h w h1 kk
  · exact m_pl51 h w h1 kk
  · exact m_pl52 h w h1 kk
  · exact m_pl53 h w h1 kk
  · exact m_pl54 h w h1 kk
  · exact m_pl55 h w h1 kk
  · exact m_pl56 h w h1 kk
  · exact m_pl57 h w h1 kk
  · exact m_pl58 h w h1 kk
  · exact m_pl59 h w h1 kk
  · exact m_pl60 h w h1 kk
  · exact m_pl61 h w h1 kk
  · exact m_pl62 h w h1 kk
  · exact m_pl63 h w h1 kk
  · exact m_pl64 h w h1 kk
  · exact m_pl70 h w h1 kk
  · exact m_pl71 h w h1 kk
  · exact m_pl72 h w h1 kk
  · exact m_pl73 h w h1 kk
  · exact m_pl74 h w h1 kk
  · exact m_pl75 h w h1 kk
  · exact m_pl76 h w h1 kk
  · exact m_pl80 h w h1 kk
  · exact m_pl81 h w h1 kk
  · exact m_pl82 h w h1 kk
  · exact m_pl83 h w h1 kk
  · exact m_pl84 h w h1 kk
  · exact m_pl85 h w h1 kk
