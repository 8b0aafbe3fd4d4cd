/-! PURE: the checker's jumps, calls, values -/
def PC (P : Prog) (C : St) : Prop := ∀ f, f < 6 → gI C 1404 f = nI (pN P f) ∧ gI C 1405 f = nI (pV P f) ∧ gI C 1406 f = nI (pR P f) ∧ gI C 1407 f = nI (pL P f) ∧ (∀ v, v < pV P f → gA C 1400 f v = nI (pK P f v)) ∧ ∀ i, i < pL P f → gA C 1401 f i = nI (pC P f i)
theorem PC.ag {P : Prog} {p : Nat → Prop} {M M' : St} (h : PC P M) (a : Ag p M M') (hp : ∀ k, k = 1400 ∨ k = 1401 ∨ (1404 ≤ k ∧ k ≤ 1407) → ¬ p k) : PC P M' := by
  intro f hf
  obtain ⟨h1, h2, h3, h4, h5, h6⟩ := h f hf
  refine ⟨?_, ?_, ?_, ?_, fun v hv => ?_, fun i hi => ?_⟩
  · rw [a.gI (hp 1404 (by omega))]; exact h1
  · rw [a.gI (hp 1405 (by omega))]; exact h2
  · rw [a.gI (hp 1406 (by omega))]; exact h3
  · rw [a.gI (hp 1407 (by omega))]; exact h4
  · rw [a.gA (hp 1400 (by omega))]; exact h5 v hv
  · rw [a.gA (hp 1401 (by omega))]; exact h6 i hi
theorem PC.agC {P : Prog} {f : Nat} {C0 C : St} (h : PC P C0) (a : AgC f C0 C) : PC P C := h.ag a.1 (fun k z y => by unfold kC at y; omega)
def bt (P : Prog) (f i : Nat) : Nat := if i < pL P f then pC P f i else 0
theorem bt_lt {P : Prog} (hw : PW P) {f : Nat} (hf : f < 6) (i : Nat) : bt P f i < 256 := by
  unfold bt; split
  · exact (hw f hf).2.2.2.2.2.2 i (by assumption)
  · omega
theorem c_byteAt {P : Prog} {C : St} {f i : Nat} {Q : Int32 → St → Prop} (hP : PC P C) (hw : PW P) (hf : f < 6) (hi : i < 2 ^ 31) (kk : Q (nI (bt P f i)) C) : wp4_byteAt C f (nI i) Q := by
  have hl := (hw f hf).2.2.2.2.1
  unfold wp4_byteAt
  unfold bt at kk
  rw [(hP f hf).2.2.2.1]
  refine ⟨fun c => absurd c (nI_pos hi), fun _ => ⟨fun c => ?_, fun c => ?_⟩⟩
  · have c := (nI_leI (by omega) hi).mp c
    rw [if_neg (by omega)] at kk
    exact kk
  · have c : ¬ pL P f ≤ i := fun z => c ((nI_leI (by omega) hi).mpr z)
    rw [if_pos (by omega)] at kk
    rw [nI_clamp hi, (hP f hf).2.2.2.2.2 i (by omega)]
    exact ⟨vp_in_nI (by omega) (by omega), kk⟩
theorem nI_subneg {a b : Nat} (h : a < b) (hb : b < 2 ^ 31) : nI a - nI b < 0 := by
  rw [Int32.lt_iff_toInt_lt, Int32.toInt_sub, nI_toInt (by omega), nI_toInt hb, show (0 : Int32).toInt = 0 from rfl, Int.bmod_eq_of_le (by omega) (by omega)]
  omega
theorem vp_in_cmp {x : Int32} {n : Nat} (hn : n < 2 ^ 31) (h0 : ¬ x < 0) (h1 : x < nI n) : vp_in x n := by
  intro z
  rcases z with z | z
  · exact h0 z
  · obtain ⟨j, hj, e⟩ := nI_of h0
    subst e
    rw [nI_clamp hj] at z
    have := (nI_ltI hj hn).mp h1
    omega
theorem b_lbl {d : Nat} {s : SB} (h : qb (lbl d s).2 = 0) : qb s = 0 ∧ d < qn s := by
  unfold lbl at h
  split at h
  · rename_i c; exact ⟨h, c⟩
  · exact absurd h e_bad
theorem cb_kind {C0 : St} {f : Nat} {C : St} {x : Int32} {Q : Int32 → St → Prop} (h : RTb C0 f C) (kk : ∀ r C', RTb C0 f C' → Q r C') : wp2_kindOfJump C x Q := by
  unfold wp2_kindOfJump
  intro x2 _
  refine ⟨fun _ S1 e => by subst e; exact kk _ _ (c_bad' h), fun c => ⟨fun c2 => ⟨vp_in_cmp (n := 8) (by omega) c c2, ?_⟩, fun _ S3 e => by subst e; exact kk _ _ (c_bad' h)⟩⟩
  unfold wp3_kindOfJump
  exact ⟨fun _ => kk _ _ h, fun _ => kk _ _ h⟩
theorem c_kind {C0 : St} {f : Nat} {s : SB} {N : Nt} {C : St} {d : Nat} {x : Int32} {Q : Int32 → St → Prop} (h : RT C0 f s N C) (g : WG s) (h1 : 1 ≤ qn s) (hx : qb s = 0 → x = nI d) (hd : d < 256) (kk : ∀ r C', (qb (lbl d s).2 = 0 → r = nI (lbl d s).1) → RT C0 f (lbl d s).2 N C' → Q r C') : wp2_kindOfJump C x Q := by
  by_cases hb : qb s = 0
  · have hx := hx hb
    subst hx
    obtain ⟨a1, a2, a3, a4, a5, a6, a7, a8, a9, a10⟩ := h.g hb
    have hn := (g.2 hb).1
    unfold wp2_kindOfJump
    intro x2 e
    rw [a6, nI_dec h1] at e
    subst e
    by_cases hd2 : d < qn s
    · have e1 : lbl d s = ((if fo (qF s (qn s - 1 - d)) = 3 then 0 else fk (qF s (qn s - 1 - d))), s) := if_pos hd2
      rw [e1] at kk
      rw [nI_sub (by omega), nI_clamp (by omega)]
      have ff := a9 (qn s - 1 - d) (by omega)
      have w5 := g.1.2.2.2.2.1 (qn s - 1 - d) (by omega)
      refine ⟨fun c => absurd c (nI_pos (by omega)), fun _ => ⟨fun _ => ⟨vp_in_nI (by omega) (by omega), ?_⟩, fun c => absurd ((nI_ltI (b := 8) (by omega) (by omega)).mpr (by omega)) c⟩⟩
      unfold wp3_kindOfJump
      rw [ff.2.1, ff.2.2.2.1]
      have hopn : opn (fo (qF s (qn s - 1 - d))) < 256 ∧ (opn (fo (qF s (qn s - 1 - d))) = 3 ↔ fo (qF s (qn s - 1 - d)) = 3) := by
        unfold opn
        split
        · omega
        · exact ⟨w5.1, Iff.rfl⟩
      refine ⟨fun c => kk _ _ (fun _ => ?_) h, fun c => kk _ _ (fun _ => ?_) h⟩
      · have c' : ¬ fo (qF s (qn s - 1 - d)) = 3 := fun z => nN (b := 3) c (hopn.2.mpr z)
        show _ = nI (if _ then _ else _)
        rw [if_neg c']
      · have c' := hopn.2.mp (nE (b := 3) (by omega) (by omega) c)
        show _ = nI (if _ then _ else _)
        rw [if_pos c']; rfl
    · have e1 : lbl d s = (0, sBad s) := if_neg hd2
      rw [e1] at kk
      have hneg := nI_subneg (a := qn s - 1) (b := d) (by omega) (by omega)
      refine ⟨fun _ S1 e => ?_, fun c => absurd hneg c⟩
      subst e
      exact kk _ _ (fun z => absurd z e_bad) (RTb.t (c_bad ⟨a1, a2, a3⟩) e_bad)
  · exact cb_kind (h.b hb) fun r C' h' => kk r C' (fun z => absurd (b_lbl z).1 hb) (RTb.t h' (fun z => hb (b_lbl z).1))
theorem c_takeX {C0 : St} {f : Nat} {s : SB} {N : Nt} {C : St} {k : Nat} {x : Int32} {Q : Int32 → St → Prop} (h : RT C0 f s N C) (g : WG s) (h1 : 1 ≤ qn s) (hx : qb s = 0 → x = nI k) (hk : k < 256) (hk4 : qb s = 0 → ¬ k = 4) (kk : ∀ r C', RT C0 f (tkIf k s) N C' → Q r C') : wp2_take C x Q := by
  by_cases hb : qb s = 0
  · rw [hx hb]
    exact c_take h g h1 hk (hk4 hb) kk
  · exact cb_take (h.b hb) fun r C' h' => kk r C' (RTb.t h' (fun z => hb (b_tkIf k s z)))
theorem lbls_0 (c : Nat → Nat) (m : Nat) (s : SB) : lbls c (lbl (c 0) s).1 (m + 1) 0 (lbl (c 0) s).2 = lbls c (lbl (c 0) s).1 m 1 (lbl (c 0) s).2 := by
  have e : (if (lbl (c 0) (lbl (c 0) s).2).1 = (lbl (c 0) s).1 then (lbl (c 0) (lbl (c 0) s).2).2 else sBad (lbl (c 0) (lbl (c 0) s).2).2) = (lbl (c 0) s).2 := by
    by_cases z : c 0 < qn s
    · have e1 : lbl (c 0) s = ((if fo (qF s (qn s - 1 - c 0)) = 3 then 0 else fk (qF s (qn s - 1 - c 0))), s) := if_pos z
      rw [e1]
      show (if (lbl (c 0) s).1 = _ then (lbl (c 0) s).2 else sBad (lbl (c 0) s).2) = s
      rw [e1, if_pos rfl]
    · have e1 : lbl (c 0) s = (0, sBad s) := if_neg z
      rw [e1]
      show (if (lbl (c 0) (sBad s)).1 = 0 then (lbl (c 0) (sBad s)).2 else sBad (lbl (c 0) (sBad s)).2) = sBad s
      have e2 : lbl (c 0) (sBad s) = (0, sBad (sBad s)) := if_neg z
      rw [e2, if_pos rfl]; rfl
  show lbls c _ m (0 + 1) (if (lbl (c 0) (lbl (c 0) s).2).1 = (lbl (c 0) s).1 then (lbl (c 0) (lbl (c 0) s).2).2 else sBad (lbl (c 0) (lbl (c 0) s).2).2) = _
  rw [e]
theorem b_lbls (c : Nat → Nat) (k : Nat) : ∀ (m i : Nat) (s : SB), qb (lbls c k m i s) = 0 → qb s = 0 := by
  intro m
  induction m with
  | zero => intro i s h; exact h
  | succ m ih =>
    intro i s h
    have := ih (i + 1) _ h
    split at this
    · exact (b_lbl this).1
    · exact absurd this e_bad
theorem c_kinds {P : Prog} {C0 : St} {f : Nat} {N : Nt} {a n k : Nat} {x3 : Int32} {Q : Int32 → St → Prop} (hP : PC P C0) (hw : PW P) (hf : f < 6) (hn : n < 300) (ha : a + n < pL P f) (hk : k < 256) : ∀ (m i : Nat) (s : SB) (C : St), RT C0 f s N C → WG s → 1 ≤ qn s → (qb s = 0 → x3 = nI k) → m + i = n + 1 → (∀ C', RT C0 f (lbls (fun j => pC P f (a + j)) k m i s) N C' → Q x3 C') → wp2_kindOfJumps_16 (nI a) (nI (n + 1)) Q (m + 1) x3 (nI i) C := by
  have hl := (hw f hf).2.2.2.2.1
  intro m
  induction m with
  | zero =>
    intro i s C h g h1 hx hm kk
    unfold wp2_kindOfJumps_16
    exact ⟨fun _ => kk C h, fun c => absurd ((nI_leI (by omega) (by omega)).mpr (by omega)) c⟩
  | succ m ih =>
    intro i s C h g h1 hx hm kk
    unfold wp2_kindOfJumps_16
    refine ⟨fun c => absurd ((nI_leI (by omega) (by omega)).mp c) (by omega), fun _ => ⟨by rw [h.c.2.1]; exact hf, ?_⟩⟩
    rw [h.c.2.1, nI_add]
    refine c_byteAt (hP.agC h.c.1) hw hf (by omega) ?_
    have hc : bt P f (a + i) = pC P f (a + i) := if_pos (by omega)
    rw [hc]
    have hc2 := (hw f hf).2.2.2.2.2.2 (a + i) (by omega)
    refine c_kind (d := pC P f (a + i)) h g h1 (fun _ => rfl) hc2 fun r C1 hr h1' => ?_
    have gl := g_lbl g (pC P f (a + i))
    have wl := w_lbl g.1 (pC P f (a + i))
    have fl := f_lbl (pC P f (a + i)) s
    unfold wp2_kindOfJumps_46
    refine ⟨fun c => ?_, fun c => ?_⟩
    · intro x4 e; subst e
      rw [nI_1]
      by_cases hbl : qb (lbl (pC P f (a + i)) s).2 = 0
      · have e2 : (lbl (pC P f (a + i)) s).1 = k := by
          have h3 := hr hbl
          rw [c, hx (b_lbl hbl).1] at h3
          exact (nE (by omega) (by omega) h3).symm
        refine ih (i + 1) _ C1 h1' gl.1 (by rw [fl.1]; exact h1) (fun _ => hx (b_lbl hbl).1) (by omega) fun C' h' => kk C' ?_
        unfold lbls
        rw [if_pos e2]
        exact h'
      · -- bad already
        by_cases e2 : (lbl (pC P f (a + i)) s).1 = k
        · refine ih (i + 1) _ C1 h1' gl.1 (by rw [fl.1]; exact h1) (fun z => absurd z hbl) (by omega) fun C' h' => kk C' ?_
          unfold lbls
          rw [if_pos e2]
          exact h'
        · refine ih (i + 1) (sBad _) C1 (RTb.t (h1'.b hbl) e_bad) (g_bad gl.1.1) (by show 1 ≤ qn (lbl _ s).2; rw [fl.1]; exact h1) (fun z => absurd z e_bad) (by omega) fun C' h' => kk C' ?_
          unfold lbls
          rw [if_neg e2]
          exact h'
    · intro S3 e; subst e
      intro x4 e; subst e
      rw [nI_1]
      have hB : RTb C0 f (sI C1 1207 0 1) := c_bad h1'.c
      by_cases e2 : (lbl (pC P f (a + i)) s).1 = k
      · have hbl : ¬ qb (lbl (pC P f (a + i)) s).2 = 0 := by
          intro z
          refine c ?_
          rw [hr z, e2, hx (b_lbl z).1]
        refine ih (i + 1) _ _ (RTb.t hB hbl) gl.1 (by rw [fl.1]; exact h1) (fun z => absurd z hbl) (by omega) fun C' h' => kk C' ?_
        unfold lbls
        rw [if_pos e2]
        exact h'
      · refine ih (i + 1) (sBad _) _ (RTb.t hB e_bad) (g_bad gl.1.1) (by show 1 ≤ qn (lbl _ s).2; rw [fl.1]; exact h1) (fun z => absurd z e_bad) (by omega) fun C' h' => kk C' ?_
        unfold lbls
        rw [if_neg e2]
        exact h'
