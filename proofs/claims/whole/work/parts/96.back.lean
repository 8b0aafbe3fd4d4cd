/-! PURE: where an open frame began -/
theorem run_goes {P : Prog} {f : Nat} : ∀ (k m pc : Nat) (s : SB) (e : Nat) (u : SB), Run P f m pc s → Goes' P f k pc s e u → k ≤ m ∧ Run P f (m - k) e u := by
  intro k
  induction k with
  | zero =>
    intro m pc s e u h g
    obtain ⟨rfl, rfl⟩ := g
    exact ⟨Nat.zero_le _, h⟩
  | succ k ih =>
    intro m pc s e u h g
    cases m with
    | zero => have := h.2; have := g.1.2.1; omega
    | succ m =>
      have := ih m _ _ e u h.2 g.2
      refine ⟨by omega, ?_⟩
      rw [show m + 1 - (k + 1) = m - k by omega]
      exact this.2
theorem run_uniq {P : Prog} {f : Nat} : ∀ (m m' pc : Nat) (s : SB), Run P f m pc s → Run P f m' pc s → m = m' := by
  intro m
  induction m with
  | zero =>
    intro m' pc s h h'
    cases m' with
    | zero => rfl
    | succ m' => have := h'.1.1; have := h.1; omega
  | succ m ih =>
    intro m' pc s h h'
    cases m' with
    | zero => have := h.1.1; have := h'.1; omega
    | succ m' => rw [ih m' _ _ h.2 h'.2]
theorem goes_last {P : Prog} {f : Nat} : ∀ (k a : Nat) (x : SB) (pc : Nat) (s : SB), Goes' P f (k + 1) a x pc s → ∃ p0 s0, Goes' P f k a x p0 s0 ∧ OkI P f p0 s0 ∧ pc = p0 + szI P f p0 ∧ s = ckOne P f p0 s0 := by
  intro k
  induction k with
  | zero =>
    intro a x pc s h
    obtain ⟨ok, e1, e2⟩ := h
    exact ⟨a, x, ⟨rfl, rfl⟩, ok, e1.symm, e2.symm⟩
  | succ k ih =>
    intro a x pc s h
    obtain ⟨p0, s0, h1, h2, h3, h4⟩ := ih _ _ _ _ h.2
    exact ⟨p0, s0, ⟨h.1, h1⟩, h2, h3, h4⟩
theorem goes_wg {P : Prog} (hw : PW P) {f : Nat} (hf : f < 6) : ∀ (k a : Nat) (x : SB) (pc : Nat) (s : SB), Goes' P f k a x pc s → WG x → qb x = 0 → WG s ∧ qb s = 0 := by
  intro k
  induction k with
  | zero =>
    intro a x pc s h g hb
    obtain ⟨rfl, rfl⟩ := h
    exact ⟨g, hb⟩
  | succ k ih =>
    intro a x pc s h g hb
    exact ih _ _ _ _ h.2 (g_ckOne hw hf h.1.1 h.1.2.2.2.2.1 g h.1.2.1 hb) h.1.2.2.2.2.2
theorem back_go {P : Prog} (hw : PW P) {f : Nat} (hf : f < 6) : ∀ (k pc : Nat) (s : SB), Goes' P f k 0 (sIni P f) pc s → ∀ t, 1 ≤ t → t < qn s → ∃ k0 b sb r, k0 + 1 + r = k ∧ Goes' P f k0 0 (sIni P f) b sb ∧ OkI P f b sb ∧ 2 ≤ pC P f b ∧ pC P f b ≤ 4 ∧ qn sb = t ∧ Goes' P f r (b + szI P f b) (ckOne P f b sb) pc s ∧ Kp t (ckOne P f b sb) s ∧ ∀ m, endOf P f t (m + r) (b + szI P f b) (ckOne P f b sb) = endOf P f t m pc s := by
  intro k
  induction k with
  | zero =>
    intro pc s h t ht1 ht
    obtain ⟨rfl, rfl⟩ := h
    rw [(sIni_ok hw hf).2.2] at ht
    have ht : t < 1 := ht
    omega
  | succ k ih =>
    intro pc s h t ht1 ht
    obtain ⟨p0, s0, h0, ok, e1, e2⟩ := goes_last _ _ _ _ _ h
    have g0 := goes_wg hw hf _ _ _ _ _ h0 (sIni_ok hw hf).1 (sIni_ok hw hf).2.1
    have hN := N_one P f p0 s0
    rw [← e2] at hN
    by_cases z : t < qn s0
    · have ne : ¬ (pC P f p0 = 6 ∧ qn s0 = t + 1) := by
        intro y
        rw [if_neg (by omega), if_pos y.1] at hN
        omega
      obtain ⟨k0, b, sb, r, a1, a2, a3, a4, a5, a6, a7, a8, a9⟩ := ih p0 s0 h0 t ht1 z
      refine ⟨k0, b, sb, r + 1, by omega, a2, a3, a4, a5, a6, ?_, ?_, fun m => ?_⟩
      · rw [e1, e2]; exact goes_snoc _ _ _ _ _ a7 ok
      · rw [e2]; exact a8.tr (keep1 g0.1.1 z ne).2
      · have := a9 (m + 1)
        rw [show m + (r + 1) = m + 1 + r by omega, this]
        show (if pC P f p0 = 6 ∧ qn s0 = t + 1 then p0 else endOf P f t m (p0 + szI P f p0) (ckOne P f p0 s0)) = _
        rw [if_neg ne, e1, e2]
    · have hb : 2 ≤ pC P f p0 ∧ pC P f p0 ≤ 4 := by
        by_cases y : 2 ≤ pC P f p0 ∧ pC P f p0 ≤ 4
        · exact y
        · rw [if_neg y] at hN
          split at hN <;> omega
      rw [if_pos hb] at hN
      refine ⟨k, p0, s0, 0, by omega, h0, ok, hb.1, hb.2, by omega, ?_, ?_, fun m => ?_⟩
      · rw [e1, e2]; exact ⟨rfl, rfl⟩
      · rw [e2]; exact Kp.rf _ _
      · rw [e1, e2]; rfl
theorem bg_h (op k pc : Nat) (s : SB) : qh (bg op k pc s) = fb (qF (bg op k pc s) (qn s)) := by
  have key : ∀ x, qn x = qn s → qh (bg2 op k pc x) = fb (qF (bg2 op k pc x) (qn s)) := by
    intro x hx
    unfold bg2
    split
    · show qh x = fb (if qn s = qn x then (op, k, qh x, 0, 0, pc) else qF x (qn s))
      rw [if_pos hx.symm]; rfl
    · show qh x = fb (if qn s = qn x then (op, k, qh x, 0, 0, pc) else qF x (qn s))
      rw [if_pos hx.symm]; rfl
  unfold bg
  split
  · exact key _ (f_tk 1 s).1
  · exact key _ rfl
theorem ck_bg {P : Prog} {f p : Nat} {s : SB} (h1 : 2 ≤ pC P f p) (h2 : pC P f p ≤ 4) : ckOne P f p s = bg (pC P f p) (pC P f (p + 1)) p s := by
  unfold ckOne
  rw [if_neg (by omega), if_neg (by omega), if_pos h2]
/-- where an open frame began: the pass just behind its BLOCK, LOOP or IF -/
theorem Here.back {P : Prog} (hw : PW P) {f m pc t : Nat} {s : SB} (hf : f < 6) (hc : chk P f = none) (h : Here P f m pc s) (ht1 : 1 ≤ t) (ht : t < qn s) : ∃ mb u, Here P f mb (fg (qF s t) + 2) u ∧ qn u = t + 1 ∧ Kp t u s ∧ fd (qF u t) = 0 ∧ fe (qF u t) = 0 ∧ qh u = fb (qF u t) ∧ endOf P f t mb (fg (qF s t) + 2) u = endOf P f t m pc s ∧
    2 ≤ fo (qF s t) ∧ fo (qF s t) ≤ 4 ∧ pC P f (fg (qF s t)) = fo (qF s t) ∧ pC P f (fg (qF s t) + 1) = fk (qF s t) ∧ fg (qF s t) + 2 ≤ pL P f := by
  obtain ⟨k, hk⟩ := h.2.2.2.2.2.2.2
  obtain ⟨k0, b, sb, r, a1, a2, a3, a4, a5, a6, a7, a8, a9⟩ := back_go hw hf k pc s hk t ht1 ht
  have esz : szI P f b = 2 := by unfold szI; rw [if_neg (by omega), if_pos (by omega)]
  obtain ⟨m0, h0⟩ := Here.ini hw hf hc
  have hgo := goes_snoc _ _ _ _ _ a2 a3
  have hle := run_goes _ _ _ _ _ _ h0.1 hgo
  have hu := h0.go hw hf (k0 + 1) m0 0 _ _ _ hle.1 hgo
  obtain ⟨fbx, e1, e2⟩ := fr_bg (pC P f b) (pC P f (b + 1)) b sb
  have ec := ck_bg (s := sb) a4 a5
  rw [← ec] at e1 e2
  have ef : qF (ckOne P f b sb) t = (pC P f b, pC P f (b + 1), fbx, 0, 0, b) := by
    rw [e2, ← a6]
    exact if_pos rfl
  obtain ⟨c1, c2, c3⟩ := a8
  rw [ef] at c2
  have cg : fg (qF s t) = b := c2.2.2.2
  have co : fo (qF s t) = pC P f b := c2.1
  have ck : fk (qF s t) = pC P f (b + 1) := c2.2.1
  have hb5 := a3.2.2.2.2.1
  rw [esz] at hu a9 hb5 a7
  rw [cg, co, ck]
  refine ⟨m0 - (k0 + 1), ckOne P f b sb, hu, by rw [e1, a6], ⟨c1, by rw [ef]; exact c2, by rw [ef] at c3 ⊢; exact c3⟩, by rw [ef]; rfl, by rw [ef]; rfl, ?_, ?_, a4, a5, rfl, rfl, hb5⟩
  · have := bg_h (pC P f b) (pC P f (b + 1)) b sb
    rw [← ec, a6] at this
    exact this
  · have h9 := run_goes _ _ _ _ _ _ hu.1 a7
    have := run_uniq _ _ _ _ h9.2 h.1
    have e : m0 - (k0 + 1) = m + r := by omega
    rw [e]
    exact a9 m
