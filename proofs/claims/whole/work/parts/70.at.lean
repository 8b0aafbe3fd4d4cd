theorem ends {P : Prog} (hw : PW P) {f : Nat} (hf : f < 6) {t : Nat} : ∀ (m pc : Nat) (s : SB), Run P f m pc s → WG s → qb s = 0 → t < qn s → ∃ k u, k < m ∧ Goes' P f k pc s (endOf P f t m pc s) u ∧ pC P f (endOf P f t m pc s) = 6 ∧ qn u = t + 1 ∧ Kp t s u ∧ WG u ∧ qb u = 0 ∧ Run P f (m - k) (endOf P f t m pc s) u ∧ pc ≤ endOf P f t m pc s := by
  intro m
  induction m with
  | zero => intro pc s h g hb ht; have := h.2; omega
  | succ m ih =>
    intro pc s h g hb ht
    unfold endOf
    by_cases z : pC P f pc = 6 ∧ qn s = t + 1
    · rw [if_pos z]
      exact ⟨0, s, by omega, ⟨rfl, rfl⟩, z.1, z.2, Kp.rf t s, g, hb, h, Nat.le_refl _⟩
    · rw [if_neg z]
      obtain ⟨ok, hr⟩ := h
      have k1 := keep1 (P := P) (f := f) (pc := pc) g.1 ht z
      have g1 := g_ckOne hw hf ok.1 ok.2.2.2.2.1 g ok.2.1 hb
      obtain ⟨k, u, h1, h2, h3, h4, h5, h7, h8, h9, h10⟩ := ih _ _ hr g1 ok.2.2.2.2.2 k1.1
      refine ⟨k + 1, u, by omega, ⟨ok, h2⟩, h3, h4, k1.2.tr h5, h7, h8, ?_, by omega⟩
      have : m + 1 - (k + 1) = m - k := by omega
      rw [this]; exact h9
/-- a frame that has had its ELSE gets none again -/
theorem no_else {P : Prog} (hw : PW P) {f : Nat} (hf : f < 6) {t : Nat} {m pc : Nat} {s : SB} (h : Run P f m pc s) (g : WG s) (hb : qb s = 0) (ht : t < qn s) (he : ¬ (fo (qF s t) = 4 ∧ fe (qF s t) = 0)) : pC P f (stopOf P f t m pc s) = 6 := by
  obtain ⟨k, u, h1, h2, h3, h4, h5, h6, h7, h8, h9, -⟩ := stops hw hf m pc s h g hb ht
  rcases h3 with h3 | h3
  · exfalso
    have hk : m - k = (m - k - 1) + 1 := by omega
    rw [hk] at h9
    have := after_else (t := t) h3 h4 h9.1.2.2.2.2.2
    rw [h5.2.1.1, h6] at this
    exact he ⟨this.2.1, this.2.2.1⟩
  · exact h3
/-- the part up to an ELSE, and then to the END: the ELSE's note, the END's place -/
theorem note_else2 {P : Prog} (hw : PW P) {f t b : Nat} (hf : f < 6) : ∀ (m pc : Nat) (s : SB) (N : Nt), Run P f m pc s → WG s → qb s = 0 → t < qn s → Own t b pc s → pC P f (stopOf P f t m pc s) = 5 → (nts P f m pc s N).1 b = nI (stopOf P f t m pc s + 1) := by
  intro m
  induction m with
  | zero => intro pc s N h g hb ht; have := h.2; omega
  | succ m ih =>
    intro pc s N h g hb ht ho hs
    obtain ⟨ok, hr⟩ := h
    have h1 := ok.2.1
    have hz := szI_pos P f pc
    unfold nts
    unfold stopOf at hs ⊢
    by_cases z : (pC P f pc = 5 ∨ pC P f pc = 6) ∧ qn s = t + 1
    · rw [if_pos z] at hs ⊢
      have z6 : ¬ (pC P f pc = 6 ∧ qn s = t + 1) := fun y => by omega
      have k1 := keep1 (P := P) (f := f) (pc := pc) g.1 ht z6
      have g1 := g_ckOne hw hf ok.1 ok.2.2.2.2.1 g ok.2.1 hb
      have ae := after_else (t := t) hs z.2 ok.2.2.2.2.2
      have hno := no_else hw hf hr g1 ok.2.2.2.2.2 k1.1 (fun y => by rw [ae.2.2.2.1] at y; omega)
      have := note_else1 hw hf m _ _ (ckN P f pc s N) hr g1 ok.2.2.2.2.2 k1.1 (ho.one h1 ht k1.1) (fun e he => by rw [← he]; exact hno)
      rw [this.1]
      have et : fg (sTop s) = b := by
        unfold sTop
        rw [z.2, Nat.add_sub_cancel]; exact ho.2.1
      have e : ckN P f pc s N = (fup N.1 (fg (sTop s)) (nI (pc + 1)), N.2) := by unfold ckN; rw [if_neg (by omega), if_pos hs]
      rw [e, et]
      show (if b = b then nI (pc + 1) else N.1 b) = _
      rw [if_pos rfl]
    · rw [if_neg z] at hs ⊢
      have z6 : ¬ (pC P f pc = 6 ∧ qn s = t + 1) := fun y => z ⟨Or.inr y.1, y.2⟩
      have k1 := keep1 (P := P) (f := f) (pc := pc) g.1 ht z6
      have g1 := g_ckOne hw hf ok.1 ok.2.2.2.2.1 g ok.2.1 hb
      exact ih _ _ _ hr g1 ok.2.2.2.2.2 k1.1 (ho.one h1 ht k1.1) hs
/-- the begins of the frames that are open, in order -/
def BI (pc : Nat) (s : SB) : Prop := fg (qF s 0) = 60 ∧ (∀ i, 1 ≤ i → i < qn s → fg (qF s i) < pc) ∧ ∀ i j, 1 ≤ i → i < j → j < qn s → fg (qF s i) < fg (qF s j)
theorem BI_one {P : Prog} {f pc : Nat} {s : SB} (h : BI pc s) (h1 : 1 ≤ qn s) : BI (pc + szI P f pc) (ckOne P f pc s) := by
  have hz := szI_pos P f pc
  have hN := N_one P f pc s
  obtain ⟨h0, h2, h3⟩ := h
  refine ⟨?_, fun i hi hq => ?_, fun i j hi hij hj => ?_⟩
  · by_cases z : 0 < qn s - 1
    · rw [F_one z]; exact h0
    · have : 0 = qn s - 1 := by omega
      rw [this, (T_one h1).2.2.2]
      unfold sTop; rw [← this]; exact h0
  · rcases G_one h1 hq with ⟨z1, z2⟩ | ⟨z1, z2⟩
    · rw [z2]; have := h2 i hi z1; omega
    · rw [z2]; omega
  · rcases G_one h1 hj with ⟨z1, z2⟩ | ⟨z1, z2⟩
    · rcases G_one (P := P) (f := f) (pc := pc) h1 (show i < qn (ckOne P f pc s) by omega) with ⟨y1, y2⟩ | ⟨y1, y2⟩
      · rw [z2, y2]; exact h3 i j hi hij z1
      · omega
    · rcases G_one (P := P) (f := f) (pc := pc) h1 (show i < qn (ckOne P f pc s) by omega) with ⟨y1, y2⟩ | ⟨y1, y2⟩
      · rw [z2, y2]; exact h2 i hi y1
      · omega
theorem BI.own {pc t : Nat} {s : SB} (h : BI pc s) (hpc : pc ≤ 60) (ht : 1 ≤ t) (hq : t < qn s) : Own t (fg (qF s t)) pc s := by
  refine ⟨h.2.1 t ht hq, rfl, fun i hi hne => ?_⟩
  have hb := h.2.1 t ht hq
  by_cases z : i = 0
  · rw [z, h.1]; omega
  · by_cases y : i < t
    · have := h.2.2 i t (by omega) y hq
      omega
    · have := h.2.2 t i ht (by omega) hi
      omega
theorem BI_ini {P : Prog} (hw : PW P) {f : Nat} (hf : f < 6) : BI 0 (sIni P f) := by
  rw [(sIni_ok hw hf).2.2]
  refine ⟨rfl, fun i hi hq => ?_, fun i j hi hij hj => ?_⟩
  · have : i < 1 := hq
    omega
  · have : j < 1 := hj
    omega
/-- THE PASS IS HERE: with m instructions left to the end, from the beginning in k -/
def Here (P : Prog) (f m pc : Nat) (s : SB) : Prop := Run P f m pc s ∧ WG s ∧ qb s = 0 ∧ FI P f s ∧ BI pc s ∧ pc ≤ pL P f ∧ (∀ N, ∃ N', nts P f m pc s N' = goN P f 61 0 (sIni P f) N) ∧ ∃ k, Goes' P f k 0 (sIni P f) pc s
theorem goes_snoc {P : Prog} {f : Nat} : ∀ (k a : Nat) (x : SB) (pc : Nat) (s : SB), Goes' P f k a x pc s → OkI P f pc s → Goes' P f (k + 1) a x (pc + szI P f pc) (ckOne P f pc s) := by
  intro k
  induction k with
  | zero =>
    intro a x pc s h ok
    obtain ⟨rfl, rfl⟩ := h
    exact ⟨ok, rfl, rfl⟩
  | succ k ih =>
    intro a x pc s h ok
    exact ⟨h.1, ih _ _ _ _ h.2 ok⟩
theorem Here.ini {P : Prog} (hw : PW P) {f : Nat} (hf : f < 6) (h : chk P f = none) : ∃ m, Here P f m 0 (sIni P f) := by
  obtain ⟨m, hm, hr⟩ := run_of_go 61 0 (sIni P f) h
  obtain ⟨g1, g2, -⟩ := sIni_ok hw hf
  exact ⟨m, hr, g1, g2, FI_ini hw hf, BI_ini hw hf, by omega, fun N => ⟨N, (goN_nts m 61 0 _ N hr hm).symm⟩, 0, rfl, rfl⟩
theorem Here.one {P : Prog} (hw : PW P) {f m pc : Nat} (hf : f < 6) {s : SB} (h : Here P f (m + 1) pc s) : Here P f m (pc + szI P f pc) (ckOne P f pc s) := by
  obtain ⟨⟨ok, hr⟩, g, hb, hfi, hbi, hp, hN, kp, hkp⟩ := h
  have hl := (hw f hf).2.2.2.2.1
  refine ⟨hr, g_ckOne hw hf ok.1 ok.2.2.2.2.1 g ok.2.1 hb, ok.2.2.2.2.2, (FI_one hfi ok.2.1 (by omega)).1, BI_one hbi ok.2.1, ok.2.2.2.2.1, fun N => ?_, kp + 1, goes_snoc _ _ _ _ _ hkp ok⟩
  obtain ⟨N', hN'⟩ := hN N
  exact ⟨ckN P f pc s N', hN'⟩
theorem Here.go {P : Prog} (hw : PW P) {f : Nat} (hf : f < 6) : ∀ (k m pc : Nat) (s : SB) (e : Nat) (u : SB), k ≤ m → Here P f m pc s → Goes' P f k pc s e u → Here P f (m - k) e u := by
  intro k
  induction k with
  | zero =>
    intro m pc s e u hk h hg
    obtain ⟨rfl, rfl⟩ := hg
    exact h
  | succ k ih =>
    intro m pc s e u hk h hg
    cases m with
    | zero => omega
    | succ m =>
      have := ih m _ _ e u (by omega) (h.one hw hf) hg.2
      have e2 : m + 1 - (k + 1) = m - k := by omega
      rw [e2]; exact this
