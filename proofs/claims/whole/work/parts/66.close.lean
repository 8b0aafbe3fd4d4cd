/-! PURE: a pass to its end; every frame is closed -/
def OkI (P : Prog) (f pc : Nat) (s : SB) : Prop := pc < pL P f ∧ 1 ≤ qn s ∧ known (pC P f pc) ∧ ¬ (pC P f pc = 9 ∧ pc + 1 < pL P f ∧ 3 < pC P f (pc + 1)) ∧ pc + szI P f pc ≤ pL P f ∧ qb (ckOne P f pc s) = 0
/-- m instructions to the end -/
def Run (P : Prog) (f : Nat) : Nat → Nat → SB → Prop
  | 0, pc, s => pL P f ≤ pc ∧ qn s = 0
  | m + 1, pc, s => OkI P f pc s ∧ Run P f m (pc + szI P f pc) (ckOne P f pc s)
/-- k instructions from (pc, s) to (e, u) -/
def Goes' (P : Prog) (f : Nat) : Nat → Nat → SB → Nat → SB → Prop
  | 0, pc, s, e, u => pc = e ∧ s = u
  | k + 1, pc, s, e, u => OkI P f pc s ∧ Goes' P f k (pc + szI P f pc) (ckOne P f pc s) e u
theorem run_of_go {P : Prog} {f : Nat} : ∀ (n pc : Nat) (s : SB), go P f n pc s = none → ∃ m, m < n ∧ Run P f m pc s := by
  intro n
  induction n with
  | zero => intro pc s h; cases h
  | succ n ih =>
    intro pc s h
    unfold go at h
    by_cases c1 : pL P f ≤ pc
    · rw [if_pos c1] at h
      by_cases c2 : qn s = 0
      · exact ⟨0, by omega, c1, c2⟩
      · rw [if_neg c2] at h; cases h
    · rw [if_neg c1] at h
      by_cases c2 : qn s = 0 ∨ ¬ known (pC P f pc) ∨ (pC P f pc = 9 ∧ pc + 1 < pL P f ∧ 3 < pC P f (pc + 1))
      · rw [if_pos c2] at h; cases h
      · rw [if_neg c2] at h
        by_cases c3 : pL P f < pc + szI P f pc
        · rw [if_pos c3] at h; cases h
        · rw [if_neg c3] at h
          by_cases c4 : qb (ckOne P f pc s) = 0
          · rw [if_pos c4] at h
            obtain ⟨m, hm, hr⟩ := ih _ _ h
            refine ⟨m + 1, by omega, ⟨by omega, ?_, ?_, ?_, by omega, c4⟩, hr⟩
            · exact Nat.pos_of_ne_zero fun z => c2 (Or.inl z)
            · exact Decidable.byContradiction fun z => c2 (Or.inr (Or.inl z))
            · exact fun z => c2 (Or.inr (Or.inr z))
          · rw [if_neg c4] at h; cases h
/-- what stays of frame t and what lies below it -/
def Kp (t : Nat) (s u : SB) : Prop := (∀ i, i < t → qF u i = qF s i) ∧ (fo (qF u t) = fo (qF s t) ∧ fk (qF u t) = fk (qF s t) ∧ fb (qF u t) = fb (qF s t) ∧ fg (qF u t) = fg (qF s t)) ∧ ∀ i, i < fb (qF s t) → qK u i = qK s i
theorem Kp.rf (t : Nat) (s : SB) : Kp t s s := ⟨fun _ _ => rfl, ⟨rfl, rfl, rfl, rfl⟩, fun _ _ => rfl⟩
theorem Kp.tr {t : Nat} {s u v : SB} (h : Kp t s u) (h' : Kp t u v) : Kp t s v :=
  ⟨fun i hi => (h'.1 i hi).trans (h.1 i hi), ⟨h'.2.1.1.trans h.2.1.1, h'.2.1.2.1.trans h.2.1.2.1, h'.2.1.2.2.1.trans h.2.1.2.2.1, h'.2.1.2.2.2.trans h.2.1.2.2.2⟩, fun i hi => (h'.2.2 i (by rw [h.2.1.2.2.1]; exact hi)).trans (h.2.2 i hi)⟩
/-- the top frame's own fields but dead and else -/
theorem T_one {P : Prog} {f pc : Nat} {s : SB} (h1 : 1 ≤ qn s) : fo (qF (ckOne P f pc s) (qn s - 1)) = fo (sTop s) ∧ fk (qF (ckOne P f pc s) (qn s - 1)) = fk (sTop s) ∧ fb (qF (ckOne P f pc s) (qn s - 1)) = fb (sTop s) ∧ fg (qF (ckOne P f pc s) (qn s - 1)) = fg (sTop s) := by
  unfold sTop
  unfold ckOne
  split
  · have := k_die s (qn s - 1)
    exact ⟨this.2.2.1, this.1, this.2.1, this.2.2.2⟩
  · split
    · exact ⟨rfl, rfl, rfl, rfl⟩
    · split
      · obtain ⟨b, e1, e2⟩ := fr_bg (pC P f pc) (pC P f (pc + 1)) pc s
        rw [e2]
        have : fup (qF s) (qn s) (pC P f pc, pC P f (pc + 1), b, 0, 0, pc) (qn s - 1) = qF s (qn s - 1) := if_neg (by omega)
        rw [this]; exact ⟨rfl, rfl, rfl, rfl⟩
      · split
        · have := (fr_cl (pC P f pc) s).2.2 (qn s - 1)
          exact ⟨this.2.2.1, this.1, this.2.1, this.2.2.2⟩
        · split
          · obtain ⟨t, e1, e2, e3, e4⟩ := fr_jump P f pc (pC P f pc) s
            have := e4 (qn s - 1)
            rw [e2] at this
            exact ⟨this.2.2.1, this.1, this.2.1, this.2.2.2⟩
          · split
            · rw [(fr_call P _ _ s).2]; exact ⟨rfl, rfl, rfl, rfl⟩
            · split
              · rw [(f_tkA s).2]; exact ⟨rfl, rfl, rfl, rfl⟩
              · split
                · rw [(fr_sel s).2]; exact ⟨rfl, rfl, rfl, rfl⟩
                · split
                  · rw [(fr_var P f _ _ s).2]; exact ⟨rfl, rfl, rfl, rfl⟩
                  · rw [(fr_plain _ s).2]; exact ⟨rfl, rfl, rfl, rfl⟩
/-- how many frames there are behind an instruction -/
theorem N_one (P : Prog) (f pc : Nat) (s : SB) : qn (ckOne P f pc s) = if 2 ≤ pC P f pc ∧ pC P f pc ≤ 4 then qn s + 1 else if pC P f pc = 6 then qn s - 1 else qn s := by
  by_cases z0 : pC P f pc = 0
  · have : ckOne P f pc s = die s := if_pos z0
    rw [this, if_neg (by omega), if_neg (by omega)]; rfl
  by_cases z1 : pC P f pc = 1
  · have : ckOne P f pc s = s := by unfold ckOne; rw [if_neg z0, if_pos z1]
    rw [this, if_neg (by omega), if_neg (by omega)]
  by_cases z4 : pC P f pc ≤ 4
  · have : ckOne P f pc s = bg (pC P f pc) (pC P f (pc + 1)) pc s := by unfold ckOne; rw [if_neg z0, if_neg z1, if_pos z4]
    obtain ⟨b, e1, e2⟩ := fr_bg (pC P f pc) (pC P f (pc + 1)) pc s
    rw [this, e1, if_pos (by omega)]
  by_cases z6 : pC P f pc ≤ 6
  · have : ckOne P f pc s = cl (pC P f pc) s := by unfold ckOne; rw [if_neg z0, if_neg z1, if_neg z4, if_pos z6]
    rw [this, if_neg (by omega)]
    have hc := fr_cl (pC P f pc) s
    by_cases z5 : pC P f pc = 5
    · rw [hc.1 z5, if_neg (by omega)]
    · rw [hc.2.1 z5, if_pos (by omega)]
  rw [if_neg (by omega), if_neg (by omega)]
  unfold ckOne
  rw [if_neg z0, if_neg z1, if_neg z4, if_neg z6]
  split
  · obtain ⟨t, e1, e2, e3, e4⟩ := fr_jump P f pc (pC P f pc) s
    rw [e3, e1]
  · split
    · exact (fr_call P _ _ s).1
    · split
      · exact (f_tkA s).1
      · split
        · exact (fr_sel s).1
        · split
          · exact (fr_var P f _ _ s).1
          · exact (fr_plain _ s).1
theorem keep1 {P : Prog} {f pc t : Nat} {s : SB} (w : WS s) (ht : t < qn s) (hne : ¬ (pC P f pc = 6 ∧ qn s = t + 1)) : t < qn (ckOne P f pc s) ∧ Kp t s (ckOne P f pc s) := by
  refine ⟨?_, fun i hi => F_one (by omega), ?_, fun i hi => K_one w (by omega) (Nat.lt_of_lt_of_le hi (w.2.2.2.2.2.1 t (qn s - 1) (by omega) (by omega)))⟩
  · rw [N_one]
    split
    · omega
    · split
      · omega
      · exact ht
  · by_cases z : t = qn s - 1
    · rw [z]; exact T_one (by omega)
    · rw [F_one (by omega)]; exact ⟨rfl, rfl, rfl, rfl⟩
/-- EVERY FRAME IS CLOSED: from where frame t is open the pass comes to its END -/
theorem closes {P : Prog} (hw : PW P) {f : Nat} (hf : f < 6) {t : Nat} : ∀ (m pc : Nat) (s : SB), Run P f m pc s → WG s → qb s = 0 → t < qn s → ∃ k e u, k < m ∧ Goes' P f k pc s e u ∧ pc ≤ e ∧ pC P f e = 6 ∧ qn u = t + 1 ∧ Kp t s u ∧ WG u ∧ qb u = 0 ∧ Run P f (m - k) e u := by
  intro m
  induction m with
  | zero => intro pc s h g hb ht; have := h.2; omega
  | succ m ih =>
    intro pc s h g hb ht
    by_cases z : pC P f pc = 6 ∧ qn s = t + 1
    · exact ⟨0, pc, s, by omega, ⟨rfl, rfl⟩, Nat.le_refl _, z.1, z.2, Kp.rf t s, g, hb, h⟩
    · obtain ⟨ok, hr⟩ := h
      have k1 := keep1 g.1 ht z
      have g1 := g_ckOne hw hf ok.1 ok.2.2.2.2.1 g ok.2.1 hb
      obtain ⟨k, e, u, h1, h2, h3, h4, h5, h6, h7, h8, h9⟩ := ih _ _ hr g1 ok.2.2.2.2.2 k1.1
      refine ⟨k + 1, e, u, by omega, ⟨ok, h2⟩, by omega, h4, h5, k1.2.tr h6, h7, h8, ?_⟩
      have : m + 1 - (k + 1) = m - k := by omega
      rw [this]; exact h9
