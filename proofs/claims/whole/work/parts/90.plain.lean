/-! PURE: one step of a plain instruction -/
theorem disp_num {j p op b : Nat} {Q : Int32 → St → Prop} {C : St} (ho : 22 < op) (ho2 : op < 256) (kk : wp6_stepNumbers C (2 * j) (nI op) (nI b) (fun r4 S5 => Q r4 S5)) : disp6 j p op b Q C := by
  have g : ∀ k, k ≤ 22 → nI k < nI op := fun k hk => (nI_ltI (by omega) (by omega)).mpr (by omega)
  exact ⟨fun _ => ⟨fun _ => ⟨fun _ => ⟨fun _ => kk, fun z => absurd (g 22 (by omega)) z⟩, fun z => absurd (g 12 (by omega)) z⟩, fun z => absurd (g 10 (by omega)) z⟩, fun z => absurd (g 6 (by omega)) z⟩
theorem disp_val {j p op b : Nat} {Q : Int32 → St → Prop} {C : St} (ho : 12 < op) (ho2 : op ≤ 22) (kk : wp6_stepValues C j (nI op) (nI b) (fun r5 S6 => Q r5 S6)) : disp6 j p op b Q C := by
  have g : ∀ k, k ≤ 12 → nI k < nI op := fun k hk => (nI_ltI (by omega) (by omega)).mpr (by omega)
  exact ⟨fun _ => ⟨fun _ => ⟨fun _ => ⟨fun z => absurd ((nI_ltI (a := 22) (by omega) (by omega)).mp z) (by omega), fun _ => kk⟩, fun z => absurd (g 12 (by omega)) z⟩, fun z => absurd (g 10 (by omega)) z⟩, fun z => absurd (g 6 (by omega)) z⟩
theorem ck_plain {P : Prog} {f p : Nat} {s : SB} (ho : 20 ≤ pC P f p) : ckOne P f p s = ptIf (sg (pC P f p) % 10) (tkIf (sg (pC P f p) / 10 % 10) (tkIf (sg (pC P f p) / 100) s)) := by
  unfold ckOne
  rw [if_neg (by omega), if_neg (by omega), if_neg (by omega), if_neg (by omega), if_neg (by omega), if_neg (by omega), if_neg (by omega), if_neg (by omega), if_neg (by omega)]
  rfl
theorem pl_two {s t : SB} {k c : Nat} (l : Live s) (h1 : 1 ≤ qn s) (hk : ¬ k = 0) (hc : ¬ c = 0) (hc3 : c ≤ 3) (e : t = ptIf c (tkIf k (tkIf k s))) (hb : qb t = 0) :
    2 ≤ qh s ∧ qK s (qh s - 1) = k ∧ qK s (qh s - 2) = k ∧ Live t ∧ qh t = qh s - 2 + 1 ∧ qK t (qh s - 2) = c ∧ (∀ i, i < qh s - 2 → qK t i = qK s i) ∧ (qn t = qn s ∧ qF t = qF s) := by
  subst e
  obtain ⟨a1, a2, a3, a4⟩ := L_plain l h1 hc3 hb
  simp only [if_neg hk, if_neg hc] at a3 a4
  have a2 := a2 hk
  have a3 := a3 hk
  rw [a4] at a1 ⊢
  have e2 : qh s - 1 - 1 = qh s - 2 := by omega
  rw [e2] at a3 a1 ⊢
  refine ⟨by omega, a2.2, a3.2, a1, rfl, ?_, fun i hi => ?_, rfl, rfl⟩
  · show (if qh s - 2 = qh s - 2 then c else qK s (qh s - 2)) = c
    rw [if_pos rfl]
  · show (if i = qh s - 2 then c else qK s i) = _
    rw [if_neg (by omega)]
theorem pl_one {s t : SB} {k c : Nat} (l : Live s) (h1 : 1 ≤ qn s) (hk : ¬ k = 0) (hc : ¬ c = 0) (hc3 : c ≤ 3) (e : t = ptIf c (tkIf 0 (tkIf k s))) (hb : qb t = 0) :
    1 ≤ qh s ∧ qK s (qh s - 1) = k ∧ Live t ∧ qh t = qh s - 1 + 1 ∧ qK t (qh s - 1) = c ∧ (∀ i, i < qh s - 1 → qK t i = qK s i) ∧ (qn t = qn s ∧ qF t = qF s) := by
  subst e
  obtain ⟨a1, a2, a3, a4⟩ := L_plain l h1 hc3 hb
  simp only [if_neg hk, if_neg hc, if_true, Nat.sub_zero] at a4
  have a2 := a2 hk
  rw [a4] at a1 ⊢
  refine ⟨by omega, a2.2, a1, rfl, ?_, fun i hi => ?_, rfl, rfl⟩
  · show (if qh s - 1 = qh s - 1 then c else qK s (qh s - 1)) = c
    rw [if_pos rfl]
  · show (if i = qh s - 1 then c else qK s i) = _
    rw [if_neg (by omega)]
theorem pl_zero {s t : SB} {c : Nat} (l16 : qh s ≤ 16) (l : Live s) (h1 : 1 ≤ qn s) (hc : ¬ c = 0) (hc3 : c ≤ 3) (e : t = ptIf c (tkIf 0 (tkIf 0 s))) (hb : qb t = 0) :
    qh s < 16 ∧ Live t ∧ qh t = qh s + 1 ∧ qK t (qh s) = c ∧ (∀ i, i < qh s → qK t i = qK s i) ∧ (qn t = qn s ∧ qF t = qF s) := by
  subst e
  have g := L_plain l h1 hc3 hb
  obtain ⟨a1, a2, a3, a4⟩ := g
  simp only [if_neg hc, if_true, Nat.sub_zero] at a4
  have z16 : ¬ qh s = 16 := by
    intro z
    have : qb (pt c s) = 0 := by
      have hb := hb
      unfold ptIf tkIf at hb
      rw [if_neg hc, if_pos rfl, if_pos rfl] at hb
      exact hb
    exact (L_pt this).1 z
  rw [a4] at a1 ⊢
  refine ⟨?_, a1, rfl, ?_, fun i hi => ?_, rfl, rfl⟩
  · have := l16; omega
  · show (if qh s = qh s then c else qK s (qh s)) = c
    rw [if_pos rfl]
  · show (if i = qh s then c else qK s i) = _
    rw [if_neg (by omega)]
theorem pl_store {s t : SB} {k : Nat} (l : Live s) (h1 : 1 ≤ qn s) (hk : ¬ k = 0) (e : t = ptIf 0 (tkIf 1 (tkIf k s))) (hb : qb t = 0) :
    2 ≤ qh s ∧ qK s (qh s - 1) = k ∧ qK s (qh s - 2) = 1 ∧ Live t ∧ qh t = qh s - 2 ∧ (∀ i, qK t i = qK s i) ∧ (qn t = qn s ∧ qF t = qF s) := by
  subst e
  obtain ⟨a1, a2, a3, a4⟩ := L_plain l h1 (by decide) hb
  simp only [if_neg hk, if_true, show ¬ 1 = 0 by decide, if_false, Nat.add_zero] at a3 a4
  have a2 := a2 hk
  have a3 := a3 (by decide)
  have e2 : qh s - 1 - 1 = qh s - 2 := by omega
  rw [a4] at a1 ⊢
  rw [e2] at a3 a1 ⊢
  exact ⟨by omega, a2.2, a3.2, a1, rfl, fun _ => rfl, rfl, rfl⟩
