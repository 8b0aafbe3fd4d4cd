/-! PURE: where code runs, no frame is dead and every kind is known -/
def Live (s : SB) : Prop := (∀ i, i < qn s → fd (qF s i) = 0) ∧ ∀ i, i < qh s → qK s i ≤ 3
theorem L_tkA {s : SB} (l : Live s) (h1 : 1 ≤ qn s) (hb : qb (tkA s).2 = 0) : fb (sTop s) < qh s ∧ tkA s = (qK s (qh s - 1), (qh s - 1, qK s, qn s, qF s, qb s)) ∧ (tkA s).1 ≤ 3 := by
  have ld : fd (sTop s) = 0 := l.1 (qn s - 1) (by omega)
  by_cases c : qh s ≤ fb (sTop s)
  · have e : tkA s = (4, if fd (sTop s) = 0 then sBad s else s) := if_pos c
    rw [e] at hb
    have : (if fd (sTop s) = 0 then sBad s else s) = sBad s := if_pos ld
    rw [this] at hb
    exact absurd hb e_bad
  · have e : tkA s = (qK s (qh s - 1), (qh s - 1, qK s, qn s, qF s, qb s)) := if_neg c
    exact ⟨by omega, e, by rw [e]; exact l.2 _ (by omega)⟩
theorem b_tk {k : Nat} {s : SB} (h : qb (tk k s) = 0) : qb (tkA s).2 = 0 := by
  unfold tk at h
  split at h
  · exact h
  · split at h
    · exact h
    · exact absurd h e_bad
theorem L_pop {s : SB} (l : Live s) : Live (qh s - 1, qK s, qn s, qF s, qb s) := ⟨l.1, fun i hi => l.2 i (by have hi : i < qh s - 1 := hi; omega)⟩
theorem L_tk {s : SB} {k : Nat} (l : Live s) (h1 : 1 ≤ qn s) (hb : qb (tk k s) = 0) : fb (sTop s) < qh s ∧ qK s (qh s - 1) = k ∧ tk k s = (qh s - 1, qK s, qn s, qF s, qb s) := by
  obtain ⟨a1, a2, a3⟩ := L_tkA l h1 (b_tk hb)
  unfold tk at hb ⊢
  rw [a2] at hb a3 ⊢
  have a3 : qK s (qh s - 1) ≤ 3 := a3
  by_cases z : qK s (qh s - 1) = k
  · rw [if_pos z]
    exact ⟨a1, z, rfl⟩
  · rw [if_neg z, if_neg (by show ¬ qK s (qh s - 1) = 4; omega)] at hb
    exact absurd hb e_bad
theorem L_tkIf {s : SB} {k : Nat} (l : Live s) (h1 : 1 ≤ qn s) (hb : qb (tkIf k s) = 0) : (k = 0 ∧ tkIf k s = s) ∨ (¬ k = 0 ∧ fb (sTop s) < qh s ∧ qK s (qh s - 1) = k ∧ tkIf k s = (qh s - 1, qK s, qn s, qF s, qb s)) := by
  unfold tkIf at hb ⊢
  by_cases z : k = 0
  · rw [if_pos z]; exact Or.inl ⟨z, rfl⟩
  · rw [if_neg z] at hb ⊢
    exact Or.inr ⟨z, L_tk l h1 hb⟩
theorem L_pt {s : SB} {k : Nat} (hb : qb (pt k s) = 0) : ¬ qh s = 16 ∧ pt k s = (qh s + 1, fup (qK s) (qh s) k, qn s, qF s, qb s) := by
  unfold pt at hb ⊢
  by_cases z : qh s = 16
  · rw [if_pos z] at hb; exact absurd hb e_bad
  · rw [if_neg z]; exact ⟨z, rfl⟩
theorem L_put {s : SB} {k : Nat} (l : Live s) (hk : k ≤ 3) : Live (qh s + 1, fup (qK s) (qh s) k, qn s, qF s, qb s) := by
  refine ⟨l.1, fun i hi => ?_⟩
  have hi : i < qh s + 1 := hi
  show (if i = qh s then k else qK s i) ≤ 3
  split
  · exact hk
  · exact l.2 i (by omega)
theorem L_ptIf {s : SB} {k : Nat} (hb : qb (ptIf k s) = 0) : (k = 0 ∧ ptIf k s = s) ∨ (¬ k = 0 ∧ ¬ qh s = 16 ∧ ptIf k s = (qh s + 1, fup (qK s) (qh s) k, qn s, qF s, qb s)) := by
  unfold ptIf at hb ⊢
  by_cases z : k = 0
  · rw [if_pos z]; exact Or.inl ⟨z, rfl⟩
  · rw [if_neg z] at hb ⊢
    have := L_pt hb
    exact Or.inr ⟨z, this.1, this.2⟩
/-- a plain instruction on what is known: two kinds taken, one put -/
theorem L_plain {s : SB} {a b c : Nat} (l : Live s) (h1 : 1 ≤ qn s) (hc3 : c ≤ 3) (hb : qb (ptIf c (tkIf b (tkIf a s))) = 0) :
    Live (ptIf c (tkIf b (tkIf a s))) ∧ (¬ a = 0 → 1 ≤ qh s ∧ qK s (qh s - 1) = a) ∧ (¬ b = 0 → (if a = 0 then 0 else 1) + 1 ≤ qh s ∧ qK s (qh s - 1 - (if a = 0 then 0 else 1)) = b) ∧
    ptIf c (tkIf b (tkIf a s)) = (qh s - (if a = 0 then 0 else 1) - (if b = 0 then 0 else 1) + (if c = 0 then 0 else 1), (if c = 0 then qK s else fup (qK s) (qh s - (if a = 0 then 0 else 1) - (if b = 0 then 0 else 1)) c), qn s, qF s, qb s) := by
  have hb1 := b_ptIf hb
  have hb0 := b_tkIf b _ hb1
  rcases L_tkIf l h1 hb0 with ⟨a0, ea⟩ | ⟨a0, a1, a2, ea⟩
  · rw [ea] at hb hb1 ⊢
    simp only [if_pos a0]
    rcases L_tkIf l h1 hb1 with ⟨b0, eb⟩ | ⟨b0, b1, b2, eb⟩
    · rw [eb] at hb ⊢
      simp only [if_pos b0]
      rcases L_ptIf hb with ⟨c0, ec⟩ | ⟨c0, c1, ec⟩
      · rw [ec]; simp only [if_pos c0]
        exact ⟨l, fun z => absurd a0 z, fun z => absurd b0 z, rfl⟩
      · rw [ec]; simp only [if_neg c0]
        exact ⟨L_put l hc3, fun z => absurd a0 z, fun z => absurd b0 z, rfl⟩
    · rw [eb] at hb ⊢
      simp only [if_neg b0]
      have l1 := L_pop l
      rcases L_ptIf hb with ⟨c0, ec⟩ | ⟨c0, c1, ec⟩
      · rw [ec]; simp only [if_pos c0]
        exact ⟨l1, fun z => absurd a0 z, fun _ => ⟨by omega, b2⟩, rfl⟩
      · rw [ec]; simp only [if_neg c0]
        exact ⟨L_put l1 hc3, fun z => absurd a0 z, fun _ => ⟨by omega, b2⟩, rfl⟩
  · rw [ea] at hb hb1 ⊢
    simp only [if_neg a0]
    have l1 := L_pop l
    rcases L_tkIf l1 h1 hb1 with ⟨b0, eb⟩ | ⟨b0, b1, b2, eb⟩
    · rw [eb] at hb ⊢
      simp only [if_pos b0]
      rcases L_ptIf hb with ⟨c0, ec⟩ | ⟨c0, c1, ec⟩
      · rw [ec]; simp only [if_pos c0]
        exact ⟨l1, fun _ => ⟨by omega, a2⟩, fun z => absurd b0 z, rfl⟩
      · rw [ec]; simp only [if_neg c0]
        exact ⟨L_put l1 hc3, fun _ => ⟨by omega, a2⟩, fun z => absurd b0 z, rfl⟩
    · rw [eb] at hb ⊢
      simp only [if_neg b0]
      have l2 := L_pop l1
      have b1 : fb (sTop s) < qh s - 1 := b1
      rcases L_ptIf hb with ⟨c0, ec⟩ | ⟨c0, c1, ec⟩
      · rw [ec]; simp only [if_pos c0]
        exact ⟨l2, fun _ => ⟨by omega, a2⟩, fun _ => ⟨by omega, b2⟩, rfl⟩
      · rw [ec]; simp only [if_neg c0]
        exact ⟨L_put l2 hc3, fun _ => ⟨by omega, a2⟩, fun _ => ⟨by omega, b2⟩, rfl⟩
