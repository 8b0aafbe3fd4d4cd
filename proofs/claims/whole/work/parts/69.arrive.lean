/-! PURE: what there is behind an END and behind an ELSE -/
theorem b_cl2e {t : SB} (h : qb (cl2 t) = 0) : cl2 t = t ∧ qh t = fb (sTop t) := by
  unfold cl2 at h ⊢
  split at h
  · rename_i c; rw [if_pos c]; exact ⟨rfl, c⟩
  · exact absurd h e_bad
theorem after_end {P : Prog} {f e t : Nat} {u : SB} (ho : pC P f e = 6) (hq : qn u = t + 1) (hb : qb (ckOne P f e u) = 0) : qn (ckOne P f e u) = t ∧ qF (ckOne P f e u) = qF u ∧ (fo (qF u t) = 4 → ¬ fk (qF u t) = 0 → ¬ fe (qF u t) = 0) ∧ (1 ≤ t → qh (ckOne P f e u) = fb (qF u t) + (if fk (qF u t) = 0 then 0 else 1) ∧ (¬ fk (qF u t) = 0 → qK (ckOne P f e u) (fb (qF u t)) = fk (qF u t))) := by
  have eo : ckOne P f e u = clEnd (cl2 (tkIf (fk (sTop u)) u)) := by
    unfold ckOne cl
    rw [if_neg (by omega), if_neg (by omega), if_neg (by omega), if_pos (by omega), if_neg (by omega)]
  have ft := f_clt u
  have etop := f_top ft
  have st : sTop u = qF u t := by unfold sTop; rw [hq]; rfl
  rw [eo] at hb ⊢
  have hb2 := b_end hb
  obtain ⟨c1, c2⟩ := b_cl2e hb2.1
  rw [etop] at hb2
  have hn := n_clEnd (cl2 (tkIf (fk (sTop u)) u))
  refine ⟨by rw [hn.1, ft.1]; omega, by rw [hn.2, ft.2], fun h4 h0 h1 => ?_, fun ht => ?_⟩
  · rw [st] at hb2
    exact hb2.2 ⟨h4, h0, h1⟩
  · rw [f_top (f_tkIf (fk (sTop u)) u)] at c2
    generalize hv : cl2 (tkIf (fk (sTop u)) u) = v at *
    rw [← c1] at c2
    have e1 : clEnd v = clEnd1 v := if_neg (by rw [etop]; exact hb2.2)
    have e2 : clEnd1 v = ptIf (fk (sTop v)) (qh v, qK v, qn v - 1, qF v, qb v) := if_neg (by rw [ft.1]; omega)
    rw [e1, e2, etop, st] at hb ⊢
    rw [st] at c2
    unfold ptIf at hb ⊢
    by_cases z : fk (qF u t) = 0
    · rw [if_pos z, if_pos z]
      exact ⟨c2, fun y => absurd z y⟩
    · rw [if_neg z] at hb ⊢
      unfold pt at hb ⊢
      by_cases z2 : qh v = 16
      · rw [if_pos (show qh (qh v, qK v, qn v - 1, qF v, qb v) = 16 from z2)] at hb
        exact absurd hb e_bad
      · rw [if_neg (show ¬ qh (qh v, qK v, qn v - 1, qF v, qb v) = 16 from z2), if_neg z]
        refine ⟨by show qh v + 1 = _; rw [c2], fun _ => ?_⟩
        show (if fb (qF u t) = qh v then fk (qF u t) else qK v (fb (qF u t))) = _
        rw [if_pos c2.symm]
theorem after_else {P : Prog} {f e t : Nat} {u : SB} (ho : pC P f e = 5) (hq : qn u = t + 1) (hb : qb (ckOne P f e u) = 0) : qn (ckOne P f e u) = t + 1 ∧ fo (qF u t) = 4 ∧ fe (qF u t) = 0 ∧ fe (qF (ckOne P f e u) t) = 1 ∧ fd (qF (ckOne P f e u) t) = 0 ∧ qh (ckOne P f e u) = fb (qF u t) := by
  have eo : ckOne P f e u = clElse (cl2 (tkIf (fk (sTop u)) u)) := by
    unfold ckOne cl
    rw [if_neg (by omega), if_neg (by omega), if_neg (by omega), if_pos (by omega), if_pos ho]
  have ft := f_clt u
  have etop := f_top ft
  have st : sTop u = qF u t := by unfold sTop; rw [hq]; rfl
  rw [eo] at hb ⊢
  have hb2 := b_else hb
  obtain ⟨c1, c2⟩ := b_cl2e hb2.1
  rw [f_top (f_tkIf (fk (sTop u)) u)] at c2
  rw [etop, st] at hb2
  generalize hv : cl2 (tkIf (fk (sTop u)) u) = v at *
  rw [← c1, st] at c2
  have e1 : clElse v = clElse1 v := if_pos (by rw [etop, st]; exact hb2.2)
  rw [e1]
  have hqv : qn v - 1 = t := by rw [ft.1]; omega
  refine ⟨by show qn v = _; rw [ft.1]; exact hq, hb2.2.1, hb2.2.2, ?_, ?_, c2⟩
  · show fe (if t = qn v - 1 then _ else _) = 1
    rw [if_pos hqv.symm]; rfl
  · show fd (if t = qn v - 1 then _ else _) = 0
    rw [if_pos hqv.symm]; rfl
/-- the else flag of a frame changes by its ELSE alone -/
theorem fe_one {P : Prog} {f pc t : Nat} {s : SB} (ht : t < qn s) (h5 : ¬ (pC P f pc = 5 ∧ qn s = t + 1)) : fe (qF (ckOne P f pc s) t) = fe (qF s t) := by
  by_cases z : t < qn s - 1
  · rw [F_one z]
  · have htq : t = qn s - 1 := by omega
    have k_dead : ∀ u, fe (qF (dieIf u) (qn u - 1)) = fe (qF u (qn u - 1)) := by
      intro u
      unfold dieIf
      split
      · show fe (if qn u - 1 = qn u - 1 then _ else _) = _
        rw [if_pos rfl]; rfl
      · rfl
    have e5 : ¬ pC P f pc = 5 := fun y => h5 ⟨y, by omega⟩
    rw [htq]
    unfold ckOne
    split
    · show fe (if qn s - 1 = qn s - 1 then _ else _) = _
      rw [if_pos rfl]; rfl
    · split
      · rfl
      · split
        · obtain ⟨b, e1, e2⟩ := fr_bg (pC P f pc) (pC P f (pc + 1)) pc s
          rw [e2]
          show fe (if qn s - 1 = qn s then _ else _) = _
          rw [if_neg (by omega)]
        · split
          · have ft := f_clt s
            unfold cl
            rw [if_neg e5, (n_clEnd _).2, ft.2]
          · split
            · unfold ckJump
              have key : ∀ u, qn u = qn s → qF u = qF s → fe (qF (dieIf u) (qn s - 1)) = fe (qF s (qn s - 1)) := by
                intro u a b
                have := k_dead u
                rw [a, b] at this
                exact this
              split
              · exact key _ (f_tkIf _ s).1 (f_tkIf _ s).2
              · split
                · refine key _ ?_ ?_
                  · rw [(f_tkIf _ _).1, (f_lbls _ _ _ _ _).1, (f_lbl _ _).1, (f_tk _ _).1]
                  · rw [(f_tkIf _ _).2, (f_lbls _ _ _ _ _).2, (f_lbl _ _).2, (f_tk _ _).2]
                · split
                  · rw [(f_ptIf _ _).2, (f_tkIf _ _).2, (f_lbl _ _).2, (f_tk _ _).2]
                  · refine key _ ?_ ?_
                    · rw [(f_tkIf _ _).1, (f_lbl _ _).1]
                    · rw [(f_tkIf _ _).2, (f_lbl _ _).2]
            · split
              · rw [(fr_call P _ _ s).2]
              · split
                · rw [(f_tkA s).2]
                · split
                  · rw [(fr_sel s).2]
                  · split
                    · rw [(fr_var P f _ _ s).2]
                    · rw [(fr_plain _ s).2]
/-- from where frame t is open the pass comes to the end of its part -/
theorem stops {P : Prog} (hw : PW P) {f : Nat} (hf : f < 6) {t : Nat} : ∀ (m pc : Nat) (s : SB), Run P f m pc s → WG s → qb s = 0 → t < qn s → ∃ k u, k < m ∧ Goes' P f k pc s (stopOf P f t m pc s) u ∧ (pC P f (stopOf P f t m pc s) = 5 ∨ pC P f (stopOf P f t m pc s) = 6) ∧ qn u = t + 1 ∧ Kp t s u ∧ fe (qF u t) = fe (qF s t) ∧ WG u ∧ qb u = 0 ∧ Run P f (m - k) (stopOf P f t m pc s) u ∧ pc ≤ stopOf P f t m pc s := by
  intro m
  induction m with
  | zero => intro pc s h g hb ht; have := h.2; omega
  | succ m ih =>
    intro pc s h g hb ht
    unfold stopOf
    by_cases z : (pC P f pc = 5 ∨ pC P f pc = 6) ∧ qn s = t + 1
    · rw [if_pos z]
      exact ⟨0, s, by omega, ⟨rfl, rfl⟩, z.1, z.2, Kp.rf t s, rfl, g, hb, h, Nat.le_refl _⟩
    · rw [if_neg z]
      obtain ⟨ok, hr⟩ := h
      have z6 : ¬ (pC P f pc = 6 ∧ qn s = t + 1) := fun y => z ⟨Or.inr y.1, y.2⟩
      have k1 := keep1 (P := P) (f := f) (pc := pc) g.1 ht z6
      have g1 := g_ckOne hw hf ok.1 ok.2.2.2.2.1 g ok.2.1 hb
      obtain ⟨k, u, h1, h2, h3, h4, h5, h6, h7, h8, h9, h10⟩ := ih _ _ hr g1 ok.2.2.2.2.2 k1.1
      refine ⟨k + 1, u, by omega, ⟨ok, h2⟩, h3, h4, k1.2.tr h5, h6.trans (fe_one ht (fun y => z ⟨Or.inl y.1, y.2⟩)), h7, h8, ?_, by omega⟩
      have : m + 1 - (k + 1) = m - k := by omega
      rw [this]; exact h9
