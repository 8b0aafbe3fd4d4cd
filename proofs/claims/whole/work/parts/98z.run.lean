/-! PURE: the calls, one by one: run -/
theorem st_two {P : Prog} {c : Ct} {C M : St} (h : XX P c C M) (hT : TbR C M) : ∃ r C' M', Res P C M r C' M' ∧ (∀ G, G r C' → wp6_step C G) ∧ ∀ R, R M' → wp9_step M R := by
  obtain ⟨v, h1, h2⟩ := d_wp6_step _ (st_all (Q := Res P C M) h hT fun _ _ _ z => z)
  obtain ⟨w, h3, h4⟩ := d_wp9_step _ h1
  exact ⟨v.1, v.2, w, h3, fun G z => h2 G z, fun R z => h4 R z⟩
def kR (k : Nat) : Prop := kXC k ∨ k = 1807 ∨ k = 1808 ∨ k = 1809
def kS (k : Nat) : Prop := kYM k ∨ k = 1935 ∨ k = 1939
theorem kk_run {P : Prog} {ph ph' ck a : Nat} {C M C' M' : St} (hc : Kc P ph ck C M) (ho : Ko ph ck a C M) (hC : Ag kR C C') (hM : Ag kS M M') (h1 : ck = 1) (hp : ph' ≤ 3) (e7 : gI C' 1807 0 = nI ph') (e32 : gI M' 1932 0 = nI ph') (e8 : gI C' 1808 0 = gI M' 1933 0) (e9 : gI C' 1809 0 = gI M' 1935 0) (hg' : XG C' M') (hX' : ph' = 1 → ∃ c, XX P c C' M') (hA' : ph' = 2 → Alike C' M') : KK C' M' := by
  obtain ⟨hw, hPC, hPM, hT, hg, hS, hX, hA, hN⟩ := hc
  obtain ⟨o1, o2, o3, o4, o5, o6, o7, o8, o9, o10, o11, o12, o13⟩ := ho
  have nC : ∀ k, (1200 ≤ k ∧ k ≤ 1500) ∨ (1801 ≤ k ∧ k ≤ 1806) → ¬ kR k := fun k z y => by unfold kR kXC at y; omega
  have nM : ∀ k, (1900 ≤ k ∧ k ≤ 1906) ∨ (1910 ≤ k ∧ k ≤ 1912) → ¬ kS k := fun k z y => by unfold kS kYM at y; omega
  refine ⟨P, ph', ck, a, ⟨hw, hPC.ag hC fun k z => nC k (by omega), hPM.ag hM fun k z1 z2 => nM k (by omega), fun q hq => ?_, hg', ⟨?_, fun q hq => ?_⟩, hX', hA', fun w f hf hL => ?_⟩, hp, o2, o3, e7, e32, e8, e9, ?_, ?_, fun q hq => ?_, ?_, ?_, fun _ => h1⟩
  · rw [hC.gA (nC _ (by omega)), hM.gA (nM _ (by omega))]; exact hT q hq
  · rw [hC.gR (nC _ (by omega))]; exact hS.1
  · rw [hC.gI (nC _ (by omega))]; exact hS.2 q hq
  · obtain ⟨b1, N, b2⟩ := hN w f hf hL
    refine ⟨b1, N, fun q hq => ?_⟩
    rw [hC.gA (nC _ (by omega)), hC.gA (k := 1403) (nC _ (by omega))]
    exact b2 q hq
  · rw [hC.gI (nC _ (by omega))]; exact o8
  · rw [hM.gI (nM _ (by omega))]; exact o9
  · rw [hC.gA (nC _ (by omega)), hM.gA (nM _ (by omega))]; exact o10 q hq
  · rw [hC.gI (nC _ (by omega))]; exact o11
  · rw [hM.gI (nM _ (by omega))]; exact o12
/-- behind i steps, RUNNING (1) or DONE (2) -/
def Iv (P : Prog) (C M : St) (ph i : Nat) (C1 M1 : St) : Prop := Ag kR C C1 ∧ Ag kYM M M1 ∧ 1 ≤ ph ∧ ph ≤ 2 ∧ gI C1 1807 0 = nI ph ∧ gI M1 1932 0 = nI ph ∧ gI C1 1808 0 = gI C 1808 0 ∧ gI C1 1809 0 = gI C 1809 0 ∧ gI M1 1933 0 = gI C 1808 0 + nI i ∧ XG C1 M1 ∧ (ph = 1 → ∃ c, XX P c C1 M1) ∧ (ph = 2 → Alike C1 M1)
theorem xn_ag {P : Prog} {p : Nat → Prop} {C C' : St} (h : XN P C) (hC : Ag p C C') (n2 : ¬ p 1402) (n3 : ¬ p 1403) : XN P C' := by
  intro f hf hL
  obtain ⟨b1, N, b2⟩ := h f hf hL
  refine ⟨b1, N, fun q hq => ?_⟩
  rw [hC.gA n2, hC.gA n3]
  exact b2 q hq
theorem xx_07 {P : Prog} {c : Ct} {C M : St} (h : XX P c C M) (v : Int32) : XX P c (sI C 1807 0 v) M := by
  have aC : Ag (fun k => k = 1807) C (sI C 1807 0 v) := Ag.rf.sI rfl
  exact h.ag (pm := fun _ => False) aC Ag.rf (fun k z y => by unfold uC at z; omega) (fun _ _ z => z) rfl rfl (fun _ _ => ⟨rfl, rfl, rfl⟩) (xn_ag h.2.2.2.2.2.2.2.2 aC (by decide) (by decide))
theorem run_loop {P : Prog} {C M M0 : St} {k a : Nat} {f : Nat → Int64} {g : Nat → UInt64} (hk : k ≤ 20) (hc : Kc P 1 1 C M) (ho : Ko 1 1 a C M) (h39 : gI M 1939 0 = 0) :
    ∀ (m i : Nat) (ph : Nat) (C1 M1 : St), m + i = k → Iv P C M ph i C1 M1 → (∀ Qm n, wp9_run_42 (nI k) Qm n (nI i) M1 → wp9_run M0 (nI k) Qm) → wp8_run_42 (nI k) (fun r S' => qw_run KK M0 (nI k) 0 (S', vp_updL f 0 r.toInt64, g)) (fun t S' => ∃ j, cd_run t = some j ∧ qw_run KK M0 (nI k) j (S', f, g)) (m + 1) (nI i) 0 (nI i) C1 := by
  have fin : ∀ (i ph : Nat) (C1 M1 : St), Iv P C M ph i C1 M1 → (i = k ∨ ph = 2) → (∀ Qm n, wp9_run_42 (nI k) Qm n (nI i) M1 → wp9_run M0 (nI k) Qm) → i ≤ k → wp8_run_82 (nI k) (fun r S' => qw_run KK M0 (nI k) 0 (S', vp_updL f 0 r.toInt64, g)) (fun t S' => ∃ j, cd_run t = some j ∧ qw_run KK M0 (nI k) j (S', f, g)) (nI i) 0 C1 := by
    intro i ph C1 M1 hv he hr hik
    obtain ⟨a1, a2, p1, p2, e7, e32, e8, e9, e33, hg, hX, hA⟩ := hv
    intro S1 e1
    subst e1
    refine ⟨fun _ => ?_, fun c => absurd rfl c⟩
    unfold qw_run
    have res : wp9_thrown M1 (fun th M2 => th = 0 ∧ ((0 : Int32) = 0 → vp_updL f 0 (nI i).toInt64 0 = (nI i).toInt64) ∧ KK (sI C1 1808 0 (gI C1 1808 0 + nI i)) M2) := by
      have o7 := ho.2.2.2.2.2.2.1
      refine th_good (kk_run (ph' := ph) hc ho (a1.sI (by unfold kR; omega)) (a2.mono fun k z => Or.inl z) rfl (by omega) ?_ e32 ?_ ?_ ?_ (fun w => ?_) (fun w => ?_)) ?_ (by simp [vp_updL])
      · simp [gI_sI]; exact e7
      · simp [gI_sI]; rw [e8, e33]
      · simp [gI_sI]; rw [e9, a2.gI (by unfold kYM; omega)]; exact o7
      · exact hg.of (fun _ => rfl) (fun _ => rfl) (fun _ => rfl) (fun _ => rfl) rfl (fun _ => rfl)
      · obtain ⟨c, hx⟩ := hX w
        have aC : Ag (fun k => k = 1808) C1 (sI C1 1808 0 (gI C1 1808 0 + nI i)) := Ag.rf.sI rfl
        exact ⟨c, hx.ag (pm := fun _ => False) aC Ag.rf (fun k z y => by unfold uC at z; omega) (fun _ _ z => z) rfl rfl (fun _ _ => ⟨rfl, rfl, rfl⟩) (xn_ag hx.2.2.2.2.2.2.2.2 aC (by decide) (by decide))⟩
      · obtain ⟨q, q3, b1, b2, b3⟩ := hA w
        exact ⟨q, q3, by simp [gI_sI]; exact b1, b2, b3⟩
      · rw [a2.gI (by unfold kYM; omega)]; exact h39
    refine hr _ 1 ⟨fun _ => res, fun c => ⟨fun _ => res, fun c2 => ?_⟩⟩
    exfalso
    rcases he with z | z
    · subst z; exact c (Int32.le_refl _)
    · rw [e32] at c2
      have := nE (b := 1) (by omega) (by omega) c2
      omega
  intro m
  induction m with
  | zero =>
    intro i ph C1 M1 hm hv hr
    have e : i = k := by omega
    exact ⟨fun _ => fin i ph C1 M1 hv (Or.inl e) hr (by omega), fun c => absurd (by rw [e]; exact Int32.le_refl _) c⟩
  | succ m ih =>
    intro i ph C1 M1 hm hv hr
    have hv' := hv
    obtain ⟨a1, a2, p1, p2, e7, e32, e8, e9, e33, hg, hX, hA⟩ := hv
    have nle : ¬ nI k ≤ nI i := fun z => absurd ((nI_leI (by omega) (by omega)).mp z) (by omega)
    refine ⟨fun z => absurd z nle, fun _ => ⟨fun z => ?_, fun z => ?_⟩⟩
    · rw [e7] at z
      have z := nN (b := 1) z
      exact fin i ph C1 M1 hv' (Or.inr (by omega)) hr (by omega)
    · rw [e7] at z
      have z := nE (b := 1) (by omega) (by omega) z
      subst z
      obtain ⟨c, hx⟩ := hX rfl
      have hT1 : TbR C1 M1 := by
        intro q hq
        rw [a1.gA (by unfold kR kXC; omega), a2.gA (by unfold kYM; omega)]
        exact hc.2.2.2.1 q hq
      obtain ⟨r, C', M', hres, h6, h9⟩ := st_two hx hT1
      obtain ⟨b1, b2, b3, b4⟩ := hres
      have a1' : Ag kR C C' := a1.tr (b1.mono fun k z => Or.inl z)
      have a2' : Ag kYM M M' := a2.tr b2
      have e8' : gI C' 1808 0 = gI C 1808 0 := by rw [b1.gI (by unfold kXC; omega)]; exact e8
      have e9' : gI C' 1809 0 = gI C 1809 0 := by rw [b1.gI (by unfold kXC; omega)]; exact e9
      have e33' : gI M' 1933 0 = gI C 1808 0 + nI (i + 1) := by
        rw [b3, e33, Int32.add_assoc, nI_1]
      refine h6 _ fun x2 ex2 => ?_
      rw [nI_1] at ex2
      subst ex2
      have nxt : ∀ Qm n, gI M' 1934 0 = 0 → wp9_run_42 (nI k) Qm n (nI (i + 1)) M' → wp9_run M0 (nI k) Qm := by
        intro Qm n e34 w
        refine hr Qm (n + 1) ⟨fun z => absurd z nle, fun _ => ⟨fun z => absurd e32 z, fun _ => h9 _ fun x2 ex2 => ⟨fun _ => ?_, fun z => ?_⟩⟩⟩
        · rw [nI_1] at ex2
          subst ex2
          exact w
        · rw [e34] at z; exact absurd (by decide) z
      rcases b4 with ⟨er, e34, e32', c', hx'⟩ | ⟨er, e34, e07, e32', hA', hg'⟩ | ⟨t, t1, t5, er, e34, e32', hg'⟩
      · subst er
        have e07 : gI C' 1607 0 = nI (xd c') := hx'.2.2.2.2.1.1
        have d1 := hx'.2.2.2.1.1
        have d6 := hx'.2.2.2.1.2.1
        refine ⟨fun _ => ⟨fun _ S3 e3 x4 e4 => ?_, fun z => ?_⟩, fun z => absurd rfl z⟩
        · rw [nI_1] at e4
          subst e3; subst e4
          refine ih (i + 1) 1 _ _ (by omega) ⟨a1'.sI (by unfold kR; omega), a2', by omega, by omega, by simp [gI_sI]; rfl, by rw [e32']; exact e32, by simp [gI_sI]; exact e8', by simp [gI_sI]; exact e9', e33', (xx_07 hx' 1).2.2.2.2.2.2.2.1, fun _ => ⟨c', xx_07 hx' 1⟩, fun w => absurd w (by decide)⟩ (fun Qm n w => nxt Qm n e34 w)
        · rw [e07] at z
          have := nE (b := 0) (by omega) (by omega) z
          omega
      · subst er
        refine ⟨fun _ => ⟨fun z => absurd e07 z, fun _ S3 e3 x4 e4 => ?_⟩, fun z => absurd rfl z⟩
        rw [nI_1] at e4
        subst e3; subst e4
        refine ih (i + 1) 2 _ _ (by omega) ⟨a1'.sI (by unfold kR; omega), a2', by omega, by omega, by simp [gI_sI]; rfl, by rw [e32']; rfl, by simp [gI_sI]; exact e8', by simp [gI_sI]; exact e9', e33', hg'.of (fun _ => rfl) (fun _ => rfl) (fun _ => rfl) (fun _ => rfl) rfl (fun _ => rfl), fun w => absurd w (by decide), fun _ => ?_⟩ (fun Qm n w => nxt Qm n e34 w)
        obtain ⟨q, q3, y1, y2, y3⟩ := hA'
        exact ⟨q, q3, by simp [gI_sI]; exact y1, y2, y3⟩
      · subst er
        have tn : ¬ nI t = 0 := fun z => by have := nE (b := 0) (by omega) (by omega) z; omega
        refine ⟨fun z => absurd z tn, fun _ S3 e3 x4 e4 => ?_⟩
        rw [nI_1] at e4
        subst e3; subst e4
        have trap : ∀ j : Nat, j ≤ 7 → (j = if t = 1 then 7 else t + 1) → qw_run KK M0 (nI k) (nI j) (sI (sI (sI C' 1807 0 3) 1808 0 (gI (sI C' 1807 0 3) 1808 0 + nI (i + 1))) 1809 0 (nI t), f, g) := by
          intro j j7 ej
          have jn : ¬ nI j = 0 := fun z => by
            have := nE (b := 0) (by omega) (by omega) z
            split at ej <;> omega
          unfold qw_run
          refine hr _ 1 ⟨fun z => absurd z nle, fun _ => ⟨fun z => absurd e32 z, fun _ => h9 _ fun x2 ex2 => ⟨fun z => ?_, fun _ S2 e2 S3 e3 => ?_⟩⟩⟩
          · rw [e34] at z
            exact absurd ((nI_leI (b := 0) (by omega) (by omega)).mp z) (by omega)
          · subst e2
            have g34 : gI (sI M' 1932 0 3) 1934 0 = nI t := by simp [gI_sI]; exact e34
            rw [g34] at e3
            subst e3
            have g34' : gI (sI (sI M' 1932 0 3) 1935 0 (nI t)) 1934 0 = nI t := by simp [gI_sI]; exact e34
            have kkT : KK (sI (sI (sI C' 1807 0 3) 1808 0 (gI (sI C' 1807 0 3) 1808 0 + nI (i + 1))) 1809 0 (nI t)) (sI (sI M' 1932 0 3) 1935 0 (nI t)) := by
              refine kk_run (ph' := 3) hc ho (((a1'.sI (by unfold kR; omega)).sI (by unfold kR; omega)).sI (by unfold kR; omega)) ?_ rfl (by omega) ?_ ?_ ?_ ?_ (hg'.of (fun _ => rfl) (fun _ => rfl) (fun _ => rfl) (fun _ => rfl) rfl (fun _ => rfl)) (fun w => absurd w (by decide)) (fun w => absurd w (by decide))
              · refine Ag.sI (Ag.sI (a2'.mono fun k z => Or.inl z) ?_) ?_ <;> unfold kS kYM <;> omega
              · simp [gI_sI]; rfl
              · simp [gI_sI]; rfl
              · simp [gI_sI]; rw [e8', e33']
              · simp [gI_sI]
            rw [g34']
            refine ⟨fun z S4 e4 => ?_, fun z S4 e4 => ?_⟩
            · have z : ¬ t = 1 := nN (b := 1) z
              rw [if_neg z] at ej
              subst ej
              rw [nI_1] at e4
              subst e4
              exact th_bad kkT jn
            · have z : t = 1 := nE (b := 1) (by omega) (by omega) z
              rw [if_pos z] at ej
              subst ej
              subst e4
              exact th_bad kkT jn
        have go82 : wp8_run_82 (nI k) (fun r S' => qw_run KK M0 (nI k) 0 (S', vp_updL f 0 r.toInt64, g)) (fun t S' => ∃ j, cd_run t = some j ∧ qw_run KK M0 (nI k) j (S', f, g)) (nI (i + 1)) (nI t) (sI C' 1807 0 3) := by
          intro S1 e1
          refine ⟨fun z => absurd z tn, fun _ S2 e2 => ?_⟩
          subst e1; subst e2
          refine ⟨fun z => ⟨3, rfl, trap 3 (by omega) ?_⟩, fun z2 => ⟨fun z => ⟨4, rfl, trap 4 (by omega) ?_⟩, fun z3 => ⟨fun z => ⟨5, rfl, trap 5 (by omega) ?_⟩, fun z4 => ⟨fun z => ⟨6, rfl, trap 6 (by omega) ?_⟩, fun z5 => ⟨7, rfl, trap 7 (by omega) ?_⟩⟩⟩⟩⟩
          · have z := nE (b := 2) (by omega) (by omega) z
            subst z; rfl
          · have z := nE (b := 3) (by omega) (by omega) z
            subst z; rfl
          · have z := nE (b := 4) (by omega) (by omega) z
            subst z; rfl
          · have z := nE (b := 5) (by omega) (by omega) z
            subst z; rfl
          · have z2 : ¬ t = 2 := nN (b := 2) z2
            have z3 : ¬ t = 3 := nN (b := 3) z3
            have z4 : ¬ t = 4 := nN (b := 4) z4
            have z5 : ¬ t = 5 := nN (b := 5) z5
            rw [if_pos (by omega)]
        exact ⟨fun _ => go82, fun _ => ⟨fun _ => go82, fun c2 => absurd c2 (by simp [gI_sI])⟩⟩
theorem k_run {C M : St} (h : KK C M) (x1 : Int32) (f : Nat → Int64) (g : Nat → UInt64) : st_run KK C M x1 f g := by
  have hK := h
  obtain ⟨P, ph, ck, a, hc, ho⟩ := h
  obtain ⟨o1, o2, o3, o4, o5, o6, o7, o8, o9, o10, o11, o12, o13⟩ := id ho
  have bad : (x1 < 1 ∨ 20 < x1) → ∃ j, cd_run 1 = some j ∧ qw_run KK M x1 j (C, f, g) := by
    intro z
    refine ⟨1, rfl, ?_⟩
    unfold qw_run wp9_run
    exact m_inQ (fun y1 y2 => absurd z (fun w => w.elim y1 y2)) (fun _ => m_good0 ⟨fun y => absurd rfl y, fun _ => th_bad hK (by decide)⟩)
  unfold st_run wp8_run
  refine ⟨fun z => bad (Or.inl z), fun z => ⟨fun z2 => ?_, fun z2 => bad (Or.inr (Int32.not_le.mp z2))⟩⟩
  obtain ⟨k, hk1, hk20, ek⟩ : ∃ k, 1 ≤ k ∧ k ≤ 20 ∧ x1 = nI k := by
    have m1 : (1 : Int32).toInt = 1 := rfl
    have m8 : (20 : Int32).toInt = 20 := rfl
    have z' := z
    have z2' := z2
    rw [Int32.lt_iff_toInt_lt, m1] at z'
    rw [Int32.le_iff_toInt_le, m8] at z2'
    refine ⟨x1.toInt.toNat, by omega, by omega, ?_⟩
    apply Int32.toInt_inj.mp
    rw [nI_toInt (by omega)]; omega
  subst ek
  have inM : ∀ Q : Int32 → St → Prop, ((¬ nI ph = 1 → wp9_run_31 (nI k) Q 0 (sI M 1939 0 0)) ∧ (nI ph = 1 → wp9_run_31 (nI k) Q 1 (sI M 1939 0 0))) → wp9_run M (nI k) Q := by
    intro Q hQ
    unfold wp9_run
    refine m_inQ (fun _ _ => m_good1 ⟨fun _ => ?_, fun y => absurd y (by decide)⟩) (fun y => absurd y (fun w => w.elim z (Int32.not_lt.mpr z2)))
    rw [show gI (sI M 1939 0 0) 1932 0 = nI ph by simp [gI_sI]; exact o5]
    exact hQ
  rw [o4]
  refine ⟨fun y => ⟨k + 1, ?_⟩, fun y => ⟨2, rfl, ?_⟩⟩
  · have y' := nE (b := 1) (by omega) (by omega) y
    subst y'
    have c1 := o13 rfl
    subst c1
    have aM : Ag (fun k => k = 1939) M (sI (sI M 1939 0 0) 1939 0 0) := Ag.sI (p := fun k => k = 1939) (Ag.sI Ag.rf rfl) rfl
    have hc2 : Kc P 1 1 C (sI (sI M 1939 0 0) 1939 0 0) := hc.ag (Ag.rf (p := fun _ => False)) aM (fun _ _ w => w) (fun k z y => by unfold uM at z; omega) id id id
    have ho2 : Ko 1 1 a C (sI (sI M 1939 0 0) 1939 0 0) := ho.gone Ag.rf aM (fun k z y => by omega)
    refine run_loop (M := sI (sI M 1939 0 0) 1939 0 0) hk20 hc2 ho2 (by simp [gI_sI]) k 0 1 C _ (by omega) ⟨Ag.rf, Ag.rf, by omega, by omega, o4, ?_, rfl, rfl, ?_, hc2.2.2.2.2.1, fun _ => hc2.2.2.2.2.2.2.1 rfl, fun w => absurd w (by decide)⟩ (fun Qm n w => inM _ ⟨fun y2 => absurd y y2, fun _ => m_good1 ⟨fun _ => ⟨n, w⟩, fun y2 => absurd y2 (by decide)⟩⟩)
    · simp [gI_sI]; exact o5
    · simp [gI_sI]; rw [o6]; show _ = _ + 0; simp
  · unfold qw_run
    exact inM _ ⟨fun _ => m_good0 ⟨fun y2 => absurd rfl y2, fun _ => th_bad (hK.th 0) (by decide)⟩, fun y2 => absurd y2 y⟩
