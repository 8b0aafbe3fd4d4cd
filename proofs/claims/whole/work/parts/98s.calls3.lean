/-! PURE: the calls, one by one: wipe, fault, check -/
def cz (mem : Nat → Int32) : Nat → Nat
  | 0 => 0
  | i + 1 => cz mem i + (if mem i = 0 then 0 else 1)
theorem cz_le (mem : Nat → Int32) : ∀ i, cz mem i ≤ i := by
  intro i
  induction i with
  | zero => exact Nat.le_refl _
  | succ i ih =>
    show cz mem i + (if mem i = 0 then 0 else 1) ≤ i + 1
    split <;> omega
theorem cz_congr {m1 m2 : Nat → Int32} : ∀ i, (∀ x, x < i → m1 x = m2 x) → cz m1 i = cz m2 i := by
  intro i
  induction i with
  | zero => intro _; rfl
  | succ i ih =>
    intro h
    show cz m1 i + (if m1 i = 0 then 0 else 1) = cz m2 i + (if m2 i = 0 then 0 else 1)
    rw [ih (fun x hx => h x (by omega)), h i (by omega)]
def Wip (k : Nat) (S S' : St) (i : Nat) : Prop := Ag (fun z => z = k) S S' ∧ ∀ q, gA S' k 0 q = if q < i then 0 else gA S k 0 q
theorem c_wipe {S : St} {Q : Int32 → St → Prop} (kk : ∀ S', Wip 1700 S S' 64 → Q (nI (cz (gA S 1700 0) 64)) S') : ∀ (m i : Nat) (S1 : St), m + i = 64 → Wip 1700 S S1 i → wp7_clear_4 Q (m + 1) (nI (cz (gA S 1700 0) i)) (nI i) S1 := by
  intro m
  induction m with
  | zero =>
    intro i S1 hm hs
    have e : i = 64 := by omega
    subst e
    exact ⟨fun _ => kk S1 hs, fun c => absurd (by decide) c⟩
  | succ m ih =>
    intro i S1 hm hs
    have nx : ∀ S2, Wip 1700 S S2 (i + 1) → ∀ x, x = nI (cz (gA S 1700 0) (i + 1)) → wp7_clear_29 (fun k0 k1 S9 => wp7_clear_4 Q (m + 1) k0 k1 S9) Q x (nI i) S2 := by
      intro S2 h2 x ex x2 e2
      rw [nI_1] at e2
      subst ex; subst e2
      exact ih (i + 1) S2 (by omega) h2
    refine ⟨fun c => absurd ((nI_leI (a := 64) (by omega) (by omega)).mp c) (by omega), fun _ => ?_⟩
    rw [nI_clamp (by omega)]
    have e0 : gA S1 1700 0 i = gA S 1700 0 i := by rw [hs.2, if_neg (by omega)]
    refine ⟨vp_in_nI (by omega) (by omega), fun z => ?_, fun z x1 e1 => ⟨vp_in_nI (by omega) (by omega), fun S2 e2 => ?_⟩⟩
    · rw [e0] at z
      refine nx S1 ⟨hs.1, fun q => ?_⟩ _ ?_
      · rw [hs.2]
        by_cases y : q = i
        · subst y; rw [if_neg (by omega), if_pos (by omega), z]
        · by_cases w : q < i
          · rw [if_pos w, if_pos (by omega)]
          · rw [if_neg w, if_neg (by omega)]
      · show _ = nI (cz (gA S 1700 0) i + (if gA S 1700 0 i = 0 then 0 else 1))
        rw [if_pos z]; rfl
    · rw [e0] at z
      subst e2
      refine nx _ ⟨hs.1.sA rfl, fun q => ?_⟩ _ ?_
      · rw [gA_sA]
        by_cases y : q = i
        · rw [if_pos ⟨rfl, rfl, y⟩, if_pos (by omega)]
        · rw [if_neg (fun w => y w.2.2), hs.2]
          by_cases w : q < i
          · rw [if_pos w, if_pos (by omega)]
          · rw [if_neg w, if_neg (by omega)]
      · rw [e1, nI_1]
        show _ = nI (cz (gA S 1700 0) i + (if gA S 1700 0 i = 0 then 0 else 1))
        rw [if_neg z]
theorem m_wipe {S : St} {Q : Int32 → St → Prop} (kk : ∀ S', Wip 1907 S S' 64 → Q (nI (cz (gA S 1907 0) 64)) (sF (sJ (sJ S' 1908 0 0 0) 1908 0 1 0) 1909 0 FP.dconst0)) : ∀ (m i : Nat) (S1 : St), m + i = 64 → Wip 1907 S S1 i → wp9_wipe_27 Q (m + 1) (nI (cz (gA S 1907 0) i)) (nI i) S1 := by
  intro m
  induction m with
  | zero =>
    intro i S1 hm hs
    have e : i = 64 := by omega
    subst e
    refine ⟨fun _ S2 e2 S3 e3 S4 e4 => ?_, fun c => absurd (by decide) c⟩
    subst e2; subst e3; subst e4
    exact kk S1 hs
  | succ m ih =>
    intro i S1 hm hs
    have nx : ∀ x, x = nI (cz (gA S 1907 0) (i + 1)) → wp9_wipe_45 (fun k0 k1 S9 => wp9_wipe_27 Q (m + 1) k0 k1 S9) Q x (nI i) S1 := by
      intro x ex
      unfold wp9_wipe_45
      rw [nI_clamp (by omega)]
      refine ⟨vp_in_nI (by omega) (by omega), fun S2 e2 x2 ex2 => ?_⟩
      rw [nI_1] at ex2
      subst ex; subst e2; subst ex2
      refine ih (i + 1) _ (by omega) ⟨hs.1.sA rfl, fun q => ?_⟩
      rw [gA_sA]
      by_cases y : q = i
      · rw [if_pos ⟨rfl, rfl, y⟩, if_pos (by omega)]
      · rw [if_neg (fun w => y w.2.2), hs.2]
        by_cases w : q < i
        · rw [if_pos w, if_pos (by omega)]
        · rw [if_neg w, if_neg (by omega)]
    refine ⟨fun c => absurd ((nI_leI (a := 64) (by omega) (by omega)).mp c) (by omega), fun _ => ?_⟩
    rw [nI_clamp (by omega)]
    have e0 : gA S1 1907 0 i = gA S 1907 0 i := by rw [hs.2, if_neg (by omega)]
    refine ⟨vp_in_nI (by omega) (by omega), fun z => ?_, fun z x1 e1 => ?_⟩
    · rw [e0] at z
      refine nx _ ?_
      show _ = nI (cz (gA S 1907 0) i + (if gA S 1907 0 i = 0 then 0 else 1))
      rw [if_pos z]; rfl
    · rw [e0] at z
      refine nx _ ?_
      rw [e1, nI_1]
      show _ = nI (cz (gA S 1907 0) i + (if gA S 1907 0 i = 0 then 0 else 1))
      rw [if_neg z]
theorem k_wipe {C M : St} (h : KK C M) (f : Nat → Int64) (g : Nat → UInt64) : st_wipe KK C M f g := by
  have hK := h
  obtain ⟨P, ph, ck, a, hc, ho⟩ := h
  obtain ⟨o1, o2, o3, o4, o5, o6, o7, o8, o9, o10, o11, o12, o13⟩ := id ho
  unfold st_wipe wp8_wipe
  rw [o4]
  refine ⟨fun z => ?_, fun z => ?_⟩
  · have z := nN (b := 1) z
    refine c_clear fun C1 hcl => ⟨65, c_wipe (fun C2 hw2 => ?_) 64 0 C1 (by omega) ⟨Ag.rf, fun q => by rw [if_neg (by omega)]⟩⟩
    unfold qw_wipe wp9_wipe wp9_wipe_14
    rw [o5]
    refine ⟨fun y => absurd (nE (b := 1) (by omega) (by omega) y) z, fun _ => m_good1 ⟨fun _ => ⟨65, m_wipe (S := sI M 1939 0 0) (fun M2 hm2 => ?_) 64 0 _ (by omega) ⟨Ag.rf, fun q => by rw [if_neg (by omega)]⟩⟩, fun y => absurd y (by decide)⟩⟩
    obtain ⟨hw, hPC, hPM, hT, hg, hS, hX, hA, hN⟩ := hc
    obtain ⟨c1, c2, c3, c4⟩ := hcl
    have aC : Ag (fun k => k = 1100 ∨ k = 1101 ∨ k = 1102 ∨ k = 1700) C C2 := (c1.mono fun k w => by omega).tr (hw2.1.mono fun k w => by omega)
    have aM : Ag (fun k => k = 1939 ∨ k = 1907 ∨ k = 1908 ∨ k = 1909) M (sF (sJ (sJ M2 1908 0 0 0) 1908 0 1 0) 1909 0 FP.dconst0) := by
      refine (((Ag.tr (Ag.rf.sI (Or.inl rfl)) (hm2.1.mono fun k w => ?_)).sJ (by omega)).sJ (by omega)).sF (by omega)
      exact Or.inr (Or.inl w)
    have vals : ∀ i, i < 3 → gJ C2 1100 12 i = 0 ∧ gD C2 1101 12 i = FP.dconst0 := by
      intro i hi
      rw [hw2.1.gJ (by decide), hw2.1.gD (by decide)]
      exact c4 i (by rw [cells12]; exact hi)
    refine th_good ⟨P, ph, ck, a, ⟨hw, hPC.ag aC (fun k w => by omega), hPM.ag aM (fun k w1 w2 => by omega), fun q hq => ?_, ⟨?_, ?_, ?_, fun i hi => ⟨0, by omega, ?_, ?_⟩⟩, ⟨?_, fun i hi => ?_⟩, fun w => absurd w z, fun w => ?_, fun w fn hfn hL => ?_⟩, ⟨o1, o2, o3, ?_, ?_, ?_, ?_, ?_, ?_, fun i hi => ?_, ?_, ?_, fun w => absurd w z⟩⟩ ?_ ?_
    · rw [aC.gA (by decide), aM.gA (by decide)]; exact hT q hq
    · rw [(vals 0 (by omega)).1]
      simp [gJ_sF, gJ_sJ]
      exact mkV1 0 0 0 rfl
    · rw [(vals 1 (by omega)).1]
      simp [gJ_sF, gJ_sJ]
      exact mkV2 0 0 0
    · rw [(vals 2 (by omega)).2]
      simp [gF_sF]
      exact mkV3 0 0 _ fin_0
    · rw [hw2.2, if_pos hi]; rfl
    · show gA M2 1907 0 i = _
      rw [hm2.2, if_pos hi]; rfl
    · rw [aC.gR (by decide)]; exact hS.1
    · rw [aC.gI (by decide)]; exact hS.2 i hi
    · obtain ⟨k, k3, a1, a2, a3⟩ := hA w
      refine ⟨k, k3, ?_, ?_, fun y => ?_⟩
      · rw [aC.gI (by decide)]; exact a1
      · rw [aM.gI (by decide)]; exact a2
      · rw [hw2.1.gJ (by decide), hw2.1.gD (by decide), (c3 13 0 (by decide)).1, (c3 13 0 (by decide)).2, aM.gL (by decide), aM.gF (by decide)]
        exact a3 y
    · obtain ⟨b1, N, b2⟩ := hN w fn hfn hL
      refine ⟨b1, N, fun i hi => ?_⟩
      rw [aC.gA (by decide), aC.gA (k := 1403) (by decide)]
      exact b2 i hi
    · rw [aC.gI (by decide)]; exact o4
    · rw [aM.gI (by decide)]; exact o5
    · rw [aC.gI (by decide), aM.gI (by decide)]; exact o6
    · rw [aC.gI (by decide), aM.gI (by decide)]; exact o7
    · rw [aC.gI (by decide)]; exact o8
    · rw [aM.gI (by decide)]; exact o9
    · rw [aC.gA (by decide), aM.gA (by decide)]; exact o10 i hi
    · rw [aC.gI (by decide)]; exact o11
    · rw [aM.gI (by decide)]; exact o12
    · simp [gI_sF, gI_sJ]
      rw [hm2.1.gI (by decide)]
      simp [gI_sI]
    · show (nI (cz (gA C1 1700 0) 64)).toInt64 = (nI (cz (gA (sI M 1939 0 0) 1907 0) 64)).toInt64
      rw [cz_congr (m1 := gA C1 1700 0) (m2 := gA (sI M 1939 0 0) 1907 0) 64 fun x hx => ?_]
      rw [c1.gA (by decide)]
      obtain ⟨n, _, e1, e2⟩ := hg.2.2.2 x hx
      show _ = gA M 1907 0 x
      rw [e1, e2]
  · have z := nE (b := 1) (by omega) (by omega) z
    refine ⟨1, rfl, ?_⟩
    unfold qw_wipe wp9_wipe wp9_wipe_14
    rw [o5]
    exact ⟨fun _ => m_good0 ⟨fun y => absurd rfl y, fun _ => th_bad hK (by decide)⟩, fun y => absurd (by rw [z]; rfl) y⟩
theorem go_le {P : Prog} {f : Nat} : ∀ (n pc : Nat) (s : SB) (p : Nat), pL P f < pc + n → pc ≤ pL P f → go P f n pc s = some p → p ≤ pL P f := by
  intro n
  induction n with
  | zero => intro pc s p h1 h2; omega
  | succ n ih =>
    intro pc s p h1 h2 h
    unfold go at h
    have hz := szI_pos P f pc
    split at h
    · split at h
      · cases h
      · cases h; exact Nat.le_refl _
    · split at h
      · cases h; exact h2
      · split at h
        · cases h; exact Nat.le_refl _
        · split at h
          · exact ih _ _ p (by omega) (by omega) h
          · cases h; exact h2
theorem chk_le {P : Prog} (hw : PW P) {f p : Nat} (hf : f < 6) (h : chk P f = some p) : p ≤ 60 := by
  have hl := (hw f hf).2.2.2.2.1
  have := go_le 61 0 _ p (by omega) (by omega) h
  omega
theorem nio_m1 (P : Prog) (hw : PW P) {f : Nat} (hf : f < 6) : nio (chk P f) = -1 ↔ chk P f = none := by
  cases h : chk P f with
  | none => exact ⟨fun _ => rfl, fun _ => rfl⟩
  | some p =>
    refine ⟨fun e => ?_, fun e => by cases e⟩
    exfalso
    have hp := chk_le hw hf h
    have e : nI p = -1 := e
    have e := congrArg Int32.toInt e
    rw [nI_toInt (by omega)] at e
    have m1 : (-1 : Int32).toInt = -1 := rfl
    rw [m1] at e
    omega
