/-! PURE: the calls, one by one: code -/
/-- the class with n - k bytes put behind -/
def CpC (S S' : St) (f L n k : Nat) (x : Int64) : Prop := Ag (fun z => z = 1401 ∨ z = 1407) S S' ∧ (∀ g i, gA S' 1401 g i = if g = f ∧ L ≤ i ∧ i < L + (n - k) then byt x (n - 1 - (i - L)) else gA S 1401 g i) ∧ ∀ g, gI S' 1407 g = if g = f then nI (L + (n - k)) else gI S 1407 g
theorem c_code80 {S : St} {x : Int64} {x4 : Int32} {f L n : Nat} {Q : Int32 → St → Prop} {T : Nat → St → Prop} (hf : f < 6) (hn : n ≤ 8) (hL : L + n ≤ 60) (kk : ∀ S', CpC S S' f L n 0 x → Q (nI (L + n)) S') : ∀ (k : Nat) (S1 : St), k ≤ n → CpC S S1 f L n k x → wp8_code_80 (nI f) x x4 Q T (k + 1) (nI k - 1) S1 := by
  intro k
  induction k with
  | zero =>
    intro S1 hk hs
    refine ⟨fun _ => ⟨vp_in_nI hf (by omega), ?_⟩, fun c => absurd (by decide) c⟩
    unfold wp4_length
    rw [nI_clamp (by omega), hs.2.2, if_pos rfl]
    exact kk S1 hs
  | succ k ih =>
    intro S1 hk hs
    rw [show nI (k + 1) - 1 = nI k from nI_dec (a := k + 1) (by omega)]
    refine ⟨fun c => absurd c (nI_pos (by omega)), fun _ => ⟨vp_in_nI hf (by omega), ?_⟩⟩
    rw [nI_clamp (by omega), l8, nI_mul, l_byte x (by omega)]
    have hlen : gI S1 1407 f = nI (L + (n - (k + 1))) := by rw [hs.2.2, if_pos rfl]
    unfold wp4_append
    rw [hlen]
    refine ⟨fun c => absurd ((nI_leI (a := 60) (by omega) (by omega)).mp c) (by omega), fun _ => ⟨vp_in_nI (by omega) (by omega), fun S2 e2 S3 e3 x5 e5 => ?_⟩⟩
    rw [nI_clamp (by omega)] at e2
    subst e2
    rw [show gI (sA S1 1401 f (L + (n - (k + 1))) ((jlshr x (nI (8 * k))).toInt32 &&& 255)) 1407 f = nI (L + (n - (k + 1))) from hlen, nI_1] at e3
    subst e3
    rw [← Int32.sub_eq_add_neg] at e5
    subst e5
    refine ih _ (by omega) ⟨(hs.1.sA (by omega)).sI (by omega), fun g i => ?_, fun g => ?_⟩
    · simp only [gA_sI, gA_sA, true_and]
      by_cases z : g = f ∧ i = L + (n - (k + 1))
      · rw [if_pos z, if_pos (by omega), show n - 1 - (i - L) = k by omega]; rfl
      · rw [if_neg z, hs.2.1]
        by_cases y : g = f ∧ L ≤ i ∧ i < L + (n - (k + 1))
        · rw [if_pos y, if_pos (by omega)]
        · rw [if_neg y, if_neg (by omega)]
    · simp only [gI_sI, gI_sA, true_and]
      by_cases z : g = f
      · rw [if_pos z, if_pos z, show L + (n - (k + 1)) + 1 = L + (n - k) by omega]
      · rw [if_neg z, if_neg z, hs.2.2, if_neg z]
def CpM (S S' : St) (f L n k : Nat) (x : Int64) : Prop := Ag (fun z => z = 1904 ∨ z = 1905) S S' ∧ (∀ i, gA S' 1904 0 i = if 60 * f + L ≤ i ∧ i < 60 * f + L + (n - k) then byt x (n - 1 - (i - (60 * f + L))) else gA S 1904 0 i) ∧ ∀ g, gA S' 1905 0 g = if g = f then nI (L + (n - k)) else gA S 1905 0 g
theorem m_code93 {S : St} {x : Int64} {x4 : Int32} {f L n : Nat} {Q : Int32 → St → Prop} (hf : f < 6) (hn : n ≤ 8) (hL : L + n ≤ 60) (kk : ∀ S', CpM S S' f L n 0 x → Q (nI (L + n)) (sI S' 1912 0 0)) : ∀ (k : Nat) (S1 : St), k ≤ n → CpM S S1 f L n k x → wp9_code_93 (nI f) x x4 Q (k + 1) (nI k - 1) S1 := by
  intro k
  induction k with
  | zero =>
    intro S1 hk hs
    refine ⟨fun _ S2 e2 => ⟨vp_in_nI hf (by omega), ?_⟩, fun c => absurd (by decide) c⟩
    subst e2
    rw [nI_clamp (by omega), show gA (sI S1 1912 0 0) 1905 0 f = nI (L + (n - 0)) from by
      show gA S1 1905 0 f = _
      rw [hs.2.2, if_pos rfl]]
    exact kk S1 hs
  | succ k ih =>
    intro S1 hk hs
    rw [show nI (k + 1) - 1 = nI k from nI_dec (a := k + 1) (by omega)]
    have hlen : gA S1 1905 0 f = nI (L + (n - (k + 1))) := by rw [hs.2.2, if_pos rfl]
    refine ⟨fun c => absurd c (nI_pos (by omega)), fun _ => ⟨vp_in_nI hf (by omega), ?_⟩⟩
    have l60' : (60 : Int32) * nI f = nI (60 * f) := nI_mul 60 f
    have l8' : (8 : Int32) * nI k = nI (8 * k) := nI_mul 8 k
    rw [nI_clamp (by omega), hlen, l60', l8', nI_add, nI_clamp (by omega)]
    refine ⟨vp_in_nI (by omega) (by omega), fun S2 e2 => ⟨vp_in_nI hf (by omega), vp_in_nI hf (by omega), fun S3 e3 x5 e5 => ?_⟩⟩
    subst e2
    have hlen2 : gA (sA S1 1904 0 (60 * f + (L + (n - (k + 1)))) ((jlshr x (nI (8 * k))).toInt32 &&& 255)) 1905 0 f = nI (L + (n - (k + 1))) := by
      simp (decide := true) only [gA_sA, false_and, if_false]
      exact hlen
    rw [hlen2, nI_1] at e3
    subst e3
    rw [← Int32.sub_eq_add_neg] at e5
    subst e5
    refine ih _ (by omega) ⟨(hs.1.sA (by omega)).sA (by omega), fun i => ?_, fun g => ?_⟩
    · simp (decide := true) only [gA_sA, false_and, if_false, true_and]
      by_cases z : i = 60 * f + (L + (n - (k + 1)))
      · rw [if_pos z, if_pos (by omega), show n - 1 - (i - (60 * f + L)) = k by omega]; rfl
      · rw [if_neg z, hs.2.1]
        by_cases y : 60 * f + L ≤ i ∧ i < 60 * f + L + (n - (k + 1))
        · rw [if_pos y, if_pos (by omega)]
        · rw [if_neg y, if_neg (by omega)]
    · simp (decide := true) only [gA_sA, false_and, if_false, true_and]
      by_cases z : g = f
      · rw [if_pos z, if_pos z, show L + (n - (k + 1)) + 1 = L + (n - k) by omega]
      · rw [if_neg z, if_neg z, hs.2.2, if_neg z]
theorem byt_n (x : Int64) (i : Nat) : (byt x i).toNatClampNeg < 256 ∧ byt x i = nI (byt x i).toNatClampNeg := by
  obtain ⟨n, hn, e⟩ := byt_lt x i
  rw [e, nI_clamp (by omega)]
  exact ⟨hn, rfl⟩
def Pcode (P : Prog) (f n : Nat) (x : Int64) : Prog := (P.1, P.2.1, P.2.2.1, P.2.2.2.1, fun g i => if g = f ∧ pL P f ≤ i then (byt x (n - 1 - (i - pL P f))).toNatClampNeg else pC P g i, fun g => if g = f then pL P f + n else pL P g)
theorem k_code {C M : St} (h : KK C M) (x1 : Int32) (x2 : Int64) (x4 : Int32) (f : Nat → Int64) (g : Nat → UInt64) : st_code KK C M x1 x2 x4 f g := by
  have hK := h
  obtain ⟨P, ph, ck, a, hc, ho⟩ := h
  have hc' := hc
  obtain ⟨hw, hPC, hPM, hT, hg, hS, hX, hA, hN⟩ := hc'
  obtain ⟨o1, o2, o3, o4, o5, o6, o7, o8, o9, o10, o11, o12, o13⟩ := id ho
  have bad : (x1 < 0 ∨ nI 5 < x1 ∨ x4 < 1 ∨ nI 8 < x4) → ∃ j, cd_code 1 = some j ∧ qw_code KK M x1 x2 x4 j (C, f, g) := by
    intro z
    refine ⟨1, rfl, ?_⟩
    have b26 : wp9_code_26 x1 x2 x4 (fun rb M' => wp9_thrown M' (fun th M2 => th = 1 ∧ ((1 : Int32) = 0 → f 0 = rb.toInt64) ∧ KK C M2)) 0 M :=
      m_good0 ⟨fun y => absurd rfl y, fun _ => th_bad hK (by decide)⟩
    unfold qw_code wp9_code
    refine m_inQ (fun y1 y2 => ⟨fun y => absurd y (by decide), fun _ => m_inQ (fun y3 y4 => ?_) (fun _ => ⟨fun _ => b26, fun y => absurd rfl y⟩)⟩) (fun _ => ⟨fun _ => b26, fun y => absurd rfl y⟩)
    exact absurd z (fun w => w.elim y1 (fun w => w.elim y2 (fun w => w.elim y3 y4)))
  unfold st_code wp8_code
  refine ⟨fun z => ⟨fun _ => bad (Or.inl z), fun w => absurd rfl w⟩, fun z => ⟨fun z2 => ⟨fun _ => bad (Or.inr (Or.inl ?_)), fun w => absurd rfl w⟩, fun z2 => ⟨fun w => absurd w (by decide), fun _ => ⟨fun z3 => bad (Or.inr (Or.inr (Or.inl z3))), fun z3 => ⟨fun z4 => ?_, fun z4 => bad (Or.inr (Or.inr (Or.inr (Int32.not_le.mp z4))))⟩⟩⟩⟩⟩
  · have m1 : (6 : Int32).toInt = 6 := rfl
    rw [Int32.le_iff_toInt_le, m1] at z2
    rw [Int32.lt_iff_toInt_lt, nI_toInt (by omega)]; omega
  · obtain ⟨i, hi, ei⟩ := inr' (n := 6) (by omega) z z2
    subst ei
    obtain ⟨n, hn1, hn8, en⟩ : ∃ n, 1 ≤ n ∧ n ≤ 8 ∧ x4 = nI n := by
      have m1 : (1 : Int32).toInt = 1 := rfl
      have m8 : (8 : Int32).toInt = 8 := rfl
      have z3' := z3
      have z4' := z4
      rw [Int32.lt_iff_toInt_lt, m1] at z3'
      rw [Int32.le_iff_toInt_le, m8] at z4'
      refine ⟨x4.toInt.toNat, by omega, by omega, ?_⟩
      apply Int32.toInt_inj.mp
      rw [nI_toInt (by omega)]; omega
    subst en
    -- the reference's way in
    have inM : ∀ Q : Int32 → St → Prop, ((gI (sI M 1939 0 0) 1932 0 = 1 → wp9_code_49 (nI i) x2 (nI n) Q 0 (sI M 1939 0 0)) ∧ (¬ gI (sI M 1939 0 0) 1932 0 = 1 → wp9_code_49 (nI i) x2 (nI n) Q 1 (sI M 1939 0 0))) → wp9_code M (nI i) x2 (nI n) Q := by
      intro Q hQ
      unfold wp9_code
      refine m_inQ (fun _ _ => ⟨fun y => absurd y (by decide), fun _ => m_inQ (fun _ _ => ⟨fun y => absurd y (by decide), fun _ => m_good1 ⟨fun _ => hQ, fun y => absurd y (by decide)⟩⟩) (fun y => absurd y (fun w => w.elim z3 (Int32.not_lt.mpr z4)))⟩) (fun y => absurd y (fun w => w.elim z (fun w => absurd ((nI_ltI (a := 5) (by omega) (by omega)).mp w) (by omega))))
    have x32 : gI (sI M 1939 0 0) 1932 0 = nI ph := by simp [gI_sI]; exact o5
    have hl := (hw i hi).2.2.2.2.1
    show (¬ gI C 1807 0 = 1 → _) ∧ (gI C 1807 0 = 1 → _)
    rw [o4]
    refine ⟨fun y => ⟨vp_in_nI hi (by omega), ?_⟩, fun y => ?_⟩
    · have y' := nN (b := 1) y
      unfold wp4_length
      rw [nI_clamp (by omega), (hPC i hi).2.2.2.1]
      show (nI (pL P i) + nI n ≤ 60 → _) ∧ (¬ nI (pL P i) + nI n ≤ 60 → _)
      rw [nI_add]
      have inM2 : ∀ Q : Int32 → St → Prop, ((60 < nI (pL P i + n) → wp9_code_78 (nI i) x2 (nI n) Q 0 (sI (sI M 1939 0 0) 1939 0 0)) ∧ (¬ 60 < nI (pL P i + n) → wp9_code_78 (nI i) x2 (nI n) Q 1 (sI (sI M 1939 0 0) 1939 0 0))) → wp9_code M (nI i) x2 (nI n) Q := by
        intro Q hQ
        refine inM Q ?_
        rw [x32]
        refine ⟨fun w => absurd w y, fun _ => m_good1 ⟨fun _ => ⟨vp_in_nI hi (by omega), ?_⟩, fun w => absurd w (by decide)⟩⟩
        rw [nI_clamp (by omega), show gA (sI (sI M 1939 0 0) 1939 0 0) 1905 0 i = nI (pL P i) from (hPM i hi).2.2.2.1, nI_add]
        exact hQ
      refine ⟨fun w => ?_, fun w => ?_⟩
      · have w' := (nI_leI (b := 60) (by omega) (by omega)).mp w
        intro S3 e3 x5 e5
        subst e3; subst e5
        have hb0 : CpC (sI C 1806 0 0) (sI C 1806 0 0) i (pL P i) n n x2 := by
          refine ⟨Ag.rf, fun g q => by rw [if_neg (by omega)], fun g => ?_⟩
          by_cases v : g = i
          · rw [if_pos v, v]; simp [gI_sI]; exact (hPC i hi).2.2.2.1
          · rw [if_neg v]
        refine ⟨n + 1, c_code80 hi hn8 (by omega) (fun S' hs => ?_) n _ (Nat.le_refl _) hb0⟩
        unfold qw_code
        refine inM2 _ ⟨fun v => absurd ((nI_ltI (a := 60) (by omega) (by omega)).mp v) (by omega), fun _ => m_good1 ⟨fun _ x6 ex6 => ?_, fun v => absurd v (by decide)⟩⟩
        subst ex6
        have hm0 : CpM (sI (sI (sI M 1939 0 0) 1939 0 0) 1939 0 0) (sI (sI (sI M 1939 0 0) 1939 0 0) 1939 0 0) i (pL P i) n n x2 := by
          refine ⟨Ag.rf, fun q => by rw [if_neg (by omega)], fun g => ?_⟩
          by_cases v : g = i
          · rw [if_pos v, v, Nat.sub_self, Nat.add_zero]; exact (hPM i hi).2.2.2.1
          · rw [if_neg v]
        refine ⟨n + 1, m_code93 hi hn8 (by omega) (fun M' hm => ?_) n _ (Nat.le_refl _) hm0⟩
        obtain ⟨s1, s2, s3⟩ := hs
        obtain ⟨t1, t2, t3⟩ := hm
        have aC : Ag (fun k => k = 1806 ∨ k = 1401 ∨ k = 1407) C S' := (Ag.rf.sI (Or.inl rfl)).tr (s1.mono fun k v => by omega)
        have aM : Ag (fun k => k = 1939 ∨ k = 1904 ∨ k = 1905 ∨ k = 1912) M (sI M' 1912 0 0) := by
          refine Ag.sI ?_ (by omega)
          exact (((Ag.rf.sI (Or.inl rfl)).sI (Or.inl rfl)).sI (Or.inl rfl)).tr (t1.mono fun k v => by omega)
        have pn' : ∀ f, pN (Pcode P i n x2) f = pN P f := fun f => rfl
        have pv' : ∀ f, pV (Pcode P i n x2) f = pV P f := fun f => rfl
        have pr' : ∀ f, pR (Pcode P i n x2) f = pR P f := fun f => rfl
        have pk' : ∀ f v, pK (Pcode P i n x2) f v = pK P f v := fun f v => rfl
        have pl' : ∀ f, pL (Pcode P i n x2) f = if f = i then pL P i + n else pL P f := fun f => rfl
        have pc' : ∀ f q, pC (Pcode P i n x2) f q = if f = i ∧ pL P i ≤ q then (byt x2 (n - 1 - (q - pL P i))).toNatClampNeg else pC P f q := fun f q => rfl
        refine th_good ⟨Pcode P i n x2, ph, 0, a, ⟨fun fn hfn => ?_, fun fn hfn => ?_, fun fn hfn => ?_, fun q hq => ?_, hg.of (fun q => aC.gJ (by decide) _ _) (fun q => aC.gD (by decide) _ _) (fun q => aC.gA (by decide) _ _) (fun q => aM.gJ (by decide) _ _) (aM.gF (by decide) _) (fun q => aM.gA (by decide) _ _), ⟨?_, fun q hq => ?_⟩, fun v => absurd v y', fun v => ?_, fun v => absurd v (by decide)⟩, ⟨o1, by omega, o3, ?_, ?_, ?_, ?_, ?_, ?_, fun q hq => ?_, ?_, ?_, fun v => absurd v y'⟩⟩ ?_ rfl
        · obtain ⟨w1, w2, w3, w4, w5, w6, w7⟩ := hw fn hfn
          refine ⟨w1, w2, w3, w4, ?_, w6, fun q hq => ?_⟩
          · rw [pl']
            split
            · omega
            · exact w5
          · rw [pl'] at hq
            rw [pc']
            by_cases v : fn = i ∧ pL P i ≤ q
            · rw [if_pos v]; exact (byt_n _ _).1
            · rw [if_neg v]
              by_cases u : fn = i
              · rw [if_pos u] at hq; subst u; exact w7 q (by omega)
              · rw [if_neg u] at hq; exact w7 q hq
        · obtain ⟨b1, b2, b3, b4, b5, b6⟩ := hPC fn hfn
          rw [pn', pv', pr', pl', aC.gI (by decide), aC.gI (k := 1405) (by decide), aC.gI (k := 1406) (by decide)]
          refine ⟨b1, b2, b3, ?_, fun v hv => ?_, fun q hq => ?_⟩
          · rw [s3]
            by_cases u : fn = i
            · rw [if_pos u, if_pos u]; rfl
            · rw [if_neg u, if_neg u]; simp [gI_sI]; exact b4
          · rw [aC.gA (by decide)]; exact b5 v hv
          · rw [s2, pc']
            by_cases u : fn = i ∧ pL P i ≤ q
            · rw [if_pos u.1] at hq
              rw [if_pos u, if_pos ⟨u.1, u.2, by omega⟩]
              exact (byt_n _ _).2
            · rw [if_neg u, if_neg (fun v => u ⟨v.1, v.2.1⟩)]
              show gA C 1401 fn q = _
              refine b6 q ?_
              by_cases u2 : fn = i
              · subst u2; omega
              · rw [if_neg u2] at hq; exact hq
        · obtain ⟨b1, b2, b3, b4, b5, b6⟩ := hPM fn hfn
          rw [pn', pv', pr', pl', aM.gA (by decide), aM.gA (k := 1902) (by decide), aM.gA (k := 1903) (by decide)]
          refine ⟨b1, b2, b3, ?_, fun v hv => ?_, fun q hq => ?_⟩
          · show gA M' 1905 0 fn = _
            rw [t3]
            by_cases u : fn = i
            · rw [if_pos u, if_pos u]; rfl
            · rw [if_neg u, if_neg u]; exact b4
          · rw [aM.gA (by decide)]; exact b5 v hv
          · show gA M' 1904 0 (60 * fn + q) = _
            have q60 : q < 60 := by
              by_cases u : fn = i
              · rw [if_pos u] at hq; omega
              · rw [if_neg u] at hq
                have := (hw fn hfn).2.2.2.2.1
                omega
            rw [t2, pc']
            by_cases u : fn = i ∧ pL P i ≤ q
            · rw [if_pos u.1] at hq
              obtain ⟨u1, u2⟩ := u
              subst u1
              rw [if_pos (by omega), if_pos ⟨rfl, u2⟩, show 60 * fn + q - (60 * fn + pL P fn) = q - pL P fn by omega]
              exact (byt_n _ _).2
            · rw [if_neg u, if_neg (fun v => u (by omega))]
              show gA M 1904 0 (60 * fn + q) = _
              refine b6 q ?_
              by_cases u2 : fn = i
              · subst u2; omega
              · rw [if_neg u2] at hq; exact hq
        · rw [aC.gA (by decide), aM.gA (by decide)]; exact hT q hq
        · rw [aC.gR (by decide)]; exact hS.1
        · rw [aC.gI (by decide)]; exact hS.2 q hq
        · obtain ⟨k, k3, a1, a2, a3⟩ := hA v
          refine ⟨k, k3, ?_, ?_, fun v2 => ?_⟩
          · rw [aC.gI (by decide)]; exact a1
          · rw [aM.gI (by decide)]; exact a2
          · rw [aC.gJ (by decide), aC.gD (by decide), aM.gL (by decide), aM.gF (by decide)]; exact a3 v2
        · rw [aC.gI (by decide)]; exact o4
        · rw [aM.gI (by decide)]; exact o5
        · rw [aC.gI (by decide), aM.gI (by decide)]; exact o6
        · rw [aC.gI (by decide), aM.gI (by decide)]; exact o7
        · rw [aC.gI (by decide)]; exact o8
        · rw [aM.gI (by decide)]; exact o9
        · rw [aC.gA (by decide), aM.gA (by decide)]; exact o10 q hq
        · rw [s1.gI (by decide)]; simp [gI_sI]; rfl
        · simp [gI_sI]; rfl
        · simp [gI_sI]; rw [t1.gI (by decide)]; simp [gI_sI]
      · have w' : ¬ pL P i + n ≤ 60 := fun v => w ((nI_leI (b := 60) (by omega) (by omega)).mpr v)
        refine ⟨3, rfl, ?_⟩
        unfold qw_code
        exact inM2 _ ⟨fun _ => m_good0 ⟨fun v => absurd rfl v, fun _ => th_bad ((hK.th 0).th 0) (by decide)⟩, fun v => absurd ((nI_ltI (a := 60) (by omega) (by omega)).mpr (by omega)) v⟩
    · have y' := nE (b := 1) (by omega) (by omega) y
      refine ⟨2, rfl, ?_⟩
      unfold qw_code
      refine inM _ ?_
      rw [x32]
      exact ⟨fun _ => m_good0 ⟨fun v => absurd rfl v, fun _ => th_bad (hK.th 0) (by decide)⟩, fun v => absurd y v⟩
