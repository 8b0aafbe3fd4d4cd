/-! PURE: calls: the pieces on both sides -/
theorem b_tks {P : Prog} {g : Nat} : ∀ (n : Nat) (s : SB), qb (tks P g n s) = 0 → qb s = 0 := by
  intro n
  induction n with
  | zero => intro s h; exact h
  | succ n ih => intro s h; exact b_tkA s (b_tk (ih _ h))
theorem L_tks {P : Prog} {g : Nat} : ∀ (n : Nat) (s : SB), Live s → 1 ≤ qn s → qb (tks P g n s) = 0 → fb (sTop s) ≤ qh s → fb (sTop s) + n ≤ qh s ∧ (∀ i, i < n → qK s (qh s - n + i) = pK P g i) ∧ tks P g n s = (qh s - n, qK s, qn s, qF s, qb s) := by
  intro n
  induction n with
  | zero => intro s l h1 hb hf; exact ⟨by omega, fun i hi => absurd hi (by omega), rfl⟩
  | succ n ih =>
    intro s l h1 hb hf
    have hb1 := b_tks n _ hb
    obtain ⟨x1, x2, x3⟩ := L_tk l h1 hb1
    have e : tks P g (n + 1) s = tks P g n (tk (pK P g n) s) := rfl
    rw [e, x3] at hb ⊢
    obtain ⟨y1, y2, y3⟩ := ih _ (L_pop l) h1 hb (by show fb (sTop s) ≤ qh s - 1; omega)
    have y1 : fb (sTop s) + n ≤ qh s - 1 := y1
    have y2 : ∀ i, i < n → qK s (qh s - 1 - n + i) = pK P g i := y2
    have y3 : tks P g n (qh s - 1, qK s, qn s, qF s, qb s) = (qh s - 1 - n, qK s, qn s, qF s, qb s) := y3
    refine ⟨by omega, fun i hi => ?_, ?_⟩
    · by_cases z : i = n
      · rw [z, show qh s - (n + 1) + n = qh s - 1 by omega]; exact x2
      · rw [show qh s - (n + 1) + i = qh s - 1 - n + i by omega]; exact y2 i (by omega)
    · rw [y3, show qh s - 1 - n = qh s - (n + 1) by omega]
def Clr (S S' : St) (o : Nat) : Prop := Ag (fun k => k = 1100 ∨ k = 1101 ∨ k = 1102) S S' ∧ (∀ q, gI S' 1102 q = if q = o then 0 else gI S 1102 q) ∧ (∀ q i, q ≠ o → gJ S' 1100 q i = gJ S 1100 q i ∧ gD S' 1101 q i = gD S 1101 q i) ∧ ∀ i, i < cellsN o → gJ S' 1100 o i = 0 ∧ gD S' 1101 o i = FP.dconst0
theorem c_clear2 {S : St} {o : Nat} {Q : St → Prop} (kk : ∀ S', Clr S S' o → Q S') : ∀ (m i : Nat) (S1 : St), m + i = cellsN o → (Ag (fun k => k = 1100 ∨ k = 1101 ∨ k = 1102) S S1 ∧ (∀ q, gI S1 1102 q = gI S 1102 q) ∧ (∀ q i, q ≠ o → gJ S1 1100 q i = gJ S 1100 q i ∧ gD S1 1101 q i = gD S 1101 q i) ∧ ∀ x, x < i → gJ S1 1100 o x = 0 ∧ gD S1 1101 o x = FP.dconst0) → wp1_clear_2 o Q (m + 1) (nI i) S1 := by
  have hcb := cellsN_b o
  intro m
  induction m with
  | zero =>
    intro i S1 hm hs
    obtain ⟨h1, h2, h3, h4⟩ := hs
    refine ⟨fun _ S2 e2 => ?_, fun c => absurd ((nI_leI (by omega) (by omega)).mpr (by omega)) c⟩
    subst e2
    refine kk _ ⟨h1.sI (by omega), fun q => ?_, h3, fun x hx => h4 x (by omega)⟩
    simp only [gI_sI, true_and]
    split
    · rfl
    · exact h2 q
  | succ m ih =>
    intro i S1 hm hs
    obtain ⟨h1, h2, h3, h4⟩ := hs
    refine ⟨fun c => absurd ((nI_leI (by omega) (by omega)).mp c) (by omega), fun _ => r_setc (by omega) fun x ex => ?_⟩
    rw [nI_1] at ex
    subst ex
    refine ih (i + 1) _ (by omega) ⟨(h1.sJ (by omega)).sD (by omega), h2, fun q x hq => ?_, fun x hx => ?_⟩
    · simp only [gJ_sD, gJ_sJ, gD_sD, gD_sJ]
      rw [if_neg (fun w => hq w.2.1), if_neg (fun w => hq w.2.1)]
      exact h3 q x hq
    · simp only [gJ_sD, gJ_sJ, gD_sD, gD_sJ, true_and]
      by_cases z : x = i
      · rw [if_pos z, if_pos z]; exact ⟨rfl, rfl⟩
      · rw [if_neg z, if_neg z]; exact h4 x (by omega)
theorem c_clear {S : St} {o : Nat} {Q : St → Prop} (kk : ∀ S', Clr S S' o → Q S') : wp1_clear S o Q :=
  ⟨cellsN o + 1, c_clear2 kk (cellsN o) 0 S (by omega) ⟨Ag.rf, fun _ => rfl, fun _ _ _ => ⟨rfl, rfl⟩, fun x hx => absurd hx (by omega)⟩⟩
/-- the parameters copied: i of them -/
def Tkp (S S' : St) (o a first i : Nat) : Prop := Ag (fun k => k = 1100 ∨ k = 1101) S S' ∧ (∀ q x, q ≠ o → gJ S' 1100 q x = gJ S 1100 q x ∧ gD S' 1101 q x = gD S 1101 q x) ∧ (∀ x, x < i → gJ S' 1100 o x = gJ S 1100 a (first + x) ∧ gD S' 1101 o x = gD S 1101 a (first + x)) ∧ ∀ x, i ≤ x → gJ S' 1100 o x = gJ S 1100 o x ∧ gD S' 1101 o x = gD S 1101 o x
theorem c_takep {S : St} {jn g a n h1 : Nat} {Q : St → Prop} (h04 : gR S 1004 jn = g) (hg : g < 6) (hpn : gI S 1404 g = nI n) (hn : n ≤ cellsN (2 * jn + 1)) (hh : gI S 1102 a = nI h1) (hle : n ≤ h1) (hca : h1 ≤ cellsN a) (ha : a ≠ 2 * jn + 1) (kk : ∀ S' S2, Tkp S S' (2 * jn + 1) a (h1 - n) n → Hc S' S2 a (h1 - n) → Q S2) : ∀ (m i : Nat) (S1 : St), m + i = n → Tkp S S1 (2 * jn + 1) a (h1 - n) i → wp0_takeParametersFrom_15 jn a Q (m + 1) (nI (h1 - n)) (nI i) S1 := by
  have hcb := cellsN_b a
  have hcb2 := cellsN_b (2 * jn + 1)
  intro m
  induction m with
  | zero =>
    intro i S1 hm hs
    have e : i = n := by omega
    subst e
    have x1 : gR S1 1004 jn = g := by rw [hs.1.gR (by decide)]; exact h04
    have x2 : gI S1 1404 g = nI i := by rw [hs.1.gI (by decide)]; exact hpn
    have x3 : gI S1 1102 a = nI h1 := by rw [hs.1.gI (by decide)]; exact hh
    unfold wp0_takeParametersFrom_15 wp4_parameterCount
    rw [x1, x2]
    exact ⟨hg, fun _ => r_cut x3 (by omega) (by omega) (fun C2 hc => kk S1 C2 hs hc), fun c => absurd (Int32.le_refl _) c⟩
  | succ m ih =>
    intro i S1 hm hs
    have x1 : gR S1 1004 jn = g := by rw [hs.1.gR (by decide)]; exact h04
    have x2 : gI S1 1404 g = nI n := by rw [hs.1.gI (by decide)]; exact hpn
    unfold wp0_takeParametersFrom_15 wp4_parameterCount
    rw [x1, x2]
    refine ⟨hg, fun c => absurd ((nI_leI (by omega) (by omega)).mp c) (by omega), fun _ => ?_⟩
    rw [nI_add]
    refine r_setFrom (by omega) (by omega) fun x ex => ?_
    rw [nI_1] at ex
    subst ex
    obtain ⟨s1, s2, s3, s4⟩ := hs
    refine ih (i + 1) _ (by omega) ⟨(s1.sJ (by omega)).sD (by omega), fun q x hq => ?_, fun x hx => ?_, fun x hx => ?_⟩
    · simp only [gJ_sD, gJ_sJ, gD_sD, gD_sJ]
      rw [if_neg (fun w => hq w.2.1), if_neg (fun w => hq w.2.1)]
      exact s2 q x hq
    · simp only [gJ_sD, gJ_sJ, gD_sD, gD_sJ, true_and]
      by_cases z : x = i
      · rw [if_pos z, if_pos z, z]; exact s2 a _ ha
      · rw [if_neg z, if_neg z]; exact s3 x (by omega)
    · simp only [gJ_sD, gJ_sJ, gD_sD, gD_sJ, true_and]
      rw [if_neg (by omega), if_neg (by omega)]
      exact s4 x (by omega)
/-- the reference's variables of the new call, i of them -/
def Vnew (M M' : St) (D H n i : Nat) : Prop := Ag (fun k => k = 1925 ∨ k = 1926) M M' ∧ (∀ x, x < 6 * D → gJ M' 1925 0 x = gJ M 1925 0 x ∧ gD M' 1926 0 x = gD M 1926 0 x) ∧ ∀ x, x < i → gJ M' 1925 0 (6 * D + x) = (if x < n then gJ M 1922 0 (H + x) else 0) ∧ gD M' 1926 0 (6 * D + x) = if x < n then gD M 1923 0 (H + x) else FP.dconst0
theorem m_call102 {M : St} {op : Int32} {b : Int32} {g n D H : Nat} {Q : St → Prop} (h30 : gI M 1930 0 = nI D) (hD : D < 6) (h14 : gI M 1914 0 = nI H) (hH : H + n ≤ 200) (hn : n ≤ 6) (kk : ∀ M', Vnew M M' D H n 6 → wp9_enter M' (nI g) (gI M' 1931 0 + 2) (fun S1 => Q S1)) : ∀ (m i : Nat) (M1 : St), m + i = 6 → Vnew M M1 D H n i → wp9_call_102 op b Q (m + 1) (nI g) (nI n) (nI i) M1 := by
  intro m
  induction m with
  | zero =>
    intro i M1 hm hs
    have e : i = 6 := by omega
    subst e
    exact ⟨fun _ => kk M1 hs, fun c => absurd (by decide) c⟩
  | succ m ih =>
    intro i M1 hm hs
    obtain ⟨s1, s2, s3⟩ := hs
    have x30 : gI M1 1930 0 = nI D := by rw [s1.gI (by decide)]; exact h30
    have x14 : gI M1 1914 0 = nI H := by rw [s1.gI (by decide)]; exact h14
    have nxt : ∀ (w : Int64) (y : UInt64), w = (if i < n then gJ M 1922 0 (H + i) else 0) → y = (if i < n then gD M 1923 0 (H + i) else FP.dconst0) → Vnew M (sD (sJ M1 1925 0 (6 * D + i) w) 1926 0 (6 * D + i) y) D H n (i + 1) := by
      intro w y ew ey
      refine ⟨(s1.sJ (by omega)).sD (by omega), fun x hx => ?_, fun x hx => ?_⟩
      · simp only [gJ_sD, gJ_sJ, gD_sD, gD_sJ, true_and]
        rw [if_neg (by omega), if_neg (by omega)]
        exact s2 x hx
      · simp only [gJ_sD, gJ_sJ, gD_sD, gD_sJ, true_and]
        by_cases z : x = i
        · subst z
          rw [if_pos rfl, if_pos rfl]; exact ⟨ew, ey⟩
        · have ne : ¬ 6 * D + x = 6 * D + i := by omega
          rw [if_neg ne, if_neg ne]; exact s3 x (by omega)
    refine ⟨fun c => absurd ((nI_leI (a := 6) (by omega) (by omega)).mp c) (by omega), fun _ => ⟨fun c => ?_, fun c => ?_⟩⟩
    · have c := (nI_leI (by omega) (by omega)).mp c
      unfold wp9_call_146
      rw [x30, l6, nI_mul, nI_add, nI_clamp (by omega)]
      refine ⟨vp_in_nI (by omega) (by omega), fun S1 e1 => ⟨fun _ => ?_, fun c2 => absurd ((nI_leI (by omega) (by omega)).mpr c) c2⟩⟩
      subst e1
      unfold wp9_call_184
      rw [show gI (sJ M1 1925 0 (6 * D + i) 0) 1930 0 = nI D from x30, nI_mul, nI_add, nI_clamp (by omega)]
      refine ⟨vp_in_nI (by omega) (by omega), fun S2 e2 x5 e5 => ?_⟩
      rw [nI_1] at e5
      subst e2; subst e5
      exact ih (i + 1) _ (by omega) (nxt _ _ (by rw [if_neg (by omega)]) (by rw [if_neg (by omega)]))
    · have c : ¬ n ≤ i := fun w => c ((nI_leI (by omega) (by omega)).mpr w)
      unfold wp9_call_146
      rw [x30, x14, l6, nI_mul, nI_add, nI_add, nI_clamp (by omega), nI_clamp (by omega)]
      refine ⟨vp_in_nI (by omega) (by omega), vp_in_nI (by omega) (by omega), fun S1 e1 => ⟨fun c2 => absurd ((nI_leI (by omega) (by omega)).mp c2) c, fun _ => ?_⟩⟩
      subst e1
      unfold wp9_call_184
      rw [show gI (sJ M1 1925 0 (6 * D + i) (gJ M1 1922 0 (H + i))) 1930 0 = nI D from x30, show gI (sJ M1 1925 0 (6 * D + i) (gJ M1 1922 0 (H + i))) 1914 0 = nI H from x14, nI_mul, nI_add, nI_add, nI_clamp (by omega), nI_clamp (by omega)]
      refine ⟨vp_in_nI (by omega) (by omega), vp_in_nI (by omega) (by omega), fun S2 e2 x5 e5 => ?_⟩
      rw [nI_1] at e5
      subst e2; subst e5
      refine ih (i + 1) _ (by omega) (nxt _ _ ?_ ?_)
      · rw [if_pos (by omega), s1.gJ (by decide)]
      · rw [if_pos (by omega)]
        show gD M1 1923 0 (H + i) = _
        exact s1.gD (by decide) 0 _
def entM (M : St) (D g bk G R H : Nat) : St := sI (sI (sA (sA (sA (sI (sA (sA (sA M 1927 0 D (nI g)) 1928 0 D (nI bk)) 1929 0 D (nI G)) 1930 0 (nI (D + 1))) 1915 0 G (nI 0)) 1916 0 G (nI R)) 1917 0 G (nI H)) 1920 0 (nI (G + 1))) 1931 0 (nI 0)
theorem m_enter {M : St} {D g bk G R H : Nat} {Q : St → Prop} (h30 : gI M 1930 0 = nI D) (hD : D < 6) (h20 : gI M 1920 0 = nI G) (hG : G < 60) (hg : g < 6) (h03 : gA M 1903 0 g = nI R) (h14 : gI M 1914 0 = nI H) (kk : Q (entM M D g bk G R H)) : wp9_enter M (nI g) (nI bk) Q := by
  unfold wp9_enter
  rw [h30, nI_clamp (by omega)]
  refine ⟨vp_in_nI hD (by omega), fun S1 e1 => ?_⟩
  subst e1
  rw [show gI (sA M 1927 0 D (nI g)) 1930 0 = nI D from h30, nI_clamp (by omega)]
  refine ⟨vp_in_nI hD (by omega), fun S2 e2 => ?_⟩
  subst e2
  rw [show gI (sA (sA M 1927 0 D (nI g)) 1928 0 D (nI bk)) 1930 0 = nI D from h30, nI_clamp (by omega), show gI (sA (sA M 1927 0 D (nI g)) 1928 0 D (nI bk)) 1920 0 = nI G from h20]
  refine ⟨vp_in_nI hD (by omega), fun S3 e3 S4 e4 => ?_⟩
  subst e3
  rw [show gI (sA (sA (sA M 1927 0 D (nI g)) 1928 0 D (nI bk)) 1929 0 D (nI G)) 1930 0 = nI D from h30, nI_1] at e4
  subst e4
  rw [show gI (sI (sA (sA (sA M 1927 0 D (nI g)) 1928 0 D (nI bk)) 1929 0 D (nI G)) 1930 0 (nI (D + 1))) 1920 0 = nI G by simp [gI_sI, gI_sA]; exact h20, nI_clamp (by omega)]
  refine ⟨vp_in_nI hG (by omega), fun S5 e5 => ⟨vp_in_nI hg (by omega), ?_⟩⟩
  have e5 : S5 = sA (sI (sA (sA (sA M 1927 0 D (nI g)) 1928 0 D (nI bk)) 1929 0 D (nI G)) 1930 0 (nI (D + 1))) 1915 0 G (nI 0) := e5
  subst e5
  rw [show gI (sA (sI (sA (sA (sA M 1927 0 D (nI g)) 1928 0 D (nI bk)) 1929 0 D (nI G)) 1930 0 (nI (D + 1))) 1915 0 G (nI 0)) 1920 0 = nI G by simp [gI_sI, gI_sA]; exact h20, nI_clamp (by omega), nI_clamp (by omega)]
  refine ⟨vp_in_nI hG (by omega), fun S6 e6 => ?_⟩
  have e6 : S6 = sA (sA (sI (sA (sA (sA M 1927 0 D (nI g)) 1928 0 D (nI bk)) 1929 0 D (nI G)) 1930 0 (nI (D + 1))) 1915 0 G (nI 0)) 1916 0 G (nI R) := by
    rw [e6]
    congr 1
  subst e6
  rw [show gI (sA (sA (sI (sA (sA (sA M 1927 0 D (nI g)) 1928 0 D (nI bk)) 1929 0 D (nI G)) 1930 0 (nI (D + 1))) 1915 0 G (nI 0)) 1916 0 G (nI R)) 1920 0 = nI G by simp [gI_sI, gI_sA]; exact h20, nI_clamp (by omega), show gI (sA (sA (sI (sA (sA (sA M 1927 0 D (nI g)) 1928 0 D (nI bk)) 1929 0 D (nI G)) 1930 0 (nI (D + 1))) 1915 0 G (nI 0)) 1916 0 G (nI R)) 1914 0 = nI H by simp [gI_sI, gI_sA]; exact h14]
  refine ⟨vp_in_nI hG (by omega), fun S7 e7 S8 e8 S9 e9 => ?_⟩
  subst e7
  rw [show gI (sA (sA (sA (sI (sA (sA (sA M 1927 0 D (nI g)) 1928 0 D (nI bk)) 1929 0 D (nI G)) 1930 0 (nI (D + 1))) 1915 0 G (nI 0)) 1916 0 G (nI R)) 1917 0 G (nI H)) 1920 0 = nI G by simp [gI_sI, gI_sA]; exact h20, nI_1] at e8
  subst e8
  subst e9
  exact kk
/-- called alike -/
def Alk (P : Prog) (a b : Nat) : Prop := pN P a = pN P b ∧ pR P a = pR P b ∧ ∀ i, i < pN P a → pK P a i = pK P b i
theorem c_kindOf {P : Prog} {C : St} {f i : Nat} {Q : Int32 → St → Prop} (hPC : PC P C) (hw : PW P) (hf : f < 6) (hi : i < pV P f) (kk : Q (nI (pK P f i)) C) : wp4_kindOf C f (nI i) Q := by
  have h6 := (hw f hf).2.2.1
  unfold wp4_kindOf
  rw [(hPC f hf).2.1, nI_clamp (by omega), (hPC f hf).2.2.2.2.1 i hi]
  exact ⟨fun z => absurd z (nI_pos (by omega)), fun _ => ⟨fun z => absurd ((nI_leI (by omega) (by omega)).mp z) (by omega), fun _ => ⟨vp_in_nI (by omega) (by omega), kk⟩⟩⟩
theorem c_alike {P : Prog} {C : St} {a b : Nat} {Q : Int32 → St → Prop} (hPC : PC P C) (hw : PW P) (ha : a < 6) (hb : b < 6) (k1 : Alk P a b → Q 1 C) (k0 : ¬ Alk P a b → Q 0 C) : wp4_isCalledLike C a b Q := by
  have wa := hw a ha
  have wb := hw b hb
  unfold wp4_isCalledLike
  rw [(hPC a ha).1, (hPC b hb).1, (hPC a ha).2.2.1, (hPC b hb).2.2.1]
  refine ⟨fun z => k0 fun y => z (by rw [y.1]), fun z => ⟨fun z2 => ?_, fun z2 => k0 fun y => z2 (by rw [y.2.1])⟩⟩
  have z := nE (by omega) (by omega) z
  have z2 := nE (by omega) (by omega) z2
  have lp : ∀ m i, m + i = pN P a → (∀ x, x < i → pK P a x = pK P b x) → wp4_isCalledLike_26 a b Q (m + 1) (nI i) C := by
    intro m
    induction m with
    | zero =>
      intro i hm hs
      have e : i = pN P a := by omega
      subst e
      unfold wp4_isCalledLike_26
      rw [(hPC a ha).1]
      exact ⟨fun _ => k1 ⟨z, z2, hs⟩, fun c => absurd (Int32.le_refl _) c⟩
    | succ m ih =>
      intro i hm hs
      unfold wp4_isCalledLike_26
      rw [(hPC a ha).1]
      refine ⟨fun c => absurd ((nI_leI (by omega) (by omega)).mp c) (by omega), fun _ => c_kindOf hPC hw ha (by omega) (c_kindOf hPC hw hb (by omega) ⟨fun e x ex => ?_, fun e => k0 fun y => e (by rw [y.2.2 i (by omega)])⟩)⟩
      have k1a := (wa.2.2.2.2.2.1 i (by omega)).2
      have k1b := (wb.2.2.2.2.2.1 i (by omega)).2
      have e := nE (by omega) (by omega) e
      rw [nI_1] at ex
      subst ex
      refine ih (i + 1) (by omega) fun x hx => ?_
      by_cases y : x = i
      · rw [y]; exact e
      · exact hs x (by omega)
  exact ⟨pN P a + 1, lp (pN P a) 0 (by omega) fun x hx => absurd hx (by omega)⟩
theorem m_agree {P : Prog} {M : St} {a b : Nat} {Q : Int32 → St → Prop} (hPM : PM P M) (hw : PW P) (ha : a < 6) (hb : b < 6) (k1 : Alk P a b → Q 1 M) (k0 : ¬ Alk P a b → Q 0 M) : wp9_agree M (nI a) (nI b) Q := by
  have wa := hw a ha
  have wb := hw b hb
  unfold wp9_agree
  rw [nI_clamp (by omega), nI_clamp (by omega), (hPM a ha).1, (hPM b hb).1, (hPM a ha).2.2.1, (hPM b hb).2.2.1]
  refine ⟨vp_in_nI ha (by omega), vp_in_nI hb (by omega), fun z => k0 fun y => z (by rw [y.1]), fun z => ⟨vp_in_nI ha (by omega), vp_in_nI hb (by omega), fun z2 => ?_, fun z2 => k0 fun y => z2 (by rw [y.2.1])⟩⟩
  have z := nE (by omega) (by omega) z
  have z2 := nE (by omega) (by omega) z2
  have lp : ∀ m i, m + i = pN P a → (∀ x, x < i → pK P a x = pK P b x) → wp9_agree_34 (nI a) (nI b) Q (m + 1) (nI i) M := by
    intro m
    induction m with
    | zero =>
      intro i hm hs
      have e : i = pN P a := by omega
      subst e
      unfold wp9_agree_34
      rw [nI_clamp (by omega), (hPM a ha).1]
      exact ⟨vp_in_nI ha (by omega), fun _ => k1 ⟨z, z2, hs⟩, fun c => absurd (Int32.le_refl _) c⟩
    | succ m ih =>
      intro i hm hs
      have k1a := (wa.2.2.2.2.2.1 i (by omega)).2
      have k1b := (wb.2.2.2.2.2.1 i (by omega)).2
      unfold wp9_agree_34
      rw [nI_clamp (by omega), (hPM a ha).1, l6, nI_mul, nI_mul, nI_add, nI_add, nI_clamp (by omega), nI_clamp (by omega), (hPM a ha).2.2.2.2.1 i (by omega), (hPM b hb).2.2.2.2.1 i (by omega)]
      refine ⟨vp_in_nI ha (by omega), fun c => absurd ((nI_leI (by omega) (by omega)).mp c) (by omega), fun _ => ⟨vp_in_nI (by omega) (by omega), vp_in_nI (by omega) (by omega), fun e x ex => ?_, fun e => k0 fun y => e (by rw [y.2.2 i (by omega)])⟩⟩
      have e := nE (by omega) (by omega) e
      rw [nI_1] at ex
      subst ex
      refine ih (i + 1) (by omega) fun x hx => ?_
      by_cases y : x = i
      · rw [y]; exact e
      · exact hs x (by omega)
  exact ⟨pN P a + 1, lp (pN P a) 0 (by omega) fun x hx => absurd hx (by omega)⟩
