/-! PURE: steps: variables, globals -/
theorem At.setv {P : Prog} {c : Ct} {C M C' M' : St} {j f p op n B m v : Nat} {s : SB} {a b : Int64} {x y : UInt64} (A : At P c C M j f p op n B m s) (hl : Live (ckOne P f p s)) (ef : qn (ckOne P f p s) = qn s ∧ qF (ckOne P f p s) = qF s) (ek : ∀ i, i < qh (ckOne P f p s) → i < qh s ∧ qK (ckOne P f p s) i = qK s i) (r : VR (pK P f v) a x b y) (aC : Ag kX C C') (aM : Ag kY M M') (i33 : gI M' 1933 0 = gI M 1933 0 + 1) (i34 : gI M' 1934 0 = 0)
    (c5 : ∀ i, gI C' 1005 i = if i = j then nI n else gI C 1005 i) (c2 : ∀ o, gI C' 1102 o = if o = 2 * j then nI (qh (ckOne P f p s)) else gI C 1102 o) (m5 : gI M' 1931 0 = nI n) (m4 : gI M' 1914 0 = nI (B + qh (ckOne P f p s)))
    (eJ : ∀ o i, gJ C' 1100 o i = if o = 2 * j + 1 ∧ i = v then a else gJ C 1100 o i) (eD : ∀ o i, gD C' 1101 o i = if o = 2 * j + 1 ∧ i = v then x else gD C 1101 o i) (fJ : ∀ i, gJ M' 1922 0 i = gJ M 1922 0 i) (fD : ∀ i, gD M' 1923 0 i = gD M 1923 0 i)
    (hJ : ∀ i, gJ M' 1925 0 i = if i = 6 * j + v then b else gJ M 1925 0 i) (hD : ∀ i, gD M' 1926 0 i = if i = 6 * j + v then y else gD M 1926 0 i) (hg : XG C' M') : Res P C M 0 C' M' := by
  obtain ⟨-, -, -, -, -, -, v1⟩ := A.f2
  refine A.gen hl ef aC aM i33 i34 c5 c2 m5 m4 (fun o ho i => ⟨?_, ?_⟩) (fun i _ => ⟨fJ i, fD i⟩) (fun i hi => ⟨?_, ?_⟩) (fun i hi => ?_) (fun u hu => ?_) hg
  · rw [eJ, if_neg (by omega)]
  · rw [eD, if_neg (by omega)]
  · rw [hJ, if_neg (by omega)]
  · rw [hD, if_neg (by omega)]
  · rw [eJ, eD, if_neg (by omega), if_neg (by omega), fJ, fD, (ek i hi).2]
    exact v1 i (ek i hi).1
  · rw [eJ, eD, hJ, hD]
    by_cases z : u = v
    · subst z
      rw [if_pos ⟨rfl, rfl⟩, if_pos ⟨rfl, rfl⟩, if_pos rfl, if_pos rfl]
      exact r
    · rw [if_neg (by omega), if_neg (by omega), if_neg (by omega), if_neg (by omega)]
      exact A.vars u hu
theorem m_vget {M : St} {j v H : Nat} {Q : St → Prop} (h30 : gI M 1930 0 = nI (j + 1)) (hj : j ≤ 5) (hv : v < 6) (hh : gI M 1914 0 = nI H) (hH : H < 200) (kk : Q (putm M H (gJ M 1925 0 (6 * j + v)) (gD M 1926 0 (6 * j + v)))) : wp9_variable M (nI 15) (nI v) Q := by
  unfold wp9_variable
  intro x3 e3
  rw [h30, nI_dec (by omega), l6, nI_mul, nI_add, Nat.add_sub_cancel] at e3
  subst e3
  rw [nI_clamp (by omega), nI_clamp (by omega)]
  exact ⟨fun z => absurd rfl z, fun _ => ⟨vp_in_nI (by omega) (by omega), vp_in_nI (by omega) (by omega), m_push hh hH kk⟩⟩
theorem m_gget {M : St} {v H : Nat} {Q : St → Prop} (hv : v < 3) (hh : gI M 1914 0 = nI H) (hH : H < 200) (kk : Q (putm M H (gJ M 1908 0 v) (gF M 1909 0))) : wp9_variable M (nI 18) (nI v) Q := by
  unfold wp9_variable
  intro x3 e3
  rw [nI_clamp (by omega)]
  exact ⟨fun _ => ⟨fun z => absurd rfl z, fun _ => ⟨vp_in_nI (by omega) (by omega), m_push hh hH kk⟩⟩, fun z => absurd z (by decide)⟩
theorem m_vset {M : St} {j v H op : Nat} {Q : St → Prop} (ho : op = 16 ∨ op = 17) (h30 : gI M 1930 0 = nI (j + 1)) (hj : j ≤ 5) (hv : v < 6) (hh : gI M 1914 0 = nI H) (h1 : 1 ≤ H) (hH : H ≤ 200)
    (k16 : op = 16 → Q (sD (sJ (sI M 1914 0 (nI (H - 1))) 1925 0 (6 * j + v) (gJ M 1922 0 (H - 1))) 1926 0 (6 * j + v) (gD M 1923 0 (H - 1)))) (k17 : op = 17 → Q (sD (sJ M 1925 0 (6 * j + v) (gJ M 1922 0 (H - 1))) 1926 0 (6 * j + v) (gD M 1923 0 (H - 1)))) : wp9_variable M (nI op) (nI v) Q := by
  unfold wp9_variable
  intro x3 e3
  rw [h30, nI_dec (by omega), l6, nI_mul, nI_add, Nat.add_sub_cancel] at e3
  subst e3
  rcases ho with rfl | rfl
  · refine ⟨fun _ => ⟨fun _ => ⟨fun z => absurd z (by decide), fun _ S1 e1 => ?_⟩, fun z => absurd z (by decide)⟩, fun z => absurd z (by decide)⟩
    rw [hh, nI_dec h1] at e1
    subst e1
    have k := k16 rfl
    simp (decide := true) only [wp9_variable_76, wp9_variable_95, wp9_variable_122, true_implies, false_implies, true_and, and_true, not_true, not_false_iff]
    rw [show gI (sI M 1914 0 (nI (H - 1))) 1914 0 = nI (H - 1) by simp [gI_sI], nI_clamp (by omega), nI_clamp (by omega)]
    refine ⟨vp_in_nI (by omega) (by omega), vp_in_nI (by omega) (by omega), fun S1 e1 => ⟨vp_in_nI (by omega) (by omega), vp_in_nI (by omega) (by omega), fun S2 e2 => ?_⟩⟩
    subst e1; subst e2
    exact k
  · refine ⟨fun _ => ⟨fun _ => ⟨fun _ => ?_, fun z => absurd rfl z⟩, fun z => absurd z (by decide)⟩, fun z => absurd z (by decide)⟩
    have k := k17 rfl
    simp (decide := true) only [wp9_variable_76, wp9_variable_95, wp9_variable_122, true_implies, false_implies, true_and, and_true, not_true, not_false_iff]
    rw [hh, nI_dec h1, nI_clamp (by omega), nI_clamp (by omega)]
    refine ⟨vp_in_nI (by omega) (by omega), vp_in_nI (by omega) (by omega), fun S1 e1 => ⟨vp_in_nI (by omega) (by omega), vp_in_nI (by omega) (by omega), fun S2 e2 => ?_⟩⟩
    subst e1; subst e2
    exact k
theorem m_gset {M : St} {v H : Nat} {Q : St → Prop} (hv : v < 3) (hh : gI M 1914 0 = nI H) (h1 : 1 ≤ H) (hH : H ≤ 200)
    (k2 : v = 2 → Q (sF (sI M 1914 0 (nI (H - 1))) 1909 0 (gD M 1923 0 (H - 1)))) (k1 : ¬ v = 2 → Q (sJ (sI M 1914 0 (nI (H - 1))) 1908 0 v (gJ M 1922 0 (H - 1)))) : wp9_variable M (nI 19) (nI v) Q := by
  unfold wp9_variable
  intro x3 e3
  refine ⟨fun _ => ⟨fun _ => ⟨fun z => absurd z (by decide), fun _ S1 e1 => ?_⟩, fun z => absurd z (by decide)⟩, fun z => absurd z (by decide)⟩
  rw [hh, nI_dec h1] at e1
  subst e1
  simp (decide := true) only [wp9_variable_76, wp9_variable_95, wp9_variable_122, true_implies, false_implies, true_and, and_true, not_true, not_false_iff]
  rw [show gI (sI M 1914 0 (nI (H - 1))) 1914 0 = nI (H - 1) by simp [gI_sI], nI_clamp (by omega), nI_clamp (by omega)]
  refine ⟨fun z => ⟨vp_in_nI (by omega) (by omega), vp_in_nI (by omega) (by omega), fun S3 e3 => ?_⟩, fun z => ⟨vp_in_nI (by omega) (by omega), fun S1 e1 => ?_⟩⟩
  · subst e3; exact k1 (nN (b := 2) z)
  · subst e1; exact k2 (nE (b := 2) (by omega) (by omega) z)
theorem st_101v {Q : St → Prop} {op : Nat} {b n : Int32} {M : St} (ho : 15 ≤ op) (ho2 : op ≤ 19) (kk : wp9_variable M (nI op) b (fun S1 => ∀ S2, S2 = sI S1 1931 0 n → Q S2)) : wp9_step_101 Q (nI op) b n M := by
  have ne : ∀ k, k < 15 → ¬ nI op = nI k := fun k hk z => absurd (nE (by omega) (by omega) z) (by omega)
  exact ⟨fun _ => ⟨fun _ => ⟨fun _ => ⟨fun z => absurd ((nI_ltI (b := 15) (by omega) (by omega)).mp z) (by omega), fun _ => ⟨fun z => absurd ((nI_ltI (a := 19) (by omega) (by omega)).mp z) (by omega), fun _ => kk⟩⟩, fun z => absurd z (ne 14 (by omega))⟩, fun z => absurd z (ne 13 (by omega))⟩, fun z => absurd z (ne 0 (by omega))⟩
theorem ck_var {P : Prog} {f p op : Nat} {s : SB} (e : pC P f p = op) (ho : 15 ≤ op) (ho2 : op ≤ 19) : ckOne P f p s = ckVar P f op (pC P f (p + 1)) s := by
  unfold ckOne
  rw [e, if_neg (by omega), if_neg (by omega), if_neg (by omega), if_neg (by omega), if_neg (by omega), if_neg (by omega), if_neg (by omega), if_neg (by omega), if_pos (by omega)]
theorem st_get {P : Prog} {c : Ct} {C M : St} {j f p op n B m : Nat} {s : SB} {Q : Int32 → St → St → Prop} (A : At P c C M j f p op n B m s) (ho : op = 15) (kk : ∀ r C' M', Res P C M r C' M' → Q r C' M') : wp6_step C (fun r C' => wp9_step M (fun M' => Q r C' M')) := by
  obtain ⟨j5, hf, hop, h16, hcell, B80, l, hq, hb, -⟩ := A.facts
  obtain ⟨bC, bM, hg, i34, c2, m14, v1⟩ := A.f2
  obtain ⟨V6, Vk, hcell2, m30⟩ := A.wv
  obtain ⟨hn, hp1, ebt, hb256⟩ := whole2 A (by omega)
  have e := ck_var (s := s) A.op (by omega) (by omega)
  subst ho
  generalize hv : pC P f (p + 1) = v at *
  by_cases z : v < pV P f
  · have e : ckOne P f p s = pt (pK P f v) s := by rw [e]; unfold ckVar ckVar1; rw [if_pos (by decide), if_pos z, if_pos (by decide)]
    rw [e] at hb
    obtain ⟨h0, et⟩ := L_pt hb
    rw [et] at e
    have hvar := A.vars v z
    have h101 := A.h101 (Q := fun M' => Q 0 (putc (cC j n C) (2 * j) (qh s) (gJ (cC j n C) 1100 (2 * j + 1) v) (gD (cC j n C) 1101 (2 * j + 1) v)) M') (by omega)
    have put := A.put (C' := putc (cC j n C) (2 * j) (qh s) (gJ (cC j n C) 1100 (2 * j + 1) v) (gD (cC j n C) 1101 (2 * j + 1) v)) (M0 := mB M) (h0 := qh s) (w := gJ (mB M) 1925 0 (6 * j + v)) (y := gD (mB M) 1926 0 (6 * j + v)) (by rw [e]; exact L_put l (Vk v z).2) (by rw [e]; exact ⟨rfl, rfl⟩) (by rw [e]; rfl) (Nat.le_refl _) (fun i hi => by
      rw [e]
      show (if i = qh s then _ else qK s i) = _
      rw [if_neg (by omega)]) bC.put bM (XGputc hg (by omega)) i34 (by
      rw [e]
      show VR (if qh s = qh s then pK P f v else qK s (qh s)) _ _ _ _
      rw [if_pos rfl]; exact hvar)
    refine A.cl (disp_val (by omega) (by omega) ?_)
    rw [ebt]
    simp (decide := true) only [wp6_stepValues, wp1_height, true_implies, false_implies, true_and, and_true, not_true, not_false_iff]
    intro x _
    refine r_putFrom c2 (by omega) (by omega) (h101 fun b hb => st_101v (by omega) (by omega) ?_)
    rw [hb hp1, hv]
    refine m_vget (j := j) ?_ j5 (by omega) m14 (by omega) fun S2 e2 => ?_
    · simp [mB, gI_sI]; exact m30
    · subst e2
      exact kk _ _ _ put
  · have e : ckOne P f p s = sBad s := by rw [e]; unfold ckVar; rw [if_pos (by decide), if_neg z]
    rw [e] at hb
    exact absurd hb e_bad
theorem st_set {P : Prog} {c : Ct} {C M : St} {j f p op n B m : Nat} {s : SB} {Q : Int32 → St → St → Prop} (A : At P c C M j f p op n B m s) (ho : op = 16) (kk : ∀ r C' M', Res P C M r C' M' → Q r C' M') : wp6_step C (fun r C' => wp9_step M (fun M' => Q r C' M')) := by
  obtain ⟨j5, hf, hop, h16, hcell, B80, l, hq, hb, -⟩ := A.facts
  obtain ⟨bC, bM, hg, i34, c2, m14, v1⟩ := A.f2
  obtain ⟨V6, Vk, hcell2, m30⟩ := A.wv
  obtain ⟨hn, hp1, ebt, hb256⟩ := whole2 A (by omega)
  have e := ck_var (s := s) A.op (by omega) (by omega)
  subst ho
  generalize hv : pC P f (p + 1) = v at *
  by_cases z : v < pV P f
  · have e : ckOne P f p s = tk (pK P f v) s := by rw [e]; unfold ckVar ckVar1; rw [if_pos (by decide), if_pos z, if_neg (by decide), if_neg (by decide)]
    rw [e] at hb
    obtain ⟨h0, ekk, et⟩ := L_tk l hq hb
    rw [et] at e
    have w1 := v1 (qh s - 1) (by omega)
    rw [ekk] at w1
    have h101 := fun C' => A.h101 (Q := fun M' => Q 0 C' M') (by omega)
    refine A.cl (disp_val (by omega) (by omega) ?_)
    rw [ebt]
    simp (decide := true) only [wp6_stepValues, wp1_height, true_implies, false_implies, true_and, and_true, not_true, not_false_iff]
    intro x5 e5
    rw [c2, nI_dec (by omega)] at e5
    subst e5
    refine r_setFrom (by omega) (by omega) (r_drop (h := qh s) (by simp [gI_sJ, gI_sD]; exact c2) (by omega) (by omega) (h101 _ fun b hb => st_101v (by omega) (by omega) ?_))
    rw [hb hp1, hv]
    refine m_vset (j := j) (Or.inl rfl) (by simp [mB, gI_sI]; exact m30) j5 (by omega) m14 (by omega) (by omega) (fun _ S2 e2 => ?_) (fun y => absurd y (by decide))
    subst e2
    rw [show B + qh s - 1 = B + (qh s - 1) by omega]
    have bM1 := bM.s (k := 1914) (Or.inl rfl) (nI (B + (qh s - 1)))
    refine kk _ _ _ (A.setv (by rw [e]; exact L_pop l) (by rw [e]; exact ⟨rfl, rfl⟩) (fun i hi => ?_) w1 (((bC.1.sJ (by unfold kX; omega)).sD (by unfold kX; omega)).sI (by unfold kX; omega)) (((bM1.1.sJ (by unfold kY; omega)).sD (by unfold kY; omega)).sI (by unfold kY; omega)) ?_ ?_ (fun i => ?_) (fun o => ?_) ?_ ?_ (fun o i => ?_) (fun o i => ?_) (fun i => ?_) (fun i => ?_) (fun i => ?_) (fun i => ?_) ?_)
    · rw [e] at hi ⊢
      have hi : i < qh s - 1 := hi
      exact ⟨by omega, rfl⟩
    · simp [gI_sI, gI_sJ, gI_sD]; exact bM.2.1
    · simp [gI_sI, gI_sJ, gI_sD]; exact i34
    · simp [gI_sI, gI_sJ, gI_sD]
    · rw [e]; simp [gI_sI, gI_sJ, gI_sD]; rfl
    · simp [gI_sI]
    · rw [e]; simp [gI_sI, gI_sJ, gI_sD]; rfl
    · simp [gJ_sI, gJ_sJ, gJ_sD]
    · simp [gD_sI, gD_sJ, gD_sD]
    · simp [gJ_sI, gJ_sJ, gJ_sD, mB]
    · simp [gD_sI, gD_sJ, gD_sD, mB]
    · simp [gJ_sI, gJ_sJ, gJ_sD, mB]
    · simp [gD_sI, gD_sJ, gD_sD, mB]
    · refine hg.of (fun i => ?_) (fun i => ?_) (fun _ => rfl) (fun _ => ?_) rfl (fun _ => rfl)
      · simp [gJ_sI, gJ_sJ, gJ_sD]; intro z; omega
      · simp [gD_sI, gD_sJ, gD_sD]; intro z; omega
      · simp [gJ_sI, gJ_sJ, gJ_sD]
  · have e : ckOne P f p s = sBad s := by rw [e]; unfold ckVar; rw [if_pos (by decide), if_neg z]
    rw [e] at hb
    exact absurd hb e_bad
theorem st_keep {P : Prog} {c : Ct} {C M : St} {j f p op n B m : Nat} {s : SB} {Q : Int32 → St → St → Prop} (A : At P c C M j f p op n B m s) (ho : op = 17) (kk : ∀ r C' M', Res P C M r C' M' → Q r C' M') : wp6_step C (fun r C' => wp9_step M (fun M' => Q r C' M')) := by
  obtain ⟨j5, hf, hop, h16, hcell, B80, l, hq, hb, -⟩ := A.facts
  obtain ⟨bC, bM, hg, i34, c2, m14, v1⟩ := A.f2
  obtain ⟨V6, Vk, hcell2, m30⟩ := A.wv
  obtain ⟨hn, hp1, ebt, hb256⟩ := whole2 A (by omega)
  have e := ck_var (s := s) A.op (by omega) (by omega)
  subst ho
  generalize hv : pC P f (p + 1) = v at *
  by_cases z : v < pV P f
  · have e : ckOne P f p s = pt (pK P f v) (tk (pK P f v) s) := by rw [e]; unfold ckVar ckVar1; rw [if_pos (by decide), if_pos z, if_neg (by decide), if_pos (by decide)]
    rw [e] at hb
    obtain ⟨h0, ekk, et⟩ := L_tk l hq (b_pt hb)
    rw [et] at e hb
    obtain ⟨h9, et2⟩ := L_pt hb
    rw [et2] at e
    have e : ckOne P f p s = (qh s - 1 + 1, fup (qK s) (qh s - 1) (pK P f v), qn s, qF s, qb s) := e
    have w1 := v1 (qh s - 1) (by omega)
    rw [ekk] at w1
    have lt : Live (ckOne P f p s) := by
      rw [e]; exact L_put (s := (qh s - 1, qK s, qn s, qF s, qb s)) (L_pop l) (Vk v z).2
    have qht : qh (ckOne P f p s) = qh s := by rw [e]; show qh s - 1 + 1 = _; omega
    have h101 := fun C' => A.h101 (Q := fun M' => Q 0 C' M') (by omega)
    refine A.cl (disp_val (by omega) (by omega) ?_)
    rw [ebt]
    simp (decide := true) only [wp6_stepValues, wp1_height, true_implies, false_implies, true_and, and_true, not_true, not_false_iff]
    intro x5 e5
    rw [c2, nI_dec (by omega)] at e5
    subst e5
    refine r_setFrom (by omega) (by omega) (h101 _ fun b hb => st_101v (by omega) (by omega) ?_)
    rw [hb hp1, hv]
    refine m_vset (j := j) (Or.inr rfl) (by simp [mB, gI_sI]; exact m30) j5 (by omega) m14 (by omega) (by omega) (fun y => absurd y (by decide)) (fun _ S2 e2 => ?_)
    subst e2
    rw [show B + qh s - 1 = B + (qh s - 1) by omega]
    refine kk _ _ _ (A.setv lt (by rw [e]; exact ⟨rfl, rfl⟩) (fun i hi => ?_) w1 ((bC.1.sJ (by unfold kX; omega)).sD (by unfold kX; omega)) (((bM.1.sJ (by unfold kY; omega)).sD (by unfold kY; omega)).sI (by unfold kY; omega)) ?_ ?_ (fun i => ?_) (fun o => ?_) ?_ ?_ (fun o i => ?_) (fun o i => ?_) (fun i => ?_) (fun i => ?_) (fun i => ?_) (fun i => ?_) ?_)
    · rw [qht] at hi
      refine ⟨hi, ?_⟩
      rw [e]
      show (if i = qh s - 1 then pK P f v else qK s i) = qK s i
      split
      · rename_i w; rw [w, ekk]
      · rfl
    · simp [gI_sI, gI_sJ, gI_sD]; exact bM.2.1
    · simp [gI_sI, gI_sJ, gI_sD]; exact i34
    · simp [gI_sI, gI_sJ, gI_sD]
    · rw [qht]
      by_cases w : o = 2 * j
      · rw [if_pos w, w]; simp [gI_sJ, gI_sD]; exact c2
      · rw [if_neg w]; simp [gI_sJ, gI_sD, gI_sI]
    · simp [gI_sI]
    · rw [qht]; simp [gI_sI, gI_sJ, gI_sD]; exact m14
    · simp [gJ_sI, gJ_sJ, gJ_sD]
    · simp [gD_sI, gD_sJ, gD_sD]
    · simp [gJ_sI, gJ_sJ, gJ_sD, mB]
    · simp [gD_sI, gD_sJ, gD_sD, mB]
    · simp [gJ_sI, gJ_sJ, gJ_sD, mB]
    · simp [gD_sI, gD_sJ, gD_sD, mB]
    · refine hg.of (fun i => ?_) (fun i => ?_) (fun _ => rfl) (fun _ => ?_) rfl (fun _ => rfl)
      · simp [gJ_sI, gJ_sJ, gJ_sD]; intro z; omega
      · simp [gD_sI, gD_sJ, gD_sD]; intro z; omega
      · simp [gJ_sI, gJ_sJ, gJ_sD]
  · have e : ckOne P f p s = sBad s := by rw [e]; unfold ckVar; rw [if_pos (by decide), if_neg z]
    rw [e] at hb
    exact absurd hb e_bad
