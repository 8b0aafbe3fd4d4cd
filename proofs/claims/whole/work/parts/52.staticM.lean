/-! PURE: the reference's methods go the pass -/
theorem nE {a b : Nat} (ha : a < 2 ^ 31) (hb : b < 2 ^ 31) (h : nI a = nI b) : a = b := (nI_eq ha hb).mp h
theorem nN {a b : Nat} (h : ¬ nI a = nI b) : ¬ a = b := fun z => h (by rw [z])
theorem m_take {M0 : St} {s : SB} {M : St} {k : Nat} {Q : St → Prop} (h : RS M0 s M) (w : WS s) (h1 : 1 ≤ qn s) (hk : k < 256) (kk : ∀ M', RS M0 (tk k s) M' → Q M') : wp9_take M (nI k) Q := by
  unfold wp9_take
  refine m_takeAny h w h1 fun M' h' => ?_
  have wt := (w_tkA w).2
  unfold tk at kk
  refine ⟨fun c => ?_, fun c => ⟨fun c2 => ?_, fun c2 => ?_⟩⟩
  · rw [if_pos (nE (by omega) (by omega) c)] at kk
    exact kk _ h'
  · rw [if_neg (nN c), if_pos (nE (b := 4) (by omega) (by omega) c2)] at kk
    exact kk _ h'
  · rw [if_neg (nN c), if_neg (nN (b := 4) c2)] at kk
    intro S2 e; subst e
    exact kk _ (m_bad h')
theorem m_takeIf {M0 : St} {s : SB} {M : St} {k : Nat} {Q : St → Prop} (h : RS M0 s M) (w : WS s) (h1 : 1 ≤ qn s) (hk : k < 256) (kk : ∀ M', RS M0 (tkIf k s) M' → Q M') : wp9_takeIf M (nI k) Q := by
  unfold wp9_takeIf
  unfold tkIf at kk
  refine ⟨fun c => ?_, fun c => ?_⟩
  · rw [if_pos (nE (b := 0) (by omega) (by omega) c)] at kk
    exact kk _ h
  · rw [if_neg (nN (b := 0) c)] at kk
    exact m_take h w h1 hk kk
theorem m_put {M0 : St} {s : SB} {M : St} {k : Nat} {Q : St → Prop} (h : RS M0 s M) (w : WS s) (kk : ∀ M', RS M0 (pt k s) M' → Q M') : wp9_put M (nI k) Q := by
  obtain ⟨hh, hn, hb, hK, hF, ha⟩ := id h
  obtain ⟨w1, w2, w3, w4, w5, w7, w8⟩ := id w
  unfold wp9_put
  unfold pt at kk
  have hcl : (gI M 1914 0).toNatClampNeg = qh s := by rw [hh, nI_clamp (by omega)]
  refine ⟨fun c => ?_, fun c => ?_⟩
  · rw [hh] at c
    have c := nN (b := 16) c
    rw [if_neg c] at kk
    refine ⟨by rw [hh]; exact vp_in_nI (by omega) (by omega), ?_⟩
    intro S1 e1 S2 e2
    rw [hcl] at e1
    subst e1; subst e2
    refine kk _ ⟨?_, hn, hb, fun i hi => ?_, hF, (ha.sA ⟨by decide, by decide⟩).sI ⟨by decide, by decide⟩⟩
    · show gI M 1914 0 + 1 = _
      rw [hh]; exact nI_1 _
    · have hi : i < qh s + 1 := hi
      show (if 1913 = 1913 ∧ 0 = 0 ∧ i = qh s then nI k else gA M 1913 0 i) = nI (if i = qh s then k else qK s i)
      by_cases z : i = qh s
      · simp [z]
      · simp [z]; exact hK i (by omega)
  · rw [hh] at c
    have c := nE (b := 16) (by omega) (by omega) c
    rw [if_pos c] at kk
    intro S3 e; subst e
    exact kk _ (m_bad h)
theorem m_putIf {M0 : St} {s : SB} {M : St} {k : Nat} {Q : St → Prop} (h : RS M0 s M) (w : WS s) (hk : k < 256) (kk : ∀ M', RS M0 (ptIf k s) M' → Q M') : wp9_putIf M (nI k) Q := by
  unfold wp9_putIf
  unfold ptIf at kk
  refine ⟨fun c => ?_, fun c => ?_⟩
  · rw [if_pos (nE (b := 0) (by omega) (by omega) c)] at kk
    exact kk _ h
  · rw [if_neg (nN (b := 0) c)] at kk
    exact m_put h w kk
theorem m_begin1 {M0 : St} {s : SB} {M : St} {op k pc : Nat} {Q : St → Prop} (h : RS M0 s M) (w : WS s) (kk : ∀ M', RS M0 (bg1 op k pc s) M' → Q M') : wp9_begin_29 (nI op) (nI k) Q M := by
  obtain ⟨hh, hn, hb, hK, hF, ha⟩ := id h
  obtain ⟨w1, w2, w3, w4, w5, w7, w8⟩ := id w
  unfold wp9_begin_29
  have hcl : (gI M 1920 0).toNatClampNeg = qn s := by rw [hn, nI_clamp (by omega)]
  have hv : vp_in (gI M 1920 0) 60 := by rw [hn]; exact vp_in_nI (by omega) (by omega)
  refine ⟨hv, fun S1 e1 => ?_⟩
  subst e1
  refine ⟨hv, fun S2 e2 => ?_⟩
  subst e2
  refine ⟨hv, fun S3 e3 => ?_⟩
  subst e3
  refine ⟨hv, fun S4 e4 => ?_⟩
  subst e4
  refine ⟨hv, fun S5 e5 => ?_⟩
  subst e5
  intro S6 e6; subst e6
  simp only [gI_sA, hcl]
  refine kk _ ⟨hh, ?_, hb, fun i hi => ?_, fun i hi => ?_, ?_⟩
  · show gI M 1920 0 + 1 = _
    rw [hn]; exact nI_1 _
  · simp only [gA_sI, gA_sA]
    have := hK i hi
    simp
    exact this
  · have hi : i < qn s + 1 := hi
    by_cases z : i = qn s
    · subst z
      refine ⟨?_, ?_, ?_, ?_, ?_⟩ <;> simp [gA_sI, gA_sA, bg1, qF, fup, fo, fk, fb, fd, fe, hh, ← l0]
    · have hf := hF i (by omega)
      refine ⟨?_, ?_, ?_, ?_, ?_⟩
      · simpa [gA_sI, gA_sA, bg1, qF, fup, z] using hf.1
      · simpa [gA_sI, gA_sA, bg1, qF, fup, z] using hf.2.1
      · simpa [gA_sI, gA_sA, bg1, qF, fup, z] using hf.2.2.1
      · simpa [gA_sI, gA_sA, bg1, qF, fup, z] using hf.2.2.2.1
      · simpa [gA_sI, gA_sA, bg1, qF, fup, z] using hf.2.2.2.2
  · exact (((((ha.sA ⟨by decide, by decide⟩).sA ⟨by decide, by decide⟩).sA ⟨by decide, by decide⟩).sA ⟨by decide, by decide⟩).sA ⟨by decide, by decide⟩).sI ⟨by decide, by decide⟩
theorem m_begin2 {M0 : St} {s : SB} {M : St} {op k pc : Nat} {Q : St → Prop} (h : RS M0 s M) (w : WS s) (hk : k < 256) (kk : ∀ M', RS M0 (bg2 op k pc s) M' → Q M') : wp9_begin_10 (nI op) (nI k) Q M := by
  unfold wp9_begin_10 wp9_begin_24
  unfold bg2 at kk
  have w2 := w.2.1
  refine ⟨fun c => ?_, fun c => ⟨fun c2 => ?_, fun c2 => ?_⟩⟩
  · rw [if_pos (Or.inl ((nI_ltI (a := 3) (by omega) (by omega)).mp c))] at kk
    intro S1 e; subst e
    exact m_begin1 (m_bad h) (w_bad w) kk
  · have c := fun z => c ((nI_ltI (a := 3) (by omega) (by omega)).mpr z)
    rw [h.2.1] at c2
    rw [if_neg (fun z => z.elim c (nN (b := 8) c2))] at kk
    exact m_begin1 h w kk
  · rw [h.2.1] at c2
    rw [if_pos (Or.inr (nE (b := 8) (by omega) (by omega) c2))] at kk
    intro S1 e; subst e
    exact m_begin1 (m_bad h) (w_bad w) kk
theorem m_begin {M0 : St} {s : SB} {M : St} {op k pc : Nat} {Q : St → Prop} (h : RS M0 s M) (w : WS s) (h1 : op = 4 → 1 ≤ qn s) (ho : op < 256) (hk : k < 256) (kk : ∀ M', RS M0 (bg op k pc s) M' → Q M') : wp9_begin M (nI op) (nI k) Q := by
  unfold wp9_begin
  unfold bg at kk
  refine ⟨fun c => ?_, fun c => ?_⟩
  · rw [if_neg (nN (b := 4) c)] at kk
    exact m_begin2 h w hk kk
  · have c := nE (b := 4) (by omega) (by omega) c
    rw [if_pos c] at kk
    exact m_take (k := 1) h w (h1 c) (by omega) fun M' h' => m_begin2 h' (w_tk w 1) hk kk
theorem m_die {M0 : St} {s : SB} {M : St} {Q : St → Prop} (h : RS M0 s M) (w : WS s) (h1 : 1 ≤ qn s) (kk : ∀ M', RS M0 (die s) M' → Q M') : wp9_die M Q := by
  obtain ⟨hh, hn, hb, hK, hF, ha⟩ := id h
  obtain ⟨w1, w2, w3, w4, w5, w7, w8⟩ := id w
  have f1 := hF (qn s - 1) (by omega)
  unfold wp9_die
  have e1 : gI M 1920 0 - 1 = nI (qn s - 1) := by rw [hn]; exact nI_dec h1
  have hv : vp_in (gI M 1920 0 - 1) 60 := by rw [e1]; exact vp_in_nI (by omega) (by omega)
  have hcl : (gI M 1920 0 - 1).toNatClampNeg = qn s - 1 := by rw [e1, nI_clamp (by omega)]
  refine ⟨hv, fun S1 e2 => ?_⟩
  subst e2
  refine ⟨hv, fun S2 e3 => ?_⟩
  subst e3
  have hcl2 : (gI (sI M 1914 0 (gA M 1917 0 (gI M 1920 0 - 1).toNatClampNeg)) 1920 0 - 1).toNatClampNeg = qn s - 1 := hcl
  rw [hcl2, hcl, f1.2.2.1]
  refine kk _ ⟨rfl, hn, hb, fun i hi => ?_, fun i hi => ?_, (ha.sI ⟨by decide, by decide⟩).sA ⟨by decide, by decide⟩⟩
  · have hi : i < fb (qF s (qn s - 1)) := hi
    have := w8 (qn s - 1) (by omega)
    exact hK i (by omega)
  · have hi : i < qn s := hi
    have hf := hF i hi
    by_cases z : i = qn s - 1
    · subst z
      refine ⟨?_, ?_, ?_, ?_, ?_⟩
      · simpa [gA_sI, gA_sA, die, sTop, qF, qn, fup, fo, fk, fb, fd, fe] using hf.1
      · simpa [gA_sI, gA_sA, die, sTop, qF, qn, fup, fo, fk, fb, fd, fe] using hf.2.1
      · simpa [gA_sI, gA_sA, die, sTop, qF, qn, fup, fo, fk, fb, fd, fe] using hf.2.2.1
      · simp [gA_sI, gA_sA, die, sTop, qF, qn, fup, fo, fk, fb, fd, fe, l1]
      · simpa [gA_sI, gA_sA, die, sTop, qF, qn, fup, fo, fk, fb, fd, fe] using hf.2.2.2.2
    · refine ⟨?_, ?_, ?_, ?_, ?_⟩
      · simpa [gA_sI, gA_sA, die, sTop, qF, fup, z] using hf.1
      · simpa [gA_sI, gA_sA, die, sTop, qF, fup, z] using hf.2.1
      · simpa [gA_sI, gA_sA, die, sTop, qF, fup, z] using hf.2.2.1
      · simpa [gA_sI, gA_sA, die, sTop, qF, fup, z] using hf.2.2.2.1
      · simpa [gA_sI, gA_sA, die, sTop, qF, fup, z] using hf.2.2.2.2
theorem w_top {s : SB} (w : WS s) (h1 : 1 ≤ qn s) : fo (sTop s) < 256 ∧ fk (sTop s) < 256 ∧ fb (sTop s) ≤ 16 ∧ fd (sTop s) ≤ 1 ∧ fe (sTop s) ≤ 1 := w.2.2.2.2.1 (qn s - 1) (by omega)
theorem m_else1 {M0 : St} {s : SB} {M : St} {op : Nat} {Q : St → Prop} (h : RS M0 s M) (w : WS s) (h1 : 1 ≤ qn s) (kk : ∀ M', RS M0 (clElse1 s) M' → Q M') : wp9_close_64 (nI op) Q (nI (qn s - 1)) M := by
  obtain ⟨hh, hn, hb, hK, hF, ha⟩ := id h
  have w2 := w.2.1
  unfold wp9_close_64
  rw [nI_clamp (by omega)]
  have hv : vp_in (nI (qn s - 1)) 60 := vp_in_nI (by omega) (by omega)
  refine ⟨hv, fun S1 e1 => ?_⟩
  subst e1
  refine ⟨hv, fun S2 e2 => ?_⟩
  subst e2
  refine kk _ ⟨hh, hn, hb, fun i hi => ?_, fun i hi => ?_, (ha.sA ⟨by decide, by decide⟩).sA ⟨by decide, by decide⟩⟩
  · have := hK i hi
    simp [gA_sA]
    exact this
  · have hi : i < qn s := hi
    have hf := hF i hi
    by_cases z : i = qn s - 1
    · subst z
      refine ⟨?_, ?_, ?_, ?_, ?_⟩
      · simpa [gA_sI, gA_sA, clElse1, sTop, qF, qn, fup, fo, fk, fb, fd, fe] using hf.1
      · simpa [gA_sI, gA_sA, clElse1, sTop, qF, qn, fup, fo, fk, fb, fd, fe] using hf.2.1
      · simpa [gA_sI, gA_sA, clElse1, sTop, qF, qn, fup, fo, fk, fb, fd, fe] using hf.2.2.1
      · simp [gA_sI, gA_sA, clElse1, sTop, qF, qn, fup, fo, fk, fb, fd, fe, ← l0]
      · simp [gA_sI, gA_sA, clElse1, sTop, qF, qn, fup, fo, fk, fb, fd, fe, ← l1]
    · refine ⟨?_, ?_, ?_, ?_, ?_⟩
      · simpa [gA_sI, gA_sA, clElse1, sTop, qF, fup, z] using hf.1
      · simpa [gA_sI, gA_sA, clElse1, sTop, qF, fup, z] using hf.2.1
      · simpa [gA_sI, gA_sA, clElse1, sTop, qF, fup, z] using hf.2.2.1
      · simpa [gA_sI, gA_sA, clElse1, sTop, qF, fup, z] using hf.2.2.2.1
      · simpa [gA_sI, gA_sA, clElse1, sTop, qF, fup, z] using hf.2.2.2.2
theorem w_pop {s : SB} (w : WS s) : WS (qh s, qK s, qn s - 1, qF s, qb s) := by
  have w2 := w.2.1
  refine ⟨w.1, by show qn s - 1 ≤ 9; omega, w.2.2.1, w.2.2.2.1, fun i hi => ?_, fun i j hij hj => ?_, fun i hi => ?_⟩
  · have hi : i < qn s - 1 := hi
    exact w.2.2.2.2.1 i (by omega)
  · have hj : j < qn s - 1 := hj
    exact w.2.2.2.2.2.1 i j hij (by omega)
  · have hi : i < qn s - 1 := hi
    exact w.2.2.2.2.2.2 i (by omega)
theorem m_end1 {M0 : St} {s : SB} {M : St} {op : Nat} {Q : St → Prop} (h : RS M0 s M) (w : WS s) (h1 : 1 ≤ qn s) (kk : ∀ M', RS M0 (clEnd1 s) M' → Q M') : wp9_close_112 (nI op) Q (nI (qn s - 1)) M := by
  obtain ⟨hh, hn, hb, hK, hF, ha⟩ := id h
  have w2 := w.2.1
  have w5 := w.2.2.2.2.1 (qn s - 1) (by omega)
  unfold wp9_close_112
  unfold clEnd1 at kk
  intro S1 e1; subst e1
  have e2 : gI (sI M 1920 0 (gI M 1920 0 - 1)) 1920 0 = nI (qn s - 1) := by
    show gI M 1920 0 - 1 = _
    rw [hn]; exact nI_dec h1
  have hR : RS M0 (qh s, qK s, qn s - 1, qF s, qb s) (sI M 1920 0 (gI M 1920 0 - 1)) :=
    ⟨hh, e2, hb, hK, fun i hi => hF i (by have hi : i < qn s - 1 := hi; omega), ha.sI ⟨by decide, by decide⟩⟩
  rw [e2, nI_clamp (by omega)]
  refine ⟨fun c => ?_, fun c => ?_⟩
  · have c := (nI_leI (b := 0) (by omega) (by omega)).mp c
    have c' : qn s - 1 = 0 := by omega
    rw [if_pos c'] at kk
    exact kk _ hR
  · have c := fun z => c ((nI_leI (b := 0) (by omega) (by omega)).mpr z)
    have c' : ¬ qn s - 1 = 0 := by
      intro z
      exact c (by rw [z]; exact Nat.le_refl 0)
    rw [if_neg c'] at kk
    refine ⟨vp_in_nI (by omega) (by omega), ?_⟩
    have e3 : gA (sI M 1920 0 (gI M 1920 0 - 1)) 1916 0 (qn s - 1) = nI (fk (sTop s)) := (hF (qn s - 1) (by omega)).2.1
    rw [e3]
    exact m_putIf hR (w_pop w) w5.2.1 kk
theorem m_close35 {M0 : St} {s : SB} {M : St} {op : Nat} {Q : St → Prop} (h : RS M0 s M) (w : WS s) (h1 : 1 ≤ qn s) (ho : op < 256) (kk : ∀ M', RS M0 (if op = 5 then clElse s else clEnd s) M' → Q M') : wp9_close_35 (nI op) Q (nI (qn s - 1)) M := by
  obtain ⟨hh, hn, hb, hK, hF, ha⟩ := id h
  have w2 := w.2.1
  have w5 := w_top w h1
  have hf := hF (qn s - 1) (by omega)
  have hv : vp_in (nI (qn s - 1)) 60 := vp_in_nI (by omega) (by omega)
  unfold wp9_close_35
  rw [nI_clamp (by omega), hf.1, hf.2.1, hf.2.2.2.2]
  refine ⟨fun c => ⟨hv, fun c1 => ?_, fun c1 => ⟨hv, fun c2 => ?_, fun c2 => ⟨hv, fun c3 => ?_, fun c3 => ?_⟩⟩⟩, fun c => ⟨hv, fun c1 => ?_, fun c1 => ⟨hv, fun c2 => ?_, fun c2 => ?_⟩⟩⟩
  · rw [if_neg (nN (b := 5) c)] at kk
    unfold clEnd at kk
    rw [if_neg (fun z => nN (b := 4) c1 z.1)] at kk
    exact m_end1 h w h1 kk
  · rw [if_neg (nN (b := 5) c)] at kk
    unfold clEnd at kk
    rw [if_neg (fun z => z.2.1 (nE (b := 0) (by omega) (by omega) c2))] at kk
    exact m_end1 h w h1 kk
  · rw [if_neg (nN (b := 5) c)] at kk
    unfold clEnd at kk
    rw [if_neg (fun z => nN (b := 0) c3 z.2.2)] at kk
    exact m_end1 h w h1 kk
  · rw [if_neg (nN (b := 5) c)] at kk
    unfold clEnd at kk
    rw [if_pos ⟨nE (b := 4) (by omega) (by omega) c1, nN (b := 0) c2, nE (b := 0) (by omega) (by omega) c3⟩] at kk
    intro S1 e; subst e
    exact m_end1 (s := sBad s) (m_bad h) (w_bad w) h1 kk
  · rw [if_pos (nE (b := 5) (by omega) (by omega) c)] at kk
    unfold clElse at kk
    rw [if_neg (fun z => nN (b := 4) c1 z.1)] at kk
    unfold wp9_close_59
    intro S1 e; subst e
    exact m_else1 (s := sBad s) (m_bad h) (w_bad w) h1 kk
  · rw [if_pos (nE (b := 5) (by omega) (by omega) c)] at kk
    unfold clElse at kk
    rw [if_pos ⟨nE (b := 4) (by omega) (by omega) c1, nE (b := 0) (by omega) (by omega) c2⟩] at kk
    exact m_else1 h w h1 kk
  · rw [if_pos (nE (b := 5) (by omega) (by omega) c)] at kk
    unfold clElse at kk
    rw [if_neg (fun z => nN (b := 0) c2 z.2)] at kk
    unfold wp9_close_59
    intro S1 e; subst e
    exact m_else1 (s := sBad s) (m_bad h) (w_bad w) h1 kk
theorem m_close {M0 : St} {s : SB} {M : St} {op : Nat} {Q : St → Prop} (h : RS M0 s M) (w : WS s) (h1 : 1 ≤ qn s) (ho : op < 256) (kk : ∀ M', RS M0 (cl op s) M' → Q M') : wp9_close M (nI op) Q := by
  obtain ⟨hh, hn, hb, hK, hF, ha⟩ := id h
  have w2 := w.2.1
  have w5 := w.2.2.2.2.1 (qn s - 1) (by omega)
  have hv : vp_in (nI (qn s - 1)) 60 := vp_in_nI (by omega) (by omega)
  unfold wp9_close
  intro x2 e1; subst e1
  rw [hn, nI_dec h1, nI_clamp (by omega), (hF (qn s - 1) (by omega)).2.1]
  refine ⟨hv, m_takeIf h w h1 w5.2.1 fun M' h' => ?_⟩
  have ft := f_tkIf (fk (qF s (qn s - 1))) s
  have wt := w_tkIf w (fk (qF s (qn s - 1)))
  unfold cl at kk
  generalize ht : tkIf (fk (qF s (qn s - 1))) s = t at h' ft wt
  have ht' : tkIf (fk (sTop s)) s = t := ht
  rw [ht'] at kk
  have hft := h'.2.2.2.2.1 (qn s - 1) (by rw [ft.1]; omega)
  rw [h'.1, hft.2.2.1]
  have e4 : qn s - 1 = qn t - 1 := by rw [ft.1]
  have wh := wt.1
  have wb := (wt.2.2.2.2.1 (qn s - 1) (by rw [ft.1]; omega)).2.2.1
  have etop : qF t (qn s - 1) = sTop t := by unfold sTop; rw [ft.1]
  have h1' : 1 ≤ qn t := by rw [ft.1]; exact h1
  refine ⟨hv, fun c => ?_, fun c => ?_⟩
  · have c := nE (by omega) (by omega) c
    rw [etop] at c
    rw [show cl2 t = t from if_pos c] at kk
    rw [e4]
    exact m_close35 h' wt h1' ho kk
  · have c := nN c
    rw [etop] at c
    rw [show cl2 t = sBad t from if_neg c] at kk
    intro S2 e; subst e
    rw [e4]
    exact m_close35 (s := sBad t) (m_bad h') (w_bad wt) h1' ho kk
theorem m_label {M0 : St} {s : SB} {M : St} {d : Nat} {Q : Int32 → St → Prop} (h : RS M0 s M) (w : WS s) (hd : d < 256) (kk : ∀ M', RS M0 (lbl d s).2 M' → Q (nI (lbl d s).1) M') : wp9_label M (nI d) Q := by
  obtain ⟨hh, hn, hb, hK, hF, ha⟩ := id h
  have w2 := w.2.1
  unfold wp9_label
  unfold lbl at kk
  rw [hn]
  refine ⟨fun c => ?_, fun c => ?_⟩
  · have c := (nI_ltI (by omega) (by omega)).mp c
    rw [if_pos c] at kk
    intro x2 e; subst e
    rw [nI_dec (by omega), nI_sub (by omega), nI_clamp (by omega)]
    have hf := hF (qn s - 1 - d) (by omega)
    have w5 := w.2.2.2.2.1 (qn s - 1 - d) (by omega)
    rw [hf.1, hf.2.1]
    have hv : vp_in (nI (qn s - 1 - d)) 60 := vp_in_nI (by omega) (by omega)
    refine ⟨hv, fun c2 => ⟨hv, ?_⟩, fun c2 => ?_⟩
    · have := kk M h
      rw [show ((if fo (qF s (qn s - 1 - d)) = 3 then 0 else fk (qF s (qn s - 1 - d))), s).1 = fk (qF s (qn s - 1 - d)) from if_neg (nN (b := 3) c2)] at this
      exact this
    · have := kk M h
      rw [show ((if fo (qF s (qn s - 1 - d)) = 3 then 0 else fk (qF s (qn s - 1 - d))), s).1 = 0 from if_pos (nE (b := 3) (by omega) (by omega) c2)] at this
      exact this
  · have c := fun z => c ((nI_ltI (by omega) (by omega)).mpr z)
    rw [if_neg c] at kk
    intro S1 e; subst e
    exact kk _ (m_bad h)
/-- the program as the reference has it -/
def PM (P : Prog) (M : St) : Prop := ∀ f, f < 6 → gA M 1901 0 f = nI (pN P f) ∧ gA M 1902 0 f = nI (pV P f) ∧ gA M 1903 0 f = nI (pR P f) ∧ gA M 1905 0 f = nI (pL P f) ∧ (∀ v, v < pV P f → gA M 1900 0 (6 * f + v) = nI (pK P f v)) ∧ ∀ i, i < pL P f → gA M 1904 0 (60 * f + i) = nI (pC P f i)
theorem PM.ag {P : Prog} {p : Nat → Prop} {M M' : St} (h : PM P M) (a : Ag p M M') (hp : ∀ k, 1900 ≤ k → k ≤ 1905 → ¬ p k) : PM P M' := by
  intro f hf
  obtain ⟨h1, h2, h3, h4, h5, h6⟩ := h f hf
  refine ⟨?_, ?_, ?_, ?_, fun v hv => ?_, fun i hi => ?_⟩
  · rw [a.gA (hp 1901 (by omega) (by omega))]; exact h1
  · rw [a.gA (hp 1902 (by omega) (by omega))]; exact h2
  · rw [a.gA (hp 1903 (by omega) (by omega))]; exact h3
  · rw [a.gA (hp 1905 (by omega) (by omega))]; exact h4
  · rw [a.gA (hp 1900 (by omega) (by omega))]; exact h5 v hv
  · rw [a.gA (hp 1904 (by omega) (by omega))]; exact h6 i hi
theorem RS.pm {P : Prog} {M0 : St} {s : SB} {M : St} (h : RS M0 s M) (hP : PM P M0) : PM P M := hP.ag h.2.2.2.2.2 (fun k h1 h2 z => by have := z.1; omega)
theorem m_byteAny {P : Prog} {M : St} {f i : Nat} {Q : Int32 → St → Prop} (hP : PM P M) (hf : f < 6) (hi : i < 60) (kk : ∀ r, (i < pL P f → r = nI (pC P f i)) → Q r M) : wp9_byteAt M (nI f) (nI i) Q := by
  unfold wp9_byteAt
  rw [show (60 : Int32) * nI f + nI i = nI (60 * f + i) by rw [l60, nI_mul, nI_add]]
  refine ⟨vp_in_nI (by omega) (by omega), ?_⟩
  rw [nI_clamp (by omega)]
  exact kk _ fun h => (hP f hf).2.2.2.2.2 i h
theorem m_byteAt {P : Prog} {M : St} {f i : Nat} {Q : Int32 → St → Prop} (hP : PM P M) (hw : PW P) (hf : f < 6) (hi : i < pL P f) (kk : Q (nI (pC P f i)) M) : wp9_byteAt M (nI f) (nI i) Q :=
  m_byteAny hP hf (by have := (hw f hf).2.2.2.2.1; omega) fun r h => by rw [h hi]; exact kk
theorem m_dieIf {M0 : St} {s : SB} {M : St} {x1 x2 x3 : Int32} {Q : St → Prop} (h : RS M0 s M) (w : WS s) (h1 : 1 ≤ qn s) (kk : ∀ M', RS M0 (dieIf s) M' → Q M') : wp9_checkJump_148 x1 x2 x3 Q M := by
  unfold wp9_checkJump_148
  unfold dieIf at kk
  have w3 := w.2.2.1
  rw [h.2.2.1]
  refine ⟨fun c => ?_, fun c => ?_⟩
  · rw [if_neg (nN (b := 0) c)] at kk
    exact kk _ h
  · rw [if_pos (nE (b := 0) (by omega) (by omega) c)] at kk
    exact m_die h w h1 kk
theorem m_lbls {P : Prog} {M0 : St} {f pc op k N : Nat} {Q : St → Prop} (hP : PM P M0) (hw : PW P) (hf : f < 6) (hN : pc + 2 + N < pL P f) (hN2 : N < 60) (hk : k < 256) : ∀ (m i : Nat) (s : SB) (M : St), RS M0 s M → WS s → 1 ≤ qn s → m + i = N + 1 → (∀ M', RS M0 (lbls (fun i => pC P f (pc + 2 + i)) k m i s) M' → wp9_takeIf M' (nI k) (fun S1 => wp9_checkJump_148 (nI f) (nI pc) (nI op) Q S1)) → wp9_checkJump_57 (nI f) (nI pc) (nI op) Q (m + 1) (nI N) (nI k) (nI i) M := by
  intro m
  induction m with
  | zero =>
    intro i s M h w h1 hm kk
    unfold wp9_checkJump_57
    refine ⟨fun _ => kk M h, fun c => absurd ((nI_ltI (by omega) (by omega)).mpr (by omega)) c⟩
  | succ m ih =>
    intro i s M h w h1 hm kk
    unfold wp9_checkJump_57
    refine ⟨fun c => absurd ((nI_ltI (by omega) (by omega)).mp c) (by omega), fun _ => ?_⟩
    have hl := (hw f hf).2.2.2.2.1
    rw [show nI pc + 2 + nI i = nI (pc + 2 + i) by rw [l2, nI_add, nI_add]]
    refine m_byteAt (h.pm hP) hw hf (by omega) ?_
    have hc := (hw f hf).2.2.2.2.2.2 (pc + 2 + i) (by omega)
    refine m_label h w hc fun M1 g => ?_
    have wl := w_lbl w (pC P f (pc + 2 + i))
    have fl := f_lbl (pC P f (pc + 2 + i)) s
    unfold wp9_checkJump_89
    refine ⟨fun c => ?_, fun c => ?_⟩
    · intro x6 e; subst e
      rw [nI_1]
      refine ih (i + 1) _ M1 g wl.1 (by rw [fl.1]; exact h1) (by omega) fun M' h' => ?_
      refine kk M' ?_
      unfold lbls
      rw [if_pos (nE (by omega) (by omega) c)]
      exact h'
    · intro S4 e; subst e
      intro x6 e; subst e
      rw [nI_1]
      refine ih (i + 1) (sBad _) _ (m_bad g) (w_bad wl.1) (by show 1 ≤ qn (lbl _ s).2; rw [fl.1]; exact h1) (by omega) fun M' h' => ?_
      refine kk M' ?_
      unfold lbls
      rw [if_neg (nN c)]
      exact h'
theorem m_checkJump {P : Prog} {M0 : St} {s : SB} {M : St} {f pc op : Nat} {Q : St → Prop} (hP : PM P M0) (hw : PW P) (hf : f < 6) (h : RS M0 s M) (w : WS s) (h1 : 1 ≤ qn s) (ho : op < 256) (hop : op = 10 ∨ (op = 9 ∧ pc + 2 + pC P f (pc + 1) < pL P f) ∨ ((op = 7 ∨ op = 8) ∧ pc + 1 < pL P f)) (kk : ∀ M', RS M0 (ckJump P f pc op s) M' → Q M') : wp9_checkJump M (nI f) (nI pc) (nI op) Q := by
  have hl := (hw f hf).2.2.2.2.1
  unfold wp9_checkJump
  unfold ckJump at kk
  have key : ∀ (s : SB) (M : St), RS M0 s M → WS s → 1 ≤ qn s → (op = 7 ∨ op = 8) ∧ pc + 1 < pL P f → (∀ M', RS M0 (if op = 8 then ptIf (lbl (pC P f (pc + 1)) s).1 (tkIf (lbl (pC P f (pc + 1)) s).1 (lbl (pC P f (pc + 1)) s).2) else dieIf (tkIf (lbl (pC P f (pc + 1)) s).1 (lbl (pC P f (pc + 1)) s).2)) M' → Q M') → wp9_checkJump_115 (nI f) (nI pc) (nI op) Q M := by
    intro s M h w h1 hop kk
    unfold wp9_checkJump_115
    rw [nI_1]
    refine m_byteAt (h.pm hP) hw hf hop.2 ?_
    have hc := (hw f hf).2.2.2.2.2.2 (pc + 1) hop.2
    refine m_label h w hc fun M1 g => ?_
    have wl := w_lbl w (pC P f (pc + 1))
    have fl := f_lbl (pC P f (pc + 1)) s
    refine m_takeIf g wl.1 (by rw [fl.1]; exact h1) wl.2 fun M2 g2 => ?_
    have wt := w_tkIf wl.1 (lbl (pC P f (pc + 1)) s).1
    have ft := f_tkIf (lbl (pC P f (pc + 1)) s).1 (lbl (pC P f (pc + 1)) s).2
    refine ⟨fun c => ?_, fun c => ?_⟩
    · rw [if_neg (nN (b := 8) c)] at kk
      exact m_dieIf g2 wt (by rw [ft.1, fl.1]; exact h1) kk
    · rw [if_pos (nE (b := 8) (by omega) (by omega) c)] at kk
      exact m_putIf g2 wt wl.2 kk
  refine ⟨fun c => ⟨fun c1 => ⟨fun c2 => ?_, fun c2 => ?_⟩, fun c1 => ?_⟩, fun c => ?_⟩
  · have c := nN (b := 10) c
    have c1 := nN (b := 9) c1
    have c2 := nN (b := 8) c2
    rw [if_neg c, if_neg c1, if_neg c2] at kk
    refine key s M h w h1 (by omega) ?_
    rw [if_neg c2]
    exact kk
  · have c := nN (b := 10) c
    have c1 := nN (b := 9) c1
    have c2 := nE (b := 8) (by omega) (by omega) c2
    rw [if_neg c, if_neg c1, if_pos c2] at kk
    refine m_take (k := 1) h w h1 (by omega) fun M1 g => ?_
    refine key (tk 1 s) M1 g (w_tk w 1) (by rw [(f_tk 1 s).1]; exact h1) (by omega) ?_
    rw [if_pos c2]
    exact kk
  · have c := nN (b := 10) c
    have c1 := nE (b := 9) (by omega) (by omega) c1
    rw [if_neg c, if_pos c1] at kk
    have hop' : pc + 2 + pC P f (pc + 1) < pL P f := by omega
    refine m_take (k := 1) h w h1 (by omega) fun M1 g => ?_
    rw [nI_1, show nI pc + 2 = nI (pc + 2) from nI_add pc 2]
    refine m_byteAt (g.pm hP) hw hf (by omega) ?_
    refine m_byteAt (g.pm hP) hw hf (by omega) ?_
    have hc := (hw f hf).2.2.2.2.2.2 (pc + 2) (by omega)
    have w1 := w_tk w 1
    have f1 := f_tk 1 s
    refine m_label g w1 hc fun M2 g2 => ?_
    have wl := w_lbl w1 (pC P f (pc + 2))
    have fl := f_lbl (pC P f (pc + 2)) (tk 1 s)
    have hq : 1 ≤ qn (lbl (pC P f (pc + 2)) (tk 1 s)).2 := by rw [fl.1, f1.1]; exact h1
    refine ⟨pC P f (pc + 1) + 1 + 1, ?_⟩
    refine m_lbls hP hw hf hop' (by omega) wl.2 (pC P f (pc + 1) + 1) 0 _ M2 g2 wl.1 hq (by omega) fun M3 g3 => ?_
    have w3 := w_lbls (fun i => pC P f (pc + 2 + i)) (lbl (pC P f (pc + 2)) (tk 1 s)).1 (pC P f (pc + 1) + 1) 0 _ wl.1
    have f3 := f_lbls (fun i => pC P f (pc + 2 + i)) (lbl (pC P f (pc + 2)) (tk 1 s)).1 (pC P f (pc + 1) + 1) 0 (lbl (pC P f (pc + 2)) (tk 1 s)).2
    refine m_takeIf g3 w3 (by rw [f3.1]; exact hq) wl.2 fun M4 g4 => ?_
    have f4 := f_tkIf (lbl (pC P f (pc + 2)) (tk 1 s)).1 (lbls (fun i => pC P f (pc + 2 + i)) (lbl (pC P f (pc + 2)) (tk 1 s)).1 (pC P f (pc + 1) + 1) 0 (lbl (pC P f (pc + 2)) (tk 1 s)).2)
    exact m_dieIf g4 (w_tkIf w3 _) (by rw [f4.1, f3.1]; exact hq) kk
  · have c := nE (b := 10) (by omega) (by omega) c
    rw [if_pos c] at kk
    have w5 := w.2.2.2.2.1 0 (by omega)
    have e : gA M 1916 0 ((0 : Int32).toNatClampNeg) = nI (fk (qF s 0)) := (h.2.2.2.2.1 0 (by omega)).2.1
    rw [e]
    refine m_takeIf h w h1 w5.2.1 fun M1 g => ?_
    exact m_dieIf g (w_tkIf w _) (by rw [(f_tkIf _ s).1]; exact h1) kk
