/-! PURE: the reference's methods go the pass -/
theorem nE {a b : Nat} (ha : a < 2 ^ 31) (hb : b < 2 ^ 31) (h : nI a = nI b) : a = b := (nI_eq ha hb).mp h
theorem nN {a b : Nat} (h : ¬ nI a = nI b) : ¬ a = b := fun z => h (by rw [z])
theorem m_take {M0 : St} {s : SB} {M : St} {k : Nat} {Q : St → Prop} (h : RS M0 s M) (w : WS s) (h1 : 1 ≤ qn s) (hk : k < 256) (kk : ∀ M', RS M0 (tk k s) M' → Q M') : wp9_take M (nI k) Q := by
  unfold wp9_take
  refine m_takeAny h w h1 fun M' h' => ?_
  have wt := (w_tkA w).2
  unfold tk at kk
  refine ⟨fun c => ?_, fun c => ⟨fun c2 => ?_, fun c2 => ?_⟩⟩
  · rw [if_pos (nE (by omega) (by omega) c)] at kk
    exact kk _ h'
  · rw [if_neg (nN c), if_pos (nE (b := 4) (by omega) (by omega) c2)] at kk
    exact kk _ h'
  · rw [if_neg (nN c), if_neg (nN (b := 4) c2)] at kk
    intro S2 e; subst e
    exact kk _ (m_bad h')
theorem m_takeIf {M0 : St} {s : SB} {M : St} {k : Nat} {Q : St → Prop} (h : RS M0 s M) (w : WS s) (h1 : 1 ≤ qn s) (hk : k < 256) (kk : ∀ M', RS M0 (tkIf k s) M' → Q M') : wp9_takeIf M (nI k) Q := by
  unfold wp9_takeIf
  unfold tkIf at kk
  refine ⟨fun c => ?_, fun c => ?_⟩
  · rw [if_pos (nE (b := 0) (by omega) (by omega) c)] at kk
    exact kk _ h
  · rw [if_neg (nN (b := 0) c)] at kk
    exact m_take h w h1 hk kk
theorem m_put {M0 : St} {s : SB} {M : St} {k : Nat} {Q : St → Prop} (h : RS M0 s M) (w : WS s) (kk : ∀ M', RS M0 (pt k s) M' → Q M') : wp9_put M (nI k) Q := by
  obtain ⟨hh, hn, hb, hK, hF, ha⟩ := id h
  obtain ⟨w1, w2, w3, w4, w5, w7, w8⟩ := id w
  unfold wp9_put
  unfold pt at kk
  have hcl : (gI M 1914 0).toNatClampNeg = qh s := by rw [hh, nI_clamp (by omega)]
  refine ⟨fun c => ?_, fun c => ?_⟩
  · rw [hh] at c
    have c := nN (b := 16) c
    rw [if_neg c] at kk
    refine ⟨by rw [hh]; exact vp_in_nI (by omega) (by omega), ?_⟩
    intro S1 e1 S2 e2
    rw [hcl] at e1
    subst e1; subst e2
    refine kk _ ⟨?_, hn, hb, fun i hi => ?_, hF, (ha.sA ⟨by decide, by decide⟩).sI ⟨by decide, by decide⟩⟩
    · show gI M 1914 0 + 1 = _
      rw [hh]; exact nI_1 _
    · have hi : i < qh s + 1 := hi
      show (if 1913 = 1913 ∧ 0 = 0 ∧ i = qh s then nI k else gA M 1913 0 i) = nI (if i = qh s then k else qK s i)
      by_cases z : i = qh s
      · simp [z]
      · simp [z]; exact hK i (by omega)
  · rw [hh] at c
    have c := nE (b := 16) (by omega) (by omega) c
    rw [if_pos c] at kk
    intro S3 e; subst e
    exact kk _ (m_bad h)
theorem m_putIf {M0 : St} {s : SB} {M : St} {k : Nat} {Q : St → Prop} (h : RS M0 s M) (w : WS s) (hk : k < 256) (kk : ∀ M', RS M0 (ptIf k s) M' → Q M') : wp9_putIf M (nI k) Q := by
  unfold wp9_putIf
  unfold ptIf at kk
  refine ⟨fun c => ?_, fun c => ?_⟩
  · rw [if_pos (nE (b := 0) (by omega) (by omega) c)] at kk
    exact kk _ h
  · rw [if_neg (nN (b := 0) c)] at kk
    exact m_put h w kk
theorem m_begin1 {M0 : St} {s : SB} {M : St} {op k pc : Nat} {Q : St → Prop} (h : RS M0 s M) (w : WS s) (kk : ∀ M', RS M0 (bg1 op k pc s) M' → Q M') : wp9_begin_29 (nI op) (nI k) Q M := by
  obtain ⟨hh, hn, hb, hK, hF, ha⟩ := id h
  obtain ⟨w1, w2, w3, w4, w5, w7, w8⟩ := id w
  unfold wp9_begin_29
  have hcl : (gI M 1920 0).toNatClampNeg = qn s := by rw [hn, nI_clamp (by omega)]
  have hv : vp_in (gI M 1920 0) 60 := by rw [hn]; exact vp_in_nI (by omega) (by omega)
  refine ⟨hv, fun S1 e1 => ?_⟩
  subst e1
  refine ⟨hv, fun S2 e2 => ?_⟩
  subst e2
  refine ⟨hv, fun S3 e3 => ?_⟩
  subst e3
  refine ⟨hv, fun S4 e4 => ?_⟩
  subst e4
  refine ⟨hv, fun S5 e5 => ?_⟩
  subst e5
  intro S6 e6; subst e6
  simp only [gI_sA, hcl]
  refine kk _ ⟨hh, ?_, hb, fun i hi => ?_, fun i hi => ?_, ?_⟩
  · show gI M 1920 0 + 1 = _
    rw [hn]; exact nI_1 _
  · simp only [gA_sI, gA_sA]
    have := hK i hi
    simp
    exact this
  · have hi : i < qn s + 1 := hi
    by_cases z : i = qn s
    · subst z
      refine ⟨?_, ?_, ?_, ?_, ?_⟩ <;> simp [gA_sI, gA_sA, bg1, qF, fup, fo, fk, fb, fd, fe, hh, ← l0]
    · have hf := hF i (by omega)
      refine ⟨?_, ?_, ?_, ?_, ?_⟩
      · simpa [gA_sI, gA_sA, bg1, qF, fup, z] using hf.1
      · simpa [gA_sI, gA_sA, bg1, qF, fup, z] using hf.2.1
      · simpa [gA_sI, gA_sA, bg1, qF, fup, z] using hf.2.2.1
      · simpa [gA_sI, gA_sA, bg1, qF, fup, z] using hf.2.2.2.1
      · simpa [gA_sI, gA_sA, bg1, qF, fup, z] using hf.2.2.2.2
  · exact (((((ha.sA ⟨by decide, by decide⟩).sA ⟨by decide, by decide⟩).sA ⟨by decide, by decide⟩).sA ⟨by decide, by decide⟩).sA ⟨by decide, by decide⟩).sI ⟨by decide, by decide⟩
theorem m_begin2 {M0 : St} {s : SB} {M : St} {op k pc : Nat} {Q : St → Prop} (h : RS M0 s M) (w : WS s) (hk : k < 256) (kk : ∀ M', RS M0 (bg2 op k pc s) M' → Q M') : wp9_begin_10 (nI op) (nI k) Q M := by
  unfold wp9_begin_10 wp9_begin_24
  unfold bg2 at kk
  have w2 := w.2.1
  refine ⟨fun c => ?_, fun c => ⟨fun c2 => ?_, fun c2 => ?_⟩⟩
  · rw [if_pos (Or.inl ((nI_ltI (a := 3) (by omega) (by omega)).mp c))] at kk
    intro S1 e; subst e
    exact m_begin1 (m_bad h) (w_bad w) kk
  · have c := fun z => c ((nI_ltI (a := 3) (by omega) (by omega)).mpr z)
    rw [h.2.1] at c2
    rw [if_neg (fun z => z.elim c (nN (b := 8) c2))] at kk
    exact m_begin1 h w kk
  · rw [h.2.1] at c2
    rw [if_pos (Or.inr (nE (b := 8) (by omega) (by omega) c2))] at kk
    intro S1 e; subst e
    exact m_begin1 (m_bad h) (w_bad w) kk
theorem m_begin {M0 : St} {s : SB} {M : St} {op k pc : Nat} {Q : St → Prop} (h : RS M0 s M) (w : WS s) (h1 : op = 4 → 1 ≤ qn s) (ho : op < 256) (hk : k < 256) (kk : ∀ M', RS M0 (bg op k pc s) M' → Q M') : wp9_begin M (nI op) (nI k) Q := by
  unfold wp9_begin
  unfold bg at kk
  refine ⟨fun c => ?_, fun c => ?_⟩
  · rw [if_neg (nN (b := 4) c)] at kk
    exact m_begin2 h w hk kk
  · have c := nE (b := 4) (by omega) (by omega) c
    rw [if_pos c] at kk
    exact m_take (k := 1) h w (h1 c) (by omega) fun M' h' => m_begin2 h' (w_tk w 1) hk kk
theorem m_die {M0 : St} {s : SB} {M : St} {Q : St → Prop} (h : RS M0 s M) (w : WS s) (h1 : 1 ≤ qn s) (kk : ∀ M', RS M0 (die s) M' → Q M') : wp9_die M Q := by
  obtain ⟨hh, hn, hb, hK, hF, ha⟩ := id h
  obtain ⟨w1, w2, w3, w4, w5, w7, w8⟩ := id w
  have f1 := hF (qn s - 1) (by omega)
  unfold wp9_die
  have e1 : gI M 1920 0 - 1 = nI (qn s - 1) := by rw [hn]; exact nI_dec h1
  have hv : vp_in (gI M 1920 0 - 1) 60 := by rw [e1]; exact vp_in_nI (by omega) (by omega)
  have hcl : (gI M 1920 0 - 1).toNatClampNeg = qn s - 1 := by rw [e1, nI_clamp (by omega)]
  refine ⟨hv, fun S1 e2 => ?_⟩
  subst e2
  refine ⟨hv, fun S2 e3 => ?_⟩
  subst e3
  have hcl2 : (gI (sI M 1914 0 (gA M 1917 0 (gI M 1920 0 - 1).toNatClampNeg)) 1920 0 - 1).toNatClampNeg = qn s - 1 := hcl
  rw [hcl2, hcl, f1.2.2.1]
  refine kk _ ⟨rfl, hn, hb, fun i hi => ?_, fun i hi => ?_, (ha.sI ⟨by decide, by decide⟩).sA ⟨by decide, by decide⟩⟩
  · have hi : i < fb (qF s (qn s - 1)) := hi
    have := w8 (qn s - 1) (by omega)
    exact hK i (by omega)
  · have hi : i < qn s := hi
    have hf := hF i hi
    by_cases z : i = qn s - 1
    · subst z
      refine ⟨?_, ?_, ?_, ?_, ?_⟩
      · simpa [gA_sI, gA_sA, die, sTop, qF, qn, fup, fo, fk, fb, fd, fe] using hf.1
      · simpa [gA_sI, gA_sA, die, sTop, qF, qn, fup, fo, fk, fb, fd, fe] using hf.2.1
      · simpa [gA_sI, gA_sA, die, sTop, qF, qn, fup, fo, fk, fb, fd, fe] using hf.2.2.1
      · simp [gA_sI, gA_sA, die, sTop, qF, qn, fup, fo, fk, fb, fd, fe, l1]
      · simpa [gA_sI, gA_sA, die, sTop, qF, qn, fup, fo, fk, fb, fd, fe] using hf.2.2.2.2
    · refine ⟨?_, ?_, ?_, ?_, ?_⟩
      · simpa [gA_sI, gA_sA, die, sTop, qF, fup, z] using hf.1
      · simpa [gA_sI, gA_sA, die, sTop, qF, fup, z] using hf.2.1
      · simpa [gA_sI, gA_sA, die, sTop, qF, fup, z] using hf.2.2.1
      · simpa [gA_sI, gA_sA, die, sTop, qF, fup, z] using hf.2.2.2.1
      · simpa [gA_sI, gA_sA, die, sTop, qF, fup, z] using hf.2.2.2.2
