/-! PURE: steps of memory accesses -/
theorem sz_le (op : Nat) : sz op ≤ 8 := by unfold sz; split <;> (try split) <;> omega
theorem jl0 : jlshl 0 8 = 0 := by decide +kernel
theorem wd_bit {op : Nat} {mem : Nat → Int32} {p : Nat} (h1 : op = 23 ∨ op = 24) (hm : ∃ n, n < 256 ∧ mem p = nI n) : (wd op (ldv mem p (sz op) 0)).toInt32.toInt64 = wd op (ldv mem p (sz op) 0) := by
  rcases h1 with rfl | rfl
  · show (ldv mem p (sz 23) 0).toInt32.toInt64.toInt32.toInt64 = _
    rw [i_ext]; rfl
  · show (ldv mem p 1 0).toInt32.toInt64 = ldv mem p 1 0
    have e : ldv mem p 1 0 = (mem p).toInt64 := by
      show jlshl 0 8 ||| (mem (p + 0)).toInt64 = _
      rw [jl0, Int64.zero_or]; rfl
    rw [e, i_ext]
theorem XG.stored {C M C' M' : St} {x : Int64} {p n : Nat} (hg : XG C M) (hC : Stored 1700 x p 0 n C C') (hM : Stored 1907 x p 0 n M M') : XG C' M' := by
  obtain ⟨h1, h2, h3, h4⟩ := hg
  refine ⟨?_, ?_, ?_, fun i hi => ?_⟩
  · rw [hC.1.gJ (by decide), hM.1.gJ (by decide)]; exact h1
  · rw [hC.1.gJ (by decide), hM.1.gJ (by decide)]; exact h2
  · rw [hC.1.gD (by decide), hM.1.gF (by decide)]; exact h3
  · rw [hC.2, hM.2]
    by_cases z : p + 0 ≤ i ∧ i < p + n
    · rw [if_pos z, if_pos z]
      obtain ⟨k, hk, ek⟩ := byt_lt x (i - p)
      exact ⟨k, hk, ek, ek⟩
    · rw [if_neg z, if_neg z]; exact h4 i hi
theorem st_loads {P : Prog} {c : Ct} {C M : St} {j f p op n B m : Nat} {s : SB} {Q : Int32 → St → St → Prop} (A : At P c C M j f p op n B m s) (ho : 23 ≤ op) (ho2 : op ≤ 25) (kk : ∀ r C' M', Res P C M r C' M' → Q r C' M') : wp6_step C (fun r C' => wp9_step M (fun M' => Q r C' M')) := by
  obtain ⟨j5, hf, hop, h16, hcell, B80, l, hq, hb, -⟩ := A.facts
  obtain ⟨bC, bM, hg, i34, c2, m14, v1⟩ := A.f2
  have eop := A.op
  obtain ⟨hn, hp1, ebt, hb256⟩ := whole2 A (by omega)
  obtain ⟨cc, c0, c3, e, hcc⟩ : ∃ cc : Nat, ¬ cc = 0 ∧ cc ≤ 3 ∧ ckOne P f p s = ptIf cc (tkIf 0 (tkIf 1 s)) ∧ (cc = 2 ∨ (cc = 1 ∧ (op = 23 ∨ op = 24))) := by
    by_cases z : op ≤ 24
    · refine ⟨1, by decide, by decide, ?_, Or.inr ⟨rfl, by omega⟩⟩
      rw [ck_plain (by omega), eop, sg_ld ho z]
    · refine ⟨2, by decide, by decide, ?_, Or.inl rfl⟩
      rw [ck_plain (by omega), eop, show op = 25 by omega]
      rfl
  obtain ⟨g1, k1, lt, et, ek, ei, ef⟩ := pl_one l hq (by decide) c0 c3 e hb
  have w1 := v1 (qh s - 1) (by omega)
  rw [k1] at w1
  obtain ⟨a1, a2⟩ := VR1 w1
  have eH1 : B + qh s - 1 = B + (qh s - 1) := by omega
  have bC1 : CB j C n (tT1 (cC j n C) (2 * j) (qh s)) := bC.h _
  have bM1 := bM.s (k := 1914) (Or.inl rfl) (nI (B + (qh s - 1)))
  have i34' : gI (sI (mB M) 1914 0 (nI (B + (qh s - 1)))) 1934 0 = 0 := by
    rw [gI_sI, if_neg (fun z => absurd z.1 (by decide))]; exact i34
  have eA : gJ (mB M) 1922 0 (B + qh s - 1) = gJ (cC j n C) 1100 (2 * j) (qh s - 1) := by rw [eH1, ← a1]
  refine A.cl (disp_num (by omega) (by omega) ?_)
  rw [ebt]
  refine c_mems c2 (by rw [if_pos (by omega)]; exact g1) (by omega) ho (by omega) hb256 (fun _ y => ?_) (fun z => absurd z (by omega)) (fun _ q hq64 eq y => ?_) (fun z => absurd z (by omega))
  · refine A.pl (by omega) fun b hb => ?_
    have hb := hb hp1
    subst hb
    refine m_pl_mem ho (by omega) (m_mems m14 (by rw [if_pos (by omega)]; omega) (by omega) ho (by omega) hb256 (fun _ _ S3 e3 => ?_) (fun z => absurd z (by omega)) (fun _ q hq64 eq y2 => absurd ?_ y) (fun z => absurd z (by omega)))
    · subst e3
      rw [eH1]
      refine kk _ _ _ (res_trap (t := 3) bC1 ((bM1.s (Or.inr (Or.inr rfl)) 3).s (Or.inr (Or.inl rfl)) _) hg (by decide) (by decide) ?_)
      simp [gI_sI]; rfl
    · rw [eA] at y2; exact y2
  · refine A.pl (by omega) fun b hb => ?_
    have hb := hb hp1
    subst hb
    refine m_pl_mem ho (by omega) (m_mems m14 (by rw [if_pos (by omega)]; omega) (by omega) ho (by omega) hb256 (fun _ y2 => absurd ?_ y2) (fun z => absurd z (by omega)) (fun _ q2 hq2 eq2 y2 S3 e3 => ?_) (fun z => absurd z (by omega)))
    · rw [eA]; exact y
    · subst e3
      rw [eA, eq] at eq2
      have eqq : q = q2 := nE (by omega) (by omega) eq2
      subst eqq
      have em : ldv (gA (mB M) 1907 0) q (sz op) 0 = ldv (gA (cC j n C) 1700 0) q (sz op) 0 := by
        refine ldv_congr _ _ fun i hi => ?_
        obtain ⟨k, _, e1, e2⟩ := hg.2.2.2 i (by omega)
        rw [e1, e2]
      have hs0 : 1 ≤ sz op := by unfold sz; split <;> (try split) <;> omega
      rw [em, eH1]
      refine kk _ _ _ (A.put lt ef et (by omega) ei bC1.put bM1 (XGputc hg (by omega)) i34' ?_)
      rw [ek]
      rcases hcc with z | ⟨z, z2⟩
      · rw [z]; exact mkV2 _ _ _
      · rw [z]
        refine mkV1 _ _ _ (wd_bit z2 ?_)
        obtain ⟨k, hk, e1, -⟩ := hg.2.2.2 q (by omega)
        exact ⟨k, hk, e1⟩
theorem st_stores {P : Prog} {c : Ct} {C M : St} {j f p op n B m : Nat} {s : SB} {Q : Int32 → St → St → Prop} (A : At P c C M j f p op n B m s) (ho : 26 ≤ op) (ho2 : op ≤ 28) (kk : ∀ r C' M', Res P C M r C' M' → Q r C' M') : wp6_step C (fun r C' => wp9_step M (fun M' => Q r C' M')) := by
  obtain ⟨j5, hf, hop, h16, hcell, B80, l, hq, hb, -⟩ := A.facts
  obtain ⟨bC, bM, hg, i34, c2, m14, v1⟩ := A.f2
  have eop := A.op
  obtain ⟨hn, hp1, ebt, hb256⟩ := whole2 A (by omega)
  obtain ⟨ka, c0, e, hcc⟩ : ∃ ka : Nat, ¬ ka = 0 ∧ ckOne P f p s = ptIf 0 (tkIf 1 (tkIf ka s)) ∧ (ka = 2 ∨ ka = 1) := by
    by_cases z : op ≤ 27
    · refine ⟨1, by decide, ?_, Or.inr rfl⟩
      rw [ck_plain (by omega), eop, sg_st ho z]
    · refine ⟨2, by decide, ?_, Or.inl rfl⟩
      rw [ck_plain (by omega), eop, show op = 28 by omega]
      rfl
  obtain ⟨g2, k1, k2, lt, et, ei, ef⟩ := pl_store l hq c0 e hb
  have w1 := v1 (qh s - 1) (by omega)
  have w2 := v1 (qh s - 2) (by omega)
  rw [k1] at w1
  rw [k2] at w2
  obtain ⟨b1, b2⟩ := VR1 w2
  have a1 : gJ (cC j n C) 1100 (2 * j) (qh s - 1) = gJ (mB M) 1922 0 (B + (qh s - 1)) := by
    rcases hcc with z | z
    · rw [z] at w1; exact VR2 w1
    · rw [z] at w1; exact (VR1 w1).1
  have eH1 : B + qh s - 1 = B + (qh s - 1) := by omega
  have eH2 : B + qh s - 2 = B + (qh s - 2) := by omega
  have bC2 : CB j C n (tT2 (cC j n C) (2 * j) (qh s)) := (bC.h _).h _
  have bM1 := bM.s (k := 1914) (Or.inl rfl) (nI (B + (qh s - 1)))
  have bM2 := bM1.s (k := 1914) (Or.inl rfl) (nI (B + (qh s - 2)))
  have i34' : gI (sI (sI (mB M) 1914 0 (nI (B + (qh s - 1)))) 1914 0 (nI (B + (qh s - 2)))) 1934 0 = 0 := by
    rw [gI_sI, if_neg (fun z => absurd z.1 (by decide)), gI_sI, if_neg (fun z => absurd z.1 (by decide))]; exact i34
  have eA : gJ (mB M) 1922 0 (B + qh s - 2) = gJ (cC j n C) 1100 (2 * j) (qh s - 2) := by rw [eH2, ← b1]
  refine A.cl (disp_num (by omega) (by omega) ?_)
  rw [ebt]
  refine c_mems c2 (by rw [if_neg (by omega)]; exact g2) (by omega) (by omega) (by omega) hb256 (fun z => absurd z (by omega)) (fun _ y => ?_) (fun z => absurd z (by omega)) (fun _ q hq64 eq y C' hC' => ?_)
  · refine A.pl (by omega) fun b hb => ?_
    have hb := hb hp1
    subst hb
    refine m_pl_mem (by omega) (by omega) (m_mems m14 (by rw [if_neg (by omega)]; omega) (by omega) (by omega) (by omega) hb256 (fun z => absurd z (by omega)) (fun _ _ S3 e3 => ?_) (fun z => absurd z (by omega)) (fun _ q hq64 eq y2 => absurd ?_ y))
    · subst e3
      rw [eH1, eH2]
      refine kk _ _ _ (res_trap (t := 3) bC2 ((bM2.s (Or.inr (Or.inr rfl)) 3).s (Or.inr (Or.inl rfl)) _) hg (by decide) (by decide) ?_)
      simp [gI_sI]; rfl
    · rw [eA] at y2; exact y2
  · refine A.pl (by omega) fun b hb => ?_
    have hb := hb hp1
    subst hb
    refine m_pl_mem (by omega) (by omega) (m_mems m14 (by rw [if_neg (by omega)]; omega) (by omega) (by omega) (by omega) hb256 (fun z => absurd z (by omega)) (fun _ y2 => absurd ?_ y2) (fun z => absurd z (by omega)) (fun _ q2 hq2 eq2 y2 M' hM' S3 e3 => ?_))
    · rw [eA]; exact y
    · subst e3
      rw [eA, eq] at eq2
      have eqq : q = q2 := nE (by omega) (by omega) eq2
      subst eqq
      rw [eH1, eH2, ← a1] at hM'
      have hg2 : XG (tT2 (cC j n C) (2 * j) (qh s)) (sI (sI (mB M) 1914 0 (nI (B + (qh s - 1)))) 1914 0 (nI (B + (qh s - 2)))) := hg
      refine kk _ _ _ (A.none lt ef (fun i hi => ⟨by omega, ei i⟩) (bC2.mem hC'.1) (bM2.mem (hM'.1.mono fun k z => Or.inl z)) (XG.stored hg2 hC' hM') ?_ ?_ ?_)
      · rw [hM'.1.gI (by decide), et]; simp [gI_sI]
      · rw [hM'.1.gI (by decide)]; exact i34'
      · rw [hC'.1.gI (by decide), et]; exact tT2_h _ _ _
