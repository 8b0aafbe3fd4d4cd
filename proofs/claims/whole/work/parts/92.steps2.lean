/-! PURE: steps of longs and reals -/
theorem fL_bit {op : Nat} (x y : Int64) (h1 : 61 ≤ op) (h2 : op ≤ 63) : (fL op x y).toInt32.toInt64 = fL op x y := by
  rcases (by omega : op = 61 ∨ op = 62 ∨ op = 63) with rfl | rfl | rfl <;>
  · simp (decide := true) only [fL, if_true, if_false]
    split <;> rfl
theorem st_longs {P : Prog} {c : Ct} {C M : St} {j f p op n B m : Nat} {s : SB} {Q : Int32 → St → St → Prop} (A : At P c C M j f p op n B m s) (ho : 50 ≤ op) (ho2 : op ≤ 63) (kk : ∀ r C' M', Res P C M r C' M' → Q r C' M') : wp6_step C (fun r C' => wp9_step M (fun M' => Q r C' M')) := by
  obtain ⟨j5, hf, hop, h16, hcell, B80, l, hq, hb, -⟩ := A.facts
  obtain ⟨bC, bM, hg, i34, c2, m14, v1⟩ := A.f2
  have eop := A.op
  obtain ⟨cc, c0, c3, e, hv⟩ : ∃ cc : Nat, ¬ cc = 0 ∧ cc ≤ 3 ∧ ckOne P f p s = ptIf cc (tkIf 2 (tkIf 2 s)) ∧ ∀ a b x y, VR cc (fL op a b) x (fL op a b) y := by
    by_cases z : op ≤ 60
    · refine ⟨2, by decide, by decide, ?_, fun a b x y => mkV2 _ _ _⟩
      rw [ck_plain (by omega), eop, sg_long ho z]
    · refine ⟨1, by decide, by decide, ?_, fun a b x y => mkV1 _ _ _ (fL_bit a b (by omega) ho2)⟩
      rw [ck_plain (by omega), eop, sg_cmp (by omega) ho2]
  obtain ⟨g2, k1, k2, lt, et, ek, ei, ef⟩ := pl_two l hq (by decide) c0 c3 e hb
  have w1 := v1 (qh s - 1) (by omega)
  have w2 := v1 (qh s - 2) (by omega)
  rw [k1] at w1
  rw [k2] at w2
  have a1 := VR2 w1
  have b1 := VR2 w2
  have eH1 : B + qh s - 1 = B + (qh s - 1) := by omega
  have eH2 : B + qh s - 2 = B + (qh s - 2) := by omega
  have bC2 : CB j C n (tT2 (cC j n C) (2 * j) (qh s)) := (bC.h _).h _
  have bM2 := bM.s (k := 1914) (Or.inl rfl) (nI (B + (qh s - 2)))
  have i34' : gI (sI (mB M) 1914 0 (nI (B + (qh s - 2)))) 1934 0 = 0 := by
    rw [gI_sI, if_neg (fun z => absurd z.1 (by decide))]; exact i34
  refine A.cl (disp_num (by omega) (by omega) (num_long ho (by omega) ?_))
  refine c_longs c2 g2 (by omega) ho ho2 (fun z y => ?_) (fun z => ?_)
  · refine A.pl (by omega) fun b hb => m_pl_long ho ho2 ?_
    refine m_longs m14 (by omega) (by omega) ho ho2 (fun _ _ S3 e3 => ?_) (fun n => absurd ?_ (n z))
    · subst e3
      rw [eH2]
      refine kk _ _ _ (res_trap (t := 2) bC2 ((bM2.s (Or.inr (Or.inr rfl)) 2).s (Or.inr (Or.inl rfl)) _) hg (by decide) (by decide) ?_)
      simp [gI_sI]; rfl
    · rw [eH1, ← a1]; exact y
  · refine A.pl (by omega) fun b hb => m_pl_long ho ho2 ?_
    refine m_longs m14 (by omega) (by omega) ho ho2 (fun n y => absurd ?_ (z n)) (fun n S3 e3 => ?_)
    · rw [eH1, ← a1] at y; exact y
    · subst e3
      rw [eH2, eH1, ← a1, ← b1]
      refine kk _ _ _ (A.put lt ef et (by omega) ei bC2.put bM2 (XGputc hg (by omega)) i34' ?_)
      rw [ek]; exact hv _ _ _ _
theorem fT_bit {op : Nat} (x y : UInt64) : (fT op x y).toInt32.toInt64 = fT op x y := by
  unfold fT
  split
  · split <;> rfl
  · split <;> rfl
theorem st_reals {P : Prog} {c : Ct} {C M : St} {j f p op n B m : Nat} {s : SB} {Q : Int32 → St → St → Prop} (A : At P c C M j f p op n B m s) (ho : 70 ≤ op) (ho2 : op ≤ 75) (kk : ∀ r C' M', Res P C M r C' M' → Q r C' M') : wp6_step C (fun r C' => wp9_step M (fun M' => Q r C' M')) := by
  obtain ⟨j5, hf, hop, h16, hcell, B80, l, hq, hb, -⟩ := A.facts
  obtain ⟨bC, bM, hg, i34, c2, m14, v1⟩ := A.f2
  have eop := A.op
  obtain ⟨cc, c0, c3, e, hc⟩ : ∃ cc : Nat, ¬ cc = 0 ∧ cc ≤ 3 ∧ ckOne P f p s = ptIf cc (tkIf 3 (tkIf 3 s)) ∧ cc = if op ≤ 73 then 3 else 1 := by
    by_cases z : op ≤ 73
    · refine ⟨3, by decide, by decide, ?_, by rw [if_pos z]⟩
      rw [ck_plain (by omega), eop, sg_real ho z]
    · refine ⟨1, by decide, by decide, ?_, by rw [if_neg z]⟩
      rw [ck_plain (by omega), eop, sg_rcmp (by omega) ho2]
  obtain ⟨g2, k1, k2, lt, et, ek, ei, ef⟩ := pl_two l hq (by decide) c0 c3 e hb
  have w1 := v1 (qh s - 1) (by omega)
  have w2 := v1 (qh s - 2) (by omega)
  rw [k1] at w1
  rw [k2] at w2
  obtain ⟨a1, a2⟩ := VR3 w1
  obtain ⟨b1, b2⟩ := VR3 w2
  have eH1 : B + qh s - 1 = B + (qh s - 1) := by omega
  have eH2 : B + qh s - 2 = B + (qh s - 2) := by omega
  have bC2 : CB j C n (tT2 (cC j n C) (2 * j) (qh s)) := (bC.h _).h _
  have bM2 := bM.s (k := 1914) (Or.inl rfl) (nI (B + (qh s - 2)))
  have i34' : gI (sI (mB M) 1914 0 (nI (B + (qh s - 2)))) 1934 0 = 0 := by
    rw [gI_sI, if_neg (fun z => absurd z.1 (by decide))]; exact i34
  have fx : fin (gD (mB M) 1923 0 (B + qh s - 2)) := by rw [eH2, ← b1]; exact b2
  have fy : fin (gD (mB M) 1923 0 (B + qh s - 1)) := by rw [eH1, ← a1]; exact a2
  have ex : gD (mB M) 1923 0 (B + qh s - 2) = gD (cC j n C) 1101 (2 * j) (qh s - 2) := by rw [eH2, ← b1]
  have ey : gD (mB M) 1923 0 (B + qh s - 1) = gD (cC j n C) 1101 (2 * j) (qh s - 1) := by rw [eH1, ← a1]
  refine A.cl (disp_num (by omega) (by omega) (num_real ho (by omega) ?_))
  refine c_reals c2 g2 (by omega) ho ho2 b2 a2 (fun z y => ?_) (fun z y x => ?_) (fun z y x => ?_) (fun z => ?_)
  · refine A.pl (by omega) fun b hb => m_pl_real ho ho2 ?_
    refine m_reals m14 (by omega) (by omega) ho ho2 fx fy (fun _ _ S3 e3 => ?_) (fun _ n => absurd ?_ (n z)) (fun _ n => absurd ?_ (n z)) (fun n => absurd n (by omega))
    · subst e3
      rw [eH2]
      refine kk _ _ _ (res_trap (t := 2) bC2 ((bM2.s (Or.inr (Or.inr rfl)) 2).s (Or.inr (Or.inl rfl)) _) hg (by decide) (by decide) ?_)
      simp [gI_sI]; rfl
    · rw [ey]; exact y
    · rw [ey]; exact y
  · refine A.pl (by omega) fun b hb => m_pl_real ho ho2 ?_
    refine m_reals m14 (by omega) (by omega) ho ho2 fx fy (fun z3 n => absurd ?_ (y z3)) (fun _ _ _ S3 e3 => ?_) (fun _ _ n => absurd ?_ x) (fun n => absurd n (by omega))
    · rw [ey] at n; exact n
    · subst e3
      rw [eH2]
      refine kk _ _ _ (res_trap (t := 5) bC2 ((bM2.s (Or.inr (Or.inr rfl)) 5).s (Or.inr (Or.inl rfl)) _) hg (by decide) (by decide) ?_)
      simp [gI_sI]; rfl
    · rw [ex, ey] at n; exact n
  · refine A.pl (by omega) fun b hb => m_pl_real ho ho2 ?_
    refine m_reals m14 (by omega) (by omega) ho ho2 fx fy (fun z3 n => absurd ?_ (y z3)) (fun _ _ n => absurd ?_ n) (fun _ _ _ S3 e3 => ?_) (fun n => absurd n (by omega))
    · rw [ey] at n; exact n
    · rw [ex, ey]; exact x
    · subst e3
      rw [ex, ey, eH2]
      refine kk _ _ _ (A.put lt ef et (by omega) ei bC2.put bM2 (XGputc hg (by omega)) i34' ?_)
      rw [ek, hc, if_pos z]
      exact mkV3 _ _ _ (rng_fin (fR_n b2 a2 y ho z) x)
  · refine A.pl (by omega) fun b hb => m_pl_real ho ho2 ?_
    refine m_reals m14 (by omega) (by omega) ho ho2 fx fy (fun z3 n => absurd z3 (by omega)) (fun n => absurd n (by omega)) (fun n => absurd n (by omega)) (fun _ S3 e3 => ?_)
    subst e3
    rw [ex, ey, eH2]
    refine kk _ _ _ (A.put lt ef et (by omega) ei bC2.put bM2 (XGputc hg (by omega)) i34' ?_)
    rw [ek, hc, if_neg (by omega)]
    exact mkV1 _ _ _ (fT_bit _ _)
