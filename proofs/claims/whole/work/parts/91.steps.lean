/-! PURE: steps of plain instructions -/
abbrev cC (j n : Nat) (C : St) : St := sI C 1005 j (nI n)
/-- a step begins: call j, function f, place p, instruction op, the next place n, B values below, m instructions left behind it -/
def At (P : Prog) (c : Ct) (C M : St) (j f p op n B m : Nat) (s : SB) : Prop := XX P c C M ∧ j = xd c - 1 ∧ f = xf c j ∧ p = xp c j ∧ s = xs c j ∧ op = pC P f p ∧ n = p + szI P f p ∧ B = xB P c j ∧ OkI P f p s ∧ Here P f m n (ckOne P f p s)
theorem XX.at {P : Prog} {c : Ct} {C M : St} (h : XX P c C M) : ∃ j f p op n B m s, At P c C M j f p op n B m s := by
  obtain ⟨m, ok, hh, -⟩ := h.facts
  exact ⟨_, _, _, _, _, _, m, _, h, rfl, rfl, rfl, rfl, rfl, rfl, rfl, ok, hh⟩
theorem At.facts {P : Prog} {c : Ct} {C M : St} {j f p op n B m : Nat} {s : SB} (A : At P c C M j f p op n B m s) : j ≤ 5 ∧ f < 6 ∧ op < 256 ∧ qh s ≤ 16 ∧ cellsN (2 * j) = 16 ∧ B ≤ 80 ∧ Live s ∧ 1 ≤ qn s ∧ qb (ckOne P f p s) = 0 ∧ p < pL P f ∧ n ≤ pL P f ∧ pL P f ≤ 60 := by
  obtain ⟨h, rfl, rfl, rfl, rfl, rfl, rfl, rfl, ok, hh⟩ := A
  obtain ⟨m', ok', hh', j5, c2, h16, hcell, B80, m14, v1, l, hq, hf⟩ := h.facts
  exact ⟨j5, hf, (h.1 _ hf).2.2.2.2.2.2 _ ok.1, h16, hcell, B80, l, hq, ok.2.2.2.2.2, ok.1, ok.2.2.2.2.1, (h.1 _ hf).2.2.2.2.1⟩
theorem At.f2 {P : Prog} {c : Ct} {C M : St} {j f p op n B m : Nat} {s : SB} (A : At P c C M j f p op n B m s) : CB j C n (cC j n C) ∧ MB M (mB M) ∧ XG (cC j n C) (mB M) ∧ gI (mB M) 1934 0 = 0 ∧ gI (cC j n C) 1102 (2 * j) = nI (qh s) ∧ gI (mB M) 1914 0 = nI (B + qh s) ∧
    (∀ i, i < qh s → VR (qK s i) (gJ (cC j n C) 1100 (2 * j) i) (gD (cC j n C) 1101 (2 * j) i) (gJ (mB M) 1922 0 (B + i)) (gD (mB M) 1923 0 (B + i))) := by
  obtain ⟨h, rfl, rfl, rfl, rfl, rfl, rfl, rfl, ok, hh⟩ := A
  obtain ⟨m', ok', hh', j5, c2, h16, hcell, B80, m14, v1, l, hq, hf⟩ := h.facts
  refine ⟨CB.ini _ C _, MB.ini M, h.2.2.2.2.2.2.2.1, by simp [mB, gI_sI], ?_, ?_, v1⟩
  · rw [gI_sI, if_neg (fun z => absurd z.1 (by decide))]; exact c2
  · unfold mB
    rw [gI_sI, if_neg (fun z => absurd z.1 (by decide)), gI_sI, if_neg (fun z => absurd z.1 (by decide))]; exact m14
theorem At.cl {P : Prog} {c : Ct} {C M : St} {j f p op n B m : Nat} {s : SB} {Q : Int32 → St → Prop} (A : At P c C M j f p op n B m s) (kk : disp6 j p op (bt P f (p + 1)) Q (cC j n C)) : wp6_step C Q := by
  obtain ⟨h, rfl, rfl, rfl, rfl, rfl, rfl, rfl, ok, hh⟩ := A
  exact c_head h ok kk
theorem At.pl {P : Prog} {c : Ct} {C M : St} {j f p op n B m : Nat} {s : SB} {Q : St → Prop} (A : At P c C M j f p op n B m s) (ho : 20 ≤ op) (kk : ∀ b, (p + 1 < pL P f → b = nI (pC P f (p + 1))) → wp9_plain (mB M) (nI op) b (fun S2 => ∀ S3, S3 = sI S2 1931 0 (nI n) → Q S3)) : wp9_step M Q := by
  have g := A.facts.2.2.1
  obtain ⟨h, rfl, rfl, rfl, rfl, rfl, rfl, rfl, ok, hh⟩ := A
  exact m_plain_go h ok ho g kk
theorem At.put {P : Prog} {c : Ct} {C M C' M0 : St} {j f p op n B m h0 : Nat} {s : SB} {v w : Int64} {x y : UInt64} (A : At P c C M j f p op n B m s) (hl : Live (ckOne P f p s)) (ef : qn (ckOne P f p s) = qn s ∧ qF (ckOne P f p s) = qF s) (e1 : qh (ckOne P f p s) = h0 + 1) (e3 : h0 ≤ qh s) (e2 : ∀ i, i < h0 → qK (ckOne P f p s) i = qK s i)
    (b : CP j C n h0 v x C') (bm : MB M M0) (hg : XG C' M0) (e5 : gI M0 1934 0 = 0) (e4 : VR (qK (ckOne P f p s) h0) v x w y) : Res P C M 0 C' (sI (putm M0 (B + h0) w y) 1931 0 (nI n)) := by
  obtain ⟨h, rfl, rfl, rfl, rfl, rfl, rfl, rfl, ok, hh⟩ := A
  exact res_put h ef hh hl e1 e3 e2 b bm hg e5 e4
theorem At.none {P : Prog} {c : Ct} {C M C0 M0 : St} {j f p op n B m : Nat} {s : SB} (A : At P c C M j f p op n B m s) (hl : Live (ckOne P f p s)) (ef : qn (ckOne P f p s) = qn s ∧ qF (ckOne P f p s) = qF s) (e2 : ∀ i, i < qh (ckOne P f p s) → i < qh s ∧ qK (ckOne P f p s) i = qK s i)
    (b : CB j C n C0) (bm : MB M M0) (hg : XG C0 M0) (e4 : gI M0 1914 0 = nI (B + qh (ckOne P f p s))) (e5 : gI M0 1934 0 = 0) (e6 : gI C0 1102 (2 * j) = nI (qh (ckOne P f p s))) : Res P C M 0 C0 (sI M0 1931 0 (nI n)) := by
  obtain ⟨h, rfl, rfl, rfl, rfl, rfl, rfl, rfl, ok, hh⟩ := A
  exact res_none h ef hh hl e2 b bm hg e4 e5 e6
theorem At.op {P : Prog} {c : Ct} {C M : St} {j f p op n B m : Nat} {s : SB} (A : At P c C M j f p op n B m s) : pC P f p = op := A.2.2.2.2.2.1.symm
theorem XGputc {C M : St} {o h : Nat} {v : Int64} {x : UInt64} (hg : XG C M) (ho : ¬ o = 12) : XG (putc C o h v x) M := by
  refine hg.of (fun i => ?_) (fun i => ?_) (fun _ => rfl) (fun _ => rfl) rfl (fun _ => rfl)
  · unfold putc
    simp only [gJ_sI, gJ_sD, gJ_sJ]
    rw [if_neg (fun z => ho z.2.1.symm)]
  · unfold putc
    simp only [gD_sI, gD_sD, gD_sJ]
    rw [if_neg (fun z => ho z.2.1.symm)]
theorem num_int {C : St} {o op : Nat} {b : Int32} {Q : Int32 → St → Prop} (ho : 30 ≤ op) (ho2 : op ≤ 45) (kk : wp6_stepInts C o (nI op) (fun r4 S5 => Q r4 S5)) : wp6_stepNumbers C o (nI op) b Q :=
  ⟨fun _ => ⟨fun z => absurd ((nI_ltI (a := 45) (by omega) (by omega)).mp z) (by omega), fun _ => kk⟩, fun z => absurd ((nI_ltI (a := 28) (by omega) (by omega)).mpr (by omega)) z⟩
theorem num_long {C : St} {o op : Nat} {b : Int32} {Q : Int32 → St → Prop} (ho : 50 ≤ op) (ho2 : op ≤ 64) (kk : wp6_stepLongs C o (nI op) (fun r4 S5 => Q r4 S5)) : wp6_stepNumbers C o (nI op) b Q :=
  ⟨fun _ => ⟨fun _ => ⟨fun z => absurd ((nI_ltI (a := 64) (by omega) (by omega)).mp z) (by omega), fun _ => kk⟩, fun z => absurd ((nI_ltI (a := 45) (by omega) (by omega)).mpr (by omega)) z⟩, fun z => absurd ((nI_ltI (a := 28) (by omega) (by omega)).mpr (by omega)) z⟩
theorem num_real {C : St} {o op : Nat} {b : Int32} {Q : Int32 → St → Prop} (ho : 70 ≤ op) (ho2 : op ≤ 76) (kk : wp6_stepReals C o (nI op) (fun r4 S5 => Q r4 S5)) : wp6_stepNumbers C o (nI op) b Q :=
  ⟨fun _ => ⟨fun _ => ⟨fun _ => ⟨fun z => absurd ((nI_ltI (a := 76) (by omega) (by omega)).mp z) (by omega), fun _ => kk⟩, fun z => absurd ((nI_ltI (a := 64) (by omega) (by omega)).mpr (by omega)) z⟩, fun z => absurd ((nI_ltI (a := 45) (by omega) (by omega)).mpr (by omega)) z⟩, fun z => absurd ((nI_ltI (a := 28) (by omega) (by omega)).mpr (by omega)) z⟩
/-- the reference's plain: which part -/
theorem m_pl29 {M : St} {op : Nat} {b : Int32} {Q : St → Prop} (ho : 23 ≤ op) (h2 : op < 256) (kk : wp9_plain_29 (nI op) b Q M) : wp9_plain M (nI op) b Q :=
  ⟨fun z => absurd ((nI_ltI (b := 20) (by omega) (by omega)).mp z) (by omega), fun _ => ⟨fun _ => kk, fun z => absurd ((nI_ltI (a := 22) (by omega) (by omega)).mpr (by omega)) z⟩⟩
theorem m_pl_mem {M : St} {op : Nat} {b : Int32} {Q : St → Prop} (ho : 23 ≤ op) (ho2 : op ≤ 28) (kk : wp9_access M (nI op) b (fun S => Q S)) : wp9_plain M (nI op) b Q :=
  m_pl29 ho (by omega) ⟨fun z => absurd ((nI_ltI (a := 28) (by omega) (by omega)).mp z) (by omega), fun _ => kk⟩
theorem m_pl_big {M : St} {op : Nat} {b : Int32} {Q : St → Prop} (ho : 29 ≤ op) (ho2 : op < 76) (h1 : ¬ op = 45) (h2 : ¬ op = 64) (kk : (50 ≤ nI op → (65 ≤ nI op → wp9_measure M (nI op) (fun S1 => Q S1)) ∧ (¬ 65 ≤ nI op → wp9_calculate M (nI op - 50) 64 (fun S2 => Q S2))) ∧ (¬ 50 ≤ nI op → wp9_calculate M (nI op - 30) 32 (fun S3 => Q S3))) : wp9_plain M (nI op) b Q :=
  m_pl29 (by omega) (by omega) ⟨fun _ => ⟨fun z => absurd (nE (b := 45) (by omega) (by omega) z) h1, fun _ => ⟨fun z => absurd (nE (b := 64) (by omega) (by omega) z) h2, fun _ => ⟨fun _ => kk, fun z => absurd ((nI_ltI (b := 76) (by omega) (by omega)).mpr ho2) z⟩⟩⟩, fun z => absurd ((nI_ltI (a := 28) (by omega) (by omega)).mpr (by omega)) z⟩
theorem m_pl_int {M : St} {op : Nat} {b : Int32} {Q : St → Prop} (ho : 30 ≤ op) (ho2 : op ≤ 44) (kk : wp9_calculate M (nI op - 30) 32 (fun S => Q S)) : wp9_plain M (nI op) b Q :=
  m_pl_big (by omega) (by omega) (by omega) (by omega) ⟨fun z => absurd ((nI_leI (a := 50) (by omega) (by omega)).mp z) (by omega), fun _ => kk⟩
theorem m_pl_long {M : St} {op : Nat} {b : Int32} {Q : St → Prop} (ho : 50 ≤ op) (ho2 : op ≤ 63) (kk : wp9_calculate M (nI op - 50) 64 (fun S => Q S)) : wp9_plain M (nI op) b Q :=
  m_pl_big (by omega) (by omega) (by omega) (by omega) ⟨fun _ => ⟨fun z => absurd ((nI_leI (a := 65) (by omega) (by omega)).mp z) (by omega), fun _ => kk⟩, fun z => absurd ((nI_leI (a := 50) (by omega) (by omega)).mpr (by omega)) z⟩
theorem m_pl_real {M : St} {op : Nat} {b : Int32} {Q : St → Prop} (ho : 70 ≤ op) (ho2 : op ≤ 75) (kk : wp9_measure M (nI op) (fun S => Q S)) : wp9_plain M (nI op) b Q :=
  m_pl_big (by omega) (by omega) (by omega) (by omega) ⟨fun _ => ⟨fun _ => kk, fun z => absurd ((nI_leI (a := 65) (by omega) (by omega)).mpr (by omega)) z⟩, fun z => absurd ((nI_leI (a := 50) (by omega) (by omega)).mpr (by omega)) z⟩
theorem m_pl_turn {M : St} {op : Nat} {b : Int32} {Q : St → Prop} (ho : op = 45 ∨ op = 64 ∨ op = 76 ∨ (80 ≤ op ∧ op ≤ 85)) (kk : wp9_turn M (nI op) (fun S => Q S)) : wp9_plain M (nI op) b Q := by
  refine m_pl29 (by omega) (by omega) ⟨fun _ => ⟨fun _ => kk, fun n1 => ⟨fun _ => kk, fun n2 => ⟨fun z => ?_, fun _ => kk⟩⟩⟩, fun z => absurd ((nI_ltI (a := 28) (by omega) (by omega)).mpr (by omega)) z⟩
  have := (nI_ltI (b := 76) (by omega) (by omega)).mp z
  have n1 := nN (b := 45) n1
  have n2 := nN (b := 64) n2
  omega
theorem sg_int {op : Nat} (h1 : 30 ≤ op) (h2 : op ≤ 44) : sg op = 111 := by
  unfold sg
  rw [if_neg (by omega), if_neg (by omega), if_neg (by omega), if_neg (by omega), if_neg (by omega), if_neg (by omega), if_pos (by omega)]
theorem sg_long {op : Nat} (h1 : 50 ≤ op) (h2 : op ≤ 60) : sg op = 222 := by
  unfold sg
  rw [if_neg (by omega), if_neg (by omega), if_neg (by omega), if_neg (by omega), if_neg (by omega), if_neg (by omega), if_neg (by omega), if_neg (by omega), if_pos (by omega)]
theorem sg_cmp {op : Nat} (h1 : 61 ≤ op) (h2 : op ≤ 63) : sg op = 221 := by
  unfold sg
  rw [if_neg (by omega), if_neg (by omega), if_neg (by omega), if_neg (by omega), if_neg (by omega), if_neg (by omega), if_neg (by omega), if_neg (by omega), if_neg (by omega), if_pos (by omega)]
theorem sg_real {op : Nat} (h1 : 70 ≤ op) (h2 : op ≤ 73) : sg op = 333 := by
  unfold sg
  rw [if_neg (by omega), if_neg (by omega), if_neg (by omega), if_neg (by omega), if_neg (by omega), if_neg (by omega), if_neg (by omega), if_neg (by omega), if_neg (by omega), if_neg (by omega), if_neg (by omega), if_pos (by omega)]
theorem sg_rcmp {op : Nat} (h1 : 74 ≤ op) (h2 : op ≤ 75) : sg op = 331 := by
  unfold sg
  rw [if_neg (by omega), if_neg (by omega), if_neg (by omega), if_neg (by omega), if_neg (by omega), if_neg (by omega), if_neg (by omega), if_neg (by omega), if_neg (by omega), if_neg (by omega), if_neg (by omega), if_neg (by omega), if_pos (by omega)]
theorem sg_ld {op : Nat} (h1 : 23 ≤ op) (h2 : op ≤ 24) : sg op = 101 := by
  unfold sg
  rw [if_neg (by omega), if_neg (by omega), if_pos (by omega)]
theorem sg_st {op : Nat} (h1 : 26 ≤ op) (h2 : op ≤ 27) : sg op = 110 := by
  unfold sg
  rw [if_neg (by omega), if_neg (by omega), if_neg (by omega), if_neg (by omega), if_pos (by omega)]
theorem st_ints {P : Prog} {c : Ct} {C M : St} {j f p op n B m : Nat} {s : SB} {Q : Int32 → St → St → Prop} (A : At P c C M j f p op n B m s) (ho : 30 ≤ op) (ho2 : op ≤ 44) (kk : ∀ r C' M', Res P C M r C' M' → Q r C' M') : wp6_step C (fun r C' => wp9_step M (fun M' => Q r C' M')) := by
  obtain ⟨j5, hf, hop, h16, hcell, B80, l, hq, hb, -⟩ := A.facts
  obtain ⟨bC, bM, hg, i34, c2, m14, v1⟩ := A.f2
  have eop := A.op
  have e : ckOne P f p s = ptIf 1 (tkIf 1 (tkIf 1 s)) := by
    rw [ck_plain (by omega), eop, sg_int ho ho2]
  obtain ⟨g2, k1, k2, lt, et, ek, ei, ef⟩ := pl_two l hq (by decide) (by decide) (by decide) e hb
  have w1 := v1 (qh s - 1) (by omega)
  have w2 := v1 (qh s - 2) (by omega)
  rw [k1] at w1
  rw [k2] at w2
  obtain ⟨a1, a2⟩ := VR1 w1
  obtain ⟨b1, b2⟩ := VR1 w2
  have eH1 : B + qh s - 1 = B + (qh s - 1) := by omega
  have eH2 : B + qh s - 2 = B + (qh s - 2) := by omega
  have hz : (gJ (cC j n C) 1100 (2 * j) (qh s - 1)).toInt32 = 0 ↔ gJ (cC j n C) 1100 (2 * j) (qh s - 1) = 0 :=
    ⟨fun z => by rw [← a2, z]; rfl, fun z => by rw [z]; rfl⟩
  have bC2 : CB j C n (tT2 (cC j n C) (2 * j) (qh s)) := (bC.h _).h _
  have bM2 := bM.s (k := 1914) (Or.inl rfl) (nI (B + (qh s - 2)))
  have i34' : gI (sI (mB M) 1914 0 (nI (B + (qh s - 2)))) 1934 0 = 0 := by
    rw [gI_sI, if_neg (fun z => absurd z.1 (by decide))]; exact i34
  refine A.cl (disp_num (by omega) (by omega) (num_int ho (by omega) ?_))
  refine c_ints c2 g2 (by omega) ho ho2 (fun z y => ?_) (fun z => ?_)
  · refine A.pl (by omega) fun b hb => m_pl_int ho ho2 ?_
    refine m_ints m14 (by omega) (by omega) ho ho2 (by rw [eH2, ← b1]; exact b2) (by rw [eH1, ← a1]; exact a2) (fun _ _ S3 e3 => ?_) (fun n => absurd ?_ (n z))
    · subst e3
      rw [eH2]
      refine kk _ _ _ (res_trap (t := 2) bC2 ((bM2.s (Or.inr (Or.inr rfl)) 2).s (Or.inr (Or.inl rfl)) _) hg (by decide) (by decide) ?_)
      simp [gI_sI]; rfl
    · rw [eH1, ← a1]; exact hz.mp y
  · refine A.pl (by omega) fun b hb => m_pl_int ho ho2 ?_
    refine m_ints m14 (by omega) (by omega) ho ho2 (by rw [eH2, ← b1]; exact b2) (by rw [eH1, ← a1]; exact a2) (fun n y => absurd ?_ (z n)) (fun n S3 e3 => ?_)
    · rw [eH1, ← a1] at y; exact hz.mpr y
    · subst e3
      rw [eH2, eH1, ← a1, ← b1]
      refine kk _ _ _ (A.put lt ef et (by omega) ei bC2.put bM2 (XGputc hg (by omega)) i34' ?_)
      rw [ek]; exact mkV1 _ _ _ (by rw [i_ext])
