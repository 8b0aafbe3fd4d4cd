/-! PURE: what one step comes to; bases: states that differ from (C, M) in places and heights alone -/
def Alike (C M : St) : Prop := ∃ k, k ≤ 3 ∧ gI C 1606 0 = nI k ∧ gI M 1936 0 = nI k ∧ (¬ k = 0 → VR k (gJ C 1100 13 0) (gD C 1101 13 0) (gL M 1937 0) (gF M 1938 0))
def kXC (k : Nat) : Prop := (1002 ≤ k ∧ k ≤ 1006) ∨ (1100 ≤ k ∧ k ≤ 1102) ∨ k = 1606 ∨ k = 1607 ∨ k = 1700
def kYM (k : Nat) : Prop := (1907 ≤ k ∧ k ≤ 1909) ∨ (1914 ≤ k ∧ k ≤ 1917) ∨ k = 1920 ∨ (1922 ≤ k ∧ k ≤ 1934) ∨ (1936 ≤ k ∧ k ≤ 1938)
def Res (P : Prog) (C M : St) (r : Int32) (C' M' : St) : Prop := Ag kXC C C' ∧ Ag kYM M M' ∧ gI M' 1933 0 = gI M 1933 0 + 1 ∧
  ((r = 0 ∧ gI M' 1934 0 = 0 ∧ gI M' 1932 0 = gI M 1932 0 ∧ ∃ c', XX P c' C' M') ∨
   (r = 0 ∧ gI M' 1934 0 = 0 ∧ gI C' 1607 0 = 0 ∧ gI M' 1932 0 = 2 ∧ Alike C' M' ∧ XG C' M') ∨
   ∃ t, 1 ≤ t ∧ t ≤ 5 ∧ r = nI t ∧ gI M' 1934 0 = nI t ∧ gI M' 1932 0 = gI M 1932 0 ∧ XG C' M')
theorem kX_C (k : Nat) (h : kX k) : kXC k := by unfold kX at h; unfold kXC; omega
theorem kY_M (k : Nat) (h : kY k) : kYM k := by unfold kY at h; unfold kYM; omega
def CB (j : Nat) (C : St) (p : Nat) (C0 : St) : Prop := Ag kX C C0 ∧ gI C0 1005 (j) = nI p ∧ (∀ i, i ≠ j → gI C0 1005 i = gI C 1005 i) ∧ (∀ o, o ≠ 2 * j → gI C0 1102 o = gI C 1102 o) ∧ (∀ o i, gJ C0 1100 o i = gJ C 1100 o i) ∧ (∀ o i, gD C0 1101 o i = gD C 1101 o i)
theorem CB.ini (j : Nat) (C : St) (p : Nat) : CB j C p (sI C 1005 (j) (nI p)) := by
  refine ⟨Ag.rf.sI (Or.inl rfl), by simp [gI_sI], fun i hi => by simp [gI_sI, hi], fun o _ => by simp [gI_sI], fun _ _ => rfl, fun _ _ => rfl⟩
theorem CB.h {j : Nat} {C : St} {p : Nat} {C0 : St} (b : CB j C p C0) (v : Int32) : CB j C p (sI C0 1102 (2 * j) v) := by
  refine ⟨b.1.sI (by unfold kX; omega), by rw [gI_sI, if_neg (fun z => absurd z.1 (by decide))]; exact b.2.1, fun i hi => by rw [gI_sI, if_neg (fun z => absurd z.1 (by decide))]; exact b.2.2.1 i hi, fun o ho => by rw [gI_sI, if_neg (fun z => ho z.2)]; exact b.2.2.2.1 o ho, b.2.2.2.2.1, b.2.2.2.2.2⟩
theorem CB.mem {j : Nat} {C : St} {p : Nat} {C0 C1 : St} (b : CB j C p C0) (a : Ag (fun k => k = 1700) C0 C1) : CB j C p C1 := by
  refine ⟨b.1.tr (a.mono fun k z => by unfold kX; omega), by rw [a.gI (by decide)]; exact b.2.1, fun i hi => by rw [a.gI (by decide)]; exact b.2.2.1 i hi, fun o ho => by rw [a.gI (by decide)]; exact b.2.2.2.1 o ho, fun o i => by rw [a.gJ (by decide)]; exact b.2.2.2.2.1 o i, fun o i => by rw [a.gD (by decide)]; exact b.2.2.2.2.2 o i⟩
def MB (M M0 : St) : Prop := Ag kY M M0 ∧ gI M0 1933 0 = gI M 1933 0 + 1 ∧ (∀ i, gJ M0 1922 0 i = gJ M 1922 0 i) ∧ (∀ i, gD M0 1923 0 i = gD M 1923 0 i) ∧ (∀ i, gJ M0 1925 0 i = gJ M 1925 0 i) ∧ (∀ i, gD M0 1926 0 i = gD M 1926 0 i)
theorem MB.ini (M : St) : MB M (sI (sI M 1934 0 0) 1933 0 (gI M 1933 0 + 1)) := by
  refine ⟨(Ag.rf.sI (by unfold kY; omega)).sI (by unfold kY; omega), by simp [gI_sI], fun _ => rfl, fun _ => rfl, fun _ => rfl, fun _ => rfl⟩
theorem MB.s {M M0 : St} (b : MB M M0) {k : Nat} (hk : k = 1914 ∨ k = 1931 ∨ k = 1934) (v : Int32) : MB M (sI M0 k 0 v) := by
  refine ⟨b.1.sI (by unfold kY; omega), by rw [gI_sI, if_neg (fun z => absurd z.1 (by omega))]; exact b.2.1, b.2.2⟩
theorem MB.mem {M M0 M1 : St} (b : MB M M0) (a : Ag (fun k => k = 1907 ∨ k = 1908 ∨ k = 1909) M0 M1) : MB M M1 := by
  refine ⟨b.1.tr (a.mono fun k z => by unfold kY; omega), by rw [a.gI (by decide)]; exact b.2.1, fun i => by rw [a.gJ (by decide)]; exact b.2.2.1 i, fun i => by rw [a.gD (by decide)]; exact b.2.2.2.1 i, fun i => by rw [a.gJ (by decide)]; exact b.2.2.2.2.1 i, fun i => by rw [a.gD (by decide)]; exact b.2.2.2.2.2 i⟩
theorem XG.of {C M C' M' : St} (h : XG C M) (a1 : ∀ i, gJ C' 1100 12 i = gJ C 1100 12 i) (a2 : ∀ i, gD C' 1101 12 i = gD C 1101 12 i) (a3 : ∀ i, gA C' 1700 0 i = gA C 1700 0 i) (b1 : ∀ i, gJ M' 1908 0 i = gJ M 1908 0 i) (b2 : gF M' 1909 0 = gF M 1909 0) (b3 : ∀ i, gA M' 1907 0 i = gA M 1907 0 i) : XG C' M' := by
  obtain ⟨h1, h2, h3, h4⟩ := h
  refine ⟨?_, ?_, ?_, fun i hi => ?_⟩
  · rw [a1, b1]; exact h1
  · rw [a1, b1]; exact h2
  · rw [a2, b2]; exact h3
  · rw [a3, b3]; exact h4 i hi
def putc (C : St) (o h : Nat) (v : Int64) (x : UInt64) : St := sI (sD (sJ C 1100 o h v) 1101 o h x) 1102 o (nI (h + 1))
def putm (M : St) (h : Nat) (v : Int64) (x : UInt64) : St := sI (sD (sJ M 1922 0 h v) 1923 0 h x) 1914 0 (nI (h + 1))
/-- a trap: what was taken is taken -/
theorem res_trap {P : Prog} {j : Nat} {C M C0 M0 : St} {p t : Nat} (b : CB j C p C0) (bm : MB M M0) (hg : XG C0 M0) (h1 : 1 ≤ t) (h5 : t ≤ 5) (ht : gI M0 1934 0 = nI t) : Res P C M (nI t) C0 M0 :=
  ⟨b.1.mono kX_C, bm.1.mono kY_M, bm.2.1, Or.inr (Or.inr ⟨t, h1, h5, rfl, ht, bm.1.gI (by unfold kY; omega) 0, hg⟩)⟩
theorem res_gen {P : Prog} {c : Ct} {C M C' M' : St} {m p : Nat} {s : SB} (h : XX P c C M) (hC : Ag kX C C') (hM : Ag kY M M') (i33 : gI M' 1933 0 = gI M 1933 0 + 1) (i34 : gI M' 1934 0 = 0) (hs : qn s = qn (xs c (xd c - 1)) ∧ qF s = qF (xs c (xd c - 1))) (hh : Here P (xf c (xd c - 1)) m p s) (hl : Live s)
    (c5 : gI C' 1005 (xd c - 1) = nI p ∧ ∀ j, j < xd c - 1 → gI C' 1005 j = gI C 1005 j) (c2 : gI C' 1102 (2 * (xd c - 1)) = nI (qh s) ∧ ∀ j, j < xd c - 1 → gI C' 1102 (2 * j) = gI C 1102 (2 * j)) (m5 : gI M' 1931 0 = nI p) (m4 : gI M' 1914 0 = nI (xB P c (xd c - 1) + qh s)) (hv : XV P (xset c m p s) C' M') (hg : XG C' M') : Res P C M 0 C' M' :=
  ⟨hC.mono kX_C, hM.mono kY_M, i33, Or.inl ⟨rfl, i34, hM.gI (by unfold kY; omega) 0, xset c m p s, XX_step h hC hM hs hh hl c5 c2 m5 m4 hv hg⟩⟩
/-- no value put: values stay, the height is that of the pass -/
theorem res_none {P : Prog} {c : Ct} {C M C0 M0 : St} {m p : Nat} {s : SB} (h : XX P c C M) (hs : qn s = qn (xs c (xd c - 1)) ∧ qF s = qF (xs c (xd c - 1))) (hh : Here P (xf c (xd c - 1)) m p s) (hl : Live s) (e2 : ∀ i, i < qh s → i < qh (xs c (xd c - 1)) ∧ qK s i = qK (xs c (xd c - 1)) i)
    (b : CB (xd c - 1) C p C0) (bm : MB M M0) (hg : XG C0 M0) (e4 : gI M0 1914 0 = nI (xB P c (xd c - 1) + qh s)) (e5 : gI M0 1934 0 = 0) (e6 : gI C0 1102 (2 * (xd c - 1)) = nI (qh s)) : Res P C M 0 C0 (sI M0 1931 0 (nI p)) := by
  have b2 := bm.s (k := 1931) (Or.inr (Or.inl rfl)) (nI p)
  have w := h.2.2.2.1
  have w1 := w.1
  have hv := h.2.2.2.2.2.2.1
  refine res_gen h b.1 b2.1 b2.2.1 (by rw [gI_sI, if_neg (fun z => absurd z.1 (by decide))]; exact e5) hs hh hl ⟨b.2.1, fun j hj => b.2.2.1 j (by omega)⟩ ⟨e6, fun j hj => b.2.2.2.1 _ (by omega)⟩ (by simp [gI_sI]) (by rw [gI_sI, if_neg (fun z => absurd z.1 (by decide))]; exact e4) ?_ hg
  obtain ⟨v1, v2⟩ := hv (xd c - 1) (by omega)
  rw [xh_top w1] at v1
  refine XV_top h.1 w hv (fun j _ i => ⟨b.2.2.2.2.1 _ _, b.2.2.2.2.2 _ _, b.2.2.2.2.1 _ _, b.2.2.2.2.2 _ _⟩) (fun i _ => ⟨b2.2.2.1 i, b2.2.2.2.1 i⟩) (fun i _ => ⟨b2.2.2.2.2.1 i, b2.2.2.2.2.2 i⟩) (fun i hi => ?_) (fun v hv2 => ?_)
  · rw [b.2.2.2.2.1, b.2.2.2.2.2, b2.2.2.1, b2.2.2.2.1, (e2 i hi).2]
    exact v1 i (e2 i hi).1
  · rw [b.2.2.2.2.1, b.2.2.2.2.2, b2.2.2.2.2.1, b2.2.2.2.2.2]
    exact v2 v hv2
/-- the class with one value at h0, the top one -/
def CP (j : Nat) (C : St) (p h0 : Nat) (v : Int64) (x : UInt64) (C' : St) : Prop := Ag kX C C' ∧ gI C' 1005 (j) = nI p ∧ (∀ i, i ≠ j → gI C' 1005 i = gI C 1005 i) ∧ (∀ o, gI C' 1102 o = if o = 2 * j then nI (h0 + 1) else gI C 1102 o) ∧ (∀ o i, gJ C' 1100 o i = if o = 2 * j ∧ i = h0 then v else gJ C 1100 o i) ∧ (∀ o i, gD C' 1101 o i = if o = 2 * j ∧ i = h0 then x else gD C 1101 o i)
theorem CB.put {j : Nat} {C : St} {p h0 : Nat} {C0 : St} {v : Int64} {x : UInt64} (b : CB j C p C0) : CP j C p h0 v x (putc C0 (2 * j) h0 v x) := by
  unfold putc
  refine ⟨((b.1.sJ (by unfold kX; omega)).sD (by unfold kX; omega)).sI (by unfold kX; omega), ?_, fun i hi => ?_, fun o => ?_, fun o i => ?_, fun o i => ?_⟩
  · simp only [gI_sI, gI_sD, gI_sJ]
    rw [if_neg (fun z => absurd z.1 (by decide))]; exact b.2.1
  · simp only [gI_sI, gI_sD, gI_sJ]
    rw [if_neg (fun z => absurd z.1 (by decide))]; exact b.2.2.1 i hi
  · simp only [gI_sI, gI_sD, gI_sJ, true_and]
    by_cases z : o = 2 * j
    · rw [if_pos z, if_pos z]
    · rw [if_neg z, if_neg z]; exact b.2.2.2.1 o z
  · simp only [gJ_sI, gJ_sD, gJ_sJ, true_and]
    rw [b.2.2.2.2.1]
  · simp only [gD_sI, gD_sD, gD_sJ, true_and]
    rw [b.2.2.2.2.2]
/-- the top value stays where it is -/
theorem CB.stay {j : Nat} {C : St} {p h0 : Nat} {C0 : St} (b : CB j C p C0) (hh : gI C0 1102 (2 * j) = nI (h0 + 1)) : CP j C p h0 (gJ C 1100 (2 * j) h0) (gD C 1101 (2 * j) h0) C0 := by
  refine ⟨b.1, b.2.1, b.2.2.1, fun o => ?_, fun o i => ?_, fun o i => ?_⟩
  · by_cases z : o = 2 * j
    · rw [if_pos z, z]; exact hh
    · rw [if_neg z]; exact b.2.2.2.1 o z
  · rw [b.2.2.2.2.1]
    split
    · rename_i z; rw [z.1, z.2]
    · rfl
  · rw [b.2.2.2.2.2]
    split
    · rename_i z; rw [z.1, z.2]
    · rfl
/-- one value put -/
theorem res_put {P : Prog} {c : Ct} {C M C' M0 : St} {m p h0 : Nat} {s : SB} {v w : Int64} {x y : UInt64} (h : XX P c C M) (hs : qn s = qn (xs c (xd c - 1)) ∧ qF s = qF (xs c (xd c - 1))) (hh : Here P (xf c (xd c - 1)) m p s) (hl : Live s) (e1 : qh s = h0 + 1) (e3 : h0 ≤ qh (xs c (xd c - 1))) (e2 : ∀ i, i < h0 → qK s i = qK (xs c (xd c - 1)) i)
    (b : CP (xd c - 1) C p h0 v x C') (bm : MB M M0) (hg : XG C' M0) (e5 : gI M0 1934 0 = 0) (e4 : VR (qK s h0) v x w y) : Res P C M 0 C' (sI (putm M0 (xB P c (xd c - 1) + h0) w y) 1931 0 (nI p)) := by
  have w0 := h.2.2.2.1
  have w1 := w0.1
  have w2 := w0.2.1
  have hv := h.2.2.2.2.2.2.1
  obtain ⟨aC, i05, i05', i02, eJ, eD⟩ := b
  have aM : Ag kY M (sI (putm M0 (xB P c (xd c - 1) + h0) w y) 1931 0 (nI p)) := (((bm.1.sJ (by unfold kY; omega)).sD (by unfold kY; omega)).sI (by unfold kY; omega)).sI (by unfold kY; omega)
  have fJ : ∀ i, gJ (sI (putm M0 (xB P c (xd c - 1) + h0) w y) 1931 0 (nI p)) 1922 0 i = if i = xB P c (xd c - 1) + h0 then w else gJ M 1922 0 i := by
    intro i
    unfold putm
    simp only [gJ_sI, gJ_sD, gJ_sJ, true_and]
    rw [bm.2.2.1]
  have fD : ∀ i, gD (sI (putm M0 (xB P c (xd c - 1) + h0) w y) 1931 0 (nI p)) 1923 0 i = if i = xB P c (xd c - 1) + h0 then y else gD M 1923 0 i := by
    intro i
    unfold putm
    simp only [gD_sI, gD_sD, gD_sJ, true_and]
    rw [bm.2.2.2.1]
  have gJv : ∀ i, gJ (sI (putm M0 (xB P c (xd c - 1) + h0) w y) 1931 0 (nI p)) 1925 0 i = gJ M 1925 0 i := by
    intro i
    unfold putm
    simp only [gJ_sI, gJ_sD, gJ_sJ]
    rw [if_neg (fun z => absurd z.1 (by decide))]
    exact bm.2.2.2.2.1 i
  have gDv : ∀ i, gD (sI (putm M0 (xB P c (xd c - 1) + h0) w y) 1931 0 (nI p)) 1926 0 i = gD M 1926 0 i := by
    intro i
    unfold putm
    simp only [gD_sI, gD_sD, gD_sJ]
    rw [if_neg (fun z => absurd z.1 (by decide))]
    exact bm.2.2.2.2.2 i
  have gG : ∀ i, gJ (sI (putm M0 (xB P c (xd c - 1) + h0) w y) 1931 0 (nI p)) 1908 0 i = gJ M0 1908 0 i := by
    intro i
    unfold putm
    simp only [gJ_sI, gJ_sD, gJ_sJ]
    rw [if_neg (fun z => absurd z.1 (by decide))]
  have i34 : gI (sI (putm M0 (xB P c (xd c - 1) + h0) w y) 1931 0 (nI p)) 1934 0 = 0 := by
    unfold putm
    simp only [gI_sI, gI_sD, gI_sJ]
    rw [if_neg (fun z => absurd z.1 (by decide)), if_neg (fun z => absurd z.1 (by decide))]
    exact e5
  have i33 : gI (sI (putm M0 (xB P c (xd c - 1) + h0) w y) 1931 0 (nI p)) 1933 0 = gI M 1933 0 + 1 := by
    unfold putm
    simp only [gI_sI, gI_sD, gI_sJ]
    rw [if_neg (fun z => absurd z.1 (by decide)), if_neg (fun z => absurd z.1 (by decide))]
    exact bm.2.1
  have i14 : gI (sI (putm M0 (xB P c (xd c - 1) + h0) w y) 1931 0 (nI p)) 1914 0 = nI (xB P c (xd c - 1) + qh s) := by
    unfold putm
    simp only [gI_sI]
    rw [if_neg (fun z => absurd z.1 (by decide)), if_pos (by simp), e1, Nat.add_assoc]
  have i31 : gI (sI (putm M0 (xB P c (xd c - 1) + h0) w y) 1931 0 (nI p)) 1931 0 = nI p := by simp [gI_sI]
  have hg' : XG C' (sI (putm M0 (xB P c (xd c - 1) + h0) w y) 1931 0 (nI p)) := hg.of (fun _ => rfl) (fun _ => rfl) (fun _ => rfl) gG rfl (fun _ => rfl)
  generalize sI (putm M0 (xB P c (xd c - 1) + h0) w y) 1931 0 (nI p) = M' at *
  obtain ⟨v1, v2⟩ := hv (xd c - 1) (by omega)
  rw [xh_top w1] at v1
  refine res_gen (m := m) (s := s) (p := p) h aC aM i33 i34 hs hh hl ⟨i05, fun j hj => i05' j (by omega)⟩ ⟨by rw [i02, if_pos rfl, e1], fun j hj => by rw [i02, if_neg (by omega)]⟩ i31 i14 ?_ hg'
  refine XV_top h.1 w0 hv (fun j hj i => ⟨?_, ?_, ?_, ?_⟩) (fun i hi => ⟨?_, ?_⟩) (fun i _ => ⟨gJv i, gDv i⟩) (fun i hi => ?_) (fun v0 hv0 => ?_)
  · rw [eJ, if_neg (by omega)]
  · rw [eD, if_neg (by omega)]
  · rw [eJ, if_neg (by omega)]
  · rw [eD, if_neg (by omega)]
  · rw [fJ, if_neg (by omega)]
  · rw [fD, if_neg (by omega)]
  · rw [e1] at hi
    by_cases z : i = h0
    · subst z
      rw [eJ, if_pos ⟨rfl, rfl⟩, eD, if_pos ⟨rfl, rfl⟩, fJ, if_pos rfl, fD, if_pos rfl]
      exact e4
    · rw [eJ, if_neg (by omega), eD, if_neg (by omega), fJ, if_neg (by omega), fD, if_neg (by omega), e2 i (by omega)]
      exact v1 i (by omega)
  · rw [eJ, if_neg (by omega), eD, if_neg (by omega), gJv, gDv]
    exact v2 v0 hv0
