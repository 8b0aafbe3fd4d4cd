/-! PURE: the class's cells and the reference's stack, one step each -/
theorem cellsN_b (o : Nat) : 1 ≤ cellsN o ∧ cellsN o ≤ 16 := by
  unfold cellsN
  split
  · split <;> omega
  · split <;> omega
theorem r_drop {C : St} {o h : Nat} {Q : St → Prop} (hh : gI C 1102 o = nI h) (h1 : 1 ≤ h) (hb : h < 2 ^ 31) (kk : Q (sI C 1102 o (nI (h - 1)))) : wp1_drop C o Q := by
  unfold wp1_drop
  rw [hh]
  refine ⟨fun c => absurd ((nI_leI (b := 0) hb (by omega)).mp c) (by omega), fun _ S1 e => ?_⟩
  rw [nI_dec h1] at e
  subst e; exact kk
theorem r_number {C : St} {o i : Nat} {Q : Int64 → St → Prop} (hi : i < cellsN o) (kk : Q (gJ C 1100 o i) C) : wp1_numberAt C o (nI i) Q := by
  have hc := cellsN_b o
  unfold wp1_numberAt
  rw [nI_clamp (by omega)]
  exact ⟨fun c => absurd c (nI_pos (by omega)), fun _ => ⟨fun c => absurd ((nI_leI (by omega) (by omega)).mp c) (by omega), fun _ => ⟨vp_in_nI hi (by omega), kk⟩⟩⟩
theorem r_real {C : St} {o i : Nat} {Q : UInt64 → St → Prop} (hi : i < cellsN o) (kk : Q (gD C 1101 o i) C) : wp1_realAt C o (nI i) Q := by
  have hc := cellsN_b o
  unfold wp1_realAt
  rw [nI_clamp (by omega)]
  exact ⟨fun c => absurd c (nI_pos (by omega)), fun _ => ⟨fun c => absurd ((nI_leI (by omega) (by omega)).mp c) (by omega), fun _ => ⟨vp_in_nI hi (by omega), kk⟩⟩⟩
theorem r_setc {C : St} {o i : Nat} {a : Int64} {x : UInt64} {Q : St → Prop} (hi : i < cellsN o) (kk : Q (sD (sJ C 1100 o i a) 1101 o i x)) : wp1_set C o (nI i) a x Q := by
  have hc := cellsN_b o
  have hn : ¬ nI (cellsN o) ≤ nI i := fun c => absurd ((nI_leI (by omega) (by omega)).mp c) (by omega)
  unfold wp1_set
  rw [nI_clamp (by omega)]
  refine ⟨fun c => absurd c (nI_pos (by omega)), fun _ => ⟨fun c => absurd c hn, fun _ => ⟨fun c => absurd c hn, fun _ => ⟨vp_in_nI hi (by omega), fun S1 e => ?_⟩⟩⟩⟩
  subst e
  refine ⟨vp_in_nI hi (by omega), fun S2 e => ?_⟩
  subst e; exact kk
theorem r_putc {C : St} {o h : Nat} {a : Int64} {x : UInt64} {Q : St → Prop} (hh : gI C 1102 o = nI h) (hi : h < cellsN o) (kk : Q (sI (sD (sJ C 1100 o h a) 1101 o h x) 1102 o (nI (h + 1)))) : wp1_put C o a x Q := by
  have hc := cellsN_b o
  have hn : ¬ nI (cellsN o) ≤ nI h := fun c => absurd ((nI_leI (by omega) (by omega)).mp c) (by omega)
  unfold wp1_put
  rw [hh]
  refine ⟨fun c => absurd c (nI_pos (by omega)), fun _ => ⟨fun c => absurd c hn, fun _ => ⟨fun c => absurd c hn, fun _ => ⟨vp_in_nI hi (by omega), fun S1 e => ?_⟩⟩⟩⟩
  rw [nI_clamp (by omega)] at e
  subst e
  have e1 : gI (sJ C 1100 o h a) 1102 o = nI h := hh
  rw [e1, nI_clamp (by omega)]
  refine ⟨vp_in_nI hi (by omega), fun S2 e S3 e3 => ?_⟩
  subst e
  have e2 : gI (sD (sJ C 1100 o h a) 1101 o h x) 1102 o + 1 = nI (h + 1) := by
    show gI C 1102 o + 1 = _
    rw [hh]; exact nI_1 h
  rw [e2] at e3
  subst e3; exact kk
theorem r_takeNumber {C : St} {o h : Nat} {Q : Int64 → St → Prop} (hh : gI C 1102 o = nI h) (h1 : 1 ≤ h) (hi : h ≤ cellsN o) (kk : Q (gJ C 1100 o (h - 1)) (sI C 1102 o (nI (h - 1)))) : wp1_takeNumber C o Q := by
  have hc := cellsN_b o
  unfold wp1_takeNumber
  refine r_drop hh h1 (by omega) ?_
  rw [show gI (sI C 1102 o (nI (h - 1))) 1102 o = nI (h - 1) by simp [gI_sI]]
  exact r_number (by omega) kk
theorem r_takeInt {C : St} {o h : Nat} {Q : Int32 → St → Prop} (hh : gI C 1102 o = nI h) (h1 : 1 ≤ h) (hi : h ≤ cellsN o) (kk : Q (gJ C 1100 o (h - 1)).toInt32 (sI C 1102 o (nI (h - 1)))) : wp1_takeInt C o Q := by
  unfold wp1_takeInt
  exact r_takeNumber hh h1 hi kk
theorem r_takeReal {C : St} {o h : Nat} {Q : UInt64 → St → Prop} (hh : gI C 1102 o = nI h) (h1 : 1 ≤ h) (hi : h ≤ cellsN o) (kk : Q (gD C 1101 o (h - 1)) (sI C 1102 o (nI (h - 1)))) : wp1_takeReal C o Q := by
  have hc := cellsN_b o
  unfold wp1_takeReal
  refine r_drop hh h1 (by omega) ?_
  rw [show gI (sI C 1102 o (nI (h - 1))) 1102 o = nI (h - 1) by simp [gI_sI]]
  exact r_real (by omega) kk
theorem r_setFrom {C : St} {o i a j : Nat} {Q : St → Prop} (hi : i < cellsN o) (hj : j < cellsN a) (kk : Q (sD (sJ C 1100 o i (gJ C 1100 a j)) 1101 o i (gD C 1101 a j))) : wp1_setFrom C o (nI i) a (nI j) Q := by
  unfold wp1_setFrom
  exact r_number hj (r_real hj (r_setc hi kk))
theorem r_putFrom {C : St} {o h a j : Nat} {Q : St → Prop} (hh : gI C 1102 o = nI h) (hi : h < cellsN o) (hj : j < cellsN a) (kk : Q (sI (sD (sJ C 1100 o h (gJ C 1100 a j)) 1101 o h (gD C 1101 a j)) 1102 o (nI (h + 1)))) : wp1_putFrom C o a (nI j) Q := by
  unfold wp1_putFrom
  exact r_number hj (r_real hj (r_putc hh hi kk))
theorem r_cutTo {C : St} {o h i : Nat} {Q : St → Prop} (hh : gI C 1102 o = nI h) (hb : h < 2 ^ 31) (hi : i ≤ h) (k0 : i = h → Q C) (kk : Q (sI C 1102 o (nI i))) : wp1_cutTo C o (nI i) Q := by
  unfold wp1_cutTo
  rw [hh]
  refine ⟨fun c => absurd c (nI_pos (by omega)), fun _ => ⟨fun c => ?_, fun c S1 e => ?_⟩⟩
  · have := (nI_leI hb (by omega)).mp c
    exact k0 (by omega)
  · subst e; exact kk
theorem m_push {M : St} {h : Nat} {a : Int64} {x : UInt64} {Q : St → Prop} (hh : gI M 1914 0 = nI h) (hi : h < 200) (kk : Q (sI (sD (sJ M 1922 0 h a) 1923 0 h x) 1914 0 (nI (h + 1)))) : wp9_push M a x Q := by
  unfold wp9_push
  rw [hh]
  refine ⟨vp_in_nI hi (by omega), fun S1 e => ?_⟩
  rw [nI_clamp (by omega)] at e
  subst e
  have e1 : gI (sJ M 1922 0 h a) 1914 0 = nI h := hh
  rw [e1, nI_clamp (by omega)]
  refine ⟨vp_in_nI hi (by omega), fun S2 e S3 e3 => ?_⟩
  subst e
  have e2 : gI (sD (sJ M 1922 0 h a) 1923 0 h x) 1914 0 + 1 = nI (h + 1) := by
    show gI M 1914 0 + 1 = _
    rw [hh]; exact nI_1 h
  rw [e2] at e3
  subst e3; exact kk
theorem m_popInt {M : St} {h : Nat} {Q : Int32 → St → Prop} (hh : gI M 1914 0 = nI h) (h1 : 1 ≤ h) (hi : h ≤ 200) (kk : Q (gJ M 1922 0 (h - 1)).toInt32 (sI M 1914 0 (nI (h - 1)))) : wp9_popInt M Q := by
  unfold wp9_popInt
  intro S1 e
  rw [hh, nI_dec h1] at e
  subst e
  rw [show gI (sI M 1914 0 (nI (h - 1))) 1914 0 = nI (h - 1) from rfl, nI_clamp (by omega)]
  exact ⟨vp_in_nI (by omega) (by omega), kk⟩
