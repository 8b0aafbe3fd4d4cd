/-! PURE: memory accesses whole; heads of plain instructions -/
theorem c_mems {C : St} {o h op b : Nat} {Q : Int32 → St → Prop} (hh : gI C 1102 o = nI h) (h1 : (if op < 26 then 1 else 2) ≤ h) (hc : h ≤ cellsN o) (ho : 23 ≤ op) (ho2 : op ≤ 28) (hb : b < 256)
    (k3 : op < 26 → ¬ okA ((gJ C 1100 o (h - 1)).toInt32.toInt64 + (nI b).toInt64) (sz op) → Q 3 (tT1 C o h))
    (k3s : 26 ≤ op → ¬ okA ((gJ C 1100 o (h - 2)).toInt32.toInt64 + (nI b).toInt64) (sz op) → Q 3 (tT2 C o h))
    (kl : op < 26 → ∀ p, p + sz op ≤ 64 → ((gJ C 1100 o (h - 1)).toInt32.toInt64 + (nI b).toInt64).toInt32 = nI p → okA ((gJ C 1100 o (h - 1)).toInt32.toInt64 + (nI b).toInt64) (sz op) → Q 0 (putc (tT1 C o h) o (h - 1) (wd op (ldv (gA C 1700 0) p (sz op) 0)) FP.dconst0))
    (ks : 26 ≤ op → ∀ p, p + sz op ≤ 64 → ((gJ C 1100 o (h - 2)).toInt32.toInt64 + (nI b).toInt64).toInt32 = nI p → okA ((gJ C 1100 o (h - 2)).toInt32.toInt64 + (nI b).toInt64) (sz op) → ∀ C', Stored 1700 (gJ C 1100 o (h - 1)) p 0 (sz op) (tT2 C o h) C' → Q 0 C') : wp6_stepNumbers C o (nI op) (nI b) Q := by
  refine ⟨fun c => absurd ((nI_ltI (a := 28) (by omega) (by omega)).mp c) (by omega), fun _ => ⟨fun c => ?_, fun c => ?_⟩⟩
  · have c := (nI_ltI (b := 26) (by omega) (by omega)).mp c
    rw [if_pos c] at h1
    refine ⟨fun _ => ?_, fun z => absurd rfl z⟩
    exact c_mem26 hh h1 hc ho ho2 hb (k3 c) (fun _ => kl c) (fun z => absurd rfl z)
  · have c : ¬ op < 26 := fun z => c ((nI_ltI (b := 26) (by omega) (by omega)).mpr z)
    rw [if_neg c] at h1
    refine ⟨fun z => absurd z (by decide), fun _ => ?_⟩
    refine r_takeNumber hh (by omega) hc ?_
    have e : h - 1 - 1 = h - 2 := by omega
    refine c_mem26 (h := h - 1) (tT1_h C o h) (by omega) (by omega) ho ho2 hb ?_ (fun z => absurd z (by decide)) ?_
    · rw [e]; intro z
      show Q 3 (sI (sI C 1102 o (nI (h - 1))) 1102 o (nI (h - 1 - 1)))
      rw [e]; exact k3s (by omega) z
    · intro _
      rw [e]; intro p h2 h3 h4 C' h5
      refine ks (by omega) p h2 h3 h4 C' ?_
      unfold tT1 at h5
      rw [e] at h5
      exact h5
theorem m_51 {M : St} {H op b : Nat} {Q : St → Prop} (hh : gI M 1914 0 = nI H) (h1 : 1 ≤ H) (hH : H < 200) (ho : 23 ≤ op) (ho2 : op ≤ 28) (hb : b < 256)
    (k3 : ¬ okA ((gJ M 1922 0 (H - 1)).toInt32.toInt64 + (nI b).toInt64) (sz op) → Q (sI (sI M 1914 0 (nI (H - 1))) 1934 0 3))
    (kl : op < 26 → ∀ p, p + sz op ≤ 64 → ((gJ M 1922 0 (H - 1)).toInt32.toInt64 + (nI b).toInt64).toInt32 = nI p → okA ((gJ M 1922 0 (H - 1)).toInt32.toInt64 + (nI b).toInt64) (sz op) → Q (putm (sI M 1914 0 (nI (H - 1))) (H - 1) (wd op (ldv (gA M 1907 0) p (sz op) 0)) FP.dconst0))
    (ks : 26 ≤ op → ∀ p, p + sz op ≤ 64 → ((gJ M 1922 0 (H - 1)).toInt32.toInt64 + (nI b).toInt64).toInt32 = nI p → okA ((gJ M 1922 0 (H - 1)).toInt32.toInt64 + (nI b).toInt64) (sz op) → ∀ M', Stored 1907 (gJ M 1922 0 H) p 0 (sz op) (sI M 1914 0 (nI (H - 1))) M' → Q M') : wp9_access_51 (nI op) (nI b) Q (nI (sz op)) M := by
  have hsz : sz op ≤ 8 := by unfold sz; split <;> (try split) <;> omega
  unfold wp9_access_51
  rw [hh, nI_clamp (by omega)]
  refine ⟨vp_in_nI (by omega) (by omega), fun x4 e4 => m_popInt hh h1 (by omega) fun A eA => ?_⟩
  subst e4; subst eA
  have key : okA ((gJ M 1922 0 (H - 1)).toInt32.toInt64 + (nI b).toInt64) (sz op) → ∃ n, wp9_access_105 (nI op) (nI b) Q n (gJ M 1922 0 H) ((gJ M 1922 0 (H - 1)).toInt32.toInt64 + (nI b).toInt64) 0 (nI (sz op) - 1) (sI M 1914 0 (nI (H - 1))) := by
    intro y
    obtain ⟨p, hp, ep⟩ := okA_p hb hsz y
    refine ⟨sz op + 1, ?_⟩
    by_cases z : op < 26
    · exact m_load (M := sI M 1914 0 (nI (H - 1))) hp (by omega) ep (sz op) 0 (Nat.le_refl _) (m_push (h := H - 1) (by simp [gI_sI]) (by omega) (kl z p hp ep y))
    · exact m_store hp hsz (by omega) (by omega) ep (ks (by omega) p hp ep y) (sz op) _ (Nat.le_refl _) (Stored.no _ _ _ _ _)
  refine ⟨fun c S2 e2 => ?_, fun c => ⟨fun c2 x10 e10 => ?_, fun c2 S3 e3 => ?_⟩⟩
  · subst e2; exact k3 fun y => ((lA _ _).mpr y).1 c
  · subst e10
    exact key ((lA _ _).mp ⟨c, Int32.not_lt.mpr c2⟩)
  · subst e3; exact k3 fun y => c2 (Int32.not_lt.mp ((lA _ _).mpr y).2)
theorem m_mems {M : St} {H op b : Nat} {Q : St → Prop} (hh : gI M 1914 0 = nI H) (h1 : (if op < 26 then 1 else 2) ≤ H) (hH : H < 200) (ho : 23 ≤ op) (ho2 : op ≤ 28) (hb : b < 256)
    (k3 : op < 26 → ¬ okA ((gJ M 1922 0 (H - 1)).toInt32.toInt64 + (nI b).toInt64) (sz op) → Q (sI (sI M 1914 0 (nI (H - 1))) 1934 0 3))
    (k3s : 26 ≤ op → ¬ okA ((gJ M 1922 0 (H - 2)).toInt32.toInt64 + (nI b).toInt64) (sz op) → Q (sI (sI (sI M 1914 0 (nI (H - 1))) 1914 0 (nI (H - 2))) 1934 0 3))
    (kl : op < 26 → ∀ p, p + sz op ≤ 64 → ((gJ M 1922 0 (H - 1)).toInt32.toInt64 + (nI b).toInt64).toInt32 = nI p → okA ((gJ M 1922 0 (H - 1)).toInt32.toInt64 + (nI b).toInt64) (sz op) → Q (putm (sI M 1914 0 (nI (H - 1))) (H - 1) (wd op (ldv (gA M 1907 0) p (sz op) 0)) FP.dconst0))
    (ks : 26 ≤ op → ∀ p, p + sz op ≤ 64 → ((gJ M 1922 0 (H - 2)).toInt32.toInt64 + (nI b).toInt64).toInt32 = nI p → okA ((gJ M 1922 0 (H - 2)).toInt32.toInt64 + (nI b).toInt64) (sz op) → ∀ M', Stored 1907 (gJ M 1922 0 (H - 1)) p 0 (sz op) (sI (sI M 1914 0 (nI (H - 1))) 1914 0 (nI (H - 2))) M' → Q M') : wp9_access M (nI op) (nI b) Q := by
  have size : wp9_access_34 (nI op) (nI b) Q (nI (sz op)) M → wp9_access M (nI op) (nI b) Q := by
    intro hR
    rcases (by omega : op = 23 ∨ op = 24 ∨ op = 25 ∨ op = 26 ∨ op = 27 ∨ op = 28) with rfl | rfl | rfl | rfl | rfl | rfl <;>
    · simp (decide := true) only [sz, if_true, if_false] at hR
      simp (decide := true) only [wp9_access, wp9_access_12, wp9_access_28, true_implies, false_implies, true_and, and_true, not_true, not_false_iff]
      exact hR
  refine size ⟨fun c => ?_, fun c S1 e1 => ?_⟩
  · have c := (nI_ltI (b := 26) (by omega) (by omega)).mp c
    rw [if_pos c] at h1
    exact m_51 hh h1 hH ho ho2 hb (k3 c) (fun _ => kl c) (fun z => absurd c (by omega))
  · have c : ¬ op < 26 := fun z => c ((nI_ltI (b := 26) (by omega) (by omega)).mpr z)
    rw [if_neg c] at h1
    rw [hh, nI_dec (by omega)] at e1
    subst e1
    have e : H - 1 - 1 = H - 2 := by omega
    refine m_51 (H := H - 1) (by simp [gI_sI]) (by omega) (by omega) ho ho2 hb ?_ (fun z => absurd z c) ?_
    · rw [e]; exact k3s (by omega)
    · intro _
      rw [e]; exact ks (by omega)
theorem VR1 {a b : Int64} {x y : UInt64} (h : VR 1 a x b y) : a = b ∧ a.toInt32.toInt64 = a := ⟨h.1, h.2 rfl⟩
theorem VR2 {a b : Int64} {x y : UInt64} (h : VR 2 a x b y) : a = b := h.1
theorem VR3 {a b : Int64} {x y : UInt64} (h : VR 3 a x b y) : x = y ∧ fin x := h
theorem mkV1 (a : Int64) (x y : UInt64) (h : a.toInt32.toInt64 = a) : VR 1 a x a y := ⟨rfl, fun _ => h⟩
theorem mkV2 (a : Int64) (x y : UInt64) : VR 2 a x a y := ⟨rfl, fun z => absurd z (by decide)⟩
theorem mkV3 (a b : Int64) (x : UInt64) (h : fin x) : VR 3 a x b x := ⟨rfl, h⟩
/-- what is known where a step begins -/
theorem XX.facts {P : Prog} {c : Ct} {C M : St} (h : XX P c C M) : ∃ m, OkI P (xf c (xd c - 1)) (xp c (xd c - 1)) (xs c (xd c - 1)) ∧ Here P (xf c (xd c - 1)) m (xp c (xd c - 1) + szI P (xf c (xd c - 1)) (xp c (xd c - 1))) (ckOne P (xf c (xd c - 1)) (xp c (xd c - 1)) (xs c (xd c - 1))) ∧
    xd c - 1 ≤ 5 ∧ gI C 1102 (2 * (xd c - 1)) = nI (qh (xs c (xd c - 1))) ∧ qh (xs c (xd c - 1)) ≤ 16 ∧ cellsN (2 * (xd c - 1)) = 16 ∧ xB P c (xd c - 1) ≤ 80 ∧ gI M 1914 0 = nI (xB P c (xd c - 1) + qh (xs c (xd c - 1))) ∧
    (∀ i, i < qh (xs c (xd c - 1)) → VR (qK (xs c (xd c - 1)) i) (gJ C 1100 (2 * (xd c - 1)) i) (gD C 1101 (2 * (xd c - 1)) i) (gJ M 1922 0 (xB P c (xd c - 1) + i)) (gD M 1923 0 (xB P c (xd c - 1) + i))) ∧ Live (xs c (xd c - 1)) ∧ 1 ≤ qn (xs c (xd c - 1)) ∧ xf c (xd c - 1) < 6 := by
  obtain ⟨hw, hPC, hPM, w, hXC, hXM, hv, -, -⟩ := h
  have w1 := w.1
  have w2 := w.2.1
  obtain ⟨hf, hh, hl, hq⟩ := w.2.2.1 (xd c - 1) (by omega)
  have hh16 := xh_le w (j := xd c - 1) (by omega)
  rw [xh_top w1] at hh16
  have hB := xB_le w (xd c - 1) (by omega)
  obtain ⟨v1, -⟩ := hv (xd c - 1) (by omega)
  rw [xh_top w1] at v1
  have hc := (hXC.2 (xd c - 1) (by omega)).2.2.2.1
  rw [xh_top w1] at hc
  have hm := hXM.2.2.2.1
  rw [xB_top w1] at hm
  have hcell : cellsN (2 * (xd c - 1)) = 16 := by
    unfold cellsN
    rw [if_pos (by omega), if_pos (by omega)]
  cases em : xm c (xd c - 1) with
  | zero =>
    rw [em] at hh
    have := hh.1.2
    omega
  | succ m =>
    rw [em] at hh
    exact ⟨m, hh.1.1, hh.one hw hf, by omega, hc, hh16, hcell, by omega, hm, v1, hl, hq, hf⟩
/-- the reference where a step of a plain instruction begins -/
def mB (M : St) : St := sI (sI M 1934 0 0) 1933 0 (gI M 1933 0 + 1)
theorem m_plain_go {P : Prog} {c : Ct} {C M : St} {Q : St → Prop} (h : XX P c C M) (ok : OkI P (xf c (xd c - 1)) (xp c (xd c - 1)) (xs c (xd c - 1))) (ho : 20 ≤ pC P (xf c (xd c - 1)) (xp c (xd c - 1))) (ho2 : pC P (xf c (xd c - 1)) (xp c (xd c - 1)) < 256)
    (kk : ∀ b, (xp c (xd c - 1) + 1 < pL P (xf c (xd c - 1)) → b = nI (pC P (xf c (xd c - 1)) (xp c (xd c - 1) + 1))) → wp9_plain (mB M) (nI (pC P (xf c (xd c - 1)) (xp c (xd c - 1)))) b (fun S2 => ∀ S3, S3 = sI S2 1931 0 (nI (xp c (xd c - 1) + szI P (xf c (xd c - 1)) (xp c (xd c - 1)))) → Q S3)) : wp9_step M Q := by
  refine m_head h ok fun b hb M2 e2 => ?_
  have e2 : M2 = mB M := e2
  subst e2
  have kk := kk b hb
  generalize pC P (xf c (xd c - 1)) (xp c (xd c - 1)) = op at *
  have n2 : ¬ nI op < 2 := fun z => absurd ((nI_ltI (b := 2) (by omega) (by omega)).mp z) (by omega)
  have n12 : 12 < nI op := (nI_ltI (a := 12) (by omega) (by omega)).mpr (by omega)
  refine ⟨fun z => absurd z n2, fun _ => ⟨fun _ => ?_, fun z => absurd n12 z⟩⟩
  have ne : ∀ k, k < 20 → ¬ nI op = nI k := fun k hk z => absurd (nE (by omega) (by omega) z) (by omega)
  refine ⟨fun _ => ⟨fun _ => ⟨fun _ => ⟨fun z => absurd ((nI_ltI (b := 15) (by omega) (by omega)).mp z) (by omega), fun _ => ⟨fun _ => ?_, fun z => absurd ((nI_ltI (a := 19) (by omega) (by omega)).mpr (by omega)) z⟩⟩, fun z => absurd z (ne 14 (by omega))⟩, fun z => absurd z (ne 13 (by omega))⟩, fun z => absurd z (ne 0 (by omega))⟩
  exact ⟨fun z => absurd ((nI_leI (b := 19) (by omega) (by omega)).mp z) (by omega), fun _ => kk⟩
