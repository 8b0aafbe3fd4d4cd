/-! PURE: an instruction that stays in its call and leaves the frames as they are -/
def kX (k : Nat) : Prop := k = 1005 ∨ k = 1100 ∨ k = 1101 ∨ k = 1102 ∨ k = 1700
def kY (k : Nat) : Prop := k = 1907 ∨ k = 1908 ∨ k = 1909 ∨ k = 1914 ∨ k = 1922 ∨ k = 1923 ∨ k = 1925 ∨ k = 1926 ∨ k = 1931 ∨ k = 1933 ∨ k = 1934
theorem XX_step {P : Prog} {c : Ct} {C M C' M' : St} {m p : Nat} {s : SB} (h : XX P c C M) (hC : Ag kX C C') (hM : Ag kY M M') (hs : qn s = qn (xs c (xd c - 1)) ∧ qF s = qF (xs c (xd c - 1))) (hh : Here P (xf c (xd c - 1)) m p s) (hl : Live s)
    (c5 : gI C' 1005 (xd c - 1) = nI p ∧ ∀ j, j < xd c - 1 → gI C' 1005 j = gI C 1005 j) (c2 : gI C' 1102 (2 * (xd c - 1)) = nI (qh s) ∧ ∀ j, j < xd c - 1 → gI C' 1102 (2 * j) = gI C 1102 (2 * j)) (m5 : gI M' 1931 0 = nI p) (m4 : gI M' 1914 0 = nI (xB P c (xd c - 1) + qh s)) (hv : XV P (xset c m p s) C' M') (hg : XG C' M') : XX P (xset c m p s) C' M' := by
  obtain ⟨hw, hPC, hPM, w, hXC, hXM, -, -, hN⟩ := h
  obtain ⟨w1, w2, w3, w4⟩ := id w
  have hd : xd (xset c m p s) = xd c := rfl
  have hf : xf (xset c m p s) = xf c := rfl
  have nX : ∀ k, ¬ (k = 1005 ∨ k = 1100 ∨ k = 1101 ∨ k = 1102 ∨ k = 1700) → ¬ kX k := fun k z => z
  have nY : ∀ k, ¬ (k = 1907 ∨ k = 1908 ∨ k = 1909 ∨ k = 1914 ∨ k = 1922 ∨ k = 1923 ∨ k = 1925 ∨ k = 1926 ∨ k = 1931 ∨ k = 1933 ∨ k = 1934) → ¬ kY k := fun k z => z
  refine ⟨hw, hPC.ag hC (fun k z => nX k (by omega)), hPM.ag hM (fun k z1 z2 => nY k (by omega)), ⟨w1, w2, fun j hj => ?_, fun j hj hr => ?_⟩, ⟨?_, fun j hj => ?_⟩, ⟨?_, ?_, ?_, ?_, fun j hj => ?_⟩, hv, hg, fun f hf1 hL => ?_⟩
  · rw [hf, xm_set, xp_set, xs_set]
    by_cases z : j = xd c - 1
    · rw [if_pos z, if_pos z, if_pos z, z]
      exact ⟨(w3 _ (by omega)).1, hh, hl, by rw [hs.1]; exact (w3 _ (by omega)).2.2.2⟩
    · rw [if_neg z, if_neg z, if_neg z]
      exact w3 j hj
  · rw [hd] at hj
    rw [hf] at hr ⊢
    rw [xs_set, if_neg (by omega)]
    exact w4 j hj hr
  · rw [hC.gI (nX _ (by decide))]; exact hXC.1
  · rw [hd] at hj
    obtain ⟨a1, a2, a3, a4, a5⟩ := hXC.2 j hj
    have eq1 : qn (xs (xset c m p s) j) = qn (xs c j) ∧ qF (xs (xset c m p s) j) = qF (xs c j) := by
      rw [xs_set]
      by_cases z : j = xd c - 1
      · rw [if_pos z, z]; exact hs
      · rw [if_neg z]; exact ⟨rfl, rfl⟩
    rw [eq1.1, eq1.2, hf, hC.gR (nX _ (by decide)), hC.gI (k := 1006) (nX _ (by decide))]
    refine ⟨a1, ?_, a3, ?_, fun i hi hq => ?_⟩
    · rw [xp_set]
      by_cases z : j = xd c - 1
      · rw [if_pos z, z]; exact c5.1
      · rw [if_neg z, c5.2 j (by omega)]; exact a2
    · rw [xh_set w1 hj]
      by_cases z : j = xd c - 1
      · rw [if_pos z, z]; exact c2.1
      · rw [if_neg z, c2.2 j (by omega)]; exact a4
    · rw [hC.gA (k := 1002) (nX _ (by decide)), hC.gA (k := 1003) (nX _ (by decide))]
      exact a5 i hi hq
  · rw [hM.gI (k := 1930) (nY _ (by decide))]; exact hXM.1
  · rw [hd, xp_set, if_pos rfl]; exact m5
  · rw [hd, xF_setTop w1, hs.1, ← xF_top w1, hM.gI (k := 1920) (nY _ (by decide))]; exact hXM.2.2.1
  · rw [hd, xB_setTop w1]; exact m4
  · rw [hd] at hj
    obtain ⟨a1, a2, a3, a4⟩ := hXM.2.2.2.2 j hj
    have eq1 : qn (xs (xset c m p s) j) = qn (xs c j) ∧ qF (xs (xset c m p s) j) = qF (xs c j) := by
      rw [xs_set]
      by_cases z : j = xd c - 1
      · rw [if_pos z, z]; exact hs
      · rw [if_neg z]; exact ⟨rfl, rfl⟩
    rw [eq1.1, eq1.2, hf, xF_set j (by omega), xB_set w1 j (by omega), hM.gA (k := 1927) (nY _ (by decide)), hM.gA (k := 1929) (nY _ (by decide))]
    refine ⟨a1, a2, fun h1 => ?_, fun i hi => ?_⟩
    · rw [hM.gA (k := 1928) (nY _ (by decide)), xp_set, if_neg (by omega)]
      exact a3 h1
    · rw [hM.gA (k := 1915) (nY _ (by decide)), hM.gA (k := 1916) (nY _ (by decide)), hM.gA (k := 1917) (nY _ (by decide)), hM.gA (k := 1924) (nY _ (by decide))]
      exact a4 i hi
  · obtain ⟨b1, N, b2⟩ := hN f hf1 hL
    refine ⟨b1, N, fun j hj => ?_⟩
    rw [hC.gA (k := 1402) (nX _ (by decide)), hC.gA (k := 1403) (nX _ (by decide))]
    exact b2 j hj
