/-! PURE: the values of the calls below stay -/
theorem XV_top {P : Prog} {c : Ct} {C M C' M' : St} {m p : Nat} {s : SB} (hw : PW P) (w : XW P c) (h : XV P c C M)
    (hC : ∀ j, j < xd c - 1 → ∀ i, gJ C' 1100 (2 * j) i = gJ C 1100 (2 * j) i ∧ gD C' 1101 (2 * j) i = gD C 1101 (2 * j) i ∧ gJ C' 1100 (2 * j + 1) i = gJ C 1100 (2 * j + 1) i ∧ gD C' 1101 (2 * j + 1) i = gD C 1101 (2 * j + 1) i)
    (hM : ∀ i, i < xB P c (xd c - 1) → gJ M' 1922 0 i = gJ M 1922 0 i ∧ gD M' 1923 0 i = gD M 1923 0 i) (hV : ∀ i, i < 6 * (xd c - 1) → gJ M' 1925 0 i = gJ M 1925 0 i ∧ gD M' 1926 0 i = gD M 1926 0 i)
    (h1 : ∀ i, i < qh s → VR (qK s i) (gJ C' 1100 (2 * (xd c - 1)) i) (gD C' 1101 (2 * (xd c - 1)) i) (gJ M' 1922 0 (xB P c (xd c - 1) + i)) (gD M' 1923 0 (xB P c (xd c - 1) + i)))
    (h2 : ∀ v, v < pV P (xf c (xd c - 1)) → VR (pK P (xf c (xd c - 1)) v) (gJ C' 1100 (2 * (xd c - 1) + 1) v) (gD C' 1101 (2 * (xd c - 1) + 1) v) (gJ M' 1925 0 (6 * (xd c - 1) + v)) (gD M' 1926 0 (6 * (xd c - 1) + v))) : XV P (xset c m p s) C' M' := by
  intro j hj
  have hj : j < xd c := hj
  have w1 := w.1
  by_cases z : j = xd c - 1
  · rw [xB_set w1 j (by omega), xh_set w1 hj, if_pos z, xs_set, if_pos z, z]
    exact ⟨h1, h2⟩
  · rw [xB_set w1 j (by omega), xh_set w1 hj, if_neg z, xs_set, if_neg z]
    obtain ⟨a1, a2⟩ := h j hj
    have hlt : j < xd c - 1 := by omega
    have hf := (w.2.2.1 j hj).1
    have hv6 := (hw _ hf).2.2.1
    refine ⟨fun i hi => ?_, fun v hv => ?_⟩
    · have hb : xB P c j + i < xB P c (xd c - 1) := by
        have h3 : xB P c (j + 1) = xB P c j + xh P c j := rfl
        have h4 : xB P c (j + 1) ≤ xB P c (xd c - 1) := xB_mono (by omega)
        omega
      rw [(hC j hlt i).1, (hC j hlt i).2.1, (hM _ hb).1, (hM _ hb).2]
      exact a1 i hi
    · have hv : v < pV P (xf c j) := hv
      rw [(hC j hlt v).2.2.1, (hC j hlt v).2.2.2, (hV _ (by omega)).1, (hV _ (by omega)).2]
      exact a2 v hv
