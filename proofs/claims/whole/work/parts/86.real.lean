/-! PURE: reals -/
def rng (z : UInt64) : Prop := ¬ 0 < Op.cmpValue (FP.dcmp z (9094988921128908188 : UInt64)) .l ∧ 0 ≤ Op.cmpValue (FP.dcmp z (18318360957983683996 : UInt64)) .g
def fR (op : Nat) (x y : UInt64) : UInt64 := if op = 70 then FP.dadd x y else if op = 71 then FP.dsub x y else if op = 72 then FP.dmul x y else FP.ddiv x y
def dz (y : UInt64) : Prop := Op.cmpValue (FP.dcmp y FP.dconst0) .l = 0
theorem fR_n {op : Nat} {x y : UInt64} (hx : fin x) (hy : fin y) (h : op = 73 → ¬ dz y) (ho : 70 ≤ op) (ho2 : op ≤ 73) : vf_n64 (fR op x y) := by
  unfold fR
  split
  · exact fin_add hx hy
  · split
    · exact fin_sub hx hy
    · split
      · exact fin_mul hx hy
      · exact fin_div hx hy (h (by omega))
def fT (op : Nat) (x y : UInt64) : Int64 := if op = 74 then (if Op.cmpValue (FP.dcmp x y) .l = 0 then 1 else 0) else (if 0 ≤ Op.cmpValue (FP.dcmp x y) .g then 0 else 1)
theorem c_ofReals {S : St} {x y : UInt64} {op : Nat} {Q : UInt64 → St → Prop} (hx : fin x) (hy : fin y) (h : op = 73 → ¬ dz y) (ho : 70 ≤ op) (ho2 : op ≤ 73) (kk : Q (fR op x y) S) : wp6_ofReals S (nI op) x y Q := by
  have hn := fR_n hx hy h ho ho2
  rcases (by omega : op = 70 ∨ op = 71 ∨ op = 72 ∨ op = 73) with rfl | rfl | rfl | rfl
  · simp (decide := true) only [wp6_ofReals, true_implies, false_implies, true_and, and_true, not_true, not_false_iff]
    exact ⟨hn, kk⟩
  · simp (decide := true) only [wp6_ofReals, true_implies, false_implies, true_and, and_true, not_true, not_false_iff]
    exact ⟨hn, kk⟩
  · simp (decide := true) only [wp6_ofReals, true_implies, false_implies, true_and, and_true, not_true, not_false_iff]
    exact ⟨hn, kk⟩
  · simp (decide := true) only [wp6_ofReals, true_implies, false_implies, true_and, and_true, not_true, not_false_iff]
    exact ⟨fun _ => ⟨hn, kk⟩, fun z => absurd z (h rfl)⟩
theorem r_truth {C : St} {o h : Nat} {b : Bool} {Q : St → Prop} (hh : gI C 1102 o = nI h) (hi : h < cellsN o) (kk : Q (putc C o h (if b then 1 else 0) FP.dconst0)) : wp1_putTruth C o (if b then 1 else 0) Q := by
  unfold wp1_putTruth wp1_putTruth_10
  cases b with
  | true => exact ⟨fun c => absurd c (by decide), fun _ => r_putc hh hi kk⟩
  | false => exact ⟨fun _ => r_putc hh hi kk, fun c => absurd rfl c⟩
theorem c_reals {C : St} {o h op : Nat} {Q : Int32 → St → Prop} (hh : gI C 1102 o = nI h) (h2 : 2 ≤ h) (hc : h ≤ cellsN o) (ho : 70 ≤ op) (ho2 : op ≤ 75) (hx : fin (gD C 1101 o (h - 2))) (hy : fin (gD C 1101 o (h - 1)))
    (kn : op = 73 → dz (gD C 1101 o (h - 1)) → Q 2 (tT2 C o h))
    (kb : op ≤ 73 → (op = 73 → ¬ dz (gD C 1101 o (h - 1))) → ¬ rng (fR op (gD C 1101 o (h - 2)) (gD C 1101 o (h - 1))) → Q 5 (tT2 C o h))
    (kk : op ≤ 73 → (op = 73 → ¬ dz (gD C 1101 o (h - 1))) → rng (fR op (gD C 1101 o (h - 2)) (gD C 1101 o (h - 1))) → Q 0 (putc (tT2 C o h) o (h - 2) 0 (fR op (gD C 1101 o (h - 2)) (gD C 1101 o (h - 1)))))
    (kt : 74 ≤ op → Q 0 (putc (tT2 C o h) o (h - 2) (fT op (gD C 1101 o (h - 2)) (gD C 1101 o (h - 1))) FP.dconst0)) : wp6_stepReals C o (nI op) Q := by
  have hcb := cellsN_b o
  unfold wp6_stepReals
  refine r_takeReal hh (by omega) hc ⟨fun _ => ?_, fun c => absurd (nE (b := 76) (by omega) (by omega) c) (by omega)⟩
  refine r_takeReal (tT1_h C o h) (by omega) (by omega) ?_
  rw [show h - 1 - 1 = h - 2 by omega]
  have go : (op = 73 → ¬ dz (gD C 1101 o (h - 1))) → wp6_stepReals_40 o (nI op) Q (gD C 1101 o (h - 1)) (gD C 1101 o (h - 2)) (tT2 C o h) := by
    intro hz
    have t0 : Q 0 (putc (tT2 C o h) o (h - 2) 0 FP.dconst0) → wp6_stepReals_86 o (nI op) Q o 0 (tT2 C o h) := fun k => r_truth (b := false) (tT2_h C o h) (by omega) k
    have t1 : Q 0 (putc (tT2 C o h) o (h - 2) 1 FP.dconst0) → wp6_stepReals_86 o (nI op) Q o 1 (tT2 C o h) := fun k => r_truth (b := true) (tT2_h C o h) (by omega) k
    have tr : 74 ≤ op → wp6_stepReals_52 o (nI op) Q (gD C 1101 o (h - 1)) (gD C 1101 o (h - 2)) (tT2 C o h) := by
      intro h74
      have kt := kt h74
      refine ⟨fun c => ⟨fun z => t0 ?_, fun z => t1 ?_⟩, fun c => ⟨fun z => t0 ?_, fun z => t1 ?_⟩⟩
      · have c := nN (b := 74) c
        unfold fT at kt; rw [if_neg c, if_pos z] at kt; exact kt
      · have c := nN (b := 74) c
        unfold fT at kt; rw [if_neg c, if_neg z] at kt; exact kt
      · have c := nE (b := 74) (by omega) (by omega) c
        unfold fT at kt; rw [if_pos c, if_neg z] at kt; exact kt
      · have c := nE (b := 74) (by omega) (by omega) c
        unfold fT at kt; rw [if_pos c, if_pos z] at kt; exact kt
    refine ⟨fun c => tr (by have := nE (b := 74) (by omega) (by omega) c; omega), fun c => ⟨fun c2 => ?_, fun c2 => tr (by have := nE (b := 75) (by omega) (by omega) c2; omega)⟩⟩
    have c := nN (b := 74) c
    have c2 := nN (b := 75) c2
    have h73 : op ≤ 73 := by omega
    refine c_ofReals hx hy hz ho h73 ⟨fun z => kb h73 hz fun y => y.1 z, fun z => ⟨fun z2 => ?_, fun z2 => kb h73 hz fun y => z2 y.2⟩⟩
    unfold wp1_putReal
    exact r_putc (tT2_h C o h) (by omega) (kk h73 hz ⟨z, z2⟩)
  refine ⟨fun c => go fun z => absurd (by rw [z]; rfl) c, fun c => ⟨fun z => go fun _ => z, fun z => kn (nE (b := 73) (by omega) (by omega) c) z⟩⟩
theorem m_reals {M : St} {H op : Nat} {Q : St → Prop} (hh : gI M 1914 0 = nI H) (h2 : 2 ≤ H) (hH : H ≤ 200) (ho : 70 ≤ op) (ho2 : op ≤ 75) (hx : fin (gD M 1923 0 (H - 2))) (hy : fin (gD M 1923 0 (H - 1)))
    (kn : op = 73 → dz (gD M 1923 0 (H - 1)) → Q (sI (sI M 1914 0 (nI (H - 2))) 1934 0 2))
    (kb : op ≤ 73 → (op = 73 → ¬ dz (gD M 1923 0 (H - 1))) → ¬ rng (fR op (gD M 1923 0 (H - 2)) (gD M 1923 0 (H - 1))) → Q (sI (sI M 1914 0 (nI (H - 2))) 1934 0 5))
    (kk : op ≤ 73 → (op = 73 → ¬ dz (gD M 1923 0 (H - 1))) → rng (fR op (gD M 1923 0 (H - 2)) (gD M 1923 0 (H - 1))) → Q (putm (sI M 1914 0 (nI (H - 2))) (H - 2) 0 (fR op (gD M 1923 0 (H - 2)) (gD M 1923 0 (H - 1)))))
    (kt : 74 ≤ op → Q (putm (sI M 1914 0 (nI (H - 2))) (H - 2) (fT op (gD M 1923 0 (H - 2)) (gD M 1923 0 (H - 1))) FP.dconst0)) : wp9_measure M (nI op) Q := by
  unfold wp9_measure
  intro S1 e
  rw [hh, l2, nI_sub h2] at e
  subst e
  rw [show gI (sI M 1914 0 (nI (H - 2))) 1914 0 = nI (H - 2) by simp [gI_sI], nI_clamp (by omega), nI_1, nI_clamp (by omega), show H - 2 + 1 = H - 1 by omega]
  refine ⟨vp_in_nI (by omega) (by omega), fun a ea => ⟨vp_in_nI (by omega) (by omega), fun b eb => ?_⟩⟩
  have ea : a = gD M 1923 0 (H - 2) := ea
  have eb : b = gD M 1923 0 (H - 1) := eb
  subst ea; subst eb
  have hp : gI (sI M 1914 0 (nI (H - 2))) 1914 0 = nI (H - 2) := by simp [gI_sI]
  have tr : 74 ≤ op → wp9_measure_45 (nI op) Q (gD M 1923 0 (H - 2)) (gD M 1923 0 (H - 1)) (sI M 1914 0 (nI (H - 2))) := by
    intro h74
    have kt := kt h74
    refine ⟨fun c => ⟨fun z => m_push hp (by omega) ?_, fun z => m_push hp (by omega) ?_⟩, fun c => ⟨fun z => m_push hp (by omega) ?_, fun z => m_push hp (by omega) ?_⟩⟩
    · have c := nN (b := 74) c
      unfold fT at kt; rw [if_neg c, if_pos z] at kt; exact kt
    · have c := nN (b := 74) c
      unfold fT at kt; rw [if_neg c, if_neg z] at kt; exact kt
    · have c := nE (b := 74) (by omega) (by omega) c
      unfold fT at kt; rw [if_pos c, if_neg z] at kt; exact kt
    · have c := nE (b := 74) (by omega) (by omega) c
      unfold fT at kt; rw [if_pos c, if_pos z] at kt; exact kt
  have go : op ≤ 73 → (op = 73 → ¬ dz (gD M 1923 0 (H - 1))) → wp9_measure_98 (nI op) Q (gD M 1923 0 (H - 2)) (gD M 1923 0 (H - 1)) (sI M 1914 0 (nI (H - 2))) := by
    intro h73 hz
    have hn := fR_n hx hy hz ho h73
    have key : wp9_measure_141 (nI op) Q (fR op (gD M 1923 0 (H - 2)) (gD M 1923 0 (H - 1))) (sI M 1914 0 (nI (H - 2))) := by
      refine ⟨fun z S2 e2 => ?_, fun z => ⟨fun z2 => m_push hp (by omega) (kk h73 hz ⟨z, z2⟩), fun z2 S2 e2 => ?_⟩⟩
      · subst e2; exact kb h73 hz fun y => y.1 z
      · subst e2; exact kb h73 hz fun y => z2 y.2
    refine ⟨fun c => ⟨fun c2 => ⟨fun c3 => ?_, fun c3 => ?_⟩, fun c2 => ?_⟩, fun c => ?_⟩
    · have c := nN (b := 70) c
      have c2 := nN (b := 71) c2
      have c3 := nN (b := 72) c3
      unfold fR at hn key
      rw [if_neg c, if_neg c2, if_neg c3] at hn key
      exact ⟨hn, key⟩
    · have c3 := nE (b := 72) (by omega) (by omega) c3
      subst c3
      exact ⟨hn, key⟩
    · have c2 := nE (b := 71) (by omega) (by omega) c2
      subst c2
      exact ⟨hn, key⟩
    · have c := nE (b := 70) (by omega) (by omega) c
      subst c
      exact ⟨hn, key⟩
  refine ⟨fun c => tr (by have := nE (b := 74) (by omega) (by omega) c; omega), fun c => ⟨fun c2 => ⟨fun c3 => go ?_ ?_, fun c3 => ⟨fun z => go ?_ fun _ => z, fun z S2 e2 => ?_⟩⟩, fun c2 => tr (by have := nE (b := 75) (by omega) (by omega) c2; omega)⟩⟩
  · have c := nN (b := 74) c
    have c2 := nN (b := 75) c2
    omega
  · intro z; exact absurd (by rw [z]; rfl) c3
  · have c := nN (b := 74) c
    have c2 := nN (b := 75) c2
    omega
  · subst e2
    exact kn (nE (b := 73) (by omega) (by omega) c3) z
theorem rng_fin {z : UInt64} (hn : vf_n64 z) (h : rng z) : fin z := fin_of hn h.1 h.2
