/-! PURE: what longs come to -/
def fL (op : Nat) (x y : Int64) : Int64 := if op = 50 then x + y else if op = 51 then x - y else if op = 52 then x * y else if op = 53 then x / y else if op = 54 then x - x / y * y else if op = 55 then x &&& y else if op = 56 then x ||| y else if op = 57 then x ^^^ y else if op = 58 then jlshl x y.toInt32 else if op = 59 then jlshr x y.toInt32 else if op = 60 then jlushr x y.toInt32 else if op = 61 then (if lg_cmp x y = 0 then 1 else 0) else if op = 62 then (if lg_cmp x y = 0 then 0 else 1) else (if 0 ≤ lg_cmp x y then 0 else 1)
theorem coL_50 {S : St} {x y : Int64} {Q : Int64 → St → Prop} (kk : Q (fL 50 x y) S) : wp6_ofLongs S (nI 50) x y Q := by
  simp (decide := true) only [fL, if_true, if_false] at kk
  simp (decide := true) only [wp6_ofLongs, true_implies, false_implies, true_and, and_true, not_true, not_false_iff]
  exact kk
theorem coL_51 {S : St} {x y : Int64} {Q : Int64 → St → Prop} (kk : Q (fL 51 x y) S) : wp6_ofLongs S (nI 51) x y Q := by
  simp (decide := true) only [fL, if_true, if_false] at kk
  simp (decide := true) only [wp6_ofLongs, true_implies, false_implies, true_and, and_true, not_true, not_false_iff]
  exact kk
theorem coL_52 {S : St} {x y : Int64} {Q : Int64 → St → Prop} (kk : Q (fL 52 x y) S) : wp6_ofLongs S (nI 52) x y Q := by
  simp (decide := true) only [fL, if_true, if_false] at kk
  simp (decide := true) only [wp6_ofLongs, true_implies, false_implies, true_and, and_true, not_true, not_false_iff]
  exact kk
theorem coL_55 {S : St} {x y : Int64} {Q : Int64 → St → Prop} (kk : Q (fL 55 x y) S) : wp6_ofLongs S (nI 55) x y Q := by
  simp (decide := true) only [fL, if_true, if_false] at kk
  simp (decide := true) only [wp6_ofLongs, true_implies, false_implies, true_and, and_true, not_true, not_false_iff]
  exact kk
theorem coL_56 {S : St} {x y : Int64} {Q : Int64 → St → Prop} (kk : Q (fL 56 x y) S) : wp6_ofLongs S (nI 56) x y Q := by
  simp (decide := true) only [fL, if_true, if_false] at kk
  simp (decide := true) only [wp6_ofLongs, true_implies, false_implies, true_and, and_true, not_true, not_false_iff]
  exact kk
theorem coL_57 {S : St} {x y : Int64} {Q : Int64 → St → Prop} (kk : Q (fL 57 x y) S) : wp6_ofLongs S (nI 57) x y Q := by
  simp (decide := true) only [fL, if_true, if_false] at kk
  simp (decide := true) only [wp6_ofLongs, true_implies, false_implies, true_and, and_true, not_true, not_false_iff]
  exact kk
theorem coL_58 {S : St} {x y : Int64} {Q : Int64 → St → Prop} (kk : Q (fL 58 x y) S) : wp6_ofLongs S (nI 58) x y Q := by
  simp (decide := true) only [fL, if_true, if_false] at kk
  simp (decide := true) only [wp6_ofLongs, true_implies, false_implies, true_and, and_true, not_true, not_false_iff]
  exact kk
theorem coL_59 {S : St} {x y : Int64} {Q : Int64 → St → Prop} (kk : Q (fL 59 x y) S) : wp6_ofLongs S (nI 59) x y Q := by
  simp (decide := true) only [fL, if_true, if_false] at kk
  simp (decide := true) only [wp6_ofLongs, true_implies, false_implies, true_and, and_true, not_true, not_false_iff]
  exact kk
theorem coL_60 {S : St} {x y : Int64} {Q : Int64 → St → Prop} (kk : Q (fL 60 x y) S) : wp6_ofLongs S (nI 60) x y Q := by
  simp (decide := true) only [fL, if_true, if_false] at kk
  simp (decide := true) only [wp6_ofLongs, true_implies, false_implies, true_and, and_true, not_true, not_false_iff]
  exact kk
theorem coL_61 {S : St} {x y : Int64} {Q : Int64 → St → Prop} (kk : Q (fL 61 x y) S) : wp6_ofLongs S (nI 61) x y Q := by
  simp (decide := true) only [fL, if_true, if_false] at kk
  simp (decide := true) only [wp6_ofLongs, true_implies, false_implies, true_and, and_true, not_true, not_false_iff]
  exact ⟨fun z => by rw [if_neg z] at kk; exact kk, fun z => by rw [if_pos z] at kk; exact kk⟩
theorem coL_62 {S : St} {x y : Int64} {Q : Int64 → St → Prop} (kk : Q (fL 62 x y) S) : wp6_ofLongs S (nI 62) x y Q := by
  simp (decide := true) only [fL, if_true, if_false] at kk
  simp (decide := true) only [wp6_ofLongs, true_implies, false_implies, true_and, and_true, not_true, not_false_iff]
  exact ⟨fun z => by rw [if_pos z] at kk; exact kk, fun z => by rw [if_neg z] at kk; exact kk⟩
theorem coL_63 {S : St} {x y : Int64} {Q : Int64 → St → Prop} (kk : Q (fL 63 x y) S) : wp6_ofLongs S (nI 63) x y Q := by
  simp (decide := true) only [fL, if_true, if_false] at kk
  simp (decide := true) only [wp6_ofLongs, true_implies, false_implies, true_and, and_true, not_true, not_false_iff]
  exact ⟨fun z => by rw [if_pos z] at kk; exact kk, fun z => by rw [if_neg z] at kk; exact kk⟩
theorem c_ofLongs {S : St} {x y : Int64} {op : Nat} {Q : Int64 → St → Prop} (h1 : 50 ≤ op) (h2 : op ≤ 63) (h3 : ¬ (op = 53 ∨ op = 54)) (kk : Q (fL op x y) S) : wp6_ofLongs S (nI op) x y Q := by
  rcases (by omega : op = 50 ∨ op = 51 ∨ op = 52 ∨ op = 55 ∨ op = 56 ∨ op = 57 ∨ op = 58 ∨ op = 59 ∨ op = 60 ∨ op = 61 ∨ op = 62 ∨ op = 63) with rfl | rfl | rfl | rfl | rfl | rfl | rfl | rfl | rfl | rfl | rfl | rfl
  · exact coL_50 kk
  · exact coL_51 kk
  · exact coL_52 kk
  · exact coL_55 kk
  · exact coL_56 kk
  · exact coL_57 kk
  · exact coL_58 kk
  · exact coL_59 kk
  · exact coL_60 kk
  · exact coL_61 kk
  · exact coL_62 kk
  · exact coL_63 kk
theorem c_longs {C : St} {o h op : Nat} {Q : Int32 → St → Prop} (hh : gI C 1102 o = nI h) (h2 : 2 ≤ h) (hc : h ≤ cellsN o) (ho : 50 ≤ op) (ho2 : op ≤ 63)
    (kn : (op = 53 ∨ op = 54) → gJ C 1100 o (h - 1) = 0 → Q 2 (tT2 C o h)) (kk : ((op = 53 ∨ op = 54) → ¬ gJ C 1100 o (h - 1) = 0) → Q 0 (putc (tT2 C o h) o (h - 2) (fL op (gJ C 1100 o (h - 2)) (gJ C 1100 o (h - 1))) FP.dconst0)) : wp6_stepLongs C o (nI op) Q := by
  have hcb := cellsN_b o
  unfold wp6_stepLongs
  refine r_takeNumber hh (by omega) hc ⟨fun _ => ?_, fun c => absurd (nE (b := 64) (by omega) (by omega) c) (by omega)⟩
  refine r_takeNumber (tT1_h C o h) (by omega) (by omega) ?_
  rw [show h - 1 - 1 = h - 2 by omega]
  have pn : ∀ v : Int64, Q 0 (putc (tT2 C o h) o (h - 2) v FP.dconst0) → wp1_putNumber (tT2 C o h) o v (fun S1 => Q 0 S1) := by
    intro v hv
    unfold wp1_putNumber
    exact r_putc (tT2_h C o h) (by omega) hv
  have dv : (op = 53 ∨ op = 54) → wp6_stepLongs_46 o (nI op) Q (gJ C 1100 o (h - 1)) (gJ C 1100 o (h - 2)) (tT2 C o h) := by
    intro z
    refine ⟨fun cy => ⟨fun c => ⟨fun y => cy ((lg_eq0 _ _).mpr y), ?_⟩, fun c => ⟨fun y => cy ((lg_eq0 _ _).mpr y), ?_⟩⟩, fun cy => kn z ((lg_eq0 _ _).mp cy)⟩
    · have c : ¬ op = 53 := nN (b := 53) c
      have e : op = 54 := by omega
      subst e
      exact pn _ (kk fun _ y => cy ((lg_eq0 _ _).mpr y))
    · have c : op = 53 := nE (b := 53) (by omega) (by omega) c
      subst c
      exact pn _ (kk fun _ y => cy ((lg_eq0 _ _).mpr y))
  refine ⟨fun c => dv (Or.inl (nE (b := 53) (by omega) (by omega) c)), fun c => ⟨fun c2 => ?_, fun c2 => dv (Or.inr (nE (b := 54) (by omega) (by omega) c2))⟩⟩
  have c := nN (b := 53) c
  have c2 := nN (b := 54) c2
  refine c_ofLongs ho ho2 (by omega) ?_
  exact pn _ (kk fun z => absurd z (by omega))
theorem ml_50 {S : St} {a b : Int64} {Q : St → Prop} (kk : wp9_push S (fL 50 a b) FP.dconst0 Q) : wp9_calculate_56 (nI 50 - 50) 64 Q a b S := by
  simp (decide := true) only [fL, if_true, if_false] at kk
  simp (decide := true) only [wp9_calculate_56, wp9_calculate_235, wp9_calculate_251, wp9_calculate_233, wp9_calculate_208, wp9_calculate_185, wp9_calculate_162, wp9_bits, true_implies, false_implies, true_and, and_true, not_true, not_false_iff, forall_eq]
  exact kk
theorem ml_51 {S : St} {a b : Int64} {Q : St → Prop} (kk : wp9_push S (fL 51 a b) FP.dconst0 Q) : wp9_calculate_56 (nI 51 - 50) 64 Q a b S := by
  simp (decide := true) only [fL, if_true, if_false] at kk
  simp (decide := true) only [wp9_calculate_56, wp9_calculate_235, wp9_calculate_251, wp9_calculate_233, wp9_calculate_208, wp9_calculate_185, wp9_calculate_162, wp9_bits, true_implies, false_implies, true_and, and_true, not_true, not_false_iff, forall_eq]
  exact kk
theorem ml_52 {S : St} {a b : Int64} {Q : St → Prop} (kk : wp9_push S (fL 52 a b) FP.dconst0 Q) : wp9_calculate_56 (nI 52 - 50) 64 Q a b S := by
  simp (decide := true) only [fL, if_true, if_false] at kk
  simp (decide := true) only [wp9_calculate_56, wp9_calculate_235, wp9_calculate_251, wp9_calculate_233, wp9_calculate_208, wp9_calculate_185, wp9_calculate_162, wp9_bits, true_implies, false_implies, true_and, and_true, not_true, not_false_iff, forall_eq]
  exact kk
theorem ml_53 {S : St} {a b : Int64} {Q : St → Prop} (hy : ¬ b = 0) (kk : wp9_push S (fL 53 a b) FP.dconst0 Q) : wp9_calculate_56 (nI 53 - 50) 64 Q a b S := by
  simp (decide := true) only [fL, if_true, if_false] at kk
  simp (decide := true) only [wp9_calculate_56, wp9_calculate_235, wp9_calculate_251, wp9_calculate_233, wp9_calculate_208, wp9_calculate_185, wp9_calculate_162, wp9_bits, true_implies, false_implies, true_and, and_true, not_true, not_false_iff, forall_eq]
  exact ⟨hy, kk⟩
theorem ml_54 {S : St} {a b : Int64} {Q : St → Prop} (hy : ¬ b = 0) (kk : wp9_push S (fL 54 a b) FP.dconst0 Q) : wp9_calculate_56 (nI 54 - 50) 64 Q a b S := by
  simp (decide := true) only [fL, if_true, if_false] at kk
  simp (decide := true) only [wp9_calculate_56, wp9_calculate_235, wp9_calculate_251, wp9_calculate_233, wp9_calculate_208, wp9_calculate_185, wp9_calculate_162, wp9_bits, true_implies, false_implies, true_and, and_true, not_true, not_false_iff, forall_eq]
  exact ⟨hy, kk⟩
theorem ml_55 {S : St} {a b : Int64} {Q : St → Prop} (kk : wp9_push S (fL 55 a b) FP.dconst0 Q) : wp9_calculate_56 (nI 55 - 50) 64 Q a b S := by
  simp (decide := true) only [fL, if_true, if_false] at kk
  simp (decide := true) only [wp9_calculate_56, wp9_calculate_235, wp9_calculate_251, wp9_calculate_233, wp9_calculate_208, wp9_calculate_185, wp9_calculate_162, wp9_bits, true_implies, false_implies, true_and, and_true, not_true, not_false_iff, forall_eq]
  exact kk
theorem ml_56 {S : St} {a b : Int64} {Q : St → Prop} (kk : wp9_push S (fL 56 a b) FP.dconst0 Q) : wp9_calculate_56 (nI 56 - 50) 64 Q a b S := by
  simp (decide := true) only [fL, if_true, if_false] at kk
  simp (decide := true) only [wp9_calculate_56, wp9_calculate_235, wp9_calculate_251, wp9_calculate_233, wp9_calculate_208, wp9_calculate_185, wp9_calculate_162, wp9_bits, true_implies, false_implies, true_and, and_true, not_true, not_false_iff, forall_eq]
  exact kk
theorem ml_57 {S : St} {a b : Int64} {Q : St → Prop} (kk : wp9_push S (fL 57 a b) FP.dconst0 Q) : wp9_calculate_56 (nI 57 - 50) 64 Q a b S := by
  simp (decide := true) only [fL, if_true, if_false] at kk
  simp (decide := true) only [wp9_calculate_56, wp9_calculate_235, wp9_calculate_251, wp9_calculate_233, wp9_calculate_208, wp9_calculate_185, wp9_calculate_162, wp9_bits, true_implies, false_implies, true_and, and_true, not_true, not_false_iff, forall_eq]
  exact kk
theorem ml_58 {S : St} {a b : Int64} {Q : St → Prop} (kk : wp9_push S (fL 58 a b) FP.dconst0 Q) : wp9_calculate_56 (nI 58 - 50) 64 Q a b S := by
  simp (decide := true) only [fL, if_true, if_false] at kk
  simp (decide := true) only [wp9_calculate_56, wp9_calculate_235, wp9_calculate_251, wp9_calculate_233, wp9_calculate_208, wp9_calculate_185, wp9_calculate_162, wp9_bits, true_implies, false_implies, true_and, and_true, not_true, not_false_iff, forall_eq]
  rw [l_shl]; exact kk
theorem ml_59 {S : St} {a b : Int64} {Q : St → Prop} (kk : wp9_push S (fL 59 a b) FP.dconst0 Q) : wp9_calculate_56 (nI 59 - 50) 64 Q a b S := by
  simp (decide := true) only [fL, if_true, if_false] at kk
  simp (decide := true) only [wp9_calculate_56, wp9_calculate_235, wp9_calculate_251, wp9_calculate_233, wp9_calculate_208, wp9_calculate_185, wp9_calculate_162, wp9_bits, true_implies, false_implies, true_and, and_true, not_true, not_false_iff, forall_eq]
  rw [l_shr]; exact kk
theorem ml_60 {S : St} {a b : Int64} {Q : St → Prop} (kk : wp9_push S (fL 60 a b) FP.dconst0 Q) : wp9_calculate_56 (nI 60 - 50) 64 Q a b S := by
  simp (decide := true) only [fL, if_true, if_false] at kk
  simp (decide := true) only [wp9_calculate_56, wp9_calculate_235, wp9_calculate_251, wp9_calculate_233, wp9_calculate_208, wp9_calculate_185, wp9_calculate_162, wp9_bits, true_implies, false_implies, true_and, and_true, not_true, not_false_iff, forall_eq]
  rw [l_ushr]; exact kk
theorem ml_61 {S : St} {a b : Int64} {Q : St → Prop} (kk : wp9_push S (fL 61 a b) FP.dconst0 Q) : wp9_calculate_56 (nI 61 - 50) 64 Q a b S := by
  simp (decide := true) only [fL, if_true, if_false] at kk
  simp (decide := true) only [wp9_calculate_56, wp9_calculate_235, wp9_calculate_251, wp9_calculate_233, wp9_calculate_208, wp9_calculate_185, wp9_calculate_162, wp9_bits, true_implies, false_implies, true_and, and_true, not_true, not_false_iff]
  exact ⟨fun z => by rw [if_neg z] at kk; exact kk, fun z => by rw [if_pos z] at kk; exact kk⟩
theorem ml_62 {S : St} {a b : Int64} {Q : St → Prop} (kk : wp9_push S (fL 62 a b) FP.dconst0 Q) : wp9_calculate_56 (nI 62 - 50) 64 Q a b S := by
  simp (decide := true) only [fL, if_true, if_false] at kk
  simp (decide := true) only [wp9_calculate_56, wp9_calculate_235, wp9_calculate_251, wp9_calculate_233, wp9_calculate_208, wp9_calculate_185, wp9_calculate_162, wp9_bits, true_implies, false_implies, true_and, and_true, not_true, not_false_iff]
  exact ⟨fun z => by rw [if_pos z] at kk; exact kk, fun z => by rw [if_neg z] at kk; exact kk⟩
theorem ml_63 {S : St} {a b : Int64} {Q : St → Prop} (kk : wp9_push S (fL 63 a b) FP.dconst0 Q) : wp9_calculate_56 (nI 63 - 50) 64 Q a b S := by
  simp (decide := true) only [fL, if_true, if_false] at kk
  simp (decide := true) only [wp9_calculate_56, wp9_calculate_235, wp9_calculate_251, wp9_calculate_233, wp9_calculate_208, wp9_calculate_185, wp9_calculate_162, wp9_bits, true_implies, false_implies, true_and, and_true, not_true, not_false_iff]
  exact ⟨fun z => by rw [if_pos z] at kk; exact kk, fun z => by rw [if_neg z] at kk; exact kk⟩
theorem m_long56 {S : St} {a b : Int64} {op : Nat} {Q : St → Prop} (h1 : 50 ≤ op) (h2 : op ≤ 63) (hy : (op = 53 ∨ op = 54) → ¬ b = 0) (kk : wp9_push S (fL op a b) FP.dconst0 Q) : wp9_calculate_56 (nI op - 50) 64 Q a b S := by
  rcases (by omega : op = 50 ∨ op = 51 ∨ op = 52 ∨ op = 53 ∨ op = 54 ∨ op = 55 ∨ op = 56 ∨ op = 57 ∨ op = 58 ∨ op = 59 ∨ op = 60 ∨ op = 61 ∨ op = 62 ∨ op = 63) with rfl | rfl | rfl | rfl | rfl | rfl | rfl | rfl | rfl | rfl | rfl | rfl | rfl | rfl
  · exact ml_50 kk
  · exact ml_51 kk
  · exact ml_52 kk
  · exact ml_53 (hy (by omega)) kk
  · exact ml_54 (hy (by omega)) kk
  · exact ml_55 kk
  · exact ml_56 kk
  · exact ml_57 kk
  · exact ml_58 kk
  · exact ml_59 kk
  · exact ml_60 kk
  · exact ml_61 kk
  · exact ml_62 kk
  · exact ml_63 kk
theorem m_longs {M : St} {H op : Nat} {Q : St → Prop} (hh : gI M 1914 0 = nI H) (h2 : 2 ≤ H) (hH : H ≤ 200) (ho : 50 ≤ op) (ho2 : op ≤ 63)
    (kn : (op = 53 ∨ op = 54) → gJ M 1922 0 (H - 1) = 0 → Q (sI (sI M 1914 0 (nI (H - 2))) 1934 0 2)) (kk : ((op = 53 ∨ op = 54) → ¬ gJ M 1922 0 (H - 1) = 0) → Q (putm (sI M 1914 0 (nI (H - 2))) (H - 2) (fL op (gJ M 1922 0 (H - 2)) (gJ M 1922 0 (H - 1))) FP.dconst0)) : wp9_calculate M (nI op - 50) 64 Q := by
  unfold wp9_calculate
  intro S1 e
  rw [hh, l2, nI_sub h2] at e
  subst e
  rw [show gI (sI M 1914 0 (nI (H - 2))) 1914 0 = nI (H - 2) by simp [gI_sI], nI_clamp (by omega), nI_1, nI_clamp (by omega), show H - 2 + 1 = H - 1 by omega]
  refine ⟨vp_in_nI (by omega) (by omega), fun a ea => ⟨vp_in_nI (by omega) (by omega), fun b eb => ?_⟩⟩
  have ea : a = gJ M 1922 0 (H - 2) := ea
  have eb : b = gJ M 1922 0 (H - 1) := eb
  subst ea; subst eb
  have pu : ((op = 53 ∨ op = 54) → ¬ gJ M 1922 0 (H - 1) = 0) → wp9_calculate_56 (nI op - 50) 64 Q (gJ M 1922 0 (H - 2)) (gJ M 1922 0 (H - 1)) (sI M 1914 0 (nI (H - 2))) := by
    intro hy
    refine m_long56 ho ho2 hy ?_
    exact m_push (h := H - 2) (by simp [gI_sI]) (by omega) (kk hy)
  have dv : (op = 53 ∨ op = 54) → wp9_calculate_43 (nI op - 50) 64 Q (gJ M 1922 0 (H - 2)) (gJ M 1922 0 (H - 1)) (sI M 1914 0 (nI (H - 2))) := by
    intro z
    refine ⟨fun c => pu fun _ y => c ((lg_eq0 _ _).mpr y), fun c S2 e2 => ?_⟩
    subst e2
    exact kn z ((lg_eq0 _ _).mp c)
  have e50 : nI op - 50 = nI (op - 50) := nI_op ho
  rw [e50] at pu dv ⊢
  refine ⟨fun c => dv (Or.inl (by have := nE (b := 3) (by omega) (by omega) c; omega)), fun c => ⟨fun c2 => pu fun z => ?_, fun c2 => dv (Or.inr (by have := nE (b := 4) (by omega) (by omega) c2; omega))⟩⟩
  have c := nN (b := 3) c
  have c2 := nN (b := 4) c2
  omega
