/-! PURE: what ints come to, the class and the reference -/
def fI (op : Nat) (x y : Int32) : Int32 := if op = 30 then x + y else if op = 31 then x - y else if op = 32 then x * y else if op = 33 then x / y else if op = 34 then x - x / y * y else if op = 35 then x &&& y else if op = 36 then x ||| y else if op = 37 then x ^^^ y else if op = 38 then x <<< (y &&& 31) else if op = 39 then x >>> (y &&& 31) else if op = 40 then jushr x y else if op = 41 then (if x = y then 1 else 0) else if op = 42 then (if x = y then 0 else 1) else if op = 43 then (if y ≤ x then 0 else 1) else (if 0 ≤ lg_cmp (x.toInt64 &&& (4294967295 : Int64)) (y.toInt64 &&& (4294967295 : Int64)) then 0 else 1)
theorem lg_eq0 (x y : Int64) : lg_cmp x y = 0 ↔ x = y := by
  unfold lg_cmp
  by_cases h : x > y
  · rw [if_pos h]
    exact ⟨fun z => absurd z (by decide), fun z => absurd (z ▸ h) (Int64.lt_irrefl)⟩
  · rw [if_neg h]
    by_cases e : x = y
    · rw [if_pos e]; exact ⟨fun _ => e, fun _ => rfl⟩
    · rw [if_neg e]; exact ⟨fun z => absurd z (by decide), fun z => absurd z e⟩
theorem lg_ge0 (x y : Int64) : 0 ≤ lg_cmp x y ↔ y ≤ x := by
  unfold lg_cmp
  by_cases h : x > y
  · rw [if_pos h]
    exact ⟨fun _ => Int64.le_of_lt h, fun _ => by decide⟩
  · rw [if_neg h]
    by_cases e : x = y
    · rw [if_pos e, e]; exact ⟨fun _ => Int64.le_refl _, fun _ => by decide⟩
    · rw [if_neg e]; exact ⟨fun z => absurd z (by decide), fun z => absurd (Int64.lt_of_le_of_ne z (fun y => e y.symm)) h⟩
theorem lg_lt0 (x y : Int64) : lg_cmp x y < 0 ↔ x < y := by
  have h := lg_ge0 x y
  rw [← Int32.not_le, h, Int64.not_le]
theorem lg_le0 (x y : Int64) : lg_cmp x y ≤ 0 ↔ x ≤ y := by
  unfold lg_cmp
  by_cases h : x > y
  · rw [if_pos h]
    exact ⟨fun z => absurd z (by decide), fun z => absurd h (Int64.not_lt.mpr z)⟩
  · rw [if_neg h]
    refine ⟨fun _ => Int64.not_lt.mp h, fun _ => ?_⟩
    by_cases e : x = y
    · rw [if_pos e]; decide
    · rw [if_neg e]; decide
theorem lg_gt0 (x y : Int64) : 0 < lg_cmp x y ↔ y < x := by
  have h := lg_le0 x y
  rw [← Int32.not_le, h, Int64.not_le]
theorem ci_30 {S : St} {x y : Int32} {Q : Int32 → St → Prop} (kk : Q (fI 30 x y) S) : wp6_ofInts S (nI 30) x y Q := by
  simp (decide := true) only [fI, if_true, if_false] at kk
  simp (decide := true) only [wp6_ofInts, true_implies, false_implies, true_and, and_true, not_true, not_false_iff]
  exact kk
theorem ci_31 {S : St} {x y : Int32} {Q : Int32 → St → Prop} (kk : Q (fI 31 x y) S) : wp6_ofInts S (nI 31) x y Q := by
  simp (decide := true) only [fI, if_true, if_false] at kk
  simp (decide := true) only [wp6_ofInts, true_implies, false_implies, true_and, and_true, not_true, not_false_iff]
  exact kk
theorem ci_32 {S : St} {x y : Int32} {Q : Int32 → St → Prop} (kk : Q (fI 32 x y) S) : wp6_ofInts S (nI 32) x y Q := by
  simp (decide := true) only [fI, if_true, if_false] at kk
  simp (decide := true) only [wp6_ofInts, true_implies, false_implies, true_and, and_true, not_true, not_false_iff]
  exact kk
theorem ci_35 {S : St} {x y : Int32} {Q : Int32 → St → Prop} (kk : Q (fI 35 x y) S) : wp6_ofInts S (nI 35) x y Q := by
  simp (decide := true) only [fI, if_true, if_false] at kk
  simp (decide := true) only [wp6_ofInts, true_implies, false_implies, true_and, and_true, not_true, not_false_iff]
  exact kk
theorem ci_36 {S : St} {x y : Int32} {Q : Int32 → St → Prop} (kk : Q (fI 36 x y) S) : wp6_ofInts S (nI 36) x y Q := by
  simp (decide := true) only [fI, if_true, if_false] at kk
  simp (decide := true) only [wp6_ofInts, true_implies, false_implies, true_and, and_true, not_true, not_false_iff]
  exact kk
theorem ci_37 {S : St} {x y : Int32} {Q : Int32 → St → Prop} (kk : Q (fI 37 x y) S) : wp6_ofInts S (nI 37) x y Q := by
  simp (decide := true) only [fI, if_true, if_false] at kk
  simp (decide := true) only [wp6_ofInts, true_implies, false_implies, true_and, and_true, not_true, not_false_iff]
  exact kk
theorem ci_38 {S : St} {x y : Int32} {Q : Int32 → St → Prop} (kk : Q (fI 38 x y) S) : wp6_ofInts S (nI 38) x y Q := by
  simp (decide := true) only [fI, if_true, if_false] at kk
  simp (decide := true) only [wp6_ofInts, true_implies, false_implies, true_and, and_true, not_true, not_false_iff]
  exact kk
theorem ci_39 {S : St} {x y : Int32} {Q : Int32 → St → Prop} (kk : Q (fI 39 x y) S) : wp6_ofInts S (nI 39) x y Q := by
  simp (decide := true) only [fI, if_true, if_false] at kk
  simp (decide := true) only [wp6_ofInts, true_implies, false_implies, true_and, and_true, not_true, not_false_iff]
  exact kk
theorem ci_40 {S : St} {x y : Int32} {Q : Int32 → St → Prop} (kk : Q (fI 40 x y) S) : wp6_ofInts S (nI 40) x y Q := by
  simp (decide := true) only [fI, if_true, if_false] at kk
  simp (decide := true) only [wp6_ofInts, true_implies, false_implies, true_and, and_true, not_true, not_false_iff]
  exact kk
theorem ci_41 {S : St} {x y : Int32} {Q : Int32 → St → Prop} (kk : Q (fI 41 x y) S) : wp6_ofInts S (nI 41) x y Q := by
  simp (decide := true) only [fI, if_true, if_false] at kk
  simp (decide := true) only [wp6_ofInts, true_implies, false_implies, true_and, and_true, not_true, not_false_iff]
  exact ⟨fun z => by rw [if_neg z] at kk; exact kk, fun z => by rw [if_pos z] at kk; exact kk⟩
theorem ci_42 {S : St} {x y : Int32} {Q : Int32 → St → Prop} (kk : Q (fI 42 x y) S) : wp6_ofInts S (nI 42) x y Q := by
  simp (decide := true) only [fI, if_true, if_false] at kk
  simp (decide := true) only [wp6_ofInts, true_implies, false_implies, true_and, and_true, not_true, not_false_iff]
  exact ⟨fun z => by rw [if_pos z] at kk; exact kk, fun z => by rw [if_neg z] at kk; exact kk⟩
theorem ci_43 {S : St} {x y : Int32} {Q : Int32 → St → Prop} (kk : Q (fI 43 x y) S) : wp6_ofInts S (nI 43) x y Q := by
  simp (decide := true) only [fI, if_true, if_false] at kk
  simp (decide := true) only [wp6_ofInts, true_implies, false_implies, true_and, and_true, not_true, not_false_iff]
  exact ⟨fun z => by rw [if_pos z] at kk; exact kk, fun z => by rw [if_neg z] at kk; exact kk⟩
theorem ci_44 {S : St} {x y : Int32} {Q : Int32 → St → Prop} (kk : Q (fI 44 x y) S) : wp6_ofInts S (nI 44) x y Q := by
  simp (decide := true) only [fI, if_true, if_false] at kk
  simp (decide := true) only [wp6_ofInts, true_implies, false_implies, true_and, and_true, not_true, not_false_iff]
  exact ⟨fun z => by rw [if_pos z] at kk; exact kk, fun z => by rw [if_neg z] at kk; exact kk⟩
theorem c_ofInts {S : St} {x y : Int32} {op : Nat} {Q : Int32 → St → Prop} (h1 : 30 ≤ op) (h2 : op ≤ 44) (h3 : ¬ (op = 33 ∨ op = 34)) (kk : Q (fI op x y) S) : wp6_ofInts S (nI op) x y Q := by
  rcases (by omega : op = 30 ∨ op = 31 ∨ op = 32 ∨ op = 35 ∨ op = 36 ∨ op = 37 ∨ op = 38 ∨ op = 39 ∨ op = 40 ∨ op = 41 ∨ op = 42 ∨ op = 43 ∨ op = 44) with rfl | rfl | rfl | rfl | rfl | rfl | rfl | rfl | rfl | rfl | rfl | rfl | rfl
  · exact ci_30 kk
  · exact ci_31 kk
  · exact ci_32 kk
  · exact ci_35 kk
  · exact ci_36 kk
  · exact ci_37 kk
  · exact ci_38 kk
  · exact ci_39 kk
  · exact ci_40 kk
  · exact ci_41 kk
  · exact ci_42 kk
  · exact ci_43 kk
  · exact ci_44 kk
def tT1 (C : St) (o h : Nat) : St := sI C 1102 o (nI (h - 1))
def tT2 (C : St) (o h : Nat) : St := sI (sI C 1102 o (nI (h - 1))) 1102 o (nI (h - 2))
theorem tT1_h (C : St) (o h : Nat) : gI (tT1 C o h) 1102 o = nI (h - 1) := by simp [tT1, gI_sI]
theorem tT2_h (C : St) (o h : Nat) : gI (tT2 C o h) 1102 o = nI (h - 2) := by simp [tT2, gI_sI]
theorem c_ints {C : St} {o h op : Nat} {Q : Int32 → St → Prop} (hh : gI C 1102 o = nI h) (h2 : 2 ≤ h) (hc : h ≤ cellsN o) (ho : 30 ≤ op) (ho2 : op ≤ 44)
    (kn : (op = 33 ∨ op = 34) → (gJ C 1100 o (h - 1)).toInt32 = 0 → Q 2 (tT2 C o h)) (kk : ((op = 33 ∨ op = 34) → ¬ (gJ C 1100 o (h - 1)).toInt32 = 0) → Q 0 (putc (tT2 C o h) o (h - 2) (fI op (gJ C 1100 o (h - 2)).toInt32 (gJ C 1100 o (h - 1)).toInt32).toInt64 FP.dconst0)) : wp6_stepInts C o (nI op) Q := by
  have hcb := cellsN_b o
  unfold wp6_stepInts
  refine r_takeInt hh (by omega) hc ⟨fun _ => ?_, fun c => absurd (nE (b := 45) (by omega) (by omega) c) (by omega)⟩
  refine r_takeInt (tT1_h C o h) (by omega) (by omega) ?_
  rw [show h - 1 - 1 = h - 2 by omega]
  have pn : ∀ v : Int32, Q 0 (putc (tT2 C o h) o (h - 2) v.toInt64 FP.dconst0) → wp1_putNumber (tT2 C o h) o v.toInt64 (fun S1 => Q 0 S1) := by
    intro v hv
    unfold wp1_putNumber
    exact r_putc (tT2_h C o h) (by omega) hv
  have dv : (op = 33 ∨ op = 34) → wp6_stepInts_43 o (nI op) Q (gJ C 1100 o (h - 1)).toInt32 (gJ C 1100 o (h - 2)).toInt32 (tT2 C o h) := by
    intro z
    refine ⟨fun cy => ⟨fun c => ⟨cy, ?_⟩, fun c => ⟨cy, ?_⟩⟩, fun cy => kn z cy⟩
    · have c : ¬ op = 33 := nN (b := 33) c
      have e : op = 34 := by omega
      subst e
      exact pn _ (kk fun _ => cy)
    · have c : op = 33 := nE (b := 33) (by omega) (by omega) c
      subst c
      exact pn _ (kk fun _ => cy)
  refine ⟨fun c => dv (Or.inl (nE (b := 33) (by omega) (by omega) c)), fun c => ⟨fun c2 => ?_, fun c2 => dv (Or.inr (nE (b := 34) (by omega) (by omega) c2))⟩⟩
  have c := nN (b := 33) c
  have c2 := nN (b := 34) c2
  refine c_ofInts ho ho2 (by omega) ?_
  exact pn _ (kk fun z => absurd z (by omega))
theorem mi_30 {S : St} {a b : Int64} {Q : St → Prop} (ha : a.toInt32.toInt64 = a) (hb : b.toInt32.toInt64 = b) (kk : wp9_push S (fI 30 a.toInt32 b.toInt32).toInt64 FP.dconst0 Q) : wp9_calculate_56 (nI 30 - 30) 32 Q a b S := by
  simp (decide := true) only [fI, if_true, if_false] at kk
  simp (decide := true) only [wp9_calculate_56, wp9_calculate_235, wp9_calculate_251, wp9_calculate_233, wp9_calculate_208, wp9_calculate_185, wp9_calculate_162, wp9_bits, true_implies, false_implies, true_and, and_true, not_true, not_false_iff, forall_eq]
  rw [i_add]; exact kk
theorem mi_31 {S : St} {a b : Int64} {Q : St → Prop} (ha : a.toInt32.toInt64 = a) (hb : b.toInt32.toInt64 = b) (kk : wp9_push S (fI 31 a.toInt32 b.toInt32).toInt64 FP.dconst0 Q) : wp9_calculate_56 (nI 31 - 30) 32 Q a b S := by
  simp (decide := true) only [fI, if_true, if_false] at kk
  simp (decide := true) only [wp9_calculate_56, wp9_calculate_235, wp9_calculate_251, wp9_calculate_233, wp9_calculate_208, wp9_calculate_185, wp9_calculate_162, wp9_bits, true_implies, false_implies, true_and, and_true, not_true, not_false_iff, forall_eq]
  rw [i_sub]; exact kk
theorem mi_32 {S : St} {a b : Int64} {Q : St → Prop} (ha : a.toInt32.toInt64 = a) (hb : b.toInt32.toInt64 = b) (kk : wp9_push S (fI 32 a.toInt32 b.toInt32).toInt64 FP.dconst0 Q) : wp9_calculate_56 (nI 32 - 30) 32 Q a b S := by
  simp (decide := true) only [fI, if_true, if_false] at kk
  simp (decide := true) only [wp9_calculate_56, wp9_calculate_235, wp9_calculate_251, wp9_calculate_233, wp9_calculate_208, wp9_calculate_185, wp9_calculate_162, wp9_bits, true_implies, false_implies, true_and, and_true, not_true, not_false_iff, forall_eq]
  rw [i_mul]; exact kk
theorem mi_33 {S : St} {a b : Int64} {Q : St → Prop} (ha : a.toInt32.toInt64 = a) (hb : b.toInt32.toInt64 = b) (hy : ¬ b = 0) (kk : wp9_push S (fI 33 a.toInt32 b.toInt32).toInt64 FP.dconst0 Q) : wp9_calculate_56 (nI 33 - 30) 32 Q a b S := by
  simp (decide := true) only [fI, if_true, if_false] at kk
  simp (decide := true) only [wp9_calculate_56, wp9_calculate_235, wp9_calculate_251, wp9_calculate_233, wp9_calculate_208, wp9_calculate_185, wp9_calculate_162, wp9_bits, true_implies, false_implies, true_and, and_true, not_true, not_false_iff, forall_eq]
  refine ⟨hy, ?_⟩
  have e := i_div a.toInt32 b.toInt32
  rw [ha, hb] at e
  rw [e]; exact kk
theorem mi_34 {S : St} {a b : Int64} {Q : St → Prop} (ha : a.toInt32.toInt64 = a) (hb : b.toInt32.toInt64 = b) (hy : ¬ b = 0) (kk : wp9_push S (fI 34 a.toInt32 b.toInt32).toInt64 FP.dconst0 Q) : wp9_calculate_56 (nI 34 - 30) 32 Q a b S := by
  simp (decide := true) only [fI, if_true, if_false] at kk
  simp (decide := true) only [wp9_calculate_56, wp9_calculate_235, wp9_calculate_251, wp9_calculate_233, wp9_calculate_208, wp9_calculate_185, wp9_calculate_162, wp9_bits, true_implies, false_implies, true_and, and_true, not_true, not_false_iff, forall_eq]
  refine ⟨hy, ?_⟩
  have e := i_rem a.toInt32 b.toInt32
  rw [ha, hb] at e
  rw [e]; exact kk
theorem mi_35 {S : St} {a b : Int64} {Q : St → Prop} (ha : a.toInt32.toInt64 = a) (hb : b.toInt32.toInt64 = b) (kk : wp9_push S (fI 35 a.toInt32 b.toInt32).toInt64 FP.dconst0 Q) : wp9_calculate_56 (nI 35 - 30) 32 Q a b S := by
  simp (decide := true) only [fI, if_true, if_false] at kk
  simp (decide := true) only [wp9_calculate_56, wp9_calculate_235, wp9_calculate_251, wp9_calculate_233, wp9_calculate_208, wp9_calculate_185, wp9_calculate_162, wp9_bits, true_implies, false_implies, true_and, and_true, not_true, not_false_iff, forall_eq]
  rw [i_and]; exact kk
theorem mi_36 {S : St} {a b : Int64} {Q : St → Prop} (ha : a.toInt32.toInt64 = a) (hb : b.toInt32.toInt64 = b) (kk : wp9_push S (fI 36 a.toInt32 b.toInt32).toInt64 FP.dconst0 Q) : wp9_calculate_56 (nI 36 - 30) 32 Q a b S := by
  simp (decide := true) only [fI, if_true, if_false] at kk
  simp (decide := true) only [wp9_calculate_56, wp9_calculate_235, wp9_calculate_251, wp9_calculate_233, wp9_calculate_208, wp9_calculate_185, wp9_calculate_162, wp9_bits, true_implies, false_implies, true_and, and_true, not_true, not_false_iff, forall_eq]
  rw [i_or]; exact kk
theorem mi_37 {S : St} {a b : Int64} {Q : St → Prop} (ha : a.toInt32.toInt64 = a) (hb : b.toInt32.toInt64 = b) (kk : wp9_push S (fI 37 a.toInt32 b.toInt32).toInt64 FP.dconst0 Q) : wp9_calculate_56 (nI 37 - 30) 32 Q a b S := by
  simp (decide := true) only [fI, if_true, if_false] at kk
  simp (decide := true) only [wp9_calculate_56, wp9_calculate_235, wp9_calculate_251, wp9_calculate_233, wp9_calculate_208, wp9_calculate_185, wp9_calculate_162, wp9_bits, true_implies, false_implies, true_and, and_true, not_true, not_false_iff, forall_eq]
  rw [i_xor]; exact kk
theorem mi_38 {S : St} {a b : Int64} {Q : St → Prop} (ha : a.toInt32.toInt64 = a) (hb : b.toInt32.toInt64 = b) (kk : wp9_push S (fI 38 a.toInt32 b.toInt32).toInt64 FP.dconst0 Q) : wp9_calculate_56 (nI 38 - 30) 32 Q a b S := by
  simp (decide := true) only [fI, if_true, if_false] at kk
  simp (decide := true) only [wp9_calculate_56, wp9_calculate_235, wp9_calculate_251, wp9_calculate_233, wp9_calculate_208, wp9_calculate_185, wp9_calculate_162, wp9_bits, true_implies, false_implies, true_and, and_true, not_true, not_false_iff, forall_eq]
  rw [show (32 : Int32) - 1 = 31 from rfl, i_shl]; exact kk
theorem mi_39 {S : St} {a b : Int64} {Q : St → Prop} (ha : a.toInt32.toInt64 = a) (hb : b.toInt32.toInt64 = b) (kk : wp9_push S (fI 39 a.toInt32 b.toInt32).toInt64 FP.dconst0 Q) : wp9_calculate_56 (nI 39 - 30) 32 Q a b S := by
  simp (decide := true) only [fI, if_true, if_false] at kk
  simp (decide := true) only [wp9_calculate_56, wp9_calculate_235, wp9_calculate_251, wp9_calculate_233, wp9_calculate_208, wp9_calculate_185, wp9_calculate_162, wp9_bits, true_implies, false_implies, true_and, and_true, not_true, not_false_iff, forall_eq]
  rw [show (32 : Int32) - 1 = 31 from rfl, i_shr ha]; exact kk
theorem mi_40 {S : St} {a b : Int64} {Q : St → Prop} (ha : a.toInt32.toInt64 = a) (hb : b.toInt32.toInt64 = b) (kk : wp9_push S (fI 40 a.toInt32 b.toInt32).toInt64 FP.dconst0 Q) : wp9_calculate_56 (nI 40 - 30) 32 Q a b S := by
  simp (decide := true) only [fI, if_true, if_false] at kk
  simp (decide := true) only [wp9_calculate_56, wp9_calculate_235, wp9_calculate_251, wp9_calculate_233, wp9_calculate_208, wp9_calculate_185, wp9_calculate_162, wp9_bits, true_implies, false_implies, true_and, and_true, not_true, not_false_iff, forall_eq]
  rw [show (32 : Int32) - 1 = 31 from rfl, i_ushr, i_ext]; exact kk
theorem mi_41 {S : St} {a b : Int64} {Q : St → Prop} (ha : a.toInt32.toInt64 = a) (hb : b.toInt32.toInt64 = b) (kk : wp9_push S (fI 41 a.toInt32 b.toInt32).toInt64 FP.dconst0 Q) : wp9_calculate_56 (nI 41 - 30) 32 Q a b S := by
  simp (decide := true) only [fI, if_true, if_false] at kk
  simp (decide := true) only [wp9_calculate_56, wp9_calculate_235, wp9_calculate_251, wp9_calculate_233, wp9_calculate_208, wp9_calculate_185, wp9_calculate_162, wp9_bits, true_implies, false_implies, true_and, and_true, not_true, not_false_iff]
  refine ⟨fun z => ?_, fun z => ?_⟩
  · rw [if_neg (fun y => z ((lg_eq0 a b).mpr ((i_eq ha hb).mpr y)))] at kk; exact kk
  · rw [if_pos ((i_eq ha hb).mp ((lg_eq0 a b).mp z))] at kk; exact kk
theorem mi_42 {S : St} {a b : Int64} {Q : St → Prop} (ha : a.toInt32.toInt64 = a) (hb : b.toInt32.toInt64 = b) (kk : wp9_push S (fI 42 a.toInt32 b.toInt32).toInt64 FP.dconst0 Q) : wp9_calculate_56 (nI 42 - 30) 32 Q a b S := by
  simp (decide := true) only [fI, if_true, if_false] at kk
  simp (decide := true) only [wp9_calculate_56, wp9_calculate_235, wp9_calculate_251, wp9_calculate_233, wp9_calculate_208, wp9_calculate_185, wp9_calculate_162, wp9_bits, true_implies, false_implies, true_and, and_true, not_true, not_false_iff]
  refine ⟨fun z => ?_, fun z => ?_⟩
  · rw [if_pos ((i_eq ha hb).mp ((lg_eq0 a b).mp z))] at kk; exact kk
  · rw [if_neg (fun y => z ((lg_eq0 a b).mpr ((i_eq ha hb).mpr y)))] at kk; exact kk
theorem mi_43 {S : St} {a b : Int64} {Q : St → Prop} (ha : a.toInt32.toInt64 = a) (hb : b.toInt32.toInt64 = b) (kk : wp9_push S (fI 43 a.toInt32 b.toInt32).toInt64 FP.dconst0 Q) : wp9_calculate_56 (nI 43 - 30) 32 Q a b S := by
  simp (decide := true) only [fI, if_true, if_false] at kk
  simp (decide := true) only [wp9_calculate_56, wp9_calculate_235, wp9_calculate_251, wp9_calculate_233, wp9_calculate_208, wp9_calculate_185, wp9_calculate_162, wp9_bits, true_implies, false_implies, true_and, and_true, not_true, not_false_iff]
  have e : 0 ≤ lg_cmp a b ↔ b.toInt32 ≤ a.toInt32 := by
    rw [lg_ge0]
    have := i_lt a.toInt32 b.toInt32
    rw [ha, hb] at this
    rw [← Int64.not_lt, ← Int32.not_lt, this]
  refine ⟨fun z => ?_, fun z => ?_⟩
  · rw [if_pos (e.mp z)] at kk; exact kk
  · rw [if_neg (fun y => z (e.mpr y))] at kk; exact kk
theorem mi_44 {S : St} {a b : Int64} {Q : St → Prop} (ha : a.toInt32.toInt64 = a) (hb : b.toInt32.toInt64 = b) (kk : wp9_push S (fI 44 a.toInt32 b.toInt32).toInt64 FP.dconst0 Q) : wp9_calculate_56 (nI 44 - 30) 32 Q a b S := by
  simp (decide := true) only [fI, if_true, if_false] at kk
  simp (decide := true) only [wp9_calculate_56, wp9_calculate_235, wp9_calculate_251, wp9_calculate_233, wp9_calculate_208, wp9_calculate_185, wp9_calculate_162, wp9_bits, true_implies, false_implies, true_and, and_true, not_true, not_false_iff]
  rw [ha, hb] at kk
  refine ⟨fun z => ?_, fun z => ?_⟩
  · rw [if_pos z] at kk; exact kk
  · rw [if_neg z] at kk; exact kk
theorem m_int56 {S : St} {a b : Int64} {op : Nat} {Q : St → Prop} (h1 : 30 ≤ op) (h2 : op ≤ 44) (ha : a.toInt32.toInt64 = a) (hb : b.toInt32.toInt64 = b) (hy : (op = 33 ∨ op = 34) → ¬ b = 0) (kk : wp9_push S (fI op a.toInt32 b.toInt32).toInt64 FP.dconst0 Q) : wp9_calculate_56 (nI op - 30) 32 Q a b S := by
  rcases (by omega : op = 30 ∨ op = 31 ∨ op = 32 ∨ op = 33 ∨ op = 34 ∨ op = 35 ∨ op = 36 ∨ op = 37 ∨ op = 38 ∨ op = 39 ∨ op = 40 ∨ op = 41 ∨ op = 42 ∨ op = 43 ∨ op = 44) with rfl | rfl | rfl | rfl | rfl | rfl | rfl | rfl | rfl | rfl | rfl | rfl | rfl | rfl | rfl
  · exact mi_30 ha hb kk
  · exact mi_31 ha hb kk
  · exact mi_32 ha hb kk
  · exact mi_33 ha hb (hy (by omega)) kk
  · exact mi_34 ha hb (hy (by omega)) kk
  · exact mi_35 ha hb kk
  · exact mi_36 ha hb kk
  · exact mi_37 ha hb kk
  · exact mi_38 ha hb kk
  · exact mi_39 ha hb kk
  · exact mi_40 ha hb kk
  · exact mi_41 ha hb kk
  · exact mi_42 ha hb kk
  · exact mi_43 ha hb kk
  · exact mi_44 ha hb kk
theorem nI_op {op k : Nat} (h : k ≤ op) : nI op - nI k = nI (op - k) := nI_sub h
theorem m_ints {M : St} {H op : Nat} {Q : St → Prop} (hh : gI M 1914 0 = nI H) (h2 : 2 ≤ H) (hH : H ≤ 200) (ho : 30 ≤ op) (ho2 : op ≤ 44) (ha : (gJ M 1922 0 (H - 2)).toInt32.toInt64 = gJ M 1922 0 (H - 2)) (hb : (gJ M 1922 0 (H - 1)).toInt32.toInt64 = gJ M 1922 0 (H - 1))
    (kn : (op = 33 ∨ op = 34) → gJ M 1922 0 (H - 1) = 0 → Q (sI (sI M 1914 0 (nI (H - 2))) 1934 0 2)) (kk : ((op = 33 ∨ op = 34) → ¬ gJ M 1922 0 (H - 1) = 0) → Q (putm (sI M 1914 0 (nI (H - 2))) (H - 2) (fI op (gJ M 1922 0 (H - 2)).toInt32 (gJ M 1922 0 (H - 1)).toInt32).toInt64 FP.dconst0)) : wp9_calculate M (nI op - 30) 32 Q := by
  unfold wp9_calculate
  intro S1 e
  rw [hh, l2, nI_sub h2] at e
  subst e
  rw [show gI (sI M 1914 0 (nI (H - 2))) 1914 0 = nI (H - 2) by simp [gI_sI], nI_clamp (by omega), nI_1, nI_clamp (by omega), show H - 2 + 1 = H - 1 by omega]
  refine ⟨vp_in_nI (by omega) (by omega), fun a ea => ⟨vp_in_nI (by omega) (by omega), fun b eb => ?_⟩⟩
  have ea : a = gJ M 1922 0 (H - 2) := ea
  have eb : b = gJ M 1922 0 (H - 1) := eb
  subst ea; subst eb
  have pu : ((op = 33 ∨ op = 34) → ¬ gJ M 1922 0 (H - 1) = 0) → wp9_calculate_56 (nI op - 30) 32 Q (gJ M 1922 0 (H - 2)) (gJ M 1922 0 (H - 1)) (sI M 1914 0 (nI (H - 2))) := by
    intro hy
    refine m_int56 ho ho2 ha hb hy ?_
    exact m_push (h := H - 2) (by simp [gI_sI]) (by omega) (kk hy)
  have dv : (op = 33 ∨ op = 34) → wp9_calculate_43 (nI op - 30) 32 Q (gJ M 1922 0 (H - 2)) (gJ M 1922 0 (H - 1)) (sI M 1914 0 (nI (H - 2))) := by
    intro z
    refine ⟨fun c => pu fun _ y => c ((lg_eq0 _ _).mpr y), fun c S2 e2 => ?_⟩
    subst e2
    exact kn z ((lg_eq0 _ _).mp c)
  have e30 : nI op - 30 = nI (op - 30) := nI_op ho
  rw [e30] at pu dv ⊢
  refine ⟨fun c => dv (Or.inl (by have := nE (b := 3) (by omega) (by omega) c; omega)), fun c => ⟨fun c2 => pu fun z => ?_, fun c2 => dv (Or.inr (by have := nE (b := 4) (by omega) (by omega) c2; omega))⟩⟩
  have c := nN (b := 3) c
  have c2 := nN (b := 4) c2
  omega
