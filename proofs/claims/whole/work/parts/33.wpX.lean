-- StackForge.throwTrap(I)V
def wp8_throwTrap (S : St) (x0 : Int32) (Q : St → Prop) (T : Nat → St → Prop) : Prop :=
  (x0 = 2 → T 4 S) ∧ (¬ x0 = 2 → (x0 = 3 → T 3 S) ∧ (¬ x0 = 3 → (x0 = 4 → T 6 S) ∧ (¬ x0 = 4 → (x0 = 5 → T 5 S) ∧ (¬ x0 = 5 → T 7 S))))
-- StackForge.shape(IIII)I
def wp8_shape_31 (x1 : Int32) (x2 : Int32) (x3 : Int32) (x4 : Int32) (Q : Int32 → St → Prop) (T : Nat → St → Prop)  (S : St) : Prop :=
  T 1 S
def wp8_shape (S : St) (x1 : Int32) (x2 : Int32) (x3 : Int32) (x4 : Int32) (Q : Int32 → St → Prop) (T : Nat → St → Prop) : Prop :=
  wp8_isFunction S x1 (fun r1 S1 => (r1 = 0 → wp8_shape_31 x1 x2 x3 x4 Q T S1) ∧ (¬ r1 = 0 → wp8_isKindRow S1 x2 (fun r2 S2 => (r2 = 0 → wp8_shape_31 x1 x2 x3 x4 Q T S2) ∧ (¬ r2 = 0 → (x3 < 0 → wp8_shape_31 x1 x2 x3 x4 Q T S2) ∧ (¬ x3 < 0 → (3 < x3 → wp8_shape_31 x1 x2 x3 x4 Q T S2) ∧ (¬ 3 < x3 → wp8_isKindRow S2 x4 (fun r3 S3 => (¬ r3 = 0 → (¬ (gI S3 1807 0) = 1 → ∀ S4, S4 = sI S3 1806 0 0 → vp_in x1 6 ∧ wp4_reshape S4 x1.toNatClampNeg x2 x3 x4 (fun S5 => vp_in x1 6 ∧ wp4_variableCount S5 x1.toNatClampNeg (fun r4 S6 => Q r4 S6))) ∧ ((gI S3 1807 0) = 1 → T 2 S3)) ∧ (r3 = 0 → wp8_shape_31 x1 x2 x3 x4 Q T S3))))))))
-- StackForge.code(IJI)I
def wp8_code_80 (x1 : Int32) (x2 : Int64) (x4 : Int32) (Q : Int32 → St → Prop) (T : Nat → St → Prop) : Nat → Int32 → St → Prop
  | 0, _, _ => False
  | n + 1, x5, S => (x5 < 0 → vp_in x1 6 ∧ wp4_length S x1.toNatClampNeg (fun r1 S1 => Q r1 S1)) ∧ (¬ x5 < 0 → vp_in x1 6 ∧ wp4_append S x1.toNatClampNeg (((jlushr x2 (8 * x5)).toInt32) &&& 255) (fun S2 => ∀ x5_1 : Int32, x5_1 = x5 + (-1) → wp8_code_80 x1 x2 x4 Q T n x5_1 S2))
def wp8_code_20 (x1 : Int32) (x2 : Int64) (x4 : Int32) (Q : Int32 → St → Prop) (T : Nat → St → Prop)  (S : St) : Prop :=
  T 1 S
def wp8_code (S : St) (x1 : Int32) (x2 : Int64) (x4 : Int32) (Q : Int32 → St → Prop) (T : Nat → St → Prop) : Prop :=
  wp8_isFunction S x1 (fun r1 S1 => (r1 = 0 → wp8_code_20 x1 x2 x4 Q T S1) ∧ (¬ r1 = 0 → (x4 < 1 → wp8_code_20 x1 x2 x4 Q T S1) ∧ (¬ x4 < 1 → (x4 ≤ 8 → (¬ (gI S1 1807 0) = 1 → vp_in x1 6 ∧ wp4_length S1 x1.toNatClampNeg (fun r2 S2 => ((r2 + x4) ≤ 60 → ∀ S3, S3 = sI S2 1806 0 0 → ∀ x5_1 : Int32, x5_1 = x4 - 1 → ∃ n, wp8_code_80 x1 x2 x4 Q T n x5_1 S3) ∧ (¬ (r2 + x4) ≤ 60 → T 3 S2))) ∧ ((gI S1 1807 0) = 1 → T 2 S1)) ∧ (¬ x4 ≤ 8 → wp8_code_20 x1 x2 x4 Q T S1))))
-- StackForge.table(II)I
def wp8_table_30 (x1 : Int32) (x2 : Int32) (Q : Int32 → St → Prop) (T : Nat → St → Prop)  (S : St) : Prop :=
  vp_in x1 8 ∧ ∀ x3_1 : Int32, x3_1 = gA S 1801 0 x1.toNatClampNeg → vp_in x1 8 ∧ ∀ S1, S1 = sA S 1801 0 x1.toNatClampNeg x2 → Q x3_1 S1
def wp8_table_22 (x1 : Int32) (x2 : Int32) (Q : Int32 → St → Prop) (T : Nat → St → Prop)  (S : St) : Prop :=
  T 1 S
def wp8_table (S : St) (x1 : Int32) (x2 : Int32) (Q : Int32 → St → Prop) (T : Nat → St → Prop) : Prop :=
  (x1 < 0 → wp8_table_22 x1 x2 Q T S) ∧ (¬ x1 < 0 → (8 ≤ x1 → wp8_table_22 x1 x2 Q T S) ∧ (¬ 8 ≤ x1 → (x2 = (-1) → wp8_table_30 x1 x2 Q T S) ∧ (¬ x2 = (-1) → wp8_isFunction S x2 (fun r1 S1 => (¬ r1 = 0 → wp8_table_30 x1 x2 Q T S1) ∧ (r1 = 0 → wp8_table_22 x1 x2 Q T S1)))))
-- StackForge.check()I
def wp8_check_66 (K : Int32 → Int32 → St → Prop)  (Q : Int32 → St → Prop) (T : Nat → St → Prop) (x1 : Int32) (x2 : Int32) (S : St) : Prop :=
  ∀ x2_1 : Int32, x2_1 = x2 + 1 → K x1 x2_1 S
def wp8_check_20  (Q : Int32 → St → Prop) (T : Nat → St → Prop) : Nat → Int32 → Int32 → St → Prop
  | 0, _, _, _ => False
  | n + 1, x1, x2, S => (6 ≤ x2 → ∀ S1, S1 = sI S 1806 0 1 → Q x1 S1) ∧ (¬ 6 ≤ x2 → vp_in x2 6 ∧ wp4_length S x2.toNatClampNeg (fun r1 S2 => (r1 ≤ 0 → wp8_check_66 (fun k0 k1 S9 => wp8_check_20 Q T n k0 k1 S9) Q T x1 x2 S2) ∧ (¬ r1 ≤ 0 → ∀ x1_1 : Int32, x1_1 = x1 + 1 → vp_in x2 6 ∧ wp2_faultIn S2 x2.toNatClampNeg (fun r2 S3 => (r2 = (-1) → wp8_check_66 (fun k0 k1 S9 => wp8_check_20 Q T n k0 k1 S9) Q T x1_1 x2 S3) ∧ (¬ r2 = (-1) → T 5 S3)))))
def wp8_check (S : St)  (Q : Int32 → St → Prop) (T : Nat → St → Prop) : Prop :=
  (¬ (gI S 1807 0) = 1 → (∃ n, wp8_check_20 Q T n 0 0 S)) ∧ ((gI S 1807 0) = 1 → T 2 S)
-- StackForge.fault(I)I
def wp8_fault (S : St) (x1 : Int32) (Q : Int32 → St → Prop) (T : Nat → St → Prop) : Prop :=
  wp8_isFunction S x1 (fun r1 S1 => (¬ r1 = 0 → vp_in x1 6 ∧ wp2_faultIn S1 x1.toNatClampNeg (fun r2 S2 => Q r2 S2)) ∧ (r1 = 0 → T 1 S1))
-- StackForge.argue(I)I
def wp8_argue (S : St) (x1 : Int32) (Q : Int32 → St → Prop) (T : Nat → St → Prop) : Prop :=
  ((gI S 1805 0) < 3 → vp_in (gI S 1805 0) 3 ∧ ∀ S1, S1 = sA S 1802 0 ((gI S 1805 0).toNatClampNeg) x1 → ∀ S2, S2 = sI S1 1805 0 ((gI S1 1805 0) + 1) → Q (gI S2 1805 0) S2) ∧ (¬ (gI S 1805 0) < 3 → T 3 S)
-- StackForge.start(I)I
def wp8_start_42 (x1 : Int32) (Q : Int32 → St → Prop) (T : Nat → St → Prop)  (S : St) : Prop :=
  T 2 S
def wp8_start (S : St) (x1 : Int32) (Q : Int32 → St → Prop) (T : Nat → St → Prop) : Prop :=
  wp8_isFunction S x1 (fun r1 S1 => (¬ r1 = 0 → ((gI S1 1807 0) = 1 → wp8_start_42 x1 Q T S1) ∧ (¬ (gI S1 1807 0) = 1 → ((gI S1 1806 0) = 0 → wp8_start_42 x1 Q T S1) ∧ (¬ (gI S1 1806 0) = 0 → vp_in x1 6 ∧ wp4_length S1 x1.toNatClampNeg (fun r2 S2 => (¬ r2 = 0 → vp_in x1 6 ∧ wp4_parameterCount S2 x1.toNatClampNeg (fun r3 S3 => (r3 = (gI S3 1805 0) → vp_in x1 6 ∧ wp6_begin S3 x1.toNatClampNeg (fun S4 => ∀ S5, S5 = sI S4 1807 0 1 → ∀ S6, S6 = sI S5 1808 0 0 → ∀ x2_1 : Int32, x2_1 = gI S6 1805 0 → ∀ S7, S7 = sI S6 1805 0 0 → Q x2_1 S7)) ∧ (¬ r3 = (gI S3 1805 0) → T 5 S3))) ∧ (r2 = 0 → wp8_start_42 x1 Q T S2))))) ∧ (r1 = 0 → T 1 S1))
-- StackForge.run(I)I
def wp8_run_82 (x1 : Int32) (Q : Int32 → St → Prop) (T : Nat → St → Prop) (x2 : Int32) (x3 : Int32) (S : St) : Prop :=
  ∀ S1, S1 = sI S 1808 0 ((gI S 1808 0) + x2) → (x3 = 0 → Q x2 S1) ∧ (¬ x3 = 0 → ∀ S2, S2 = sI S1 1809 0 x3 → wp8_throwTrap S2 x3 (fun S3 => Q x2 S3) T)
def wp8_run_42 (x1 : Int32) (Q : Int32 → St → Prop) (T : Nat → St → Prop) : Nat → Int32 → Int32 → Int32 → St → Prop
  | 0, _, _, _, _ => False
  | n + 1, x2, x3, x4, S => (x1 ≤ x4 → wp8_run_82 x1 Q T x2 x3 S) ∧ (¬ x1 ≤ x4 → (¬ (gI S 1807 0) = 1 → wp8_run_82 x1 Q T x2 x3 S) ∧ ((gI S 1807 0) = 1 → wp6_step S (fun r1 S1 => ∀ x2_1 : Int32, x2_1 = x2 + 1 → wp8_phaseAfter S1 r1 (fun r2 S2 => ∀ S3, S3 = sI S2 1807 0 r2 → ∀ x4_1 : Int32, x4_1 = x4 + 1 → wp8_run_42 x1 Q T n x2_1 r1 x4_1 S3))))
def wp8_run_11 (x1 : Int32) (Q : Int32 → St → Prop) (T : Nat → St → Prop)  (S : St) : Prop :=
  T 1 S
def wp8_run (S : St) (x1 : Int32) (Q : Int32 → St → Prop) (T : Nat → St → Prop) : Prop :=
  (x1 < 1 → wp8_run_11 x1 Q T S) ∧ (¬ x1 < 1 → (x1 ≤ 20 → ((gI S 1807 0) = 1 → (∃ n, wp8_run_42 x1 Q T n 0 0 0 S)) ∧ (¬ (gI S 1807 0) = 1 → T 2 S)) ∧ (¬ x1 ≤ 20 → wp8_run_11 x1 Q T S))
-- StackForge.stop()I
def wp8_stop (S : St)  (Q : Int32 → St → Prop) (T : Nat → St → Prop) : Prop :=
  ((gI S 1807 0) = 1 → ∀ S1, S1 = sI S 1807 0 0 → Q (gI S1 1808 0) S1) ∧ (¬ (gI S 1807 0) = 1 → T 2 S)
-- StackForge.result()J
def wp8_result_46  (Q : Int64 → St → Prop) (T : Nat → St → Prop)  (S : St) : Prop :=
  wp6_outcomeNumber S (fun r1 S1 => Q r1 S1)
def wp8_result (S : St)  (Q : Int64 → St → Prop) (T : Nat → St → Prop) : Prop :=
  ((gI S 1807 0) = 2 → wp6_outcomeKind S (fun r1 S1 => (r1 = 1 → wp8_result_46 Q T S1) ∧ (¬ r1 = 1 → wp6_outcomeKind S1 (fun r2 S2 => (r2 = 2 → wp8_result_46 Q T S2) ∧ (¬ r2 = 2 → T 6 S2))))) ∧ (¬ (gI S 1807 0) = 2 → T 2 S)
-- StackForge.real()D
def wp8_real (S : St)  (Q : UInt64 → St → Prop) (T : Nat → St → Prop) : Prop :=
  ((gI S 1807 0) = 2 → wp6_outcomeKind S (fun r1 S1 => (r1 = 3 → wp6_outcomeReal S1 (fun r2 S2 => Q r2 S2)) ∧ (¬ r1 = 3 → T 6 S1))) ∧ (¬ (gI S 1807 0) = 2 → T 2 S)
-- StackForge.global(I)J
def wp8_global_9 (x1 : Int32) (Q : Int64 → St → Prop) (T : Nat → St → Prop)  (S : St) : Prop :=
  T 1 S
def wp8_global (S : St) (x1 : Int32) (Q : Int64 → St → Prop) (T : Nat → St → Prop) : Prop :=
  (x1 < 0 → wp8_global_9 x1 Q T S) ∧ (¬ x1 < 0 → (x1 ≤ 1 → wp1_numberAt S 12 x1 (fun r1 S1 => Q r1 S1)) ∧ (¬ x1 ≤ 1 → wp8_global_9 x1 Q T S))
-- StackForge.memory(I)I
def wp8_memory_10 (x1 : Int32) (Q : Int32 → St → Prop) (T : Nat → St → Prop)  (S : St) : Prop :=
  T 1 S
def wp8_memory (S : St) (x1 : Int32) (Q : Int32 → St → Prop) (T : Nat → St → Prop) : Prop :=
  (x1 < 0 → wp8_memory_10 x1 Q T S) ∧ (¬ x1 < 0 → (x1 < 64 → wp7_byteAt S x1 (fun r1 S1 => Q r1 S1)) ∧ (¬ x1 < 64 → wp8_memory_10 x1 Q T S))
-- StackForge.wipe()I
def wp8_wipe (S : St)  (Q : Int32 → St → Prop) (T : Nat → St → Prop) : Prop :=
  (¬ (gI S 1807 0) = 1 → wp1_clear S 12 (fun S1 => wp7_clear S1 (fun r1 S2 => Q r1 S2))) ∧ ((gI S 1807 0) = 1 → T 2 S)
-- StackForge.count(I)I
def wp8_count_10 (x1 : Int32) (Q : Int32 → St → Prop) (T : Nat → St → Prop)  (S : St) : Prop :=
  T 1 S
def wp8_count (S : St) (x1 : Int32) (Q : Int32 → St → Prop) (T : Nat → St → Prop) : Prop :=
  (x1 < 0 → wp8_count_10 x1 Q T S) ∧ (¬ x1 < 0 → (x1 ≤ 11 → (x1 = 0 → Q (gI S 1807 0) S) ∧ (¬ x1 = 0 → (x1 = 1 → Q (gI S 1808 0) S) ∧ (¬ x1 = 1 → (x1 = 2 → (¬ (gI S 1807 0) = 1 → Q 0 S) ∧ ((gI S 1807 0) = 1 → wp6_depth S (fun r1 S1 => Q r1 S1))) ∧ (¬ x1 = 2 → (x1 = 3 → Q (gI S 1809 0) S) ∧ (¬ x1 = 3 → (x1 = 4 → ((gI S 1806 0) = 0 → Q 0 S) ∧ (¬ (gI S 1806 0) = 0 → Q 1 S)) ∧ (¬ x1 = 4 → (x1 = 5 → Q (gI S 1805 0) S) ∧ (¬ x1 = 5 → vp_in (x1 - 6) 6 ∧ wp4_length S ((x1 - 6).toNatClampNeg) (fun r2 S2 => Q r2 S2)))))))) ∧ (¬ x1 ≤ 11 → wp8_count_10 x1 Q T S))
