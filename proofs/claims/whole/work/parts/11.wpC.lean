-- StackForge$Cells.realAt(I)D
def wp1_realAt (S : St) (o : Nat) (x1 : Int32) (Q : UInt64 → St → Prop) : Prop :=
  (x1 < 0 → Q FP.dconst0 S) ∧ (¬ x1 < 0 → ((nI (cellsN o)) ≤ x1 → Q FP.dconst0 S) ∧ (¬ (nI (cellsN o)) ≤ x1 → vp_in x1 (cellsN o) ∧ Q (gD S 1101 o x1.toNatClampNeg) S))
-- StackForge.realGlobal()D
def wp8_realGlobal (S : St)  (Q : UInt64 → St → Prop) : Prop :=
  wp1_realAt S 12 2 (fun r1 S1 => Q r1 S1)
-- StackForge.isFunction(I)Z
def wp8_isFunction (S : St) (x0 : Int32) (Q : Int32 → St → Prop) : Prop :=
  (x0 < 0 → Q 0 S) ∧ (¬ x0 < 0 → (6 ≤ x0 → Q 0 S) ∧ (¬ 6 ≤ x0 → Q 1 S))
-- StackForge.isKindRow(I)Z
def wp8_isKindRow_17 (x0 : Int32) (Q : Int32 → St → Prop) : Nat → Int32 → Int32 → St → Prop
  | 0, _, _, _ => False
  | n + 1, x1, x2, S => (3 ≤ x2 → Q 1 S) ∧ (¬ 3 ≤ x2 → (x1 ≤ 0 → Q 1 S) ∧ (¬ x1 ≤ 0 → ((x1 - x1 / 10 * 10) < 1 → Q 0 S) ∧ (¬ (x1 - x1 / 10 * 10) < 1 → ((x1 - x1 / 10 * 10) ≤ 3 → ∀ x1_1 : Int32, x1_1 = x1 / 10 → ∀ x2_1 : Int32, x2_1 = x2 + 1 → wp8_isKindRow_17 x0 Q n x1_1 x2_1 S) ∧ (¬ (x1 - x1 / 10 * 10) ≤ 3 → Q 0 S))))
def wp8_isKindRow (S : St) (x0 : Int32) (Q : Int32 → St → Prop) : Prop :=
  (x0 < 0 → Q 0 S) ∧ (¬ x0 < 0 → (x0 ≤ 333 → (∃ n, wp8_isKindRow_17 x0 Q n x0 0 S)) ∧ (¬ x0 ≤ 333 → Q 0 S))
-- StackForge$Machine.depth()I
def wp6_depth (S : St)  (Q : Int32 → St → Prop) : Prop :=
  Q (gI S 1607 0) S
-- StackForge.phaseAfter(I)I
def wp8_phaseAfter (S : St) (x1 : Int32) (Q : Int32 → St → Prop) : Prop :=
  (x1 = 0 → wp6_depth S (fun r1 S1 => (¬ r1 = 0 → Q 1 S1) ∧ (r1 = 0 → Q 2 S1))) ∧ (¬ x1 = 0 → Q 3 S)
-- StackForge$Cells.set(IJD)V
def wp1_set (S : St) (o : Nat) (x1 : Int32) (x2 : Int64) (x4 : UInt64) (Q : St → Prop) : Prop :=
  (x1 < 0 → Q S) ∧ (¬ x1 < 0 → ((nI (cellsN o)) ≤ x1 → Q S) ∧ (¬ (nI (cellsN o)) ≤ x1 → ((nI (cellsN o)) ≤ x1 → Q S) ∧ (¬ (nI (cellsN o)) ≤ x1 → vp_in x1 (cellsN o) ∧ ∀ S1, S1 = sJ S 1100 o x1.toNatClampNeg x2 → vp_in x1 (cellsN o) ∧ ∀ S2, S2 = sD S1 1101 o x1.toNatClampNeg x4 → Q S2)))
-- StackForge$Cells.clear()V
def wp1_clear_2 (o : Nat) (Q : St → Prop) : Nat → Int32 → St → Prop
  | 0, _, _ => False
  | n + 1, x1, S => ((nI (cellsN o)) ≤ x1 → ∀ S1, S1 = sI S 1102 o 0 → Q S1) ∧ (¬ (nI (cellsN o)) ≤ x1 → wp1_set S o x1 0 FP.dconst0 (fun S2 => ∀ x1_1 : Int32, x1_1 = x1 + 1 → wp1_clear_2 o Q n x1_1 S2))
def wp1_clear (S : St) (o : Nat) (Q : St → Prop) : Prop :=
  ∃ n, wp1_clear_2 o Q n 0 S
-- StackForge$Call.begin(LStackForge$Function;)V
def wp0_begin (S : St) (o : Nat) (a1 : Nat) (Q : St → Prop) : Prop :=
  ∀ S1, S1 = sR S 1004 o a1 → ∀ S2, S2 = sI S1 1005 o 0 → ∀ S3, S3 = sI S2 1006 o 1 → wp1_clear S3 (2 * o) (fun S4 => wp1_clear S4 (2 * o + 1) (fun S5 => Q S5))
-- StackForge$Function.kindOf(I)I
def wp4_kindOf (S : St) (o : Nat) (x1 : Int32) (Q : Int32 → St → Prop) : Prop :=
  (x1 < 0 → Q 0 S) ∧ (¬ x1 < 0 → ((gI S 1405 o) ≤ x1 → Q 0 S) ∧ (¬ (gI S 1405 o) ≤ x1 → vp_in x1 6 ∧ Q (gA S 1400 o x1.toNatClampNeg) S))
-- StackForge$Call.setParameter(II)V
def wp0_setParameter (S : St) (o : Nat) (x1 : Int32) (x2 : Int32) (Q : St → Prop) : Prop :=
  gR S 1004 o < 6 ∧ wp4_kindOf S (gR S 1004 o) x1 (fun r1 S1 => (¬ r1 = 3 → wp1_set S1 (2 * o + 1) x1 x2.toInt64 FP.dconst0 (fun S2 => Q S2)) ∧ (r1 = 3 → vf_n64 (FP.dmul (FP.i2d x2) (4593671619917905920 : UInt64)) ∧ wp1_set S1 (2 * o + 1) x1 0 (FP.dmul (FP.i2d x2) (4593671619917905920 : UInt64)) (fun S3 => Q S3)))
-- StackForge$Cells.height()I
def wp1_height (S : St) (o : Nat) (Q : Int32 → St → Prop) : Prop :=
  Q (gI S 1102 o) S
-- StackForge$Function.parameterCount()I
def wp4_parameterCount (S : St) (o : Nat) (Q : Int32 → St → Prop) : Prop :=
  Q (gI S 1404 o) S
-- StackForge$Cells.numberAt(I)J
def wp1_numberAt (S : St) (o : Nat) (x1 : Int32) (Q : Int64 → St → Prop) : Prop :=
  (x1 < 0 → Q 0 S) ∧ (¬ x1 < 0 → ((nI (cellsN o)) ≤ x1 → Q 0 S) ∧ (¬ (nI (cellsN o)) ≤ x1 → vp_in x1 (cellsN o) ∧ Q (gJ S 1100 o x1.toNatClampNeg) S))
-- StackForge$Cells.setFrom(ILStackForge$Cells;I)V
def wp1_setFrom (S : St) (o : Nat) (x1 : Int32) (a2 : Nat) (x3 : Int32) (Q : St → Prop) : Prop :=
  wp1_numberAt S a2 x3 (fun r1 S1 => wp1_realAt S1 a2 x3 (fun r2 S2 => wp1_set S2 o x1 r1 r2 (fun S3 => Q S3)))
-- StackForge$Cells.cutTo(I)V
def wp1_cutTo (S : St) (o : Nat) (x1 : Int32) (Q : St → Prop) : Prop :=
  (x1 < 0 → Q S) ∧ (¬ x1 < 0 → ((gI S 1102 o) ≤ x1 → Q S) ∧ (¬ (gI S 1102 o) ≤ x1 → ∀ S1, S1 = sI S 1102 o x1 → Q S1))
-- StackForge$Call.takeParametersFrom(LStackForge$Cells;)V
def wp0_takeParametersFrom_15 (o : Nat) (a1 : Nat) (Q : St → Prop) : Nat → Int32 → Int32 → St → Prop
  | 0, _, _, _ => False
  | n + 1, x2, x3, S => gR S 1004 o < 6 ∧ wp4_parameterCount S (gR S 1004 o) (fun r1 S1 => (r1 ≤ x3 → wp1_cutTo S1 a1 x2 (fun S2 => Q S2)) ∧ (¬ r1 ≤ x3 → wp1_setFrom S1 (2 * o + 1) x3 a1 (x2 + x3) (fun S3 => ∀ x3_1 : Int32, x3_1 = x3 + 1 → wp0_takeParametersFrom_15 o a1 Q n x2 x3_1 S3)))
def wp0_takeParametersFrom (S : St) (o : Nat) (a1 : Nat) (Q : St → Prop) : Prop :=
  wp1_height S a1 (fun r1 S1 => gR S1 1004 o < 6 ∧ wp4_parameterCount S1 (gR S1 1004 o) (fun r2 S2 => ∀ x2_1 : Int32, x2_1 = r1 - r2 → ∃ n, wp0_takeParametersFrom_15 o a1 Q n x2_1 0 S2))
-- StackForge$Call.beginFrame(I)V
def wp0_beginFrame (S : St) (o : Nat) (x1 : Int32) (Q : St → Prop) : Prop :=
  ((gI S 1006 o) < 0 → Q S) ∧ (¬ (gI S 1006 o) < 0 → (8 ≤ (gI S 1006 o) → Q S) ∧ (¬ 8 ≤ (gI S 1006 o) → vp_in (gI S 1006 o) 8 ∧ ∀ S1, S1 = sA S 1002 o ((gI S 1006 o).toNatClampNeg) x1 → wp1_height S1 (2 * o) (fun r1 S2 => vp_in (gI S1 1006 o) 8 ∧ ∀ S3, S3 = sA S2 1003 o ((gI S1 1006 o).toNatClampNeg) r1 → ∀ S4, S4 = sI S3 1006 o ((gI S3 1006 o) + 1) → Q S4)))
-- StackForge$Cells.drop()V
def wp1_drop (S : St) (o : Nat) (Q : St → Prop) : Prop :=
  ((gI S 1102 o) ≤ 0 → Q S) ∧ (¬ (gI S 1102 o) ≤ 0 → ∀ S1, S1 = sI S 1102 o ((gI S 1102 o) - 1) → Q S1)
-- StackForge$Cells.takeNumber()J
def wp1_takeNumber (S : St) (o : Nat) (Q : Int64 → St → Prop) : Prop :=
  wp1_drop S o (fun S1 => wp1_numberAt S1 o (gI S1 1102 o) (fun r1 S2 => Q r1 S2))
-- StackForge$Cells.takeInt()I
def wp1_takeInt (S : St) (o : Nat) (Q : Int32 → St → Prop) : Prop :=
  wp1_takeNumber S o (fun r1 S1 => Q r1.toInt32 S1)
-- StackForge$Function.behindElse(I)I
def wp4_behindElse (S : St) (o : Nat) (x1 : Int32) (Q : Int32 → St → Prop) : Prop :=
  (x1 < 0 → Q 0 S) ∧ (¬ x1 < 0 → (60 ≤ x1 → Q 0 S) ∧ (¬ 60 ≤ x1 → vp_in x1 60 ∧ Q (gA S 1402 o x1.toNatClampNeg) S))
-- StackForge$Function.behindEnd(I)I
def wp4_behindEnd (S : St) (o : Nat) (x1 : Int32) (Q : Int32 → St → Prop) : Prop :=
  (x1 < 0 → Q 0 S) ∧ (¬ x1 < 0 → (60 ≤ x1 → Q 0 S) ∧ (¬ 60 ≤ x1 → vp_in x1 60 ∧ Q (gA S 1403 o x1.toNatClampNeg) S))
-- StackForge$Call.beginIf(I)V
def wp0_beginIf (S : St) (o : Nat) (x1 : Int32) (Q : St → Prop) : Prop :=
  wp1_takeInt S (2 * o) (fun r1 S1 => (r1 = 0 → gR S1 1004 o < 6 ∧ wp4_behindElse S1 (gR S1 1004 o) x1 (fun r2 S2 => (r2 = 0 → gR S2 1004 o < 6 ∧ wp4_behindEnd S2 (gR S2 1004 o) x1 (fun r3 S3 => ∀ S4, S4 = sI S3 1005 o r3 → Q S4)) ∧ (¬ r2 = 0 → wp0_beginFrame S2 o x1 (fun S5 => gR S5 1004 o < 6 ∧ wp4_behindElse S5 (gR S5 1004 o) x1 (fun r4 S6 => ∀ S7, S7 = sI S6 1005 o r4 → Q S7))))) ∧ (¬ r1 = 0 → wp0_beginFrame S1 o x1 (fun S8 => Q S8)))
-- StackForge$Call.endFrame()V
def wp0_endFrame (S : St) (o : Nat) (Q : St → Prop) : Prop :=
  ∀ S1, S1 = sI S 1006 o ((gI S 1006 o) - 1) → Q S1
-- StackForge$Call.goBehindEnd()V
def wp0_goBehindEnd (S : St) (o : Nat) (Q : St → Prop) : Prop :=
  ∀ S1, S1 = sI S 1006 o ((gI S 1006 o) - 1) → ((gI S1 1006 o) < 0 → Q S1) ∧ (¬ (gI S1 1006 o) < 0 → (8 ≤ (gI S1 1006 o) → Q S1) ∧ (¬ 8 ≤ (gI S1 1006 o) → gR S1 1004 o < 6 ∧ vp_in (gI S1 1006 o) 8 ∧ wp4_behindEnd S1 (gR S1 1004 o) (gA S1 1002 o ((gI S1 1006 o).toNatClampNeg)) (fun r1 S2 => ∀ S3, S3 = sI S2 1005 o r1 → Q S3)))
-- StackForge$Function.byteAt(I)I
def wp4_byteAt (S : St) (o : Nat) (x1 : Int32) (Q : Int32 → St → Prop) : Prop :=
  (x1 < 0 → Q 0 S) ∧ (¬ x1 < 0 → ((gI S 1407 o) ≤ x1 → Q 0 S) ∧ (¬ (gI S 1407 o) ≤ x1 → vp_in x1 60 ∧ Q (gA S 1401 o x1.toNatClampNeg) S))
-- StackForge$Cells.put(JD)V
def wp1_put (S : St) (o : Nat) (x1 : Int64) (x3 : UInt64) (Q : St → Prop) : Prop :=
  ((gI S 1102 o) < 0 → Q S) ∧ (¬ (gI S 1102 o) < 0 → ((nI (cellsN o)) ≤ (gI S 1102 o) → Q S) ∧ (¬ (nI (cellsN o)) ≤ (gI S 1102 o) → ((nI (cellsN o)) ≤ (gI S 1102 o) → Q S) ∧ (¬ (nI (cellsN o)) ≤ (gI S 1102 o) → vp_in (gI S 1102 o) (cellsN o) ∧ ∀ S1, S1 = sJ S 1100 o ((gI S 1102 o).toNatClampNeg) x1 → vp_in (gI S1 1102 o) (cellsN o) ∧ ∀ S2, S2 = sD S1 1101 o ((gI S1 1102 o).toNatClampNeg) x3 → ∀ S3, S3 = sI S2 1102 o ((gI S2 1102 o) + 1) → Q S3)))
-- StackForge$Cells.putFrom(LStackForge$Cells;I)V
def wp1_putFrom (S : St) (o : Nat) (a1 : Nat) (x2 : Int32) (Q : St → Prop) : Prop :=
  wp1_numberAt S a1 x2 (fun r1 S1 => wp1_realAt S1 a1 x2 (fun r2 S2 => wp1_put S2 o r1 r2 (fun S3 => Q S3)))
-- StackForge$Call.jumpsWithin(I)Z
def wp0_jumpsWithin_119 (o : Nat) (x1 : Int32) (Q : Int32 → St → Prop) (x2 : Int32) (x3 : Int32) (S : St) : Prop :=
  gR S 1004 o < 6 ∧ wp4_behindEnd S (gR S 1004 o) x3 (fun r1 S1 => ∀ S2, S2 = sI S1 1005 o r1 → ∀ S3, S3 = sI S2 1006 o x2 → Q 1 S3)
def wp0_jumpsWithin (S : St) (o : Nat) (x1 : Int32) (Q : Int32 → St → Prop) : Prop :=
  ∀ x2_1 : Int32, x2_1 = ((gI S 1006 o) - 1) - x1 → (x2_1 ≤ 0 → Q 0 S) ∧ (¬ x2_1 ≤ 0 → (x2_1 < 8 → vp_in x2_1 8 ∧ ∀ x3_1 : Int32, x3_1 = gA S 1002 o x2_1.toNatClampNeg → gR S 1004 o < 6 ∧ wp4_byteAt S (gR S 1004 o) x3_1 (fun r1 S1 => (¬ r1 = 3 → wp1_height S1 (2 * o) (fun r2 S2 => ∀ x4_1 : Int32, x4_1 = r2 - 1 → vp_in x2_1 8 ∧ wp1_cutTo S2 (2 * o) (gA S2 1003 o x2_1.toNatClampNeg) (fun S3 => gR S3 1004 o < 6 ∧ wp4_byteAt S3 (gR S3 1004 o) (x3_1 + 1) (fun r3 S4 => (r3 = 0 → wp0_jumpsWithin_119 o x1 Q x2_1 x3_1 S4) ∧ (¬ r3 = 0 → wp1_putFrom S4 (2 * o) (2 * o) x4_1 (fun S5 => wp0_jumpsWithin_119 o x1 Q x2_1 x3_1 S5)))))) ∧ (r1 = 3 → vp_in x2_1 8 ∧ wp1_cutTo S1 (2 * o) (gA S1 1003 o x2_1.toNatClampNeg) (fun S6 => ∀ S7, S7 = sI S6 1005 o (x3_1 + 2) → ∀ S8, S8 = sI S7 1006 o (x2_1 + 1) → Q 1 S8)))) ∧ (¬ x2_1 < 8 → Q 0 S))
-- StackForge$Cells.putNumber(J)V
def wp1_putNumber (S : St) (o : Nat) (x1 : Int64) (Q : St → Prop) : Prop :=
  wp1_put S o x1 FP.dconst0 (fun S1 => Q S1)
-- StackForge$Cells.putReal(D)V
def wp1_putReal (S : St) (o : Nat) (x1 : UInt64) (Q : St → Prop) : Prop :=
  wp1_put S o 0 x1 (fun S1 => Q S1)
-- StackForge$Cells.putTruth(Z)V
def wp1_putTruth_10 (o : Nat) (x1 : Int32) (Q : St → Prop) (t0 : Nat) (s1 : Int64) (S : St) : Prop :=
  wp1_put S t0 s1 FP.dconst0 (fun S1 => Q S1)
def wp1_putTruth (S : St) (o : Nat) (x1 : Int32) (Q : St → Prop) : Prop :=
  (x1 = 0 → wp1_putTruth_10 o x1 Q o 0 S) ∧ (¬ x1 = 0 → wp1_putTruth_10 o x1 Q o 1 S)
-- StackForge$Cells.takeReal()D
def wp1_takeReal (S : St) (o : Nat) (Q : UInt64 → St → Prop) : Prop :=
  wp1_drop S o (fun S1 => wp1_realAt S1 o (gI S1 1102 o) (fun r1 S2 => Q r1 S2))
-- StackForge$Function.outcome()I
def wp4_outcome (S : St) (o : Nat) (Q : Int32 → St → Prop) : Prop :=
  Q (gI S 1406 o) S
-- StackForge$Frame.open(IIII)V
def wp3_open (S : St) (o : Nat) (x1 : Int32) (x2 : Int32) (x3 : Int32) (x4 : Int32) (Q : St → Prop) : Prop :=
  ∀ S1, S1 = sI S 1300 o x1 → ∀ S2, S2 = sI S1 1301 o x2 → ∀ S3, S3 = sI S2 1302 o x3 → ∀ S4, S4 = sI S3 1303 o x4 → ∀ S5, S5 = sI S4 1304 o 0 → ∀ S6, S6 = sI S5 1305 o 0 → Q S6
-- StackForge$Function.noteElse(II)V
def wp4_noteElse (S : St) (o : Nat) (x1 : Int32) (x2 : Int32) (Q : St → Prop) : Prop :=
  (x1 < 0 → Q S) ∧ (¬ x1 < 0 → (60 ≤ x1 → Q S) ∧ (¬ 60 ≤ x1 → vp_in x1 60 ∧ ∀ S1, S1 = sA S 1402 o x1.toNatClampNeg x2 → Q S1))
-- StackForge$Checker.beginFrame(III)V
def wp2_beginFrame (S : St) (x1 : Int32) (x2 : Int32) (x3 : Int32) (Q : St → Prop) : Prop :=
  ((gI S 1206 0) < 0 → ∀ S1, S1 = sI S 1207 0 1 → Q S1) ∧ (¬ (gI S 1206 0) < 0 → (8 ≤ (gI S 1206 0) → ∀ S2, S2 = sI S 1207 0 1 → Q S2) ∧ (¬ 8 ≤ (gI S 1206 0) → (x3 ≤ 3 → vp_in (gI S 1206 0) 8 ∧ ∀ S3, S3 = sR S 1204 0 ((gI S 1206 0).toNatClampNeg) → gR S3 1204 0 < 8 ∧ wp3_open S3 (gR S3 1204 0) x1 x2 (gI S3 1205 0) x3 (fun S4 => ∀ S5, S5 = sI S4 1206 0 ((gI S4 1206 0) + 1) → gR S5 1203 0 < 6 ∧ wp4_noteElse S5 (gR S5 1203 0) x1 0 (fun S6 => Q S6))) ∧ (¬ x3 ≤ 3 → ∀ S7, S7 = sI S 1207 0 1 → Q S7)))
-- StackForge$Function.length()I
def wp4_length (S : St) (o : Nat) (Q : Int32 → St → Prop) : Prop :=
  Q (gI S 1407 o) S
-- StackForge$Instruction.signature(I)I
def wp5_signature_71 (x0 : Int32) (Q : Int32 → St → Prop)  (S : St) : Prop :=
  (x0 = 1 → Q 0 S) ∧ (¬ x0 = 1 → (x0 = 20 → Q 1 S) ∧ (¬ x0 = 20 → (x0 = 21 → Q 2 S) ∧ (¬ x0 = 21 → (x0 = 22 → Q 3 S) ∧ (¬ x0 = 22 → (x0 = 23 → Q 101 S) ∧ (¬ x0 = 23 → (x0 = 24 → Q 101 S) ∧ (¬ x0 = 24 → (x0 = 25 → Q 102 S) ∧ (¬ x0 = 25 → (x0 = 26 → Q 110 S) ∧ (¬ x0 = 26 → (x0 = 27 → Q 110 S) ∧ (¬ x0 = 27 → (x0 = 28 → Q 210 S) ∧ (¬ x0 = 28 → (x0 = 45 → Q 101 S) ∧ (¬ x0 = 45 → (x0 = 64 → Q 201 S) ∧ (¬ x0 = 64 → (x0 = 76 → Q 303 S) ∧ (¬ x0 = 76 → (x0 = 80 → Q 201 S) ∧ (¬ x0 = 80 → (x0 = 81 → Q 102 S) ∧ (¬ x0 = 81 → (x0 = 82 → Q 103 S) ∧ (¬ x0 = 82 → (x0 = 83 → Q 301 S) ∧ (¬ x0 = 83 → (x0 = 84 → Q 203 S) ∧ (¬ x0 = 84 → (x0 = 85 → Q 102 S) ∧ (¬ x0 = 85 → Q (-1) S)))))))))))))))))))
def wp5_signature_43 (x0 : Int32) (Q : Int32 → St → Prop)  (S : St) : Prop :=
  (x0 < 70 → wp5_signature_71 x0 Q S) ∧ (¬ x0 < 70 → (76 ≤ x0 → wp5_signature_71 x0 Q S) ∧ (¬ 76 ≤ x0 → (73 < x0 → Q 331 S) ∧ (¬ 73 < x0 → Q 333 S)))
def wp5_signature_15 (x0 : Int32) (Q : Int32 → St → Prop)  (S : St) : Prop :=
  (x0 < 50 → wp5_signature_43 x0 Q S) ∧ (¬ x0 < 50 → (64 ≤ x0 → wp5_signature_43 x0 Q S) ∧ (¬ 64 ≤ x0 → (60 < x0 → Q 221 S) ∧ (¬ 60 < x0 → Q 222 S)))
def wp5_signature (S : St) (x0 : Int32) (Q : Int32 → St → Prop) : Prop :=
  (x0 < 30 → wp5_signature_15 x0 Q S) ∧ (¬ x0 < 30 → (45 ≤ x0 → wp5_signature_15 x0 Q S) ∧ (¬ 45 ≤ x0 → Q 111 S))
-- StackForge$Instruction.isKnown(I)Z
def wp5_isKnown_10 (x0 : Int32) (Q : Int32 → St → Prop)  (S : St) : Prop :=
  wp5_signature S x0 (fun r1 S1 => (r1 = (-1) → Q 0 S1) ∧ (¬ r1 = (-1) → Q 1 S1))
def wp5_isKnown (S : St) (x0 : Int32) (Q : Int32 → St → Prop) : Prop :=
  (x0 < 0 → wp5_isKnown_10 x0 Q S) ∧ (¬ x0 < 0 → (x0 ≤ 19 → Q 1 S) ∧ (¬ x0 ≤ 19 → wp5_isKnown_10 x0 Q S))
-- StackForge$Instruction.hasOperand(I)Z
def wp5_hasOperand_22 (x0 : Int32) (Q : Int32 → St → Prop)  (S : St) : Prop :=
  (x0 = 11 → Q 1 S) ∧ (¬ x0 = 11 → (x0 = 12 → Q 1 S) ∧ (¬ x0 = 12 → (x0 < 15 → Q 0 S) ∧ (¬ x0 < 15 → (28 < x0 → Q 0 S) ∧ (¬ 28 < x0 → Q 1 S))))
def wp5_hasOperand_10 (x0 : Int32) (Q : Int32 → St → Prop)  (S : St) : Prop :=
  (x0 < 7 → wp5_hasOperand_22 x0 Q S) ∧ (¬ x0 < 7 → (x0 ≤ 9 → Q 1 S) ∧ (¬ x0 ≤ 9 → wp5_hasOperand_22 x0 Q S))
def wp5_hasOperand (S : St) (x0 : Int32) (Q : Int32 → St → Prop) : Prop :=
  (x0 < 2 → wp5_hasOperand_10 x0 Q S) ∧ (¬ x0 < 2 → (x0 ≤ 4 → Q 1 S) ∧ (¬ x0 ≤ 4 → wp5_hasOperand_10 x0 Q S))
-- StackForge$Function.sizeAt(I)I
def wp4_sizeAt (S : St) (o : Nat) (x1 : Int32) (Q : Int32 → St → Prop) : Prop :=
  wp4_byteAt S o x1 (fun r1 S1 => wp5_isKnown S1 r1 (fun r2 S2 => (¬ r2 = 0 → (¬ r1 = 9 → wp5_hasOperand S2 r1 (fun r3 S3 => (r3 = 0 → Q 1 S3) ∧ (¬ r3 = 0 → Q 2 S3))) ∧ (r1 = 9 → wp4_byteAt S2 o (x1 + 1) (fun r4 S4 => (r4 ≤ 3 → Q (r4 + 3) S4) ∧ (¬ r4 ≤ 3 → Q 0 S4)))) ∧ (r2 = 0 → Q 0 S2)))
-- StackForge$Checker.die()V
def wp2_die (S : St)  (Q : St → Prop) : Prop :=
  gR S 1204 0 < 8 ∧ ∀ S1, S1 = sI S 1205 0 (gI S 1302 (gR S 1204 0)) → gR S1 1204 0 < 8 ∧ ∀ S2, S2 = sI S1 1304 (gR S1 1204 0) 1 → Q S2
-- StackForge$Checker.take(I)I
def wp2_take_29 (x1 : Int32) (Q : Int32 → St → Prop)  (S : St) : Prop :=
  (¬ (gI S 1207 0) = 0 → ∀ S1, S1 = sI S 1207 0 1 → Q 4 S1) ∧ ((gI S 1207 0) = 0 → gR S 1204 0 < 8 ∧ (¬ (gI S 1304 (gR S 1204 0)) = 0 → ∀ S2, S2 = sI S 1207 0 0 → Q 4 S2) ∧ ((gI S 1304 (gR S 1204 0)) = 0 → ∀ S3, S3 = sI S 1207 0 1 → Q 4 S3))
def wp2_take (S : St) (x1 : Int32) (Q : Int32 → St → Prop) : Prop :=
  (¬ x1 = 0 → gR S 1204 0 < 8 ∧ ((gI S 1205 0) ≤ (gI S 1302 (gR S 1204 0)) → wp2_take_29 x1 Q S) ∧ (¬ (gI S 1205 0) ≤ (gI S 1302 (gR S 1204 0)) → ((gI S 1205 0) ≤ 16 → ∀ S1, S1 = sI S 1205 0 ((gI S 1205 0) - 1) → vp_in (gI S1 1205 0) 16 ∧ ∀ x2_1 : Int32, x2_1 = gA S1 1201 0 ((gI S1 1205 0).toNatClampNeg) → (x2_1 = x1 → Q x2_1 S1) ∧ (¬ x2_1 = x1 → (x2_1 = 4 → Q x2_1 S1) ∧ (¬ x2_1 = 4 → (x1 = 4 → Q x2_1 S1) ∧ (¬ x1 = 4 → ∀ S2, S2 = sI S1 1207 0 1 → Q x2_1 S2)))) ∧ (¬ (gI S 1205 0) ≤ 16 → wp2_take_29 x1 Q S))) ∧ (x1 = 0 → Q 0 S)
-- StackForge$Frame.lacksElse()Z
def wp3_lacksElse (S : St) (o : Nat) (Q : Int32 → St → Prop) : Prop :=
  (¬ (gI S 1301 o) = 4 → Q 0 S) ∧ ((gI S 1301 o) = 4 → (¬ (gI S 1305 o) = 0 → Q 0 S) ∧ ((gI S 1305 o) = 0 → Q 1 S))
-- StackForge$Checker.takeAllOfFrame()V
def wp2_takeAllOfFrame (S : St)  (Q : St → Prop) : Prop :=
  gR S 1204 0 < 8 ∧ wp2_take S (gI S 1303 (gR S 1204 0)) (fun r1 S1 => gR S1 1204 0 < 8 ∧ ((gI S1 1205 0) = (gI S1 1302 (gR S1 1204 0)) → Q S1) ∧ (¬ (gI S1 1205 0) = (gI S1 1302 (gR S1 1204 0)) → ∀ S2, S2 = sI S1 1207 0 1 → Q S2))
-- StackForge$Checker.turnToElse(I)V
def wp2_turnToElse (S : St) (x1 : Int32) (Q : St → Prop) : Prop :=
  gR S 1204 0 < 8 ∧ wp3_lacksElse S (gR S 1204 0) (fun r1 S1 => (¬ r1 = 0 → wp2_takeAllOfFrame S1 (fun S2 => gR S2 1204 0 < 8 ∧ ∀ S3, S3 = sI S2 1304 (gR S2 1204 0) 0 → gR S3 1204 0 < 8 ∧ ∀ S4, S4 = sI S3 1305 (gR S3 1204 0) 1 → gR S4 1203 0 < 6 ∧ gR S4 1204 0 < 8 ∧ wp4_noteElse S4 (gR S4 1203 0) (gI S4 1300 (gR S4 1204 0)) (x1 + 1) (fun S5 => Q S5))) ∧ (r1 = 0 → ∀ S6, S6 = sI S1 1207 0 1 → Q S6))
-- StackForge$Checker.put(I)V
def wp2_put (S : St) (x1 : Int32) (Q : St → Prop) : Prop :=
  (¬ x1 = 0 → ((gI S 1205 0) < 0 → ∀ S1, S1 = sI S 1207 0 1 → Q S1) ∧ (¬ (gI S 1205 0) < 0 → ((gI S 1205 0) < 16 → vp_in (gI S 1205 0) 16 ∧ ∀ S2, S2 = sA S 1201 0 ((gI S 1205 0).toNatClampNeg) x1 → ∀ S3, S3 = sI S2 1205 0 ((gI S2 1205 0) + 1) → Q S3) ∧ (¬ (gI S 1205 0) < 16 → ∀ S4, S4 = sI S 1207 0 1 → Q S4))) ∧ (x1 = 0 → Q S)
-- StackForge$Function.noteEnd(II)V
def wp4_noteEnd (S : St) (o : Nat) (x1 : Int32) (x2 : Int32) (Q : St → Prop) : Prop :=
  (x1 < 0 → Q S) ∧ (¬ x1 < 0 → (60 ≤ x1 → Q S) ∧ (¬ 60 ≤ x1 → vp_in x1 60 ∧ ∀ S1, S1 = sA S 1403 o x1.toNatClampNeg x2 → Q S1))
-- StackForge$Checker.endFrame(I)V
def wp2_endFrame_26 (x1 : Int32) (Q : St → Prop)  (S : St) : Prop :=
  wp2_takeAllOfFrame S (fun S1 => gR S1 1204 0 < 8 ∧ wp2_put S1 (gI S1 1303 (gR S1 1204 0)) (fun S2 => gR S2 1203 0 < 6 ∧ gR S2 1204 0 < 8 ∧ wp4_noteEnd S2 (gR S2 1203 0) (gI S2 1300 (gR S2 1204 0)) (x1 + 1) (fun S3 => ∀ S4, S4 = sI S3 1206 0 ((gI S3 1206 0) - 1) → ((gI S4 1206 0) ≤ 0 → Q S4) ∧ (¬ (gI S4 1206 0) ≤ 0 → (8 < (gI S4 1206 0) → Q S4) ∧ (¬ 8 < (gI S4 1206 0) → vp_in ((gI S4 1206 0) - 1) 8 ∧ ∀ S5, S5 = sR S4 1204 0 (((gI S4 1206 0) - 1).toNatClampNeg) → Q S5)))))
def wp2_endFrame (S : St) (x1 : Int32) (Q : St → Prop) : Prop :=
  gR S 1204 0 < 8 ∧ ((gI S 1303 (gR S 1204 0)) = 0 → wp2_endFrame_26 x1 Q S) ∧ (¬ (gI S 1303 (gR S 1204 0)) = 0 → gR S 1204 0 < 8 ∧ wp3_lacksElse S (gR S 1204 0) (fun r1 S1 => (r1 = 0 → wp2_endFrame_26 x1 Q S1) ∧ (¬ r1 = 0 → ∀ S2, S2 = sI S1 1207 0 1 → Q S2)))
-- StackForge$Checker.goOverFrames(III)V
def wp2_goOverFrames (S : St) (x1 : Int32) (x2 : Int32) (x3 : Int32) (Q : St → Prop) : Prop :=
  (x2 = 0 → wp2_die S (fun S1 => Q S1)) ∧ (¬ x2 = 0 → (x2 = 2 → wp2_beginFrame S x1 x2 x3 (fun S2 => Q S2)) ∧ (¬ x2 = 2 → (x2 = 3 → wp2_beginFrame S x1 x2 x3 (fun S3 => Q S3)) ∧ (¬ x2 = 3 → (x2 = 4 → wp2_take S 1 (fun r1 S4 => wp2_beginFrame S4 x1 x2 x3 (fun S5 => Q S5))) ∧ (¬ x2 = 4 → (x2 = 5 → wp2_turnToElse S x1 (fun S6 => Q S6)) ∧ (¬ x2 = 5 → (x2 = 6 → wp2_endFrame S x1 (fun S7 => Q S7)) ∧ (¬ x2 = 6 → Q S))))))
-- StackForge$Frame.kindOfJump()I
def wp3_kindOfJump (S : St) (o : Nat) (Q : Int32 → St → Prop) : Prop :=
  (¬ (gI S 1301 o) = 3 → Q (gI S 1303 o) S) ∧ ((gI S 1301 o) = 3 → Q 0 S)
-- StackForge$Checker.kindOfJump(I)I
def wp2_kindOfJump (S : St) (x1 : Int32) (Q : Int32 → St → Prop) : Prop :=
  ∀ x2_1 : Int32, x2_1 = ((gI S 1206 0) - 1) - x1 → (x2_1 < 0 → ∀ S1, S1 = sI S 1207 0 1 → Q 0 S1) ∧ (¬ x2_1 < 0 → (x2_1 < 8 → vp_in x2_1 8 ∧ wp3_kindOfJump S x2_1.toNatClampNeg (fun r1 S2 => Q r1 S2)) ∧ (¬ x2_1 < 8 → ∀ S3, S3 = sI S 1207 0 1 → Q 0 S3))
-- StackForge$Checker.kindOfJumps(II)I
def wp2_kindOfJumps_46 (K : Int32 → Int32 → St → Prop) (x1 : Int32) (x2 : Int32) (Q : Int32 → St → Prop) (x3 : Int32) (x4 : Int32) (S : St) : Prop :=
  ∀ x4_1 : Int32, x4_1 = x4 + 1 → K x3 x4_1 S
def wp2_kindOfJumps_16 (x1 : Int32) (x2 : Int32) (Q : Int32 → St → Prop) : Nat → Int32 → Int32 → St → Prop
  | 0, _, _, _ => False
  | n + 1, x3, x4, S => (x2 ≤ x4 → Q x3 S) ∧ (¬ x2 ≤ x4 → gR S 1203 0 < 6 ∧ wp4_byteAt S (gR S 1203 0) (x1 + x4) (fun r1 S1 => wp2_kindOfJump S1 r1 (fun r2 S2 => (r2 = x3 → wp2_kindOfJumps_46 (fun k0 k1 S9 => wp2_kindOfJumps_16 x1 x2 Q n k0 k1 S9) x1 x2 Q x3 x4 S2) ∧ (¬ r2 = x3 → ∀ S3, S3 = sI S2 1207 0 1 → wp2_kindOfJumps_46 (fun k0 k1 S9 => wp2_kindOfJumps_16 x1 x2 Q n k0 k1 S9) x1 x2 Q x3 x4 S3))))
def wp2_kindOfJumps (S : St) (x1 : Int32) (x2 : Int32) (Q : Int32 → St → Prop) : Prop :=
  gR S 1203 0 < 6 ∧ wp4_byteAt S (gR S 1203 0) x1 (fun r1 S1 => wp2_kindOfJump S1 r1 (fun r2 S2 => ∃ n, wp2_kindOfJumps_16 x1 x2 Q n r2 1 S2))
-- StackForge$Checker.goOverJumps(III)V
def wp2_goOverJumps (S : St) (x1 : Int32) (x2 : Int32) (x3 : Int32) (Q : St → Prop) : Prop :=
  (x2 = 7 → wp2_kindOfJump S x3 (fun r1 S1 => wp2_take S1 r1 (fun r2 S2 => wp2_die S2 (fun S3 => Q S3)))) ∧ (¬ x2 = 7 → (x2 = 8 → wp2_take S 1 (fun r3 S4 => wp2_kindOfJump S4 x3 (fun r4 S5 => wp2_take S5 r4 (fun r5 S6 => wp2_kindOfJump S6 x3 (fun r6 S7 => wp2_put S7 r6 (fun S8 => Q S8)))))) ∧ (¬ x2 = 8 → (x2 = 9 → wp2_take S 1 (fun r7 S9 => wp2_kindOfJumps S9 (x1 + 2) (x3 + 1) (fun r8 S10 => wp2_take S10 r8 (fun r9 S11 => wp2_die S11 (fun S12 => Q S12))))) ∧ (¬ x2 = 9 → gR S 1203 0 < 6 ∧ wp4_outcome S (gR S 1203 0) (fun r10 S13 => wp2_take S13 r10 (fun r11 S14 => wp2_die S14 (fun S15 => Q S15))))))
-- StackForge$Checker.goOverCall(IZ)V
def wp2_goOverCall_41 (x1 : Int32) (x2 : Int32) (Q : St → Prop) : Nat → Int32 → St → Prop
  | 0, _, _ => False
  | n + 1, x3, S => (x3 < 0 → vp_in x1 6 ∧ wp4_outcome S x1.toNatClampNeg (fun r1 S1 => wp2_put S1 r1 (fun S2 => Q S2))) ∧ (¬ x3 < 0 → vp_in x1 6 ∧ wp4_kindOf S x1.toNatClampNeg x3 (fun r2 S3 => wp2_take S3 r2 (fun r3 S4 => ∀ x3_1 : Int32, x3_1 = x3 + (-1) → wp2_goOverCall_41 x1 x2 Q n x3_1 S4)))
def wp2_goOverCall_29 (x1 : Int32) (x2 : Int32) (Q : St → Prop)  (S : St) : Prop :=
  vp_in x1 6 ∧ wp4_parameterCount S x1.toNatClampNeg (fun r1 S1 => ∀ x3_1 : Int32, x3_1 = r1 - 1 → ∃ n, wp2_goOverCall_41 x1 x2 Q n x3_1 S1)
def wp2_goOverCall (S : St) (x1 : Int32) (x2 : Int32) (Q : St → Prop) : Prop :=
  wp8_isFunction S x1 (fun r1 S1 => (r1 = 0 → ∀ S2, S2 = sI S1 1207 0 1 → Q S2) ∧ (¬ r1 = 0 → (x2 = 0 → wp2_goOverCall_29 x1 x2 Q S1) ∧ (¬ x2 = 0 → vp_in x1 6 ∧ wp4_length S1 x1.toNatClampNeg (fun r2 S3 => (¬ r2 = 0 → wp2_goOverCall_29 x1 x2 Q S3) ∧ (r2 = 0 → ∀ S4, S4 = sI S3 1207 0 1 → Q S4)))))
-- StackForge$Checker.goOverSelect()V
def wp2_goOverSelect_29  (Q : St → Prop) (s1 : Int32) (S : St) : Prop :=
  wp2_put S s1 (fun S1 => Q S1)
def wp2_goOverSelect (S : St)  (Q : St → Prop) : Prop :=
  wp2_take S 1 (fun r1 S1 => wp2_take S1 4 (fun r2 S2 => wp2_take S2 r2 (fun r3 S3 => (¬ r2 = 4 → wp2_goOverSelect_29 Q r2 S3) ∧ (r2 = 4 → wp2_goOverSelect_29 Q r3 S3))))
-- StackForge$Checker.goOverGlobal(II)V
def wp2_goOverGlobal (S : St) (x1 : Int32) (x2 : Int32) (Q : St → Prop) : Prop :=
  ∀ x3_1 : Int32, x3_1 = x2 + 1 → (x3_1 ≤ 3 → (¬ x1 = 18 → wp2_take S x3_1 (fun r1 S1 => Q S1)) ∧ (x1 = 18 → wp2_put S x3_1 (fun S2 => Q S2))) ∧ (¬ x3_1 ≤ 3 → ∀ S3, S3 = sI S 1207 0 1 → Q S3)
-- StackForge$Checker.goOverVariable(II)V
def wp2_goOverVariable_22 (x1 : Int32) (x2 : Int32) (Q : St → Prop)  (S : St) : Prop :=
  (x1 = 16 → Q S) ∧ (¬ x1 = 16 → wp2_put S x2 (fun S1 => Q S1))
def wp2_goOverVariable (S : St) (x1 : Int32) (x2 : Int32) (Q : St → Prop) : Prop :=
  (¬ x2 = 0 → (x1 = 15 → wp2_goOverVariable_22 x1 x2 Q S) ∧ (¬ x1 = 15 → wp2_take S x2 (fun r1 S1 => wp2_goOverVariable_22 x1 x2 Q S1))) ∧ (x2 = 0 → ∀ S2, S2 = sI S 1207 0 1 → Q S2)
-- StackForge$Checker.goOverValues(II)V
def wp2_goOverValues (S : St) (x1 : Int32) (x2 : Int32) (Q : St → Prop) : Prop :=
  (x1 = 11 → wp2_goOverCall S x2 1 (fun S1 => Q S1)) ∧ (¬ x1 = 11 → (x1 = 12 → wp2_take S 1 (fun r1 S2 => wp2_goOverCall S2 x2 0 (fun S3 => Q S3))) ∧ (¬ x1 = 12 → (x1 = 13 → wp2_take S 4 (fun r2 S4 => Q S4)) ∧ (¬ x1 = 13 → (x1 = 14 → wp2_goOverSelect S (fun S5 => Q S5)) ∧ (¬ x1 = 14 → (x1 = 18 → wp2_goOverGlobal S x1 x2 (fun S6 => Q S6)) ∧ (¬ x1 = 18 → (x1 = 19 → wp2_goOverGlobal S x1 x2 (fun S7 => Q S7)) ∧ (¬ x1 = 19 → gR S 1203 0 < 6 ∧ wp4_kindOf S (gR S 1203 0) x2 (fun r3 S8 => wp2_goOverVariable S8 x1 r3 (fun S9 => Q S9))))))))
-- StackForge$Checker.goOverSignature(I)V
def wp2_goOverSignature (S : St) (x1 : Int32) (Q : St → Prop) : Prop :=
  wp2_take S (x1 / 100) (fun r1 S1 => wp2_take S1 ((x1 / 10) - (x1 / 10) / 10 * 10) (fun r2 S2 => wp2_put S2 (x1 - x1 / 10 * 10) (fun S3 => Q S3)))
-- StackForge$Checker.goOver(I)V
def wp2_goOver (S : St) (x1 : Int32) (Q : St → Prop) : Prop :=
  gR S 1203 0 < 6 ∧ wp4_byteAt S (gR S 1203 0) x1 (fun r1 S1 => gR S1 1203 0 < 6 ∧ wp4_byteAt S1 (gR S1 1203 0) (x1 + 1) (fun r2 S2 => (6 < r1 → (10 < r1 → (19 < r1 → wp5_signature S2 r1 (fun r3 S3 => wp2_goOverSignature S3 r3 (fun S4 => Q S4))) ∧ (¬ 19 < r1 → wp2_goOverValues S2 r1 r2 (fun S5 => Q S5))) ∧ (¬ 10 < r1 → wp2_goOverJumps S2 x1 r1 r2 (fun S6 => Q S6))) ∧ (¬ 6 < r1 → wp2_goOverFrames S2 x1 r1 r2 (fun S7 => Q S7))))
-- StackForge$Checker.faultIn(LStackForge$Function;)I
def wp2_faultIn_125 (a1 : Nat) (Q : Int32 → St → Prop)  (S : St) : Prop :=
  (¬ (gI S 1206 0) = 0 → gR S 1203 0 < 6 ∧ wp4_length S (gR S 1203 0) (fun r1 S1 => Q r1 S1)) ∧ ((gI S 1206 0) = 0 → Q (-1) S)
def wp2_faultIn_37 (a1 : Nat) (Q : Int32 → St → Prop) : Nat → Int32 → Int32 → St → Prop
  | 0, _, _, _ => False
  | n + 1, x2, x3, S => (60 ≤ x3 → wp2_faultIn_125 a1 Q S) ∧ (¬ 60 ≤ x3 → gR S 1203 0 < 6 ∧ wp4_length S (gR S 1203 0) (fun r1 S1 => (r1 ≤ x2 → wp2_faultIn_125 a1 Q S1) ∧ (¬ r1 ≤ x2 → gR S1 1203 0 < 6 ∧ wp4_sizeAt S1 (gR S1 1203 0) x2 (fun r2 S2 => ((gI S2 1206 0) = 0 → Q x2 S2) ∧ (¬ (gI S2 1206 0) = 0 → (¬ r2 = 0 → gR S2 1203 0 < 6 ∧ wp4_length S2 (gR S2 1203 0) (fun r3 S3 => ((x2 + r2) ≤ r3 → wp2_goOver S3 x2 (fun S4 => ((gI S4 1207 0) = 0 → ∀ x2_1 : Int32, x2_1 = x2 + r2 → ∀ x3_1 : Int32, x3_1 = x3 + 1 → wp2_faultIn_37 a1 Q n x2_1 x3_1 S4) ∧ (¬ (gI S4 1207 0) = 0 → Q x2 S4))) ∧ (¬ (x2 + r2) ≤ r3 → gR S3 1203 0 < 6 ∧ wp4_length S3 (gR S3 1203 0) (fun r4 S5 => Q r4 S5)))) ∧ (r2 = 0 → Q x2 S2))))))
def wp2_faultIn (S : St) (a1 : Nat) (Q : Int32 → St → Prop) : Prop :=
  ∀ S1, S1 = sR S 1203 0 a1 → ∀ S2, S2 = sI S1 1205 0 0 → ∀ S3, S3 = sI S2 1206 0 0 → ∀ S4, S4 = sI S3 1207 0 0 → gR S4 1203 0 < 6 ∧ wp4_outcome S4 (gR S4 1203 0) (fun r1 S5 => wp2_beginFrame S5 (-1) 2 r1 (fun S6 => ∃ n, wp2_faultIn_37 a1 Q n 0 0 S6))
-- StackForge$Function.addVariable(I)V
def wp4_addVariable (S : St) (o : Nat) (x1 : Int32) (Q : St → Prop) : Prop :=
  (x1 = 0 → Q S) ∧ (¬ x1 = 0 → (6 ≤ (gI S 1405 o) → Q S) ∧ (¬ 6 ≤ (gI S 1405 o) → vp_in (gI S 1405 o) 6 ∧ ∀ S1, S1 = sA S 1400 o ((gI S 1405 o).toNatClampNeg) x1 → ∀ S2, S2 = sI S1 1405 o ((gI S1 1405 o) + 1) → Q S2))
-- StackForge$Function.addVariables(I)V
def wp4_addVariables (S : St) (o : Nat) (x1 : Int32) (Q : St → Prop) : Prop :=
  wp4_addVariable S o (x1 / 100) (fun S1 => wp4_addVariable S1 o ((x1 / 10) - (x1 / 10) / 10 * 10) (fun S2 => wp4_addVariable S2 o (x1 - x1 / 10 * 10) (fun S3 => Q S3)))
-- StackForge$Function.reshape(III)V
def wp4_reshape (S : St) (o : Nat) (x1 : Int32) (x2 : Int32) (x3 : Int32) (Q : St → Prop) : Prop :=
  ∀ S1, S1 = sI S 1405 o 0 → wp4_addVariables S1 o x1 (fun S2 => ∀ S3, S3 = sI S2 1404 o (gI S2 1405 o) → wp4_addVariables S3 o x3 (fun S4 => ∀ S5, S5 = sI S4 1406 o x2 → ∀ S6, S6 = sI S5 1407 o 0 → Q S6))
-- StackForge$Function.variableCount()I
def wp4_variableCount (S : St) (o : Nat) (Q : Int32 → St → Prop) : Prop :=
  Q (gI S 1405 o) S
-- StackForge$Function.isCalledLike(LStackForge$Function;)Z
def wp4_isCalledLike_26 (o : Nat) (a1 : Nat) (Q : Int32 → St → Prop) : Nat → Int32 → St → Prop
  | 0, _, _ => False
  | n + 1, x2, S => ((gI S 1404 o) ≤ x2 → Q 1 S) ∧ (¬ (gI S 1404 o) ≤ x2 → wp4_kindOf S o x2 (fun r1 S1 => wp4_kindOf S1 a1 x2 (fun r2 S2 => (r1 = r2 → ∀ x2_1 : Int32, x2_1 = x2 + 1 → wp4_isCalledLike_26 o a1 Q n x2_1 S2) ∧ (¬ r1 = r2 → Q 0 S2))))
def wp4_isCalledLike (S : St) (o : Nat) (a1 : Nat) (Q : Int32 → St → Prop) : Prop :=
  (¬ (gI S 1404 o) = (gI S 1404 a1) → Q 0 S) ∧ ((gI S 1404 o) = (gI S 1404 a1) → ((gI S 1406 o) = (gI S 1406 a1) → (∃ n, wp4_isCalledLike_26 o a1 Q n 0 S)) ∧ (¬ (gI S 1406 o) = (gI S 1406 a1) → Q 0 S))
-- StackForge$Function.append(I)V
def wp4_append (S : St) (o : Nat) (x1 : Int32) (Q : St → Prop) : Prop :=
  (60 ≤ (gI S 1407 o) → Q S) ∧ (¬ 60 ≤ (gI S 1407 o) → vp_in (gI S 1407 o) 60 ∧ ∀ S1, S1 = sA S 1401 o ((gI S 1407 o).toNatClampNeg) x1 → ∀ S2, S2 = sI S1 1407 o ((gI S1 1407 o) + 1) → Q S2)
-- StackForge$Machine.outcomeKind()I
def wp6_outcomeKind (S : St)  (Q : Int32 → St → Prop) : Prop :=
  Q (gI S 1606 0) S
-- StackForge$Machine.outcomeNumber()J
def wp6_outcomeNumber (S : St)  (Q : Int64 → St → Prop) : Prop :=
  wp1_numberAt S 13 0 (fun r1 S1 => Q r1 S1)
-- StackForge$Machine.outcomeReal()D
def wp6_outcomeReal (S : St)  (Q : UInt64 → St → Prop) : Prop :=
  wp1_realAt S 13 0 (fun r1 S1 => Q r1 S1)
-- StackForge$Machine.begin(LStackForge$Function;[I)V
def wp6_begin_17 (a1 : Nat) (Q : St → Prop) : Nat → Int32 → St → Prop
  | 0, _, _ => False
  | n + 1, x3, S => wp4_parameterCount S a1 (fun r1 S1 => (r1 ≤ x3 → Q S1) ∧ (¬ r1 ≤ x3 → ((nI 3) ≤ x3 → Q S1) ∧ (¬ (nI 3) ≤ x3 → vp_in x3 3 ∧ wp0_setParameter S1 ((0 : Int32).toNatClampNeg) x3 (gA S1 1802 0 x3.toNatClampNeg) (fun S2 => ∀ x3_1 : Int32, x3_1 = x3 + 1 → wp6_begin_17 a1 Q n x3_1 S2))))
def wp6_begin (S : St) (a1 : Nat) (Q : St → Prop) : Prop :=
  ∀ S1, S1 = sI S 1607 0 1 → wp0_begin S1 ((0 : Int32).toNatClampNeg) a1 (fun S2 => ∃ n, wp6_begin_17 a1 Q n 0 S2)
-- StackForge$Machine.leave(LStackForge$Call;)V
def wp6_leave_45 (a1 : Nat) (Q : St → Prop) (x2 : Int32) (x3 : Int32) (S : St) : Prop :=
  ∀ S1, S1 = sI S 1607 0 0 → ∀ S2, S2 = sI S1 1606 0 x2 → wp1_setFrom S2 13 0 (2 * a1) x3 (fun S3 => Q S3)
def wp6_leave (S : St) (a1 : Nat) (Q : St → Prop) : Prop :=
  gR S 1004 a1 < 6 ∧ wp4_outcome S (gR S 1004 a1) (fun r1 S1 => wp1_height S1 (2 * a1) (fun r2 S2 => ∀ x3_1 : Int32, x3_1 = r2 - 1 → ∀ S3, S3 = sI S2 1607 0 ((gI S2 1607 0) - 1) → ((gI S3 1607 0) < 1 → wp6_leave_45 a1 Q r1 x3_1 S3) ∧ (¬ (gI S3 1607 0) < 1 → ((gI S3 1607 0) ≤ 6 → (r1 = 0 → Q S3) ∧ (¬ r1 = 0 → vp_in ((gI S3 1607 0) - 1) 6 ∧ wp1_putFrom S3 (2 * (((gI S3 1607 0) - 1).toNatClampNeg)) (2 * a1) x3_1 (fun S4 => Q S4))) ∧ (¬ (gI S3 1607 0) ≤ 6 → wp6_leave_45 a1 Q r1 x3_1 S3))))
-- StackForge$Machine.stepFrames(LStackForge$Call;II)I
def wp6_stepFrames (S : St) (a1 : Nat) (x2 : Int32) (x3 : Int32) (Q : Int32 → St → Prop) : Prop :=
  (x3 = 0 → Q 1 S) ∧ (¬ x3 = 0 → (x3 = 2 → wp0_beginFrame S a1 x2 (fun S1 => Q 0 S1)) ∧ (¬ x3 = 2 → (x3 = 3 → wp0_beginFrame S a1 x2 (fun S2 => Q 0 S2)) ∧ (¬ x3 = 3 → (x3 = 4 → wp0_beginIf S a1 x2 (fun S3 => Q 0 S3)) ∧ (¬ x3 = 4 → (x3 = 5 → wp0_goBehindEnd S a1 (fun S4 => Q 0 S4)) ∧ (¬ x3 = 5 → (x3 = 6 → wp0_endFrame S a1 (fun S5 => (0 < (gI S5 1006 a1) → Q 0 S5) ∧ (¬ 0 < (gI S5 1006 a1) → wp6_leave S5 a1 (fun S6 => Q 0 S6)))) ∧ (¬ x3 = 6 → Q 0 S))))))
-- StackForge$Machine.jump(LStackForge$Call;I)V
def wp6_jump (S : St) (a1 : Nat) (x2 : Int32) (Q : St → Prop) : Prop :=
  wp0_jumpsWithin S a1 x2 (fun r1 S1 => (¬ r1 = 0 → Q S1) ∧ (r1 = 0 → wp6_leave S1 a1 (fun S2 => Q S2)))
-- StackForge$Machine.chosenJump(LStackForge$Call;II)I
def wp6_chosenJump_26 (a1 : Nat) (x2 : Int32) (x3 : Int32) (Q : Int32 → St → Prop) (s0 : Int32) (S : St) : Prop :=
  gR S 1004 a1 < 6 ∧ wp4_byteAt S (gR S 1004 a1) ((x2 + 2) + s0) (fun r1 S1 => Q r1 S1)
def wp6_chosenJump_25 (a1 : Nat) (x2 : Int32) (x3 : Int32) (Q : Int32 → St → Prop)  (S : St) : Prop :=
  wp6_chosenJump_26 a1 x2 x3 Q x3 S
def wp6_chosenJump (S : St) (a1 : Nat) (x2 : Int32) (x3 : Int32) (Q : Int32 → St → Prop) : Prop :=
  wp1_takeInt S (2 * a1) (fun r1 S1 => (r1 < 0 → wp6_chosenJump_25 a1 x2 x3 Q S1) ∧ (¬ r1 < 0 → (x3 ≤ r1 → wp6_chosenJump_25 a1 x2 x3 Q S1) ∧ (¬ x3 ≤ r1 → wp6_chosenJump_26 a1 x2 x3 Q r1 S1)))
-- StackForge$Machine.stepJumps(LStackForge$Call;III)I
def wp6_stepJumps (S : St) (a1 : Nat) (x2 : Int32) (x3 : Int32) (x4 : Int32) (Q : Int32 → St → Prop) : Prop :=
  (x3 = 7 → wp6_jump S a1 x4 (fun S1 => Q 0 S1)) ∧ (¬ x3 = 7 → (x3 = 8 → wp1_takeInt S (2 * a1) (fun r1 S2 => (r1 = 0 → Q 0 S2) ∧ (¬ r1 = 0 → wp6_jump S2 a1 x4 (fun S3 => Q 0 S3)))) ∧ (¬ x3 = 8 → (x3 = 9 → wp6_chosenJump S a1 x2 x4 (fun r2 S4 => wp6_jump S4 a1 r2 (fun S5 => Q 0 S5))) ∧ (¬ x3 = 9 → wp6_leave S a1 (fun S6 => Q 0 S6))))
-- StackForge$Machine.enter(LStackForge$Call;LStackForge$Function;)I
def wp6_enter (S : St) (a1 : Nat) (a2 : Nat) (Q : Int32 → St → Prop) : Prop :=
  ((gI S 1607 0) < 0 → Q 1 S) ∧ (¬ (gI S 1607 0) < 0 → ((gI S 1607 0) < 6 → vp_in (gI S 1607 0) 6 ∧ wp0_begin S ((gI S 1607 0).toNatClampNeg) a2 (fun S1 => vp_in (gI S1 1607 0) 6 ∧ wp0_takeParametersFrom S1 ((gI S1 1607 0).toNatClampNeg) (2 * a1) (fun S2 => ∀ S3, S3 = sI S2 1607 0 ((gI S2 1607 0) + 1) → Q 0 S3))) ∧ (¬ (gI S 1607 0) < 6 → Q 1 S))
-- StackForge$Machine.stepCalls(LStackForge$Call;II)I
def wp6_stepCalls (S : St) (a1 : Nat) (x2 : Int32) (x3 : Int32) (Q : Int32 → St → Prop) : Prop :=
  wp8_isFunction S x3 (fun r1 S1 => (¬ r1 = 0 → (¬ x2 = 11 → wp1_takeInt S1 (2 * a1) (fun r2 S2 => (r2 < 0 → Q 4 S2) ∧ (¬ r2 < 0 → (8 ≤ r2 → Q 4 S2) ∧ (¬ 8 ≤ r2 → vp_in r2 8 ∧ wp8_isFunction S2 (gA S2 1801 0 r2.toNatClampNeg) (fun r3 S3 => (¬ r3 = 0 → vp_in r2 8 ∧ vp_in (gA S3 1801 0 r2.toNatClampNeg) 6 ∧ wp4_length S3 ((gA S3 1801 0 r2.toNatClampNeg).toNatClampNeg) (fun r4 S4 => (r4 = 0 → Q 4 S4) ∧ (¬ r4 = 0 → vp_in x3 6 ∧ wp4_isCalledLike S4 ((gA S3 1801 0 r2.toNatClampNeg).toNatClampNeg) x3.toNatClampNeg (fun r5 S5 => (¬ r5 = 0 → wp6_enter S5 a1 ((gA S3 1801 0 r2.toNatClampNeg).toNatClampNeg) (fun r6 S6 => Q r6 S6)) ∧ (r5 = 0 → Q 4 S5))))) ∧ (r3 = 0 → Q 4 S3)))))) ∧ (x2 = 11 → vp_in x3 6 ∧ wp6_enter S1 a1 x3.toNatClampNeg (fun r7 S7 => Q r7 S7))) ∧ (r1 = 0 → Q 4 S1))
-- StackForge$Machine.select(LStackForge$Cells;)V
def wp6_select_33 (a1 : Nat) (Q : St → Prop)  (S : St) : Prop :=
  wp1_drop S a1 (fun S1 => Q S1)
def wp6_select_12 (a1 : Nat) (Q : St → Prop) (s0 : Int32) (S : St) : Prop :=
  wp1_height S a1 (fun r1 S1 => ∀ x3_1 : Int32, x3_1 = r1 - 1 → (¬ s0 = 0 → wp6_select_33 a1 Q S1) ∧ (s0 = 0 → wp1_setFrom S1 a1 (x3_1 - 1) a1 x3_1 (fun S2 => wp6_select_33 a1 Q S2)))
def wp6_select (S : St) (a1 : Nat) (Q : St → Prop) : Prop :=
  wp1_takeInt S a1 (fun r1 S1 => (r1 = 0 → wp6_select_12 a1 Q 0 S1) ∧ (¬ r1 = 0 → wp6_select_12 a1 Q 1 S1))
-- StackForge$Machine.stepValues(LStackForge$Call;II)I
def wp6_stepValues (S : St) (a1 : Nat) (x2 : Int32) (x3 : Int32) (Q : Int32 → St → Prop) : Prop :=
  wp1_height S (2 * a1) (fun r1 S1 => ∀ x5_1 : Int32, x5_1 = r1 - 1 → (x2 = 13 → wp1_drop S1 (2 * a1) (fun S2 => Q 0 S2)) ∧ (¬ x2 = 13 → (x2 = 14 → wp6_select S1 (2 * a1) (fun S3 => Q 0 S3)) ∧ (¬ x2 = 14 → (x2 = 15 → wp1_putFrom S1 (2 * a1) (2 * a1 + 1) x3 (fun S4 => Q 0 S4)) ∧ (¬ x2 = 15 → (x2 = 16 → wp1_setFrom S1 (2 * a1 + 1) x3 (2 * a1) x5_1 (fun S5 => wp1_drop S5 (2 * a1) (fun S6 => Q 0 S6))) ∧ (¬ x2 = 16 → (x2 = 17 → wp1_setFrom S1 (2 * a1 + 1) x3 (2 * a1) x5_1 (fun S7 => Q 0 S7)) ∧ (¬ x2 = 17 → (x2 = 18 → wp1_putFrom S1 (2 * a1) 12 x3 (fun S8 => Q 0 S8)) ∧ (¬ x2 = 18 → (x2 = 19 → wp1_setFrom S1 12 x3 (2 * a1) x5_1 (fun S9 => wp1_drop S9 (2 * a1) (fun S10 => Q 0 S10))) ∧ (¬ x2 = 19 → (x2 = 22 → vf_n64 (FP.dmul (FP.i2d x3.toInt8.toInt32) (4593671619917905920 : UInt64)) ∧ wp1_putReal S1 (2 * a1) (FP.dmul (FP.i2d x3.toInt8.toInt32) (4593671619917905920 : UInt64)) (fun S11 => Q 0 S11)) ∧ (¬ x2 = 22 → wp1_putNumber S1 (2 * a1) x3.toInt8.toInt32.toInt64 (fun S12 => Q 0 S12))))))))))
-- StackForge$Machine.sizeInMemory(I)I
def wp6_sizeInMemory (S : St) (x0 : Int32) (Q : Int32 → St → Prop) : Prop :=
  (x0 = 24 → Q 1 S) ∧ (¬ x0 = 24 → (x0 = 25 → Q 8 S) ∧ (¬ x0 = 25 → (x0 = 27 → Q 1 S) ∧ (¬ x0 = 27 → (x0 = 28 → Q 8 S) ∧ (¬ x0 = 28 → Q 4 S))))
-- StackForge$Memory.holds(JI)Z
def wp7_holds (S : St) (x1 : Int64) (x3 : Int32) (Q : Int32 → St → Prop) : Prop :=
  ((lg_cmp x1 0) < 0 → Q 0 S) ∧ (¬ (lg_cmp x1 0) < 0 → (0 < (lg_cmp (x1 + x3.toInt64) (64 : Int64)) → Q 0 S) ∧ (¬ 0 < (lg_cmp (x1 + x3.toInt64) (64 : Int64)) → Q 1 S))
-- StackForge$Memory.store(IIJ)V
def wp7_store_46 (K : Int32 → St → Prop) (x1 : Int32) (x2 : Int32) (x3 : Int64) (Q : St → Prop) (x5 : Int32) (S : St) : Prop :=
  ∀ x5_1 : Int32, x5_1 = x5 + 1 → K x5_1 S
def wp7_store_3 (x1 : Int32) (x2 : Int32) (x3 : Int64) (Q : St → Prop) : Nat → Int32 → St → Prop
  | 0, _, _ => False
  | n + 1, x5, S => (x2 ≤ x5 → Q S) ∧ (¬ x2 ≤ x5 → ((x1 + x5) < 0 → wp7_store_46 (fun k0 S9 => wp7_store_3 x1 x2 x3 Q n k0 S9) x1 x2 x3 Q x5 S) ∧ (¬ (x1 + x5) < 0 → (64 ≤ (x1 + x5) → wp7_store_46 (fun k0 S9 => wp7_store_3 x1 x2 x3 Q n k0 S9) x1 x2 x3 Q x5 S) ∧ (¬ 64 ≤ (x1 + x5) → vp_in (x1 + x5) 64 ∧ ∀ S1, S1 = sA S 1700 0 ((x1 + x5).toNatClampNeg) (((jlushr x3 (8 * x5)).toInt32) &&& 255) → wp7_store_46 (fun k0 S9 => wp7_store_3 x1 x2 x3 Q n k0 S9) x1 x2 x3 Q x5 S1)))
def wp7_store (S : St) (x1 : Int32) (x2 : Int32) (x3 : Int64) (Q : St → Prop) : Prop :=
  ∃ n, wp7_store_3 x1 x2 x3 Q n 0 S
-- StackForge$Memory.byteAt(I)I
def wp7_byteAt (S : St) (x1 : Int32) (Q : Int32 → St → Prop) : Prop :=
  (x1 < 0 → Q 0 S) ∧ (¬ x1 < 0 → (64 ≤ x1 → Q 0 S) ∧ (¬ 64 ≤ x1 → vp_in x1 64 ∧ Q (gA S 1700 0 x1.toNatClampNeg) S))
-- StackForge$Memory.load(II)J
def wp7_load_7 (x1 : Int32) (x2 : Int32) (Q : Int64 → St → Prop) : Nat → Int64 → Int32 → St → Prop
  | 0, _, _, _ => False
  | n + 1, x3, x5, S => (x5 < 0 → Q x3 S) ∧ (¬ x5 < 0 → wp7_byteAt S (x1 + x5) (fun r1 S1 => ∀ x3_1 : Int64, x3_1 = (jlshl x3 8) ||| r1.toInt64 → ∀ x5_1 : Int32, x5_1 = x5 + (-1) → wp7_load_7 x1 x2 Q n x3_1 x5_1 S1))
def wp7_load (S : St) (x1 : Int32) (x2 : Int32) (Q : Int64 → St → Prop) : Prop :=
  ∀ x5_1 : Int32, x5_1 = x2 - 1 → ∃ n, wp7_load_7 x1 x2 Q n 0 x5_1 S
-- StackForge$Machine.stepMemory(LStackForge$Cells;II)I
def wp6_stepMemory_26 (a1 : Nat) (x2 : Int32) (x3 : Int32) (Q : Int32 → St → Prop) (x4 : Int32) (s0 : Int64) (S : St) : Prop :=
  wp1_takeInt S a1 (fun r1 S1 => ∀ x7_1 : Int64, x7_1 = r1.toInt64 + x3.toInt64 → wp6_sizeInMemory S1 x2 (fun r2 S2 => wp7_holds S2 x7_1 r2 (fun r3 S3 => (¬ r3 = 0 → (x4 = 0 → (¬ x2 = 23 → wp7_load S3 x7_1.toInt32 r2 (fun r4 S4 => wp1_putNumber S4 a1 r4 (fun S5 => Q 0 S5))) ∧ (x2 = 23 → wp7_load S3 x7_1.toInt32 r2 (fun r5 S6 => wp1_putNumber S6 a1 r5.toInt32.toInt64 (fun S7 => Q 0 S7)))) ∧ (¬ x4 = 0 → wp7_store S3 x7_1.toInt32 r2 s0 (fun S8 => Q 0 S8))) ∧ (r3 = 0 → Q 3 S3))))
def wp6_stepMemory_11 (a1 : Nat) (x2 : Int32) (x3 : Int32) (Q : Int32 → St → Prop) (s0 : Int32) (S : St) : Prop :=
  (s0 = 0 → wp6_stepMemory_26 a1 x2 x3 Q s0 0 S) ∧ (¬ s0 = 0 → wp1_takeNumber S a1 (fun r1 S1 => wp6_stepMemory_26 a1 x2 x3 Q s0 r1 S1))
def wp6_stepMemory (S : St) (a1 : Nat) (x2 : Int32) (x3 : Int32) (Q : Int32 → St → Prop) : Prop :=
  (x2 < 26 → wp6_stepMemory_11 a1 x2 x3 Q 0 S) ∧ (¬ x2 < 26 → wp6_stepMemory_11 a1 x2 x3 Q 1 S)
-- StackForge$Machine.ofInts(III)I
def wp6_ofInts (S : St) (x0 : Int32) (x1 : Int32) (x2 : Int32) (Q : Int32 → St → Prop) : Prop :=
  (x0 = 30 → Q (x1 + x2) S) ∧ (¬ x0 = 30 → (x0 = 31 → Q (x1 - x2) S) ∧ (¬ x0 = 31 → (x0 = 32 → Q (x1 * x2) S) ∧ (¬ x0 = 32 → (x0 = 35 → Q (x1 &&& x2) S) ∧ (¬ x0 = 35 → (x0 = 36 → Q (x1 ||| x2) S) ∧ (¬ x0 = 36 → (x0 = 37 → Q (x1 ^^^ x2) S) ∧ (¬ x0 = 37 → (x0 = 38 → Q (x1 <<< (x2 &&& 31)) S) ∧ (¬ x0 = 38 → (x0 = 39 → Q (x1 >>> (x2 &&& 31)) S) ∧ (¬ x0 = 39 → (x0 = 40 → Q (jushr x1 x2) S) ∧ (¬ x0 = 40 → (x0 = 41 → (¬ x1 = x2 → Q 0 S) ∧ (x1 = x2 → Q 1 S)) ∧ (¬ x0 = 41 → (x0 = 42 → (x1 = x2 → Q 0 S) ∧ (¬ x1 = x2 → Q 1 S)) ∧ (¬ x0 = 42 → (x0 = 43 → (x2 ≤ x1 → Q 0 S) ∧ (¬ x2 ≤ x1 → Q 1 S)) ∧ (¬ x0 = 43 → (0 ≤ (lg_cmp (x1.toInt64 &&& (4294967295 : Int64)) (x2.toInt64 &&& (4294967295 : Int64))) → Q 0 S) ∧ (¬ 0 ≤ (lg_cmp (x1.toInt64 &&& (4294967295 : Int64)) (x2.toInt64 &&& (4294967295 : Int64))) → Q 1 S)))))))))))))
-- StackForge$Machine.stepInts(LStackForge$Cells;I)I
def wp6_stepInts_67 (a0 : Nat) (x1 : Int32) (Q : Int32 → St → Prop) (t0 : Nat) (s1 : Int64) (S : St) : Prop :=
  wp1_putNumber S t0 s1 (fun S1 => Q 0 S1)
def wp6_stepInts_43 (a0 : Nat) (x1 : Int32) (Q : Int32 → St → Prop) (x2 : Int32) (x3 : Int32) (S : St) : Prop :=
  (¬ x2 = 0 → (¬ x1 = 33 → ¬ x2 = 0 ∧ wp6_stepInts_67 a0 x1 Q a0 ((x3 - x3 / x2 * x2).toInt64) S) ∧ (x1 = 33 → ¬ x2 = 0 ∧ wp6_stepInts_67 a0 x1 Q a0 ((x3 / x2).toInt64) S)) ∧ (x2 = 0 → Q 2 S)
def wp6_stepInts_21 (a0 : Nat) (x1 : Int32) (Q : Int32 → St → Prop) (t0 : Nat) (s1 : Int32) (S : St) : Prop :=
  wp1_putTruth S t0 s1 (fun S1 => Q 0 S1)
def wp6_stepInts (S : St) (a0 : Nat) (x1 : Int32) (Q : Int32 → St → Prop) : Prop :=
  wp1_takeInt S a0 (fun r1 S1 => (¬ x1 = 45 → wp1_takeInt S1 a0 (fun r2 S2 => (x1 = 33 → wp6_stepInts_43 a0 x1 Q r1 r2 S2) ∧ (¬ x1 = 33 → (¬ x1 = 34 → wp6_ofInts S2 x1 r2 r1 (fun r3 S3 => wp1_putNumber S3 a0 r3.toInt64 (fun S4 => Q 0 S4))) ∧ (x1 = 34 → wp6_stepInts_43 a0 x1 Q r1 r2 S2)))) ∧ (x1 = 45 → (¬ r1 = 0 → wp6_stepInts_21 a0 x1 Q a0 0 S1) ∧ (r1 = 0 → wp6_stepInts_21 a0 x1 Q a0 1 S1)))
-- StackForge$Machine.ofLongs(IJJ)J
def wp6_ofLongs (S : St) (x0 : Int32) (x1 : Int64) (x3 : Int64) (Q : Int64 → St → Prop) : Prop :=
  (x0 = 50 → Q (x1 + x3) S) ∧ (¬ x0 = 50 → (x0 = 51 → Q (x1 - x3) S) ∧ (¬ x0 = 51 → (x0 = 52 → Q (x1 * x3) S) ∧ (¬ x0 = 52 → (x0 = 55 → Q (x1 &&& x3) S) ∧ (¬ x0 = 55 → (x0 = 56 → Q (x1 ||| x3) S) ∧ (¬ x0 = 56 → (x0 = 57 → Q (x1 ^^^ x3) S) ∧ (¬ x0 = 57 → (x0 = 58 → Q (jlshl x1 x3.toInt32) S) ∧ (¬ x0 = 58 → (x0 = 59 → Q (jlshr x1 x3.toInt32) S) ∧ (¬ x0 = 59 → (x0 = 60 → Q (jlushr x1 x3.toInt32) S) ∧ (¬ x0 = 60 → (x0 = 61 → (¬ (lg_cmp x1 x3) = 0 → Q 0 S) ∧ ((lg_cmp x1 x3) = 0 → Q 1 S)) ∧ (¬ x0 = 61 → (x0 = 62 → ((lg_cmp x1 x3) = 0 → Q 0 S) ∧ (¬ (lg_cmp x1 x3) = 0 → Q 1 S)) ∧ (¬ x0 = 62 → (0 ≤ (lg_cmp x1 x3) → Q 0 S) ∧ (¬ 0 ≤ (lg_cmp x1 x3) → Q 1 S))))))))))))
-- StackForge$Machine.stepLongs(LStackForge$Cells;I)I
def wp6_stepLongs_72 (a0 : Nat) (x1 : Int32) (Q : Int32 → St → Prop) (t0 : Nat) (s1 : Int64) (S : St) : Prop :=
  wp1_putNumber S t0 s1 (fun S1 => Q 0 S1)
def wp6_stepLongs_46 (a0 : Nat) (x1 : Int32) (Q : Int32 → St → Prop) (x2 : Int64) (x4 : Int64) (S : St) : Prop :=
  (¬ (lg_cmp x2 0) = 0 → (¬ x1 = 53 → ¬ x2 = 0 ∧ wp6_stepLongs_72 a0 x1 Q a0 (x4 - x4 / x2 * x2) S) ∧ (x1 = 53 → ¬ x2 = 0 ∧ wp6_stepLongs_72 a0 x1 Q a0 (x4 / x2) S)) ∧ ((lg_cmp x2 0) = 0 → Q 2 S)
def wp6_stepLongs_23 (a0 : Nat) (x1 : Int32) (Q : Int32 → St → Prop) (t0 : Nat) (s1 : Int32) (S : St) : Prop :=
  wp1_putTruth S t0 s1 (fun S1 => Q 0 S1)
def wp6_stepLongs (S : St) (a0 : Nat) (x1 : Int32) (Q : Int32 → St → Prop) : Prop :=
  wp1_takeNumber S a0 (fun r1 S1 => (¬ x1 = 64 → wp1_takeNumber S1 a0 (fun r2 S2 => (x1 = 53 → wp6_stepLongs_46 a0 x1 Q r1 r2 S2) ∧ (¬ x1 = 53 → (¬ x1 = 54 → wp6_ofLongs S2 x1 r2 r1 (fun r3 S3 => wp1_putNumber S3 a0 r3 (fun S4 => Q 0 S4))) ∧ (x1 = 54 → wp6_stepLongs_46 a0 x1 Q r1 r2 S2)))) ∧ (x1 = 64 → (¬ (lg_cmp r1 0) = 0 → wp6_stepLongs_23 a0 x1 Q a0 0 S1) ∧ ((lg_cmp r1 0) = 0 → wp6_stepLongs_23 a0 x1 Q a0 1 S1)))
-- StackForge$Machine.ofReals(IDD)D
def wp6_ofReals (S : St) (x0 : Int32) (x1 : UInt64) (x3 : UInt64) (Q : UInt64 → St → Prop) : Prop :=
  (x0 = 70 → vf_n64 (FP.dadd x1 x3) ∧ Q (FP.dadd x1 x3) S) ∧ (¬ x0 = 70 → (x0 = 71 → vf_n64 (FP.dsub x1 x3) ∧ Q (FP.dsub x1 x3) S) ∧ (¬ x0 = 71 → (x0 = 72 → vf_n64 (FP.dmul x1 x3) ∧ Q (FP.dmul x1 x3) S) ∧ (¬ x0 = 72 → (¬ (Op.cmpValue (FP.dcmp x3 FP.dconst0) .l) = 0 → vf_n64 (FP.ddiv x1 x3) ∧ Q (FP.ddiv x1 x3) S) ∧ ((Op.cmpValue (FP.dcmp x3 FP.dconst0) .l) = 0 → Q FP.dconst0 S))))
-- StackForge$Machine.stepReals(LStackForge$Cells;I)I
def wp6_stepReals_86 (a0 : Nat) (x1 : Int32) (Q : Int32 → St → Prop) (t0 : Nat) (s1 : Int32) (S : St) : Prop :=
  wp1_putTruth S t0 s1 (fun S1 => Q 0 S1)
def wp6_stepReals_52 (a0 : Nat) (x1 : Int32) (Q : Int32 → St → Prop) (x2 : UInt64) (x4 : UInt64) (S : St) : Prop :=
  (¬ x1 = 74 → (0 ≤ (Op.cmpValue (FP.dcmp x4 x2) .g) → wp6_stepReals_86 a0 x1 Q a0 0 S) ∧ (¬ 0 ≤ (Op.cmpValue (FP.dcmp x4 x2) .g) → wp6_stepReals_86 a0 x1 Q a0 1 S)) ∧ (x1 = 74 → (¬ (Op.cmpValue (FP.dcmp x4 x2) .l) = 0 → wp6_stepReals_86 a0 x1 Q a0 0 S) ∧ ((Op.cmpValue (FP.dcmp x4 x2) .l) = 0 → wp6_stepReals_86 a0 x1 Q a0 1 S))
def wp6_stepReals_40 (a0 : Nat) (x1 : Int32) (Q : Int32 → St → Prop) (x2 : UInt64) (x4 : UInt64) (S : St) : Prop :=
  (x1 = 74 → wp6_stepReals_52 a0 x1 Q x2 x4 S) ∧ (¬ x1 = 74 → (¬ x1 = 75 → wp6_ofReals S x1 x4 x2 (fun r1 S1 => (0 < (Op.cmpValue (FP.dcmp r1 (9094988921128908188 : UInt64)) .l) → Q 5 S1) ∧ (¬ 0 < (Op.cmpValue (FP.dcmp r1 (9094988921128908188 : UInt64)) .l) → (0 ≤ (Op.cmpValue (FP.dcmp r1 (18318360957983683996 : UInt64)) .g) → wp1_putReal S1 a0 r1 (fun S2 => Q 0 S2)) ∧ (¬ 0 ≤ (Op.cmpValue (FP.dcmp r1 (18318360957983683996 : UInt64)) .g) → Q 5 S1)))) ∧ (x1 = 75 → wp6_stepReals_52 a0 x1 Q x2 x4 S))
def wp6_stepReals (S : St) (a0 : Nat) (x1 : Int32) (Q : Int32 → St → Prop) : Prop :=
  wp1_takeReal S a0 (fun r1 S1 => (¬ x1 = 76 → wp1_takeReal S1 a0 (fun r2 S2 => (¬ x1 = 73 → wp6_stepReals_40 a0 x1 Q r1 r2 S2) ∧ (x1 = 73 → (¬ (Op.cmpValue (FP.dcmp r1 FP.dconst0) .l) = 0 → wp6_stepReals_40 a0 x1 Q r1 r2 S2) ∧ ((Op.cmpValue (FP.dcmp r1 FP.dconst0) .l) = 0 → Q 2 S2)))) ∧ (x1 = 76 → vf_n64 (FP.dsub FP.dconst0 r1) ∧ wp1_putReal S1 a0 (FP.dsub FP.dconst0 r1) (fun S3 => Q 0 S3)))
-- StackForge$Machine.cut(LStackForge$Cells;)I
def wp6_cut (S : St) (a0 : Nat) (Q : Int32 → St → Prop) : Prop :=
  wp1_takeReal S a0 (fun r1 S1 => (0 ≤ (Op.cmpValue (FP.dcmp r1 (4746794007248502784 : UInt64)) .l) → Q 5 S1) ∧ (¬ 0 ≤ (Op.cmpValue (FP.dcmp r1 (4746794007248502784 : UInt64)) .l) → (0 < (Op.cmpValue (FP.dcmp r1 (13970166044105375744 : UInt64)) .g) → wp1_putNumber S1 a0 ((FP.d2i r1).toInt64) (fun S2 => Q 0 S2)) ∧ (¬ 0 < (Op.cmpValue (FP.dcmp r1 (13970166044105375744 : UInt64)) .g) → Q 5 S1)))
-- StackForge$Machine.convert(LStackForge$Cells;I)I
def wp6_convert (S : St) (a0 : Nat) (x1 : Int32) (Q : Int32 → St → Prop) : Prop :=
  (x1 = 80 → wp1_takeInt S a0 (fun r1 S1 => wp1_putNumber S1 a0 r1.toInt64 (fun S2 => Q 0 S2))) ∧ (¬ x1 = 80 → (x1 = 82 → wp1_takeNumber S a0 (fun r2 S3 => wp1_putReal S3 a0 (FP.l2d r2) (fun S4 => Q 0 S4))) ∧ (¬ x1 = 82 → (x1 = 83 → wp6_cut S a0 (fun r3 S5 => Q r3 S5)) ∧ (¬ x1 = 83 → (x1 = 84 → wp1_takeNumber S a0 (fun r4 S6 => wp1_putReal S6 a0 (FP.l2d r4) (fun S7 => Q 0 S7))) ∧ (¬ x1 = 84 → (x1 = 85 → wp1_takeNumber S a0 (fun r5 S8 => wp1_putNumber S8 a0 (r5 &&& (4294967295 : Int64)) (fun S9 => Q 0 S9))) ∧ (¬ x1 = 85 → Q 0 S)))))
-- StackForge$Machine.stepNumbers(LStackForge$Cells;II)I
def wp6_stepNumbers (S : St) (a1 : Nat) (x2 : Int32) (x3 : Int32) (Q : Int32 → St → Prop) : Prop :=
  (28 < x2 → (45 < x2 → (64 < x2 → (76 < x2 → wp6_convert S a1 x2 (fun r1 S1 => Q r1 S1)) ∧ (¬ 76 < x2 → wp6_stepReals S a1 x2 (fun r2 S2 => Q r2 S2))) ∧ (¬ 64 < x2 → wp6_stepLongs S a1 x2 (fun r3 S3 => Q r3 S3))) ∧ (¬ 45 < x2 → wp6_stepInts S a1 x2 (fun r4 S4 => Q r4 S4))) ∧ (¬ 28 < x2 → wp6_stepMemory S a1 x2 x3 (fun r5 S5 => Q r5 S5))
-- StackForge$Machine.step()I
def wp6_step (S : St)  (Q : Int32 → St → Prop) : Prop :=
  ((gI S 1607 0) < 1 → Q 0 S) ∧ (¬ (gI S 1607 0) < 1 → ((gI S 1607 0) ≤ 6 → vp_in ((gI S 1607 0) - 1) 6 ∧ ∀ x2_1 : Int32, x2_1 = gI S 1005 (((gI S 1607 0) - 1).toNatClampNeg) → gR S 1004 (((gI S 1607 0) - 1).toNatClampNeg) < 6 ∧ wp4_byteAt S (gR S 1004 (((gI S 1607 0) - 1).toNatClampNeg)) x2_1 (fun r1 S1 => gR S1 1004 (((gI S 1607 0) - 1).toNatClampNeg) < 6 ∧ wp4_byteAt S1 (gR S1 1004 (((gI S 1607 0) - 1).toNatClampNeg)) (x2_1 + 1) (fun r2 S2 => gR S2 1004 (((gI S 1607 0) - 1).toNatClampNeg) < 6 ∧ wp4_sizeAt S2 (gR S2 1004 (((gI S 1607 0) - 1).toNatClampNeg)) x2_1 (fun r3 S3 => ∀ S4, S4 = sI S3 1005 (((gI S 1607 0) - 1).toNatClampNeg) (x2_1 + r3) → (6 < r1 → (10 < r1 → (12 < r1 → (22 < r1 → wp6_stepNumbers S4 (2 * (((gI S 1607 0) - 1).toNatClampNeg)) r1 r2 (fun r4 S5 => Q r4 S5)) ∧ (¬ 22 < r1 → wp6_stepValues S4 (((gI S 1607 0) - 1).toNatClampNeg) r1 r2 (fun r5 S6 => Q r5 S6))) ∧ (¬ 12 < r1 → wp6_stepCalls S4 (((gI S 1607 0) - 1).toNatClampNeg) r1 r2 (fun r6 S7 => Q r6 S7))) ∧ (¬ 10 < r1 → wp6_stepJumps S4 (((gI S 1607 0) - 1).toNatClampNeg) x2_1 r1 r2 (fun r7 S8 => Q r7 S8))) ∧ (¬ 6 < r1 → wp6_stepFrames S4 (((gI S 1607 0) - 1).toNatClampNeg) x2_1 r1 (fun r8 S9 => Q r8 S9)))))) ∧ (¬ (gI S 1607 0) ≤ 6 → Q 0 S))
-- StackForge$Memory.clear()I
def wp7_clear_29 (K : Int32 → Int32 → St → Prop)  (Q : Int32 → St → Prop) (x1 : Int32) (x2 : Int32) (S : St) : Prop :=
  ∀ x2_1 : Int32, x2_1 = x2 + 1 → K x1 x2_1 S
def wp7_clear_4  (Q : Int32 → St → Prop) : Nat → Int32 → Int32 → St → Prop
  | 0, _, _, _ => False
  | n + 1, x1, x2, S => (64 ≤ x2 → Q x1 S) ∧ (¬ 64 ≤ x2 → vp_in x2 64 ∧ ((gA S 1700 0 x2.toNatClampNeg) = 0 → wp7_clear_29 (fun k0 k1 S9 => wp7_clear_4 Q n k0 k1 S9) Q x1 x2 S) ∧ (¬ (gA S 1700 0 x2.toNatClampNeg) = 0 → ∀ x1_1 : Int32, x1_1 = x1 + 1 → vp_in x2 64 ∧ ∀ S1, S1 = sA S 1700 0 x2.toNatClampNeg 0 → wp7_clear_29 (fun k0 k1 S9 => wp7_clear_4 Q n k0 k1 S9) Q x1_1 x2 S1))
def wp7_clear (S : St)  (Q : Int32 → St → Prop) : Prop :=
  ∃ n, wp7_clear_4 Q n 0 0 S
