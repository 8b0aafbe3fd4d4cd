-- StackForgeModel.thrown()I
def wp9_thrown (S : St)  (Q : Int32 → St → Prop) : Prop :=
  Q (gI S 1939 0) S
-- StackForgeModel.in(III)Z
def wp9_in (S : St) (x0 : Int32) (x1 : Int32) (x2 : Int32) (Q : Int32 → St → Prop) : Prop :=
  (x0 < x1 → Q 0 S) ∧ (¬ x0 < x1 → (x2 < x0 → Q 0 S) ∧ (¬ x2 < x0 → Q 1 S))
-- StackForgeModel.good(ZI)Z
def wp9_good (S : St) (x1 : Int32) (x2 : Int32) (Q : Int32 → St → Prop) : Prop :=
  (x1 = 0 → ∀ S1, S1 = sI S 1939 0 x2 → bz x1 ∧ Q x1 S1) ∧ (¬ x1 = 0 → ∀ S2, S2 = sI S 1939 0 0 → bz x1 ∧ Q x1 S2)
-- StackForgeModel.digits(I)I
def wp9_digits_23 (x0 : Int32) (Q : Int32 → St → Prop) : Nat → Int32 → Int32 → St → Prop
  | 0, _, _, _ => False
  | n + 1, x1, x2, S => (x2 ≤ 0 → Q x1 S) ∧ (¬ x2 ≤ 0 → wp9_in S (x2 - x2 / 10 * 10) 1 3 (fun r1 S1 => (¬ r1 = 0 → ∀ x1_1 : Int32, x1_1 = x1 + 1 → ∀ x2_1 : Int32, x2_1 = x2 / 10 → wp9_digits_23 x0 Q n x1_1 x2_1 S1) ∧ (r1 = 0 → Q (-1) S1)))
def wp9_digits (S : St) (x0 : Int32) (Q : Int32 → St → Prop) : Prop :=
  (¬ x0 = 0 → (x0 < 0 → Q (-1) S) ∧ (¬ x0 < 0 → (x0 ≤ 333 → (∃ n, wp9_digits_23 x0 Q n 0 x0 S)) ∧ (¬ x0 ≤ 333 → Q (-1) S))) ∧ (x0 = 0 → Q 0 S)
-- StackForgeModel.setKinds(IIII)V
def wp9_setKinds_9 (x1 : Int32) (x2 : Int32) (x3 : Int32) (x4 : Int32) (Q : St → Prop) : Nat → Int32 → Int32 → St → Prop
  | 0, _, _, _ => False
  | n + 1, x5, x6, S => (x6 < 0 → Q S) ∧ (¬ x6 < 0 → vp_in (((6 * x1) + x2) + x6) 36 ∧ ∀ S1, S1 = sA S 1900 0 ((((6 * x1) + x2) + x6).toNatClampNeg) (x5 - x5 / 10 * 10) → ∀ x5_1 : Int32, x5_1 = x5 / 10 → ∀ x6_1 : Int32, x6_1 = x6 + (-1) → wp9_setKinds_9 x1 x2 x3 x4 Q n x5_1 x6_1 S1)
def wp9_setKinds (S : St) (x1 : Int32) (x2 : Int32) (x3 : Int32) (x4 : Int32) (Q : St → Prop) : Prop :=
  ∀ x6_1 : Int32, x6_1 = x4 - 1 → ∃ n, wp9_setKinds_9 x1 x2 x3 x4 Q n x3 x6_1 S
-- StackForgeModel.shape(IIII)I
def wp9_shape_70 (x1 : Int32) (x2 : Int32) (x3 : Int32) (x4 : Int32) (Q : Int32 → St → Prop) (x5 : Int32) (x6 : Int32) (s1 : Int32) (S : St) : Prop :=
  wp9_good S s1 2 (fun r1 S1 => (¬ r1 = 0 → wp9_setKinds S1 x1 0 x2 x5 (fun S2 => wp9_setKinds S2 x1 x5 x4 x6 (fun S3 => vp_in x1 6 ∧ ∀ S4, S4 = sA S3 1901 0 x1.toNatClampNeg x5 → vp_in x1 6 ∧ ∀ S5, S5 = sA S4 1902 0 x1.toNatClampNeg (x5 + x6) → vp_in x1 6 ∧ ∀ S6, S6 = sA S5 1903 0 x1.toNatClampNeg x3 → vp_in x1 6 ∧ ∀ S7, S7 = sA S6 1905 0 x1.toNatClampNeg 0 → ∀ S8, S8 = sI S7 1912 0 0 → Q (x5 + x6) S8))) ∧ (r1 = 0 → Q 0 S1))
def wp9_shape_47 (x1 : Int32) (x2 : Int32) (x3 : Int32) (x4 : Int32) (Q : Int32 → St → Prop) (x5 : Int32) (x6 : Int32) (s1 : Int32) (S : St) : Prop :=
  wp9_good S s1 1 (fun r1 S1 => (¬ r1 = 0 → ((gI S1 1932 0) = 1 → wp9_shape_70 x1 x2 x3 x4 Q x5 x6 0 S1) ∧ (¬ (gI S1 1932 0) = 1 → wp9_shape_70 x1 x2 x3 x4 Q x5 x6 1 S1)) ∧ (r1 = 0 → Q 0 S1))
def wp9_shape_46 (x1 : Int32) (x2 : Int32) (x3 : Int32) (x4 : Int32) (Q : Int32 → St → Prop) (x5 : Int32) (x6 : Int32) (S : St) : Prop :=
  wp9_shape_47 x1 x2 x3 x4 Q x5 x6 0 S
def wp9_shape (S : St) (x1 : Int32) (x2 : Int32) (x3 : Int32) (x4 : Int32) (Q : Int32 → St → Prop) : Prop :=
  wp9_digits S x2 (fun r1 S1 => wp9_digits S1 x4 (fun r2 S2 => wp9_in S2 x1 0 5 (fun r3 S3 => (r3 = 0 → wp9_shape_46 x1 x2 x3 x4 Q r1 r2 S3) ∧ (¬ r3 = 0 → (r1 < 0 → wp9_shape_46 x1 x2 x3 x4 Q r1 r2 S3) ∧ (¬ r1 < 0 → (r2 < 0 → wp9_shape_46 x1 x2 x3 x4 Q r1 r2 S3) ∧ (¬ r2 < 0 → wp9_in S3 x3 0 3 (fun r4 S4 => (r4 = 0 → wp9_shape_46 x1 x2 x3 x4 Q r1 r2 S4) ∧ (¬ r4 = 0 → wp9_shape_47 x1 x2 x3 x4 Q r1 r2 1 S4))))))))
-- StackForgeModel.code(IJI)I
def wp9_code_93 (x1 : Int32) (x2 : Int64) (x4 : Int32) (Q : Int32 → St → Prop) : Nat → Int32 → St → Prop
  | 0, _, _ => False
  | n + 1, x5, S => (x5 < 0 → ∀ S1, S1 = sI S 1912 0 0 → vp_in x1 6 ∧ Q (gA S1 1905 0 x1.toNatClampNeg) S1) ∧ (¬ x5 < 0 → vp_in x1 6 ∧ vp_in ((60 * x1) + (gA S 1905 0 x1.toNatClampNeg)) 360 ∧ ∀ S2, S2 = sA S 1904 0 (((60 * x1) + (gA S 1905 0 x1.toNatClampNeg)).toNatClampNeg) (((jlshr x2 (8 * x5)).toInt32) &&& 255) → vp_in x1 6 ∧ vp_in x1 6 ∧ ∀ S3, S3 = sA S2 1905 0 x1.toNatClampNeg ((gA S2 1905 0 x1.toNatClampNeg) + 1) → ∀ x5_1 : Int32, x5_1 = x5 + (-1) → wp9_code_93 x1 x2 x4 Q n x5_1 S3)
def wp9_code_78 (x1 : Int32) (x2 : Int64) (x4 : Int32) (Q : Int32 → St → Prop) (s1 : Int32) (S : St) : Prop :=
  wp9_good S s1 3 (fun r1 S1 => (¬ r1 = 0 → ∀ x5_1 : Int32, x5_1 = x4 - 1 → ∃ n, wp9_code_93 x1 x2 x4 Q n x5_1 S1) ∧ (r1 = 0 → Q 0 S1))
def wp9_code_49 (x1 : Int32) (x2 : Int64) (x4 : Int32) (Q : Int32 → St → Prop) (s1 : Int32) (S : St) : Prop :=
  wp9_good S s1 2 (fun r1 S1 => (¬ r1 = 0 → vp_in x1 6 ∧ (60 < ((gA S1 1905 0 x1.toNatClampNeg) + x4) → wp9_code_78 x1 x2 x4 Q 0 S1) ∧ (¬ 60 < ((gA S1 1905 0 x1.toNatClampNeg) + x4) → wp9_code_78 x1 x2 x4 Q 1 S1)) ∧ (r1 = 0 → Q 0 S1))
def wp9_code_26 (x1 : Int32) (x2 : Int64) (x4 : Int32) (Q : Int32 → St → Prop) (s1 : Int32) (S : St) : Prop :=
  wp9_good S s1 1 (fun r1 S1 => (¬ r1 = 0 → ((gI S1 1932 0) = 1 → wp9_code_49 x1 x2 x4 Q 0 S1) ∧ (¬ (gI S1 1932 0) = 1 → wp9_code_49 x1 x2 x4 Q 1 S1)) ∧ (r1 = 0 → Q 0 S1))
def wp9_code_25 (x1 : Int32) (x2 : Int64) (x4 : Int32) (Q : Int32 → St → Prop)  (S : St) : Prop :=
  wp9_code_26 x1 x2 x4 Q 0 S
def wp9_code (S : St) (x1 : Int32) (x2 : Int64) (x4 : Int32) (Q : Int32 → St → Prop) : Prop :=
  wp9_in S x1 0 5 (fun r1 S1 => (r1 = 0 → wp9_code_25 x1 x2 x4 Q S1) ∧ (¬ r1 = 0 → wp9_in S1 x4 1 8 (fun r2 S2 => (r2 = 0 → wp9_code_25 x1 x2 x4 Q S2) ∧ (¬ r2 = 0 → wp9_code_26 x1 x2 x4 Q 1 S2))))
-- StackForgeModel.table(II)I
def wp9_table_25 (x1 : Int32) (x2 : Int32) (Q : Int32 → St → Prop) (s1 : Int32) (S : St) : Prop :=
  wp9_good S s1 1 (fun r1 S1 => (¬ r1 = 0 → vp_in x1 8 ∧ ∀ x3_1 : Int32, x3_1 = gA S1 1906 0 x1.toNatClampNeg → vp_in x1 8 ∧ ∀ S2, S2 = sA S1 1906 0 x1.toNatClampNeg x2 → Q x3_1 S2) ∧ (r1 = 0 → Q 0 S1))
def wp9_table_24 (x1 : Int32) (x2 : Int32) (Q : Int32 → St → Prop)  (S : St) : Prop :=
  wp9_table_25 x1 x2 Q 0 S
def wp9_table (S : St) (x1 : Int32) (x2 : Int32) (Q : Int32 → St → Prop) : Prop :=
  wp9_in S x1 0 7 (fun r1 S1 => (r1 = 0 → wp9_table_24 x1 x2 Q S1) ∧ (¬ r1 = 0 → wp9_in S1 x2 (-1) 5 (fun r2 S2 => (r2 = 0 → wp9_table_24 x1 x2 Q S2) ∧ (¬ r2 = 0 → wp9_table_25 x1 x2 Q 1 S2))))
-- StackForgeModel.isKnown(I)Z
def wp9_isKnown (S : St) (x0 : Int32) (Q : Int32 → St → Prop) : Prop :=
  (x0 ≤ 28 → Q 1 S) ∧ (¬ x0 ≤ 28 → wp9_in S x0 30 45 (fun r1 S1 => (¬ r1 = 0 → Q 1 S1) ∧ (r1 = 0 → wp9_in S1 x0 50 64 (fun r2 S2 => (¬ r2 = 0 → Q 1 S2) ∧ (r2 = 0 → wp9_in S2 x0 70 76 (fun r3 S3 => (¬ r3 = 0 → Q 1 S3) ∧ (r3 = 0 → wp9_in S3 x0 80 85 (fun r4 S4 => (r4 = 0 → Q 0 S4) ∧ (¬ r4 = 0 → Q 1 S4)))))))))
-- StackForgeModel.byteAt(II)I
def wp9_byteAt (S : St) (x1 : Int32) (x2 : Int32) (Q : Int32 → St → Prop) : Prop :=
  vp_in ((60 * x1) + x2) 360 ∧ Q (gA S 1904 0 (((60 * x1) + x2).toNatClampNeg)) S
-- StackForgeModel.behind(II)I
def wp9_behind (S : St) (x1 : Int32) (x2 : Int32) (Q : Int32 → St → Prop) : Prop :=
  wp9_byteAt S x1 x2 (fun r1 S1 => (¬ r1 = 9 → wp9_in S1 r1 2 4 (fun r2 S2 => (¬ r2 = 0 → Q 1 S2) ∧ (r2 = 0 → (r1 = 7 → Q 1 S2) ∧ (¬ r1 = 7 → (r1 = 8 → Q 1 S2) ∧ (¬ r1 = 8 → (r1 = 11 → Q 1 S2) ∧ (¬ r1 = 11 → (r1 = 12 → Q 1 S2) ∧ (¬ r1 = 12 → wp9_in S2 r1 15 28 (fun r3 S3 => (r3 = 0 → Q 0 S3) ∧ (¬ r3 = 0 → Q 1 S3))))))))) ∧ (r1 = 9 → vp_in x1 6 ∧ ((gA S1 1905 0 x1.toNatClampNeg) ≤ (x2 + 1) → Q 1 S1) ∧ (¬ (gA S1 1905 0 x1.toNatClampNeg) ≤ (x2 + 1) → wp9_byteAt S1 x1 (x2 + 1) (fun r4 S4 => Q (2 + r4) S4))))
-- StackForgeModel.seek(IIZ)I
def wp9_seek_71 (K : Int32 → Int32 → St → Prop) (x1 : Int32) (x2 : Int32) (x3 : Int32) (Q : Int32 → St → Prop) (x4 : Int32) (x5 : Int32) (S : St) : Prop :=
  wp9_behind S x1 x5 (fun r1 S1 => ∀ x5_1 : Int32, x5_1 = x5 + (1 + r1) → K x4 x5_1 S1)
def wp9_seek_56 (K : Int32 → Int32 → St → Prop) (x1 : Int32) (x2 : Int32) (x3 : Int32) (Q : Int32 → St → Prop) (x4 : Int32) (x5 : Int32) (S : St) : Prop :=
  wp9_byteAt S x1 x5 (fun r1 S1 => (¬ r1 = 6 → wp9_seek_71 K x1 x2 x3 Q x4 x5 S1) ∧ (r1 = 6 → ∀ x4_1 : Int32, x4_1 = x4 + (-1) → wp9_seek_71 K x1 x2 x3 Q x4_1 x5 S1))
def wp9_seek_38 (K : Int32 → Int32 → St → Prop) (x1 : Int32) (x2 : Int32) (x3 : Int32) (Q : Int32 → St → Prop) (x4 : Int32) (x5 : Int32) (S : St) : Prop :=
  wp9_byteAt S x1 x5 (fun r1 S1 => wp9_in S1 r1 2 4 (fun r2 S2 => (r2 = 0 → wp9_seek_56 K x1 x2 x3 Q x4 x5 S2) ∧ (¬ r2 = 0 → ∀ x4_1 : Int32, x4_1 = x4 + 1 → wp9_seek_56 K x1 x2 x3 Q x4_1 x5 S2)))
def wp9_seek_6 (x1 : Int32) (x2 : Int32) (x3 : Int32) (Q : Int32 → St → Prop) : Nat → Int32 → Int32 → St → Prop
  | 0, _, _, _ => False
  | n + 1, x4, x5, S => (0 < x4 → wp9_seek_38 (fun k0 k1 S9 => wp9_seek_6 x1 x2 x3 Q n k0 k1 S9) x1 x2 x3 Q x4 x5 S) ∧ (¬ 0 < x4 → wp9_byteAt S x1 x5 (fun r1 S1 => (r1 = 6 → Q x5 S1) ∧ (¬ r1 = 6 → (x3 = 0 → wp9_seek_38 (fun k0 k1 S9 => wp9_seek_6 x1 x2 x3 Q n k0 k1 S9) x1 x2 x3 Q x4 x5 S1) ∧ (¬ x3 = 0 → wp9_byteAt S1 x1 x5 (fun r2 S2 => (r2 = 5 → Q x5 S2) ∧ (¬ r2 = 5 → wp9_seek_38 (fun k0 k1 S9 => wp9_seek_6 x1 x2 x3 Q n k0 k1 S9) x1 x2 x3 Q x4 x5 S2))))))
def wp9_seek (S : St) (x1 : Int32) (x2 : Int32) (x3 : Int32) (Q : Int32 → St → Prop) : Prop :=
  ∃ n, wp9_seek_6 x1 x2 x3 Q n 0 x2 S
-- StackForgeModel.put(I)V
def wp9_put (S : St) (x1 : Int32) (Q : St → Prop) : Prop :=
  (¬ (gI S 1914 0) = 16 → vp_in (gI S 1914 0) 16 ∧ ∀ S1, S1 = sA S 1913 0 ((gI S 1914 0).toNatClampNeg) x1 → ∀ S2, S2 = sI S1 1914 0 ((gI S1 1914 0) + 1) → Q S2) ∧ ((gI S 1914 0) = 16 → ∀ S3, S3 = sI S 1921 0 1 → Q S3)
-- StackForgeModel.takeAny()I
def wp9_takeAny (S : St)  (Q : Int32 → St → Prop) : Prop :=
  vp_in ((gI S 1920 0) - 1) 60 ∧ ((gI S 1914 0) ≤ (gA S 1917 0 (((gI S 1920 0) - 1).toNatClampNeg)) → vp_in ((gI S 1920 0) - 1) 60 ∧ (¬ (gA S 1918 0 (((gI S 1920 0) - 1).toNatClampNeg)) = 0 → Q 4 S) ∧ ((gA S 1918 0 (((gI S 1920 0) - 1).toNatClampNeg)) = 0 → ∀ S1, S1 = sI S 1921 0 1 → Q 4 S1)) ∧ (¬ (gI S 1914 0) ≤ (gA S 1917 0 (((gI S 1920 0) - 1).toNatClampNeg)) → ∀ S2, S2 = sI S 1914 0 ((gI S 1914 0) - 1) → vp_in (gI S2 1914 0) 16 ∧ Q (gA S2 1913 0 ((gI S2 1914 0).toNatClampNeg)) S2)
-- StackForgeModel.take(I)V
def wp9_take (S : St) (x1 : Int32) (Q : St → Prop) : Prop :=
  wp9_takeAny S (fun r1 S1 => (r1 = x1 → Q S1) ∧ (¬ r1 = x1 → (r1 = 4 → Q S1) ∧ (¬ r1 = 4 → ∀ S2, S2 = sI S1 1921 0 1 → Q S2)))
-- StackForgeModel.takeIf(I)V
def wp9_takeIf (S : St) (x1 : Int32) (Q : St → Prop) : Prop :=
  (x1 = 0 → Q S) ∧ (¬ x1 = 0 → wp9_take S x1 (fun S1 => Q S1))
-- StackForgeModel.putIf(I)V
def wp9_putIf (S : St) (x1 : Int32) (Q : St → Prop) : Prop :=
  (x1 = 0 → Q S) ∧ (¬ x1 = 0 → wp9_put S x1 (fun S1 => Q S1))
-- StackForgeModel.begin(II)V
def wp9_begin_29 (x1 : Int32) (x2 : Int32) (Q : St → Prop)  (S : St) : Prop :=
  vp_in (gI S 1920 0) 60 ∧ ∀ S1, S1 = sA S 1915 0 ((gI S 1920 0).toNatClampNeg) x1 → vp_in (gI S1 1920 0) 60 ∧ ∀ S2, S2 = sA S1 1916 0 ((gI S1 1920 0).toNatClampNeg) x2 → vp_in (gI S2 1920 0) 60 ∧ ∀ S3, S3 = sA S2 1917 0 ((gI S2 1920 0).toNatClampNeg) (gI S2 1914 0) → vp_in (gI S3 1920 0) 60 ∧ ∀ S4, S4 = sA S3 1918 0 ((gI S3 1920 0).toNatClampNeg) 0 → vp_in (gI S4 1920 0) 60 ∧ ∀ S5, S5 = sA S4 1919 0 ((gI S4 1920 0).toNatClampNeg) 0 → ∀ S6, S6 = sI S5 1920 0 ((gI S5 1920 0) + 1) → Q S6
def wp9_begin_24 (x1 : Int32) (x2 : Int32) (Q : St → Prop)  (S : St) : Prop :=
  ∀ S1, S1 = sI S 1921 0 1 → wp9_begin_29 x1 x2 Q S1
def wp9_begin_10 (x1 : Int32) (x2 : Int32) (Q : St → Prop)  (S : St) : Prop :=
  (3 < x2 → wp9_begin_24 x1 x2 Q S) ∧ (¬ 3 < x2 → (¬ (gI S 1920 0) = 8 → wp9_begin_29 x1 x2 Q S) ∧ ((gI S 1920 0) = 8 → wp9_begin_24 x1 x2 Q S))
def wp9_begin (S : St) (x1 : Int32) (x2 : Int32) (Q : St → Prop) : Prop :=
  (¬ x1 = 4 → wp9_begin_10 x1 x2 Q S) ∧ (x1 = 4 → wp9_take S 1 (fun S1 => wp9_begin_10 x1 x2 Q S1))
-- StackForgeModel.die()V
def wp9_die (S : St)  (Q : St → Prop) : Prop :=
  vp_in ((gI S 1920 0) - 1) 60 ∧ ∀ S1, S1 = sI S 1914 0 (gA S 1917 0 (((gI S 1920 0) - 1).toNatClampNeg)) → vp_in ((gI S1 1920 0) - 1) 60 ∧ ∀ S2, S2 = sA S1 1918 0 (((gI S1 1920 0) - 1).toNatClampNeg) 1 → Q S2
-- StackForgeModel.close(I)V
def wp9_close_112 (x1 : Int32) (Q : St → Prop) (x2 : Int32) (S : St) : Prop :=
  ∀ S1, S1 = sI S 1920 0 ((gI S 1920 0) - 1) → ((gI S1 1920 0) ≤ 0 → Q S1) ∧ (¬ (gI S1 1920 0) ≤ 0 → vp_in x2 60 ∧ wp9_putIf S1 (gA S1 1916 0 x2.toNatClampNeg) (fun S2 => Q S2))
def wp9_close_64 (x1 : Int32) (Q : St → Prop) (x2 : Int32) (S : St) : Prop :=
  vp_in x2 60 ∧ ∀ S1, S1 = sA S 1919 0 x2.toNatClampNeg 1 → vp_in x2 60 ∧ ∀ S2, S2 = sA S1 1918 0 x2.toNatClampNeg 0 → Q S2
def wp9_close_59 (x1 : Int32) (Q : St → Prop) (x2 : Int32) (S : St) : Prop :=
  ∀ S1, S1 = sI S 1921 0 1 → wp9_close_64 x1 Q x2 S1
def wp9_close_35 (x1 : Int32) (Q : St → Prop) (x2 : Int32) (S : St) : Prop :=
  (¬ x1 = 5 → vp_in x2 60 ∧ (¬ (gA S 1915 0 x2.toNatClampNeg) = 4 → wp9_close_112 x1 Q x2 S) ∧ ((gA S 1915 0 x2.toNatClampNeg) = 4 → vp_in x2 60 ∧ ((gA S 1916 0 x2.toNatClampNeg) = 0 → wp9_close_112 x1 Q x2 S) ∧ (¬ (gA S 1916 0 x2.toNatClampNeg) = 0 → vp_in x2 60 ∧ (¬ (gA S 1919 0 x2.toNatClampNeg) = 0 → wp9_close_112 x1 Q x2 S) ∧ ((gA S 1919 0 x2.toNatClampNeg) = 0 → ∀ S1, S1 = sI S 1921 0 1 → wp9_close_112 x1 Q x2 S1)))) ∧ (x1 = 5 → vp_in x2 60 ∧ (¬ (gA S 1915 0 x2.toNatClampNeg) = 4 → wp9_close_59 x1 Q x2 S) ∧ ((gA S 1915 0 x2.toNatClampNeg) = 4 → vp_in x2 60 ∧ ((gA S 1919 0 x2.toNatClampNeg) = 0 → wp9_close_64 x1 Q x2 S) ∧ (¬ (gA S 1919 0 x2.toNatClampNeg) = 0 → wp9_close_59 x1 Q x2 S)))
def wp9_close (S : St) (x1 : Int32) (Q : St → Prop) : Prop :=
  ∀ x2_1 : Int32, x2_1 = (gI S 1920 0) - 1 → vp_in x2_1 60 ∧ wp9_takeIf S (gA S 1916 0 x2_1.toNatClampNeg) (fun S1 => vp_in x2_1 60 ∧ ((gI S1 1914 0) = (gA S1 1917 0 x2_1.toNatClampNeg) → wp9_close_35 x1 Q x2_1 S1) ∧ (¬ (gI S1 1914 0) = (gA S1 1917 0 x2_1.toNatClampNeg) → ∀ S2, S2 = sI S1 1921 0 1 → wp9_close_35 x1 Q x2_1 S2))
-- StackForgeModel.label(I)I
def wp9_label (S : St) (x1 : Int32) (Q : Int32 → St → Prop) : Prop :=
  (x1 < (gI S 1920 0) → ∀ x2_1 : Int32, x2_1 = ((gI S 1920 0) - 1) - x1 → vp_in x2_1 60 ∧ (¬ (gA S 1915 0 x2_1.toNatClampNeg) = 3 → vp_in x2_1 60 ∧ Q (gA S 1916 0 x2_1.toNatClampNeg) S) ∧ ((gA S 1915 0 x2_1.toNatClampNeg) = 3 → Q 0 S)) ∧ (¬ x1 < (gI S 1920 0) → ∀ S1, S1 = sI S 1921 0 1 → Q 0 S1)
-- StackForgeModel.checkJump(III)V
def wp9_checkJump_148 (x1 : Int32) (x2 : Int32) (x3 : Int32) (Q : St → Prop)  (S : St) : Prop :=
  (¬ (gI S 1921 0) = 0 → Q S) ∧ ((gI S 1921 0) = 0 → wp9_die S (fun S1 => Q S1))
def wp9_checkJump_115 (x1 : Int32) (x2 : Int32) (x3 : Int32) (Q : St → Prop)  (S : St) : Prop :=
  wp9_byteAt S x1 (x2 + 1) (fun r1 S1 => wp9_label S1 r1 (fun r2 S2 => wp9_takeIf S2 r2 (fun S3 => (¬ x3 = 8 → wp9_checkJump_148 x1 x2 x3 Q S3) ∧ (x3 = 8 → wp9_putIf S3 r2 (fun S4 => Q S4)))))
def wp9_checkJump_89 (K : Int32 → Int32 → Int32 → St → Prop) (x1 : Int32) (x2 : Int32) (x3 : Int32) (Q : St → Prop) (x4 : Int32) (x5 : Int32) (x6 : Int32) (S : St) : Prop :=
  ∀ x6_1 : Int32, x6_1 = x6 + 1 → K x4 x5 x6_1 S
def wp9_checkJump_57 (x1 : Int32) (x2 : Int32) (x3 : Int32) (Q : St → Prop) : Nat → Int32 → Int32 → Int32 → St → Prop
  | 0, _, _, _, _ => False
  | n + 1, x4, x5, x6, S => (x4 < x6 → wp9_takeIf S x5 (fun S1 => wp9_checkJump_148 x1 x2 x3 Q S1)) ∧ (¬ x4 < x6 → wp9_byteAt S x1 ((x2 + 2) + x6) (fun r1 S2 => wp9_label S2 r1 (fun r2 S3 => (r2 = x5 → wp9_checkJump_89 (fun k0 k1 k2 S9 => wp9_checkJump_57 x1 x2 x3 Q n k0 k1 k2 S9) x1 x2 x3 Q x4 x5 x6 S3) ∧ (¬ r2 = x5 → ∀ S4, S4 = sI S3 1921 0 1 → wp9_checkJump_89 (fun k0 k1 k2 S9 => wp9_checkJump_57 x1 x2 x3 Q n k0 k1 k2 S9) x1 x2 x3 Q x4 x5 x6 S4))))
def wp9_checkJump (S : St) (x1 : Int32) (x2 : Int32) (x3 : Int32) (Q : St → Prop) : Prop :=
  (¬ x3 = 10 → (¬ x3 = 9 → (¬ x3 = 8 → wp9_checkJump_115 x1 x2 x3 Q S) ∧ (x3 = 8 → wp9_take S 1 (fun S1 => wp9_checkJump_115 x1 x2 x3 Q S1))) ∧ (x3 = 9 → wp9_take S 1 (fun S2 => wp9_byteAt S2 x1 (x2 + 1) (fun r1 S3 => wp9_byteAt S3 x1 (x2 + 2) (fun r2 S4 => wp9_label S4 r2 (fun r3 S5 => ∃ n, wp9_checkJump_57 x1 x2 x3 Q n r1 r3 0 S5)))))) ∧ (x3 = 10 → wp9_takeIf S (gA S 1916 0 ((0 : Int32).toNatClampNeg)) (fun S6 => wp9_checkJump_148 x1 x2 x3 Q S6))
-- StackForgeModel.checkCall(II)V
def wp9_checkCall_46 (x1 : Int32) (x2 : Int32) (Q : St → Prop) : Nat → Int32 → St → Prop
  | 0, _, _ => False
  | n + 1, x3, S => (x3 < 0 → vp_in x1 6 ∧ wp9_putIf S (gA S 1903 0 x1.toNatClampNeg) (fun S1 => Q S1)) ∧ (¬ x3 < 0 → vp_in ((6 * x1) + x3) 36 ∧ wp9_take S (gA S 1900 0 (((6 * x1) + x3).toNatClampNeg)) (fun S2 => ∀ x3_1 : Int32, x3_1 = x3 + (-1) → wp9_checkCall_46 x1 x2 Q n x3_1 S2))
def wp9_checkCall_37 (x1 : Int32) (x2 : Int32) (Q : St → Prop)  (S : St) : Prop :=
  vp_in x1 6 ∧ ∀ x3_1 : Int32, x3_1 = (gA S 1901 0 x1.toNatClampNeg) - 1 → ∃ n, wp9_checkCall_46 x1 x2 Q n x3_1 S
def wp9_checkCall_11 (x1 : Int32) (x2 : Int32) (Q : St → Prop)  (S : St) : Prop :=
  (5 < x1 → ∀ S1, S1 = sI S 1921 0 1 → Q S1) ∧ (¬ 5 < x1 → (¬ x2 = 11 → wp9_checkCall_37 x1 x2 Q S) ∧ (x2 = 11 → vp_in x1 6 ∧ (¬ (gA S 1905 0 x1.toNatClampNeg) = 0 → wp9_checkCall_37 x1 x2 Q S) ∧ ((gA S 1905 0 x1.toNatClampNeg) = 0 → ∀ S2, S2 = sI S 1921 0 1 → Q S2)))
def wp9_checkCall (S : St) (x1 : Int32) (x2 : Int32) (Q : St → Prop) : Prop :=
  (¬ x2 = 12 → wp9_checkCall_11 x1 x2 Q S) ∧ (x2 = 12 → wp9_take S 1 (fun S1 => wp9_checkCall_11 x1 x2 Q S1))
-- StackForgeModel.checkSelect()V
def wp9_checkSelect_46  (Q : St → Prop) (s1 : Int32) (S : St) : Prop :=
  wp9_put S s1 (fun S1 => Q S1)
def wp9_checkSelect_35  (Q : St → Prop) (x1 : Int32) (x2 : Int32) (S : St) : Prop :=
  (¬ x2 = 4 → wp9_checkSelect_46 Q x2 S) ∧ (x2 = 4 → wp9_checkSelect_46 Q x1 S)
def wp9_checkSelect (S : St)  (Q : St → Prop) : Prop :=
  wp9_take S 1 (fun S1 => wp9_takeAny S1 (fun r1 S2 => wp9_takeAny S2 (fun r2 S3 => (r2 = 4 → wp9_checkSelect_35 Q r1 r2 S3) ∧ (¬ r2 = 4 → (r1 = 4 → wp9_checkSelect_35 Q r1 r2 S3) ∧ (¬ r1 = 4 → (r2 = r1 → wp9_checkSelect_35 Q r1 r2 S3) ∧ (¬ r2 = r1 → ∀ S4, S4 = sI S3 1921 0 1 → wp9_checkSelect_35 Q r1 r2 S4))))))
-- StackForgeModel.checkVariable(III)V
def wp9_checkVariable_104 (x1 : Int32) (x2 : Int32) (x3 : Int32) (Q : St → Prop) (x5 : Int32) (S : St) : Prop :=
  wp9_put S x5 (fun S1 => Q S1)
def wp9_checkVariable_86 (x1 : Int32) (x2 : Int32) (x3 : Int32) (Q : St → Prop) (x5 : Int32) (S : St) : Prop :=
  (x2 = 15 → wp9_checkVariable_104 x1 x2 x3 Q x5 S) ∧ (¬ x2 = 15 → (x2 = 17 → wp9_checkVariable_104 x1 x2 x3 Q x5 S) ∧ (¬ x2 = 17 → (¬ x2 = 18 → Q S) ∧ (x2 = 18 → wp9_checkVariable_104 x1 x2 x3 Q x5 S)))
def wp9_checkVariable_80 (x1 : Int32) (x2 : Int32) (x3 : Int32) (Q : St → Prop) (x5 : Int32) (S : St) : Prop :=
  wp9_take S x5 (fun S1 => wp9_checkVariable_86 x1 x2 x3 Q x5 S1)
def wp9_checkVariable_60 (x1 : Int32) (x2 : Int32) (x3 : Int32) (Q : St → Prop) (s0 : Int32) (S : St) : Prop :=
  (x2 = 16 → wp9_checkVariable_80 x1 x2 x3 Q s0 S) ∧ (¬ x2 = 16 → (x2 = 17 → wp9_checkVariable_80 x1 x2 x3 Q s0 S) ∧ (¬ x2 = 17 → (¬ x2 = 19 → wp9_checkVariable_86 x1 x2 x3 Q s0 S) ∧ (x2 = 19 → wp9_checkVariable_80 x1 x2 x3 Q s0 S)))
def wp9_checkVariable_29 (x1 : Int32) (x2 : Int32) (x3 : Int32) (Q : St → Prop) (x4 : Int32) (s0 : Int32) (s1 : Int32) (S : St) : Prop :=
  (s0 < s1 → (x4 = 0 → vp_in ((6 * x1) + x3) 36 ∧ wp9_checkVariable_60 x1 x2 x3 Q (gA S 1900 0 (((6 * x1) + x3).toNatClampNeg)) S) ∧ (¬ x4 = 0 → wp9_checkVariable_60 x1 x2 x3 Q (x3 + 1) S)) ∧ (¬ s0 < s1 → ∀ S1, S1 = sI S 1921 0 1 → Q S1)
def wp9_checkVariable_11 (x1 : Int32) (x2 : Int32) (x3 : Int32) (Q : St → Prop) (s0 : Int32) (S : St) : Prop :=
  (s0 = 0 → vp_in x1 6 ∧ wp9_checkVariable_29 x1 x2 x3 Q s0 x3 (gA S 1902 0 x1.toNatClampNeg) S) ∧ (¬ s0 = 0 → wp9_checkVariable_29 x1 x2 x3 Q s0 x3 3 S)
def wp9_checkVariable (S : St) (x1 : Int32) (x2 : Int32) (x3 : Int32) (Q : St → Prop) : Prop :=
  (x2 < 18 → wp9_checkVariable_11 x1 x2 x3 Q 0 S) ∧ (¬ x2 < 18 → wp9_checkVariable_11 x1 x2 x3 Q 1 S)
-- StackForgeModel.checkPlain(I)V
def wp9_checkPlain_268 (x1 : Int32) (Q : St → Prop) (s0 : Int32) (S : St) : Prop :=
  wp9_put S s0 (fun S1 => Q S1)
def wp9_checkPlain_263 (x1 : Int32) (Q : St → Prop)  (S : St) : Prop :=
  wp9_checkPlain_268 x1 Q 3 S
def wp9_checkPlain_247 (x1 : Int32) (Q : St → Prop)  (S : St) : Prop :=
  wp9_checkPlain_268 x1 Q 1 S
def wp9_checkPlain_221 (x1 : Int32) (Q : St → Prop)  (S : St) : Prop :=
  wp9_checkPlain_268 x1 Q 3 S
def wp9_checkPlain_179 (x1 : Int32) (Q : St → Prop)  (S : St) : Prop :=
  (50 ≤ x1 → (61 ≤ x1 → (65 ≤ x1 → (x1 < 74 → wp9_checkPlain_221 x1 Q S) ∧ (¬ x1 < 74 → (¬ x1 = 76 → (76 ≤ x1 → (x1 = 80 → wp9_checkPlain_247 x1 Q S) ∧ (¬ x1 = 80 → (¬ x1 = 83 → (x1 = 82 → wp9_checkPlain_263 x1 Q S) ∧ (¬ x1 = 82 → (¬ x1 = 84 → wp9_checkPlain_268 x1 Q 2 S) ∧ (x1 = 84 → wp9_checkPlain_263 x1 Q S))) ∧ (x1 = 83 → wp9_checkPlain_247 x1 Q S))) ∧ (¬ 76 ≤ x1 → wp9_checkPlain_268 x1 Q 1 S)) ∧ (x1 = 76 → wp9_checkPlain_221 x1 Q S))) ∧ (¬ 65 ≤ x1 → wp9_checkPlain_268 x1 Q 1 S)) ∧ (¬ 61 ≤ x1 → wp9_checkPlain_268 x1 Q 2 S)) ∧ (¬ 50 ≤ x1 → wp9_checkPlain_268 x1 Q 1 S)
def wp9_checkPlain_164 (x1 : Int32) (Q : St → Prop) (x2 : Int32) (s0 : Int32) (S : St) : Prop :=
  wp9_take S x2 (fun S1 => (¬ s0 = 0 → wp9_checkPlain_179 x1 Q S1) ∧ (s0 = 0 → wp9_take S1 x2 (fun S2 => wp9_checkPlain_179 x1 Q S2)))
def wp9_checkPlain_159 (x1 : Int32) (Q : St → Prop) (x2 : Int32) (S : St) : Prop :=
  wp9_checkPlain_164 x1 Q x2 1 S
def wp9_checkPlain_140 (x1 : Int32) (Q : St → Prop) (s0 : Int32) (S : St) : Prop :=
  (x1 = 45 → wp9_checkPlain_159 x1 Q s0 S) ∧ (¬ x1 = 45 → (x1 = 64 → wp9_checkPlain_159 x1 Q s0 S) ∧ (¬ x1 = 64 → (x1 < 76 → wp9_checkPlain_164 x1 Q s0 0 S) ∧ (¬ x1 < 76 → wp9_checkPlain_159 x1 Q s0 S)))
def wp9_checkPlain_125 (x1 : Int32) (Q : St → Prop)  (S : St) : Prop :=
  wp9_checkPlain_140 x1 Q 2 S
def wp9_checkPlain_77 (x1 : Int32) (Q : St → Prop) (s1 : Int32) (S : St) : Prop :=
  wp9_put S s1 (fun S1 => Q S1)
def wp9_checkPlain_54 (x1 : Int32) (Q : St → Prop)  (S : St) : Prop :=
  wp9_take S 1 (fun S1 => (25 < x1 → Q S1) ∧ (¬ 25 < x1 → (¬ x1 = 25 → wp9_checkPlain_77 x1 Q 1 S1) ∧ (x1 = 25 → wp9_checkPlain_77 x1 Q 2 S1)))
def wp9_checkPlain_23 (x1 : Int32) (Q : St → Prop)  (S : St) : Prop :=
  (28 < x1 → (50 ≤ x1 → (65 ≤ x1 → (77 ≤ x1 → (x1 = 80 → wp9_checkPlain_125 x1 Q S) ∧ (¬ x1 = 80 → (¬ x1 = 84 → (¬ x1 = 83 → wp9_checkPlain_140 x1 Q 1 S) ∧ (x1 = 83 → wp9_checkPlain_140 x1 Q 3 S)) ∧ (x1 = 84 → wp9_checkPlain_125 x1 Q S))) ∧ (¬ 77 ≤ x1 → wp9_checkPlain_140 x1 Q 3 S)) ∧ (¬ 65 ≤ x1 → wp9_checkPlain_140 x1 Q 2 S)) ∧ (¬ 50 ≤ x1 → wp9_checkPlain_140 x1 Q 1 S)) ∧ (¬ 28 < x1 → (¬ x1 = 28 → (x1 < 26 → wp9_checkPlain_54 x1 Q S) ∧ (¬ x1 < 26 → wp9_take S 1 (fun S1 => wp9_checkPlain_54 x1 Q S1))) ∧ (x1 = 28 → wp9_take S 2 (fun S2 => wp9_checkPlain_54 x1 Q S2)))
def wp9_checkPlain (S : St) (x1 : Int32) (Q : St → Prop) : Prop :=
  (x1 < 20 → wp9_checkPlain_23 x1 Q S) ∧ (¬ x1 < 20 → (22 < x1 → wp9_checkPlain_23 x1 Q S) ∧ (¬ 22 < x1 → wp9_put S (x1 - 19) (fun S1 => Q S1)))
-- StackForgeModel.checkOne(II)V
def wp9_checkOne_191 (x1 : Int32) (x2 : Int32) (Q : St → Prop) (x3 : Int32) (S : St) : Prop :=
  (x3 ≤ 19 → Q S) ∧ (¬ x3 ≤ 19 → wp9_checkPlain S x3 (fun S1 => Q S1))
def wp9_checkOne_113 (x1 : Int32) (x2 : Int32) (Q : St → Prop) (x3 : Int32) (x4 : Int32) (S : St) : Prop :=
  wp9_checkCall S x4 x3 (fun S1 => Q S1)
def wp9_checkOne_101 (x1 : Int32) (x2 : Int32) (Q : St → Prop) (x3 : Int32) (x4 : Int32) (S : St) : Prop :=
  (x3 = 11 → wp9_checkOne_113 x1 x2 Q x3 x4 S) ∧ (¬ x3 = 11 → (¬ x3 = 12 → (¬ x3 = 13 → (¬ x3 = 14 → (x3 < 15 → wp9_checkOne_191 x1 x2 Q x3 S) ∧ (¬ x3 < 15 → (19 < x3 → wp9_checkOne_191 x1 x2 Q x3 S) ∧ (¬ 19 < x3 → wp9_checkVariable S x1 x3 x4 (fun S1 => Q S1)))) ∧ (x3 = 14 → wp9_checkSelect S (fun S2 => Q S2))) ∧ (x3 = 13 → wp9_takeAny S (fun r1 S3 => (r1 < 0 → ∀ S4, S4 = sI S3 1921 0 1 → Q S4) ∧ (¬ r1 < 0 → ((gI S3 1921 0) = 0 → ∀ S5, S5 = sI S3 1921 0 0 → Q S5) ∧ (¬ (gI S3 1921 0) = 0 → ∀ S6, S6 = sI S3 1921 0 1 → Q S6))))) ∧ (x3 = 12 → wp9_checkOne_113 x1 x2 Q x3 x4 S))
def wp9_checkOne_71 (x1 : Int32) (x2 : Int32) (Q : St → Prop) (x3 : Int32) (S : St) : Prop :=
  wp9_close S x3 (fun S1 => Q S1)
def wp9_checkOne_60 (x1 : Int32) (x2 : Int32) (Q : St → Prop) (x3 : Int32) (x4 : Int32) (S : St) : Prop :=
  (x3 = 5 → wp9_checkOne_71 x1 x2 Q x3 S) ∧ (¬ x3 = 5 → (¬ x3 = 6 → (x3 < 7 → wp9_checkOne_101 x1 x2 Q x3 x4 S) ∧ (¬ x3 < 7 → (10 < x3 → wp9_checkOne_101 x1 x2 Q x3 x4 S) ∧ (¬ 10 < x3 → wp9_checkJump S x1 x2 x3 (fun S1 => Q S1)))) ∧ (x3 = 6 → wp9_checkOne_71 x1 x2 Q x3 S))
def wp9_checkOne_27 (x1 : Int32) (x2 : Int32) (Q : St → Prop) (x3 : Int32) (s0 : Int32) (S : St) : Prop :=
  (¬ x3 = 0 → (x3 < 2 → wp9_checkOne_60 x1 x2 Q x3 s0 S) ∧ (¬ x3 < 2 → (4 < x3 → wp9_checkOne_60 x1 x2 Q x3 s0 S) ∧ (¬ 4 < x3 → wp9_begin S x3 s0 (fun S1 => Q S1)))) ∧ (x3 = 0 → wp9_die S (fun S2 => Q S2))
def wp9_checkOne (S : St) (x1 : Int32) (x2 : Int32) (Q : St → Prop) : Prop :=
  wp9_byteAt S x1 x2 (fun r1 S1 => (60 ≤ (x2 + 1) → wp9_checkOne_27 x1 x2 Q r1 0 S1) ∧ (¬ 60 ≤ (x2 + 1) → wp9_byteAt S1 x1 (x2 + 1) (fun r2 S2 => wp9_checkOne_27 x1 x2 Q r1 r2 S2)))
-- StackForgeModel.find(I)I
def wp9_find_91 (K : Int32 → St → Prop) (x1 : Int32) (Q : Int32 → St → Prop) (x2 : Int32) (S : St) : Prop :=
  wp9_behind S x1 x2 (fun r1 S1 => ∀ x4_1 : Int32, x4_1 = (x2 + 1) + r1 → vp_in x1 6 ∧ (x4_1 ≤ (gA S1 1905 0 x1.toNatClampNeg) → wp9_checkOne S1 x1 x2 (fun S2 => ((gI S2 1921 0) = 0 → K x4_1 S2) ∧ (¬ (gI S2 1921 0) = 0 → Q x2 S2))) ∧ (¬ x4_1 ≤ (gA S1 1905 0 x1.toNatClampNeg) → vp_in x1 6 ∧ Q (gA S1 1905 0 x1.toNatClampNeg) S1))
def wp9_find_28 (x1 : Int32) (Q : Int32 → St → Prop) : Nat → Int32 → St → Prop
  | 0, _, _ => False
  | n + 1, x2, S => vp_in x1 6 ∧ ((gA S 1905 0 x1.toNatClampNeg) ≤ x2 → (¬ (gI S 1920 0) = 0 → vp_in x1 6 ∧ Q (gA S 1905 0 x1.toNatClampNeg) S) ∧ ((gI S 1920 0) = 0 → Q (-1) S)) ∧ (¬ (gA S 1905 0 x1.toNatClampNeg) ≤ x2 → wp9_byteAt S x1 x2 (fun r1 S1 => ((gI S1 1920 0) = 0 → Q x2 S1) ∧ (¬ (gI S1 1920 0) = 0 → wp9_isKnown S1 r1 (fun r2 S2 => (r2 = 0 → Q x2 S2) ∧ (¬ r2 = 0 → (¬ r1 = 9 → wp9_find_91 (fun k0 S9 => wp9_find_28 x1 Q n k0 S9) x1 Q x2 S2) ∧ (r1 = 9 → vp_in x1 6 ∧ ((gA S2 1905 0 x1.toNatClampNeg) ≤ (x2 + 1) → wp9_find_91 (fun k0 S9 => wp9_find_28 x1 Q n k0 S9) x1 Q x2 S2) ∧ (¬ (gA S2 1905 0 x1.toNatClampNeg) ≤ (x2 + 1) → wp9_byteAt S2 x1 (x2 + 1) (fun r3 S3 => (r3 ≤ 3 → wp9_find_91 (fun k0 S9 => wp9_find_28 x1 Q n k0 S9) x1 Q x2 S3) ∧ (¬ r3 ≤ 3 → Q x2 S3)))))))))
def wp9_find (S : St) (x1 : Int32) (Q : Int32 → St → Prop) : Prop :=
  ∀ S1, S1 = sI S 1920 0 0 → ∀ S2, S2 = sI S1 1914 0 0 → ∀ S3, S3 = sI S2 1921 0 0 → vp_in x1 6 ∧ wp9_begin S3 0 (gA S3 1903 0 x1.toNatClampNeg) (fun S4 => ∃ n, wp9_find_28 x1 Q n 0 S4)
-- StackForgeModel.check()I
def wp9_check_68 (K : Int32 → Int32 → St → Prop)  (Q : Int32 → St → Prop) (x1 : Int32) (x2 : Int32) (S : St) : Prop :=
  ∀ x2_1 : Int32, x2_1 = x2 + 1 → K x1 x2_1 S
def wp9_check_59 (K : Int32 → Int32 → St → Prop)  (Q : Int32 → St → Prop) (x1 : Int32) (x2 : Int32) (s1 : Int32) (S : St) : Prop :=
  wp9_good S s1 2 (fun r1 S1 => (¬ r1 = 0 → wp9_check_68 K Q x1 x2 S1) ∧ (r1 = 0 → Q 0 S1))
def wp9_check_27  (Q : Int32 → St → Prop) : Nat → Int32 → Int32 → St → Prop
  | 0, _, _, _ => False
  | n + 1, x1, x2, S => (6 ≤ x2 → ∀ S1, S1 = sI S 1912 0 1 → Q x1 S1) ∧ (¬ 6 ≤ x2 → vp_in x2 6 ∧ ((gA S 1905 0 x2.toNatClampNeg) ≤ 0 → wp9_check_68 (fun k0 k1 S9 => wp9_check_27 Q n k0 k1 S9) Q x1 x2 S) ∧ (¬ (gA S 1905 0 x2.toNatClampNeg) ≤ 0 → ∀ x1_1 : Int32, x1_1 = x1 + 1 → wp9_find S x2 (fun r1 S2 => (0 ≤ r1 → wp9_check_59 (fun k0 k1 S9 => wp9_check_27 Q n k0 k1 S9) Q x1_1 x2 0 S2) ∧ (¬ 0 ≤ r1 → wp9_check_59 (fun k0 k1 S9 => wp9_check_27 Q n k0 k1 S9) Q x1_1 x2 1 S2))))
def wp9_check_14  (Q : Int32 → St → Prop) (s1 : Int32) (S : St) : Prop :=
  wp9_good S s1 1 (fun r1 S1 => (¬ r1 = 0 → (∃ n, wp9_check_27 Q n 0 0 S1)) ∧ (r1 = 0 → Q 0 S1))
def wp9_check (S : St)  (Q : Int32 → St → Prop) : Prop :=
  ((gI S 1932 0) = 1 → wp9_check_14 Q 0 S) ∧ (¬ (gI S 1932 0) = 1 → wp9_check_14 Q 1 S)
-- StackForgeModel.fault(I)I
def wp9_fault_114 (x1 : Int32) (Q : Int32 → St → Prop) : Nat → Int32 → Int32 → Int32 → Int32 → St → Prop
  | 0, _, _, _, _, _ => False
  | n + 1, x2, x3, x4, x5, S => (60 ≤ x5 → ∀ S1, S1 = sI S 1914 0 x2 → ∀ S2, S2 = sI S1 1920 0 x3 → Q x4 S2) ∧ (¬ 60 ≤ x5 → vp_in x5 240 ∧ vp_in x5 60 ∧ ∀ S3, S3 = sA S 1915 0 x5.toNatClampNeg (gA S 1940 0 x5.toNatClampNeg) → vp_in (60 + x5) 240 ∧ vp_in x5 60 ∧ ∀ S4, S4 = sA S3 1916 0 x5.toNatClampNeg (gA S3 1940 0 ((60 + x5).toNatClampNeg)) → vp_in (120 + x5) 240 ∧ vp_in x5 60 ∧ ∀ S5, S5 = sA S4 1917 0 x5.toNatClampNeg (gA S4 1940 0 ((120 + x5).toNatClampNeg)) → ∀ x5_1 : Int32, x5_1 = x5 + 1 → wp9_fault_114 x1 Q n x2 x3 x4 x5_1 S5)
def wp9_fault_43 (x1 : Int32) (Q : Int32 → St → Prop) : Nat → Int32 → Int32 → Int32 → St → Prop
  | 0, _, _, _, _ => False
  | n + 1, x2, x3, x4, S => (60 ≤ x4 → wp9_find S x1 (fun r1 S1 => ∃ n, wp9_fault_114 x1 Q n x2 x3 r1 0 S1)) ∧ (¬ 60 ≤ x4 → vp_in x4 60 ∧ vp_in x4 240 ∧ ∀ S2, S2 = sA S 1940 0 x4.toNatClampNeg (gA S 1915 0 x4.toNatClampNeg) → vp_in x4 60 ∧ vp_in (60 + x4) 240 ∧ ∀ S3, S3 = sA S2 1940 0 ((60 + x4).toNatClampNeg) (gA S2 1916 0 x4.toNatClampNeg) → vp_in x4 60 ∧ vp_in (120 + x4) 240 ∧ ∀ S4, S4 = sA S3 1940 0 ((120 + x4).toNatClampNeg) (gA S3 1917 0 x4.toNatClampNeg) → ∀ x4_1 : Int32, x4_1 = x4 + 1 → wp9_fault_43 x1 Q n x2 x3 x4_1 S4)
def wp9_fault (S : St) (x1 : Int32) (Q : Int32 → St → Prop) : Prop :=
  wp9_in S x1 0 5 (fun r1 S1 => wp9_good S1 r1 1 (fun r2 S2 => (¬ r2 = 0 → ∀ x2_1 : Int32, x2_1 = gI S2 1914 0 → ∀ x3_1 : Int32, x3_1 = gI S2 1920 0 → ((gI S2 1932 0) = 1 → (∃ n, wp9_fault_43 x1 Q n x2_1 x3_1 0 S2)) ∧ (¬ (gI S2 1932 0) = 1 → wp9_find S2 x1 (fun r3 S3 => Q r3 S3))) ∧ (r2 = 0 → Q 0 S2)))
-- StackForgeModel.argue(I)I
def wp9_argue_14 (x1 : Int32) (Q : Int32 → St → Prop) (s1 : Int32) (S : St) : Prop :=
  wp9_good S s1 1 (fun r1 S1 => (¬ r1 = 0 → vp_in (gI S1 1911 0) 3 ∧ ∀ S2, S2 = sA S1 1910 0 ((gI S1 1911 0).toNatClampNeg) x1 → ∀ S3, S3 = sI S2 1911 0 ((gI S2 1911 0) + 1) → Q (gI S3 1911 0) S3) ∧ (r1 = 0 → Q 0 S1))
def wp9_argue (S : St) (x1 : Int32) (Q : Int32 → St → Prop) : Prop :=
  (3 ≤ (gI S 1911 0) → wp9_argue_14 x1 Q 0 S) ∧ (¬ 3 ≤ (gI S 1911 0) → wp9_argue_14 x1 Q 1 S)
-- StackForgeModel.enter(II)V
def wp9_enter (S : St) (x1 : Int32) (x2 : Int32) (Q : St → Prop) : Prop :=
  vp_in (gI S 1930 0) 6 ∧ ∀ S1, S1 = sA S 1927 0 ((gI S 1930 0).toNatClampNeg) x1 → vp_in (gI S1 1930 0) 6 ∧ ∀ S2, S2 = sA S1 1928 0 ((gI S1 1930 0).toNatClampNeg) x2 → vp_in (gI S2 1930 0) 6 ∧ ∀ S3, S3 = sA S2 1929 0 ((gI S2 1930 0).toNatClampNeg) (gI S2 1920 0) → ∀ S4, S4 = sI S3 1930 0 ((gI S3 1930 0) + 1) → vp_in (gI S4 1920 0) 60 ∧ ∀ S5, S5 = sA S4 1915 0 ((gI S4 1920 0).toNatClampNeg) 0 → vp_in x1 6 ∧ vp_in (gI S5 1920 0) 60 ∧ ∀ S6, S6 = sA S5 1916 0 ((gI S5 1920 0).toNatClampNeg) (gA S5 1903 0 x1.toNatClampNeg) → vp_in (gI S6 1920 0) 60 ∧ ∀ S7, S7 = sA S6 1917 0 ((gI S6 1920 0).toNatClampNeg) (gI S6 1914 0) → ∀ S8, S8 = sI S7 1920 0 ((gI S7 1920 0) + 1) → ∀ S9, S9 = sI S8 1931 0 0 → Q S9
-- StackForgeModel.start(I)I
def wp9_start_169 (K : Int32 → St → Prop) (x1 : Int32) (Q : Int32 → St → Prop) (x2 : Int32) (s1 : Int32) (s2 : UInt64) (S : St) : Prop :=
  vp_in s1 36 ∧ ∀ S1, S1 = sD S 1926 0 s1.toNatClampNeg s2 → ∀ x2_1 : Int32, x2_1 = x2 + 1 → K x2_1 S1
def wp9_start_140 (K : Int32 → St → Prop) (x1 : Int32) (Q : Int32 → St → Prop) (x2 : Int32) (s1 : Int32) (s2 : Int64) (S : St) : Prop :=
  vp_in s1 36 ∧ ∀ S1, S1 = sJ S 1925 0 s1.toNatClampNeg s2 → ((gI S1 1911 0) ≤ x2 → wp9_start_169 K x1 Q x2 x2 FP.dconst0 S1) ∧ (¬ (gI S1 1911 0) ≤ x2 → vp_in x2 3 ∧ vf_n64 (FP.dmul (FP.i2d (gA S1 1910 0 x2.toNatClampNeg)) (4593671619917905920 : UInt64)) ∧ wp9_start_169 K x1 Q x2 x2 (FP.dmul (FP.i2d (gA S1 1910 0 x2.toNatClampNeg)) (4593671619917905920 : UInt64)) S1)
def wp9_start_110 (x1 : Int32) (Q : Int32 → St → Prop) : Nat → Int32 → St → Prop
  | 0, _, _ => False
  | n + 1, x2, S => (6 ≤ x2 → wp9_enter S x1 0 (fun S1 => ∀ x2_1 : Int32, x2_1 = gI S1 1911 0 → ∀ S2, S2 = sI S1 1911 0 0 → Q x2_1 S2)) ∧ (¬ 6 ≤ x2 → ((gI S 1911 0) ≤ x2 → wp9_start_140 (fun k0 S9 => wp9_start_110 x1 Q n k0 S9) x1 Q x2 x2 0 S) ∧ (¬ (gI S 1911 0) ≤ x2 → vp_in x2 3 ∧ wp9_start_140 (fun k0 S9 => wp9_start_110 x1 Q n k0 S9) x1 Q x2 x2 ((gA S 1910 0 x2.toNatClampNeg).toInt64) S))
def wp9_start_74 (x1 : Int32) (Q : Int32 → St → Prop) (s1 : Int32) (S : St) : Prop :=
  wp9_good S s1 3 (fun r1 S1 => (¬ r1 = 0 → ∀ S2, S2 = sI S1 1932 0 1 → ∀ S3, S3 = sI S2 1933 0 0 → ∀ S4, S4 = sI S3 1930 0 0 → ∀ S5, S5 = sI S4 1920 0 0 → ∀ S6, S6 = sI S5 1914 0 0 → ∃ n, wp9_start_110 x1 Q n 0 S6) ∧ (r1 = 0 → Q 0 S1))
def wp9_start_46 (x1 : Int32) (Q : Int32 → St → Prop) (s1 : Int32) (S : St) : Prop :=
  wp9_good S s1 2 (fun r1 S1 => (¬ r1 = 0 → vp_in x1 6 ∧ (¬ (gI S1 1911 0) = (gA S1 1901 0 x1.toNatClampNeg) → wp9_start_74 x1 Q 0 S1) ∧ ((gI S1 1911 0) = (gA S1 1901 0 x1.toNatClampNeg) → wp9_start_74 x1 Q 1 S1)) ∧ (r1 = 0 → Q 0 S1))
def wp9_start_45 (x1 : Int32) (Q : Int32 → St → Prop)  (S : St) : Prop :=
  wp9_start_46 x1 Q 0 S
def wp9_start (S : St) (x1 : Int32) (Q : Int32 → St → Prop) : Prop :=
  wp9_in S x1 0 5 (fun r1 S1 => wp9_good S1 r1 1 (fun r2 S2 => (¬ r2 = 0 → ((gI S2 1932 0) = 1 → wp9_start_45 x1 Q S2) ∧ (¬ (gI S2 1932 0) = 1 → ((gI S2 1912 0) = 0 → wp9_start_45 x1 Q S2) ∧ (¬ (gI S2 1912 0) = 0 → vp_in x1 6 ∧ ((gA S2 1905 0 x1.toNatClampNeg) ≤ 0 → wp9_start_45 x1 Q S2) ∧ (¬ (gA S2 1905 0 x1.toNatClampNeg) ≤ 0 → wp9_start_46 x1 Q 1 S2)))) ∧ (r2 = 0 → Q 0 S2)))
-- StackForgeModel.push(JD)V
def wp9_push (S : St) (x1 : Int64) (x3 : UInt64) (Q : St → Prop) : Prop :=
  vp_in (gI S 1914 0) 200 ∧ ∀ S1, S1 = sJ S 1922 0 ((gI S 1914 0).toNatClampNeg) x1 → vp_in (gI S1 1914 0) 200 ∧ ∀ S2, S2 = sD S1 1923 0 ((gI S1 1914 0).toNatClampNeg) x3 → ∀ S3, S3 = sI S2 1914 0 ((gI S2 1914 0) + 1) → Q S3
-- StackForgeModel.popInt()I
def wp9_popInt (S : St)  (Q : Int32 → St → Prop) : Prop :=
  ∀ S1, S1 = sI S 1914 0 ((gI S 1914 0) - 1) → vp_in (gI S1 1914 0) 200 ∧ Q ((gJ S1 1922 0 ((gI S1 1914 0).toNatClampNeg)).toInt32) S1
-- StackForgeModel.leave()V
def wp9_leave_66  (Q : St → Prop) (x1 : Int32) (x2 : Int32) (x3 : Int64) (s0 : UInt64) (S : St) : Prop :=
  vp_in ((gI S 1930 0) - 1) 6 ∧ vp_in (gA S 1929 0 (((gI S 1930 0) - 1).toNatClampNeg)) 60 ∧ ∀ S1, S1 = sI S 1914 0 (gA S 1917 0 ((gA S 1929 0 (((gI S 1930 0) - 1).toNatClampNeg)).toNatClampNeg)) → vp_in ((gI S1 1930 0) - 1) 6 ∧ ∀ S2, S2 = sI S1 1920 0 (gA S1 1929 0 (((gI S1 1930 0) - 1).toNatClampNeg)) → vp_in ((gI S2 1930 0) - 1) 6 ∧ ∀ S3, S3 = sI S2 1931 0 (gA S2 1928 0 (((gI S2 1930 0) - 1).toNatClampNeg)) → ∀ S4, S4 = sI S3 1930 0 ((gI S3 1930 0) - 1) → (¬ (gI S4 1930 0) = 0 → (x2 = 0 → Q S4) ∧ (¬ x2 = 0 → wp9_push S4 x3 s0 (fun S5 => Q S5))) ∧ ((gI S4 1930 0) = 0 → ∀ S6, S6 = sI S4 1932 0 2 → vp_in x1 6 ∧ ∀ S7, S7 = sI S6 1936 0 (gA S6 1903 0 x1.toNatClampNeg) → ∀ S8, S8 = sL S7 1937 0 x3 → ∀ S9, S9 = sF S8 1938 0 s0 → Q S9)
def wp9_leave_46  (Q : St → Prop) (x1 : Int32) (x2 : Int32) (s0 : Int64) (S : St) : Prop :=
  (x2 = 0 → wp9_leave_66 Q x1 x2 s0 FP.dconst0 S) ∧ (¬ x2 = 0 → vp_in ((gI S 1914 0) - 1) 200 ∧ wp9_leave_66 Q x1 x2 s0 (gD S 1923 0 (((gI S 1914 0) - 1).toNatClampNeg)) S)
def wp9_leave_26  (Q : St → Prop) (x1 : Int32) (s0 : Int32) (S : St) : Prop :=
  (s0 = 0 → wp9_leave_46 Q x1 s0 0 S) ∧ (¬ s0 = 0 → vp_in ((gI S 1914 0) - 1) 200 ∧ wp9_leave_46 Q x1 s0 (gJ S 1922 0 (((gI S 1914 0) - 1).toNatClampNeg)) S)
def wp9_leave (S : St)  (Q : St → Prop) : Prop :=
  vp_in ((gI S 1930 0) - 1) 6 ∧ ∀ x1_1 : Int32, x1_1 = gA S 1927 0 (((gI S 1930 0) - 1).toNatClampNeg) → vp_in x1_1 6 ∧ ((gA S 1903 0 x1_1.toNatClampNeg) = 0 → wp9_leave_26 Q x1_1 0 S) ∧ (¬ (gA S 1903 0 x1_1.toNatClampNeg) = 0 → wp9_leave_26 Q x1_1 1 S)
-- StackForgeModel.jump(I)V
def wp9_jump_159 (x1 : Int32) (Q : St → Prop) (x2 : Int32) (x3 : Int32) (x4 : Int32) (s1 : Int32) (S : St) : Prop :=
  ∀ S1, S1 = sI S 1920 0 s1 → (x4 = 0 → vp_in x2 60 ∧ wp9_seek S1 x3 (gA S1 1924 0 x2.toNatClampNeg) 0 (fun r1 S2 => ∀ S3, S3 = sI S2 1931 0 (r1 + 1) → Q S3)) ∧ (¬ x4 = 0 → vp_in x2 60 ∧ ∀ S4, S4 = sI S1 1931 0 (gA S1 1924 0 x2.toNatClampNeg) → Q S4)
def wp9_jump_146 (x1 : Int32) (Q : St → Prop) (x2 : Int32) (x3 : Int32) (x4 : Int32) (S : St) : Prop :=
  (x4 = 0 → wp9_jump_159 x1 Q x2 x3 x4 x2 S) ∧ (¬ x4 = 0 → wp9_jump_159 x1 Q x2 x3 x4 (x2 + 1) S)
def wp9_jump_121 (x1 : Int32) (Q : St → Prop) (x2 : Int32) (x3 : Int32) (x4 : Int32) (x5 : Int32) (x6 : Int64) (s0 : UInt64) (S : St) : Prop :=
  vp_in x2 60 ∧ ∀ S1, S1 = sI S 1914 0 (gA S 1917 0 x2.toNatClampNeg) → (x5 = 0 → wp9_jump_146 x1 Q x2 x3 x4 S1) ∧ (¬ x5 = 0 → wp9_push S1 x6 s0 (fun S2 => wp9_jump_146 x1 Q x2 x3 x4 S2))
def wp9_jump_99 (x1 : Int32) (Q : St → Prop) (x2 : Int32) (x3 : Int32) (x4 : Int32) (x5 : Int32) (s0 : Int64) (S : St) : Prop :=
  (x5 = 0 → wp9_jump_121 x1 Q x2 x3 x4 x5 s0 FP.dconst0 S) ∧ (¬ x5 = 0 → vp_in ((gI S 1914 0) - 1) 200 ∧ wp9_jump_121 x1 Q x2 x3 x4 x5 s0 (gD S 1923 0 (((gI S 1914 0) - 1).toNatClampNeg)) S)
def wp9_jump_77 (x1 : Int32) (Q : St → Prop) (x2 : Int32) (x3 : Int32) (x4 : Int32) (s0 : Int32) (S : St) : Prop :=
  (s0 = 0 → wp9_jump_99 x1 Q x2 x3 x4 s0 0 S) ∧ (¬ s0 = 0 → vp_in ((gI S 1914 0) - 1) 200 ∧ wp9_jump_99 x1 Q x2 x3 x4 s0 (gJ S 1922 0 (((gI S 1914 0) - 1).toNatClampNeg)) S)
def wp9_jump_76 (x1 : Int32) (Q : St → Prop) (x2 : Int32) (x3 : Int32) (x4 : Int32) (S : St) : Prop :=
  wp9_jump_77 x1 Q x2 x3 x4 0 S
def wp9_jump_56 (x1 : Int32) (Q : St → Prop) (x2 : Int32) (x3 : Int32) (s0 : Int32) (S : St) : Prop :=
  (¬ s0 = 0 → wp9_jump_76 x1 Q x2 x3 s0 S) ∧ (s0 = 0 → vp_in x2 60 ∧ ((gA S 1916 0 x2.toNatClampNeg) = 0 → wp9_jump_76 x1 Q x2 x3 s0 S) ∧ (¬ (gA S 1916 0 x2.toNatClampNeg) = 0 → wp9_jump_77 x1 Q x2 x3 s0 1 S))
def wp9_jump (S : St) (x1 : Int32) (Q : St → Prop) : Prop :=
  ∀ x2_1 : Int32, x2_1 = ((gI S 1920 0) - 1) - x1 → vp_in ((gI S 1930 0) - 1) 6 ∧ ∀ x3_1 : Int32, x3_1 = gA S 1927 0 (((gI S 1930 0) - 1).toNatClampNeg) → vp_in ((gI S 1930 0) - 1) 6 ∧ (¬ x2_1 = (gA S 1929 0 (((gI S 1930 0) - 1).toNatClampNeg)) → vp_in x2_1 60 ∧ (¬ (gA S 1915 0 x2_1.toNatClampNeg) = 3 → wp9_jump_56 x1 Q x2_1 x3_1 0 S) ∧ ((gA S 1915 0 x2_1.toNatClampNeg) = 3 → wp9_jump_56 x1 Q x2_1 x3_1 1 S)) ∧ (x2_1 = (gA S 1929 0 (((gI S 1930 0) - 1).toNatClampNeg)) → wp9_leave S (fun S1 => Q S1))
-- StackForgeModel.block(III)V
def wp9_block_73 (x1 : Int32) (x2 : Int32) (x3 : Int32) (Q : St → Prop) (x4 : Int32) (x5 : Int32) (x6 : Int32) (S : St) : Prop :=
  vp_in (gI S 1920 0) 60 ∧ ∀ S1, S1 = sA S 1915 0 ((gI S 1920 0).toNatClampNeg) x2 → vp_in (gI S1 1920 0) 60 ∧ ∀ S2, S2 = sA S1 1916 0 ((gI S1 1920 0).toNatClampNeg) x3 → vp_in (gI S2 1920 0) 60 ∧ ∀ S3, S3 = sA S2 1917 0 ((gI S2 1920 0).toNatClampNeg) (gI S2 1914 0) → vp_in (gI S3 1920 0) 60 ∧ ∀ S4, S4 = sA S3 1924 0 ((gI S3 1920 0).toNatClampNeg) x5 → ∀ S5, S5 = sI S4 1920 0 ((gI S4 1920 0) + 1) → (x4 = 0 → ∀ S6, S6 = sI S5 1931 0 x5 → Q S6) ∧ (¬ x4 = 0 → ∀ S7, S7 = sI S5 1931 0 (x6 + 1) → Q S7)
def wp9_block_45 (x1 : Int32) (x2 : Int32) (x3 : Int32) (Q : St → Prop) (x4 : Int32) (x5 : Int32) (s0 : Int32) (S : St) : Prop :=
  (x4 = 0 → wp9_block_73 x1 x2 x3 Q x4 x5 s0 S) ∧ (¬ x4 = 0 → wp9_byteAt S x1 s0 (fun r1 S1 => (¬ r1 = 6 → wp9_block_73 x1 x2 x3 Q x4 x5 s0 S1) ∧ (r1 = 6 → ∀ S2, S2 = sI S1 1931 0 (s0 + 1) → Q S2)))
def wp9_block_17 (x1 : Int32) (x2 : Int32) (x3 : Int32) (Q : St → Prop) (s0 : Int32) (S : St) : Prop :=
  ∀ x5_1 : Int32, x5_1 = (gI S 1931 0) + 2 → (s0 = 0 → wp9_block_45 x1 x2 x3 Q s0 x5_1 x5_1 S) ∧ (¬ s0 = 0 → wp9_seek S x1 x5_1 1 (fun r1 S1 => wp9_block_45 x1 x2 x3 Q s0 x5_1 r1 S1))
def wp9_block_16 (x1 : Int32) (x2 : Int32) (x3 : Int32) (Q : St → Prop)  (S : St) : Prop :=
  wp9_block_17 x1 x2 x3 Q 0 S
def wp9_block (S : St) (x1 : Int32) (x2 : Int32) (x3 : Int32) (Q : St → Prop) : Prop :=
  (¬ x2 = 4 → wp9_block_16 x1 x2 x3 Q S) ∧ (x2 = 4 → wp9_popInt S (fun r1 S1 => (¬ r1 = 0 → wp9_block_16 x1 x2 x3 Q S1) ∧ (r1 = 0 → wp9_block_17 x1 x2 x3 Q 1 S1)))
-- StackForgeModel.agree(II)Z
def wp9_agree_34 (x1 : Int32) (x2 : Int32) (Q : Int32 → St → Prop) : Nat → Int32 → St → Prop
  | 0, _, _ => False
  | n + 1, x3, S => vp_in x1 6 ∧ ((gA S 1901 0 x1.toNatClampNeg) ≤ x3 → Q 1 S) ∧ (¬ (gA S 1901 0 x1.toNatClampNeg) ≤ x3 → vp_in ((6 * x1) + x3) 36 ∧ vp_in ((6 * x2) + x3) 36 ∧ ((gA S 1900 0 (((6 * x1) + x3).toNatClampNeg)) = (gA S 1900 0 (((6 * x2) + x3).toNatClampNeg)) → ∀ x3_1 : Int32, x3_1 = x3 + 1 → wp9_agree_34 x1 x2 Q n x3_1 S) ∧ (¬ (gA S 1900 0 (((6 * x1) + x3).toNatClampNeg)) = (gA S 1900 0 (((6 * x2) + x3).toNatClampNeg)) → Q 0 S))
def wp9_agree (S : St) (x1 : Int32) (x2 : Int32) (Q : Int32 → St → Prop) : Prop :=
  vp_in x1 6 ∧ vp_in x2 6 ∧ (¬ (gA S 1901 0 x1.toNatClampNeg) = (gA S 1901 0 x2.toNatClampNeg) → Q 0 S) ∧ ((gA S 1901 0 x1.toNatClampNeg) = (gA S 1901 0 x2.toNatClampNeg) → vp_in x1 6 ∧ vp_in x2 6 ∧ ((gA S 1903 0 x1.toNatClampNeg) = (gA S 1903 0 x2.toNatClampNeg) → (∃ n, wp9_agree_34 x1 x2 Q n 0 S)) ∧ (¬ (gA S 1903 0 x1.toNatClampNeg) = (gA S 1903 0 x2.toNatClampNeg) → Q 0 S))
-- StackForgeModel.call(II)V
def wp9_call_184 (K : Int32 → Int32 → Int32 → St → Prop) (x1 : Int32) (x2 : Int32) (Q : St → Prop) (x3 : Int32) (x4 : Int32) (x5 : Int32) (s1 : Int32) (s2 : UInt64) (S : St) : Prop :=
  vp_in s1 36 ∧ ∀ S1, S1 = sD S 1926 0 s1.toNatClampNeg s2 → ∀ x5_1 : Int32, x5_1 = x5 + 1 → K x3 x4 x5_1 S1
def wp9_call_146 (K : Int32 → Int32 → Int32 → St → Prop) (x1 : Int32) (x2 : Int32) (Q : St → Prop) (x3 : Int32) (x4 : Int32) (x5 : Int32) (s1 : Int32) (s2 : Int64) (S : St) : Prop :=
  vp_in s1 36 ∧ ∀ S1, S1 = sJ S 1925 0 s1.toNatClampNeg s2 → (x4 ≤ x5 → wp9_call_184 K x1 x2 Q x3 x4 x5 ((6 * (gI S1 1930 0)) + x5) FP.dconst0 S1) ∧ (¬ x4 ≤ x5 → vp_in ((gI S1 1914 0) + x5) 200 ∧ wp9_call_184 K x1 x2 Q x3 x4 x5 ((6 * (gI S1 1930 0)) + x5) (gD S1 1923 0 (((gI S1 1914 0) + x5).toNatClampNeg)) S1)
def wp9_call_102 (x1 : Int32) (x2 : Int32) (Q : St → Prop) : Nat → Int32 → Int32 → Int32 → St → Prop
  | 0, _, _, _, _ => False
  | n + 1, x3, x4, x5, S => (6 ≤ x5 → wp9_enter S x3 ((gI S 1931 0) + 2) (fun S1 => Q S1)) ∧ (¬ 6 ≤ x5 → (x4 ≤ x5 → wp9_call_146 (fun k0 k1 k2 S9 => wp9_call_102 x1 x2 Q n k0 k1 k2 S9) x1 x2 Q x3 x4 x5 ((6 * (gI S 1930 0)) + x5) 0 S) ∧ (¬ x4 ≤ x5 → vp_in ((gI S 1914 0) + x5) 200 ∧ wp9_call_146 (fun k0 k1 k2 S9 => wp9_call_102 x1 x2 Q n k0 k1 k2 S9) x1 x2 Q x3 x4 x5 ((6 * (gI S 1930 0)) + x5) (gJ S 1922 0 (((gI S 1914 0) + x5).toNatClampNeg)) S))
def wp9_call_65 (x1 : Int32) (x2 : Int32) (Q : St → Prop) (x3 : Int32) (S : St) : Prop :=
  vp_in x3 6 ∧ ∀ x4_1 : Int32, x4_1 = gA S 1901 0 x3.toNatClampNeg → ∀ S1, S1 = sI S 1914 0 ((gI S 1914 0) - x4_1) → (¬ (gI S1 1930 0) = 6 → (∃ n, wp9_call_102 x1 x2 Q n x3 x4_1 0 S1)) ∧ ((gI S1 1930 0) = 6 → ∀ S2, S2 = sI S1 1934 0 1 → Q S2)
def wp9_call_36 (x1 : Int32) (x2 : Int32) (Q : St → Prop) (s0 : Int32) (S : St) : Prop :=
  (s0 < 0 → ∀ S1, S1 = sI S 1934 0 4 → Q S1) ∧ (¬ s0 < 0 → vp_in s0 6 ∧ ((gA S 1905 0 s0.toNatClampNeg) = 0 → ∀ S2, S2 = sI S 1934 0 4 → Q S2) ∧ (¬ (gA S 1905 0 s0.toNatClampNeg) = 0 → wp9_agree S s0 x2 (fun r1 S3 => (¬ r1 = 0 → wp9_call_65 x1 x2 Q s0 S3) ∧ (r1 = 0 → ∀ S4, S4 = sI S3 1934 0 4 → Q S4))))
def wp9_call (S : St) (x1 : Int32) (x2 : Int32) (Q : St → Prop) : Prop :=
  (¬ x1 = 12 → wp9_call_65 x1 x2 Q x2 S) ∧ (x1 = 12 → wp9_popInt S (fun r1 S1 => wp9_in S1 r1 0 7 (fun r2 S2 => (r2 = 0 → wp9_call_36 x1 x2 Q (-1) S2) ∧ (¬ r2 = 0 → vp_in r1 8 ∧ wp9_call_36 x1 x2 Q (gA S2 1906 0 r1.toNatClampNeg) S2))))
-- StackForgeModel.variable(II)V
def wp9_variable_122 (x1 : Int32) (x2 : Int32) (Q : St → Prop) (x3 : Int32) (x4 : Int32) (S : St) : Prop :=
  (¬ x1 = 19 → vp_in x4 200 ∧ vp_in x3 36 ∧ ∀ S1, S1 = sJ S 1925 0 x3.toNatClampNeg (gJ S 1922 0 x4.toNatClampNeg) → vp_in x4 200 ∧ vp_in x3 36 ∧ ∀ S2, S2 = sD S1 1926 0 x3.toNatClampNeg (gD S1 1923 0 x4.toNatClampNeg) → Q S2) ∧ (x1 = 19 → vp_in x4 200 ∧ vp_in x2 3 ∧ ∀ S3, S3 = sJ S 1908 0 x2.toNatClampNeg (gJ S 1922 0 x4.toNatClampNeg) → Q S3)
def wp9_variable_95 (x1 : Int32) (x2 : Int32) (Q : St → Prop) (x3 : Int32) (s0 : Int32) (S : St) : Prop :=
  (¬ x1 = 19 → wp9_variable_122 x1 x2 Q x3 s0 S) ∧ (x1 = 19 → (¬ x2 = 2 → wp9_variable_122 x1 x2 Q x3 s0 S) ∧ (x2 = 2 → vp_in s0 200 ∧ ∀ S1, S1 = sF S 1909 0 (gD S 1923 0 s0.toNatClampNeg) → Q S1))
def wp9_variable_76 (x1 : Int32) (x2 : Int32) (Q : St → Prop) (x3 : Int32) (S : St) : Prop :=
  (¬ x1 = 17 → wp9_variable_95 x1 x2 Q x3 (gI S 1914 0) S) ∧ (x1 = 17 → wp9_variable_95 x1 x2 Q x3 ((gI S 1914 0) - 1) S)
def wp9_variable (S : St) (x1 : Int32) (x2 : Int32) (Q : St → Prop) : Prop :=
  ∀ x3_1 : Int32, x3_1 = (6 * ((gI S 1930 0) - 1)) + x2 → (¬ x1 = 15 → (¬ x1 = 18 → (x1 = 17 → wp9_variable_76 x1 x2 Q x3_1 S) ∧ (¬ x1 = 17 → ∀ S1, S1 = sI S 1914 0 ((gI S 1914 0) - 1) → wp9_variable_76 x1 x2 Q x3_1 S1)) ∧ (x1 = 18 → vp_in x2 3 ∧ wp9_push S (gJ S 1908 0 x2.toNatClampNeg) (gF S 1909 0) (fun S2 => Q S2))) ∧ (x1 = 15 → vp_in x3_1 36 ∧ vp_in x3_1 36 ∧ wp9_push S (gJ S 1925 0 x3_1.toNatClampNeg) (gD S 1926 0 x3_1.toNatClampNeg) (fun S3 => Q S3))
-- StackForgeModel.access(II)V
def wp9_access_191 (x1 : Int32) (x2 : Int32) (Q : St → Prop) (s1 : Int64) (S : St) : Prop :=
  wp9_push S s1 FP.dconst0 (fun S1 => Q S1)
def wp9_access_163 (K : Int64 → Int64 → Int64 → Int32 → St → Prop) (x1 : Int32) (x2 : Int32) (Q : St → Prop) (x4 : Int64) (x6 : Int64) (x8 : Int64) (x10 : Int32) (S : St) : Prop :=
  ∀ x10_1 : Int32, x10_1 = x10 + (-1) → K x4 x6 x8 x10_1 S
def wp9_access_105 (x1 : Int32) (x2 : Int32) (Q : St → Prop) : Nat → Int64 → Int64 → Int64 → Int32 → St → Prop
  | 0, _, _, _, _, _ => False
  | n + 1, x4, x6, x8, x10, S => (x10 < 0 → (26 ≤ x1 → Q S) ∧ (¬ 26 ≤ x1 → (¬ x1 = 23 → wp9_access_191 x1 x2 Q x8 S) ∧ (x1 = 23 → wp9_access_191 x1 x2 Q x8.toInt32.toInt64 S))) ∧ (¬ x10 < 0 → ∀ x11_1 : Int32, x11_1 = x6.toInt32 + x10 → (x1 < 26 → vp_in x11_1 64 ∧ ∀ x8_1 : Int64, x8_1 = (jlshl x8 8) ||| ((gA S 1907 0 x11_1.toNatClampNeg).toInt64) → wp9_access_163 (fun k0 k1 k2 k3 S9 => wp9_access_105 x1 x2 Q n k0 k1 k2 k3 S9) x1 x2 Q x4 x6 x8_1 x10 S) ∧ (¬ x1 < 26 → vp_in x11_1 64 ∧ ∀ S1, S1 = sA S 1907 0 x11_1.toNatClampNeg (((jlshr x4 (8 * x10)).toInt32) &&& 255) → wp9_access_163 (fun k0 k1 k2 k3 S9 => wp9_access_105 x1 x2 Q n k0 k1 k2 k3 S9) x1 x2 Q x4 x6 x8 x10 S1))
def wp9_access_51 (x1 : Int32) (x2 : Int32) (Q : St → Prop) (x3 : Int32) (S : St) : Prop :=
  vp_in (gI S 1914 0) 200 ∧ ∀ x4_1 : Int64, x4_1 = gJ S 1922 0 ((gI S 1914 0).toNatClampNeg) → wp9_popInt S (fun r1 S1 => ∀ x6_1 : Int64, x6_1 = r1.toInt64 + x2.toInt64 → ((lg_cmp x6_1 0) < 0 → ∀ S2, S2 = sI S1 1934 0 3 → Q S2) ∧ (¬ (lg_cmp x6_1 0) < 0 → ((lg_cmp (x6_1 + x3.toInt64) (64 : Int64)) ≤ 0 → ∀ x10_1 : Int32, x10_1 = x3 - 1 → ∃ n, wp9_access_105 x1 x2 Q n x4_1 x6_1 0 x10_1 S1) ∧ (¬ (lg_cmp (x6_1 + x3.toInt64) (64 : Int64)) ≤ 0 → ∀ S3, S3 = sI S1 1934 0 3 → Q S3)))
def wp9_access_34 (x1 : Int32) (x2 : Int32) (Q : St → Prop) (s0 : Int32) (S : St) : Prop :=
  (x1 < 26 → wp9_access_51 x1 x2 Q s0 S) ∧ (¬ x1 < 26 → ∀ S1, S1 = sI S 1914 0 ((gI S 1914 0) - 1) → wp9_access_51 x1 x2 Q s0 S1)
def wp9_access_28 (x1 : Int32) (x2 : Int32) (Q : St → Prop)  (S : St) : Prop :=
  wp9_access_34 x1 x2 Q 8 S
def wp9_access_12 (x1 : Int32) (x2 : Int32) (Q : St → Prop)  (S : St) : Prop :=
  wp9_access_34 x1 x2 Q 1 S
def wp9_access (S : St) (x1 : Int32) (x2 : Int32) (Q : St → Prop) : Prop :=
  (x1 = 24 → wp9_access_12 x1 x2 Q S) ∧ (¬ x1 = 24 → (¬ x1 = 27 → (x1 = 25 → wp9_access_28 x1 x2 Q S) ∧ (¬ x1 = 25 → (¬ x1 = 28 → wp9_access_34 x1 x2 Q 4 S) ∧ (x1 = 28 → wp9_access_28 x1 x2 Q S))) ∧ (x1 = 27 → wp9_access_12 x1 x2 Q S))
-- StackForgeModel.bits(IJJI)J
def wp9_bits (S : St) (x0 : Int32) (x1 : Int64) (x3 : Int64) (x5 : Int32) (Q : Int64 → St → Prop) : Prop :=
  ∀ x6_1 : Int32, x6_1 = x3.toInt32 &&& (x5 - 1) → (¬ x0 = 5 → (¬ x0 = 6 → (¬ x0 = 7 → (¬ x0 = 8 → (¬ x0 = 9 → (¬ x5 = 64 → Q ((jushr x1.toInt32 x6_1).toInt64) S) ∧ (x5 = 64 → Q (jlushr x1 x6_1) S)) ∧ (x0 = 9 → Q (jlshr x1 x6_1) S)) ∧ (x0 = 8 → Q (jlshl x1 x6_1) S)) ∧ (x0 = 7 → Q (x1 ^^^ x3) S)) ∧ (x0 = 6 → Q (x1 ||| x3) S)) ∧ (x0 = 5 → Q (x1 &&& x3) S)
-- StackForgeModel.calculate(II)V
def wp9_calculate_251 (x1 : Int32) (x2 : Int32) (Q : St → Prop) (s1 : Int64) (S : St) : Prop :=
  wp9_push S s1 FP.dconst0 (fun S1 => Q S1)
def wp9_calculate_235 (x1 : Int32) (x2 : Int32) (Q : St → Prop) (x7 : Int64) (S : St) : Prop :=
  (¬ x2 = 32 → wp9_calculate_251 x1 x2 Q x7 S) ∧ (x2 = 32 → wp9_calculate_251 x1 x2 Q x7.toInt32.toInt64 S)
def wp9_calculate_233 (x1 : Int32) (x2 : Int32) (Q : St → Prop) (s0 : Int64) (S : St) : Prop :=
  wp9_calculate_235 x1 x2 Q s0 S
def wp9_calculate_208 (x1 : Int32) (x2 : Int32) (Q : St → Prop) (s0 : Int64) (S : St) : Prop :=
  wp9_calculate_235 x1 x2 Q s0 S
def wp9_calculate_185 (x1 : Int32) (x2 : Int32) (Q : St → Prop) (s0 : Int64) (S : St) : Prop :=
  wp9_calculate_235 x1 x2 Q s0 S
def wp9_calculate_162 (x1 : Int32) (x2 : Int32) (Q : St → Prop) (s0 : Int64) (S : St) : Prop :=
  wp9_calculate_235 x1 x2 Q s0 S
def wp9_calculate_56 (x1 : Int32) (x2 : Int32) (Q : St → Prop) (x3 : Int64) (x5 : Int64) (S : St) : Prop :=
  (¬ x1 = 0 → (¬ x1 = 1 → (¬ x1 = 2 → (¬ x1 = 3 → (¬ x1 = 4 → (11 ≤ x1 → (¬ x1 = 11 → (¬ x1 = 12 → (¬ x1 = 13 → (0 ≤ (lg_cmp (x3 &&& (4294967295 : Int64)) (x5 &&& (4294967295 : Int64))) → wp9_calculate_233 x1 x2 Q 0 S) ∧ (¬ 0 ≤ (lg_cmp (x3 &&& (4294967295 : Int64)) (x5 &&& (4294967295 : Int64))) → wp9_calculate_233 x1 x2 Q 1 S)) ∧ (x1 = 13 → (0 ≤ (lg_cmp x3 x5) → wp9_calculate_208 x1 x2 Q 0 S) ∧ (¬ 0 ≤ (lg_cmp x3 x5) → wp9_calculate_208 x1 x2 Q 1 S))) ∧ (x1 = 12 → ((lg_cmp x3 x5) = 0 → wp9_calculate_185 x1 x2 Q 0 S) ∧ (¬ (lg_cmp x3 x5) = 0 → wp9_calculate_185 x1 x2 Q 1 S))) ∧ (x1 = 11 → (¬ (lg_cmp x3 x5) = 0 → wp9_calculate_162 x1 x2 Q 0 S) ∧ ((lg_cmp x3 x5) = 0 → wp9_calculate_162 x1 x2 Q 1 S))) ∧ (¬ 11 ≤ x1 → wp9_bits S x1 x3 x5 x2 (fun r1 S1 => wp9_calculate_235 x1 x2 Q r1 S1))) ∧ (x1 = 4 → ¬ x5 = 0 ∧ ∀ x7_1 : Int64, x7_1 = x3 - x3 / x5 * x5 → wp9_calculate_235 x1 x2 Q x7_1 S)) ∧ (x1 = 3 → ¬ x5 = 0 ∧ ∀ x7_2 : Int64, x7_2 = x3 / x5 → wp9_calculate_235 x1 x2 Q x7_2 S)) ∧ (x1 = 2 → ∀ x7_3 : Int64, x7_3 = x3 * x5 → wp9_calculate_235 x1 x2 Q x7_3 S)) ∧ (x1 = 1 → ∀ x7_4 : Int64, x7_4 = x3 - x5 → wp9_calculate_235 x1 x2 Q x7_4 S)) ∧ (x1 = 0 → ∀ x7_5 : Int64, x7_5 = x3 + x5 → wp9_calculate_235 x1 x2 Q x7_5 S)
def wp9_calculate_43 (x1 : Int32) (x2 : Int32) (Q : St → Prop) (x3 : Int64) (x5 : Int64) (S : St) : Prop :=
  (¬ (lg_cmp x5 0) = 0 → wp9_calculate_56 x1 x2 Q x3 x5 S) ∧ ((lg_cmp x5 0) = 0 → ∀ S1, S1 = sI S 1934 0 2 → Q S1)
def wp9_calculate (S : St) (x1 : Int32) (x2 : Int32) (Q : St → Prop) : Prop :=
  ∀ S1, S1 = sI S 1914 0 ((gI S 1914 0) - 2) → vp_in (gI S1 1914 0) 200 ∧ ∀ x3_1 : Int64, x3_1 = gJ S1 1922 0 ((gI S1 1914 0).toNatClampNeg) → vp_in ((gI S1 1914 0) + 1) 200 ∧ ∀ x5_1 : Int64, x5_1 = gJ S1 1922 0 (((gI S1 1914 0) + 1).toNatClampNeg) → (x1 = 3 → wp9_calculate_43 x1 x2 Q x3_1 x5_1 S1) ∧ (¬ x1 = 3 → (¬ x1 = 4 → wp9_calculate_56 x1 x2 Q x3_1 x5_1 S1) ∧ (x1 = 4 → wp9_calculate_43 x1 x2 Q x3_1 x5_1 S1))
-- StackForgeModel.measure(I)V
def wp9_measure_141 (x1 : Int32) (Q : St → Prop) (s0 : UInt64) (S : St) : Prop :=
  (0 < (Op.cmpValue (FP.dcmp s0 (9094988921128908188 : UInt64)) .l) → ∀ S1, S1 = sI S 1934 0 5 → Q S1) ∧ (¬ 0 < (Op.cmpValue (FP.dcmp s0 (9094988921128908188 : UInt64)) .l) → (0 ≤ (Op.cmpValue (FP.dcmp s0 (18318360957983683996 : UInt64)) .g) → wp9_push S 0 s0 (fun S2 => Q S2)) ∧ (¬ 0 ≤ (Op.cmpValue (FP.dcmp s0 (18318360957983683996 : UInt64)) .g) → ∀ S3, S3 = sI S 1934 0 5 → Q S3))
def wp9_measure_98 (x1 : Int32) (Q : St → Prop) (x2 : UInt64) (x4 : UInt64) (S : St) : Prop :=
  (¬ x1 = 70 → (¬ x1 = 71 → (¬ x1 = 72 → vf_n64 (FP.ddiv x2 x4) ∧ wp9_measure_141 x1 Q (FP.ddiv x2 x4) S) ∧ (x1 = 72 → vf_n64 (FP.dmul x2 x4) ∧ wp9_measure_141 x1 Q (FP.dmul x2 x4) S)) ∧ (x1 = 71 → vf_n64 (FP.dsub x2 x4) ∧ wp9_measure_141 x1 Q (FP.dsub x2 x4) S)) ∧ (x1 = 70 → vf_n64 (FP.dadd x2 x4) ∧ wp9_measure_141 x1 Q (FP.dadd x2 x4) S)
def wp9_measure_74 (x1 : Int32) (Q : St → Prop) (s1 : Int64) (S : St) : Prop :=
  wp9_push S s1 FP.dconst0 (fun S1 => Q S1)
def wp9_measure_73 (x1 : Int32) (Q : St → Prop)  (S : St) : Prop :=
  wp9_measure_74 x1 Q 0 S
def wp9_measure_69 (x1 : Int32) (Q : St → Prop)  (S : St) : Prop :=
  wp9_measure_74 x1 Q 1 S
def wp9_measure_45 (x1 : Int32) (Q : St → Prop) (x2 : UInt64) (x4 : UInt64) (S : St) : Prop :=
  (¬ x1 = 74 → (0 ≤ (Op.cmpValue (FP.dcmp x2 x4) .g) → wp9_measure_73 x1 Q S) ∧ (¬ 0 ≤ (Op.cmpValue (FP.dcmp x2 x4) .g) → wp9_measure_69 x1 Q S)) ∧ (x1 = 74 → (¬ (Op.cmpValue (FP.dcmp x2 x4) .l) = 0 → wp9_measure_73 x1 Q S) ∧ ((Op.cmpValue (FP.dcmp x2 x4) .l) = 0 → wp9_measure_69 x1 Q S))
def wp9_measure (S : St) (x1 : Int32) (Q : St → Prop) : Prop :=
  ∀ S1, S1 = sI S 1914 0 ((gI S 1914 0) - 2) → vp_in (gI S1 1914 0) 200 ∧ ∀ x2_1 : UInt64, x2_1 = gD S1 1923 0 ((gI S1 1914 0).toNatClampNeg) → vp_in ((gI S1 1914 0) + 1) 200 ∧ ∀ x4_1 : UInt64, x4_1 = gD S1 1923 0 (((gI S1 1914 0) + 1).toNatClampNeg) → (x1 = 74 → wp9_measure_45 x1 Q x2_1 x4_1 S1) ∧ (¬ x1 = 74 → (¬ x1 = 75 → (¬ x1 = 73 → wp9_measure_98 x1 Q x2_1 x4_1 S1) ∧ (x1 = 73 → (¬ (Op.cmpValue (FP.dcmp x4_1 FP.dconst0) .l) = 0 → wp9_measure_98 x1 Q x2_1 x4_1 S1) ∧ ((Op.cmpValue (FP.dcmp x4_1 FP.dconst0) .l) = 0 → ∀ S2, S2 = sI S1 1934 0 2 → Q S2))) ∧ (x1 = 75 → wp9_measure_45 x1 Q x2_1 x4_1 S1))
-- StackForgeModel.turn(I)V
def wp9_turn_124 (x1 : Int32) (Q : St → Prop) (x2 : Int64) (S : St) : Prop :=
  wp9_push S 0 (FP.l2d x2) (fun S1 => Q S1)
def wp9_turn_55 (x1 : Int32) (Q : St → Prop) (s1 : Int64) (S : St) : Prop :=
  wp9_push S s1 FP.dconst0 (fun S1 => Q S1)
def wp9_turn_43 (x1 : Int32) (Q : St → Prop) (x2 : Int64) (S : St) : Prop :=
  (¬ (lg_cmp x2 0) = 0 → wp9_turn_55 x1 Q 0 S) ∧ ((lg_cmp x2 0) = 0 → wp9_turn_55 x1 Q 1 S)
def wp9_turn (S : St) (x1 : Int32) (Q : St → Prop) : Prop :=
  ∀ S1, S1 = sI S 1914 0 ((gI S 1914 0) - 1) → vp_in (gI S1 1914 0) 200 ∧ ∀ x2_1 : Int64, x2_1 = gJ S1 1922 0 ((gI S1 1914 0).toNatClampNeg) → vp_in (gI S1 1914 0) 200 ∧ ∀ x4_1 : UInt64, x4_1 = gD S1 1923 0 ((gI S1 1914 0).toNatClampNeg) → (x1 = 45 → wp9_turn_43 x1 Q x2_1 S1) ∧ (¬ x1 = 45 → (¬ x1 = 64 → (¬ x1 = 76 → (¬ x1 = 80 → (¬ x1 = 81 → (x1 = 82 → wp9_turn_124 x1 Q x2_1 S1) ∧ (¬ x1 = 82 → (¬ x1 = 84 → (¬ x1 = 85 → ((Op.cmpValue (FP.dcmp x4_1 (13970166044105375744 : UInt64)) .l) ≤ 0 → ∀ S2, S2 = sI S1 1934 0 5 → Q S2) ∧ (¬ (Op.cmpValue (FP.dcmp x4_1 (13970166044105375744 : UInt64)) .l) ≤ 0 → (0 ≤ (Op.cmpValue (FP.dcmp x4_1 (4746794007248502784 : UInt64)) .g) → ∀ S3, S3 = sI S1 1934 0 5 → Q S3) ∧ (¬ 0 ≤ (Op.cmpValue (FP.dcmp x4_1 (4746794007248502784 : UInt64)) .g) → wp9_push S1 ((FP.d2i x4_1).toInt64) FP.dconst0 (fun S4 => Q S4)))) ∧ (x1 = 85 → wp9_push S1 (x2_1 &&& (4294967295 : Int64)) FP.dconst0 (fun S5 => Q S5))) ∧ (x1 = 84 → wp9_turn_124 x1 Q x2_1 S1))) ∧ (x1 = 81 → wp9_push S1 x2_1 FP.dconst0 (fun S6 => Q S6))) ∧ (x1 = 80 → wp9_push S1 x2_1.toInt32.toInt64 FP.dconst0 (fun S7 => Q S7))) ∧ (x1 = 76 → vf_n64 (FP.dsub FP.dconst0 x4_1) ∧ wp9_push S1 0 (FP.dsub FP.dconst0 x4_1) (fun S8 => Q S8))) ∧ (x1 = 64 → wp9_turn_43 x1 Q x2_1 S1))
-- StackForgeModel.plain(II)V
def wp9_plain_62 (x1 : Int32) (x2 : Int32) (Q : St → Prop)  (S : St) : Prop :=
  wp9_turn S x1 (fun S1 => Q S1)
def wp9_plain_29 (x1 : Int32) (x2 : Int32) (Q : St → Prop)  (S : St) : Prop :=
  (28 < x1 → (x1 = 45 → wp9_plain_62 x1 x2 Q S) ∧ (¬ x1 = 45 → (x1 = 64 → wp9_plain_62 x1 x2 Q S) ∧ (¬ x1 = 64 → (x1 < 76 → (50 ≤ x1 → (65 ≤ x1 → wp9_measure S x1 (fun S1 => Q S1)) ∧ (¬ 65 ≤ x1 → wp9_calculate S (x1 - 50) 64 (fun S2 => Q S2))) ∧ (¬ 50 ≤ x1 → wp9_calculate S (x1 - 30) 32 (fun S3 => Q S3))) ∧ (¬ x1 < 76 → wp9_plain_62 x1 x2 Q S)))) ∧ (¬ 28 < x1 → wp9_access S x1 x2 (fun S4 => Q S4))
def wp9_plain (S : St) (x1 : Int32) (x2 : Int32) (Q : St → Prop) : Prop :=
  (x1 < 20 → wp9_plain_29 x1 x2 Q S) ∧ (¬ x1 < 20 → (22 < x1 → wp9_plain_29 x1 x2 Q S) ∧ (¬ 22 < x1 → vf_n64 (FP.dmul (FP.i2d x2.toInt8.toInt32) (4593671619917905920 : UInt64)) ∧ wp9_push S x2.toInt8.toInt32.toInt64 (FP.dmul (FP.i2d x2.toInt8.toInt32) (4593671619917905920 : UInt64)) (fun S1 => Q S1)))
-- StackForgeModel.select()V
def wp9_select (S : St)  (Q : St → Prop) : Prop :=
  wp9_popInt S (fun r1 S1 => ∀ S2, S2 = sI S1 1914 0 ((gI S1 1914 0) - 1) → (r1 = 0 → vp_in (gI S2 1914 0) 200 ∧ vp_in ((gI S2 1914 0) - 1) 200 ∧ ∀ S3, S3 = sJ S2 1922 0 (((gI S2 1914 0) - 1).toNatClampNeg) (gJ S2 1922 0 ((gI S2 1914 0).toNatClampNeg)) → vp_in (gI S3 1914 0) 200 ∧ vp_in ((gI S3 1914 0) - 1) 200 ∧ ∀ S4, S4 = sD S3 1923 0 (((gI S3 1914 0) - 1).toNatClampNeg) (gD S3 1923 0 ((gI S3 1914 0).toNatClampNeg)) → Q S4) ∧ (¬ r1 = 0 → Q S2))
-- StackForgeModel.moves(III)V
def wp9_moves_207 (x1 : Int32) (x2 : Int32) (x3 : Int32) (Q : St → Prop) (s2 : Int32) (s3 : Int32) (s4 : Int32) (S : St) : Prop :=
  wp9_byteAt S s2 (s3 + s4) (fun r1 S1 => wp9_jump S1 r1 (fun S2 => Q S2))
def wp9_moves (S : St) (x1 : Int32) (x2 : Int32) (x3 : Int32) (Q : St → Prop) : Prop :=
  (¬ x2 = 6 → (¬ x2 = 5 → (5 ≤ x2 → (¬ x2 = 7 → (¬ x2 = 10 → (¬ x2 = 8 → (¬ x2 = 9 → wp9_call S x2 x3 (fun S1 => Q S1)) ∧ (x2 = 9 → wp9_popInt S (fun r1 S2 => wp9_in S2 r1 0 (x3 - 1) (fun r2 S3 => (r2 = 0 → wp9_moves_207 x1 x2 x3 Q x1 ((gI S2 1931 0) + 2) x3 S3) ∧ (¬ r2 = 0 → wp9_moves_207 x1 x2 x3 Q x1 ((gI S2 1931 0) + 2) r1 S3))))) ∧ (x2 = 8 → wp9_popInt S (fun r3 S4 => (r3 = 0 → ∀ S5, S5 = sI S4 1931 0 ((gI S4 1931 0) + 2) → Q S5) ∧ (¬ r3 = 0 → wp9_jump S4 x3 (fun S6 => Q S6))))) ∧ (x2 = 10 → wp9_leave S (fun S7 => Q S7))) ∧ (x2 = 7 → wp9_jump S x3 (fun S8 => Q S8))) ∧ (¬ 5 ≤ x2 → wp9_block S x1 x2 x3 (fun S9 => Q S9))) ∧ (x2 = 5 → ∀ S10, S10 = sI S 1920 0 ((gI S 1920 0) - 1) → wp9_seek S10 x1 ((gI S10 1931 0) + 1) 0 (fun r4 S11 => ∀ S12, S12 = sI S11 1931 0 (r4 + 1) → Q S12))) ∧ (x2 = 6 → vp_in ((gI S 1930 0) - 1) 6 ∧ (¬ ((gI S 1920 0) - 1) = (gA S 1929 0 (((gI S 1930 0) - 1).toNatClampNeg)) → ∀ S13, S13 = sI S 1920 0 ((gI S 1920 0) - 1) → ∀ S14, S14 = sI S13 1931 0 ((gI S13 1931 0) + 1) → Q S14) ∧ (((gI S 1920 0) - 1) = (gA S 1929 0 (((gI S 1930 0) - 1).toNatClampNeg)) → wp9_leave S (fun S15 => Q S15)))
-- StackForgeModel.step()V
def wp9_step_166  (Q : St → Prop) (x2 : Int32) (x3 : Int32) (x4 : Int32) (S : St) : Prop :=
  (x2 ≤ 19 → ∀ S1, S1 = sI S 1931 0 x4 → Q S1) ∧ (¬ x2 ≤ 19 → wp9_plain S x2 x3 (fun S2 => ∀ S3, S3 = sI S2 1931 0 x4 → Q S3))
def wp9_step_101  (Q : St → Prop) (x2 : Int32) (x3 : Int32) (x4 : Int32) (S : St) : Prop :=
  (¬ x2 = 0 → (¬ x2 = 13 → (¬ x2 = 14 → (x2 < 15 → wp9_step_166 Q x2 x3 x4 S) ∧ (¬ x2 < 15 → (19 < x2 → wp9_step_166 Q x2 x3 x4 S) ∧ (¬ 19 < x2 → wp9_variable S x2 x3 (fun S1 => ∀ S2, S2 = sI S1 1931 0 x4 → Q S2)))) ∧ (x2 = 14 → wp9_select S (fun S3 => ∀ S4, S4 = sI S3 1931 0 x4 → Q S4))) ∧ (x2 = 13 → ∀ S5, S5 = sI S 1914 0 ((gI S 1914 0) - 1) → ∀ S6, S6 = sI S5 1931 0 x4 → Q S6)) ∧ (x2 = 0 → ∀ S7, S7 = sI S 1934 0 1 → ∀ S8, S8 = sI S7 1931 0 x4 → Q S8)
def wp9_step_48  (Q : St → Prop) (x1 : Int32) (x2 : Int32) (s0 : Int32) (S : St) : Prop :=
  wp9_behind S x1 (gI S 1931 0) (fun r1 S1 => ∀ x4_1 : Int32, x4_1 = ((gI S 1931 0) + 1) + r1 → ∀ S2, S2 = sI S1 1934 0 0 → ∀ S3, S3 = sI S2 1933 0 ((gI S2 1933 0) + 1) → (x2 < 2 → wp9_step_101 Q x2 s0 x4_1 S3) ∧ (¬ x2 < 2 → (12 < x2 → wp9_step_101 Q x2 s0 x4_1 S3) ∧ (¬ 12 < x2 → wp9_moves S3 x1 x2 s0 (fun S4 => Q S4))))
def wp9_step (S : St)  (Q : St → Prop) : Prop :=
  vp_in ((gI S 1930 0) - 1) 6 ∧ ∀ x1_1 : Int32, x1_1 = gA S 1927 0 (((gI S 1930 0) - 1).toNatClampNeg) → wp9_byteAt S x1_1 (gI S 1931 0) (fun r1 S1 => (60 ≤ ((gI S1 1931 0) + 1) → wp9_step_48 Q x1_1 r1 0 S1) ∧ (¬ 60 ≤ ((gI S1 1931 0) + 1) → wp9_byteAt S1 x1_1 ((gI S1 1931 0) + 1) (fun r2 S2 => wp9_step_48 Q x1_1 r1 r2 S2)))
-- StackForgeModel.run(I)I
def wp9_run_42 (x1 : Int32) (Q : Int32 → St → Prop) : Nat → Int32 → St → Prop
  | 0, _, _ => False
  | n + 1, x2, S => (x1 ≤ x2 → Q x2 S) ∧ (¬ x1 ≤ x2 → (¬ (gI S 1932 0) = 1 → Q x2 S) ∧ ((gI S 1932 0) = 1 → wp9_step S (fun S1 => ∀ x2_1 : Int32, x2_1 = x2 + 1 → ((gI S1 1934 0) ≤ 0 → wp9_run_42 x1 Q n x2_1 S1) ∧ (¬ (gI S1 1934 0) ≤ 0 → ∀ S2, S2 = sI S1 1932 0 3 → ∀ S3, S3 = sI S2 1935 0 (gI S2 1934 0) → (¬ (gI S3 1934 0) = 1 → ∀ S4, S4 = sI S3 1939 0 ((gI S3 1934 0) + 1) → Q 0 S4) ∧ ((gI S3 1934 0) = 1 → ∀ S5, S5 = sI S3 1939 0 7 → Q 0 S5)))))
def wp9_run_31 (x1 : Int32) (Q : Int32 → St → Prop) (s1 : Int32) (S : St) : Prop :=
  wp9_good S s1 2 (fun r1 S1 => (¬ r1 = 0 → (∃ n, wp9_run_42 x1 Q n 0 S1)) ∧ (r1 = 0 → Q 0 S1))
def wp9_run (S : St) (x1 : Int32) (Q : Int32 → St → Prop) : Prop :=
  wp9_in S x1 1 20 (fun r1 S1 => wp9_good S1 r1 1 (fun r2 S2 => (¬ r2 = 0 → (¬ (gI S2 1932 0) = 1 → wp9_run_31 x1 Q 0 S2) ∧ ((gI S2 1932 0) = 1 → wp9_run_31 x1 Q 1 S2)) ∧ (r2 = 0 → Q 0 S2)))
-- StackForgeModel.stop()I
def wp9_stop_14  (Q : Int32 → St → Prop) (s1 : Int32) (S : St) : Prop :=
  wp9_good S s1 1 (fun r1 S1 => (¬ r1 = 0 → ∀ S2, S2 = sI S1 1932 0 0 → Q (gI S2 1933 0) S2) ∧ (r1 = 0 → Q 0 S1))
def wp9_stop (S : St)  (Q : Int32 → St → Prop) : Prop :=
  (¬ (gI S 1932 0) = 1 → wp9_stop_14 Q 0 S) ∧ ((gI S 1932 0) = 1 → wp9_stop_14 Q 1 S)
-- StackForgeModel.result()J
def wp9_result_45  (Q : Int64 → St → Prop) (s1 : Int32) (S : St) : Prop :=
  wp9_good S s1 2 (fun r1 S1 => (r1 = 0 → Q 0 S1) ∧ (¬ r1 = 0 → Q (gL S1 1937 0) S1))
def wp9_result_40  (Q : Int64 → St → Prop)  (S : St) : Prop :=
  wp9_result_45 Q 1 S
def wp9_result_14  (Q : Int64 → St → Prop) (s1 : Int32) (S : St) : Prop :=
  wp9_good S s1 1 (fun r1 S1 => (¬ r1 = 0 → ((gI S1 1936 0) = 1 → wp9_result_40 Q S1) ∧ (¬ (gI S1 1936 0) = 1 → (¬ (gI S1 1936 0) = 2 → wp9_result_45 Q 0 S1) ∧ ((gI S1 1936 0) = 2 → wp9_result_40 Q S1))) ∧ (r1 = 0 → Q 0 S1))
def wp9_result (S : St)  (Q : Int64 → St → Prop) : Prop :=
  (¬ (gI S 1932 0) = 2 → wp9_result_14 Q 0 S) ∧ ((gI S 1932 0) = 2 → wp9_result_14 Q 1 S)
-- StackForgeModel.real()D
def wp9_real_37  (Q : UInt64 → St → Prop) (s1 : Int32) (S : St) : Prop :=
  wp9_good S s1 2 (fun r1 S1 => (r1 = 0 → Q FP.dconst0 S1) ∧ (¬ r1 = 0 → Q (gF S1 1938 0) S1))
def wp9_real_14  (Q : UInt64 → St → Prop) (s1 : Int32) (S : St) : Prop :=
  wp9_good S s1 1 (fun r1 S1 => (¬ r1 = 0 → (¬ (gI S1 1936 0) = 3 → wp9_real_37 Q 0 S1) ∧ ((gI S1 1936 0) = 3 → wp9_real_37 Q 1 S1)) ∧ (r1 = 0 → Q FP.dconst0 S1))
def wp9_real (S : St)  (Q : UInt64 → St → Prop) : Prop :=
  (¬ (gI S 1932 0) = 2 → wp9_real_14 Q 0 S) ∧ ((gI S 1932 0) = 2 → wp9_real_14 Q 1 S)
-- StackForgeModel.global(I)J
def wp9_global (S : St) (x1 : Int32) (Q : Int64 → St → Prop) : Prop :=
  wp9_in S x1 0 1 (fun r1 S1 => wp9_good S1 r1 1 (fun r2 S2 => (r2 = 0 → Q 0 S2) ∧ (¬ r2 = 0 → vp_in x1 3 ∧ Q (gJ S2 1908 0 x1.toNatClampNeg) S2)))
-- StackForgeModel.realGlobal()D
def wp9_realGlobal (S : St)  (Q : UInt64 → St → Prop) : Prop :=
  ∀ S1, S1 = sI S 1939 0 0 → Q (gF S1 1909 0) S1
-- StackForgeModel.memory(I)I
def wp9_memory (S : St) (x1 : Int32) (Q : Int32 → St → Prop) : Prop :=
  wp9_in S x1 0 63 (fun r1 S1 => wp9_good S1 r1 1 (fun r2 S2 => (r2 = 0 → Q 0 S2) ∧ (¬ r2 = 0 → vp_in x1 64 ∧ Q (gA S2 1907 0 x1.toNatClampNeg) S2)))
-- StackForgeModel.wipe()I
def wp9_wipe_45 (K : Int32 → Int32 → St → Prop)  (Q : Int32 → St → Prop) (x1 : Int32) (x2 : Int32) (S : St) : Prop :=
  vp_in x2 64 ∧ ∀ S1, S1 = sA S 1907 0 x2.toNatClampNeg 0 → ∀ x2_1 : Int32, x2_1 = x2 + 1 → K x1 x2_1 S1
def wp9_wipe_27  (Q : Int32 → St → Prop) : Nat → Int32 → Int32 → St → Prop
  | 0, _, _, _ => False
  | n + 1, x1, x2, S => (64 ≤ x2 → ∀ S1, S1 = sJ S 1908 0 ((0 : Int32).toNatClampNeg) 0 → ∀ S2, S2 = sJ S1 1908 0 ((1 : Int32).toNatClampNeg) 0 → ∀ S3, S3 = sF S2 1909 0 FP.dconst0 → Q x1 S3) ∧ (¬ 64 ≤ x2 → vp_in x2 64 ∧ ((gA S 1907 0 x2.toNatClampNeg) = 0 → wp9_wipe_45 (fun k0 k1 S9 => wp9_wipe_27 Q n k0 k1 S9) Q x1 x2 S) ∧ (¬ (gA S 1907 0 x2.toNatClampNeg) = 0 → ∀ x1_1 : Int32, x1_1 = x1 + 1 → wp9_wipe_45 (fun k0 k1 S9 => wp9_wipe_27 Q n k0 k1 S9) Q x1_1 x2 S))
def wp9_wipe_14  (Q : Int32 → St → Prop) (s1 : Int32) (S : St) : Prop :=
  wp9_good S s1 1 (fun r1 S1 => (¬ r1 = 0 → (∃ n, wp9_wipe_27 Q n 0 0 S1)) ∧ (r1 = 0 → Q 0 S1))
def wp9_wipe (S : St)  (Q : Int32 → St → Prop) : Prop :=
  ((gI S 1932 0) = 1 → wp9_wipe_14 Q 0 S) ∧ (¬ (gI S 1932 0) = 1 → wp9_wipe_14 Q 1 S)
-- StackForgeModel.count(I)I
def wp9_count (S : St) (x1 : Int32) (Q : Int32 → St → Prop) : Prop :=
  wp9_in S x1 0 11 (fun r1 S1 => wp9_good S1 r1 1 (fun r2 S2 => (¬ r2 = 0 → (x1 ≤ 5 → (¬ x1 = 0 → (¬ x1 = 1 → (¬ x1 = 2 → (¬ x1 = 3 → (¬ x1 = 4 → Q (gI S2 1911 0) S2) ∧ (x1 = 4 → ((gI S2 1912 0) = 0 → Q 0 S2) ∧ (¬ (gI S2 1912 0) = 0 → Q 1 S2))) ∧ (x1 = 3 → Q (gI S2 1935 0) S2)) ∧ (x1 = 2 → (¬ (gI S2 1932 0) = 1 → Q 0 S2) ∧ ((gI S2 1932 0) = 1 → Q (gI S2 1930 0) S2))) ∧ (x1 = 1 → Q (gI S2 1933 0) S2)) ∧ (x1 = 0 → Q (gI S2 1932 0) S2)) ∧ (¬ x1 ≤ 5 → vp_in (x1 - 6) 6 ∧ Q (gA S2 1905 0 ((x1 - 6).toNatClampNeg)) S2)) ∧ (r2 = 0 → Q 0 S2)))
