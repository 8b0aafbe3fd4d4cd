/-! PURE: getters behind writers -/
theorem gI_sI (S : St) (k i : Nat) (v : Int32) (k' i' : Nat) : gI (sI S k i v) k' i' = if k' = k ∧ i' = i then v else gI S k' i' := rfl
theorem gA_sI (S : St) (k i : Nat) (v : Int32) (k' i' j' : Nat) : gA (sI S k i v) k' i' j' = gA S k' i' j' := rfl
theorem gJ_sI (S : St) (k i : Nat) (v : Int32) (k' i' j' : Nat) : gJ (sI S k i v) k' i' j' = gJ S k' i' j' := rfl
theorem gD_sI (S : St) (k i : Nat) (v : Int32) (k' i' j' : Nat) : gD (sI S k i v) k' i' j' = gD S k' i' j' := rfl
theorem gR_sI (S : St) (k i : Nat) (v : Int32) (k' i' : Nat) : gR (sI S k i v) k' i' = gR S k' i' := rfl
theorem gL_sI (S : St) (k i : Nat) (v : Int32) (k' i' : Nat) : gL (sI S k i v) k' i' = gL S k' i' := rfl
theorem gF_sI (S : St) (k i : Nat) (v : Int32) (k' i' : Nat) : gF (sI S k i v) k' i' = gF S k' i' := rfl
theorem gI_sA (S : St) (k i j : Nat) (v : Int32) (k' i' : Nat) : gI (sA S k i j v) k' i' = gI S k' i' := rfl
theorem gA_sA (S : St) (k i j : Nat) (v : Int32) (k' i' j' : Nat) : gA (sA S k i j v) k' i' j' = if k' = k ∧ i' = i ∧ j' = j then v else gA S k' i' j' := rfl
theorem gJ_sA (S : St) (k i j : Nat) (v : Int32) (k' i' j' : Nat) : gJ (sA S k i j v) k' i' j' = gJ S k' i' j' := rfl
theorem gD_sA (S : St) (k i j : Nat) (v : Int32) (k' i' j' : Nat) : gD (sA S k i j v) k' i' j' = gD S k' i' j' := rfl
theorem gR_sA (S : St) (k i j : Nat) (v : Int32) (k' i' : Nat) : gR (sA S k i j v) k' i' = gR S k' i' := rfl
theorem gL_sA (S : St) (k i j : Nat) (v : Int32) (k' i' : Nat) : gL (sA S k i j v) k' i' = gL S k' i' := rfl
theorem gF_sA (S : St) (k i j : Nat) (v : Int32) (k' i' : Nat) : gF (sA S k i j v) k' i' = gF S k' i' := rfl
theorem gI_sJ (S : St) (k i j : Nat) (v : Int64) (k' i' : Nat) : gI (sJ S k i j v) k' i' = gI S k' i' := rfl
theorem gA_sJ (S : St) (k i j : Nat) (v : Int64) (k' i' j' : Nat) : gA (sJ S k i j v) k' i' j' = gA S k' i' j' := rfl
theorem gJ_sJ (S : St) (k i j : Nat) (v : Int64) (k' i' j' : Nat) : gJ (sJ S k i j v) k' i' j' = if k' = k ∧ i' = i ∧ j' = j then v else gJ S k' i' j' := rfl
theorem gD_sJ (S : St) (k i j : Nat) (v : Int64) (k' i' j' : Nat) : gD (sJ S k i j v) k' i' j' = gD S k' i' j' := rfl
theorem gR_sJ (S : St) (k i j : Nat) (v : Int64) (k' i' : Nat) : gR (sJ S k i j v) k' i' = gR S k' i' := rfl
theorem gL_sJ (S : St) (k i j : Nat) (v : Int64) (k' i' : Nat) : gL (sJ S k i j v) k' i' = gL S k' i' := rfl
theorem gF_sJ (S : St) (k i j : Nat) (v : Int64) (k' i' : Nat) : gF (sJ S k i j v) k' i' = gF S k' i' := rfl
theorem gI_sD (S : St) (k i j : Nat) (v : UInt64) (k' i' : Nat) : gI (sD S k i j v) k' i' = gI S k' i' := rfl
theorem gA_sD (S : St) (k i j : Nat) (v : UInt64) (k' i' j' : Nat) : gA (sD S k i j v) k' i' j' = gA S k' i' j' := rfl
theorem gJ_sD (S : St) (k i j : Nat) (v : UInt64) (k' i' j' : Nat) : gJ (sD S k i j v) k' i' j' = gJ S k' i' j' := rfl
theorem gD_sD (S : St) (k i j : Nat) (v : UInt64) (k' i' j' : Nat) : gD (sD S k i j v) k' i' j' = if k' = k ∧ i' = i ∧ j' = j then v else gD S k' i' j' := rfl
theorem gR_sD (S : St) (k i j : Nat) (v : UInt64) (k' i' : Nat) : gR (sD S k i j v) k' i' = gR S k' i' := rfl
theorem gL_sD (S : St) (k i j : Nat) (v : UInt64) (k' i' : Nat) : gL (sD S k i j v) k' i' = gL S k' i' := rfl
theorem gF_sD (S : St) (k i j : Nat) (v : UInt64) (k' i' : Nat) : gF (sD S k i j v) k' i' = gF S k' i' := rfl
theorem gI_sR (S : St) (k i : Nat) (v : Nat) (k' i' : Nat) : gI (sR S k i v) k' i' = gI S k' i' := rfl
theorem gA_sR (S : St) (k i : Nat) (v : Nat) (k' i' j' : Nat) : gA (sR S k i v) k' i' j' = gA S k' i' j' := rfl
theorem gJ_sR (S : St) (k i : Nat) (v : Nat) (k' i' j' : Nat) : gJ (sR S k i v) k' i' j' = gJ S k' i' j' := rfl
theorem gD_sR (S : St) (k i : Nat) (v : Nat) (k' i' j' : Nat) : gD (sR S k i v) k' i' j' = gD S k' i' j' := rfl
theorem gR_sR (S : St) (k i : Nat) (v : Nat) (k' i' : Nat) : gR (sR S k i v) k' i' = if k' = k ∧ i' = i then v else gR S k' i' := rfl
theorem gL_sR (S : St) (k i : Nat) (v : Nat) (k' i' : Nat) : gL (sR S k i v) k' i' = gL S k' i' := rfl
theorem gF_sR (S : St) (k i : Nat) (v : Nat) (k' i' : Nat) : gF (sR S k i v) k' i' = gF S k' i' := rfl
theorem gI_sL (S : St) (k i : Nat) (v : Int64) (k' i' : Nat) : gI (sL S k i v) k' i' = gI S k' i' := rfl
theorem gA_sL (S : St) (k i : Nat) (v : Int64) (k' i' j' : Nat) : gA (sL S k i v) k' i' j' = gA S k' i' j' := rfl
theorem gJ_sL (S : St) (k i : Nat) (v : Int64) (k' i' j' : Nat) : gJ (sL S k i v) k' i' j' = gJ S k' i' j' := rfl
theorem gD_sL (S : St) (k i : Nat) (v : Int64) (k' i' j' : Nat) : gD (sL S k i v) k' i' j' = gD S k' i' j' := rfl
theorem gR_sL (S : St) (k i : Nat) (v : Int64) (k' i' : Nat) : gR (sL S k i v) k' i' = gR S k' i' := rfl
theorem gL_sL (S : St) (k i : Nat) (v : Int64) (k' i' : Nat) : gL (sL S k i v) k' i' = if k' = k ∧ i' = i then v else gL S k' i' := rfl
theorem gF_sL (S : St) (k i : Nat) (v : Int64) (k' i' : Nat) : gF (sL S k i v) k' i' = gF S k' i' := rfl
theorem gI_sF (S : St) (k i : Nat) (v : UInt64) (k' i' : Nat) : gI (sF S k i v) k' i' = gI S k' i' := rfl
theorem gA_sF (S : St) (k i : Nat) (v : UInt64) (k' i' j' : Nat) : gA (sF S k i v) k' i' j' = gA S k' i' j' := rfl
theorem gJ_sF (S : St) (k i : Nat) (v : UInt64) (k' i' j' : Nat) : gJ (sF S k i v) k' i' j' = gJ S k' i' j' := rfl
theorem gD_sF (S : St) (k i : Nat) (v : UInt64) (k' i' j' : Nat) : gD (sF S k i v) k' i' j' = gD S k' i' j' := rfl
theorem gR_sF (S : St) (k i : Nat) (v : UInt64) (k' i' : Nat) : gR (sF S k i v) k' i' = gR S k' i' := rfl
theorem gL_sF (S : St) (k i : Nat) (v : UInt64) (k' i' : Nat) : gL (sF S k i v) k' i' = gL S k' i' := rfl
theorem gF_sF (S : St) (k i : Nat) (v : UInt64) (k' i' : Nat) : gF (sF S k i v) k' i' = if k' = k ∧ i' = i then v else gF S k' i' := rfl
/-- two states agree outside the keys p -/
def Ag (p : Nat → Prop) (S S' : St) : Prop := ∀ k, ¬ p k → (∀ i, gI S' k i = gI S k i) ∧ (∀ i j, gA S' k i j = gA S k i j) ∧ (∀ i j, gJ S' k i j = gJ S k i j) ∧ (∀ i j, gD S' k i j = gD S k i j) ∧ (∀ i, gR S' k i = gR S k i) ∧ (∀ i, gL S' k i = gL S k i) ∧ (∀ i, gF S' k i = gF S k i)
theorem Ag.rf {p : Nat → Prop} {S : St} : Ag p S S := fun _ _ => ⟨fun _ => rfl, fun _ _ => rfl, fun _ _ => rfl, fun _ _ => rfl, fun _ => rfl, fun _ => rfl, fun _ => rfl⟩
theorem Ag.tr {p : Nat → Prop} {S T U : St} (h : Ag p S T) (h' : Ag p T U) : Ag p S U := fun k hk =>
  ⟨fun i => ((h' k hk).1 i).trans ((h k hk).1 i), fun i j => ((h' k hk).2.1 i j).trans ((h k hk).2.1 i j), fun i j => ((h' k hk).2.2.1 i j).trans ((h k hk).2.2.1 i j), fun i j => ((h' k hk).2.2.2.1 i j).trans ((h k hk).2.2.2.1 i j), fun i => ((h' k hk).2.2.2.2.1 i).trans ((h k hk).2.2.2.2.1 i), fun i => ((h' k hk).2.2.2.2.2.1 i).trans ((h k hk).2.2.2.2.2.1 i), fun i => ((h' k hk).2.2.2.2.2.2 i).trans ((h k hk).2.2.2.2.2.2 i)⟩
theorem Ag.mono {p q : Nat → Prop} {S T : St} (h : Ag p S T) (hpq : ∀ k, p k → q k) : Ag q S T := fun k hk => h k fun z => hk (hpq k z)
theorem Ag.sI {p : Nat → Prop} {S T : St} {k i : Nat} {v : Int32} (h : Ag p S T) (hp : p k) : Ag p S (sI T k i v) := h.tr fun k' hk => ⟨(fun _ => by rw [gI_sI, if_neg (fun z => hk (by rw [z.1]; exact hp))]), (fun _ _ => rfl), (fun _ _ => rfl), (fun _ _ => rfl), (fun _ => rfl), (fun _ => rfl), (fun _ => rfl)⟩
theorem Ag.sA {p : Nat → Prop} {S T : St} {k i j : Nat} {v : Int32} (h : Ag p S T) (hp : p k) : Ag p S (sA T k i j v) := h.tr fun k' hk => ⟨(fun _ => rfl), (fun _ _ => by rw [gA_sA, if_neg (fun z => hk (by rw [z.1]; exact hp))]), (fun _ _ => rfl), (fun _ _ => rfl), (fun _ => rfl), (fun _ => rfl), (fun _ => rfl)⟩
theorem Ag.sJ {p : Nat → Prop} {S T : St} {k i j : Nat} {v : Int64} (h : Ag p S T) (hp : p k) : Ag p S (sJ T k i j v) := h.tr fun k' hk => ⟨(fun _ => rfl), (fun _ _ => rfl), (fun _ _ => by rw [gJ_sJ, if_neg (fun z => hk (by rw [z.1]; exact hp))]), (fun _ _ => rfl), (fun _ => rfl), (fun _ => rfl), (fun _ => rfl)⟩
theorem Ag.sD {p : Nat → Prop} {S T : St} {k i j : Nat} {v : UInt64} (h : Ag p S T) (hp : p k) : Ag p S (sD T k i j v) := h.tr fun k' hk => ⟨(fun _ => rfl), (fun _ _ => rfl), (fun _ _ => rfl), (fun _ _ => by rw [gD_sD, if_neg (fun z => hk (by rw [z.1]; exact hp))]), (fun _ => rfl), (fun _ => rfl), (fun _ => rfl)⟩
theorem Ag.sR {p : Nat → Prop} {S T : St} {k i : Nat} {v : Nat} (h : Ag p S T) (hp : p k) : Ag p S (sR T k i v) := h.tr fun k' hk => ⟨(fun _ => rfl), (fun _ _ => rfl), (fun _ _ => rfl), (fun _ _ => rfl), (fun _ => by rw [gR_sR, if_neg (fun z => hk (by rw [z.1]; exact hp))]), (fun _ => rfl), (fun _ => rfl)⟩
theorem Ag.sL {p : Nat → Prop} {S T : St} {k i : Nat} {v : Int64} (h : Ag p S T) (hp : p k) : Ag p S (sL T k i v) := h.tr fun k' hk => ⟨(fun _ => rfl), (fun _ _ => rfl), (fun _ _ => rfl), (fun _ _ => rfl), (fun _ => rfl), (fun _ => by rw [gL_sL, if_neg (fun z => hk (by rw [z.1]; exact hp))]), (fun _ => rfl)⟩
theorem Ag.sF {p : Nat → Prop} {S T : St} {k i : Nat} {v : UInt64} (h : Ag p S T) (hp : p k) : Ag p S (sF T k i v) := h.tr fun k' hk => ⟨(fun _ => rfl), (fun _ _ => rfl), (fun _ _ => rfl), (fun _ _ => rfl), (fun _ => rfl), (fun _ => rfl), (fun _ => by rw [gF_sF, if_neg (fun z => hk (by rw [z.1]; exact hp))])⟩
theorem Ag.gI {p : Nat → Prop} {S T : St} (h : Ag p S T) {k : Nat} (hk : ¬ p k) (i : Nat) : gI T k i = gI S k i := (h k hk).1 i
theorem Ag.gA {p : Nat → Prop} {S T : St} (h : Ag p S T) {k : Nat} (hk : ¬ p k) (i j : Nat) : gA T k i j = gA S k i j := (h k hk).2.1 i j
theorem Ag.gJ {p : Nat → Prop} {S T : St} (h : Ag p S T) {k : Nat} (hk : ¬ p k) (i j : Nat) : gJ T k i j = gJ S k i j := (h k hk).2.2.1 i j
theorem Ag.gD {p : Nat → Prop} {S T : St} (h : Ag p S T) {k : Nat} (hk : ¬ p k) (i j : Nat) : gD T k i j = gD S k i j := (h k hk).2.2.2.1 i j
theorem Ag.gR {p : Nat → Prop} {S T : St} (h : Ag p S T) {k : Nat} (hk : ¬ p k) (i : Nat) : gR T k i = gR S k i := (h k hk).2.2.2.2.1 i
theorem Ag.gL {p : Nat → Prop} {S T : St} (h : Ag p S T) {k : Nat} (hk : ¬ p k) (i : Nat) : gL T k i = gL S k i := (h k hk).2.2.2.2.2.1 i
theorem Ag.gF {p : Nat → Prop} {S T : St} (h : Ag p S T) {k : Nat} (hk : ¬ p k) (i : Nat) : gF T k i = gF S k i := (h k hk).2.2.2.2.2.2 i
/-! PURE: numbers -/
theorem nI_sub {a b : Nat} (h : b ≤ a) : nI a - nI b = nI (a - b) := by
  have := nI_add (a - b) b
  rw [Nat.sub_add_cancel h] at this
  rw [← this]; simp
theorem nI_mul (a b : Nat) : nI a * nI b = nI (a * b) := (Int32.ofNat_mul a b).symm
theorem nI_neg1 (a : Nat) : nI (a + 1) + (-1) = nI a := by
  have h := nI_pred a
  rw [Int32.sub_eq_add_neg] at h
  exact h
theorem nI_in_iff {a n : Nat} (ha : a < 2 ^ 31) (hn : n < 2 ^ 31) : vp_in (nI a) n ↔ a < n := by
  refine ⟨fun h => ?_, fun h => vp_in_nI h hn⟩
  have := vp_lt h
  rwa [nI_clamp ha] at this
theorem nI_lt0 {a : Nat} (ha : a < 2 ^ 31) : nI a < 0 ↔ False := iff_of_false (nI_pos ha) id
theorem nI_0le {a : Nat} (ha : a < 2 ^ 31) : 0 ≤ nI a ↔ True := iff_of_true (nI_pos' ha) trivial
theorem nI_m1 {a : Nat} (ha : a < 2 ^ 31) : nI a = -1 ↔ False := by
  refine iff_of_false (fun h => ?_) id
  have h1 := congrArg Int32.toInt h
  rw [nI_toInt ha] at h1
  have : (-1 : Int32).toInt = -1 := rfl
  rw [this] at h1; omega
theorem nI_div {a b : Nat} (ha : a < 2 ^ 31) (hb : b < 2 ^ 31) : nI a / nI b = nI (a / b) := by
  apply Int32.toInt_inj.mp
  have h1 : a / b ≤ a := Nat.div_le_self a b
  rw [Int32.toInt_div, nI_toInt ha, nI_toInt hb, nI_toInt (by omega)]
  rw [Int.bmod_eq_of_le]
  · exact (Int.ofNat_tdiv a b)
  · have : (0 : Int) ≤ (Int.tdiv (a : Int) b) := Int.tdiv_nonneg (by omega) (by omega)
    omega
  · have := Int.ofNat_tdiv a b
    rw [← this]; omega
theorem nI_modx {a b : Nat} (ha : a < 2 ^ 31) (hb : b < 2 ^ 31) : nI a - nI a / nI b * nI b = nI (a % b) := by
  rw [nI_div ha hb, nI_mul, nI_sub (Nat.div_mul_le_self a b)]
  congr 1
  have := Nat.div_add_mod a b
  rw [Nat.mul_comm] at this
  omega
theorem l0 : (0 : Int32) = nI 0 := rfl
theorem l1 : (1 : Int32) = nI 1 := rfl
theorem l2 : (2 : Int32) = nI 2 := rfl
theorem l3 : (3 : Int32) = nI 3 := rfl
theorem l4 : (4 : Int32) = nI 4 := rfl
theorem l5 : (5 : Int32) = nI 5 := rfl
theorem l6 : (6 : Int32) = nI 6 := rfl
theorem l7 : (7 : Int32) = nI 7 := rfl
theorem l8 : (8 : Int32) = nI 8 := rfl
theorem l9 : (9 : Int32) = nI 9 := rfl
theorem l10 : (10 : Int32) = nI 10 := rfl
theorem l11 : (11 : Int32) = nI 11 := rfl
theorem l12 : (12 : Int32) = nI 12 := rfl
theorem l13 : (13 : Int32) = nI 13 := rfl
theorem l14 : (14 : Int32) = nI 14 := rfl
theorem l15 : (15 : Int32) = nI 15 := rfl
theorem l16 : (16 : Int32) = nI 16 := rfl
theorem l17 : (17 : Int32) = nI 17 := rfl
theorem l18 : (18 : Int32) = nI 18 := rfl
theorem l19 : (19 : Int32) = nI 19 := rfl
theorem l20 : (20 : Int32) = nI 20 := rfl
theorem l21 : (21 : Int32) = nI 21 := rfl
theorem l22 : (22 : Int32) = nI 22 := rfl
theorem l23 : (23 : Int32) = nI 23 := rfl
theorem l24 : (24 : Int32) = nI 24 := rfl
theorem l25 : (25 : Int32) = nI 25 := rfl
theorem l26 : (26 : Int32) = nI 26 := rfl
theorem l27 : (27 : Int32) = nI 27 := rfl
theorem l28 : (28 : Int32) = nI 28 := rfl
theorem l29 : (29 : Int32) = nI 29 := rfl
theorem l30 : (30 : Int32) = nI 30 := rfl
theorem l31 : (31 : Int32) = nI 31 := rfl
theorem l32 : (32 : Int32) = nI 32 := rfl
theorem l33 : (33 : Int32) = nI 33 := rfl
theorem l34 : (34 : Int32) = nI 34 := rfl
theorem l35 : (35 : Int32) = nI 35 := rfl
theorem l36 : (36 : Int32) = nI 36 := rfl
theorem l37 : (37 : Int32) = nI 37 := rfl
theorem l38 : (38 : Int32) = nI 38 := rfl
theorem l39 : (39 : Int32) = nI 39 := rfl
theorem l40 : (40 : Int32) = nI 40 := rfl
theorem l41 : (41 : Int32) = nI 41 := rfl
theorem l42 : (42 : Int32) = nI 42 := rfl
theorem l43 : (43 : Int32) = nI 43 := rfl
theorem l44 : (44 : Int32) = nI 44 := rfl
theorem l45 : (45 : Int32) = nI 45 := rfl
theorem l46 : (46 : Int32) = nI 46 := rfl
theorem l47 : (47 : Int32) = nI 47 := rfl
theorem l48 : (48 : Int32) = nI 48 := rfl
theorem l49 : (49 : Int32) = nI 49 := rfl
theorem l50 : (50 : Int32) = nI 50 := rfl
theorem l51 : (51 : Int32) = nI 51 := rfl
theorem l52 : (52 : Int32) = nI 52 := rfl
theorem l53 : (53 : Int32) = nI 53 := rfl
theorem l54 : (54 : Int32) = nI 54 := rfl
theorem l55 : (55 : Int32) = nI 55 := rfl
theorem l56 : (56 : Int32) = nI 56 := rfl
theorem l57 : (57 : Int32) = nI 57 := rfl
theorem l58 : (58 : Int32) = nI 58 := rfl
theorem l59 : (59 : Int32) = nI 59 := rfl
theorem l60 : (60 : Int32) = nI 60 := rfl
theorem l61 : (61 : Int32) = nI 61 := rfl
theorem l62 : (62 : Int32) = nI 62 := rfl
theorem l63 : (63 : Int32) = nI 63 := rfl
theorem l64 : (64 : Int32) = nI 64 := rfl
theorem l65 : (65 : Int32) = nI 65 := rfl
theorem l66 : (66 : Int32) = nI 66 := rfl
theorem l67 : (67 : Int32) = nI 67 := rfl
theorem l68 : (68 : Int32) = nI 68 := rfl
theorem l69 : (69 : Int32) = nI 69 := rfl
theorem l70 : (70 : Int32) = nI 70 := rfl
theorem l71 : (71 : Int32) = nI 71 := rfl
theorem l72 : (72 : Int32) = nI 72 := rfl
theorem l73 : (73 : Int32) = nI 73 := rfl
theorem l74 : (74 : Int32) = nI 74 := rfl
theorem l75 : (75 : Int32) = nI 75 := rfl
theorem l76 : (76 : Int32) = nI 76 := rfl
theorem l77 : (77 : Int32) = nI 77 := rfl
theorem l78 : (78 : Int32) = nI 78 := rfl
theorem l79 : (79 : Int32) = nI 79 := rfl
theorem l80 : (80 : Int32) = nI 80 := rfl
theorem l81 : (81 : Int32) = nI 81 := rfl
theorem l82 : (82 : Int32) = nI 82 := rfl
theorem l83 : (83 : Int32) = nI 83 := rfl
theorem l84 : (84 : Int32) = nI 84 := rfl
theorem l85 : (85 : Int32) = nI 85 := rfl
theorem l86 : (86 : Int32) = nI 86 := rfl
theorem l100 : (100 : Int32) = nI 100 := rfl
theorem l101 : (101 : Int32) = nI 101 := rfl
theorem l120 : (120 : Int32) = nI 120 := rfl
theorem l180 : (180 : Int32) = nI 180 := rfl
theorem l200 : (200 : Int32) = nI 200 := rfl
theorem l240 : (240 : Int32) = nI 240 := rfl
theorem l255 : (255 : Int32) = nI 255 := rfl
theorem l333 : (333 : Int32) = nI 333 := rfl
theorem l360 : (360 : Int32) = nI 360 := rfl
