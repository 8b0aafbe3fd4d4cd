/-! PURE: memory -/
def ldv (mem : Nat → Int32) (p : Nat) : Nat → Int64 → Int64
  | 0, v => v
  | k + 1, v => ldv mem p k (jlshl v 8 ||| (mem (p + k)).toInt64)
theorem ldv_congr {m1 m2 : Nat → Int32} {p : Nat} : ∀ (k : Nat) (v : Int64), (∀ i, i < p + k → m1 i = m2 i) → ldv m1 p k v = ldv m2 p k v := by
  intro k
  induction k with
  | zero => intro v _; rfl
  | succ k ih =>
    intro v h
    unfold ldv
    rw [h (p + k) (by omega)]
    exact ih _ fun i hi => h i (by omega)
def sz (op : Nat) : Nat := if op = 24 ∨ op = 27 then 1 else if op = 25 ∨ op = 28 then 8 else 4
def wd (op : Nat) (v : Int64) : Int64 := if op = 23 then v.toInt32.toInt64 else v
def okA (A : Int64) (n : Nat) : Prop := ¬ A < 0 ∧ A + (nI n).toInt64 ≤ 64
theorem okA_p {x : Int32} {b n : Nat} (hb : b < 256) (hn : n ≤ 8) (h : okA (x.toInt64 + (nI b).toInt64) n) : ∃ p, p + n ≤ 64 ∧ (x.toInt64 + (nI b).toInt64).toInt32 = nI p := by
  obtain ⟨h1, h2⟩ := h
  have b1 := x.le_toInt
  have b2 := x.toInt_lt
  have e1 : (x.toInt64 + (nI b).toInt64).toInt = x.toInt + b := by
    rw [Int64.toInt_add, Int32.toInt_toInt64, Int32.toInt_toInt64, nI_toInt (by omega)]
    exact Int.bmod_eq_of_le (by omega) (by omega)
  have e2 : (x.toInt64 + (nI b).toInt64 + (nI n).toInt64).toInt = x.toInt + b + n := by
    rw [Int64.toInt_add, e1, Int32.toInt_toInt64, nI_toInt (by omega)]
    exact Int.bmod_eq_of_le (by omega) (by omega)
  rw [Int64.lt_iff_toInt_lt, e1] at h1
  rw [Int64.le_iff_toInt_le, e2] at h2
  have z0 : (0 : Int64).toInt = 0 := rfl
  have z64 : (64 : Int64).toInt = 64 := rfl
  rw [z0] at h1
  rw [z64] at h2
  refine ⟨(x.toInt + b).toNat, by omega, ?_⟩
  apply Int32.toInt_inj.mp
  rw [Int64.toInt_toInt32, e1, nI_toInt (by omega)]
  rw [Int.bmod_eq_of_le (by omega) (by omega)]
  omega
theorem c_load {C : St} {p n : Nat} {x2 : Int32} {Q : Int64 → St → Prop} (hp : p + n ≤ 64) : ∀ (k : Nat) (v : Int64), k ≤ n → Q (ldv (gA C 1700 0) p k v) C → wp7_load_7 (nI p) x2 Q (k + 1) v (nI k - 1) C := by
  intro k
  induction k with
  | zero =>
    intro v _ kk
    exact ⟨fun _ => kk, fun c => absurd (by decide) c⟩
  | succ k ih =>
    intro v hk kk
    rw [show nI (k + 1) - 1 = nI k from nI_dec (a := k + 1) (by omega)]
    refine ⟨fun c => absurd c (nI_pos (by omega)), fun _ => ?_⟩
    unfold wp7_byteAt
    rw [nI_add, nI_clamp (by omega)]
    refine ⟨fun c => absurd c (nI_pos (by omega)), fun _ => ⟨fun c => absurd ((nI_leI (a := 64) (by omega) (by omega)).mp c) (by omega), fun _ => ⟨vp_in_nI (by omega) (by omega), fun v' ev x5 e5 => ?_⟩⟩⟩
    rw [← Int32.sub_eq_add_neg] at e5
    subst ev; subst e5
    exact ih _ (by omega) kk
theorem m_load {M : St} {p n op : Nat} {b : Int32} {x4 x6 : Int64} {Q : St → Prop} (hp : p + n ≤ 64) (ho : op ≤ 25) (h6 : x6.toInt32 = nI p) : ∀ (k : Nat) (v : Int64), k ≤ n → wp9_push M (wd op (ldv (gA M 1907 0) p k v)) FP.dconst0 Q → wp9_access_105 (nI op) b Q (k + 1) x4 x6 v (nI k - 1) M := by
  intro k
  induction k with
  | zero =>
    intro v _ kk
    refine ⟨fun _ => ⟨fun c => absurd ((nI_leI (a := 26) (by omega) (by omega)).mp c) (by omega), fun _ => ⟨fun c => ?_, fun c => ?_⟩⟩, fun c => absurd (by decide) c⟩
    · unfold wd at kk
      rw [if_neg (nN (b := 23) c)] at kk
      exact kk
    · unfold wd at kk
      rw [if_pos (nE (b := 23) (by omega) (by omega) c)] at kk
      exact kk
  | succ k ih =>
    intro v hk kk
    rw [show nI (k + 1) - 1 = nI k from nI_dec (a := k + 1) (by omega)]
    refine ⟨fun c => absurd c (nI_pos (by omega)), fun _ x11 e11 => ?_⟩
    rw [h6, nI_add] at e11
    subst e11
    rw [nI_clamp (by omega)]
    refine ⟨fun _ => ⟨vp_in_nI (by omega) (by omega), fun v' ev x10 e10 => ?_⟩, fun c => absurd ((nI_ltI (b := 26) (by omega) (by omega)).mpr (by omega)) c⟩
    rw [← Int32.sub_eq_add_neg] at e10
    subst ev; subst e10
    exact ih _ (by omega) kk
/-- a byte of x -/
def byt (x : Int64) (i : Nat) : Int32 := (jlshr x (nI (8 * i))).toInt32 &&& 255
theorem byt_lt (x : Int64) (i : Nat) : ∃ n, n < 256 ∧ byt x i = nI n := vp_in_of (n := 2 ^ 8) (pk_andIn _ 8 (by decide) (by decide)) (by decide)
/-- memory at key k with n bytes of x from p on -/
def Stored (k : Nat) (x : Int64) (p a b : Nat) (S S' : St) : Prop := Ag (fun z => z = k) S S' ∧ ∀ q, gA S' k 0 q = if p + a ≤ q ∧ q < p + b then byt x (q - p) else gA S k 0 q
theorem c_store {C : St} {p n : Nat} {x : Int64} {Q : St → Prop} (hp : p + n ≤ 64) (hn : n ≤ 8) (kk : ∀ C', Stored 1700 x p 0 n C C' → Q C') : ∀ (m i : Nat) (C1 : St), m + i = n → Stored 1700 x p 0 i C C1 → wp7_store_3 (nI p) (nI n) x Q (m + 1) (nI i) C1 := by
  intro m
  induction m with
  | zero =>
    intro i C1 hm hs
    have : i = n := by omega
    subst this
    exact ⟨fun _ => kk _ hs, fun c => absurd (Int32.le_refl _) c⟩
  | succ m ih =>
    intro i C1 hm hs
    refine ⟨fun c => absurd ((nI_leI (by omega) (by omega)).mp c) (by omega), fun _ => ?_⟩
    rw [nI_add, nI_clamp (by omega)]
    refine ⟨fun c => absurd c (nI_pos (by omega)), fun _ => ⟨fun c => absurd ((nI_leI (a := 64) (by omega) (by omega)).mp c) (by omega), fun _ => ⟨vp_in_nI (by omega) (by omega), fun C2 e2 x5 e5 => ?_⟩⟩⟩
    rw [nI_1] at e5
    rw [l8, nI_mul, l_byte x (by omega)] at e2
    subst e2; subst e5
    refine ih (i + 1) _ (by omega) ⟨hs.1.sA rfl, fun q => ?_⟩
    rw [gA_sA]
    by_cases z : q = p + i
    · rw [if_pos ⟨rfl, rfl, z⟩, if_pos (by omega), z, show p + i - p = i by omega]; rfl
    · rw [if_neg (fun y => z y.2.2), hs.2]
      by_cases y : p + 0 ≤ q ∧ q < p + i
      · rw [if_pos y, if_pos (by omega)]
      · rw [if_neg y, if_neg (by omega)]
theorem m_store {M : St} {p n op : Nat} {b : Int32} {x x6 x8 : Int64} {Q : St → Prop} (hp : p + n ≤ 64) (hn : n ≤ 8) (ho : 26 ≤ op) (ho2 : op < 256) (h6 : x6.toInt32 = nI p) (kk : ∀ M', Stored 1907 x p 0 n M M' → Q M') : ∀ (k : Nat) (M1 : St), k ≤ n → Stored 1907 x p k n M M1 → wp9_access_105 (nI op) b Q (k + 1) x x6 x8 (nI k - 1) M1 := by
  intro k
  induction k with
  | zero =>
    intro M1 _ hs
    exact ⟨fun _ => ⟨fun _ => kk _ hs, fun c => absurd ((nI_leI (a := 26) (by omega) (by omega)).mpr ho) c⟩, fun c => absurd (by decide) c⟩
  | succ k ih =>
    intro M1 hk hs
    rw [show nI (k + 1) - 1 = nI k from nI_dec (a := k + 1) (by omega)]
    refine ⟨fun c => absurd c (nI_pos (by omega)), fun _ x11 e11 => ?_⟩
    rw [h6, nI_add] at e11
    subst e11
    rw [nI_clamp (by omega)]
    refine ⟨fun c => absurd ((nI_ltI (b := 26) (by omega) (by omega)).mp c) (by omega), fun _ => ⟨vp_in_nI (by omega) (by omega), fun M2 e2 x10 e10 => ?_⟩⟩
    rw [← Int32.sub_eq_add_neg] at e10
    rw [l8, nI_mul] at e2
    subst e2; subst e10
    refine ih _ (by omega) ⟨hs.1.sA rfl, fun q => ?_⟩
    rw [gA_sA]
    by_cases z : q = p + k
    · rw [if_pos ⟨rfl, rfl, z⟩, if_pos (by omega), z, show p + k - p = k by omega]; rfl
    · rw [if_neg (fun y => z y.2.2), hs.2]
      by_cases y : p + (k + 1) ≤ q ∧ q < p + n
      · rw [if_pos y, if_pos (by omega)]
      · rw [if_neg y, if_neg (by omega)]
theorem Stored.no (k : Nat) (x : Int64) (p a : Nat) (S : St) : Stored k x p a a S S := ⟨Ag.rf, fun q => by rw [if_neg (by omega)]⟩
theorem lA (A : Int64) (n : Nat) : (¬ lg_cmp A 0 < 0 ∧ ¬ 0 < lg_cmp (A + (nI n).toInt64) 64) ↔ okA A n := by
  unfold okA
  rw [lg_lt0, lg_gt0, Int64.not_lt (a := 64)]
theorem c_holds {S : St} {A : Int64} {n : Nat} {Q : Int32 → St → Prop} (k0 : ¬ okA A n → Q 0 S) (k1 : okA A n → Q 1 S) : wp7_holds S A (nI n) Q := by
  refine ⟨fun c => k0 fun y => ((lA A n).mpr y).1 c, fun c => ⟨fun c2 => k0 fun y => ((lA A n).mpr y).2 c2, fun c2 => k1 ((lA A n).mp ⟨c, c2⟩)⟩⟩
/-- where the access goes on, both sides -/
theorem c_mem26 {C : St} {o h op b : Nat} {x4 : Int32} {s0 : Int64} {Q : Int32 → St → Prop} (hh : gI C 1102 o = nI h) (h1 : 1 ≤ h) (hc : h ≤ cellsN o) (ho : 23 ≤ op) (ho2 : op ≤ 28) (hb : b < 256)
    (k3 : ¬ okA ((gJ C 1100 o (h - 1)).toInt32.toInt64 + (nI b).toInt64) (sz op) → Q 3 (tT1 C o h))
    (kl : x4 = 0 → ∀ p, p + sz op ≤ 64 → ((gJ C 1100 o (h - 1)).toInt32.toInt64 + (nI b).toInt64).toInt32 = nI p → okA ((gJ C 1100 o (h - 1)).toInt32.toInt64 + (nI b).toInt64) (sz op) → Q 0 (putc (tT1 C o h) o (h - 1) (wd op (ldv (gA C 1700 0) p (sz op) 0)) FP.dconst0))
    (ks : ¬ x4 = 0 → ∀ p, p + sz op ≤ 64 → ((gJ C 1100 o (h - 1)).toInt32.toInt64 + (nI b).toInt64).toInt32 = nI p → okA ((gJ C 1100 o (h - 1)).toInt32.toInt64 + (nI b).toInt64) (sz op) → ∀ C', Stored 1700 s0 p 0 (sz op) (tT1 C o h) C' → Q 0 C') : wp6_stepMemory_26 o (nI op) (nI b) Q x4 s0 C := by
  have hcb := cellsN_b o
  have hsz : sz op ≤ 8 := by unfold sz; split <;> (try split) <;> omega
  refine r_takeInt hh h1 hc fun A eA => ?_
  subst eA
  have size : ∀ (R : Int32 → St → Prop), R (nI (sz op)) (tT1 C o h) → wp6_sizeInMemory (tT1 C o h) (nI op) R := by
    intro R hR
    rcases (by omega : op = 23 ∨ op = 24 ∨ op = 25 ∨ op = 26 ∨ op = 27 ∨ op = 28) with rfl | rfl | rfl | rfl | rfl | rfl <;>
    · simp (decide := true) only [sz, if_true, if_false] at hR
      simp (decide := true) only [wp6_sizeInMemory, true_implies, false_implies, true_and, and_true, not_true, not_false_iff]
      exact hR
  refine size _ ?_
  refine c_holds (fun y => ⟨fun c => absurd rfl c, fun _ => k3 y⟩) (fun y => ⟨fun _ => ?_, fun c => absurd c (by decide)⟩)
  obtain ⟨p, hp, ep⟩ := okA_p hb hsz y
  have pn : ∀ v : Int64, Q 0 (putc (tT1 C o h) o (h - 1) v FP.dconst0) → wp1_putNumber (tT1 C o h) o v (fun S1 => Q 0 S1) := by
    intro v hv
    unfold wp1_putNumber
    exact r_putc (tT1_h C o h) (by omega) hv
  refine ⟨fun c4 => ⟨fun c => ?_, fun c => ?_⟩, fun c4 => ?_⟩
  · have kl := kl c4 p hp ep y
    unfold wd at kl
    rw [if_neg (nN (b := 23) c)] at kl
    unfold wp7_load
    intro x5 e5
    subst e5
    rw [ep]
    exact ⟨sz op + 1, c_load (C := tT1 C o h) hp (sz op) 0 (Nat.le_refl _) (pn _ kl)⟩
  · have kl := kl c4 p hp ep y
    unfold wd at kl
    rw [if_pos (nE (b := 23) (by omega) (by omega) c)] at kl
    unfold wp7_load
    intro x5 e5
    subst e5
    rw [ep]
    exact ⟨sz op + 1, c_load (C := tT1 C o h) hp (sz op) 0 (Nat.le_refl _) (pn _ kl)⟩
  · unfold wp7_store
    rw [ep]
    exact ⟨sz op + 1, c_store (C := tT1 C o h) hp hsz (ks c4 p hp ep y) (sz op) 0 _ rfl (Stored.no _ _ _ _ _)⟩
