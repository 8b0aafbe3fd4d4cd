/-! PURE: the calls, one by one: shape -/
def okd : Nat → Nat → Bool
  | 0, _ => true
  | n + 1, v => if v = 0 then true else if v % 10 < 1 then false else if v % 10 ≤ 3 then okd n (v / 10) else false
def ndd : Nat → Nat → Nat
  | 0, _ => 0
  | n + 1, v => if v = 0 then 0 else 1 + ndd n (v / 10)
def ndv (v : Nat) : Nat := if v = 0 then 0 else if v < 10 then 1 else if v < 100 then 2 else 3
def dig (v i : Nat) : Nat := v / 10 ^ (ndv v - 1 - i) % 10
theorem okd_facts {v : Nat} (hv : v < 334) (h : okd 3 v = true) : ndd 3 v = ndv v ∧ (10 ≤ v → ¬ v % 10 = 0) ∧ (100 ≤ v → ¬ v / 10 % 10 = 0) ∧ (v / 100 ≤ 3 ∧ v / 10 % 10 ≤ 3 ∧ v % 10 ≤ 3) ∧ ∀ i, i < ndv v → 1 ≤ dig v i ∧ dig v i ≤ 3 := by
  have : ∀ v, v < 334 → (okd 3 v = false ∨ (ndd 3 v = ndv v ∧ (v < 10 ∨ ¬ v % 10 = 0) ∧ (v < 100 ∨ ¬ v / 10 % 10 = 0) ∧ (v / 100 ≤ 3 ∧ v / 10 % 10 ≤ 3 ∧ v % 10 ≤ 3) ∧ (ndv v ≤ 0 ∨ (1 ≤ dig v 0 ∧ dig v 0 ≤ 3)) ∧ (ndv v ≤ 1 ∨ (1 ≤ dig v 1 ∧ dig v 1 ≤ 3)) ∧ (ndv v ≤ 2 ∨ (1 ≤ dig v 2 ∧ dig v 2 ≤ 3)))) := by decide +kernel
  rcases this v hv with z | ⟨a1, a2, a3, a4, a5, a6, a7⟩
  · rw [h] at z; exact absurd z (by decide)
  · refine ⟨a1, fun y => a2.elim (fun w => by omega) id, fun y => a3.elim (fun w => by omega) id, a4, fun i hi => ?_⟩
    have n3 : ndv v ≤ 3 := by
      unfold ndv
      split
      · omega
      · split
        · omega
        · split <;> omega
    rcases (show i = 0 ∨ i = 1 ∨ i = 2 by omega) with y | y | y
    · subst y; exact a5.elim (fun w => by omega) id
    · subst y; exact a6.elim (fun w => by omega) id
    · subst y; exact a7.elim (fun w => by omega) id
theorem ndv_le (v : Nat) : ndv v ≤ 3 := by
  unfold ndv
  split
  · omega
  · split
    · omega
    · split <;> omega
theorem nI_rem {v : Nat} (hv : v < 2 ^ 31) : nI v - nI v / 10 * 10 = nI (v % 10) := by
  have e10 : nI v / 10 = nI (v / 10) := nI_div (b := 10) hv (by omega)
  have m10 : nI (v / 10) * 10 = nI (v / 10 * 10) := nI_mul (v / 10) 10
  rw [e10, m10, nI_sub (by omega)]
  congr 1
  omega
theorem p10s (n : Nat) : 10 ^ (n + 1) = 10 * 10 ^ n := by rw [Nat.pow_succ, Nat.mul_comm]
theorem c_krl {x : Int32} {S : St} {Q : Int32 → St → Prop} : ∀ n i v, n + i = 3 → v < 10 ^ n → (okd n v = true → Q 1 S) → (okd n v = false → Q 0 S) → wp8_isKindRow_17 x Q (n + 1) (nI v) (nI i) S := by
  intro n
  induction n with
  | zero =>
    intro i v hi hv k1 k0
    have e : i = 3 := by omega
    subst e
    exact ⟨fun _ => k1 rfl, fun c => absurd (by decide) c⟩
  | succ n ih =>
    intro i v hi hv k1 k0
    have h3 : 10 ^ (n + 1) ≤ 10 ^ 3 := Nat.pow_le_pow_right (by omega) (by omega)
    have hv2 : v < 1000 := by omega
    rw [p10s] at hv
    refine ⟨fun c => absurd ((nI_leI (a := 3) (by omega) (by omega)).mp c) (by omega), fun _ => ⟨fun c => ?_, fun c => ?_⟩⟩
    · have c := (nI_leI (b := 0) (by omega) (by omega)).mp c
      refine k1 ?_
      unfold okd
      rw [if_pos (by omega)]
    · have c : ¬ v = 0 := fun y => c (by subst y; decide)
      rw [nI_rem (by omega)]
      refine ⟨fun d => k0 ?_, fun d => ⟨fun e x1 ex1 x2 ex2 => ?_, fun e => k0 ?_⟩⟩
      · have d := (nI_ltI (b := 1) (by omega) (by omega)).mp d
        unfold okd
        rw [if_neg c, if_pos d]
      · have d : ¬ v % 10 < 1 := fun y => d ((nI_ltI (b := 1) (by omega) (by omega)).mpr y)
        have e := (nI_leI (b := 3) (by omega) (by omega)).mp e
        have e10 : nI v / 10 = nI (v / 10) := nI_div (b := 10) (by omega) (by omega)
        rw [e10] at ex1
        rw [nI_1] at ex2
        subst ex1; subst ex2
        refine ih (i + 1) (v / 10) (by omega) (by omega) (fun y => k1 ?_) (fun y => k0 ?_)
        · unfold okd
          rw [if_neg c, if_neg d, if_pos e]
          exact y
        · unfold okd
          rw [if_neg c, if_neg d, if_pos e]
          exact y
      · have d : ¬ v % 10 < 1 := fun y => d ((nI_ltI (b := 1) (by omega) (by omega)).mpr y)
        have e : ¬ v % 10 ≤ 3 := fun y => e ((nI_leI (b := 3) (by omega) (by omega)).mpr y)
        unfold okd
        rw [if_neg c, if_neg d, if_neg e]
def kOk (x : Int32) : Prop := ∃ v, v < 334 ∧ x = nI v ∧ okd 3 v = true
theorem k334 {x : Int32} (h0 : ¬ x < 0) (h1 : x ≤ 333) : ∃ v, v < 334 ∧ x = nI v := by
  have m1 : (333 : Int32).toInt = 333 := rfl
  have m0 : (0 : Int32).toInt = 0 := rfl
  rw [Int32.lt_iff_toInt_lt, m0] at h0
  rw [Int32.le_iff_toInt_le, m1] at h1
  refine ⟨x.toInt.toNat, by omega, ?_⟩
  apply Int32.toInt_inj.mp
  rw [nI_toInt (by omega)]; omega
theorem kOk_n {v : Nat} (hv : v < 334) : kOk (nI v) ↔ okd 3 v = true := by
  constructor
  · intro ⟨w, hw, e, h⟩
    rw [nE (by omega) (by omega) e]
    exact h
  · intro h
    exact ⟨v, hv, rfl, h⟩
theorem kOk_in {x : Int32} (h : kOk x) : ¬ x < 0 ∧ x ≤ 333 := by
  obtain ⟨v, hv, e, -⟩ := h
  subst e
  exact ⟨nI_pos (by omega), (nI_leI (b := 333) (by omega) (by omega)).mpr (by omega)⟩
theorem c_kr {x : Int32} {S : St} {Q : Int32 → St → Prop} (k1 : kOk x → Q 1 S) (k0 : ¬ kOk x → Q 0 S) : wp8_isKindRow S x Q := by
  refine ⟨fun z => k0 fun y => (kOk_in y).1 z, fun z => ⟨fun z2 => ⟨4, ?_⟩, fun z2 => k0 fun y => z2 (kOk_in y).2⟩⟩
  obtain ⟨v, hv, e⟩ := k334 z z2
  subst e
  refine c_krl 3 0 v rfl (by omega) (fun y => k1 ((kOk_n hv).mpr y)) (fun y => k0 fun w => ?_)
  rw [(kOk_n hv).mp w] at y
  exact absurd y (by decide)
theorem m_dgl {x : Int32} {S : St} {Q : Int32 → St → Prop} : ∀ n c v, c + n < 10 → v < 10 ^ n → n ≤ 3 → (okd n v = true → Q (nI (c + ndd n v)) S) → (okd n v = false → Q (-1) S) → wp9_digits_23 x Q (n + 1) (nI c) (nI v) S := by
  intro n
  induction n with
  | zero =>
    intro c v hc hv hn k1 k0
    have e : v = 0 := by omega
    subst e
    exact ⟨fun _ => k1 rfl, fun c => absurd (by decide) c⟩
  | succ n ih =>
    intro c v hc hv hn k1 k0
    have h3 : 10 ^ (n + 1) ≤ 10 ^ 3 := Nat.pow_le_pow_right (by omega) (by omega)
    have hv2 : v < 1000 := by omega
    rw [p10s] at hv
    refine ⟨fun z => ?_, fun z => ?_⟩
    · have z := (nI_leI (b := 0) (by omega) (by omega)).mp z
      have ez : ndd (n + 1) v = 0 := by unfold ndd; rw [if_pos (by omega)]
      rw [ez] at k1
      refine k1 ?_
      unfold okd
      rw [if_pos (by omega)]
    · have z : ¬ v = 0 := fun y => z (by subst y; decide)
      have ez : ndd (n + 1) v = 1 + ndd n (v / 10) := by
        show (if v = 0 then 0 else 1 + ndd n (v / 10)) = _
        rw [if_neg z]
      rw [ez] at k1
      rw [nI_rem (by omega)]
      refine m_inQ (fun d e => ⟨fun _ x1 ex1 x2 ex2 => ?_, fun y => absurd y (by decide)⟩) (fun w => ⟨fun y => absurd rfl y, fun _ => k0 ?_⟩)
      · have d : ¬ v % 10 < 1 := fun y => d ((nI_ltI (b := 1) (by omega) (by omega)).mpr y)
        have e : ¬ 3 < v % 10 := fun y => e ((nI_ltI (a := 3) (by omega) (by omega)).mpr y)
        have e10 : nI v / 10 = nI (v / 10) := nI_div (b := 10) (by omega) (by omega)
        rw [e10] at ex2
        rw [nI_1] at ex1
        subst ex1; subst ex2
        refine ih (c + 1) (v / 10) (by omega) (by omega) (by omega) (fun y => ?_) (fun y => k0 ?_)
        · rw [show c + 1 + ndd n (v / 10) = c + (1 + ndd n (v / 10)) by omega]
          refine k1 ?_
          unfold okd
          rw [if_neg z, if_neg d, if_pos (by omega)]
          exact y
        · unfold okd
          rw [if_neg z, if_neg d, if_pos (by omega)]
          exact y
      · unfold okd
        rw [if_neg z]
        rcases w with w | w
        · have w := (nI_ltI (b := 1) (by omega) (by omega)).mp w
          rw [if_pos w]
        · have w := (nI_ltI (a := 3) (by omega) (by omega)).mp w
          rw [if_neg (by omega), if_neg (by omega)]
theorem m_dg {x : Int32} {S : St} {Q : Int32 → St → Prop} (k1 : ∀ v, v < 334 → x = nI v → okd 3 v = true → Q (nI (ndv v)) S) (k0 : ¬ kOk x → Q (-1) S) : wp9_digits S x Q := by
  refine ⟨fun _ => ⟨fun z => k0 fun y => (kOk_in y).1 z, fun z => ⟨fun z2 => ⟨4, ?_⟩, fun z2 => k0 fun y => z2 (kOk_in y).2⟩⟩, fun z => k1 0 (by omega) z (by decide)⟩
  obtain ⟨v, hv, e⟩ := k334 z z2
  subst e
  refine m_dgl 3 0 v (by omega) (by omega) (by omega) (fun y => ?_) (fun y => k0 fun w => ?_)
  · rw [(okd_facts hv y).1, Nat.zero_add]
    exact k1 v hv rfl y
  · rw [(kOk_n hv).mp w] at y
    exact absurd y (by decide)
/-- variables put behind -/
def AvC (S S' : St) (o c k v : Nat) : Prop := Ag (fun z => z = 1400 ∨ z = 1405) S S' ∧ (∀ g i, gA S' 1400 g i = if g = o ∧ c ≤ i ∧ i < c + k then nI (dig v (i - c)) else gA S 1400 g i) ∧ ∀ g, gI S' 1405 g = if g = o then nI (c + k) else gI S 1405 g
theorem c_av1 {S S1 : St} {o c k v d : Nat} {Q : St → Prop} (h : AvC S S1 o c k v) (hd : d ≤ 9) (hc : ¬ d = 0 → c + k < 6) (hw : ¬ d = 0 → dig v k = d) (kk : ∀ S', AvC S S' o c (if d = 0 then k else k + 1) v → Q S') : wp4_addVariable S1 o (nI d) Q := by
  have hl : gI S1 1405 o = nI (c + k) := by rw [h.2.2, if_pos rfl]
  refine ⟨fun z => ?_, fun z => ?_⟩
  · have z := nE (b := 0) (by omega) (by omega) z
    rw [if_pos z] at kk
    exact kk S1 h
  · have z : ¬ d = 0 := nN (b := 0) z
    have hc := hc z
    rw [if_neg z] at kk
    rw [hl]
    refine ⟨fun y => absurd ((nI_leI (a := 6) (by omega) (by omega)).mp y) (by omega), fun _ => ⟨vp_in_nI (by omega) (by omega), fun S2 e2 S3 e3 => ?_⟩⟩
    rw [nI_clamp (by omega)] at e2
    subst e2
    rw [show gI (sA S1 1400 o (c + k) (nI d)) 1405 o = nI (c + k) from hl, nI_1] at e3
    subst e3
    refine kk _ ⟨(h.1.sA (by omega)).sI (by omega), fun g i => ?_, fun g => ?_⟩
    · simp only [gA_sI, gA_sA, true_and]
      by_cases y : g = o ∧ i = c + k
      · rw [if_pos y, if_pos (by omega), show i - c = k by omega, hw z]
      · rw [if_neg y, h.2.1]
        by_cases w : g = o ∧ c ≤ i ∧ i < c + k
        · rw [if_pos w, if_pos (by omega)]
        · rw [if_neg w, if_neg (by omega)]
    · simp only [gI_sI, gI_sA, true_and]
      by_cases w : g = o
      · rw [if_pos w, if_pos w, Nat.add_assoc]
      · rw [if_neg w, if_neg w, h.2.2, if_neg w]
theorem c_av {S : St} {o c v : Nat} {Q : St → Prop} (hv : v < 334) (hok : okd 3 v = true) (hc : c ≤ 3) (hl : gI S 1405 o = nI c) (kk : ∀ S', AvC S S' o c (ndv v) v → Q S') : wp4_addVariables S o (nI v) Q := by
  obtain ⟨-, f1, f2, ⟨f3, f4, f5⟩, -⟩ := okd_facts hv hok
  have e1 : nI v / 100 = nI (v / 100) := nI_div (b := 100) (by omega) (by omega)
  have e2 : nI v / 10 = nI (v / 10) := nI_div (b := 10) (by omega) (by omega)
  unfold wp4_addVariables
  have h0 : AvC S S o c 0 v := by
    refine ⟨Ag.rf, fun g i => by rw [if_neg (by omega)], fun g => ?_⟩
    by_cases y : g = o
    · rw [if_pos y, y]; exact hl
    · rw [if_neg y]
  rw [nI_rem (v := v) (by omega), e1, e2, nI_rem (v := v / 10) (by omega)]
  have d3 : 100 ≤ v → ndv v = 3 := fun y => by unfold ndv; rw [if_neg (by omega), if_neg (by omega), if_neg (by omega)]
  have d2 : v < 100 → 10 ≤ v → ndv v = 2 := fun y y2 => by unfold ndv; rw [if_neg (by omega), if_neg (by omega), if_pos y]
  have d1 : v < 10 → ¬ v = 0 → ndv v = 1 := fun y y2 => by unfold ndv; rw [if_neg y2, if_pos y]
  have d0 : v = 0 → ndv v = 0 := fun y => by unfold ndv; rw [if_pos y]
  refine c_av1 h0 (by omega) (fun _ => by omega) (fun y => ?_) fun S1 h1 => ?_
  · unfold dig
    rw [d3 (by omega), show 3 - 1 - 0 = 2 from rfl]
    omega
  refine c_av1 h1 (by omega) (fun _ => by split <;> omega) (fun y => ?_) fun S2 h2 => ?_
  · unfold dig
    by_cases z : v / 100 = 0
    · rw [if_pos z, d2 (by omega) (by omega), show 2 - 1 - 0 = 1 from rfl]
    · rw [if_neg z, d3 (by omega), show 3 - 1 - (0 + 1) = 1 from rfl]
  refine c_av1 h2 (by omega) (fun _ => by split <;> split <;> omega) (fun y => ?_) fun S3 h3 => ?_
  · unfold dig
    by_cases z : v / 100 = 0
    · rw [if_pos z]
      by_cases z2 : v / 10 % 10 = 0
      · rw [if_pos z2, d1 (by omega) (by omega), show 1 - 1 - 0 = 0 from rfl]; omega
      · rw [if_neg z2, d2 (by omega) (by omega), show 2 - 1 - (0 + 1) = 0 from rfl]; omega
    · rw [if_neg z, if_neg (f2 (by omega)), d3 (by omega), show 3 - 1 - (0 + 1 + 1) = 0 from rfl]; omega
  · refine kk S3 ?_
    have e : (if v % 10 = 0 then (if v / 10 % 10 = 0 then (if v / 100 = 0 then 0 else 0 + 1) else (if v / 100 = 0 then 0 else 0 + 1) + 1) else (if v / 10 % 10 = 0 then (if v / 100 = 0 then 0 else 0 + 1) else (if v / 100 = 0 then 0 else 0 + 1) + 1) + 1) = ndv v := by
      by_cases z : v / 100 = 0
      · rw [if_pos z]
        by_cases z2 : v / 10 % 10 = 0
        · rw [if_pos z2]
          by_cases z3 : v % 10 = 0
          · rw [if_pos z3, d0 (by omega)]
          · rw [if_neg z3, d1 (by omega) (by omega)]
        · rw [if_neg z2, if_neg (f1 (by omega)), d2 (by omega) (by omega)]
      · rw [if_neg z, if_neg (f2 (by omega)), if_neg (f1 (by omega)), d3 (by omega)]
    rw [e] at h3
    exact h3
/-- the reference's kinds -/
def SkM (S S' : St) (b n k v : Nat) : Prop := Ag (fun z => z = 1900) S S' ∧ ∀ q, gA S' 1900 0 q = if b + k ≤ q ∧ q < b + n then nI (dig v (q - b)) else gA S 1900 0 q
theorem m_skl {S : St} {x1 x2 x3 x4 : Int32} {Q : St → Prop} {f r v : Nat} (hf : f < 6) (hr : r + ndv v ≤ 6) (hv : v < 334) (e1 : x1 = nI f) (e2 : x2 = nI r) (kk : ∀ S', SkM S S' (6 * f + r) (ndv v) 0 v → Q S') : ∀ (k : Nat) (S1 : St), k ≤ ndv v → SkM S S1 (6 * f + r) (ndv v) k v → wp9_setKinds_9 x1 x2 x3 x4 Q (k + 1) (nI (v / 10 ^ (ndv v - k))) (nI k - 1) S1 := by
  subst e1; subst e2
  intro k
  induction k with
  | zero =>
    intro S1 hk hs
    exact ⟨fun _ => kk S1 hs, fun c => absurd (by decide) c⟩
  | succ k ih =>
    intro S1 hk hs
    rw [show nI (k + 1) - 1 = nI k from nI_dec (a := k + 1) (by omega)]
    refine ⟨fun c => absurd c (nI_pos (by omega)), fun _ => ?_⟩
    have l6 : (6 : Int32) * nI f = nI (6 * f) := nI_mul 6 f
    have hq : v / 10 ^ (ndv v - (k + 1)) ≤ v := Nat.div_le_self _ _
    rw [l6, nI_add, nI_add, nI_clamp (by omega), nI_rem (by omega)]
    refine ⟨vp_in_nI (by omega) (by omega), fun S2 e2 x5 e5 x6 e6 => ?_⟩
    subst e2
    have e10 : nI (v / 10 ^ (ndv v - (k + 1))) / 10 = nI (v / 10 ^ (ndv v - (k + 1)) / 10) := nI_div (b := 10) (by omega) (by omega)
    rw [e10, Nat.div_div_eq_div_mul, ← Nat.pow_succ, show (ndv v - (k + 1)).succ = ndv v - k by omega] at e5
    rw [← Int32.sub_eq_add_neg] at e6
    subst e5; subst e6
    refine ih _ (by omega) ⟨hs.1.sA rfl, fun q => ?_⟩
    simp only [gA_sA, true_and]
    by_cases y : q = 6 * f + r + k
    · rw [if_pos y, if_pos (by omega), show q - (6 * f + r) = k by omega]
      unfold dig
      rw [show ndv v - 1 - k = ndv v - (k + 1) by omega]
    · rw [if_neg y, hs.2]
      by_cases w : 6 * f + r + (k + 1) ≤ q ∧ q < 6 * f + r + ndv v
      · rw [if_pos w, if_pos (by omega)]
      · rw [if_neg w, if_neg (by omega)]
theorem m_sk {S : St} {Q : St → Prop} {f r v : Nat} (hf : f < 6) (hr : r + ndv v ≤ 6) (hv : v < 334) (kk : ∀ S', SkM S S' (6 * f + r) (ndv v) 0 v → Q S') : wp9_setKinds S (nI f) (nI r) (nI v) (nI (ndv v)) Q := by
  intro x6 e6
  subst e6
  refine ⟨ndv v + 1, ?_⟩
  have := m_skl (x3 := nI v) (x4 := nI (ndv v)) hf hr hv rfl rfl kk (ndv v) S (Nat.le_refl _) ⟨Ag.rf, fun q => by rw [if_neg (by omega)]⟩
  rw [Nat.sub_self, Nat.pow_zero, Nat.div_one] at this
  exact this
theorem inr5 {x : Int32} {n : Nat} (hn : n < 1000) (h0 : ¬ x < 0) (h1 : ¬ nI n < x) : ∃ j, j ≤ n ∧ x = nI j := by
  have m0 : (0 : Int32).toInt = 0 := rfl
  rw [Int32.lt_iff_toInt_lt, m0] at h0
  rw [Int32.lt_iff_toInt_lt, nI_toInt (by omega)] at h1
  refine ⟨x.toInt.toNat, by omega, ?_⟩
  apply Int32.toInt_inj.mp
  rw [nI_toInt (by omega)]; omega
def Bsh (x1 x2 x3 x4 : Int32) : Prop := x1 < 0 ∨ 5 < x1 ∨ ¬ kOk x2 ∨ x3 < 0 ∨ 3 < x3 ∨ ¬ kOk x4
theorem m_shapeQ {M : St} {x1 x2 x3 x4 : Int32} {Q : Int32 → St → Prop} (b : Bsh x1 x2 x3 x4 → Q 0 (sI M 1939 0 1)) (kk : ∀ f v r w, f < 6 → x1 = nI f → v < 334 → x2 = nI v → okd 3 v = true → r ≤ 3 → x3 = nI r → w < 334 → x4 = nI w → okd 3 w = true → wp9_shape_47 x1 x2 x3 x4 Q (nI (ndv v)) (nI (ndv w)) 1 M) : wp9_shape M x1 x2 x3 x4 Q := by
  have b : Bsh x1 x2 x3 x4 → ∀ r1 r2, wp9_shape_46 x1 x2 x3 x4 Q r1 r2 M := by
    intro z r1 r2
    unfold wp9_shape_46 wp9_shape_47
    exact m_good0 ⟨fun y => absurd rfl y, fun _ => b z⟩
  refine m_dg (fun v hv ev okv => ?_) (fun nk => ?_)
  · have nv := ndv_le v
    refine m_dg (fun w hw ew okw => ?_) (fun nk => ?_)
    · have nw := ndv_le w
      refine m_inQ (fun y1 y2 => ⟨fun y => absurd y (by decide), fun _ => ⟨fun y => absurd y (nI_pos (by omega)), fun _ => ⟨fun y => absurd y (nI_pos (by omega)), fun _ => m_inQ (fun y3 y4 => ⟨fun y => absurd y (by decide), fun _ => ?_⟩) (fun z => ⟨fun _ => b (Or.inr (Or.inr (Or.inr (z.elim Or.inl fun w => Or.inr (Or.inl w))))) _ _, fun y => absurd rfl y⟩)⟩⟩⟩) (fun z => ⟨fun _ => b (z.elim Or.inl fun w => Or.inr (Or.inl w)) _ _, fun y => absurd rfl y⟩)
      obtain ⟨f, hf, ef⟩ := inr5 (n := 5) (by omega) y1 y2
      obtain ⟨r, hr, er⟩ := inr5 (n := 3) (by omega) y3 y4
      exact kk f v r w (by omega) ef hv ev okv hr er hw ew okw
    · have bb := b (Or.inr (Or.inr (Or.inr (Or.inr (Or.inr nk)))))
      exact m_inQ (fun y1 y2 => ⟨fun y => absurd y (by decide), fun _ => ⟨fun y => absurd y (nI_pos (by omega)), fun _ => ⟨fun _ => bb _ _, fun y => absurd (by decide) y⟩⟩⟩) (fun _ => ⟨fun _ => bb _ _, fun y => absurd rfl y⟩)
  · have bb := b (Or.inr (Or.inr (Or.inl nk)))
    have last : ∀ r2 : Int32, wp9_in M x1 0 5 (fun r3 S3 => (r3 = 0 → wp9_shape_46 x1 x2 x3 x4 Q (-1) r2 S3) ∧ (¬ r3 = 0 → ((-1 : Int32) < 0 → wp9_shape_46 x1 x2 x3 x4 Q (-1) r2 S3) ∧ (¬ (-1 : Int32) < 0 → (r2 < 0 → wp9_shape_46 x1 x2 x3 x4 Q (-1) r2 S3) ∧ (¬ r2 < 0 → wp9_in S3 x3 0 3 (fun r4 S4 => (r4 = 0 → wp9_shape_46 x1 x2 x3 x4 Q (-1) r2 S4) ∧ (¬ r4 = 0 → wp9_shape_47 x1 x2 x3 x4 Q (-1) r2 1 S4)))))) := fun r2 => m_inQ (fun y1 y2 => ⟨fun y => absurd y (by decide), fun _ => ⟨fun _ => bb _ _, fun y => absurd (by decide) y⟩⟩) (fun _ => ⟨fun _ => bb _ _, fun y => absurd rfl y⟩)
    exact m_dg (fun w _ _ _ => last _) (fun _ => last _)
def Pshape (P : Prog) (f v w r : Nat) : Prog := (fun g i => if g = f then (if i < ndv v then dig v i else dig w (i - ndv v)) else pK P g i, fun g => if g = f then ndv v else pN P g, fun g => if g = f then ndv v + ndv w else pV P g, fun g => if g = f then r else pR P g, fun g i => pC P g i, fun g => if g = f then 0 else pL P g)
theorem k_shape {C M : St} (h : KK C M) (x1 x2 x3 x4 : Int32) (f : Nat → Int64) (g : Nat → UInt64) : st_shape KK C M x1 x2 x3 x4 f g := by
  have hK := h
  obtain ⟨P, ph, ck, a, hc, ho⟩ := h
  have hc' := hc
  obtain ⟨hw, hPC, hPM, hT, hg, hS, hX, hA, hN⟩ := hc'
  obtain ⟨o1, o2, o3, o4, o5, o6, o7, o8, o9, o10, o11, o12, o13⟩ := id ho
  have bad : Bsh x1 x2 x3 x4 → ∃ j, cd_shape 1 = some j ∧ qw_shape KK M x1 x2 x3 x4 j (C, f, g) := by
    intro z
    refine ⟨1, rfl, ?_⟩
    unfold qw_shape
    refine m_shapeQ (fun _ => th_bad hK (by decide)) (fun f v r w hf ef hv ev okv hr er hww ew okw => ?_)
    exfalso
    rcases z with z | z | z | z | z | z
    · rw [ef] at z; exact nI_pos (by omega) z
    · rw [ef] at z; exact absurd ((nI_ltI (a := 5) (by omega) (by omega)).mp z) (by omega)
    · exact z ⟨v, hv, ev, okv⟩
    · rw [er] at z; exact nI_pos (by omega) z
    · rw [er] at z; exact absurd ((nI_ltI (a := 3) (by omega) (by omega)).mp z) (by omega)
    · exact z ⟨w, hww, ew, okw⟩
  unfold st_shape wp8_shape
  refine ⟨fun z => ⟨fun _ => bad (Or.inl z), fun w => absurd rfl w⟩, fun z => ⟨fun z2 => ⟨fun _ => bad (Or.inr (Or.inl ?_)), fun w => absurd rfl w⟩, fun z2 => ⟨fun w => absurd w (by decide), fun _ => c_kr (fun kv => ⟨fun w => absurd w (by decide), fun _ => ⟨fun z3 => bad (Or.inr (Or.inr (Or.inr (Or.inl z3)))), fun z3 => ⟨fun z4 => bad (Or.inr (Or.inr (Or.inr (Or.inr (Or.inl z4))))), fun z4 => c_kr (fun kw => ⟨fun _ => ?_, fun w => absurd w (by decide)⟩) (fun z5 => ⟨fun w => absurd rfl w, fun _ => bad (Or.inr (Or.inr (Or.inr (Or.inr (Or.inr z5)))))⟩)⟩⟩⟩) (fun z5 => ⟨fun _ => bad (Or.inr (Or.inr (Or.inl z5))), fun w => absurd rfl w⟩)⟩⟩⟩
  · have m1 : (6 : Int32).toInt = 6 := rfl
    have m5 : (5 : Int32).toInt = 5 := rfl
    rw [Int32.le_iff_toInt_le, m1] at z2
    rw [Int32.lt_iff_toInt_lt, m5]; omega
  obtain ⟨i, hi, ei⟩ := inr' (n := 6) (by omega) z z2
  obtain ⟨r, hr, er⟩ := inr5 (n := 3) (by omega) z3 z4
  obtain ⟨v, hv, ev, okv⟩ := kv
  obtain ⟨w, hww, ew, okw⟩ := kw
  subst ei; subst er; subst ev; subst ew
  have nv := ndv_le v
  have nw := ndv_le w
  obtain ⟨-, -, -, -, dv⟩ := okd_facts hv okv
  obtain ⟨-, -, -, -, dw⟩ := okd_facts hww okw
  have x32 : gI (sI M 1939 0 0) 1932 0 = nI ph := by simp [gI_sI]; exact o5
  have nb : ¬ Bsh (nI i) (nI v) (nI r) (nI w) := by
    rintro (q | q | q | q | q | q)
    · exact nI_pos (by omega) q
    · exact absurd ((nI_ltI (a := 5) (by omega) (by omega)).mp q) (by omega)
    · exact q ⟨v, hv, rfl, okv⟩
    · exact nI_pos (by omega) q
    · exact absurd ((nI_ltI (a := 3) (by omega) (by omega)).mp q) (by omega)
    · exact q ⟨w, hww, rfl, okw⟩
  have inM : ∀ Q : Int32 → St → Prop, ((nI ph = 1 → wp9_shape_70 (nI i) (nI v) (nI r) (nI w) Q (nI (ndv v)) (nI (ndv w)) 0 (sI M 1939 0 0)) ∧ (¬ nI ph = 1 → wp9_shape_70 (nI i) (nI v) (nI r) (nI w) Q (nI (ndv v)) (nI (ndv w)) 1 (sI M 1939 0 0))) → wp9_shape M (nI i) (nI v) (nI r) (nI w) Q := by
    intro Q hQ
    refine m_shapeQ (fun y => absurd y nb) (fun f' v' r' w' hf' ef' hv' ev' okv' hr' er' hw' ew' okw' => ?_)
    have e1 : v = v' := nE (by omega) (by omega) ev'
    have e2 : w = w' := nE (by omega) (by omega) ew'
    subst e1; subst e2
    refine m_good1 ⟨fun _ => ?_, fun y => absurd y (by decide)⟩
    rw [x32]
    exact hQ
  rw [o4]
  refine ⟨fun y => ?_, fun y => ?_⟩
  · have y' := nN (b := 1) y
    intro S4 e4
    subst e4
    refine ⟨vp_in_nI hi (by omega), ?_⟩
    rw [nI_clamp (by omega)]
    intro S1 e1
    subst e1
    refine c_av (c := 0) hv okv (by omega) (by simp [gI_sI]; rfl) fun S2 h2 S3 e3 => ?_
    have e5 : gI S2 1405 i = nI (ndv v) := by rw [h2.2.2, if_pos rfl, Nat.zero_add]
    rw [e5] at e3
    subst e3
    refine c_av (c := ndv v) hww okw nv (by simp [gI_sI]; exact e5) fun S5 h5 S6 e6 S7 e7 => ⟨vp_in_nI hi (by omega), ?_⟩
    subst e6; subst e7
    unfold wp4_variableCount
    have eR : gI (sI (sI S5 1406 i (nI r)) 1407 i 0) 1405 i = nI (ndv v + ndv w) := by
      simp [gI_sI]
      rw [h5.2.2, if_pos rfl]
    show qw_shape KK M (nI i) (nI v) (nI r) (nI w) 0 (_, vp_updL f 0 (gI (sI (sI S5 1406 i (nI r)) 1407 i 0) 1405 i).toInt64, g)
    rw [eR]
    unfold qw_shape
    refine inM _ ⟨fun q => absurd q y, fun _ => m_good1 ⟨fun _ => ?_, fun q => absurd q (by decide)⟩⟩
    refine m_sk (r := 0) hi (by omega) hv fun N1 s1 => m_sk (r := ndv v) hi (by omega) hww fun N2 s2 => ⟨vp_in_nI hi (by omega), ?_⟩
    rw [nI_clamp (by omega), nI_add]
    refine fun N3 t3 => ⟨vp_in_nI hi (by omega), fun N4 t4 => ⟨vp_in_nI hi (by omega), fun N5 t5 => ⟨vp_in_nI hi (by omega), fun N6 t6 N7 t7 => ?_⟩⟩⟩
    subst t3; subst t4; subst t5; subst t6; subst t7
    obtain ⟨p1, p2, p3⟩ := h2
    obtain ⟨q1, q2, q3⟩ := h5
    obtain ⟨t1, t2⟩ := s2
    obtain ⟨s1, s2⟩ := s1
    have aC : Ag (fun k => k = 1806 ∨ k = 1400 ∨ k = 1404 ∨ k = 1405 ∨ k = 1406 ∨ k = 1407) C (sI (sI S5 1406 i (nI r)) 1407 i 0) := by
      refine Ag.sI (Ag.sI ?_ (by omega)) (by omega)
      refine Ag.tr ?_ (q1.mono fun k v => by omega)
      refine Ag.sI ?_ (by omega)
      refine Ag.tr ?_ (p1.mono fun k v => by omega)
      exact Ag.sI (Ag.sI Ag.rf (by omega)) (by omega)
    have aM : Ag (fun k => k = 1939 ∨ (1900 ≤ k ∧ k ≤ 1903) ∨ k = 1905 ∨ k = 1912) M (sI (sA (sA (sA (sA N2 1901 0 i (nI (ndv v))) 1902 0 i (nI (ndv v + ndv w))) 1903 0 i (nI r)) 1905 0 i 0) 1912 0 0) := by
      refine Ag.sI (Ag.sA (Ag.sA (Ag.sA (Ag.sA ?_ (by omega)) (by omega)) (by omega)) (by omega)) (by omega)
      refine Ag.tr ?_ (t1.mono fun k v => by omega)
      refine Ag.tr ?_ (s1.mono fun k v => by omega)
      exact Ag.sI (Ag.sI Ag.rf (by omega)) (by omega)
    have pn' : ∀ f, pN (Pshape P i v w r) f = if f = i then ndv v else pN P f := fun f => rfl
    have pv' : ∀ f, pV (Pshape P i v w r) f = if f = i then ndv v + ndv w else pV P f := fun f => rfl
    have pr' : ∀ f, pR (Pshape P i v w r) f = if f = i then r else pR P f := fun f => rfl
    have pk' : ∀ f q, pK (Pshape P i v w r) f q = if f = i then (if q < ndv v then dig v q else dig w (q - ndv v)) else pK P f q := fun f q => rfl
    have pl' : ∀ f, pL (Pshape P i v w r) f = if f = i then 0 else pL P f := fun f => rfl
    have pc' : ∀ f q, pC (Pshape P i v w r) f q = pC P f q := fun f q => rfl
    refine th_good ⟨Pshape P i v w r, ph, 0, a, ⟨fun fn hfn => ?_, fun fn hfn => ?_, fun fn hfn => ?_, fun q hq => ?_, hg.of (fun q => aC.gJ (by decide) _ _) (fun q => aC.gD (by decide) _ _) (fun q => aC.gA (by decide) _ _) (fun q => aM.gJ (by decide) _ _) (aM.gF (by decide) _) (fun q => aM.gA (by decide) _ _), ⟨?_, fun q hq => ?_⟩, fun v => absurd v y', fun v => ?_, fun v => absurd v (by decide)⟩, ⟨o1, by omega, o3, ?_, ?_, ?_, ?_, ?_, ?_, fun q hq => ?_, ?_, ?_, fun v => absurd v y'⟩⟩ ?_ rfl
    · obtain ⟨w1, w2, w3, w4, w5, w6, w7⟩ := hw fn hfn
      rw [pn', pv', pr', pl']
      by_cases u : fn = i
      · rw [if_pos u, if_pos u, if_pos u, if_pos u]
        refine ⟨nv, by omega, by omega, hr, by omega, fun q hq => ?_, fun q hq => absurd hq (by omega)⟩
        rw [pk', if_pos u]
        by_cases l : q < ndv v
        · rw [if_pos l]; exact dv q l
        · rw [if_neg l]; exact dw _ (by omega)
      · rw [if_neg u, if_neg u, if_neg u, if_neg u]
        refine ⟨w1, w2, w3, w4, w5, fun q hq => ?_, w7⟩
        rw [pk', if_neg u]; exact w6 q hq
    · obtain ⟨b1, b2, b3, b4, b5, b6⟩ := hPC fn hfn
      rw [pn', pv', pr', pl']
      refine ⟨?_, ?_, ?_, ?_, fun q hq => ?_, fun q hq => ?_⟩
      · simp [gI_sI]
        rw [q1.gI (by decide)]
        simp [gI_sI]
        by_cases u : fn = i
        · rw [if_pos u, if_pos u]
        · rw [if_neg u, if_neg u, p1.gI (by decide)]
          simp [gI_sI]
          exact b1
      · simp [gI_sI]
        rw [q3]
        by_cases u : fn = i
        · rw [if_pos u, if_pos u]
        · rw [if_neg u, if_neg u]
          simp [gI_sI]
          rw [p3, if_neg u]
          simp [gI_sI, u]
          exact b2
      · simp [gI_sI]
        by_cases u : fn = i
        · rw [if_pos u, if_pos u]
        · rw [if_neg u, if_neg u, q1.gI (by decide)]
          simp [gI_sI]
          rw [p1.gI (by decide)]
          simp [gI_sI]
          exact b3
      · simp [gI_sI]
        by_cases u : fn = i
        · rw [if_pos u, if_pos u]; rfl
        · rw [if_neg u, if_neg u, q1.gI (by decide)]
          simp [gI_sI]
          rw [p1.gI (by decide)]
          simp [gI_sI]
          exact b4
      · show gA S5 1400 fn q = _
        rw [q2, pk']
        show (if _ then _ else gA S2 1400 fn q) = _
        rw [p2]
        by_cases u : fn = i
        · rw [if_pos u] at hq
          rw [if_pos u]
          by_cases l : q < ndv v
          · rw [if_neg (by omega), if_pos (by omega), if_pos l, Nat.sub_zero]
          · rw [if_pos (by omega), if_neg l]
        · rw [if_neg u] at hq
          rw [if_neg u, if_neg (fun y => u y.1), if_neg (fun y => u y.1)]
          exact b5 q hq
      · rw [aC.gA (by decide), pc']
        refine b6 q ?_
        by_cases u : fn = i
        · rw [if_pos u] at hq; omega
        · rw [if_neg u] at hq; exact hq
    · obtain ⟨b1, b2, b3, b4, b5, b6⟩ := hPM fn hfn
      rw [pn', pv', pr', pl']
      refine ⟨?_, ?_, ?_, ?_, fun q hq => ?_, fun q hq => ?_⟩
      · simp [gA_sI, gA_sA]
        by_cases u : fn = i
        · rw [if_pos u, if_pos u]
        · rw [if_neg u, if_neg u, t1.gA (by decide), s1.gA (by decide)]
          exact b1
      · simp [gA_sI, gA_sA]
        by_cases u : fn = i
        · rw [if_pos u, if_pos u]
        · rw [if_neg u, if_neg u, t1.gA (by decide), s1.gA (by decide)]
          exact b2
      · simp [gA_sI, gA_sA]
        by_cases u : fn = i
        · rw [if_pos u, if_pos u]
        · rw [if_neg u, if_neg u, t1.gA (by decide), s1.gA (by decide)]
          exact b3
      · simp [gA_sI, gA_sA]
        by_cases u : fn = i
        · rw [if_pos u, if_pos u]; rfl
        · rw [if_neg u, if_neg u, t1.gA (by decide), s1.gA (by decide)]
          exact b4
      · show gA N2 1900 0 (6 * fn + q) = _
        rw [t2, s2, pk']
        by_cases u : fn = i
        · rw [if_pos u] at hq
          rw [if_pos u]
          subst u
          by_cases l : q < ndv v
          · rw [if_neg (by omega), if_pos (by omega), if_pos l, show 6 * fn + q - (6 * fn + 0) = q by omega]
          · rw [if_pos (by omega), if_neg l, show 6 * fn + q - (6 * fn + ndv v) = q - ndv v by omega]
        · have q6 := (hw fn hfn).2.2.1
          rw [if_neg u] at hq
          rw [if_neg u, if_neg (by omega), if_neg (by omega)]
          exact b5 q hq
      · rw [aM.gA (by decide), pc']
        refine b6 q ?_
        by_cases u : fn = i
        · rw [if_pos u] at hq; omega
        · rw [if_neg u] at hq; exact hq
    · rw [aC.gA (by decide), aM.gA (by decide)]; exact hT q hq
    · rw [aC.gR (by decide)]; exact hS.1
    · rw [aC.gI (by decide)]; exact hS.2 q hq
    · obtain ⟨k, k3, a1, a2, a3⟩ := hA v
      refine ⟨k, k3, ?_, ?_, fun v2 => ?_⟩
      · rw [aC.gI (by decide)]; exact a1
      · rw [aM.gI (by decide)]; exact a2
      · rw [aC.gJ (by decide), aC.gD (by decide), aM.gL (by decide), aM.gF (by decide)]; exact a3 v2
    · rw [aC.gI (by decide)]; exact o4
    · rw [aM.gI (by decide)]; exact o5
    · rw [aC.gI (by decide), aM.gI (by decide)]; exact o6
    · rw [aC.gI (by decide), aM.gI (by decide)]; exact o7
    · rw [aC.gI (by decide)]; exact o8
    · rw [aM.gI (by decide)]; exact o9
    · rw [aC.gA (by decide), aM.gA (by decide)]; exact o10 q hq
    · simp [gI_sI]
      rw [q1.gI (by decide)]
      simp [gI_sI]
      rw [p1.gI (by decide)]
      simp [gI_sI]; rfl
    · simp [gI_sI]; rfl
    · simp [gI_sI, gI_sA]
      rw [t1.gI (by decide), s1.gI (by decide)]
      simp [gI_sI]
  · have y' := nE (b := 1) (by omega) (by omega) y
    refine ⟨2, rfl, ?_⟩
    unfold qw_shape
    refine inM _ ⟨fun _ => ?_, fun v => absurd y v⟩
    unfold wp9_shape_70
    exact m_good0 ⟨fun v => absurd rfl v, fun _ => th_bad (hK.th 0) (by decide)⟩
