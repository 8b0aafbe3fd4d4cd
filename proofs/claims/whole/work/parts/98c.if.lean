/-! PURE: steps: IF -/
theorem sz_one {P : Prog} {f pc : Nat} (h : pC P f pc = 0 ∨ pC P f pc = 1 ∨ pC P f pc = 5 ∨ pC P f pc = 6 ∨ pC P f pc = 10) : szI P f pc = 1 := by
  unfold szI
  rw [if_neg (by omega), if_neg (by omega)]
theorem c_behindElse {C : St} {f b : Nat} {Q : Int32 → St → Prop} (hb : b < 60) (kk : Q (gA C 1402 f b) C) : wp4_behindElse C f (nI b) Q := by
  unfold wp4_behindElse
  rw [nI_clamp (by omega)]
  exact ⟨fun z => absurd z (nI_pos (by omega)), fun _ => ⟨fun z => absurd ((nI_leI (a := 60) (by omega) (by omega)).mp z) (by omega), fun _ => ⟨vp_in_nI hb (by omega), kk⟩⟩⟩
theorem c_behindEnd {C : St} {f b : Nat} {Q : Int32 → St → Prop} (hb : b < 60) (kk : Q (gA C 1403 f b) C) : wp4_behindEnd C f (nI b) Q := by
  unfold wp4_behindEnd
  rw [nI_clamp (by omega)]
  exact ⟨fun z => absurd z (nI_pos (by omega)), fun _ => ⟨fun z => absurd ((nI_leI (a := 60) (by omega) (by omega)).mp z) (by omega), fun _ => ⟨vp_in_nI hb (by omega), kk⟩⟩⟩
/-- the state behind the ELSE of a frame that is open at pc with t -/
theorem else_state {P : Prog} (hw : PW P) {f m pc q : Nat} {t : SB} (hf : f < 6) (h : Here P f m pc t) (l : Live t) (hq : qn t = q + 1) (hh : qh t = fb (qF t q)) (h5 : pC P f (stopOf P f q m pc t) = 5) :
    ∃ m' v, Here P f m' (stopOf P f q m pc t + 1) v ∧ Live v ∧ qn v = q + 1 ∧ (∀ i, i < q → qF v i = qF t i) ∧ (fo (qF v q) = fo (qF t q) ∧ fk (qF v q) = fk (qF t q) ∧ fb (qF v q) = fb (qF t q) ∧ fg (qF v q) = fg (qF t q)) ∧ qh v = qh t ∧ ∀ i, i < qh t → qK v i = qK t i := by
  obtain ⟨k, u, h1, h2, h3, h4, h5', h6, h7, h8, h9, -⟩ := stops hw hf m pc t h.1 h.2.1 h.2.2.1 (show q < qn t by omega)
  have hu := h.go hw hf k m pc t _ u (by omega) h2
  have hm : m - k = (m - k - 1) + 1 := by omega
  rw [hm] at hu
  have hv := hu.one hw hf
  rw [sz_one (by omega)] at hv
  have ae := after_else (t := q) h5 h4 hu.1.1.2.2.2.2.2
  have w := h7.1
  have K := fun i (hi : i < fb (sTop u)) => K_one (P := P) (f := f) (pc := stopOf P f q m pc t) w (by omega) hi
  have T := T_one (P := P) (f := f) (pc := stopOf P f q m pc t) (s := u) (by omega)
  have st : sTop u = qF u q := by unfold sTop; rw [h4]; rfl
  rw [st] at K T
  rw [h4, Nat.add_sub_cancel] at T
  obtain ⟨c1, c2, c3⟩ := h5'
  have Fl : ∀ i, i < q → qF (ckOne P f (stopOf P f q m pc t) u) i = qF t i := by
    intro i hi
    rw [F_one (by omega), c1 i hi]
  have Hv : qh (ckOne P f (stopOf P f q m pc t) u) = qh t := by rw [ae.2.2.2.2.2, c2.2.2.1, hh]
  have Kv : ∀ i, i < qh t → qK (ckOne P f (stopOf P f q m pc t) u) i = qK t i := by
    intro i hi
    rw [hh] at hi
    rw [K i (by rw [c2.2.2.1]; exact hi), c3 i hi]
  refine ⟨_, _, hv, ⟨fun i hi => ?_, fun i hi => ?_⟩, ae.1, Fl, ⟨T.1.trans c2.1, T.2.1.trans c2.2.1, T.2.2.1.trans c2.2.2.1, T.2.2.2.trans c2.2.2.2⟩, Hv, Kv⟩
  · rw [ae.1] at hi
    by_cases z : i = q
    · rw [z]; exact ae.2.2.2.2.1
    · rw [Fl i (by omega)]; exact l.1 i (by omega)
  · rw [Hv] at hi
    rw [Kv i hi]; exact l.2 i hi
/-- the state behind the END of a frame that is open at pc with t; it needn't be live at its top -/
theorem end_state {P : Prog} (hw : PW P) {f m pc q : Nat} {t : SB} (hf : f < 6) (h : Here P f m pc t) (hq : q < qn t) (q1 : 1 ≤ q) (l : ∀ i, i < q → fd (qF t i) = 0) (l2 : ∀ i, i < fb (qF t q) → qK t i ≤ 3) (hk3 : fk (qF t q) ≤ 3) :
    ∃ m' v, Here P f m' (endOf P f q m pc t + 1) v ∧ Live v ∧ qn v = q ∧ (∀ i, i < q → qF v i = qF t i) ∧ qh v = fb (qF t q) + (if fk (qF t q) = 0 then 0 else 1) ∧ (∀ i, i < fb (qF t q) → qK v i = qK t i) ∧ (¬ fk (qF t q) = 0 → qK v (fb (qF t q)) = fk (qF t q)) := by
  obtain ⟨k, u, h1, h2, h3, h4, h5', h7, h8, h9, -⟩ := ends hw hf m pc t h.1 h.2.1 h.2.2.1 hq
  have hu := h.go hw hf k m pc t _ u (by omega) h2
  have hm : m - k = (m - k - 1) + 1 := by omega
  rw [hm] at hu
  have hv := hu.one hw hf
  rw [sz_one (by omega)] at hv
  obtain ⟨a1, a2, a3, a4⟩ := after_end (t := q) h3 h4 hu.1.1.2.2.2.2.2
  obtain ⟨a5, a6⟩ := a4 q1
  have w := h7.1
  have K := fun i (hi : i < fb (sTop u)) => K_one (P := P) (f := f) (pc := endOf P f q m pc t) w (by omega) hi
  have st : sTop u = qF u q := by unfold sTop; rw [h4]; rfl
  rw [st] at K
  obtain ⟨c1, c2, c3⟩ := h5'
  rw [c2.2.2.1, c2.2.1] at a5 a6
  rw [c2.2.2.1] at K
  have Fl : ∀ i, i < q → qF (ckOne P f (endOf P f q m pc t) u) i = qF t i := by
    intro i hi
    rw [a2, c1 i hi]
  have Kv : ∀ i, i < fb (qF t q) → qK (ckOne P f (endOf P f q m pc t) u) i = qK t i := by
    intro i hi
    rw [K i hi, c3 i hi]
  refine ⟨_, _, hv, ⟨fun i hi => ?_, fun i hi => ?_⟩, a1, Fl, a5, Kv, a6⟩
  · rw [a1] at hi
    rw [Fl i hi]; exact l i hi
  · rw [a5] at hi
    by_cases z : i < fb (qF t q)
    · rw [Kv i z]; exact l2 i z
    · by_cases y : fk (qF t q) = 0
      · rw [if_pos y] at hi; omega
      · rw [if_neg y] at hi
        rw [show i = fb (qF t q) by omega, a6 y]; exact hk3
