theorem m_in {M : St} {x lo hi : Nat} {Q : Int32 → St → Prop} (hx : x < 2 ^ 31) (hl : lo < 2 ^ 31) (hh : hi < 2 ^ 31) (k1 : lo ≤ x ∧ x ≤ hi → Q 1 M) (k0 : ¬ (lo ≤ x ∧ x ≤ hi) → Q 0 M) : wp9_in M (nI x) (nI lo) (nI hi) Q := by
  unfold wp9_in
  refine ⟨fun c => ?_, fun c => ⟨fun c2 => ?_, fun c2 => ?_⟩⟩
  · have c := (nI_ltI hx hl).mp c
    exact k0 (by omega)
  · have c2 := (nI_ltI hh hx).mp c2
    exact k0 (by omega)
  · have c : ¬ x < lo := fun z => c ((nI_ltI hx hl).mpr z)
    have c2 : ¬ hi < x := fun z => c2 ((nI_ltI hh hx).mpr z)
    exact k1 (by omega)
theorem m_isKnown {M : St} {op : Nat} {Q : Int32 → St → Prop} (ho : op < 256) (k1 : known op → Q 1 M) (k0 : ¬ known op → Q 0 M) : wp9_isKnown M (nI op) Q := by
  unfold wp9_isKnown
  unfold known at k1 k0
  refine ⟨fun c => ?_, fun c => ?_⟩
  · have c := (nI_leI (b := 28) (by omega) (by omega)).mp c
    exact k1 (by omega)
  · have c : ¬ op ≤ 28 := fun z => c ((nI_leI (b := 28) (by omega) (by omega)).mpr z)
    refine m_in (lo := 30) (hi := 45) (by omega) (by omega) (by omega) (fun z => ⟨fun _ => k1 (by omega), fun z => absurd z (by decide)⟩) (fun z1 => ⟨fun z => absurd rfl z, fun _ => ?_⟩)
    refine m_in (lo := 50) (hi := 64) (by omega) (by omega) (by omega) (fun z => ⟨fun _ => k1 (by omega), fun z => absurd z (by decide)⟩) (fun z2 => ⟨fun z => absurd rfl z, fun _ => ?_⟩)
    refine m_in (lo := 70) (hi := 76) (by omega) (by omega) (by omega) (fun z => ⟨fun _ => k1 (by omega), fun z => absurd z (by decide)⟩) (fun z3 => ⟨fun z => absurd rfl z, fun _ => ?_⟩)
    exact m_in (lo := 80) (hi := 85) (by omega) (by omega) (by omega) (fun z => ⟨fun z => absurd z (by decide), fun _ => k1 (by omega)⟩) (fun z4 => ⟨fun _ => k0 (by omega), fun z => absurd rfl z⟩)
theorem m_behind {P : Prog} {M : St} {f i : Nat} {Q : Int32 → St → Prop} (hP : PM P M) (hw : PW P) (hf : f < 6) (hi : i < pL P f) (kk : Q (nI (szI P f i - 1)) M) : wp9_behind M (nI f) (nI i) Q := by
  have hb := hw f hf
  have hc := hb.2.2.2.2.2.2 i hi
  unfold wp9_behind
  refine m_byteAt hP hw hf hi ?_
  refine ⟨fun c => ?_, fun c => ⟨vp_in_nI hf (by omega), ?_⟩⟩
  · have c := nN (b := 9) c
    unfold szI at kk
    rw [if_neg c] at kk
    refine m_in (lo := 2) (hi := 4) (by omega) (by omega) (by omega) (fun z => ⟨fun _ => ?_, fun z => absurd z (by decide)⟩) (fun z => ⟨fun z => absurd rfl z, fun _ => ⟨fun c1 => ?_, fun c1 => ⟨fun c2 => ?_, fun c2 => ⟨fun c3 => ?_, fun c3 => ⟨fun c4 => ?_, fun c4 => ?_⟩⟩⟩⟩⟩)
    · rw [if_pos (by omega)] at kk; exact kk
    · have := nE (b := 7) (by omega) (by omega) c1
      rw [if_pos (by omega)] at kk; exact kk
    · have := nE (b := 8) (by omega) (by omega) c2
      rw [if_pos (by omega)] at kk; exact kk
    · have := nE (b := 11) (by omega) (by omega) c3
      rw [if_pos (by omega)] at kk; exact kk
    · have := nE (b := 12) (by omega) (by omega) c4
      rw [if_pos (by omega)] at kk; exact kk
    · have c1 := nN (b := 7) c1
      have c2 := nN (b := 8) c2
      have c3 := nN (b := 11) c3
      have c4 := nN (b := 12) c4
      refine m_in (lo := 15) (hi := 28) (by omega) (by omega) (by omega) (fun z => ⟨fun z => absurd z (by decide), fun _ => ?_⟩) (fun z => ⟨fun _ => ?_, fun z => absurd rfl z⟩)
      · rw [if_pos (by omega)] at kk; exact kk
      · rw [if_neg (by omega)] at kk; exact kk
  · have c := nE (b := 9) (by omega) (by omega) c
    unfold szI at kk
    rw [if_pos c] at kk
    rw [nI_clamp (by omega), (hP f hf).2.2.2.1, nI_1]
    refine ⟨fun c2 => ?_, fun c2 => ?_⟩
    · have c2 := (nI_leI (by omega) (by omega)).mp c2
      rw [if_neg (by omega)] at kk; exact kk
    · have c2 : ¬ pL P f ≤ i + 1 := fun z => c2 ((nI_leI (by omega) (by omega)).mpr z)
      refine m_byteAt hP hw hf (by omega) ?_
      rw [if_pos (by omega)] at kk
      rw [l2, nI_add]
      have : 2 + pC P f (i + 1) = 3 + pC P f (i + 1) - 1 := by omega
      rw [this]; exact kk
theorem m_one101 {P : Prog} {M0 : St} {s : SB} {M : St} {f pc : Nat} {b : Int32} {Q : St → Prop} (hP : PM P M0) (hw : PW P) (hf : f < 6) (h : RS M0 s M) (w : WS s) (h1 : 1 ≤ qn s) (hpc : pc < pL P f) (hk : known (pC P f pc)) (hb : ((11 ≤ pC P f pc ∧ pC P f pc ≤ 12) ∨ (15 ≤ pC P f pc ∧ pC P f pc ≤ 19)) → pc + 1 < pL P f ∧ b = nI (pC P f (pc + 1))) (ho : 10 < pC P f pc ∨ pC P f pc = 1) (kk : ∀ M', RS M0 (ckOne P f pc s) M' → Q M') : wp9_checkOne_101 (nI f) (nI pc) Q (nI (pC P f pc)) b M := by
  have hl := (hw f hf).2.2.2.2.1
  have hc := (hw f hf).2.2.2.2.2.2 pc hpc
  unfold wp9_checkOne_101 wp9_checkOne_113 wp9_checkOne_191
  unfold ckOne at kk
  have plain : (15 ≤ pC P f pc → 19 < pC P f pc) → ¬ pC P f pc = 11 → ¬ pC P f pc = 12 → ¬ pC P f pc = 13 → ¬ pC P f pc = 14 → (nI (pC P f pc) ≤ 19 → Q M) ∧ (¬ nI (pC P f pc) ≤ 19 → wp9_checkPlain M (nI (pC P f pc)) (fun S1 => Q S1)) := by
    intro d0 d1 d2 d3 d4
    refine ⟨fun c => ?_, fun c => ?_⟩
    · have c := (nI_leI (b := 19) (by omega) (by omega)).mp c
      rw [if_neg (by omega), if_pos (by omega)] at kk
      exact kk M h
    · have c : ¬ pC P f pc ≤ 19 := fun z => c ((nI_leI (b := 19) (by omega) (by omega)).mpr z)
      rw [if_neg (by omega), if_neg (by omega), if_neg (by omega), if_neg (by omega), if_neg (by omega), if_neg (by omega), if_neg (by omega), if_neg (by omega), if_neg (by omega)] at kk
      exact m_checkPlain h w h1 (by omega) hk kk
  refine ⟨fun c => ?_, fun c => ⟨fun c1 => ⟨fun c2 => ⟨fun c3 => ⟨fun c4 => ?_, fun c4 => ⟨fun c5 => ?_, fun c5 => ?_⟩⟩, fun c3 => ?_⟩, fun c2 => ?_⟩, fun c1 => ?_⟩⟩
  · have c := nE (b := 11) (by omega) (by omega) c
    obtain ⟨hl1, rfl⟩ := hb (by omega)
    rw [if_neg (by omega), if_neg (by omega), if_neg (by omega), if_neg (by omega), if_neg (by omega), if_pos (by omega)] at kk
    exact m_checkCall hP hw h w h1 hc ((hw f hf).2.2.2.2.2.2 (pc + 1) hl1) kk
  · have d1 := nN (b := 11) c
    have d2 := nN (b := 12) c1
    have d3 := nN (b := 13) c2
    have d4 := nN (b := 14) c3
    have c4 := (nI_ltI (b := 15) (by omega) (by omega)).mp c4
    exact plain (by omega) d1 d2 d3 d4
  · have d1 := nN (b := 11) c
    have d2 := nN (b := 12) c1
    have d3 := nN (b := 13) c2
    have d4 := nN (b := 14) c3
    have c5 := (nI_ltI (a := 19) (by omega) (by omega)).mp c5
    exact plain (by omega) d1 d2 d3 d4
  · have d1 := nN (b := 11) c
    have d2 := nN (b := 12) c1
    have d3 := nN (b := 13) c2
    have d4 := nN (b := 14) c3
    have c4 : ¬ pC P f pc < 15 := fun z => c4 ((nI_ltI (b := 15) (by omega) (by omega)).mpr z)
    have c5 : ¬ 19 < pC P f pc := fun z => c5 ((nI_ltI (a := 19) (by omega) (by omega)).mpr z)
    obtain ⟨hl1, rfl⟩ := hb (by omega)
    rw [if_neg (by omega), if_neg (by omega), if_neg (by omega), if_neg (by omega), if_neg (by omega), if_neg (by omega), if_neg (by omega), if_neg (by omega), if_pos (by omega)] at kk
    exact m_checkVariable hP hw hf h w h1 (by omega) (by omega) ((hw f hf).2.2.2.2.2.2 (pc + 1) hl1) kk
  · have c3 := nE (b := 14) (by omega) (by omega) c3
    rw [if_neg (by omega), if_neg (by omega), if_neg (by omega), if_neg (by omega), if_neg (by omega), if_neg (by omega), if_neg (by omega), if_pos (by omega)] at kk
    exact m_checkSelect h w h1 kk
  · have c2 := nE (b := 13) (by omega) (by omega) c2
    rw [if_neg (by omega), if_neg (by omega), if_neg (by omega), if_neg (by omega), if_neg (by omega), if_neg (by omega), if_pos (by omega)] at kk
    refine m_takeAny h w h1 fun M1 g => ?_
    have wt := w_tkA w
    have wt2 := wt.2
    have wt3 := wt.1.2.2.1
    refine ⟨fun c => absurd c (nI_pos (by omega)), fun _ => ⟨fun c => ?_, fun c => ?_⟩⟩
    · intro S5 e; subst e
      rw [g.2.2.1] at c
      have c := nE (b := 0) (by omega) (by omega) c
      exact kk _ ⟨g.1, g.2.1, by show (0 : Int32) = nI (qb (tkA s).2); rw [c]; rfl, g.2.2.2.1, g.2.2.2.2.1, g.2.2.2.2.2.sI ⟨by decide, by decide⟩⟩
    · intro S5 e; subst e
      rw [g.2.2.1] at c
      have c := nN (b := 0) c
      have c1 : qb (tkA s).2 = 1 := by omega
      exact kk _ ⟨g.1, g.2.1, by show (1 : Int32) = nI (qb (tkA s).2); rw [c1]; rfl, g.2.2.2.1, g.2.2.2.2.1, g.2.2.2.2.2.sI ⟨by decide, by decide⟩⟩
  · have c1 := nE (b := 12) (by omega) (by omega) c1
    obtain ⟨hl1, rfl⟩ := hb (by omega)
    rw [if_neg (by omega), if_neg (by omega), if_neg (by omega), if_neg (by omega), if_neg (by omega), if_pos (by omega)] at kk
    exact m_checkCall hP hw h w h1 hc ((hw f hf).2.2.2.2.2.2 (pc + 1) hl1) kk
