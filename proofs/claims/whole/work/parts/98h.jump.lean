/-! PURE: jumps -/
def Hc (C C2 : St) (o v : Nat) : Prop := Ag (fun k => k = 1102) C C2 ∧ ∀ q, gI C2 1102 q = if q = o then nI v else gI C 1102 q
theorem r_cut {C : St} {o h i : Nat} {Q : St → Prop} (hh : gI C 1102 o = nI h) (hb : h < 2 ^ 31) (hi : i ≤ h) (kk : ∀ C2, Hc C C2 o i → Q C2) : wp1_cutTo C o (nI i) Q := by
  refine r_cutTo hh hb hi (fun z => kk C ⟨Ag.rf, fun q => ?_⟩) (kk _ ⟨Ag.rf.sI rfl, fun q => ?_⟩)
  · by_cases y : q = o
    · rw [if_pos y, y, hh, z]
    · rw [if_neg y]
  · simp [gI_sI]
theorem m_jump {M : St} {j f d t F H B b g k kf : Nat} {Q : St → Prop} (h30 : gI M 1930 0 = nI (j + 1)) (j5 : j ≤ 5) (h27 : gA M 1927 0 j = nI f) (h29 : gA M 1929 0 j = nI F) (h20 : gI M 1920 0 = nI (F + (t + d + 1))) (hF : F + (t + d + 1) < 60) (h14 : gI M 1914 0 = nI H) (hH : H ≤ 200)
    (k0 : t = 0 → wp9_leave M Q) (h15 : gA M 1915 0 (F + t) = nI g) (hg : g < 256) (h16 : gA M 1916 0 (F + t) = nI kf) (hkf : kf < 256) (h17 : gA M 1917 0 (F + t) = nI B) (hB : B < 200) (h24 : 1 ≤ t → gA M 1924 0 (F + t) = nI b) (ek : k = if g = 3 then 0 else kf) (hk1 : ¬ k = 0 → 1 ≤ H)
    (kl : 1 ≤ t → g = 3 → Q (sI (sI (sI M 1914 0 (nI B)) 1920 0 (nI (F + t + 1))) 1931 0 (nI b)))
    (kb : 1 ≤ t → ¬ g = 3 → wp9_seek (sI (if k = 0 then sI M 1914 0 (nI B) else putm (sI M 1914 0 (nI B)) B (gJ M 1922 0 (H - 1)) (gD M 1923 0 (H - 1))) 1920 0 (nI (F + t))) (nI f) (nI b) 0 (fun r S => ∀ S3, S3 = sI S 1931 0 (r + 1) → Q S3)) : wp9_jump M (nI d) Q := by
  unfold wp9_jump
  intro x2 e2
  rw [h20, nI_dec (by omega), nI_sub (by omega), show F + (t + d + 1) - 1 - d = F + t by omega] at e2
  subst e2
  rw [h30, nI_dec (by omega), Nat.add_sub_cancel, nI_clamp (by omega), h27, h29, nI_clamp (by omega), h15]
  refine ⟨vp_in_nI (by omega) (by omega), fun x3 e3 => ⟨vp_in_nI (by omega) (by omega), fun z => ?_, fun z => k0 (by have := nE (by omega) (by omega) z; omega)⟩⟩
  subst e3
  have ht : 1 ≤ t := by
    by_cases y : t = 0
    · rw [y] at z; exact absurd rfl z
    · omega
  have h24 := h24 ht
  -- the end, for the four ways
  have j159 : ∀ (S : St) (x4 : Int32), gA S 1924 0 (F + t) = nI b → (x4 = 0 → wp9_seek (sI S 1920 0 (nI (F + t))) (nI f) (nI b) 0 (fun r S2 => ∀ S3, S3 = sI S2 1931 0 (r + 1) → Q S3)) → (¬ x4 = 0 → Q (sI (sI S 1920 0 (nI (F + t + 1))) 1931 0 (nI b))) → wp9_jump_146 (nI d) Q (nI (F + t)) (nI f) x4 S := by
    intro S x4 hS k1 k2
    refine ⟨fun y => ?_, fun y => ?_⟩
    · intro S1 e1
      subst e1
      rw [nI_clamp (by omega), show gA (sI S 1920 0 (nI (F + t))) 1924 0 (F + t) = nI b from hS]
      exact ⟨fun _ => ⟨vp_in_nI (by omega) (by omega), k1 y⟩, fun w => absurd y w⟩
    · intro S1 e1
      rw [nI_1] at e1
      subst e1
      rw [nI_clamp (by omega), show gA (sI S 1920 0 (nI (F + t + 1))) 1924 0 (F + t) = nI b from hS]
      refine ⟨fun w => absurd w y, fun _ => ⟨vp_in_nI (by omega) (by omega), fun S4 e4 => ?_⟩⟩
      subst e4; exact k2 y
  refine ⟨vp_in_nI (by omega) (by omega), fun y => ?_, fun y => ?_⟩
  · have y := nN (b := 3) y
    rw [if_neg y] at ek
    have kb := kb ht y
    refine ⟨fun w => absurd rfl w, fun _ => ⟨vp_in_nI (by omega) (by omega), ?_⟩⟩
    rw [nI_clamp (by omega), h16]
    refine ⟨fun w => ?_, fun w => ?_⟩
    · have w := nE (b := 0) (by omega) (by omega) w
      rw [if_pos (by omega)] at kb
      refine ⟨fun _ => ⟨fun _ => ⟨vp_in_nI (by omega) (by omega), fun S1 e1 => ⟨fun _ => ?_, fun a => absurd rfl a⟩⟩, fun a => absurd rfl a⟩, fun a => absurd rfl a⟩
      rw [nI_clamp (by omega), h17] at e1
      subst e1
      exact j159 _ _ h24 (fun _ => kb) (fun a => absurd rfl a)
    · have w := nN (b := 0) w
      rw [if_neg (by omega)] at kb
      have h1 := hk1 (by omega)
      refine ⟨fun a => absurd a (by decide), fun _ => ?_⟩
      rw [h14, nI_dec h1, nI_clamp (by omega)]
      refine ⟨vp_in_nI (by omega) (by omega), fun a => absurd a (by decide), fun _ => ?_⟩
      rw [h14, nI_dec h1, nI_clamp (by omega)]
      refine ⟨vp_in_nI (by omega) (by omega), vp_in_nI (by omega) (by omega), fun S1 e1 => ⟨fun a => absurd a (by decide), fun _ => ?_⟩⟩
      rw [nI_clamp (by omega), h17] at e1
      subst e1
      refine m_push (h := B) (by simp [gI_sI]) hB ?_
      refine j159 _ _ ?_ (fun _ => kb) (fun a => absurd rfl a)
      exact h24
  · have y := nE (b := 3) (by omega) (by omega) y
    have kl := kl ht y
    refine ⟨fun _ => ⟨fun _ => ⟨fun _ => ⟨vp_in_nI (by omega) (by omega), fun S1 e1 => ⟨fun _ => ?_, fun a => absurd rfl a⟩⟩, fun a => absurd rfl a⟩, fun a => absurd rfl a⟩, fun a => absurd a (by decide)⟩
    rw [nI_clamp (by omega), h17] at e1
    subst e1
    exact j159 _ _ h24 (fun a => absurd a (by decide)) (fun _ => kl)
theorem c_jump {P : Prog} {C : St} {j f d t h1 b bs kf g k e : Nat} {Q : St → Prop} (hw : PW P) (hPC : PC P C) (h04 : gR C 1004 j = f) (hf : f < 6) (h06 : gI C 1006 j = nI (t + d + 1)) (h8 : t + d + 1 ≤ 8) (hh : gI C 1102 (2 * j) = nI h1) (h16 : h1 ≤ 16) (hcell : cellsN (2 * j) = 16) (k0 : t = 0 → wp6_leave C j (fun S => Q S))
    (h02 : 1 ≤ t → gA C 1002 j t = nI b) (h03 : 1 ≤ t → gA C 1003 j t = nI bs) (hb : 1 ≤ t → b + 1 < pL P f) (hg : 1 ≤ t → pC P f b = g) (hkf : 1 ≤ t → pC P f (b + 1) = kf) (hbs : 1 ≤ t → bs ≤ h1) (ek : k = if g = 3 then 0 else kf) (hk1 : 1 ≤ t → ¬ k = 0 → 1 ≤ h1 ∧ bs < 16) (hn : 1 ≤ t → gA C 1403 f b = nI e)
    (kl : 1 ≤ t → g = 3 → ∀ C2, Hc C C2 (2 * j) bs → Q (sI (sI C2 1005 j (nI (b + 2))) 1006 j (nI (t + 1))))
    (kb : 1 ≤ t → ¬ g = 3 → ∀ C2, Hc C C2 (2 * j) bs → Q (sI (sI (if k = 0 then C2 else putc C2 (2 * j) bs (gJ C 1100 (2 * j) (h1 - 1)) (gD C 1101 (2 * j) (h1 - 1))) 1005 j (nI e)) 1006 j (nI t))) : wp6_jump C j (nI d) Q := by
  have hl := (hw f hf).2.2.2.2.1
  unfold wp6_jump wp0_jumpsWithin
  intro x2 e2
  rw [h06, nI_dec (by omega), nI_sub (by omega), show t + d + 1 - 1 - d = t by omega] at e2
  subst e2
  refine ⟨fun z => ⟨fun w => absurd rfl w, fun _ => k0 (by have := (nI_leI (b := 0) (by omega) (by omega)).mp z; omega)⟩, fun z => ⟨fun _ => ⟨vp_in_nI (by omega) (by omega), fun x3 e3 => ?_⟩, fun w => absurd ((nI_ltI (b := 8) (by omega) (by omega)).mpr (by omega)) w⟩⟩
  have ht : 1 ≤ t := by
    have : ¬ t ≤ 0 := fun w => z ((nI_leI (b := 0) (by omega) (by omega)).mpr w)
    omega
  have h02 := h02 ht
  have h03 := h03 ht
  have hb := hb ht
  have hg := hg ht
  have hkf := hkf ht
  have hbs := hbs ht
  have hn := hn ht
  rw [nI_clamp (by omega), h02] at e3
  subst e3
  rw [h04]
  have hg256 := (hw f hf).2.2.2.2.2.2 b (by omega)
  have hk256 := (hw f hf).2.2.2.2.2.2 (b + 1) hb
  rw [hg] at hg256
  rw [hkf] at hk256
  refine ⟨hf, c_byteAt hPC hw hf (by omega) ?_⟩
  rw [show bt P f b = g by rw [← hg]; exact if_pos (by omega), nI_clamp (by omega), h03]
  refine ⟨fun y => ?_, fun y => ⟨vp_in_nI (by omega) (by omega), ?_⟩⟩
  · have y := nN (b := 3) y
    rw [if_neg y] at ek
    have kb := kb ht y
    unfold wp1_height
    intro x4 e4
    have e4 : x4 = gI C 1102 (2 * j) - 1 := e4
    rw [hh] at e4
    rw [h03]
    refine ⟨vp_in_nI (by omega) (by omega), r_cut hh (by omega) hbs fun C2 hc => ?_⟩
    have kb := kb C2 hc
    have h04' : gR C2 1004 j = f := by rw [hc.1.gR (by decide)]; exact h04
    have hPC' : PC P C2 := hPC.ag hc.1 (fun k z y => by omega)
    rw [h04', nI_1]
    refine ⟨hf, c_byteAt hPC' hw hf (by omega) ?_⟩
    rw [show bt P f (b + 1) = kf by rw [← hkf]; exact if_pos hb]
    have fin : ∀ C3, gR C3 1004 j = f → gA C3 1403 f b = nI e → Q (sI (sI C3 1005 j (nI e)) 1006 j (nI t)) → wp0_jumpsWithin_119 j (nI d) (fun r1 S1 => (¬ r1 = 0 → Q S1) ∧ (r1 = 0 → wp6_leave S1 j (fun S2 => Q S2))) (nI t) (nI b) C3 := by
      intro C3 c1 c2 c3
      unfold wp0_jumpsWithin_119
      rw [c1]
      refine ⟨hf, c_behindEnd (by omega) ?_⟩
      rw [c2]
      intro S2 e2 S3 e3
      subst e2; subst e3
      exact ⟨fun _ => c3, fun w => absurd w (by decide)⟩
    refine ⟨fun w => ?_, fun w => ?_⟩
    · have w := nE (b := 0) (by omega) (by omega) w
      rw [if_pos (by omega)] at kb
      exact fin C2 h04' (by rw [hc.1.gA (by decide)]; exact hn) kb
    · have w := nN (b := 0) w
      rw [if_neg (by omega)] at kb
      obtain ⟨h1', hb16⟩ := hk1 ht (by omega)
      rw [nI_dec h1'] at e4
      subst e4
      refine r_putFrom (h := bs) (by rw [hc.2, if_pos rfl]) (by omega) (by omega) ?_
      rw [hc.1.gJ (by decide), hc.1.gD (by decide)]
      refine fin _ ?_ ?_ kb
      · exact h04'
      · show gA C2 1403 f b = nI e
        rw [hc.1.gA (by decide)]; exact hn
  · have y := nE (b := 3) (by omega) (by omega) y
    have kl := kl ht y
    refine r_cut hh (by omega) hbs fun C2 hc => ?_
    intro S7 e7 S8 e8
    rw [l2, nI_add] at e7
    rw [nI_1] at e8
    subst e7; subst e8
    exact ⟨fun _ => kl C2 hc, fun w => absurd w (by decide)⟩
