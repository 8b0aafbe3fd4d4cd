theorem c_sig {C0 : St} {f op : Nat} {s : SB} {N : Nt} {C : St} {Q : St → Prop} (h : RT C0 f s N C) (g : WG s) (h1 : 1 ≤ qn s) (kk : ∀ C', RT C0 f (ckPlain op s) N C' → Q C') : wp2_goOverSignature C (nI (sg op)) Q := by
  have hs : sg op < 1000 ∧ ¬ sg op / 100 = 4 ∧ ¬ sg op / 10 % 10 = 4 := by
    by_cases h : op < 86
    · have : ∀ o, o < 86 → sg o < 1000 ∧ ¬ sg o / 100 = 4 ∧ ¬ sg o / 10 % 10 = 4 := by decide +kernel
      exact this op h
    · have : sg op = 102 := by
        unfold sg
        repeat rw [if_neg (by omega)]
      rw [this]; decide
  have h10 := sg_ok op
  have em : nI (sg op) - nI (sg op / 10) * nI 10 = nI (sg op % 10) := by
    rw [← nI_div (by omega) (by omega)]
    exact nI_modx (by omega) (by omega)
  unfold wp2_goOverSignature
  rw [l100, l10, nI_div (by omega) (by omega), nI_div (by omega) (by omega), nI_modx (by omega) (by omega), em]
  refine c_take h g h1 (by omega) hs.2.1 fun r C1 h2 => ?_
  refine c_take h2 (g_tkIf g _) (by rw [(f_tkIf _ _).1]; exact h1) (by omega) hs.2.2 fun r C2 h3 => ?_
  exact c_put h3 (g_tkIf (g_tkIf g _) _) (fun _ => rfl) (by omega) kk
theorem c_var1 {C0 : St} {f op k : Nat} {s : SB} {N : Nt} {C : St} {Q : St → Prop} (h : RT C0 f s N C) (g : WG s) (h1 : 1 ≤ qn s) (ho : op = 15 ∨ op = 16 ∨ op = 17) (hk : 1 ≤ k) (hk3 : k ≤ 3) (kk : ∀ C', RT C0 f (ckVar1 op k s) N C' → Q C') : wp2_goOverVariable C (nI op) (nI k) Q := by
  have et : tkIf k s = tk k s := if_neg (by omega)
  have ep : ∀ t, ptIf k t = pt k t := fun t => if_neg (by omega)
  unfold wp2_goOverVariable wp2_goOverVariable_22
  unfold ckVar1 at kk
  refine ⟨fun _ => ⟨fun c => ⟨fun c2 => ?_, fun c2 => ?_⟩, fun c => ?_⟩, fun c => absurd (nE (b := 0) (by omega) (by omega) c) (by omega)⟩
  · have c := nE (b := 15) (by omega) (by omega) c
    have c2 := nE (b := 16) (by omega) (by omega) c2
    omega
  · have c := nE (b := 15) (by omega) (by omega) c
    rw [if_pos (Or.inl c)] at kk
    exact c_put (k := k) h g (fun _ => rfl) (by omega) (by rw [ep]; exact kk)
  · have c := nN (b := 15) c
    rw [if_neg (by omega)] at kk
    refine c_take h g h1 (by omega) (by omega) fun r C1 h2 => ⟨fun c2 => ?_, fun c2 => ?_⟩
    · have c2 := nE (b := 16) (by omega) (by omega) c2
      rw [if_neg (by omega)] at kk
      rw [et] at h2
      exact kk _ h2
    · have c2 := nN (b := 16) c2
      rw [if_pos (by omega)] at kk
      rw [et] at h2
      exact c_put (k := k) h2 (g_tk g k) (fun _ => rfl) (by omega) (by rw [ep]; exact kk)
theorem c_global {C0 : St} {f op v : Nat} {s : SB} {N : Nt} {C : St} {Q : St → Prop} (h : RT C0 f s N C) (g : WG s) (h1 : 1 ≤ qn s) (ho : op = 18 ∨ op = 19) (hv : v < 256) (kk : ∀ C', RT C0 f (if v < 3 then ckVar1 op (v + 1) s else sBad s) N C' → Q C') : wp2_goOverGlobal C (nI op) (nI v) Q := by
  unfold wp2_goOverGlobal
  intro x3 e; subst e
  rw [nI_1]
  refine ⟨fun c => ⟨fun c2 => ?_, fun c2 => ?_⟩, fun c S3 e => ?_⟩
  · have c := (nI_leI (b := 3) (by omega) (by omega)).mp c
    have c2 := nN (b := 18) c2
    rw [if_pos (by omega)] at kk
    unfold ckVar1 at kk
    rw [if_neg (by omega), if_neg (by omega)] at kk
    refine c_take h g h1 (by omega) (by omega) fun r C1 h2 => ?_
    rw [show tkIf (v + 1) s = tk (v + 1) s from if_neg (by omega)] at h2
    exact kk _ h2
  · have c := (nI_leI (b := 3) (by omega) (by omega)).mp c
    have c2 := nE (b := 18) (by omega) (by omega) c2
    rw [if_pos (by omega)] at kk
    unfold ckVar1 at kk
    rw [if_pos (Or.inr c2)] at kk
    exact c_put (k := v + 1) h g (fun _ => rfl) (by omega) (by rw [show ptIf (v + 1) s = pt (v + 1) s from if_neg (by omega)]; exact kk)
  · have c : ¬ v + 1 ≤ 3 := fun z => c ((nI_leI (b := 3) (by omega) (by omega)).mpr z)
    rw [if_neg (by omega)] at kk
    subst e
    exact kk _ (RTb.t (c_bad h.c) e_bad)
theorem c_values {P : Prog} {C0 : St} {f v op : Nat} {s : SB} {N : Nt} {C : St} {Q : St → Prop} (hP : PC P C0) (hw : PW P) (hf : f < 6) (h : RT C0 f s N C) (g : WG s) (h1 : 1 ≤ qn s) (ho : 11 ≤ op) (ho2 : op ≤ 19) (hv : v < 256) (kk : ∀ C', RT C0 f (if op ≤ 12 then ckCall P v op s else if op = 13 then (tkA s).2 else if op = 14 then ckSel s else ckVar P f op v s) N C' → Q C') : wp2_goOverValues C (nI op) (nI v) Q := by
  have hb := hw f hf
  unfold wp2_goOverValues
  refine ⟨fun c => ?_, fun c => ⟨fun c1 => ?_, fun c1 => ⟨fun c2 => ?_, fun c2 => ⟨fun c3 => ?_, fun c3 => ⟨fun c4 => ?_, fun c4 => ⟨fun c5 => ?_, fun c5 => ⟨by rw [h.c.2.1]; exact hf, ?_⟩⟩⟩⟩⟩⟩⟩
  · have c : op = 11 := nE (b := 11) (by omega) (by omega) c
    rw [if_pos (by omega)] at kk
    unfold ckCall at kk
    rw [if_neg (by omega)] at kk
    exact c_call1 hP hw h g h1 hv (Or.inl ⟨c, rfl⟩) kk
  · have c1 : op = 12 := nE (b := 12) (by omega) (by omega) c1
    rw [if_pos (by omega)] at kk
    unfold ckCall at kk
    rw [if_pos c1] at kk
    refine c_take (k := 1) h g h1 (by omega) (by omega) fun r C1 h2 => ?_
    rw [show tkIf 1 s = tk 1 s from if_neg (by decide)] at h2
    exact c_call1 hP hw h2 (g_tk g 1) (by rw [(f_tk _ _).1]; exact h1) hv (Or.inr ⟨c1, rfl⟩) kk
  · have c2 : op = 13 := nE (b := 13) (by omega) (by omega) c2
    rw [if_neg (by omega), if_pos c2] at kk
    exact c_takeAny h g h1 fun r C1 _ h2 => kk _ h2
  · have c3 : op = 14 := nE (b := 14) (by omega) (by omega) c3
    rw [if_neg (by omega), if_neg (by omega), if_pos c3] at kk
    exact c_select h g h1 kk
  · have c4 : op = 18 := nE (b := 18) (by omega) (by omega) c4
    rw [if_neg (by omega), if_neg (by omega), if_neg (by omega)] at kk
    unfold ckVar at kk
    rw [if_neg (by omega)] at kk
    exact c_global h g h1 (Or.inl c4) hv kk
  · have c5 : op = 19 := nE (b := 19) (by omega) (by omega) c5
    rw [if_neg (by omega), if_neg (by omega), if_neg (by omega)] at kk
    unfold ckVar at kk
    rw [if_neg (by omega)] at kk
    exact c_global h g h1 (Or.inr c5) hv kk
  · have d1 := nN (b := 11) c
    have d2 := nN (b := 12) c1
    have d3 := nN (b := 13) c2
    have d4 := nN (b := 14) c3
    have d5 := nN (b := 18) c4
    have d6 := nN (b := 19) c5
    rw [if_neg (by omega), if_neg d3, if_neg d4] at kk
    unfold ckVar at kk
    rw [if_pos (by omega)] at kk
    have hp := (hP.agC h.c.1) f hf
    rw [h.c.2.1]
    unfold wp4_kindOf
    have out : ¬ v < pV P f → wp2_goOverVariable C (nI op) 0 Q := by
      intro z
      rw [if_neg z] at kk
      unfold wp2_goOverVariable
      exact ⟨fun y => absurd rfl y, fun _ S2 e => by subst e; exact kk _ (RTb.t (c_bad h.c) e_bad)⟩
    rw [hp.2.1]
    refine ⟨fun y => absurd y (nI_pos (by omega)), fun _ => ⟨fun y => ?_, fun y => ?_⟩⟩
    · have y := (nI_leI (by omega) (by omega)).mp y
      exact out (by omega)
    · have y : ¬ pV P f ≤ v := fun z => y ((nI_leI (by omega) (by omega)).mpr z)
      rw [if_pos (by omega)] at kk
      rw [nI_clamp (by omega), hp.2.2.2.2.1 v (by omega)]
      have hk := hb.2.2.2.2.2.1 v (by omega)
      exact ⟨vp_in_nI (by omega) (by omega), c_var1 h g h1 (by omega) hk.1 hk.2 kk⟩
/-- the notes behind an instruction -/
def ckN (P : Prog) (f pc : Nat) (s : SB) (N : Nt) : Nt := if 2 ≤ pC P f pc ∧ pC P f pc ≤ 4 then (fup N.1 pc 0, N.2) else if pC P f pc = 5 then (fup N.1 (fg (sTop s)) (nI (pc + 1)), N.2) else if pC P f pc = 6 then (N.1, fup N.2 (fg (sTop s)) (nI (pc + 1))) else N
/-- what the frames keep all along -/
def FI (P : Prog) (f : Nat) (s : SB) : Prop := fk (qF s 0) = pR P f ∧ fb (qF s 0) = 0 ∧ fo (qF s 0) = 0 ∧ ∀ i, i < qn s → fg (qF s i) ≤ 60
theorem c_goOver {P : Prog} {C0 : St} {f pc : Nat} {s : SB} {N : Nt} {C : St} {Q : St → Prop} (hP : PC P C0) (hw : PW P) (hf : f < 6) (h : RT C0 f s N C) (g : WG s) (hb : qb s = 0) (h1 : 1 ≤ qn s) (hi : FI P f s) (hpc : pc < pL P f) (hk : known (pC P f pc)) (hs : pc + szI P f pc ≤ pL P f) (hq : ¬ pC P f pc = 6 → 1 ≤ qn (ckOne P f pc s)) (kk : ∀ C', RX C0 f (ckOne P f pc s) (ckN P f pc s N) C' → Q C') : wp2_goOver C (nI pc) Q := by
  have hl := (hw f hf).2.2.2.2.1
  have hc := (hw f hf).2.2.2.2.2.2 pc hpc
  have hbt := bt_lt hw hf (pc + 1)
  have sz2 : (2 ≤ pC P f pc ∧ pC P f pc ≤ 4) ∨ pC P f pc = 7 ∨ pC P f pc = 8 ∨ pC P f pc = 11 ∨ pC P f pc = 12 ∨ (15 ≤ pC P f pc ∧ pC P f pc ≤ 28) → bt P f (pc + 1) = pC P f (pc + 1) ∧ pc + 1 < pL P f := by
    intro z
    have : szI P f pc = 2 := by unfold szI; rw [if_neg (by omega), if_pos z]
    exact ⟨if_pos (by omega), by omega⟩
  have htop : fg (sTop s) ≤ 60 := hi.2.2.2 _ (by omega)
  have kx : ¬ pC P f pc = 6 → (∀ C', RT C0 f (ckOne P f pc s) (ckN P f pc s N) C' → Q C') := fun z C' h' => kk C' (h'.x (hq z))
  unfold wp2_goOver
  refine ⟨by rw [h.c.2.1]; exact hf, ?_⟩
  rw [h.c.2.1]
  refine c_byteAt (hP.agC h.c.1) hw hf (by omega) ?_
  refine ⟨by rw [h.c.2.1]; exact hf, ?_⟩
  rw [h.c.2.1, nI_1]
  refine c_byteAt (hP.agC h.c.1) hw hf (by omega) ?_
  rw [show bt P f pc = pC P f pc from if_pos hpc]
  refine ⟨fun c => ⟨fun c1 => ⟨fun c2 => ?_, fun c2 => ?_⟩, fun c1 => ?_⟩, fun c => ?_⟩
  · have c2 := (nI_ltI (a := 19) (by omega) (by omega)).mp c2
    refine c_signature hc ?_
    rw [sgI_sg _ hc (by omega) hk]
    have kx := kx (by omega)
    have en : ckN P f pc s N = N := by unfold ckN; rw [if_neg (by omega), if_neg (by omega), if_neg (by omega)]
    have eo : ckOne P f pc s = ckPlain (pC P f pc) s := by unfold ckOne; rw [if_neg (by omega), if_neg (by omega), if_neg (by omega), if_neg (by omega), if_neg (by omega), if_neg (by omega), if_neg (by omega), if_neg (by omega), if_neg (by omega)]
    rw [en, eo] at kx
    exact c_sig h g h1 kx
  · have c1 := (nI_ltI (a := 10) (by omega) (by omega)).mp c1
    have c2 : ¬ 19 < pC P f pc := fun z => c2 ((nI_ltI (a := 19) (by omega) (by omega)).mpr z)
    have kx := kx (by omega)
    have en : ckN P f pc s N = N := by unfold ckN; rw [if_neg (by omega), if_neg (by omega), if_neg (by omega)]
    rw [en] at kx
    refine c_values hP hw hf h g h1 (by omega) (by omega) hbt fun C' h' => kx C' ?_
    unfold ckOne
    rw [if_neg (by omega), if_neg (by omega), if_neg (by omega), if_neg (by omega), if_neg (by omega)]
    by_cases z1 : pC P f pc ≤ 12
    · rw [if_pos z1] at h' ⊢
      rw [(sz2 (by omega)).1] at h'; exact h'
    · rw [if_neg z1] at h' ⊢
      by_cases z2 : pC P f pc = 13
      · rw [if_pos z2] at h' ⊢; exact h'
      · rw [if_neg z2] at h' ⊢
        by_cases z3 : pC P f pc = 14
        · rw [if_pos z3] at h' ⊢; exact h'
        · rw [if_neg z3] at h' ⊢
          rw [if_pos (by omega)]
          rw [(sz2 (by omega)).1] at h'; exact h'
  · have c := (nI_ltI (a := 6) (by omega) (by omega)).mp c
    have c1 : ¬ 10 < pC P f pc := fun z => c1 ((nI_ltI (a := 10) (by omega) (by omega)).mpr z)
    have kx := kx (by omega)
    have en : ckN P f pc s N = N := by unfold ckN; rw [if_neg (by omega), if_neg (by omega), if_neg (by omega)]
    have eo : ckOne P f pc s = ckJump P f pc (pC P f pc) s := by unfold ckOne; rw [if_neg (by omega), if_neg (by omega), if_neg (by omega), if_neg (by omega), if_pos (by omega)]
    rw [en, eo] at kx
    refine c_jumps hP hw hf h g hb h1 hi.1 ?_ kx
    by_cases z9 : pC P f pc = 9
    · right; left
      refine ⟨z9, ?_⟩
      unfold szI at hs
      rw [if_pos z9] at hs
      split at hs <;> omega
    · by_cases z10 : pC P f pc = 10
      · exact Or.inl z10
      · exact Or.inr (Or.inr ⟨by omega, (sz2 (by omega)).2⟩)
  · have c : ¬ 6 < pC P f pc := fun z => c ((nI_ltI (a := 6) (by omega) (by omega)).mpr z)
    have eb : ∀ op, ¬ op = 0 → op < 256 → opn op = op := fun op z _ => if_neg z
    unfold wp2_goOverFrames
    refine ⟨fun d => ?_, fun d => ⟨fun d1 => ?_, fun d1 => ⟨fun d2 => ?_, fun d2 => ⟨fun d3 => ?_, fun d3 => ⟨fun d4 => ?_, fun d4 => ⟨fun d5 => ?_, fun d5 => ?_⟩⟩⟩⟩⟩⟩
    · have d := nE (b := 0) (by omega) (by omega) d
      have kx := kx (by omega)
      have en : ckN P f pc s N = N := by unfold ckN; rw [if_neg (by omega), if_neg (by omega), if_neg (by omega)]
      have eo : ckOne P f pc s = dieIf s := by unfold ckOne dieIf; rw [if_pos d, if_pos hb]
      rw [en, eo] at kx
      exact c_die h g h1 kx
    · have d1 := nE (b := 2) (by omega) (by omega) d1
      have kx := kx (by omega)
      have en : ckN P f pc s N = (fup N.1 pc 0, N.2) := by unfold ckN; rw [if_pos (by omega)]
      have eo : ckOne P f pc s = bg2 (pC P f pc) (pC P f (pc + 1)) pc s := by unfold ckOne bg; rw [if_neg (by omega), if_neg (by omega), if_pos (by omega), if_neg (by omega)]
      rw [en, eo] at kx
      rw [(sz2 (by omega)).1, show nI pc = gbeg pc from (if_neg (by omega)).symm]
      exact c_begin hf h g (eb _ (by omega) hc).symm ((hw f hf).2.2.2.2.2.2 (pc + 1) (sz2 (by omega)).2) (by omega) kx
    · have d2 := nE (b := 3) (by omega) (by omega) d2
      have kx := kx (by omega)
      have en : ckN P f pc s N = (fup N.1 pc 0, N.2) := by unfold ckN; rw [if_pos (by omega)]
      have eo : ckOne P f pc s = bg2 (pC P f pc) (pC P f (pc + 1)) pc s := by unfold ckOne bg; rw [if_neg (by omega), if_neg (by omega), if_pos (by omega), if_neg (by omega)]
      rw [en, eo] at kx
      rw [(sz2 (by omega)).1, show nI pc = gbeg pc from (if_neg (by omega)).symm]
      exact c_begin hf h g (eb _ (by omega) hc).symm ((hw f hf).2.2.2.2.2.2 (pc + 1) (sz2 (by omega)).2) (by omega) kx
    · have d3 := nE (b := 4) (by omega) (by omega) d3
      have kx := kx (by omega)
      have en : ckN P f pc s N = (fup N.1 pc 0, N.2) := by unfold ckN; rw [if_pos (by omega)]
      have eo : ckOne P f pc s = bg2 (pC P f pc) (pC P f (pc + 1)) pc (tk 1 s) := by unfold ckOne bg; rw [if_neg (by omega), if_neg (by omega), if_pos (by omega), if_pos (by omega)]
      rw [en, eo] at kx
      refine c_take (k := 1) h g h1 (by omega) (by omega) fun r C1 h2 => ?_
      rw [show tkIf 1 s = tk 1 s from if_neg (by decide)] at h2
      rw [(sz2 (by omega)).1, show nI pc = gbeg pc from (if_neg (by omega)).symm]
      exact c_begin hf h2 (g_tk g 1) (eb _ (by omega) hc).symm ((hw f hf).2.2.2.2.2.2 (pc + 1) (sz2 (by omega)).2) (by omega) kx
    · have d4 := nE (b := 5) (by omega) (by omega) d4
      have kx := kx (by omega)
      have en : ckN P f pc s N = (fup N.1 (fg (sTop s)) (nI (pc + 1)), N.2) := by unfold ckN; rw [if_neg (by omega), if_pos d4]
      have eo : ckOne P f pc s = cl 5 s := by unfold ckOne; rw [if_neg (by omega), if_neg (by omega), if_neg (by omega), if_pos (by omega), d4]
      rw [en, eo] at kx
      exact c_else hf h g hb h1 htop kx
    · have d5 := nE (b := 6) (by omega) (by omega) d5
      have en : ckN P f pc s N = (N.1, fup N.2 (fg (sTop s)) (nI (pc + 1))) := by unfold ckN; rw [if_neg (by omega), if_neg (by omega), if_pos d5]
      have eo : ckOne P f pc s = cl 6 s := by unfold ckOne; rw [if_neg (by omega), if_neg (by omega), if_neg (by omega), if_pos (by omega), d5]
      rw [en, eo] at kk
      refine c_end hf h g hb h1 htop (fun z => ?_) kk
      unfold sTop
      rw [z]; exact hi.2.1
    · have e0 := nN (b := 0) d
      have e1 := nN (b := 2) d1
      have e2 := nN (b := 3) d2
      have e3 := nN (b := 4) d3
      have e4 := nN (b := 5) d4
      have e5 := nN (b := 6) d5
      have kx := kx (by omega)
      have en : ckN P f pc s N = N := by unfold ckN; rw [if_neg (by omega), if_neg (by omega), if_neg (by omega)]
      have eo : ckOne P f pc s = s := by unfold ckOne; rw [if_neg (by omega), if_pos (by omega)]
      rw [en, eo] at kx
      exact kx _ h
