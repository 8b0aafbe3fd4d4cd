/-! PURE: what the class tells of an instruction by its number -/
def sg71 (op : Nat) : Int32 := if op = 1 then 0 else if op = 20 then 1 else if op = 21 then 2 else if op = 22 then 3 else if op = 23 then 101 else if op = 24 then 101 else if op = 25 then 102 else if op = 26 then 110 else if op = 27 then 110 else if op = 28 then 210 else if op = 45 then 101 else if op = 64 then 201 else if op = 76 then 303 else if op = 80 then 201 else if op = 81 then 102 else if op = 82 then 103 else if op = 83 then 301 else if op = 84 then 203 else if op = 85 then 102 else (-1)
theorem c_sg71 {C : St} {op : Nat} {Q : Int32 → St → Prop} (ho : op < 256) (kk : Q (sg71 op) C) : wp5_signature_71 (nI op) Q C := by
  unfold wp5_signature_71
  unfold sg71 at kk
  refine ⟨fun c => ?_, fun c => ?_⟩
  · rw [if_pos (nE (b := 1) (by omega) (by omega) c)] at kk; exact kk
  · rw [if_neg (nN (b := 1) c)] at kk
    refine ⟨fun c => ?_, fun c => ?_⟩
    · rw [if_pos (nE (b := 20) (by omega) (by omega) c)] at kk; exact kk
    · rw [if_neg (nN (b := 20) c)] at kk
      refine ⟨fun c => ?_, fun c => ?_⟩
      · rw [if_pos (nE (b := 21) (by omega) (by omega) c)] at kk; exact kk
      · rw [if_neg (nN (b := 21) c)] at kk
        refine ⟨fun c => ?_, fun c => ?_⟩
        · rw [if_pos (nE (b := 22) (by omega) (by omega) c)] at kk; exact kk
        · rw [if_neg (nN (b := 22) c)] at kk
          refine ⟨fun c => ?_, fun c => ?_⟩
          · rw [if_pos (nE (b := 23) (by omega) (by omega) c)] at kk; exact kk
          · rw [if_neg (nN (b := 23) c)] at kk
            refine ⟨fun c => ?_, fun c => ?_⟩
            · rw [if_pos (nE (b := 24) (by omega) (by omega) c)] at kk; exact kk
            · rw [if_neg (nN (b := 24) c)] at kk
              refine ⟨fun c => ?_, fun c => ?_⟩
              · rw [if_pos (nE (b := 25) (by omega) (by omega) c)] at kk; exact kk
              · rw [if_neg (nN (b := 25) c)] at kk
                refine ⟨fun c => ?_, fun c => ?_⟩
                · rw [if_pos (nE (b := 26) (by omega) (by omega) c)] at kk; exact kk
                · rw [if_neg (nN (b := 26) c)] at kk
                  refine ⟨fun c => ?_, fun c => ?_⟩
                  · rw [if_pos (nE (b := 27) (by omega) (by omega) c)] at kk; exact kk
                  · rw [if_neg (nN (b := 27) c)] at kk
                    refine ⟨fun c => ?_, fun c => ?_⟩
                    · rw [if_pos (nE (b := 28) (by omega) (by omega) c)] at kk; exact kk
                    · rw [if_neg (nN (b := 28) c)] at kk
                      refine ⟨fun c => ?_, fun c => ?_⟩
                      · rw [if_pos (nE (b := 45) (by omega) (by omega) c)] at kk; exact kk
                      · rw [if_neg (nN (b := 45) c)] at kk
                        refine ⟨fun c => ?_, fun c => ?_⟩
                        · rw [if_pos (nE (b := 64) (by omega) (by omega) c)] at kk; exact kk
                        · rw [if_neg (nN (b := 64) c)] at kk
                          refine ⟨fun c => ?_, fun c => ?_⟩
                          · rw [if_pos (nE (b := 76) (by omega) (by omega) c)] at kk; exact kk
                          · rw [if_neg (nN (b := 76) c)] at kk
                            refine ⟨fun c => ?_, fun c => ?_⟩
                            · rw [if_pos (nE (b := 80) (by omega) (by omega) c)] at kk; exact kk
                            · rw [if_neg (nN (b := 80) c)] at kk
                              refine ⟨fun c => ?_, fun c => ?_⟩
                              · rw [if_pos (nE (b := 81) (by omega) (by omega) c)] at kk; exact kk
                              · rw [if_neg (nN (b := 81) c)] at kk
                                refine ⟨fun c => ?_, fun c => ?_⟩
                                · rw [if_pos (nE (b := 82) (by omega) (by omega) c)] at kk; exact kk
                                · rw [if_neg (nN (b := 82) c)] at kk
                                  refine ⟨fun c => ?_, fun c => ?_⟩
                                  · rw [if_pos (nE (b := 83) (by omega) (by omega) c)] at kk; exact kk
                                  · rw [if_neg (nN (b := 83) c)] at kk
                                    refine ⟨fun c => ?_, fun c => ?_⟩
                                    · rw [if_pos (nE (b := 84) (by omega) (by omega) c)] at kk; exact kk
                                    · rw [if_neg (nN (b := 84) c)] at kk
                                      refine ⟨fun c => ?_, fun c => ?_⟩
                                      · rw [if_pos (nE (b := 85) (by omega) (by omega) c)] at kk; exact kk
                                      · rw [if_neg (nN (b := 85) c)] at kk
                                        exact kk
def sgI (op : Nat) : Int32 := if 30 ≤ op ∧ op < 45 then 111 else if 50 ≤ op ∧ op < 64 then (if 60 < op then 221 else 222) else if 70 ≤ op ∧ op < 76 then (if 73 < op then 331 else 333) else sg71 op
theorem c_signature {C : St} {op : Nat} {Q : Int32 → St → Prop} (ho : op < 256) (kk : Q (sgI op) C) : wp5_signature C (nI op) Q := by
  unfold wp5_signature wp5_signature_15 wp5_signature_43
  unfold sgI at kk
  have lt : ∀ {a b : Nat}, a < 2 ^ 31 → b < 2 ^ 31 → nI a < nI b → a < b := fun ha hb h => (nI_ltI ha hb).mp h
  have nlt : ∀ {a b : Nat}, a < 2 ^ 31 → b < 2 ^ 31 → ¬ nI a < nI b → ¬ a < b := fun ha hb h z => h ((nI_ltI ha hb).mpr z)
  have le : ∀ {a b : Nat}, a < 2 ^ 31 → b < 2 ^ 31 → nI a ≤ nI b → a ≤ b := fun ha hb h => (nI_leI ha hb).mp h
  have nle : ∀ {a b : Nat}, a < 2 ^ 31 → b < 2 ^ 31 → ¬ nI a ≤ nI b → ¬ a ≤ b := fun ha hb h z => h ((nI_leI ha hb).mpr z)
  have k43 : ¬ (30 ≤ op ∧ op < 45) → ¬ (50 ≤ op ∧ op < 64) → (nI op < 70 → wp5_signature_71 (nI op) Q C) ∧ (¬ nI op < 70 → (76 ≤ nI op → wp5_signature_71 (nI op) Q C) ∧ (¬ 76 ≤ nI op → (73 < nI op → Q 331 C) ∧ (¬ 73 < nI op → Q 333 C))) := by
    intro z1 z2
    rw [if_neg z1, if_neg z2] at kk
    refine ⟨fun c => ?_, fun c => ⟨fun c2 => ?_, fun c2 => ⟨fun c3 => ?_, fun c3 => ?_⟩⟩⟩
    · have c := lt (b := 70) (by omega) (by omega) c
      rw [if_neg (by omega)] at kk; exact c_sg71 ho kk
    · have c2 := le (a := 76) (by omega) (by omega) c2
      rw [if_neg (by omega)] at kk; exact c_sg71 ho kk
    · have c := nlt (b := 70) (by omega) (by omega) c
      have c2 := nle (a := 76) (by omega) (by omega) c2
      have c3 := lt (a := 73) (by omega) (by omega) c3
      rw [if_pos (by omega), if_pos c3] at kk; exact kk
    · have c := nlt (b := 70) (by omega) (by omega) c
      have c2 := nle (a := 76) (by omega) (by omega) c2
      have c3 := nlt (a := 73) (by omega) (by omega) c3
      rw [if_pos (by omega), if_neg c3] at kk; exact kk
  have k15 : ¬ (30 ≤ op ∧ op < 45) → (nI op < 50 → (nI op < 70 → wp5_signature_71 (nI op) Q C) ∧ (¬ nI op < 70 → (76 ≤ nI op → wp5_signature_71 (nI op) Q C) ∧ (¬ 76 ≤ nI op → (73 < nI op → Q 331 C) ∧ (¬ 73 < nI op → Q 333 C)))) ∧ (¬ nI op < 50 → (64 ≤ nI op → (nI op < 70 → wp5_signature_71 (nI op) Q C) ∧ (¬ nI op < 70 → (76 ≤ nI op → wp5_signature_71 (nI op) Q C) ∧ (¬ 76 ≤ nI op → (73 < nI op → Q 331 C) ∧ (¬ 73 < nI op → Q 333 C)))) ∧ (¬ 64 ≤ nI op → (60 < nI op → Q 221 C) ∧ (¬ 60 < nI op → Q 222 C))) := by
    intro z1
    refine ⟨fun c => ?_, fun c => ⟨fun c2 => ?_, fun c2 => ⟨fun c3 => ?_, fun c3 => ?_⟩⟩⟩
    · have c := lt (b := 50) (by omega) (by omega) c
      exact k43 z1 (by omega)
    · have c2 := le (a := 64) (by omega) (by omega) c2
      exact k43 z1 (by omega)
    · have c := nlt (b := 50) (by omega) (by omega) c
      have c2 := nle (a := 64) (by omega) (by omega) c2
      have c3 := lt (a := 60) (by omega) (by omega) c3
      rw [if_neg z1, if_pos (by omega), if_pos c3] at kk; exact kk
    · have c := nlt (b := 50) (by omega) (by omega) c
      have c2 := nle (a := 64) (by omega) (by omega) c2
      have c3 := nlt (a := 60) (by omega) (by omega) c3
      rw [if_neg z1, if_pos (by omega), if_neg c3] at kk; exact kk
  refine ⟨fun c => ?_, fun c => ⟨fun c2 => ?_, fun c2 => ?_⟩⟩
  · have c := lt (b := 30) (by omega) (by omega) c
    exact k15 (by omega)
  · have c2 := le (a := 45) (by omega) (by omega) c2
    exact k15 (by omega)
  · have c := nlt (b := 30) (by omega) (by omega) c
    have c2 := nle (a := 45) (by omega) (by omega) c2
    rw [if_pos (by omega)] at kk; exact kk
theorem sgI_known : ∀ op, op < 256 → 20 ≤ op → (sgI op = -1 ↔ ¬ known op) := by decide +kernel
theorem sgI_sg : ∀ op, op < 256 → 20 ≤ op → known op → sgI op = nI (sg op) := by decide +kernel
theorem c_isKnown {C : St} {op : Nat} {Q : Int32 → St → Prop} (ho : op < 256) (k1 : known op → Q 1 C) (k0 : ¬ known op → Q 0 C) : wp5_isKnown C (nI op) Q := by
  unfold wp5_isKnown wp5_isKnown_10
  refine ⟨fun c => absurd c (nI_pos (by omega)), fun _ => ⟨fun c => ?_, fun c => ?_⟩⟩
  · have c := (nI_leI (b := 19) (by omega) (by omega)).mp c
    exact k1 (by unfold known; omega)
  · have c : ¬ op ≤ 19 := fun z => c ((nI_leI (b := 19) (by omega) (by omega)).mpr z)
    refine c_signature ho ⟨fun z => k0 ((sgI_known op ho (by omega)).mp z), fun z => k1 ?_⟩
    exact Decidable.byContradiction fun y => z ((sgI_known op ho (by omega)).mpr y)
abbrev hasO (op : Nat) : Prop := (2 ≤ op ∧ op ≤ 4) ∨ op = 7 ∨ op = 8 ∨ op = 11 ∨ op = 12 ∨ (15 ≤ op ∧ op ≤ 28)
theorem c_hasOp {C : St} {op : Nat} {Q : Int32 → St → Prop} (ho : op < 256) (h9 : ¬ op = 9) (k1 : hasO op → Q 1 C) (k0 : ¬ hasO op → Q 0 C) : wp5_hasOperand C (nI op) Q := by
  unfold wp5_hasOperand wp5_hasOperand_10 wp5_hasOperand_22
  unfold hasO at k1 k0
  have lt : ∀ {a b : Nat}, a < 2 ^ 31 → b < 2 ^ 31 → nI a < nI b → a < b := fun ha hb h => (nI_ltI ha hb).mp h
  have nlt : ∀ {a b : Nat}, a < 2 ^ 31 → b < 2 ^ 31 → ¬ nI a < nI b → ¬ a < b := fun ha hb h z => h ((nI_ltI ha hb).mpr z)
  have le : ∀ {a b : Nat}, a < 2 ^ 31 → b < 2 ^ 31 → nI a ≤ nI b → a ≤ b := fun ha hb h => (nI_leI ha hb).mp h
  have nle : ∀ {a b : Nat}, a < 2 ^ 31 → b < 2 ^ 31 → ¬ nI a ≤ nI b → ¬ a ≤ b := fun ha hb h z => h ((nI_leI ha hb).mpr z)
  have k22 : (op < 2 ∨ 4 < op) → (op < 7 ∨ 9 < op) → (nI op = 11 → Q 1 C) ∧ (¬ nI op = 11 → (nI op = 12 → Q 1 C) ∧ (¬ nI op = 12 → (nI op < 15 → Q 0 C) ∧ (¬ nI op < 15 → (28 < nI op → Q 0 C) ∧ (¬ 28 < nI op → Q 1 C)))) := by
    intro z1 z2
    refine ⟨fun c => ?_, fun c => ⟨fun c1 => ?_, fun c1 => ⟨fun c2 => ?_, fun c2 => ⟨fun c3 => ?_, fun c3 => ?_⟩⟩⟩⟩
    · have := nE (b := 11) (by omega) (by omega) c
      exact k1 (by omega)
    · have := nE (b := 12) (by omega) (by omega) c1
      exact k1 (by omega)
    · have d1 := nN (b := 11) c
      have d2 := nN (b := 12) c1
      have := lt (b := 15) (by omega) (by omega) c2
      exact k0 (by omega)
    · have := lt (a := 28) (by omega) (by omega) c3
      exact k0 (by omega)
    · have := nlt (b := 15) (by omega) (by omega) c2
      have := nlt (a := 28) (by omega) (by omega) c3
      exact k1 (by omega)
  have k10 : (op < 2 ∨ 4 < op) → (nI op < 7 → (nI op = 11 → Q 1 C) ∧ (¬ nI op = 11 → (nI op = 12 → Q 1 C) ∧ (¬ nI op = 12 → (nI op < 15 → Q 0 C) ∧ (¬ nI op < 15 → (28 < nI op → Q 0 C) ∧ (¬ 28 < nI op → Q 1 C))))) ∧ (¬ nI op < 7 → (nI op ≤ 9 → Q 1 C) ∧ (¬ nI op ≤ 9 → (nI op = 11 → Q 1 C) ∧ (¬ nI op = 11 → (nI op = 12 → Q 1 C) ∧ (¬ nI op = 12 → (nI op < 15 → Q 0 C) ∧ (¬ nI op < 15 → (28 < nI op → Q 0 C) ∧ (¬ 28 < nI op → Q 1 C)))))) := by
    intro z1
    refine ⟨fun c => ?_, fun c => ⟨fun c2 => ?_, fun c2 => ?_⟩⟩
    · have := lt (b := 7) (by omega) (by omega) c
      exact k22 z1 (by omega)
    · have := nlt (b := 7) (by omega) (by omega) c
      have := le (b := 9) (by omega) (by omega) c2
      exact k1 (by omega)
    · have := nle (b := 9) (by omega) (by omega) c2
      exact k22 z1 (by omega)
  refine ⟨fun c => ?_, fun c => ⟨fun c2 => ?_, fun c2 => ?_⟩⟩
  · have := lt (b := 2) (by omega) (by omega) c
    exact k10 (by omega)
  · have := nlt (b := 2) (by omega) (by omega) c
    have := le (b := 4) (by omega) (by omega) c2
    exact k1 (by omega)
  · have := nle (b := 4) (by omega) (by omega) c2
    exact k10 (by omega)
def szC (P : Prog) (f pc : Nat) : Nat := if known (pC P f pc) then (if pC P f pc = 9 then (if bt P f (pc + 1) ≤ 3 then bt P f (pc + 1) + 3 else 0) else szI P f pc) else 0
theorem c_sizeAt {P : Prog} {C : St} {f pc : Nat} {Q : Int32 → St → Prop} (hP : PC P C) (hw : PW P) (hf : f < 6) (hpc : pc < pL P f) (kk : Q (nI (szC P f pc)) C) : wp4_sizeAt C f (nI pc) Q := by
  have hl := (hw f hf).2.2.2.2.1
  have hc := (hw f hf).2.2.2.2.2.2 pc hpc
  unfold wp4_sizeAt
  refine c_byteAt hP hw hf (by omega) ?_
  rw [show bt P f pc = pC P f pc from if_pos hpc]
  unfold szC at kk
  refine c_isKnown hc (fun z => ⟨fun _ => ⟨fun c => ?_, fun c => ?_⟩, fun y => absurd y (by decide)⟩) (fun z => ⟨fun y => absurd rfl y, fun _ => ?_⟩)
  · have c := nN (b := 9) c
    rw [if_pos z, if_neg c] at kk
    refine c_hasOp hc c (fun y => ⟨fun y2 => absurd y2 (by decide), fun _ => ?_⟩) (fun y => ⟨fun _ => ?_, fun y2 => absurd rfl y2⟩)
    · unfold szI at kk
      rw [if_neg c, if_pos y] at kk; exact kk
    · unfold szI at kk
      rw [if_neg c, if_neg y] at kk; exact kk
  · have c := nE (b := 9) (by omega) (by omega) c
    rw [if_pos z, if_pos c] at kk
    rw [nI_1]
    refine c_byteAt hP hw hf (by omega) ?_
    have hb := bt_lt hw hf (pc + 1)
    refine ⟨fun c2 => ?_, fun c2 => ?_⟩
    · have c2 := (nI_leI (b := 3) (by omega) (by omega)).mp c2
      rw [if_pos c2] at kk
      rw [l3, nI_add]; exact kk
    · have c2 : ¬ bt P f (pc + 1) ≤ 3 := fun z => c2 ((nI_leI (b := 3) (by omega) (by omega)).mpr z)
      rw [if_neg c2] at kk; exact kk
  · rw [if_neg z] at kk; exact kk
