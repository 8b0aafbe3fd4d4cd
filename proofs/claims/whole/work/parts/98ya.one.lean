/-! PURE: a step answers one way: the means -/
def apR {α : Type} (Q : α → St → Prop) (v : α × St) : Prop := Q v.1 v.2
def apU (Q : St → Prop) (v : St) : Prop := Q v
def Dg {K β : Type} (ap : K → β → Prop) (W : K → Prop) : Prop := ∀ P, W P → ∃ v, ap P v ∧ ∀ G, ap G v → W G
theorem dR {α : Type} {r : α} {S : St} : Dg apR (fun Q : α → St → Prop => Q r S) := fun _ h => ⟨(r, S), h, fun _ g => g⟩
theorem dU {S : St} : Dg apU (fun Q : St → Prop => Q S) := fun _ h => ⟨S, h, fun _ g => g⟩
theorem dN {K β : Type} {ap : K → β → Prop} : Dg ap (fun _ => False) := fun _ h => h.elim
theorem dif {K β : Type} {ap : K → β → Prop} {c : Prop} {A B : K → Prop} (hA : Dg ap (fun Q => A Q)) (hB : Dg ap (fun Q => B Q)) : Dg ap (fun Q => (c → A Q) ∧ (¬ c → B Q)) := by
  intro P h
  by_cases z : c
  · obtain ⟨v, h1, h2⟩ := hA P (h.1 z)
    exact ⟨v, h1, fun G g => ⟨fun _ => h2 G g, fun w => absurd z w⟩⟩
  · obtain ⟨v, h1, h2⟩ := hB P (h.2 z)
    exact ⟨v, h1, fun G g => ⟨fun w => absurd w z, fun _ => h2 G g⟩⟩
theorem dfi {K β : Type} {ap : K → β → Prop} {c : Prop} {A B : K → Prop} (hA : Dg ap (fun Q => A Q)) (hB : Dg ap (fun Q => B Q)) : Dg ap (fun Q => (¬ c → A Q) ∧ (c → B Q)) := by
  intro P h
  by_cases z : c
  · obtain ⟨v, h1, h2⟩ := hB P (h.2 z)
    exact ⟨v, h1, fun G g => ⟨fun w => absurd z w, fun _ => h2 G g⟩⟩
  · obtain ⟨v, h1, h2⟩ := hA P (h.1 z)
    exact ⟨v, h1, fun G g => ⟨fun _ => h2 G g, fun w => absurd w z⟩⟩
theorem dall {τ K β : Type} {ap : K → β → Prop} {e : τ} {A : τ → K → Prop} (hA : Dg ap (fun Q => A e Q)) : Dg ap (fun Q => ∀ x, x = e → A x Q) := by
  intro P h
  obtain ⟨v, h1, h2⟩ := hA P (h e rfl)
  exact ⟨v, h1, fun G g x ex => by subst ex; exact h2 G g⟩
theorem dand {K β : Type} {ap : K → β → Prop} {c : Prop} {A : K → Prop} (hA : Dg ap (fun Q => A Q)) : Dg ap (fun Q => c ∧ A Q) := by
  intro P h
  obtain ⟨v, h1, h2⟩ := hA P h.2
  exact ⟨v, h1, fun G g => ⟨h.1, h2 G g⟩⟩
theorem dex {K β : Type} {ap : K → β → Prop} {A : Nat → K → Prop} (hA : ∀ n, Dg ap (fun Q => A n Q)) : Dg ap (fun Q => ∃ n, A n Q) := by
  intro P h
  obtain ⟨n, h⟩ := h
  obtain ⟨v, h1, h2⟩ := hA n P h
  exact ⟨v, h1, fun G g => ⟨n, h2 G g⟩⟩
theorem dcR {α K β : Type} {ap : K → β → Prop} {W : (α → St → Prop) → Prop} {B : α → St → K → Prop} (h : Dg apR W) (hB : ∀ r S, Dg ap (fun Q => B r S Q)) : Dg ap (fun Q => W (fun r S => B r S Q)) := by
  intro P hP
  obtain ⟨v, h1, h2⟩ := h _ hP
  obtain ⟨w, h3, h4⟩ := hB v.1 v.2 P h1
  exact ⟨w, h3, fun G g => h2 _ (h4 G g)⟩
theorem dcU {K β : Type} {ap : K → β → Prop} {W : (St → Prop) → Prop} {B : St → K → Prop} (h : Dg apU W) (hB : ∀ S, Dg ap (fun Q => B S Q)) : Dg ap (fun Q => W (fun S => B S Q)) := by
  intro P hP
  obtain ⟨v, h1, h2⟩ := h _ hP
  obtain ⟨w, h3, h4⟩ := hB v P h1
  exact ⟨w, h3, fun G g => h2 _ (h4 G g)⟩
