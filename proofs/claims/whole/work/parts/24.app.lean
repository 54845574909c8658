theorem ev_AllG.app {P : Nat → ev_Op → Prop} : ∀ {A B : ev_C}, ev_AllG P A → ev_AllG P B → ev_AllG P (A ++ B) := by
  intro A
  induction A with
  | nil => intro B _ h; exact h
  | cons x r ih => intro B h1 h2; exact ⟨h1.1, ih h1.2 h2⟩
