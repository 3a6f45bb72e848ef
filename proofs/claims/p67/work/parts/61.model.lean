/-! the reference: whether the division is the proposal; a proposal becomes the division -/
def al (p : Nat → Bool) : Nat → Bool
  | 0 => true
  | n + 1 => al p n && p n
theorem al_iff {p : Nat → Bool} : ∀ n, al p n = true ↔ ∀ j, j < n → p j = true
  | 0 => ⟨fun _ j h => by omega, fun _ => rfl⟩
  | n + 1 => by
    simp only [al, Bool.and_eq_true, al_iff n]
    refine ⟨fun h j hj => ?_, fun h => ⟨fun j hj => h j (by omega), h n (by omega)⟩⟩
    by_cases e : j = n
    · subst e; exact h.2
    · exact h.1 j (by omega)
/-! a row with a proposal as its division, for the first k -/
