/-! the reference: whether the division is the proposal; a proposal becomes the division -/
def al (p : Nat → Bool) : Nat → Bool
  | 0 => true
  | n + 1 => al p n && p n
theorem al_iff {p : Nat → Bool} : ∀ n, al p n = true ↔ ∀ j, j < n → p j = true
  | 0 => ⟨fun _ j h => by omega, fun _ => rfl⟩
  | n + 1 => by
    simp only [al, Bool.and_eq_true, al_iff n]
    refine ⟨fun h j hj => ?_, fun h => ⟨fun j hj => h j (by omega), h n (by omega)⟩⟩
    by_cases e : j = n
    · subst e; exact h.2
    · exact h.1 j (by omega)
/-- the payments of a proposal -/
def mPy (σ : jM) (p : Nat) : Int32 := if xl σ p = true then paS σ (shN σ) (cn (xl σ) p) else 0
/-! a row with a proposal as its division, for the first k -/
def agR (ch py f : Nat → Int32) (k : Nat) : Nat → Int32 := fun j => if j < 8 + 20 * k ∧ 8 ≤ j ∧ (j - 8) % 20 = 2 then (if ch ((j - 8) / 20) < 0 then -1 else ch ((j - 8) / 20)) else if j < 8 + 20 * k ∧ 8 ≤ j ∧ (j - 8) % 20 = 3 then (if ch ((j - 8) / 20) < 0 then 0 else py ((j - 8) / 20)) else f j
/-- a state with another row -/
def rw3 (σ : jM) (f : Nat → Int32) : jM := (fun i j => if i = 323 then f j else σ.1 i j, σ.2)
def agN (ch f : Nat → Int32) (k : Nat) : Nat := cn (fun p => decide (0 ≤ ch p ∧ ¬ ch p = f (8 + 20 * p + 2))) k
