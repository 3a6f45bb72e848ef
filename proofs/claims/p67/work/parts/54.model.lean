/-! the reference: amounts are split -/
abbrev xl (σ : jM) : Nat → Bool := dL (σ.1 323)
/-- the person at a place -/
abbrev xp (σ : jM) (i : Nat) : Nat := qpl (xl σ) (mN σ) i
def xs (σ : jM) (i : Nat) : Int32 := σ.1 335 (xp σ i)
