/-! the reference: the division, written -/
/-- payments are not too great -/
def dPy (f : Nat → Int32) : Prop := ∀ p, p < 10 → -100000000 ≤ f (8 + 20 * p + 3) ∧ f (8 + 20 * p + 3) ≤ 100000000
