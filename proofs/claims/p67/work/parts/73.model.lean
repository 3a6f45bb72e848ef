/-! the reference: rooms and people of a text -/
def aRd (a j : Nat) : Bool := a == 347 || a == 348 || a == 349 || a == 350 || a == 322 && (j == 35 || j == 36 || j == 37 || j == 38 || j == 40 || j == 41 || j == 43 || j == 44 || j == 45 || j == 49)
def rSz (σ : jM) : Prop := (0 ≤ σ.1 322 43 ∧ σ.1 322 43 ≤ 6) ∧ (0 ≤ σ.1 322 44 ∧ σ.1 322 44 ≤ 10) ∧ 0 ≤ σ.1 322 45 ∧ σ.1 322 45 ≤ 20
def aMu (a j : Nat) : Bool := a == 347 || a == 348 || a == 349 || a == 350 || a == 322 && (j == 43 || j == 44 || j == 45 || j == 49)
def rdA (τ : jM) (μ : pM) : Prop := ∀ a j, aMu a j = true → τ.1 a j = μ a j
/-! behind an error: readRoom -/
