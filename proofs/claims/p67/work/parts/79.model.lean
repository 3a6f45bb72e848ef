/-! the reference: a text is loaded -/
def bgR (j : Nat) : Int32 := if j = 0 then 2 else if 8 ≤ j ∧ (j - 8) % 20 = 2 then -1 else 0
/-! the reference: load -/
def pLoad (B : Nat → Int32) (L : Nat) (μ : pM) : pE ⊕ (Nat × pM) := pText B L (L + 1) 0 (rn B L 1 0) μ
/-- a text's reading begins so -/
def mu1 (σ : jM) : pM := fun a j => if a = 347 ∧ j < 208 then bgR j else if a = 322 ∧ (j = 43 ∨ j = 44 ∨ j = 45 ∨ j = 49) then 0 else σ.1 a j
