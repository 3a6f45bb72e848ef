/-! the reference: people move, rooms are exchanged, envy -/
def mLv (σ : jM) (p : Nat) : jM := jup (jup σ 323 (8 + 20 * p + 2) (-1)) 323 (8 + 20 * p + 3) 0
/-- the state behind moveIn, where it is one -/
def mIn1 (σ : jM) (p : Nat) : jM := jup (mRem (jup σ 322 11 0)) 323 (8 + 20 * p + 0) 1
def oM_moveIn : jO := joRI fun a x σ => (a = 322 ∧ mH σ ∧ mOK σ, fun v τ =>
  (mP σ x = false ∧ v = some (.int (-1)) ∧ τ = jup σ 322 11 0) ∨
  (mP σ x = true ∧ mD σ x.toNatClampNeg 0 = 1 ∧ v = some (.int (-4)) ∧ τ = jup σ 322 11 0) ∨
  (mP σ x = true ∧ ¬ mD σ x.toNatClampNeg 0 = 1 ∧ nI (mLiv σ) = σ.1 322 3 ∧ v = some (.int (-3)) ∧ τ = jup σ 322 11 0) ∨
  (mP σ x = true ∧ ¬ mD σ x.toNatClampNeg 0 = 1 ∧ ¬ nI (mLiv σ) = σ.1 322 3 ∧ v = some (.int (nI (mLiv (mIn1 σ x.toNatClampNeg)))) ∧ τ = mIn1 σ x.toNatClampNeg))
