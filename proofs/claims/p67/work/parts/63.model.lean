/-! the reference: the targets of the deposit -/
/-- the weights of the places: payments -/
def tgW (σ : jM) (i : Nat) : Nat := (mD σ (xp σ i) 3).toNatClampNeg
def dpN (σ : jM) : Nat := (σ.1 323 4).toNatClampNeg
def tgS (σ : jM) (p : Nat) : Int32 := if xl σ p = true then spS (dpN σ) (tgW σ) (mLiv σ) (cn (xl σ) p) else 0
def oM_target : jO := joRI fun a x σ => (a = 322 ∧ mOK σ ∧ dI (σ.1 323), fun v τ => v = some (.int (if mP σ x = true then tgS σ x.toNatClampNeg else 0)) ∧ jfr aSc bSc σ τ ∧ τ.1 322 11 = if mP σ x = true then 0 else 1)
