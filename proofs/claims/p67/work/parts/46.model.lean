/-! the reference: the choice of rooms; people move, rooms are exchanged, envy -/
def dC (σ : jM) : qC := if mLiv σ = 0 then none else qT (dW (σ.1 323) (mN σ)) (mRo σ) (mLiv σ) 0 0
def mOut1 (σ : jM) (p : Nat) : jM := mLv (jup (mRem (jup σ 322 11 0)) 323 (8 + 20 * p + 0) 2) p
def oM_moveOut : jO := joRI fun a x σ => (a = 322 ∧ mH σ ∧ mOK σ, fun v τ =>
  (mP σ x = false ∧ v = some (.int (-1)) ∧ τ = jup σ 322 11 0) ∨
  (mP σ x = true ∧ ¬ mD σ x.toNatClampNeg 0 = 1 ∧ v = some (.int (-4)) ∧ τ = jup σ 322 11 0) ∨
  (mP σ x = true ∧ mD σ x.toNatClampNeg 0 = 1 ∧ v = some (.int (nI (mLiv (mOut1 σ x.toNatClampNeg)))) ∧ τ = mOut1 σ x.toNatClampNeg))
def mSv1 (σ : jM) (p r : Nat) (x y : Int32) : jM := jup (jup (mRem (jup σ 322 11 0)) 323 (8 + 20 * p + (7 + r)) x) 323 (8 + 20 * p + (13 + r)) y
def oM_setValue : jO := joRIII fun a x y z σ => (a = 322 ∧ mH σ ∧ mOK σ, fun v τ =>
  (¬ (mP σ x = true ∧ mR σ y = true) ∧ v = some (.int (-1)) ∧ τ = jup σ 322 11 0) ∨
  (mP σ x = true ∧ mR σ y = true ∧ mIn z 0 9999 = false ∧ v = some (.int (-2)) ∧ τ = jup σ 322 11 0) ∨
  (mP σ x = true ∧ mR σ y = true ∧ mIn z 0 9999 = true ∧ v = some (.int (mD σ x.toNatClampNeg (7 + y.toNatClampNeg))) ∧ τ = mSv1 σ x.toNatClampNeg y.toNatClampNeg z 0))
def oM_setRefusal : jO := joRIII fun a x y z σ => (a = 322 ∧ mH σ ∧ mOK σ ∧ (z = 0 ∨ z = 1), fun v τ =>
  (¬ (mP σ x = true ∧ mR σ y = true) ∧ v = some (.int (-1)) ∧ τ = jup σ 322 11 0) ∨
  (mP σ x = true ∧ mR σ y = true ∧ (mD σ x.toNatClampNeg (13 + y.toNatClampNeg) = 1 ↔ z = 1) ∧ v = some (.int (-4)) ∧ τ = jup σ 322 11 0) ∨
  (mP σ x = true ∧ mR σ y = true ∧ ¬ (mD σ x.toNatClampNeg (13 + y.toNatClampNeg) = 1 ↔ z = 1) ∧ v = some (.int (mD σ x.toNatClampNeg (7 + y.toNatClampNeg))) ∧ τ = mSv1 σ x.toNatClampNeg y.toNatClampNeg 0 z))
