/-! the reference: the proposal becomes the division; two people exchange their rooms -/
def mCh (σ : jM) (p : Nat) : Int32 := qch (dC σ) (xl σ) (mN σ) p
def oM_divide : jO := joR fun a σ => (a = 322 ∧ mOK σ ∧ dI (σ.1 323) ∧ mH σ, fun v τ =>
  ((dC σ).isSome = false ∧ v = some (.int (-1)) ∧ jfr aSc bSc σ τ ∧ τ.1 322 11 = 0) ∨
  ((dC σ).isSome = true ∧ v = some (.int (nI (agN (mCh σ) (σ.1 323) (mN σ)))) ∧ ∃ ρ, jfr aSc bSc σ ρ ∧ ρ.1 322 11 = 0 ∧ τ = rw3 (mRem ρ) (agR (mCh σ) (mPy σ) (σ.1 323) (mN σ))))
/-- the state behind an exchange -/
def mSw (σ : jM) (p q : Nat) : jM := jup (jup (jup (jup (mRem (jup σ 322 11 0)) 323 (8 + 20 * p + 2) (mD σ q 2)) 323 (8 + 20 * p + 3) (mD σ q 3)) 323 (8 + 20 * q + 2) (mD σ p 2)) 323 (8 + 20 * q + 3) (mD σ p 3)
def mHr (σ : jM) (p : Int32) : Prop := mP σ p = true ∧ 0 ≤ mD σ p.toNatClampNeg 2
def oM_swapRooms : jO := joRII fun a p q σ => (a = 322 ∧ mOK σ ∧ mH σ ∧ dRm (σ.1 323), fun v τ =>
  (¬ (mHr σ p ∧ mHr σ q) ∧ v = some (.int (-1)) ∧ τ = jup σ 322 11 0) ∨
  (mHr σ p ∧ mHr σ q ∧ (p = q ∨ mD σ p.toNatClampNeg (13 + (mD σ q.toNatClampNeg 2).toNatClampNeg) = 1 ∨ mD σ q.toNatClampNeg (13 + (mD σ p.toNatClampNeg 2).toNatClampNeg) = 1) ∧ v = some (.int (-4)) ∧ τ = jup σ 322 11 0) ∨
  (mHr σ p ∧ mHr σ q ∧ ¬ (p = q ∨ mD σ p.toNatClampNeg (13 + (mD σ q.toNatClampNeg 2).toNatClampNeg) = 1 ∨ mD σ q.toNatClampNeg (13 + (mD σ p.toNatClampNeg 2).toNatClampNeg) = 1) ∧ v = some (.int (mAE (mSw σ p.toNatClampNeg q.toNatClampNeg) (mN σ) (mN σ))) ∧ τ = mSw σ p.toNatClampNeg q.toNatClampNeg))
