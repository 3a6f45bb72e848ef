/-! the reference: who is envied -/
def oM_totalEnvy : jO := joR fun a σ => (a = 322 ∧ mOK σ ∧ dRm (σ.1 323), fun v τ => v = some (.int (mAE σ (mN σ) (mN σ))) ∧ τ = jup σ 322 11 0)
