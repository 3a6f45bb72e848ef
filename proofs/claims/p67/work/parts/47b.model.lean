/-! the reference: all envy -/
def mAE (σ : jM) (N : Nat) : Nat → Int32 := sm (fun p => sm (fun q => if 0 ≤ mD σ p 2 ∧ 0 ≤ mD σ q 2 then mEnv σ p q else 0) N)
