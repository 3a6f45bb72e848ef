/-! the reference: the choice of rooms; people move, rooms are exchanged, envy -/
def dC (σ : jM) : qC := if mLiv σ = 0 then none else qT (dW (σ.1 323) (mN σ)) (mRo σ) (mLiv σ) 0 0
