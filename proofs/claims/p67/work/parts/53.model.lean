/-! the reference: the prices -/
def mIp (σ : jM) (sh : Int32) : Int32 := σ.1 323 3 * sh / 100
def mBs (σ : jM) (p : Nat) : Int32 := if dL (σ.1 323) p = true then (if σ.1 323 0 = 0 then mLo σ p else if σ.1 323 0 = 1 then mHi σ p else (mLo σ p + mHi σ p) / 2) else 0
def mMo (σ : jM) (sh : Int32) : Int32 := (120 * (σ.1 323 3 - mIp σ sh) - sm (mBs σ) (mN σ)) / nI (mLiv σ)
def mPr (σ : jM) (sh : Int32) (p : Nat) : Int32 := if dL (σ.1 323) p = true then mBs σ p + mMo σ sh else 0
