def mA (σ : jM) : Nat → Nat := match dC σ with
  | some a => a.2.2
  | none => fun _ => 0
def mLo (σ : jM) (p : Nat) : Int32 := if dL (σ.1 323) p = true then iI (gLo (dW (σ.1 323) (mN σ)) (mA σ) (mLiv σ) (cn (dL (σ.1 323)) p)) else 0
def mHi (σ : jM) (p : Nat) : Int32 := if dL (σ.1 323) p = true then iI (- gHi (dW (σ.1 323) (mN σ)) (mA σ) (mLiv σ) (cn (dL (σ.1 323)) p)) else 0
