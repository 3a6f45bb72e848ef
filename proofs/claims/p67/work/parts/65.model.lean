/-! the reference: the transfers -/
def dSt (f : Nat → Int32) : Prop := ∀ p, p < 10 → 0 ≤ f (8 + 20 * p + 5) ∧ f (8 + 20 * p + 5) ≤ 200000
def duP (σ : jM) (p : Nat) : Int := if p < mN σ then (tgS σ p).toInt - (mD σ p 5).toInt else 0
def duI (σ : jM) (p : Nat) : Int := if p < 10 then duP σ p else - sI (duP σ) 10
def trS (σ : jM) : List trT := trL 11 (duI σ)
