/-! the reference: envy -/
theorem i3lt (a b : Int32) : (a < b) = ¬ b ≤ a := propext ⟨fun h => by grind, fun h => by grind⟩
theorem i6lt (a b : Int64) : (a < b) = ¬ b ≤ a := propext ⟨fun h => by grind, fun h => by grind⟩
/-- the rooms that people have -/
def dRm (f : Nat → Int32) : Prop := ∀ p, p < 10 → 0 ≤ f (8 + 20 * p + 2) → jin (f (8 + 20 * p + 2)) 6
def mM (σ : jM) (p q : Nat) : Int32 := mD σ p (7 + (mD σ q 2).toNatClampNeg) - mD σ q 3 - mD σ p (7 + (mD σ p 2).toNatClampNeg) + mD σ p 3
def mEnv (σ : jM) (p q : Nat) : Int32 := if mD σ p (13 + (mD σ q 2).toNatClampNeg) = 1 then 0 else if 0 < mM σ p q ∧ p ≠ q then mM σ p q else 0
def mKn (σ : jM) (p q : Nat) : Int32 := if 0 ≤ mD σ p 2 ∧ 0 ≤ mD σ q 2 then mEnv σ p q else -1
def oM_envyOf : jO := joRII fun a p q σ => (a = 322 ∧ mOK σ ∧ dRm (σ.1 323), fun v τ => v = some (.int (if mP σ p = true ∧ mP σ q = true then mKn σ p.toNatClampNeg q.toNatClampNeg else 0)) ∧ τ = jup σ 322 11 (if mP σ p = true ∧ mP σ q = true then 0 else 1))
