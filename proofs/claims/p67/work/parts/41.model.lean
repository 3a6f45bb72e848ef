/-! the reference: what it tells of its row -/
def oM_month : jO := joR fun a σ => (a = 322, fun v τ => v = some (.int (σ.1 323 5)) ∧ τ = jup σ 322 11 0)
def oM_arrears : jO := joR fun a σ => (a = 322, fun v τ => v = some (.int (σ.1 323 6)) ∧ τ = jup σ 322 11 0)
def oM_stateOf : jO := joRI fun a x σ => (a = 322 ∧ mOK σ, fun v τ => v = some (.int (if mP σ x then mD σ x.toNatClampNeg 0 else 0)) ∧ τ = jup σ 322 11 (if mP σ x then 0 else 1))
def oM_incomeOf : jO := joRI fun a x σ => (a = 322 ∧ mOK σ, fun v τ => v = some (.int (if mP σ x then mD σ x.toNatClampNeg 1 else 0)) ∧ τ = jup σ 322 11 (if mP σ x then 0 else 1))
def oM_roomOf : jO := joRI fun a x σ => (a = 322 ∧ mOK σ, fun v τ => v = some (.int (if mP σ x then mD σ x.toNatClampNeg 2 else 0)) ∧ τ = jup σ 322 11 (if mP σ x then 0 else 1))
def oM_payment : jO := joRI fun a x σ => (a = 322 ∧ mOK σ, fun v τ => v = some (.int (if mP σ x then mD σ x.toNatClampNeg 3 else 0)) ∧ τ = jup σ 322 11 (if mP σ x then 0 else 1))
def oM_valueOf : jO := joRII fun a x y σ => (a = 322 ∧ mOK σ, fun v τ => v = some (.int (if mP σ x ∧ mR σ y then mD σ x.toNatClampNeg (7 + y.toNatClampNeg) else 0)) ∧ τ = jup σ 322 11 (if mP σ x ∧ mR σ y then 0 else 1))
def oM_refuses : jO := joRII fun a x y σ => (a = 322 ∧ mOK σ, fun v τ => v = some (.int (if mP σ x ∧ mR σ y ∧ mD σ x.toNatClampNeg (13 + y.toNatClampNeg) = 1 then 1 else 0)) ∧ τ = jup σ 322 11 (if mP σ x ∧ mR σ y then 0 else 1))
def oM_livingCount : jO := joR fun a σ => (a = 322 ∧ mOK σ, fun v τ => v = some (.int (nI (mLiv σ))) ∧ τ = jup σ 322 11 0)
def mO (σ : jM) (k : Nat) : Bool := decide ((σ.1 323 7 >>> (nI k &&& 31)) &&& 1 = 0)
def mPl (σ : jM) : Nat := (σ.1 322 5).toNatClampNeg
def oM_planCount : jO := joR fun a σ => (a = 322 ∧ mOK σ, fun v τ => v = some (.int (nI (cn (mO σ) (mPl σ)))) ∧ τ = jup σ 322 11 0)
def oM_paid : jO := joRII fun a x w σ => (a = 322 ∧ mOK σ, fun v τ => v = some (.int (if mP σ x then (if w = 0 then mD σ x.toNatClampNeg 4 else if w = 1 then mD σ x.toNatClampNeg 5 else if w = 2 then mD σ x.toNatClampNeg 6 else -2) else 0)) ∧ τ = jup σ 322 11 (if mP σ x then 0 else 1))
