/-! the reference: months pass -/
/-- the plans are ones of people, with incomes in their range -/
def pOK (σ : jM) : Prop := ∀ k, k < mPl σ → jin (σ.1 327 k) 10 ∧ 0 ≤ σ.1 329 k ∧ σ.1 329 k ≤ 99999
def ps1 (σ : jM) (k : Nat) (f : Nat → Int32) : Nat → Int32 := if (f 7 >>> (nI k &&& 31)) &&& 1 = 0 ∧ σ.1 328 k = f 5 then (fun j => if j = 7 then f 7 ||| (1 <<< (nI k &&& 31)) else if j = 8 + 20 * (σ.1 327 k).toNatClampNeg + 1 then σ.1 329 k else f j) else f
def psI (σ : jM) (f : Nat → Int32) : Nat → (Nat → Int32)
  | 0 => f
  | k + 1 => ps1 σ k (psI σ f k)
def cl1 (p : Nat) (f : Nat → Int32) : Nat → Int32 := if 0 ≤ f (8 + 20 * p + 2) then (fun j => if j = 8 + 20 * p + 6 then f (8 + 20 * p + 6) + 1 else if j = 8 + 20 * p + 4 then f (8 + 20 * p + 4) + f (8 + 20 * p + 3) else f j) else f
def clI (f : Nat → Int32) : Nat → (Nat → Int32)
  | 0 => f
  | p + 1 => cl1 p (clI f p)
def paF (σ : jM) (f : Nat → Int32) : Nat → Int32 := if f 2 = 1 ∧ (dC (rw3 σ f)).isSome = true then agR (mCh (rw3 σ f)) (mPy (rw3 σ f)) f (mN σ) else f
def peF (σ : jM) (f : Nat → Int32) : Nat → Int32 := fun j => if j = 5 then f 5 + 1 else if j = 6 then f 6 + (f 3 - sm (fun p => f (8 + 20 * p + 3)) (mN σ)) else f j
/-- a row when a month has passed -/
def pmF (σ : jM) (f : Nat → Int32) : Nat → Int32 := peF σ (clI (paF σ (psI σ f (mPl σ))) (mN σ))
/-- a row when some months have passed -/
def pmI (σ : jM) (f : Nat → Int32) : Nat → (Nat → Int32)
  | 0 => f
  | k + 1 => pmF σ (pmI σ f k)
def oM_passMonths : jO := joRI fun a x σ => (a = 322 ∧ mOK σ ∧ dI (σ.1 323) ∧ pOK σ ∧ mH σ, fun v τ =>
  (mIn x 1 24 = false ∧ v = some (.int (-2)) ∧ τ = jup σ 322 11 0) ∨
  (mIn x 1 24 = true ∧ ¬ σ.1 323 5 + x ≤ 999 ∧ v = some (.int (-3)) ∧ τ = jup σ 322 11 0) ∨
  (mIn x 1 24 = true ∧ σ.1 323 5 + x ≤ 999 ∧ v = some (.int (pmI σ (σ.1 323) x.toNatClampNeg 5)) ∧ jfr aSc bSc (rw3 (mRem (jup σ 322 11 0)) (pmI σ (σ.1 323) x.toNatClampNeg)) τ))
