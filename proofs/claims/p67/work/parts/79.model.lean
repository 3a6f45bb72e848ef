/-! the reference: a text is loaded -/
def bgR (j : Nat) : Int32 := if j = 0 then 2 else if 8 ≤ j ∧ (j - 8) % 20 = 2 then -1 else 0
/-- what a text leaves -/
def aTt (a j : Nat) : Bool := a == 323 || a == 325 || a == 326 || a == 327 || a == 328 || a == 329 || a == 322 && (j == 2 || j == 3 || j == 4 || j == 5)
def tkn (σ τ : jM) : Prop := (∀ j, j < 208 → τ.1 323 j = σ.1 347 j) ∧ τ.1 322 3 = σ.1 322 43 ∧ τ.1 322 4 = σ.1 322 44 ∧ τ.1 322 5 = σ.1 322 45 ∧ τ.1 322 2 = 0 ∧ (∀ r, r < rm σ.1 → τ.1 325 r = σ.1 348 r) ∧ (∀ p, p < pe σ.1 → τ.1 326 p = σ.1 349 p) ∧ ∀ k, k < pn σ.1 → τ.1 327 k = σ.1 350 (3 * k) ∧ τ.1 328 k = σ.1 350 (3 * k + 1) ∧ τ.1 329 k = σ.1 350 (3 * k + 2)
/-! the reference: load -/
def pLoad (B : Nat → Int32) (L : Nat) (μ : pM) : pE ⊕ (Nat × pM) := pText B L (L + 1) 0 (rn B L 1 0) μ
def aLd (a j : Nat) : Bool := aRs a j || a == 322 && (j == 11 || j == 32 || j == 33 || j == 34)
/-- a text's reading begins so -/
def mu1 (σ : jM) : pM := fun a j => if a = 347 ∧ j < 208 then bgR j else if a = 322 ∧ (j = 43 ∨ j = 44 ∨ j = 45 ∨ j = 49) then 0 else σ.1 a j
def oM_load : jO := joRI fun a x σ => (a = 322 ∧ bOK σ ∧ ∀ j, j < 900 → -128 ≤ σ.1 346 j ∧ σ.1 346 j ≤ 127, fun v τ =>
  (mIn x 0 (σ.1 322 32) = false ∧ v = some (.int (-2)) ∧ τ = jup σ 322 11 0) ∨
  (mIn x 0 (σ.1 322 32) = true ∧ match pLoad (σ.1 346) x.toNatClampNeg (mu1 σ) with
    | .inl e => v = some (.int e.1) ∧ ¬ e.1 = 0 ∧ jfr aLd bTk σ τ ∧ τ.1 322 32 = 0 ∧ τ.1 322 33 = nI e.2
    | .inr q => v = some (.int (nI q.1)) ∧ ∃ ρ, jfr aLd bTk σ ρ ∧ ρ.1 322 32 = 0 ∧ ρ.1 322 33 = -1 ∧ rSz ρ ∧ rdA ρ q.2 ∧ jfr aTt b0 ρ τ ∧ tkn ρ τ))
