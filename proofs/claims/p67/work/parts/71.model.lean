/-! the reference: tokens -/
def tB (σ : jM) : Nat → Int32 := σ.1 346
def tL (σ : jM) : Nat := (σ.1 322 34).toNatClampNeg
/-- the token's number -/
def tkc (k : Nat) : Int32 := if k = 0 then 0 else if k = 2 then 1 else if k = 3 then 2 else if k = 4 then 3 else 4
def tk (σ : jM) (s : Nat) : Prop := s ≤ tL σ ∧ σ.1 322 41 = 0 ∧ σ.1 322 36 = nI s ∧ σ.1 322 35 = nI (en (tB σ) (tL σ) s) ∧ σ.1 322 37 = tkc (kn (tB σ) (tL σ) s) ∧ (kn (tB σ) (tL σ) s = 3 → σ.1 322 38 = nI (nu (tB σ) (tL σ) s)) ∧ (¬ kn (tB σ) (tL σ) s = 3 → σ.1 322 38 = 0) ∧ (kn (tB σ) (tL σ) s = 2 → (en (tB σ) (tL σ) s ≤ s + 6 → σ.1 322 40 = nI (nm (tB σ) (tL σ) s)) ∧ σ.2.1 322 39 = wh (tB σ) s (en (tB σ) (tL σ) s - s))
def bTk (a : Nat) : Bool := a == 322
theorem shl_n {c k : Nat} (hk : k ≤ 25) (hc : c < 32) : nI c <<< (nI k &&& 31) = nI (c * 2 ^ k) := by
  have e : ∀ q : Fin 32, ((nI q.val &&& 31).toBitVec.smod 32).toNat = q.val := by decide +kernel
  have h2 : 2 ^ k ≤ 2 ^ 25 := Nat.pow_le_pow_right (by decide) hk
  have h25 : (2 : Nat) ^ 25 = 33554432 := by decide
  refine pk_shlN _ k (e ⟨k, by omega⟩) ?_
  have : c * 2 ^ k ≤ 31 * 2 ^ 25 := Nat.mul_le_mul (by omega) h2
  omega
/-! blanks -/
/-! a word, from its letter i on -/
/-! a number, from its digit i on -/
