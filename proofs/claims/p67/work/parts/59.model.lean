/-! the reference: owners, surpluses, who can afford -/
theorem ff_congr {p q : Nat → Bool} : ∀ (d k : Nat), (∀ j, k ≤ j → j < k + d → p j = q j) → ff p d k = ff q d k
  | 0, _, _ => rfl
  | d + 1, k, h => by
    simp only [ff]
    rw [h k (Nat.le_refl _) (by omega), ff_congr d (k + 1) (fun j h1 h2 => h j (by omega) (by omega))]
theorem ff_rng {p : Nat → Bool} : ∀ (d k : Nat), ff p d k = -1 ∨ ∃ j, k ≤ j ∧ j < k + d ∧ p j = true ∧ ff p d k = nI j
  | 0, _ => Or.inl rfl
  | d + 1, k => by
    simp only [ff]
    by_cases h : p k = true
    · rw [if_pos h]
      exact Or.inr ⟨k, Nat.le_refl _, by omega, h, rfl⟩
    · rw [if_neg h]
      rcases ff_rng (p := p) d (k + 1) with h1 | ⟨j, h1, h2, h3, h4⟩
      · exact Or.inl h1
      · exact Or.inr ⟨j, by omega, by omega, h3, h4⟩
/-- who has a room in the proposal -/
def mOw (σ : jM) (x : Int32) : Int32 := ff (fun p => decide (qch (dC σ) (xl σ) (mN σ) p = x)) (mN σ) 0
def oM_extreme : jO := joRII fun a x y σ => (a = 322 ∧ mOK σ ∧ dI (σ.1 323), fun v τ => v = some (.int (if mR σ x = true then (if (dC σ).isSome = true ∧ 0 ≤ mOw σ x then (if y = 0 then mLo σ (mOw σ x).toNatClampNeg else mHi σ (mOw σ x).toNatClampNeg) else -2000000000) else 0)) ∧ jfr aSc bSc σ τ ∧ τ.1 322 11 = if mR σ x = true then 0 else 1)
def oM_price : jO := joRI fun a x σ => (a = 322 ∧ mOK σ ∧ dI (σ.1 323), fun v τ => v = some (.int (if mR σ x = true then (if (dC σ).isSome = true ∧ 0 ≤ mOw σ x then mPr σ (nI (shN σ)) (mOw σ x).toNatClampNeg else -2000000000) else 0)) ∧ jfr aSc bSc σ τ ∧ τ.1 322 11 = if mR σ x = true then 0 else 1)
def mSu (σ : jM) (p : Nat) : Int32 := 120 * mD σ p (7 + mA σ (cn (xl σ) p)) - mPr σ (nI (shN σ)) p
def oM_surplus : jO := joRI fun a x σ => (a = 322 ∧ mOK σ ∧ dI (σ.1 323), fun v τ => v = some (.int (mNo σ x (mSu σ x.toNatClampNeg))) ∧ jfr aSc bSc σ τ ∧ τ.1 322 11 = if mP σ x = true then 0 else 1)
theorem cn_congr {p q : Nat → Bool} : ∀ (n : Nat), (∀ j, j < n → p j = q j) → cn p n = cn q n
  | 0, _ => rfl
  | n + 1, h => by
    simp only [cn]
    rw [cn_congr n (fun j hj => h j (by omega)), h n (by omega)]
