/-! the reference: owners, surpluses, who can afford -/
theorem ff_congr {p q : Nat → Bool} : ∀ (d k : Nat), (∀ j, k ≤ j → j < k + d → p j = q j) → ff p d k = ff q d k
  | 0, _, _ => rfl
  | d + 1, k, h => by
    simp only [ff]
    rw [h k (Nat.le_refl _) (by omega), ff_congr d (k + 1) (fun j h1 h2 => h j (by omega) (by omega))]
theorem ff_rng {p : Nat → Bool} : ∀ (d k : Nat), ff p d k = -1 ∨ ∃ j, k ≤ j ∧ j < k + d ∧ p j = true ∧ ff p d k = nI j
  | 0, _ => Or.inl rfl
  | d + 1, k => by
    simp only [ff]
    by_cases h : p k = true
    · rw [if_pos h]
      exact Or.inr ⟨k, Nat.le_refl _, by omega, h, rfl⟩
    · rw [if_neg h]
      rcases ff_rng (p := p) d (k + 1) with h1 | ⟨j, h1, h2, h3, h4⟩
      · exact Or.inl h1
      · exact Or.inr ⟨j, by omega, by omega, h3, h4⟩
theorem cn_congr {p q : Nat → Bool} : ∀ (n : Nat), (∀ j, j < n → p j = q j) → cn p n = cn q n
  | 0, _ => rfl
  | n + 1, h => by
    simp only [cn]
    rw [cn_congr n (fun j hj => h j (by omega)), h n (by omega)]
