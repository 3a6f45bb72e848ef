/-! the reference: an amount is split by weights -/
theorem smN_part {f : Nat → Nat} {k : Nat} : ∀ {n : Nat}, k ≤ n → smN f k ≤ smN f n
  | 0, h => by rw [Nat.le_zero.mp h]; exact Nat.le_refl _
  | n + 1, h => by
    by_cases e : k = n + 1
    · subst e; exact Nat.le_refl _
    · have := smN_part (f := f) (k := k) (n := n) (by omega)
      simp only [smN]
      omega
theorem hoN_all {r : Nat → Int} : ∀ {m : Nat}, (∀ i, i < m → 0 ≤ r i) → hoN r m = m
  | 0, _ => rfl
  | m + 1, h => by
    have := hoN_all (m := m) (fun i hi => h i (by omega))
    unfold hoN at this ⊢
    simp only [cn]
    rw [this, if_pos (by simpa using h m (by omega))]
