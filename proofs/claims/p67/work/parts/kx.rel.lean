/-! the choice does not look at the class -/
theorem chFo_I {σ τ : dM} {N M : Nat} (h : DI τ = DI σ) : ∀ (p : Nat) (t its : Int32) (s : chT), chFo τ N M p t its s = chFo σ N M p t its s
  | 0, _, _, _ => rfl
  | p + 1, t, its, s => by
    simp only [chFo, h, chFo_I h p]
theorem chN_u (σ : dM) (υ : jM) (N M : Nat) : chN (DuS σ υ) N M = chN σ N M := by
  unfold chN
  rw [chFo_I (σ := chZ σ N) (τ := chZ (DuS σ υ) N) rfl]
  rfl
theorem chM_u (σ : dM) (υ : jM) (N : Nat) (s : chT) : chM (chZ (DuS σ υ) N) N s = DuS (chM (chZ σ N) N s) υ := by
  obtain ⟨S, C, b, c⟩ := s
  cases b <;> rfl
theorem pST_u (σ : dM) (υ : jM) (N M : Nat) : pST (DuS σ υ) N M = DuS (pST σ N M) υ := by
  unfold pST
  rw [chN_u, chM_u]
