/-! the law's Desk.<init>: what stands when its rows are made -/
theorem z0_dI : dI (z0 323) := by
  unfold dI dOK
  decide +kernel
theorem z0_dG : dG (z0 323) 0 0 := by
  refine ⟨z0_dI, by decide +kernel, by decide +kernel, fun p hp => Or.inl ?_, by decide +kernel, by decide +kernel, Nat.le_refl _⟩
  revert hp
  revert p
  decide +kernel
theorem z0_fl : flR s0 37 (s0.1 323) 0 0 := by
  refine ⟨by decide +kernel, by decide +kernel, by decide +kernel, fun p hp => absurd hp (Nat.not_lt_zero _)⟩
theorem s0_Rk : xRk s0 0 0 0 := by
  refine ⟨⟨by decide, by decide +kernel, fun r h => absurd h (Nat.not_lt_zero _), fun r h => absurd h (Nat.not_lt_zero _)⟩, ⟨z0_fl, z0_dG, ⟨0, by decide +kernel, Nat.le_refl _, fun i h => absurd h (Nat.not_lt_zero _)⟩, fun k h => absurd h (Nat.not_lt_zero _)⟩, ⟨by decide +kernel, ⟨id, fun i h => absurd h (Nat.not_lt_zero _), fun i j _ h => absurd h (Nat.not_lt_zero _)⟩, fun k h => absurd h (Nat.not_lt_zero _)⟩, ⟨0, 0, by decide, by decide +kernel, fun q h => absurd h (Nat.not_lt_zero _)⟩, ⟨funext fun j => ?_, ⟨0, by decide +kernel⟩, fun j h => ?_⟩, ⟨0, by decide, by decide +kernel, by decide +kernel, fun j h => absurd h (Nat.not_lt_zero _)⟩, by decide +kernel, Or.inl (by decide +kernel)⟩
  · show z0 3 j = z0 346 j
    simp [z0]
  · have e : z0 346 j = 0 := by simp [z0]
    show -128 ≤ z0 346 j ∧ z0 346 j ≤ 127
    rw [e]
    decide

theorem s0_Fd (f : Nat → Nat) : xFd s0 0 f := ⟨s0_Rk, by decide +kernel, fun j hj => absurd hj (Nat.not_lt_zero _)⟩
/-- no text is referred to -/
def rfQ (σ : dM) : Prop := ∀ k j q, DR σ k j = some q → q < 1600 ∨ 1900 ≤ q
theorem rfQ_Du {σ : dM} {a f x : Nat} (hx : x < 1600 ∨ 1900 ≤ x) (h : rfQ σ) : rfQ (DuR σ a f (some x)) := fun k j q e => by
  rw [DuR_R] at e
  by_cases c : k = a ∧ j = f
  · rw [if_pos c] at e
    have := Option.some.inj e
    omega
  · rw [if_neg c] at e
    exact h k j q e
theorem rfQ_nw {σ : dM} {a n : Nat} (h : rfQ σ) : rfQ (Dnw σ a n) := fun k j q e => by
  rw [Dnw_R] at e
  by_cases c : k = a
  · rw [if_pos c] at e
    cases e
  · rw [if_neg c] at e
    exact h k j q e
theorem rfQ_mn {σ : dM} {a b n m : Nat} (hb : b + n < 1600) (h : rfQ σ) : rfQ (Dmn σ a b n m) := fun k j q e => by
  rw [Dmn_R] at e
  by_cases c : k = a
  · rw [if_pos c] at e
    by_cases c2 : j < n
    · rw [if_pos c2] at e
      have := Option.some.inj e
      omega
    · rw [if_neg c2] at e
      cases e
  · rw [if_neg c] at e
    by_cases c3 : b ≤ k ∧ k < b + n
    · rw [if_pos c3] at e
      cases e
    · rw [if_neg c3] at e
      exact h k j q e
theorem rfQ_I {σ : dM} {a k : Nat} {x : Int32} (h : rfQ σ) : rfQ (DuI σ a k x) := h
theorem txQ_rf {σ : dM} (h : rfQ σ) : txQ σ := fun k j q _ _ _ e q1 q2 => by
  have := h k j q e
  omega
section ENB
variable {σ : dM} {N M : Nat}
theorem bd2_o {k : Nat} (h : k ≠ 1105 ∧ k ≠ 1104 ∧ k ≠ 1300 ∧ k ≠ 1103 ∧ k ≠ 1102 ∧ k ≠ 1500 ∧ ¬ (1200 ≤ k ∧ k < 1200 + N) ∧ k ≠ 1400 ∧ ¬ (1110 ≤ k ∧ k < 1110 + N) ∧ k ≠ 1101 ∧ k ≠ 1100) : DA (bd2 σ N M) k = DA σ k ∧ DI (bd2 σ N M) k = DI σ k ∧ DL (bd2 σ N M) k = DL σ k ∧ DN (bd2 σ N M) k = DN σ k ∧ (k ≠ 1000 → DR (bd2 σ N M) k = DR σ k) := by
  unfold bd2
  refine ⟨?_, funext fun j => ?_, funext fun j => ?_, ?_, fun h0 => funext fun j => ?_⟩
  · rw [DuR_A, Dnw_A, if_neg (by omega), DuR_A, Dnw_A, if_neg (by omega), DuR_A, Dnw_A, if_neg (by omega), DuR_A, Dnw_A, if_neg (by omega), DuR_A, Dnw_A, if_neg (by omega), DuR_A, Dmn_A, if_neg (by omega), DuR_A, Dmn_A, if_neg (by omega), DuR_A, Dnw_A, if_neg (by omega), DuR_A, Dnw_A, if_neg (by omega)]
  · rw [DuR_I, Dnw_I, if_neg (by omega), DuR_I, Dnw_I, if_neg (by omega), DuR_I, Dnw_I, if_neg (by omega), DuR_I, Dnw_I, if_neg (by omega), DuR_I, Dnw_I, if_neg (by omega), DuR_I, Dmn_I, if_neg (by omega), DuR_I, Dmn_I, if_neg (by omega), DuR_I, Dnw_I, if_neg (by omega), DuR_I, Dnw_I, if_neg (by omega)]
  · rw [DuR_L, Dnw_L, if_neg (by omega), DuR_L, Dnw_L, if_neg (by omega), DuR_L, Dnw_L, if_neg (by omega), DuR_L, Dnw_L, if_neg (by omega), DuR_L, Dnw_L, if_neg (by omega), DuR_L, Dmn_L, if_neg (by omega), DuR_L, Dmn_L, if_neg (by omega), DuR_L, Dnw_L, if_neg (by omega), DuR_L, Dnw_L, if_neg (by omega)]
  · rw [DuR_N, Dnw_N, if_neg (by omega), DuR_N, Dnw_N, if_neg (by omega), DuR_N, Dnw_N, if_neg (by omega), DuR_N, Dnw_N, if_neg (by omega), DuR_N, Dnw_N, if_neg (by omega), DuR_N, Dmn_N, if_neg (by omega), if_neg (by omega), DuR_N, Dmn_N, if_neg (by omega), if_neg (by omega), DuR_N, Dnw_N, if_neg (by omega), DuR_N, Dnw_N, if_neg (by omega)]
  · rw [DuR_R, if_neg (by omega), Dnw_R, if_neg (by omega), DuR_R, if_neg (by omega), Dnw_R, if_neg (by omega), DuR_R, if_neg (by omega), Dnw_R, if_neg (by omega), DuR_R, if_neg (by omega), Dnw_R, if_neg (by omega), DuR_R, if_neg (by omega), Dnw_R, if_neg (by omega), DuR_R, if_neg (by omega), Dmn_R, if_neg (by omega), if_neg (by omega), DuR_R, if_neg (by omega), Dmn_R, if_neg (by omega), if_neg (by omega), DuR_R, if_neg (by omega), Dnw_R, if_neg (by omega), DuR_R, if_neg (by omega), Dnw_R, if_neg (by omega)]
theorem bd2_1100 (hN : N ≤ 5) : DA (bd2 σ N M) 1100 = true ∧ (∀ j, DI (bd2 σ N M) 1100 j = 0) ∧ (∀ j, DL (bd2 σ N M) 1100 j = 0) ∧ DN (bd2 σ N M) 1100 = N := by
  unfold bd2
  refine ⟨?_, fun j => ?_, fun j => ?_, ?_⟩
  · rw [DuR_A, Dnw_A, if_neg (by omega), DuR_A, Dnw_A, if_neg (by omega), DuR_A, Dnw_A, if_neg (by omega), DuR_A, Dnw_A, if_neg (by omega), DuR_A, Dnw_A, if_neg (by omega), DuR_A, Dmn_A, if_neg (by omega), DuR_A, Dmn_A, if_neg (by omega), DuR_A, Dnw_A, if_neg (by omega), DuR_A, Dnw_A, if_pos rfl]
  · rw [DuR_I, Dnw_I, if_neg (by omega), DuR_I, Dnw_I, if_neg (by omega), DuR_I, Dnw_I, if_neg (by omega), DuR_I, Dnw_I, if_neg (by omega), DuR_I, Dnw_I, if_neg (by omega), DuR_I, Dmn_I, if_neg (by omega), DuR_I, Dmn_I, if_neg (by omega), DuR_I, Dnw_I, if_neg (by omega), DuR_I, Dnw_I, if_pos rfl]
  · rw [DuR_L, Dnw_L, if_neg (by omega), DuR_L, Dnw_L, if_neg (by omega), DuR_L, Dnw_L, if_neg (by omega), DuR_L, Dnw_L, if_neg (by omega), DuR_L, Dnw_L, if_neg (by omega), DuR_L, Dmn_L, if_neg (by omega), DuR_L, Dmn_L, if_neg (by omega), DuR_L, Dnw_L, if_neg (by omega), DuR_L, Dnw_L, if_pos rfl]
  · rw [DuR_N, Dnw_N, if_neg (by omega), DuR_N, Dnw_N, if_neg (by omega), DuR_N, Dnw_N, if_neg (by omega), DuR_N, Dnw_N, if_neg (by omega), DuR_N, Dnw_N, if_neg (by omega), DuR_N, Dmn_N, if_neg (by omega), if_neg (by omega), DuR_N, Dmn_N, if_neg (by omega), if_neg (by omega), DuR_N, Dnw_N, if_neg (by omega), DuR_N, Dnw_N, if_pos rfl]
theorem bd2_1101 (hN : N ≤ 5) : DA (bd2 σ N M) 1101 = true ∧ (∀ j, DI (bd2 σ N M) 1101 j = 0) ∧ (∀ j, DL (bd2 σ N M) 1101 j = 0) ∧ DN (bd2 σ N M) 1101 = N := by
  unfold bd2
  refine ⟨?_, fun j => ?_, fun j => ?_, ?_⟩
  · rw [DuR_A, Dnw_A, if_neg (by omega), DuR_A, Dnw_A, if_neg (by omega), DuR_A, Dnw_A, if_neg (by omega), DuR_A, Dnw_A, if_neg (by omega), DuR_A, Dnw_A, if_neg (by omega), DuR_A, Dmn_A, if_neg (by omega), DuR_A, Dmn_A, if_neg (by omega), DuR_A, Dnw_A, if_pos rfl]
  · rw [DuR_I, Dnw_I, if_neg (by omega), DuR_I, Dnw_I, if_neg (by omega), DuR_I, Dnw_I, if_neg (by omega), DuR_I, Dnw_I, if_neg (by omega), DuR_I, Dnw_I, if_neg (by omega), DuR_I, Dmn_I, if_neg (by omega), DuR_I, Dmn_I, if_neg (by omega), DuR_I, Dnw_I, if_pos rfl]
  · rw [DuR_L, Dnw_L, if_neg (by omega), DuR_L, Dnw_L, if_neg (by omega), DuR_L, Dnw_L, if_neg (by omega), DuR_L, Dnw_L, if_neg (by omega), DuR_L, Dnw_L, if_neg (by omega), DuR_L, Dmn_L, if_neg (by omega), DuR_L, Dmn_L, if_neg (by omega), DuR_L, Dnw_L, if_pos rfl]
  · rw [DuR_N, Dnw_N, if_neg (by omega), DuR_N, Dnw_N, if_neg (by omega), DuR_N, Dnw_N, if_neg (by omega), DuR_N, Dnw_N, if_neg (by omega), DuR_N, Dnw_N, if_neg (by omega), DuR_N, Dmn_N, if_neg (by omega), if_neg (by omega), DuR_N, Dmn_N, if_neg (by omega), if_neg (by omega), DuR_N, Dnw_N, if_pos rfl]
theorem bd2_1400 (hN : N ≤ 5) : DA (bd2 σ N M) 1400 = true ∧ (∀ j, DI (bd2 σ N M) 1400 j = 0) ∧ (∀ j, DL (bd2 σ N M) 1400 j = 0) ∧ DN (bd2 σ N M) 1400 = N := by
  unfold bd2
  refine ⟨?_, fun j => ?_, fun j => ?_, ?_⟩
  · rw [DuR_A, Dnw_A, if_neg (by omega), DuR_A, Dnw_A, if_neg (by omega), DuR_A, Dnw_A, if_neg (by omega), DuR_A, Dnw_A, if_neg (by omega), DuR_A, Dnw_A, if_neg (by omega), DuR_A, Dmn_A, if_neg (by omega), DuR_A, Dmn_A, if_pos (Or.inl rfl)]
  · rw [DuR_I, Dnw_I, if_neg (by omega), DuR_I, Dnw_I, if_neg (by omega), DuR_I, Dnw_I, if_neg (by omega), DuR_I, Dnw_I, if_neg (by omega), DuR_I, Dnw_I, if_neg (by omega), DuR_I, Dmn_I, if_neg (by omega), DuR_I, Dmn_I, if_pos (Or.inl rfl)]
  · rw [DuR_L, Dnw_L, if_neg (by omega), DuR_L, Dnw_L, if_neg (by omega), DuR_L, Dnw_L, if_neg (by omega), DuR_L, Dnw_L, if_neg (by omega), DuR_L, Dnw_L, if_neg (by omega), DuR_L, Dmn_L, if_neg (by omega), DuR_L, Dmn_L, if_pos (Or.inl rfl)]
  · rw [DuR_N, Dnw_N, if_neg (by omega), DuR_N, Dnw_N, if_neg (by omega), DuR_N, Dnw_N, if_neg (by omega), DuR_N, Dnw_N, if_neg (by omega), DuR_N, Dnw_N, if_neg (by omega), DuR_N, Dmn_N, if_neg (by omega), if_neg (by omega), DuR_N, Dmn_N, if_pos rfl]
theorem bd2_1500 (hN : N ≤ 5) : DA (bd2 σ N M) 1500 = true ∧ (∀ j, DI (bd2 σ N M) 1500 j = 0) ∧ (∀ j, DL (bd2 σ N M) 1500 j = 0) ∧ DN (bd2 σ N M) 1500 = N := by
  unfold bd2
  refine ⟨?_, fun j => ?_, fun j => ?_, ?_⟩
  · rw [DuR_A, Dnw_A, if_neg (by omega), DuR_A, Dnw_A, if_neg (by omega), DuR_A, Dnw_A, if_neg (by omega), DuR_A, Dnw_A, if_neg (by omega), DuR_A, Dnw_A, if_neg (by omega), DuR_A, Dmn_A, if_pos (Or.inl rfl)]
  · rw [DuR_I, Dnw_I, if_neg (by omega), DuR_I, Dnw_I, if_neg (by omega), DuR_I, Dnw_I, if_neg (by omega), DuR_I, Dnw_I, if_neg (by omega), DuR_I, Dnw_I, if_neg (by omega), DuR_I, Dmn_I, if_pos (Or.inl rfl)]
  · rw [DuR_L, Dnw_L, if_neg (by omega), DuR_L, Dnw_L, if_neg (by omega), DuR_L, Dnw_L, if_neg (by omega), DuR_L, Dnw_L, if_neg (by omega), DuR_L, Dnw_L, if_neg (by omega), DuR_L, Dmn_L, if_pos (Or.inl rfl)]
  · rw [DuR_N, Dnw_N, if_neg (by omega), DuR_N, Dnw_N, if_neg (by omega), DuR_N, Dnw_N, if_neg (by omega), DuR_N, Dnw_N, if_neg (by omega), DuR_N, Dnw_N, if_neg (by omega), DuR_N, Dmn_N, if_pos rfl]
theorem bd2_1102 (hN : N ≤ 5) : DA (bd2 σ N M) 1102 = true ∧ (∀ j, DI (bd2 σ N M) 1102 j = 0) ∧ (∀ j, DL (bd2 σ N M) 1102 j = 0) ∧ DN (bd2 σ N M) 1102 = N := by
  unfold bd2
  refine ⟨?_, fun j => ?_, fun j => ?_, ?_⟩
  · rw [DuR_A, Dnw_A, if_neg (by omega), DuR_A, Dnw_A, if_neg (by omega), DuR_A, Dnw_A, if_neg (by omega), DuR_A, Dnw_A, if_neg (by omega), DuR_A, Dnw_A, if_pos rfl]
  · rw [DuR_I, Dnw_I, if_neg (by omega), DuR_I, Dnw_I, if_neg (by omega), DuR_I, Dnw_I, if_neg (by omega), DuR_I, Dnw_I, if_neg (by omega), DuR_I, Dnw_I, if_pos rfl]
  · rw [DuR_L, Dnw_L, if_neg (by omega), DuR_L, Dnw_L, if_neg (by omega), DuR_L, Dnw_L, if_neg (by omega), DuR_L, Dnw_L, if_neg (by omega), DuR_L, Dnw_L, if_pos rfl]
  · rw [DuR_N, Dnw_N, if_neg (by omega), DuR_N, Dnw_N, if_neg (by omega), DuR_N, Dnw_N, if_neg (by omega), DuR_N, Dnw_N, if_neg (by omega), DuR_N, Dnw_N, if_pos rfl]
theorem bd2_1103 (hN : N ≤ 5) : DA (bd2 σ N M) 1103 = true ∧ (∀ j, DI (bd2 σ N M) 1103 j = 0) ∧ (∀ j, DL (bd2 σ N M) 1103 j = 0) ∧ DN (bd2 σ N M) 1103 = N := by
  unfold bd2
  refine ⟨?_, fun j => ?_, fun j => ?_, ?_⟩
  · rw [DuR_A, Dnw_A, if_neg (by omega), DuR_A, Dnw_A, if_neg (by omega), DuR_A, Dnw_A, if_neg (by omega), DuR_A, Dnw_A, if_pos rfl]
  · rw [DuR_I, Dnw_I, if_neg (by omega), DuR_I, Dnw_I, if_neg (by omega), DuR_I, Dnw_I, if_neg (by omega), DuR_I, Dnw_I, if_pos rfl]
  · rw [DuR_L, Dnw_L, if_neg (by omega), DuR_L, Dnw_L, if_neg (by omega), DuR_L, Dnw_L, if_neg (by omega), DuR_L, Dnw_L, if_pos rfl]
  · rw [DuR_N, Dnw_N, if_neg (by omega), DuR_N, Dnw_N, if_neg (by omega), DuR_N, Dnw_N, if_neg (by omega), DuR_N, Dnw_N, if_pos rfl]
theorem bd2_1300 (hN : N ≤ 5) : DA (bd2 σ N M) 1300 = true ∧ (∀ j, DI (bd2 σ N M) 1300 j = 0) ∧ (∀ j, DL (bd2 σ N M) 1300 j = 0) ∧ DN (bd2 σ N M) 1300 = N := by
  unfold bd2
  refine ⟨?_, fun j => ?_, fun j => ?_, ?_⟩
  · rw [DuR_A, Dnw_A, if_neg (by omega), DuR_A, Dnw_A, if_neg (by omega), DuR_A, Dnw_A, if_pos rfl]
  · rw [DuR_I, Dnw_I, if_neg (by omega), DuR_I, Dnw_I, if_neg (by omega), DuR_I, Dnw_I, if_pos rfl]
  · rw [DuR_L, Dnw_L, if_neg (by omega), DuR_L, Dnw_L, if_neg (by omega), DuR_L, Dnw_L, if_pos rfl]
  · rw [DuR_N, Dnw_N, if_neg (by omega), DuR_N, Dnw_N, if_neg (by omega), DuR_N, Dnw_N, if_pos rfl]
theorem bd2_1104 (hN : N ≤ 5) : DA (bd2 σ N M) 1104 = true ∧ (∀ j, DI (bd2 σ N M) 1104 j = 0) ∧ (∀ j, DL (bd2 σ N M) 1104 j = 0) ∧ DN (bd2 σ N M) 1104 = N := by
  unfold bd2
  refine ⟨?_, fun j => ?_, fun j => ?_, ?_⟩
  · rw [DuR_A, Dnw_A, if_neg (by omega), DuR_A, Dnw_A, if_pos rfl]
  · rw [DuR_I, Dnw_I, if_neg (by omega), DuR_I, Dnw_I, if_pos rfl]
  · rw [DuR_L, Dnw_L, if_neg (by omega), DuR_L, Dnw_L, if_pos rfl]
  · rw [DuR_N, Dnw_N, if_neg (by omega), DuR_N, Dnw_N, if_pos rfl]
theorem bd2_1105 (hN : N ≤ 5) : DA (bd2 σ N M) 1105 = true ∧ (∀ j, DI (bd2 σ N M) 1105 j = 0) ∧ (∀ j, DL (bd2 σ N M) 1105 j = 0) ∧ DN (bd2 σ N M) 1105 = N := by
  unfold bd2
  refine ⟨?_, fun j => ?_, fun j => ?_, ?_⟩
  · rw [DuR_A, Dnw_A, if_pos rfl]
  · rw [DuR_I, Dnw_I, if_pos rfl]
  · rw [DuR_L, Dnw_L, if_pos rfl]
  · rw [DuR_N, Dnw_N, if_pos rfl]
theorem bd2_1400R (hN : N ≤ 5) {p : Nat} (hp : p < N) : DR (bd2 σ N M) 1400 p = some (1110 + p) := by
  unfold bd2
  rw [DuR_R, if_neg (by omega), Dnw_R, if_neg (by omega), DuR_R, if_neg (by omega), Dnw_R, if_neg (by omega), DuR_R, if_neg (by omega), Dnw_R, if_neg (by omega), DuR_R, if_neg (by omega), Dnw_R, if_neg (by omega), DuR_R, if_neg (by omega), Dnw_R, if_neg (by omega), DuR_R, if_neg (by omega), Dmn_R, if_neg (by omega), if_neg (by omega), DuR_R, if_neg (by omega), Dmn_R, if_pos rfl, if_pos hp]
theorem bd2_1110 (hN : N ≤ 5) {p : Nat} (hp : p < N) : DA (bd2 σ N M) (1110 + p) = true ∧ (∀ j, DI (bd2 σ N M) (1110 + p) j = 0) ∧ DN (bd2 σ N M) (1110 + p) = M := by
  unfold bd2
  refine ⟨?_, fun j => ?_, ?_⟩
  · rw [DuR_A, Dnw_A, if_neg (by omega), DuR_A, Dnw_A, if_neg (by omega), DuR_A, Dnw_A, if_neg (by omega), DuR_A, Dnw_A, if_neg (by omega), DuR_A, Dnw_A, if_neg (by omega), DuR_A, Dmn_A, if_neg (by omega), DuR_A, Dmn_A, if_pos (Or.inr (by omega))]
  · rw [DuR_I, Dnw_I, if_neg (by omega), DuR_I, Dnw_I, if_neg (by omega), DuR_I, Dnw_I, if_neg (by omega), DuR_I, Dnw_I, if_neg (by omega), DuR_I, Dnw_I, if_neg (by omega), DuR_I, Dmn_I, if_neg (by omega), DuR_I, Dmn_I, if_pos (Or.inr (by omega))]
  · rw [DuR_N, Dnw_N, if_neg (by omega), DuR_N, Dnw_N, if_neg (by omega), DuR_N, Dnw_N, if_neg (by omega), DuR_N, Dnw_N, if_neg (by omega), DuR_N, Dnw_N, if_neg (by omega), DuR_N, Dmn_N, if_neg (by omega), if_neg (by omega), DuR_N, Dmn_N, if_neg (by omega), if_pos (by omega)]
theorem bd2_1500R (hN : N ≤ 5) {p : Nat} (hp : p < N) : DR (bd2 σ N M) 1500 p = some (1200 + p) := by
  unfold bd2
  rw [DuR_R, if_neg (by omega), Dnw_R, if_neg (by omega), DuR_R, if_neg (by omega), Dnw_R, if_neg (by omega), DuR_R, if_neg (by omega), Dnw_R, if_neg (by omega), DuR_R, if_neg (by omega), Dnw_R, if_neg (by omega), DuR_R, if_neg (by omega), Dnw_R, if_neg (by omega), DuR_R, if_neg (by omega), Dmn_R, if_pos rfl, if_pos hp]
theorem bd2_1200 (hN : N ≤ 5) {p : Nat} (hp : p < N) : DA (bd2 σ N M) (1200 + p) = true ∧ (∀ j, DI (bd2 σ N M) (1200 + p) j = 0) ∧ DN (bd2 σ N M) (1200 + p) = M := by
  unfold bd2
  refine ⟨?_, fun j => ?_, ?_⟩
  · rw [DuR_A, Dnw_A, if_neg (by omega), DuR_A, Dnw_A, if_neg (by omega), DuR_A, Dnw_A, if_neg (by omega), DuR_A, Dnw_A, if_neg (by omega), DuR_A, Dnw_A, if_neg (by omega), DuR_A, Dmn_A, if_pos (Or.inr (by omega))]
  · rw [DuR_I, Dnw_I, if_neg (by omega), DuR_I, Dnw_I, if_neg (by omega), DuR_I, Dnw_I, if_neg (by omega), DuR_I, Dnw_I, if_neg (by omega), DuR_I, Dnw_I, if_neg (by omega), DuR_I, Dmn_I, if_pos (Or.inr (by omega))]
  · rw [DuR_N, Dnw_N, if_neg (by omega), DuR_N, Dnw_N, if_neg (by omega), DuR_N, Dnw_N, if_neg (by omega), DuR_N, Dnw_N, if_neg (by omega), DuR_N, Dnw_N, if_neg (by omega), DuR_N, Dmn_N, if_neg (by omega), if_pos (by omega)]
theorem bd2_R0 {j : Nat} : DR (bd2 σ N M) 1000 j = if j = 24 then some 1105 else if j = 10 then some 1104 else if j = 9 then some 1300 else if j = 8 then some 1103 else if j = 7 then some 1102 else if j = 6 then some 1500 else if j = 5 then some 1400 else if j = 4 then some 1101 else if j = 3 then some 1100 else DR σ 1000 j := by
  unfold bd2
  rw [DuR_R]
  by_cases c24 : j = 24
  · rw [if_pos ⟨rfl, c24⟩, if_pos c24]
  rw [if_neg (fun z => c24 z.2), if_neg c24, Dnw_R, if_neg (by omega)]
  rw [DuR_R]
  by_cases c10 : j = 10
  · rw [if_pos ⟨rfl, c10⟩, if_pos c10]
  rw [if_neg (fun z => c10 z.2), if_neg c10, Dnw_R, if_neg (by omega)]
  rw [DuR_R]
  by_cases c9 : j = 9
  · rw [if_pos ⟨rfl, c9⟩, if_pos c9]
  rw [if_neg (fun z => c9 z.2), if_neg c9, Dnw_R, if_neg (by omega)]
  rw [DuR_R]
  by_cases c8 : j = 8
  · rw [if_pos ⟨rfl, c8⟩, if_pos c8]
  rw [if_neg (fun z => c8 z.2), if_neg c8, Dnw_R, if_neg (by omega)]
  rw [DuR_R]
  by_cases c7 : j = 7
  · rw [if_pos ⟨rfl, c7⟩, if_pos c7]
  rw [if_neg (fun z => c7 z.2), if_neg c7, Dnw_R, if_neg (by omega)]
  rw [DuR_R]
  by_cases c6 : j = 6
  · rw [if_pos ⟨rfl, c6⟩, if_pos c6]
  rw [if_neg (fun z => c6 z.2), if_neg c6, Dmn_R, if_neg (by omega), if_neg (by omega)]
  rw [DuR_R]
  by_cases c5 : j = 5
  · rw [if_pos ⟨rfl, c5⟩, if_pos c5]
  rw [if_neg (fun z => c5 z.2), if_neg c5, Dmn_R, if_neg (by omega), if_neg (by omega)]
  rw [DuR_R]
  by_cases c4 : j = 4
  · rw [if_pos ⟨rfl, c4⟩, if_pos c4]
  rw [if_neg (fun z => c4 z.2), if_neg c4, Dnw_R, if_neg (by omega)]
  rw [DuR_R]
  by_cases c3 : j = 3
  · rw [if_pos ⟨rfl, c3⟩, if_pos c3]
  rw [if_neg (fun z => c3 z.2), if_neg c3, Dnw_R, if_neg (by omega)]
theorem bd2_rf (hN : N ≤ 5) (h : rfQ σ) : rfQ (bd2 σ N M) := by
  unfold bd2
  exact (rfQ_Du (by omega) (rfQ_nw (rfQ_Du (by omega) (rfQ_nw (rfQ_Du (by omega) (rfQ_nw (rfQ_Du (by omega) (rfQ_nw (rfQ_Du (by omega) (rfQ_nw (rfQ_Du (by omega) (rfQ_mn (by omega) (rfQ_Du (by omega) (rfQ_mn (by omega) (rfQ_Du (by omega) (rfQ_nw (rfQ_Du (by omega) (rfQ_nw h))))))))))))))))))
end ENB
