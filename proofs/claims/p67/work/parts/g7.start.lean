/-! the numbers at the start: what the constructors leave -/
def z0 (a j : Nat) : Int32 :=
  if a = 323 then (if j < 208 then bgR j else 0)
  else if (a = 1 ∧ j = 9) ∨ (a = 322 ∧ j = 33) then -1
  else if a = 5 ∨ a = 38 ∨ ((60 ≤ a ∧ a ≤ 240) ∧ (a - 60) % 20 = 0) then (if j = 0 then 2 else 0)
  else if a = 19 ∨ a = 52 ∨ ((74 ≤ a ∧ a ≤ 254) ∧ (a - 74) % 20 = 0) then (if j < 10 then -1 else 0)
  else 0
def s0 : jM := (z0, fun _ _ => 0, fun _ _ => 0)
theorem z0_row : ∀ j, j < 208 → z0 323 j = bgR j := fun j h => by
  unfold z0
  rw [if_pos rfl, if_pos h]
theorem z0_dI : dI (z0 323) := by
  unfold dI dOK
  decide +kernel
theorem z0_dG : dG (z0 323) 0 0 := by
  refine ⟨z0_dI, by decide +kernel, by decide +kernel, fun p hp => Or.inl ?_, by decide +kernel, by decide +kernel, Nat.le_refl _⟩
  revert hp
  revert p
  decide +kernel
theorem z0_fl : flR s0 37 (s0.1 323) 0 0 := by
  refine ⟨by decide +kernel, by decide +kernel, by decide +kernel, fun p hp => absurd hp (Nat.not_lt_zero _)⟩
theorem s0_R : xR s0 := by
  refine ⟨0, 0, 0, ⟨by decide, by decide +kernel, fun r h => absurd h (Nat.not_lt_zero _), fun r h => absurd h (Nat.not_lt_zero _)⟩, ⟨z0_fl, z0_dG, ⟨0, by decide +kernel, Nat.le_refl _, fun i h => absurd h (Nat.not_lt_zero _)⟩, fun k h => absurd h (Nat.not_lt_zero _)⟩, ⟨by decide +kernel, ⟨id, fun i h => absurd h (Nat.not_lt_zero _), fun i j _ h => absurd h (Nat.not_lt_zero _)⟩, fun k h => absurd h (Nat.not_lt_zero _)⟩, ⟨0, 0, by decide, by decide +kernel, fun q h => absurd h (Nat.not_lt_zero _)⟩, ⟨funext fun j => ?_, ⟨0, by decide +kernel⟩, fun j h => ?_⟩, ⟨0, by decide, by decide +kernel, by decide +kernel, fun j h => absurd h (Nat.not_lt_zero _)⟩, by decide +kernel, Or.inl (by decide +kernel)⟩
  · show z0 3 j = z0 346 j
    simp [z0]
  · have e : z0 346 j = 0 := by simp [z0]
    show -128 ≤ z0 346 j ∧ z0 346 j ≤ 127
    rw [e]
    decide

