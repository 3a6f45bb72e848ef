/-! the numbers at the start: what the constructors leave -/
def z0 (a j : Nat) : Int32 :=
  if a = 323 then (if j < 208 then bgR j else 0)
  else if (a = 1 ∧ j = 9) ∨ (a = 322 ∧ j = 33) then -1
  else if a = 5 ∨ a = 38 ∨ ((60 ≤ a ∧ a ≤ 240) ∧ (a - 60) % 20 = 0) then (if j = 0 then 2 else 0)
  else if a = 19 ∨ a = 52 ∨ ((74 ≤ a ∧ a ≤ 254) ∧ (a - 74) % 20 = 0) then (if j < 10 then -1 else 0)
  else 0
def s0 : jM := (z0, fun _ _ => 0, fun _ _ => 0)
theorem z0_row : ∀ j, j < 208 → z0 323 j = bgR j := fun j h => by
  unfold z0
  rw [if_pos rfl, if_pos h]
