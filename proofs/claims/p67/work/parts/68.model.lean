/-! the reference: the buffer that is fed, the text that is written -/
/-- a byte of an int -/
def by8 (x : Int32) (s : Nat) : Int32 := (x >>> (nI s &&& 31)).toInt8.toInt32
/-- four bytes more, in the cell c, their number in the field k of o -/
def apS (c o k : Nat) (σ : jM) (x : Int32) (n : Nat) : jM := (fun a j => if a = c ∧ n ≤ j ∧ j < n + 4 then by8 x (24 - 8 * (j - n)) else if a = o ∧ j = k then nI (n + 4) else σ.1 a j, σ.2)
theorem apS_1 (c o k : Nat) (σ : jM) (x : Int32) (n a j : Nat) : (apS c o k σ x n).1 a j = if a = c ∧ n ≤ j ∧ j < n + 4 then by8 x (24 - 8 * (j - n)) else if a = o ∧ j = k then nI (n + 4) else σ.1 a j := rfl
theorem apS_eq {c o k : Nat} (hco : c ≠ o) (σ : jM) (x : Int32) (n : Nat) (y1 y2 y3 : Int32) : jup (jup (jup (jup (jup (jup (jup (jup σ c n (by8 x 24)) o k y1) c (n + 1) (by8 x 16)) o k y2) c (n + 2) (by8 x 8)) o k y3) c (n + 3) (by8 x 0)) o k (nI (n + 4)) = apS c o k σ x n := by
  unfold jup apS
  congr 1
  funext a j
  dsimp only
  by_cases e : a = c
  · subst e
    have e2 : ¬ (a = o ∧ j = k) := fun z => hco z.1
    simp only [e2, if_false, true_and]
    by_cases h : n ≤ j ∧ j < n + 4
    · rw [if_pos h]
      obtain ⟨i, hi, rfl⟩ : ∃ i, i < 4 ∧ j = n + i := ⟨j - n, by omega, by omega⟩
      rcases i with _ | _ | _ | _ | i
      · simp
      · simp
      · simp
      · simp
      · omega
    · rw [if_neg h, if_neg (by omega), if_neg (by omega), if_neg (by omega), if_neg (by omega)]
  · simp only [e, false_and, if_false]
    by_cases h : a = o ∧ j = k
    · simp [h]
    · simp [h]
/-- twenty bytes more -/
def fdS (c o k : Nat) (σ : jM) (x1 x2 x3 x4 x5 : Int32) (n : Nat) : jM := apS c o k (apS c o k (apS c o k (apS c o k (apS c o k σ x1 n) x2 (n + 4)) x3 (n + 8)) x4 (n + 12)) x5 (n + 16)
def bfN (σ : jM) : Nat := (σ.1 322 32).toNatClampNeg
def bOK (σ : jM) : Prop := 0 ≤ σ.1 322 32 ∧ σ.1 322 32 ≤ 900
def oM_feed : jO := joRIIIII fun a x1 x2 x3 x4 x5 σ => (a = 322 ∧ bOK σ, fun v τ => (¬ bfN σ + 20 ≤ 900 ∧ v = some (.int (-3)) ∧ τ = jup σ 322 11 0) ∨ (bfN σ + 20 ≤ 900 ∧ v = some (.int (nI (bfN σ + 20))) ∧ τ = fdS 346 322 32 (jup σ 322 11 0) x1 x2 x3 x4 x5 (bfN σ)))
/-! the text that is written -/
