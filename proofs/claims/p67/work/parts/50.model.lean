/-! the reference: the extremes of the prices -/
def iI (x : Int) : Int32 := Int32.ofInt x
theorem iI_toInt {x : Int} (h : -2147483648 ≤ x ∧ x < 2147483648) : (iI x).toInt = x := by
  unfold iI
  rw [Int32.toInt_ofInt]
  rw [Int.bmod_def]
  simp only [Int32.size]
  omega
theorem iI_of (x : Int32) : iI x.toInt = x := Int32.ofInt_toInt x
theorem iI_add (x y : Int) : iI x + iI y = iI (x + y) := (Int32.ofInt_add ..).symm
theorem iI_sub (x y : Int) : iI x - iI y = iI (x - y) := (Int32.ofInt_sub ..).symm
theorem iI_mul (x y : Int) : iI x * iI y = iI (x * y) := (Int32.ofInt_mul ..).symm
theorem iI_nat (n : Nat) : iI (n : Int) = nI n := rfl
abbrev iB (x : Int) : Prop := -2147483648 ≤ x ∧ x < 2147483648
theorem iI_lt {x y : Int} (hx : iB x) (hy : iB y) : iI x < iI y ↔ x < y := by
  rw [Int32.lt_iff_toInt_lt, iI_toInt hx, iI_toInt hy]
theorem iI_le {x y : Int} (hx : iB x) (hy : iB y) : iI x ≤ iI y ↔ x ≤ y := by
  rw [Int32.le_iff_toInt_le, iI_toInt hx, iI_toInt hy]
theorem iI_eq {x y : Int} (hx : iB x) (hy : iB y) : iI x = iI y ↔ x = y := by
  refine ⟨fun h => ?_, fun h => by rw [h]⟩
  rw [← iI_toInt hx, ← iI_toInt hy, h]
theorem qpl_is {p : Nat → Bool} : ∀ {N i : Nat}, i < cn p N → p (qpl p N i) = true ∧ qpl p N i < N ∧ cn p (qpl p N i) = i
  | 0, i, h => by simp [cn] at h
  | N + 1, i, h => by
    simp only [qpl]
    by_cases e : p N = true ∧ cn p N = i
    · rw [if_pos e]
      exact ⟨e.1, by omega, e.2⟩
    · rw [if_neg e]
      have h2 : i < cn p N := by
        simp only [cn] at h
        by_cases e2 : p N = true
        · have : cn p N ≠ i := fun q => e ⟨e2, q⟩
          rw [if_pos e2] at h
          omega
        · rw [if_neg e2] at h
          omega
      obtain ⟨h3, h4, h5⟩ := qpl_is h2
      exact ⟨h3, by omega, h5⟩
theorem cn_inj {p : Nat → Bool} {i j : Nat} (hi : p i = true) (hj : p j = true) (h : cn p i = cn p j) : i = j := by
  by_cases c : i < j
  · have := cn_lt hi c; omega
  · by_cases c2 : j < i
    · have := cn_lt hj c2; omega
    · omega
def hC (σ : jM) (a : Nat × Nat × (Nat → Nat)) : Prop := mOK σ ∧ dOK (σ.1 323) ∧ dC σ = some a ∧ accOK σ (some a)
theorem not_m1 : ¬ (0 : Int32) ≤ -1 := by decide
