/-! the reference (cell 322): its row of numbers (323) and what it reads of it -/
theorem tn_nI {i : Int32} {n : Nat} (h : jin i n) : i = nI i.toNatClampNeg ∧ i.toNatClampNeg < n ∧ i.toNatClampNeg < 2147483648 := by
  have h0 := jin_lt h
  have h1 : ¬ i < 0 := by
    rw [Int32.lt_iff_toInt_lt]
    have := h.1
    simp only [Int32.toInt_zero]
    omega
  obtain ⟨j, h2, h3⟩ := nI_of h1
  subst h3
  rw [nI_clamp h2] at h0 ⊢
  exact ⟨rfl, h0, h2⟩
def mIn (x l h : Int32) : Bool := decide (l ≤ x ∧ x ≤ h)
def mR (σ : jM) (x : Int32) : Bool := mIn x 0 (σ.1 322 3 - 1)
def mP (σ : jM) (x : Int32) : Bool := mIn x 0 (σ.1 322 4 - 1)
/-- a person's number by its place -/
def mD (σ : jM) (p w : Nat) : Int32 := σ.1 323 (8 + 20 * p + w)
theorem tn_c : (0 : Int32).toNatClampNeg = 0 ∧ (1 : Int32).toNatClampNeg = 1 ∧ (2 : Int32).toNatClampNeg = 2 ∧ (3 : Int32).toNatClampNeg = 3 ∧ (4 : Int32).toNatClampNeg = 4 ∧ (5 : Int32).toNatClampNeg = 5 ∧ (6 : Int32).toNatClampNeg = 6 ∧ (7 : Int32).toNatClampNeg = 7 ∧ (10 : Int32).toNatClampNeg = 10 := by decide
/-- how many rooms, people and plans there may be -/
def mOK (σ : jM) : Prop := (0 ≤ σ.1 322 4 ∧ σ.1 322 4 ≤ 10) ∧ (0 ≤ σ.1 322 3 ∧ σ.1 322 3 ≤ 6) ∧ 0 ≤ σ.1 322 5 ∧ σ.1 322 5 ≤ 20
def mN (σ : jM) : Nat := (σ.1 322 4).toNatClampNeg
theorem jin_le {x : Int32} {n m : Nat} (h : jin x n) (hm : n ≤ m) : jin x m := ⟨h.1, by have := h.2; omega⟩
/-- how many are LIVING -/
def mLiv (σ : jM) : Nat := cn (fun j => decide (mD σ j 0 = 1)) (mN σ)
