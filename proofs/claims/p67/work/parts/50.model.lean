/-! the reference: the extremes of the prices -/
def iI (x : Int) : Int32 := Int32.ofInt x
theorem iI_toInt {x : Int} (h : -2147483648 ≤ x ∧ x < 2147483648) : (iI x).toInt = x := by
  unfold iI
  rw [Int32.toInt_ofInt]
  rw [Int.bmod_def]
  simp only [Int32.size]
  omega
theorem iI_of (x : Int32) : iI x.toInt = x := Int32.ofInt_toInt x
theorem iI_add (x y : Int) : iI x + iI y = iI (x + y) := (Int32.ofInt_add ..).symm
theorem iI_sub (x y : Int) : iI x - iI y = iI (x - y) := (Int32.ofInt_sub ..).symm
theorem iI_mul (x y : Int) : iI x * iI y = iI (x * y) := (Int32.ofInt_mul ..).symm
theorem iI_nat (n : Nat) : iI (n : Int) = nI n := rfl
abbrev iB (x : Int) : Prop := -2147483648 ≤ x ∧ x < 2147483648
theorem iI_lt {x y : Int} (hx : iB x) (hy : iB y) : iI x < iI y ↔ x < y := by
  rw [Int32.lt_iff_toInt_lt, iI_toInt hx, iI_toInt hy]
theorem iI_le {x y : Int} (hx : iB x) (hy : iB y) : iI x ≤ iI y ↔ x ≤ y := by
  rw [Int32.le_iff_toInt_le, iI_toInt hx, iI_toInt hy]
theorem iI_eq {x y : Int} (hx : iB x) (hy : iB y) : iI x = iI y ↔ x = y := by
  refine ⟨fun h => ?_, fun h => by rw [h]⟩
  rw [← iI_toInt hx, ← iI_toInt hy, h]
theorem qpl_is {p : Nat → Bool} : ∀ {N i : Nat}, i < cn p N → p (qpl p N i) = true ∧ qpl p N i < N ∧ cn p (qpl p N i) = i
  | 0, i, h => by simp [cn] at h
  | N + 1, i, h => by
    simp only [qpl]
    by_cases e : p N = true ∧ cn p N = i
    · rw [if_pos e]
      exact ⟨e.1, by omega, e.2⟩
    · rw [if_neg e]
      have h2 : i < cn p N := by
        simp only [cn] at h
        by_cases e2 : p N = true
        · have : cn p N ≠ i := fun q => e ⟨e2, q⟩
          rw [if_pos e2] at h
          omega
        · rw [if_neg e2] at h
          omega
      obtain ⟨h3, h4, h5⟩ := qpl_is h2
      exact ⟨h3, by omega, h5⟩
theorem cn_inj {p : Nat → Bool} {i j : Nat} (hi : p i = true) (hj : p j = true) (h : cn p i = cn p j) : i = j := by
  by_cases c : i < j
  · have := cn_lt hi c; omega
  · by_cases c2 : j < i
    · have := cn_lt hj c2; omega
    · omega
def hC (σ : jM) (a : Nat × Nat × (Nat → Nat)) : Prop := mOK σ ∧ dOK (σ.1 323) ∧ dC σ = some a ∧ accOK σ (some a)
theorem hC_q {σ : jM} {a : Nat × Nat × (Nat → Nat)} (h : dC σ = some a) : qT (dW (σ.1 323) (mN σ)) (mRo σ) (mLiv σ) 0 0 = some a ∧ mLiv σ ≠ 0 := by
  unfold dC at h
  by_cases e : mLiv σ = 0
  · rw [if_pos e] at h; cases h
  · rw [if_neg e] at h
    exact ⟨h, e⟩
theorem mN_le {σ : jM} (h : mOK σ) : mN σ ≤ 10 ∧ σ.1 322 4 = nI (mN σ) := by
  obtain ⟨N, hN, hN1, hN2⟩ := nI_rng h.1.1 h.1.2 (by decide)
  rw [mN, hN2]
  exact ⟨hN, hN1⟩
theorem mRo_le {σ : jM} (h : mOK σ) : mRo σ ≤ 6 ∧ σ.1 322 3 = nI (mRo σ) := by
  obtain ⟨N, hN, hN1, hN2⟩ := nI_rng h.2.1.1 h.2.1.2 (by decide)
  rw [mRo, hN2]
  exact ⟨hN, hN1⟩
theorem qpl_lt (p : Nat → Bool) : ∀ (N i : Nat), qpl p N i < N ∨ qpl p N i = 0
  | 0, _ => Or.inr rfl
  | N + 1, i => by
    simp only [qpl]
    split
    · omega
    · have := qpl_lt p N i
      omega
theorem dW_le {f : Nat → Int32} (hd : dOK f) {N : Nat} (hN : N ≤ 10) (i r v : Nat) (hr : r < 6) (h : dW f N i r = some v) : v ≤ 9999 := by
  unfold dW at h
  split at h
  · cases h
  · have h1 := qpl_lt (dL f) N i
    obtain ⟨w, h2, h3, h4⟩ := nI_rng (hd (qpl (dL f) N i) (by omega) r hr).1 (hd (qpl (dL f) N i) (by omega) r hr).2 (by decide)
    rw [h4] at h
    cases h
    exact h2
theorem hC_all {σ : jM} {a : Nat × Nat × (Nat → Nat)} (h : hC σ a) : (∀ j, j < mLiv σ → a.2.2 j < mRo σ ∧ (dW (σ.1 323) (mN σ) j (a.2.2 j)).isSome = true) ∧ (∀ i j, i < mLiv σ → j < mLiv σ → a.2.2 i = a.2.2 j → i = j) ∧ mLiv σ ≤ mRo σ ∧ sol (mLiv σ) (gE (dW (σ.1 323) (mN σ)) a.2.2) (gG (dW (σ.1 323) (mN σ)) a.2.2) (gLo (dW (σ.1 323) (mN σ)) a.2.2 (mLiv σ)) ∧ sol (mLiv σ) (fun p q => gE (dW (σ.1 323) (mN σ)) a.2.2 q p) (fun p q => gG (dW (σ.1 323) (mN σ)) a.2.2 q p) (gHi (dW (σ.1 323) (mN σ)) a.2.2 (mLiv σ)) := qT_best (mRo_le h.1).1 (hC_q h.2.2.1).1
theorem not_m1 : ¬ (0 : Int32) ≤ -1 := by decide
