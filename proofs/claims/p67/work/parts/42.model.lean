/-! the reference: its history, its changes -/
def mSh (σ : jM) (k : Nat) : jM := (fun i j => if i = 324 ∧ j < k then σ.1 324 (j + 208) else σ.1 i j, σ.2)
def mCp (σ : jM) (h k : Nat) : jM := (fun i j => if i = 324 ∧ h * 208 ≤ j ∧ j < h * 208 + k then σ.1 323 (j - h * 208) else σ.1 i j, σ.2)
theorem mSh_1 (σ : jM) (k i j : Nat) : (mSh σ k).1 i j = if i = 324 ∧ j < k then σ.1 324 (j + 208) else σ.1 i j := rfl
theorem mCp_1 (σ : jM) (h k i j : Nat) : (mCp σ h k).1 i j = if i = 324 ∧ h * 208 ≤ j ∧ j < h * 208 + k then σ.1 323 (j - h * 208) else σ.1 i j := rfl
def mH (σ : jM) : Prop := 0 ≤ σ.1 322 2 ∧ σ.1 322 2 ≤ 10
abbrev mHs (σ : jM) : Nat := (σ.1 322 2).toNatClampNeg
def mRem (σ : jM) : jM := if σ.1 322 2 = 10 then jup (mCp (jup (mSh σ 1872) 322 2 9) 9 208) 322 2 10 else jup (mCp σ (mHs σ) 208) 322 2 (σ.1 322 2 + 1)
theorem mRem_o (σ : jM) (a j : Nat) (h1 : a ≠ 324) (h2 : ¬ (a = 322 ∧ j = 2)) : (mRem σ).1 a j = σ.1 a j := by
  unfold mRem
  split <;> simp [jup_1, mCp_1, mSh_1, h1, h2]
def oM_setLease : jO := joRI fun a x σ => (a = 322 ∧ mH σ, fun v τ => v = some (.int (if mIn x 0 99999 then σ.1 323 3 else -2)) ∧ τ = if mIn x 0 99999 then jup (mRem (jup σ 322 11 0)) 323 3 x else jup σ 322 11 0)
def mMost (x : Int32) : Int32 := if x = 0 then 2 else if x = 1 then 100 else 1
theorem jin_3 {x : Int32} (h : mIn x 0 2 = true) (m : Nat) (hm : 3 ≤ m) : jin x m := by
  simp only [mIn, decide_eq_true_eq] at h
  exact jin_le (jin_of (n := 3) (m := 3) h.1 (by grind) rfl) hm
def oM_setSetting : jO := joRII fun a x y σ => (a = 322 ∧ mH σ, fun v τ => v = some (.int (if mIn x 0 2 ∧ mIn y 0 (mMost x) then σ.1 323 x.toNatClampNeg else -2)) ∧ τ = if mIn x 0 2 ∧ mIn y 0 (mMost x) then jup (mRem (jup σ 322 11 0)) 323 x.toNatClampNeg y else jup σ 322 11 0)
