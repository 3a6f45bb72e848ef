/-! the reference: its history, its changes -/
def mMost (x : Int32) : Int32 := if x = 0 then 2 else if x = 1 then 100 else 1
theorem jin_3 {x : Int32} (h : mIn x 0 2 = true) (m : Nat) (hm : 3 ≤ m) : jin x m := by
  simp only [mIn, decide_eq_true_eq] at h
  exact jin_le (jin_of (n := 3) (m := 3) h.1 (by grind) rfl) hm
