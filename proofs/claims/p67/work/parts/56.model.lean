/-! the reference: payments -/
theorem iI_tdiv {x y : Int} (hx : iB x) (hy : 0 < y ∧ y < 2147483648) : iI x / iI y = iI (x.tdiv y) := by
  have e1 : (iI x / iI y).toInt = x.tdiv y := by
    rw [Int32.toInt_div_of_ne_right _ _ (fun z => ?_), iI_toInt hx, iI_toInt ⟨by omega, hy.2⟩]
    have h := congrArg Int32.toInt z
    rw [iI_toInt ⟨by omega, hy.2⟩] at h
    have : (-1 : Int32).toInt = -1 := by decide
    omega
  rw [← e1, iI_of]
theorem tdiv_120 (x : Int) : (0 ≤ x → x.tdiv 120 = x / 120) ∧ (x ≤ 0 → x.tdiv 120 = - ((-x) / 120)) := by
  refine ⟨fun h => Int.tdiv_eq_ediv_of_nonneg h, fun h => ?_⟩
  have h2 := Int.tdiv_eq_ediv_of_nonneg (a := -x) (b := 120) (by omega)
  rw [Int.neg_tdiv] at h2
  omega
theorem sI_bd {f : Nat → Int} {B : Int} : ∀ n, (∀ i, i < n → - B ≤ f i ∧ f i ≤ B) → - (B * n) ≤ sI f n ∧ sI f n ≤ B * n
  | 0, _ => by simp [sI]
  | n + 1, h => by
    have i1 := sI_bd n (fun i hi => h i (by omega))
    have i2 := h n (by omega)
    have e : B * ((n + 1 : Nat) : Int) = B * n + B := by rw [Int.natCast_add, Int.mul_add]; simp
    rw [e]
    simp only [sI]
    omega
theorem sI_add (f h : Nat → Int) : ∀ n, sI (fun i => f i + h i) n = sI f n + sI h n
  | 0 => rfl
  | n + 1 => by simp only [sI]; rw [sI_add f h n]; omega
theorem sI_const (c : Int) : ∀ n : Nat, sI (fun _ => c) n = c * n
  | 0 => by simp [sI]
  | n + 1 => by
    simp only [sI]
    rw [sI_const c n, Int.natCast_add, Int.mul_add]
    simp
