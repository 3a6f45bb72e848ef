/-! the units that are left: one by one to the greatest remainders -/
/-- the first of the greatest that are not below 0 -/
def hoB (r : Nat → Int) : Nat → Option Nat
  | 0 => none
  | k + 1 => match hoB r k with
    | none => if 0 ≤ r k then some k else none
    | some b => if 0 ≤ r k ∧ r b < r k then some k else some b
def hoU (r : Nat → Int) (b : Nat) : Nat → Int := fun i => if i = b then -1 else r i
def hoA (s : Nat → Int32) (b : Nat) : Nat → Int32 := fun i => if i = b then s i + 1 else s i
def hoS (m : Nat) : Nat → (Nat → Int) → (Nat → Int32) → Nat → Int32
  | 0, _, s => s
  | n + 1, r, s => match hoB r m with
    | none => s
    | some b => hoS m n (hoU r b) (hoA s b)
def hoN (r : Nat → Int) (m : Nat) : Nat := cn (fun i => decide (0 ≤ r i)) m
theorem hoB_lt {r : Nat → Int} : ∀ {k b : Nat}, hoB r k = some b → b < k ∧ 0 ≤ r b
  | 0, b, h => by cases h
  | k + 1, b, h => by
    simp only [hoB] at h
    rcases e : hoB r k with _ | c
    · rw [e] at h
      dsimp only at h
      split at h
      · cases h; exact ⟨by omega, by assumption⟩
      · cases h
    · rw [e] at h
      dsimp only at h
      have := hoB_lt e
      split at h
      · rename_i hh
        cases h; exact ⟨by omega, hh.1⟩
      · cases h; exact ⟨by omega, this.2⟩
theorem hoB_none {r : Nat → Int} : ∀ {k : Nat}, hoB r k = none → ∀ i, i < k → r i < 0
  | 0, _, i, hi => by omega
  | k + 1, h, i, hi => by
    simp only [hoB] at h
    rcases e : hoB r k with _ | c
    · rw [e] at h
      dsimp only at h
      split at h
      · cases h
      · by_cases e1 : i = k
        · subst e1; omega
        · exact hoB_none e i (by omega)
    · rw [e] at h
      dsimp only at h
      split at h <;> cases h
theorem hoN_pos {r : Nat → Int} {m : Nat} (h : hoB r m = none) : hoN r m = 0 := by
  unfold hoN
  have : ∀ k, k ≤ m → cn (fun i => decide (0 ≤ r i)) k = 0 := by
    intro k
    induction k with
    | zero => intro _; rfl
    | succ k ih =>
      intro hk
      have h1 := hoB_none h k (by omega)
      simp only [cn]
      rw [ih (by omega), if_neg (by simp; omega)]
  exact this m (Nat.le_refl _)
theorem hoN_upd {r : Nat → Int} {b : Nat} (hb : 0 ≤ r b) : ∀ k, hoN (hoU r b) k = hoN r k - (if b < k then 1 else 0) ∧ (b < k → 0 < hoN r k)
  | 0 => ⟨rfl, fun h => by omega⟩
  | k + 1 => by
    obtain ⟨ih, ih2⟩ := hoN_upd hb k
    unfold hoN at ih ih2 ⊢
    simp only [cn]
    rw [ih]
    by_cases e : b = k
    · subst e
      have : ¬ b < b := by omega
      simp [hoU, hb, this]
    · by_cases e2 : b < k
      · have p := ih2 e2
        have e3 : b < k + 1 := by omega
        have e4 : decide (0 ≤ hoU r b k) = decide (0 ≤ r k) := by simp only [show hoU r b k = r k from if_neg (by omega)]
        rw [if_pos e2, if_pos e3]
        simp only [e4]
        refine ⟨?_, fun _ => by omega⟩
        split <;> omega
      · have e3 : ¬ b < k + 1 := by omega
        have e4 : decide (0 ≤ hoU r b k) = decide (0 ≤ r k) := by simp only [show hoU r b k = r k from if_neg (by omega)]
        rw [if_neg e2, if_neg e3]
        simp only [e4]
        exact ⟨by omega, fun z => absurd z e3⟩
theorem hoB_congr {r r' : Nat → Int} : ∀ (k : Nat), (∀ i, i < k → r i = r' i) → hoB r k = hoB r' k
  | 0, _ => rfl
  | k + 1, h => by
    simp only [hoB]
    rw [hoB_congr k (fun i hi => h i (by omega))]
    rcases e : hoB r' k with _ | c
    · dsimp only; rw [h k (by omega)]
    · have := hoB_lt e
      dsimp only
      rw [h k (by omega), h c (by omega)]
theorem hoS_congr {m : Nat} : ∀ (n : Nat) (r r' : Nat → Int) (s s' : Nat → Int32), (∀ i, i < m → r i = r' i ∧ s i = s' i) → ∀ i, i < m → hoS m n r s i = hoS m n r' s' i
  | 0, r, r', s, s', h, i, hi => (h i hi).2
  | n + 1, r, r', s, s', h, i, hi => by
    simp only [hoS]
    rw [hoB_congr m (fun i hi => (h i hi).1)]
    rcases hoB r' m with _ | b
    · exact (h i hi).2
    · refine hoS_congr n _ _ _ _ (fun j hj => ?_) i hi
      unfold hoU hoA
      rw [(h j hj).1, (h j hj).2]
      exact ⟨rfl, rfl⟩
/-- the sum of the first n -/
def smN (f : Nat → Nat) : Nat → Nat
  | 0 => 0
  | n + 1 => smN f n + f n
theorem smN_le {f : Nat → Nat} {B : Nat} : ∀ (n : Nat), (∀ i, i < n → f i ≤ B) → smN f n ≤ B * n
  | 0, _ => Nat.zero_le _
  | n + 1, h => by
    have := smN_le n (fun i hi => h i (by omega))
    have := h n (by omega)
    simp only [smN]
    rw [Nat.mul_add]
    omega
theorem smN_congr {f h : Nat → Nat} : ∀ (n : Nat), (∀ j, j < n → f j = h j) → smN f n = smN h n
  | 0, _ => rfl
  | n + 1, q => by
    simp only [smN]
    rw [smN_congr n (fun j hj => q j (by omega)), q n (by omega)]
theorem smN_mul (f : Nat → Nat) (c : Nat) : ∀ n, smN (fun i => c * f i) n = c * smN f n
  | 0 => rfl
  | n + 1 => by simp only [smN]; rw [smN_mul f c n, Nat.mul_add]
theorem smN_add (f h : Nat → Nat) : ∀ n, smN (fun i => f i + h i) n = smN f n + smN h n
  | 0 => rfl
  | n + 1 => by simp only [smN]; rw [smN_add f h n]; omega
theorem smN_1 : ∀ n, smN (fun _ => 1) n = n
  | 0 => rfl
  | n + 1 => by simp only [smN]; rw [smN_1 n]
/-- an amount A is split among m by weights -/
def spA (w : Nat → Nat) (m : Nat) : Nat := if smN w m = 0 then m else smN w m
def spW (w : Nat → Nat) (m i : Nat) : Nat := if smN w m = 0 then 1 else w i
def spP (A : Nat) (w : Nat → Nat) (m i : Nat) : Nat := A * spW w m i / spA w m
def spR (A : Nat) (w : Nat → Nat) (m i : Nat) : Nat := A * spW w m i % spA w m
def spL (A : Nat) (w : Nat → Nat) (m : Nat) : Nat := A - smN (spP A w m) m
def spS (A : Nat) (w : Nat → Nat) (m : Nat) : Nat → Int32 := hoS m (spL A w m) (fun i => (spR A w m i : Int)) (fun i => nI (spP A w m i))
theorem spA_sum (w : Nat → Nat) (m : Nat) : smN (spW w m) m = spA w m := by
  unfold spA
  by_cases h : smN w m = 0
  · rw [if_pos h]
    have e : smN (spW w m) m = smN (fun _ => 1) m := smN_congr m (fun j _ => if_pos h)
    rw [e, smN_1]
  · rw [if_neg h]
    exact smN_congr m (fun j _ => if_neg h)
theorem smN_mono {f h : Nat → Nat} : ∀ (n : Nat), (∀ i, i < n → f i ≤ h i) → smN f n ≤ smN h n
  | 0, _ => Nat.le_refl _
  | n + 1, q => by
    have := smN_mono n (fun i hi => q i (by omega))
    have := q n (by omega)
    simp only [smN]
    omega
theorem sp_le (A : Nat) (w : Nat → Nat) {m : Nat} (hm : 0 < m) : 0 < spA w m ∧ smN (spP A w m) m ≤ A ∧ spL A w m < m := by
  have h0 : 0 < spA w m := by unfold spA; split <;> omega
  have h1 : smN (fun i => A * spW w m i) m = A * spA w m := by rw [smN_mul, spA_sum]
  have h2 : smN (fun i => spA w m * spP A w m i + spR A w m i) m = smN (fun i => A * spW w m i) m := smN_congr m (fun j _ => Nat.div_add_mod _ _)
  rw [smN_add, smN_mul, h1] at h2
  have h3 : smN (spR A w m) m ≤ (spA w m - 1) * m := smN_le m (fun i _ => by
    have := Nat.mod_lt (A * spW w m i) h0
    show A * spW w m i % spA w m ≤ _
    omega)
  have h4 : spA w m * smN (spP A w m) m ≤ spA w m * A := by rw [Nat.mul_comm (spA w m) A]; omega
  have h5 : smN (spP A w m) m ≤ A := Nat.le_of_mul_le_mul_left h4 h0
  refine ⟨h0, h5, ?_⟩
  unfold spL
  have h6 : spA w m * (A - smN (spP A w m) m) = smN (spR A w m) m := by
    rw [Nat.mul_sub, Nat.mul_comm (spA w m) A]
    omega
  have h7 : (spA w m - 1) * m < spA w m * m := (Nat.mul_lt_mul_right hm).mpr (by omega)
  exact Nat.lt_of_mul_lt_mul_left (a := spA w m) (by omega)
/-- whole numbers as longs -/
def lI (x : Int) : Int64 := Int64.ofInt x
abbrev lB (x : Int) : Prop := -9223372036854775808 ≤ x ∧ x < 9223372036854775808
theorem lI_toInt {x : Int} (h : lB x) : (lI x).toInt = x := by
  unfold lI
  rw [Int64.toInt_ofInt]
  rw [Int.bmod_def]
  simp only [Int64.size]
  omega
theorem lI_lt {x y : Int} (hx : lB x) (hy : lB y) : lI x < lI y ↔ x < y := by
  rw [Int64.lt_iff_toInt_lt, lI_toInt hx, lI_toInt hy]
theorem lI_le {x y : Int} (hx : lB x) (hy : lB y) : lI x ≤ lI y ↔ x ≤ y := by
  rw [Int64.le_iff_toInt_le, lI_toInt hx, lI_toInt hy]
theorem lI_nat (n : Nat) : lI (n : Int) = lN n := rfl
theorem lI_m1 : lI (-1) = -1 := rfl
theorem lI_0 : lI 0 = 0 := rfl
/-- a sum over those who live is one over the places -/
theorem smN_cn (l : Nat → Bool) (f : Nat → Nat) : ∀ k, smN (fun p => if l p = true then f (cn l p) else 0) k = smN f (cn l k)
  | 0 => rfl
  | k + 1 => by
    simp only [smN, cn]
    rw [smN_cn l f k]
    by_cases h : l k = true
    · rw [if_pos h, if_pos h]; rfl
    · rw [if_neg h, if_neg h]; rfl
theorem sm_cn (l : Nat → Bool) (f : Nat → Int32) : ∀ k, sm (fun p => if l p = true then f (cn l p) else 0) k = sm f (cn l k)
  | 0 => rfl
  | k + 1 => by
    simp only [sm, cn]
    rw [sm_cn l f k]
    by_cases h : l k = true
    · rw [if_pos h, if_pos h]; rfl
    · rw [if_neg h, if_neg h]; simp
theorem sm_congr {f h : Nat → Int32} : ∀ (n : Nat), (∀ j, j < n → f j = h j) → sm f n = sm h n
  | 0, _ => rfl
  | n + 1, q => by
    simp only [sm]
    rw [sm_congr n (fun j hj => q j (by omega)), q n (by omega)]
