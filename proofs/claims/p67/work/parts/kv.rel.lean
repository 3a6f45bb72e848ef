/-! a month's end on the desk -/
theorem i32_B (x : Int32) : iB x.toInt := ⟨Int32.le_toInt x, Int32.toInt_lt x⟩
theorem lI_add (x y : Int) : lI x + lI y = lI (x + y) := (Int64.ofInt_add ..).symm
theorem lI_sub (x y : Int) : lI x - lI y = lI (x - y) := (Int64.ofInt_sub ..).symm
theorem i64_l (x : Int32) : x.toInt64 = lI x.toInt := by
  have h := iI_64 (i32_B x)
  rw [iI_of] at h
  exact h
theorem t64_add {x y : Int32} (h : iB (x.toInt + y.toInt)) : x.toInt64 + y.toInt64 = (x + y).toInt64 := by
  have e : x + y = iI (x.toInt + y.toInt) := by rw [← iI_add, iI_of, iI_of]
  rw [e, iI_64 h, i64_l, i64_l, lI_add]
theorem sI_b9 {y : Nat → Int} {B : Int} : ∀ N, (∀ p, p < N → -B ≤ y p ∧ y p ≤ B) → -(B * N) ≤ sI y N ∧ sI y N ≤ B * N
  | 0, _ => by simp [sI]
  | N + 1, h => by
    have ih := sI_b9 N (fun p hp => h p (by omega))
    have h1 := h N (by omega)
    have e : B * ((N + 1 : Nat) : Int) = B * N + B := by rw [Int.natCast_add]; rw [Int.mul_add]; simp
    rw [e]
    simp only [sI]
    omega
/-- bounds after mo months -/
def rBd (f : Nat → Int32) (N mo : Nat) : Prop := f 5 = nI mo ∧ (∀ p, p < N → (-1000000 ≤ (f (8 + 20 * p + 3)).toInt ∧ (f (8 + 20 * p + 3)).toInt ≤ 1000000) ∧ -(1000000 * (mo : Int)) ≤ (f (8 + 20 * p + 4)).toInt ∧ (f (8 + 20 * p + 4)).toInt ≤ 1000000 * (mo : Int)) ∧ -(6000000 * (mo : Int)) ≤ (f 6).toInt ∧ (f 6).toInt ≤ 6000000 * (mo : Int)
section RPM
variable {σ : dM} {s : jM} {F : Nat → Int32} {N M mo : Nat}
theorem pm_at (hs : mN s = N) {p w : Nat} (hw : w < 20) (h6 : w ≠ 6) (h4 : w ≠ 4) : peF s (clI F N) (8 + 20 * p + w) = F (8 + 20 * p + w) := by
  unfold peF
  rw [if_neg (by omega), if_neg (by omega), clI_at _ hw, if_neg (fun z => h6 z.2.2), if_neg (fun z => h4 z.2.2)]
theorem pm_lo (hs : mN s = N) {j : Nat} (hj : j < 5) : peF s (clI F N) j = F j := by
  unfold peF
  rw [if_neg (by omega), if_neg (by omega), clI_lo _ (by omega)]
theorem pm_4 (hM : M ≤ 4) (hN : N ≤ 5) (hs : mN s = N) (d : dG F M N) {p : Nat} (hp : p < N) : peF s (clI F N) (8 + 20 * p + 4) = F (8 + 20 * p + 4) + F (8 + 20 * p + 3) := by
  unfold peF
  rw [if_neg (by omega), if_neg (by omega), clI_at _ (by omega), if_neg (fun z => absurd z.2.2 (by omega))]
  rcases d.2.2.2.1 p (by omega) with ⟨c1, c2⟩ | ⟨-, -, r, hr, c⟩
  · rw [if_neg (fun z => by rw [c1] at z; exact absurd z.2.1 (by decide)), c2]
    exact (Int32.add_zero _).symm
  · rw [if_pos ⟨hp, by rw [c]; exact (NL_0.1 r (by omega)).mpr (Nat.zero_le _), rfl⟩]
theorem pm_6 (hs : mN s = N) : peF s (clI F N) 6 = iI ((F 6).toInt + ((F 3).toInt - sI (fun p => (F (8 + 20 * p + 3)).toInt) N)) := by
  have e : sm (fun p => clI F N (8 + 20 * p + 3)) N = iI (sI (fun p => (F (8 + 20 * p + 3)).toInt) N) := by
    rw [← sm_iI]
    refine sm_congr N (fun p _ => ?_)
    rw [iI_of, clI_at _ (by omega), if_neg (fun z => absurd z.2.2 (by omega)), if_neg (fun z => absurd z.2.2 (by omega))]
  unfold peF
  rw [if_neg (by omega), if_pos rfl, hs, e, clI_lo _ (by omega), clI_lo _ (by omega), ← iI_add, ← iI_sub, iI_of, iI_of]
theorem pm_b (hN : N ≤ 5) (d : dG F M N) (bd : rBd F N mo) : (0 ≤ (F 3).toInt ∧ (F 3).toInt ≤ 99999) ∧ ∀ k, k ≤ N → -5000000 ≤ sI (fun p => (F (8 + 20 * p + 3)).toInt) k ∧ sI (fun p => (F (8 + 20 * p + 3)).toInt) k ≤ 5000000 := by
  refine ⟨?_, fun k hk => ?_⟩
  · obtain ⟨k, k1, k2, k3⟩ := nI_rng d.1.2.2.1.1 d.1.2.2.1.2 (by decide)
    rw [k2, nI_toInt (by omega)]
    omega
  · have := sI_b9 (y := fun p => (F (8 + 20 * p + 3)).toInt) (B := 1000000) k (fun p hp => ⟨by have := (bd.2.1 p (by omega)).1.1; omega, by have := (bd.2.1 p (by omega)).1.2; omega⟩)
    omega
theorem pm_A (h : rDf σ F N M) : ∀ k, k ≤ N → psA σ k = lI ((F 6).toInt + (F 3).toInt - sI (fun p => (F (8 + 20 * p + 3)).toInt) k)
  | 0, _ => by
    show DL σ 1000 18 + (DI σ 1000 12).toInt64 = _
    rw [h.2.2.2.2.2.2.2.2, h.2.2.1, i64_l, i64_l, lI_add]
    simp [sI]
  | k + 1, hk => by
    show psA σ k - (DI σ 1103 k).toInt64 = _
    rw [pm_A h k (by omega), (h.1 k (by omega)).2.2.2.1, i64_l, lI_sub]
    congr 1
    simp only [sI]
    omega
/-- the month's end: the desk, its row, its bounds -/
theorem rPm_D (hN : N ≤ 5) (hM : M ≤ 4) (hs : mN s = N) (d : dG F M N) (h : rDf σ F N M) (bd : rBd F N mo) (hmo : mo ≤ 300) : rDf (DuI (psD σ N) 1000 17 (DI σ 1000 17 + 1)) (peF s (clI F N)) N M := by
  obtain ⟨b1, b2⟩ := pm_b hN d bd
  have bN := b2 N (Nat.le_refl _)
  obtain ⟨bd1, bd2, bd3, bd4⟩ := bd
  obtain ⟨h1, h2, h3⟩ := id h
  have o : ∀ i j, ¬ (i = 1000 ∧ j = 17) → DI (DuI (psD σ N) 1000 17 (DI σ 1000 17 + 1)) i j = DI σ i j := fun i j a => by rw [DuI_I, if_neg a]; rfl
  refine ⟨fun p hp => ?_, fun p r hp hr => ?_, ?_⟩
  · obtain ⟨a1, a2, a3, a4, a5, a6⟩ := h1 p hp
    rw [o 1100 p (by omega), o 1101 p (by omega), o 1102 p (by omega), o 1103 p (by omega), o 1104 p (by omega), pm_at hs (w := 0) (by omega) (by omega) (by omega), pm_at hs (w := 1) (by omega) (by omega) (by omega), pm_at hs (w := 2) (by omega) (by omega) (by omega), pm_at hs (w := 3) (by omega) (by omega) (by omega), pm_at hs (w := 5) (by omega) (by omega) (by omega), pm_4 hM hN hs d hp, DuI_L, psD_L, if_pos ⟨rfl, hp⟩, a5, a4]
    refine ⟨a1, a2, a3, rfl, t64_add ?_, a6⟩
    have := bd2 p hp
    constructor <;> omega
  · rw [o (1110 + p) r (by omega), o (1200 + p) r (by omega), pm_at hs (w := 7 + r) (by omega) (by omega) (by omega), pm_at hs (w := 13 + r) (by omega) (by omega) (by omega)]
    exact h2 p r hp hr
  · obtain ⟨a1, a2, a3, a4, a5, a6, a7⟩ := h3
    rw [o 1000 12 (by omega), o 1000 13 (by omega), o 1000 14 (by omega), o 1000 15 (by omega), o 1000 16 (by omega), pm_lo hs (j := 3) (by omega), pm_lo hs (j := 4) (by omega), pm_lo hs (j := 0) (by omega), pm_lo hs (j := 1) (by omega), pm_lo hs (j := 2) (by omega)]
    refine ⟨a1, a2, a3, a4, a5, ?_, ?_⟩
    · rw [DuI_I, if_pos ⟨rfl, rfl⟩, a6]
      unfold peF
      rw [if_pos rfl, clI_lo _ (by omega)]
    · rw [DuI_L, psD_L, if_neg (by omega), if_pos ⟨rfl, rfl⟩, pm_A h N (Nat.le_refl _), pm_6 hs, iI_64 (by constructor <;> omega)]
      congr 1
      omega
theorem rBd_pm (hN : N ≤ 5) (hM : M ≤ 4) (hs : mN s = N) (d : dG F M N) (bd : rBd F N mo) (hmo : mo ≤ 300) : rBd (peF s (clI F N)) N (mo + 1) := by
  obtain ⟨b1, b2⟩ := pm_b hN d bd
  have bN := b2 N (Nat.le_refl _)
  obtain ⟨bd1, bd2, bd3, bd4⟩ := bd
  refine ⟨?_, fun p hp => ⟨?_, ?_⟩, ?_⟩
  · unfold peF
    rw [if_pos rfl, clI_lo _ (by omega), bd1, nI_1]
  · rw [pm_at hs (w := 3) (by omega) (by omega) (by omega)]
    exact (bd2 p hp).1
  · rw [pm_4 hM hN hs d hp]
    have q := bd2 p hp
    have e : F (8 + 20 * p + 4) + F (8 + 20 * p + 3) = iI ((F (8 + 20 * p + 4)).toInt + (F (8 + 20 * p + 3)).toInt) := by rw [← iI_add, iI_of, iI_of]
    rw [e, iI_toInt (by constructor <;> omega)]
    omega
  · rw [pm_6 hs, iI_toInt (by constructor <;> omega)]
    omega
theorem dk_pm (hk : dk σ N M) (x : Int32) : dk (DuI (psD σ N) 1000 17 x) N M := by
  refine dk_of hk ⟨?_, ?_⟩ (fun _ _ => rfl) (fun _ _ _ _ => rfl) (fun _ _ => rfl) (fun p hp r => ?_)
  · rw [DuI_I, if_neg (by omega)]; rfl
  · rw [DuI_I, if_neg (by omega)]; rfl
  · rw [DuI_I, if_neg (by omega)]; rfl
end RPM
