/-! the desk's row changed at one place, and in its bounds -/
section RCH
variable {σ : dM} {f : Nat → Int32} {N M mo : Nat}
theorem rDf_1 (h : rDf σ f N M) {j w : Nat} (x : Int32) (hc : (j = 12 ∧ w = 3) ∨ (j = 14 ∧ w = 0) ∨ (j = 15 ∧ w = 1) ∨ (j = 16 ∧ w = 2)) (hN : N ≤ 5) : rDf (DuI σ 1000 j x) (fu f w x) N M := by
  obtain ⟨h1, h2, a1, a2, a3, a4, a5, a6, a7⟩ := h
  have o : ∀ i k, i ≠ 1000 → DI (DuI σ 1000 j x) i k = DI σ i k := fun i k a => by rw [DuI_I, if_neg (fun z => a z.1)]
  have q : ∀ k, 8 ≤ k → fu f w x k = f k := fun k a => fu_n _ _ (by omega)
  refine ⟨fun p hp => ?_, fun p r hp hr => ?_, ?_⟩
  · rw [o 1100 p (by omega), o 1101 p (by omega), o 1102 p (by omega), o 1103 p (by omega), o 1104 p (by omega), DuI_L, q _ (by omega), q _ (by omega), q _ (by omega), q _ (by omega), q _ (by omega), q _ (by omega)]
    exact h1 p hp
  · rw [o (1110 + p) r (by omega), o (1200 + p) r (by omega), q _ (by omega), q _ (by omega)]
    exact h2 p r hp hr
  · rcases hc with ⟨rfl, rfl⟩ | ⟨rfl, rfl⟩ | ⟨rfl, rfl⟩ | ⟨rfl, rfl⟩ <;> simp [DuI_I, DuI_L, fu, a1, a2, a3, a4, a5, a6, a7]
theorem fu_at {x : Int32} {p p' w w' : Nat} (hw : w < 20) (hw' : w' < 20) : fu f (8 + 20 * p + w) x (8 + 20 * p' + w') = if p' = p ∧ w' = w then x else f (8 + 20 * p' + w') := by
  unfold fu
  by_cases c : p' = p ∧ w' = w
  · rw [if_pos c, if_pos (by rw [c.1, c.2])]
  · rw [if_neg c, if_neg (by omega)]
theorem fu_lo {x : Int32} {p w j : Nat} (hj : j < 8) : fu f (8 + 20 * p + w) x j = f j := fu_n _ _ (by omega)
theorem rDf_p (h : rDf σ f N M) {a p w : Nat} (x : Int32) (hp : p < N) (hc : (a = 1100 ∧ w = 0) ∨ (a = 1102 ∧ w = 2) ∨ (a = 1103 ∧ w = 3)) (hN : N ≤ 5) (hM : M ≤ 4) : rDf (DuI σ a p x) (fu f (8 + 20 * p + w) x) N M := by
  obtain ⟨h1, h2, h3⟩ := h
  have o : ∀ i k, i ≠ a → DI (DuI σ a p x) i k = DI σ i k := fun i k a => by rw [DuI_I, if_neg (fun z => a z.1)]
  have hw : w < 20 := by omega
  refine ⟨fun p' hp' => ?_, fun p' r hp' hr => ?_, ?_⟩
  · obtain ⟨a1, a2, a3, a4, a5, a6⟩ := h1 p' hp'
    rw [DuI_I, DuI_I, DuI_I, DuI_I, DuI_I, DuI_L, fu_at hw (by omega), fu_at hw (by omega), fu_at hw (by omega), fu_at hw (by omega), fu_at hw (by omega), fu_at hw (by omega), a1, a2, a3, a4, a5, a6]
    rcases hc with ⟨rfl, rfl⟩ | ⟨rfl, rfl⟩ | ⟨rfl, rfl⟩ <;> by_cases c : p' = p <;> simp [c]
  · rw [o (1110 + p') r (by omega), o (1200 + p') r (by omega), fu_at hw (by omega), fu_at hw (by omega), if_neg (by omega), if_neg (by omega)]
    exact h2 p' r hp' hr
  · rw [o 1000 12 (by omega), o 1000 13 (by omega), o 1000 14 (by omega), o 1000 15 (by omega), o 1000 16 (by omega), o 1000 17 (by omega), fu_lo (j := 3) (by omega), fu_lo (j := 4) (by omega), fu_lo (j := 0) (by omega), fu_lo (j := 1) (by omega), fu_lo (j := 2) (by omega), fu_lo (j := 5) (by omega), fu_lo (j := 6) (by omega)]
    exact h3
theorem rDf_v (h : rDf σ f N M) {a p w r : Nat} (x : Int32) (hp : p < N) (hr : r < M) (hc : (a = 1110 + p ∧ w = 7 + r) ∨ (a = 1200 + p ∧ w = 13 + r)) (hN : N ≤ 5) (hM : M ≤ 4) : rDf (DuI σ a r x) (fu f (8 + 20 * p + w) x) N M := by
  obtain ⟨h1, h2, h3⟩ := h
  have o : ∀ i k, i ≠ a → DI (DuI σ a r x) i k = DI σ i k := fun i k a => by rw [DuI_I, if_neg (fun z => a z.1)]
  have hw : w < 20 := by omega
  refine ⟨fun p' hp' => ?_, fun p' r' hp' hr' => ?_, ?_⟩
  · rw [o 1100 p' (by omega), o 1101 p' (by omega), o 1102 p' (by omega), o 1103 p' (by omega), o 1104 p' (by omega), DuI_L, fu_at hw (by omega), fu_at hw (by omega), fu_at hw (by omega), fu_at hw (by omega), fu_at hw (by omega), fu_at hw (by omega), if_neg (by omega), if_neg (by omega), if_neg (by omega), if_neg (by omega), if_neg (by omega), if_neg (by omega)]
    exact h1 p' hp'
  · obtain ⟨a1, a2⟩ := h2 p' r' hp' hr'
    rw [DuI_I, DuI_I, fu_at hw (by omega), fu_at hw (by omega), a1, a2]
    rcases hc with ⟨rfl, rfl⟩ | ⟨rfl, rfl⟩
    · refine ⟨?_, ?_⟩
      · by_cases c : p' = p ∧ r' = r
        · rw [if_pos ⟨by omega, c.2⟩, if_pos ⟨c.1, by omega⟩]
        · rw [if_neg (by omega), if_neg (by omega)]
      · rw [if_neg (by omega), if_neg (by omega)]
    · refine ⟨?_, ?_⟩
      · rw [if_neg (by omega), if_neg (by omega)]
      · by_cases c : p' = p ∧ r' = r
        · rw [if_pos ⟨by omega, c.2⟩, if_pos ⟨c.1, by omega⟩]
        · rw [if_neg (by omega), if_neg (by omega)]
  · rw [o 1000 12 (by omega), o 1000 13 (by omega), o 1000 14 (by omega), o 1000 15 (by omega), o 1000 16 (by omega), o 1000 17 (by omega), fu_lo (j := 3) (by omega), fu_lo (j := 4) (by omega), fu_lo (j := 0) (by omega), fu_lo (j := 1) (by omega), fu_lo (j := 2) (by omega), fu_lo (j := 5) (by omega), fu_lo (j := 6) (by omega)]
    exact h3
/-- bounds, of a change that touches no month, no debt and no paid sums, and payments by such as were there or 0 alone -/
theorem rBd_cg {f' : Nat → Int32} (bd : rBd f N mo) (h5 : f' 5 = f 5) (h6 : f' 6 = f 6) (h : ∀ p, p < N → (f' (8 + 20 * p + 3) = 0 ∨ ∃ q, q < N ∧ f' (8 + 20 * p + 3) = f (8 + 20 * q + 3)) ∧ f' (8 + 20 * p + 4) = f (8 + 20 * p + 4)) : rBd f' N mo := by
  obtain ⟨b1, b2, b3⟩ := bd
  refine ⟨by rw [h5]; exact b1, fun p hp => ?_, by rw [h6]; exact b3⟩
  obtain ⟨c1, c2⟩ := h p hp
  refine ⟨?_, by rw [c2]; exact (b2 p hp).2⟩
  rcases c1 with c | ⟨q, hq, c⟩
  · rw [c]
    decide
  · rw [c]
    exact (b2 q hq).1
theorem rBd_fu {k : Nat} {x : Int32} (bd : rBd f N mo) (h5 : k ≠ 5) (h6 : k ≠ 6) (h : ∀ p, p < N → k ≠ 8 + 20 * p + 3 ∧ k ≠ 8 + 20 * p + 4) : rBd (fu f k x) N mo :=
  rBd_cg bd (fu_n _ _ (fun z => h5 z.symm)) (fu_n _ _ (fun z => h6 z.symm)) (fun p hp => ⟨Or.inr ⟨p, hp, fu_n _ _ (fun z => (h p hp).1 z.symm)⟩, fu_n _ _ (fun z => (h p hp).2 z.symm)⟩)
end RCH
