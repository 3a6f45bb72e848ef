/-! transfers, one after the other -/
def tK (d : Nat → Int) : Nat → Nat → Int
  | 0 => d
  | k + 1 => tS (tK d k)
theorem tK_s (d : Nat → Int) : ∀ k, tK d (k + 1) = tK (tS d) k
  | 0 => rfl
  | k + 1 => by
    show tS (tK d (k + 1)) = tS (tK (tS d) k)
    rw [tK_s d k]
theorem tP_lo (d : Nat → Int) : ∀ k p, p < tP d k → d p < d (tP d k)
  | 0, p, h => by exact absurd h (Nat.not_lt_zero _)
  | k + 1, p, h => by
    simp only [tP] at h ⊢
    obtain ⟨h1, h2⟩ := tP_ok d k
    by_cases c : d (tP d k) < d (k + 1)
    · rw [if_pos c] at h ⊢
      have := h2 p (by omega)
      omega
    · rw [if_neg c] at h ⊢
      exact tP_lo d k p h
theorem tG_lo (d : Nat → Int) : ∀ k p, p < tG d k → d (tG d k) < d p
  | 0, p, h => by exact absurd h (Nat.not_lt_zero _)
  | k + 1, p, h => by
    simp only [tG] at h ⊢
    obtain ⟨h1, h2⟩ := tG_ok d k
    by_cases c : d (k + 1) < d (tG d k)
    · rw [if_pos c] at h ⊢
      have := h2 p (by omega)
      omega
    · rw [if_neg c] at h ⊢
      exact tG_lo d k p h
theorem trL_at : ∀ (f k : Nat) (d : Nat → Int), okD d → k < (trL f d).length → (trL f d).getD k (0, 0, 0) = (tP (tK d k) 10, tG (tK d k) 10, tA (tK d k)) ∧ 0 < tK d k (tP (tK d k) 10) ∧ okD (tK d k)
  | 0, k, d, _, h => by exact absurd h (Nat.not_lt_zero _)
  | f + 1, k, d, ho, h => by
    simp only [trL] at h ⊢
    by_cases c : 0 < d (tP d 10)
    · rw [if_pos c] at h ⊢
      cases k with
      | zero => exact ⟨rfl, c, ho⟩
      | succ k =>
        rw [tK_s]
        have := trL_at f k (tS d) (tS_ok ho c).1 (by simp only [List.length_cons] at h; omega)
        exact this
    · rw [if_neg c] at h
      exact absurd h (Nat.not_lt_zero _)
theorem d_zero {d : Nat → Int} (h : okD d) (c : ¬ 0 < d (tP d 10)) : ∀ i, i < 11 → d i = 0 := fun i hi => by
  obtain ⟨p1, p2⟩ := tP_ok d 10
  have l := p2 i (by omega)
  by_cases e : d i = 0
  · exact e
  · have s1 : sI (fun i => - d i) 11 = - sI d 11 := by
      have : ∀ n, sI (fun i => - d i) n = - sI d n := fun n => by
        induction n with
        | zero => rfl
        | succ n ih =>
          simp only [sI]
          rw [ih]
          omega
      exact this 11
    have := sI_pos (f := fun i => - d i) (x := i) 11 (fun j hj => by have := p2 j (by omega); omega) hi (by omega)
    rw [s1, h.1] at this
    omega
theorem trL_end : ∀ (f : Nat) (d : Nat → Int), okD d → nz d ≤ f → ∀ i, i < 11 → tK d (trL f d).length i = 0
  | 0, d, h, hn, i, hi => by
    refine d_zero h (fun c => ?_) i hi
    have := nz_two h c
    omega
  | f + 1, d, h, hn, i, hi => by
    simp only [trL]
    by_cases c : 0 < d (tP d 10)
    · rw [if_pos c, List.length_cons, tK_s]
      obtain ⟨h1, h2⟩ := tS_ok h c
      exact trL_end f (tS d) h1 (by omega) i hi
    · rw [if_neg c]
      exact d_zero h c i hi
theorem nz_11 (d : Nat → Int) : nz d ≤ 11 := cn_le _ 11
theorem tA_min {d : Nat → Int} (h : okD d) (c : 0 < d (tP d 10)) : (if iI (d (tP d 10)) ≤ -iI (d (tG d 10)) then iI (d (tP d 10)) else -iI (d (tG d 10))) = iI (tA d) ∧ ¬ iI (tA d) ≤ 0 := by
  obtain ⟨a1, a2, a3, a4, a5, a6, a7, a8⟩ := tr_pg h c
  have bp := h.2 _ a3
  have bg := h.2 _ a4
  have en : -iI (d (tG d 10)) = iI (-(d (tG d 10))) := (Int32.ofInt_neg _).symm
  have hA : -10000000 ≤ tA d ∧ tA d ≤ 10000000 := by omega
  refine ⟨?_, fun z => ?_⟩
  · rw [en]
    by_cases k : d (tP d 10) ≤ -(d (tG d 10))
    · rw [if_pos ((iI_le ⟨by omega, by omega⟩ ⟨by omega, by omega⟩).mpr k)]
      refine congrArg iI ?_
      unfold tA
      split <;> omega
    · rw [if_neg (fun z => k ((iI_le ⟨by omega, by omega⟩ ⟨by omega, by omega⟩).mp z))]
      refine congrArg iI ?_
      unfold tA
      rw [if_neg (by omega)]
  · rw [show (0 : Int32) = iI 0 from rfl, iI_le ⟨by omega, by omega⟩ ⟨by omega, by omega⟩] at z
    omega
