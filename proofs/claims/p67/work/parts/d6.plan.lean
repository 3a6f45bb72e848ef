/-! counting by another order; the plans told -/
theorem cn_rem {p : Nat → Bool} {x : Nat} : ∀ K, x < K → cn p K = cn (fun j => p j && decide (j ≠ x)) K + (if p x = true then 1 else 0)
  | 0, h => by omega
  | K + 1, h => by
    simp only [cn]
    by_cases e : x = K
    · subst e
      have : cn (fun j => p j && decide (j ≠ x)) x = cn p x := cn_congr x (fun j hj => by
        have : j ≠ x := by omega
        simp [this])
      rw [this]
      simp
    · rw [cn_rem (p := p) (x := x) K (by omega)]
      have : ¬ K = x := fun z => e z.symm
      simp [this]
      omega
theorem cn_inj_le {K : Nat} {ρ : Nat → Nat} : ∀ (n : Nat) (p : Nat → Bool), (∀ i, i < n → ρ i < K) → (∀ i j, i < j → j < n → ρ i ≠ ρ j) → cn (fun i => p (ρ i)) n ≤ cn p K
  | 0, _, _, _ => Nat.zero_le _
  | n + 1, p, h1, h2 => by
    have ih := cn_inj_le n (fun j => p j && decide (j ≠ ρ n)) (fun i hi => h1 i (by omega)) (fun i j hi hj => h2 i j hi (by omega))
    have e : cn (fun i => p (ρ i) && decide (ρ i ≠ ρ n)) n = cn (fun i => p (ρ i)) n := cn_congr n (fun j hj => by
      have := h2 j n hj (by omega)
      simp [this])
    rw [e] at ih
    rw [cn_rem K (h1 n (by omega))]
    simp only [cn]
    omega
theorem cn_nt (p : Nat → Bool) : ∀ K, cn p K + cn (fun i => !p i) K = K
  | 0 => rfl
  | K + 1 => by
    have := cn_nt p K
    simp only [cn]
    by_cases c : p K = true
    · simp [c]; omega
    · simp [c]; omega
theorem cn_perm {K : Nat} {ρ : Nat → Nat} (p : Nat → Bool) (h1 : ∀ i, i < K → ρ i < K) (h2 : ∀ i j, i < j → j < K → ρ i ≠ ρ j) : cn (fun i => p (ρ i)) K = cn p K := by
  have a := cn_inj_le K p h1 h2
  have b := cn_inj_le K (fun i => !p i) h1 h2
  have c := cn_nt p K
  have d := cn_nt (fun i => p (ρ i)) K
  omega
theorem cn_ex {p : Nat → Bool} : ∀ K, 0 < cn p K → ∃ i, i < K ∧ p i = true
  | 0, h => by simp [cn] at h
  | K + 1, h => by
    by_cases c : p K = true
    · exact ⟨K, by omega, c⟩
    · simp only [cn] at h
      rw [if_neg c] at h
      obtain ⟨i, h1, h2⟩ := cn_ex K (by omega)
      exact ⟨i, by omega, h2⟩
theorem cn_ge (D : Nat) : ∀ n, cn (fun i => decide (D ≤ i)) n = n - D
  | 0 => by simp [cn]
  | n + 1 => by
    simp only [cn]
    rw [cn_ge D n]
    by_cases c : D ≤ n
    · simp [c]; omega
    · simp [c]; omega
theorem nI_sub {a b : Nat} (h : b ≤ a) : nI a - nI b = nI (a - b) := by
  have e : nI a = nI (a - b) + nI b := by
    rw [nI_add]
    congr 1
    omega
  rw [e, Int32.add_sub_cancel]
/-- what is known of the plans -/
theorem xv_pl {σ : jM} {R N K : Nat} (h : xRk σ R N K) : ∃ (D : Nat) (ρ : Nat → Nat), σ.1 31 5 = nI K ∧ σ.1 37 6 = nI D ∧ D ≤ K ∧ K ≤ 20 ∧ (∀ i, i < K → ρ i < K ∧ σ.1 34 i = σ.1 327 (ρ i) ∧ σ.1 35 i = σ.1 328 (ρ i) ∧ σ.1 36 i = σ.1 329 (ρ i)) ∧ (∀ i j, i < j → j < K → (σ.1 328 (ρ i) < σ.1 328 (ρ j) ∨ σ.1 328 (ρ i) = σ.1 328 (ρ j) ∧ ρ i < ρ j)) ∧ (∀ i, i < K → (mO σ (ρ i) = true ↔ D ≤ i)) ∧ (∀ i j, i < j → j < K → ρ i ≠ ρ j) ∧ (∀ k, k < K → ∃ i, i < K ∧ ρ i = k) ∧ ∀ i, i < K → (i < D ↔ σ.1 328 (ρ i) < σ.1 323 5) := by
  obtain ⟨-, ⟨-, -, ⟨D, d1, d2, d3⟩, d4⟩, ⟨⟨p1, p2, p3⟩, ⟨ρ, r1, r2⟩, -⟩, -⟩ := h
  have ne : ∀ i j, i < j → j < K → ρ i ≠ ρ j := fun i j hi hj e => by
    rcases r2 i j hi hj with q | q
    · rw [e] at q
      grind
    · omega
  refine ⟨D, ρ, p1, d1, d2, p3, r1, r2, fun i hi => ?_, ne, fun k hk => ?_, fun i hi => ?_⟩
  · unfold mO
    rw [decide_eq_true_eq, d4 _ (r1 i hi).1, ← (r1 i hi).2.2.1, ← d3 i hi]
    omega
  · have e := cn_perm (K := K) (ρ := ρ) (fun j => decide (j = k)) (fun i hi => (r1 i hi).1) ne
    have l : 0 < cn (fun j => decide (j = k)) K := by
      have := cn_lt (p := fun j => decide (j = k)) (k := k) (by simp) hk
      omega
    rw [← e] at l
    obtain ⟨i, i1, i2⟩ := cn_ex K l
    exact ⟨i, i1, by simpa using i2⟩
  · rw [← (r1 i hi).2.2.1]
    exact d3 i hi
theorem xv_open {σ : jM} {R N K D : Nat} {ρ : Nat → Nat} (h1 : ∀ i, i < K → ρ i < K) (h2 : ∀ i, i < K → (mO σ (ρ i) = true ↔ D ≤ i)) (h3 : ∀ i j, i < j → j < K → ρ i ≠ ρ j) : cn (mO σ) K = K - D := by
  rw [← cn_perm (mO σ) h1 h3, ← cn_ge D K]
  refine cn_congr K (fun j hj => ?_)
  rw [Bool.eq_iff_iff, h2 j hj, decide_eq_true_eq]
theorem xQ_O {σ τ : jM} (q : xQ σ τ) : mO τ = mO σ ∧ mPl τ = mPl σ := by
  refine ⟨?_, ?_⟩
  · funext k
    unfold mO
    rw [q.at 323 rfl rfl]
  · unfold mPl
    rw [q.1 322 5 rfl]
theorem xs_planCount : xS oX11_planCount oM_planCount [] :=
  xS_mk (x := fun σ => σ.1 31 5 - σ.1 37 6) (y := fun σ => nI (cn (mO σ) (mPl σ))) (fun h => ⟨rfl, xp1 h⟩) (fun h => ⟨⟨rfl, (xv_n h).2.2.2.2.2.1⟩, xp2 h⟩) (fun {σ R N K} h => by
    obtain ⟨D, ρ, p1, p2, p3, p4, p5, p6, p7, p8, -⟩ := xv_pl h
    rw [(xv_n h).2.2.2.2.1, xv_open (R := R) (N := N) (fun i hi => (p5 i hi).1) p7 p8, p1, p2, nI_sub p3]) (fun q => by rw [(xQ_O q).1, (xQ_O q).2])
