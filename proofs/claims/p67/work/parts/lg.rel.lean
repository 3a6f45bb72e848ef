/-! the desk behind a change of the class -/
theorem xSm_k {s0 s1 : jM} {M N K : Nat} (h : xRk s0 M N K) (k : xSm s0 s1) : xRk s1 M N K := by
  obtain ⟨R, N', K', a, b, -⟩ := k
  have e1 := xv_n h
  have e2 := xv_n a
  have n1 : N' = N := by rw [← e1.2.2.1, e2.2.2.1]
  have n2 : R = M := by rw [← e1.2.2.2.1, e2.2.2.2.1]
  have n3 : K' = K := by rw [← e1.2.2.2.2.1, e2.2.2.2.2.1]
  subst n1 n2 n3
  exact b
/-- what the law holds between two of its steps -/
def rZ (σ : dM) (s0 : jM) (N M K mo : Nat) : Prop := rI σ s0 N M K ∧ rP σ s0 K ∧ rBd (s0.1 323) N mo ∧ 0 ≤ s0.1 323 2
theorem rP_s {σ : dM} {s0 s1 : jM} {M N K : Nat} (h : rP σ s0 K) (k : xSm s0 s1) (e : s1.1 323 7 = s0.1 323 7) : rP σ s1 K := by
  obtain ⟨_, _, _, -, -, q⟩ := k
  have e9 : mO s1 = mO s0 := funext fun k => by
    unfold mO
    rw [e]
  obtain ⟨h1, h2, h3⟩ := h
  refine ⟨h1, by rw [e9]; exact h2, fun z => ?_⟩
  rw [e9, q 327 (by omega) (by omega), q 328 (by omega) (by omega), q 329 (by omega) (by omega)]
  exact h3 z
/-- behind a change: the desk's ints tell the new row, nothing else of it has changed -/
theorem rZ_ch {σ τ : dM} {s0 s1 : jM} {N M K mo mo' : Nat} (h : rZ σ s0 N M K mo) (k : xSm s0 s1) (hS : DS τ = s1) (hR : DR τ = DR σ) (hN : DN τ = DN σ) (hA : DA τ = DA σ)
    (hI : ∀ j, (j = 1 ∨ j = 2) → DI τ 1000 j = DI σ 1000 j) (hI2 : ∀ a j, 1900 ≤ a ∨ (1138 ≤ a ∧ a < 1140) → DI τ a j = DI σ a j) (h5 : ∀ p, p < N → ∀ r, DI τ (1200 + p) r = 0 ∨ DI τ (1200 + p) r = 1) (hf : rDf τ (s1.1 323) N M) (e7 : s1.1 323 7 = s0.1 323 7) (bd : rBd (s1.1 323) N mo') (h2 : 0 ≤ s1.1 323 2) : rZ τ s1 N M K mo' := by
  obtain ⟨⟨⟨hk, hx, -⟩, hG, hQ, hT⟩, hP, -⟩ := h
  have hx1 := xSm_k hx k
  obtain ⟨k1, k2, k3, k4, k5, k6⟩ := hk
  refine ⟨⟨⟨⟨k1, by rw [hI 1 (Or.inl rfl), hI 2 (Or.inr rfl)]; exact k2, by rw [hA]; exact k3, by rw [hR]; exact k4, by rw [hN]; exact k5, fun p hp => ?_⟩, hx1, hf⟩, ?_, ?_, ?_⟩, rP_cg (rP_s (M := M) (N := N) hP k e7) (fun a j ha => hI2 a j (by omega)) (fun a j _ => by rw [hR]) (fun a _ => ⟨by rw [hA], by rw [hN]⟩), bd, h2⟩
  · rw [hR, hA, hN]
    exact ⟨(k6 p hp).1, ⟨(k6 p hp).2.1.1, (k6 p hp).2.1.2.1, (k6 p hp).2.1.2.2⟩, h5 p hp⟩
  · rw [hS]
    exact xG_self hx1
  · intro a j h1 h2 h3
    rw [hA] at h3
    rw [hR]
    exact hQ a j h1 h2 h3
  · intro a ha
    rw [hA]
    exact hT a ha
