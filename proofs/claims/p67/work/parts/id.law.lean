/-! the law's proposes: what it begins with -/
def Dkl (δ : dM) (a : Nat) : dM := (δ.1, δ.2.1, δ.2.2.1, δ.2.2.2.1, δ.2.2.2.2.1, fun i => if i = a then false else DA δ i)
def chZ (σ : dM) (N : Nat) : dM := DuI (DuI (DuR (DuR (Dnw (Dkl σ 1107) 1106 N) 1000 20 (some 1106)) 1000 21 none) 1000 22 (-1)) 1000 23 0
/-- nothing but the desk's two fields holds the choice and the best -/
def chQ (σ : dM) : Prop := ∀ k j, 1000 ≤ k → k < 2100 → DA σ k = true → (DR σ k j = some 1106 → k = 1000 ∧ j = 20) ∧ (DR σ k j = some 1107 → k = 1000 ∧ j = 21)
theorem dk_of {σ τ : dM} {N M : Nat} (h : dk σ N M) (hI : DI τ 1000 1 = DI σ 1000 1 ∧ DI τ 1000 2 = DI σ 1000 2) (hA : ∀ k, dkI k → DA τ k = DA σ k) (hR : ∀ k j, dkI k → ¬ (k = 1000 ∧ (j = 20 ∨ j = 21)) → DR τ k j = DR σ k j) (hN : ∀ k, dkI k → DN τ k = DN σ k) (h5 : ∀ p, p < N → ∀ r, DI τ (1200 + p) r = DI σ (1200 + p) r) : dk τ N M := by
  have hN5 := h.1.1.2
  obtain ⟨k1, k2, k3, k4, k5, k6⟩ := h
  have i0 : dkI 1000 := by unfold dkI; omega
  have i1 : dkI 1100 := by unfold dkI; omega
  have i2 : dkI 1101 := by unfold dkI; omega
  have i3 : dkI 1102 := by unfold dkI; omega
  have i4 : dkI 1103 := by unfold dkI; omega
  have i5 : dkI 1104 := by unfold dkI; omega
  have i6 : dkI 1300 := by unfold dkI; omega
  have i7 : dkI 1400 := by unfold dkI; omega
  have i8 : dkI 1500 := by unfold dkI; omega
  have i9 : dkI 1900 := by unfold dkI; omega
  refine ⟨k1, ?_, ?_, ?_, ?_, fun p hp => ?_⟩
  · rw [hI.1, hI.2]; exact k2
  · rw [hA _ i0, hA _ i1, hA _ i2, hA _ i3, hA _ i4, hA _ i5, hA _ i6, hA _ i7, hA _ i8, hA _ i9]; exact k3
  · rw [hR _ 0 i0 (by omega), hR _ 3 i0 (by omega), hR _ 4 i0 (by omega), hR _ 5 i0 (by omega), hR _ 6 i0 (by omega), hR _ 7 i0 (by omega), hR _ 8 i0 (by omega), hR _ 9 i0 (by omega), hR _ 10 i0 (by omega), hR _ 11 i0 (by omega)]; exact k4
  · rw [hN _ i1, hN _ i2, hN _ i3, hN _ i4, hN _ i5, hN _ i6, hN _ i7, hN _ i8]; exact k5
  · have j1 : dkI (1110 + p) := by unfold dkI; omega
    have j2 : dkI (1200 + p) := by unfold dkI; omega
    rw [hR 1400 p i7 (by omega), hR 1500 p i8 (by omega), hA _ j1, hA _ j2, hN _ j1, hN _ j2]
    refine ⟨(k6 p hp).1, (k6 p hp).2.1, fun r => ?_⟩
    rw [h5 p hp]
    exact (k6 p hp).2.2 r
section CHZ
variable {σ : dM} {N M : Nat}
theorem chZ_I {k j : Nat} : DI (chZ σ N) k j = if k = 1000 ∧ j = 23 then 0 else if k = 1000 ∧ j = 22 then -1 else if k = 1106 then 0 else DI σ k j := rfl
theorem chZ_L {k j : Nat} : DL (chZ σ N) k j = if k = 1106 then 0 else DL σ k j := rfl
theorem chZ_R {k j : Nat} : DR (chZ σ N) k j = if k = 1000 ∧ j = 21 then none else if k = 1000 ∧ j = 20 then some 1106 else if k = 1106 then none else DR σ k j := rfl
theorem chZ_N {k : Nat} : DN (chZ σ N) k = if k = 1106 then N else DN σ k := rfl
theorem chZ_A {k : Nat} : DA (chZ σ N) k = if k = 1106 then true else if k = 1107 then false else DA σ k := rfl
theorem chZ_k (h : dk σ N M) : dk (chZ σ N) N M := by
  have hN5 := h.1.1.2
  refine dk_of h ⟨?_, ?_⟩ (fun k hk => ?_) (fun k j hk hj => ?_) (fun k hk => ?_) (fun p hp r => ?_)
  · rw [chZ_I, if_neg (by omega), if_neg (by omega), if_neg (by omega)]
  · rw [chZ_I, if_neg (by omega), if_neg (by omega), if_neg (by omega)]
  · unfold dkI at hk
    rw [chZ_A, if_neg (by omega), if_neg (by omega)]
  · unfold dkI at hk
    rw [chZ_R, if_neg (by omega), if_neg (by omega), if_neg (by omega)]
  · unfold dkI at hk
    rw [chZ_N, if_neg (by omega)]
  · rw [chZ_I, if_neg (by omega), if_neg (by omega), if_neg (by omega)]
theorem chZ_cl (h : dk σ N M) (hcl : Dcl0 σ) (hq : chQ σ) : Dcl0 (chZ σ N) := by
  have h0 : DA σ 1000 = true := h.2.2.1.1
  intro k j q hk hk2 e
  rw [chZ_R] at e
  by_cases c1 : k = 1000 ∧ j = 21
  · rw [if_pos c1] at e; cases e
  · rw [if_neg c1] at e
    by_cases c2 : k = 1000 ∧ j = 20
    · rw [if_pos c2] at e
      cases e
      exact Or.inr (Dal_hi (by decide) (by decide) (by rw [chZ_A, if_pos rfl]))
    · rw [if_neg c2] at e
      by_cases c3 : k = 1106
      · rw [if_pos c3] at e; cases e
      · rw [if_neg c3] at e
        have h3 := Dal_A hk hk2
        rw [chZ_A, if_neg c3] at h3
        by_cases c4 : k = 1107
        · rw [if_pos c4] at h3; cases h3
        · rw [if_neg c4] at h3
          have h4 := (Dal_lt hk).1
          rcases hcl k j q (Dal_hi hk2 h4 h3) hk2 e with h5 | h5
          · exact Or.inl h5
          · obtain ⟨h6, h7⟩ := Dal_lt h5
            rcases h7 with h7 | ⟨h7, h8⟩
            · exact Or.inr (Dal_lo h7)
            · refine Or.inr (Dal_hi h7 h6 ?_)
              rw [chZ_A]
              by_cases c5 : q = 1106
              · rw [if_pos c5]
              · rw [if_neg c5]
                by_cases c6 : q = 1107
                · subst c6
                  exact (c1 ((hq k j hk2 h4 h3).2 e)).elim
                · rw [if_neg c6]
                  exact h8
theorem chZ_O (h : dk σ N M) (hcl : Dcl0 σ) (hq : chQ σ) (h9 : DA σ 1109 = false) : chO (chZ σ N) N M := by
  refine ⟨chZ_k h, chZ_cl h hcl hq, ?_, ?_, ?_, ?_, ?_, ?_⟩
  · rw [chZ_A, if_neg (by decide), if_pos rfl]
  · rw [chZ_A, if_neg (by decide), if_neg (by decide)]; exact h9
  · rw [chZ_R, if_pos ⟨rfl, rfl⟩]
  · rw [chZ_R, if_neg (by decide), if_pos ⟨rfl, rfl⟩]
  · rw [chZ_A, if_pos rfl]
  · rw [chZ_N, if_pos rfl]
theorem chZ_M : chZ σ N = chM (chZ σ N) N (-1, 0, none, fun _ => 0) := by
  refine Prod.ext rfl (Prod.ext (funext fun i => funext fun j => ?_) rfl)
  show DI (chZ σ N) i j = if i = 1106 then 0 else if i = 1000 ∧ j = 23 then 0 else if i = 1000 ∧ j = 22 then -1 else DI (chZ σ N) i j
  rw [chZ_I]
  by_cases c : i = 1106
  · rw [if_neg (by omega), if_neg (by omega), if_pos c, if_pos c]
  · rw [if_neg c, if_neg c]
    by_cases c2 : i = 1000 ∧ j = 23
    · rw [if_pos c2, if_pos c2]
    · rw [if_neg c2, if_neg c2]
      by_cases c3 : i = 1000 ∧ j = 22
      · rw [if_pos c3, if_pos c3]
      · rw [if_neg c3, if_neg c3]
end CHZ
