/-! the reference: a statement of a text -/
theorem pVals_ge {B : Nat → Int32} {L P : Nat} : ∀ (d r s : Nat) (μ : pM) (q : pS), s ≤ L → pVals B L P d r s μ = .inr q → s ≤ q.1 ∧ q.1 ≤ L
  | 0, _, s, μ, q, h, e => by
    simp only [pVals] at e
    cases e
    exact ⟨Nat.le_refl _, h⟩
  | d + 1, r, s, μ, q, h, e => by
    have hn := nx_le (b := B) h
    simp only [pVals] at e
    by_cases c : isW B L s wNo = true
    · rw [if_pos c] at e
      have := pVals_ge d _ _ _ q hn.2.1 e
      exact ⟨by omega, this.2⟩
    · rw [if_neg c] at e
      rcases eP : pInt B L 9999 s with x | y
      · rw [eP] at e; cases e
      · rw [eP] at e
        have := pVals_ge d _ _ _ q hn.2.1 e
        exact ⟨by omega, this.2⟩
theorem pStmt_gt {B : Nat → Int32} {L s : Nat} {μ : pM} {q : pS} (h : s ≤ L) (e : pStmt B L s μ = .inr q) : s < q.1 ∧ q.1 ≤ L := by
  have n1 := nx_le (b := B) h
  have n2 := nx_le (b := B) n1.2.1
  have n3 := nx_le (b := B) n2.2.1
  have n4 := nx_le (b := B) n3.2.1
  have key : ∀ r : pE ⊕ pS, (∀ p, r = .inr p → s ≤ p.1 ∧ p.1 ≤ L) → (match r with | .inl e => (.inl e : pE ⊕ pS) | .inr (s', μ') => if kn B L s' = 4 then .inr (nx B L s', μ') else .inl (-11, s')) = .inr q → s < q.1 ∧ q.1 ≤ L := fun r hr e => by
    rcases r with x | p
    · cases e
    · obtain ⟨h1, h2⟩ := hr p rfl
      dsimp only at e
      by_cases c : kn B L p.1 = 4
      · rw [if_pos c] at e
        cases e
        have hl : p.1 < L := by
          by_cases z : p.1 < L
          · exact z
          · have := (kn_0 (b := B)).mpr (show L ≤ p.1 by omega)
            omega
        have n := nx_le (b := B) h2
        exact ⟨by have := n.2.2.1 hl; dsimp only; omega, n.2.1⟩
      · rw [if_neg c] at e; cases e
  refine key _ (fun p hp => ?_) e
  split at hp
  · unfold pRoom at hp
    split at hp
    · cases hp
    · split at hp
      · cases hp
      · split at hp
        · cases hp
        · split at hp
          · cases hp
          · cases hp; dsimp only; omega
  · split at hp
    · unfold pPers at hp
      split at hp
      · cases hp
      · split at hp
        · cases hp
        · split at hp
          · cases hp
          · rcases e1 : pInt B L 99999 (nx B L (nx B L s)) with x | y
            · rw [e1] at hp; cases hp
            · rw [e1] at hp
              dsimp only at hp
              rcases e2 : pVals B L (pe μ) (rm μ) 0 (nx B L (nx B L (nx B L s))) (u1 (u1 μ 349 (pe μ) (nI (nm B L (nx B L s)))) 347 (8 + 20 * pe μ + 1) (nI y)) with x | z
              · rw [e2] at hp; cases hp
              · rw [e2] at hp
                have := pVals_ge _ _ _ _ _ n3.2.1 e2
                cases hp
                dsimp only
                omega
    · split at hp
      · unfold pOnce at hp
        split at hp
        · cases hp
        · rcases e1 : pInt B L 99999 (nx B L s) with x | y
          · rw [e1] at hp; cases hp
          · rw [e1] at hp; cases hp; dsimp only; omega
      · split at hp
        · unfold pOnce at hp
          split at hp
          · cases hp
          · rcases e1 : pInt B L 99999 (nx B L s) with x | y
            · rw [e1] at hp; cases hp
            · rw [e1] at hp; cases hp; dsimp only; omega
        · split at hp
          · unfold pPlan at hp
            split at hp
            · cases hp
            · split at hp
              · cases hp
              · split at hp
                · cases hp
                · rcases e1 : pInt B L 999 (nx B L (nx B L s)) with x | y
                  · rw [e1] at hp; cases hp
                  · rw [e1] at hp
                    dsimp only at hp
                    rcases e2 : pInt B L 99999 (nx B L (nx B L (nx B L s))) with x | z
                    · rw [e2] at hp; cases hp
                    · rw [e2] at hp; cases hp; dsimp only; omega
          · split at hp
            · unfold pSet at hp
              split at hp
              · cases hp
              · split at hp
                · cases hp
                · split at hp
                  · split at hp
                    · cases hp
                    · cases hp; dsimp only; omega
                  · rcases e1 : pInt B L (if pWhich B L (nx B L s) = 1 then 100 else 1) (nx B L (nx B L s)) with x | y
                    · rw [e1] at hp; cases hp
                    · rw [e1] at hp; cases hp; dsimp only; omega
            · cases hp
def aRs (a j : Nat) : Bool := aRd a j || a == 322 && j == 50
