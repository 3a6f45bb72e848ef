/-! the reference: a statement of a text -/
theorem pVals_ge {B : Nat → Int32} {L P : Nat} : ∀ (d r s : Nat) (μ : pM) (q : pS), s ≤ L → pVals B L P d r s μ = .inr q → s ≤ q.1 ∧ q.1 ≤ L
  | 0, _, s, μ, q, h, e => by
    simp only [pVals] at e
    cases e
    exact ⟨Nat.le_refl _, h⟩
  | d + 1, r, s, μ, q, h, e => by
    have hn := nx_le (b := B) h
    simp only [pVals] at e
    by_cases c : isW B L s wNo = true
    · rw [if_pos c] at e
      have := pVals_ge d _ _ _ q hn.2.1 e
      exact ⟨by omega, this.2⟩
    · rw [if_neg c] at e
      rcases eP : pInt B L 9999 s with x | y
      · rw [eP] at e; cases e
      · rw [eP] at e
        have := pVals_ge d _ _ _ q hn.2.1 e
        exact ⟨by omega, this.2⟩
theorem pStmt_gt {B : Nat → Int32} {L s : Nat} {μ : pM} {q : pS} (h : s ≤ L) (e : pStmt B L s μ = .inr q) : s < q.1 ∧ q.1 ≤ L := by
  have n1 := nx_le (b := B) h
  have n2 := nx_le (b := B) n1.2.1
  have n3 := nx_le (b := B) n2.2.1
  have n4 := nx_le (b := B) n3.2.1
  have key : ∀ r : pE ⊕ pS, (∀ p, r = .inr p → s ≤ p.1 ∧ p.1 ≤ L) → (match r with | .inl e => (.inl e : pE ⊕ pS) | .inr (s', μ') => if kn B L s' = 4 then .inr (nx B L s', μ') else .inl (-11, s')) = .inr q → s < q.1 ∧ q.1 ≤ L := fun r hr e => by
    rcases r with x | p
    · cases e
    · obtain ⟨h1, h2⟩ := hr p rfl
      dsimp only at e
      by_cases c : kn B L p.1 = 4
      · rw [if_pos c] at e
        cases e
        have hl : p.1 < L := by
          by_cases z : p.1 < L
          · exact z
          · have := (kn_0 (b := B)).mpr (show L ≤ p.1 by omega)
            omega
        have n := nx_le (b := B) h2
        exact ⟨by have := n.2.2.1 hl; dsimp only; omega, n.2.1⟩
      · rw [if_neg c] at e; cases e
  refine key _ (fun p hp => ?_) e
  split at hp
  · unfold pRoom at hp
    split at hp
    · cases hp
    · split at hp
      · cases hp
      · split at hp
        · cases hp
        · split at hp
          · cases hp
          · cases hp; dsimp only; omega
  · split at hp
    · unfold pPers at hp
      split at hp
      · cases hp
      · split at hp
        · cases hp
        · split at hp
          · cases hp
          · rcases e1 : pInt B L 99999 (nx B L (nx B L s)) with x | y
            · rw [e1] at hp; cases hp
            · rw [e1] at hp
              dsimp only at hp
              rcases e2 : pVals B L (pe μ) (rm μ) 0 (nx B L (nx B L (nx B L s))) (u1 (u1 μ 349 (pe μ) (nI (nm B L (nx B L s)))) 347 (8 + 20 * pe μ + 1) (nI y)) with x | z
              · rw [e2] at hp; cases hp
              · rw [e2] at hp
                have := pVals_ge _ _ _ _ _ n3.2.1 e2
                cases hp
                dsimp only
                omega
    · split at hp
      · unfold pOnce at hp
        split at hp
        · cases hp
        · rcases e1 : pInt B L 99999 (nx B L s) with x | y
          · rw [e1] at hp; cases hp
          · rw [e1] at hp; cases hp; dsimp only; omega
      · split at hp
        · unfold pOnce at hp
          split at hp
          · cases hp
          · rcases e1 : pInt B L 99999 (nx B L s) with x | y
            · rw [e1] at hp; cases hp
            · rw [e1] at hp; cases hp; dsimp only; omega
        · split at hp
          · unfold pPlan at hp
            split at hp
            · cases hp
            · split at hp
              · cases hp
              · split at hp
                · cases hp
                · rcases e1 : pInt B L 999 (nx B L (nx B L s)) with x | y
                  · rw [e1] at hp; cases hp
                  · rw [e1] at hp
                    dsimp only at hp
                    rcases e2 : pInt B L 99999 (nx B L (nx B L (nx B L s))) with x | z
                    · rw [e2] at hp; cases hp
                    · rw [e2] at hp; cases hp; dsimp only; omega
          · split at hp
            · unfold pSet at hp
              split at hp
              · cases hp
              · split at hp
                · cases hp
                · split at hp
                  · split at hp
                    · cases hp
                    · cases hp; dsimp only; omega
                  · rcases e1 : pInt B L (if pWhich B L (nx B L s) = 1 then 100 else 1) (nx B L (nx B L s)) with x | y
                    · rw [e1] at hp; cases hp
                    · rw [e1] at hp; cases hp; dsimp only; omega
            · cases hp
def aRs (a j : Nat) : Bool := aRd a j || a == 322 && j == 50
theorem rs_Rd (a j : Nat) (h : aRs a j = false) : aRd a j = false := by
  unfold aRs at h
  simp only [Bool.or_eq_false_iff] at h
  exact h.1
theorem rd_fr {σ τ : jM} (f : jfr aRd bTk σ τ) : tB τ = tB σ ∧ tL τ = tL σ := ⟨funext fun j => f.2.2 346 j rfl, by unfold tL; rw [f.2.2 322 34 rfl]⟩
def pEnd (B : Nat → Int32) (L : Nat) (r : pE ⊕ pS) : pE ⊕ pS := match r with
  | .inl e => .inl e
  | .inr (s', μ') => if kn B L s' = 4 then .inr (nx B L s', μ') else .inl (-11, s')
def oX12_readStatement : jO := joR fun a σ => (a = 322 ∧ rT σ ∧ rSz σ ∧ ∃ s, tk σ s, fun v τ => v = none ∧ jfr aRs bTk σ τ ∧ rT τ ∧ rSz τ ∧ τ.1 322 50 = σ.1 322 50 + 1 ∧ ∀ s μ, tk σ s → rdA σ μ → rRes τ (pStmt (tB σ) (tL σ) s μ))
set_option maxRecDepth 100000 in
set_option maxHeartbeats 4000000 in
theorem CSt_e (g : jG) (n : Nat) {post : Option Value → jM → Prop} {σ : jM} (h : rT σ) (hz : rSz σ) (hst : (¬ σ.1 322 41 = 0) ∨ ∃ s, tk σ s) (k : ∀ τ, jfr aRs bTk σ τ → rT τ → rSz τ → τ.1 322 50 = σ.1 322 50 + 1 → (∀ r, rRes σ r → rRes τ (pEnd (tB σ) (tL σ) r)) → post none τ) : jW g mX12_readStatement (n + 4) post 113 [(0, .ref 322)] [] σ := by
  have h9 := (rT_n h).1
  have s50 : ∀ (τ : jM) (x : Int32), rSz τ → rSz (jup τ 322 50 x) := fun τ x q => q
  have t50 : ∀ (τ : jM) (x : Int32), rT τ → rT (jup τ 322 50 x) := fun τ x q => q
  have r50 : ∀ (τ : jM) (x : Int32) (r : pE ⊕ pS), rRes τ r → rRes (jup τ 322 50 x) r := fun τ x r q => by
    rcases r with e | p
    · exact q
    · exact ⟨q.1, rdA_to q.2 _ rfl⟩
  rcases hst with hf | ⟨s, hs⟩
  · have fin : ∀ c : Prop, c → post none (jup σ 322 50 (σ.1 322 50 + 1)) := fun _ _ => k _ (jfr.rfl.up _ rfl) (t50 _ _ h) (s50 _ _ hz) (by rw [jup_1, if_pos ⟨rfl, rfl⟩]) (fun r hr => by
      rcases r with e | p
      · exact hr
      · exact absurd hr.1.2.1 hf)
    have fin := fin True trivial
    by_cases c : σ.1 322 37 = 3
    · refine jvk_ok TX12_readStatement (V := [(329, 2, 12, oX12_isWord), (353, 1, 12, oX12_readRoom), (358, 1, 12, oX12_readPerson), (363, 3, 12, oX12_readOnce), (371, 1, 12, oX12_readPlan), (375, 1, 12, oX12_readSet), (309, 3, 12, oX12_check), (313, 1, 12, oX12_advance)]) (S := []) (List.forall_mem_cons.mpr ⟨⟨mX12_isWord, n + 0, 1, TX12, 53, rfl, by omega, kX12_329, WX12_isWord, rfl, CX12_isWord g (n)⟩, (List.forall_mem_cons.mpr ⟨⟨mX12_readRoom, n + 2, 0, TX12, 53, rfl, by omega, kX12_353, WX12_readRoom, rfl, CX12_readRoom g (n)⟩, (List.forall_mem_cons.mpr ⟨⟨mX12_readPerson, n + 3, 0, TX12, 53, rfl, by omega, kX12_358, WX12_readPerson, rfl, CX12_readPerson g (n)⟩, (List.forall_mem_cons.mpr ⟨⟨mX12_readOnce, n + 3, 2, TX12, 53, rfl, by omega, kX12_363, WX12_readOnce, rfl, CX12_readOnce g (n)⟩, (List.forall_mem_cons.mpr ⟨⟨mX12_readPlan, n + 3, 0, TX12, 53, rfl, by omega, kX12_371, WX12_readPlan, rfl, CX12_readPlan g (n)⟩, (List.forall_mem_cons.mpr ⟨⟨mX12_readSet, n + 3, 0, TX12, 53, rfl, by omega, kX12_375, WX12_readSet, rfl, CX12_readSet g (n)⟩, (List.forall_mem_cons.mpr ⟨⟨mX12_check, n + 0, 2, TX12, 53, rfl, by omega, kX12_309, WX12_check, rfl, CX12_check g (n)⟩, (List.forall_mem_cons.mpr ⟨⟨mX12_advance, n + 1, 0, TX12, 53, rfl, by omega, kX12_313, WX12_advance, rfl, CX12_advance g (n)⟩, (fun _ h => absurd h List.not_mem_nil)⟩)⟩)⟩)⟩)⟩)⟩)⟩)⟩) (fun _ h => absurd h List.not_mem_nil) [136] 30 _ _ _ _ ?_
      simp (maxSteps := 1000000) [-Prod.forall, -Prod.exists, -Prod.mk.injEq, jvk, tX12_readStatement, jtb, jol, jst, jlk, jcmp, jbin, jfl, fX12, jc2, lX12, jcat, jel, lv_args, Value.category, jins, jsrt, jins2, jble, jblt, jf3, List.filter_cons, List.filter_nil, G_m, oX12_isWord, oX12_readRoom, oX12_readPerson, oX12_readOnce, oX12_readPlan, oX12_readSet, oX12_check, oX12_advance, joR, joRII, joRJ, -Int32.not_le, -Int32.not_lt, -Int64.not_le, -Int64.not_lt, i3lt, i6lt, c, hf, h]
      try simp (disch := omega) [-Prod.forall, -Prod.exists, -Prod.mk.injEq, -Int32.not_le, -Int32.not_lt, -Int64.not_le, -Int64.not_lt, i3lt, i6lt, c, hf, h]
      refine jvk_ok TX12_readStatement (V := [(329, 2, 12, oX12_isWord), (353, 1, 12, oX12_readRoom), (358, 1, 12, oX12_readPerson), (363, 3, 12, oX12_readOnce), (371, 1, 12, oX12_readPlan), (375, 1, 12, oX12_readSet), (309, 3, 12, oX12_check), (313, 1, 12, oX12_advance)]) (S := []) (List.forall_mem_cons.mpr ⟨⟨mX12_isWord, n + 0, 1, TX12, 53, rfl, by omega, kX12_329, WX12_isWord, rfl, CX12_isWord g (n)⟩, (List.forall_mem_cons.mpr ⟨⟨mX12_readRoom, n + 2, 0, TX12, 53, rfl, by omega, kX12_353, WX12_readRoom, rfl, CX12_readRoom g (n)⟩, (List.forall_mem_cons.mpr ⟨⟨mX12_readPerson, n + 3, 0, TX12, 53, rfl, by omega, kX12_358, WX12_readPerson, rfl, CX12_readPerson g (n)⟩, (List.forall_mem_cons.mpr ⟨⟨mX12_readOnce, n + 3, 2, TX12, 53, rfl, by omega, kX12_363, WX12_readOnce, rfl, CX12_readOnce g (n)⟩, (List.forall_mem_cons.mpr ⟨⟨mX12_readPlan, n + 3, 0, TX12, 53, rfl, by omega, kX12_371, WX12_readPlan, rfl, CX12_readPlan g (n)⟩, (List.forall_mem_cons.mpr ⟨⟨mX12_readSet, n + 3, 0, TX12, 53, rfl, by omega, kX12_375, WX12_readSet, rfl, CX12_readSet g (n)⟩, (List.forall_mem_cons.mpr ⟨⟨mX12_check, n + 0, 2, TX12, 53, rfl, by omega, kX12_309, WX12_check, rfl, CX12_check g (n)⟩, (List.forall_mem_cons.mpr ⟨⟨mX12_advance, n + 1, 0, TX12, 53, rfl, by omega, kX12_313, WX12_advance, rfl, CX12_advance g (n)⟩, (fun _ h => absurd h List.not_mem_nil)⟩)⟩)⟩)⟩)⟩)⟩)⟩)⟩) (fun _ h => absurd h List.not_mem_nil) [] 20 _ _ _ _ ?_
      simp (maxSteps := 1000000) [-Prod.forall, -Prod.exists, -Prod.mk.injEq, jvk, tX12_readStatement, jtb, jol, jst, jlk, jcmp, jbin, jfl, fX12, jc2, lX12, jcat, jel, lv_args, Value.category, jins, jsrt, jins2, jble, jblt, jf3, List.filter_cons, List.filter_nil, G_m, oX12_isWord, oX12_readRoom, oX12_readPerson, oX12_readOnce, oX12_readPlan, oX12_readSet, oX12_check, oX12_advance, joR, joRII, joRJ, -Int32.not_le, -Int32.not_lt, -Int64.not_le, -Int64.not_lt, i3lt, i6lt]
      try simp (disch := omega) [-Prod.forall, -Prod.exists, -Prod.mk.injEq, -Int32.not_le, -Int32.not_lt, -Int64.not_le, -Int64.not_lt, i3lt, i6lt]
      exact fin
    · refine jvk_ok TX12_readStatement (V := [(329, 2, 12, oX12_isWord), (353, 1, 12, oX12_readRoom), (358, 1, 12, oX12_readPerson), (363, 3, 12, oX12_readOnce), (371, 1, 12, oX12_readPlan), (375, 1, 12, oX12_readSet), (309, 3, 12, oX12_check), (313, 1, 12, oX12_advance)]) (S := []) (List.forall_mem_cons.mpr ⟨⟨mX12_isWord, n + 0, 1, TX12, 53, rfl, by omega, kX12_329, WX12_isWord, rfl, CX12_isWord g (n)⟩, (List.forall_mem_cons.mpr ⟨⟨mX12_readRoom, n + 2, 0, TX12, 53, rfl, by omega, kX12_353, WX12_readRoom, rfl, CX12_readRoom g (n)⟩, (List.forall_mem_cons.mpr ⟨⟨mX12_readPerson, n + 3, 0, TX12, 53, rfl, by omega, kX12_358, WX12_readPerson, rfl, CX12_readPerson g (n)⟩, (List.forall_mem_cons.mpr ⟨⟨mX12_readOnce, n + 3, 2, TX12, 53, rfl, by omega, kX12_363, WX12_readOnce, rfl, CX12_readOnce g (n)⟩, (List.forall_mem_cons.mpr ⟨⟨mX12_readPlan, n + 3, 0, TX12, 53, rfl, by omega, kX12_371, WX12_readPlan, rfl, CX12_readPlan g (n)⟩, (List.forall_mem_cons.mpr ⟨⟨mX12_readSet, n + 3, 0, TX12, 53, rfl, by omega, kX12_375, WX12_readSet, rfl, CX12_readSet g (n)⟩, (List.forall_mem_cons.mpr ⟨⟨mX12_check, n + 0, 2, TX12, 53, rfl, by omega, kX12_309, WX12_check, rfl, CX12_check g (n)⟩, (List.forall_mem_cons.mpr ⟨⟨mX12_advance, n + 1, 0, TX12, 53, rfl, by omega, kX12_313, WX12_advance, rfl, CX12_advance g (n)⟩, (fun _ h => absurd h List.not_mem_nil)⟩)⟩)⟩)⟩)⟩)⟩)⟩)⟩) (fun _ h => absurd h List.not_mem_nil) [136] 30 _ _ _ _ ?_
      simp (maxSteps := 1000000) [-Prod.forall, -Prod.exists, -Prod.mk.injEq, jvk, tX12_readStatement, jtb, jol, jst, jlk, jcmp, jbin, jfl, fX12, jc2, lX12, jcat, jel, lv_args, Value.category, jins, jsrt, jins2, jble, jblt, jf3, List.filter_cons, List.filter_nil, G_m, oX12_isWord, oX12_readRoom, oX12_readPerson, oX12_readOnce, oX12_readPlan, oX12_readSet, oX12_check, oX12_advance, joR, joRII, joRJ, -Int32.not_le, -Int32.not_lt, -Int64.not_le, -Int64.not_lt, i3lt, i6lt, c, hf, h]
      try simp (disch := omega) [-Prod.forall, -Prod.exists, -Prod.mk.injEq, -Int32.not_le, -Int32.not_lt, -Int64.not_le, -Int64.not_lt, i3lt, i6lt, c, hf, h]
      refine jvk_ok TX12_readStatement (V := [(329, 2, 12, oX12_isWord), (353, 1, 12, oX12_readRoom), (358, 1, 12, oX12_readPerson), (363, 3, 12, oX12_readOnce), (371, 1, 12, oX12_readPlan), (375, 1, 12, oX12_readSet), (309, 3, 12, oX12_check), (313, 1, 12, oX12_advance)]) (S := []) (List.forall_mem_cons.mpr ⟨⟨mX12_isWord, n + 0, 1, TX12, 53, rfl, by omega, kX12_329, WX12_isWord, rfl, CX12_isWord g (n)⟩, (List.forall_mem_cons.mpr ⟨⟨mX12_readRoom, n + 2, 0, TX12, 53, rfl, by omega, kX12_353, WX12_readRoom, rfl, CX12_readRoom g (n)⟩, (List.forall_mem_cons.mpr ⟨⟨mX12_readPerson, n + 3, 0, TX12, 53, rfl, by omega, kX12_358, WX12_readPerson, rfl, CX12_readPerson g (n)⟩, (List.forall_mem_cons.mpr ⟨⟨mX12_readOnce, n + 3, 2, TX12, 53, rfl, by omega, kX12_363, WX12_readOnce, rfl, CX12_readOnce g (n)⟩, (List.forall_mem_cons.mpr ⟨⟨mX12_readPlan, n + 3, 0, TX12, 53, rfl, by omega, kX12_371, WX12_readPlan, rfl, CX12_readPlan g (n)⟩, (List.forall_mem_cons.mpr ⟨⟨mX12_readSet, n + 3, 0, TX12, 53, rfl, by omega, kX12_375, WX12_readSet, rfl, CX12_readSet g (n)⟩, (List.forall_mem_cons.mpr ⟨⟨mX12_check, n + 0, 2, TX12, 53, rfl, by omega, kX12_309, WX12_check, rfl, CX12_check g (n)⟩, (List.forall_mem_cons.mpr ⟨⟨mX12_advance, n + 1, 0, TX12, 53, rfl, by omega, kX12_313, WX12_advance, rfl, CX12_advance g (n)⟩, (fun _ h => absurd h List.not_mem_nil)⟩)⟩)⟩)⟩)⟩)⟩)⟩)⟩) (fun _ h => absurd h List.not_mem_nil) [] 20 _ _ _ _ ?_
      simp (maxSteps := 1000000) [-Prod.forall, -Prod.exists, -Prod.mk.injEq, jvk, tX12_readStatement, jtb, jol, jst, jlk, jcmp, jbin, jfl, fX12, jc2, lX12, jcat, jel, lv_args, Value.category, jins, jsrt, jins2, jble, jblt, jf3, List.filter_cons, List.filter_nil, G_m, oX12_isWord, oX12_readRoom, oX12_readPerson, oX12_readOnce, oX12_readPlan, oX12_readSet, oX12_check, oX12_advance, joR, joRII, joRJ, -Int32.not_le, -Int32.not_lt, -Int64.not_le, -Int64.not_lt, i3lt, i6lt]
      try simp (disch := omega) [-Prod.forall, -Prod.exists, -Prod.mk.injEq, -Int32.not_le, -Int32.not_lt, -Int64.not_le, -Int64.not_lt, i3lt, i6lt]
      exact fin
  · have f0 := hs.2.1
    have e37 := hs.2.2.2.2.1
    by_cases c : kn (tB σ) (tL σ) s = 4
    · have c' : tkc (kn (tB σ) (tL σ) s) = 3 := tkc_3.mpr c
      refine jvk_ok TX12_readStatement (V := [(329, 2, 12, oX12_isWord), (353, 1, 12, oX12_readRoom), (358, 1, 12, oX12_readPerson), (363, 3, 12, oX12_readOnce), (371, 1, 12, oX12_readPlan), (375, 1, 12, oX12_readSet), (309, 3, 12, oX12_check), (313, 1, 12, oX12_advance)]) (S := []) (List.forall_mem_cons.mpr ⟨⟨mX12_isWord, n + 0, 1, TX12, 53, rfl, by omega, kX12_329, WX12_isWord, rfl, CX12_isWord g (n)⟩, (List.forall_mem_cons.mpr ⟨⟨mX12_readRoom, n + 2, 0, TX12, 53, rfl, by omega, kX12_353, WX12_readRoom, rfl, CX12_readRoom g (n)⟩, (List.forall_mem_cons.mpr ⟨⟨mX12_readPerson, n + 3, 0, TX12, 53, rfl, by omega, kX12_358, WX12_readPerson, rfl, CX12_readPerson g (n)⟩, (List.forall_mem_cons.mpr ⟨⟨mX12_readOnce, n + 3, 2, TX12, 53, rfl, by omega, kX12_363, WX12_readOnce, rfl, CX12_readOnce g (n)⟩, (List.forall_mem_cons.mpr ⟨⟨mX12_readPlan, n + 3, 0, TX12, 53, rfl, by omega, kX12_371, WX12_readPlan, rfl, CX12_readPlan g (n)⟩, (List.forall_mem_cons.mpr ⟨⟨mX12_readSet, n + 3, 0, TX12, 53, rfl, by omega, kX12_375, WX12_readSet, rfl, CX12_readSet g (n)⟩, (List.forall_mem_cons.mpr ⟨⟨mX12_check, n + 0, 2, TX12, 53, rfl, by omega, kX12_309, WX12_check, rfl, CX12_check g (n)⟩, (List.forall_mem_cons.mpr ⟨⟨mX12_advance, n + 1, 0, TX12, 53, rfl, by omega, kX12_313, WX12_advance, rfl, CX12_advance g (n)⟩, (fun _ h => absurd h List.not_mem_nil)⟩)⟩)⟩)⟩)⟩)⟩)⟩)⟩) (fun _ h => absurd h List.not_mem_nil) [136] 30 _ _ _ _ ?_
      simp (maxSteps := 1000000) [-Prod.forall, -Prod.exists, -Prod.mk.injEq, jvk, tX12_readStatement, jtb, jol, jst, jlk, jcmp, jbin, jfl, fX12, jc2, lX12, jcat, jel, lv_args, Value.category, jins, jsrt, jins2, jble, jblt, jf3, List.filter_cons, List.filter_nil, G_m, oX12_isWord, oX12_readRoom, oX12_readPerson, oX12_readOnce, oX12_readPlan, oX12_readSet, oX12_check, oX12_advance, joR, joRII, joRJ, -Int32.not_le, -Int32.not_lt, -Int64.not_le, -Int64.not_lt, i3lt, i6lt, e37, c', f0, h]
      try simp (disch := omega) [-Prod.forall, -Prod.exists, -Prod.mk.injEq, -Int32.not_le, -Int32.not_lt, -Int64.not_le, -Int64.not_lt, i3lt, i6lt, e37, c', f0, h]
      intro v1 τ1 hv1 b1 b2 b3
      subst hv1
      rw [tk_nx h hs] at b3
      have w1 : jfr aIn bTk σ τ1 := b1.weak (fun a j q => in_Tk a j q) (fun _ q => q)
      have z1 : rSz τ1 := rSz_fr hz w1 rfl rfl rfl
      refine jvk_ok TX12_readStatement (V := [(329, 2, 12, oX12_isWord), (353, 1, 12, oX12_readRoom), (358, 1, 12, oX12_readPerson), (363, 3, 12, oX12_readOnce), (371, 1, 12, oX12_readPlan), (375, 1, 12, oX12_readSet), (309, 3, 12, oX12_check), (313, 1, 12, oX12_advance)]) (S := []) (List.forall_mem_cons.mpr ⟨⟨mX12_isWord, n + 0, 1, TX12, 53, rfl, by omega, kX12_329, WX12_isWord, rfl, CX12_isWord g (n)⟩, (List.forall_mem_cons.mpr ⟨⟨mX12_readRoom, n + 2, 0, TX12, 53, rfl, by omega, kX12_353, WX12_readRoom, rfl, CX12_readRoom g (n)⟩, (List.forall_mem_cons.mpr ⟨⟨mX12_readPerson, n + 3, 0, TX12, 53, rfl, by omega, kX12_358, WX12_readPerson, rfl, CX12_readPerson g (n)⟩, (List.forall_mem_cons.mpr ⟨⟨mX12_readOnce, n + 3, 2, TX12, 53, rfl, by omega, kX12_363, WX12_readOnce, rfl, CX12_readOnce g (n)⟩, (List.forall_mem_cons.mpr ⟨⟨mX12_readPlan, n + 3, 0, TX12, 53, rfl, by omega, kX12_371, WX12_readPlan, rfl, CX12_readPlan g (n)⟩, (List.forall_mem_cons.mpr ⟨⟨mX12_readSet, n + 3, 0, TX12, 53, rfl, by omega, kX12_375, WX12_readSet, rfl, CX12_readSet g (n)⟩, (List.forall_mem_cons.mpr ⟨⟨mX12_check, n + 0, 2, TX12, 53, rfl, by omega, kX12_309, WX12_check, rfl, CX12_check g (n)⟩, (List.forall_mem_cons.mpr ⟨⟨mX12_advance, n + 1, 0, TX12, 53, rfl, by omega, kX12_313, WX12_advance, rfl, CX12_advance g (n)⟩, (fun _ h => absurd h List.not_mem_nil)⟩)⟩)⟩)⟩)⟩)⟩)⟩)⟩) (fun _ h => absurd h List.not_mem_nil) [] 20 _ _ _ _ ?_
      simp (maxSteps := 1000000) [-Prod.forall, -Prod.exists, -Prod.mk.injEq, jvk, tX12_readStatement, jtb, jol, jst, jlk, jcmp, jbin, jfl, fX12, jc2, lX12, jcat, jel, lv_args, Value.category, jins, jsrt, jins2, jble, jblt, jf3, List.filter_cons, List.filter_nil, G_m, oX12_isWord, oX12_readRoom, oX12_readPerson, oX12_readOnce, oX12_readPlan, oX12_readSet, oX12_check, oX12_advance, joR, joRII, joRJ, -Int32.not_le, -Int32.not_lt, -Int64.not_le, -Int64.not_lt, i3lt, i6lt]
      try simp (disch := omega) [-Prod.forall, -Prod.exists, -Prod.mk.injEq, -Int32.not_le, -Int32.not_lt, -Int64.not_le, -Int64.not_lt, i3lt, i6lt]
      refine k _ ((w1.weak (fun a j q => rd_In a j (rs_Rd a j q)) (fun _ q => q)).up _ rfl) (t50 _ _ b2) (s50 _ _ z1) (by rw [jup_1, if_pos ⟨rfl, rfl⟩, w1.2.2 322 50 rfl]) (fun r hr => r50 _ _ _ ?_)
      rcases r with e | p
      · exact absurd hr.1 (by rw [f0]; exact fun z => hr.2.1 z.symm)
      · have es : p.1 = s := tk_inj hr.1 hs h9
        show rRes τ1 (if kn (tB σ) (tL σ) p.1 = 4 then _ else _)
        rw [es, if_pos c]
        exact ⟨b3, rdA_fr hr.2 w1⟩
    · have c' : ¬ tkc (kn (tB σ) (tL σ) s) = 3 := fun z => c (tkc_3.mp z)
      have hf : ¬ (jup σ 322 41 (-11)).1 322 41 = 0 := by rw [jup_1, if_pos ⟨rfl, rfl⟩]; decide
      obtain ⟨ρ, eρ⟩ : ∃ ρ, ρ = jup σ 322 41 (-11) := ⟨_, rfl⟩
      refine jvk_ok TX12_readStatement (V := [(329, 2, 12, oX12_isWord), (353, 1, 12, oX12_readRoom), (358, 1, 12, oX12_readPerson), (363, 3, 12, oX12_readOnce), (371, 1, 12, oX12_readPlan), (375, 1, 12, oX12_readSet), (309, 3, 12, oX12_check), (313, 1, 12, oX12_advance)]) (S := []) (List.forall_mem_cons.mpr ⟨⟨mX12_isWord, n + 0, 1, TX12, 53, rfl, by omega, kX12_329, WX12_isWord, rfl, CX12_isWord g (n)⟩, (List.forall_mem_cons.mpr ⟨⟨mX12_readRoom, n + 2, 0, TX12, 53, rfl, by omega, kX12_353, WX12_readRoom, rfl, CX12_readRoom g (n)⟩, (List.forall_mem_cons.mpr ⟨⟨mX12_readPerson, n + 3, 0, TX12, 53, rfl, by omega, kX12_358, WX12_readPerson, rfl, CX12_readPerson g (n)⟩, (List.forall_mem_cons.mpr ⟨⟨mX12_readOnce, n + 3, 2, TX12, 53, rfl, by omega, kX12_363, WX12_readOnce, rfl, CX12_readOnce g (n)⟩, (List.forall_mem_cons.mpr ⟨⟨mX12_readPlan, n + 3, 0, TX12, 53, rfl, by omega, kX12_371, WX12_readPlan, rfl, CX12_readPlan g (n)⟩, (List.forall_mem_cons.mpr ⟨⟨mX12_readSet, n + 3, 0, TX12, 53, rfl, by omega, kX12_375, WX12_readSet, rfl, CX12_readSet g (n)⟩, (List.forall_mem_cons.mpr ⟨⟨mX12_check, n + 0, 2, TX12, 53, rfl, by omega, kX12_309, WX12_check, rfl, CX12_check g (n)⟩, (List.forall_mem_cons.mpr ⟨⟨mX12_advance, n + 1, 0, TX12, 53, rfl, by omega, kX12_313, WX12_advance, rfl, CX12_advance g (n)⟩, (fun _ h => absurd h List.not_mem_nil)⟩)⟩)⟩)⟩)⟩)⟩)⟩)⟩) (fun _ h => absurd h List.not_mem_nil) [132] 30 _ _ _ _ ?_
      simp (maxSteps := 1000000) [-Prod.forall, -Prod.exists, -Prod.mk.injEq, jvk, tX12_readStatement, jtb, jol, jst, jlk, jcmp, jbin, jfl, fX12, jc2, lX12, jcat, jel, lv_args, Value.category, jins, jsrt, jins2, jble, jblt, jf3, List.filter_cons, List.filter_nil, G_m, oX12_isWord, oX12_readRoom, oX12_readPerson, oX12_readOnce, oX12_readPlan, oX12_readSet, oX12_check, oX12_advance, joR, joRII, joRJ, -Int32.not_le, -Int32.not_lt, -Int64.not_le, -Int64.not_lt, i3lt, i6lt, e37, c', f0, i11]
      try simp (disch := omega) [-Prod.forall, -Prod.exists, -Prod.mk.injEq, -Int32.not_le, -Int32.not_lt, -Int64.not_le, -Int64.not_lt, i3lt, i6lt, e37, c', f0, i11]
      rw [← eρ] at hf ⊢
      have rρ : rT ρ := by rw [eρ]; exact h
      refine jvk_ok TX12_readStatement (V := [(329, 2, 12, oX12_isWord), (353, 1, 12, oX12_readRoom), (358, 1, 12, oX12_readPerson), (363, 3, 12, oX12_readOnce), (371, 1, 12, oX12_readPlan), (375, 1, 12, oX12_readSet), (309, 3, 12, oX12_check), (313, 1, 12, oX12_advance)]) (S := []) (List.forall_mem_cons.mpr ⟨⟨mX12_isWord, n + 0, 1, TX12, 53, rfl, by omega, kX12_329, WX12_isWord, rfl, CX12_isWord g (n)⟩, (List.forall_mem_cons.mpr ⟨⟨mX12_readRoom, n + 2, 0, TX12, 53, rfl, by omega, kX12_353, WX12_readRoom, rfl, CX12_readRoom g (n)⟩, (List.forall_mem_cons.mpr ⟨⟨mX12_readPerson, n + 3, 0, TX12, 53, rfl, by omega, kX12_358, WX12_readPerson, rfl, CX12_readPerson g (n)⟩, (List.forall_mem_cons.mpr ⟨⟨mX12_readOnce, n + 3, 2, TX12, 53, rfl, by omega, kX12_363, WX12_readOnce, rfl, CX12_readOnce g (n)⟩, (List.forall_mem_cons.mpr ⟨⟨mX12_readPlan, n + 3, 0, TX12, 53, rfl, by omega, kX12_371, WX12_readPlan, rfl, CX12_readPlan g (n)⟩, (List.forall_mem_cons.mpr ⟨⟨mX12_readSet, n + 3, 0, TX12, 53, rfl, by omega, kX12_375, WX12_readSet, rfl, CX12_readSet g (n)⟩, (List.forall_mem_cons.mpr ⟨⟨mX12_check, n + 0, 2, TX12, 53, rfl, by omega, kX12_309, WX12_check, rfl, CX12_check g (n)⟩, (List.forall_mem_cons.mpr ⟨⟨mX12_advance, n + 1, 0, TX12, 53, rfl, by omega, kX12_313, WX12_advance, rfl, CX12_advance g (n)⟩, (fun _ h => absurd h List.not_mem_nil)⟩)⟩)⟩)⟩)⟩)⟩)⟩)⟩) (fun _ h => absurd h List.not_mem_nil) [136] 30 _ _ _ _ ?_
      simp (maxSteps := 1000000) [-Prod.forall, -Prod.exists, -Prod.mk.injEq, jvk, tX12_readStatement, jtb, jol, jst, jlk, jcmp, jbin, jfl, fX12, jc2, lX12, jcat, jel, lv_args, Value.category, jins, jsrt, jins2, jble, jblt, jf3, List.filter_cons, List.filter_nil, G_m, oX12_isWord, oX12_readRoom, oX12_readPerson, oX12_readOnce, oX12_readPlan, oX12_readSet, oX12_check, oX12_advance, joR, joRII, joRJ, -Int32.not_le, -Int32.not_lt, -Int64.not_le, -Int64.not_lt, i3lt, i6lt, rρ, hf]
      try simp (disch := omega) [-Prod.forall, -Prod.exists, -Prod.mk.injEq, -Int32.not_le, -Int32.not_lt, -Int64.not_le, -Int64.not_lt, i3lt, i6lt, rρ, hf]
      have e50 : τ1.1 322 50 = σ.1 322 50 := by rw [eρ]; rfl
      refine jvk_ok TX12_readStatement (V := [(329, 2, 12, oX12_isWord), (353, 1, 12, oX12_readRoom), (358, 1, 12, oX12_readPerson), (363, 3, 12, oX12_readOnce), (371, 1, 12, oX12_readPlan), (375, 1, 12, oX12_readSet), (309, 3, 12, oX12_check), (313, 1, 12, oX12_advance)]) (S := []) (List.forall_mem_cons.mpr ⟨⟨mX12_isWord, n + 0, 1, TX12, 53, rfl, by omega, kX12_329, WX12_isWord, rfl, CX12_isWord g (n)⟩, (List.forall_mem_cons.mpr ⟨⟨mX12_readRoom, n + 2, 0, TX12, 53, rfl, by omega, kX12_353, WX12_readRoom, rfl, CX12_readRoom g (n)⟩, (List.forall_mem_cons.mpr ⟨⟨mX12_readPerson, n + 3, 0, TX12, 53, rfl, by omega, kX12_358, WX12_readPerson, rfl, CX12_readPerson g (n)⟩, (List.forall_mem_cons.mpr ⟨⟨mX12_readOnce, n + 3, 2, TX12, 53, rfl, by omega, kX12_363, WX12_readOnce, rfl, CX12_readOnce g (n)⟩, (List.forall_mem_cons.mpr ⟨⟨mX12_readPlan, n + 3, 0, TX12, 53, rfl, by omega, kX12_371, WX12_readPlan, rfl, CX12_readPlan g (n)⟩, (List.forall_mem_cons.mpr ⟨⟨mX12_readSet, n + 3, 0, TX12, 53, rfl, by omega, kX12_375, WX12_readSet, rfl, CX12_readSet g (n)⟩, (List.forall_mem_cons.mpr ⟨⟨mX12_check, n + 0, 2, TX12, 53, rfl, by omega, kX12_309, WX12_check, rfl, CX12_check g (n)⟩, (List.forall_mem_cons.mpr ⟨⟨mX12_advance, n + 1, 0, TX12, 53, rfl, by omega, kX12_313, WX12_advance, rfl, CX12_advance g (n)⟩, (fun _ h => absurd h List.not_mem_nil)⟩)⟩)⟩)⟩)⟩)⟩)⟩)⟩) (fun _ h => absurd h List.not_mem_nil) [] 20 _ _ _ _ ?_
      simp (maxSteps := 1000000) [-Prod.forall, -Prod.exists, -Prod.mk.injEq, jvk, tX12_readStatement, jtb, jol, jst, jlk, jcmp, jbin, jfl, fX12, jc2, lX12, jcat, jel, lv_args, Value.category, jins, jsrt, jins2, jble, jblt, jf3, List.filter_cons, List.filter_nil, G_m, oX12_isWord, oX12_readRoom, oX12_readPerson, oX12_readOnce, oX12_readPlan, oX12_readSet, oX12_check, oX12_advance, joR, joRII, joRJ, -Int32.not_le, -Int32.not_lt, -Int64.not_le, -Int64.not_lt, i3lt, i6lt, e50]
      try simp (disch := omega) [-Prod.forall, -Prod.exists, -Prod.mk.injEq, -Int32.not_le, -Int32.not_lt, -Int64.not_le, -Int64.not_lt, i3lt, i6lt, e50]
      refine k _ (by rw [eρ]; exact (jfr.rfl.up _ rfl).up _ rfl) (t50 _ _ rρ) (s50 _ _ (by rw [eρ]; exact hz)) (by rw [jup_1, if_pos ⟨rfl, rfl⟩]) (fun r hr => r50 _ _ _ ?_)
      rcases r with e | p
      · exact absurd hr.1 (by rw [f0]; exact fun z => hr.2.1 z.symm)
      · have es : p.1 = s := tk_inj hr.1 hs h9
        show rRes τ1 (if kn (tB σ) (tL σ) p.1 = 4 then _ else _)
        rw [es, if_neg c, eρ]
        exact ⟨rfl, i11.1, hs.2.2.1⟩
theorem rRes_or {τ : jM} {r : pE ⊕ pS} (h : rRes τ r) : (¬ τ.1 322 41 = 0) ∨ ∃ s, tk τ s := by
  rcases r with e | p
  · exact Or.inl (by rw [h.1]; exact h.2.1)
  · exact Or.inr ⟨_, h.1⟩
theorem rdA_self (σ : jM) : rdA σ σ.1 := fun _ _ _ => rfl
set_option maxRecDepth 100000 in
set_option maxHeartbeats 4000000 in
theorem CX12_readStatement (g : jG) (n : Nat) : jOk g (n + 4) mX12_readStatement oX12_readStatement := by
  refine joR_ok ?_
  rintro _ σ ⟨rfl, h, hz, s, hs⟩
  have h9 := (rT_n h).1
  have f0 := hs.2.1
  have uniq : ∀ t, tk σ t → t = s := fun t ht => tk_inj ht hs h9
  have hx : ∃ s, tk σ s := ⟨s, hs⟩
  have t1 := tk_w hs wd_all.1 wN_all.1
  have t2 := tk_w hs wd_all.2.1 wN_all.2.1
  have t3 := tk_w hs wd_all.2.2.2.1 wN_all.2.2.2.1
  have t4 := tk_w hs wd_all.2.2.2.2.1 wN_all.2.2.2.2.1
  have t5 := tk_w hs wd_all.2.2.2.2.2.1 wN_all.2.2.2.2.2.1
  have t6 := tk_w hs wd_all.2.2.2.2.2.2.1 wN_all.2.2.2.2.2.2.1
  have fin : ∀ (post : Option Value → jM → Prop) (F : pM → pE ⊕ pS), (∀ v τ, (v = none ∧ jfr aRs bTk σ τ ∧ rT τ ∧ rSz τ ∧ τ.1 322 50 = σ.1 322 50 + 1 ∧ ∀ s μ, tk σ s → rdA σ μ → rRes τ (pStmt (tB σ) (tL σ) s μ)) → post v τ) → (∀ μ, pStmt (tB σ) (tL σ) s μ = pEnd (tB σ) (tL σ) (F μ)) → ∀ τ, jfr aRd bTk σ τ → rT τ → rSz τ → (∀ μ, rdA σ μ → rRes τ (F μ)) → jW g mX12_readStatement (n + 4) post 113 [(0, .ref 322)] [] τ := by
    intro post F hp hF τ f r z hres
    refine CSt_e g n r z (rRes_or (hres _ (rdA_self σ))) (fun τ' f' r' z' e50 hk => hp _ _ ⟨rfl, (f.weak (fun a j q => rs_Rd a j q) (fun _ q => q)).tr f', r', z', by rw [e50, f.2.2 322 50 rfl], fun t μ ht hμ => ?_⟩)
    rw [uniq t ht, hF]
    have := hk _ (hres μ hμ)
    rw [(rd_fr f).1, (rd_fr f).2] at this
    exact this
  by_cases q1 : isW (tB σ) (tL σ) s wRoom = true
  · refine jCon.ofP (by decide +kernel) (by simp [lg_sl, Value.category]) (fun post hp => ?_)
    refine jvk_ok TX12_readStatement (V := [(329, 2, 12, oX12_isWord), (353, 1, 12, oX12_readRoom), (358, 1, 12, oX12_readPerson), (363, 3, 12, oX12_readOnce), (371, 1, 12, oX12_readPlan), (375, 1, 12, oX12_readSet), (309, 3, 12, oX12_check), (313, 1, 12, oX12_advance)]) (S := []) (List.forall_mem_cons.mpr ⟨⟨mX12_isWord, n + 0, 1, TX12, 53, rfl, by omega, kX12_329, WX12_isWord, rfl, CX12_isWord g (n)⟩, (List.forall_mem_cons.mpr ⟨⟨mX12_readRoom, n + 2, 0, TX12, 53, rfl, by omega, kX12_353, WX12_readRoom, rfl, CX12_readRoom g (n)⟩, (List.forall_mem_cons.mpr ⟨⟨mX12_readPerson, n + 3, 0, TX12, 53, rfl, by omega, kX12_358, WX12_readPerson, rfl, CX12_readPerson g (n)⟩, (List.forall_mem_cons.mpr ⟨⟨mX12_readOnce, n + 3, 2, TX12, 53, rfl, by omega, kX12_363, WX12_readOnce, rfl, CX12_readOnce g (n)⟩, (List.forall_mem_cons.mpr ⟨⟨mX12_readPlan, n + 3, 0, TX12, 53, rfl, by omega, kX12_371, WX12_readPlan, rfl, CX12_readPlan g (n)⟩, (List.forall_mem_cons.mpr ⟨⟨mX12_readSet, n + 3, 0, TX12, 53, rfl, by omega, kX12_375, WX12_readSet, rfl, CX12_readSet g (n)⟩, (List.forall_mem_cons.mpr ⟨⟨mX12_check, n + 0, 2, TX12, 53, rfl, by omega, kX12_309, WX12_check, rfl, CX12_check g (n)⟩, (List.forall_mem_cons.mpr ⟨⟨mX12_advance, n + 1, 0, TX12, 53, rfl, by omega, kX12_313, WX12_advance, rfl, CX12_advance g (n)⟩, (fun _ h => absurd h List.not_mem_nil)⟩)⟩)⟩)⟩)⟩)⟩)⟩)⟩) (fun _ h => absurd h List.not_mem_nil) [14] 40 _ _ _ _ ?_
    simp (maxSteps := 1000000) [-Prod.forall, -Prod.exists, -Prod.mk.injEq, jvk, tX12_readStatement, jtb, jol, jst, jlk, jcmp, jbin, jfl, fX12, jc2, lX12, jcat, jel, lv_args, Value.category, jins, jsrt, jins2, jble, jblt, jf3, List.filter_cons, List.filter_nil, G_m, oX12_isWord, oX12_readRoom, oX12_readPerson, oX12_readOnce, oX12_readPlan, oX12_readSet, oX12_check, oX12_advance, joR, joRII, joRJ, -Int32.not_le, -Int32.not_lt, -Int64.not_le, -Int64.not_lt, i3lt, i6lt, t1, q1, h, hz, hx]
    try simp (disch := omega) [-Prod.forall, -Prod.exists, -Prod.mk.injEq, -Int32.not_le, -Int32.not_lt, -Int64.not_le, -Int64.not_lt, i3lt, i6lt, t1, q1, h, hz, hx]
    intro v1 τ hv1 a1 a2 a3 a4
    subst hv1
    have k := fin post (fun μ => pRoom (tB σ) (tL σ) s μ) hp (fun μ => by unfold pStmt; rw [if_pos q1]; rfl) τ a1 a2 a3 (fun μ hμ => a4 s μ hs hμ)
    refine jvk_ok TX12_readStatement (V := [(329, 2, 12, oX12_isWord), (353, 1, 12, oX12_readRoom), (358, 1, 12, oX12_readPerson), (363, 3, 12, oX12_readOnce), (371, 1, 12, oX12_readPlan), (375, 1, 12, oX12_readSet), (309, 3, 12, oX12_check), (313, 1, 12, oX12_advance)]) (S := []) (List.forall_mem_cons.mpr ⟨⟨mX12_isWord, n + 0, 1, TX12, 53, rfl, by omega, kX12_329, WX12_isWord, rfl, CX12_isWord g (n)⟩, (List.forall_mem_cons.mpr ⟨⟨mX12_readRoom, n + 2, 0, TX12, 53, rfl, by omega, kX12_353, WX12_readRoom, rfl, CX12_readRoom g (n)⟩, (List.forall_mem_cons.mpr ⟨⟨mX12_readPerson, n + 3, 0, TX12, 53, rfl, by omega, kX12_358, WX12_readPerson, rfl, CX12_readPerson g (n)⟩, (List.forall_mem_cons.mpr ⟨⟨mX12_readOnce, n + 3, 2, TX12, 53, rfl, by omega, kX12_363, WX12_readOnce, rfl, CX12_readOnce g (n)⟩, (List.forall_mem_cons.mpr ⟨⟨mX12_readPlan, n + 3, 0, TX12, 53, rfl, by omega, kX12_371, WX12_readPlan, rfl, CX12_readPlan g (n)⟩, (List.forall_mem_cons.mpr ⟨⟨mX12_readSet, n + 3, 0, TX12, 53, rfl, by omega, kX12_375, WX12_readSet, rfl, CX12_readSet g (n)⟩, (List.forall_mem_cons.mpr ⟨⟨mX12_check, n + 0, 2, TX12, 53, rfl, by omega, kX12_309, WX12_check, rfl, CX12_check g (n)⟩, (List.forall_mem_cons.mpr ⟨⟨mX12_advance, n + 1, 0, TX12, 53, rfl, by omega, kX12_313, WX12_advance, rfl, CX12_advance g (n)⟩, (fun _ h => absurd h List.not_mem_nil)⟩)⟩)⟩)⟩)⟩)⟩)⟩)⟩) (fun _ h => absurd h List.not_mem_nil) [113] 10 _ _ _ _ ?_
    simp (maxSteps := 1000000) [-Prod.forall, -Prod.exists, -Prod.mk.injEq, jvk, tX12_readStatement, jtb, jol, jst, jlk, jcmp, jbin, jfl, fX12, jc2, lX12, jcat, jel, lv_args, Value.category, jins, jsrt, jins2, jble, jblt, jf3, List.filter_cons, List.filter_nil, G_m, oX12_isWord, oX12_readRoom, oX12_readPerson, oX12_readOnce, oX12_readPlan, oX12_readSet, oX12_check, oX12_advance, joR, joRII, joRJ, -Int32.not_le, -Int32.not_lt, -Int64.not_le, -Int64.not_lt, i3lt, i6lt]
    try simp (disch := omega) [-Prod.forall, -Prod.exists, -Prod.mk.injEq, -Int32.not_le, -Int32.not_lt, -Int64.not_le, -Int64.not_lt, i3lt, i6lt]
    exact k
  · by_cases q2 : isW (tB σ) (tL σ) s wPerson = true
    · refine jCon.ofP (by decide +kernel) (by simp [lg_sl, Value.category]) (fun post hp => ?_)
      refine jvk_ok TX12_readStatement (V := [(329, 2, 12, oX12_isWord), (353, 1, 12, oX12_readRoom), (358, 1, 12, oX12_readPerson), (363, 3, 12, oX12_readOnce), (371, 1, 12, oX12_readPlan), (375, 1, 12, oX12_readSet), (309, 3, 12, oX12_check), (313, 1, 12, oX12_advance)]) (S := []) (List.forall_mem_cons.mpr ⟨⟨mX12_isWord, n + 0, 1, TX12, 53, rfl, by omega, kX12_329, WX12_isWord, rfl, CX12_isWord g (n)⟩, (List.forall_mem_cons.mpr ⟨⟨mX12_readRoom, n + 2, 0, TX12, 53, rfl, by omega, kX12_353, WX12_readRoom, rfl, CX12_readRoom g (n)⟩, (List.forall_mem_cons.mpr ⟨⟨mX12_readPerson, n + 3, 0, TX12, 53, rfl, by omega, kX12_358, WX12_readPerson, rfl, CX12_readPerson g (n)⟩, (List.forall_mem_cons.mpr ⟨⟨mX12_readOnce, n + 3, 2, TX12, 53, rfl, by omega, kX12_363, WX12_readOnce, rfl, CX12_readOnce g (n)⟩, (List.forall_mem_cons.mpr ⟨⟨mX12_readPlan, n + 3, 0, TX12, 53, rfl, by omega, kX12_371, WX12_readPlan, rfl, CX12_readPlan g (n)⟩, (List.forall_mem_cons.mpr ⟨⟨mX12_readSet, n + 3, 0, TX12, 53, rfl, by omega, kX12_375, WX12_readSet, rfl, CX12_readSet g (n)⟩, (List.forall_mem_cons.mpr ⟨⟨mX12_check, n + 0, 2, TX12, 53, rfl, by omega, kX12_309, WX12_check, rfl, CX12_check g (n)⟩, (List.forall_mem_cons.mpr ⟨⟨mX12_advance, n + 1, 0, TX12, 53, rfl, by omega, kX12_313, WX12_advance, rfl, CX12_advance g (n)⟩, (fun _ h => absurd h List.not_mem_nil)⟩)⟩)⟩)⟩)⟩)⟩)⟩)⟩) (fun _ h => absurd h List.not_mem_nil) [31] 40 _ _ _ _ ?_
      simp (maxSteps := 1000000) [-Prod.forall, -Prod.exists, -Prod.mk.injEq, jvk, tX12_readStatement, jtb, jol, jst, jlk, jcmp, jbin, jfl, fX12, jc2, lX12, jcat, jel, lv_args, Value.category, jins, jsrt, jins2, jble, jblt, jf3, List.filter_cons, List.filter_nil, G_m, oX12_isWord, oX12_readRoom, oX12_readPerson, oX12_readOnce, oX12_readPlan, oX12_readSet, oX12_check, oX12_advance, joR, joRII, joRJ, -Int32.not_le, -Int32.not_lt, -Int64.not_le, -Int64.not_lt, i3lt, i6lt, t1, t2, q1, q2, h, hz, hx]
      try simp (disch := omega) [-Prod.forall, -Prod.exists, -Prod.mk.injEq, -Int32.not_le, -Int32.not_lt, -Int64.not_le, -Int64.not_lt, i3lt, i6lt, t1, t2, q1, q2, h, hz, hx]
      intro v1 τ hv1 a1 a2 a3 a4
      subst hv1
      have k := fin post (fun μ => pPers (tB σ) (tL σ) s μ) hp (fun μ => by unfold pStmt; rw [if_neg q1, if_pos q2]; rfl) τ a1 a2 a3 (fun μ hμ => a4 s μ hs hμ)
      refine jvk_ok TX12_readStatement (V := [(329, 2, 12, oX12_isWord), (353, 1, 12, oX12_readRoom), (358, 1, 12, oX12_readPerson), (363, 3, 12, oX12_readOnce), (371, 1, 12, oX12_readPlan), (375, 1, 12, oX12_readSet), (309, 3, 12, oX12_check), (313, 1, 12, oX12_advance)]) (S := []) (List.forall_mem_cons.mpr ⟨⟨mX12_isWord, n + 0, 1, TX12, 53, rfl, by omega, kX12_329, WX12_isWord, rfl, CX12_isWord g (n)⟩, (List.forall_mem_cons.mpr ⟨⟨mX12_readRoom, n + 2, 0, TX12, 53, rfl, by omega, kX12_353, WX12_readRoom, rfl, CX12_readRoom g (n)⟩, (List.forall_mem_cons.mpr ⟨⟨mX12_readPerson, n + 3, 0, TX12, 53, rfl, by omega, kX12_358, WX12_readPerson, rfl, CX12_readPerson g (n)⟩, (List.forall_mem_cons.mpr ⟨⟨mX12_readOnce, n + 3, 2, TX12, 53, rfl, by omega, kX12_363, WX12_readOnce, rfl, CX12_readOnce g (n)⟩, (List.forall_mem_cons.mpr ⟨⟨mX12_readPlan, n + 3, 0, TX12, 53, rfl, by omega, kX12_371, WX12_readPlan, rfl, CX12_readPlan g (n)⟩, (List.forall_mem_cons.mpr ⟨⟨mX12_readSet, n + 3, 0, TX12, 53, rfl, by omega, kX12_375, WX12_readSet, rfl, CX12_readSet g (n)⟩, (List.forall_mem_cons.mpr ⟨⟨mX12_check, n + 0, 2, TX12, 53, rfl, by omega, kX12_309, WX12_check, rfl, CX12_check g (n)⟩, (List.forall_mem_cons.mpr ⟨⟨mX12_advance, n + 1, 0, TX12, 53, rfl, by omega, kX12_313, WX12_advance, rfl, CX12_advance g (n)⟩, (fun _ h => absurd h List.not_mem_nil)⟩)⟩)⟩)⟩)⟩)⟩)⟩)⟩) (fun _ h => absurd h List.not_mem_nil) [113] 10 _ _ _ _ ?_
      simp (maxSteps := 1000000) [-Prod.forall, -Prod.exists, -Prod.mk.injEq, jvk, tX12_readStatement, jtb, jol, jst, jlk, jcmp, jbin, jfl, fX12, jc2, lX12, jcat, jel, lv_args, Value.category, jins, jsrt, jins2, jble, jblt, jf3, List.filter_cons, List.filter_nil, G_m, oX12_isWord, oX12_readRoom, oX12_readPerson, oX12_readOnce, oX12_readPlan, oX12_readSet, oX12_check, oX12_advance, joR, joRII, joRJ, -Int32.not_le, -Int32.not_lt, -Int64.not_le, -Int64.not_lt, i3lt, i6lt]
      try simp (disch := omega) [-Prod.forall, -Prod.exists, -Prod.mk.injEq, -Int32.not_le, -Int32.not_lt, -Int64.not_le, -Int64.not_lt, i3lt, i6lt]
      exact k
    · by_cases q3 : isW (tB σ) (tL σ) s wLease = true
      · have hpre : ∃ k pl, (3 : Int32) = nI k ∧ k < 31 ∧ (3 : Int32) = nI pl ∧ pl < 208 := ⟨3, 3, rfl, by decide, rfl, by decide⟩
        have c3 : (3 : Int32).toNatClampNeg = 3 := by decide
        refine jCon.ofP (by decide +kernel) (by simp [lg_sl, Value.category]) (fun post hp => ?_)
        refine jvk_ok TX12_readStatement (V := [(329, 2, 12, oX12_isWord), (353, 1, 12, oX12_readRoom), (358, 1, 12, oX12_readPerson), (363, 3, 12, oX12_readOnce), (371, 1, 12, oX12_readPlan), (375, 1, 12, oX12_readSet), (309, 3, 12, oX12_check), (313, 1, 12, oX12_advance)]) (S := []) (List.forall_mem_cons.mpr ⟨⟨mX12_isWord, n + 0, 1, TX12, 53, rfl, by omega, kX12_329, WX12_isWord, rfl, CX12_isWord g (n)⟩, (List.forall_mem_cons.mpr ⟨⟨mX12_readRoom, n + 2, 0, TX12, 53, rfl, by omega, kX12_353, WX12_readRoom, rfl, CX12_readRoom g (n)⟩, (List.forall_mem_cons.mpr ⟨⟨mX12_readPerson, n + 3, 0, TX12, 53, rfl, by omega, kX12_358, WX12_readPerson, rfl, CX12_readPerson g (n)⟩, (List.forall_mem_cons.mpr ⟨⟨mX12_readOnce, n + 3, 2, TX12, 53, rfl, by omega, kX12_363, WX12_readOnce, rfl, CX12_readOnce g (n)⟩, (List.forall_mem_cons.mpr ⟨⟨mX12_readPlan, n + 3, 0, TX12, 53, rfl, by omega, kX12_371, WX12_readPlan, rfl, CX12_readPlan g (n)⟩, (List.forall_mem_cons.mpr ⟨⟨mX12_readSet, n + 3, 0, TX12, 53, rfl, by omega, kX12_375, WX12_readSet, rfl, CX12_readSet g (n)⟩, (List.forall_mem_cons.mpr ⟨⟨mX12_check, n + 0, 2, TX12, 53, rfl, by omega, kX12_309, WX12_check, rfl, CX12_check g (n)⟩, (List.forall_mem_cons.mpr ⟨⟨mX12_advance, n + 1, 0, TX12, 53, rfl, by omega, kX12_313, WX12_advance, rfl, CX12_advance g (n)⟩, (fun _ h => absurd h List.not_mem_nil)⟩)⟩)⟩)⟩)⟩)⟩)⟩)⟩) (fun _ h => absurd h List.not_mem_nil) [50] 40 _ _ _ _ ?_
        simp (maxSteps := 1000000) [-Prod.forall, -Prod.exists, -Prod.mk.injEq, jvk, tX12_readStatement, jtb, jol, jst, jlk, jcmp, jbin, jfl, fX12, jc2, lX12, jcat, jel, lv_args, Value.category, jins, jsrt, jins2, jble, jblt, jf3, List.filter_cons, List.filter_nil, G_m, oX12_isWord, oX12_readRoom, oX12_readPerson, oX12_readOnce, oX12_readPlan, oX12_readSet, oX12_check, oX12_advance, joR, joRII, joRJ, -Int32.not_le, -Int32.not_lt, -Int64.not_le, -Int64.not_lt, i3lt, i6lt, t1, t2, t3, q1, q2, q3, h, hz, hx, hpre]
        try simp (disch := omega) [-Prod.forall, -Prod.exists, -Prod.mk.injEq, -Int32.not_le, -Int32.not_lt, -Int64.not_le, -Int64.not_lt, i3lt, i6lt, t1, t2, t3, q1, q2, q3, h, hz, hx, hpre]
        intro v1 τ hv1 a1 a2 a3 a4
        subst hv1
        rw [c3] at a4
        have k := fin post (fun μ => pOnce (tB σ) (tL σ) 3 3 s μ) hp (fun μ => by unfold pStmt; rw [if_neg q1, if_neg q2, if_pos q3]; rfl) τ a1 a2 a3 (fun μ hμ => a4 s μ hs hμ)
        refine jvk_ok TX12_readStatement (V := [(329, 2, 12, oX12_isWord), (353, 1, 12, oX12_readRoom), (358, 1, 12, oX12_readPerson), (363, 3, 12, oX12_readOnce), (371, 1, 12, oX12_readPlan), (375, 1, 12, oX12_readSet), (309, 3, 12, oX12_check), (313, 1, 12, oX12_advance)]) (S := []) (List.forall_mem_cons.mpr ⟨⟨mX12_isWord, n + 0, 1, TX12, 53, rfl, by omega, kX12_329, WX12_isWord, rfl, CX12_isWord g (n)⟩, (List.forall_mem_cons.mpr ⟨⟨mX12_readRoom, n + 2, 0, TX12, 53, rfl, by omega, kX12_353, WX12_readRoom, rfl, CX12_readRoom g (n)⟩, (List.forall_mem_cons.mpr ⟨⟨mX12_readPerson, n + 3, 0, TX12, 53, rfl, by omega, kX12_358, WX12_readPerson, rfl, CX12_readPerson g (n)⟩, (List.forall_mem_cons.mpr ⟨⟨mX12_readOnce, n + 3, 2, TX12, 53, rfl, by omega, kX12_363, WX12_readOnce, rfl, CX12_readOnce g (n)⟩, (List.forall_mem_cons.mpr ⟨⟨mX12_readPlan, n + 3, 0, TX12, 53, rfl, by omega, kX12_371, WX12_readPlan, rfl, CX12_readPlan g (n)⟩, (List.forall_mem_cons.mpr ⟨⟨mX12_readSet, n + 3, 0, TX12, 53, rfl, by omega, kX12_375, WX12_readSet, rfl, CX12_readSet g (n)⟩, (List.forall_mem_cons.mpr ⟨⟨mX12_check, n + 0, 2, TX12, 53, rfl, by omega, kX12_309, WX12_check, rfl, CX12_check g (n)⟩, (List.forall_mem_cons.mpr ⟨⟨mX12_advance, n + 1, 0, TX12, 53, rfl, by omega, kX12_313, WX12_advance, rfl, CX12_advance g (n)⟩, (fun _ h => absurd h List.not_mem_nil)⟩)⟩)⟩)⟩)⟩)⟩)⟩)⟩) (fun _ h => absurd h List.not_mem_nil) [113] 10 _ _ _ _ ?_
        simp (maxSteps := 1000000) [-Prod.forall, -Prod.exists, -Prod.mk.injEq, jvk, tX12_readStatement, jtb, jol, jst, jlk, jcmp, jbin, jfl, fX12, jc2, lX12, jcat, jel, lv_args, Value.category, jins, jsrt, jins2, jble, jblt, jf3, List.filter_cons, List.filter_nil, G_m, oX12_isWord, oX12_readRoom, oX12_readPerson, oX12_readOnce, oX12_readPlan, oX12_readSet, oX12_check, oX12_advance, joR, joRII, joRJ, -Int32.not_le, -Int32.not_lt, -Int64.not_le, -Int64.not_lt, i3lt, i6lt]
        try simp (disch := omega) [-Prod.forall, -Prod.exists, -Prod.mk.injEq, -Int32.not_le, -Int32.not_lt, -Int64.not_le, -Int64.not_lt, i3lt, i6lt]
        exact k
      · by_cases q4 : isW (tB σ) (tL σ) s wDeposit = true
        · have hpre : ∃ k pl, (4 : Int32) = nI k ∧ k < 31 ∧ (4 : Int32) = nI pl ∧ pl < 208 := ⟨4, 4, rfl, by decide, rfl, by decide⟩
          have c4 : (4 : Int32).toNatClampNeg = 4 := by decide
          refine jCon.ofP (by decide +kernel) (by simp [lg_sl, Value.category]) (fun post hp => ?_)
          refine jvk_ok TX12_readStatement (V := [(329, 2, 12, oX12_isWord), (353, 1, 12, oX12_readRoom), (358, 1, 12, oX12_readPerson), (363, 3, 12, oX12_readOnce), (371, 1, 12, oX12_readPlan), (375, 1, 12, oX12_readSet), (309, 3, 12, oX12_check), (313, 1, 12, oX12_advance)]) (S := []) (List.forall_mem_cons.mpr ⟨⟨mX12_isWord, n + 0, 1, TX12, 53, rfl, by omega, kX12_329, WX12_isWord, rfl, CX12_isWord g (n)⟩, (List.forall_mem_cons.mpr ⟨⟨mX12_readRoom, n + 2, 0, TX12, 53, rfl, by omega, kX12_353, WX12_readRoom, rfl, CX12_readRoom g (n)⟩, (List.forall_mem_cons.mpr ⟨⟨mX12_readPerson, n + 3, 0, TX12, 53, rfl, by omega, kX12_358, WX12_readPerson, rfl, CX12_readPerson g (n)⟩, (List.forall_mem_cons.mpr ⟨⟨mX12_readOnce, n + 3, 2, TX12, 53, rfl, by omega, kX12_363, WX12_readOnce, rfl, CX12_readOnce g (n)⟩, (List.forall_mem_cons.mpr ⟨⟨mX12_readPlan, n + 3, 0, TX12, 53, rfl, by omega, kX12_371, WX12_readPlan, rfl, CX12_readPlan g (n)⟩, (List.forall_mem_cons.mpr ⟨⟨mX12_readSet, n + 3, 0, TX12, 53, rfl, by omega, kX12_375, WX12_readSet, rfl, CX12_readSet g (n)⟩, (List.forall_mem_cons.mpr ⟨⟨mX12_check, n + 0, 2, TX12, 53, rfl, by omega, kX12_309, WX12_check, rfl, CX12_check g (n)⟩, (List.forall_mem_cons.mpr ⟨⟨mX12_advance, n + 1, 0, TX12, 53, rfl, by omega, kX12_313, WX12_advance, rfl, CX12_advance g (n)⟩, (fun _ h => absurd h List.not_mem_nil)⟩)⟩)⟩)⟩)⟩)⟩)⟩)⟩) (fun _ h => absurd h List.not_mem_nil) [69] 40 _ _ _ _ ?_
          simp (maxSteps := 1000000) [-Prod.forall, -Prod.exists, -Prod.mk.injEq, jvk, tX12_readStatement, jtb, jol, jst, jlk, jcmp, jbin, jfl, fX12, jc2, lX12, jcat, jel, lv_args, Value.category, jins, jsrt, jins2, jble, jblt, jf3, List.filter_cons, List.filter_nil, G_m, oX12_isWord, oX12_readRoom, oX12_readPerson, oX12_readOnce, oX12_readPlan, oX12_readSet, oX12_check, oX12_advance, joR, joRII, joRJ, -Int32.not_le, -Int32.not_lt, -Int64.not_le, -Int64.not_lt, i3lt, i6lt, t1, t2, t3, t4, q1, q2, q3, q4, h, hz, hx, hpre]
          try simp (disch := omega) [-Prod.forall, -Prod.exists, -Prod.mk.injEq, -Int32.not_le, -Int32.not_lt, -Int64.not_le, -Int64.not_lt, i3lt, i6lt, t1, t2, t3, t4, q1, q2, q3, q4, h, hz, hx, hpre]
          intro v1 τ hv1 a1 a2 a3 a4
          subst hv1
          rw [c4] at a4
          have k := fin post (fun μ => pOnce (tB σ) (tL σ) 4 4 s μ) hp (fun μ => by unfold pStmt; rw [if_neg q1, if_neg q2, if_neg q3, if_pos q4]; rfl) τ a1 a2 a3 (fun μ hμ => a4 s μ hs hμ)
          refine jvk_ok TX12_readStatement (V := [(329, 2, 12, oX12_isWord), (353, 1, 12, oX12_readRoom), (358, 1, 12, oX12_readPerson), (363, 3, 12, oX12_readOnce), (371, 1, 12, oX12_readPlan), (375, 1, 12, oX12_readSet), (309, 3, 12, oX12_check), (313, 1, 12, oX12_advance)]) (S := []) (List.forall_mem_cons.mpr ⟨⟨mX12_isWord, n + 0, 1, TX12, 53, rfl, by omega, kX12_329, WX12_isWord, rfl, CX12_isWord g (n)⟩, (List.forall_mem_cons.mpr ⟨⟨mX12_readRoom, n + 2, 0, TX12, 53, rfl, by omega, kX12_353, WX12_readRoom, rfl, CX12_readRoom g (n)⟩, (List.forall_mem_cons.mpr ⟨⟨mX12_readPerson, n + 3, 0, TX12, 53, rfl, by omega, kX12_358, WX12_readPerson, rfl, CX12_readPerson g (n)⟩, (List.forall_mem_cons.mpr ⟨⟨mX12_readOnce, n + 3, 2, TX12, 53, rfl, by omega, kX12_363, WX12_readOnce, rfl, CX12_readOnce g (n)⟩, (List.forall_mem_cons.mpr ⟨⟨mX12_readPlan, n + 3, 0, TX12, 53, rfl, by omega, kX12_371, WX12_readPlan, rfl, CX12_readPlan g (n)⟩, (List.forall_mem_cons.mpr ⟨⟨mX12_readSet, n + 3, 0, TX12, 53, rfl, by omega, kX12_375, WX12_readSet, rfl, CX12_readSet g (n)⟩, (List.forall_mem_cons.mpr ⟨⟨mX12_check, n + 0, 2, TX12, 53, rfl, by omega, kX12_309, WX12_check, rfl, CX12_check g (n)⟩, (List.forall_mem_cons.mpr ⟨⟨mX12_advance, n + 1, 0, TX12, 53, rfl, by omega, kX12_313, WX12_advance, rfl, CX12_advance g (n)⟩, (fun _ h => absurd h List.not_mem_nil)⟩)⟩)⟩)⟩)⟩)⟩)⟩)⟩) (fun _ h => absurd h List.not_mem_nil) [113] 10 _ _ _ _ ?_
          simp (maxSteps := 1000000) [-Prod.forall, -Prod.exists, -Prod.mk.injEq, jvk, tX12_readStatement, jtb, jol, jst, jlk, jcmp, jbin, jfl, fX12, jc2, lX12, jcat, jel, lv_args, Value.category, jins, jsrt, jins2, jble, jblt, jf3, List.filter_cons, List.filter_nil, G_m, oX12_isWord, oX12_readRoom, oX12_readPerson, oX12_readOnce, oX12_readPlan, oX12_readSet, oX12_check, oX12_advance, joR, joRII, joRJ, -Int32.not_le, -Int32.not_lt, -Int64.not_le, -Int64.not_lt, i3lt, i6lt]
          try simp (disch := omega) [-Prod.forall, -Prod.exists, -Prod.mk.injEq, -Int32.not_le, -Int32.not_lt, -Int64.not_le, -Int64.not_lt, i3lt, i6lt]
          exact k
        · by_cases q5 : isW (tB σ) (tL σ) s wPlan = true
          · refine jCon.ofP (by decide +kernel) (by simp [lg_sl, Value.category]) (fun post hp => ?_)
            refine jvk_ok TX12_readStatement (V := [(329, 2, 12, oX12_isWord), (353, 1, 12, oX12_readRoom), (358, 1, 12, oX12_readPerson), (363, 3, 12, oX12_readOnce), (371, 1, 12, oX12_readPlan), (375, 1, 12, oX12_readSet), (309, 3, 12, oX12_check), (313, 1, 12, oX12_advance)]) (S := []) (List.forall_mem_cons.mpr ⟨⟨mX12_isWord, n + 0, 1, TX12, 53, rfl, by omega, kX12_329, WX12_isWord, rfl, CX12_isWord g (n)⟩, (List.forall_mem_cons.mpr ⟨⟨mX12_readRoom, n + 2, 0, TX12, 53, rfl, by omega, kX12_353, WX12_readRoom, rfl, CX12_readRoom g (n)⟩, (List.forall_mem_cons.mpr ⟨⟨mX12_readPerson, n + 3, 0, TX12, 53, rfl, by omega, kX12_358, WX12_readPerson, rfl, CX12_readPerson g (n)⟩, (List.forall_mem_cons.mpr ⟨⟨mX12_readOnce, n + 3, 2, TX12, 53, rfl, by omega, kX12_363, WX12_readOnce, rfl, CX12_readOnce g (n)⟩, (List.forall_mem_cons.mpr ⟨⟨mX12_readPlan, n + 3, 0, TX12, 53, rfl, by omega, kX12_371, WX12_readPlan, rfl, CX12_readPlan g (n)⟩, (List.forall_mem_cons.mpr ⟨⟨mX12_readSet, n + 3, 0, TX12, 53, rfl, by omega, kX12_375, WX12_readSet, rfl, CX12_readSet g (n)⟩, (List.forall_mem_cons.mpr ⟨⟨mX12_check, n + 0, 2, TX12, 53, rfl, by omega, kX12_309, WX12_check, rfl, CX12_check g (n)⟩, (List.forall_mem_cons.mpr ⟨⟨mX12_advance, n + 1, 0, TX12, 53, rfl, by omega, kX12_313, WX12_advance, rfl, CX12_advance g (n)⟩, (fun _ h => absurd h List.not_mem_nil)⟩)⟩)⟩)⟩)⟩)⟩)⟩)⟩) (fun _ h => absurd h List.not_mem_nil) [86] 60 _ _ _ _ ?_
            simp (maxSteps := 1000000) [-Prod.forall, -Prod.exists, -Prod.mk.injEq, jvk, tX12_readStatement, jtb, jol, jst, jlk, jcmp, jbin, jfl, fX12, jc2, lX12, jcat, jel, lv_args, Value.category, jins, jsrt, jins2, jble, jblt, jf3, List.filter_cons, List.filter_nil, G_m, oX12_isWord, oX12_readRoom, oX12_readPerson, oX12_readOnce, oX12_readPlan, oX12_readSet, oX12_check, oX12_advance, joR, joRII, joRJ, -Int32.not_le, -Int32.not_lt, -Int64.not_le, -Int64.not_lt, i3lt, i6lt, t1, t2, t3, t4, t5, q1, q2, q3, q4, q5, h, hz, hx]
            try simp (disch := omega) [-Prod.forall, -Prod.exists, -Prod.mk.injEq, -Int32.not_le, -Int32.not_lt, -Int64.not_le, -Int64.not_lt, i3lt, i6lt, t1, t2, t3, t4, t5, q1, q2, q3, q4, q5, h, hz, hx]
            intro v1 τ hv1 a1 a2 a3 a4
            subst hv1
            have k := fin post (fun μ => pPlan (tB σ) (tL σ) s μ) hp (fun μ => by unfold pStmt; rw [if_neg q1, if_neg q2, if_neg q3, if_neg q4, if_pos q5]; rfl) τ a1 a2 a3 (fun μ hμ => a4 s μ hs hμ)
            refine jvk_ok TX12_readStatement (V := [(329, 2, 12, oX12_isWord), (353, 1, 12, oX12_readRoom), (358, 1, 12, oX12_readPerson), (363, 3, 12, oX12_readOnce), (371, 1, 12, oX12_readPlan), (375, 1, 12, oX12_readSet), (309, 3, 12, oX12_check), (313, 1, 12, oX12_advance)]) (S := []) (List.forall_mem_cons.mpr ⟨⟨mX12_isWord, n + 0, 1, TX12, 53, rfl, by omega, kX12_329, WX12_isWord, rfl, CX12_isWord g (n)⟩, (List.forall_mem_cons.mpr ⟨⟨mX12_readRoom, n + 2, 0, TX12, 53, rfl, by omega, kX12_353, WX12_readRoom, rfl, CX12_readRoom g (n)⟩, (List.forall_mem_cons.mpr ⟨⟨mX12_readPerson, n + 3, 0, TX12, 53, rfl, by omega, kX12_358, WX12_readPerson, rfl, CX12_readPerson g (n)⟩, (List.forall_mem_cons.mpr ⟨⟨mX12_readOnce, n + 3, 2, TX12, 53, rfl, by omega, kX12_363, WX12_readOnce, rfl, CX12_readOnce g (n)⟩, (List.forall_mem_cons.mpr ⟨⟨mX12_readPlan, n + 3, 0, TX12, 53, rfl, by omega, kX12_371, WX12_readPlan, rfl, CX12_readPlan g (n)⟩, (List.forall_mem_cons.mpr ⟨⟨mX12_readSet, n + 3, 0, TX12, 53, rfl, by omega, kX12_375, WX12_readSet, rfl, CX12_readSet g (n)⟩, (List.forall_mem_cons.mpr ⟨⟨mX12_check, n + 0, 2, TX12, 53, rfl, by omega, kX12_309, WX12_check, rfl, CX12_check g (n)⟩, (List.forall_mem_cons.mpr ⟨⟨mX12_advance, n + 1, 0, TX12, 53, rfl, by omega, kX12_313, WX12_advance, rfl, CX12_advance g (n)⟩, (fun _ h => absurd h List.not_mem_nil)⟩)⟩)⟩)⟩)⟩)⟩)⟩)⟩) (fun _ h => absurd h List.not_mem_nil) [113] 10 _ _ _ _ ?_
            simp (maxSteps := 1000000) [-Prod.forall, -Prod.exists, -Prod.mk.injEq, jvk, tX12_readStatement, jtb, jol, jst, jlk, jcmp, jbin, jfl, fX12, jc2, lX12, jcat, jel, lv_args, Value.category, jins, jsrt, jins2, jble, jblt, jf3, List.filter_cons, List.filter_nil, G_m, oX12_isWord, oX12_readRoom, oX12_readPerson, oX12_readOnce, oX12_readPlan, oX12_readSet, oX12_check, oX12_advance, joR, joRII, joRJ, -Int32.not_le, -Int32.not_lt, -Int64.not_le, -Int64.not_lt, i3lt, i6lt]
            try simp (disch := omega) [-Prod.forall, -Prod.exists, -Prod.mk.injEq, -Int32.not_le, -Int32.not_lt, -Int64.not_le, -Int64.not_lt, i3lt, i6lt]
            exact k
          · by_cases q6 : isW (tB σ) (tL σ) s wSet = true
            · refine jCon.ofP (by decide +kernel) (by simp [lg_sl, Value.category]) (fun post hp => ?_)
              refine jvk_ok TX12_readStatement (V := [(329, 2, 12, oX12_isWord), (353, 1, 12, oX12_readRoom), (358, 1, 12, oX12_readPerson), (363, 3, 12, oX12_readOnce), (371, 1, 12, oX12_readPlan), (375, 1, 12, oX12_readSet), (309, 3, 12, oX12_check), (313, 1, 12, oX12_advance)]) (S := []) (List.forall_mem_cons.mpr ⟨⟨mX12_isWord, n + 0, 1, TX12, 53, rfl, by omega, kX12_329, WX12_isWord, rfl, CX12_isWord g (n)⟩, (List.forall_mem_cons.mpr ⟨⟨mX12_readRoom, n + 2, 0, TX12, 53, rfl, by omega, kX12_353, WX12_readRoom, rfl, CX12_readRoom g (n)⟩, (List.forall_mem_cons.mpr ⟨⟨mX12_readPerson, n + 3, 0, TX12, 53, rfl, by omega, kX12_358, WX12_readPerson, rfl, CX12_readPerson g (n)⟩, (List.forall_mem_cons.mpr ⟨⟨mX12_readOnce, n + 3, 2, TX12, 53, rfl, by omega, kX12_363, WX12_readOnce, rfl, CX12_readOnce g (n)⟩, (List.forall_mem_cons.mpr ⟨⟨mX12_readPlan, n + 3, 0, TX12, 53, rfl, by omega, kX12_371, WX12_readPlan, rfl, CX12_readPlan g (n)⟩, (List.forall_mem_cons.mpr ⟨⟨mX12_readSet, n + 3, 0, TX12, 53, rfl, by omega, kX12_375, WX12_readSet, rfl, CX12_readSet g (n)⟩, (List.forall_mem_cons.mpr ⟨⟨mX12_check, n + 0, 2, TX12, 53, rfl, by omega, kX12_309, WX12_check, rfl, CX12_check g (n)⟩, (List.forall_mem_cons.mpr ⟨⟨mX12_advance, n + 1, 0, TX12, 53, rfl, by omega, kX12_313, WX12_advance, rfl, CX12_advance g (n)⟩, (fun _ h => absurd h List.not_mem_nil)⟩)⟩)⟩)⟩)⟩)⟩)⟩)⟩) (fun _ h => absurd h List.not_mem_nil) [103] 60 _ _ _ _ ?_
              simp (maxSteps := 1000000) [-Prod.forall, -Prod.exists, -Prod.mk.injEq, jvk, tX12_readStatement, jtb, jol, jst, jlk, jcmp, jbin, jfl, fX12, jc2, lX12, jcat, jel, lv_args, Value.category, jins, jsrt, jins2, jble, jblt, jf3, List.filter_cons, List.filter_nil, G_m, oX12_isWord, oX12_readRoom, oX12_readPerson, oX12_readOnce, oX12_readPlan, oX12_readSet, oX12_check, oX12_advance, joR, joRII, joRJ, -Int32.not_le, -Int32.not_lt, -Int64.not_le, -Int64.not_lt, i3lt, i6lt, t1, t2, t3, t4, t5, t6, q1, q2, q3, q4, q5, q6, h, hz, hx]
              try simp (disch := omega) [-Prod.forall, -Prod.exists, -Prod.mk.injEq, -Int32.not_le, -Int32.not_lt, -Int64.not_le, -Int64.not_lt, i3lt, i6lt, t1, t2, t3, t4, t5, t6, q1, q2, q3, q4, q5, q6, h, hz, hx]
              intro v1 τ hv1 a1 a2 a3 a4
              subst hv1
              have k := fin post (fun μ => pSet (tB σ) (tL σ) s μ) hp (fun μ => by unfold pStmt; rw [if_neg q1, if_neg q2, if_neg q3, if_neg q4, if_neg q5, if_pos q6]; rfl) τ a1 a2 a3 (fun μ hμ => a4 s μ hs hμ)
              refine jvk_ok TX12_readStatement (V := [(329, 2, 12, oX12_isWord), (353, 1, 12, oX12_readRoom), (358, 1, 12, oX12_readPerson), (363, 3, 12, oX12_readOnce), (371, 1, 12, oX12_readPlan), (375, 1, 12, oX12_readSet), (309, 3, 12, oX12_check), (313, 1, 12, oX12_advance)]) (S := []) (List.forall_mem_cons.mpr ⟨⟨mX12_isWord, n + 0, 1, TX12, 53, rfl, by omega, kX12_329, WX12_isWord, rfl, CX12_isWord g (n)⟩, (List.forall_mem_cons.mpr ⟨⟨mX12_readRoom, n + 2, 0, TX12, 53, rfl, by omega, kX12_353, WX12_readRoom, rfl, CX12_readRoom g (n)⟩, (List.forall_mem_cons.mpr ⟨⟨mX12_readPerson, n + 3, 0, TX12, 53, rfl, by omega, kX12_358, WX12_readPerson, rfl, CX12_readPerson g (n)⟩, (List.forall_mem_cons.mpr ⟨⟨mX12_readOnce, n + 3, 2, TX12, 53, rfl, by omega, kX12_363, WX12_readOnce, rfl, CX12_readOnce g (n)⟩, (List.forall_mem_cons.mpr ⟨⟨mX12_readPlan, n + 3, 0, TX12, 53, rfl, by omega, kX12_371, WX12_readPlan, rfl, CX12_readPlan g (n)⟩, (List.forall_mem_cons.mpr ⟨⟨mX12_readSet, n + 3, 0, TX12, 53, rfl, by omega, kX12_375, WX12_readSet, rfl, CX12_readSet g (n)⟩, (List.forall_mem_cons.mpr ⟨⟨mX12_check, n + 0, 2, TX12, 53, rfl, by omega, kX12_309, WX12_check, rfl, CX12_check g (n)⟩, (List.forall_mem_cons.mpr ⟨⟨mX12_advance, n + 1, 0, TX12, 53, rfl, by omega, kX12_313, WX12_advance, rfl, CX12_advance g (n)⟩, (fun _ h => absurd h List.not_mem_nil)⟩)⟩)⟩)⟩)⟩)⟩)⟩)⟩) (fun _ h => absurd h List.not_mem_nil) [113] 10 _ _ _ _ ?_
              simp (maxSteps := 1000000) [-Prod.forall, -Prod.exists, -Prod.mk.injEq, jvk, tX12_readStatement, jtb, jol, jst, jlk, jcmp, jbin, jfl, fX12, jc2, lX12, jcat, jel, lv_args, Value.category, jins, jsrt, jins2, jble, jblt, jf3, List.filter_cons, List.filter_nil, G_m, oX12_isWord, oX12_readRoom, oX12_readPerson, oX12_readOnce, oX12_readPlan, oX12_readSet, oX12_check, oX12_advance, joR, joRII, joRJ, -Int32.not_le, -Int32.not_lt, -Int64.not_le, -Int64.not_lt, i3lt, i6lt]
              try simp (disch := omega) [-Prod.forall, -Prod.exists, -Prod.mk.injEq, -Int32.not_le, -Int32.not_lt, -Int64.not_le, -Int64.not_lt, i3lt, i6lt]
              exact k
            · refine jCon.ofP (by decide +kernel) (by simp [lg_sl, Value.category]) (fun post hp => ?_)
              refine jvk_ok TX12_readStatement (V := [(329, 2, 12, oX12_isWord), (353, 1, 12, oX12_readRoom), (358, 1, 12, oX12_readPerson), (363, 3, 12, oX12_readOnce), (371, 1, 12, oX12_readPlan), (375, 1, 12, oX12_readSet), (309, 3, 12, oX12_check), (313, 1, 12, oX12_advance)]) (S := []) (List.forall_mem_cons.mpr ⟨⟨mX12_isWord, n + 0, 1, TX12, 53, rfl, by omega, kX12_329, WX12_isWord, rfl, CX12_isWord g (n)⟩, (List.forall_mem_cons.mpr ⟨⟨mX12_readRoom, n + 2, 0, TX12, 53, rfl, by omega, kX12_353, WX12_readRoom, rfl, CX12_readRoom g (n)⟩, (List.forall_mem_cons.mpr ⟨⟨mX12_readPerson, n + 3, 0, TX12, 53, rfl, by omega, kX12_358, WX12_readPerson, rfl, CX12_readPerson g (n)⟩, (List.forall_mem_cons.mpr ⟨⟨mX12_readOnce, n + 3, 2, TX12, 53, rfl, by omega, kX12_363, WX12_readOnce, rfl, CX12_readOnce g (n)⟩, (List.forall_mem_cons.mpr ⟨⟨mX12_readPlan, n + 3, 0, TX12, 53, rfl, by omega, kX12_371, WX12_readPlan, rfl, CX12_readPlan g (n)⟩, (List.forall_mem_cons.mpr ⟨⟨mX12_readSet, n + 3, 0, TX12, 53, rfl, by omega, kX12_375, WX12_readSet, rfl, CX12_readSet g (n)⟩, (List.forall_mem_cons.mpr ⟨⟨mX12_check, n + 0, 2, TX12, 53, rfl, by omega, kX12_309, WX12_check, rfl, CX12_check g (n)⟩, (List.forall_mem_cons.mpr ⟨⟨mX12_advance, n + 1, 0, TX12, 53, rfl, by omega, kX12_313, WX12_advance, rfl, CX12_advance g (n)⟩, (fun _ h => absurd h List.not_mem_nil)⟩)⟩)⟩)⟩)⟩)⟩)⟩)⟩) (fun _ h => absurd h List.not_mem_nil) [113] 60 _ _ _ _ ?_
              simp (maxSteps := 1000000) [-Prod.forall, -Prod.exists, -Prod.mk.injEq, jvk, tX12_readStatement, jtb, jol, jst, jlk, jcmp, jbin, jfl, fX12, jc2, lX12, jcat, jel, lv_args, Value.category, jins, jsrt, jins2, jble, jblt, jf3, List.filter_cons, List.filter_nil, G_m, oX12_isWord, oX12_readRoom, oX12_readPerson, oX12_readOnce, oX12_readPlan, oX12_readSet, oX12_check, oX12_advance, joR, joRII, joRJ, -Int32.not_le, -Int32.not_lt, -Int64.not_le, -Int64.not_lt, i3lt, i6lt, t1, t2, t3, t4, t5, t6, q1, q2, q3, q4, q5, q6, f0, i11]
              try simp (disch := omega) [-Prod.forall, -Prod.exists, -Prod.mk.injEq, -Int32.not_le, -Int32.not_lt, -Int64.not_le, -Int64.not_lt, i3lt, i6lt, t1, t2, t3, t4, t5, t6, q1, q2, q3, q4, q5, q6, f0, i11]
              exact fin post (fun μ => .inl (-11, s)) hp (fun μ => by unfold pStmt; rw [if_neg q1, if_neg q2, if_neg q3, if_neg q4, if_neg q5, if_neg q6]; rfl) _ (jfr.rfl.up _ rfl) h hz (fun μ hμ => ⟨by rw [jup_1, if_pos ⟨rfl, rfl⟩], i11.1, by rw [jup_1, if_neg (by decide)]; exact hs.2.2.1⟩)
