/-! the law's proposes -/
set_option maxRecDepth 100000 in
set_option maxHeartbeats 4000000 in
theorem EPw_r {g : jG} {z : dZ} {σ : dM} {N M : Nat} (h : dk σ N M) (hcl : Dcl0 σ) (hq : chQ σ) (h8 : DA σ 1108 = false) (hkp : z.2.2.1 1106 = false) {pc c0 s0 : Nat} (ih : DW g z mX12_proposes pc [(0, .ref 1000)] [] (chZ σ N) c0 s0) : DW g z mX12_proposes pc [(0, .ref 1000)] [] (DuI (DuI (DuR (DuR (Dnw σ 1108 N) 1000 20 (some 1108)) 1000 21 none) 1000 22 (-1)) 1000 23 0) c0 s0 := by
  obtain ⟨σ', e'⟩ : ∃ σ', σ' = DuI (DuI (DuR (DuR (Dnw σ 1108 N) 1000 20 (some 1108)) 1000 21 none) 1000 22 (-1)) 1000 23 0 := ⟨_, rfl⟩
  have vI : ∀ k j, DI σ' k j = if k = 1000 ∧ j = 23 then 0 else if k = 1000 ∧ j = 22 then -1 else if k = 1108 then 0 else DI σ k j := fun k j => by rw [e']; rfl
  have vL : ∀ k j, DL σ' k j = if k = 1108 then 0 else DL σ k j := fun k j => by rw [e']; rfl
  have vR : ∀ k j, DR σ' k j = if k = 1000 ∧ j = 21 then none else if k = 1000 ∧ j = 20 then some 1108 else if k = 1108 then none else DR σ k j := fun k j => by rw [e']; rfl
  have vN : ∀ k, DN σ' k = if k = 1108 then N else DN σ k := fun k => by rw [e']; rfl
  have vA : ∀ k, DA σ' k = if k = 1108 then true else DA σ k := fun k => by rw [e']; rfl
  have hal : ∀ k, DA (chZ σ N) k = true → k ≠ 1106 → k ≠ 1108 ∧ k ≠ 1107 ∧ DA σ k = true := fun k h1 h2 => by
    rw [chZ_A, if_neg h2] at h1
    by_cases c : k = 1107
    · rw [if_pos c] at h1; cases h1
    · rw [if_neg c] at h1
      exact ⟨fun z9 => by rw [z9, h8] at h1; exact absurd h1 (by decide), c, h1⟩
  have no8 : ∀ k j, 1000 ≤ k → k < 2100 → DA σ k = true → DR σ k j ≠ some 1108 := fun k j h1 h2 h3 e => by
    rcases hcl k j 1108 (Dal_hi h1 h2 h3) h1 e with h5 | h5
    · omega
    · rw [Dal_A h5 (by decide)] at h8; cases h8
  rw [← e']
  refine DW.ren (a := 1108) (b := 1106) (ε := chZ σ N) (by decide) (by decide) (by decide) (by decide) hkp rfl (by rw [vA, if_pos rfl]) (by decide) (by rw [e']; rfl) (fun _ => chZ_cl h hcl hq) (fun k h1 h1' h2 => ?_) ⟨?_, ?_, ?_, fun j => ?_⟩ (fun k h1 h1' h2 h3 => ?_) (by rfl) (by rfl) ?_
  · by_cases q : k = 1106
    · exact Or.inl q
    · obtain ⟨q1, q2, q3⟩ := hal k h2 q
      exact Or.inr ⟨q1, q, by rw [vA, if_neg q1]; exact q3⟩
  · funext j
    rw [vI, chZ_I, if_neg (by omega), if_neg (by omega), if_pos rfl, if_neg (by omega), if_neg (by omega), if_pos rfl]
  · funext j
    rw [vL, chZ_L, if_pos rfl, if_pos rfl]
  · rw [vN, chZ_N, if_pos rfl, if_pos rfl]
  · rw [vR, chZ_R, if_neg (by omega), if_neg (by omega), if_pos rfl, if_neg (by omega), if_neg (by omega), if_pos rfl]
    exact ⟨rfl, by simp⟩
  · obtain ⟨q1, q2, q3⟩ := hal k h2 h3
    refine ⟨?_, ?_, ?_, fun j => ?_⟩
    · funext j
      rw [vI, chZ_I, if_neg q1, if_neg h3]
    · funext j
      rw [vL, chZ_L, if_neg q1, if_neg h3]
    · rw [vN, chZ_N, if_neg q1, if_neg h3]
    · rw [vR, chZ_R, if_neg q1, if_neg h3]
      by_cases c1 : k = 1000 ∧ j = 21
      · rw [if_pos c1, if_pos c1]
        exact ⟨rfl, by simp⟩
      · rw [if_neg c1, if_neg c1]
        by_cases c2 : k = 1000 ∧ j = 20
        · rw [if_pos c2, if_pos c2]
          exact ⟨by decide, by decide⟩
        · rw [if_neg c2, if_neg c2]
          refine ⟨?_, fun e => c2 ((hq k j h1 h1' q3).1 e)⟩
          unfold Dro
          rw [if_neg (no8 k j h1 h1' q3)]
  · exact ih
