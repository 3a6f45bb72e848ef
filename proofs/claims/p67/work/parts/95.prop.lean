/-! Proposal: what a flat gives, the bases are multiples of 60 -/
theorem wF_dvd {m : Nat} {e : Nat → Nat → Bool} {w : Nat → Nat → Int} (h : ∀ p q, (120 : Int) ∣ w p q) : ∀ k q, (120 : Int) ∣ wF m e w k q
  | 0, _ => by simp [wF]
  | k + 1, q => by
    simp only [wF]
    rcases mx_is (fun p => wF m e w k p + w p q) (fun p => e p q) (wF m e w k q) m with z | ⟨p, -, -, z⟩
    · rw [z]; exact wF_dvd h k q
    · rw [z]
      have h1 := wF_dvd h (m := m) (e := e) k p
      have h2 := h p q
      try dsimp only
      omega
theorem gG_dvd (W : Nat → Nat → Option Nat) (a : Nat → Nat) (p q : Nat) : (120 : Int) ∣ gG W a p q := by
  unfold gG gw
  exact Int.dvd_mul_right _ _
theorem gLo_dvd (W : Nat → Nat → Option Nat) (a : Nat → Nat) (m q : Nat) : (120 : Int) ∣ gLo W a m q ∧ (120 : Int) ∣ gHi W a m q :=
  ⟨wF_dvd (fun p q => gG_dvd W a p q) 5 q, wF_dvd (fun p q => gG_dvd W a q p) 5 q⟩
/-- the base of a place: by the method x -/
def bsI (W : Nat → Nat → Option Nat) (a : Nat → Nat) (m : Nat) (x : Int32) (q : Nat) : Int := if x = 0 then gLo W a m q else if x = 1 then - gHi W a m q else (gLo W a m q - gHi W a m q).tdiv 2
theorem bsI_dvd (W : Nat → Nat → Option Nat) (a : Nat → Nat) (m : Nat) (x : Int32) (q : Nat) : (60 : Int) ∣ bsI W a m x q := by
  obtain ⟨⟨c, hc⟩, ⟨d, hd⟩⟩ := gLo_dvd W a m q
  unfold bsI
  by_cases c0 : x = 0
  · rw [if_pos c0, hc]; omega
  · rw [if_neg c0]
    by_cases c1 : x = 1
    · rw [if_pos c1, hd]; omega
    · rw [if_neg c1, hc, hd]
      have e : (120 * c - 120 * d).tdiv 2 = 60 * (c - d) := by
        rw [show 120 * c - 120 * d = 60 * (c - d) * 2 by omega]
        exact Int.mul_tdiv_cancel _ (by decide)
      rw [e]
      exact Int.dvd_mul_right _ _
/-! what the flat in use gives: those who live there, their values and incomes -/
def flM (σ : jM) : Nat := cn (liv σ) (fN σ)
def flW (σ : jM) (i r : Nat) : Option Nat := if i < flM σ ∧ r < fRm σ then (if σ.1 (42 + qpl (liv σ) (fN σ) i) r = -1 then none else some (σ.1 (42 + qpl (liv σ) (fN σ) i) r).toNatClampNeg) else none
def flC (σ : jM) : qC := if flM σ = 0 then none else qT (flW σ) (fRm σ) (flM σ) 0 0
def flI (σ : jM) (i : Nat) : Int32 := σ.1 40 (qpl (liv σ) (fN σ) i)
def flOK (σ : jM) : Prop := fOK σ ∧ flM σ ≤ 6 ∧ (∀ p, p < fN σ → ∀ r, r < fRm σ → σ.1 (42 + p) r = -1 ∨ 0 ≤ σ.1 (42 + p) r ∧ σ.1 (42 + p) r ≤ 9999) ∧ (∀ p, p < fN σ → 0 ≤ σ.1 40 p) ∧ (0 ≤ σ.1 37 2 ∧ σ.1 37 2 ≤ 99999) ∧ 0 ≤ σ.1 38 1 ∧ σ.1 38 1 ≤ 100
/-- what take leaves is the flat's -/
theorem take_C {σ τ : jM} {b : Nat} (h : flOK σ) (h0 : τ.1 b 0 = nI (flM σ)) (h1 : τ.1 b 1 = nI (fRm σ)) (ht : takP σ τ b (fN σ)) : cM τ b = flM σ ∧ cR τ b = fRm σ ∧ cOK τ b ∧ cWr τ b = flW σ ∧ cV τ b := by
  obtain ⟨hok, hm6, hv, -, -, -⟩ := h
  obtain ⟨⟨n10, -⟩, r6, -⟩ := fOK_n hok
  have eM : cM τ b = flM σ := by unfold cM; rw [h0, nI_clamp (by omega)]
  have eR : cR τ b = fRm σ := by unfold cR; rw [h1, nI_clamp (by omega)]
  have row : ∀ i, i < flM σ → qpl (liv σ) (fN σ) i < fN σ ∧ ∀ r, r < fRm σ → τ.1 (b + 3 + i) r = σ.1 (42 + qpl (liv σ) (fN σ) i) r := fun i hi => by
    obtain ⟨q1, q2, q3⟩ := qpl_is (p := liv σ) (N := fN σ) hi
    refine ⟨q2, fun r hr => ?_⟩
    have := (ht _ q2 q1).2 r hr
    rw [q3] at this
    exact this
  have eW : cWr τ b = flW σ := by
    funext i r
    have e1 : cWr τ b i r = if i < flM σ ∧ r < fRm σ then cW τ b i r else none := by unfold cWr; rw [eM, eR]
    rw [e1]
    unfold flW
    by_cases d : i < flM σ ∧ r < fRm σ
    · rw [if_pos d, if_pos d]
      unfold cW
      rw [(row i d.1).2 r d.2]
    · rw [if_neg d, if_neg d]
  refine ⟨eM, eR, ?_, eW, ?_⟩
  · unfold cOK
    rw [h0, h1, eM, eR]
    refine ⟨⟨nI_pos' (by omega), nI_le (b := 6) hm6 (by decide)⟩, ⟨nI_pos' (by omega), nI_le (b := 6) r6 (by decide)⟩, fun i hi r hr => ?_⟩
    obtain ⟨q1, q2⟩ := row i hi
    rw [q2 r hr]
    rcases hv _ q1 r hr with e | ⟨e1, e2⟩
    · exact Or.inl e
    · exact Or.inr ⟨e1, Int32.le_trans e2 (by decide)⟩
  · intro i r v e
    rw [eW] at e
    unfold flW at e
    by_cases d : i < flM σ ∧ r < fRm σ
    · rw [if_pos d] at e
      obtain ⟨q1, -⟩ := row i d.1
      rcases hv _ q1 r d.2 with z | ⟨z1, z2⟩
      · rw [if_pos z] at e; cases e
      · obtain ⟨k, k1, k2, k3⟩ := nI_rng z1 z2 (by decide)
        have hn : ¬ σ.1 (42 + qpl (liv σ) (fN σ) i) r = -1 := fun z => by rw [z] at z1; exact not_m1 z1
        rw [if_neg hn, k3] at e
        cases e
        exact k1
    · rw [if_neg d] at e; cases e
