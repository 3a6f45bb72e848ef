/-! what the parser has read keeps its bounds -/
/-- fields of a person that no text sets -/
def fxW (w : Nat) : Prop := w = 0 ∨ (2 ≤ w ∧ w ≤ 6)
/-- the row as far as it is read; persons from P on (their values from r on) aren't touched yet -/
def pIr (μ : pM) (P r : Nat) : Prop :=
  (∀ j, 5 ≤ j → j < 8 → μ 347 j = 0) ∧ (∀ p, p < 10 → ∀ w, fxW w → μ 347 (8 + 20 * p + w) = if w = 2 then -1 else 0) ∧
  (∀ p, p < 10 → ∀ q, q < 6 → (0 ≤ μ 347 (8 + 20 * p + (7 + q)) ∧ μ 347 (8 + 20 * p + (7 + q)) ≤ 9999) ∧ (μ 347 (8 + 20 * p + (13 + q)) = 0 ∨ μ 347 (8 + 20 * p + (13 + q)) = 1 ∧ μ 347 (8 + 20 * p + (7 + q)) = 0)) ∧
  (∀ p, p < 10 → 0 ≤ μ 347 (8 + 20 * p + 1) ∧ μ 347 (8 + 20 * p + 1) ≤ 99999) ∧
  ((0 ≤ μ 347 3 ∧ μ 347 3 ≤ 99999) ∧ (0 ≤ μ 347 4 ∧ μ 347 4 ≤ 99999) ∧ 0 ≤ μ 347 1 ∧ μ 347 1 ≤ 100) ∧
  (∀ p, p < 10 → ∀ q, q < 6 → (P < p ∨ P = p ∧ r ≤ q) → μ 347 (8 + 20 * p + (7 + q)) = 0)
def pIp (μ : pM) : Prop := (rm μ ≤ 6 ∧ pe μ ≤ 10 ∧ pn μ ≤ 20) ∧ ∀ k, k < pn μ → (∃ p, p < pe μ ∧ μ 350 (3 * k) = nI p) ∧ (0 ≤ μ 350 (3 * k + 1) ∧ μ 350 (3 * k + 1) ≤ 999) ∧ 0 ≤ μ 350 (3 * k + 2) ∧ μ 350 (3 * k + 2) ≤ 99999
def pI (μ : pM) : Prop := pIr μ (pe μ) 0 ∧ pIp μ
theorem pIr_o {μ ν : pM} {P r : Nat} (h : pIr μ P r) (e : ν 347 = μ 347) : pIr ν P r := by
  unfold pIr
  rw [e]
  exact h
theorem u1_o (μ : pM) {a b : Nat} (k : Nat) (x : Int32) (h : b ≠ a) : u1 μ a k x b = μ b := by
  funext j
  exact u1_n _ _ (fun z => h z.1)
theorem pIr_r {μ : pM} {P r P' r' : Nat} (h : pIr μ P r) (hP : ∀ p q, (P' < p ∨ P' = p ∧ r' ≤ q) → (P < p ∨ P = p ∧ r ≤ q)) : pIr μ P' r' :=
  ⟨h.1, h.2.1, h.2.2.1, h.2.2.2.1, h.2.2.2.2.1, fun p hp q hq z => h.2.2.2.2.2 p hp q hq (hP p q z)⟩
/-- a number of the row that has bounds -/
theorem pIr_k {μ : pM} {P r k : Nat} {x : Int32} (h : pIr μ P r) (hk : (k = 0 ∨ k = 2) ∨ ((k = 3 ∨ k = 4) ∧ 0 ≤ x ∧ x ≤ 99999) ∨ (k = 1 ∧ 0 ≤ x ∧ x ≤ 100) ∨ ((∃ p, p < 10 ∧ k = 8 + 20 * p + 1) ∧ 0 ≤ x ∧ x ≤ 99999)) : pIr (u1 μ 347 k x) P r := by
  have n : ∀ j, j ≠ k → u1 μ 347 k x 347 j = μ 347 j := fun j hj => u1_n _ _ (fun z => hj z.2)
  have s : u1 μ 347 k x 347 k = x := u1_s _ _ _ _
  obtain ⟨h1, h2, h3, h4, ⟨h5, h6, h7⟩, h8⟩ := h
  refine ⟨fun j j5 j8 => ?_, fun p hp w hw => ?_, fun p hp q hq => ?_, fun p hp => ?_, ⟨?_, ?_, ?_⟩, fun p hp q hq z => ?_⟩
  · rw [n j (by rcases hk with hk | hk | hk | ⟨⟨q, hq, hk⟩, -⟩ <;> omega)]; exact h1 j j5 j8
  · unfold fxW at hw
    rw [n _ (by rcases hk with hk | hk | hk | ⟨⟨q, hq, hk⟩, -⟩ <;> omega)]; exact h2 p hp w hw
  · rw [n _ (by rcases hk with hk | hk | hk | ⟨⟨t, ht, hk⟩, -⟩ <;> omega), n _ (by rcases hk with hk | hk | hk | ⟨⟨t, ht, hk⟩, -⟩ <;> omega)]; exact h3 p hp q hq
  · by_cases e : 8 + 20 * p + 1 = k
    · rw [e, s]
      rcases hk with hk | hk | hk | ⟨-, hk⟩
      · omega
      · omega
      · omega
      · exact hk
    · rw [n _ e]; exact h4 p hp
  · by_cases e : 3 = k
    · rw [e, s]
      rcases hk with hk | hk | hk | ⟨⟨q, hq, hk⟩, -⟩
      · omega
      · exact hk.2
      · omega
      · omega
    · rw [n _ e]; exact h5
  · by_cases e : 4 = k
    · rw [e, s]
      rcases hk with hk | hk | hk | ⟨⟨q, hq, hk⟩, -⟩
      · omega
      · exact hk.2
      · omega
      · omega
    · rw [n _ e]; exact h6
  · by_cases e : 1 = k
    · rw [e, s]
      rcases hk with hk | hk | hk | ⟨⟨q, hq, hk⟩, -⟩
      · omega
      · omega
      · exact hk.2
      · omega
    · rw [n _ e]; exact h7
  · rw [n _ (by rcases hk with hk | hk | hk | ⟨⟨t, ht, hk⟩, -⟩ <;> omega)]; exact h8 p hp q hq z
theorem pIr_no {μ : pM} {P r : Nat} (hr : r < 6) (h : pIr μ P r) : pIr (u1 μ 347 (8 + 20 * P + (13 + r)) 1) P (r + 1) := by
  have n : ∀ j, j ≠ 8 + 20 * P + (13 + r) → u1 μ 347 (8 + 20 * P + (13 + r)) 1 347 j = μ 347 j := fun j hj => u1_n _ _ (fun z => hj z.2)
  have s : u1 μ 347 (8 + 20 * P + (13 + r)) 1 347 (8 + 20 * P + (13 + r)) = 1 := u1_s _ _ _ _
  obtain ⟨h1, h2, h3, h4, ⟨h5, h6, h7⟩, h8⟩ := h
  refine ⟨fun j j5 j8 => ?_, fun p hp w hw => ?_, fun p hp q hq => ?_, fun p hp => ?_, ⟨?_, ?_, ?_⟩, fun p hp q hq z => ?_⟩
  · rw [n j (by omega)]; exact h1 j j5 j8
  · unfold fxW at hw
    rw [n _ (by omega)]; exact h2 p hp w hw
  · rw [n (8 + 20 * p + (7 + q)) (by omega)]
    by_cases e : p = P ∧ q = r
    · rw [e.1, e.2, s]
      rw [e.1] at hp
      exact ⟨(h3 P hp r hr).1, Or.inr ⟨rfl, h8 P hp r hr (Or.inr ⟨rfl, Nat.le_refl _⟩)⟩⟩
    · rw [n _ (by omega)]; exact h3 p hp q hq
  · rw [n _ (by omega)]; exact h4 p hp
  · rw [n _ (by omega)]; exact h5
  · rw [n _ (by omega)]; exact h6
  · rw [n _ (by omega)]; exact h7
  · rw [n _ (by omega)]; exact h8 p hp q hq (by omega)
theorem pIr_v {μ : pM} {P r : Nat} {v : Int32} (hr : r < 6) (hv : 0 ≤ v ∧ v ≤ 9999) (h : pIr μ P r) : pIr (u1 (u1 μ 347 (8 + 20 * P + (13 + r)) 0) 347 (8 + 20 * P + (7 + r)) v) P (r + 1) := by
  have n : ∀ j, j ≠ 8 + 20 * P + (13 + r) → j ≠ 8 + 20 * P + (7 + r) → u1 (u1 μ 347 (8 + 20 * P + (13 + r)) 0) 347 (8 + 20 * P + (7 + r)) v 347 j = μ 347 j := fun j hj hk => by
    rw [u1_n _ _ (fun z => hk z.2), u1_n _ _ (fun z => hj z.2)]
  have s : u1 (u1 μ 347 (8 + 20 * P + (13 + r)) 0) 347 (8 + 20 * P + (7 + r)) v 347 (8 + 20 * P + (7 + r)) = v := u1_s _ _ _ _
  have s2 : u1 (u1 μ 347 (8 + 20 * P + (13 + r)) 0) 347 (8 + 20 * P + (7 + r)) v 347 (8 + 20 * P + (13 + r)) = 0 := by
    rw [u1_n _ _ (fun z => by omega)]
    exact u1_s _ _ _ _
  obtain ⟨h1, h2, h3, h4, ⟨h5, h6, h7⟩, h8⟩ := h
  refine ⟨fun j j5 j8 => ?_, fun p hp w hw => ?_, fun p hp q hq => ?_, fun p hp => ?_, ⟨?_, ?_, ?_⟩, fun p hp q hq z => ?_⟩
  · rw [n j (by omega) (by omega)]; exact h1 j j5 j8
  · unfold fxW at hw
    rw [n _ (by omega) (by omega)]; exact h2 p hp w hw
  · by_cases e : p = P ∧ q = r
    · rw [e.1, e.2, s, s2]
      exact ⟨hv, Or.inl rfl⟩
    · rw [n _ (by omega) (by omega), n _ (by omega) (by omega)]; exact h3 p hp q hq
  · rw [n _ (by omega) (by omega)]; exact h4 p hp
  · rw [n _ (by omega) (by omega)]; exact h5
  · rw [n _ (by omega) (by omega)]; exact h6
  · rw [n _ (by omega) (by omega)]; exact h7
  · rw [n _ (by omega) (by omega)]; exact h8 p hp q hq (by omega)
section PL
variable {b : Nat → Int32} {len : Nat}
theorem pInt_le {hi s v : Nat} (h : pInt b len hi s = .inr v) : v ≤ hi := by
  unfold pInt at h
  split at h
  · cases h
  · split at h
    · cases h
    · cases h
      omega
theorem nI_b {v hi : Nat} (h : v ≤ hi) (hh : hi ≤ 99999) : 0 ≤ nI v ∧ nI v ≤ nI hi := ⟨(NL_0.1 v (by omega)).mpr (Nat.zero_le _), nI_le h (by omega)⟩
theorem pVals_I {P : Nat} : ∀ (d r s : Nat) (μ : pM) (s' : Nat) (μ' : pM), r + d ≤ 6 → pIr μ P r → pVals b len P d r s μ = .inr (s', μ') → pIr μ' P (r + d) ∧ ∀ a, a ≠ 347 → μ' a = μ a
  | 0, r, s, μ, s', μ', _, h, e => by
    simp only [pVals] at e
    cases e
    exact ⟨h, fun _ _ => rfl⟩
  | d + 1, r, s, μ, s', μ', hd, h, e => by
    simp only [pVals] at e
    by_cases c : isW b len s wNo = true
    · rw [if_pos c] at e
      obtain ⟨i1, i2⟩ := pVals_I d (r + 1) _ _ s' μ' (by omega) (pIr_no (by omega) h) e
      rw [show r + 1 + d = r + (d + 1) by omega] at i1
      exact ⟨i1, fun a ha => by rw [i2 a ha, u1_o _ _ _ ha]⟩
    · rw [if_neg c] at e
      rcases ev : pInt b len 9999 s with x | v
      · rw [ev] at e; cases e
      · rw [ev] at e
        obtain ⟨i1, i2⟩ := pVals_I d (r + 1) _ _ s' μ' (by omega) (pIr_v (by omega) (nI_b (hi := 9999) (pInt_le ev) (by decide)) h) e
        rw [show r + 1 + d = r + (d + 1) by omega] at i1
        exact ⟨i1, fun a ha => by rw [i2 a ha, u1_o _ _ _ ha, u1_o _ _ _ ha]⟩
theorem pRoom_I {s s' : Nat} {μ μ' : pM} (h : pI μ) (e : pRoom b len s μ = .inr (s', μ')) : pI μ' := by
  unfold pRoom at e
  split at e
  · cases e
  · split at e
    · cases e
    · split at e
      · cases e
      · split at e
        · cases e
        · cases e
          have e44 : ∀ j, j ≠ 43 → u1 (u1 μ 348 (rm μ) (nI (nm b len (nx b len s)))) 322 43 (nI (rm μ + 1)) 322 j = μ 322 j := fun j hj => by rw [u1_n _ _ (fun z => hj z.2), u1_n _ _ (fun z => by omega)]
          have e43 : rm (u1 (u1 μ 348 (rm μ) (nI (nm b len (nx b len s)))) 322 43 (nI (rm μ + 1))) = rm μ + 1 := by
            show (u1 (u1 μ 348 (rm μ) (nI (nm b len (nx b len s)))) 322 43 (nI (rm μ + 1)) 322 43).toNatClampNeg = _
            rw [u1_s, nI_clamp (by omega)]
          have ep : pe (u1 (u1 μ 348 (rm μ) (nI (nm b len (nx b len s)))) 322 43 (nI (rm μ + 1))) = pe μ := by unfold pe; rw [e44 44 (by omega)]
          have en : pn (u1 (u1 μ 348 (rm μ) (nI (nm b len (nx b len s)))) 322 43 (nI (rm μ + 1))) = pn μ := by unfold pn; rw [e44 45 (by omega)]
          have o : ∀ a, a ≠ 322 → a ≠ 348 → u1 (u1 μ 348 (rm μ) (nI (nm b len (nx b len s)))) 322 43 (nI (rm μ + 1)) a = μ a := fun a h1 h2 => by rw [u1_o _ _ _ h1, u1_o _ _ _ h2]
          refine ⟨?_, ?_⟩
          · rw [ep]
            exact pIr_o h.1 (o 347 (by omega) (by omega))
          · unfold pIp
            rw [ep, en, e43, o 350 (by omega) (by omega)]
            exact ⟨⟨by omega, h.2.1.2⟩, h.2.2⟩
theorem pPers_I {s s' : Nat} {μ μ' : pM} (h : pI μ) (e : pPers b len s μ = .inr (s', μ')) : pI μ' := by
  unfold pPers at e
  split at e
  · cases e
  · rename_i c10
    split at e
    · cases e
    · split at e
      · cases e
      · rcases ev : pInt b len 99999 (nx b len (nx b len s)) with x | v
        · rw [ev] at e; cases e
        · rw [ev] at e
          dsimp only at e
          rcases ew : pVals b len (pe μ) (rm μ) 0 (nx b len (nx b len (nx b len s))) (u1 (u1 μ 349 (pe μ) (nI (nm b len (nx b len s)))) 347 (8 + 20 * pe μ + 1) (nI v)) with x | ⟨s2, ν⟩
          · rw [ew] at e; cases e
          · rw [ew] at e
            cases e
            have h0 : pIr (u1 (u1 μ 349 (pe μ) (nI (nm b len (nx b len s)))) 347 (8 + 20 * pe μ + 1) (nI v)) (pe μ) 0 := pIr_k (pIr_o h.1 (u1_o _ _ _ (by omega))) (Or.inr (Or.inr (Or.inr ⟨⟨pe μ, by omega, rfl⟩, nI_b (hi := 99999) (pInt_le ev) (by decide)⟩)))
            obtain ⟨i1, i2⟩ := pVals_I _ _ _ _ _ _ (by have := h.2.1.1; omega) h0 ew
            have n322 : ν 322 = μ 322 := by rw [i2 322 (by omega), u1_o _ _ _ (by omega), u1_o _ _ _ (by omega)]
            have n350 : ν 350 = μ 350 := by rw [i2 350 (by omega), u1_o _ _ _ (by omega), u1_o _ _ _ (by omega)]
            have ep : pe (u1 ν 322 44 (nI (pe μ + 1))) = pe μ + 1 := by
              show (u1 ν 322 44 (nI (pe μ + 1)) 322 44).toNatClampNeg = _
              rw [u1_s, nI_clamp (by omega)]
            have er : rm (u1 ν 322 44 (nI (pe μ + 1))) = rm μ := by
              unfold rm
              rw [u1_n _ _ (fun z => by omega), n322]
            have en : pn (u1 ν 322 44 (nI (pe μ + 1))) = pn μ := by
              unfold pn
              rw [u1_n _ _ (fun z => by omega), n322]
            refine ⟨?_, ?_⟩
            · rw [ep]
              exact pIr_o (pIr_r i1 (fun p q z => by omega)) (u1_o _ _ _ (by omega))
            · unfold pIp
              rw [ep, er, en, u1_o _ _ _ (by omega), n350]
              refine ⟨⟨h.2.1.1, by omega, h.2.1.2.2⟩, fun k hk => ?_⟩
              obtain ⟨⟨p, p1, p2⟩, p3⟩ := h.2.2 k hk
              exact ⟨⟨p, by omega, p2⟩, p3⟩
theorem pI_row {μ : pM} {k : Nat} {x : Int32} (g : Nat) (h : pI μ) (hk : (k = 0 ∨ k = 2) ∨ ((k = 3 ∨ k = 4) ∧ 0 ≤ x ∧ x ≤ 99999) ∨ (k = 1 ∧ 0 ≤ x ∧ x ≤ 100) ∨ ((∃ p, p < 10 ∧ k = 8 + 20 * p + 1) ∧ 0 ≤ x ∧ x ≤ 99999)) : pI (u1 (gvS μ g) 347 k x) := by
  have e : ∀ j, j ≠ 49 → u1 (gvS μ g) 347 k x 322 j = μ 322 j := fun j hj => by
    rw [u1_n _ _ (fun z => by omega)]
    exact u1_n _ _ (fun z => hj z.2)
  have o : ∀ a, a ≠ 347 → a ≠ 322 → u1 (gvS μ g) 347 k x a = μ a := fun a h1 h2 => by
    rw [u1_o _ _ _ h1]
    exact u1_o _ _ _ h2
  have ep : pe (u1 (gvS μ g) 347 k x) = pe μ := by unfold pe; rw [e 44 (by omega)]
  have er : rm (u1 (gvS μ g) 347 k x) = rm μ := by unfold rm; rw [e 43 (by omega)]
  have en : pn (u1 (gvS μ g) 347 k x) = pn μ := by unfold pn; rw [e 45 (by omega)]
  refine ⟨?_, ?_⟩
  · rw [ep]
    exact pIr_k (pIr_o h.1 (u1_o _ _ _ (by omega))) hk
  · unfold pIp
    rw [ep, er, en, o 350 (by omega) (by omega)]
    exact h.2
theorem pOnce_I {g k s s' : Nat} {μ μ' : pM} (h : pI μ) (hk : k = 3 ∨ k = 4) (e : pOnce b len g k s μ = .inr (s', μ')) : pI μ' := by
  unfold pOnce at e
  split at e
  · cases e
  · rcases ev : pInt b len 99999 (nx b len s) with x | v
    · rw [ev] at e; cases e
    · rw [ev] at e
      cases e
      exact pI_row g h (Or.inr (Or.inl ⟨hk, nI_b (hi := 99999) (pInt_le ev) (by decide)⟩))
theorem lm_lt {p : Nat → Bool} : ∀ n, lm p n = -1 ∨ ∃ k, k < n ∧ lm p n = nI k
  | 0 => Or.inl rfl
  | n + 1 => by
    simp only [lm]
    by_cases c : p n = true
    · rw [if_pos c]
      exact Or.inr ⟨n, by omega, rfl⟩
    · rw [if_neg c]
      rcases lm_lt (p := p) n with z | ⟨k, k1, k2⟩
      · exact Or.inl z
      · exact Or.inr ⟨k, by omega, k2⟩
theorem pPlan_I {s s' : Nat} {μ μ' : pM} (h : pI μ) (e : pPlan b len s μ = .inr (s', μ')) : pI μ' := by
  unfold pPlan at e
  split at e
  · cases e
  · rename_i c20
    split at e
    · cases e
    · split at e
      · cases e
      · rename_i cm
        rcases ev : pInt b len 999 (nx b len (nx b len s)) with x | m
        · rw [ev] at e; cases e
        · rw [ev] at e
          dsimp only at e
          rcases ew : pInt b len 99999 (nx b len (nx b len (nx b len s))) with x | v
          · rw [ew] at e; cases e
          · rw [ew] at e
            cases e
            obtain ⟨L, eL⟩ : ∃ L, L = lm (fun p => decide (μ 349 p = nI (nm b len (nx b len s)))) (pe μ) := ⟨_, rfl⟩
            rw [← eL] at cm ⊢
            have hL : ∃ k, k < pe μ ∧ L = nI k := by
              rcases lm_lt (p := fun p => decide (μ 349 p = nI (nm b len (nx b len s)))) (pe μ) with z | z
              · exact absurd (eL.trans z) cm
              · rw [eL]; exact z
            obtain ⟨ν, eν⟩ : ∃ ν, ν = u1 (u1 (u1 (u1 μ 350 (3 * pn μ) L) 350 (3 * pn μ + 1) (nI m)) 350 (3 * pn μ + 2) (nI v)) 322 45 (nI (pn μ + 1)) := ⟨_, rfl⟩
            rw [← eν]
            have e2 : ∀ j, j ≠ 45 → ν 322 j = μ 322 j := fun j hj => by
              rw [eν, u1_n _ _ (fun z => hj z.2), u1_n _ _ (fun z => by omega), u1_n _ _ (fun z => by omega), u1_n _ _ (fun z => by omega)]
            have ep : pe ν = pe μ := by unfold pe; rw [e2 44 (by omega)]
            have er : rm ν = rm μ := by unfold rm; rw [e2 43 (by omega)]
            have en : pn ν = pn μ + 1 := by
              show (ν 322 45).toNatClampNeg = _
              rw [eν, u1_s, nI_clamp (by omega)]
            have e7 : ν 347 = μ 347 := by rw [eν, u1_o _ _ _ (by omega), u1_o _ _ _ (by omega), u1_o _ _ _ (by omega), u1_o _ _ _ (by omega)]
            refine ⟨?_, ?_⟩
            · rw [ep]
              exact pIr_o h.1 e7
            · unfold pIp
              rw [ep, er, en]
              refine ⟨⟨h.2.1.1, h.2.1.2.1, by omega⟩, fun k hk => ?_⟩
              by_cases ek : k = pn μ
              · subst ek
                have a0 : ν 350 (3 * pn μ) = L := by
                  rw [eν, u1_n _ _ (fun z => by omega), u1_n _ _ (fun z => by omega), u1_n _ _ (fun z => by omega), u1_s]
                have a1 : ν 350 (3 * pn μ + 1) = nI m := by
                  rw [eν, u1_n _ _ (fun z => by omega), u1_n _ _ (fun z => by omega), u1_s]
                have a2 : ν 350 (3 * pn μ + 2) = nI v := by
                  rw [eν, u1_n _ _ (fun z => by omega), u1_s]
                rw [a0, a1, a2]
                exact ⟨hL, nI_b (hi := 999) (pInt_le ev) (by decide), nI_b (hi := 99999) (pInt_le ew) (by decide)⟩
              · have o : ∀ j, j < 3 * pn μ → ν 350 j = μ 350 j := fun j hj => by
                  rw [eν, u1_n _ _ (fun z => by omega), u1_n _ _ (fun z => by omega), u1_n _ _ (fun z => by omega), u1_n _ _ (fun z => by omega)]
                rw [o _ (by omega), o _ (by omega), o _ (by omega)]
                exact h.2.2 k (by omega)
theorem pWhich_lt (s : Nat) : pWhich b len s ≤ 3 := by
  unfold pWhich
  split
  · omega
  · split
    · omega
    · split <;> omega
theorem pSet_I {s s' : Nat} {μ μ' : pM} (h : pI μ) (e : pSet b len s μ = .inr (s', μ')) : pI μ' := by
  unfold pSet at e
  split at e
  · cases e
  · rename_i c3
    split at e
    · cases e
    · split at e
      · split at e
        · cases e
        · cases e
          exact pI_row 0 h (Or.inl (Or.inl rfl))
      · rename_i c0
        rcases ev : pInt b len (if pWhich b len (nx b len s) = 1 then 100 else 1) (nx b len (nx b len s)) with x | v
        · rw [ev] at e; cases e
        · rw [ev] at e
          cases e
          have lv := pInt_le ev
          have l3 := pWhich_lt (b := b) (len := len) (nx b len s)
          by_cases c1 : pWhich b len (nx b len s) = 1
          · rw [if_pos c1] at lv
            exact pI_row _ h (Or.inr (Or.inr (Or.inl ⟨c1, nI_b (hi := 100) lv (by decide)⟩)))
          · exact pI_row _ h (Or.inl (Or.inr (by omega)))
theorem pStmt_I {s s' : Nat} {μ μ' : pM} (h : pI μ) (e : pStmt b len s μ = .inr (s', μ')) : pI μ' := by
  unfold pStmt at e
  have key : ∀ (r : pE ⊕ pS), (∀ s2 μ2, r = .inr (s2, μ2) → pI μ2) → (match r with | .inl e => (.inl e : pE ⊕ pS) | .inr (s', μ') => if kn b len s' = 4 then .inr (nx b len s', μ') else .inl (-11, s')) = .inr (s', μ') → pI μ' := fun r hr hm => by
    rcases r with x | ⟨s2, μ2⟩
    · cases hm
    · dsimp only at hm
      split at hm
      · cases hm
        exact hr _ _ rfl
      · cases hm
  refine key _ (fun s2 μ2 hr => ?_) e
  split at hr
  · exact pRoom_I h hr
  · split at hr
    · exact pPers_I h hr
    · split at hr
      · exact pOnce_I h (Or.inl rfl) hr
      · split at hr
        · exact pOnce_I h (Or.inr rfl) hr
        · split at hr
          · exact pPlan_I h hr
          · split at hr
            · exact pSet_I h hr
            · cases hr
theorem pText_I : ∀ (f c s : Nat) (μ : pM) (q : Nat × pM), pI μ → pText b len f c s μ = .inr q → pI q.2
  | 0, c, s, μ, q, h, e => by
    simp only [pText] at e
    cases e
    exact h
  | f + 1, c, s, μ, q, h, e => by
    simp only [pText] at e
    split at e
    · cases e
      exact h
    · rcases ev : pStmt b len s μ with x | ⟨s2, μ2⟩
      · rw [ev] at e; cases e
      · rw [ev] at e
        exact pText_I f (c + 1) s2 μ2 q (pStmt_I h ev) e
end PL
theorem bgR_at {p w : Nat} (hw : w < 20) : bgR (8 + 20 * p + w) = if w = 2 then -1 else 0 := by
  unfold bgR
  rw [if_neg (by omega), show (8 + 20 * p + w - 8) % 20 = w by omega]
  by_cases c : w = 2
  · rw [if_pos ⟨by omega, c⟩, if_pos c]
  · rw [if_neg (fun z => c z.2), if_neg c]
theorem bgR_lo {j : Nat} (h0 : 0 < j) (h8 : j < 8) : bgR j = 0 := by
  unfold bgR
  rw [if_neg (by omega), if_neg (fun z => by omega)]
theorem mu1_I (σ : jM) : pI (mu1 σ) ∧ lInit (mu1 σ) := by
  have r : ∀ j, j < 208 → mu1 σ 347 j = bgR j := fun j hj => if_pos ⟨rfl, hj⟩
  have z : ∀ j, (j = 43 ∨ j = 44 ∨ j = 45 ∨ j = 49) → mu1 σ 322 j = 0 := fun j hj => by
    unfold mu1
    rw [if_neg (fun w => by omega), if_pos ⟨rfl, hj⟩]
  have c : ((0 : Int32)).toNatClampNeg = 0 := by decide
  have e1 : rm (mu1 σ) = 0 := by unfold rm; rw [z 43 (by omega), c]
  have e2 : pe (mu1 σ) = 0 := by unfold pe; rw [z 44 (by omega), c]
  have e3 : pn (mu1 σ) = 0 := by unfold pn; rw [z 45 (by omega), c]
  refine ⟨⟨?_, ?_⟩, ⟨z 43 (by omega), z 44 (by omega), z 45 (by omega), z 49 (by omega)⟩, fun k hk => ?_⟩
  · rw [e2]
    refine ⟨fun j j5 j8 => ?_, fun p hp w hw => ?_, fun p hp q hq => ?_, fun p hp => ?_, ⟨?_, ?_, ?_⟩, fun p hp q hq _ => ?_⟩
    · rw [r j (by omega)]; exact bgR_lo (by omega) j8
    · unfold fxW at hw
      rw [r _ (by omega), bgR_at (by omega)]
    · rw [r _ (by omega), r _ (by omega), bgR_at (by omega), bgR_at (by omega), if_neg (by omega), if_neg (by omega)]
      exact ⟨⟨by decide, by decide⟩, Or.inl rfl⟩
    · rw [r _ (by omega), bgR_at (by omega), if_neg (by omega)]
      exact ⟨by decide, by decide⟩
    · rw [r _ (by omega), bgR_lo (by omega) (by omega)]
      exact ⟨by decide, by decide⟩
    · rw [r _ (by omega), bgR_lo (by omega) (by omega)]
      exact ⟨by decide, by decide⟩
    · rw [r _ (by omega), bgR_lo (by omega) (by omega)]
      exact ⟨by decide, by decide⟩
    · rw [r _ (by omega), bgR_at (by omega), if_neg (by omega)]
  · unfold pIp
    rw [e1, e2, e3]
    exact ⟨⟨by omega, by omega, by omega⟩, fun k hk => by omega⟩
  · rw [r k (by omega)]
    by_cases k0 : k = 0
    · rw [if_pos k0, k0]; rfl
    · rw [if_neg k0]; exact bgR_lo (by omega) (by omega)
