/-! the class's flat and the reference's row of numbers say the same -/
/-- the row's worth of a room for a person, as the class keeps it -/
def wR (f : Nat → Int32) (p r : Nat) : Int32 := if f (8 + 20 * p + (13 + r)) = 1 then -1 else f (8 + 20 * p + (7 + r))
/-- the class's flat at cell b says what the row f says: R rooms, N persons -/
def flR (σ : jM) (b : Nat) (f : Nat → Int32) (R N : Nat) : Prop :=
  (σ.1 b 0 = nI R ∧ σ.1 b 1 = nI N ∧ σ.1 b 2 = f 3 ∧ σ.1 b 3 = f 4 ∧ σ.1 b 4 = f 6 ∧ σ.1 b 5 = f 5) ∧
  (∀ j, j < 3 → σ.1 (b + 1) j = f j) ∧
  (∀ p, p < 10 → σ.1 (b + 2) p = f (8 + 20 * p + 0) ∧ σ.1 (b + 15) p = f (8 + 20 * p + 2) ∧ σ.1 (b + 16) p = f (8 + 20 * p + 3) ∧ σ.1 (b + 17) p = f (8 + 20 * p + 4) ∧ σ.1 (b + 18) p = f (8 + 20 * p + 5) ∧ σ.1 (b + 19) p = f (8 + 20 * p + 6)) ∧
  (∀ p, p < N → σ.1 (b + 3) p = f (8 + 20 * p + 1) ∧ ∀ r, r < R → σ.1 (b + (5 + p)) r = wR f p r)
/-- what holds of a row whatever happens -/
def dG (f : Nat → Int32) (R N : Nat) : Prop :=
  dI f ∧ (0 ≤ f 5 ∧ f 5 ≤ 999) ∧
  (∀ p, p < 10 → ∀ r, r < 6 → f (8 + 20 * p + (13 + r)) = 0 ∨ f (8 + 20 * p + (13 + r)) = 1 ∧ f (8 + 20 * p + (7 + r)) = 0) ∧
  (∀ p, p < 10 → (f (8 + 20 * p + 2) = -1 ∧ f (8 + 20 * p + 3) = 0) ∨ (p < N ∧ f (8 + 20 * p + 0) = 1 ∧ ∃ r, r < R ∧ f (8 + 20 * p + 2) = nI r)) ∧
  (∀ p, p < 10 → -100000000 ≤ f (8 + 20 * p + 3) ∧ f (8 + 20 * p + 3) ≤ 100000000) ∧
  (∀ p, p < 10 → (0 ≤ f (8 + 20 * p + 5) ∧ f (8 + 20 * p + 5) ≤ 200000) ∧ (N ≤ p → f (8 + 20 * p + 5) = 0)) ∧
  cn (dL f) N ≤ R
/-- the plans, in the class by month, in the reference as declared -/
def plZ (σ : jM) (K : Nat) : Prop := ∃ ρ : Nat → Nat, (∀ i, i < K → ρ i < K ∧ σ.1 34 i = σ.1 327 (ρ i) ∧ σ.1 35 i = σ.1 328 (ρ i) ∧ σ.1 36 i = σ.1 329 (ρ i)) ∧ ∀ i j, i < j → j < K → (σ.1 328 (ρ i) < σ.1 328 (ρ j) ∨ σ.1 328 (ρ i) = σ.1 328 (ρ j) ∧ ρ i < ρ j)
def plI (σ : jM) (K N : Nat) : Prop := (σ.1 31 5 = nI K ∧ σ.1 322 5 = nI K ∧ K ≤ 20) ∧ plZ σ K ∧ ∀ k, k < K → (∃ p, p < N ∧ σ.1 327 k = nI p) ∧ (0 ≤ σ.1 328 k ∧ σ.1 328 k ≤ 999) ∧ 0 ≤ σ.1 329 k ∧ σ.1 329 k ≤ 99999
/-- the plans that are done: those of months gone by -/
def plD (σ : jM) (b K : Nat) (f : Nat → Int32) : Prop := (∃ D, σ.1 b 6 = nI D ∧ D ≤ K ∧ ∀ i, i < K → (i < D ↔ σ.1 35 i < f 5)) ∧ ∀ k, k < K → ((f 7 >>> (nI k &&& 31)) &&& 1 = 0 ↔ ¬ σ.1 328 k < f 5)
def rowR (σ : jM) (b : Nat) (f : Nat → Int32) (R N K : Nat) : Prop := flR σ b f R N ∧ dG f R N ∧ plD σ b K f
def hisR (σ : jM) (R N K : Nat) : Prop := ∃ h c, (h ≤ 9 ∧ c ≤ 10) ∧ (σ.1 57 1 = nI h ∧ σ.1 57 2 = nI c ∧ σ.1 322 2 = nI c) ∧ ∀ q, q < c → rowR σ (59 + 20 * ((h + 10 - c + q) % 10)) (fun j => σ.1 324 (q * 208 + j)) R N K
def textR (σ : jM) : Prop := σ.1 3 = σ.1 346 ∧ (∃ n, n ≤ 900 ∧ σ.1 2 1 = nI n ∧ σ.1 322 32 = nI n) ∧ ∀ j, j < 900 → -128 ≤ σ.1 346 j ∧ σ.1 346 j ≤ 127
def pageR (σ : jM) : Prop := ∃ s, s ≤ 162 ∧ σ.1 320 1 = nI s ∧ σ.1 322 52 = nI s ∧ ∀ j, j < s → σ.1 321 j = σ.1 351 j
def cntR (σ : jM) (R N : Nat) : Prop := (R ≤ 6 ∧ N ≤ 10) ∧ (σ.1 322 3 = nI R ∧ σ.1 322 4 = nI N) ∧ (∀ r, r < R → σ.1 32 r = σ.1 325 r) ∧ ∀ p, p < N → σ.1 33 p = σ.1 326 p
/-- class and reference say the same -/
def xRk (σ : jM) (R N K : Nat) : Prop := cntR σ R N ∧ rowR σ 37 (σ.1 323) R N K ∧ plI σ K N ∧ hisR σ R N K ∧ textR σ ∧ pageR σ ∧ σ.1 1 9 = σ.1 322 33 ∧ prIv σ
def xR (σ : jM) : Prop := ∃ R N K, xRk σ R N K
/-! rows count where they lie -/
theorem dL_cg {f f' : Nat → Int32} (h : ∀ j, j < 208 → f' j = f j) {p : Nat} (hp : p < 10) : dL f' p = dL f p := by
  unfold dL
  rw [h _ (by omega)]
theorem dI_cg {f f' : Nat → Int32} (h : ∀ j, j < 208 → f' j = f j) (d : dI f) : dI f' := by
  obtain ⟨d1, d2, d3, d4, d5⟩ := d
  refine ⟨fun p hp r hr => ?_, fun p hp => ?_, ?_, ?_, ?_⟩
  · rw [h _ (by omega)]; exact d1 p hp r hr
  · rw [h _ (by omega)]; exact d2 p hp
  · rw [h _ (by omega)]; exact d3
  · rw [h _ (by omega)]; exact d4
  · rw [h _ (by omega)]; exact d5
theorem dG_cg {f f' : Nat → Int32} {R N : Nat} (hN : N ≤ 10) (h : ∀ j, j < 208 → f' j = f j) (d : dG f R N) : dG f' R N := by
  obtain ⟨d1, d2, d3, d4, d5, d6, d7⟩ := d
  refine ⟨dI_cg h d1, ?_, fun p hp r hr => ?_, fun p hp => ?_, fun p hp => ?_, fun p hp => ?_, ?_⟩
  · rw [h _ (by omega)]; exact d2
  · rw [h _ (by omega), h _ (by omega)]; exact d3 p hp r hr
  · rw [h _ (by omega), h _ (by omega), h _ (by omega)]; exact d4 p hp
  · rw [h _ (by omega)]; exact d5 p hp
  · rw [h _ (by omega)]; exact d6 p hp
  · rw [cn_congr N (fun j hj => dL_cg h (by omega))]; exact d7
theorem wR_cg {f f' : Nat → Int32} (h : ∀ j, j < 208 → f' j = f j) {p r : Nat} (hp : p < 10) (hr : r < 6) : wR f' p r = wR f p r := by
  unfold wR
  rw [h _ (by omega), h _ (by omega)]
/-- cells and row as they were -/
theorem flR_cg {σ τ : jM} {b b' : Nat} {f f' : Nat → Int32} {R N : Nat} (hR : R ≤ 6) (hN : N ≤ 10) (hf : ∀ j, j < 208 → f' j = f j) (h0 : ∀ j, j < 7 → τ.1 b' j = σ.1 b j) (hc : ∀ k, 1 ≤ k → k ≤ 19 → k ≠ 4 → ∀ j, j < fLn k → τ.1 (b' + k) j = σ.1 (b + k) j) (h : flR σ b f R N) : flR τ b' f' R N := by
  obtain ⟨⟨a1, a2, a3, a4, a5, a6⟩, a7, a8, a9⟩ := h
  refine ⟨⟨(h0 0 (by omega)).trans a1, (h0 1 (by omega)).trans a2, ?_, ?_, ?_, ?_⟩, fun j hj => ?_, fun p hp => ?_, fun p hp => ⟨?_, fun r hr => ?_⟩⟩
  · rw [h0 2 (by omega), hf _ (by omega)]; exact a3
  · rw [h0 3 (by omega), hf _ (by omega)]; exact a4
  · rw [h0 4 (by omega), hf _ (by omega)]; exact a5
  · rw [h0 5 (by omega), hf _ (by omega)]; exact a6
  · rw [hc 1 (by omega) (by omega) (by omega) j (by unfold fLn; rw [if_pos rfl]; exact hj), hf _ (by omega)]; exact a7 j hj
  · rw [hc 2 (by omega) (by omega) (by omega) p hp, hc 15 (by omega) (by omega) (by omega) p hp, hc 16 (by omega) (by omega) (by omega) p hp, hc 17 (by omega) (by omega) (by omega) p hp, hc 18 (by omega) (by omega) (by omega) p hp, hc 19 (by omega) (by omega) (by omega) p hp, hf _ (by omega), hf _ (by omega), hf _ (by omega), hf _ (by omega), hf _ (by omega), hf _ (by omega)]
    exact a8 p hp
  · rw [hc 3 (by omega) (by omega) (by omega) p (by show p < 10; omega), hf _ (by omega)]; exact (a9 p hp).1
  · rw [hc (5 + p) (by omega) (by omega) (by omega) r (by unfold fLn; rw [if_neg (by omega), if_pos (by omega)]; omega), wR_cg hf (by omega) (by omega)]
    exact (a9 p hp).2 r hr
theorem plD_cg {σ τ : jM} {b b' K : Nat} {f f' : Nat → Int32} (hf : ∀ j, j < 208 → f' j = f j) (h6 : τ.1 b' 6 = σ.1 b 6) (h35 : ∀ i, i < K → τ.1 35 i = σ.1 35 i) (h328 : ∀ i, i < K → τ.1 328 i = σ.1 328 i) (h : plD σ b K f) : plD τ b' K f' := by
  obtain ⟨⟨D, h1, h2, h3⟩, h4⟩ := h
  refine ⟨⟨D, h6.trans h1, h2, fun i hi => ?_⟩, fun k hk => ?_⟩
  · rw [h35 i hi, hf 5 (by omega)]; exact h3 i hi
  · rw [h328 k hk, hf 5 (by omega), hf 7 (by omega)]; exact h4 k hk
theorem rowR_cg {σ τ : jM} {b b' : Nat} {f f' : Nat → Int32} {R N K : Nat} (hR : R ≤ 6) (hN : N ≤ 10) (hf : ∀ j, j < 208 → f' j = f j) (h0 : ∀ j, j < 7 → τ.1 b' j = σ.1 b j) (hc : ∀ k, 1 ≤ k → k ≤ 19 → k ≠ 4 → ∀ j, j < fLn k → τ.1 (b' + k) j = σ.1 (b + k) j) (h35 : ∀ i, i < K → τ.1 35 i = σ.1 35 i) (h328 : ∀ i, i < K → τ.1 328 i = σ.1 328 i) (h : rowR σ b f R N K) : rowR τ b' f' R N K :=
  ⟨flR_cg hR hN hf h0 hc h.1, dG_cg hN hf h.2.1, plD_cg hf (h0 6 (by omega)) h35 h328 h.2.2⟩
theorem plI_cg {σ τ : jM} {K N : Nat} (e5 : τ.1 31 5 = σ.1 31 5) (m5 : τ.1 322 5 = σ.1 322 5) (h : ∀ a, (34 ≤ a ∧ a ≤ 36) ∨ (327 ≤ a ∧ a ≤ 329) → ∀ i, i < K → τ.1 a i = σ.1 a i) (p : plI σ K N) : plI τ K N := by
  obtain ⟨⟨a1, a2, a3⟩, ⟨ρ, b1, b2⟩, c⟩ := p
  refine ⟨⟨e5.trans a1, m5.trans a2, a3⟩, ⟨ρ, fun i hi => ?_, fun i j hi hj => ?_⟩, fun k hk => ?_⟩
  · obtain ⟨k1, k2, k3, k4⟩ := b1 i hi
    rw [h 34 (by omega) i hi, h 35 (by omega) i hi, h 36 (by omega) i hi, h 327 (by omega) _ k1, h 328 (by omega) _ k1, h 329 (by omega) _ k1]
    exact ⟨k1, k2, k3, k4⟩
  · rw [h 328 (by omega) _ (b1 i (by omega)).1, h 328 (by omega) _ (b1 j hj).1]
    exact b2 i j hi hj
  · rw [h 327 (by omega) k hk, h 328 (by omega) k hk, h 329 (by omega) k hk]
    exact c k hk
/-- the cells that count -/
def xC (a j : Nat) : Bool := a == 1 && j == 9 || a == 2 && j == 1 || a == 3 || (31).ble a && a.ble 258 || a == 320 || a == 321 || a == 322 && (j == 2 || j == 3 || j == 4 || j == 5 || j == 32 || j == 33 || j == 52) || (323).ble a && a.ble 329 || a == 346 || a == 351
theorem xRk_fr {σ τ : jM} {R N K : Nat} (h : xRk σ R N K) (f : ∀ a j, xC a j = true → τ.1 a j = σ.1 a j) (p : prIv τ) : xRk τ R N K := by
  have g : ∀ a, 31 ≤ a → a ≤ 258 → τ.1 a = σ.1 a := fun a h1 h2 => funext fun j => f a j (by
    unfold xC
    simp only [jble]
    simp [h1, h2])
  have g2 : ∀ a, 323 ≤ a → a ≤ 329 → τ.1 a = σ.1 a := fun a h1 h2 => funext fun j => f a j (by
    unfold xC
    simp only [jble]
    simp [h1, h2])
  have row : ∀ b f, 37 ≤ b → b + 19 ≤ 258 → rowR σ b f R N K → rowR τ b f R N K := fun b f h1 h2 q =>
    rowR_cg h.1.1.1 h.1.1.2 (fun _ _ => rfl) (fun j _ => by rw [g b (by omega) (by omega)]) (fun k _ _ _ j _ => by rw [g (b + k) (by omega) (by omega)]) (fun i _ => by rw [g 35 (by omega) (by omega)]) (fun i _ => by rw [g2 328 (by omega) (by omega)]) q
  obtain ⟨⟨c1, ⟨c2, c3⟩, c4, c5⟩, r, pl, ⟨h0, c0, hb, ⟨h1, h2, h3⟩, h4⟩, ⟨t1, ⟨n, t2, t3, t4⟩, t5⟩, ⟨s, s1, s2, s3, s4⟩, e9, -⟩ := h
  refine ⟨⟨c1, ⟨(f 322 3 rfl).trans c2, (f 322 4 rfl).trans c3⟩, fun r hr => ?_, fun p hp => ?_⟩, ?_, ?_, ⟨h0, c0, hb, ⟨?_, ?_, (f 322 2 rfl).trans h3⟩, fun q hq => ?_⟩, ⟨?_, ⟨n, t2, (f 2 1 rfl).trans t3, (f 322 32 rfl).trans t4⟩, fun j hj => ?_⟩, ⟨s, s1, (f 320 1 rfl).trans s2, (f 322 52 rfl).trans s3, fun j hj => ?_⟩, ?_, p⟩
  · rw [g 32 (by omega) (by omega), g2 325 (by omega) (by omega)]; exact c4 r hr
  · rw [g 33 (by omega) (by omega), g2 326 (by omega) (by omega)]; exact c5 p hp
  · rw [g2 323 (by omega) (by omega)]; exact row 37 _ (by omega) (by omega) r
  · exact plI_cg (by rw [g 31 (by omega) (by omega)]) (f 322 5 rfl) (fun a ha i _ => by
      rcases ha with ha | ha
      · rw [g a (by omega) (by omega)]
      · rw [g2 a (by omega) (by omega)]) pl
  · rw [g 57 (by omega) (by omega)]; exact h1
  · rw [g 57 (by omega) (by omega)]; exact h2
  · rw [g2 324 (by omega) (by omega)]
    have := Nat.mod_lt (h0 + 10 - c0 + q) (show 0 < 10 by decide)
    exact row _ _ (by omega) (by omega) (h4 q hq)
  · have e3 : τ.1 3 = σ.1 3 := funext fun j => f 3 j rfl
    have e4 : τ.1 346 = σ.1 346 := funext fun j => f 346 j rfl
    rw [e3, e4]; exact t1
  · rw [f 346 j rfl]; exact t5 j hj
  · rw [f 321 j rfl, f 351 j rfl]; exact s4 j hj
  · rw [f 1 9 rfl, f 322 33 rfl]; exact e9
