/-! a proposal agreed to, on the desk; bounds of payments -/
theorem paS_b6 {σ : jM} {R N K : Nat} (h : xRk σ R N K) {a : Nat × Nat × (Nat → Nat)} (ha : dC σ = some a) {s : Nat} (hs : s ≤ 100) {i : Nat} (hi : i < mLiv σ) : ∃ y : Int, paS σ s i = iI y ∧ -1000000 ≤ y ∧ y ≤ 1000000 := by
  obtain ⟨b1, -, b3, b4⟩ := xv_mPr h ha hs
  have l := (xv_liv h).2.2.2.1
  have r6 := h.1.1.1
  have bi := b1 i hi
  obtain ⟨L, h1, h2, h3, h4, h5, h6, h7, h8⟩ := ip_le (xv_dI h) hs
  have ip : ipN σ s ≤ 99999 := by
    obtain ⟨k, k1, k2, k3⟩ := nI_rng (xv_dI h).2.2.1.1 (xv_dI h).2.2.1.2 (by decide)
    unfold ipN
    rw [k3]
    have : k * s / 100 ≤ k * 100 / 100 := Nat.div_le_div_right (Nat.mul_le_mul_left _ hs)
    omega
  obtain ⟨k, k1, k2⟩ := spS_bd ip (icN σ) hi (by omega)
  obtain ⟨k', k3, k4⟩ := hoS_bd (m := mLiv σ) (lfI σ s).toNat (fun i => prI σ s i % 120) (fun i => iI (prI σ s i / 120)) i
  refine ⟨prI σ s i / 120 + (k' : Int) + (k : Int), ?_, by omega, by omega⟩
  unfold paS unS shS
  rw [k4, k2, ← iI_nat, ← iI_nat, iI_add, iI_add]
theorem rP_cg {σ τ : dM} {s : jM} {K : Nat} (h : rP σ s K) (hI : ∀ k j, k = 1900 ∨ (1138 ≤ k ∧ k < 1140) → DI τ k j = DI σ k j) (hR : ∀ k j, k = 1900 ∨ k = 2000 → DR τ k j = DR σ k j) (hA : ∀ k, k = 2000 ∨ (1138 ≤ k ∧ k < 1140) → DA τ k = DA σ k ∧ DN τ k = DN σ k) : rP τ s K := by
  obtain ⟨h1, h2, h3⟩ := h
  refine ⟨h1, by rw [hI _ _ (Or.inl rfl)]; exact h2, fun z => ?_⟩
  obtain ⟨⟨a1, a2, a3⟩, b, c⟩ := h3 z
  refine ⟨⟨by rw [hR _ _ (Or.inl rfl)]; exact a1, by rw [(hA 2000 (Or.inl rfl)).1]; exact a2, by rw [(hA 2000 (Or.inl rfl)).2]; exact a3⟩, fun k hk => ?_, fun i hi => by rw [hR _ _ (Or.inr rfl)]; exact c i hi⟩
  have q := hA (1138 + k) (by omega)
  rw [q.1, q.2, hI _ _ (by omega), hI _ _ (by omega), hI _ _ (by omega)]
  exact b k hk
theorem rP_row {σ : dM} {s : jM} {f f' : Nat → Int32} {K : Nat} (h : rP σ (rw3 s f) K) (e : f' 7 = f 7) : rP σ (rw3 s f') K := by
  have e9 : mO (rw3 s f') = mO (rw3 s f) := funext fun k => by
    unfold mO
    rw [rw3_sf, rw3_sf, e]
  obtain ⟨h1, h2, h3⟩ := h
  refine ⟨h1, by rw [e9]; exact h2, fun z => ?_⟩
  rw [e9]
  exact h3 z
theorem dgS_I {τ : dM} {N i j : Nat} : DI (dgS τ τ N N) i j = if i = 1103 then dgP τ N N j else if i = 1102 then dgR τ N j else DI τ i j := rfl
/-- a proposal agreed to: the desk says the new row -/
theorem rAg {τ : dM} {s0 : jM} {N M K : Nat} {a : Nat × Nat × (Nat → Nat)} (h : rDs τ s0 N M K) (ha : dC s0 = some a) (hb : rBt τ s0 N) : dk (dgS τ τ N N) N M ∧ rDf (dgS τ τ N N) (agR (mCh s0) (mPy s0) (s0.1 323) N) N M := by
  have hN := h.1.1.1.2
  have hM := h.1.1.2.2
  obtain ⟨h1, h2, h3⟩ := h.2.2
  have o : ∀ i j, i ≠ 1102 → i ≠ 1103 → DI (dgS τ τ N N) i j = DI τ i j := fun i j a b => by rw [dgS_I, if_neg b, if_neg a]
  have hc : ∀ p, p < N → (if mCh s0 p < 0 then (-1 : Int32) else mCh s0 p) = DI τ 1107 p ∧ (mCh s0 p < 0 ↔ DI τ 1107 p < 0) ∧ (if mCh s0 p < 0 then (0 : Int32) else mPy s0 p) = dgP τ N N p := fun p hp => by
    have e := hb p hp
    obtain ⟨c1, c2⟩ := rCh h ha hb hp
    have py := (rPy h ha hb).2.2 p hp
    rw [← e]
    unfold dgP
    rw [if_pos hp]
    by_cases l : xl s0 p = true
    · have n := (c1 l).2.2.2.2
      rw [if_neg n, if_neg n, if_neg n, py]
      exact ⟨rfl, Iff.rfl, rfl⟩
    · have n := c2 l
      rw [n]
      exact ⟨rfl, Iff.rfl, rfl⟩
  refine ⟨dk_I h.1 (fun j => o _ _ (by omega) (by omega)) rfl rfl rfl (fun p hp r => o _ _ (by omega) (by omega)), fun p hp => ?_, fun p r hp hr => ?_, ?_⟩
  · obtain ⟨a1, a2, a3, a4, a5, a6⟩ := h1 p hp
    obtain ⟨q1, q2, q3⟩ := hc p hp
    rw [o 1100 p (by omega) (by omega), o 1101 p (by omega) (by omega), o 1104 p (by omega) (by omega), agX_o (w := 0) (by omega) (by omega) (by omega), agX_o (w := 1) (by omega) (by omega) (by omega), agX_o (w := 4) (by omega) (by omega) (by omega), agX_o (w := 5) (by omega) (by omega) (by omega)]
    refine ⟨a1, a2, ?_, ?_, a5, a6⟩
    · rw [dgS_I, if_neg (by omega), if_pos rfl, agX_at (by omega), if_pos ⟨hp, rfl⟩, q1]
      unfold dgR
      rw [if_pos hp]
    · rw [dgS_I, if_pos rfl, agX_at (by omega), if_neg (by omega), if_pos ⟨hp, rfl⟩, q3]
  · rw [o (1110 + p) r (by omega) (by omega), o (1200 + p) r (by omega) (by omega), agX_o (w := 7 + r) (by omega) (by omega) (by omega), agX_o (w := 13 + r) (by omega) (by omega) (by omega)]
    exact h2 p r hp hr
  · obtain ⟨a1, a2, a3, a4, a5, a6, a7⟩ := h3
    rw [o 1000 12 (by omega) (by omega), o 1000 13 (by omega) (by omega), o 1000 14 (by omega) (by omega), o 1000 15 (by omega) (by omega), o 1000 16 (by omega) (by omega), o 1000 17 (by omega) (by omega), agX_lo (by omega), agX_lo (by omega), agX_lo (by omega), agX_lo (by omega), agX_lo (by omega), agX_lo (by omega), agX_lo (by omega)]
    exact ⟨a1, a2, a3, a4, a5, a6, a7⟩
/-- what stands behind the plans, and behind an agreement -/
def stB (σ0 σ : dM) (s : jM) (f : Nat → Int32) (N M K : Nat) : Prop := rRw σ f N M ∧ rP σ (rw3 s f) K ∧ DS σ = DS σ0 ∧ chQ σ ∧ (∀ k, k ≠ 1106 → k ≠ 1107 → DA σ k = DA σ0 k) ∧ Dcl0 σ
