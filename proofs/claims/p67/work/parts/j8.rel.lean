/-! the law's extremes are the class's -/
/-- the best choice at hand is the class's -/
def rBt (σ : dM) (s0 : jM) (N : Nat) : Prop := ∀ p, p < N → DI σ 1107 p = mCh s0 p
def rE (s0 : jM) (N : Nat) (a : Nat → Nat) (p q : Nat) : Prop := p ≠ q ∧ xl s0 p = true ∧ xl s0 q = true ∧ gE (dW (s0.1 323) N) a (cn (xl s0) p) (cn (xl s0) q) = true
def rw9 (s0 : jM) (N : Nat) (a : Nat → Nat) (p q : Nat) : Int := gG (dW (s0.1 323) N) a (cn (xl s0) p) (cn (xl s0) q)
section RE
variable {σ : dM} {s0 : jM} {N M K : Nat} {a : Nat × Nat × (Nat → Nat)}
theorem rCh (h : rDs σ s0 N M K) (ha : dC s0 = some a) (hb : rBt σ s0 N) {p : Nat} (hp : p < N) : (xl s0 p = true → a.2.2 (cn (xl s0) p) < M ∧ cn (xl s0) p < mLiv s0 ∧ DI σ 1107 p = nI (a.2.2 (cn (xl s0) p)) ∧ bR σ p = a.2.2 (cn (xl s0) p) ∧ ¬ DI σ 1107 p < 0) ∧ (¬ xl s0 p = true → DI σ 1107 p = -1) := by
  obtain ⟨e1, e2, e3, e4, e5⟩ := rDs_lv h
  have hM := h.1.1.2.2
  obtain ⟨-, d1, -⟩ := dC_A ha
  have eb : DI σ 1107 p = qch (some a) (xl s0) N p := by
    rw [hb p hp]
    unfold mCh
    rw [ha, e4]
  refine ⟨fun l => ?_, fun l => ?_⟩
  · have hlt : cn (xl s0) p < mLiv s0 := by rw [e3]; exact cn_lt l hp
    have := (d1 _ hlt).1
    rw [e5] at this
    have e : DI σ 1107 p = nI (a.2.2 (cn (xl s0) p)) := by rw [eb]; exact if_pos ⟨l, hp⟩
    refine ⟨this, hlt, e, ?_, ?_⟩
    · unfold bR
      rw [e, nI_clamp (by omega)]
    · rw [e]
      exact nI_pos (by omega)
  · rw [eb]
    exact if_neg (fun z => l z.1)
/-- a value and a refusal, as the class has them -/
theorem rVal (h : rDs σ s0 N M K) {p r : Nat} (hp : p < N) (hr : r < M) (l : xl s0 p = true) : (DI σ (1200 + p) r = 0 ↔ (dW (s0.1 323) N (cn (xl s0) p) r).isSome = true) ∧ (DI σ (1200 + p) r = 0 → DI σ (1110 + p) r = nI ((dW (s0.1 323) N (cn (xl s0) p) r).getD 0) ∧ (dW (s0.1 323) N (cn (xl s0) p) r).getD 0 ≤ 9999) := by
  obtain ⟨k1, k2⟩ := rDs_ok h p r hp hr (by rw [(rDs_lv h).1 p hp]; exact l)
  dsimp only at k1 k2
  refine ⟨⟨fun z => ?_, fun z => ?_⟩, fun z => ?_⟩
  · obtain ⟨v, v1, -⟩ := k1 z
    rw [v1]; rfl
  · by_cases c : DI σ (1200 + p) r = 0
    · exact c
    · rw [k2 c] at z
      exact absurd z (by decide)
  · obtain ⟨v, v1, v2, v3⟩ := k1 z
    rw [v1]
    exact ⟨v3, v2⟩
theorem gpD_i (h : rDs σ s0 N M K) (ha : dC s0 = some a) (hb : rBt σ s0 N) {p q : Nat} (hp : p < N) (hq : q < N) (lp : xl s0 p = true) (lq : xl s0 q = true) (hr : DI σ (1200 + p) (bR σ q) = 0) : (gpD σ p q).toInt = rw9 s0 N a.2.2 p q ∧ -1199880 ≤ (gpD σ p q).toInt ∧ (gpD σ p q).toInt ≤ 1199880 := by
  obtain ⟨e1, e2, e3, e4, e5⟩ := rDs_lv h
  obtain ⟨p1, p2, p3, p4, -⟩ := (rCh h ha hb hp).1 lp
  obtain ⟨q1, q2, q3, q4, -⟩ := (rCh h ha hb hq).1 lq
  rw [q4] at hr
  obtain ⟨v1, v2⟩ := (rVal h hp q1 lp).2 hr
  have hs : DI σ (1200 + p) (a.2.2 (cn (xl s0) p)) = 0 := by
    rw [(rVal h hp p1 lp).1]
    have := ((dC_A ha).2.1 _ p2).2
    rw [e4] at this
    exact this
  obtain ⟨u1, u2⟩ := (rVal h hp p1 lp).2 hs
  obtain ⟨v, ev⟩ : ∃ v, v = (dW (s0.1 323) N (cn (xl s0) p) (a.2.2 (cn (xl s0) q))).getD 0 := ⟨_, rfl⟩
  obtain ⟨u, eu⟩ : ∃ u, u = (dW (s0.1 323) N (cn (xl s0) p) (a.2.2 (cn (xl s0) p))).getD 0 := ⟨_, rfl⟩
  rw [← ev] at v1 v2
  rw [← eu] at u1 u2
  have e9 : gpD σ p q = iI (120 * ((v : Int) - u)) := by
    unfold gpD
    rw [q4, p4, v1, u1, ← iI_nat, ← iI_nat, iI_sub, show (120 : Int32) = iI 120 from rfl, iI_mul]
  have e8 : rw9 s0 N a.2.2 p q = 120 * ((v : Int) - u) := by
    unfold rw9 gG gw gF
    rw [← ev, ← eu]
  rw [e9, iI_toInt (by omega), e8]
  exact ⟨rfl, by omega, by omega⟩
theorem fr1_in {i j : Nat} (hi : i < N) (hj : j < N) : fr1 σ N N 0 i j = fr0 σ i j := if_pos (Or.inl ⟨hi, hj⟩)
theorem m1_i : (-1 : Int32) < 0 := by decide
/-- the ways at first -/
theorem rFW (h : rDs σ s0 N M K) (ha : dC s0 = some a) (hb : rBt σ s0 N) : fwI N (fr1 σ N N 0) (rE s0 N a.2.2) (rw9 s0 N a.2.2) (fun p => xl s0 p = true) (fun p => if xl s0 p = true then gLo (dW (s0.1 323) N) a.2.2 (mLiv s0) (cn (xl s0) p) else 0) (fun p => if xl s0 p = true then gHi (dW (s0.1 323) N) a.2.2 (mLiv s0) (cn (xl s0) p) else 0) 0 1199880 := by
  obtain ⟨e1, e2, e3, e4, e5⟩ := rDs_lv h
  have hM := h.1.1.2.2
  have hqT : qT (dW (s0.1 323) N) M (mLiv s0) 0 0 = some a := by
    have := ha
    unfold dC at this
    rw [if_neg (by have := (dC_A ha).1; omega), e4, e5] at this
    exact this
  obtain ⟨-, -, -, sl, sh⟩ := qT_best (by omega) hqT
  -- what stands at a place
  have key : ∀ i j, i < N → j < N → (fr0 σ i j = 0 ∧ i = j) ∨ (fr0 σ i j = -1000000000 ∧ ¬ rE s0 N a.2.2 i j ∧ i ≠ j) ∨ ((fr0 σ i j).toInt = rw9 s0 N a.2.2 i j ∧ -1199880 ≤ (fr0 σ i j).toInt ∧ (fr0 σ i j).toInt ≤ 1199880 ∧ rE s0 N a.2.2 i j ∧ i ≠ j) := fun i j hi hj => by
    unfold fr0
    by_cases c : i = j
    · rw [if_pos c]; exact Or.inl ⟨rfl, c⟩
    · rw [if_neg c]
      by_cases li : xl s0 i = true
      · have ki := (rCh h ha hb hi).1 li
        rw [if_neg ki.2.2.2.2]
        by_cases lj : xl s0 j = true
        · have kj := (rCh h ha hb hj).1 lj
          rw [if_neg kj.2.2.2.2]
          by_cases d : DI σ (1200 + i) (bR σ j) = 0
          · rw [if_pos d]
            obtain ⟨g1, g2, g3⟩ := gpD_i h ha hb hi hj li lj d
            refine Or.inr (Or.inr ⟨g1, g2, g3, ⟨c, li, lj, ?_⟩, c⟩)
            unfold gE
            rw [kj.2.2.2.1] at d
            rw [Bool.and_eq_true, decide_eq_true_eq]
            exact ⟨fun z => c (cn_inj li lj z), (rVal h hi kj.1 li).1.mp d⟩
          · rw [if_neg d]
            refine Or.inr (Or.inl ⟨rfl, fun z => d ?_, c⟩)
            have z4 := z.2.2.2
            unfold gE at z4
            rw [Bool.and_eq_true] at z4
            rw [kj.2.2.2.1]
            exact (rVal h hi kj.1 li).1.mpr z4.2
        · rw [if_pos (by rw [(rCh h ha hb hj).2 lj]; exact m1_i)]
          exact Or.inr (Or.inl ⟨rfl, fun z => lj z.2.2.1, c⟩)
      · rw [if_pos (by rw [(rCh h ha hb hi).2 li]; exact m1_i)]
        exact Or.inr (Or.inl ⟨rfl, fun z => li z.2.1, c⟩)
  have nf : ¬ fiN (-1000000000) := fun z => z (Int32.le_refl _)
  refine ⟨fun i j hi hj => ?_, fun i hi => ?_, fun i j hi hj he => ?_, fun i j hi hj hf => ?_, fun i j hi hj hf => ?_, fun c i j hc => by omega⟩
  · rw [fr1_in hi hj]
    rcases key i j hi hj with ⟨k, -⟩ | ⟨k, -⟩ | ⟨-, k1, k2, -⟩
    · rw [k]; exact Or.inr (by decide)
    · exact Or.inl k
    · exact Or.inr ⟨k1, k2⟩
  · rw [fr1_in hi hi]
    rcases key i i hi hi with ⟨k, -⟩ | ⟨-, -, k⟩ | ⟨-, -, -, -, k⟩
    · rw [k]; decide
    · exact absurd rfl k
    · exact absurd rfl k
  · rw [fr1_in hi hj]
    rcases key i j hi hj with ⟨-, k⟩ | ⟨-, k, -⟩ | ⟨k, k1, k2, -⟩
    · exact absurd k he.1
    · exact absurd he k
    · exact ⟨fiN_i.mpr (by omega), by omega⟩
  · rw [fr1_in hi hj] at hf ⊢
    rcases key i j hi hj with ⟨k, k2⟩ | ⟨k, -⟩ | ⟨k, -, -, k3, -⟩
    · subst k2
      rw [k, Int32.toInt_zero]
      exact ⟨by omega, by omega⟩
    · rw [k] at hf; exact absurd hf nf
    · obtain ⟨c, li, lj, g⟩ := k3
      dsimp only
      rw [k, if_pos li, if_pos lj, if_pos lj, if_pos li]
      have p2 := ((rCh h ha hb hi).1 li).2.1
      have q2 := ((rCh h ha hb hj).1 lj).2.1
      exact ⟨sl.2 _ _ p2 q2 g, sh.2 _ _ q2 p2 g⟩
  · rw [fr1_in hi hj] at hf
    rcases key i j hi hj with ⟨k, k2⟩ | ⟨k, -⟩ | ⟨-, -, -, k3, -⟩
    · exact Or.inl k2
    · rw [k] at hf; exact absurd hf nf
    · exact Or.inr ⟨k3.2.1, k3.2.2.1⟩
/-- the law's extremes are the class's -/
theorem rEx (h : rDs σ s0 N M K) (ha : dC s0 = some a) (hb : rBt σ s0 N) {p : Nat} (hp : p < N) : exRow σ 0 N p = mLo s0 p ∧ exRow σ 1 N p = mHi s0 p := by
  obtain ⟨e1, e2, e3, e4, e5⟩ := rDs_lv h
  have hN := h.1.1.1.2
  have hM := h.1.1.2.2
  have I := fwI_K hN (by decide) (by decide) (rFW h ha hb) N (Nat.le_refl _)
  have hB : (1199880 : Int) * 2 ^ N ≤ 100000000 := by
    have : N = 0 ∨ N = 1 ∨ N = 2 ∨ N = 3 ∨ N = 4 ∨ N = 5 := by omega
    rcases this with rfl | rfl | rfl | rfl | rfl | rfl <;> decide
  obtain ⟨F, eF⟩ : ∃ F, F = exF σ N := ⟨_, rfl⟩
  have I : fwI N F (rE s0 N a.2.2) (rw9 s0 N a.2.2) (fun p => xl s0 p = true) (fun p => if xl s0 p = true then gLo (dW (s0.1 323) N) a.2.2 (mLiv s0) (cn (xl s0) p) else 0) (fun p => if xl s0 p = true then gHi (dW (s0.1 323) N) a.2.2 (mLiv s0) (cn (xl s0) p) else 0) N (1199880 * 2 ^ N) := by
    rw [eF]; exact I
  have x0 : exRow σ 0 N p = exQ 0 F p N := by rw [eF]; exact if_pos hp
  have x1 : exRow σ 1 N p = exQ 1 F p N := by rw [eF]; exact if_pos hp
  have nnL : ∀ q, q < N → 0 ≤ (fun p => if xl s0 p = true then gLo (dW (s0.1 323) N) a.2.2 (mLiv s0) (cn (xl s0) p) else 0) q := fun q _ => by
    dsimp only
    split
    · exact wF_nn _ _ _ 5 _
    · exact Int.le_refl _
  have nnH : ∀ q, q < N → 0 ≤ (fun p => if xl s0 p = true then gHi (dW (s0.1 323) N) a.2.2 (mLiv s0) (cn (xl s0) p) else 0) q := fun q _ => by
    dsimp only
    split
    · exact wF_nn _ _ _ 5 _
    · exact Int.le_refl _
  have pl : ∀ i, i < mLiv s0 → xl s0 (qpl (xl s0) N i) = true ∧ qpl (xl s0) N i < N ∧ cn (xl s0) (qpl (xl s0) N i) = i := fun i hi => qpl_is (by rw [← e3]; exact hi)
  have ed : ∀ i j, i < mLiv s0 → j < mLiv s0 → gE (dW (s0.1 323) N) a.2.2 i j = true → rE s0 N a.2.2 (qpl (xl s0) N i) (qpl (xl s0) N j) ∧ rw9 s0 N a.2.2 (qpl (xl s0) N i) (qpl (xl s0) N j) = gG (dW (s0.1 323) N) a.2.2 i j := fun i j hi hj g => by
    obtain ⟨i1, i2, i3⟩ := pl i hi
    obtain ⟨j1, j2, j3⟩ := pl j hj
    refine ⟨⟨fun z => ?_, i1, j1, by rw [i3, j3]; exact g⟩, by unfold rw9; rw [i3, j3]⟩
    have e : i = j := by rw [← i3, ← j3, z]
    unfold gE at g
    rw [Bool.and_eq_true, decide_eq_true_eq] at g
    exact g.1 e
  have z0 : ∀ i, i < N → F i i = 0 := fun i hi => fwI_0 I hB hi
  rw [x0, x1]
  unfold mLo mHi
  rw [e4, xv_mA ha]
  by_cases l : xl s0 p = true
  · have l' : dL (s0.1 323) p = true := l
    rw [if_pos l', if_pos l']
    have hc : cn (xl s0) p < mLiv s0 := by rw [e3]; exact cn_lt l hp
    have hqp : qpl (xl s0) N (cn (xl s0) p) = p := qpl_cn l hp
    obtain ⟨lo1, lo2, -, -⟩ := fw_lo I nnL hp
    obtain ⟨hi1, hi2, -, -⟩ := fw_hi I nnH hp
    rw [if_pos l] at lo2 hi2
    have s1 : gLo (dW (s0.1 323) N) a.2.2 (mLiv s0) (cn (xl s0) p) ≤ (exQ 0 F (qpl (xl s0) N (cn (xl s0) p)) N).toInt := wF_le (x := fun i => (exQ 0 F (qpl (xl s0) N i) N).toInt) ⟨fun i hi => (fw_lo I nnL (pl i hi).2.1).1, fun i j hi hj g => by
      obtain ⟨d1, d2⟩ := ed i j hi hj g
      have := (fw_lo I nnL (pl i hi).2.1).2.2.2 _ (pl j hj).2.1 d1
      rw [d2] at this
      exact this⟩ 5 _ hc
    have s2 : gHi (dW (s0.1 323) N) a.2.2 (mLiv s0) (cn (xl s0) p) ≤ -(exQ 1 F (qpl (xl s0) N (cn (xl s0) p)) N).toInt := wF_le (x := fun i => -(exQ 1 F (qpl (xl s0) N i) N).toInt) ⟨fun i hi => by
      have := (fw_hi I nnH (pl i hi).2.1).1
      dsimp only
      omega, fun i j hi hj g => by
      obtain ⟨d1, d2⟩ := ed j i hj hi g
      have := (fw_hi I nnH (pl i hi).2.1).2.2.2 _ (pl j hj).2.1 d1
      rw [d2] at this
      exact this⟩ 5 _ hc
    rw [hqp] at s1 s2
    refine ⟨?_, ?_⟩
    · rw [← iI_of (exQ 0 F p N)]
      exact congrArg iI (Int.le_antisymm lo2 s1)
    · rw [← iI_of (exQ 1 F p N)]
      have e : (exQ 1 F p N).toInt = -gHi (dW (s0.1 323) N) a.2.2 (mLiv s0) (cn (xl s0) p) := by omega
      exact congrArg iI e
  · have l' : ¬ dL (s0.1 323) p = true := l
    rw [if_neg l', if_neg l']
    have a0 := (fw_lo I nnL hp).2.2.1 l (z0 p hp)
    have a1 := (fw_hi I nnH hp).2.2.1 l (z0 p hp)
    refine ⟨Int32.toInt_inj.mp (by rw [a0]; rfl), Int32.toInt_inj.mp (by rw [a1]; rfl)⟩
end RE
