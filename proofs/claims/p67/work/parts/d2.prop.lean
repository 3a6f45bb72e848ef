/-! the proposal of the class's flat is that of the reference's row -/
theorem dC_bd {σ : jM} (hok : mOK σ) (hd : dOK (σ.1 323)) (hm : mLiv σ ≤ 6) {a : Nat × Nat × (Nat → Nat)} (ha : dC σ = some a) : a.1 ≤ 100000 ∧ a.2.1 ≤ 46656 := by
  obtain ⟨m0, -⟩ := dC_A ha
  unfold dC at ha
  rw [if_neg (by omega)] at ha
  obtain ⟨R, hR, eR, eR2⟩ := nI_rng hok.2.1.1 hok.2.1.2 (by decide)
  have hR6 : mRo σ ≤ 6 := by
    unfold mRo
    rw [eR2]
    exact hR
  have hW : ∀ i r v, (fun i r => if r < mRo σ then dW (σ.1 323) (mN σ) i r else none) i r = some v → v ≤ 9999 := fun i r v e => by
    dsimp only at e
    by_cases c : r < mRo σ
    · rw [if_pos c] at e
      unfold dW at e
      by_cases d : σ.1 323 (8 + 20 * qpl (dL (σ.1 323)) (mN σ) i + (13 + r)) = 1
      · rw [if_pos d] at e; cases e
      · rw [if_neg d] at e
        obtain ⟨N, hN, eN, eN2⟩ := nI_rng hok.1.1 hok.1.2 (by decide)
        have hN10 : mN σ ≤ 10 := by
          unfold mN
          rw [eN2]
          exact hN
        have q10 : qpl (dL (σ.1 323)) (mN σ) i < 10 := by
          rcases qpl_lt (dL (σ.1 323)) (mN σ) i with q | q <;> omega
        have v9 := hd _ q10 r (by omega)
        obtain ⟨k, k1, k2, k3⟩ := nI_rng v9.1 v9.2 (by decide)
        have e := Option.some.inj e
        rw [k3] at e
        omega
    · rw [if_neg c] at e; cases e
  have e := qT_cg (V := fun i r => if r < mRo σ then dW (σ.1 323) (mN σ) i r else none) (W := dW (σ.1 323) (mN σ)) (R := mRo σ) (mLiv σ) 0 0 (fun j r _ _ hr => (if_pos hr).symm)
  rw [e] at ha
  have b := qT_bd hR6 hW _ _ _ _ ha
  have h1 : 9999 * mLiv σ ≤ 9999 * 6 := Nat.mul_le_mul_left _ hm
  have h2 : 6 ^ mLiv σ ≤ 6 ^ 6 := Nat.pow_le_pow_right (by decide) hm
  omega
/-- a state where the choice is laid -/
def acS (σ : jM) (acc : qC) : jM := (fun i j => if i = 322 ∧ j = 14 then qs acc else if i = 322 ∧ j = 15 then qc acc else if i = 330 then qch acc (dL (σ.1 323)) (mN σ) j else σ.1 i j, σ.2)
theorem acS_sR (σ : jM) (acc : qC) : sR σ (acS σ acc) := ⟨rfl, rfl, rfl⟩
theorem xv_dI {σ : jM} {R N K : Nat} (h : xRk σ R N K) : dI (σ.1 323) := h.2.1.2.1.1
theorem xv_hC {σ : jM} {R N K : Nat} (h : xRk σ R N K) {a : Nat × Nat × (Nat → Nat)} (ha : dC σ = some a) : hC (acS σ (some a)) a := by
  obtain ⟨-, -, -, -, -, m6, -⟩ := xv_n h
  obtain ⟨-, -, -, l4, -⟩ := xv_liv h
  have r6 := h.1.1.1
  refine ⟨m6, (xv_dI h).1, (sR_C (acS_sR σ (some a))).trans ha, rfl, rfl, fun q _ => rfl, fun b hb => ?_⟩
  cases hb
  exact (dC_bd m6 (xv_dI h).1 (by omega) ha).1
theorem xv_mPr {σ : jM} {R N K : Nat} (h : xRk σ R N K) {a : Nat × Nat × (Nat → Nat)} (ha : dC σ = some a) {s : Nat} (hs : s ≤ 100) : (∀ i, i < mLiv σ → -60000000 ≤ prI σ s i ∧ prI σ s i ≤ 60000000) ∧ (∀ p, p < mN σ → mPr σ (nI s) p = if xl σ p = true then iI (prI σ s (cn (xl σ) p)) else 0) ∧ 0 ≤ lfI σ s ∧ lfI σ s < mLiv σ := by
  have sr := acS_sR σ (some a)
  have hd := xv_dI h
  have k := mPr_eq (xv_hC h ha) hd hs
  rw [sR_pr sr, sR_Lv sr, sR_N sr, sR_Pr sr, sR_l sr, sR_lf sr] at k
  exact k
theorem xv_mA {σ : jM} {a : Nat × Nat × (Nat → Nat)} (ha : dC σ = some a) : mA σ = a.2.2 := by
  unfold mA
  rw [ha]
theorem xv_S {σ : jM} {R N K : Nat} (h : xRk σ R N K) : flS σ = shN σ ∧ shN σ ≤ 100 ∧ σ.1 38 0 = σ.1 323 0 ∧ flL σ = (σ.1 323 3).toNatClampNeg := by
  obtain ⟨⟨-, -, a2, -⟩, b, -⟩ := fl37 h.2.1.1
  obtain ⟨-, -, -, -, d5⟩ := xv_dI h
  obtain ⟨k, k1, k2, k3⟩ := nI_rng d5.1 d5.2 (by decide)
  refine ⟨by unfold flS shN; rw [b 1 (by omega)], ?_, b 0 (by omega), by unfold flL; rw [a2]⟩
  unfold shN
  rw [k3]
  exact k1
theorem xv_Bs {σ : jM} {R N K : Nat} (h : xRk σ R N K) {a : Nat × Nat × (Nat → Nat)} (ha : dC σ = some a) {i : Nat} (hi : i < mLiv σ) : flBs σ a.2.2 i = bI σ i := by
  obtain ⟨e1, e2⟩ := xv_ex h ha hi
  unfold flBs bI bsI
  rw [(xv_S h).2.2.1, e1, e2, xv_mA ha, Int.sub_eq_add_neg]
theorem xv_Pr {σ : jM} {R N K : Nat} (h : xRk σ R N K) {a : Nat × Nat × (Nat → Nat)} (ha : dC σ = some a) (s : Nat) {i : Nat} (hi : i < mLiv σ) : flPr σ a.2.2 s i = prI σ s i := by
  have l3 := (xv_liv h).2.2.1
  unfold flPr
  rw [l3, prC_cg (fun j hj => xv_Bs h ha hj) hi]
  unfold flPp
  rw [(xv_S h).2.2.2]
  rfl
theorem xv_I {σ : jM} {R N K : Nat} (h : xRk σ R N K) {i : Nat} (hi : i < mLiv σ) : flI σ i = mD σ (xp σ i) 1 ∧ xp σ i < N ∧ xl σ (xp σ i) = true ∧ cn (xl σ) (xp σ i) = i ∧ qpl (liv σ) (fN σ) i = xp σ i := by
  obtain ⟨n1, -, n3, -⟩ := xv_n h
  obtain ⟨-, -, -, -, l5⟩ := xv_liv h
  have hm : mLiv σ = cn (xl σ) N := by
    unfold mLiv
    rw [n3]
    rfl
  have q := qpl_is (p := xl σ) (N := N) (i := i) (by omega)
  have e : qpl (liv σ) (fN σ) i = xp σ i := by
    unfold xp
    rw [n1, n3, l5]
  have e2 : xp σ i = qpl (xl σ) N i := by
    unfold xp
    rw [n3]
  refine ⟨?_, ?_, ?_, ?_, e⟩
  · unfold flI
    rw [e, e2]
    exact ((fl37 h.2.1.1).2.2.2 _ q.2.1).1
  · rw [e2]; exact q.2.1
  · rw [e2]; exact q.1
  · rw [e2]; exact q.2.2
theorem xv_Sh {σ : jM} {R N K : Nat} (h : xRk σ R N K) (s : Nat) {i : Nat} (hi : i < mLiv σ) : flSh σ s i = shS σ s i := by
  have l3 := (xv_liv h).2.2.1
  unfold flSh shS
  rw [l3, spS_congr (w' := icN σ) (fun j hj => by rw [(xv_I h hj).1]; rfl) i hi]
  unfold ipN iPt
  rw [(xv_S h).2.2.2]
theorem xv_Py {σ : jM} {R N K : Nat} (h : xRk σ R N K) {a : Nat × Nat × (Nat → Nat)} (ha : dC σ = some a) (s : Nat) {i : Nat} (hi : i < mLiv σ) : flPy σ a.2.2 s i = paS σ s i := by
  have l3 := (xv_liv h).2.2.1
  unfold flPy paS
  rw [xv_Sh h s hi, l3, tuS_congr (fun j hj => xv_Pr h ha s hj) i hi]
  unfold flPp
  rw [(xv_S h).2.2.2]
  rfl
/-- a living person's room in the choice -/
theorem xv_Rm {σ : jM} {R N K : Nat} (h : xRk σ R N K) {p : Nat} (hp : p < N) : clR σ p = mCh σ p := by
  obtain ⟨n1, -, n3, -⟩ := xv_n h
  obtain ⟨l1, l2, -⟩ := xv_liv h
  unfold clR mCh qch
  rw [xv_C h, n1, n3, l1 p hp, l2 p (by omega)]
theorem xv_Yp {σ : jM} {R N K : Nat} (h : xRk σ R N K) {p : Nat} (hp : p < N) {a : Nat × Nat × (Nat → Nat)} (ha : dC σ = some a) : clY σ p = mPy σ p := by
  obtain ⟨n1, -, n3, -⟩ := xv_n h
  obtain ⟨l1, l2, -⟩ := xv_liv h
  unfold clY mPy
  rw [xv_C h, ha, l1 p hp, l2 p (by omega)]
  dsimp only
  by_cases c : xl σ p = true
  · rw [if_pos c, if_pos c, (xv_S h).1]
    refine xv_Py h ha _ ?_
    have hm : mLiv σ = cn (xl σ) N := by
      unfold mLiv
      rw [n3]
      rfl
    rw [hm]
    exact cn_lt c hp
  · rw [if_neg c, if_neg c]
