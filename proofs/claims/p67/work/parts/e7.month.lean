/-! a month: what doesn't hang on month, arrears and plans done -/
def sE (σ τ : jM) : Prop := (∀ j, j < 5 ∨ 8 ≤ j → τ.1 323 j = σ.1 323 j) ∧ τ.1 322 3 = σ.1 322 3 ∧ τ.1 322 4 = σ.1 322 4
theorem sE_l {σ τ : jM} (s : sE σ τ) : xl τ = xl σ := by
  funext p
  unfold xl dL
  rw [s.1 _ (by omega)]
theorem sE_N {σ τ : jM} (s : sE σ τ) : mN τ = mN σ := by unfold mN; rw [s.2.2]
theorem sE_Ro {σ τ : jM} (s : sE σ τ) : mRo τ = mRo σ := by unfold mRo; rw [s.2.1]
theorem sE_Lv {σ τ : jM} (s : sE σ τ) : mLiv τ = mLiv σ := by
  show cn (xl τ) (mN τ) = cn (xl σ) (mN σ)
  rw [sE_l s, sE_N s]
theorem sE_p {σ τ : jM} (s : sE σ τ) : xp τ = xp σ := by funext i; unfold xp; rw [sE_N s, sE_l s]
theorem sE_D {σ τ : jM} (s : sE σ τ) (p w : Nat) : mD τ p w = mD σ p w := s.1 _ (by omega)
theorem sE_W {σ τ : jM} (s : sE σ τ) : dW (τ.1 323) = dW (σ.1 323) := by
  have l : dL (τ.1 323) = dL (σ.1 323) := sE_l s
  funext N i r
  unfold dW
  rw [l, s.1 _ (by omega), s.1 _ (by omega)]
theorem sE_C {σ τ : jM} (s : sE σ τ) : dC τ = dC σ := by unfold dC; rw [sE_Lv s, sE_W s, sE_N s, sE_Ro s]
theorem sE_A {σ τ : jM} (s : sE σ τ) : mA τ = mA σ := by unfold mA; rw [sE_C s]
theorem sE_bI {σ τ : jM} (s : sE σ τ) : bI τ = bI σ := by funext i; unfold bI; rw [s.1 0 (by omega), sE_W s, sE_N s, sE_A s, sE_Lv s]
theorem sE_pp {σ τ : jM} (s : sE σ τ) (n : Nat) : ppN τ n = ppN σ n := by unfold ppN; rw [s.1 3 (by omega)]
theorem sE_ip {σ τ : jM} (s : sE σ τ) (n : Nat) : ipN τ n = ipN σ n := by unfold ipN; rw [s.1 3 (by omega)]
theorem sE_pr {σ τ : jM} (s : sE σ τ) (n : Nat) : prI τ n = prI σ n := by
  have e : moI τ n = moI σ n := by unfold moI; rw [sE_pp s, sE_bI s, sE_Lv s]
  funext i; unfold prI; rw [sE_bI s, e]
theorem sE_pa {σ τ : jM} (s : sE σ τ) (n : Nat) : paS τ n = paS σ n := by
  have e1 : lfI τ n = lfI σ n := by unfold lfI; rw [sE_pp s, sE_pr s, sE_Lv s]
  have e2 : unS τ n = unS σ n := by unfold unS; rw [e1, sE_pr s, sE_Lv s]
  have e3 : icN τ = icN σ := by funext i; unfold icN; rw [sE_p s, sE_D s]
  have e4 : shS τ n = shS σ n := by unfold shS; rw [sE_ip s, e3, sE_Lv s]
  funext i; unfold paS; rw [e2, e4]
theorem sE_sN {σ τ : jM} (s : sE σ τ) : shN τ = shN σ := by unfold shN; rw [s.1 1 (by omega)]
theorem sE_Ch {σ τ : jM} (s : sE σ τ) : mCh τ = mCh σ ∧ mPy τ = mPy σ := by
  refine ⟨?_, ?_⟩
  · funext p; unfold mCh; rw [sE_C s, sE_l s, sE_N s]
  · funext p; unfold mPy; rw [sE_l s, sE_pa s, sE_sN s]
/-- the last that fits -/
def lst (P : Nat → Prop) [DecidablePred P] (v : Nat → Int32) (z : Int32) : Nat → Int32
  | 0 => z
  | n + 1 => if P n then v n else lst P v z n
theorem lst_is {P : Nat → Prop} [DecidablePred P] {v : Nat → Int32} {z : Int32} : ∀ n, (∃ k, k < n ∧ P k ∧ (∀ q, k < q → q < n → ¬ P q) ∧ lst P v z n = v k) ∨ ((∀ q, q < n → ¬ P q) ∧ lst P v z n = z)
  | 0 => Or.inr ⟨fun q h => by omega, rfl⟩
  | n + 1 => by
    simp only [lst]
    by_cases c : P n
    · rw [if_pos c]
      exact Or.inl ⟨n, by omega, c, fun q h1 h2 => by omega, rfl⟩
    · rw [if_neg c]
      rcases lst_is (P := P) (v := v) (z := z) n with ⟨k, k1, k2, k3, k4⟩ | ⟨k1, k2⟩
      · refine Or.inl ⟨k, by omega, k2, fun q h1 h2 => ?_, k4⟩
        by_cases e : q = n
        · rw [e]; exact c
        · exact k3 q h1 (by omega)
      · refine Or.inr ⟨fun q h => ?_, k2⟩
        by_cases e : q = n
        · rw [e]; exact c
        · exact k1 q (by omega)
/-- the bit of a plan -/
abbrev bt (x : Int32) (k : Nat) : Prop := (x >>> (nI k &&& 31)) &&& 1 = 0
theorem bt_or (x : Int32) {k j : Nat} (hk : k < 31) (hj : j < 31) : bt (x ||| (1 <<< (nI k &&& 31))) j ↔ bt x j ∧ j ≠ k := by
  unfold bt
  rw [gb_1 _ hj, gb_1 _ hj, gb_2 _ hk hj]
  simp only [Bool.or_eq_false_iff, decide_eq_false_iff_not, ne_eq]
theorem ps1_at (σ : jM) (k : Nat) (f : Nat → Int32) (j : Nat) : ps1 σ k f j = if bt (f 7) k ∧ σ.1 328 k = f 5 then (if j = 7 then f 7 ||| (1 <<< (nI k &&& 31)) else if j = 8 + 20 * (σ.1 327 k).toNatClampNeg + 1 then σ.1 329 k else f j) else f j := by
  unfold ps1 bt
  by_cases c : (f 7 >>> (nI k &&& 31)) &&& 1 = 0 ∧ σ.1 328 k = f 5
  · rw [if_pos c, if_pos c]
  · rw [if_neg c, if_neg c]
theorem psX_o (σ : jM) (f : Nat → Int32) {j : Nat} (h7 : j ≠ 7) (hj : ∀ p, j ≠ 8 + 20 * p + 1) : ∀ k, psI σ f k j = f j
  | 0 => rfl
  | k + 1 => by
    show ps1 σ k (psI σ f k) j = _
    rw [ps1_at, if_neg h7, if_neg (hj _)]
    split <;> exact psX_o σ f h7 hj k
theorem psI_7 (σ : jM) (f : Nat → Int32) {i : Nat} (hi : i < 31) : ∀ k, k ≤ 31 → (bt (psI σ f k 7) i ↔ bt (f 7) i ∧ ¬ (i < k ∧ σ.1 328 i = f 5))
  | 0, _ => ⟨fun z => ⟨z, fun w => by omega⟩, fun z => z.1⟩
  | k + 1, hk => by
    have ih := psI_7 σ f hi k (by omega)
    have e5 := psX_o σ f (j := 5) (by omega) (by omega) k
    show bt (ps1 σ k (psI σ f k) 7) i ↔ _
    rw [ps1_at, if_pos rfl, e5]
    by_cases c : bt (psI σ f k 7) k ∧ σ.1 328 k = f 5
    · rw [if_pos c, bt_or _ (by omega) hi, ih]
      constructor
      · rintro ⟨⟨z1, z2⟩, z3⟩
        refine ⟨z1, fun w => ?_⟩
        exact z2 ⟨by omega, w.2⟩
      · rintro ⟨z1, z2⟩
        refine ⟨⟨z1, fun w => z2 ⟨by omega, w.2⟩⟩, fun e => z2 ⟨by omega, by rw [e]; exact c.2⟩⟩
    · rw [if_neg c, ih]
      constructor
      · rintro ⟨z1, z2⟩
        refine ⟨z1, fun w => ?_⟩
        by_cases e : i = k
        · subst e
          exact c ⟨ih.mpr ⟨z1, z2⟩, w.2⟩
        · exact z2 ⟨by omega, w.2⟩
      · rintro ⟨z1, z2⟩
        exact ⟨z1, fun w => z2 ⟨by omega, w.2⟩⟩
theorem psI_inc (σ : jM) (f : Nat → Int32) (p : Nat) : ∀ k, k ≤ 31 → psI σ f k (8 + 20 * p + 1) = @lst (fun i => (bt (f 7) i ∧ σ.1 328 i = f 5) ∧ (σ.1 327 i).toNatClampNeg = p) (fun _ => Classical.propDecidable _) (fun i => σ.1 329 i) (f (8 + 20 * p + 1)) k
  | 0, _ => rfl
  | k + 1, hk => by
    have ih := psI_inc σ f p k (by omega)
    have e5 := psX_o σ f (j := 5) (by omega) (by omega) k
    have e7 := psI_7 σ f (i := k) (by omega) k (by omega)
    have e7' : bt (psI σ f k 7) k ↔ bt (f 7) k := by
      rw [e7]
      exact ⟨fun z => z.1, fun z => ⟨z, fun w => by omega⟩⟩
    show ps1 σ k (psI σ f k) (8 + 20 * p + 1) = _
    simp only [lst]
    rw [ps1_at, if_neg (show ¬ 8 + 20 * p + 1 = 7 by omega), e5]
    by_cases c : bt (psI σ f k 7) k ∧ σ.1 328 k = f 5
    · have c' := (⟨e7'.mp c.1, c.2⟩ : bt (f 7) k ∧ σ.1 328 k = f 5)
      rw [if_pos c]
      by_cases d : (σ.1 327 k).toNatClampNeg = p
      · rw [if_pos (by rw [d]), if_pos ⟨c', d⟩]
      · rw [if_neg (by omega), if_neg (fun z => d z.2), ih]
    · have c' : ¬ (bt (f 7) k ∧ σ.1 328 k = f 5) := fun z => c ⟨e7'.mpr z.1, z.2⟩
      rw [if_neg c, if_neg (fun z => c' z.1), ih]
