/-! the reference: payments -/
theorem iI_tdiv {x y : Int} (hx : iB x) (hy : 0 < y ∧ y < 2147483648) : iI x / iI y = iI (x.tdiv y) := by
  have e1 : (iI x / iI y).toInt = x.tdiv y := by
    rw [Int32.toInt_div_of_ne_right _ _ (fun z => ?_), iI_toInt hx, iI_toInt ⟨by omega, hy.2⟩]
    have h := congrArg Int32.toInt z
    rw [iI_toInt ⟨by omega, hy.2⟩] at h
    have : (-1 : Int32).toInt = -1 := by decide
    omega
  rw [← e1, iI_of]
theorem tdiv_bd (x : Int) {y : Int} (hy : 0 < y) : (0 ≤ x → 0 ≤ x.tdiv y ∧ x.tdiv y ≤ x) ∧ (x ≤ 0 → x ≤ x.tdiv y ∧ x.tdiv y ≤ 0) := by
  have pos : ∀ z : Int, 0 ≤ z → 0 ≤ z.tdiv y ∧ z.tdiv y ≤ z := fun z hz => by
    rw [Int.tdiv_eq_ediv_of_nonneg hz]
    exact ⟨Int.ediv_nonneg hz (by omega), Int.ediv_le_self y hz⟩
  refine ⟨pos x, fun h => ?_⟩
  have h2 := pos (-x) (by omega)
  rw [Int.neg_tdiv] at h2
  omega
theorem tdiv_120 (x : Int) : (0 ≤ x → x.tdiv 120 = x / 120) ∧ (x ≤ 0 → x.tdiv 120 = - ((-x) / 120)) := by
  refine ⟨fun h => Int.tdiv_eq_ediv_of_nonneg h, fun h => ?_⟩
  have h2 := Int.tdiv_eq_ediv_of_nonneg (a := -x) (b := 120) (by omega)
  rw [Int.neg_tdiv] at h2
  omega
/-- what else holds of a row of numbers -/
def dI (f : Nat → Int32) : Prop := dOK f ∧ (∀ p, p < 10 → 0 ≤ f (8 + 20 * p + 1) ∧ f (8 + 20 * p + 1) ≤ 99999) ∧ (0 ≤ f 3 ∧ f 3 ≤ 99999) ∧ (0 ≤ f 4 ∧ f 4 ≤ 99999) ∧ (0 ≤ f 1 ∧ f 1 ≤ 100)
/-- the prices of the places, as whole numbers -/
def bI (σ : jM) (i : Nat) : Int := if σ.1 323 0 = 0 then gLo (dW (σ.1 323) (mN σ)) (mA σ) (mLiv σ) i else if σ.1 323 0 = 1 then - gHi (dW (σ.1 323) (mN σ)) (mA σ) (mLiv σ) i else (gLo (dW (σ.1 323) (mN σ)) (mA σ) (mLiv σ) i + - gHi (dW (σ.1 323) (mN σ)) (mA σ) (mLiv σ) i).tdiv 2
def ppN (σ : jM) (sh : Nat) : Nat := (σ.1 323 3).toNatClampNeg - (σ.1 323 3).toNatClampNeg * sh / 100
def ipN (σ : jM) (sh : Nat) : Nat := (σ.1 323 3).toNatClampNeg * sh / 100
def moI (σ : jM) (sh : Nat) : Int := (120 * (ppN σ sh : Int) - sI (bI σ) (mLiv σ)).tdiv (mLiv σ)
def prI (σ : jM) (sh : Nat) (i : Nat) : Int := bI σ i + moI σ sh
def lfI (σ : jM) (sh : Nat) : Int := (ppN σ sh : Int) - sI (fun i => prI σ sh i / 120) (mLiv σ)
theorem sI_bd {f : Nat → Int} {B : Int} : ∀ n, (∀ i, i < n → - B ≤ f i ∧ f i ≤ B) → - (B * n) ≤ sI f n ∧ sI f n ≤ B * n
  | 0, _ => by simp [sI]
  | n + 1, h => by
    have i1 := sI_bd n (fun i hi => h i (by omega))
    have i2 := h n (by omega)
    have e : B * ((n + 1 : Nat) : Int) = B * n + B := by rw [Int.natCast_add, Int.mul_add]; simp
    rw [e]
    simp only [sI]
    omega
theorem sI_add (f h : Nat → Int) : ∀ n, sI (fun i => f i + h i) n = sI f n + sI h n
  | 0 => rfl
  | n + 1 => by simp only [sI]; rw [sI_add f h n]; omega
theorem sI_const (c : Int) : ∀ n : Nat, sI (fun _ => c) n = c * n
  | 0 => by simp [sI]
  | n + 1 => by
    simp only [sI]
    rw [sI_const c n, Int.natCast_add, Int.mul_add]
    simp
theorem sI_mul (c : Int) (f : Nat → Int) : ∀ n, sI (fun i => c * f i) n = c * sI f n
  | 0 => by simp [sI]
  | n + 1 => by simp only [sI]; rw [sI_mul c f n, Int.mul_add]
theorem sm_iI (f : Nat → Int) : ∀ n, sm (fun i => iI (f i)) n = iI (sI f n)
  | 0 => rfl
  | n + 1 => by simp only [sm, sI]; rw [sm_iI f n, iI_add]
theorem bI_bd {σ : jM} {a : Nat × Nat × (Nat → Nat)} (hc : hC σ a) {i : Nat} (hi : i < mLiv σ) : (-6000000 ≤ bI σ i ∧ bI σ i ≤ 6000000) ∧ iB (gLo (dW (σ.1 323) (mN σ)) (mA σ) (mLiv σ) i) ∧ iB (- gHi (dW (σ.1 323) (mN σ)) (mA σ) (mLiv σ) i) ∧ iB (gLo (dW (σ.1 323) (mN σ)) (mA σ) (mLiv σ) i + - gHi (dW (σ.1 323) (mN σ)) (mA σ) (mLiv σ) i) := by
  have all := hC_all hc
  have eA : mA σ = a.2.2 := by rw [mA, hc.2.2.1]
  obtain ⟨hN10, hN4⟩ := mN_le hc.1
  have hR := (mRo_le hc.1).1
  have l1 := gLo_bd (R := mRo σ) (fun i r v hr => dW_le hc.2.1 hN10 i r v (by omega)) (fun j hj => (all.1 j hj).1) hi
  have l2 := all.2.2.2.1.1 i hi
  have l3 := all.2.2.2.2.1 i hi
  rw [← eA] at l1 l2 l3
  refine ⟨?_, ⟨by omega, by omega⟩, ⟨by omega, by omega⟩, ⟨by omega, by omega⟩⟩
  have h2 := tdiv_bd (gLo (dW (σ.1 323) (mN σ)) (mA σ) (mLiv σ) i + - gHi (dW (σ.1 323) (mN σ)) (mA σ) (mLiv σ) i) (y := 2) (by decide)
  unfold bI
  split
  · omega
  · split
    · omega
    · by_cases h : 0 ≤ gLo (dW (σ.1 323) (mN σ)) (mA σ) (mLiv σ) i + - gHi (dW (σ.1 323) (mN σ)) (mA σ) (mLiv σ) i
      · have := h2.1 h; omega
      · have := h2.2 (by omega); omega
theorem mBs_eq {σ : jM} {a : Nat × Nat × (Nat → Nat)} (hc : hC σ a) {p : Nat} (hp : p < mN σ) : mBs σ p = if xl σ p = true then iI (bI σ (cn (xl σ) p)) else 0 := by
  unfold mBs bI
  by_cases hl : xl σ p = true
  · have hl' : dL (σ.1 323) p = true := hl
    obtain ⟨b1, b2, b3, b4⟩ := bI_bd hc (cn_lt hl hp : cn (xl σ) p < mLiv σ)
    rw [if_pos hl, if_pos hl]
    by_cases h0 : σ.1 323 0 = 0
    · rw [if_pos h0, if_pos h0, mLo, if_pos hl']
    · rw [if_neg h0, if_neg h0]
      by_cases h1 : σ.1 323 0 = 1
      · rw [if_pos h1, if_pos h1, mHi, if_pos hl']
      · rw [if_neg h1, if_neg h1, mLo, mHi, if_pos hl', if_pos hl', iI_add]
        exact iI_tdiv (y := 2) b4 (by decide)
  · rw [if_neg hl, if_neg hl]
theorem ip_le {σ : jM} (hd : dI (σ.1 323)) {sh : Nat} (hs : sh ≤ 100) : ∃ L, L ≤ 99999 ∧ σ.1 323 3 = nI L ∧ (σ.1 323 3).toNatClampNeg = L ∧ L * sh / 100 ≤ L ∧ mIp σ (nI sh) = nI (ipN σ sh) ∧ σ.1 323 3 - mIp σ (nI sh) = nI (ppN σ sh) ∧ ppN σ sh = L - L * sh / 100 ∧ ipN σ sh = L * sh / 100 := by
  obtain ⟨L, h1, h2, h3⟩ := nI_rng hd.2.2.1.1 hd.2.2.1.2 (by decide)
  have h4 : L * sh ≤ L * 100 := Nat.mul_le_mul_left L hs
  have h5 : L * sh / 100 ≤ L := by omega
  have e1 : mIp σ (nI sh) = nI (L * sh / 100) := by
    unfold mIp
    rw [h2, pk_mul]
    exact pk_div (d := 100) (by omega) (by decide) (by decide)
  refine ⟨L, h1, h2, h3, h5, ?_, ?_, ?_, ?_⟩
  · rw [e1, ipN, h3]
  · rw [e1, h2, pk_sub h5, ppN, h3]
  · rw [ppN, h3]
  · rw [ipN, h3]
theorem sm_liv {σ : jM} {f : Nat → Int32} {h : Nat → Int32} (e : ∀ p, p < mN σ → f p = if xl σ p = true then h (cn (xl σ) p) else 0) : sm f (mN σ) = sm h (mLiv σ) := by
  rw [sm_congr (mN σ) e, sm_cn]
  rfl
theorem mPr_eq {σ : jM} {a : Nat × Nat × (Nat → Nat)} (hc : hC σ a) (hd : dI (σ.1 323)) {sh : Nat} (hs : sh ≤ 100) : (∀ i, i < mLiv σ → -60000000 ≤ prI σ sh i ∧ prI σ sh i ≤ 60000000) ∧ (∀ p, p < mN σ → mPr σ (nI sh) p = if xl σ p = true then iI (prI σ sh (cn (xl σ) p)) else 0) ∧ 0 ≤ lfI σ sh ∧ lfI σ sh < mLiv σ := by
  obtain ⟨L, h1, h2, h3, h4, h5, h6, h7, h8⟩ := ip_le hd hs
  have hm0 := (hC_q hc.2.2.1).2
  have all := hC_all hc
  have hR := (mRo_le hc.1).1
  have hS := sI_bd (f := bI σ) (B := 6000000) (mLiv σ) (fun i hi => (bI_bd hc hi).1)
  have hpp : (ppN σ sh : Int) ≤ 99999 := by omega
  have hm6 : mLiv σ ≤ 6 := by omega
  have hmI : (0 : Int) < (mLiv σ : Int) := by omega
  have t1 := tdiv_bd (120 * (ppN σ sh : Int) - sI (bI σ) (mLiv σ)) hmI
  have hSb : -36000000 ≤ sI (bI σ) (mLiv σ) ∧ sI (bI σ) (mLiv σ) ≤ 36000000 := by omega
  have hmo : -50000000 ≤ moI σ sh ∧ moI σ sh ≤ 50000000 := by
    unfold moI
    by_cases h : 0 ≤ 120 * (ppN σ sh : Int) - sI (bI σ) (mLiv σ)
    · have := t1.1 h; omega
    · have := t1.2 (by omega); omega
  have hpr : ∀ i, i < mLiv σ → -60000000 ≤ prI σ sh i ∧ prI σ sh i ≤ 60000000 := fun i hi => by
    have := (bI_bd hc hi).1
    unfold prI
    omega
  have eMo : mMo σ (nI sh) = iI (moI σ sh) := by
    unfold mMo moI
    rw [h6, sm_liv (h := fun i => iI (bI σ i)) (fun p hp => mBs_eq hc hp), sm_iI]
    have e1 : (120 : Int32) * nI (ppN σ sh) = iI (120 * (ppN σ sh : Int)) := iI_mul 120 (ppN σ sh : Int)
    have e2 := iI_tdiv (x := 120 * (ppN σ sh : Int) - sI (bI σ) (mLiv σ)) (y := (mLiv σ : Int)) ⟨by omega, by omega⟩ ⟨hmI, by omega⟩
    rw [iI_nat] at e2
    rw [e1, iI_sub, e2]
  refine ⟨hpr, fun p hp => ?_, ?_⟩
  · unfold mPr
    rw [eMo, mBs_eq hc hp]
    by_cases hl : xl σ p = true
    · rw [if_pos hl, if_pos hl, if_pos hl, iI_add]
      rfl
    · rw [if_neg hl, if_neg hl]
  · have s1 : sI (fun i => prI σ sh i) (mLiv σ) = sI (bI σ) (mLiv σ) + moI σ sh * (mLiv σ : Int) := by
      have : (fun i => prI σ sh i) = fun i => bI σ i + moI σ sh := rfl
      rw [this, sI_add (bI σ) (fun _ => moI σ sh), sI_const]
    have s2 : sI (fun i => prI σ sh i) (mLiv σ) = 120 * sI (fun i => prI σ sh i / 120) (mLiv σ) + sI (fun i => prI σ sh i % 120) (mLiv σ) := by
      rw [← sI_mul, ← sI_add]
      exact sI_congr _ (fun j _ => by omega)
    have s3 := sI_bd (f := fun i => prI σ sh i % 120) (B := 119) (mLiv σ) (fun i _ => by omega)
    have s4 : 0 ≤ sI (fun i => prI σ sh i % 120) (mLiv σ) := by
      have aux : ∀ n, 0 ≤ sI (fun i => prI σ sh i % 120) n := by
        intro n
        induction n with
        | zero => exact Int.le_refl _
        | succ n ih => simp only [sI]; omega
      exact aux _
    have t2 : ∃ q : Int, moI σ sh * (mLiv σ : Int) = 120 * (ppN σ sh : Int) - sI (bI σ) (mLiv σ) - q ∧ q < (mLiv σ : Int) ∧ - (mLiv σ : Int) < q := by
      refine ⟨(120 * (ppN σ sh : Int) - sI (bI σ) (mLiv σ)).tmod (mLiv σ), ?_, ?_, ?_⟩
      · have := Int.mul_tdiv_add_tmod (120 * (ppN σ sh : Int) - sI (bI σ) (mLiv σ)) (mLiv σ : Int)
        unfold moI
        rw [Int.mul_comm]
        omega
      · exact Int.tmod_lt_of_pos _ hmI
      · have := Int.lt_tmod_of_pos (120 * (ppN σ sh : Int) - sI (bI σ) (mLiv σ)) hmI
        omega
    obtain ⟨q, q1, q2, q3⟩ := t2
    unfold lfI
    omega
/-- the units of the places -/
def unS (σ : jM) (sh : Nat) : Nat → Int32 := hoS (mLiv σ) (lfI σ sh).toNat (fun i => prI σ sh i % 120) (fun i => iI (prI σ sh i / 120))
/-- the incomes of the places -/
def icN (σ : jM) (i : Nat) : Nat := (mD σ (xp σ i) 1).toNatClampNeg
/-- shares and payments of the places -/
def shS (σ : jM) (sh : Nat) : Nat → Int32 := spS (ipN σ sh) (icN σ) (mLiv σ)
def paS (σ : jM) (sh : Nat) (i : Nat) : Int32 := unS σ sh i + shS σ sh i
