/-! what the class reads of its flat is what the reference reads of its row -/
theorem fl37 {σ : jM} {f : Nat → Int32} {R N : Nat} (h : flR σ 37 f R N) : (σ.1 37 0 = nI R ∧ σ.1 37 1 = nI N ∧ σ.1 37 2 = f 3 ∧ σ.1 37 3 = f 4 ∧ σ.1 37 4 = f 6 ∧ σ.1 37 5 = f 5) ∧
  (∀ j, j < 3 → σ.1 38 j = f j) ∧
  (∀ p, p < 10 → σ.1 39 p = f (8 + 20 * p + 0) ∧ σ.1 52 p = f (8 + 20 * p + 2) ∧ σ.1 53 p = f (8 + 20 * p + 3) ∧ σ.1 54 p = f (8 + 20 * p + 4) ∧ σ.1 55 p = f (8 + 20 * p + 5) ∧ σ.1 56 p = f (8 + 20 * p + 6)) ∧
  (∀ p, p < N → σ.1 40 p = f (8 + 20 * p + 1) ∧ ∀ r, r < R → σ.1 (42 + p) r = wR f p r) := by
  obtain ⟨a, b, c, d⟩ := h
  refine ⟨a, b, c, fun p hp => ⟨(d p hp).1, fun r hr => ?_⟩⟩
  have := (d p hp).2 r hr
  rw [show 37 + (5 + p) = 42 + p by omega] at this
  exact this
theorem xv_n {σ : jM} {R N K : Nat} (h : xRk σ R N K) : fN σ = N ∧ fRm σ = R ∧ mN σ = N ∧ mRo σ = R ∧ mPl σ = K ∧ mOK σ ∧ fOK σ ∧ mH σ := by
  obtain ⟨⟨⟨r6, n10⟩, ⟨m3, m4⟩, -⟩, ⟨fl, -⟩, ⟨⟨-, p5, k20⟩, -⟩, ⟨h0, c0, ⟨-, c10⟩, ⟨-, -, h2⟩, -⟩, -⟩ := h
  obtain ⟨⟨a0, a1, -⟩, -⟩ := fl37 fl
  have z : ∀ k, k < 2147483648 → (0 : Int32) ≤ nI k := fun k hk => (NL_0.1 k hk).mpr (Nat.zero_le _)
  refine ⟨by unfold fN; rw [a1, nI_clamp (by omega)], by unfold fRm; rw [a0, nI_clamp (by omega)], by unfold mN; rw [m4, nI_clamp (by omega)], by unfold mRo; rw [m3, nI_clamp (by omega)], by unfold mPl; rw [p5, nI_clamp (by omega)], ?_, ?_, ?_⟩
  · unfold mOK
    rw [m3, m4, p5]
    exact ⟨⟨z _ (by omega), (NL_10.2.2.1 _ (by omega)).mpr n10⟩, ⟨z _ (by omega), (NL_6.2.2.1 _ (by omega)).mpr r6⟩, z _ (by omega), (NL_20.2.2.1 _ (by omega)).mpr k20⟩
  · unfold fOK
    rw [a0, a1]
    exact ⟨z _ (by omega), (NL_10.2.2.1 _ (by omega)).mpr n10, z _ (by omega), (NL_6.2.2.1 _ (by omega)).mpr r6⟩
  · unfold mH
    rw [h2]
    exact ⟨z _ (by omega), (NL_10.2.2.1 _ (by omega)).mpr c10⟩
theorem mIn_lt {x : Int32} {n : Nat} (hn : n ≤ 1000000) : mIn x 0 (nI n - 1) = true ↔ 0 ≤ x ∧ x < nI n := by
  unfold mIn
  rw [decide_eq_true_eq, Int32.le_iff_toInt_le, Int32.le_iff_toInt_le, Int32.lt_iff_toInt_lt, show (1 : Int32) = nI 1 from rfl, pk_sub_toInt (by omega) (by omega), nI_toInt (by omega)]
  omega
theorem x_nI {x : Int32} {n : Nat} (hn : n ≤ 1000000) : (0 ≤ x ∧ x < nI n) ↔ ∃ k, k < n ∧ x = nI k := by
  constructor
  · intro h
    obtain ⟨k, h1, h2⟩ := nI_of (x := x) (by grind)
    subst h2
    exact ⟨k, (nI_ltI h1 (by omega)).mp h.2, rfl⟩
  · rintro ⟨k, h1, rfl⟩
    exact ⟨(NL_0.1 k (by omega)).mpr (Nat.zero_le _), nI_lt h1 (by omega)⟩
theorem fP_iff {σ : jM} {N : Nat} (h1 : σ.1 37 1 = nI N) (hN : N ≤ 10) (x : Int32) : fP σ x = true ↔ ∃ k, k < N ∧ x = nI k := by
  rw [← x_nI (by omega)]
  unfold fP
  rw [decide_eq_true_eq, h1]
  constructor
  · exact fun h => ⟨h.1, h.2.1⟩
  · intro h
    obtain ⟨k, q1, q2⟩ := (x_nI (n := N) (by omega)).mp h
    refine ⟨h.1, h.2, ?_⟩
    rw [q2, NL_10.2.2.2.1 k (by omega)]
    omega
theorem fR_iff {σ : jM} {R : Nat} (h0 : σ.1 37 0 = nI R) (hR : R ≤ 6) (x : Int32) : fR σ x = true ↔ ∃ k, k < R ∧ x = nI k := by
  rw [← x_nI (by omega)]
  unfold fR
  rw [decide_eq_true_eq, h0]
  constructor
  · exact fun h => ⟨h.1, h.2.1⟩
  · intro h
    obtain ⟨k, q1, q2⟩ := (x_nI (n := R) (by omega)).mp h
    refine ⟨h.1, h.2, ?_⟩
    rw [q2, NL_6.2.2.2.1 k (by omega)]
    omega
theorem xv_P {σ : jM} {R N K : Nat} (h : xRk σ R N K) (x : Int32) : (fP σ x = mP σ x) ∧ (mP σ x = true ↔ ∃ k, k < N ∧ x = nI k) := by
  have n10 := h.1.1.2
  have a : mP σ x = true ↔ ∃ k, k < N ∧ x = nI k := by
    unfold mP
    rw [h.1.2.1.2, mIn_lt (by omega), x_nI (by omega)]
  refine ⟨?_, a⟩
  rw [Bool.eq_iff_iff, a]
  exact fP_iff (fl37 h.2.1.1).1.2.1 n10 x
theorem xv_R {σ : jM} {R N K : Nat} (h : xRk σ R N K) (x : Int32) : (fR σ x = mR σ x) ∧ (mR σ x = true ↔ ∃ k, k < R ∧ x = nI k) := by
  have r6 := h.1.1.1
  have a : mR σ x = true ↔ ∃ k, k < R ∧ x = nI k := by
    unfold mR
    rw [h.1.2.1.1, mIn_lt (by omega), x_nI (by omega)]
  refine ⟨?_, a⟩
  rw [Bool.eq_iff_iff, a]
  exact fR_iff (fl37 h.2.1.1).1.1 r6 x
theorem qpl_cg {p q : Nat → Bool} : ∀ (N : Nat), (∀ j, j < N → p j = q j) → ∀ i, qpl p N i = qpl q N i
  | 0, _, _ => rfl
  | N + 1, h, i => by
    simp only [qpl]
    rw [h N (by omega), cn_congr N (fun j hj => h j (by omega)), qpl_cg N (fun j hj => h j (by omega)) i]
theorem xv_liv {σ : jM} {R N K : Nat} (h : xRk σ R N K) : (∀ p, p < N → liv σ p = xl σ p) ∧ (∀ p, p ≤ N → cn (liv σ) p = cn (xl σ) p) ∧ flM σ = mLiv σ ∧ mLiv σ ≤ R ∧ ∀ i, qpl (liv σ) N i = qpl (xl σ) N i := by
  have n10 := h.1.1.2
  obtain ⟨n1, -, n3, -⟩ := xv_n h
  have e : ∀ p, p < N → liv σ p = xl σ p := fun p hp => by
    have := ((fl37 h.2.1.1).2.2.1 p (by omega)).1
    unfold liv xl dL
    rw [this]
  have c : ∀ p, p ≤ N → cn (liv σ) p = cn (xl σ) p := fun p hp => cn_congr p (fun j hj => e j (by omega))
  have m : mLiv σ = cn (xl σ) N := by
    unfold mLiv
    rw [n3]
    rfl
  refine ⟨e, c, ?_, ?_, fun i => qpl_cg N e i⟩
  · unfold flM
    rw [n1, c N (Nat.le_refl _), m]
  · rw [m]
    exact h.2.1.2.1.2.2.2.2.2.2
theorem wR_v {f : Nat → Int32} {R N : Nat} (d : dG f R N) {p r : Nat} (hp : p < 10) (hr : r < 6) : (wR f p r = -1 ↔ f (8 + 20 * p + (13 + r)) = 1) ∧ (wR f p r = -1 ∨ 0 ≤ wR f p r ∧ wR f p r ≤ 9999) ∧ (if 0 ≤ wR f p r then wR f p r else 0) = f (8 + 20 * p + (7 + r)) := by
  have v := d.1.1 p hp r hr
  have z := d.2.2.1 p hp r hr
  unfold wR
  by_cases c : f (8 + 20 * p + (13 + r)) = 1
  · rw [if_pos c]
    refine ⟨⟨fun _ => c, fun _ => rfl⟩, Or.inl rfl, ?_⟩
    rcases z with z | z
    · rw [z] at c
      exact absurd c (by decide)
    · rw [z.2]
      decide
  · rw [if_neg c, if_pos v.1]
    refine ⟨⟨fun q => ?_, fun q => absurd q c⟩, Or.inr v, rfl⟩
    rw [q] at v
    exact absurd v.1 (by decide)
theorem xv_W {σ : jM} {R N K : Nat} (h : xRk σ R N K) {i r : Nat} (hi : i < mLiv σ) (hr : r < R) : flW σ i r = dW (σ.1 323) N i r := by
  obtain ⟨n1, n2, n3, -⟩ := xv_n h
  obtain ⟨-, -, l3, l4, l5⟩ := xv_liv h
  have n10 := h.1.1.2
  have r6 := h.1.1.1
  unfold flW dW
  rw [l3, n2, n1, if_pos ⟨hi, hr⟩, l5]
  have hm : mLiv σ = cn (xl σ) N := by
    unfold mLiv
    rw [n3]
    rfl
  have hq := (qpl_is (p := xl σ) (N := N) (i := i) (by omega)).2.1
  have e := ((fl37 h.2.1.1).2.2.2 _ hq).2 r hr
  have w := wR_v h.2.1.2.1 (p := qpl (xl σ) N i) (r := r) (by omega) (by omega)
  rw [e]
  by_cases c : σ.1 323 (8 + 20 * qpl (xl σ) N i + (13 + r)) = 1
  · rw [if_pos (w.1.mpr c), if_pos c]
  · rw [if_neg (fun q => c (w.1.mp q)), if_neg c]
    unfold wR
    rw [if_neg c]
theorem qT_cg {W V : Nat → Nat → Option Nat} {R : Nat} : ∀ (d i t : Nat), (∀ j r, i ≤ j → j < i + d → r < R → W j r = V j r) → qT W R d i t = qT V R d i t
  | 0, _, _, _ => rfl
  | d + 1, i, t, h => by
    simp only [qT]
    refine qR_congr R (fun r hr => ?_)
    rw [h i r (Nat.le_refl _) (by omega) hr]
    split
    · rfl
    · rw [qT_cg d (i + 1) _ (fun j q h1 h2 h3 => h j q (by omega) (by omega) h3)]
theorem xv_C {σ : jM} {R N K : Nat} (h : xRk σ R N K) : flC σ = dC σ := by
  obtain ⟨-, n2, n3, n4, -⟩ := xv_n h
  obtain ⟨-, -, l3, -⟩ := xv_liv h
  unfold flC dC
  rw [l3, n2, n3, n4]
  rw [qT_cg (mLiv σ) 0 0 (fun j r _ hj hr => xv_W h (by omega) hr)]
theorem mx_cg {f h : Nat → Int} {e k : Nat → Bool} {z : Int} : ∀ (n : Nat), (∀ j, j < n → e j = k j ∧ (k j = true → f j = h j)) → mx f e z n = mx h k z n
  | 0, _ => rfl
  | n + 1, q => by
    simp only [mx]
    rw [mx_cg n (fun j hj => q j (by omega)), (q n (by omega)).1]
    by_cases c : k n = true
    · rw [(q n (by omega)).2 c]
    · rw [if_neg (fun z => c z.1), if_neg (fun z => c z.1)]
theorem wF_cg {m : Nat} {e k : Nat → Nat → Bool} {w u : Nat → Nat → Int} (h : ∀ p q, p < m → q < m → e p q = k p q ∧ (k p q = true → w p q = u p q)) : ∀ n q, q < m → wF m e w n q = wF m k u n q
  | 0, _, _ => rfl
  | n + 1, q, hq => by
    simp only [wF]
    rw [wF_cg h n q hq]
    refine mx_cg m (fun p hp => ⟨(h p q hp hq).1, fun c => ?_⟩)
    rw [wF_cg h n p hp, (h p q hp hq).2 c]
theorem dC_A {σ : jM} {a : Nat × Nat × (Nat → Nat)} (ha : dC σ = some a) : 0 < mLiv σ ∧ (∀ i, i < mLiv σ → a.2.2 i < mRo σ ∧ (dW (σ.1 323) (mN σ) i (a.2.2 i)).isSome = true) ∧ ∀ i j, i < mLiv σ → j < mLiv σ → a.2.2 i = a.2.2 j → i = j := by
  unfold dC at ha
  by_cases c : mLiv σ = 0
  · rw [if_pos c] at ha; cases ha
  · rw [if_neg c] at ha
    have := (vA_iff (mLiv σ) 0 0).mp (qT_mem _ _ _ _ ha).1
    exact ⟨by omega, fun i hi => ⟨(this.1 i (by omega) (by omega)).1, (this.1 i (by omega) (by omega)).2.1⟩, fun i j hi hj e => this.2 i j (by omega) (by omega) (by omega) (by omega) e⟩
theorem xv_ex {σ : jM} {R N K : Nat} (h : xRk σ R N K) {a : Nat × Nat × (Nat → Nat)} (ha : dC σ = some a) {i : Nat} (hi : i < mLiv σ) : gLo (flW σ) a.2.2 (flM σ) i = gLo (dW (σ.1 323) (mN σ)) a.2.2 (mLiv σ) i ∧ gHi (flW σ) a.2.2 (flM σ) i = gHi (dW (σ.1 323) (mN σ)) a.2.2 (mLiv σ) i := by
  obtain ⟨-, n2, n3, n4, -⟩ := xv_n h
  obtain ⟨-, -, l3, -⟩ := xv_liv h
  obtain ⟨-, d1, -⟩ := dC_A ha
  rw [l3, n3]
  have e : ∀ p q, p < mLiv σ → q < mLiv σ → flW σ p (a.2.2 q) = dW (σ.1 323) N p (a.2.2 q) := fun p q hp hq => xv_W h hp (by rw [← n4]; exact (d1 q hq).1)
  have e1 : ∀ p q, p < mLiv σ → q < mLiv σ → gE (flW σ) a.2.2 p q = gE (dW (σ.1 323) N) a.2.2 p q := fun p q hp hq => by
    unfold gE
    rw [e p q hp hq]
  have e2 : ∀ p q, p < mLiv σ → q < mLiv σ → gG (flW σ) a.2.2 p q = gG (dW (σ.1 323) N) a.2.2 p q := fun p q hp hq => by
    unfold gG gw gF
    rw [e p q hp hq, e p p hp hp]
  exact ⟨wF_cg (fun p q hp hq => ⟨e1 p q hp hq, fun _ => e2 p q hp hq⟩) 5 i hi, wF_cg (fun p q hp hq => ⟨e1 q p hq hp, fun _ => e2 q p hq hp⟩) 5 i hi⟩
theorem xv_flOK {σ : jM} {R N K : Nat} (h : xRk σ R N K) : flOK σ := by
  obtain ⟨n1, n2, -, -, -, -, f7, -⟩ := xv_n h
  obtain ⟨-, -, l3, l4, -⟩ := xv_liv h
  have n10 := h.1.1.2
  have r6 := h.1.1.1
  obtain ⟨⟨-, -, a2, -⟩, b, -, c⟩ := fl37 h.2.1.1
  have d := h.2.1.2.1
  refine ⟨f7, by omega, fun p hp r hr => ?_, fun p hp => ?_, ?_, ?_⟩
  · rw [n1] at hp
    rw [n2] at hr
    rw [(c p hp).2 r hr]
    exact (wR_v d (by omega) (by omega)).2.1
  · rw [n1] at hp
    rw [(c p hp).1]
    exact (d.1.2.1 p (by omega)).1
  · rw [a2]; exact d.1.2.2.1
  · rw [b 1 (by omega)]; exact d.1.2.2.2.2
