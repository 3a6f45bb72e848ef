/-! the reference: the extremes of the prices -/
def iI (x : Int) : Int32 := Int32.ofInt x
theorem iI_toInt {x : Int} (h : -2147483648 ≤ x ∧ x < 2147483648) : (iI x).toInt = x := by
  unfold iI
  rw [Int32.toInt_ofInt]
  rw [Int.bmod_def]
  simp only [Int32.size]
  omega
theorem iI_of (x : Int32) : iI x.toInt = x := Int32.ofInt_toInt x
theorem iI_add (x y : Int) : iI x + iI y = iI (x + y) := (Int32.ofInt_add ..).symm
theorem iI_sub (x y : Int) : iI x - iI y = iI (x - y) := (Int32.ofInt_sub ..).symm
theorem iI_mul (x y : Int) : iI x * iI y = iI (x * y) := (Int32.ofInt_mul ..).symm
theorem iI_nat (n : Nat) : iI (n : Int) = nI n := rfl
abbrev iB (x : Int) : Prop := -2147483648 ≤ x ∧ x < 2147483648
theorem iI_lt {x y : Int} (hx : iB x) (hy : iB y) : iI x < iI y ↔ x < y := by
  rw [Int32.lt_iff_toInt_lt, iI_toInt hx, iI_toInt hy]
theorem iI_le {x y : Int} (hx : iB x) (hy : iB y) : iI x ≤ iI y ↔ x ≤ y := by
  rw [Int32.le_iff_toInt_le, iI_toInt hx, iI_toInt hy]
theorem iI_eq {x y : Int} (hx : iB x) (hy : iB y) : iI x = iI y ↔ x = y := by
  refine ⟨fun h => ?_, fun h => by rw [h]⟩
  rw [← iI_toInt hx, ← iI_toInt hy, h]
theorem qpl_is {p : Nat → Bool} : ∀ {N i : Nat}, i < cn p N → p (qpl p N i) = true ∧ qpl p N i < N ∧ cn p (qpl p N i) = i
  | 0, i, h => by simp [cn] at h
  | N + 1, i, h => by
    simp only [qpl]
    by_cases e : p N = true ∧ cn p N = i
    · rw [if_pos e]
      exact ⟨e.1, by omega, e.2⟩
    · rw [if_neg e]
      have h2 : i < cn p N := by
        simp only [cn] at h
        by_cases e2 : p N = true
        · have : cn p N ≠ i := fun q => e ⟨e2, q⟩
          rw [if_pos e2] at h
          omega
        · rw [if_neg e2] at h
          omega
      obtain ⟨h3, h4, h5⟩ := qpl_is h2
      exact ⟨h3, by omega, h5⟩
theorem cn_inj {p : Nat → Bool} {i j : Nat} (hi : p i = true) (hj : p j = true) (h : cn p i = cn p j) : i = j := by
  by_cases c : i < j
  · have := cn_lt hi c; omega
  · by_cases c2 : j < i
    · have := cn_lt hj c2; omega
    · omega
def hC (σ : jM) (a : Nat × Nat × (Nat → Nat)) : Prop := mOK σ ∧ dOK (σ.1 323) ∧ dC σ = some a ∧ accOK σ (some a)
theorem hC_q {σ : jM} {a : Nat × Nat × (Nat → Nat)} (h : dC σ = some a) : qT (dW (σ.1 323) (mN σ)) (mRo σ) (mLiv σ) 0 0 = some a ∧ mLiv σ ≠ 0 := by
  unfold dC at h
  by_cases e : mLiv σ = 0
  · rw [if_pos e] at h; cases h
  · rw [if_neg e] at h
    exact ⟨h, e⟩
theorem mN_le {σ : jM} (h : mOK σ) : mN σ ≤ 10 ∧ σ.1 322 4 = nI (mN σ) := by
  obtain ⟨N, hN, hN1, hN2⟩ := nI_rng h.1.1 h.1.2 (by decide)
  rw [mN, hN2]
  exact ⟨hN, hN1⟩
theorem mRo_le {σ : jM} (h : mOK σ) : mRo σ ≤ 6 ∧ σ.1 322 3 = nI (mRo σ) := by
  obtain ⟨N, hN, hN1, hN2⟩ := nI_rng h.2.1.1 h.2.1.2 (by decide)
  rw [mRo, hN2]
  exact ⟨hN, hN1⟩
theorem qpl_lt (p : Nat → Bool) : ∀ (N i : Nat), qpl p N i < N ∨ qpl p N i = 0
  | 0, _ => Or.inr rfl
  | N + 1, i => by
    simp only [qpl]
    split
    · omega
    · have := qpl_lt p N i
      omega
theorem dW_le {f : Nat → Int32} (hd : dOK f) {N : Nat} (hN : N ≤ 10) (i r v : Nat) (hr : r < 6) (h : dW f N i r = some v) : v ≤ 9999 := by
  unfold dW at h
  split at h
  · cases h
  · have h1 := qpl_lt (dL f) N i
    obtain ⟨w, h2, h3, h4⟩ := nI_rng (hd (qpl (dL f) N i) (by omega) r hr).1 (hd (qpl (dL f) N i) (by omega) r hr).2 (by decide)
    rw [h4] at h
    cases h
    exact h2
theorem hC_all {σ : jM} {a : Nat × Nat × (Nat → Nat)} (h : hC σ a) : (∀ j, j < mLiv σ → a.2.2 j < mRo σ ∧ (dW (σ.1 323) (mN σ) j (a.2.2 j)).isSome = true) ∧ (∀ i j, i < mLiv σ → j < mLiv σ → a.2.2 i = a.2.2 j → i = j) ∧ mLiv σ ≤ mRo σ ∧ sol (mLiv σ) (gE (dW (σ.1 323) (mN σ)) a.2.2) (gG (dW (σ.1 323) (mN σ)) a.2.2) (gLo (dW (σ.1 323) (mN σ)) a.2.2 (mLiv σ)) ∧ sol (mLiv σ) (fun p q => gE (dW (σ.1 323) (mN σ)) a.2.2 q p) (fun p q => gG (dW (σ.1 323) (mN σ)) a.2.2 q p) (gHi (dW (σ.1 323) (mN σ)) a.2.2 (mLiv σ)) := qT_best (mRo_le h.1).1 (hC_q h.2.2.1).1
theorem hC_330 {σ : jM} {a : Nat × Nat × (Nat → Nat)} (h : hC σ a) {p : Nat} (hp : p < 10) : σ.1 330 p = if dL (σ.1 323) p = true ∧ p < mN σ then nI (a.2.2 (cn (dL (σ.1 323)) p)) else -1 := h.2.2.2.2.2.1 p hp
theorem hC_liv {σ : jM} {a : Nat × Nat × (Nat → Nat)} (h : hC σ a) {p : Nat} (hp : p < mN σ) (hl : dL (σ.1 323) p = true) : cn (dL (σ.1 323)) p < mLiv σ ∧ a.2.2 (cn (dL (σ.1 323)) p) < 6 ∧ σ.1 330 p = nI (a.2.2 (cn (dL (σ.1 323)) p)) := by
  have h1 : cn (dL (σ.1 323)) p < mLiv σ := cn_lt hl hp
  have h2 := ((hC_all h).1 _ h1).1
  have h3 := (mRo_le h.1).1
  have h4 := (mN_le h.1).1
  exact ⟨h1, by omega, by rw [hC_330 h (by omega), if_pos ⟨hl, hp⟩]⟩
def chOK (σ : jM) : Prop := ∀ j, j < 10 → 0 ≤ σ.1 330 j → jin (σ.1 330 j) 6
theorem not_m1 : ¬ (0 : Int32) ≤ -1 := by decide
theorem hC_ch {σ : jM} {a : Nat × Nat × (Nat → Nat)} (h : hC σ a) : chOK σ := by
  intro j hj h0
  by_cases e : dL (σ.1 323) j = true ∧ j < mN σ
  · obtain ⟨h1, h2, h3⟩ := hC_liv h e.2 e.1
    rw [h3]
    exact jin_nI h2 (by decide)
  · rw [hC_330 h hj, if_neg e] at h0
    exact absurd h0 not_m1
def mCE (σ : jM) (p q : Nat) : Bool := decide (p ≠ q ∧ 0 ≤ σ.1 330 p ∧ 0 ≤ σ.1 330 q ∧ ¬ mD σ p (13 + (σ.1 330 q).toNatClampNeg) = 1)
def mSt (σ : jM) (p q : Nat) : Int32 := 120 * (mD σ p (7 + (σ.1 330 q).toNatClampNeg) - mD σ p (7 + (σ.1 330 p).toNatClampNeg))
def oX12_canEnvy : jO := joRII fun a p q σ => (a = 322 ∧ chOK σ ∧ jin p 10 ∧ jin q 10, fun v τ => v = some (.int (if mCE σ p.toNatClampNeg q.toNatClampNeg = true then 1 else 0)) ∧ τ = σ)
set_option maxRecDepth 100000 in
set_option maxHeartbeats 4000000 in
theorem CX12_canEnvy (g : jG) (n : Nat) : jOk g (n + 3) mX12_canEnvy oX12_canEnvy := by
  refine joRII_ok ?_
  rintro _ p q σ ⟨rfl, hc, h1, h2⟩
  have e := jin_ne h1 h2
  by_cases h3 : p = q
  · subst h3
    have e3 : mCE σ p.toNatClampNeg p.toNatClampNeg = false := by simp [mCE]
    refine jCon.ofF (by decide +kernel) (by simp [lg_sl, Value.category]) ?_
    refine jvk_ok TX12_canEnvy (V := [(148, 3, 12, oX12_isRefused)]) (S := []) (List.forall_mem_cons.mpr ⟨⟨mX12_isRefused, n + 2, 2, TX12, 53, rfl, by omega, kX12_148, WX12_isRefused, rfl, CX12_isRefused g (n)⟩, (fun _ h => absurd h List.not_mem_nil)⟩) (fun _ h => absurd h List.not_mem_nil) [] 60 _ _ _ _ ?_
    simp (maxSteps := 1000000) [↓Bool.cond_eq_ite, -Prod.forall, -Prod.exists, -Prod.mk.injEq, jvk, tX12_canEnvy, jtb, jol, jst, jlk, jcmp, jbin, jfl, fX12, jc2, lX12, jcat, jel, lv_args, Value.category, jins, jsrt, jins2, jble, jblt, jf3, List.filter_cons, List.filter_nil, G_m, oX12_isRefused, joRII, -Int32.not_le, -Int32.not_lt, -Int64.not_le, -Int64.not_lt, i3lt, i6lt, e3]
    try simp (disch := omega) [-Prod.forall, -Prod.exists, -Prod.mk.injEq, -Int32.not_le, -Int32.not_lt, -Int64.not_le, -Int64.not_lt, i3lt, i6lt, e3]
  · have h3' : p.toNatClampNeg ≠ q.toNatClampNeg := fun z => h3 (e.mpr z)
    by_cases h4 : 0 ≤ σ.1 330 p.toNatClampNeg
    · by_cases h5 : 0 ≤ σ.1 330 q.toNatClampNeg
      · have h6 := hc _ (jin_lt h2) h5
        by_cases h7 : mD σ p.toNatClampNeg (13 + (σ.1 330 q.toNatClampNeg).toNatClampNeg) = 1
        · have e3 : mCE σ p.toNatClampNeg q.toNatClampNeg = false := by simp [mCE, h7]
          refine jCon.ofF (by decide +kernel) (by simp [lg_sl, Value.category]) ?_
          refine jvk_ok TX12_canEnvy (V := [(148, 3, 12, oX12_isRefused)]) (S := []) (List.forall_mem_cons.mpr ⟨⟨mX12_isRefused, n + 2, 2, TX12, 53, rfl, by omega, kX12_148, WX12_isRefused, rfl, CX12_isRefused g (n)⟩, (fun _ h => absurd h List.not_mem_nil)⟩) (fun _ h => absurd h List.not_mem_nil) [] 60 _ _ _ _ ?_
          simp (maxSteps := 1000000) [↓Bool.cond_eq_ite, -Prod.forall, -Prod.exists, -Prod.mk.injEq, jvk, tX12_canEnvy, jtb, jol, jst, jlk, jcmp, jbin, jfl, fX12, jc2, lX12, jcat, jel, lv_args, Value.category, jins, jsrt, jins2, jble, jblt, jf3, List.filter_cons, List.filter_nil, G_m, oX12_isRefused, joRII, -Int32.not_le, -Int32.not_lt, -Int64.not_le, -Int64.not_lt, i3lt, i6lt, h3, h4, h5, h6, h7, e3, h1, h2]
          try simp (disch := omega) [-Prod.forall, -Prod.exists, -Prod.mk.injEq, -Int32.not_le, -Int32.not_lt, -Int64.not_le, -Int64.not_lt, i3lt, i6lt, h3, h4, h5, h6, h7, e3, h1, h2]
        · have e3 : mCE σ p.toNatClampNeg q.toNatClampNeg = true := by simp only [mCE, decide_eq_true_eq]; exact ⟨h3', h4, h5, h7⟩
          refine jCon.ofF (by decide +kernel) (by simp [lg_sl, Value.category]) ?_
          refine jvk_ok TX12_canEnvy (V := [(148, 3, 12, oX12_isRefused)]) (S := []) (List.forall_mem_cons.mpr ⟨⟨mX12_isRefused, n + 2, 2, TX12, 53, rfl, by omega, kX12_148, WX12_isRefused, rfl, CX12_isRefused g (n)⟩, (fun _ h => absurd h List.not_mem_nil)⟩) (fun _ h => absurd h List.not_mem_nil) [] 60 _ _ _ _ ?_
          simp (maxSteps := 1000000) [↓Bool.cond_eq_ite, -Prod.forall, -Prod.exists, -Prod.mk.injEq, jvk, tX12_canEnvy, jtb, jol, jst, jlk, jcmp, jbin, jfl, fX12, jc2, lX12, jcat, jel, lv_args, Value.category, jins, jsrt, jins2, jble, jblt, jf3, List.filter_cons, List.filter_nil, G_m, oX12_isRefused, joRII, -Int32.not_le, -Int32.not_lt, -Int64.not_le, -Int64.not_lt, i3lt, i6lt, h3, h4, h5, h6, h7, e3, h1, h2]
          try simp (disch := omega) [-Prod.forall, -Prod.exists, -Prod.mk.injEq, -Int32.not_le, -Int32.not_lt, -Int64.not_le, -Int64.not_lt, i3lt, i6lt, h3, h4, h5, h6, h7, e3, h1, h2]
      · have e3 : mCE σ p.toNatClampNeg q.toNatClampNeg = false := by simp [mCE, h5]
        refine jCon.ofF (by decide +kernel) (by simp [lg_sl, Value.category]) ?_
        refine jvk_ok TX12_canEnvy (V := [(148, 3, 12, oX12_isRefused)]) (S := []) (List.forall_mem_cons.mpr ⟨⟨mX12_isRefused, n + 2, 2, TX12, 53, rfl, by omega, kX12_148, WX12_isRefused, rfl, CX12_isRefused g (n)⟩, (fun _ h => absurd h List.not_mem_nil)⟩) (fun _ h => absurd h List.not_mem_nil) [] 60 _ _ _ _ ?_
        simp (maxSteps := 1000000) [↓Bool.cond_eq_ite, -Prod.forall, -Prod.exists, -Prod.mk.injEq, jvk, tX12_canEnvy, jtb, jol, jst, jlk, jcmp, jbin, jfl, fX12, jc2, lX12, jcat, jel, lv_args, Value.category, jins, jsrt, jins2, jble, jblt, jf3, List.filter_cons, List.filter_nil, G_m, oX12_isRefused, joRII, -Int32.not_le, -Int32.not_lt, -Int64.not_le, -Int64.not_lt, i3lt, i6lt, h3, h4, h5, e3, h1, h2]
        try simp (disch := omega) [-Prod.forall, -Prod.exists, -Prod.mk.injEq, -Int32.not_le, -Int32.not_lt, -Int64.not_le, -Int64.not_lt, i3lt, i6lt, h3, h4, h5, e3, h1, h2]
    · have e3 : mCE σ p.toNatClampNeg q.toNatClampNeg = false := by simp [mCE, h4]
      refine jCon.ofF (by decide +kernel) (by simp [lg_sl, Value.category]) ?_
      refine jvk_ok TX12_canEnvy (V := [(148, 3, 12, oX12_isRefused)]) (S := []) (List.forall_mem_cons.mpr ⟨⟨mX12_isRefused, n + 2, 2, TX12, 53, rfl, by omega, kX12_148, WX12_isRefused, rfl, CX12_isRefused g (n)⟩, (fun _ h => absurd h List.not_mem_nil)⟩) (fun _ h => absurd h List.not_mem_nil) [] 60 _ _ _ _ ?_
      simp (maxSteps := 1000000) [↓Bool.cond_eq_ite, -Prod.forall, -Prod.exists, -Prod.mk.injEq, jvk, tX12_canEnvy, jtb, jol, jst, jlk, jcmp, jbin, jfl, fX12, jc2, lX12, jcat, jel, lv_args, Value.category, jins, jsrt, jins2, jble, jblt, jf3, List.filter_cons, List.filter_nil, G_m, oX12_isRefused, joRII, -Int32.not_le, -Int32.not_lt, -Int64.not_le, -Int64.not_lt, i3lt, i6lt, h3, h4, e3, h1, h2]
      try simp (disch := omega) [-Prod.forall, -Prod.exists, -Prod.mk.injEq, -Int32.not_le, -Int32.not_lt, -Int64.not_le, -Int64.not_lt, i3lt, i6lt, h3, h4, e3, h1, h2]
def oX12_step : jO := joRII fun a p q σ => (a = 322 ∧ jin p 10 ∧ jin q 10 ∧ jin (σ.1 330 p.toNatClampNeg) 6 ∧ jin (σ.1 330 q.toNatClampNeg) 6, fun v τ => v = some (.int (mSt σ p.toNatClampNeg q.toNatClampNeg)) ∧ τ = σ)
set_option maxRecDepth 100000 in
set_option maxHeartbeats 4000000 in
theorem CX12_step (g : jG) (n : Nat) : jOk g (n + 3) mX12_step oX12_step := by
  refine joRII_ok ?_
  rintro _ p q σ ⟨rfl, h1, h2, h3, h4⟩
  refine jCon.ofF (by decide +kernel) (by simp [lg_sl, Value.category]) ?_
  refine jvk_ok TX12_step (V := [(145, 3, 12, oX12_value)]) (S := []) (List.forall_mem_cons.mpr ⟨⟨mX12_value, n + 2, 2, TX12, 53, rfl, by omega, kX12_145, WX12_value, rfl, CX12_value g (n)⟩, (fun _ h => absurd h List.not_mem_nil)⟩) (fun _ h => absurd h List.not_mem_nil) [] 40 _ _ _ _ ?_
  simp (maxSteps := 1000000) [↓Bool.cond_eq_ite, -Prod.forall, -Prod.exists, -Prod.mk.injEq, jvk, tX12_step, jtb, jol, jst, jlk, jcmp, jbin, jfl, fX12, jc2, lX12, jcat, jel, lv_args, Value.category, jins, jsrt, jins2, jble, jblt, jf3, List.filter_cons, List.filter_nil, G_m, oX12_value, joRII, -Int32.not_le, -Int32.not_lt, -Int64.not_le, -Int64.not_lt, i3lt, i6lt, h1, h2, h3, h4, mSt]
  try simp (disch := omega) [-Prod.forall, -Prod.exists, -Prod.mk.injEq, -Int32.not_le, -Int32.not_lt, -Int64.not_le, -Int64.not_lt, i3lt, i6lt, h1, h2, h3, h4, mSt]
/-- what changes with the extremes -/
def aEx (a j : Nat) : Bool := a == 332 || a == 333
theorem hC_pair {σ τ : jM} {a : Nat × Nat × (Nat → Nat)} (h : hC σ a) (f : jfr aEx b0 σ τ) {p q : Nat} (hp : p < mN σ) (hq : q < mN σ) :
    (mCE τ p q = true ↔ dL (σ.1 323) p = true ∧ dL (σ.1 323) q = true ∧ gE (dW (σ.1 323) (mN σ)) a.2.2 (cn (dL (σ.1 323)) p) (cn (dL (σ.1 323)) q) = true) ∧ (mCE τ p q = true → mSt τ p q = iI (gG (dW (σ.1 323) (mN σ)) a.2.2 (cn (dL (σ.1 323)) p) (cn (dL (σ.1 323)) q))) := by
  have h10 := (mN_le h.1).1
  have e323 : τ.1 323 = σ.1 323 := funext fun j => f.2.2 323 j rfl
  have e330 : ∀ j, τ.1 330 j = σ.1 330 j := fun j => f.2.2 330 j rfl
  have emD : ∀ x y, mD τ x y = mD σ x y := fun x y => by unfold mD; rw [e323]
  by_cases hl : dL (σ.1 323) p = true
  · by_cases hl2 : dL (σ.1 323) q = true
    · obtain ⟨a1, a2, a3⟩ := hC_liv h hp hl
      obtain ⟨b1, b2, b3⟩ := hC_liv h hq hl2
      have ew : ∀ r, dW (σ.1 323) (mN σ) (cn (dL (σ.1 323)) p) r = if mD σ p (13 + r) = 1 then none else some (mD σ p (7 + r)).toNatClampNeg := fun r => by
        unfold dW
        rw [qpl_cn hl hp]
        rfl
      have hne : cn (dL (σ.1 323)) p = cn (dL (σ.1 323)) q ↔ p = q := ⟨fun z => cn_inj hl hl2 z, fun z => by rw [z]⟩
      have hv : ∀ r, r < 6 → nI (mD σ p (7 + r)).toNatClampNeg = mD σ p (7 + r) := fun r hr => by
        obtain ⟨v, v1, v2, v3⟩ := nI_rng (h.2.1 p (by omega) r hr).1 (h.2.1 p (by omega) r hr).2 (by decide)
        show nI (σ.1 323 (8 + 20 * p + (7 + r))).toNatClampNeg = _
        rw [v3, ← v2]
        rfl
      refine ⟨?_, fun hce => ?_⟩
      · unfold mCE gE
        simp only [e330, emD, a3, b3, nI_clamp (show a.2.2 (cn (dL (σ.1 323)) q) < 2 ^ 31 by omega), nI_pos' (show a.2.2 (cn (dL (σ.1 323)) q) < 2 ^ 31 by omega), nI_pos' (show a.2.2 (cn (dL (σ.1 323)) p) < 2 ^ 31 by omega), ew, hl, hl2, Bool.and_eq_true, decide_eq_true_eq, true_and, ne_eq, hne]
        by_cases c : mD σ p (13 + a.2.2 (cn (dL (σ.1 323)) q)) = 1 <;> simp [c]
      · unfold mCE at hce
        simp only [decide_eq_true_eq, e330, emD, b3, nI_clamp (show a.2.2 (cn (dL (σ.1 323)) q) < 2 ^ 31 by omega)] at hce
        unfold mSt gG gw gF
        have own := ((hC_all h).1 _ a1).2
        rw [ew] at own ⊢
        rw [ew]
        have c1 : ¬ mD σ p (13 + a.2.2 (cn (dL (σ.1 323)) p)) = 1 := fun z => by rw [if_pos z] at own; cases own
        rw [if_neg hce.2.2.2, if_neg c1]
        simp only [Option.getD_some, e330, emD, a3, b3, nI_clamp (show a.2.2 (cn (dL (σ.1 323)) q) < 2 ^ 31 by omega), nI_clamp (show a.2.2 (cn (dL (σ.1 323)) p) < 2 ^ 31 by omega)]
        rw [← iI_mul, ← iI_sub, iI_nat, iI_nat, hv _ b2, hv _ a2]
        rfl
    · have e : σ.1 330 q = -1 := by rw [hC_330 h (by omega), if_neg (fun z => hl2 z.1)]
      have e2 : mCE τ p q = false := by
        unfold mCE
        rw [e330 q, e]
        simp [not_m1]
      rw [e2]
      simp [hl2]
  · have e : σ.1 330 p = -1 := by rw [hC_330 h (by omega), if_neg (fun z => hl z.1)]
    have e2 : mCE τ p q = false := by
      unfold mCE
      rw [e330 p, e]
      simp [not_m1]
    rw [e2]
    simp [hl]
/-- the extremes so far, of the places -/
def exM (σ τ : jM) (x y : Nat → Int) : Prop := jfr aEx b0 σ τ ∧ ∀ p, p < mN σ → τ.1 332 p = (if dL (σ.1 323) p = true then iI (x (cn (dL (σ.1 323)) p)) else 0) ∧ τ.1 333 p = (if dL (σ.1 323) p = true then iI (- y (cn (dL (σ.1 323)) p)) else 0)
def exI (m : Nat) (lo hi x y : Nat → Int) : Prop := ∀ k, k < m → 0 ≤ x k ∧ x k ≤ lo k ∧ 0 ≤ y k ∧ y k ≤ hi k
def exU (m : Nat) (lo hi x y : Nat → Int) : Int := sI (fun k => (lo k - x k) + (hi k - y k)) m
theorem exU_nn {m : Nat} {lo hi x y : Nat → Int} : ∀ (n : Nat), n ≤ m → exI m lo hi x y → 0 ≤ sI (fun k => (lo k - x k) + (hi k - y k)) n
  | 0, _, _ => Int.le_refl _
  | n + 1, hn, h => by
    have i1 := exU_nn n (by omega) h
    have := h n (by omega)
    simp only [sI]
    omega
/-- all that is passed by before the pair p q has been done, or something has changed -/
def exS (σ : jM) (E : Nat → Nat → Bool) (G : Nat → Nat → Int) (m : Nat) (lo hi x y x' y' : Nat → Int) (c : Nat) (p q : Nat) : Prop :=
  (c = 0 ∧ x' = x ∧ y' = y ∧ ∀ p' q', p' < mN σ → q' < mN σ → (p' < p ∨ p' = p ∧ q' < q) → dL (σ.1 323) p' = true → dL (σ.1 323) q' = true → E (cn (dL (σ.1 323)) p') (cn (dL (σ.1 323)) q') = true → x (cn (dL (σ.1 323)) p') + G (cn (dL (σ.1 323)) p') (cn (dL (σ.1 323)) q') ≤ x (cn (dL (σ.1 323)) q') ∧ y (cn (dL (σ.1 323)) q') + G (cn (dL (σ.1 323)) p') (cn (dL (σ.1 323)) q') ≤ y (cn (dL (σ.1 323)) p')) ∨
  (c = 1 ∧ exU m lo hi x' y' < exU m lo hi x y)
/-- one pair: the four ways -/
def exX (x : Nat → Int) (g : Int) (i j : Nat) : Nat → Int := if x j < x i + g then fun k => if k = j then x i + g else x k else x
def exY (y : Nat → Int) (g : Int) (i j : Nat) : Nat → Int := if y i < y j + g then fun k => if k = i then y j + g else y k else y
def exC (x y : Nat → Int) (g : Int) (i j c : Nat) : Nat := if x j < x i + g ∨ y i < y j + g then 1 else c
theorem exI_step {m : Nat} {e : Nat → Nat → Bool} {w : Nat → Nat → Int} {lo hi x y : Nat → Int} (hlo : sol m e w lo) (hhi : sol m (fun p q => e q p) (fun p q => w q p) hi) (h : exI m lo hi x y) {i j : Nat} (hi1 : i < m) (hj : j < m) (he : e i j = true) : exI m lo hi (exX x (w i j) i j) (exY y (w i j) i j) ∧ exU m lo hi (exX x (w i j) i j) (exY y (w i j) i j) ≤ exU m lo hi x y ∧ ((x j < x i + w i j ∨ y i < y j + w i j) → exU m lo hi (exX x (w i j) i j) (exY y (w i j) i j) < exU m lo hi x y) := by
  have l1 := hlo.2 i j hi1 hj he
  have l2 : hi j + w i j ≤ hi i := hhi.2 j i hj hi1 he
  have hxi := h i hi1
  have hxj := h j hj
  refine ⟨fun k hk => ?_, ?_⟩
  · have hxk := h k hk
    unfold exX exY
    by_cases c1 : x j < x i + w i j
    · by_cases c2 : y i < y j + w i j
      · rw [if_pos c1, if_pos c2]
        try dsimp only
        by_cases k1 : k = j
        · subst k1
          rw [if_pos rfl]
          by_cases k2 : k = i
          · subst k2; rw [if_pos rfl]; omega
          · rw [if_neg k2]; omega
        · rw [if_neg k1]
          by_cases k2 : k = i
          · subst k2; rw [if_pos rfl]; omega
          · rw [if_neg k2]; omega
      · rw [if_pos c1, if_neg c2]
        try dsimp only
        by_cases k1 : k = j
        · subst k1; rw [if_pos rfl]; omega
        · rw [if_neg k1]; omega
    · by_cases c2 : y i < y j + w i j
      · rw [if_neg c1, if_pos c2]
        try dsimp only
        by_cases k2 : k = i
        · subst k2; rw [if_pos rfl]; omega
        · rw [if_neg k2]; omega
      · rw [if_neg c1, if_neg c2]; omega
  · have ux : sI (fun k => (lo k - exX x (w i j) i j k) + (hi k - y k)) m = sI (fun k => (lo k - x k) + (hi k - y k)) m - (if x j < x i + w i j then x i + w i j - x j else 0) := by
      unfold exX
      by_cases c1 : x j < x i + w i j
      · rw [if_pos c1, if_pos c1]
        have := sI_upd (f := fun k => (lo k - (if k = j then x i + w i j else x k)) + (hi k - y k)) (h := fun k => (lo k - x k) + (hi k - y k)) (x := j) m hj (fun k _ hk => by simp [hk])
        simp only [if_true] at this
        try dsimp only
        omega
      · rw [if_neg c1, if_neg c1]; omega
    have uy : sI (fun k => (lo k - exX x (w i j) i j k) + (hi k - exY y (w i j) i j k)) m = sI (fun k => (lo k - exX x (w i j) i j k) + (hi k - y k)) m - (if y i < y j + w i j then y j + w i j - y i else 0) := by
      unfold exY
      by_cases c1 : y i < y j + w i j
      · rw [if_pos c1, if_pos c1]
        have := sI_upd (f := fun k => (lo k - exX x (w i j) i j k) + (hi k - (if k = i then y j + w i j else y k))) (h := fun k => (lo k - exX x (w i j) i j k) + (hi k - y k)) (x := i) m hi1 (fun k _ hk => by simp [hk])
        simp only [if_true] at this
        try dsimp only
        omega
      · rw [if_neg c1, if_neg c1]; omega
    unfold exU
    rw [uy, ux]
    by_cases c1 : x j < x i + w i j
    · by_cases c2 : y i < y j + w i j
      · rw [if_pos c1, if_pos c2]; omega
      · rw [if_pos c1, if_neg c2]; omega
    · by_cases c2 : y i < y j + w i j
      · rw [if_neg c1, if_pos c2]; omega
      · rw [if_neg c1, if_neg c2]; omega
theorem exS_step {σ : jM} {m : Nat} {e : Nat → Nat → Bool} {w : Nat → Nat → Int} {lo hi x y x' y' : Nat → Int} {c p q : Nat} (hlo : sol m e w lo) (hhi : sol m (fun p q => e q p) (fun p q => w q p) hi) (h : exI m lo hi x' y') (hs : exS σ e w m lo hi x y x' y' c p q) (hp : cn (dL (σ.1 323)) p < m) (hq : cn (dL (σ.1 323)) q < m) (hlp : dL (σ.1 323) p = true) (hlq : dL (σ.1 323) q = true) (he : e (cn (dL (σ.1 323)) p) (cn (dL (σ.1 323)) q) = true) :
    exS σ e w m lo hi x y (exX x' (w (cn (dL (σ.1 323)) p) (cn (dL (σ.1 323)) q)) (cn (dL (σ.1 323)) p) (cn (dL (σ.1 323)) q)) (exY y' (w (cn (dL (σ.1 323)) p) (cn (dL (σ.1 323)) q)) (cn (dL (σ.1 323)) p) (cn (dL (σ.1 323)) q)) (exC x' y' (w (cn (dL (σ.1 323)) p) (cn (dL (σ.1 323)) q)) (cn (dL (σ.1 323)) p) (cn (dL (σ.1 323)) q) c) p (q + 1) := by
  obtain ⟨i1, i2, i3⟩ := exI_step hlo hhi h hp hq he
  by_cases ch : x' (cn (dL (σ.1 323)) q) < x' (cn (dL (σ.1 323)) p) + w (cn (dL (σ.1 323)) p) (cn (dL (σ.1 323)) q) ∨ y' (cn (dL (σ.1 323)) p) < y' (cn (dL (σ.1 323)) q) + w (cn (dL (σ.1 323)) p) (cn (dL (σ.1 323)) q)
  · refine Or.inr ⟨if_pos ch, ?_⟩
    have := i3 ch
    rcases hs with ⟨-, e1, e2, -⟩ | ⟨-, e1⟩
    · rw [e1, e2] at this ⊢; exact this
    · omega
  · have ex : exX x' (w (cn (dL (σ.1 323)) p) (cn (dL (σ.1 323)) q)) (cn (dL (σ.1 323)) p) (cn (dL (σ.1 323)) q) = x' := if_neg (fun z => ch (Or.inl z))
    have ey : exY y' (w (cn (dL (σ.1 323)) p) (cn (dL (σ.1 323)) q)) (cn (dL (σ.1 323)) p) (cn (dL (σ.1 323)) q) = y' := if_neg (fun z => ch (Or.inr z))
    have ec : exC x' y' (w (cn (dL (σ.1 323)) p) (cn (dL (σ.1 323)) q)) (cn (dL (σ.1 323)) p) (cn (dL (σ.1 323)) q) c = c := if_neg ch
    rw [ex, ey, ec]
    rcases hs with ⟨e0, e1, e2, e3⟩ | hs
    · refine Or.inl ⟨e0, e1, e2, fun p' q' h1 h2 h3 h4 h5 h6 => ?_⟩
      by_cases e4 : p' = p ∧ q' = q
      · rw [e4.1, e4.2]
        rw [e1, e2] at ch
        omega
      · exact e3 p' q' h1 h2 (by omega) h4 h5 h6
    · exact Or.inr hs
theorem exS_skip {σ : jM} {m : Nat} {e : Nat → Nat → Bool} {w : Nat → Nat → Int} {lo hi x y x' y' : Nat → Int} {c p q : Nat} (hs : exS σ e w m lo hi x y x' y' c p q) (hn : ¬ (dL (σ.1 323) p = true ∧ dL (σ.1 323) q = true ∧ e (cn (dL (σ.1 323)) p) (cn (dL (σ.1 323)) q) = true)) : exS σ e w m lo hi x y x' y' c p (q + 1) := by
  rcases hs with ⟨e0, e1, e2, e3⟩ | hs
  · refine Or.inl ⟨e0, e1, e2, fun p' q' h1 h2 h3 h4 h5 h6 => ?_⟩
    by_cases e4 : p' = p ∧ q' = q
    · rw [e4.1] at h4 h6
      rw [e4.2] at h5 h6
      exact absurd ⟨h4, h5, h6⟩ hn
    · exact e3 p' q' h1 h2 (by omega) h4 h5 h6
  · exact Or.inr hs
theorem exS_next {σ : jM} {m : Nat} {e : Nat → Nat → Bool} {w : Nat → Nat → Int} {lo hi x y x' y' : Nat → Int} {c p : Nat} (hs : exS σ e w m lo hi x y x' y' c p (mN σ)) : exS σ e w m lo hi x y x' y' c (p + 1) 0 := by
  rcases hs with ⟨e0, e1, e2, e3⟩ | hs
  · exact Or.inl ⟨e0, e1, e2, fun p' q' h1 h2 h3 h4 h5 h6 => e3 p' q' h1 h2 (by omega) h4 h5 h6⟩
  · exact Or.inr hs
/-- where nothing has changed, the extremes are there -/
theorem exS_end {σ : jM} {e : Nat → Nat → Bool} {w : Nat → Nat → Int} {x y x' y' : Nat → Int} {k : Nat} (h : exI (mLiv σ) (wF (mLiv σ) e w k) (wF (mLiv σ) (fun p q => e q p) (fun p q => w q p) k) x y) (hs : exS σ e w (mLiv σ) (wF (mLiv σ) e w k) (wF (mLiv σ) (fun p q => e q p) (fun p q => w q p) k) x y x' y' 0 (mN σ) 0) : x' = x ∧ y' = y ∧ ∀ i, i < mLiv σ → x i = wF (mLiv σ) e w k i ∧ y i = wF (mLiv σ) (fun p q => e q p) (fun p q => w q p) k i := by
  rcases hs with ⟨-, e1, e2, e3⟩ | ⟨e0, -⟩
  · refine ⟨e1, e2, ?_⟩
    have hs : ∀ i j, i < mLiv σ → j < mLiv σ → e i j = true → x i + w i j ≤ x j ∧ y j + w i j ≤ y i := by
      intro i j hi hj he
      obtain ⟨a1, a2, a3⟩ := qpl_is (p := dL (σ.1 323)) (N := mN σ) hi
      obtain ⟨b1, b2, b3⟩ := qpl_is (p := dL (σ.1 323)) (N := mN σ) hj
      have := e3 _ _ a2 b2 (Or.inl a2) a1 b1 (by rw [a3, b3]; exact he)
      rw [a3, b3] at this
      exact this
    have s1 : sol (mLiv σ) e w x := ⟨fun q hq => (h q hq).1, fun p q hp hq he => (hs p q hp hq he).1⟩
    have s2 : sol (mLiv σ) (fun p q => e q p) (fun p q => w q p) y := ⟨fun q hq => (h q hq).2.2.1, fun p q hp hq he => (hs q p hq hp he).2⟩
    intro i hi
    have := wF_le s1 k i hi
    have := wF_le s2 k i hi
    have := h i hi
    omega
  · omega
