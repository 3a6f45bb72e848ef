/-! a month: the proposal taken over, the payments; months that pass -/
/-- two states that agree on flat: a row of one is a row of the other -/
theorem mk_fl {c c' r : jM} {f f' : Nat → Int32} {R N : Nat} (hR : R ≤ 6) (hN : N ≤ 10) (e : ∀ a, 37 ≤ a → a ≤ 56 → ∀ j, j < 10 → ¬ (a = 37 ∧ j = 6) → c'.1 a j = c.1 a j) (h6 : c'.1 37 6 = c.1 37 6) (hf : ∀ j, j < 208 → f' j = f j) (h : flR (mkS c r f) 37 f R N) : flR (mkS c' r f') 37 f' R N :=
  flR_cg hR hN hf (fun j hj => by
    rw [mkS_lo (by omega) (by omega), mkS_lo (by omega) (by omega)]
    by_cases q : j = 6
    · rw [q]; exact h6
    · exact e 37 (by omega) (by omega) j (by omega) (by omega)) (fun k k1 k2 k3 j hj => by
    rw [mkS_lo (by omega) (by omega), mkS_lo (by omega) (by omega)]
    refine e _ (by omega) (by omega) j ?_ (by omega)
    unfold fLn at hj
    split at hj
    · omega
    · split at hj <;> omega) h
theorem cu_o {σ τ : jM} (h : cuP σ τ) {a j : Nat} (ha : a < 259 ∨ 279 < a) (h0 : a ≠ 0) : τ.1 a j = σ.1 a j := h.1.2.2 a j (by
  unfold aCu aMk
  simp only [jble, Bool.or_eq_false_iff, Bool.and_eq_false_iff, decide_eq_false_iff_not, beq_eq_false_iff_ne]
  omega)
/-- behind the proposal's taking over -/
theorem pm_2 {ρ1 ρ3 r : jM} {f : Nat → Int32} {x : Int32} {R N K : Nat} (h : xRk (mkS (jup ρ1 37 5 x) r (fu f 5 x)) R N K) (A : auP ρ1 ρ3) : xRk (mkS (jup ρ3 37 5 x) r (fu (paF r f) 5 x)) R N K ∧ (∀ a, 0 < a → (a < 37 ∨ 56 < a) → (a < 259 ∨ 299 < a) → ρ3.1 a = ρ1.1 a) ∧ ρ3.1 37 = ρ1.1 37 := by
  obtain ⟨r6, n10⟩ := h.1.1
  obtain ⟨n1, n2, n3, n4, -, -, f7, -⟩ := xv_n h
  have m4 : mN r = N := by
    rw [← n3]
    unfold mN
    rw [mkS_hi (a := 322) (by omega) (by omega)]
  have s : sE (rw3 r f) (mkS (jup ρ1 37 5 x) r (fu f 5 x)) := by
    refine ⟨fun j hj => ?_, ?_, ?_⟩
    · rw [mkS_r, rw3_sf]
      exact fu_n _ _ (by omega)
    · rw [mkS_hi (by omega) (by omega)]; rfl
    · rw [mkS_hi (by omega) (by omega)]; rfl
  have fE : flE ρ1 (mkS (jup ρ1 37 5 x) r (fu f 5 x)) := by
    refine ⟨fun j hj => ?_, fun c c1 c2 => ?_⟩
    · rw [mkS_lo (by omega) (by omega), jup_1, if_neg (by omega)]
    · funext j
      rw [mkS_lo (by omega) (by omega), jup_1, if_neg (by omega)]
  have fok : fOK ρ1 := by
    unfold fOK at f7 ⊢
    rw [fE.1 0 (by omega), fE.1 1 (by omega)] at f7
    exact f7
  obtain ⟨⟨v1, v2, -⟩, -, v3, -⟩ := fl_sameE fok fE
  obtain ⟨w1, w2⟩ := clR_E fok fE
  have f2 : ρ1.1 38 2 = f 2 := by
    have := (fl37 h.2.1.1).2.1 2 (by omega)
    rw [mkS_lo (by omega) (by omega), mkS_r, jup_1, if_neg (by omega), fu_n _ _ (by omega)] at this
    exact this
  have eC : dC (mkS (jup ρ1 37 5 x) r (fu f 5 x)) = dC (rw3 r f) := sE_C s
  have cC : flC ρ1 = dC (rw3 r f) := by rw [← eC, ← xv_C h, v3]
  have keep : ∀ ρ : jM, (∀ a j, 0 < a → (a < 259 ∨ 279 < a) → a ≠ 52 → a ≠ 53 → ρ.1 a j = ρ1.1 a j) → (∀ a, 0 < a → (a < 37 ∨ 56 < a) → (a < 259 ∨ 299 < a) → ρ.1 a = ρ1.1 a) ∧ ρ.1 37 = ρ1.1 37 := fun ρ q => ⟨fun a h0 h1 h2 => funext fun j => q a j h0 (by omega) (by omega) (by omega), funext fun j => q 37 j (by omega) (by omega) (by omega) (by omega)⟩
  have row := h.2.1.1
  have dg := h.2.1.2.1
  have pd := h.2.1.2.2
  rw [mkS_r] at row dg pd
  have pdc : ∀ (ρ : jM) (f' : Nat → Int32), ρ.1 37 = ρ1.1 37 → f' 5 = x → f' 7 = fu f 5 x 7 → (mkS (jup ρ 37 5 x) r f').1 35 = (mkS (jup ρ1 37 5 x) r (fu f 5 x)).1 35 → plD (mkS (jup ρ 37 5 x) r f') 37 K f' := fun ρ f' e37 e5 e7 e35 => by
    obtain ⟨⟨D, d1, d2, d3⟩, d4⟩ := pd
    refine ⟨⟨D, ?_, d2, fun i hi => ?_⟩, fun k hk => ?_⟩
    · rw [mkS_lo (by omega) (by omega), jup_1, if_neg (by omega), e37]
      rw [mkS_lo (by omega) (by omega), jup_1, if_neg (by omega)] at d1
      exact d1
    · rw [e35, e5]
      have := d3 i hi
      rw [fu_s] at this
      exact this
    · rw [e5, e7, mkS_hi (by omega) (by omega)]
      have := d4 k hk
      rw [fu_s, mkS_hi (a := 328) (by omega) (by omega)] at this
      exact this
  rcases A with ⟨a1, a2⟩ | ⟨a1, a2, cu⟩ | ⟨a1, a2, μ, cu, a3⟩
  · have e : paF r f = f := by
      unfold paF
      rw [if_neg (fun z => a1 (by rw [f2]; exact z.1))]
    rw [e, a2]
    exact ⟨h, fun _ _ _ _ => rfl, rfl⟩
  · have e : paF r f = f := by
      unfold paF
      rw [if_neg (fun z => by rw [← cC, a2] at z; exact absurd z.2 (by decide))]
    obtain ⟨k1, k2⟩ := keep ρ3 (fun a j h0 h1 _ _ => cu_o cu h1 (by omega))
    rw [e]
    refine ⟨mk_new h (fun a h0 h1 h2 h3 => ?_) (mk_fl r6 n10 (fun a a1 a2 j _ _ => ?_) ?_ (fun _ _ => rfl) row) dg (pdc ρ3 _ k2 (fu_s _ _ _) rfl ?_), k1, k2⟩
    · funext j
      rw [jup_1, jup_1, k1 a h0 h1 h2]
    · rw [jup_1, jup_1, cu_o cu (by omega) (by omega)]
    · rw [jup_1, jup_1, k2]
    · rw [mkS_lo (by omega) (by omega), mkS_lo (by omega) (by omega)]
      funext j
      rw [jup_1, jup_1, k1 35 (by omega) (by omega) (by omega)]
  · have so : (dC (rw3 r f)).isSome = true := by
      rw [← cC]
      rcases ec : flC ρ1 with _ | b
      · exact absurd ec a2
      · rfl
    have e : paF r f = agR (mCh (mkS (jup ρ1 37 5 x) r (fu f 5 x))) (mPy (mkS (jup ρ1 37 5 x) r (fu f 5 x))) f N := by
      unfold paF
      rw [if_pos ⟨by rw [← f2]; exact a1, so⟩, m4, (sE_Ch s).1, (sE_Ch s).2]
    have ag := xv_ag h
    rw [mkS_r] at ag
    have ef : fu (paF r f) 5 x = agR (mCh (mkS (jup ρ1 37 5 x) r (fu f 5 x))) (mPy (mkS (jup ρ1 37 5 x) r (fu f 5 x))) (fu f 5 x) N := by
      rw [e]
      exact (fu_ag (by omega) rfl).symm
    have eN : fN ρ1 = N := by rw [← n1]; exact v1.symm
    have ea : ∀ a j, ρ3.1 a j = (agS (mCh (mkS (jup ρ1 37 5 x) r (fu f 5 x))) (clY (mkS (jup ρ1 37 5 x) r (fu f 5 x))) μ N).1 a j := fun a j => by
      rw [a3, eN]
      exact congrArg (fun z : jM => z.1 a j) (agS_cg (fun p hp => ⟨by rw [← w1]; exact xv_Rm h hp, by rw [← w2]⟩))
    obtain ⟨k1, k2⟩ := keep ρ3 (fun a j h0 h1 h2 h3 => by rw [ea, agS_o _ _ _ _ ⟨h2, h3⟩, cu_o cu h1 (by omega)])
    rw [ef]
    refine ⟨mk_new h (fun a h0 h1 h2 h3 => ?_) ?_ (dG_ag r6 n10 dg ag) (pdc ρ3 _ k2 (by rw [agX_lo (by omega), fu_s]) (by rw [agX_lo (by omega)]) ?_), k1, k2⟩
    · funext j
      rw [jup_1, jup_1, k1 a h0 h1 h2]
    · refine flR_cg r6 n10 (fun _ _ => rfl) (fun j hj => ?_) (fun k i1 i2 i3 j hj => ?_) (ag_fl r6 n10 row ag)
      · rw [mkS_lo (by omega) (by omega), agS_o _ _ _ _ (by omega), mkS_lo (by omega) (by omega), jup_1, jup_1, k2]
      · have e1 : (mkS (jup ρ3 37 5 x) r (agR (mCh (mkS (jup ρ1 37 5 x) r (fu f 5 x))) (mPy (mkS (jup ρ1 37 5 x) r (fu f 5 x))) (fu f 5 x) N)).1 (37 + k) j = ρ3.1 (37 + k) j := by rw [mkS_lo (by omega) (by omega), jup_1, if_neg (by omega)]
        have e2 : (mkS (jup ρ1 37 5 x) r (fu f 5 x)).1 (37 + k) j = μ.1 (37 + k) j := by rw [mkS_lo (by omega) (by omega), jup_1, if_neg (by omega), cu_o cu (by omega) (by omega)]
        rw [e1, ea, agS_at, agS_at, e2]
    · rw [mkS_lo (by omega) (by omega), mkS_lo (by omega) (by omega)]
      funext j
      rw [jup_1, jup_1, k1 35 (by omega) (by omega) (by omega)]
theorem cl1_at (p : Nat) (f : Nat → Int32) {q w : Nat} (hw : w < 20) : cl1 p f (8 + 20 * q + w) = if q = p ∧ 0 ≤ f (8 + 20 * p + 2) ∧ w = 6 then f (8 + 20 * p + 6) + 1 else if q = p ∧ 0 ≤ f (8 + 20 * p + 2) ∧ w = 4 then f (8 + 20 * p + 4) + f (8 + 20 * p + 3) else f (8 + 20 * q + w) := by
  unfold cl1
  by_cases c : 0 ≤ f (8 + 20 * p + 2)
  · rw [if_pos c]
    have e6 : (8 + 20 * q + w = 8 + 20 * p + 6) ↔ (q = p ∧ 0 ≤ f (8 + 20 * p + 2) ∧ w = 6) := ⟨fun z => ⟨by omega, c, by omega⟩, fun z => by omega⟩
    have e4 : (8 + 20 * q + w = 8 + 20 * p + 4) ↔ (q = p ∧ 0 ≤ f (8 + 20 * p + 2) ∧ w = 4) := ⟨fun z => ⟨by omega, c, by omega⟩, fun z => by omega⟩
    simp only [e6, e4]
  · rw [if_neg c, if_neg (fun z => c z.2.1), if_neg (fun z => c z.2.1)]
theorem clI_at (f : Nat → Int32) {q w : Nat} (hw : w < 20) : ∀ N, clI f N (8 + 20 * q + w) = if q < N ∧ 0 ≤ f (8 + 20 * q + 2) ∧ w = 6 then f (8 + 20 * q + 6) + 1 else if q < N ∧ 0 ≤ f (8 + 20 * q + 2) ∧ w = 4 then f (8 + 20 * q + 4) + f (8 + 20 * q + 3) else f (8 + 20 * q + w)
  | 0 => by
    rw [if_neg (fun z => by omega), if_neg (fun z => by omega)]
    rfl
  | N + 1 => by
    have k : ∀ w, w < 20 → w ≠ 6 → w ≠ 4 → ∀ q, clI f N (8 + 20 * q + w) = f (8 + 20 * q + w) := fun w hw w6 w4 q => by
      rw [clI_at f hw N, if_neg (fun z => w6 z.2.2), if_neg (fun z => w4 z.2.2)]
    have ih := clI_at f (q := q) hw N
    show cl1 N (clI f N) (8 + 20 * q + w) = _
    rw [cl1_at N _ hw, k 2 (by omega) (by omega) (by omega), k 3 (by omega) (by omega) (by omega)]
    by_cases e : q = N
    · subst e
      have i6 := clI_at f (q := q) (w := 6) (by omega) q
      have i4 := clI_at f (q := q) (w := 4) (by omega) q
      rw [if_neg (fun z => by omega), if_neg (fun z => by omega)] at i6 i4 ih
      rw [i6, i4, ih]
      have lt : q < q + 1 := by omega
      simp only [lt, true_and]
    · rw [if_neg (fun z => e z.1), if_neg (fun z => e z.1), ih]
      have a6 : (q < N ∧ 0 ≤ f (8 + 20 * q + 2) ∧ w = 6) ↔ (q < N + 1 ∧ 0 ≤ f (8 + 20 * q + 2) ∧ w = 6) := ⟨fun z => ⟨by omega, z.2⟩, fun z => ⟨by omega, z.2⟩⟩
      have a4 : (q < N ∧ 0 ≤ f (8 + 20 * q + 2) ∧ w = 4) ↔ (q < N + 1 ∧ 0 ≤ f (8 + 20 * q + 2) ∧ w = 4) := ⟨fun z => ⟨by omega, z.2⟩, fun z => ⟨by omega, z.2⟩⟩
      simp only [a6, a4]
theorem cl1_lo (p : Nat) (f : Nat → Int32) {j : Nat} (hj : j < 8) : cl1 p f j = f j := by
  unfold cl1
  split
  · show (if j = 8 + 20 * p + 6 then f (8 + 20 * p + 6) + 1 else if j = 8 + 20 * p + 4 then f (8 + 20 * p + 4) + f (8 + 20 * p + 3) else f j) = f j
    rw [if_neg (by omega), if_neg (by omega)]
  · rfl
theorem clI_lo (f : Nat → Int32) {j : Nat} (hj : j < 8) : ∀ N, clI f N j = f j
  | 0 => rfl
  | N + 1 => by
    show cl1 N (clI f N) j = _
    rw [cl1_lo _ _ hj, clI_lo f hj N]
/-- the payments of a month, in the class -/
theorem fCol_at (σ : jM) : ∀ N, N ≤ 10 → (∀ j, (fCol σ N).1 54 j = if j < N ∧ fH σ (nI j) = true then σ.1 54 j + σ.1 53 j else σ.1 54 j) ∧ ∀ j, (fCol σ N).1 56 j = if j < N ∧ fH σ (nI j) = true then σ.1 56 j + 1 else σ.1 56 j
  | 0, _ => ⟨fun j => by rw [if_neg (fun z => by omega)]; rfl, fun j => by rw [if_neg (fun z => by omega)]; rfl⟩
  | N + 1, hN => by
    obtain ⟨i1, i2⟩ := fCol_at σ N (by omega)
    have o := fCol_52 σ N
    have hh : fH (fCol σ N) (nI N) = fH σ (nI N) := by
      unfold fH fP
      rw [o 37 (by omega) (by omega), o 52 (by omega) (by omega)]
    have st : fCol σ (N + 1) = if fH (fCol σ N) (nI N) = true then jup (jup (fCol σ N) 54 N ((fCol σ N).1 54 N + (fCol σ N).1 53 N)) 56 N ((fCol σ N).1 56 N + 1) else fCol σ N := by
      show (if fH (fCol σ N) (nI N) = true then jup (jup (fCol σ N) 54 N ((fCol σ N).1 54 N + (fCol σ N).1 53 N)) 56 N ((jup (fCol σ N) 54 N ((fCol σ N).1 54 N + (fCol σ N).1 53 N)).1 56 N + 1) else fCol σ N) = _
      rw [jup_1 _ 54 N _ 56 N, if_neg (show ¬ ((56 : Nat) = 54 ∧ N = N) by omega)]
    rw [st, hh]
    by_cases c : fH σ (nI N) = true
    · rw [if_pos c, i1, i2, o 53 (by omega) (by omega), if_neg (fun z => by omega), if_neg (fun z => by omega)]
      refine ⟨fun j => ?_, fun j => ?_⟩
      · rw [jup_1, if_neg (by omega), jup_1, i1]
        by_cases e : j = N
        · rw [if_pos ⟨rfl, e⟩, e, if_pos ⟨by omega, c⟩]
        · rw [if_neg (fun z => e z.2)]
          have a : (j < N ∧ fH σ (nI j) = true) ↔ (j < N + 1 ∧ fH σ (nI j) = true) := ⟨fun z => ⟨by omega, z.2⟩, fun z => ⟨by omega, z.2⟩⟩
          simp only [a]
      · rw [jup_1, jup_1, i2]
        by_cases e : j = N
        · rw [if_pos ⟨rfl, e⟩, e, if_pos ⟨by omega, c⟩]
        · rw [if_neg (fun z => e z.2), if_neg (by omega)]
          have a : (j < N ∧ fH σ (nI j) = true) ↔ (j < N + 1 ∧ fH σ (nI j) = true) := ⟨fun z => ⟨by omega, z.2⟩, fun z => ⟨by omega, z.2⟩⟩
          simp only [a]
    · rw [if_neg c]
      refine ⟨fun j => ?_, fun j => ?_⟩
      · rw [i1]
        have a : (j < N ∧ fH σ (nI j) = true) ↔ (j < N + 1 ∧ fH σ (nI j) = true) := ⟨fun z => ⟨by omega, z.2⟩, fun z => ⟨by
          by_cases e : j = N
          · rw [e] at z; exact absurd z.2 c
          · omega, z.2⟩⟩
        simp only [a]
      · rw [i2]
        have a : (j < N ∧ fH σ (nI j) = true) ↔ (j < N + 1 ∧ fH σ (nI j) = true) := ⟨fun z => ⟨by omega, z.2⟩, fun z => ⟨by
          by_cases e : j = N
          · rw [e] at z; exact absurd z.2 c
          · omega, z.2⟩⟩
        simp only [a]
