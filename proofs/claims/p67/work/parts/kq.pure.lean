/-! the open plans when one goes -/
theorem cn_rm {b b' : Nat → Bool} {K j : Nat} (hK : K ≤ 2) (hj : j < K) (h1 : b j = true) (h2 : b' j = false) (h3 : ∀ i, i < K → i ≠ j → b' i = b i) : cn b' K + 1 = cn b K ∧ cn b' (j + 1) = cn b j ∧ ∀ i, i + 1 < cn b K → qpl b' K i = qpl b K (if i < cn b j then i else i + 1) := by
  have hc : (K = 1 ∧ j = 0) ∨ (K = 2 ∧ j = 0) ∨ (K = 2 ∧ j = 1) := by omega
  rcases hc with ⟨rfl, rfl⟩ | ⟨rfl, rfl⟩ | ⟨rfl, rfl⟩
  · refine ⟨by simp [cn, h1, h2], by simp [cn, h2], fun i hi => ?_⟩
    have : cn b 1 = 1 := by simp [cn, h1]
    omega
  · have e := h3 1 (by omega) (by omega)
    cases hb : b 1 with
    | true =>
      rw [hb] at e
      refine ⟨by simp [cn, h1, h2, hb, e], by simp [cn, h2], fun i hi => ?_⟩
      have e2 : cn b 2 = 2 := by simp [cn, h1, hb]
      have e0 : i = 0 := by omega
      subst e0
      simp [cn, qpl, h1, h2, hb, e]
    | false =>
      rw [hb] at e
      refine ⟨by simp [cn, h1, h2, hb, e], by simp [cn, h2], fun i hi => ?_⟩
      have e2 : cn b 2 = 1 := by simp [cn, h1, hb]
      omega
  · have e := h3 0 (by omega) (by omega)
    cases hb : b 0 with
    | true =>
      rw [hb] at e
      refine ⟨by simp [cn, h1, h2, hb, e], by simp [cn, h2, hb, e], fun i hi => ?_⟩
      have e2 : cn b 2 = 2 := by simp [cn, h1, hb]
      have e0 : i = 0 := by omega
      subst e0
      simp [cn, qpl, h1, h2, hb, e]
    | false =>
      rw [hb] at e
      refine ⟨by simp [cn, h1, h2, hb, e], by simp [cn, h2, hb, e], fun i hi => ?_⟩
      have e2 : cn b 2 = 1 := by simp [cn, h1, hb]
      omega
theorem mO_rw {s : jM} {f : Nat → Int32} (k : Nat) : mO (rw3 s f) k = true ↔ bt (f 7) k := by
  unfold mO bt
  rw [rw3_sf]
  exact decide_eq_true_iff
/-- what the plan j does to those that are open -/
theorem mO_ps {s : jM} {f : Nat → Int32} {j : Nat} (hj : j < 31) :
    (¬ (mO (rw3 s (psI s f j)) j = true ∧ s.1 328 j = f 5) ∧ psI s f (j + 1) = psI s f j) ∨
    (mO (rw3 s (psI s f j)) j = true ∧ s.1 328 j = f 5 ∧ mO (rw3 s (psI s f (j + 1))) j = false ∧ (∀ i, i < 31 → i ≠ j → mO (rw3 s (psI s f (j + 1))) i = mO (rw3 s (psI s f j)) i) ∧
      psI s f (j + 1) = fun i => if i = 7 then psI s f j 7 ||| (1 <<< (nI j &&& 31)) else fu (psI s f j) (8 + 20 * (s.1 327 j).toNatClampNeg + 1) (s.1 329 j) i) := by
  have e5 : psI s f j 5 = f 5 := psX_o s f (by omega) (fun p => by omega) j
  by_cases c : mO (rw3 s (psI s f j)) j = true ∧ s.1 328 j = f 5
  · refine Or.inr ⟨c.1, c.2, ?_, fun i hi hne => ?_, ?_⟩
    · refine Bool.eq_false_iff.mpr (fun z => ?_)
      rw [mO_rw, psI_7 s f hj (j + 1) (by omega)] at z
      exact z.2 ⟨by omega, c.2⟩
    · refine Bool.eq_iff_iff.mpr ?_
      rw [mO_rw, mO_rw, psI_7 s f hi (j + 1) (by omega), psI_7 s f hi j (by omega)]
      exact ⟨fun z => ⟨z.1, fun w => z.2 ⟨by omega, w.2⟩⟩, fun z => ⟨z.1, fun w => z.2 ⟨by omega, w.2⟩⟩⟩
    · show ps1 s j (psI s f j) = _
      rcases ps1_fu s j (psI s f j) with e | ⟨-, -, e⟩
      · exfalso
        have h9 := psI_7 s f hj (j + 1) (by omega)
        have h8 := (mO_rw (s := s) (f := psI s f j) j).mp c.1
        have e9 : psI s f (j + 1) = psI s f j := e
        rw [e9] at h9
        exact (h9.mp h8).2 ⟨by omega, c.2⟩
      · exact e
  · refine Or.inl ⟨c, ?_⟩
    show ps1 s j (psI s f j) = _
    unfold ps1
    rw [if_neg (fun z => c ⟨mO_rw j |>.mpr z.1, by rw [← e5]; exact z.2⟩)]
