/-! moving in and out, values, refusals -/
theorem cn_chg {q l : Nat → Bool} {p N : Nat} (hp : p < N) (h : ∀ j, j < N → j ≠ p → q j = l j) : cn q N + (if l p = true then 1 else 0) = cn l N + (if q p = true then 1 else 0) := by
  rw [cn_rem (p := q) (x := p) N hp, cn_rem (p := l) (x := p) N hp]
  have : cn (fun j => q j && decide (j ≠ p)) N = cn (fun j => l j && decide (j ≠ p)) N := cn_congr N (fun j hj => by
    by_cases e : j = p
    · simp [e]
    · rw [h j hj e])
  omega
/-- numbers that dI doesn't speak of -/
theorem dI_ot {f : Nat → Int32} {p w : Nat} {x : Int32} (d : dI f) (hw : w = 0 ∨ (2 ≤ w ∧ w ≤ 6) ∨ (13 ≤ w ∧ w < 20)) : dI (fu f (8 + 20 * p + w) x) := by
  obtain ⟨d1, d2, d3, d4, d5⟩ := d
  refine ⟨fun q hq r hr => ?_, fun q hq => ?_, ?_, ?_, ?_⟩
  · rw [fu_n _ _ (by omega)]; exact d1 q hq r hr
  · rw [fu_n _ _ (by omega)]; exact d2 q hq
  · rw [fu_n _ _ (by omega)]; exact d3
  · rw [fu_n _ _ (by omega)]; exact d4
  · rw [fu_n _ _ (by omega)]; exact d5
theorem fu_57 {f : Nat → Int32} {p w : Nat} {x : Int32} : fu f (8 + 20 * p + w) x 5 = f 5 ∧ fu f (8 + 20 * p + w) x 7 = f 7 := fu_5 (by omega)
/-- the state that behind the reference's own writing still is the class's -/
theorem mRem_lo (τ : jM) (a : Nat) (h : a < 322) : (mRem (jup τ 322 11 0)).1 a = τ.1 a := by
  funext j
  rw [mRem_o _ _ _ (by omega) (by omega), jup_1, if_neg (by omega)]
theorem up_lo {z τ : jM} (h : ∀ a, a < 322 → z.1 a = τ.1 a) (k : Nat) (x : Int32) : ∀ a, a < 322 → (jup z 323 k x).1 a = τ.1 a := fun a ha => by
  rw [← h a ha]
  funext j
  rw [jup_1, if_neg (by omega)]
theorem mRem_323 {σ τ : jM} (q : mQ σ τ) (j : Nat) : (mRem (jup τ 322 11 0)).1 323 j = σ.1 323 j := by
  rw [mRem_o _ _ _ (by omega) (by omega), jup_1 τ 322 11 0 323 j, if_neg (by omega), q 323 (by omega)]
theorem fu_jup {z : jM} {f : Nat → Int32} {j : Nat} (k : Nat) (x : Int32) (h : z.1 323 j = f j) : (jup z 323 k x).1 323 j = fu f k x j := by
  rw [jup_1]
  unfold fu
  by_cases e : j = k
  · rw [if_pos ⟨rfl, e⟩, if_pos e]
  · rw [if_neg (fun z => e z.2), if_neg e]
    exact h
theorem xv_lo {υ τ : jM} (e : ∀ a, a < 322 → υ.1 a = τ.1 a) : flM τ = flM υ ∧ fN τ = fN υ := by
  unfold flM fN liv
  rw [e 39 (by omega), e 37 (by omega)]
  exact ⟨rfl, rfl⟩
/-- a person moves in -/
theorem dG_in {f : Nat → Int32} {R N p : Nat} (d : dG f R N) (hc : cn (dL (fu f (8 + 20 * p + 0) 1)) N ≤ R) : dG (fu f (8 + 20 * p + 0) 1) R N := by
  obtain ⟨d1, d2, d3, d4, d5, d6, d7⟩ := d
  refine ⟨dI_ot d1 (by omega), ?_, fun q hq r hr => ?_, fun q hq => ?_, fun q hq => ?_, fun q hq => ?_, hc⟩
  · rw [fu_57.1]; exact d2
  · rw [fu_n _ _ (by omega), fu_n _ _ (by omega)]; exact d3 q hq r hr
  · rw [fu_n _ _ (show 8 + 20 * q + 2 ≠ 8 + 20 * p + 0 by omega), fu_n _ _ (show 8 + 20 * q + 3 ≠ 8 + 20 * p + 0 by omega)]
    rcases d4 q hq with c | ⟨c1, c2, c3⟩
    · exact Or.inl c
    · by_cases e : q = p
      · subst e
        exact Or.inr ⟨c1, fu_s _ _ _, c3⟩
      · exact Or.inr ⟨c1, by rw [fu_n _ _ (by omega)]; exact c2, c3⟩
  · rw [fu_n _ _ (by omega)]; exact d5 q hq
  · rw [fu_n _ _ (by omega)]; exact d6 q hq
/-- a person moves out -/
def fOut (f : Nat → Int32) (p : Nat) : Nat → Int32 := fu (fu (fu f (8 + 20 * p + 0) 2) (8 + 20 * p + 2) (-1)) (8 + 20 * p + 3) 0
theorem fOut_n {f : Nat → Int32} {p k : Nat} (h : k ≠ 8 + 20 * p + 0 ∧ k ≠ 8 + 20 * p + 2 ∧ k ≠ 8 + 20 * p + 3) : fOut f p k = f k := by
  unfold fOut
  rw [fu_n _ _ h.2.2, fu_n _ _ h.2.1, fu_n _ _ h.1]
theorem fOut_at (f : Nat → Int32) (p : Nat) : fOut f p (8 + 20 * p + 0) = 2 ∧ fOut f p (8 + 20 * p + 2) = -1 ∧ fOut f p (8 + 20 * p + 3) = 0 := by
  unfold fOut
  refine ⟨?_, ?_, fu_s _ _ _⟩
  · rw [fu_n _ _ (by omega), fu_n _ _ (by omega), fu_s]
  · rw [fu_n _ _ (by omega), fu_s]
theorem dG_out {f : Nat → Int32} {R N p : Nat} (d : dG f R N) (hp : p < N) : dG (fOut f p) R N := by
  obtain ⟨d1, d2, d3, d4, d5, d6, d7⟩ := d
  obtain ⟨o1, o2, o3⟩ := fOut_at f p
  refine ⟨dI_ot (dI_ot (dI_ot d1 (by omega)) (by omega)) (by omega), ?_, fun q hq r hr => ?_, fun q hq => ?_, fun q hq => ?_, fun q hq => ?_, ?_⟩
  · rw [fOut_n (by omega)]; exact d2
  · rw [fOut_n (by omega), fOut_n (by omega)]; exact d3 q hq r hr
  · by_cases e : q = p
    · subst e
      exact Or.inl ⟨o2, o3⟩
    · rw [fOut_n (by omega), fOut_n (by omega), fOut_n (by omega)]; exact d4 q hq
  · by_cases e : q = p
    · subst e
      rw [o3]
      exact ⟨by decide, by decide⟩
    · rw [fOut_n (by omega)]; exact d5 q hq
  · rw [fOut_n (by omega)]; exact d6 q hq
  · have c := cn_chg (q := dL (fOut f p)) (l := dL f) hp (fun j _ hj => by
      unfold dL
      rw [fOut_n (by omega)])
    have z : dL (fOut f p) p = false := by
      unfold dL
      rw [o1]
      decide
    rw [z, if_neg (show ¬ false = true by decide)] at c
    omega
/-- a room's value or a refusal -/
def fWt (f : Nat → Int32) (p r : Nat) (v z : Int32) : Nat → Int32 := fu (fu f (8 + 20 * p + (7 + r)) v) (8 + 20 * p + (13 + r)) z
theorem fWt_n {f : Nat → Int32} {p r k : Nat} {v z : Int32} (h : k ≠ 8 + 20 * p + (7 + r) ∧ k ≠ 8 + 20 * p + (13 + r)) : fWt f p r v z k = f k := by
  unfold fWt
  rw [fu_n _ _ h.2, fu_n _ _ h.1]
theorem fWt_at (f : Nat → Int32) (p r : Nat) (v z : Int32) : fWt f p r v z (8 + 20 * p + (7 + r)) = v ∧ fWt f p r v z (8 + 20 * p + (13 + r)) = z := by
  unfold fWt
  refine ⟨?_, fu_s _ _ _⟩
  rw [fu_n _ _ (by omega), fu_s]
theorem dG_w {f : Nat → Int32} {R N p r : Nat} {v z : Int32} (d : dG f R N) (hr : r < 6) (hN : N ≤ 10) (hv : 0 ≤ v ∧ v ≤ 9999) (hz : z = 0 ∨ z = 1 ∧ v = 0) : dG (fWt f p r v z) R N := by
  obtain ⟨⟨e1, e2, e3, e4, e5⟩, d2, d3, d4, d5, d6, d7⟩ := d
  obtain ⟨o1, o2⟩ := fWt_at f p r v z
  refine ⟨⟨fun q hq s hs => ?_, fun q hq => ?_, ?_, ?_, ?_⟩, ?_, fun q hq s hs => ?_, fun q hq => ?_, fun q hq => ?_, fun q hq => ?_, ?_⟩
  · by_cases c : q = p ∧ s = r
    · rw [c.1, c.2, o1]; exact hv
    · rw [fWt_n (by omega)]; exact e1 q hq s hs
  · rw [fWt_n (by omega)]; exact e2 q hq
  · rw [fWt_n (by omega)]; exact e3
  · rw [fWt_n (by omega)]; exact e4
  · rw [fWt_n (by omega)]; exact e5
  · rw [fWt_n (by omega)]; exact d2
  · by_cases c : q = p ∧ s = r
    · rw [c.1, c.2, o1, o2]; exact hz
    · rw [fWt_n (by omega), fWt_n (by omega)]; exact d3 q hq s hs
  · rw [fWt_n (by omega), fWt_n (by omega), fWt_n (by omega)]; exact d4 q hq
  · rw [fWt_n (by omega)]; exact d5 q hq
  · rw [fWt_n (by omega)]; exact d6 q hq
  · rw [cn_congr N (fun j hj => by
      unfold dL
      rw [fWt_n (by omega)] : ∀ j, j < N → dL (fWt f p r v z) j = dL f j)]
    exact d7
theorem flR_w {σ : jM} {f : Nat → Int32} {R N p r : Nat} {v y z : Int32} (h : flR σ 37 f R N) (hR : R ≤ 6) (hN : N ≤ 10) (hp : p < N) (hr : r < R) (hy : y = if z = 1 then -1 else v) : flR (jup σ (42 + p) r y) 37 (fWt f p r v z) R N := by
  obtain ⟨⟨a1, a2, a3, a4, a5, a6⟩, a7, a8, a9⟩ := h
  obtain ⟨o1, o2⟩ := fWt_at f p r v z
  have n : ∀ i l, (i < 42 ∨ 51 < i) → (jup σ (42 + p) r y).1 i l = σ.1 i l := fun i l hi => by rw [jup_1, if_neg (by omega)]
  refine ⟨⟨?_, ?_, ?_, ?_, ?_, ?_⟩, fun i hi => ?_, fun q hq => ?_, fun q hq => ⟨?_, fun s hs => ?_⟩⟩
  · rw [n _ _ (by omega)]; exact a1
  · rw [n _ _ (by omega)]; exact a2
  · rw [n _ _ (by omega), fWt_n (by omega)]; exact a3
  · rw [n _ _ (by omega), fWt_n (by omega)]; exact a4
  · rw [n _ _ (by omega), fWt_n (by omega)]; exact a5
  · rw [n _ _ (by omega), fWt_n (by omega)]; exact a6
  · rw [n _ _ (by omega), fWt_n (by omega)]; exact a7 i hi
  · rw [n _ _ (by omega), n _ _ (by omega), n _ _ (by omega), n _ _ (by omega), n _ _ (by omega), n _ _ (by omega), fWt_n (by omega), fWt_n (by omega), fWt_n (by omega), fWt_n (by omega), fWt_n (by omega), fWt_n (by omega)]
    exact a8 q hq
  · rw [n _ _ (by omega), fWt_n (by omega)]; exact (a9 q hq).1
  · unfold wR
    by_cases c : q = p ∧ s = r
    · rw [c.1, c.2, o1, o2, jup_1, if_pos (by omega)]; exact hy
    · rw [fWt_n (by omega), fWt_n (by omega), jup_1, if_neg (by omega)]; exact (a9 q hq).2 s hs
theorem xs_moveIn (x : Int32) : xS oX11_moveIn oM_moveIn [.int x] := by
  intro σ hx
  obtain ⟨R, N, K, h⟩ := hx
  refine ⟨⟨rfl, (xv_his h).choose_spec.choose_spec.2.2.2.2.2.2.1, (xv_n h).2.2.2.2.2.2.1⟩, ?_⟩
  have eP := (xv_P h x).1
  obtain ⟨n1, n2, n3, n4, -, m6, -, m8⟩ := xv_n h
  obtain ⟨l1, l2, l3, l4, -⟩ := xv_liv h
  obtain ⟨r6, n10⟩ := h.1.1
  have lv : mP σ x = true → (liv σ x.toNatClampNeg = true ↔ mD σ x.toNatClampNeg 0 = 1) := fun c => by
    rw [l1 _ (xv_p h c).1]
    unfold xl dL
    rw [decide_eq_true_eq]
    exact Iff.rfl
  have m3 : σ.1 322 3 = nI R := h.1.2.1.1
  rintro v τ (⟨c, hv, e⟩ | ⟨c, d, hv, e⟩ | ⟨⟨c, d⟩, k, hv, e⟩ | ⟨⟨c, d⟩, k, hv, ρ, S, e⟩)
  · rw [eP] at c
    rw [e]
    refine ⟨⟨rfl, m8, m6⟩, ?_⟩
    rintro w υ (⟨g1, g2, g3⟩ | ⟨g1, -⟩ | ⟨g1, -⟩ | ⟨g1, -⟩)
    · exact xe_fin h hv g2 g3
    · exact absurd g1 c
    · exact absurd g1 c
    · exact absurd g1 c
  · rw [eP] at c
    rw [e]
    refine ⟨⟨rfl, m8, m6⟩, ?_⟩
    rintro w υ (⟨g1, -⟩ | ⟨g1, g2, g3, g4⟩ | ⟨g1, g2, -⟩ | ⟨g1, g2, -⟩)
    · rw [c] at g1; cases g1
    · exact xe_fin h hv g3 g4
    · exact absurd ((lv c).mp d) g2
    · exact absurd ((lv c).mp d) g2
  · rw [eP] at c
    rw [e]
    refine ⟨⟨rfl, m8, m6⟩, ?_⟩
    rw [n2, l3] at k
    have kk : nI (mLiv σ) = σ.1 322 3 := by
      rw [m3]
      congr 1
      omega
    rintro w υ (⟨g1, -⟩ | ⟨g1, g2, -⟩ | ⟨g1, g2, g3, g4, g5⟩ | ⟨g1, g2, g3, -⟩)
    · rw [c] at g1; cases g1
    · exact absurd ((lv c).mpr g2) d
    · exact xe_fin h hv g4 g5
    · exact absurd kk g3
  · rw [eP] at c
    obtain ⟨s1, s2, s3⟩ := sc_fx h S
    obtain ⟨p1, p2, p3⟩ := xv_p h c
    have q : mQ σ τ := by
      rw [e]
      exact mQ_up s3 1 (by omega)
    have q1 := mQ_ok h q
    refine ⟨⟨rfl, q1.2.1, q1.1⟩, ?_⟩
    dsimp only [oM_moveIn, joRI]
    rw [mQ_P q, mQ_D q, sR_Lv q.s, q 322 (by omega)]
    have kk : ¬ nI (mLiv σ) = σ.1 322 3 := by
      rw [m3, nI_eq (by omega) (by omega)]
      rw [n2, l3] at k
      omega
    rintro w υ (⟨g1, -⟩ | ⟨g1, g2, -⟩ | ⟨g1, g2, g3, -⟩ | ⟨g1, g2, g3, g4, g5⟩)
    · rw [c] at g1; cases g1
    · exact absurd ((lv c).mpr g2) d
    · exact absurd g3 kk
    · have lo : ∀ a, a < 322 → υ.1 a = τ.1 a := by
        rw [g5]
        exact up_lo (mRem_lo τ) _ _
      have ef : ∀ j, j < 208 → υ.1 323 j = fu (σ.1 323) (8 + 20 * x.toNatClampNeg + 0) 1 j := fun j _ => by
        rw [g5]
        exact fu_jup _ _ (mRem_323 q j)
      have cnt : cn (dL (fu (σ.1 323) (8 + 20 * x.toNatClampNeg + 0) 1)) N ≤ R := by
        have cc := cn_chg (q := dL (fu (σ.1 323) (8 + 20 * x.toNatClampNeg + 0) 1)) (l := dL (σ.1 323)) p1 (fun j _ hj => by
          unfold dL
          rw [fu_n _ _ (by omega)])
        rw [n2, l3] at k
        have hm : mLiv σ = cn (dL (σ.1 323)) N := xv_hm h
        have z : (if dL (fu (σ.1 323) (8 + 20 * x.toNatClampNeg + 0) 1) x.toNatClampNeg = true then 1 else 0) ≤ 1 := by
          split <;> omega
        omega
      have u : xRk υ R N K := by
        refine xCh h S (τ := τ) (fun a j ha => by rw [e, jup_1, if_neg (by omega)]) (fun a j ha => by rw [g5]; unfold mIn1; rw [jup_1, if_neg (fun z => ha z.1)]) _ ef ?_ (dG_in h.2.1.2.1 cnt) ?_ fu_57.1 fu_57.2
        · rw [e]
          exact flR_up s1 r6 n10 1 (by unfold fdK; omega)
        · rw [e, jup_1, if_neg (by omega), s2 37 (by omega) (by omega)]
      refine xc_fin u hv g4 ?_
      rw [(xv_lo lo).1, (xv_liv u).2.2.1, g5]
theorem xs_moveOut (x : Int32) : xS oX11_moveOut oM_moveOut [.int x] := by
  intro σ hx
  obtain ⟨R, N, K, h⟩ := hx
  refine ⟨⟨rfl, (xv_his h).choose_spec.choose_spec.2.2.2.2.2.2.1, (xv_n h).2.2.2.2.2.2.1⟩, ?_⟩
  have eP := (xv_P h x).1
  obtain ⟨n1, n2, n3, n4, -, m6, -, m8⟩ := xv_n h
  obtain ⟨l1, l2, l3, l4, -⟩ := xv_liv h
  obtain ⟨r6, n10⟩ := h.1.1
  have lv : mP σ x = true → (liv σ x.toNatClampNeg = true ↔ mD σ x.toNatClampNeg 0 = 1) := fun c => by
    rw [l1 _ (xv_p h c).1]
    unfold xl dL
    rw [decide_eq_true_eq]
    exact Iff.rfl
  rintro v τ (⟨c, hv, e⟩ | ⟨c, d, hv, e⟩ | ⟨⟨c, d⟩, hv, ρ, S, e⟩)
  · rw [eP] at c
    rw [e]
    refine ⟨⟨rfl, m8, m6⟩, ?_⟩
    rintro w υ (⟨g1, g2, g3⟩ | ⟨g1, -⟩ | ⟨g1, -⟩)
    · exact xe_fin h hv g2 g3
    · exact absurd g1 c
    · exact absurd g1 c
  · rw [eP] at c
    rw [e]
    refine ⟨⟨rfl, m8, m6⟩, ?_⟩
    rintro w υ (⟨g1, -⟩ | ⟨g1, g2, g3, g4⟩ | ⟨g1, g2, -⟩)
    · rw [c] at g1; cases g1
    · exact xe_fin h hv g3 g4
    · exact absurd ((lv c).mpr g2) d
  · rw [eP] at c
    obtain ⟨s1, s2, s3⟩ := sc_fx h S
    obtain ⟨p1, p2, p3⟩ := xv_p h c
    have q : mQ σ τ := by
      rw [e]
      exact mQ_up (mQ_up (mQ_up s3 2 (by omega)) (-1) (by omega)) 0 (by omega)
    have q1 := mQ_ok h q
    refine ⟨⟨rfl, q1.2.1, q1.1⟩, ?_⟩
    dsimp only [oM_moveOut, joRI]
    rw [mQ_P q, mQ_D q]
    rintro w υ (⟨g1, -⟩ | ⟨g1, g2, -⟩ | ⟨g1, g2, g4, g5⟩)
    · rw [c] at g1; cases g1
    · exact absurd ((lv c).mp d) g2
    · have lo : ∀ a, a < 322 → υ.1 a = τ.1 a := by
        rw [g5]
        exact up_lo (up_lo (up_lo (mRem_lo τ) _ _) _ _) _ _
      have ef : ∀ j, j < 208 → υ.1 323 j = fOut (σ.1 323) x.toNatClampNeg j := fun j _ => by
        rw [g5]
        exact fu_jup _ _ (fu_jup _ _ (fu_jup _ _ (mRem_323 q j)))
      have u : xRk υ R N K := by
        refine xCh h S (τ := τ) (fun a j ha => by rw [e, jup_1, if_neg (by omega), jup_1, if_neg (by omega), jup_1, if_neg (by omega)]) (fun a j ha => by rw [g5]; unfold mOut1 mLv; rw [jup_1, if_neg (fun z => ha z.1), jup_1, if_neg (fun z => ha z.1), jup_1, if_neg (fun z => ha z.1)]) _ ef ?_ (dG_out h.2.1.2.1 p1) ?_ (fOut_n (by omega)) (fOut_n (by omega))
        · rw [e]
          exact flR_up (flR_up (flR_up s1 r6 n10 2 (by unfold fdK; omega)) r6 n10 (-1) (by unfold fdK; omega)) r6 n10 0 (by unfold fdK; omega)
        · rw [e, jup_1, if_neg (by omega), jup_1, if_neg (by omega), jup_1, if_neg (by omega), s2 37 (by omega) (by omega)]
      refine xc_fin u hv g4 ?_
      rw [(xv_lo lo).1, (xv_liv u).2.2.1, g5]
/-- a value or a refusal, written on both sides -/
theorem xc_w {σ ρ : jM} {R N K : Nat} (h : xRk σ R N K) (S : scP σ ρ) {p r : Nat} {v y z : Int32} (hp : p < N) (hr : r < R) (hy : y = if z = 1 then -1 else v) (hv : 0 ≤ v ∧ v ≤ 9999) (hz : z = 0 ∨ z = 1 ∧ v = 0) : xRk (mSv1 (jup ρ (42 + p) r y) p r v z) R N K := by
  obtain ⟨s1, s2, s3⟩ := sc_fx h S
  obtain ⟨r6, n10⟩ := h.1.1
  have q : mQ σ (jup ρ (42 + p) r y) := mQ_up s3 y (by omega)
  refine xCh h S (τ := jup ρ (42 + p) r y) (fun b i hb => by rw [jup_1, if_neg (by omega)]) (fun b i hb => by unfold mSv1; rw [jup_1, if_neg (fun z => hb z.1), jup_1, if_neg (fun z => hb z.1)]) (fWt (σ.1 323) p r v z) (fun i hi => fu_jup _ _ (fu_jup _ _ (mRem_323 q i))) (flR_w s1 r6 n10 hp hr hy) (dG_w h.2.1.2.1 (by omega) n10 hv hz) ?_ (fWt_n (by omega)) (fWt_n (by omega))
  rw [jup_1, if_neg (by omega), s2 37 (by omega) (by omega)]
theorem xs_setValue (x y z : Int32) : xS oX11_setValue oM_setValue [.int x, .int y, .int z] := by
  intro σ hx
  obtain ⟨R, N, K, h⟩ := hx
  refine ⟨⟨rfl, (xv_his h).choose_spec.choose_spec.2.2.2.2.2.2.1⟩, ?_⟩
  have eP := (xv_P h x).1
  have eR := (xv_R h y).1
  obtain ⟨n1, n2, n3, n4, -, m6, -, m8⟩ := xv_n h
  rintro v τ (⟨c, hv, e⟩ | ⟨c, d, hv, e⟩ | ⟨c, d, hv, ρ, S, e⟩)
  · rw [eP, eR] at c
    rw [e]
    refine ⟨⟨rfl, m8, m6⟩, ?_⟩
    rintro w υ (⟨g1, g2, g3⟩ | ⟨g1, g2, -⟩ | ⟨g1, g2, -⟩)
    · exact xe_fin h hv g2 g3
    · exact absurd ⟨g1, g2⟩ c
    · exact absurd ⟨g1, g2⟩ c
  · rw [eP, eR] at c
    rw [e]
    refine ⟨⟨rfl, m8, m6⟩, ?_⟩
    rintro w υ (⟨g1, -⟩ | ⟨g1, g2, g3, g4, g5⟩ | ⟨g1, g2, g3, -⟩)
    · exact absurd c g1
    · exact xe_fin h hv g4 g5
    · exact absurd g3 d
  · rw [eP, eR] at c
    obtain ⟨s1, s2, s3⟩ := sc_fx h S
    obtain ⟨p1, p2, p3⟩ := xv_p h c.1
    obtain ⟨r1, r2, r3⟩ := xv_r h c.2
    have q : mQ σ τ := by
      rw [e]
      exact mQ_up s3 z (by omega)
    have q1 := mQ_ok h q
    refine ⟨⟨rfl, q1.2.1, q1.1⟩, ?_⟩
    dsimp only [oM_setValue, joRIII]
    rw [mQ_P q, mQ_D q, mQ_R q]
    rintro w υ (⟨g1, -⟩ | ⟨g1, g2, g3, -⟩ | ⟨g1, g2, g3, g4, g5⟩)
    · exact absurd c g1
    · rw [d] at g3; cases g3
    · refine xc_fin (R := R) (N := N) (K := K) ?_ hv g4 (xv_w h c.1 c.2).2.1
      rw [g5, e]
      exact xc_w h S p1 r1 (if_neg (by decide)).symm (mIn_le.mp d) (Or.inl rfl)
theorem xs_setRefusal (x y z : Int32) (hz : z = 0 ∨ z = 1) : xS oX11_setRefusal oM_setRefusal [.int x, .int y, .int z] := by
  intro σ hx
  obtain ⟨R, N, K, h⟩ := hx
  refine ⟨⟨rfl, (xv_his h).choose_spec.choose_spec.2.2.2.2.2.2.1, hz⟩, ?_⟩
  have eP := (xv_P h x).1
  have eR := (xv_R h y).1
  obtain ⟨n1, n2, n3, n4, -, m6, -, m8⟩ := xv_n h
  rintro v τ (⟨c, hv, e⟩ | ⟨c, d, hv, e⟩ | ⟨c, d, hv, ρ, S, e⟩)
  · rw [eP, eR] at c
    rw [e]
    refine ⟨⟨rfl, m8, m6, hz⟩, ?_⟩
    rintro w υ (⟨g1, g2, g3⟩ | ⟨g1, g2, -⟩ | ⟨g1, g2, -⟩)
    · exact xe_fin h hv g2 g3
    · exact absurd ⟨g1, g2⟩ c
    · exact absurd ⟨g1, g2⟩ c
  · rw [eP, eR] at c
    rw [(xv_w h c.1 c.2).2.2] at d
    rw [e]
    refine ⟨⟨rfl, m8, m6, hz⟩, ?_⟩
    rintro w υ (⟨g1, -⟩ | ⟨g1, g2, g3, g4, g5⟩ | ⟨g1, g2, g3, -⟩)
    · exact absurd c g1
    · exact xe_fin h hv g4 g5
    · exact absurd d g3
  · rw [eP, eR] at c
    rw [(xv_w h c.1 c.2).2.2] at d
    obtain ⟨s1, s2, s3⟩ := sc_fx h S
    obtain ⟨p1, p2, p3⟩ := xv_p h c.1
    obtain ⟨r1, r2, r3⟩ := xv_r h c.2
    have q : mQ σ τ := by
      rw [e]
      exact mQ_up s3 _ (by omega)
    have q1 := mQ_ok h q
    refine ⟨⟨rfl, q1.2.1, q1.1, hz⟩, ?_⟩
    dsimp only [oM_setRefusal, joRIII]
    rw [mQ_P q, mQ_D q, mQ_R q]
    rintro w υ (⟨g1, -⟩ | ⟨g1, g2, g3, -⟩ | ⟨g1, g2, g3, g4, g5⟩)
    · exact absurd c g1
    · exact absurd g3 d
    · refine xc_fin (R := R) (N := N) (K := K) ?_ hv g4 (xv_w h c.1 c.2).2.1
      rw [g5, e]
      exact xc_w h S p1 r1 rfl ⟨by decide, by decide⟩ (by rcases hz with hz | hz <;> simp [hz])
