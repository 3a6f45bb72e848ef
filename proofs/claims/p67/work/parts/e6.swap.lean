/-! rooms swapped -/
theorem xv_Hx {σ : jM} {R N K : Nat} (h : xRk σ R N K) (x : Int32) : fH σ x = true ↔ mHr σ x := by
  unfold mHr
  by_cases c : mP σ x = true
  · obtain ⟨p1, p2, p3⟩ := xv_p h c
    have k := (xv_H h p1).1
    rw [← p2] at k
    rw [k]
    exact ⟨fun z => ⟨c, z⟩, fun z => z.2⟩
  · refine ⟨fun z => absurd ?_ c, fun z => absurd z.1 c⟩
    rw [← (xv_P h x).1]
    exact fH_P z
/-- the row with two persons' rooms and payments swapped -/
def fSw (f : Nat → Int32) (p q : Nat) : Nat → Int32 := fu (fu (fu (fu f (8 + 20 * p + 2) (f (8 + 20 * q + 2))) (8 + 20 * p + 3) (f (8 + 20 * q + 3))) (8 + 20 * q + 2) (f (8 + 20 * p + 2))) (8 + 20 * q + 3) (f (8 + 20 * p + 3))
theorem fSw_n {f : Nat → Int32} {p q k : Nat} (h : k ≠ 8 + 20 * p + 2 ∧ k ≠ 8 + 20 * p + 3 ∧ k ≠ 8 + 20 * q + 2 ∧ k ≠ 8 + 20 * q + 3) : fSw f p q k = f k := by
  unfold fSw
  rw [fu_n _ _ h.2.2.2, fu_n _ _ h.2.2.1, fu_n _ _ h.2.1, fu_n _ _ h.1]
theorem fSw_at (f : Nat → Int32) {p q : Nat} (h : p ≠ q) : (fSw f p q (8 + 20 * p + 2) = f (8 + 20 * q + 2) ∧ fSw f p q (8 + 20 * p + 3) = f (8 + 20 * q + 3)) ∧ fSw f p q (8 + 20 * q + 2) = f (8 + 20 * p + 2) ∧ fSw f p q (8 + 20 * q + 3) = f (8 + 20 * p + 3) := by
  unfold fSw
  refine ⟨⟨?_, ?_⟩, ?_, fu_s _ _ _⟩
  · rw [fu_n _ _ (by omega), fu_n _ _ (by omega), fu_n _ _ (by omega), fu_s]
  · rw [fu_n _ _ (by omega), fu_n _ _ (by omega), fu_s]
  · rw [fu_n _ _ (by omega), fu_s]
theorem dG_sw {f : Nat → Int32} {R N p q : Nat} (d : dG f R N) (hp : p < N) (hq : q < N) (hN : N ≤ 10) (hne : p ≠ q) (fp : ¬ f (8 + 20 * p + 2) = -1) (fq : ¬ f (8 + 20 * q + 2) = -1) : dG (fSw f p q) R N := by
  obtain ⟨d1, d2, d3, d4, d5, d6, d7⟩ := d
  obtain ⟨⟨o1, o2⟩, o3, o4⟩ := fSw_at f hne
  have gp := (d4 p (by omega)).resolve_left (fun z => fp z.1)
  have gq := (d4 q (by omega)).resolve_left (fun z => fq z.1)
  refine ⟨dI_ot (dI_ot (dI_ot (dI_ot d1 (by omega)) (by omega)) (by omega)) (by omega), ?_, fun t ht r hr => ?_, fun t ht => ?_, fun t ht => ?_, fun t ht => ?_, ?_⟩
  · rw [fSw_n (by omega)]; exact d2
  · rw [fSw_n (by omega), fSw_n (by omega)]; exact d3 t ht r hr
  · by_cases e1 : t = p
    · subst e1
      rw [o1, o2, fSw_n (k := 8 + 20 * t + 0) (by omega)]
      exact Or.inr ⟨hp, gp.2.1, gq.2.2⟩
    · by_cases e2 : t = q
      · subst e2
        rw [o3, o4, fSw_n (k := 8 + 20 * t + 0) (by omega)]
        exact Or.inr ⟨hq, gq.2.1, gp.2.2⟩
      · rw [fSw_n (by omega), fSw_n (by omega), fSw_n (by omega)]; exact d4 t ht
  · by_cases e1 : t = p
    · subst e1
      rw [o2]; exact d5 q (by omega)
    · by_cases e2 : t = q
      · subst e2
        rw [o4]; exact d5 p (by omega)
      · rw [fSw_n (by omega)]; exact d5 t ht
  · rw [fSw_n (by omega)]; exact d6 t ht
  · rw [cn_congr N (fun j hj => by
      unfold dL
      rw [fSw_n (by omega)] : ∀ j, j < N → dL (fSw f p q) j = dL f j)]
    exact d7
/-- the class's envy in two states with one flat -/
theorem fE_lo {υ τ : jM} (e : ∀ a, a < 322 → υ.1 a = τ.1 a) : fE υ = fE τ := by
  have e37 := e 37 (by omega)
  have e52 := e 52 (by omega)
  have e53 := e 53 (by omega)
  have fp : fP υ = fP τ := by
    funext i
    unfold fP
    rw [e37]
  have fr : fR υ = fR τ := by
    funext i
    unfold fR
    rw [e37]
  have fw : fW υ = fW τ := by
    funext i j
    unfold fW
    rw [fp, fr]
    by_cases c : fP τ i = true ∧ fR τ j = true
    · have := jin_lt (fP_jin c.1)
      rw [if_pos c, if_pos c, e (42 + i.toNatClampNeg) (by omega)]
    · rw [if_neg c, if_neg c]
  have fv : fV υ = fV τ := by
    funext i j
    unfold fV
    rw [fw]
  have fh : fH υ = fH τ := by
    funext i
    unfold fH
    rw [fp, e52]
  funext i j
  unfold fE fD
  rw [fh, fw, fv, e52, e53]
theorem xs_swapRooms (x y : Int32) : xS oX11_swapRooms oM_swapRooms [.int x, .int y] := by
  intro σ hx
  obtain ⟨R, N, K, h⟩ := hx
  obtain ⟨n1, n2, n3, n4, -, m6, f7, m8⟩ := xv_n h
  obtain ⟨r6, n10⟩ := h.1.1
  refine ⟨⟨rfl, (xv_his h).choose_spec.choose_spec.2.2.2.2.2.2.1, f7⟩, ?_⟩
  have hX := xv_Hx h x
  have hY := xv_Hx h y
  have ref : mHr σ x → mHr σ y → ((x = y ∨ fW σ x (σ.1 52 y.toNatClampNeg) = -1 ∨ fW σ y (σ.1 52 x.toNatClampNeg) = -1) ↔ (x = y ∨ mD σ x.toNatClampNeg (13 + (mD σ y.toNatClampNeg 2).toNatClampNeg) = 1 ∨ mD σ y.toNatClampNeg (13 + (mD σ x.toNatClampNeg 2).toNatClampNeg) = 1)) := fun hx hy => by
    obtain ⟨p1, p2, p3⟩ := xv_p h hx.1
    obtain ⟨q1, q2, q3⟩ := xv_p h hy.1
    have gx := (xv_H h p1).2 ((xv_H h p1).1.mpr hx.2)
    have gy := (xv_H h q1).2 ((xv_H h q1).1.mpr hy.2)
    rw [gx.1, gy.1, (xv_w h hx.1 gy.2).2.2, (xv_w h hy.1 gx.2).2.2]
  rintro v τ (⟨c, hv, e⟩ | ⟨c, d, hv, e⟩ | ⟨c, d, hv, ρ, S, e⟩)
  · rw [hX, hY] at c
    rw [e]
    refine ⟨⟨rfl, m6, m8, xv_dRm h⟩, ?_⟩
    rintro w υ (⟨g1, g2, g3⟩ | ⟨g1, g2, -⟩ | ⟨g1, g2, -⟩)
    · exact xe_fin h hv g2 g3
    · exact absurd ⟨g1, g2⟩ c
    · exact absurd ⟨g1, g2⟩ c
  · rw [hX, hY] at c
    rw [ref c.1 c.2] at d
    rw [e]
    refine ⟨⟨rfl, m6, m8, xv_dRm h⟩, ?_⟩
    rintro w υ (⟨g1, -⟩ | ⟨g1, g2, g3, g4, g5⟩ | ⟨g1, g2, g3, -⟩)
    · exact absurd c g1
    · exact xe_fin h hv g4 g5
    · exact absurd d g3
  · rw [hX, hY] at c
    rw [ref c.1 c.2] at d
    obtain ⟨s1, s2, s3⟩ := sc_fx h S
    obtain ⟨p1, p2, p3⟩ := xv_p h c.1.1
    obtain ⟨t1, t2, t3⟩ := xv_p h c.2.1
    have q : mQ σ τ := by
      rw [e]
      exact mQ_up (mQ_up (mQ_up (mQ_up s3 _ (by omega)) _ (by omega)) _ (by omega)) _ (by omega)
    have q1 := mQ_ok h q
    have qH : ∀ z, mHr τ z ↔ mHr σ z := fun z => by
      unfold mHr
      rw [mQ_P q, mQ_D q]
    refine ⟨⟨rfl, q1.1, q1.2.1, q1.2.2.2.1⟩, ?_⟩
    dsimp only [oM_swapRooms, joRII]
    rw [qH, qH, mQ_D q, sR_N q.s, n3]
    rintro w υ (⟨g1, -⟩ | ⟨g1, g2, g3, -⟩ | ⟨g1, g2, g3, g4, g5⟩)
    · exact absurd c g1
    · exact absurd g3 d
    · have ne : x.toNatClampNeg ≠ y.toNatClampNeg := fun z => d (Or.inl (by rw [p2, t2, z]))
      have a52 : ∀ p, p < 10 → σ.1 52 p = σ.1 323 (8 + 20 * p + 2) ∧ σ.1 53 p = σ.1 323 (8 + 20 * p + 3) := fun p hp => ⟨((fl37 h.2.1.1).2.2.1 p hp).2.1, ((fl37 h.2.1.1).2.2.1 p hp).2.2.1⟩
      have lo : ∀ a, a < 322 → υ.1 a = τ.1 a := by
        rw [g5]
        exact up_lo (up_lo (up_lo (up_lo (mRem_lo τ) _ _) _ _) _ _) _ _
      have ef : ∀ j, j < 208 → υ.1 323 j = fSw (σ.1 323) x.toNatClampNeg y.toNatClampNeg j := fun j _ => by
        rw [g5]
        unfold mSw
        rw [mQ_D q]
        exact fu_jup _ _ (fu_jup _ _ (fu_jup _ _ (fu_jup _ _ (mRem_323 q j))))
      have nm : ∀ z, mHr σ z → ¬ σ.1 323 (8 + 20 * z.toNatClampNeg + 2) = -1 := fun z hz e => by
        have k : 0 ≤ σ.1 323 (8 + 20 * z.toNatClampNeg + 2) := hz.2
        rw [e] at k
        exact absurd k (by decide)
      have u : xRk υ R N K := by
        refine xCh h S (τ := τ) (fun a j ha => by rw [e, jup_1, if_neg (by omega), jup_1, if_neg (by omega), jup_1, if_neg (by omega), jup_1, if_neg (by omega)]) (fun a j ha => by rw [g5]; unfold mSw; rw [jup_1, if_neg (fun z => ha z.1), jup_1, if_neg (fun z => ha z.1), jup_1, if_neg (fun z => ha z.1), jup_1, if_neg (fun z => ha z.1)]) _ ef ?_ (dG_sw h.2.1.2.1 p1 t1 n10 ne (nm x c.1) (nm y c.2)) ?_ (fSw_n (by omega)) (fSw_n (by omega))
        · rw [e]
          dsimp only
          rw [(a52 _ (show x.toNatClampNeg < 10 by omega)).1, (a52 _ (show x.toNatClampNeg < 10 by omega)).2, (a52 _ (show y.toNatClampNeg < 10 by omega)).1, (a52 _ (show y.toNatClampNeg < 10 by omega)).2]
          exact flR_up (flR_up (flR_up (flR_up s1 r6 n10 _ (by unfold fdK; omega)) r6 n10 _ (by unfold fdK; omega)) r6 n10 _ (by unfold fdK; omega)) r6 n10 _ (by unfold fdK; omega)
        · rw [e, jup_1, if_neg (by omega), jup_1, if_neg (by omega), jup_1, if_neg (by omega), jup_1, if_neg (by omega), s2 37 (by omega) (by omega)]
      refine xc_fin u hv g4 ?_
      have e1 : fSE τ N N = fSE υ N N := by
        unfold fSE
        rw [fE_lo lo]
      rw [n1, e1, xv_SE u, g5]
