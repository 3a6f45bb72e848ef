/-! passMonths -/
theorem mIn1_24 {x : Int32} : mIn x 1 24 = true ↔ 1 ≤ x ∧ x ≤ 24 := by
  unfold mIn
  rw [decide_eq_true_eq]
theorem xv_pOK {σ : jM} {R N K : Nat} (h : xRk σ R N K) : pOK σ ∧ plO σ ∧ dnO σ := by
  obtain ⟨D, ρ, p1, p2, p3, p4, p5, -⟩ := xv_pl h
  have pb := h.2.2.1.2.2
  have n10 := h.1.1.2
  refine ⟨fun k hk => ?_, fun k hk hl => ?_, D, p2, by omega⟩
  · rw [(xv_n h).2.2.2.2.1] at hk
    obtain ⟨⟨p, q1, q2⟩, -, q3⟩ := pb k hk
    rw [q2]
    exact ⟨jin_nI (by omega) (by omega), q3⟩
  · rw [p1, nI_ltI (by omega) (by omega)] at hl
    rw [(p5 k hl).2.2.2]
    exact (pb _ (p5 k hl).1).2.2.1
theorem xs_passMonths (x : Int32) : xS oX11_passMonths oM_passMonths [.int x] := by
  intro σ hx
  obtain ⟨R, N, K, h⟩ := hx
  obtain ⟨n1, n2, n3, n4, n5, m6, f7, m8⟩ := xv_n h
  obtain ⟨r6, n10⟩ := h.1.1
  obtain ⟨q1, q2, q3⟩ := xv_pOK h
  have hO := (xv_his h).choose_spec.choose_spec.2.2.2.2.2.2.1
  have s5 : σ.1 37 5 = σ.1 323 5 := (fl37 h.2.1.1).1.2.2.2.2.2
  refine ⟨⟨rfl, ⟨(xv_pre h).1.1, (xv_pre h).1.2, q3, q2⟩, hO⟩, ?_⟩
  rintro v τ (⟨c, hv, e⟩ | ⟨c, d, hv, e⟩ | ⟨c, d, hv, ρ, S, hr⟩)
  · rw [e]
    refine ⟨⟨rfl, m6, xv_dI h, q1, m8⟩, ?_⟩
    rintro w υ (⟨g1, g2, g3⟩ | ⟨g1, -⟩ | ⟨g1, -⟩)
    · exact xe_fin h hv g2 g3
    · exact absurd (mIn1_24.mp g1) c
    · exact absurd (mIn1_24.mp g1) c
  · rw [e]
    rw [s5] at d
    refine ⟨⟨rfl, m6, xv_dI h, q1, m8⟩, ?_⟩
    rintro w υ (⟨g1, -⟩ | ⟨g1, g2, g3, g4⟩ | ⟨g1, g2, -⟩)
    · rw [mIn1_24.mpr c] at g1; cases g1
    · exact xe_fin h hv g3 g4
    · exact absurd g2 d
  · rw [s5] at d
    obtain ⟨s1, s2, s3⟩ := sc_fx h S
    obtain ⟨m, m1, m2, m3⟩ := nI_rng (x := x) (by have := c.1; grind) c.2 (by decide)
    obtain ⟨a, a1, a2, -⟩ := nI_rng h.2.1.2.1.2.1.1 h.2.1.2.1.2.1.2 (by decide)
    have am : a + m ≤ 999 := by
      rw [a2, m2, nI_add, NL_999.2.2.1 _ (by omega)] at d
      exact d
    have mp : 1 ≤ m := by
      have := c.1
      rw [m2, NL_1.1 _ (by omega)] at this
      exact this
    rw [m3] at hr
    have r323 : ∀ j, (mRem (jup ρ 322 11 0)).1 323 j = σ.1 323 j := mRem_323 s3
    have u0 : xRk (mRem (jup ρ 322 11 0)) R N K := xCh h S (τ := ρ) (fun _ _ _ => rfl) (fun _ _ _ => rfl) (σ.1 323) (fun j _ => r323 j) s1 h.2.1.2.1 (by rw [s2 37 (by omega) (by omega)]) rfl rfl
    have u1 : xRk (mkS ρ (mRem (jup ρ 322 11 0)) (σ.1 323)) R N K := xRk_fr u0 (fun b j cb => by
      have b0 : 0 < b := by
        rcases Nat.eq_zero_or_pos b with z | z
        · subst z
          exact absurd cb (by unfold xC; simp)
        · exact z
      by_cases bl : b < 322
      · rw [mkS_lo b0 bl, mRem_lo ρ b bl]
      · by_cases b3 : b = 323
        · subst b3
          rw [mkS_r, r323]
        · rw [mkS_hi (by omega) b3]) mkS_p
    obtain ⟨v1, v2, v3⟩ := pm_all u1 a2 m τ am hr
    have q : mQ σ τ := fun b hb => by rw [v3 b (by omega) (by omega) (by omega), s3 b hb]
    have qk := mQ_ok h q
    have qp : pOK τ := by
      have e5 : mPl τ = mPl σ := by unfold mPl; rw [q 322 (by omega)]
      intro k hk
      rw [e5] at hk
      rw [q 327 (by omega), q 329 (by omega)]
      exact q1 k hk
    refine ⟨⟨rfl, qk.1, qk.2.2.1, qp, qk.2.1⟩, ?_⟩
    rintro w υ (⟨g1, -⟩ | ⟨g1, g2, -⟩ | ⟨g1, g2, g3, g4⟩)
    · rw [mIn1_24.mpr c] at g1; cases g1
    · rw [q 323 (by omega)] at g2
      exact absurd d g2
    · have t323 : τ.1 323 = σ.1 323 := q 323 (by omega)
      have eI : pmI τ (τ.1 323) x.toNatClampNeg = pmI (mRem (jup ρ 322 11 0)) (σ.1 323) m := by
        rw [m3, t323]
        refine (pmI_cg (fun j hj => ?_) (fun b b1 b2 => ?_) _ m).symm
        · rw [mRem_o _ _ _ (by omega) (by omega), jup_1, if_neg (by omega), s3 322 (by omega), q 322 (by omega)]
        · funext j
          rw [mRem_o _ _ _ (by omega) (by omega), jup_1, if_neg (by omega), s3 b (by omega), q b (by omega)]
      rw [eI] at g3 g4
      have mm := mRem_cg (σ := jup ρ 322 11 0) (τ := jup τ 322 11 0) (by rw [jup_1, if_neg (by omega), jup_1, if_neg (by omega), q 322 (by omega), s3 322 (by omega)]) (by
        funext j
        rw [jup_1, if_neg (by omega), jup_1, if_neg (by omega), q 323 (by omega), s3 323 (by omega)]) (by
        funext j
        rw [jup_1, if_neg (by omega), jup_1, if_neg (by omega), q 324 (by omega), s3 324 (by omega)])
      have ul : ∀ b, b < 322 → υ.1 b = τ.1 b := fun b hb => by
        funext j
        rw [g4.2.2 b j (sc_lt hb), rw3_of _ _ (by omega), mRem_lo τ b hb]
      have hm : pmH τ := by
        obtain ⟨k, hk⟩ : ∃ k, m = k + 1 := ⟨m - 1, by omega⟩
        rw [hk] at hr
        obtain ⟨μ, -, -, -, z⟩ := hr
        exact z
      have u : xRk υ R N K := by
        refine xRk_fr v1 (fun b j cb => ?_) (prIv_of hm.1 hm.2.1 (by rw [ul 0 (by omega)]) (flE_of (fun b _ b2 => ul b (by omega))) (fun b _ b2 => ul b (by omega)))
        have b0 : 0 < b := by
          rcases Nat.eq_zero_or_pos b with z | z
          · subst z
            exact absurd cb (by unfold xC; simp)
          · exact z
        by_cases bl : b < 322
        · rw [mkS_lo b0 bl, ul b bl]
        · by_cases b3 : b = 323
          · subst b3
            rw [mkS_r, g4.2.2 323 j (sc_323 j), rw3_sf]
          · rw [mkS_hi (by omega) b3, g4.2.2 b j (sc_xC cb), rw3_of _ _ b3]
            by_cases b4 : b = 324
            · subst b4
              exact mm.1 j
            · by_cases b2 : b = 322 ∧ j = 2
              · rw [b2.1, b2.2]
                exact mm.2
              · have b11 : ¬ (b = 322 ∧ j = 11) := fun z => by
                  rw [z.1, z.2] at cb
                  exact absurd cb (by decide)
                rw [mRem_o _ _ _ b4 b2, mRem_o _ _ _ b4 b2, jup_1, if_neg b11, jup_1, if_neg b11, q b (by omega), s3 b (by omega)]
      refine xc_fin u hv g3 ?_
      have := (fl37 v1.2.1.1).1.2.2.2.2.2
      rw [mkS_lo (by omega) (by omega), mkS_r] at this
      exact this
