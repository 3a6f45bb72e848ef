/-! passMonths by a snapshot -/
theorem mq_passMonths {σ : jM} {R N K : Nat} (x : Int32) (h : xRk σ R N K) : ∀ v τ, (oX11_passMonths [.ref 0, .int x] σ).2 v τ → mQ σ τ := by
  obtain ⟨q1, q2, q3⟩ := xv_pOK h
  have s5 : σ.1 37 5 = σ.1 323 5 := (fl37 h.2.1.1).1.2.2.2.2.2
  rintro v τ (⟨c, hv, e⟩ | ⟨c, d, hv, e⟩ | ⟨c, d, hv, ρ, S, hr⟩)
  · rw [e]; exact mq_rf
  · rw [e]; exact mq_rf
  · rw [s5] at d
    obtain ⟨s1, s2, s3⟩ := sc_fx h S
    obtain ⟨m, m1, m2, m3⟩ := nI_rng (x := x) (by have := c.1; grind) c.2 (by decide)
    obtain ⟨a, a1, a2, -⟩ := nI_rng h.2.1.2.1.2.1.1 h.2.1.2.1.2.1.2 (by decide)
    have am : a + m ≤ 999 := by
      rw [a2, m2, nI_add, NL_999.2.2.1 _ (by omega)] at d
      exact d
    rw [m3] at hr
    have r323 : ∀ j, (mRem (jup ρ 322 11 0)).1 323 j = σ.1 323 j := mRem_323 s3
    have u0 : xRk (mRem (jup ρ 322 11 0)) R N K := xCh h S (τ := ρ) (fun _ _ _ => rfl) (fun _ _ _ => rfl) (σ.1 323) (fun j _ => r323 j) s1 h.2.1.2.1 (by rw [s2 37 (by omega) (by omega)]) rfl rfl
    have u1 : xRk (mkS ρ (mRem (jup ρ 322 11 0)) (σ.1 323)) R N K := xRk_fr u0 (fun b j cb => by
      have b0 : 0 < b := by
        rcases Nat.eq_zero_or_pos b with z | z
        · subst z
          exact absurd cb (by unfold xC; simp)
        · exact z
      by_cases bl : b < 322
      · rw [mkS_lo b0 bl, mRem_lo ρ b bl]
      · by_cases b3 : b = 323
        · subst b3
          rw [mkS_r, r323]
        · rw [mkS_hi (by omega) b3]) mkS_p
    obtain ⟨v1, v2, v3⟩ := pm_all u1 a2 m τ am hr
    exact fun b hb => by rw [v3 b (by omega) (by omega) (by omega), s3 b hb]
def qX11_passMonths (s0 : jM) : jO := joRI fun a x σ => (a = 0 ∧ xG s0 σ ∧ (1 ≤ x ∧ x ≤ 24) ∧ s0.1 323 5 + x ≤ 999, fun v τ => v = some (.int (pmI s0 (s0.1 323) x.toNatClampNeg 5)) ∧ xN s0 τ (pmI s0 (s0.1 323) x.toNatClampNeg))
theorem QX11_passMonths (g : jG) (n : Nat) (s0 : jM) : jOk g (n + 7) mX11_passMonths (qX11_passMonths s0) := by
  refine joRI_ok ?_
  rintro _ x σ ⟨rfl, hG, c, d⟩
  refine xo_ok (CX11_passMonths g n) (xs_passMonths x) (fun h => mq_passMonths x h) hG _ _ (fun τ q o => ?_)
  have e := q.at 323 rfl rfl
  have eI : pmI τ (τ.1 323) x.toNatClampNeg = pmI s0 (s0.1 323) x.toNatClampNeg := by
    rw [e]
    exact pmI_cg (fun j hj => by
      rcases hj with rfl | rfl | rfl
      · exact q 322 3 (by omega) rfl
      · exact q 322 4 (by omega) rfl
      · exact q 322 5 (by omega) rfl) (fun b b1 b2 => q.at b (by simp; omega) (by simp; omega)) _ _
  have b := (mBf_0 τ).rw (pmI τ (τ.1 323) x.toNatClampNeg)
  refine ⟨_, Or.inr (Or.inr ⟨mIn1_24.mpr c, by rw [e]; exact d, by rw [eI], jfr.rfl⟩), b.e.1, ?_, b.e.2⟩
  funext j
  rw [← eI]
  exact rw3_sf _ _ j
