/-! envy told; money; the page -/
theorem xv_dRm {σ : jM} {R N K : Nat} (h : xRk σ R N K) : dRm (σ.1 323) := by
  intro p hp h0
  rcases h.2.1.2.1.2.2.2.1 p hp with ⟨d, -⟩ | ⟨-, -, r, hr, d⟩
  · rw [d] at h0
    exact absurd h0 (by decide)
  · rw [d]
    have := h.1.1.1
    exact jin_nI (by omega) (by omega)
theorem xQ_D {σ τ : jM} (q : xQ σ τ) : mD τ = mD σ := by
  funext a b
  exact sR_D q.sR a b
theorem xQ_mM {σ τ : jM} (q : xQ σ τ) : mEnv τ = mEnv σ ∧ mKn τ = mKn σ := by
  have e : mEnv τ = mEnv σ := by
    funext a b
    unfold mEnv mM
    rw [xQ_D q]
  refine ⟨e, ?_⟩
  funext a b
  unfold mKn
  rw [xQ_D q, e]
theorem xt_envyOf (x y : Int32) : xTw (fun σ => mP σ x = true ∧ mP σ y = true) xE oX11_envyOf oM_envyOf [.int x, .int y] :=
  xT_mk (x := fun σ => if fH σ x = true ∧ fH σ y = true then fE σ x y else -1) (y := fun σ => mKn σ x.toNatClampNeg y.toNatClampNeg)
    (fun h c => ⟨⟨rfl, ((xv_P h x).1).trans c.1, ((xv_P h y).1).trans c.2⟩, xp1 h⟩)
    (fun h => xt_e h)
    (fun {σ R N K} h => ⟨⟨rfl, (xv_n h).2.2.2.2.2.1, xv_dRm h⟩, xp3 h (mP σ x = true ∧ mP σ y = true) Iff.rfl (fun c => if_pos c)⟩)
    (fun {σ R N K} h c => by
      obtain ⟨p1, p2, -⟩ := xv_p h c.1
      obtain ⟨q1, q2, -⟩ := xv_p h c.2
      have := (xv_Ep h p1 q1).2
      rw [← p2, ← q2] at this
      exact this) (fun q => by rw [(xQ_mM q).2]) (fun q => by rw [xQ_P q, xQ_P q])
theorem xv_SE {σ : jM} {R N K : Nat} (h : xRk σ R N K) : fSE σ N N = mAE σ N N := by
  unfold fSE mAE
  exact sm_congr N (fun p hp => sm_congr N (fun q hq => xv_E h hp hq))
theorem xs_totalEnvy : xS oX11_totalEnvy oM_totalEnvy [] :=
  xS_mk (x := fun σ => fSE σ (fN σ) (fN σ)) (y := fun σ => mAE σ (mN σ) (mN σ)) (fun h => ⟨⟨rfl, (xv_n h).2.2.2.2.2.2.1⟩, xp1 h⟩) (fun h => ⟨⟨rfl, (xv_n h).2.2.2.2.2.1, xv_dRm h⟩, xp2 h⟩) (fun {σ R N K} h => by
    obtain ⟨n1, -, n3, -⟩ := xv_n h
    rw [n1, n3]
    exact xv_SE h) (fun {σ τ} q => by
    rw [sR_N q.sR]
    unfold mAE
    rw [xQ_D q, (xQ_mM q).1])
theorem sm_tail {f : Nat → Int32} {N : Nat} : ∀ n, N ≤ n → (∀ p, N ≤ p → p < n → f p = 0) → sm f n = sm f N
  | 0, h, _ => by
    have : N = 0 := by omega
    rw [this]
  | n + 1, h, e => by
    by_cases c : N = n + 1
    · rw [c]
    · show sm f n + f n = _
      rw [e n (by omega) (by omega), Int32.add_zero]
      exact sm_tail n (by omega) (fun p h1 h2 => e p h1 (by omega))
theorem xv_sm {σ : jM} {R N K : Nat} (h : xRk σ R N K) : sm (σ.1 53) 10 = sm (fun p => mD σ p 3) N := by
  have n10 := h.1.1.2
  have e : ∀ p, p < 10 → σ.1 53 p = mD σ p 3 := fun p hp => ((fl37 h.2.1.1).2.2.1 p hp).2.2.1
  rw [sm_tail 10 n10 (fun p h1 h2 => ?_)]
  · exact sm_congr N (fun p hp => e p (by omega))
  · rw [e p h2]
    rcases h.2.1.2.1.2.2.2.1 p h2 with ⟨-, d⟩ | ⟨d, -⟩
    · exact d
    · omega
/-! the page -/
theorem xv_page {σ : jM} {R N K : Nat} (h : xRk σ R N K) : ∃ s, s ≤ 162 ∧ σ.1 320 1 = nI s ∧ σ.1 322 52 = nI s ∧ ∀ j, j < s → σ.1 321 j = σ.1 351 j := h.2.2.2.2.2.1
