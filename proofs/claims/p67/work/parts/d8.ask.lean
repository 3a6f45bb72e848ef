/-! rooms in the proposal; the least value; the deposit's shares and transfers -/
theorem xv_own {σ : jM} {R N K : Nat} (h : xRk σ R N K) {a : Nat × Nat × (Nat → Nat)} (ha : dC σ = some a) {x : Int32} (hx : mR σ x = true) : (∃ k, k < mLiv σ ∧ clPl σ a.2.2 x = nI k ∧ mOw σ x = nI (xp σ k)) ∨ (clPl σ a.2.2 x = -1 ∧ mOw σ x = -1) := by
  obtain ⟨r, r1, r2⟩ := (xv_R h x).2.mp hx
  obtain ⟨-, -, n3, n4, -⟩ := xv_n h
  have r6 := h.1.1.1
  have n10 := h.1.1.2
  obtain ⟨c0, c1, c2⟩ := dC_A ha
  have l3 := (xv_liv h).2.2.1
  have m6 : mLiv σ ≤ N := by
    rw [xv_hm h]
    exact cn_le _ _
  have eq : ∀ k, k < mLiv σ → (nI (a.2.2 k) = x ↔ a.2.2 k = r) := fun k hk => by
    have := (c1 k hk).1
    rw [n4] at this
    rw [r2, nI_eq (by omega) (by omega)]
  have ow : ∀ p, p < N → (qch (dC σ) (xl σ) N p = x ↔ xl σ p = true ∧ a.2.2 (cn (xl σ) p) = r) := fun p hp => by
    rw [ha]
    unfold qch
    dsimp only
    by_cases l : xl σ p = true
    · rw [if_pos ⟨l, hp⟩, eq _ (ck_of h hp l).1]
      exact ⟨fun z => ⟨l, z⟩, fun z => z.2⟩
    · rw [if_neg (fun z => l z.1), r2]
      refine ⟨fun z => absurd ((nI_m1 (by omega)).mp z.symm) id, fun z => absurd z.1 l⟩
  by_cases ex : ∃ k, k < mLiv σ ∧ a.2.2 k = r
  · obtain ⟨k, k1, k2⟩ := ex
    obtain ⟨x1, x2, x3, x4, x5⟩ := xv_I h k1
    refine Or.inl ⟨k, k1, ?_, ?_⟩
    · unfold clPl
      rw [l3]
      have := ff_is (p := fun k => decide (nI (a.2.2 k) = x)) (mLiv σ) 0 k k1 (by
        rw [Nat.zero_add, decide_eq_true_eq]
        exact (eq k k1).mpr k2) (fun q hq z => by
        rw [Nat.zero_add, decide_eq_true_eq, eq q (by omega), ← k2] at z
        have := c2 q k (by omega) k1 z
        omega)
      rw [Nat.zero_add] at this
      exact this
    · unfold mOw
      rw [n3]
      have := ff_is (p := fun p => decide (qch (dC σ) (xl σ) N p = x)) N 0 (xp σ k) x2 (by
        rw [Nat.zero_add, decide_eq_true_eq, ow _ x2, x4]
        exact ⟨x3, k2⟩) (fun q hq z => by
        rw [Nat.zero_add, decide_eq_true_eq, ow q (by omega), ← k2] at z
        have e := c2 _ _ (ck_of h (by omega) z.1).1 k1 z.2
        rw [← x4] at e
        have := cn_inj z.1 x3 e
        omega)
      rw [Nat.zero_add] at this
      exact this
  · refine Or.inr ⟨?_, ?_⟩
    · unfold clPl
      rw [l3]
      refine ff_not _ _ (fun q _ hq => ?_)
      rw [decide_eq_true_eq, eq q (by omega)]
      exact fun z => ex ⟨q, by omega, z⟩
    · unfold mOw
      rw [n3]
      refine ff_not _ _ (fun q _ hq => ?_)
      rw [decide_eq_true_eq, ow q (by omega)]
      exact fun z => ex ⟨_, (ck_of h (by omega) z.1).1, z.2⟩
theorem sR_Ow {σ τ : jM} (s : sR σ τ) : mOw τ = mOw σ := by
  funext x
  unfold mOw
  rw [sR_C s, sR_l s, sR_N s]
theorem xt_room {oc om : jO} {x : Int32} {xs : List Value} (f : jM → (Nat → Nat) → Nat → Int32) (g : jM → Nat → Int32)
    (hf : ∀ {σ R N K}, xRk σ R N K → ∀ {a : Nat × Nat × (Nat → Nat)}, dC σ = some a → ∀ {k}, k < mLiv σ → f σ a.2.2 k = g σ (xp σ k)) (hg : ∀ {σ τ}, sR σ τ → g τ = g σ)
    (hc : ∀ σ, oc (.ref 0 :: .int x :: xs) σ = ((0 : Nat) = 0 ∧ flOK σ ∧ prIv σ ∧ fR σ x = true, fun v τ => v = some (.int (clM σ x (f σ))) ∧ cuP σ τ))
    (hm : ∀ σ, om (.ref 322 :: .int x :: xs) σ = ((322 : Nat) = 322 ∧ mOK σ ∧ dI (σ.1 323), fun v τ => v = some (.int (if mR σ x = true then (if (dC σ).isSome = true ∧ 0 ≤ mOw σ x then g σ (mOw σ x).toNatClampNeg else -2000000000) else 0)) ∧ jfr aSc bSc σ τ ∧ τ.1 322 11 = if mR σ x = true then 0 else 1)) : xTw (fun σ => mR σ x = true) xE oc om (.int x :: xs) :=
  xT_mk (x := fun σ => clM σ x (f σ)) (y := fun σ => if (dC σ).isSome = true ∧ 0 ≤ mOw σ x then g σ (mOw σ x).toNatClampNeg else -2000000000)
    (fun {σ R N K} h c => by
      rw [hc]
      exact ⟨⟨rfl, (xv_pre h).1.1, (xv_pre h).1.2, ((xv_R h x).1).trans c⟩, xcp⟩)
    (fun h => xt_e h)
    (fun {σ R N K} h => by
      rw [hm]
      exact ⟨⟨rfl, (xv_pre h).2⟩, xmt h (fun c => if_pos c)⟩)
    (fun {σ R N K} h c => by
      unfold clM
      rcases e : dC σ with _ | a
      · rw [clV_none h e]
        exact (if_neg (fun z => by simp at z)).symm
      · rw [clV_some h e]
        have n10 := h.1.1.2
        have m10 : mLiv σ ≤ N := by
          rw [xv_hm h]
          exact cn_le _ _
        rcases xv_own h e c with ⟨k, k1, k2, k3⟩ | ⟨k2, k3⟩
        · have x2 := (xv_I h k1).2.1
          have p0 : (0 : Int32) ≤ nI (xp σ k) := (NL_0.1 _ (by omega)).mpr (Nat.zero_le _)
          rw [k2, k3, if_neg (fun z => (nI_m1 (by omega)).mp z), if_pos ⟨rfl, p0⟩, nI_clamp (by omega), nI_clamp (by omega)]
          exact hf h e k1
        · rw [k2, k3, if_pos rfl]
          exact (if_neg (fun z => absurd z.2 (by decide))).symm) (fun q => by rw [sR_C q.sR, sR_Ow q.sR, hg q.sR]) (fun q => by rw [xQ_R q])
theorem xt_price (x : Int32) : xTw (fun σ => mR σ x = true) xE oX11_price oM_price [.int x] :=
  xt_room (xs := []) (fun σ A i => iI (flPr σ A (flS σ) i)) (fun σ p => mPr σ (nI (shN σ)) p) (fun {σ R N K} h a e k hk => by
    obtain ⟨x1, x2, x3, x4, x5⟩ := xv_I h hk
    obtain ⟨s1, s2, -⟩ := xv_S h
    rw [(xv_mPr h e s2).2.1 _ (by rw [(xv_n h).2.2.1]; exact x2), if_pos x3, x4, s1, xv_Pr h e _ hk]) (fun s => by
    funext p
    rw [sR_sN s, sR_Pr s]) (fun _ => rfl) (fun _ => rfl)
theorem xt_extreme (x y : Int32) : xTw (fun σ => mR σ x = true) xE oX11_extreme oM_extreme [.int x, .int y] :=
  xt_room (xs := [.int y]) (fun σ A i => if y = 0 then iI (gLo (flW σ) A (flM σ) i) else iI (- gHi (flW σ) A (flM σ) i)) (fun σ p => if y = 0 then mLo σ p else mHi σ p) (fun {σ R N K} h a e k hk => by
    obtain ⟨x1, x2, x3, x4, x5⟩ := xv_I h hk
    obtain ⟨e1, e2⟩ := xv_ex h e hk
    have l : dL (σ.1 323) (xp σ k) = true := x3
    have x4 : cn (dL (σ.1 323)) (xp σ k) = k := x4
    unfold mLo mHi
    rw [if_pos l, if_pos l, x4, e1, e2, xv_mA e]) (fun s => by
    funext p
    rw [sR_Lo s, sR_Hi s]) (fun _ => rfl) (fun _ => rfl)
/-! the least value -/
