/-! the reference: the prices -/
theorem jin_d : jin 0 208 ∧ jin 1 208 ∧ jin 2 208 ∧ jin 3 208 ∧ jin 4 208 ∧ jin 5 208 ∧ jin 6 208 ∧ jin 7 208 := by
  unfold jin; decide
def mIp (σ : jM) (sh : Int32) : Int32 := σ.1 323 3 * sh / 100
def oX12_incomePart : jO := joRI fun a x σ => (a = 322, fun v τ => v = some (.int (mIp σ x)) ∧ τ = σ)
set_option maxRecDepth 100000 in
set_option maxHeartbeats 4000000 in
theorem CX12_incomePart (g : jG) (n : Nat) : jOk g (n + 0) mX12_incomePart oX12_incomePart := by
  refine joRI_ok ?_
  rintro _ x σ rfl
  refine jCon.ofF (by decide +kernel) (by simp [lg_sl, Value.category]) ?_
  refine jvk_ok TX12_incomePart (V := []) (S := []) (fun _ h => absurd h List.not_mem_nil) (fun _ h => absurd h List.not_mem_nil) [] 20 _ _ _ _ ?_
  simp (maxSteps := 1000000) [↓Bool.cond_eq_ite, -Prod.forall, -Prod.exists, -Prod.mk.injEq, jvk, tX12_incomePart, jtb, jol, jst, jlk, jcmp, jbin, jfl, fX12, jc2, lX12, jcat, jel, lv_args, Value.category, jins, jsrt, jins2, jble, jblt, jf3, List.filter_cons, List.filter_nil, G_m, -Int32.not_le, -Int32.not_lt, -Int64.not_le, -Int64.not_lt, i3lt, i6lt, jin, tn_c, mIp]
  try simp (disch := omega) [-Prod.forall, -Prod.exists, -Prod.mk.injEq, -Int32.not_le, -Int32.not_lt, -Int64.not_le, -Int64.not_lt, i3lt, i6lt, jin, tn_c, mIp]
def mBs (σ : jM) (p : Nat) : Int32 := if dL (σ.1 323) p = true then (if σ.1 323 0 = 0 then mLo σ p else if σ.1 323 0 = 1 then mHi σ p else (mLo σ p + mHi σ p) / 2) else 0
def mMo (σ : jM) (sh : Int32) : Int32 := (120 * (σ.1 323 3 - mIp σ sh) - sm (mBs σ) (mN σ)) / nI (mLiv σ)
def mPr (σ : jM) (sh : Int32) (p : Nat) : Int32 := if dL (σ.1 323) p = true then mBs σ p + mMo σ sh else 0
def aPr (a j : Nat) : Bool := a == 332 || a == 333 || a == 334
def oX12_layPrices : jO := joRI fun a x σ => (a = 322 ∧ ∃ c, hC σ c, fun v τ => v = none ∧ jfr aPr b0 σ τ ∧ ∀ p, p < mN σ → τ.1 334 p = mPr σ x p)
set_option maxRecDepth 100000 in
set_option maxHeartbeats 4000000 in
theorem CX12_layPrices (g : jG) (n : Nat) : jOk g (n + 5) mX12_layPrices oX12_layPrices := by
  refine joRI_ok ?_
  rintro _ sh σ ⟨rfl, a, hc⟩
  obtain ⟨hN10, hN4⟩ := mN_le hc.1
  have hL := (hC_q hc.2.2.1).2
  have hLN := cn_le (dL (σ.1 323)) (mN σ)
  have eLv : mLiv σ = cn (dL (σ.1 323)) (mN σ) := rfl
  have h330 : ∀ p, p < mN σ → dL (σ.1 323) p = true → ∃ r, r < 6 ∧ σ.1 330 p = nI r := fun p hp hl => ⟨_, (hC_liv hc hp hl).2.1, (hC_liv hc hp hl).2.2⟩
  have h330n : ∀ p, p < mN σ → ¬ dL (σ.1 323) p = true → σ.1 330 p = -1 := fun p hp hl => by rw [hC_330 hc (by omega), if_neg (fun z => hl z.1)]
  have hne : ∃ c, hC σ c := ⟨a, hc⟩
  refine jCon.ofP (by decide +kernel) (by simp [lg_sl, Value.category]) (fun post hp => ?_)
  refine jvk_ok TX12_layPrices (V := [(185, 1, 12, oX12_layExtremes), (188, 2, 12, oX12_incomePart), (152, 1, 12, oX12_living)]) (S := []) (List.forall_mem_cons.mpr ⟨⟨mX12_layExtremes, n + 4, 0, TX12, 53, rfl, by omega, kX12_185, WX12_layExtremes, rfl, CX12_layExtremes g (n)⟩, (List.forall_mem_cons.mpr ⟨⟨mX12_incomePart, n + 0, 1, TX12, 53, rfl, by omega, kX12_188, WX12_incomePart, rfl, CX12_incomePart g (n)⟩, (List.forall_mem_cons.mpr ⟨⟨mX12_living, n + 3, 0, TX12, 53, rfl, by omega, kX12_152, WX12_living, rfl, CX12_living g (n)⟩, (fun _ h => absurd h List.not_mem_nil)⟩)⟩)⟩) (fun _ h => absurd h List.not_mem_nil) [4] 20 _ _ _ _ ?_
  simp (maxSteps := 1000000) [↓Bool.cond_eq_ite, -Prod.forall, -Prod.exists, -Prod.mk.injEq, jvk, tX12_layPrices, jtb, jol, jst, jlk, jcmp, jbin, jfl, fX12, jc2, lX12, jcat, jel, lv_args, Value.category, jins, jsrt, jins2, jble, jblt, jf3, List.filter_cons, List.filter_nil, G_m, oX12_layExtremes, oX12_incomePart, oX12_living, joR, joRI, -Int32.not_le, -Int32.not_lt, -Int64.not_le, -Int64.not_lt, i3lt, i6lt, hne]
  try simp (disch := omega) [-Prod.forall, -Prod.exists, -Prod.mk.injEq, -Int32.not_le, -Int32.not_lt, -Int64.not_le, -Int64.not_lt, i3lt, i6lt, hne]
  intro v0 τ0 hv0 f0 hex
  subst hv0
  have w0 : jfr aPr b0 σ τ0 := f0.weak (fun a j q => by simp only [aPr, Bool.or_eq_false_iff] at q; simp only [aEx, q, Bool.or_false]) (fun _ q => q)
  have key := jloop (P := fun k => ∀ τ : jM, jfr aPr b0 σ τ → (∀ p, p < mN σ → τ.1 332 p = mLo σ p ∧ τ.1 333 p = mHi σ p) → (∀ p, p < k → τ.1 334 p = mBs σ p) → jW g mX12_layPrices (n + 5) post 8 [(0, .ref 322), (1, .int sh), (2, .int (sm (mBs σ) k)), (3, .int (nI k))] [] τ) (N := mN σ) (fun τ f hx hb => by
    have e4 : τ.1 322 4 = nI (mN σ) := (f.2.2 322 4 rfl).trans hN4
    have e323 : τ.1 323 = σ.1 323 := funext fun j => f.2.2 323 j rfl
    have hle : nI (mN σ) ≤ nI (mN σ) := nI_le (Nat.le_refl _) (by omega)
    have hok : mOK τ := mOK_of hc.1 (f.2.2 322 3 rfl) (f.2.2 322 4 rfl) (f.2.2 322 5 rfl)
    have eLv2 : mLiv τ = mLiv σ := by
      unfold mLiv mN mD
      rw [e323, f.2.2 322 4 rfl]
    have enz : ¬ nI (mLiv σ) = 0 := nI_ne0 (by omega) (by omega)
    have eIp : mIp τ sh = mIp σ sh := by unfold mIp; rw [e323]
    have eMo : (120 * (σ.1 323 3 - mIp σ sh) - sm (mBs σ) (mN σ)) / nI (mLiv σ) = mMo σ sh := rfl
    refine jvk_ok TX12_layPrices (V := [(185, 1, 12, oX12_layExtremes), (188, 2, 12, oX12_incomePart), (152, 1, 12, oX12_living)]) (S := []) (List.forall_mem_cons.mpr ⟨⟨mX12_layExtremes, n + 4, 0, TX12, 53, rfl, by omega, kX12_185, WX12_layExtremes, rfl, CX12_layExtremes g (n)⟩, (List.forall_mem_cons.mpr ⟨⟨mX12_incomePart, n + 0, 1, TX12, 53, rfl, by omega, kX12_188, WX12_incomePart, rfl, CX12_incomePart g (n)⟩, (List.forall_mem_cons.mpr ⟨⟨mX12_living, n + 3, 0, TX12, 53, rfl, by omega, kX12_152, WX12_living, rfl, CX12_living g (n)⟩, (fun _ h => absurd h List.not_mem_nil)⟩)⟩)⟩) (fun _ h => absurd h List.not_mem_nil) [8, 128] 40 _ _ _ _ ?_
    simp (maxSteps := 1000000) [↓Bool.cond_eq_ite, -Prod.forall, -Prod.exists, -Prod.mk.injEq, jvk, tX12_layPrices, jtb, jol, jst, jlk, jcmp, jbin, jfl, fX12, jc2, lX12, jcat, jel, lv_args, Value.category, jins, jsrt, jins2, jble, jblt, jf3, List.filter_cons, List.filter_nil, G_m, oX12_layExtremes, oX12_incomePart, oX12_living, joR, joRI, -Int32.not_le, -Int32.not_lt, -Int64.not_le, -Int64.not_lt, i3lt, i6lt, e4, hle, hok, eLv2, enz, eIp, e323, eMo, jin_d, tn_c]
    try simp (disch := omega) [-Prod.forall, -Prod.exists, -Prod.mk.injEq, -Int32.not_le, -Int32.not_lt, -Int64.not_le, -Int64.not_lt, i3lt, i6lt, e4, hle, hok, eLv2, enz, eIp, e323, eMo, jin_d, tn_c]
    have key2 := jloop (P := fun k => ∀ τ : jM, jfr aPr b0 σ τ → (∀ p, p < mN σ → τ.1 334 p = if p < k then mPr σ sh p else mBs σ p) → jW g mX12_layPrices (n + 5) post 128 [(0, .ref 322), (3, .int (mMo σ sh)), (4, .int (nI k))] [] τ) (N := mN σ) (fun τ f hb => by
      have e4 : τ.1 322 4 = nI (mN σ) := (f.2.2 322 4 rfl).trans hN4
      refine jvk_ok TX12_layPrices (V := [(185, 1, 12, oX12_layExtremes), (188, 2, 12, oX12_incomePart), (152, 1, 12, oX12_living)]) (S := []) (List.forall_mem_cons.mpr ⟨⟨mX12_layExtremes, n + 4, 0, TX12, 53, rfl, by omega, kX12_185, WX12_layExtremes, rfl, CX12_layExtremes g (n)⟩, (List.forall_mem_cons.mpr ⟨⟨mX12_incomePart, n + 0, 1, TX12, 53, rfl, by omega, kX12_188, WX12_incomePart, rfl, CX12_incomePart g (n)⟩, (List.forall_mem_cons.mpr ⟨⟨mX12_living, n + 3, 0, TX12, 53, rfl, by omega, kX12_152, WX12_living, rfl, CX12_living g (n)⟩, (fun _ h => absurd h List.not_mem_nil)⟩)⟩)⟩) (fun _ h => absurd h List.not_mem_nil) [8, 128] 40 _ _ _ _ ?_
      simp (maxSteps := 1000000) [↓Bool.cond_eq_ite, -Prod.forall, -Prod.exists, -Prod.mk.injEq, jvk, tX12_layPrices, jtb, jol, jst, jlk, jcmp, jbin, jfl, fX12, jc2, lX12, jcat, jel, lv_args, Value.category, jins, jsrt, jins2, jble, jblt, jf3, List.filter_cons, List.filter_nil, G_m, oX12_layExtremes, oX12_incomePart, oX12_living, joR, joRI, -Int32.not_le, -Int32.not_lt, -Int64.not_le, -Int64.not_lt, i3lt, i6lt, e4, hle]
      try simp (disch := omega) [-Prod.forall, -Prod.exists, -Prod.mk.injEq, -Int32.not_le, -Int32.not_lt, -Int64.not_le, -Int64.not_lt, i3lt, i6lt, e4, hle]
      exact hp _ _ ⟨rfl, f, fun p hp => by rw [hb p hp, if_pos hp]⟩) (fun k hk ih τ f hb => by
      have e4 : τ.1 322 4 = nI (mN σ) := (f.2.2 322 4 rfl).trans hN4
      have hlt : ¬ nI (mN σ) ≤ nI k := nI_ge hk (by omega)
      have hk1 : jin (nI k) 10 := jin_nI (by omega) (by decide)
      have eck : (nI k).toNatClampNeg = k := nI_clamp (by omega)
      have e330 : τ.1 330 k = σ.1 330 k := f.2.2 330 k rfl
      have ebk : τ.1 334 k = mBs σ k := by rw [hb k hk, if_neg (by omega)]
      have nxt : jW g mX12_layPrices (n + 5) post 128 [(0, .ref 322), (3, .int (mMo σ sh)), (4, .int (nI (k + 1)))] [] (jup τ 334 k (mPr σ sh k)) := by
        refine ih _ (f.up _ rfl) (fun p hp => ?_)
        rw [jup_1]
        by_cases e : p = k
        · subst e
          rw [if_pos ⟨rfl, rfl⟩, if_pos (by omega)]
        · rw [if_neg (by simp [e]), hb p hp]
          by_cases e2 : p < k
          · rw [if_pos e2, if_pos (by omega)]
          · rw [if_neg e2, if_neg (by omega)]
      by_cases hl : dL (σ.1 323) k = true
      · obtain ⟨r, hr, er⟩ := h330 k hk hl
        have hnn : 0 ≤ nI r := nI_pos' (by omega)
        have hnl : ¬ nI r < 0 := nI_pos (by omega)
        have ePr : mBs σ k + mMo σ sh = mPr σ sh k := by rw [mPr, if_pos hl]
        refine jvk_ok TX12_layPrices (V := [(185, 1, 12, oX12_layExtremes), (188, 2, 12, oX12_incomePart), (152, 1, 12, oX12_living)]) (S := []) (List.forall_mem_cons.mpr ⟨⟨mX12_layExtremes, n + 4, 0, TX12, 53, rfl, by omega, kX12_185, WX12_layExtremes, rfl, CX12_layExtremes g (n)⟩, (List.forall_mem_cons.mpr ⟨⟨mX12_incomePart, n + 0, 1, TX12, 53, rfl, by omega, kX12_188, WX12_incomePart, rfl, CX12_incomePart g (n)⟩, (List.forall_mem_cons.mpr ⟨⟨mX12_living, n + 3, 0, TX12, 53, rfl, by omega, kX12_152, WX12_living, rfl, CX12_living g (n)⟩, (fun _ h => absurd h List.not_mem_nil)⟩)⟩)⟩) (fun _ h => absurd h List.not_mem_nil) [8, 128] 40 _ _ _ _ ?_
        simp (maxSteps := 1000000) [↓Bool.cond_eq_ite, -Prod.forall, -Prod.exists, -Prod.mk.injEq, jvk, tX12_layPrices, jtb, jol, jst, jlk, jcmp, jbin, jfl, fX12, jc2, lX12, jcat, jel, lv_args, Value.category, jins, jsrt, jins2, jble, jblt, jf3, List.filter_cons, List.filter_nil, G_m, oX12_layExtremes, oX12_incomePart, oX12_living, joR, joRI, -Int32.not_le, -Int32.not_lt, -Int64.not_le, -Int64.not_lt, i3lt, i6lt, e4, hlt, hk1, eck, e330, ebk, er, hnn, hnl, ePr, nI_1]
        try simp (disch := omega) [-Prod.forall, -Prod.exists, -Prod.mk.injEq, -Int32.not_le, -Int32.not_lt, -Int64.not_le, -Int64.not_lt, i3lt, i6lt, e4, hlt, hk1, eck, e330, ebk, er, hnn, hnl, ePr, nI_1]
        exact nxt
      · have er := h330n k hk hl
        have ePr : mBs σ k = mPr σ sh k := by rw [mPr, if_neg hl, mBs, if_neg hl]
        refine jvk_ok TX12_layPrices (V := [(185, 1, 12, oX12_layExtremes), (188, 2, 12, oX12_incomePart), (152, 1, 12, oX12_living)]) (S := []) (List.forall_mem_cons.mpr ⟨⟨mX12_layExtremes, n + 4, 0, TX12, 53, rfl, by omega, kX12_185, WX12_layExtremes, rfl, CX12_layExtremes g (n)⟩, (List.forall_mem_cons.mpr ⟨⟨mX12_incomePart, n + 0, 1, TX12, 53, rfl, by omega, kX12_188, WX12_incomePart, rfl, CX12_incomePart g (n)⟩, (List.forall_mem_cons.mpr ⟨⟨mX12_living, n + 3, 0, TX12, 53, rfl, by omega, kX12_152, WX12_living, rfl, CX12_living g (n)⟩, (fun _ h => absurd h List.not_mem_nil)⟩)⟩)⟩) (fun _ h => absurd h List.not_mem_nil) [8, 128] 40 _ _ _ _ ?_
        simp (maxSteps := 1000000) [↓Bool.cond_eq_ite, -Prod.forall, -Prod.exists, -Prod.mk.injEq, jvk, tX12_layPrices, jtb, jol, jst, jlk, jcmp, jbin, jfl, fX12, jc2, lX12, jcat, jel, lv_args, Value.category, jins, jsrt, jins2, jble, jblt, jf3, List.filter_cons, List.filter_nil, G_m, oX12_layExtremes, oX12_incomePart, oX12_living, joR, joRI, -Int32.not_le, -Int32.not_lt, -Int64.not_le, -Int64.not_lt, i3lt, i6lt, e4, hlt, hk1, eck, e330, ebk, er, ePr, nI_1]
        try simp (disch := omega) [-Prod.forall, -Prod.exists, -Prod.mk.injEq, -Int32.not_le, -Int32.not_lt, -Int64.not_le, -Int64.not_lt, i3lt, i6lt, e4, hlt, hk1, eck, e330, ebk, er, ePr, nI_1]
        exact nxt)
    have k0 := key2 τ f (fun p hp => by rw [if_neg (by omega)]; exact hb p hp)
    rw [nI_0] at k0
    exact jW.mono k0 (by simp)) (fun k hk ih τ f hx hb => by
    have e4 : τ.1 322 4 = nI (mN σ) := (f.2.2 322 4 rfl).trans hN4
    have hlt : ¬ nI (mN σ) ≤ nI k := nI_ge hk (by omega)
    have hk1 : jin (nI k) 10 := jin_nI (by omega) (by decide)
    have eck : (nI k).toNatClampNeg = k := nI_clamp (by omega)
    have e330 : τ.1 330 k = σ.1 330 k := f.2.2 330 k rfl
    have e323 : τ.1 323 = σ.1 323 := funext fun j => f.2.2 323 j rfl
    have ex1 := (hx k hk).1
    have ex2 := (hx k hk).2
    have nxt : jW g mX12_layPrices (n + 5) post 8 [(0, .ref 322), (1, .int sh), (2, .int (sm (mBs σ) k + mBs σ k)), (3, .int (nI (k + 1)))] [] (jup τ 334 k (mBs σ k)) := by
      refine ih _ (f.up _ rfl) (fun p hp => ?_) (fun p hp => ?_)
      · simp only [jup_1]
        simpa using hx p hp
      · rw [jup_1]
        by_cases e : p = k
        · subst e
          rw [if_pos ⟨rfl, rfl⟩]
        · rw [if_neg (by simp [e])]
          exact hb p (by omega)
    by_cases hl : dL (σ.1 323) k = true
    · obtain ⟨r, hr, er⟩ := h330 k hk hl
      have hnn : 0 ≤ nI r := nI_pos' (by omega)
      have hnl : ¬ nI r < 0 := nI_pos (by omega)
      by_cases h0 : σ.1 323 0 = 0
      · have eB : mLo σ k = mBs σ k := by rw [mBs, if_pos hl, if_pos h0]
        refine jvk_ok TX12_layPrices (V := [(185, 1, 12, oX12_layExtremes), (188, 2, 12, oX12_incomePart), (152, 1, 12, oX12_living)]) (S := []) (List.forall_mem_cons.mpr ⟨⟨mX12_layExtremes, n + 4, 0, TX12, 53, rfl, by omega, kX12_185, WX12_layExtremes, rfl, CX12_layExtremes g (n)⟩, (List.forall_mem_cons.mpr ⟨⟨mX12_incomePart, n + 0, 1, TX12, 53, rfl, by omega, kX12_188, WX12_incomePart, rfl, CX12_incomePart g (n)⟩, (List.forall_mem_cons.mpr ⟨⟨mX12_living, n + 3, 0, TX12, 53, rfl, by omega, kX12_152, WX12_living, rfl, CX12_living g (n)⟩, (fun _ h => absurd h List.not_mem_nil)⟩)⟩)⟩) (fun _ h => absurd h List.not_mem_nil) [8, 128] 60 _ _ _ _ ?_
        simp (maxSteps := 1000000) [↓Bool.cond_eq_ite, -Prod.forall, -Prod.exists, -Prod.mk.injEq, jvk, tX12_layPrices, jtb, jol, jst, jlk, jcmp, jbin, jfl, fX12, jc2, lX12, jcat, jel, lv_args, Value.category, jins, jsrt, jins2, jble, jblt, jf3, List.filter_cons, List.filter_nil, G_m, oX12_layExtremes, oX12_incomePart, oX12_living, joR, joRI, -Int32.not_le, -Int32.not_lt, -Int64.not_le, -Int64.not_lt, i3lt, i6lt, e4, hlt, hk1, eck, e330, e323, er, hnn, hnl, h0, ex1, ex2, eB, jup_1, jin_d, tn_c, nI_1]
        try simp (disch := omega) [-Prod.forall, -Prod.exists, -Prod.mk.injEq, -Int32.not_le, -Int32.not_lt, -Int64.not_le, -Int64.not_lt, i3lt, i6lt, e4, hlt, hk1, eck, e330, e323, er, hnn, hnl, h0, ex1, ex2, eB, jup_1, jin_d, tn_c, nI_1]
        exact jW.mono nxt (by simp)
      · by_cases h1 : σ.1 323 0 = 1
        · have eB : mHi σ k = mBs σ k := by rw [mBs, if_pos hl, if_neg h0, if_pos h1]
          refine jvk_ok TX12_layPrices (V := [(185, 1, 12, oX12_layExtremes), (188, 2, 12, oX12_incomePart), (152, 1, 12, oX12_living)]) (S := []) (List.forall_mem_cons.mpr ⟨⟨mX12_layExtremes, n + 4, 0, TX12, 53, rfl, by omega, kX12_185, WX12_layExtremes, rfl, CX12_layExtremes g (n)⟩, (List.forall_mem_cons.mpr ⟨⟨mX12_incomePart, n + 0, 1, TX12, 53, rfl, by omega, kX12_188, WX12_incomePart, rfl, CX12_incomePart g (n)⟩, (List.forall_mem_cons.mpr ⟨⟨mX12_living, n + 3, 0, TX12, 53, rfl, by omega, kX12_152, WX12_living, rfl, CX12_living g (n)⟩, (fun _ h => absurd h List.not_mem_nil)⟩)⟩)⟩) (fun _ h => absurd h List.not_mem_nil) [8, 128] 60 _ _ _ _ ?_
          simp (maxSteps := 1000000) [↓Bool.cond_eq_ite, -Prod.forall, -Prod.exists, -Prod.mk.injEq, jvk, tX12_layPrices, jtb, jol, jst, jlk, jcmp, jbin, jfl, fX12, jc2, lX12, jcat, jel, lv_args, Value.category, jins, jsrt, jins2, jble, jblt, jf3, List.filter_cons, List.filter_nil, G_m, oX12_layExtremes, oX12_incomePart, oX12_living, joR, joRI, -Int32.not_le, -Int32.not_lt, -Int64.not_le, -Int64.not_lt, i3lt, i6lt, e4, hlt, hk1, eck, e330, e323, er, hnn, hnl, h0, h1, ex1, ex2, eB, jup_1, jin_d, tn_c, nI_1]
          try simp (disch := omega) [-Prod.forall, -Prod.exists, -Prod.mk.injEq, -Int32.not_le, -Int32.not_lt, -Int64.not_le, -Int64.not_lt, i3lt, i6lt, e4, hlt, hk1, eck, e330, e323, er, hnn, hnl, h0, h1, ex1, ex2, eB, jup_1, jin_d, tn_c, nI_1]
          exact jW.mono nxt (by simp)
        · have eB : (mLo σ k + mHi σ k) / 2 = mBs σ k := by rw [mBs, if_pos hl, if_neg h0, if_neg h1]
          refine jvk_ok TX12_layPrices (V := [(185, 1, 12, oX12_layExtremes), (188, 2, 12, oX12_incomePart), (152, 1, 12, oX12_living)]) (S := []) (List.forall_mem_cons.mpr ⟨⟨mX12_layExtremes, n + 4, 0, TX12, 53, rfl, by omega, kX12_185, WX12_layExtremes, rfl, CX12_layExtremes g (n)⟩, (List.forall_mem_cons.mpr ⟨⟨mX12_incomePart, n + 0, 1, TX12, 53, rfl, by omega, kX12_188, WX12_incomePart, rfl, CX12_incomePart g (n)⟩, (List.forall_mem_cons.mpr ⟨⟨mX12_living, n + 3, 0, TX12, 53, rfl, by omega, kX12_152, WX12_living, rfl, CX12_living g (n)⟩, (fun _ h => absurd h List.not_mem_nil)⟩)⟩)⟩) (fun _ h => absurd h List.not_mem_nil) [8, 128] 60 _ _ _ _ ?_
          simp (maxSteps := 1000000) [↓Bool.cond_eq_ite, -Prod.forall, -Prod.exists, -Prod.mk.injEq, jvk, tX12_layPrices, jtb, jol, jst, jlk, jcmp, jbin, jfl, fX12, jc2, lX12, jcat, jel, lv_args, Value.category, jins, jsrt, jins2, jble, jblt, jf3, List.filter_cons, List.filter_nil, G_m, oX12_layExtremes, oX12_incomePart, oX12_living, joR, joRI, -Int32.not_le, -Int32.not_lt, -Int64.not_le, -Int64.not_lt, i3lt, i6lt, e4, hlt, hk1, eck, e330, e323, er, hnn, hnl, h0, h1, ex1, ex2, eB, jup_1, jin_d, tn_c, nI_1]
          try simp (disch := omega) [-Prod.forall, -Prod.exists, -Prod.mk.injEq, -Int32.not_le, -Int32.not_lt, -Int64.not_le, -Int64.not_lt, i3lt, i6lt, e4, hlt, hk1, eck, e330, e323, er, hnn, hnl, h0, h1, ex1, ex2, eB, jup_1, jin_d, tn_c, nI_1]
          exact jW.mono nxt (by simp)
    · have er := h330n k hk hl
      have eB : (0 : Int32) = mBs σ k := by rw [mBs, if_neg hl]
      rw [← eB] at nxt
      refine jvk_ok TX12_layPrices (V := [(185, 1, 12, oX12_layExtremes), (188, 2, 12, oX12_incomePart), (152, 1, 12, oX12_living)]) (S := []) (List.forall_mem_cons.mpr ⟨⟨mX12_layExtremes, n + 4, 0, TX12, 53, rfl, by omega, kX12_185, WX12_layExtremes, rfl, CX12_layExtremes g (n)⟩, (List.forall_mem_cons.mpr ⟨⟨mX12_incomePart, n + 0, 1, TX12, 53, rfl, by omega, kX12_188, WX12_incomePart, rfl, CX12_incomePart g (n)⟩, (List.forall_mem_cons.mpr ⟨⟨mX12_living, n + 3, 0, TX12, 53, rfl, by omega, kX12_152, WX12_living, rfl, CX12_living g (n)⟩, (fun _ h => absurd h List.not_mem_nil)⟩)⟩)⟩) (fun _ h => absurd h List.not_mem_nil) [8, 128] 60 _ _ _ _ ?_
      simp (maxSteps := 1000000) [↓Bool.cond_eq_ite, -Prod.forall, -Prod.exists, -Prod.mk.injEq, jvk, tX12_layPrices, jtb, jol, jst, jlk, jcmp, jbin, jfl, fX12, jc2, lX12, jcat, jel, lv_args, Value.category, jins, jsrt, jins2, jble, jblt, jf3, List.filter_cons, List.filter_nil, G_m, oX12_layExtremes, oX12_incomePart, oX12_living, joR, joRI, -Int32.not_le, -Int32.not_lt, -Int64.not_le, -Int64.not_lt, i3lt, i6lt, e4, hlt, hk1, eck, e330, e323, er, ex1, ex2, jup_1, jin_d, tn_c, nI_1]
      try simp (disch := omega) [-Prod.forall, -Prod.exists, -Prod.mk.injEq, -Int32.not_le, -Int32.not_lt, -Int64.not_le, -Int64.not_lt, i3lt, i6lt, e4, hlt, hk1, eck, e330, e323, er, ex1, ex2, jup_1, jin_d, tn_c, nI_1]
      exact jW.mono nxt (by simp))
  have k0 := key τ0 w0 hex (fun p hp => by omega)
  refine jvk_ok TX12_layPrices (V := [(185, 1, 12, oX12_layExtremes), (188, 2, 12, oX12_incomePart), (152, 1, 12, oX12_living)]) (S := []) (List.forall_mem_cons.mpr ⟨⟨mX12_layExtremes, n + 4, 0, TX12, 53, rfl, by omega, kX12_185, WX12_layExtremes, rfl, CX12_layExtremes g (n)⟩, (List.forall_mem_cons.mpr ⟨⟨mX12_incomePart, n + 0, 1, TX12, 53, rfl, by omega, kX12_188, WX12_incomePart, rfl, CX12_incomePart g (n)⟩, (List.forall_mem_cons.mpr ⟨⟨mX12_living, n + 3, 0, TX12, 53, rfl, by omega, kX12_152, WX12_living, rfl, CX12_living g (n)⟩, (fun _ h => absurd h List.not_mem_nil)⟩)⟩)⟩) (fun _ h => absurd h List.not_mem_nil) [8] 10 _ _ _ _ ?_
  simp (maxSteps := 1000000) [↓Bool.cond_eq_ite, -Prod.forall, -Prod.exists, -Prod.mk.injEq, jvk, tX12_layPrices, jtb, jol, jst, jlk, jcmp, jbin, jfl, fX12, jc2, lX12, jcat, jel, lv_args, Value.category, jins, jsrt, jins2, jble, jblt, jf3, List.filter_cons, List.filter_nil, G_m, oX12_layExtremes, oX12_incomePart, oX12_living, joR, joRI, -Int32.not_le, -Int32.not_lt, -Int64.not_le, -Int64.not_lt, i3lt, i6lt]
  try simp (disch := omega) [-Prod.forall, -Prod.exists, -Prod.mk.injEq, -Int32.not_le, -Int32.not_lt, -Int64.not_le, -Int64.not_lt, i3lt, i6lt]
  simpa [nI_0, sm] using k0
