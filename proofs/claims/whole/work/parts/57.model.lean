/-! the reference: payments, laid -/
def aPy (a j : Nat) : Bool := a == 332 || a == 333 || a == 334 || a == 335 || a == 338 || a == 339 || a == 340
def bPy (a : Nat) : Bool := a == 336 || a == 337
def oX12_layPayments : jO := joRI fun a x σ => (a = 322 ∧ (∃ c, hC σ c) ∧ dI (σ.1 323) ∧ ∃ sh, x = nI sh ∧ sh ≤ 100, fun v τ => v = none ∧ jfr aPy bPy σ τ ∧ ∀ p, p < mN σ → τ.1 334 p = mPr σ x p ∧ τ.1 339 p = (if xl σ p = true then shS σ x.toNatClampNeg (cn (xl σ) p) else 0) ∧ τ.1 340 p = (if xl σ p = true then paS σ x.toNatClampNeg (cn (xl σ) p) else 0))
set_option maxRecDepth 100000 in
set_option maxHeartbeats 4000000 in
theorem CPy4 (g : jG) (n : Nat) {post : Option Value → jM → Prop} {σ : jM} (hok : mOK σ) {U S : Nat → Int32} (τ : jM) (f : jfr aPy bPy σ τ) (h338 : ∀ p, p < mN σ → τ.1 338 p = if xl σ p = true then 1 else 0) (h339 : ∀ p, p < mN σ → τ.1 339 p = if xl σ p = true then S (cn (xl σ) p) else 0) (h335 : ∀ p, p < mN σ → xl σ p = true → τ.1 335 p = U (cn (xl σ) p))
    (k : ∀ τ', jfr aPy bPy σ τ' → (∀ p, τ'.1 334 p = τ.1 334 p) → (∀ p, p < mN σ → τ'.1 339 p = τ.1 339 p) → (∀ p, p < mN σ → τ'.1 340 p = if xl σ p = true then U (cn (xl σ) p) + S (cn (xl σ) p) else 0) → post none τ') : jW g mX12_layPayments (n + 6) post 180 [(0, .ref 322), (3, .int 0)] [] τ := by
  obtain ⟨hN10, hN4⟩ := mN_le hok
  have key := jloop (P := fun k => ∀ τ' : jM, jfr aPy bPy σ τ' → (∀ a p, a ≠ 340 → τ'.1 a p = τ.1 a p) → (∀ p, p < k → τ'.1 340 p = if xl σ p = true then U (cn (xl σ) p) + S (cn (xl σ) p) else 0) → jW g mX12_layPayments (n + 6) post 180 [(0, .ref 322), (3, .int (nI k))] [] τ') (N := mN σ) (fun τ' f' hs h => by
    have e4 : τ'.1 322 4 = nI (mN σ) := (f'.2.2 322 4 rfl).trans hN4
    have hle : nI (mN σ) ≤ nI (mN σ) := nI_le (Nat.le_refl _) (by omega)
    refine jvk_ok TX12_layPayments (V := [(197, 2, 12, oX12_layPrices), (131, 2, 12, oX12_isLiving), (128, 3, 12, oX12_of), (188, 2, 12, oX12_incomePart), (200, 2, 12, oX12_splits), (193, 2, 12, oX12_handOut)]) (S := [(203, 2, 0, oX12_floor)]) (List.forall_mem_cons.mpr ⟨⟨mX12_layPrices, n + 5, 1, TX12, 53, rfl, by omega, kX12_197, WX12_layPrices, rfl, CX12_layPrices g (n)⟩, (List.forall_mem_cons.mpr ⟨⟨mX12_isLiving, n + 2, 1, TX12, 53, rfl, by omega, kX12_131, WX12_isLiving, rfl, CX12_isLiving g (n)⟩, (List.forall_mem_cons.mpr ⟨⟨mX12_of, n + 1, 2, TX12, 53, rfl, by omega, kX12_128, WX12_of, rfl, CX12_of g (n)⟩, (List.forall_mem_cons.mpr ⟨⟨mX12_incomePart, n + 0, 1, TX12, 53, rfl, by omega, kX12_188, WX12_incomePart, rfl, CX12_incomePart g (n)⟩, (List.forall_mem_cons.mpr ⟨⟨mX12_splits, n + 1, 1, TX12, 53, rfl, by omega, kX12_200, WX12_splits, rfl, CX12_splits g (n)⟩, (List.forall_mem_cons.mpr ⟨⟨mX12_handOut, n + 0, 1, TX12, 53, rfl, by omega, kX12_193, WX12_handOut, rfl, CX12_handOut g (n)⟩, (fun _ h => absurd h List.not_mem_nil)⟩)⟩)⟩)⟩)⟩)⟩) (List.forall_mem_cons.mpr ⟨⟨mX12_floor, n + 0, by omega, Or.inl kX12_203, WX12_floor, CX12_floor g (n)⟩, (fun _ h => absurd h List.not_mem_nil)⟩) [180] 30 _ _ _ _ ?_
    simp (maxSteps := 1000000) [↓Bool.cond_eq_ite, -Prod.forall, -Prod.exists, -Prod.mk.injEq, jvk, tX12_layPayments, jtb, jol, jst, jlk, jcmp, jbin, jfl, fX12, jc2, lX12, jcat, jel, lv_args, Value.category, jins, jsrt, jins2, jble, jblt, jf3, List.filter_cons, List.filter_nil, G_m, oX12_layPrices, oX12_isLiving, oX12_of, oX12_incomePart, oX12_splits, oX12_floor, oX12_handOut, joII, joRI, joRII, -Int32.not_le, -Int32.not_lt, -Int64.not_le, -Int64.not_lt, i3lt, i6lt, e4, hle]
    try simp (disch := omega) [-Prod.forall, -Prod.exists, -Prod.mk.injEq, -Int32.not_le, -Int32.not_lt, -Int64.not_le, -Int64.not_lt, i3lt, i6lt, e4, hle]
    exact k τ' f' (fun p => hs 334 p (by decide)) (fun p _ => hs 339 p (by decide)) h) (fun k hk ih τ' f' hs h => by
    have e4 : τ'.1 322 4 = nI (mN σ) := (f'.2.2 322 4 rfl).trans hN4
    have hlt : ¬ nI (mN σ) ≤ nI k := nI_ge hk (by omega)
    have hk1 : jin (nI k) 10 := jin_nI (by omega) (by decide)
    have eck : (nI k).toNatClampNeg = k := nI_clamp (by omega)
    have e338 : τ'.1 338 k = if xl σ k = true then 1 else 0 := (hs 338 k (by decide)).trans (h338 k hk)
    have nxt : ∀ x, x = (if xl σ k = true then U (cn (xl σ) k) + S (cn (xl σ) k) else 0) → jW g mX12_layPayments (n + 6) post 180 [(0, .ref 322), (3, .int (nI (k + 1)))] [] (jup τ' 340 k x) := fun x hx => by
      refine ih _ (f'.up _ rfl) (fun a p ha => ?_) (fun p hp => ?_)
      · rw [jup_1, if_neg (fun z => ha z.1)]
        exact hs a p ha
      · rw [jup_1]
        by_cases e : p = k
        · subst e
          rw [if_pos ⟨rfl, rfl⟩, hx]
        · rw [if_neg (by simp [e])]
          exact h p (by omega)
    by_cases hl : xl σ k = true
    · rw [if_pos hl] at e338
      have e335 : τ'.1 335 k = U (cn (xl σ) k) := (hs 335 k (by decide)).trans (h335 k hk hl)
      have e339 : τ'.1 339 k = S (cn (xl σ) k) := by rw [hs 339 k (by decide), h339 k hk, if_pos hl]
      refine jvk_ok TX12_layPayments (V := [(197, 2, 12, oX12_layPrices), (131, 2, 12, oX12_isLiving), (128, 3, 12, oX12_of), (188, 2, 12, oX12_incomePart), (200, 2, 12, oX12_splits), (193, 2, 12, oX12_handOut)]) (S := [(203, 2, 0, oX12_floor)]) (List.forall_mem_cons.mpr ⟨⟨mX12_layPrices, n + 5, 1, TX12, 53, rfl, by omega, kX12_197, WX12_layPrices, rfl, CX12_layPrices g (n)⟩, (List.forall_mem_cons.mpr ⟨⟨mX12_isLiving, n + 2, 1, TX12, 53, rfl, by omega, kX12_131, WX12_isLiving, rfl, CX12_isLiving g (n)⟩, (List.forall_mem_cons.mpr ⟨⟨mX12_of, n + 1, 2, TX12, 53, rfl, by omega, kX12_128, WX12_of, rfl, CX12_of g (n)⟩, (List.forall_mem_cons.mpr ⟨⟨mX12_incomePart, n + 0, 1, TX12, 53, rfl, by omega, kX12_188, WX12_incomePart, rfl, CX12_incomePart g (n)⟩, (List.forall_mem_cons.mpr ⟨⟨mX12_splits, n + 1, 1, TX12, 53, rfl, by omega, kX12_200, WX12_splits, rfl, CX12_splits g (n)⟩, (List.forall_mem_cons.mpr ⟨⟨mX12_handOut, n + 0, 1, TX12, 53, rfl, by omega, kX12_193, WX12_handOut, rfl, CX12_handOut g (n)⟩, (fun _ h => absurd h List.not_mem_nil)⟩)⟩)⟩)⟩)⟩)⟩) (List.forall_mem_cons.mpr ⟨⟨mX12_floor, n + 0, by omega, Or.inl kX12_203, WX12_floor, CX12_floor g (n)⟩, (fun _ h => absurd h List.not_mem_nil)⟩) [180] 40 _ _ _ _ ?_
      simp (maxSteps := 1000000) [↓Bool.cond_eq_ite, -Prod.forall, -Prod.exists, -Prod.mk.injEq, jvk, tX12_layPayments, jtb, jol, jst, jlk, jcmp, jbin, jfl, fX12, jc2, lX12, jcat, jel, lv_args, Value.category, jins, jsrt, jins2, jble, jblt, jf3, List.filter_cons, List.filter_nil, G_m, oX12_layPrices, oX12_isLiving, oX12_of, oX12_incomePart, oX12_splits, oX12_floor, oX12_handOut, joII, joRI, joRII, -Int32.not_le, -Int32.not_lt, -Int64.not_le, -Int64.not_lt, i3lt, i6lt, e4, hlt, hk1, eck, e338, e335, e339, nI_1]
      try simp (disch := omega) [-Prod.forall, -Prod.exists, -Prod.mk.injEq, -Int32.not_le, -Int32.not_lt, -Int64.not_le, -Int64.not_lt, i3lt, i6lt, e4, hlt, hk1, eck, e338, e335, e339, nI_1]
      exact nxt _ (by rw [if_pos hl])
    · rw [if_neg hl] at e338
      refine jvk_ok TX12_layPayments (V := [(197, 2, 12, oX12_layPrices), (131, 2, 12, oX12_isLiving), (128, 3, 12, oX12_of), (188, 2, 12, oX12_incomePart), (200, 2, 12, oX12_splits), (193, 2, 12, oX12_handOut)]) (S := [(203, 2, 0, oX12_floor)]) (List.forall_mem_cons.mpr ⟨⟨mX12_layPrices, n + 5, 1, TX12, 53, rfl, by omega, kX12_197, WX12_layPrices, rfl, CX12_layPrices g (n)⟩, (List.forall_mem_cons.mpr ⟨⟨mX12_isLiving, n + 2, 1, TX12, 53, rfl, by omega, kX12_131, WX12_isLiving, rfl, CX12_isLiving g (n)⟩, (List.forall_mem_cons.mpr ⟨⟨mX12_of, n + 1, 2, TX12, 53, rfl, by omega, kX12_128, WX12_of, rfl, CX12_of g (n)⟩, (List.forall_mem_cons.mpr ⟨⟨mX12_incomePart, n + 0, 1, TX12, 53, rfl, by omega, kX12_188, WX12_incomePart, rfl, CX12_incomePart g (n)⟩, (List.forall_mem_cons.mpr ⟨⟨mX12_splits, n + 1, 1, TX12, 53, rfl, by omega, kX12_200, WX12_splits, rfl, CX12_splits g (n)⟩, (List.forall_mem_cons.mpr ⟨⟨mX12_handOut, n + 0, 1, TX12, 53, rfl, by omega, kX12_193, WX12_handOut, rfl, CX12_handOut g (n)⟩, (fun _ h => absurd h List.not_mem_nil)⟩)⟩)⟩)⟩)⟩)⟩) (List.forall_mem_cons.mpr ⟨⟨mX12_floor, n + 0, by omega, Or.inl kX12_203, WX12_floor, CX12_floor g (n)⟩, (fun _ h => absurd h List.not_mem_nil)⟩) [180] 40 _ _ _ _ ?_
      simp (maxSteps := 1000000) [↓Bool.cond_eq_ite, -Prod.forall, -Prod.exists, -Prod.mk.injEq, jvk, tX12_layPayments, jtb, jol, jst, jlk, jcmp, jbin, jfl, fX12, jc2, lX12, jcat, jel, lv_args, Value.category, jins, jsrt, jins2, jble, jblt, jf3, List.filter_cons, List.filter_nil, G_m, oX12_layPrices, oX12_isLiving, oX12_of, oX12_incomePart, oX12_splits, oX12_floor, oX12_handOut, joII, joRI, joRII, -Int32.not_le, -Int32.not_lt, -Int64.not_le, -Int64.not_lt, i3lt, i6lt, e4, hlt, hk1, eck, e338, nI_1]
      try simp (disch := omega) [-Prod.forall, -Prod.exists, -Prod.mk.injEq, -Int32.not_le, -Int32.not_lt, -Int64.not_le, -Int64.not_lt, i3lt, i6lt, e4, hlt, hk1, eck, e338, nI_1]
      exact nxt _ (by rw [if_neg hl]))
  have k0 := key τ f (fun _ _ _ => rfl) (fun p hp => by omega)
  simpa [nI_0] using k0
theorem hoN_mod {r : Nat → Int} {m : Nat} (h : ∀ i, i < m → r i = r i % 120) : hoN r m = m := hoN_all (fun i hi => by rw [h i hi]; omega)
set_option maxRecDepth 100000 in
set_option maxHeartbeats 4000000 in
theorem CPy3 (g : jG) (n : Nat) {post : Option Value → jM → Prop} {σ : jM} {a : Nat × Nat × (Nat → Nat)} (hc : hC σ a) (hd : dI (σ.1 323)) {sh : Nat} (hs : sh ≤ 100) (τ : jM) (f : jfr aPy bPy σ τ) (h334 : ∀ p, p < mN σ → τ.1 334 p = mPr σ (nI sh) p) (h338 : ∀ p, p < mN σ → τ.1 338 p = if xl σ p = true then 1 else 0)
    (k : ∀ τ', jfr aPy bPy σ τ' → (∀ p, τ'.1 334 p = τ.1 334 p) → (∀ p, τ'.1 338 p = τ.1 338 p) → (∀ p, τ'.1 339 p = τ.1 339 p) → (∀ p, p < mN σ → xl σ p = true → τ'.1 335 p = unS σ sh (cn (xl σ) p)) → jW g mX12_layPayments (n + 6) post 180 [(0, .ref 322), (3, .int 0)] [] τ') : jW g mX12_layPayments (n + 6) post 97 [(0, .ref 322), (2, .int (nI (ppN σ sh))), (3, .int 0)] [] τ := by
  obtain ⟨hN10, hN4⟩ := mN_le hc.1
  obtain ⟨L, z1, z2, z3, z4, z5, z6, z7, z8⟩ := ip_le hd hs
  obtain ⟨p1, p2, p3, p4⟩ := mPr_eq hc hd hs
  have eLv : cn (xl σ) (mN σ) = mLiv σ := rfl
  have hm10 : mLiv σ ≤ mN σ := cn_le _ _
  have key := jloop (P := fun k => ∀ τ' : jM, jfr aPy bPy σ τ' → (∀ a p, a ≠ 335 → τ'.1 a p = τ.1 a p) → (∀ p, p < k → xl σ p = true → τ'.1 335 p = iI (prI σ sh (cn (xl σ) p) / 120) ∧ τ'.2.1 337 p = lI (prI σ sh (cn (xl σ) p) % 120)) → jW g mX12_layPayments (n + 6) post 97 [(0, .ref 322), (2, .int (iI ((ppN σ sh : Int) - sI (fun i => prI σ sh i / 120) (cn (xl σ) k)))), (3, .int (nI k))] [] τ') (N := mN σ) (fun τ' f' hs' h => by
    have e4 : τ'.1 322 4 = nI (mN σ) := (f'.2.2 322 4 rfl).trans hN4
    have hle : nI (mN σ) ≤ nI (mN σ) := nI_le (Nat.le_refl _) (by omega)
    obtain ⟨t1, t2, t3, t4, t5⟩ := jfr_T f' (fun _ => rfl) rfl
    have hok2 : mOK τ' := mOK_of hc.1 (f'.2.2 322 3 rfl) (f'.2.2 322 4 rfl) (f'.2.2 322 5 rfl)
    have hT2 : xT τ' := fun p hp => by
      rw [t3, hs' 338 p (by decide)]
      exact h338 p (by rw [← t2]; exact hp)
    have exr : ∀ i, i < mLiv σ → xr τ' i = prI σ sh i % 120 := fun i hi => by
      obtain ⟨q1, q2, q3⟩ := xp_is (σ := σ) hi
      unfold xr
      rw [t4, (h _ q2 q1).2, q3, lI_toInt ⟨by omega, by omega⟩]
    have exs : ∀ i, i < mLiv σ → xs τ' i = iI (prI σ sh i / 120) := fun i hi => by
      obtain ⟨q1, q2, q3⟩ := xp_is (σ := σ) hi
      unfold xs
      rw [t4, (h _ q2 q1).1, q3]
    have hall : hoN (xr τ') (mLiv τ') = mLiv σ := by
      rw [t5]
      exact hoN_mod (fun i hi => by rw [exr i hi]; omega)
    have elf : iI ((ppN σ sh : Int) - sI (fun i => prI σ sh i / 120) (mLiv σ)) = nI (lfI σ sh).toNat := by
      rw [← iI_nat]
      congr 1
      unfold lfI at p3 ⊢
      omega
    have hpre : ∃ k, nI (lfI σ sh).toNat = nI k ∧ k ≤ hoN (xr τ') (mLiv τ') := ⟨_, rfl, by rw [hall]; omega⟩
    rw [eLv, elf]
    refine jvk_ok TX12_layPayments (V := [(197, 2, 12, oX12_layPrices), (131, 2, 12, oX12_isLiving), (128, 3, 12, oX12_of), (188, 2, 12, oX12_incomePart), (200, 2, 12, oX12_splits), (193, 2, 12, oX12_handOut)]) (S := [(203, 2, 0, oX12_floor)]) (List.forall_mem_cons.mpr ⟨⟨mX12_layPrices, n + 5, 1, TX12, 53, rfl, by omega, kX12_197, WX12_layPrices, rfl, CX12_layPrices g (n)⟩, (List.forall_mem_cons.mpr ⟨⟨mX12_isLiving, n + 2, 1, TX12, 53, rfl, by omega, kX12_131, WX12_isLiving, rfl, CX12_isLiving g (n)⟩, (List.forall_mem_cons.mpr ⟨⟨mX12_of, n + 1, 2, TX12, 53, rfl, by omega, kX12_128, WX12_of, rfl, CX12_of g (n)⟩, (List.forall_mem_cons.mpr ⟨⟨mX12_incomePart, n + 0, 1, TX12, 53, rfl, by omega, kX12_188, WX12_incomePart, rfl, CX12_incomePart g (n)⟩, (List.forall_mem_cons.mpr ⟨⟨mX12_splits, n + 1, 1, TX12, 53, rfl, by omega, kX12_200, WX12_splits, rfl, CX12_splits g (n)⟩, (List.forall_mem_cons.mpr ⟨⟨mX12_handOut, n + 0, 1, TX12, 53, rfl, by omega, kX12_193, WX12_handOut, rfl, CX12_handOut g (n)⟩, (fun _ h => absurd h List.not_mem_nil)⟩)⟩)⟩)⟩)⟩)⟩) (List.forall_mem_cons.mpr ⟨⟨mX12_floor, n + 0, by omega, Or.inl kX12_203, WX12_floor, CX12_floor g (n)⟩, (fun _ h => absurd h List.not_mem_nil)⟩) [97, 178] 40 _ _ _ _ ?_
    simp (maxSteps := 1000000) [↓Bool.cond_eq_ite, -Prod.forall, -Prod.exists, -Prod.mk.injEq, jvk, tX12_layPayments, jtb, jol, jst, jlk, jcmp, jbin, jfl, fX12, jc2, lX12, jcat, jel, lv_args, Value.category, jins, jsrt, jins2, jble, jblt, jf3, List.filter_cons, List.filter_nil, G_m, oX12_layPrices, oX12_isLiving, oX12_of, oX12_incomePart, oX12_splits, oX12_floor, oX12_handOut, joII, joRI, joRII, -Int32.not_le, -Int32.not_lt, -Int64.not_le, -Int64.not_lt, i3lt, i6lt, e4, hle, hok2, hT2, hpre]
    try simp (disch := omega) [-Prod.forall, -Prod.exists, -Prod.mk.injEq, -Int32.not_le, -Int32.not_lt, -Int64.not_le, -Int64.not_lt, i3lt, i6lt, e4, hle, hok2, hT2, hpre]
    intro v3 τ3 hv3 f3 h3
    subst hv3
    refine jvk_ok TX12_layPayments (V := [(197, 2, 12, oX12_layPrices), (131, 2, 12, oX12_isLiving), (128, 3, 12, oX12_of), (188, 2, 12, oX12_incomePart), (200, 2, 12, oX12_splits), (193, 2, 12, oX12_handOut)]) (S := [(203, 2, 0, oX12_floor)]) (List.forall_mem_cons.mpr ⟨⟨mX12_layPrices, n + 5, 1, TX12, 53, rfl, by omega, kX12_197, WX12_layPrices, rfl, CX12_layPrices g (n)⟩, (List.forall_mem_cons.mpr ⟨⟨mX12_isLiving, n + 2, 1, TX12, 53, rfl, by omega, kX12_131, WX12_isLiving, rfl, CX12_isLiving g (n)⟩, (List.forall_mem_cons.mpr ⟨⟨mX12_of, n + 1, 2, TX12, 53, rfl, by omega, kX12_128, WX12_of, rfl, CX12_of g (n)⟩, (List.forall_mem_cons.mpr ⟨⟨mX12_incomePart, n + 0, 1, TX12, 53, rfl, by omega, kX12_188, WX12_incomePart, rfl, CX12_incomePart g (n)⟩, (List.forall_mem_cons.mpr ⟨⟨mX12_splits, n + 1, 1, TX12, 53, rfl, by omega, kX12_200, WX12_splits, rfl, CX12_splits g (n)⟩, (List.forall_mem_cons.mpr ⟨⟨mX12_handOut, n + 0, 1, TX12, 53, rfl, by omega, kX12_193, WX12_handOut, rfl, CX12_handOut g (n)⟩, (fun _ h => absurd h List.not_mem_nil)⟩)⟩)⟩)⟩)⟩)⟩) (List.forall_mem_cons.mpr ⟨⟨mX12_floor, n + 0, by omega, Or.inl kX12_203, WX12_floor, CX12_floor g (n)⟩, (fun _ h => absurd h List.not_mem_nil)⟩) [180] 10 _ _ _ _ ?_
    simp (maxSteps := 1000000) [↓Bool.cond_eq_ite, -Prod.forall, -Prod.exists, -Prod.mk.injEq, jvk, tX12_layPayments, jtb, jol, jst, jlk, jcmp, jbin, jfl, fX12, jc2, lX12, jcat, jel, lv_args, Value.category, jins, jsrt, jins2, jble, jblt, jf3, List.filter_cons, List.filter_nil, G_m, oX12_layPrices, oX12_isLiving, oX12_of, oX12_incomePart, oX12_splits, oX12_floor, oX12_handOut, joII, joRI, joRII, -Int32.not_le, -Int32.not_lt, -Int64.not_le, -Int64.not_lt, i3lt, i6lt]
    try simp (disch := omega) [-Prod.forall, -Prod.exists, -Prod.mk.injEq, -Int32.not_le, -Int32.not_lt, -Int64.not_le, -Int64.not_lt, i3lt, i6lt]
    refine jW.mono (k τ3 (f'.tr (f3.weak (fun a j q => by simp only [aPy, Bool.or_eq_false_iff] at q; simp only [aSp, q]) (fun a q => by simp only [bPy, Bool.or_eq_false_iff] at q; simp only [bSp, q]))) (fun p => (f3.2.2 334 p rfl).trans (hs' 334 p (by decide))) (fun p => (f3.2.2 338 p rfl).trans (hs' 338 p (by decide))) (fun p => (f3.2.2 339 p rfl).trans (hs' 339 p (by decide))) (fun p hp hl => ?_)) (by simp)
    rw [h3 p (by omega), t2, t3, t5, if_pos ⟨hp, hl⟩, nI_clamp (by omega)]
    exact hoS_congr _ _ _ _ _ (fun i hi => ⟨exr i hi, exs i hi⟩) _ (cn_lt hl hp)) (fun k hk ih τ' f' hs' h => by
    have e4 : τ'.1 322 4 = nI (mN σ) := (f'.2.2 322 4 rfl).trans hN4
    have hlt : ¬ nI (mN σ) ≤ nI k := nI_ge hk (by omega)
    have hk1 : jin (nI k) 10 := jin_nI (by omega) (by decide)
    have eck : (nI k).toNatClampNeg = k := nI_clamp (by omega)
    have e338 : τ'.1 338 k = if xl σ k = true then 1 else 0 := (hs' 338 k (by decide)).trans (h338 k hk)
    have e334 : τ'.1 334 k = if xl σ k = true then iI (prI σ sh (cn (xl σ) k)) else 0 := ((hs' 334 k (by decide)).trans (h334 k hk)).trans (p2 k hk)
    by_cases hl : xl σ k = true
    · rw [if_pos hl] at e338 e334
      have ecn : cn (xl σ) (k + 1) = cn (xl σ) k + 1 := by simp only [cn]; rw [if_pos hl]
      have hb := p1 _ (cn_lt hl hk : cn (xl σ) k < mLiv σ)
      have eF : mFl (iI (prI σ sh (cn (xl σ) k))) = iI (prI σ sh (cn (xl σ) k) / 120) := mFl_eq (by omega)
      have eM : (120 : Int32) * iI (prI σ sh (cn (xl σ) k) / 120) = iI (120 * (prI σ sh (cn (xl σ) k) / 120)) := iI_mul 120 _
      have eMod : prI σ sh (cn (xl σ) k) - 120 * (prI σ sh (cn (xl σ) k) / 120) = prI σ sh (cn (xl σ) k) % 120 := by omega
      have eL : (iI (prI σ sh (cn (xl σ) k) % 120)).toInt64 = lI (prI σ sh (cn (xl σ) k) % 120) := by
        have e1 : prI σ sh (cn (xl σ) k) % 120 = ((prI σ sh (cn (xl σ) k) % 120).toNat : Int) := by omega
        rw [e1, iI_nat, lI_nat]
        exact nI_l (by omega)
      rw [ecn] at ih
      simp only [sI] at ih
      have eA : (ppN σ sh : Int) - (sI (fun i => prI σ sh i / 120) (cn (xl σ) k) + prI σ sh (cn (xl σ) k) / 120) = (ppN σ sh : Int) - sI (fun i => prI σ sh i / 120) (cn (xl σ) k) - prI σ sh (cn (xl σ) k) / 120 := by omega
      rw [eA] at ih
      have k1 := ih (jupL (jup τ' 335 k (iI (prI σ sh (cn (xl σ) k) / 120))) 337 k (lI (prI σ sh (cn (xl σ) k) % 120))) ((f'.up _ rfl).upL _ rfl) (fun a p ha => by
        rw [jupL_1, jup_1, if_neg (fun z => ha z.1)]
        exact hs' a p ha) (fun p hp hlp => by
        rw [jupL_1, jupL_2, jup_1]
        by_cases e : p = k
        · subst e
          rw [if_pos ⟨rfl, rfl⟩, if_pos ⟨rfl, rfl⟩]
          exact ⟨rfl, rfl⟩
        · rw [if_neg (by simp [e]), if_neg (by simp [e])]
          exact h p (by omega) hlp)
      refine jvk_ok TX12_layPayments (V := [(197, 2, 12, oX12_layPrices), (131, 2, 12, oX12_isLiving), (128, 3, 12, oX12_of), (188, 2, 12, oX12_incomePart), (200, 2, 12, oX12_splits), (193, 2, 12, oX12_handOut)]) (S := [(203, 2, 0, oX12_floor)]) (List.forall_mem_cons.mpr ⟨⟨mX12_layPrices, n + 5, 1, TX12, 53, rfl, by omega, kX12_197, WX12_layPrices, rfl, CX12_layPrices g (n)⟩, (List.forall_mem_cons.mpr ⟨⟨mX12_isLiving, n + 2, 1, TX12, 53, rfl, by omega, kX12_131, WX12_isLiving, rfl, CX12_isLiving g (n)⟩, (List.forall_mem_cons.mpr ⟨⟨mX12_of, n + 1, 2, TX12, 53, rfl, by omega, kX12_128, WX12_of, rfl, CX12_of g (n)⟩, (List.forall_mem_cons.mpr ⟨⟨mX12_incomePart, n + 0, 1, TX12, 53, rfl, by omega, kX12_188, WX12_incomePart, rfl, CX12_incomePart g (n)⟩, (List.forall_mem_cons.mpr ⟨⟨mX12_splits, n + 1, 1, TX12, 53, rfl, by omega, kX12_200, WX12_splits, rfl, CX12_splits g (n)⟩, (List.forall_mem_cons.mpr ⟨⟨mX12_handOut, n + 0, 1, TX12, 53, rfl, by omega, kX12_193, WX12_handOut, rfl, CX12_handOut g (n)⟩, (fun _ h => absurd h List.not_mem_nil)⟩)⟩)⟩)⟩)⟩)⟩) (List.forall_mem_cons.mpr ⟨⟨mX12_floor, n + 0, by omega, Or.inl kX12_203, WX12_floor, CX12_floor g (n)⟩, (fun _ h => absurd h List.not_mem_nil)⟩) [97, 180] 60 _ _ _ _ ?_
      simp (maxSteps := 1000000) [↓Bool.cond_eq_ite, -Prod.forall, -Prod.exists, -Prod.mk.injEq, jvk, tX12_layPayments, jtb, jol, jst, jlk, jcmp, jbin, jfl, fX12, jc2, lX12, jcat, jel, lv_args, Value.category, jins, jsrt, jins2, jble, jblt, jf3, List.filter_cons, List.filter_nil, G_m, oX12_layPrices, oX12_isLiving, oX12_of, oX12_incomePart, oX12_splits, oX12_floor, oX12_handOut, joII, joRI, joRII, -Int32.not_le, -Int32.not_lt, -Int64.not_le, -Int64.not_lt, i3lt, i6lt, e4, hlt, hk1, eck, e338, e334, eF, eM, eMod, eL, iI_sub, jupL_1, jup_1, nI_1]
      try simp (disch := omega) [-Prod.forall, -Prod.exists, -Prod.mk.injEq, -Int32.not_le, -Int32.not_lt, -Int64.not_le, -Int64.not_lt, i3lt, i6lt, e4, hlt, hk1, eck, e338, e334, eF, eM, eMod, eL, iI_sub, jupL_1, jup_1, nI_1]
      exact jW.mono k1 (by simp)
    · rw [if_neg hl] at e338 e334
      have ecn : cn (xl σ) (k + 1) = cn (xl σ) k := by simp only [cn]; rw [if_neg hl]; rfl
      rw [ecn] at ih
      have k1 := ih (jupL (jup τ' 335 k 0) 337 k 0) ((f'.up _ rfl).upL _ rfl) (fun a p ha => by
        rw [jupL_1, jup_1, if_neg (fun z => ha z.1)]
        exact hs' a p ha) (fun p hp hlp => by
        rw [jupL_1, jupL_2, jup_1]
        by_cases e : p = k
        · subst e
          exact absurd hlp hl
        · rw [if_neg (by simp [e]), if_neg (by simp [e])]
          exact h p (by omega) hlp)
      have e00 : (0 : Int32).toInt64 = 0 := by decide
      refine jvk_ok TX12_layPayments (V := [(197, 2, 12, oX12_layPrices), (131, 2, 12, oX12_isLiving), (128, 3, 12, oX12_of), (188, 2, 12, oX12_incomePart), (200, 2, 12, oX12_splits), (193, 2, 12, oX12_handOut)]) (S := [(203, 2, 0, oX12_floor)]) (List.forall_mem_cons.mpr ⟨⟨mX12_layPrices, n + 5, 1, TX12, 53, rfl, by omega, kX12_197, WX12_layPrices, rfl, CX12_layPrices g (n)⟩, (List.forall_mem_cons.mpr ⟨⟨mX12_isLiving, n + 2, 1, TX12, 53, rfl, by omega, kX12_131, WX12_isLiving, rfl, CX12_isLiving g (n)⟩, (List.forall_mem_cons.mpr ⟨⟨mX12_of, n + 1, 2, TX12, 53, rfl, by omega, kX12_128, WX12_of, rfl, CX12_of g (n)⟩, (List.forall_mem_cons.mpr ⟨⟨mX12_incomePart, n + 0, 1, TX12, 53, rfl, by omega, kX12_188, WX12_incomePart, rfl, CX12_incomePart g (n)⟩, (List.forall_mem_cons.mpr ⟨⟨mX12_splits, n + 1, 1, TX12, 53, rfl, by omega, kX12_200, WX12_splits, rfl, CX12_splits g (n)⟩, (List.forall_mem_cons.mpr ⟨⟨mX12_handOut, n + 0, 1, TX12, 53, rfl, by omega, kX12_193, WX12_handOut, rfl, CX12_handOut g (n)⟩, (fun _ h => absurd h List.not_mem_nil)⟩)⟩)⟩)⟩)⟩)⟩) (List.forall_mem_cons.mpr ⟨⟨mX12_floor, n + 0, by omega, Or.inl kX12_203, WX12_floor, CX12_floor g (n)⟩, (fun _ h => absurd h List.not_mem_nil)⟩) [97, 180] 60 _ _ _ _ ?_
      simp (maxSteps := 1000000) [↓Bool.cond_eq_ite, -Prod.forall, -Prod.exists, -Prod.mk.injEq, jvk, tX12_layPayments, jtb, jol, jst, jlk, jcmp, jbin, jfl, fX12, jc2, lX12, jcat, jel, lv_args, Value.category, jins, jsrt, jins2, jble, jblt, jf3, List.filter_cons, List.filter_nil, G_m, oX12_layPrices, oX12_isLiving, oX12_of, oX12_incomePart, oX12_splits, oX12_floor, oX12_handOut, joII, joRI, joRII, -Int32.not_le, -Int32.not_lt, -Int64.not_le, -Int64.not_lt, i3lt, i6lt, e4, hlt, hk1, eck, e338, e334, e00, jupL_1, jup_1, nI_1]
      try simp (disch := omega) [-Prod.forall, -Prod.exists, -Prod.mk.injEq, -Int32.not_le, -Int32.not_lt, -Int64.not_le, -Int64.not_lt, i3lt, i6lt, e4, hlt, hk1, eck, e338, e334, e00, jupL_1, jup_1, nI_1]
      exact jW.mono k1 (by simp))
  have k0 := key τ f (fun _ _ _ => rfl) (fun p hp => by omega)
  have e0 : iI ((ppN σ sh : Int) - sI (fun i => prI σ sh i / 120) (cn (xl σ) 0)) = nI (ppN σ sh) := by
    rw [← iI_nat]
    congr 1 <;> simp [cn, sI]
  rw [e0, nI_0] at k0
  exact k0
theorem mD_eq {σ : jM} (hd : dI (σ.1 323)) {p : Nat} (hp : p < 10) : ∃ w, w ≤ 99999 ∧ mD σ p 1 = nI w ∧ (mD σ p 1).toNatClampNeg = w := nI_rng (hd.2.1 p hp).1 (hd.2.1 p hp).2 (by decide)
theorem spS_congr {A m : Nat} {w w' : Nat → Nat} (h : ∀ i, i < m → w i = w' i) : ∀ i, i < m → spS A w m i = spS A w' m i := by
  have e1 : smN w m = smN w' m := smN_congr m h
  have e2 : spA w m = spA w' m := by unfold spA; rw [e1]
  have e3 : ∀ i, i < m → spW w m i = spW w' m i := fun i hi => by unfold spW; rw [e1, h i hi]
  have e4 : ∀ i, i < m → spP A w m i = spP A w' m i := fun i hi => by unfold spP; rw [e2, e3 i hi]
  have e5 : ∀ i, i < m → spR A w m i = spR A w' m i := fun i hi => by unfold spR; rw [e2, e3 i hi]
  have e6 : spL A w m = spL A w' m := by unfold spL; rw [smN_congr m e4]
  intro i hi
  unfold spS
  rw [e6]
  exact hoS_congr _ _ _ _ _ (fun j hj => ⟨by rw [e5 j hj], by rw [e4 j hj]⟩) i hi
set_option maxRecDepth 100000 in
set_option maxHeartbeats 4000000 in
theorem CX12_layPayments (g : jG) (n : Nat) : jOk g (n + 6) mX12_layPayments oX12_layPayments := by
  refine joRI_ok ?_
  rintro _ _ σ ⟨rfl, hne, hd, sh, rfl, hsh⟩
  obtain ⟨a, hc⟩ := hne
  have hne : ∃ c, hC σ c := ⟨a, hc⟩
  obtain ⟨hN10, hN4⟩ := mN_le hc.1
  obtain ⟨L, z1, z2, z3, z4, z5, z6, z7, z8⟩ := ip_le hd hsh
  have ecs : (nI sh).toNatClampNeg = sh := nI_clamp (by omega)
  have eLv : cn (xl σ) (mN σ) = mLiv σ := rfl
  have hip : ipN σ sh ≤ 99999 := by omega
  refine jCon.ofP (by decide +kernel) (by simp [lg_sl, Value.category]) (fun post hp => ?_)
  refine jvk_ok TX12_layPayments (V := [(197, 2, 12, oX12_layPrices), (131, 2, 12, oX12_isLiving), (128, 3, 12, oX12_of), (188, 2, 12, oX12_incomePart), (200, 2, 12, oX12_splits), (193, 2, 12, oX12_handOut)]) (S := [(203, 2, 0, oX12_floor)]) (List.forall_mem_cons.mpr ⟨⟨mX12_layPrices, n + 5, 1, TX12, 53, rfl, by omega, kX12_197, WX12_layPrices, rfl, CX12_layPrices g (n)⟩, (List.forall_mem_cons.mpr ⟨⟨mX12_isLiving, n + 2, 1, TX12, 53, rfl, by omega, kX12_131, WX12_isLiving, rfl, CX12_isLiving g (n)⟩, (List.forall_mem_cons.mpr ⟨⟨mX12_of, n + 1, 2, TX12, 53, rfl, by omega, kX12_128, WX12_of, rfl, CX12_of g (n)⟩, (List.forall_mem_cons.mpr ⟨⟨mX12_incomePart, n + 0, 1, TX12, 53, rfl, by omega, kX12_188, WX12_incomePart, rfl, CX12_incomePart g (n)⟩, (List.forall_mem_cons.mpr ⟨⟨mX12_splits, n + 1, 1, TX12, 53, rfl, by omega, kX12_200, WX12_splits, rfl, CX12_splits g (n)⟩, (List.forall_mem_cons.mpr ⟨⟨mX12_handOut, n + 0, 1, TX12, 53, rfl, by omega, kX12_193, WX12_handOut, rfl, CX12_handOut g (n)⟩, (fun _ h => absurd h List.not_mem_nil)⟩)⟩)⟩)⟩)⟩)⟩) (List.forall_mem_cons.mpr ⟨⟨mX12_floor, n + 0, by omega, Or.inl kX12_203, WX12_floor, CX12_floor g (n)⟩, (fun _ h => absurd h List.not_mem_nil)⟩) [5] 20 _ _ _ _ ?_
  simp (maxSteps := 1000000) [↓Bool.cond_eq_ite, -Prod.forall, -Prod.exists, -Prod.mk.injEq, jvk, tX12_layPayments, jtb, jol, jst, jlk, jcmp, jbin, jfl, fX12, jc2, lX12, jcat, jel, lv_args, Value.category, jins, jsrt, jins2, jble, jblt, jf3, List.filter_cons, List.filter_nil, G_m, oX12_layPrices, oX12_isLiving, oX12_of, oX12_incomePart, oX12_splits, oX12_floor, oX12_handOut, joII, joRI, joRII, -Int32.not_le, -Int32.not_lt, -Int64.not_le, -Int64.not_lt, i3lt, i6lt, hne]
  try simp (disch := omega) [-Prod.forall, -Prod.exists, -Prod.mk.injEq, -Int32.not_le, -Int32.not_lt, -Int64.not_le, -Int64.not_lt, i3lt, i6lt, hne]
  rw [ecs] at hp
  intro v0 τ0 hv0 f0 h0
  subst hv0
  have w0 : jfr aPy bPy σ τ0 := f0.weak (fun a j q => by simp only [aPy, Bool.or_eq_false_iff] at q; simp only [aPr, q, Bool.or_false]) (fun _ q => rfl)
  have key := jloop (P := fun k => ∀ τ : jM, jfr aPy bPy σ τ → (∀ p, p < mN σ → τ.1 334 p = mPr σ (nI sh) p) → (∀ p, p < k → τ.1 338 p = (if xl σ p = true then 1 else 0) ∧ τ.2.1 336 p = (mD σ p 1).toInt64) → jW g mX12_layPayments (n + 6) post 7 [(0, .ref 322), (1, .int (nI sh)), (2, .int (nI k))] [] τ) (N := mN σ) (fun τ f h334 h => by
    have e4 : τ.1 322 4 = nI (mN σ) := (f.2.2 322 4 rfl).trans hN4
    have hle : nI (mN σ) ≤ nI (mN σ) := nI_le (Nat.le_refl _) (by omega)
    obtain ⟨t1, t2, t3, t4, t5⟩ := jfr_T f (fun _ => rfl) rfl
    have hok2 : mOK τ := mOK_of hc.1 (f.2.2 322 3 rfl) (f.2.2 322 4 rfl) (f.2.2 322 5 rfl)
    have hT2 : xT τ := fun p hp => by
      rw [t3]
      exact (h p (by rw [← t2]; exact hp)).1
    have hw : ∀ p, p < mN σ → τ.2.1 336 p = lN (mD σ p 1).toNatClampNeg := fun p hp => by
      obtain ⟨w, w1, w2, w3⟩ := mD_eq hd (p := p) (by omega)
      rw [(h p hp).2, w3, w2]
      exact nI_l (by omega)
    have hW2 : xW2 τ := fun p hp hl => by
      rw [t2] at hp
      obtain ⟨w, w1, w2, w3⟩ := mD_eq hd (p := p) (by omega)
      exact ⟨_, by omega, hw p hp⟩
    have exw : ∀ i, i < mLiv σ → xw τ i = icN σ i := fun i hi => by
      obtain ⟨q1, q2, q3⟩ := xp_is (σ := σ) hi
      unfold xw icN
      rw [t4, hw _ q2]
      obtain ⟨w, w1, w2, w3⟩ := mD_eq hd (p := xp σ i) (by omega)
      rw [w3, lN_toInt (by omega)]
      rfl
    have eIp : mIp τ (nI sh) = nI (ipN σ sh) := by rw [← z5]; unfold mIp; rw [t1]
    have hpre : ∃ A, nI (ipN σ sh) = nI A ∧ A ≤ 99999 := ⟨_, rfl, hip⟩
    refine jvk_ok TX12_layPayments (V := [(197, 2, 12, oX12_layPrices), (131, 2, 12, oX12_isLiving), (128, 3, 12, oX12_of), (188, 2, 12, oX12_incomePart), (200, 2, 12, oX12_splits), (193, 2, 12, oX12_handOut)]) (S := [(203, 2, 0, oX12_floor)]) (List.forall_mem_cons.mpr ⟨⟨mX12_layPrices, n + 5, 1, TX12, 53, rfl, by omega, kX12_197, WX12_layPrices, rfl, CX12_layPrices g (n)⟩, (List.forall_mem_cons.mpr ⟨⟨mX12_isLiving, n + 2, 1, TX12, 53, rfl, by omega, kX12_131, WX12_isLiving, rfl, CX12_isLiving g (n)⟩, (List.forall_mem_cons.mpr ⟨⟨mX12_of, n + 1, 2, TX12, 53, rfl, by omega, kX12_128, WX12_of, rfl, CX12_of g (n)⟩, (List.forall_mem_cons.mpr ⟨⟨mX12_incomePart, n + 0, 1, TX12, 53, rfl, by omega, kX12_188, WX12_incomePart, rfl, CX12_incomePart g (n)⟩, (List.forall_mem_cons.mpr ⟨⟨mX12_splits, n + 1, 1, TX12, 53, rfl, by omega, kX12_200, WX12_splits, rfl, CX12_splits g (n)⟩, (List.forall_mem_cons.mpr ⟨⟨mX12_handOut, n + 0, 1, TX12, 53, rfl, by omega, kX12_193, WX12_handOut, rfl, CX12_handOut g (n)⟩, (fun _ h => absurd h List.not_mem_nil)⟩)⟩)⟩)⟩)⟩)⟩) (List.forall_mem_cons.mpr ⟨⟨mX12_floor, n + 0, by omega, Or.inl kX12_203, WX12_floor, CX12_floor g (n)⟩, (fun _ h => absurd h List.not_mem_nil)⟩) [7, 54] 40 _ _ _ _ ?_
    simp (maxSteps := 1000000) [↓Bool.cond_eq_ite, -Prod.forall, -Prod.exists, -Prod.mk.injEq, jvk, tX12_layPayments, jtb, jol, jst, jlk, jcmp, jbin, jfl, fX12, jc2, lX12, jcat, jel, lv_args, Value.category, jins, jsrt, jins2, jble, jblt, jf3, List.filter_cons, List.filter_nil, G_m, oX12_layPrices, oX12_isLiving, oX12_of, oX12_incomePart, oX12_splits, oX12_floor, oX12_handOut, joII, joRI, joRII, -Int32.not_le, -Int32.not_lt, -Int64.not_le, -Int64.not_lt, i3lt, i6lt, e4, hle, hok2, hT2, hW2, eIp, hpre]
    try simp (disch := omega) [-Prod.forall, -Prod.exists, -Prod.mk.injEq, -Int32.not_le, -Int32.not_lt, -Int64.not_le, -Int64.not_lt, i3lt, i6lt, e4, hle, hok2, hT2, hW2, eIp, hpre]
    intro v1 τ1 hv1 f1 h1
    subst hv1
    have w1 : jfr aPy bPy σ τ1 := f.tr (f1.weak (fun a j q => by simp only [aPy, Bool.or_eq_false_iff] at q; simp only [aSp, q]) (fun a q => by simp only [bPy, Bool.or_eq_false_iff] at q; simp only [bSp, q]))
    have h335 : ∀ p, p < mN σ → τ1.1 335 p = if xl σ p = true then shS σ sh (cn (xl σ) p) else 0 := fun p hp => by
      rw [h1 p (by omega), t2, t3, t5, if_pos hp, nI_clamp (by omega)]
      by_cases hl : xl σ p = true
      · rw [if_pos hl, if_pos hl]
        exact spS_congr exw _ (cn_lt hl hp)
      · rw [if_neg hl, if_neg hl]
    have key2 := jloop (P := fun k => ∀ τ' : jM, jfr aPy bPy σ τ' → (∀ a p, a ≠ 339 → τ'.1 a p = τ1.1 a p) → (∀ p, p < k → τ'.1 339 p = if xl σ p = true then shS σ sh (cn (xl σ) p) else 0) → jW g mX12_layPayments (n + 6) post 56 [(0, .ref 322), (1, .int (nI sh)), (2, .int (nI k))] [] τ') (N := mN σ) (fun τ' f' hs' h' => by
      have e4 : τ'.1 322 4 = nI (mN σ) := (f'.2.2 322 4 rfl).trans hN4
      have e3 : τ'.1 323 = σ.1 323 := funext fun j => f'.2.2 323 j rfl
      have eIp2 : mIp τ' (nI sh) = mIp σ (nI sh) := by unfold mIp; rw [e3]
      have g334 : ∀ p, p < mN σ → τ'.1 334 p = mPr σ (nI sh) p := fun p hp => by rw [hs' 334 p (by decide), f1.2.2 334 p rfl, h334 p hp]
      have g338 : ∀ p, p < mN σ → τ'.1 338 p = if xl σ p = true then 1 else 0 := fun p hp => by rw [hs' 338 p (by decide), f1.2.2 338 p rfl, (h p hp).1]
      have k3 := CPy3 g n hc hd hsh τ' f' g334 g338 (post := post) (fun τ2 f2 a334 a338 a339 a335 => CPy4 g n hc.1 (U := unS σ sh) (S := shS σ sh) τ2 f2 (fun p hp => by rw [a338, g338 p hp]) (fun p hp => by rw [a339, h' p hp]) a335 (fun τ3 f3 b334 b339 b340 => hp _ _ ⟨rfl, f3, fun p hp => ⟨by rw [b334, a334, g334 p hp], by rw [b339 p hp, a339, h' p hp], b340 p hp⟩⟩))
      refine jvk_ok TX12_layPayments (V := [(197, 2, 12, oX12_layPrices), (131, 2, 12, oX12_isLiving), (128, 3, 12, oX12_of), (188, 2, 12, oX12_incomePart), (200, 2, 12, oX12_splits), (193, 2, 12, oX12_handOut)]) (S := [(203, 2, 0, oX12_floor)]) (List.forall_mem_cons.mpr ⟨⟨mX12_layPrices, n + 5, 1, TX12, 53, rfl, by omega, kX12_197, WX12_layPrices, rfl, CX12_layPrices g (n)⟩, (List.forall_mem_cons.mpr ⟨⟨mX12_isLiving, n + 2, 1, TX12, 53, rfl, by omega, kX12_131, WX12_isLiving, rfl, CX12_isLiving g (n)⟩, (List.forall_mem_cons.mpr ⟨⟨mX12_of, n + 1, 2, TX12, 53, rfl, by omega, kX12_128, WX12_of, rfl, CX12_of g (n)⟩, (List.forall_mem_cons.mpr ⟨⟨mX12_incomePart, n + 0, 1, TX12, 53, rfl, by omega, kX12_188, WX12_incomePart, rfl, CX12_incomePart g (n)⟩, (List.forall_mem_cons.mpr ⟨⟨mX12_splits, n + 1, 1, TX12, 53, rfl, by omega, kX12_200, WX12_splits, rfl, CX12_splits g (n)⟩, (List.forall_mem_cons.mpr ⟨⟨mX12_handOut, n + 0, 1, TX12, 53, rfl, by omega, kX12_193, WX12_handOut, rfl, CX12_handOut g (n)⟩, (fun _ h => absurd h List.not_mem_nil)⟩)⟩)⟩)⟩)⟩)⟩) (List.forall_mem_cons.mpr ⟨⟨mX12_floor, n + 0, by omega, Or.inl kX12_203, WX12_floor, CX12_floor g (n)⟩, (fun _ h => absurd h List.not_mem_nil)⟩) [56, 97] 40 _ _ _ _ ?_
      simp (maxSteps := 1000000) [↓Bool.cond_eq_ite, -Prod.forall, -Prod.exists, -Prod.mk.injEq, jvk, tX12_layPayments, jtb, jol, jst, jlk, jcmp, jbin, jfl, fX12, jc2, lX12, jcat, jel, lv_args, Value.category, jins, jsrt, jins2, jble, jblt, jf3, List.filter_cons, List.filter_nil, G_m, oX12_layPrices, oX12_isLiving, oX12_of, oX12_incomePart, oX12_splits, oX12_floor, oX12_handOut, joII, joRI, joRII, -Int32.not_le, -Int32.not_lt, -Int64.not_le, -Int64.not_lt, i3lt, i6lt, e4, hle, e3, eIp2, z6, jin_d, tn_c]
      try simp (disch := omega) [-Prod.forall, -Prod.exists, -Prod.mk.injEq, -Int32.not_le, -Int32.not_lt, -Int64.not_le, -Int64.not_lt, i3lt, i6lt, e4, hle, e3, eIp2, z6, jin_d, tn_c]
      exact jW.mono k3 (by simp)) (fun k hk ih τ' f' hs' h' => by
      have e4 : τ'.1 322 4 = nI (mN σ) := (f'.2.2 322 4 rfl).trans hN4
      have hlt : ¬ nI (mN σ) ≤ nI k := nI_ge hk (by omega)
      have hk1 : jin (nI k) 10 := jin_nI (by omega) (by decide)
      have eck : (nI k).toNatClampNeg = k := nI_clamp (by omega)
      have e335 : τ'.1 335 k = if xl σ k = true then shS σ sh (cn (xl σ) k) else 0 := (hs' 335 k (by decide)).trans (h335 k hk)
      have k1 := ih (jup τ' 339 k (τ'.1 335 k)) (f'.up _ rfl) (fun a p ha => by
        rw [jup_1, if_neg (fun z => ha z.1)]
        exact hs' a p ha) (fun p hp => by
        rw [jup_1]
        by_cases e : p = k
        · subst e
          rw [if_pos ⟨rfl, rfl⟩, e335]
        · rw [if_neg (by simp [e])]
          exact h' p (by omega))
      refine jvk_ok TX12_layPayments (V := [(197, 2, 12, oX12_layPrices), (131, 2, 12, oX12_isLiving), (128, 3, 12, oX12_of), (188, 2, 12, oX12_incomePart), (200, 2, 12, oX12_splits), (193, 2, 12, oX12_handOut)]) (S := [(203, 2, 0, oX12_floor)]) (List.forall_mem_cons.mpr ⟨⟨mX12_layPrices, n + 5, 1, TX12, 53, rfl, by omega, kX12_197, WX12_layPrices, rfl, CX12_layPrices g (n)⟩, (List.forall_mem_cons.mpr ⟨⟨mX12_isLiving, n + 2, 1, TX12, 53, rfl, by omega, kX12_131, WX12_isLiving, rfl, CX12_isLiving g (n)⟩, (List.forall_mem_cons.mpr ⟨⟨mX12_of, n + 1, 2, TX12, 53, rfl, by omega, kX12_128, WX12_of, rfl, CX12_of g (n)⟩, (List.forall_mem_cons.mpr ⟨⟨mX12_incomePart, n + 0, 1, TX12, 53, rfl, by omega, kX12_188, WX12_incomePart, rfl, CX12_incomePart g (n)⟩, (List.forall_mem_cons.mpr ⟨⟨mX12_splits, n + 1, 1, TX12, 53, rfl, by omega, kX12_200, WX12_splits, rfl, CX12_splits g (n)⟩, (List.forall_mem_cons.mpr ⟨⟨mX12_handOut, n + 0, 1, TX12, 53, rfl, by omega, kX12_193, WX12_handOut, rfl, CX12_handOut g (n)⟩, (fun _ h => absurd h List.not_mem_nil)⟩)⟩)⟩)⟩)⟩)⟩) (List.forall_mem_cons.mpr ⟨⟨mX12_floor, n + 0, by omega, Or.inl kX12_203, WX12_floor, CX12_floor g (n)⟩, (fun _ h => absurd h List.not_mem_nil)⟩) [56, 97] 40 _ _ _ _ ?_
      simp (maxSteps := 1000000) [↓Bool.cond_eq_ite, -Prod.forall, -Prod.exists, -Prod.mk.injEq, jvk, tX12_layPayments, jtb, jol, jst, jlk, jcmp, jbin, jfl, fX12, jc2, lX12, jcat, jel, lv_args, Value.category, jins, jsrt, jins2, jble, jblt, jf3, List.filter_cons, List.filter_nil, G_m, oX12_layPrices, oX12_isLiving, oX12_of, oX12_incomePart, oX12_splits, oX12_floor, oX12_handOut, joII, joRI, joRII, -Int32.not_le, -Int32.not_lt, -Int64.not_le, -Int64.not_lt, i3lt, i6lt, e4, hlt, hk1, eck, nI_1]
      try simp (disch := omega) [-Prod.forall, -Prod.exists, -Prod.mk.injEq, -Int32.not_le, -Int32.not_lt, -Int64.not_le, -Int64.not_lt, i3lt, i6lt, e4, hlt, hk1, eck, nI_1]
      exact k1)
    have k0 := key2 τ1 w1 (fun _ _ _ => rfl) (fun p hp => by omega)
    rw [nI_0] at k0
    refine jvk_ok TX12_layPayments (V := [(197, 2, 12, oX12_layPrices), (131, 2, 12, oX12_isLiving), (128, 3, 12, oX12_of), (188, 2, 12, oX12_incomePart), (200, 2, 12, oX12_splits), (193, 2, 12, oX12_handOut)]) (S := [(203, 2, 0, oX12_floor)]) (List.forall_mem_cons.mpr ⟨⟨mX12_layPrices, n + 5, 1, TX12, 53, rfl, by omega, kX12_197, WX12_layPrices, rfl, CX12_layPrices g (n)⟩, (List.forall_mem_cons.mpr ⟨⟨mX12_isLiving, n + 2, 1, TX12, 53, rfl, by omega, kX12_131, WX12_isLiving, rfl, CX12_isLiving g (n)⟩, (List.forall_mem_cons.mpr ⟨⟨mX12_of, n + 1, 2, TX12, 53, rfl, by omega, kX12_128, WX12_of, rfl, CX12_of g (n)⟩, (List.forall_mem_cons.mpr ⟨⟨mX12_incomePart, n + 0, 1, TX12, 53, rfl, by omega, kX12_188, WX12_incomePart, rfl, CX12_incomePart g (n)⟩, (List.forall_mem_cons.mpr ⟨⟨mX12_splits, n + 1, 1, TX12, 53, rfl, by omega, kX12_200, WX12_splits, rfl, CX12_splits g (n)⟩, (List.forall_mem_cons.mpr ⟨⟨mX12_handOut, n + 0, 1, TX12, 53, rfl, by omega, kX12_193, WX12_handOut, rfl, CX12_handOut g (n)⟩, (fun _ h => absurd h List.not_mem_nil)⟩)⟩)⟩)⟩)⟩)⟩) (List.forall_mem_cons.mpr ⟨⟨mX12_floor, n + 0, by omega, Or.inl kX12_203, WX12_floor, CX12_floor g (n)⟩, (fun _ h => absurd h List.not_mem_nil)⟩) [56] 10 _ _ _ _ ?_
    simp (maxSteps := 1000000) [↓Bool.cond_eq_ite, -Prod.forall, -Prod.exists, -Prod.mk.injEq, jvk, tX12_layPayments, jtb, jol, jst, jlk, jcmp, jbin, jfl, fX12, jc2, lX12, jcat, jel, lv_args, Value.category, jins, jsrt, jins2, jble, jblt, jf3, List.filter_cons, List.filter_nil, G_m, oX12_layPrices, oX12_isLiving, oX12_of, oX12_incomePart, oX12_splits, oX12_floor, oX12_handOut, joII, joRI, joRII, -Int32.not_le, -Int32.not_lt, -Int64.not_le, -Int64.not_lt, i3lt, i6lt]
    try simp (disch := omega) [-Prod.forall, -Prod.exists, -Prod.mk.injEq, -Int32.not_le, -Int32.not_lt, -Int64.not_le, -Int64.not_lt, i3lt, i6lt]
    exact jW.mono k0 (by simp)) (fun k hk ih τ f h334 h => by
    have e4 : τ.1 322 4 = nI (mN σ) := (f.2.2 322 4 rfl).trans hN4
    have hlt : ¬ nI (mN σ) ≤ nI k := nI_ge hk (by omega)
    have hk1 : jin (nI k) 10 := jin_nI (by omega) (by decide)
    have eck : (nI k).toNatClampNeg = k := nI_clamp (by omega)
    have e323 : τ.1 323 = σ.1 323 := funext fun j => f.2.2 323 j rfl
    have emD : ∀ x, mD τ k x = mD σ k x := fun x => by unfold mD; rw [e323]
    have eLive : (if mD σ k 0 = 1 then (1 : Int32) else 0) = if xl σ k = true then 1 else 0 := by
      unfold xl dL mD
      simp only [decide_eq_true_eq]
    have nxt : ∀ x, x = (if xl σ k = true then (1 : Int32) else 0) → jW g mX12_layPayments (n + 6) post 7 [(0, .ref 322), (1, .int (nI sh)), (2, .int (nI (k + 1)))] [] (jupL (jup τ 338 k x) 336 k (mD σ k 1).toInt64) := fun x hx => by
      refine ih _ ((f.up _ rfl).upL _ rfl) (fun p hp => ?_) (fun p hp => ?_)
      · rw [jupL_1, jup_1, if_neg (by simp)]
        exact h334 p hp
      · have a1 : (jupL (jup τ 338 k x) 336 k (mD σ k 1).toInt64).1 338 p = if p = k then x else τ.1 338 p := by simp [jupL_1, jup_1]
        have a2 : (jupL (jup τ 338 k x) 336 k (mD σ k 1).toInt64).2.1 336 p = if p = k then (mD σ k 1).toInt64 else τ.2.1 336 p := by simp [jupL_2, jup_2]
        rw [a1, a2]
        by_cases e : p = k
        · subst e
          rw [if_pos rfl, if_pos rfl]
          exact ⟨hx, rfl⟩
        · rw [if_neg e, if_neg e]
          exact h p (by omega)
    have emD2 : ∀ y x, mD (jup τ 338 k y) k x = mD σ k x := fun y x => emD x
    by_cases hl : mD σ k 0 = 1
    · have nx := nxt 1 (by rw [← eLive, if_pos hl])
      refine jvk_ok TX12_layPayments (V := [(197, 2, 12, oX12_layPrices), (131, 2, 12, oX12_isLiving), (128, 3, 12, oX12_of), (188, 2, 12, oX12_incomePart), (200, 2, 12, oX12_splits), (193, 2, 12, oX12_handOut)]) (S := [(203, 2, 0, oX12_floor)]) (List.forall_mem_cons.mpr ⟨⟨mX12_layPrices, n + 5, 1, TX12, 53, rfl, by omega, kX12_197, WX12_layPrices, rfl, CX12_layPrices g (n)⟩, (List.forall_mem_cons.mpr ⟨⟨mX12_isLiving, n + 2, 1, TX12, 53, rfl, by omega, kX12_131, WX12_isLiving, rfl, CX12_isLiving g (n)⟩, (List.forall_mem_cons.mpr ⟨⟨mX12_of, n + 1, 2, TX12, 53, rfl, by omega, kX12_128, WX12_of, rfl, CX12_of g (n)⟩, (List.forall_mem_cons.mpr ⟨⟨mX12_incomePart, n + 0, 1, TX12, 53, rfl, by omega, kX12_188, WX12_incomePart, rfl, CX12_incomePart g (n)⟩, (List.forall_mem_cons.mpr ⟨⟨mX12_splits, n + 1, 1, TX12, 53, rfl, by omega, kX12_200, WX12_splits, rfl, CX12_splits g (n)⟩, (List.forall_mem_cons.mpr ⟨⟨mX12_handOut, n + 0, 1, TX12, 53, rfl, by omega, kX12_193, WX12_handOut, rfl, CX12_handOut g (n)⟩, (fun _ h => absurd h List.not_mem_nil)⟩)⟩)⟩)⟩)⟩)⟩) (List.forall_mem_cons.mpr ⟨⟨mX12_floor, n + 0, by omega, Or.inl kX12_203, WX12_floor, CX12_floor g (n)⟩, (fun _ h => absurd h List.not_mem_nil)⟩) [7] 40 _ _ _ _ ?_
      simp (maxSteps := 1000000) [↓Bool.cond_eq_ite, -Prod.forall, -Prod.exists, -Prod.mk.injEq, jvk, tX12_layPayments, jtb, jol, jst, jlk, jcmp, jbin, jfl, fX12, jc2, lX12, jcat, jel, lv_args, Value.category, jins, jsrt, jins2, jble, jblt, jf3, List.filter_cons, List.filter_nil, G_m, oX12_layPrices, oX12_isLiving, oX12_of, oX12_incomePart, oX12_splits, oX12_floor, oX12_handOut, joII, joRI, joRII, -Int32.not_le, -Int32.not_lt, -Int64.not_le, -Int64.not_lt, i3lt, i6lt, e4, hlt, hk1, eck, emD, emD2, hl, jin_c, tn_c, nI_1]
      try simp (disch := omega) [-Prod.forall, -Prod.exists, -Prod.mk.injEq, -Int32.not_le, -Int32.not_lt, -Int64.not_le, -Int64.not_lt, i3lt, i6lt, e4, hlt, hk1, eck, emD, emD2, hl, jin_c, tn_c, nI_1]
      exact nx
    · have nx := nxt 0 (by rw [← eLive, if_neg hl])
      refine jvk_ok TX12_layPayments (V := [(197, 2, 12, oX12_layPrices), (131, 2, 12, oX12_isLiving), (128, 3, 12, oX12_of), (188, 2, 12, oX12_incomePart), (200, 2, 12, oX12_splits), (193, 2, 12, oX12_handOut)]) (S := [(203, 2, 0, oX12_floor)]) (List.forall_mem_cons.mpr ⟨⟨mX12_layPrices, n + 5, 1, TX12, 53, rfl, by omega, kX12_197, WX12_layPrices, rfl, CX12_layPrices g (n)⟩, (List.forall_mem_cons.mpr ⟨⟨mX12_isLiving, n + 2, 1, TX12, 53, rfl, by omega, kX12_131, WX12_isLiving, rfl, CX12_isLiving g (n)⟩, (List.forall_mem_cons.mpr ⟨⟨mX12_of, n + 1, 2, TX12, 53, rfl, by omega, kX12_128, WX12_of, rfl, CX12_of g (n)⟩, (List.forall_mem_cons.mpr ⟨⟨mX12_incomePart, n + 0, 1, TX12, 53, rfl, by omega, kX12_188, WX12_incomePart, rfl, CX12_incomePart g (n)⟩, (List.forall_mem_cons.mpr ⟨⟨mX12_splits, n + 1, 1, TX12, 53, rfl, by omega, kX12_200, WX12_splits, rfl, CX12_splits g (n)⟩, (List.forall_mem_cons.mpr ⟨⟨mX12_handOut, n + 0, 1, TX12, 53, rfl, by omega, kX12_193, WX12_handOut, rfl, CX12_handOut g (n)⟩, (fun _ h => absurd h List.not_mem_nil)⟩)⟩)⟩)⟩)⟩)⟩) (List.forall_mem_cons.mpr ⟨⟨mX12_floor, n + 0, by omega, Or.inl kX12_203, WX12_floor, CX12_floor g (n)⟩, (fun _ h => absurd h List.not_mem_nil)⟩) [7] 40 _ _ _ _ ?_
      simp (maxSteps := 1000000) [↓Bool.cond_eq_ite, -Prod.forall, -Prod.exists, -Prod.mk.injEq, jvk, tX12_layPayments, jtb, jol, jst, jlk, jcmp, jbin, jfl, fX12, jc2, lX12, jcat, jel, lv_args, Value.category, jins, jsrt, jins2, jble, jblt, jf3, List.filter_cons, List.filter_nil, G_m, oX12_layPrices, oX12_isLiving, oX12_of, oX12_incomePart, oX12_splits, oX12_floor, oX12_handOut, joII, joRI, joRII, -Int32.not_le, -Int32.not_lt, -Int64.not_le, -Int64.not_lt, i3lt, i6lt, e4, hlt, hk1, eck, emD, emD2, hl, jin_c, tn_c, nI_1]
      try simp (disch := omega) [-Prod.forall, -Prod.exists, -Prod.mk.injEq, -Int32.not_le, -Int32.not_lt, -Int64.not_le, -Int64.not_lt, i3lt, i6lt, e4, hlt, hk1, eck, emD, emD2, hl, jin_c, tn_c, nI_1]
      exact nx)
  have k0 := key τ0 w0 h0 (fun p hp => by omega)
  rw [nI_0] at k0
  refine jvk_ok TX12_layPayments (V := [(197, 2, 12, oX12_layPrices), (131, 2, 12, oX12_isLiving), (128, 3, 12, oX12_of), (188, 2, 12, oX12_incomePart), (200, 2, 12, oX12_splits), (193, 2, 12, oX12_handOut)]) (S := [(203, 2, 0, oX12_floor)]) (List.forall_mem_cons.mpr ⟨⟨mX12_layPrices, n + 5, 1, TX12, 53, rfl, by omega, kX12_197, WX12_layPrices, rfl, CX12_layPrices g (n)⟩, (List.forall_mem_cons.mpr ⟨⟨mX12_isLiving, n + 2, 1, TX12, 53, rfl, by omega, kX12_131, WX12_isLiving, rfl, CX12_isLiving g (n)⟩, (List.forall_mem_cons.mpr ⟨⟨mX12_of, n + 1, 2, TX12, 53, rfl, by omega, kX12_128, WX12_of, rfl, CX12_of g (n)⟩, (List.forall_mem_cons.mpr ⟨⟨mX12_incomePart, n + 0, 1, TX12, 53, rfl, by omega, kX12_188, WX12_incomePart, rfl, CX12_incomePart g (n)⟩, (List.forall_mem_cons.mpr ⟨⟨mX12_splits, n + 1, 1, TX12, 53, rfl, by omega, kX12_200, WX12_splits, rfl, CX12_splits g (n)⟩, (List.forall_mem_cons.mpr ⟨⟨mX12_handOut, n + 0, 1, TX12, 53, rfl, by omega, kX12_193, WX12_handOut, rfl, CX12_handOut g (n)⟩, (fun _ h => absurd h List.not_mem_nil)⟩)⟩)⟩)⟩)⟩)⟩) (List.forall_mem_cons.mpr ⟨⟨mX12_floor, n + 0, by omega, Or.inl kX12_203, WX12_floor, CX12_floor g (n)⟩, (fun _ h => absurd h List.not_mem_nil)⟩) [7] 10 _ _ _ _ ?_
  simp (maxSteps := 1000000) [↓Bool.cond_eq_ite, -Prod.forall, -Prod.exists, -Prod.mk.injEq, jvk, tX12_layPayments, jtb, jol, jst, jlk, jcmp, jbin, jfl, fX12, jc2, lX12, jcat, jel, lv_args, Value.category, jins, jsrt, jins2, jble, jblt, jf3, List.filter_cons, List.filter_nil, G_m, oX12_layPrices, oX12_isLiving, oX12_of, oX12_incomePart, oX12_splits, oX12_floor, oX12_handOut, joII, joRI, joRII, -Int32.not_le, -Int32.not_lt, -Int64.not_le, -Int64.not_lt, i3lt, i6lt]
  try simp (disch := omega) [-Prod.forall, -Prod.exists, -Prod.mk.injEq, -Int32.not_le, -Int32.not_lt, -Int64.not_le, -Int64.not_lt, i3lt, i6lt]
  exact k0
