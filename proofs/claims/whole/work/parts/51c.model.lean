/-! the reference: sweeps until nothing changes -/
set_option maxRecDepth 100000 in
set_option maxHeartbeats 4000000 in
theorem CX12_layExtremes (g : jG) (n : Nat) : jOk g (n + 4) mX12_layExtremes oX12_layExtremes := by
  refine joR_ok ?_
  rintro _ σ ⟨rfl, a, hc⟩
  obtain ⟨hN10, hN4⟩ := mN_le hc.1
  have all := hC_all hc
  have eA : mA σ = a.2.2 := by rw [mA, hc.2.2.1]
  refine jCon.ofP (by decide +kernel) (by simp [lg_sl, Value.category]) (fun post hp => ?_)
  refine jvk_ok TX12_layExtremes (V := [(179, 3, 12, oX12_canEnvy), (182, 3, 12, oX12_step)]) (S := []) (List.forall_mem_cons.mpr ⟨⟨mX12_canEnvy, n + 3, 2, TX12, 53, rfl, by omega, kX12_179, WX12_canEnvy, rfl, CX12_canEnvy g (n)⟩, (List.forall_mem_cons.mpr ⟨⟨mX12_step, n + 3, 2, TX12, 53, rfl, by omega, kX12_182, WX12_step, rfl, CX12_step g (n)⟩, (fun _ h => absurd h List.not_mem_nil)⟩)⟩) (fun _ h => absurd h List.not_mem_nil) [2] 20 _ _ _ _ ?_
  simp (maxSteps := 1000000) [↓Bool.cond_eq_ite, -Prod.forall, -Prod.exists, -Prod.mk.injEq, jvk, tX12_layExtremes, jtb, jol, jst, jlk, jcmp, jbin, jfl, fX12, jc2, lX12, jcat, jel, lv_args, Value.category, jins, jsrt, jins2, jble, jblt, jf3, List.filter_cons, List.filter_nil, G_m, oX12_canEnvy, oX12_step, joRII, -Int32.not_le, -Int32.not_lt, -Int64.not_le, -Int64.not_lt, i3lt, i6lt]
  try simp (disch := omega) [-Prod.forall, -Prod.exists, -Prod.mk.injEq, -Int32.not_le, -Int32.not_lt, -Int64.not_le, -Int64.not_lt, i3lt, i6lt]
  have main : ∀ (M : Nat) (τ : jM) (x y : Nat → Int), exM σ τ x y → exI (mLiv σ) (gLo (dW (σ.1 323) (mN σ)) a.2.2 (mLiv σ)) (gHi (dW (σ.1 323) (mN σ)) a.2.2 (mLiv σ)) x y → exU (mLiv σ) (gLo (dW (σ.1 323) (mN σ)) a.2.2 (mLiv σ)) (gHi (dW (σ.1 323) (mN σ)) a.2.2 (mLiv σ)) x y < M → jW g mX12_layExtremes (n + 4) post 32 [(0, .ref 322), (1, .int (nI 1))] [] τ := by
    intro M
    induction M with
    | zero =>
      intro τ x y hm hi hu
      have := exU_nn (mLiv σ) (Nat.le_refl _) hi
      have hu' : sI (fun k => (gLo (dW (σ.1 323) (mN σ)) a.2.2 (mLiv σ) k - x k) + (gHi (dW (σ.1 323) (mN σ)) a.2.2 (mLiv σ) k - y k)) (mLiv σ) < 0 := hu
      omega
    | succ M ihM =>
      intro τ x y hm hi hu
      have key := jloop (P := fun p => ∀ (τ' : jM) (x' y' : Nat → Int) (c : Nat), exM σ τ' x' y' → exI (mLiv σ) (gLo (dW (σ.1 323) (mN σ)) a.2.2 (mLiv σ)) (gHi (dW (σ.1 323) (mN σ)) a.2.2 (mLiv σ)) x' y' → exS σ (gE (dW (σ.1 323) (mN σ)) a.2.2) (gG (dW (σ.1 323) (mN σ)) a.2.2) (mLiv σ) (gLo (dW (σ.1 323) (mN σ)) a.2.2 (mLiv σ)) (gHi (dW (σ.1 323) (mN σ)) a.2.2 (mLiv σ)) x y x' y' c p 0 → jW g mX12_layExtremes (n + 4) post 40 [(0, .ref 322), (1, .int (nI c)), (2, .int (nI p))] [] τ') (N := mN σ) (fun τ' x' y' c hm' hi' hs => by
        have e4 : τ'.1 322 4 = nI (mN σ) := (hm'.1.2.2 322 4 rfl).trans hN4
        have hle : nI (mN σ) ≤ nI (mN σ) := nI_le (Nat.le_refl _) (by omega)
        have fin : jW g mX12_layExtremes (n + 4) post 32 [(0, .ref 322), (1, .int (nI c))] [] τ' := by
          by_cases h0 : c = 0
          · subst h0
            obtain ⟨f1, f2, f3⟩ := exS_end (k := 5) hi hs
            refine jvk_ok TX12_layExtremes (V := [(179, 3, 12, oX12_canEnvy), (182, 3, 12, oX12_step)]) (S := []) (List.forall_mem_cons.mpr ⟨⟨mX12_canEnvy, n + 3, 2, TX12, 53, rfl, by omega, kX12_179, WX12_canEnvy, rfl, CX12_canEnvy g (n)⟩, (List.forall_mem_cons.mpr ⟨⟨mX12_step, n + 3, 2, TX12, 53, rfl, by omega, kX12_182, WX12_step, rfl, CX12_step g (n)⟩, (fun _ h => absurd h List.not_mem_nil)⟩)⟩) (fun _ h => absurd h List.not_mem_nil) [32, 40, 50] 20 _ _ _ _ ?_
            simp (maxSteps := 1000000) [↓Bool.cond_eq_ite, -Prod.forall, -Prod.exists, -Prod.mk.injEq, jvk, tX12_layExtremes, jtb, jol, jst, jlk, jcmp, jbin, jfl, fX12, jc2, lX12, jcat, jel, lv_args, Value.category, jins, jsrt, jins2, jble, jblt, jf3, List.filter_cons, List.filter_nil, G_m, oX12_canEnvy, oX12_step, joRII, -Int32.not_le, -Int32.not_lt, -Int64.not_le, -Int64.not_lt, i3lt, i6lt]
            try simp (disch := omega) [-Prod.forall, -Prod.exists, -Prod.mk.injEq, -Int32.not_le, -Int32.not_lt, -Int64.not_le, -Int64.not_lt, i3lt, i6lt, nI_0]
            refine hp _ _ ⟨rfl, hm'.1, fun p hp => ?_⟩
            obtain ⟨g1, g2⟩ := hm'.2 p hp
            rw [g1, g2, mLo, mHi, f1, f2, eA]
            by_cases hl : dL (σ.1 323) p = true
            · have := f3 _ (hC_liv hc hp hl).1
              rw [if_pos hl, if_pos hl, if_pos hl, if_pos hl, this.1, this.2]
              exact ⟨rfl, rfl⟩
            · rw [if_neg hl, if_neg hl, if_neg hl, if_neg hl]
              exact ⟨rfl, rfl⟩
          · rcases hs with ⟨h1, -⟩ | ⟨h1, h2⟩
            · exact absurd h1 h0
            · subst h1
              exact ihM τ' x' y' hm' hi' (by omega)
        refine jvk_ok TX12_layExtremes (V := [(179, 3, 12, oX12_canEnvy), (182, 3, 12, oX12_step)]) (S := []) (List.forall_mem_cons.mpr ⟨⟨mX12_canEnvy, n + 3, 2, TX12, 53, rfl, by omega, kX12_179, WX12_canEnvy, rfl, CX12_canEnvy g (n)⟩, (List.forall_mem_cons.mpr ⟨⟨mX12_step, n + 3, 2, TX12, 53, rfl, by omega, kX12_182, WX12_step, rfl, CX12_step g (n)⟩, (fun _ h => absurd h List.not_mem_nil)⟩)⟩) (fun _ h => absurd h List.not_mem_nil) [32, 40, 50] 20 _ _ _ _ ?_
        simp (maxSteps := 1000000) [↓Bool.cond_eq_ite, -Prod.forall, -Prod.exists, -Prod.mk.injEq, jvk, tX12_layExtremes, jtb, jol, jst, jlk, jcmp, jbin, jfl, fX12, jc2, lX12, jcat, jel, lv_args, Value.category, jins, jsrt, jins2, jble, jblt, jf3, List.filter_cons, List.filter_nil, G_m, oX12_canEnvy, oX12_step, joRII, -Int32.not_le, -Int32.not_lt, -Int64.not_le, -Int64.not_lt, i3lt, i6lt, e4, hle]
        try simp (disch := omega) [-Prod.forall, -Prod.exists, -Prod.mk.injEq, -Int32.not_le, -Int32.not_lt, -Int64.not_le, -Int64.not_lt, i3lt, i6lt, e4, hle]
        exact jW.mono fin (by simp)) (fun p hp ih τ' x' y' c hm' hi' hs => by
        have e4 : τ'.1 322 4 = nI (mN σ) := (hm'.1.2.2 322 4 rfl).trans hN4
        have hlt : ¬ nI (mN σ) ≤ nI p := nI_ge hp (by omega)
        refine jvk_ok TX12_layExtremes (V := [(179, 3, 12, oX12_canEnvy), (182, 3, 12, oX12_step)]) (S := []) (List.forall_mem_cons.mpr ⟨⟨mX12_canEnvy, n + 3, 2, TX12, 53, rfl, by omega, kX12_179, WX12_canEnvy, rfl, CX12_canEnvy g (n)⟩, (List.forall_mem_cons.mpr ⟨⟨mX12_step, n + 3, 2, TX12, 53, rfl, by omega, kX12_182, WX12_step, rfl, CX12_step g (n)⟩, (fun _ h => absurd h List.not_mem_nil)⟩)⟩) (fun _ h => absurd h List.not_mem_nil) [32, 40, 50] 20 _ _ _ _ ?_
        simp (maxSteps := 1000000) [↓Bool.cond_eq_ite, -Prod.forall, -Prod.exists, -Prod.mk.injEq, jvk, tX12_layExtremes, jtb, jol, jst, jlk, jcmp, jbin, jfl, fX12, jc2, lX12, jcat, jel, lv_args, Value.category, jins, jsrt, jins2, jble, jblt, jf3, List.filter_cons, List.filter_nil, G_m, oX12_canEnvy, oX12_step, joRII, -Int32.not_le, -Int32.not_lt, -Int64.not_le, -Int64.not_lt, i3lt, i6lt, e4, hlt]
        try simp (disch := omega) [-Prod.forall, -Prod.exists, -Prod.mk.injEq, -Int32.not_le, -Int32.not_lt, -Int64.not_le, -Int64.not_lt, i3lt, i6lt, e4, hlt]
        have key2 := jloop (P := fun q => ∀ (τ' : jM) (x' y' : Nat → Int) (c : Nat), exM σ τ' x' y' → exI (mLiv σ) (gLo (dW (σ.1 323) (mN σ)) a.2.2 (mLiv σ)) (gHi (dW (σ.1 323) (mN σ)) a.2.2 (mLiv σ)) x' y' → exS σ (gE (dW (σ.1 323) (mN σ)) a.2.2) (gG (dW (σ.1 323) (mN σ)) a.2.2) (mLiv σ) (gLo (dW (σ.1 323) (mN σ)) a.2.2 (mLiv σ)) (gHi (dW (σ.1 323) (mN σ)) a.2.2 (mLiv σ)) x y x' y' c p q → jW g mX12_layExtremes (n + 4) post 50 [(0, .ref 322), (1, .int (nI c)), (2, .int (nI p)), (3, .int (nI q))] [] τ') (N := mN σ) (fun τ' x' y' c hm' hi' hs => by
          have e4 : τ'.1 322 4 = nI (mN σ) := (hm'.1.2.2 322 4 rfl).trans hN4
          have hle : nI (mN σ) ≤ nI (mN σ) := nI_le (Nat.le_refl _) (by omega)
          have k1 := ih τ' x' y' c hm' hi' (exS_next hs)
          refine jvk_ok TX12_layExtremes (V := [(179, 3, 12, oX12_canEnvy), (182, 3, 12, oX12_step)]) (S := []) (List.forall_mem_cons.mpr ⟨⟨mX12_canEnvy, n + 3, 2, TX12, 53, rfl, by omega, kX12_179, WX12_canEnvy, rfl, CX12_canEnvy g (n)⟩, (List.forall_mem_cons.mpr ⟨⟨mX12_step, n + 3, 2, TX12, 53, rfl, by omega, kX12_182, WX12_step, rfl, CX12_step g (n)⟩, (fun _ h => absurd h List.not_mem_nil)⟩)⟩) (fun _ h => absurd h List.not_mem_nil) [32, 40, 50] 20 _ _ _ _ ?_
          simp (maxSteps := 1000000) [↓Bool.cond_eq_ite, -Prod.forall, -Prod.exists, -Prod.mk.injEq, jvk, tX12_layExtremes, jtb, jol, jst, jlk, jcmp, jbin, jfl, fX12, jc2, lX12, jcat, jel, lv_args, Value.category, jins, jsrt, jins2, jble, jblt, jf3, List.filter_cons, List.filter_nil, G_m, oX12_canEnvy, oX12_step, joRII, -Int32.not_le, -Int32.not_lt, -Int64.not_le, -Int64.not_lt, i3lt, i6lt, e4, hle, nI_1]
          try simp (disch := omega) [-Prod.forall, -Prod.exists, -Prod.mk.injEq, -Int32.not_le, -Int32.not_lt, -Int64.not_le, -Int64.not_lt, i3lt, i6lt, e4, hle, nI_1]
          exact jW.mono k1 (by simp)) (fun q hq ih2 τ' x' y' c hm' hi' hs => by
          refine exPair g n hc hp hq hm' hi' (fun hn => ih2 τ' x' y' c hm' hi' (exS_skip hs hn)) (fun hlp hlq he τ2 hm2 => ?_)
          have a1 := (hC_liv hc hp hlp).1
          have b1 := (hC_liv hc hq hlq).1
          exact ih2 τ2 _ _ _ hm2 (exI_step all.2.2.2.1 all.2.2.2.2 hi' a1 b1 he).1 (exS_step all.2.2.2.1 all.2.2.2.2 hi' hs a1 b1 hlp hlq he))
        simpa [nI_0] using key2 τ' x' y' c hm' hi' hs)
      have k0 := key τ x y 0 hm hi (Or.inl ⟨rfl, rfl, rfl, fun p' q' _ _ h => by omega⟩)
      rw [nI_0] at k0
      have e10 : ¬ nI 1 = 0 := by decide
      refine jvk_ok TX12_layExtremes (V := [(179, 3, 12, oX12_canEnvy), (182, 3, 12, oX12_step)]) (S := []) (List.forall_mem_cons.mpr ⟨⟨mX12_canEnvy, n + 3, 2, TX12, 53, rfl, by omega, kX12_179, WX12_canEnvy, rfl, CX12_canEnvy g (n)⟩, (List.forall_mem_cons.mpr ⟨⟨mX12_step, n + 3, 2, TX12, 53, rfl, by omega, kX12_182, WX12_step, rfl, CX12_step g (n)⟩, (fun _ h => absurd h List.not_mem_nil)⟩)⟩) (fun _ h => absurd h List.not_mem_nil) [32, 40, 50] 20 _ _ _ _ ?_
      simp (maxSteps := 1000000) [↓Bool.cond_eq_ite, -Prod.forall, -Prod.exists, -Prod.mk.injEq, jvk, tX12_layExtremes, jtb, jol, jst, jlk, jcmp, jbin, jfl, fX12, jc2, lX12, jcat, jel, lv_args, Value.category, jins, jsrt, jins2, jble, jblt, jf3, List.filter_cons, List.filter_nil, G_m, oX12_canEnvy, oX12_step, joRII, -Int32.not_le, -Int32.not_lt, -Int64.not_le, -Int64.not_lt, i3lt, i6lt, e10]
      try simp (disch := omega) [-Prod.forall, -Prod.exists, -Prod.mk.injEq, -Int32.not_le, -Int32.not_lt, -Int64.not_le, -Int64.not_lt, i3lt, i6lt, e10]
      exact k0
  have key := jloop (P := fun k => ∀ τ : jM, jfr aEx b0 σ τ → (∀ p, p < k → τ.1 332 p = 0 ∧ τ.1 333 p = 0) → jW g mX12_layExtremes (n + 4) post 2 [(0, .ref 322), (1, .int (nI k))] [] τ) (N := mN σ) (fun τ f h => by
    have e4 : τ.1 322 4 = nI (mN σ) := (f.2.2 322 4 rfl).trans hN4
    have hle : nI (mN σ) ≤ nI (mN σ) := nI_le (Nat.le_refl _) (by omega)
    have k1 := main ((exU (mLiv σ) (gLo (dW (σ.1 323) (mN σ)) a.2.2 (mLiv σ)) (gHi (dW (σ.1 323) (mN σ)) a.2.2 (mLiv σ)) (fun _ => 0) (fun _ => 0)).toNat + 1) τ (fun _ => 0) (fun _ => 0) ⟨f, fun p hp => by
      obtain ⟨h1, h2⟩ := h p hp
      rw [h1, h2]
      refine ⟨?_, ?_⟩ <;> split <;> rfl⟩ (fun k hk => ⟨Int.le_refl _, all.2.2.2.1.1 k hk, Int.le_refl _, all.2.2.2.2.1 k hk⟩) (by omega)
    refine jvk_ok TX12_layExtremes (V := [(179, 3, 12, oX12_canEnvy), (182, 3, 12, oX12_step)]) (S := []) (List.forall_mem_cons.mpr ⟨⟨mX12_canEnvy, n + 3, 2, TX12, 53, rfl, by omega, kX12_179, WX12_canEnvy, rfl, CX12_canEnvy g (n)⟩, (List.forall_mem_cons.mpr ⟨⟨mX12_step, n + 3, 2, TX12, 53, rfl, by omega, kX12_182, WX12_step, rfl, CX12_step g (n)⟩, (fun _ h => absurd h List.not_mem_nil)⟩)⟩) (fun _ h => absurd h List.not_mem_nil) [2, 32] 20 _ _ _ _ ?_
    simp (maxSteps := 1000000) [↓Bool.cond_eq_ite, -Prod.forall, -Prod.exists, -Prod.mk.injEq, jvk, tX12_layExtremes, jtb, jol, jst, jlk, jcmp, jbin, jfl, fX12, jc2, lX12, jcat, jel, lv_args, Value.category, jins, jsrt, jins2, jble, jblt, jf3, List.filter_cons, List.filter_nil, G_m, oX12_canEnvy, oX12_step, joRII, -Int32.not_le, -Int32.not_lt, -Int64.not_le, -Int64.not_lt, i3lt, i6lt, e4, hle]
    try simp (disch := omega) [-Prod.forall, -Prod.exists, -Prod.mk.injEq, -Int32.not_le, -Int32.not_lt, -Int64.not_le, -Int64.not_lt, i3lt, i6lt, e4, hle]
    exact k1) (fun k hk ih τ f h => by
    have e4 : τ.1 322 4 = nI (mN σ) := (f.2.2 322 4 rfl).trans hN4
    have hlt : ¬ nI (mN σ) ≤ nI k := nI_ge hk (by omega)
    have hk1 : jin (nI k) 10 := jin_nI (by omega) (by decide)
    have eck : (nI k).toNatClampNeg = k := nI_clamp (by omega)
    refine jvk_ok TX12_layExtremes (V := [(179, 3, 12, oX12_canEnvy), (182, 3, 12, oX12_step)]) (S := []) (List.forall_mem_cons.mpr ⟨⟨mX12_canEnvy, n + 3, 2, TX12, 53, rfl, by omega, kX12_179, WX12_canEnvy, rfl, CX12_canEnvy g (n)⟩, (List.forall_mem_cons.mpr ⟨⟨mX12_step, n + 3, 2, TX12, 53, rfl, by omega, kX12_182, WX12_step, rfl, CX12_step g (n)⟩, (fun _ h => absurd h List.not_mem_nil)⟩)⟩) (fun _ h => absurd h List.not_mem_nil) [2, 32] 30 _ _ _ _ ?_
    simp (maxSteps := 1000000) [↓Bool.cond_eq_ite, -Prod.forall, -Prod.exists, -Prod.mk.injEq, jvk, tX12_layExtremes, jtb, jol, jst, jlk, jcmp, jbin, jfl, fX12, jc2, lX12, jcat, jel, lv_args, Value.category, jins, jsrt, jins2, jble, jblt, jf3, List.filter_cons, List.filter_nil, G_m, oX12_canEnvy, oX12_step, joRII, -Int32.not_le, -Int32.not_lt, -Int64.not_le, -Int64.not_lt, i3lt, i6lt, e4, hlt, hk1, eck, nI_1]
    try simp (disch := omega) [-Prod.forall, -Prod.exists, -Prod.mk.injEq, -Int32.not_le, -Int32.not_lt, -Int64.not_le, -Int64.not_lt, i3lt, i6lt, e4, hlt, hk1, eck, nI_1]
    refine ih _ ((f.up _ rfl).up _ rfl) (fun q hq1 => ?_)
    simp only [jup_1]
    by_cases e : q = k
    · subst e; simp
    · simpa [e] using h q (by omega))
  simpa [nI_0] using key σ jfr.rfl (fun q hq => by omega)
