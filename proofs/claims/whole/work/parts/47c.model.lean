/-! the reference: who is envied -/
theorem mAE_th (σ : jM) (x : Int32) (N k : Nat) : mAE (jup σ 322 11 x) N k = mAE σ N k := rfl
def oX12_totalEnvy : jO := joR fun a σ => (a = 322 ∧ mOK σ ∧ dRm (σ.1 323), fun v τ => v = some (.int (mAE σ (mN σ) (mN σ))) ∧ τ = jup σ 322 11 0)
set_option maxRecDepth 100000 in
set_option maxHeartbeats 4000000 in
theorem CX12_totalEnvy (g : jG) (n : Nat) : jOk g (n + 5) mX12_totalEnvy oX12_totalEnvy := by
  refine joR_ok ?_
  rintro _ σ ⟨rfl, hok, h0⟩
  refine jCon.ofF (by decide +kernel) (by simp [lg_sl, Value.category]) ?_
  refine jvk_ok TX12_totalEnvy (V := [(238, 1, 12, oX12_allEnvy)]) (S := []) (List.forall_mem_cons.mpr ⟨⟨mX12_allEnvy, n + 4, 0, TX12, 53, rfl, by omega, kX12_238, WX12_allEnvy, rfl, CX12_allEnvy g (n)⟩, (fun _ h => absurd h List.not_mem_nil)⟩) (fun _ h => absurd h List.not_mem_nil) [] 30 _ _ _ _ ?_
  simp (maxSteps := 1000000) [↓Bool.cond_eq_ite, -Prod.forall, -Prod.exists, -Prod.mk.injEq, jvk, tX12_totalEnvy, jtb, jol, jst, jlk, jcmp, jbin, jfl, fX12, jc2, lX12, jcat, jel, lv_args, Value.category, jins, jsrt, jins2, jble, jblt, jf3, List.filter_cons, List.filter_nil, G_m, oX12_allEnvy, joR, mOK_th hok, dRm_th h0, mAE_th, mN_th]
/-- how many envy q -/
def mEc (σ : jM) (q : Nat) (k : Nat) : Nat := cn (fun p => decide (0 < mKn σ p q)) k
def mMe (σ : jM) (N : Nat) : Nat → Int32 × Nat
  | 0 => (-1, 0)
  | q + 1 => if (mMe σ N q).2 < mEc σ q N then (nI q, mEc σ q N) else mMe σ N q
theorem mMe_le (σ : jM) (N : Nat) : ∀ q, (mMe σ N q).2 ≤ N
  | 0 => Nat.zero_le _
  | q + 1 => by
    have := mMe_le σ N q
    have := cn_le (fun p => decide (0 < mKn σ p q)) N
    simp only [mMe]
    split
    · exact this
    · assumption
def oX12_mostEnvied : jO := joR fun a σ => (a = 322 ∧ mOK σ ∧ dRm (σ.1 323), fun v τ => v = some (.int (mMe σ (mN σ) (mN σ)).1) ∧ τ = jup σ 322 11 0)
set_option maxRecDepth 100000 in
set_option maxHeartbeats 4000000 in
theorem CX12_mostEnvied (g : jG) (n : Nat) : jOk g (n + 5) mX12_mostEnvied oX12_mostEnvied := by
  refine joR_ok ?_
  rintro _ σ ⟨rfl, hok, h0⟩
  obtain ⟨N, hN, hN1, hN2⟩ := nI_rng hok.1.1 hok.1.2 (by decide)
  have h0' := dRm_th h0 0
  refine jCon.ofP (by decide +kernel) (by simp [lg_sl, Value.category]) (fun post hp => ?_)
  refine jvk_ok TX12_mostEnvied (V := [(235, 3, 12, oX12_knownEnvy)]) (S := []) (List.forall_mem_cons.mpr ⟨⟨mX12_knownEnvy, n + 4, 2, TX12, 53, rfl, by omega, kX12_235, WX12_knownEnvy, rfl, CX12_knownEnvy g (n)⟩, (fun _ h => absurd h List.not_mem_nil)⟩) (fun _ h => absurd h List.not_mem_nil) [11] 30 _ _ _ _ ?_
  simp (maxSteps := 1000000) [↓Bool.cond_eq_ite, -Prod.forall, -Prod.exists, -Prod.mk.injEq, jvk, tX12_mostEnvied, jtb, jol, jst, jlk, jcmp, jbin, jfl, fX12, jc2, lX12, jcat, jel, lv_args, Value.category, jins, jsrt, jins2, jble, jblt, jf3, List.filter_cons, List.filter_nil, G_m, oX12_knownEnvy, joRII]
  have key := jloop (P := fun k => jW g mX12_mostEnvied (n + 5) post 11 [(0, .ref 322), (1, .int (mMe σ N k).1), (2, .int (nI (mMe σ N k).2)), (3, .int (nI k))] [] (jup σ 322 11 0)) (N := N) (by
    refine jvk_ok TX12_mostEnvied (V := [(235, 3, 12, oX12_knownEnvy)]) (S := []) (List.forall_mem_cons.mpr ⟨⟨mX12_knownEnvy, n + 4, 2, TX12, 53, rfl, by omega, kX12_235, WX12_knownEnvy, rfl, CX12_knownEnvy g (n)⟩, (fun _ h => absurd h List.not_mem_nil)⟩) (fun _ h => absurd h List.not_mem_nil) [11, 25] 30 _ _ _ _ ?_
    simp (maxSteps := 1000000) [↓Bool.cond_eq_ite, -Prod.forall, -Prod.exists, -Prod.mk.injEq, jvk, tX12_mostEnvied, jtb, jol, jst, jlk, jcmp, jbin, jfl, fX12, jc2, lX12, jcat, jel, lv_args, Value.category, jins, jsrt, jins2, jble, jblt, jf3, List.filter_cons, List.filter_nil, G_m, oX12_knownEnvy, joRII, nI_1, hN1, jup_1]
    try simp (disch := omega) [nI_1, nI_clamp, nI_leI, nI_ltI, nI_eq, nI_m1, NL_0, NL_1, NL_2, NL_3, NL_5, NL_6, NL_9, NL_10, NL_11, NL_12, NL_20, NL_24, NL_25, NL_60, NL_64, NL_90, NL_100, NL_120, NL_900, NL_999, NL_9999, NL_99999, NL_1000000, NL_208, NL_2080, NL_10000, hN1, jup_1]
    exact hp _ _ ⟨by rw [mN, hN2], rfl⟩) (fun k hk ih => by
    have hm := mMe_le σ N k
    have hc := cn_le (fun p => decide (0 < mKn σ p k)) N
    have hc' : mEc σ k N ≤ N := hc
    refine jvk_ok TX12_mostEnvied (V := [(235, 3, 12, oX12_knownEnvy)]) (S := []) (List.forall_mem_cons.mpr ⟨⟨mX12_knownEnvy, n + 4, 2, TX12, 53, rfl, by omega, kX12_235, WX12_knownEnvy, rfl, CX12_knownEnvy g (n)⟩, (fun _ h => absurd h List.not_mem_nil)⟩) (fun _ h => absurd h List.not_mem_nil) [11, 25] 30 _ _ _ _ ?_
    simp (maxSteps := 1000000) [↓Bool.cond_eq_ite, -Prod.forall, -Prod.exists, -Prod.mk.injEq, jvk, tX12_mostEnvied, jtb, jol, jst, jlk, jcmp, jbin, jfl, fX12, jc2, lX12, jcat, jel, lv_args, Value.category, jins, jsrt, jins2, jble, jblt, jf3, List.filter_cons, List.filter_nil, G_m, oX12_knownEnvy, joRII, nI_1, hN1, jup_1]
    try simp (disch := omega) [nI_1, nI_clamp, nI_leI, nI_ltI, nI_eq, nI_m1, NL_0, NL_1, NL_2, NL_3, NL_5, NL_6, NL_9, NL_10, NL_11, NL_12, NL_20, NL_24, NL_25, NL_60, NL_64, NL_90, NL_100, NL_120, NL_900, NL_999, NL_9999, NL_99999, NL_1000000, NL_208, NL_2080, NL_10000, hN1, jup_1]
    refine ⟨fun h => by omega, fun _ => ?_⟩
    have key2 := jloop (P := fun q => jW g mX12_mostEnvied (n + 5) post 25 [(0, .ref 322), (1, .int (mMe σ N k).1), (2, .int (nI (mMe σ N k).2)), (3, .int (nI k)), (4, .int (nI (mEc σ k q))), (5, .int (nI q))] [] (jup σ 322 11 0)) (N := N) (by
      simp only [mMe] at ih
      by_cases h5 : (mMe σ N k).2 < mEc σ k N
      · rw [if_pos h5] at ih
        have h6 : ¬ nI (mEc σ k N) ≤ nI (mMe σ N k).2 := fun q => by have := (nI_leI (by omega) (by omega)).mp q; omega
        refine jvk_ok TX12_mostEnvied (V := [(235, 3, 12, oX12_knownEnvy)]) (S := []) (List.forall_mem_cons.mpr ⟨⟨mX12_knownEnvy, n + 4, 2, TX12, 53, rfl, by omega, kX12_235, WX12_knownEnvy, rfl, CX12_knownEnvy g (n)⟩, (fun _ h => absurd h List.not_mem_nil)⟩) (fun _ h => absurd h List.not_mem_nil) [11, 25] 60 _ _ _ _ ?_
        simp (maxSteps := 1000000) [↓Bool.cond_eq_ite, -Prod.forall, -Prod.exists, -Prod.mk.injEq, jvk, tX12_mostEnvied, jtb, jol, jst, jlk, jcmp, jbin, jfl, fX12, jc2, lX12, jcat, jel, lv_args, Value.category, jins, jsrt, jins2, jble, jblt, jf3, List.filter_cons, List.filter_nil, G_m, oX12_knownEnvy, joRII, nI_1, hN1, jup_1, h6]
        try simp (disch := omega) [nI_1, nI_clamp, nI_leI, nI_ltI, nI_eq, nI_m1, NL_0, NL_1, NL_2, NL_3, NL_5, NL_6, NL_9, NL_10, NL_11, NL_12, NL_20, NL_24, NL_25, NL_60, NL_64, NL_90, NL_100, NL_120, NL_900, NL_999, NL_9999, NL_99999, NL_1000000, NL_208, NL_2080, NL_10000, hN1, jup_1, h6]
        exact jW.mono ih (by simp)
      · rw [if_neg h5] at ih
        have h6 : nI (mEc σ k N) ≤ nI (mMe σ N k).2 := (nI_leI (by omega) (by omega)).mpr (by omega)
        refine jvk_ok TX12_mostEnvied (V := [(235, 3, 12, oX12_knownEnvy)]) (S := []) (List.forall_mem_cons.mpr ⟨⟨mX12_knownEnvy, n + 4, 2, TX12, 53, rfl, by omega, kX12_235, WX12_knownEnvy, rfl, CX12_knownEnvy g (n)⟩, (fun _ h => absurd h List.not_mem_nil)⟩) (fun _ h => absurd h List.not_mem_nil) [11, 25] 60 _ _ _ _ ?_
        simp (maxSteps := 1000000) [↓Bool.cond_eq_ite, -Prod.forall, -Prod.exists, -Prod.mk.injEq, jvk, tX12_mostEnvied, jtb, jol, jst, jlk, jcmp, jbin, jfl, fX12, jc2, lX12, jcat, jel, lv_args, Value.category, jins, jsrt, jins2, jble, jblt, jf3, List.filter_cons, List.filter_nil, G_m, oX12_knownEnvy, joRII, nI_1, hN1, jup_1, h6]
        try simp (disch := omega) [nI_1, nI_clamp, nI_leI, nI_ltI, nI_eq, nI_m1, NL_0, NL_1, NL_2, NL_3, NL_5, NL_6, NL_9, NL_10, NL_11, NL_12, NL_20, NL_24, NL_25, NL_60, NL_64, NL_90, NL_100, NL_120, NL_900, NL_999, NL_9999, NL_99999, NL_1000000, NL_208, NL_2080, NL_10000, hN1, jup_1, h6]
        exact jW.mono ih (by simp)) (fun q hq ih2 => by
      have hk1 := jin_nI (show k < 10 by omega) (by decide)
      have hq1 := jin_nI (show q < 10 by omega) (by decide)
      have e7 : mEc σ k (q + 1) = mEc σ k q + if decide (0 < mKn σ q k) then 1 else 0 := rfl
      rw [e7] at ih2
      refine jvk_ok TX12_mostEnvied (V := [(235, 3, 12, oX12_knownEnvy)]) (S := []) (List.forall_mem_cons.mpr ⟨⟨mX12_knownEnvy, n + 4, 2, TX12, 53, rfl, by omega, kX12_235, WX12_knownEnvy, rfl, CX12_knownEnvy g (n)⟩, (fun _ h => absurd h List.not_mem_nil)⟩) (fun _ h => absurd h List.not_mem_nil) [11, 25] 60 _ _ _ _ ?_
      simp (maxSteps := 1000000) [↓Bool.cond_eq_ite, -Prod.forall, -Prod.exists, -Prod.mk.injEq, jvk, tX12_mostEnvied, jtb, jol, jst, jlk, jcmp, jbin, jfl, fX12, jc2, lX12, jcat, jel, lv_args, Value.category, jins, jsrt, jins2, jble, jblt, jf3, List.filter_cons, List.filter_nil, G_m, oX12_knownEnvy, joRII, nI_1, hN1, jup_1, hk1, hq1, h0', mKn_th]
      try simp (disch := omega) [nI_1, nI_clamp, nI_leI, nI_ltI, nI_eq, nI_m1, NL_0, NL_1, NL_2, NL_3, NL_5, NL_6, NL_9, NL_10, NL_11, NL_12, NL_20, NL_24, NL_25, NL_60, NL_64, NL_90, NL_100, NL_120, NL_900, NL_999, NL_9999, NL_99999, NL_1000000, NL_208, NL_2080, NL_10000, hN1, jup_1, hk1, hq1, h0', mKn_th]
      refine ⟨fun h => by omega, fun _ => ⟨fun h => ?_, fun h => ?_⟩⟩
      · rw [if_neg (by simpa using h)] at ih2
        simpa using ih2
      · rw [if_pos (by simpa using h)] at ih2
        simpa [nI_1] using ih2)
    simpa [nI_0, mEc, cn] using key2)
  simpa [nI_0, mMe] using key
