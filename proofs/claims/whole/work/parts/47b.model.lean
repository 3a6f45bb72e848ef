/-! the reference: all envy -/
def mAE (σ : jM) (N : Nat) : Nat → Int32 := sm (fun p => sm (fun q => if 0 ≤ mD σ p 2 ∧ 0 ≤ mD σ q 2 then mEnv σ p q else 0) N)
def oX12_allEnvy : jO := joR fun a σ => (a = 322 ∧ mOK σ ∧ dRm (σ.1 323), fun v τ => v = some (.int (mAE σ (mN σ) (mN σ))) ∧ τ = σ)
set_option maxRecDepth 100000 in
set_option maxHeartbeats 4000000 in
theorem CX12_allEnvy (g : jG) (n : Nat) : jOk g (n + 4) mX12_allEnvy oX12_allEnvy := by
  refine joR_ok ?_
  rintro _ σ ⟨rfl, hok, h0⟩
  obtain ⟨N, hN, hN1, hN2⟩ := nI_rng hok.1.1 hok.1.2 (by decide)
  refine jCon.ofP (by decide +kernel) (by simp [lg_sl, Value.category]) (fun post hp => ?_)
  refine jvk_ok TX12_allEnvy (V := [(229, 2, 12, oX12_hasRoom), (232, 3, 12, oX12_envy)]) (S := []) (List.forall_mem_cons.mpr ⟨⟨mX12_hasRoom, n + 2, 1, TX12, 53, rfl, by omega, kX12_229, WX12_hasRoom, rfl, CX12_hasRoom g (n)⟩, (List.forall_mem_cons.mpr ⟨⟨mX12_envy, n + 3, 2, TX12, 53, rfl, by omega, kX12_232, WX12_envy, rfl, CX12_envy g (n)⟩, (fun _ h => absurd h List.not_mem_nil)⟩)⟩) (fun _ h => absurd h List.not_mem_nil) [4] 30 _ _ _ _ ?_
  simp (maxSteps := 1000000) [↓Bool.cond_eq_ite, -Prod.forall, -Prod.exists, -Prod.mk.injEq, jvk, tX12_allEnvy, jtb, jol, jst, jlk, jcmp, jbin, jfl, fX12, jc2, lX12, jcat, jel, lv_args, Value.category, jins, jsrt, jins2, jble, jblt, jf3, List.filter_cons, List.filter_nil, G_m, oX12_hasRoom, oX12_envy, joRI, joRII]
  have key := jloop (P := fun k => jW g mX12_allEnvy (n + 4) post 4 [(0, .ref 322), (1, .int (mAE σ N k)), (2, .int (nI k))] [] σ) (N := N) (by
    refine jvk_ok TX12_allEnvy (V := [(229, 2, 12, oX12_hasRoom), (232, 3, 12, oX12_envy)]) (S := []) (List.forall_mem_cons.mpr ⟨⟨mX12_hasRoom, n + 2, 1, TX12, 53, rfl, by omega, kX12_229, WX12_hasRoom, rfl, CX12_hasRoom g (n)⟩, (List.forall_mem_cons.mpr ⟨⟨mX12_envy, n + 3, 2, TX12, 53, rfl, by omega, kX12_232, WX12_envy, rfl, CX12_envy g (n)⟩, (fun _ h => absurd h List.not_mem_nil)⟩)⟩) (fun _ h => absurd h List.not_mem_nil) [4, 14] 30 _ _ _ _ ?_
    simp (maxSteps := 1000000) [↓Bool.cond_eq_ite, -Prod.forall, -Prod.exists, -Prod.mk.injEq, jvk, tX12_allEnvy, jtb, jol, jst, jlk, jcmp, jbin, jfl, fX12, jc2, lX12, jcat, jel, lv_args, Value.category, jins, jsrt, jins2, jble, jblt, jf3, List.filter_cons, List.filter_nil, G_m, oX12_hasRoom, oX12_envy, joRI, joRII, nI_1, hN1]
    try simp (disch := omega) [nI_1, nI_clamp, nI_leI, nI_ltI, nI_eq, nI_m1, NL_0, NL_1, NL_2, NL_3, NL_5, NL_6, NL_9, NL_10, NL_11, NL_12, NL_20, NL_24, NL_25, NL_60, NL_64, NL_90, NL_100, NL_120, NL_900, NL_999, NL_9999, NL_99999, NL_1000000, NL_208, NL_2080, NL_10000, hN1]
    exact hp _ _ ⟨by rw [mN, hN2], rfl⟩) (fun k hk ih => by
    refine jvk_ok TX12_allEnvy (V := [(229, 2, 12, oX12_hasRoom), (232, 3, 12, oX12_envy)]) (S := []) (List.forall_mem_cons.mpr ⟨⟨mX12_hasRoom, n + 2, 1, TX12, 53, rfl, by omega, kX12_229, WX12_hasRoom, rfl, CX12_hasRoom g (n)⟩, (List.forall_mem_cons.mpr ⟨⟨mX12_envy, n + 3, 2, TX12, 53, rfl, by omega, kX12_232, WX12_envy, rfl, CX12_envy g (n)⟩, (fun _ h => absurd h List.not_mem_nil)⟩)⟩) (fun _ h => absurd h List.not_mem_nil) [4, 14] 30 _ _ _ _ ?_
    simp (maxSteps := 1000000) [↓Bool.cond_eq_ite, -Prod.forall, -Prod.exists, -Prod.mk.injEq, jvk, tX12_allEnvy, jtb, jol, jst, jlk, jcmp, jbin, jfl, fX12, jc2, lX12, jcat, jel, lv_args, Value.category, jins, jsrt, jins2, jble, jblt, jf3, List.filter_cons, List.filter_nil, G_m, oX12_hasRoom, oX12_envy, joRI, joRII, nI_1, hN1]
    try simp (disch := omega) [nI_1, nI_clamp, nI_leI, nI_ltI, nI_eq, nI_m1, NL_0, NL_1, NL_2, NL_3, NL_5, NL_6, NL_9, NL_10, NL_11, NL_12, NL_20, NL_24, NL_25, NL_60, NL_64, NL_90, NL_100, NL_120, NL_900, NL_999, NL_9999, NL_99999, NL_1000000, NL_208, NL_2080, NL_10000, hN1]
    refine ⟨fun h => by omega, fun _ => ?_⟩
    have key2 := jloop (P := fun q => jW g mX12_allEnvy (n + 4) post 14 [(0, .ref 322), (1, .int (mAE σ N k + sm (fun q => if 0 ≤ mD σ k 2 ∧ 0 ≤ mD σ q 2 then mEnv σ k q else 0) q)), (2, .int (nI k)), (3, .int (nI q))] [] σ) (N := N) (by
      refine jvk_ok TX12_allEnvy (V := [(229, 2, 12, oX12_hasRoom), (232, 3, 12, oX12_envy)]) (S := []) (List.forall_mem_cons.mpr ⟨⟨mX12_hasRoom, n + 2, 1, TX12, 53, rfl, by omega, kX12_229, WX12_hasRoom, rfl, CX12_hasRoom g (n)⟩, (List.forall_mem_cons.mpr ⟨⟨mX12_envy, n + 3, 2, TX12, 53, rfl, by omega, kX12_232, WX12_envy, rfl, CX12_envy g (n)⟩, (fun _ h => absurd h List.not_mem_nil)⟩)⟩) (fun _ h => absurd h List.not_mem_nil) [4, 14] 30 _ _ _ _ ?_
      simp (maxSteps := 1000000) [↓Bool.cond_eq_ite, -Prod.forall, -Prod.exists, -Prod.mk.injEq, jvk, tX12_allEnvy, jtb, jol, jst, jlk, jcmp, jbin, jfl, fX12, jc2, lX12, jcat, jel, lv_args, Value.category, jins, jsrt, jins2, jble, jblt, jf3, List.filter_cons, List.filter_nil, G_m, oX12_hasRoom, oX12_envy, joRI, joRII, nI_1, hN1]
      try simp (disch := omega) [nI_1, nI_clamp, nI_leI, nI_ltI, nI_eq, nI_m1, NL_0, NL_1, NL_2, NL_3, NL_5, NL_6, NL_9, NL_10, NL_11, NL_12, NL_20, NL_24, NL_25, NL_60, NL_64, NL_90, NL_100, NL_120, NL_900, NL_999, NL_9999, NL_99999, NL_1000000, NL_208, NL_2080, NL_10000, hN1]
      refine jW.mono ih ?_
      simp [mAE, sm]) (fun q hq ih2 => by
      simp only [sm] at ih2
      have hk1 := jin_nI (show k < 10 by omega) (by decide)
      have hq1 := jin_nI (show q < 10 by omega) (by decide)
      by_cases h3 : 0 ≤ mD σ k 2
      · by_cases h4 : 0 ≤ mD σ q 2
        · have h5 : jin (mD σ k 2) 6 := h0 _ (by omega) h3
          have h6 : jin (mD σ q 2) 6 := h0 _ (by omega) h4
          rw [if_pos ⟨h3, h4⟩] at ih2
          refine jvk_ok TX12_allEnvy (V := [(229, 2, 12, oX12_hasRoom), (232, 3, 12, oX12_envy)]) (S := []) (List.forall_mem_cons.mpr ⟨⟨mX12_hasRoom, n + 2, 1, TX12, 53, rfl, by omega, kX12_229, WX12_hasRoom, rfl, CX12_hasRoom g (n)⟩, (List.forall_mem_cons.mpr ⟨⟨mX12_envy, n + 3, 2, TX12, 53, rfl, by omega, kX12_232, WX12_envy, rfl, CX12_envy g (n)⟩, (fun _ h => absurd h List.not_mem_nil)⟩)⟩) (fun _ h => absurd h List.not_mem_nil) [4, 14] 30 _ _ _ _ ?_
          simp (maxSteps := 1000000) [↓Bool.cond_eq_ite, -Prod.forall, -Prod.exists, -Prod.mk.injEq, jvk, tX12_allEnvy, jtb, jol, jst, jlk, jcmp, jbin, jfl, fX12, jc2, lX12, jcat, jel, lv_args, Value.category, jins, jsrt, jins2, jble, jblt, jf3, List.filter_cons, List.filter_nil, G_m, oX12_hasRoom, oX12_envy, joRI, joRII, nI_1, hN1, hk1, hq1, i3le h3, i3le h4, h5, h6, Int32.add_assoc]
          try simp (disch := omega) [nI_1, nI_clamp, nI_leI, nI_ltI, nI_eq, nI_m1, NL_0, NL_1, NL_2, NL_3, NL_5, NL_6, NL_9, NL_10, NL_11, NL_12, NL_20, NL_24, NL_25, NL_60, NL_64, NL_90, NL_100, NL_120, NL_900, NL_999, NL_9999, NL_99999, NL_1000000, NL_208, NL_2080, NL_10000, hN1, hk1, hq1, i3le h3, i3le h4, h5, h6, Int32.add_assoc]
          exact ⟨fun h => by omega, fun _ => by simpa [h3, h4] using ih2⟩
        · rw [if_neg (by simp [h4])] at ih2
          refine jvk_ok TX12_allEnvy (V := [(229, 2, 12, oX12_hasRoom), (232, 3, 12, oX12_envy)]) (S := []) (List.forall_mem_cons.mpr ⟨⟨mX12_hasRoom, n + 2, 1, TX12, 53, rfl, by omega, kX12_229, WX12_hasRoom, rfl, CX12_hasRoom g (n)⟩, (List.forall_mem_cons.mpr ⟨⟨mX12_envy, n + 3, 2, TX12, 53, rfl, by omega, kX12_232, WX12_envy, rfl, CX12_envy g (n)⟩, (fun _ h => absurd h List.not_mem_nil)⟩)⟩) (fun _ h => absurd h List.not_mem_nil) [4, 14] 30 _ _ _ _ ?_
          simp (maxSteps := 1000000) [↓Bool.cond_eq_ite, -Prod.forall, -Prod.exists, -Prod.mk.injEq, jvk, tX12_allEnvy, jtb, jol, jst, jlk, jcmp, jbin, jfl, fX12, jc2, lX12, jcat, jel, lv_args, Value.category, jins, jsrt, jins2, jble, jblt, jf3, List.filter_cons, List.filter_nil, G_m, oX12_hasRoom, oX12_envy, joRI, joRII, nI_1, hN1, hk1, hq1, i3le h3, i3nle h4, Int32.add_assoc]
          try simp (disch := omega) [nI_1, nI_clamp, nI_leI, nI_ltI, nI_eq, nI_m1, NL_0, NL_1, NL_2, NL_3, NL_5, NL_6, NL_9, NL_10, NL_11, NL_12, NL_20, NL_24, NL_25, NL_60, NL_64, NL_90, NL_100, NL_120, NL_900, NL_999, NL_9999, NL_99999, NL_1000000, NL_208, NL_2080, NL_10000, hN1, hk1, hq1, i3le h3, i3nle h4, Int32.add_assoc]
          exact ⟨fun h => by omega, fun _ => by simpa [h3, h4] using ih2⟩
      · rw [if_neg (by simp [h3])] at ih2
        refine jvk_ok TX12_allEnvy (V := [(229, 2, 12, oX12_hasRoom), (232, 3, 12, oX12_envy)]) (S := []) (List.forall_mem_cons.mpr ⟨⟨mX12_hasRoom, n + 2, 1, TX12, 53, rfl, by omega, kX12_229, WX12_hasRoom, rfl, CX12_hasRoom g (n)⟩, (List.forall_mem_cons.mpr ⟨⟨mX12_envy, n + 3, 2, TX12, 53, rfl, by omega, kX12_232, WX12_envy, rfl, CX12_envy g (n)⟩, (fun _ h => absurd h List.not_mem_nil)⟩)⟩) (fun _ h => absurd h List.not_mem_nil) [4, 14] 30 _ _ _ _ ?_
        simp (maxSteps := 1000000) [↓Bool.cond_eq_ite, -Prod.forall, -Prod.exists, -Prod.mk.injEq, jvk, tX12_allEnvy, jtb, jol, jst, jlk, jcmp, jbin, jfl, fX12, jc2, lX12, jcat, jel, lv_args, Value.category, jins, jsrt, jins2, jble, jblt, jf3, List.filter_cons, List.filter_nil, G_m, oX12_hasRoom, oX12_envy, joRI, joRII, nI_1, hN1, hk1, hq1, i3nle h3, Int32.add_assoc]
        try simp (disch := omega) [nI_1, nI_clamp, nI_leI, nI_ltI, nI_eq, nI_m1, NL_0, NL_1, NL_2, NL_3, NL_5, NL_6, NL_9, NL_10, NL_11, NL_12, NL_20, NL_24, NL_25, NL_60, NL_64, NL_90, NL_100, NL_120, NL_900, NL_999, NL_9999, NL_99999, NL_1000000, NL_208, NL_2080, NL_10000, hN1, hk1, hq1, i3nle h3, Int32.add_assoc]
        exact ⟨fun h => by omega, fun _ => by simpa [h3] using ih2⟩)
    simpa [nI_0, sm] using key2)
  simpa [nI_0, sm, mAE] using key
