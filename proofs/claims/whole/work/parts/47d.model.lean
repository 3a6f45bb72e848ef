/-! the reference: who envies -/
def mEB (σ : jM) (p : Nat) : Nat → Int32
  | 0 => 0
  | k + 1 => if 0 < mKn σ k p then mEB σ p k ||| (1 <<< (nI k &&& 31)) else mEB σ p k
def oX12_enviers : jO := joRI fun a p σ => (a = 322 ∧ mOK σ ∧ dRm (σ.1 323), fun v τ => v = some (.int (if mP σ p = true then mEB σ p.toNatClampNeg (mN σ) else 0)) ∧ τ = jup σ 322 11 (if mP σ p = true then 0 else 1))
set_option maxRecDepth 100000 in
set_option maxHeartbeats 4000000 in
theorem CX12_enviers (g : jG) (n : Nat) : jOk g (n + 5) mX12_enviers oX12_enviers := by
  refine joRI_ok ?_
  rintro _ p σ ⟨rfl, hok, h0⟩
  obtain ⟨N, hN, hN1, hN2⟩ := nI_rng hok.1.1 hok.1.2 (by decide)
  have h0' := dRm_th h0 0
  by_cases h : mP σ p = true
  · have hp1 := (mP_jin hok h).2
    refine jCon.ofP (by decide +kernel) (by simp [lg_sl, Value.category]) (fun post hp => ?_)
    refine jvk_ok TX12_enviers (V := [(135, 2, 12, oX12_isPerson), (138, 2, 12, oX12_fails), (235, 3, 12, oX12_knownEnvy)]) (S := []) (List.forall_mem_cons.mpr ⟨⟨mX12_isPerson, n + 1, 1, TX12, 53, rfl, by omega, kX12_135, WX12_isPerson, rfl, CX12_isPerson g (n)⟩, (List.forall_mem_cons.mpr ⟨⟨mX12_fails, n + 0, 1, TX12, 53, rfl, by omega, kX12_138, WX12_fails, rfl, CX12_fails g (n)⟩, (List.forall_mem_cons.mpr ⟨⟨mX12_knownEnvy, n + 4, 2, TX12, 53, rfl, by omega, kX12_235, WX12_knownEnvy, rfl, CX12_knownEnvy g (n)⟩, (fun _ h => absurd h List.not_mem_nil)⟩)⟩)⟩) (fun _ h => absurd h List.not_mem_nil) [18] 30 _ _ _ _ ?_
    simp (maxSteps := 1000000) [↓Bool.cond_eq_ite, -Prod.forall, -Prod.exists, -Prod.mk.injEq, jvk, tX12_enviers, jtb, jol, jst, jlk, jcmp, jbin, jfl, fX12, jc2, lX12, jcat, jel, lv_args, Value.category, jins, jsrt, jins2, jble, jblt, jf3, List.filter_cons, List.filter_nil, G_m, oX12_isPerson, oX12_fails, oX12_knownEnvy, joRI, joRII, h]
    have key := jloop (P := fun k => jW g mX12_enviers (n + 5) post 18 [(0, .ref 322), (1, .int p), (2, .int (mEB σ p.toNatClampNeg k)), (3, .int (nI k))] [] (jup σ 322 11 0)) (N := N) (by
      refine jvk_ok TX12_enviers (V := [(135, 2, 12, oX12_isPerson), (138, 2, 12, oX12_fails), (235, 3, 12, oX12_knownEnvy)]) (S := []) (List.forall_mem_cons.mpr ⟨⟨mX12_isPerson, n + 1, 1, TX12, 53, rfl, by omega, kX12_135, WX12_isPerson, rfl, CX12_isPerson g (n)⟩, (List.forall_mem_cons.mpr ⟨⟨mX12_fails, n + 0, 1, TX12, 53, rfl, by omega, kX12_138, WX12_fails, rfl, CX12_fails g (n)⟩, (List.forall_mem_cons.mpr ⟨⟨mX12_knownEnvy, n + 4, 2, TX12, 53, rfl, by omega, kX12_235, WX12_knownEnvy, rfl, CX12_knownEnvy g (n)⟩, (fun _ h => absurd h List.not_mem_nil)⟩)⟩)⟩) (fun _ h => absurd h List.not_mem_nil) [18] 30 _ _ _ _ ?_
      simp (maxSteps := 1000000) [↓Bool.cond_eq_ite, -Prod.forall, -Prod.exists, -Prod.mk.injEq, jvk, tX12_enviers, jtb, jol, jst, jlk, jcmp, jbin, jfl, fX12, jc2, lX12, jcat, jel, lv_args, Value.category, jins, jsrt, jins2, jble, jblt, jf3, List.filter_cons, List.filter_nil, G_m, oX12_isPerson, oX12_fails, oX12_knownEnvy, joRI, joRII, nI_1, hN1, jup_1]
      try simp (disch := omega) [nI_1, nI_clamp, nI_leI, nI_ltI, nI_eq, nI_m1, NL_0, NL_1, NL_2, NL_3, NL_5, NL_6, NL_9, NL_10, NL_11, NL_12, NL_20, NL_24, NL_25, NL_60, NL_64, NL_90, NL_100, NL_120, NL_900, NL_999, NL_9999, NL_99999, NL_1000000, NL_208, NL_2080, NL_10000, hN1, jup_1]
      exact hp _ _ ⟨by rw [if_pos h, mN, hN2], by rw [if_pos h]⟩) (fun k hk ih => by
      have hk1 := jin_nI (show k < 10 by omega) (by decide)
      simp only [mEB] at ih
      refine jvk_ok TX12_enviers (V := [(135, 2, 12, oX12_isPerson), (138, 2, 12, oX12_fails), (235, 3, 12, oX12_knownEnvy)]) (S := []) (List.forall_mem_cons.mpr ⟨⟨mX12_isPerson, n + 1, 1, TX12, 53, rfl, by omega, kX12_135, WX12_isPerson, rfl, CX12_isPerson g (n)⟩, (List.forall_mem_cons.mpr ⟨⟨mX12_fails, n + 0, 1, TX12, 53, rfl, by omega, kX12_138, WX12_fails, rfl, CX12_fails g (n)⟩, (List.forall_mem_cons.mpr ⟨⟨mX12_knownEnvy, n + 4, 2, TX12, 53, rfl, by omega, kX12_235, WX12_knownEnvy, rfl, CX12_knownEnvy g (n)⟩, (fun _ h => absurd h List.not_mem_nil)⟩)⟩)⟩) (fun _ h => absurd h List.not_mem_nil) [18] 30 _ _ _ _ ?_
      simp (maxSteps := 1000000) [↓Bool.cond_eq_ite, -Prod.forall, -Prod.exists, -Prod.mk.injEq, jvk, tX12_enviers, jtb, jol, jst, jlk, jcmp, jbin, jfl, fX12, jc2, lX12, jcat, jel, lv_args, Value.category, jins, jsrt, jins2, jble, jblt, jf3, List.filter_cons, List.filter_nil, G_m, oX12_isPerson, oX12_fails, oX12_knownEnvy, joRI, joRII, nI_1, hN1, jup_1, hk1, hp1, h0', mKn_th]
      try simp (disch := omega) [nI_1, nI_clamp, nI_leI, nI_ltI, nI_eq, nI_m1, NL_0, NL_1, NL_2, NL_3, NL_5, NL_6, NL_9, NL_10, NL_11, NL_12, NL_20, NL_24, NL_25, NL_60, NL_64, NL_90, NL_100, NL_120, NL_900, NL_999, NL_9999, NL_99999, NL_1000000, NL_208, NL_2080, NL_10000, hN1, jup_1, hk1, hp1, h0', mKn_th]
      refine ⟨fun h => by omega, fun _ => ⟨fun h => ?_, fun h => ?_⟩⟩
      · rw [if_neg (by grind)] at ih
        simpa using ih
      · rw [if_pos (by grind)] at ih
        exact ih)
    simpa [nI_0, mEB] using key
  · refine jCon.ofF (by decide +kernel) (by simp [lg_sl, Value.category]) ?_
    refine jvk_ok TX12_enviers (V := [(135, 2, 12, oX12_isPerson), (138, 2, 12, oX12_fails), (235, 3, 12, oX12_knownEnvy)]) (S := []) (List.forall_mem_cons.mpr ⟨⟨mX12_isPerson, n + 1, 1, TX12, 53, rfl, by omega, kX12_135, WX12_isPerson, rfl, CX12_isPerson g (n)⟩, (List.forall_mem_cons.mpr ⟨⟨mX12_fails, n + 0, 1, TX12, 53, rfl, by omega, kX12_138, WX12_fails, rfl, CX12_fails g (n)⟩, (List.forall_mem_cons.mpr ⟨⟨mX12_knownEnvy, n + 4, 2, TX12, 53, rfl, by omega, kX12_235, WX12_knownEnvy, rfl, CX12_knownEnvy g (n)⟩, (fun _ h => absurd h List.not_mem_nil)⟩)⟩)⟩) (fun _ h => absurd h List.not_mem_nil) [] 30 _ _ _ _ ?_
    simp (maxSteps := 1000000) [↓Bool.cond_eq_ite, -Prod.forall, -Prod.exists, -Prod.mk.injEq, jvk, tX12_enviers, jtb, jol, jst, jlk, jcmp, jbin, jfl, fX12, jc2, lX12, jcat, jel, lv_args, Value.category, jins, jsrt, jins2, jble, jblt, jf3, List.filter_cons, List.filter_nil, G_m, oX12_isPerson, oX12_fails, oX12_knownEnvy, joRI, joRII, h]
def oX12_wouldSwap : jO := joRII fun a p q σ => (a = 322 ∧ mOK σ ∧ dRm (σ.1 323), fun v τ => v = some (.int (if mP σ p = true ∧ mP σ q = true ∧ 0 < mKn σ p.toNatClampNeg q.toNatClampNeg ∧ 0 < mKn σ q.toNatClampNeg p.toNatClampNeg then 1 else 0)) ∧ τ = jup σ 322 11 (if mP σ p = true ∧ mP σ q = true then 0 else 1))
set_option maxRecDepth 100000 in
set_option maxHeartbeats 4000000 in
theorem CX12_wouldSwap (g : jG) (n : Nat) : jOk g (n + 5) mX12_wouldSwap oX12_wouldSwap := by
  refine joRII_ok ?_
  rintro _ p q σ ⟨rfl, hok, h0⟩
  by_cases h1 : mP σ p = true
  · by_cases h2 : mP σ q = true
    · have h3 := (mP_jin hok h1).2
      have h4 := (mP_jin hok h2).2
      by_cases h5 : mKn σ p.toNatClampNeg q.toNatClampNeg ≤ 0
      · have h6 : ¬ 0 < mKn σ p.toNatClampNeg q.toNatClampNeg := by grind
        refine jCon.ofF (by decide +kernel) (by simp [lg_sl, Value.category]) ?_
        refine jvk_ok TX12_wouldSwap (V := [(135, 2, 12, oX12_isPerson), (138, 2, 12, oX12_fails), (235, 3, 12, oX12_knownEnvy)]) (S := []) (List.forall_mem_cons.mpr ⟨⟨mX12_isPerson, n + 1, 1, TX12, 53, rfl, by omega, kX12_135, WX12_isPerson, rfl, CX12_isPerson g (n)⟩, (List.forall_mem_cons.mpr ⟨⟨mX12_fails, n + 0, 1, TX12, 53, rfl, by omega, kX12_138, WX12_fails, rfl, CX12_fails g (n)⟩, (List.forall_mem_cons.mpr ⟨⟨mX12_knownEnvy, n + 4, 2, TX12, 53, rfl, by omega, kX12_235, WX12_knownEnvy, rfl, CX12_knownEnvy g (n)⟩, (fun _ h => absurd h List.not_mem_nil)⟩)⟩)⟩) (fun _ h => absurd h List.not_mem_nil) [] 60 _ _ _ _ ?_
        simp (maxSteps := 1000000) [↓Bool.cond_eq_ite, -Prod.forall, -Prod.exists, -Prod.mk.injEq, jvk, tX12_wouldSwap, jtb, jol, jst, jlk, jcmp, jbin, jfl, fX12, jc2, lX12, jcat, jel, lv_args, Value.category, jins, jsrt, jins2, jble, jblt, jf3, List.filter_cons, List.filter_nil, G_m, oX12_isPerson, oX12_fails, oX12_knownEnvy, joRI, joRII, h1, h2, h3, h4, dRm_th h0, mKn_th, h5, h6]
      · have h6 : 0 < mKn σ p.toNatClampNeg q.toNatClampNeg := by grind
        by_cases h7 : mKn σ q.toNatClampNeg p.toNatClampNeg ≤ 0
        · have h8 : ¬ 0 < mKn σ q.toNatClampNeg p.toNatClampNeg := by grind
          refine jCon.ofF (by decide +kernel) (by simp [lg_sl, Value.category]) ?_
          refine jvk_ok TX12_wouldSwap (V := [(135, 2, 12, oX12_isPerson), (138, 2, 12, oX12_fails), (235, 3, 12, oX12_knownEnvy)]) (S := []) (List.forall_mem_cons.mpr ⟨⟨mX12_isPerson, n + 1, 1, TX12, 53, rfl, by omega, kX12_135, WX12_isPerson, rfl, CX12_isPerson g (n)⟩, (List.forall_mem_cons.mpr ⟨⟨mX12_fails, n + 0, 1, TX12, 53, rfl, by omega, kX12_138, WX12_fails, rfl, CX12_fails g (n)⟩, (List.forall_mem_cons.mpr ⟨⟨mX12_knownEnvy, n + 4, 2, TX12, 53, rfl, by omega, kX12_235, WX12_knownEnvy, rfl, CX12_knownEnvy g (n)⟩, (fun _ h => absurd h List.not_mem_nil)⟩)⟩)⟩) (fun _ h => absurd h List.not_mem_nil) [] 60 _ _ _ _ ?_
          simp (maxSteps := 1000000) [↓Bool.cond_eq_ite, -Prod.forall, -Prod.exists, -Prod.mk.injEq, jvk, tX12_wouldSwap, jtb, jol, jst, jlk, jcmp, jbin, jfl, fX12, jc2, lX12, jcat, jel, lv_args, Value.category, jins, jsrt, jins2, jble, jblt, jf3, List.filter_cons, List.filter_nil, G_m, oX12_isPerson, oX12_fails, oX12_knownEnvy, joRI, joRII, h1, h2, h3, h4, dRm_th h0, mKn_th, h5, h6, h7, h8]
        · have h8 : 0 < mKn σ q.toNatClampNeg p.toNatClampNeg := by grind
          refine jCon.ofF (by decide +kernel) (by simp [lg_sl, Value.category]) ?_
          refine jvk_ok TX12_wouldSwap (V := [(135, 2, 12, oX12_isPerson), (138, 2, 12, oX12_fails), (235, 3, 12, oX12_knownEnvy)]) (S := []) (List.forall_mem_cons.mpr ⟨⟨mX12_isPerson, n + 1, 1, TX12, 53, rfl, by omega, kX12_135, WX12_isPerson, rfl, CX12_isPerson g (n)⟩, (List.forall_mem_cons.mpr ⟨⟨mX12_fails, n + 0, 1, TX12, 53, rfl, by omega, kX12_138, WX12_fails, rfl, CX12_fails g (n)⟩, (List.forall_mem_cons.mpr ⟨⟨mX12_knownEnvy, n + 4, 2, TX12, 53, rfl, by omega, kX12_235, WX12_knownEnvy, rfl, CX12_knownEnvy g (n)⟩, (fun _ h => absurd h List.not_mem_nil)⟩)⟩)⟩) (fun _ h => absurd h List.not_mem_nil) [] 60 _ _ _ _ ?_
          simp (maxSteps := 1000000) [↓Bool.cond_eq_ite, -Prod.forall, -Prod.exists, -Prod.mk.injEq, jvk, tX12_wouldSwap, jtb, jol, jst, jlk, jcmp, jbin, jfl, fX12, jc2, lX12, jcat, jel, lv_args, Value.category, jins, jsrt, jins2, jble, jblt, jf3, List.filter_cons, List.filter_nil, G_m, oX12_isPerson, oX12_fails, oX12_knownEnvy, joRI, joRII, h1, h2, h3, h4, dRm_th h0, mKn_th, h5, h6, h7, h8]
    · refine jCon.ofF (by decide +kernel) (by simp [lg_sl, Value.category]) ?_
      refine jvk_ok TX12_wouldSwap (V := [(135, 2, 12, oX12_isPerson), (138, 2, 12, oX12_fails), (235, 3, 12, oX12_knownEnvy)]) (S := []) (List.forall_mem_cons.mpr ⟨⟨mX12_isPerson, n + 1, 1, TX12, 53, rfl, by omega, kX12_135, WX12_isPerson, rfl, CX12_isPerson g (n)⟩, (List.forall_mem_cons.mpr ⟨⟨mX12_fails, n + 0, 1, TX12, 53, rfl, by omega, kX12_138, WX12_fails, rfl, CX12_fails g (n)⟩, (List.forall_mem_cons.mpr ⟨⟨mX12_knownEnvy, n + 4, 2, TX12, 53, rfl, by omega, kX12_235, WX12_knownEnvy, rfl, CX12_knownEnvy g (n)⟩, (fun _ h => absurd h List.not_mem_nil)⟩)⟩)⟩) (fun _ h => absurd h List.not_mem_nil) [] 60 _ _ _ _ ?_
      simp (maxSteps := 1000000) [↓Bool.cond_eq_ite, -Prod.forall, -Prod.exists, -Prod.mk.injEq, jvk, tX12_wouldSwap, jtb, jol, jst, jlk, jcmp, jbin, jfl, fX12, jc2, lX12, jcat, jel, lv_args, Value.category, jins, jsrt, jins2, jble, jblt, jf3, List.filter_cons, List.filter_nil, G_m, oX12_isPerson, oX12_fails, oX12_knownEnvy, joRI, joRII, h1, h2]
  · refine jCon.ofF (by decide +kernel) (by simp [lg_sl, Value.category]) ?_
    refine jvk_ok TX12_wouldSwap (V := [(135, 2, 12, oX12_isPerson), (138, 2, 12, oX12_fails), (235, 3, 12, oX12_knownEnvy)]) (S := []) (List.forall_mem_cons.mpr ⟨⟨mX12_isPerson, n + 1, 1, TX12, 53, rfl, by omega, kX12_135, WX12_isPerson, rfl, CX12_isPerson g (n)⟩, (List.forall_mem_cons.mpr ⟨⟨mX12_fails, n + 0, 1, TX12, 53, rfl, by omega, kX12_138, WX12_fails, rfl, CX12_fails g (n)⟩, (List.forall_mem_cons.mpr ⟨⟨mX12_knownEnvy, n + 4, 2, TX12, 53, rfl, by omega, kX12_235, WX12_knownEnvy, rfl, CX12_knownEnvy g (n)⟩, (fun _ h => absurd h List.not_mem_nil)⟩)⟩)⟩) (fun _ h => absurd h List.not_mem_nil) [] 60 _ _ _ _ ?_
    simp (maxSteps := 1000000) [↓Bool.cond_eq_ite, -Prod.forall, -Prod.exists, -Prod.mk.injEq, jvk, tX12_wouldSwap, jtb, jol, jst, jlk, jcmp, jbin, jfl, fX12, jc2, lX12, jcat, jel, lv_args, Value.category, jins, jsrt, jins2, jble, jblt, jf3, List.filter_cons, List.filter_nil, G_m, oX12_isPerson, oX12_fails, oX12_knownEnvy, joRI, joRII, h1]
def oX12_personIn : jO := joRI fun a x σ => (a = 322 ∧ mOK σ, fun v τ => v = some (.int (if mR σ x = true then ff (fun p => decide (mD σ p 2 = x)) (mN σ) 0 else 0)) ∧ τ = jup σ 322 11 (if mR σ x = true then 0 else 1))
set_option maxRecDepth 100000 in
set_option maxHeartbeats 4000000 in
theorem CX12_personIn (g : jG) (n : Nat) : jOk g (n + 2) mX12_personIn oX12_personIn := by
  refine joRI_ok ?_
  rintro _ x σ ⟨rfl, hok⟩
  obtain ⟨N, hN, hN1, hN2⟩ := nI_rng hok.1.1 hok.1.2 (by decide)
  by_cases h : mR σ x = true
  · refine jCon.ofP (by decide +kernel) (by simp [lg_sl, Value.category]) (fun post hp => ?_)
    refine jvk_ok TX12_personIn (V := [(142, 2, 12, oX12_isRoom), (138, 2, 12, oX12_fails), (128, 3, 12, oX12_of)]) (S := []) (List.forall_mem_cons.mpr ⟨⟨mX12_isRoom, n + 1, 1, TX12, 53, rfl, by omega, kX12_142, WX12_isRoom, rfl, CX12_isRoom g (n)⟩, (List.forall_mem_cons.mpr ⟨⟨mX12_fails, n + 0, 1, TX12, 53, rfl, by omega, kX12_138, WX12_fails, rfl, CX12_fails g (n)⟩, (List.forall_mem_cons.mpr ⟨⟨mX12_of, n + 1, 2, TX12, 53, rfl, by omega, kX12_128, WX12_of, rfl, CX12_of g (n)⟩, (fun _ h => absurd h List.not_mem_nil)⟩)⟩)⟩) (fun _ h => absurd h List.not_mem_nil) [16] 30 _ _ _ _ ?_
    simp (maxSteps := 1000000) [↓Bool.cond_eq_ite, -Prod.forall, -Prod.exists, -Prod.mk.injEq, jvk, tX12_personIn, jtb, jol, jst, jlk, jcmp, jbin, jfl, fX12, jc2, lX12, jcat, jel, lv_args, Value.category, jins, jsrt, jins2, jble, jblt, jf3, List.filter_cons, List.filter_nil, G_m, oX12_isRoom, oX12_fails, oX12_of, joRI, joRII, h]
    have key := jloop (P := fun k => ff (fun p => decide (mD σ p 2 = x)) (N - k) k = ff (fun p => decide (mD σ p 2 = x)) N 0 → jW g mX12_personIn (n + 2) post 16 [(0, .ref 322), (1, .int x), (2, .int (nI k))] [] (jup σ 322 11 0)) (N := N) (fun e => by
      rw [Nat.sub_self] at e
      refine jvk_ok TX12_personIn (V := [(142, 2, 12, oX12_isRoom), (138, 2, 12, oX12_fails), (128, 3, 12, oX12_of)]) (S := []) (List.forall_mem_cons.mpr ⟨⟨mX12_isRoom, n + 1, 1, TX12, 53, rfl, by omega, kX12_142, WX12_isRoom, rfl, CX12_isRoom g (n)⟩, (List.forall_mem_cons.mpr ⟨⟨mX12_fails, n + 0, 1, TX12, 53, rfl, by omega, kX12_138, WX12_fails, rfl, CX12_fails g (n)⟩, (List.forall_mem_cons.mpr ⟨⟨mX12_of, n + 1, 2, TX12, 53, rfl, by omega, kX12_128, WX12_of, rfl, CX12_of g (n)⟩, (fun _ h => absurd h List.not_mem_nil)⟩)⟩)⟩) (fun _ h => absurd h List.not_mem_nil) [16] 30 _ _ _ _ ?_
      simp (maxSteps := 1000000) [↓Bool.cond_eq_ite, -Prod.forall, -Prod.exists, -Prod.mk.injEq, jvk, tX12_personIn, jtb, jol, jst, jlk, jcmp, jbin, jfl, fX12, jc2, lX12, jcat, jel, lv_args, Value.category, jins, jsrt, jins2, jble, jblt, jf3, List.filter_cons, List.filter_nil, G_m, oX12_isRoom, oX12_fails, oX12_of, joRI, joRII, nI_1, hN1, jup_1]
      try simp (disch := omega) [nI_1, nI_clamp, nI_leI, nI_ltI, nI_eq, nI_m1, NL_0, NL_1, NL_2, NL_3, NL_5, NL_6, NL_9, NL_10, NL_11, NL_12, NL_20, NL_24, NL_25, NL_60, NL_64, NL_90, NL_100, NL_120, NL_900, NL_999, NL_9999, NL_99999, NL_1000000, NL_208, NL_2080, NL_10000, hN1, jup_1]
      exact hp _ _ ⟨by rw [if_pos h, mN, hN2, ← e]; rfl, by rw [if_pos h]⟩) (fun k hk ih e => by
      have hk1 := jin_nI (show k < 10 by omega) (by decide)
      rw [show N - k = (N - (k + 1)) + 1 by omega] at e
      simp only [ff, decide_eq_true_eq] at e
      refine jvk_ok TX12_personIn (V := [(142, 2, 12, oX12_isRoom), (138, 2, 12, oX12_fails), (128, 3, 12, oX12_of)]) (S := []) (List.forall_mem_cons.mpr ⟨⟨mX12_isRoom, n + 1, 1, TX12, 53, rfl, by omega, kX12_142, WX12_isRoom, rfl, CX12_isRoom g (n)⟩, (List.forall_mem_cons.mpr ⟨⟨mX12_fails, n + 0, 1, TX12, 53, rfl, by omega, kX12_138, WX12_fails, rfl, CX12_fails g (n)⟩, (List.forall_mem_cons.mpr ⟨⟨mX12_of, n + 1, 2, TX12, 53, rfl, by omega, kX12_128, WX12_of, rfl, CX12_of g (n)⟩, (fun _ h => absurd h List.not_mem_nil)⟩)⟩)⟩) (fun _ h => absurd h List.not_mem_nil) [16] 30 _ _ _ _ ?_
      simp (maxSteps := 1000000) [↓Bool.cond_eq_ite, -Prod.forall, -Prod.exists, -Prod.mk.injEq, jvk, tX12_personIn, jtb, jol, jst, jlk, jcmp, jbin, jfl, fX12, jc2, lX12, jcat, jel, lv_args, Value.category, jins, jsrt, jins2, jble, jblt, jf3, List.filter_cons, List.filter_nil, G_m, oX12_isRoom, oX12_fails, oX12_of, joRI, joRII, nI_1, hN1, jup_1, hk1, jin_c, tn_c, mD_th]
      try simp (disch := omega) [nI_1, nI_clamp, nI_leI, nI_ltI, nI_eq, nI_m1, NL_0, NL_1, NL_2, NL_3, NL_5, NL_6, NL_9, NL_10, NL_11, NL_12, NL_20, NL_24, NL_25, NL_60, NL_64, NL_90, NL_100, NL_120, NL_900, NL_999, NL_9999, NL_99999, NL_1000000, NL_208, NL_2080, NL_10000, hN1, jup_1, hk1, jin_c, tn_c, mD_th]
      refine ⟨fun h => by omega, fun _ => ⟨fun h2 => ?_, fun h2 => ?_⟩⟩
      · rw [if_neg h2] at e
        exact ih e
      · rw [if_pos h2] at e
        exact hp _ _ ⟨by rw [if_pos h, mN, hN2, ← e], by rw [if_pos h]⟩)
    simpa [nI_0] using key rfl
  · refine jCon.ofF (by decide +kernel) (by simp [lg_sl, Value.category]) ?_
    refine jvk_ok TX12_personIn (V := [(142, 2, 12, oX12_isRoom), (138, 2, 12, oX12_fails), (128, 3, 12, oX12_of)]) (S := []) (List.forall_mem_cons.mpr ⟨⟨mX12_isRoom, n + 1, 1, TX12, 53, rfl, by omega, kX12_142, WX12_isRoom, rfl, CX12_isRoom g (n)⟩, (List.forall_mem_cons.mpr ⟨⟨mX12_fails, n + 0, 1, TX12, 53, rfl, by omega, kX12_138, WX12_fails, rfl, CX12_fails g (n)⟩, (List.forall_mem_cons.mpr ⟨⟨mX12_of, n + 1, 2, TX12, 53, rfl, by omega, kX12_128, WX12_of, rfl, CX12_of g (n)⟩, (fun _ h => absurd h List.not_mem_nil)⟩)⟩)⟩) (fun _ h => absurd h List.not_mem_nil) [] 30 _ _ _ _ ?_
    simp (maxSteps := 1000000) [↓Bool.cond_eq_ite, -Prod.forall, -Prod.exists, -Prod.mk.injEq, jvk, tX12_personIn, jtb, jol, jst, jlk, jcmp, jbin, jfl, fX12, jc2, lX12, jcat, jel, lv_args, Value.category, jins, jsrt, jins2, jble, jblt, jf3, List.filter_cons, List.filter_nil, G_m, oX12_isRoom, oX12_fails, oX12_of, joRI, joRII, h]
def oX12_ownerOf : jO := joRI fun a x σ => (a = 322 ∧ mOK σ, fun v τ => v = some (.int (ff (fun p => decide (σ.1 330 p = x)) (mN σ) 0)) ∧ τ = σ)
set_option maxRecDepth 100000 in
set_option maxHeartbeats 4000000 in
theorem CX12_ownerOf (g : jG) (n : Nat) : jOk g (n + 0) mX12_ownerOf oX12_ownerOf := by
  refine joRI_ok ?_
  rintro _ x σ ⟨rfl, hok⟩
  obtain ⟨N, hN, hN1, hN2⟩ := nI_rng hok.1.1 hok.1.2 (by decide)
  refine jCon.ofP (by decide +kernel) (by simp [lg_sl, Value.category]) (fun post hp => ?_)
  refine jvk_ok TX12_ownerOf (V := []) (S := []) (fun _ h => absurd h List.not_mem_nil) (fun _ h => absurd h List.not_mem_nil) [2] 30 _ _ _ _ ?_
  simp (maxSteps := 1000000) [↓Bool.cond_eq_ite, -Prod.forall, -Prod.exists, -Prod.mk.injEq, jvk, tX12_ownerOf, jtb, jol, jst, jlk, jcmp, jbin, jfl, fX12, jc2, lX12, jcat, jel, lv_args, Value.category, jins, jsrt, jins2, jble, jblt, jf3, List.filter_cons, List.filter_nil, G_m]
  have key := jloop (P := fun k => ff (fun p => decide (σ.1 330 p = x)) (N - k) k = ff (fun p => decide (σ.1 330 p = x)) N 0 → jW g mX12_ownerOf n post 2 [(0, .ref 322), (1, .int x), (2, .int (nI k))] [] σ) (N := N) (fun e => by
    rw [Nat.sub_self] at e
    refine jvk_ok TX12_ownerOf (V := []) (S := []) (fun _ h => absurd h List.not_mem_nil) (fun _ h => absurd h List.not_mem_nil) [2] 30 _ _ _ _ ?_
    simp (maxSteps := 1000000) [↓Bool.cond_eq_ite, -Prod.forall, -Prod.exists, -Prod.mk.injEq, jvk, tX12_ownerOf, jtb, jol, jst, jlk, jcmp, jbin, jfl, fX12, jc2, lX12, jcat, jel, lv_args, Value.category, jins, jsrt, jins2, jble, jblt, jf3, List.filter_cons, List.filter_nil, G_m, nI_1, hN1]
    try simp (disch := omega) [nI_1, nI_clamp, nI_leI, nI_ltI, nI_eq, nI_m1, NL_0, NL_1, NL_2, NL_3, NL_5, NL_6, NL_9, NL_10, NL_11, NL_12, NL_20, NL_24, NL_25, NL_60, NL_64, NL_90, NL_100, NL_120, NL_900, NL_999, NL_9999, NL_99999, NL_1000000, NL_208, NL_2080, NL_10000, hN1]
    exact hp _ _ ⟨by rw [mN, hN2, ← e]; rfl, rfl⟩) (fun k hk ih e => by
    rw [show N - k = (N - (k + 1)) + 1 by omega] at e
    simp only [ff, decide_eq_true_eq] at e
    refine jvk_ok TX12_ownerOf (V := []) (S := []) (fun _ h => absurd h List.not_mem_nil) (fun _ h => absurd h List.not_mem_nil) [2] 30 _ _ _ _ ?_
    simp (maxSteps := 1000000) [↓Bool.cond_eq_ite, -Prod.forall, -Prod.exists, -Prod.mk.injEq, jvk, tX12_ownerOf, jtb, jol, jst, jlk, jcmp, jbin, jfl, fX12, jc2, lX12, jcat, jel, lv_args, Value.category, jins, jsrt, jins2, jble, jblt, jf3, List.filter_cons, List.filter_nil, G_m, nI_1, hN1]
    try simp (disch := omega) [nI_1, nI_clamp, nI_leI, nI_ltI, nI_eq, nI_m1, NL_0, NL_1, NL_2, NL_3, NL_5, NL_6, NL_9, NL_10, NL_11, NL_12, NL_20, NL_24, NL_25, NL_60, NL_64, NL_90, NL_100, NL_120, NL_900, NL_999, NL_9999, NL_99999, NL_1000000, NL_208, NL_2080, NL_10000, hN1]
    refine ⟨fun h => by omega, fun _ => ⟨jin_nI (by omega) (by omega), fun h => ?_, fun h => ?_⟩⟩
    · rw [if_neg h] at e
      exact ih e
    · rw [if_pos h] at e
      exact hp _ _ ⟨by rw [mN, hN2, ← e], rfl⟩)
  simpa [nI_0] using key rfl
