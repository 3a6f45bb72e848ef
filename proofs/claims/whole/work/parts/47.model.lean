/-! the reference: envy -/
/-- the rooms that people have -/
def dRm (f : Nat → Int32) : Prop := ∀ p, p < 10 → 0 ≤ f (8 + 20 * p + 2) → jin (f (8 + 20 * p + 2)) 6
def mM (σ : jM) (p q : Nat) : Int32 := mD σ p (7 + (mD σ q 2).toNatClampNeg) - mD σ q 3 - mD σ p (7 + (mD σ p 2).toNatClampNeg) + mD σ p 3
def mEnv (σ : jM) (p q : Nat) : Int32 := if mD σ p (13 + (mD σ q 2).toNatClampNeg) = 1 then 0 else if 0 < mM σ p q ∧ p ≠ q then mM σ p q else 0
def mKn (σ : jM) (p q : Nat) : Int32 := if 0 ≤ mD σ p 2 ∧ 0 ≤ mD σ q 2 then mEnv σ p q else -1
theorem jin_ne {x y : Int32} {n : Nat} (hx : jin x n) (hy : jin y n) : x = y ↔ x.toNatClampNeg = y.toNatClampNeg := by
  refine ⟨fun h => by rw [h], fun h => ?_⟩
  rw [(tn_nI hx).1, (tn_nI hy).1, h]
def oX12_envy : jO := joRII fun a p q σ => (a = 322 ∧ jin p 10 ∧ jin q 10 ∧ jin (mD σ p.toNatClampNeg 2) 6 ∧ jin (mD σ q.toNatClampNeg 2) 6, fun v τ => v = some (.int (mEnv σ p.toNatClampNeg q.toNatClampNeg)) ∧ τ = σ)
set_option maxRecDepth 100000 in
set_option maxHeartbeats 4000000 in
theorem CX12_envy (g : jG) (n : Nat) : jOk g (n + 3) mX12_envy oX12_envy := by
  refine joRII_ok ?_
  rintro _ p q σ ⟨rfl, h1, h2, h3, h4⟩
  have e := jin_ne h1 h2
  by_cases h5 : mD σ p.toNatClampNeg (13 + (mD σ q.toNatClampNeg 2).toNatClampNeg) = 1
  · refine jCon.ofF (by decide +kernel) (by simp [lg_sl, Value.category]) ?_
    refine jvk_ok TX12_envy (V := [(128, 3, 12, oX12_of), (148, 3, 12, oX12_isRefused), (145, 3, 12, oX12_value)]) (S := []) (List.forall_mem_cons.mpr ⟨⟨mX12_of, n + 1, 2, TX12, 53, rfl, by omega, kX12_128, WX12_of, rfl, CX12_of g (n)⟩, (List.forall_mem_cons.mpr ⟨⟨mX12_isRefused, n + 2, 2, TX12, 53, rfl, by omega, kX12_148, WX12_isRefused, rfl, CX12_isRefused g (n)⟩, (List.forall_mem_cons.mpr ⟨⟨mX12_value, n + 2, 2, TX12, 53, rfl, by omega, kX12_145, WX12_value, rfl, CX12_value g (n)⟩, (fun _ h => absurd h List.not_mem_nil)⟩)⟩)⟩) (fun _ h => absurd h List.not_mem_nil) [] 60 _ _ _ _ ?_
    simp (maxSteps := 1000000) [-Prod.forall, -Prod.exists, -Prod.mk.injEq, jvk, tX12_envy, jtb, jol, jst, jlk, jcmp, jbin, jfl, fX12, jc2, lX12, jcat, jel, lv_args, Value.category, jins, jsrt, jins2, jble, jblt, jf3, List.filter_cons, List.filter_nil, G_m, oX12_of, oX12_isRefused, oX12_value, joRII, h1, h2, h3, h4, jin_c, tn_c, h5, mEnv]
  · refine jCon.ofP (by decide +kernel) (by simp [lg_sl, Value.category]) (fun post hp => ?_)
    refine jvk_ok TX12_envy (V := [(128, 3, 12, oX12_of), (148, 3, 12, oX12_isRefused), (145, 3, 12, oX12_value)]) (S := []) (List.forall_mem_cons.mpr ⟨⟨mX12_of, n + 1, 2, TX12, 53, rfl, by omega, kX12_128, WX12_of, rfl, CX12_of g (n)⟩, (List.forall_mem_cons.mpr ⟨⟨mX12_isRefused, n + 2, 2, TX12, 53, rfl, by omega, kX12_148, WX12_isRefused, rfl, CX12_isRefused g (n)⟩, (List.forall_mem_cons.mpr ⟨⟨mX12_value, n + 2, 2, TX12, 53, rfl, by omega, kX12_145, WX12_value, rfl, CX12_value g (n)⟩, (fun _ h => absurd h List.not_mem_nil)⟩)⟩)⟩) (fun _ h => absurd h List.not_mem_nil) [] 60 _ _ _ _ ?_
    simp (maxSteps := 1000000) [-Prod.forall, -Prod.exists, -Prod.mk.injEq, jvk, tX12_envy, jtb, jol, jst, jlk, jcmp, jbin, jfl, fX12, jc2, lX12, jcat, jel, lv_args, Value.category, jins, jsrt, jins2, jble, jblt, jf3, List.filter_cons, List.filter_nil, G_m, oX12_of, oX12_isRefused, oX12_value, joRII, h1, h2, h3, h4, jin_c, tn_c, h5]
    have e2 : mD σ p.toNatClampNeg (7 + (mD σ q.toNatClampNeg 2).toNatClampNeg) - mD σ q.toNatClampNeg 3 - mD σ p.toNatClampNeg (7 + (mD σ p.toNatClampNeg 2).toNatClampNeg) + mD σ p.toNatClampNeg 3 = mM σ p.toNatClampNeg q.toNatClampNeg := rfl
    have e3 : mEnv σ p.toNatClampNeg q.toNatClampNeg = if 0 < mM σ p.toNatClampNeg q.toNatClampNeg ∧ p.toNatClampNeg ≠ q.toNatClampNeg then mM σ p.toNatClampNeg q.toNatClampNeg else 0 := by unfold mEnv; rw [if_neg h5]
    simp only [e2]
    rw [← e3.symm] at *
    by_cases h6 : mM σ p.toNatClampNeg q.toNatClampNeg ≤ 0
    · simp [h6]
      exact hp _ _ ⟨by rw [e3, if_neg (by grind)], rfl⟩
    · by_cases h7 : p = q
      · simp [h6, h7]
        exact hp _ _ ⟨by rw [e3, if_neg (by rw [← e]; simp [h7])], rfl⟩
      · simp [h6, h7]
        exact hp _ _ ⟨by rw [e3, if_pos ⟨by grind, fun q => h7 (e.mpr q)⟩], rfl⟩
def oX12_knownEnvy : jO := joRII fun a p q σ => (a = 322 ∧ dRm (σ.1 323) ∧ jin p 10 ∧ jin q 10, fun v τ => v = some (.int (mKn σ p.toNatClampNeg q.toNatClampNeg)) ∧ τ = σ)
set_option maxRecDepth 100000 in
set_option maxHeartbeats 4000000 in
theorem CX12_knownEnvy (g : jG) (n : Nat) : jOk g (n + 4) mX12_knownEnvy oX12_knownEnvy := by
  refine joRII_ok ?_
  rintro _ p q σ ⟨rfl, h0, h1, h2⟩
  by_cases h3 : 0 ≤ mD σ p.toNatClampNeg 2
  · by_cases h4 : 0 ≤ mD σ q.toNatClampNeg 2
    · have h5 : jin (mD σ p.toNatClampNeg 2) 6 := h0 _ (jin_lt h1) h3
      have h6 : jin (mD σ q.toNatClampNeg 2) 6 := h0 _ (jin_lt h2) h4
      refine jCon.ofF (by decide +kernel) (by simp [lg_sl, Value.category]) ?_
      refine jvk_ok TX12_knownEnvy (V := [(229, 2, 12, oX12_hasRoom), (232, 3, 12, oX12_envy)]) (S := []) (List.forall_mem_cons.mpr ⟨⟨mX12_hasRoom, n + 2, 1, TX12, 53, rfl, by omega, kX12_229, WX12_hasRoom, rfl, CX12_hasRoom g (n)⟩, (List.forall_mem_cons.mpr ⟨⟨mX12_envy, n + 3, 2, TX12, 53, rfl, by omega, kX12_232, WX12_envy, rfl, CX12_envy g (n)⟩, (fun _ h => absurd h List.not_mem_nil)⟩)⟩) (fun _ h => absurd h List.not_mem_nil) [] 60 _ _ _ _ ?_
      simp (maxSteps := 1000000) [-Prod.forall, -Prod.exists, -Prod.mk.injEq, jvk, tX12_knownEnvy, jtb, jol, jst, jlk, jcmp, jbin, jfl, fX12, jc2, lX12, jcat, jel, lv_args, Value.category, jins, jsrt, jins2, jble, jblt, jf3, List.filter_cons, List.filter_nil, G_m, oX12_hasRoom, oX12_envy, joRI, joRII, h1, h2, h3, h4, h5, h6, mKn]
    · refine jCon.ofF (by decide +kernel) (by simp [lg_sl, Value.category]) ?_
      refine jvk_ok TX12_knownEnvy (V := [(229, 2, 12, oX12_hasRoom), (232, 3, 12, oX12_envy)]) (S := []) (List.forall_mem_cons.mpr ⟨⟨mX12_hasRoom, n + 2, 1, TX12, 53, rfl, by omega, kX12_229, WX12_hasRoom, rfl, CX12_hasRoom g (n)⟩, (List.forall_mem_cons.mpr ⟨⟨mX12_envy, n + 3, 2, TX12, 53, rfl, by omega, kX12_232, WX12_envy, rfl, CX12_envy g (n)⟩, (fun _ h => absurd h List.not_mem_nil)⟩)⟩) (fun _ h => absurd h List.not_mem_nil) [] 60 _ _ _ _ ?_
      simp (maxSteps := 1000000) [-Prod.forall, -Prod.exists, -Prod.mk.injEq, jvk, tX12_knownEnvy, jtb, jol, jst, jlk, jcmp, jbin, jfl, fX12, jc2, lX12, jcat, jel, lv_args, Value.category, jins, jsrt, jins2, jble, jblt, jf3, List.filter_cons, List.filter_nil, G_m, oX12_hasRoom, oX12_envy, joRI, joRII, h1, h2, h3, h4, mKn]
  · refine jCon.ofF (by decide +kernel) (by simp [lg_sl, Value.category]) ?_
    refine jvk_ok TX12_knownEnvy (V := [(229, 2, 12, oX12_hasRoom), (232, 3, 12, oX12_envy)]) (S := []) (List.forall_mem_cons.mpr ⟨⟨mX12_hasRoom, n + 2, 1, TX12, 53, rfl, by omega, kX12_229, WX12_hasRoom, rfl, CX12_hasRoom g (n)⟩, (List.forall_mem_cons.mpr ⟨⟨mX12_envy, n + 3, 2, TX12, 53, rfl, by omega, kX12_232, WX12_envy, rfl, CX12_envy g (n)⟩, (fun _ h => absurd h List.not_mem_nil)⟩)⟩) (fun _ h => absurd h List.not_mem_nil) [] 60 _ _ _ _ ?_
    simp (maxSteps := 1000000) [-Prod.forall, -Prod.exists, -Prod.mk.injEq, jvk, tX12_knownEnvy, jtb, jol, jst, jlk, jcmp, jbin, jfl, fX12, jc2, lX12, jcat, jel, lv_args, Value.category, jins, jsrt, jins2, jble, jblt, jf3, List.filter_cons, List.filter_nil, G_m, oX12_hasRoom, oX12_envy, joRI, joRII, h1, h2, h3, mKn]
def oX12_envyOf : jO := joRII fun a p q σ => (a = 322 ∧ mOK σ ∧ dRm (σ.1 323), fun v τ => v = some (.int (if mP σ p = true ∧ mP σ q = true then mKn σ p.toNatClampNeg q.toNatClampNeg else 0)) ∧ τ = jup σ 322 11 (if mP σ p = true ∧ mP σ q = true then 0 else 1))
theorem mKn_th (σ : jM) (x : Int32) (p q : Nat) : mKn (jup σ 322 11 x) p q = mKn σ p q := rfl
theorem dRm_th {σ : jM} (h : dRm (σ.1 323)) (x : Int32) : dRm ((jup σ 322 11 x).1 323) := h
set_option maxRecDepth 100000 in
set_option maxHeartbeats 4000000 in
theorem CX12_envyOf (g : jG) (n : Nat) : jOk g (n + 5) mX12_envyOf oX12_envyOf := by
  refine joRII_ok ?_
  rintro _ p q σ ⟨rfl, hok, h0⟩
  by_cases h1 : mP σ p = true
  · by_cases h2 : mP σ q = true
    · have h3 := (mP_jin hok h1).2
      have h4 := (mP_jin hok h2).2
      refine jCon.ofF (by decide +kernel) (by simp [lg_sl, Value.category]) ?_
      refine jvk_ok TX12_envyOf (V := [(135, 2, 12, oX12_isPerson), (138, 2, 12, oX12_fails), (235, 3, 12, oX12_knownEnvy)]) (S := []) (List.forall_mem_cons.mpr ⟨⟨mX12_isPerson, n + 1, 1, TX12, 53, rfl, by omega, kX12_135, WX12_isPerson, rfl, CX12_isPerson g (n)⟩, (List.forall_mem_cons.mpr ⟨⟨mX12_fails, n + 0, 1, TX12, 53, rfl, by omega, kX12_138, WX12_fails, rfl, CX12_fails g (n)⟩, (List.forall_mem_cons.mpr ⟨⟨mX12_knownEnvy, n + 4, 2, TX12, 53, rfl, by omega, kX12_235, WX12_knownEnvy, rfl, CX12_knownEnvy g (n)⟩, (fun _ h => absurd h List.not_mem_nil)⟩)⟩)⟩) (fun _ h => absurd h List.not_mem_nil) [] 60 _ _ _ _ ?_
      simp (maxSteps := 1000000) [-Prod.forall, -Prod.exists, -Prod.mk.injEq, jvk, tX12_envyOf, jtb, jol, jst, jlk, jcmp, jbin, jfl, fX12, jc2, lX12, jcat, jel, lv_args, Value.category, jins, jsrt, jins2, jble, jblt, jf3, List.filter_cons, List.filter_nil, G_m, oX12_isPerson, oX12_fails, oX12_knownEnvy, joRI, joRII, h1, h2, h3, h4, dRm_th h0, mKn_th]
    · refine jCon.ofF (by decide +kernel) (by simp [lg_sl, Value.category]) ?_
      refine jvk_ok TX12_envyOf (V := [(135, 2, 12, oX12_isPerson), (138, 2, 12, oX12_fails), (235, 3, 12, oX12_knownEnvy)]) (S := []) (List.forall_mem_cons.mpr ⟨⟨mX12_isPerson, n + 1, 1, TX12, 53, rfl, by omega, kX12_135, WX12_isPerson, rfl, CX12_isPerson g (n)⟩, (List.forall_mem_cons.mpr ⟨⟨mX12_fails, n + 0, 1, TX12, 53, rfl, by omega, kX12_138, WX12_fails, rfl, CX12_fails g (n)⟩, (List.forall_mem_cons.mpr ⟨⟨mX12_knownEnvy, n + 4, 2, TX12, 53, rfl, by omega, kX12_235, WX12_knownEnvy, rfl, CX12_knownEnvy g (n)⟩, (fun _ h => absurd h List.not_mem_nil)⟩)⟩)⟩) (fun _ h => absurd h List.not_mem_nil) [] 60 _ _ _ _ ?_
      simp (maxSteps := 1000000) [-Prod.forall, -Prod.exists, -Prod.mk.injEq, jvk, tX12_envyOf, jtb, jol, jst, jlk, jcmp, jbin, jfl, fX12, jc2, lX12, jcat, jel, lv_args, Value.category, jins, jsrt, jins2, jble, jblt, jf3, List.filter_cons, List.filter_nil, G_m, oX12_isPerson, oX12_fails, oX12_knownEnvy, joRI, joRII, h1, h2]
  · refine jCon.ofF (by decide +kernel) (by simp [lg_sl, Value.category]) ?_
    refine jvk_ok TX12_envyOf (V := [(135, 2, 12, oX12_isPerson), (138, 2, 12, oX12_fails), (235, 3, 12, oX12_knownEnvy)]) (S := []) (List.forall_mem_cons.mpr ⟨⟨mX12_isPerson, n + 1, 1, TX12, 53, rfl, by omega, kX12_135, WX12_isPerson, rfl, CX12_isPerson g (n)⟩, (List.forall_mem_cons.mpr ⟨⟨mX12_fails, n + 0, 1, TX12, 53, rfl, by omega, kX12_138, WX12_fails, rfl, CX12_fails g (n)⟩, (List.forall_mem_cons.mpr ⟨⟨mX12_knownEnvy, n + 4, 2, TX12, 53, rfl, by omega, kX12_235, WX12_knownEnvy, rfl, CX12_knownEnvy g (n)⟩, (fun _ h => absurd h List.not_mem_nil)⟩)⟩)⟩) (fun _ h => absurd h List.not_mem_nil) [] 60 _ _ _ _ ?_
    simp (maxSteps := 1000000) [-Prod.forall, -Prod.exists, -Prod.mk.injEq, jvk, tX12_envyOf, jtb, jol, jst, jlk, jcmp, jbin, jfl, fX12, jc2, lX12, jcat, jel, lv_args, Value.category, jins, jsrt, jins2, jble, jblt, jf3, List.filter_cons, List.filter_nil, G_m, oX12_isPerson, oX12_fails, oX12_knownEnvy, joRI, joRII, h1]
def mAE (σ : jM) (N : Nat) : Nat → Int32 := sm (fun p => sm (fun q => if 0 ≤ mD σ p 2 ∧ 0 ≤ mD σ q 2 then mEnv σ p q else 0) N)
def oX12_allEnvy : jO := joR fun a σ => (a = 322 ∧ mOK σ ∧ dRm (σ.1 323), fun v τ => v = some (.int (mAE σ (mN σ) (mN σ))) ∧ τ = σ)
set_option maxRecDepth 100000 in
set_option maxHeartbeats 4000000 in
theorem CX12_allEnvy (g : jG) (n : Nat) : jOk g (n + 4) mX12_allEnvy oX12_allEnvy := by
  refine joR_ok ?_
  rintro _ σ ⟨rfl, hok, h0⟩
  obtain ⟨N, hN, hN1, hN2⟩ := nI_rng hok.1.1 hok.1.2 (by decide)
  refine jCon.ofP (by decide +kernel) (by simp [lg_sl, Value.category]) (fun post hp => ?_)
  refine jvk_ok TX12_allEnvy (V := [(229, 2, 12, oX12_hasRoom), (232, 3, 12, oX12_envy)]) (S := []) (List.forall_mem_cons.mpr ⟨⟨mX12_hasRoom, n + 2, 1, TX12, 53, rfl, by omega, kX12_229, WX12_hasRoom, rfl, CX12_hasRoom g (n)⟩, (List.forall_mem_cons.mpr ⟨⟨mX12_envy, n + 3, 2, TX12, 53, rfl, by omega, kX12_232, WX12_envy, rfl, CX12_envy g (n)⟩, (fun _ h => absurd h List.not_mem_nil)⟩)⟩) (fun _ h => absurd h List.not_mem_nil) [4] 30 _ _ _ _ ?_
  simp (maxSteps := 1000000) [-Prod.forall, -Prod.exists, -Prod.mk.injEq, jvk, tX12_allEnvy, jtb, jol, jst, jlk, jcmp, jbin, jfl, fX12, jc2, lX12, jcat, jel, lv_args, Value.category, jins, jsrt, jins2, jble, jblt, jf3, List.filter_cons, List.filter_nil, G_m, oX12_hasRoom, oX12_envy, joRI, joRII]
  have key := jloop (P := fun k => jW g mX12_allEnvy (n + 4) post 4 [(0, .ref 322), (1, .int (mAE σ N k)), (2, .int (nI k))] [] σ) (N := N) (by
    refine jvk_ok TX12_allEnvy (V := [(229, 2, 12, oX12_hasRoom), (232, 3, 12, oX12_envy)]) (S := []) (List.forall_mem_cons.mpr ⟨⟨mX12_hasRoom, n + 2, 1, TX12, 53, rfl, by omega, kX12_229, WX12_hasRoom, rfl, CX12_hasRoom g (n)⟩, (List.forall_mem_cons.mpr ⟨⟨mX12_envy, n + 3, 2, TX12, 53, rfl, by omega, kX12_232, WX12_envy, rfl, CX12_envy g (n)⟩, (fun _ h => absurd h List.not_mem_nil)⟩)⟩) (fun _ h => absurd h List.not_mem_nil) [4, 14] 30 _ _ _ _ ?_
    simp (maxSteps := 1000000) [-Prod.forall, -Prod.exists, -Prod.mk.injEq, jvk, tX12_allEnvy, jtb, jol, jst, jlk, jcmp, jbin, jfl, fX12, jc2, lX12, jcat, jel, lv_args, Value.category, jins, jsrt, jins2, jble, jblt, jf3, List.filter_cons, List.filter_nil, G_m, oX12_hasRoom, oX12_envy, joRI, joRII, nI_1, hN1]
    try simp (disch := omega) [nI_1, nI_clamp, nI_leI, nI_ltI, nI_eq, nI_m1, NL_0, NL_1, NL_2, NL_3, NL_5, NL_6, NL_9, NL_10, NL_11, NL_12, NL_20, NL_24, NL_25, NL_60, NL_64, NL_90, NL_100, NL_120, NL_900, NL_999, NL_9999, NL_99999, NL_1000000, NL_208, NL_2080, NL_10000, hN1]
    exact hp _ _ ⟨by rw [mN, hN2], rfl⟩) (fun k hk ih => by
    refine jvk_ok TX12_allEnvy (V := [(229, 2, 12, oX12_hasRoom), (232, 3, 12, oX12_envy)]) (S := []) (List.forall_mem_cons.mpr ⟨⟨mX12_hasRoom, n + 2, 1, TX12, 53, rfl, by omega, kX12_229, WX12_hasRoom, rfl, CX12_hasRoom g (n)⟩, (List.forall_mem_cons.mpr ⟨⟨mX12_envy, n + 3, 2, TX12, 53, rfl, by omega, kX12_232, WX12_envy, rfl, CX12_envy g (n)⟩, (fun _ h => absurd h List.not_mem_nil)⟩)⟩) (fun _ h => absurd h List.not_mem_nil) [4, 14] 30 _ _ _ _ ?_
    simp (maxSteps := 1000000) [-Prod.forall, -Prod.exists, -Prod.mk.injEq, jvk, tX12_allEnvy, jtb, jol, jst, jlk, jcmp, jbin, jfl, fX12, jc2, lX12, jcat, jel, lv_args, Value.category, jins, jsrt, jins2, jble, jblt, jf3, List.filter_cons, List.filter_nil, G_m, oX12_hasRoom, oX12_envy, joRI, joRII, nI_1, hN1]
    try simp (disch := omega) [nI_1, nI_clamp, nI_leI, nI_ltI, nI_eq, nI_m1, NL_0, NL_1, NL_2, NL_3, NL_5, NL_6, NL_9, NL_10, NL_11, NL_12, NL_20, NL_24, NL_25, NL_60, NL_64, NL_90, NL_100, NL_120, NL_900, NL_999, NL_9999, NL_99999, NL_1000000, NL_208, NL_2080, NL_10000, hN1]
    refine ⟨fun h => by omega, fun _ => ?_⟩
    have key2 := jloop (P := fun q => jW g mX12_allEnvy (n + 4) post 14 [(0, .ref 322), (1, .int (mAE σ N k + sm (fun q => if 0 ≤ mD σ k 2 ∧ 0 ≤ mD σ q 2 then mEnv σ k q else 0) q)), (2, .int (nI k)), (3, .int (nI q))] [] σ) (N := N) (by
      refine jvk_ok TX12_allEnvy (V := [(229, 2, 12, oX12_hasRoom), (232, 3, 12, oX12_envy)]) (S := []) (List.forall_mem_cons.mpr ⟨⟨mX12_hasRoom, n + 2, 1, TX12, 53, rfl, by omega, kX12_229, WX12_hasRoom, rfl, CX12_hasRoom g (n)⟩, (List.forall_mem_cons.mpr ⟨⟨mX12_envy, n + 3, 2, TX12, 53, rfl, by omega, kX12_232, WX12_envy, rfl, CX12_envy g (n)⟩, (fun _ h => absurd h List.not_mem_nil)⟩)⟩) (fun _ h => absurd h List.not_mem_nil) [4, 14] 30 _ _ _ _ ?_
      simp (maxSteps := 1000000) [-Prod.forall, -Prod.exists, -Prod.mk.injEq, jvk, tX12_allEnvy, jtb, jol, jst, jlk, jcmp, jbin, jfl, fX12, jc2, lX12, jcat, jel, lv_args, Value.category, jins, jsrt, jins2, jble, jblt, jf3, List.filter_cons, List.filter_nil, G_m, oX12_hasRoom, oX12_envy, joRI, joRII, nI_1, hN1]
      try simp (disch := omega) [nI_1, nI_clamp, nI_leI, nI_ltI, nI_eq, nI_m1, NL_0, NL_1, NL_2, NL_3, NL_5, NL_6, NL_9, NL_10, NL_11, NL_12, NL_20, NL_24, NL_25, NL_60, NL_64, NL_90, NL_100, NL_120, NL_900, NL_999, NL_9999, NL_99999, NL_1000000, NL_208, NL_2080, NL_10000, hN1]
      refine jW.mono ih ?_
      simp [mAE, sm]) (fun q hq ih2 => by
      simp only [sm] at ih2
      have hk1 := jin_nI (show k < 10 by omega) (by decide)
      have hq1 := jin_nI (show q < 10 by omega) (by decide)
      by_cases h3 : 0 ≤ mD σ k 2
      · by_cases h4 : 0 ≤ mD σ q 2
        · have h5 : jin (mD σ k 2) 6 := h0 _ (by omega) h3
          have h6 : jin (mD σ q 2) 6 := h0 _ (by omega) h4
          rw [if_pos ⟨h3, h4⟩] at ih2
          refine jvk_ok TX12_allEnvy (V := [(229, 2, 12, oX12_hasRoom), (232, 3, 12, oX12_envy)]) (S := []) (List.forall_mem_cons.mpr ⟨⟨mX12_hasRoom, n + 2, 1, TX12, 53, rfl, by omega, kX12_229, WX12_hasRoom, rfl, CX12_hasRoom g (n)⟩, (List.forall_mem_cons.mpr ⟨⟨mX12_envy, n + 3, 2, TX12, 53, rfl, by omega, kX12_232, WX12_envy, rfl, CX12_envy g (n)⟩, (fun _ h => absurd h List.not_mem_nil)⟩)⟩) (fun _ h => absurd h List.not_mem_nil) [4, 14] 30 _ _ _ _ ?_
          simp (maxSteps := 1000000) [-Prod.forall, -Prod.exists, -Prod.mk.injEq, jvk, tX12_allEnvy, jtb, jol, jst, jlk, jcmp, jbin, jfl, fX12, jc2, lX12, jcat, jel, lv_args, Value.category, jins, jsrt, jins2, jble, jblt, jf3, List.filter_cons, List.filter_nil, G_m, oX12_hasRoom, oX12_envy, joRI, joRII, nI_1, hN1, hk1, hq1, h3, h4, h5, h6, Int32.add_assoc]
          try simp (disch := omega) [nI_1, nI_clamp, nI_leI, nI_ltI, nI_eq, nI_m1, NL_0, NL_1, NL_2, NL_3, NL_5, NL_6, NL_9, NL_10, NL_11, NL_12, NL_20, NL_24, NL_25, NL_60, NL_64, NL_90, NL_100, NL_120, NL_900, NL_999, NL_9999, NL_99999, NL_1000000, NL_208, NL_2080, NL_10000, hN1, hk1, hq1, h3, h4, h5, h6, Int32.add_assoc]
          exact ⟨fun h => by omega, fun _ => ih2⟩
        · rw [if_neg (by simp [h4])] at ih2
          refine jvk_ok TX12_allEnvy (V := [(229, 2, 12, oX12_hasRoom), (232, 3, 12, oX12_envy)]) (S := []) (List.forall_mem_cons.mpr ⟨⟨mX12_hasRoom, n + 2, 1, TX12, 53, rfl, by omega, kX12_229, WX12_hasRoom, rfl, CX12_hasRoom g (n)⟩, (List.forall_mem_cons.mpr ⟨⟨mX12_envy, n + 3, 2, TX12, 53, rfl, by omega, kX12_232, WX12_envy, rfl, CX12_envy g (n)⟩, (fun _ h => absurd h List.not_mem_nil)⟩)⟩) (fun _ h => absurd h List.not_mem_nil) [4, 14] 30 _ _ _ _ ?_
          simp (maxSteps := 1000000) [-Prod.forall, -Prod.exists, -Prod.mk.injEq, jvk, tX12_allEnvy, jtb, jol, jst, jlk, jcmp, jbin, jfl, fX12, jc2, lX12, jcat, jel, lv_args, Value.category, jins, jsrt, jins2, jble, jblt, jf3, List.filter_cons, List.filter_nil, G_m, oX12_hasRoom, oX12_envy, joRI, joRII, nI_1, hN1, hk1, hq1, h3, h4, Int32.add_assoc]
          try simp (disch := omega) [nI_1, nI_clamp, nI_leI, nI_ltI, nI_eq, nI_m1, NL_0, NL_1, NL_2, NL_3, NL_5, NL_6, NL_9, NL_10, NL_11, NL_12, NL_20, NL_24, NL_25, NL_60, NL_64, NL_90, NL_100, NL_120, NL_900, NL_999, NL_9999, NL_99999, NL_1000000, NL_208, NL_2080, NL_10000, hN1, hk1, hq1, h3, h4, Int32.add_assoc]
          exact ⟨fun h => by omega, fun _ => by simpa using ih2⟩
      · rw [if_neg (by simp [h3])] at ih2
        refine jvk_ok TX12_allEnvy (V := [(229, 2, 12, oX12_hasRoom), (232, 3, 12, oX12_envy)]) (S := []) (List.forall_mem_cons.mpr ⟨⟨mX12_hasRoom, n + 2, 1, TX12, 53, rfl, by omega, kX12_229, WX12_hasRoom, rfl, CX12_hasRoom g (n)⟩, (List.forall_mem_cons.mpr ⟨⟨mX12_envy, n + 3, 2, TX12, 53, rfl, by omega, kX12_232, WX12_envy, rfl, CX12_envy g (n)⟩, (fun _ h => absurd h List.not_mem_nil)⟩)⟩) (fun _ h => absurd h List.not_mem_nil) [4, 14] 30 _ _ _ _ ?_
        simp (maxSteps := 1000000) [-Prod.forall, -Prod.exists, -Prod.mk.injEq, jvk, tX12_allEnvy, jtb, jol, jst, jlk, jcmp, jbin, jfl, fX12, jc2, lX12, jcat, jel, lv_args, Value.category, jins, jsrt, jins2, jble, jblt, jf3, List.filter_cons, List.filter_nil, G_m, oX12_hasRoom, oX12_envy, joRI, joRII, nI_1, hN1, hk1, hq1, h3, Int32.add_assoc]
        try simp (disch := omega) [nI_1, nI_clamp, nI_leI, nI_ltI, nI_eq, nI_m1, NL_0, NL_1, NL_2, NL_3, NL_5, NL_6, NL_9, NL_10, NL_11, NL_12, NL_20, NL_24, NL_25, NL_60, NL_64, NL_90, NL_100, NL_120, NL_900, NL_999, NL_9999, NL_99999, NL_1000000, NL_208, NL_2080, NL_10000, hN1, hk1, hq1, h3, Int32.add_assoc]
        exact ⟨fun h => by omega, fun _ => by simpa using ih2⟩)
    simpa [nI_0, sm] using key2)
  simpa [nI_0, sm, mAE] using key
theorem mAE_th (σ : jM) (x : Int32) (N k : Nat) : mAE (jup σ 322 11 x) N k = mAE σ N k := rfl
def oX12_totalEnvy : jO := joR fun a σ => (a = 322 ∧ mOK σ ∧ dRm (σ.1 323), fun v τ => v = some (.int (mAE σ (mN σ) (mN σ))) ∧ τ = jup σ 322 11 0)
set_option maxRecDepth 100000 in
set_option maxHeartbeats 4000000 in
theorem CX12_totalEnvy (g : jG) (n : Nat) : jOk g (n + 5) mX12_totalEnvy oX12_totalEnvy := by
  refine joR_ok ?_
  rintro _ σ ⟨rfl, hok, h0⟩
  refine jCon.ofF (by decide +kernel) (by simp [lg_sl, Value.category]) ?_
  refine jvk_ok TX12_totalEnvy (V := [(238, 1, 12, oX12_allEnvy)]) (S := []) (List.forall_mem_cons.mpr ⟨⟨mX12_allEnvy, n + 4, 0, TX12, 53, rfl, by omega, kX12_238, WX12_allEnvy, rfl, CX12_allEnvy g (n)⟩, (fun _ h => absurd h List.not_mem_nil)⟩) (fun _ h => absurd h List.not_mem_nil) [] 30 _ _ _ _ ?_
  simp (maxSteps := 1000000) [-Prod.forall, -Prod.exists, -Prod.mk.injEq, jvk, tX12_totalEnvy, jtb, jol, jst, jlk, jcmp, jbin, jfl, fX12, jc2, lX12, jcat, jel, lv_args, Value.category, jins, jsrt, jins2, jble, jblt, jf3, List.filter_cons, List.filter_nil, G_m, oX12_allEnvy, joR, mOK_th hok, dRm_th h0, mAE_th, mN_th]
/-- how many envy q -/
def mEc (σ : jM) (q : Nat) (k : Nat) : Nat := cn (fun p => decide (0 < mKn σ p q)) k
def mMe (σ : jM) (N : Nat) : Nat → Int32 × Nat
  | 0 => (-1, 0)
  | q + 1 => if (mMe σ N q).2 < mEc σ q N then (nI q, mEc σ q N) else mMe σ N q
theorem mMe_le (σ : jM) (N : Nat) : ∀ q, (mMe σ N q).2 ≤ N
  | 0 => Nat.zero_le _
  | q + 1 => by
    have := mMe_le σ N q
    have := cn_le (fun p => decide (0 < mKn σ p q)) N
    simp only [mMe]
    split
    · exact this
    · assumption
def oX12_mostEnvied : jO := joR fun a σ => (a = 322 ∧ mOK σ ∧ dRm (σ.1 323), fun v τ => v = some (.int (mMe σ (mN σ) (mN σ)).1) ∧ τ = jup σ 322 11 0)
set_option maxRecDepth 100000 in
set_option maxHeartbeats 4000000 in
theorem CX12_mostEnvied (g : jG) (n : Nat) : jOk g (n + 5) mX12_mostEnvied oX12_mostEnvied := by
  refine joR_ok ?_
  rintro _ σ ⟨rfl, hok, h0⟩
  obtain ⟨N, hN, hN1, hN2⟩ := nI_rng hok.1.1 hok.1.2 (by decide)
  have h0' := dRm_th h0 0
  refine jCon.ofP (by decide +kernel) (by simp [lg_sl, Value.category]) (fun post hp => ?_)
  refine jvk_ok TX12_mostEnvied (V := [(235, 3, 12, oX12_knownEnvy)]) (S := []) (List.forall_mem_cons.mpr ⟨⟨mX12_knownEnvy, n + 4, 2, TX12, 53, rfl, by omega, kX12_235, WX12_knownEnvy, rfl, CX12_knownEnvy g (n)⟩, (fun _ h => absurd h List.not_mem_nil)⟩) (fun _ h => absurd h List.not_mem_nil) [11] 30 _ _ _ _ ?_
  simp (maxSteps := 1000000) [-Prod.forall, -Prod.exists, -Prod.mk.injEq, jvk, tX12_mostEnvied, jtb, jol, jst, jlk, jcmp, jbin, jfl, fX12, jc2, lX12, jcat, jel, lv_args, Value.category, jins, jsrt, jins2, jble, jblt, jf3, List.filter_cons, List.filter_nil, G_m, oX12_knownEnvy, joRII]
  have key := jloop (P := fun k => jW g mX12_mostEnvied (n + 5) post 11 [(0, .ref 322), (1, .int (mMe σ N k).1), (2, .int (nI (mMe σ N k).2)), (3, .int (nI k))] [] (jup σ 322 11 0)) (N := N) (by
    refine jvk_ok TX12_mostEnvied (V := [(235, 3, 12, oX12_knownEnvy)]) (S := []) (List.forall_mem_cons.mpr ⟨⟨mX12_knownEnvy, n + 4, 2, TX12, 53, rfl, by omega, kX12_235, WX12_knownEnvy, rfl, CX12_knownEnvy g (n)⟩, (fun _ h => absurd h List.not_mem_nil)⟩) (fun _ h => absurd h List.not_mem_nil) [11, 25] 30 _ _ _ _ ?_
    simp (maxSteps := 1000000) [-Prod.forall, -Prod.exists, -Prod.mk.injEq, jvk, tX12_mostEnvied, jtb, jol, jst, jlk, jcmp, jbin, jfl, fX12, jc2, lX12, jcat, jel, lv_args, Value.category, jins, jsrt, jins2, jble, jblt, jf3, List.filter_cons, List.filter_nil, G_m, oX12_knownEnvy, joRII, nI_1, hN1, jup_1]
    try simp (disch := omega) [nI_1, nI_clamp, nI_leI, nI_ltI, nI_eq, nI_m1, NL_0, NL_1, NL_2, NL_3, NL_5, NL_6, NL_9, NL_10, NL_11, NL_12, NL_20, NL_24, NL_25, NL_60, NL_64, NL_90, NL_100, NL_120, NL_900, NL_999, NL_9999, NL_99999, NL_1000000, NL_208, NL_2080, NL_10000, hN1, jup_1]
    exact hp _ _ ⟨by rw [mN, hN2], rfl⟩) (fun k hk ih => by
    have hm := mMe_le σ N k
    have hc := cn_le (fun p => decide (0 < mKn σ p k)) N
    have hc' : mEc σ k N ≤ N := hc
    refine jvk_ok TX12_mostEnvied (V := [(235, 3, 12, oX12_knownEnvy)]) (S := []) (List.forall_mem_cons.mpr ⟨⟨mX12_knownEnvy, n + 4, 2, TX12, 53, rfl, by omega, kX12_235, WX12_knownEnvy, rfl, CX12_knownEnvy g (n)⟩, (fun _ h => absurd h List.not_mem_nil)⟩) (fun _ h => absurd h List.not_mem_nil) [11, 25] 30 _ _ _ _ ?_
    simp (maxSteps := 1000000) [-Prod.forall, -Prod.exists, -Prod.mk.injEq, jvk, tX12_mostEnvied, jtb, jol, jst, jlk, jcmp, jbin, jfl, fX12, jc2, lX12, jcat, jel, lv_args, Value.category, jins, jsrt, jins2, jble, jblt, jf3, List.filter_cons, List.filter_nil, G_m, oX12_knownEnvy, joRII, nI_1, hN1, jup_1]
    try simp (disch := omega) [nI_1, nI_clamp, nI_leI, nI_ltI, nI_eq, nI_m1, NL_0, NL_1, NL_2, NL_3, NL_5, NL_6, NL_9, NL_10, NL_11, NL_12, NL_20, NL_24, NL_25, NL_60, NL_64, NL_90, NL_100, NL_120, NL_900, NL_999, NL_9999, NL_99999, NL_1000000, NL_208, NL_2080, NL_10000, hN1, jup_1]
    refine ⟨fun h => by omega, fun _ => ?_⟩
    have key2 := jloop (P := fun q => jW g mX12_mostEnvied (n + 5) post 25 [(0, .ref 322), (1, .int (mMe σ N k).1), (2, .int (nI (mMe σ N k).2)), (3, .int (nI k)), (4, .int (nI (mEc σ k q))), (5, .int (nI q))] [] (jup σ 322 11 0)) (N := N) (by
      simp only [mMe] at ih
      by_cases h5 : (mMe σ N k).2 < mEc σ k N
      · rw [if_pos h5] at ih
        have h6 : ¬ nI (mEc σ k N) ≤ nI (mMe σ N k).2 := fun q => by have := (nI_leI (by omega) (by omega)).mp q; omega
        refine jvk_ok TX12_mostEnvied (V := [(235, 3, 12, oX12_knownEnvy)]) (S := []) (List.forall_mem_cons.mpr ⟨⟨mX12_knownEnvy, n + 4, 2, TX12, 53, rfl, by omega, kX12_235, WX12_knownEnvy, rfl, CX12_knownEnvy g (n)⟩, (fun _ h => absurd h List.not_mem_nil)⟩) (fun _ h => absurd h List.not_mem_nil) [11, 25] 60 _ _ _ _ ?_
        simp (maxSteps := 1000000) [-Prod.forall, -Prod.exists, -Prod.mk.injEq, jvk, tX12_mostEnvied, jtb, jol, jst, jlk, jcmp, jbin, jfl, fX12, jc2, lX12, jcat, jel, lv_args, Value.category, jins, jsrt, jins2, jble, jblt, jf3, List.filter_cons, List.filter_nil, G_m, oX12_knownEnvy, joRII, nI_1, hN1, jup_1, h6]
        try simp (disch := omega) [nI_1, nI_clamp, nI_leI, nI_ltI, nI_eq, nI_m1, NL_0, NL_1, NL_2, NL_3, NL_5, NL_6, NL_9, NL_10, NL_11, NL_12, NL_20, NL_24, NL_25, NL_60, NL_64, NL_90, NL_100, NL_120, NL_900, NL_999, NL_9999, NL_99999, NL_1000000, NL_208, NL_2080, NL_10000, hN1, jup_1, h6]
        exact jW.mono ih (by simp)
      · rw [if_neg h5] at ih
        have h6 : nI (mEc σ k N) ≤ nI (mMe σ N k).2 := (nI_leI (by omega) (by omega)).mpr (by omega)
        refine jvk_ok TX12_mostEnvied (V := [(235, 3, 12, oX12_knownEnvy)]) (S := []) (List.forall_mem_cons.mpr ⟨⟨mX12_knownEnvy, n + 4, 2, TX12, 53, rfl, by omega, kX12_235, WX12_knownEnvy, rfl, CX12_knownEnvy g (n)⟩, (fun _ h => absurd h List.not_mem_nil)⟩) (fun _ h => absurd h List.not_mem_nil) [11, 25] 60 _ _ _ _ ?_
        simp (maxSteps := 1000000) [-Prod.forall, -Prod.exists, -Prod.mk.injEq, jvk, tX12_mostEnvied, jtb, jol, jst, jlk, jcmp, jbin, jfl, fX12, jc2, lX12, jcat, jel, lv_args, Value.category, jins, jsrt, jins2, jble, jblt, jf3, List.filter_cons, List.filter_nil, G_m, oX12_knownEnvy, joRII, nI_1, hN1, jup_1, h6]
        try simp (disch := omega) [nI_1, nI_clamp, nI_leI, nI_ltI, nI_eq, nI_m1, NL_0, NL_1, NL_2, NL_3, NL_5, NL_6, NL_9, NL_10, NL_11, NL_12, NL_20, NL_24, NL_25, NL_60, NL_64, NL_90, NL_100, NL_120, NL_900, NL_999, NL_9999, NL_99999, NL_1000000, NL_208, NL_2080, NL_10000, hN1, jup_1, h6]
        exact jW.mono ih (by simp)) (fun q hq ih2 => by
      have hk1 := jin_nI (show k < 10 by omega) (by decide)
      have hq1 := jin_nI (show q < 10 by omega) (by decide)
      have e7 : mEc σ k (q + 1) = mEc σ k q + if decide (0 < mKn σ q k) then 1 else 0 := rfl
      rw [e7] at ih2
      refine jvk_ok TX12_mostEnvied (V := [(235, 3, 12, oX12_knownEnvy)]) (S := []) (List.forall_mem_cons.mpr ⟨⟨mX12_knownEnvy, n + 4, 2, TX12, 53, rfl, by omega, kX12_235, WX12_knownEnvy, rfl, CX12_knownEnvy g (n)⟩, (fun _ h => absurd h List.not_mem_nil)⟩) (fun _ h => absurd h List.not_mem_nil) [11, 25] 60 _ _ _ _ ?_
      simp (maxSteps := 1000000) [-Prod.forall, -Prod.exists, -Prod.mk.injEq, jvk, tX12_mostEnvied, jtb, jol, jst, jlk, jcmp, jbin, jfl, fX12, jc2, lX12, jcat, jel, lv_args, Value.category, jins, jsrt, jins2, jble, jblt, jf3, List.filter_cons, List.filter_nil, G_m, oX12_knownEnvy, joRII, nI_1, hN1, jup_1, hk1, hq1, h0', mKn_th]
      try simp (disch := omega) [nI_1, nI_clamp, nI_leI, nI_ltI, nI_eq, nI_m1, NL_0, NL_1, NL_2, NL_3, NL_5, NL_6, NL_9, NL_10, NL_11, NL_12, NL_20, NL_24, NL_25, NL_60, NL_64, NL_90, NL_100, NL_120, NL_900, NL_999, NL_9999, NL_99999, NL_1000000, NL_208, NL_2080, NL_10000, hN1, jup_1, hk1, hq1, h0', mKn_th]
      refine ⟨fun h => by omega, fun _ => ⟨fun h => ?_, fun h => ?_⟩⟩
      · rw [if_neg (by simpa using h)] at ih2
        simpa using ih2
      · rw [if_pos (by simpa using h)] at ih2
        simpa [nI_1] using ih2)
    simpa [nI_0, mEc, cn] using key2)
  simpa [nI_0, mMe] using key
def mEB (σ : jM) (p : Nat) : Nat → Int32
  | 0 => 0
  | k + 1 => if 0 < mKn σ k p then mEB σ p k ||| (1 <<< (nI k &&& 31)) else mEB σ p k
def oX12_enviers : jO := joRI fun a p σ => (a = 322 ∧ mOK σ ∧ dRm (σ.1 323), fun v τ => v = some (.int (if mP σ p = true then mEB σ p.toNatClampNeg (mN σ) else 0)) ∧ τ = jup σ 322 11 (if mP σ p = true then 0 else 1))
set_option maxRecDepth 100000 in
set_option maxHeartbeats 4000000 in
theorem CX12_enviers (g : jG) (n : Nat) : jOk g (n + 5) mX12_enviers oX12_enviers := by
  refine joRI_ok ?_
  rintro _ p σ ⟨rfl, hok, h0⟩
  obtain ⟨N, hN, hN1, hN2⟩ := nI_rng hok.1.1 hok.1.2 (by decide)
  have h0' := dRm_th h0 0
  by_cases h : mP σ p = true
  · have hp1 := (mP_jin hok h).2
    refine jCon.ofP (by decide +kernel) (by simp [lg_sl, Value.category]) (fun post hp => ?_)
    refine jvk_ok TX12_enviers (V := [(135, 2, 12, oX12_isPerson), (138, 2, 12, oX12_fails), (235, 3, 12, oX12_knownEnvy)]) (S := []) (List.forall_mem_cons.mpr ⟨⟨mX12_isPerson, n + 1, 1, TX12, 53, rfl, by omega, kX12_135, WX12_isPerson, rfl, CX12_isPerson g (n)⟩, (List.forall_mem_cons.mpr ⟨⟨mX12_fails, n + 0, 1, TX12, 53, rfl, by omega, kX12_138, WX12_fails, rfl, CX12_fails g (n)⟩, (List.forall_mem_cons.mpr ⟨⟨mX12_knownEnvy, n + 4, 2, TX12, 53, rfl, by omega, kX12_235, WX12_knownEnvy, rfl, CX12_knownEnvy g (n)⟩, (fun _ h => absurd h List.not_mem_nil)⟩)⟩)⟩) (fun _ h => absurd h List.not_mem_nil) [18] 30 _ _ _ _ ?_
    simp (maxSteps := 1000000) [-Prod.forall, -Prod.exists, -Prod.mk.injEq, jvk, tX12_enviers, jtb, jol, jst, jlk, jcmp, jbin, jfl, fX12, jc2, lX12, jcat, jel, lv_args, Value.category, jins, jsrt, jins2, jble, jblt, jf3, List.filter_cons, List.filter_nil, G_m, oX12_isPerson, oX12_fails, oX12_knownEnvy, joRI, joRII, h]
    have key := jloop (P := fun k => jW g mX12_enviers (n + 5) post 18 [(0, .ref 322), (1, .int p), (2, .int (mEB σ p.toNatClampNeg k)), (3, .int (nI k))] [] (jup σ 322 11 0)) (N := N) (by
      refine jvk_ok TX12_enviers (V := [(135, 2, 12, oX12_isPerson), (138, 2, 12, oX12_fails), (235, 3, 12, oX12_knownEnvy)]) (S := []) (List.forall_mem_cons.mpr ⟨⟨mX12_isPerson, n + 1, 1, TX12, 53, rfl, by omega, kX12_135, WX12_isPerson, rfl, CX12_isPerson g (n)⟩, (List.forall_mem_cons.mpr ⟨⟨mX12_fails, n + 0, 1, TX12, 53, rfl, by omega, kX12_138, WX12_fails, rfl, CX12_fails g (n)⟩, (List.forall_mem_cons.mpr ⟨⟨mX12_knownEnvy, n + 4, 2, TX12, 53, rfl, by omega, kX12_235, WX12_knownEnvy, rfl, CX12_knownEnvy g (n)⟩, (fun _ h => absurd h List.not_mem_nil)⟩)⟩)⟩) (fun _ h => absurd h List.not_mem_nil) [18] 30 _ _ _ _ ?_
      simp (maxSteps := 1000000) [-Prod.forall, -Prod.exists, -Prod.mk.injEq, jvk, tX12_enviers, jtb, jol, jst, jlk, jcmp, jbin, jfl, fX12, jc2, lX12, jcat, jel, lv_args, Value.category, jins, jsrt, jins2, jble, jblt, jf3, List.filter_cons, List.filter_nil, G_m, oX12_isPerson, oX12_fails, oX12_knownEnvy, joRI, joRII, nI_1, hN1, jup_1]
      try simp (disch := omega) [nI_1, nI_clamp, nI_leI, nI_ltI, nI_eq, nI_m1, NL_0, NL_1, NL_2, NL_3, NL_5, NL_6, NL_9, NL_10, NL_11, NL_12, NL_20, NL_24, NL_25, NL_60, NL_64, NL_90, NL_100, NL_120, NL_900, NL_999, NL_9999, NL_99999, NL_1000000, NL_208, NL_2080, NL_10000, hN1, jup_1]
      exact hp _ _ ⟨by rw [if_pos h, mN, hN2], by rw [if_pos h]⟩) (fun k hk ih => by
      have hk1 := jin_nI (show k < 10 by omega) (by decide)
      simp only [mEB] at ih
      refine jvk_ok TX12_enviers (V := [(135, 2, 12, oX12_isPerson), (138, 2, 12, oX12_fails), (235, 3, 12, oX12_knownEnvy)]) (S := []) (List.forall_mem_cons.mpr ⟨⟨mX12_isPerson, n + 1, 1, TX12, 53, rfl, by omega, kX12_135, WX12_isPerson, rfl, CX12_isPerson g (n)⟩, (List.forall_mem_cons.mpr ⟨⟨mX12_fails, n + 0, 1, TX12, 53, rfl, by omega, kX12_138, WX12_fails, rfl, CX12_fails g (n)⟩, (List.forall_mem_cons.mpr ⟨⟨mX12_knownEnvy, n + 4, 2, TX12, 53, rfl, by omega, kX12_235, WX12_knownEnvy, rfl, CX12_knownEnvy g (n)⟩, (fun _ h => absurd h List.not_mem_nil)⟩)⟩)⟩) (fun _ h => absurd h List.not_mem_nil) [18] 30 _ _ _ _ ?_
      simp (maxSteps := 1000000) [-Prod.forall, -Prod.exists, -Prod.mk.injEq, jvk, tX12_enviers, jtb, jol, jst, jlk, jcmp, jbin, jfl, fX12, jc2, lX12, jcat, jel, lv_args, Value.category, jins, jsrt, jins2, jble, jblt, jf3, List.filter_cons, List.filter_nil, G_m, oX12_isPerson, oX12_fails, oX12_knownEnvy, joRI, joRII, nI_1, hN1, jup_1, hk1, hp1, h0', mKn_th]
      try simp (disch := omega) [nI_1, nI_clamp, nI_leI, nI_ltI, nI_eq, nI_m1, NL_0, NL_1, NL_2, NL_3, NL_5, NL_6, NL_9, NL_10, NL_11, NL_12, NL_20, NL_24, NL_25, NL_60, NL_64, NL_90, NL_100, NL_120, NL_900, NL_999, NL_9999, NL_99999, NL_1000000, NL_208, NL_2080, NL_10000, hN1, jup_1, hk1, hp1, h0', mKn_th]
      refine ⟨fun h => by omega, fun _ => ⟨fun h => ?_, fun h => ?_⟩⟩
      · rw [if_neg (by grind)] at ih
        simpa using ih
      · rw [if_pos (by grind)] at ih
        exact ih)
    simpa [nI_0, mEB] using key
  · refine jCon.ofF (by decide +kernel) (by simp [lg_sl, Value.category]) ?_
    refine jvk_ok TX12_enviers (V := [(135, 2, 12, oX12_isPerson), (138, 2, 12, oX12_fails), (235, 3, 12, oX12_knownEnvy)]) (S := []) (List.forall_mem_cons.mpr ⟨⟨mX12_isPerson, n + 1, 1, TX12, 53, rfl, by omega, kX12_135, WX12_isPerson, rfl, CX12_isPerson g (n)⟩, (List.forall_mem_cons.mpr ⟨⟨mX12_fails, n + 0, 1, TX12, 53, rfl, by omega, kX12_138, WX12_fails, rfl, CX12_fails g (n)⟩, (List.forall_mem_cons.mpr ⟨⟨mX12_knownEnvy, n + 4, 2, TX12, 53, rfl, by omega, kX12_235, WX12_knownEnvy, rfl, CX12_knownEnvy g (n)⟩, (fun _ h => absurd h List.not_mem_nil)⟩)⟩)⟩) (fun _ h => absurd h List.not_mem_nil) [] 30 _ _ _ _ ?_
    simp (maxSteps := 1000000) [-Prod.forall, -Prod.exists, -Prod.mk.injEq, jvk, tX12_enviers, jtb, jol, jst, jlk, jcmp, jbin, jfl, fX12, jc2, lX12, jcat, jel, lv_args, Value.category, jins, jsrt, jins2, jble, jblt, jf3, List.filter_cons, List.filter_nil, G_m, oX12_isPerson, oX12_fails, oX12_knownEnvy, joRI, joRII, h]
def oX12_wouldSwap : jO := joRII fun a p q σ => (a = 322 ∧ mOK σ ∧ dRm (σ.1 323), fun v τ => v = some (.int (if mP σ p = true ∧ mP σ q = true ∧ 0 < mKn σ p.toNatClampNeg q.toNatClampNeg ∧ 0 < mKn σ q.toNatClampNeg p.toNatClampNeg then 1 else 0)) ∧ τ = jup σ 322 11 (if mP σ p = true ∧ mP σ q = true then 0 else 1))
set_option maxRecDepth 100000 in
set_option maxHeartbeats 4000000 in
theorem CX12_wouldSwap (g : jG) (n : Nat) : jOk g (n + 5) mX12_wouldSwap oX12_wouldSwap := by
  refine joRII_ok ?_
  rintro _ p q σ ⟨rfl, hok, h0⟩
  by_cases h1 : mP σ p = true
  · by_cases h2 : mP σ q = true
    · have h3 := (mP_jin hok h1).2
      have h4 := (mP_jin hok h2).2
      by_cases h5 : mKn σ p.toNatClampNeg q.toNatClampNeg ≤ 0
      · have h6 : ¬ 0 < mKn σ p.toNatClampNeg q.toNatClampNeg := by grind
        refine jCon.ofF (by decide +kernel) (by simp [lg_sl, Value.category]) ?_
        refine jvk_ok TX12_wouldSwap (V := [(135, 2, 12, oX12_isPerson), (138, 2, 12, oX12_fails), (235, 3, 12, oX12_knownEnvy)]) (S := []) (List.forall_mem_cons.mpr ⟨⟨mX12_isPerson, n + 1, 1, TX12, 53, rfl, by omega, kX12_135, WX12_isPerson, rfl, CX12_isPerson g (n)⟩, (List.forall_mem_cons.mpr ⟨⟨mX12_fails, n + 0, 1, TX12, 53, rfl, by omega, kX12_138, WX12_fails, rfl, CX12_fails g (n)⟩, (List.forall_mem_cons.mpr ⟨⟨mX12_knownEnvy, n + 4, 2, TX12, 53, rfl, by omega, kX12_235, WX12_knownEnvy, rfl, CX12_knownEnvy g (n)⟩, (fun _ h => absurd h List.not_mem_nil)⟩)⟩)⟩) (fun _ h => absurd h List.not_mem_nil) [] 60 _ _ _ _ ?_
        simp (maxSteps := 1000000) [-Prod.forall, -Prod.exists, -Prod.mk.injEq, jvk, tX12_wouldSwap, jtb, jol, jst, jlk, jcmp, jbin, jfl, fX12, jc2, lX12, jcat, jel, lv_args, Value.category, jins, jsrt, jins2, jble, jblt, jf3, List.filter_cons, List.filter_nil, G_m, oX12_isPerson, oX12_fails, oX12_knownEnvy, joRI, joRII, h1, h2, h3, h4, dRm_th h0, mKn_th, h5, h6]
      · have h6 : 0 < mKn σ p.toNatClampNeg q.toNatClampNeg := by grind
        by_cases h7 : mKn σ q.toNatClampNeg p.toNatClampNeg ≤ 0
        · have h8 : ¬ 0 < mKn σ q.toNatClampNeg p.toNatClampNeg := by grind
          refine jCon.ofF (by decide +kernel) (by simp [lg_sl, Value.category]) ?_
          refine jvk_ok TX12_wouldSwap (V := [(135, 2, 12, oX12_isPerson), (138, 2, 12, oX12_fails), (235, 3, 12, oX12_knownEnvy)]) (S := []) (List.forall_mem_cons.mpr ⟨⟨mX12_isPerson, n + 1, 1, TX12, 53, rfl, by omega, kX12_135, WX12_isPerson, rfl, CX12_isPerson g (n)⟩, (List.forall_mem_cons.mpr ⟨⟨mX12_fails, n + 0, 1, TX12, 53, rfl, by omega, kX12_138, WX12_fails, rfl, CX12_fails g (n)⟩, (List.forall_mem_cons.mpr ⟨⟨mX12_knownEnvy, n + 4, 2, TX12, 53, rfl, by omega, kX12_235, WX12_knownEnvy, rfl, CX12_knownEnvy g (n)⟩, (fun _ h => absurd h List.not_mem_nil)⟩)⟩)⟩) (fun _ h => absurd h List.not_mem_nil) [] 60 _ _ _ _ ?_
          simp (maxSteps := 1000000) [-Prod.forall, -Prod.exists, -Prod.mk.injEq, jvk, tX12_wouldSwap, jtb, jol, jst, jlk, jcmp, jbin, jfl, fX12, jc2, lX12, jcat, jel, lv_args, Value.category, jins, jsrt, jins2, jble, jblt, jf3, List.filter_cons, List.filter_nil, G_m, oX12_isPerson, oX12_fails, oX12_knownEnvy, joRI, joRII, h1, h2, h3, h4, dRm_th h0, mKn_th, h5, h6, h7, h8]
        · have h8 : 0 < mKn σ q.toNatClampNeg p.toNatClampNeg := by grind
          refine jCon.ofF (by decide +kernel) (by simp [lg_sl, Value.category]) ?_
          refine jvk_ok TX12_wouldSwap (V := [(135, 2, 12, oX12_isPerson), (138, 2, 12, oX12_fails), (235, 3, 12, oX12_knownEnvy)]) (S := []) (List.forall_mem_cons.mpr ⟨⟨mX12_isPerson, n + 1, 1, TX12, 53, rfl, by omega, kX12_135, WX12_isPerson, rfl, CX12_isPerson g (n)⟩, (List.forall_mem_cons.mpr ⟨⟨mX12_fails, n + 0, 1, TX12, 53, rfl, by omega, kX12_138, WX12_fails, rfl, CX12_fails g (n)⟩, (List.forall_mem_cons.mpr ⟨⟨mX12_knownEnvy, n + 4, 2, TX12, 53, rfl, by omega, kX12_235, WX12_knownEnvy, rfl, CX12_knownEnvy g (n)⟩, (fun _ h => absurd h List.not_mem_nil)⟩)⟩)⟩) (fun _ h => absurd h List.not_mem_nil) [] 60 _ _ _ _ ?_
          simp (maxSteps := 1000000) [-Prod.forall, -Prod.exists, -Prod.mk.injEq, jvk, tX12_wouldSwap, jtb, jol, jst, jlk, jcmp, jbin, jfl, fX12, jc2, lX12, jcat, jel, lv_args, Value.category, jins, jsrt, jins2, jble, jblt, jf3, List.filter_cons, List.filter_nil, G_m, oX12_isPerson, oX12_fails, oX12_knownEnvy, joRI, joRII, h1, h2, h3, h4, dRm_th h0, mKn_th, h5, h6, h7, h8]
    · refine jCon.ofF (by decide +kernel) (by simp [lg_sl, Value.category]) ?_
      refine jvk_ok TX12_wouldSwap (V := [(135, 2, 12, oX12_isPerson), (138, 2, 12, oX12_fails), (235, 3, 12, oX12_knownEnvy)]) (S := []) (List.forall_mem_cons.mpr ⟨⟨mX12_isPerson, n + 1, 1, TX12, 53, rfl, by omega, kX12_135, WX12_isPerson, rfl, CX12_isPerson g (n)⟩, (List.forall_mem_cons.mpr ⟨⟨mX12_fails, n + 0, 1, TX12, 53, rfl, by omega, kX12_138, WX12_fails, rfl, CX12_fails g (n)⟩, (List.forall_mem_cons.mpr ⟨⟨mX12_knownEnvy, n + 4, 2, TX12, 53, rfl, by omega, kX12_235, WX12_knownEnvy, rfl, CX12_knownEnvy g (n)⟩, (fun _ h => absurd h List.not_mem_nil)⟩)⟩)⟩) (fun _ h => absurd h List.not_mem_nil) [] 60 _ _ _ _ ?_
      simp (maxSteps := 1000000) [-Prod.forall, -Prod.exists, -Prod.mk.injEq, jvk, tX12_wouldSwap, jtb, jol, jst, jlk, jcmp, jbin, jfl, fX12, jc2, lX12, jcat, jel, lv_args, Value.category, jins, jsrt, jins2, jble, jblt, jf3, List.filter_cons, List.filter_nil, G_m, oX12_isPerson, oX12_fails, oX12_knownEnvy, joRI, joRII, h1, h2]
  · refine jCon.ofF (by decide +kernel) (by simp [lg_sl, Value.category]) ?_
    refine jvk_ok TX12_wouldSwap (V := [(135, 2, 12, oX12_isPerson), (138, 2, 12, oX12_fails), (235, 3, 12, oX12_knownEnvy)]) (S := []) (List.forall_mem_cons.mpr ⟨⟨mX12_isPerson, n + 1, 1, TX12, 53, rfl, by omega, kX12_135, WX12_isPerson, rfl, CX12_isPerson g (n)⟩, (List.forall_mem_cons.mpr ⟨⟨mX12_fails, n + 0, 1, TX12, 53, rfl, by omega, kX12_138, WX12_fails, rfl, CX12_fails g (n)⟩, (List.forall_mem_cons.mpr ⟨⟨mX12_knownEnvy, n + 4, 2, TX12, 53, rfl, by omega, kX12_235, WX12_knownEnvy, rfl, CX12_knownEnvy g (n)⟩, (fun _ h => absurd h List.not_mem_nil)⟩)⟩)⟩) (fun _ h => absurd h List.not_mem_nil) [] 60 _ _ _ _ ?_
    simp (maxSteps := 1000000) [-Prod.forall, -Prod.exists, -Prod.mk.injEq, jvk, tX12_wouldSwap, jtb, jol, jst, jlk, jcmp, jbin, jfl, fX12, jc2, lX12, jcat, jel, lv_args, Value.category, jins, jsrt, jins2, jble, jblt, jf3, List.filter_cons, List.filter_nil, G_m, oX12_isPerson, oX12_fails, oX12_knownEnvy, joRI, joRII, h1]
def oX12_personIn : jO := joRI fun a x σ => (a = 322 ∧ mOK σ, fun v τ => v = some (.int (if mR σ x = true then ff (fun p => decide (mD σ p 2 = x)) (mN σ) 0 else 0)) ∧ τ = jup σ 322 11 (if mR σ x = true then 0 else 1))
set_option maxRecDepth 100000 in
set_option maxHeartbeats 4000000 in
theorem CX12_personIn (g : jG) (n : Nat) : jOk g (n + 2) mX12_personIn oX12_personIn := by
  refine joRI_ok ?_
  rintro _ x σ ⟨rfl, hok⟩
  obtain ⟨N, hN, hN1, hN2⟩ := nI_rng hok.1.1 hok.1.2 (by decide)
  by_cases h : mR σ x = true
  · refine jCon.ofP (by decide +kernel) (by simp [lg_sl, Value.category]) (fun post hp => ?_)
    refine jvk_ok TX12_personIn (V := [(142, 2, 12, oX12_isRoom), (138, 2, 12, oX12_fails), (128, 3, 12, oX12_of)]) (S := []) (List.forall_mem_cons.mpr ⟨⟨mX12_isRoom, n + 1, 1, TX12, 53, rfl, by omega, kX12_142, WX12_isRoom, rfl, CX12_isRoom g (n)⟩, (List.forall_mem_cons.mpr ⟨⟨mX12_fails, n + 0, 1, TX12, 53, rfl, by omega, kX12_138, WX12_fails, rfl, CX12_fails g (n)⟩, (List.forall_mem_cons.mpr ⟨⟨mX12_of, n + 1, 2, TX12, 53, rfl, by omega, kX12_128, WX12_of, rfl, CX12_of g (n)⟩, (fun _ h => absurd h List.not_mem_nil)⟩)⟩)⟩) (fun _ h => absurd h List.not_mem_nil) [16] 30 _ _ _ _ ?_
    simp (maxSteps := 1000000) [-Prod.forall, -Prod.exists, -Prod.mk.injEq, jvk, tX12_personIn, jtb, jol, jst, jlk, jcmp, jbin, jfl, fX12, jc2, lX12, jcat, jel, lv_args, Value.category, jins, jsrt, jins2, jble, jblt, jf3, List.filter_cons, List.filter_nil, G_m, oX12_isRoom, oX12_fails, oX12_of, joRI, joRII, h]
    have key := jloop (P := fun k => ff (fun p => decide (mD σ p 2 = x)) (N - k) k = ff (fun p => decide (mD σ p 2 = x)) N 0 → jW g mX12_personIn (n + 2) post 16 [(0, .ref 322), (1, .int x), (2, .int (nI k))] [] (jup σ 322 11 0)) (N := N) (fun e => by
      rw [Nat.sub_self] at e
      refine jvk_ok TX12_personIn (V := [(142, 2, 12, oX12_isRoom), (138, 2, 12, oX12_fails), (128, 3, 12, oX12_of)]) (S := []) (List.forall_mem_cons.mpr ⟨⟨mX12_isRoom, n + 1, 1, TX12, 53, rfl, by omega, kX12_142, WX12_isRoom, rfl, CX12_isRoom g (n)⟩, (List.forall_mem_cons.mpr ⟨⟨mX12_fails, n + 0, 1, TX12, 53, rfl, by omega, kX12_138, WX12_fails, rfl, CX12_fails g (n)⟩, (List.forall_mem_cons.mpr ⟨⟨mX12_of, n + 1, 2, TX12, 53, rfl, by omega, kX12_128, WX12_of, rfl, CX12_of g (n)⟩, (fun _ h => absurd h List.not_mem_nil)⟩)⟩)⟩) (fun _ h => absurd h List.not_mem_nil) [16] 30 _ _ _ _ ?_
      simp (maxSteps := 1000000) [-Prod.forall, -Prod.exists, -Prod.mk.injEq, jvk, tX12_personIn, jtb, jol, jst, jlk, jcmp, jbin, jfl, fX12, jc2, lX12, jcat, jel, lv_args, Value.category, jins, jsrt, jins2, jble, jblt, jf3, List.filter_cons, List.filter_nil, G_m, oX12_isRoom, oX12_fails, oX12_of, joRI, joRII, nI_1, hN1, jup_1]
      try simp (disch := omega) [nI_1, nI_clamp, nI_leI, nI_ltI, nI_eq, nI_m1, NL_0, NL_1, NL_2, NL_3, NL_5, NL_6, NL_9, NL_10, NL_11, NL_12, NL_20, NL_24, NL_25, NL_60, NL_64, NL_90, NL_100, NL_120, NL_900, NL_999, NL_9999, NL_99999, NL_1000000, NL_208, NL_2080, NL_10000, hN1, jup_1]
      exact hp _ _ ⟨by rw [if_pos h, mN, hN2, ← e]; rfl, by rw [if_pos h]⟩) (fun k hk ih e => by
      have hk1 := jin_nI (show k < 10 by omega) (by decide)
      rw [show N - k = (N - (k + 1)) + 1 by omega] at e
      simp only [ff, decide_eq_true_eq] at e
      refine jvk_ok TX12_personIn (V := [(142, 2, 12, oX12_isRoom), (138, 2, 12, oX12_fails), (128, 3, 12, oX12_of)]) (S := []) (List.forall_mem_cons.mpr ⟨⟨mX12_isRoom, n + 1, 1, TX12, 53, rfl, by omega, kX12_142, WX12_isRoom, rfl, CX12_isRoom g (n)⟩, (List.forall_mem_cons.mpr ⟨⟨mX12_fails, n + 0, 1, TX12, 53, rfl, by omega, kX12_138, WX12_fails, rfl, CX12_fails g (n)⟩, (List.forall_mem_cons.mpr ⟨⟨mX12_of, n + 1, 2, TX12, 53, rfl, by omega, kX12_128, WX12_of, rfl, CX12_of g (n)⟩, (fun _ h => absurd h List.not_mem_nil)⟩)⟩)⟩) (fun _ h => absurd h List.not_mem_nil) [16] 30 _ _ _ _ ?_
      simp (maxSteps := 1000000) [-Prod.forall, -Prod.exists, -Prod.mk.injEq, jvk, tX12_personIn, jtb, jol, jst, jlk, jcmp, jbin, jfl, fX12, jc2, lX12, jcat, jel, lv_args, Value.category, jins, jsrt, jins2, jble, jblt, jf3, List.filter_cons, List.filter_nil, G_m, oX12_isRoom, oX12_fails, oX12_of, joRI, joRII, nI_1, hN1, jup_1, hk1, jin_c, tn_c, mD_th]
      try simp (disch := omega) [nI_1, nI_clamp, nI_leI, nI_ltI, nI_eq, nI_m1, NL_0, NL_1, NL_2, NL_3, NL_5, NL_6, NL_9, NL_10, NL_11, NL_12, NL_20, NL_24, NL_25, NL_60, NL_64, NL_90, NL_100, NL_120, NL_900, NL_999, NL_9999, NL_99999, NL_1000000, NL_208, NL_2080, NL_10000, hN1, jup_1, hk1, jin_c, tn_c, mD_th]
      refine ⟨fun h => by omega, fun _ => ⟨fun h2 => ?_, fun h2 => ?_⟩⟩
      · rw [if_neg h2] at e
        exact ih e
      · rw [if_pos h2] at e
        exact hp _ _ ⟨by rw [if_pos h, mN, hN2, ← e], by rw [if_pos h]⟩)
    simpa [nI_0] using key rfl
  · refine jCon.ofF (by decide +kernel) (by simp [lg_sl, Value.category]) ?_
    refine jvk_ok TX12_personIn (V := [(142, 2, 12, oX12_isRoom), (138, 2, 12, oX12_fails), (128, 3, 12, oX12_of)]) (S := []) (List.forall_mem_cons.mpr ⟨⟨mX12_isRoom, n + 1, 1, TX12, 53, rfl, by omega, kX12_142, WX12_isRoom, rfl, CX12_isRoom g (n)⟩, (List.forall_mem_cons.mpr ⟨⟨mX12_fails, n + 0, 1, TX12, 53, rfl, by omega, kX12_138, WX12_fails, rfl, CX12_fails g (n)⟩, (List.forall_mem_cons.mpr ⟨⟨mX12_of, n + 1, 2, TX12, 53, rfl, by omega, kX12_128, WX12_of, rfl, CX12_of g (n)⟩, (fun _ h => absurd h List.not_mem_nil)⟩)⟩)⟩) (fun _ h => absurd h List.not_mem_nil) [] 30 _ _ _ _ ?_
    simp (maxSteps := 1000000) [-Prod.forall, -Prod.exists, -Prod.mk.injEq, jvk, tX12_personIn, jtb, jol, jst, jlk, jcmp, jbin, jfl, fX12, jc2, lX12, jcat, jel, lv_args, Value.category, jins, jsrt, jins2, jble, jblt, jf3, List.filter_cons, List.filter_nil, G_m, oX12_isRoom, oX12_fails, oX12_of, joRI, joRII, h]
def oX12_ownerOf : jO := joRI fun a x σ => (a = 322 ∧ mOK σ, fun v τ => v = some (.int (ff (fun p => decide (σ.1 330 p = x)) (mN σ) 0)) ∧ τ = σ)
set_option maxRecDepth 100000 in
set_option maxHeartbeats 4000000 in
theorem CX12_ownerOf (g : jG) (n : Nat) : jOk g (n + 0) mX12_ownerOf oX12_ownerOf := by
  refine joRI_ok ?_
  rintro _ x σ ⟨rfl, hok⟩
  obtain ⟨N, hN, hN1, hN2⟩ := nI_rng hok.1.1 hok.1.2 (by decide)
  refine jCon.ofP (by decide +kernel) (by simp [lg_sl, Value.category]) (fun post hp => ?_)
  refine jvk_ok TX12_ownerOf (V := []) (S := []) (fun _ h => absurd h List.not_mem_nil) (fun _ h => absurd h List.not_mem_nil) [2] 30 _ _ _ _ ?_
  simp (maxSteps := 1000000) [-Prod.forall, -Prod.exists, -Prod.mk.injEq, jvk, tX12_ownerOf, jtb, jol, jst, jlk, jcmp, jbin, jfl, fX12, jc2, lX12, jcat, jel, lv_args, Value.category, jins, jsrt, jins2, jble, jblt, jf3, List.filter_cons, List.filter_nil, G_m]
  have key := jloop (P := fun k => ff (fun p => decide (σ.1 330 p = x)) (N - k) k = ff (fun p => decide (σ.1 330 p = x)) N 0 → jW g mX12_ownerOf n post 2 [(0, .ref 322), (1, .int x), (2, .int (nI k))] [] σ) (N := N) (fun e => by
    rw [Nat.sub_self] at e
    refine jvk_ok TX12_ownerOf (V := []) (S := []) (fun _ h => absurd h List.not_mem_nil) (fun _ h => absurd h List.not_mem_nil) [2] 30 _ _ _ _ ?_
    simp (maxSteps := 1000000) [-Prod.forall, -Prod.exists, -Prod.mk.injEq, jvk, tX12_ownerOf, jtb, jol, jst, jlk, jcmp, jbin, jfl, fX12, jc2, lX12, jcat, jel, lv_args, Value.category, jins, jsrt, jins2, jble, jblt, jf3, List.filter_cons, List.filter_nil, G_m, nI_1, hN1]
    try simp (disch := omega) [nI_1, nI_clamp, nI_leI, nI_ltI, nI_eq, nI_m1, NL_0, NL_1, NL_2, NL_3, NL_5, NL_6, NL_9, NL_10, NL_11, NL_12, NL_20, NL_24, NL_25, NL_60, NL_64, NL_90, NL_100, NL_120, NL_900, NL_999, NL_9999, NL_99999, NL_1000000, NL_208, NL_2080, NL_10000, hN1]
    exact hp _ _ ⟨by rw [mN, hN2, ← e]; rfl, rfl⟩) (fun k hk ih e => by
    rw [show N - k = (N - (k + 1)) + 1 by omega] at e
    simp only [ff, decide_eq_true_eq] at e
    refine jvk_ok TX12_ownerOf (V := []) (S := []) (fun _ h => absurd h List.not_mem_nil) (fun _ h => absurd h List.not_mem_nil) [2] 30 _ _ _ _ ?_
    simp (maxSteps := 1000000) [-Prod.forall, -Prod.exists, -Prod.mk.injEq, jvk, tX12_ownerOf, jtb, jol, jst, jlk, jcmp, jbin, jfl, fX12, jc2, lX12, jcat, jel, lv_args, Value.category, jins, jsrt, jins2, jble, jblt, jf3, List.filter_cons, List.filter_nil, G_m, nI_1, hN1]
    try simp (disch := omega) [nI_1, nI_clamp, nI_leI, nI_ltI, nI_eq, nI_m1, NL_0, NL_1, NL_2, NL_3, NL_5, NL_6, NL_9, NL_10, NL_11, NL_12, NL_20, NL_24, NL_25, NL_60, NL_64, NL_90, NL_100, NL_120, NL_900, NL_999, NL_9999, NL_99999, NL_1000000, NL_208, NL_2080, NL_10000, hN1]
    refine ⟨fun h => by omega, fun _ => ⟨jin_nI (by omega) (by omega), fun h => ?_, fun h => ?_⟩⟩
    · rw [if_neg h] at e
      exact ih e
    · rw [if_pos h] at e
      exact hp _ _ ⟨by rw [mN, hN2, ← e], rfl⟩)
  simpa [nI_0] using key rfl
