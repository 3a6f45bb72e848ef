/-! the reference: what it tells of its row -/
def oX12_roomCount : jO := joR fun a σ => (a = 322, fun v τ => v = some (.int (σ.1 322 3)) ∧ τ = jup σ 322 11 0)
set_option maxRecDepth 100000 in
set_option maxHeartbeats 4000000 in
theorem CX12_roomCount (g : jG) (n : Nat) : jOk g (n + 0) mX12_roomCount oX12_roomCount := by
  refine joR_ok ?_
  rintro _ σ rfl
  refine jCon.ofF (by decide +kernel) (by simp [lg_sl, Value.category]) ?_
  refine jvk_ok TX12_roomCount (V := []) (S := []) (fun _ h => absurd h List.not_mem_nil) (fun _ h => absurd h List.not_mem_nil) [] 20 _ _ _ _ ?_
  simp (maxSteps := 1000000) [↓Bool.cond_eq_ite, -Prod.forall, -Prod.exists, -Prod.mk.injEq, jvk, tX12_roomCount, jtb, jol, jst, jlk, jcmp, jbin, jfl, fX12, jc2, lX12, jcat, jel, lv_args, Value.category, jins, jsrt, jins2, jble, jblt, jf3, List.filter_cons, List.filter_nil, G_m, jin, jup_1, tn_c]
def oX12_personCount : jO := joR fun a σ => (a = 322, fun v τ => v = some (.int (σ.1 322 4)) ∧ τ = jup σ 322 11 0)
set_option maxRecDepth 100000 in
set_option maxHeartbeats 4000000 in
theorem CX12_personCount (g : jG) (n : Nat) : jOk g (n + 0) mX12_personCount oX12_personCount := by
  refine joR_ok ?_
  rintro _ σ rfl
  refine jCon.ofF (by decide +kernel) (by simp [lg_sl, Value.category]) ?_
  refine jvk_ok TX12_personCount (V := []) (S := []) (fun _ h => absurd h List.not_mem_nil) (fun _ h => absurd h List.not_mem_nil) [] 20 _ _ _ _ ?_
  simp (maxSteps := 1000000) [↓Bool.cond_eq_ite, -Prod.forall, -Prod.exists, -Prod.mk.injEq, jvk, tX12_personCount, jtb, jol, jst, jlk, jcmp, jbin, jfl, fX12, jc2, lX12, jcat, jel, lv_args, Value.category, jins, jsrt, jins2, jble, jblt, jf3, List.filter_cons, List.filter_nil, G_m, jin, jup_1, tn_c]
def oX12_month : jO := joR fun a σ => (a = 322, fun v τ => v = some (.int (σ.1 323 5)) ∧ τ = jup σ 322 11 0)
set_option maxRecDepth 100000 in
set_option maxHeartbeats 4000000 in
theorem CX12_month (g : jG) (n : Nat) : jOk g (n + 0) mX12_month oX12_month := by
  refine joR_ok ?_
  rintro _ σ rfl
  refine jCon.ofF (by decide +kernel) (by simp [lg_sl, Value.category]) ?_
  refine jvk_ok TX12_month (V := []) (S := []) (fun _ h => absurd h List.not_mem_nil) (fun _ h => absurd h List.not_mem_nil) [] 20 _ _ _ _ ?_
  simp (maxSteps := 1000000) [↓Bool.cond_eq_ite, -Prod.forall, -Prod.exists, -Prod.mk.injEq, jvk, tX12_month, jtb, jol, jst, jlk, jcmp, jbin, jfl, fX12, jc2, lX12, jcat, jel, lv_args, Value.category, jins, jsrt, jins2, jble, jblt, jf3, List.filter_cons, List.filter_nil, G_m, jin, jup_1, tn_c]
def oX12_undoCount : jO := joR fun a σ => (a = 322, fun v τ => v = some (.int (σ.1 322 2)) ∧ τ = jup σ 322 11 0)
set_option maxRecDepth 100000 in
set_option maxHeartbeats 4000000 in
theorem CX12_undoCount (g : jG) (n : Nat) : jOk g (n + 0) mX12_undoCount oX12_undoCount := by
  refine joR_ok ?_
  rintro _ σ rfl
  refine jCon.ofF (by decide +kernel) (by simp [lg_sl, Value.category]) ?_
  refine jvk_ok TX12_undoCount (V := []) (S := []) (fun _ h => absurd h List.not_mem_nil) (fun _ h => absurd h List.not_mem_nil) [] 20 _ _ _ _ ?_
  simp (maxSteps := 1000000) [↓Bool.cond_eq_ite, -Prod.forall, -Prod.exists, -Prod.mk.injEq, jvk, tX12_undoCount, jtb, jol, jst, jlk, jcmp, jbin, jfl, fX12, jc2, lX12, jcat, jel, lv_args, Value.category, jins, jsrt, jins2, jble, jblt, jf3, List.filter_cons, List.filter_nil, G_m, jin, jup_1, tn_c]
def oX12_lease : jO := joR fun a σ => (a = 322, fun v τ => v = some (.int (σ.1 323 3)) ∧ τ = jup σ 322 11 0)
set_option maxRecDepth 100000 in
set_option maxHeartbeats 4000000 in
theorem CX12_lease (g : jG) (n : Nat) : jOk g (n + 0) mX12_lease oX12_lease := by
  refine joR_ok ?_
  rintro _ σ rfl
  refine jCon.ofF (by decide +kernel) (by simp [lg_sl, Value.category]) ?_
  refine jvk_ok TX12_lease (V := []) (S := []) (fun _ h => absurd h List.not_mem_nil) (fun _ h => absurd h List.not_mem_nil) [] 20 _ _ _ _ ?_
  simp (maxSteps := 1000000) [↓Bool.cond_eq_ite, -Prod.forall, -Prod.exists, -Prod.mk.injEq, jvk, tX12_lease, jtb, jol, jst, jlk, jcmp, jbin, jfl, fX12, jc2, lX12, jcat, jel, lv_args, Value.category, jins, jsrt, jins2, jble, jblt, jf3, List.filter_cons, List.filter_nil, G_m, jin, jup_1, tn_c]
def oX12_deposit : jO := joR fun a σ => (a = 322, fun v τ => v = some (.int (σ.1 323 4)) ∧ τ = jup σ 322 11 0)
set_option maxRecDepth 100000 in
set_option maxHeartbeats 4000000 in
theorem CX12_deposit (g : jG) (n : Nat) : jOk g (n + 0) mX12_deposit oX12_deposit := by
  refine joR_ok ?_
  rintro _ σ rfl
  refine jCon.ofF (by decide +kernel) (by simp [lg_sl, Value.category]) ?_
  refine jvk_ok TX12_deposit (V := []) (S := []) (fun _ h => absurd h List.not_mem_nil) (fun _ h => absurd h List.not_mem_nil) [] 20 _ _ _ _ ?_
  simp (maxSteps := 1000000) [↓Bool.cond_eq_ite, -Prod.forall, -Prod.exists, -Prod.mk.injEq, jvk, tX12_deposit, jtb, jol, jst, jlk, jcmp, jbin, jfl, fX12, jc2, lX12, jcat, jel, lv_args, Value.category, jins, jsrt, jins2, jble, jblt, jf3, List.filter_cons, List.filter_nil, G_m, jin, jup_1, tn_c]
def oX12_errorPosition : jO := joR fun a σ => (a = 322, fun v τ => v = some (.int (σ.1 322 33)) ∧ τ = jup σ 322 11 0)
set_option maxRecDepth 100000 in
set_option maxHeartbeats 4000000 in
theorem CX12_errorPosition (g : jG) (n : Nat) : jOk g (n + 0) mX12_errorPosition oX12_errorPosition := by
  refine joR_ok ?_
  rintro _ σ rfl
  refine jCon.ofF (by decide +kernel) (by simp [lg_sl, Value.category]) ?_
  refine jvk_ok TX12_errorPosition (V := []) (S := []) (fun _ h => absurd h List.not_mem_nil) (fun _ h => absurd h List.not_mem_nil) [] 20 _ _ _ _ ?_
  simp (maxSteps := 1000000) [↓Bool.cond_eq_ite, -Prod.forall, -Prod.exists, -Prod.mk.injEq, jvk, tX12_errorPosition, jtb, jol, jst, jlk, jcmp, jbin, jfl, fX12, jc2, lX12, jcat, jel, lv_args, Value.category, jins, jsrt, jins2, jble, jblt, jf3, List.filter_cons, List.filter_nil, G_m, jin, jup_1, tn_c]
def oX12_arrears : jO := joR fun a σ => (a = 322, fun v τ => v = some (.int (σ.1 323 6)) ∧ τ = jup σ 322 11 0)
set_option maxRecDepth 100000 in
set_option maxHeartbeats 4000000 in
theorem CX12_arrears (g : jG) (n : Nat) : jOk g (n + 0) mX12_arrears oX12_arrears := by
  refine joR_ok ?_
  rintro _ σ rfl
  refine jCon.ofF (by decide +kernel) (by simp [lg_sl, Value.category]) ?_
  refine jvk_ok TX12_arrears (V := []) (S := []) (fun _ h => absurd h List.not_mem_nil) (fun _ h => absurd h List.not_mem_nil) [] 20 _ _ _ _ ?_
  simp (maxSteps := 1000000) [↓Bool.cond_eq_ite, -Prod.forall, -Prod.exists, -Prod.mk.injEq, jvk, tX12_arrears, jtb, jol, jst, jlk, jcmp, jbin, jfl, fX12, jc2, lX12, jcat, jel, lv_args, Value.category, jins, jsrt, jins2, jble, jblt, jf3, List.filter_cons, List.filter_nil, G_m, jin, jup_1, tn_c]
def oX12_roomNamed : jO := joRI fun a x σ => (a = 322 ∧ mOK σ, fun v τ => v = some (.int (ff (fun k => decide (σ.1 325 k = x)) (σ.1 322 3).toNatClampNeg 0)) ∧ τ = jup σ 322 11 0)
set_option maxRecDepth 100000 in
set_option maxHeartbeats 4000000 in
theorem CX12_roomNamed (g : jG) (n : Nat) : jOk g (n + 0) mX12_roomNamed oX12_roomNamed := by
  refine joRI_ok ?_
  rintro _ x σ ⟨rfl, hok⟩
  obtain ⟨N, hN, hN1, hN2⟩ := nI_rng hok.2.1.1 hok.2.1.2 (by decide)
  refine jCon.ofP (by decide +kernel) (by simp [lg_sl, Value.category]) (fun post hp => ?_)
  refine jvk_ok TX12_roomNamed (V := []) (S := []) (fun _ h => absurd h List.not_mem_nil) (fun _ h => absurd h List.not_mem_nil) [7] 30 _ _ _ _ ?_
  simp (maxSteps := 1000000) [↓Bool.cond_eq_ite, -Prod.forall, -Prod.exists, -Prod.mk.injEq, jvk, tX12_roomNamed, jtb, jol, jst, jlk, jcmp, jbin, jfl, fX12, jc2, lX12, jcat, jel, lv_args, Value.category, jins, jsrt, jins2, jble, jblt, jf3, List.filter_cons, List.filter_nil, G_m]
  have key := jloop (P := fun k => ff (fun k => decide (σ.1 325 k = x)) (N - k) k = ff (fun k => decide (σ.1 325 k = x)) N 0 → jW g mX12_roomNamed n post 7 [(0, .ref 322), (1, .int x), (2, .int (nI k))] [] (jup σ 322 11 0)) (N := N) (fun e => by
    rw [Nat.sub_self] at e
    refine jvk_ok TX12_roomNamed (V := []) (S := []) (fun _ h => absurd h List.not_mem_nil) (fun _ h => absurd h List.not_mem_nil) [7] 30 _ _ _ _ ?_
    simp (maxSteps := 1000000) [↓Bool.cond_eq_ite, -Prod.forall, -Prod.exists, -Prod.mk.injEq, jvk, tX12_roomNamed, jtb, jol, jst, jlk, jcmp, jbin, jfl, fX12, jc2, lX12, jcat, jel, lv_args, Value.category, jins, jsrt, jins2, jble, jblt, jf3, List.filter_cons, List.filter_nil, G_m, nI_1, hN1, jup_1, mD_th, mP_th, mR_th, mN_th, mLiv_th]
    try simp (disch := omega) [nI_1, nI_clamp, nI_leI, nI_ltI, nI_eq, nI_m1, NL_0, NL_1, NL_2, NL_3, NL_5, NL_6, NL_9, NL_10, NL_11, NL_12, NL_20, NL_24, NL_25, NL_60, NL_64, NL_90, NL_100, NL_120, NL_900, NL_999, NL_9999, NL_99999, NL_1000000, NL_208, NL_2080, NL_10000, hN1, jup_1, mD_th, mP_th, mR_th, mN_th, mLiv_th]
    exact hp _ _ ⟨by rw [hN2, ← e]; rfl, rfl⟩) (fun k hk ih e => by
    rw [show N - k = (N - (k + 1)) + 1 by omega] at e
    simp only [ff, decide_eq_true_eq] at e
    refine jvk_ok TX12_roomNamed (V := []) (S := []) (fun _ h => absurd h List.not_mem_nil) (fun _ h => absurd h List.not_mem_nil) [7] 30 _ _ _ _ ?_
    simp (maxSteps := 1000000) [↓Bool.cond_eq_ite, -Prod.forall, -Prod.exists, -Prod.mk.injEq, jvk, tX12_roomNamed, jtb, jol, jst, jlk, jcmp, jbin, jfl, fX12, jc2, lX12, jcat, jel, lv_args, Value.category, jins, jsrt, jins2, jble, jblt, jf3, List.filter_cons, List.filter_nil, G_m, nI_1, hN1, jup_1, mD_th, mP_th, mR_th, mN_th, mLiv_th]
    try simp (disch := omega) [nI_1, nI_clamp, nI_leI, nI_ltI, nI_eq, nI_m1, NL_0, NL_1, NL_2, NL_3, NL_5, NL_6, NL_9, NL_10, NL_11, NL_12, NL_20, NL_24, NL_25, NL_60, NL_64, NL_90, NL_100, NL_120, NL_900, NL_999, NL_9999, NL_99999, NL_1000000, NL_208, NL_2080, NL_10000, hN1, jup_1, mD_th, mP_th, mR_th, mN_th, mLiv_th]
    refine ⟨fun h => by omega, fun _ => ⟨jin_nI (by omega) (by omega), fun h => ?_, fun h => ?_⟩⟩
    · rw [if_neg h] at e
      exact ih e
    · rw [if_pos h] at e
      exact hp _ _ ⟨by rw [hN2, ← e], rfl⟩)
  simpa [nI_0] using key rfl
def oX12_personNamed : jO := joRI fun a x σ => (a = 322 ∧ mOK σ, fun v τ => v = some (.int (ff (fun k => decide (σ.1 326 k = x)) (σ.1 322 4).toNatClampNeg 0)) ∧ τ = jup σ 322 11 0)
set_option maxRecDepth 100000 in
set_option maxHeartbeats 4000000 in
theorem CX12_personNamed (g : jG) (n : Nat) : jOk g (n + 0) mX12_personNamed oX12_personNamed := by
  refine joRI_ok ?_
  rintro _ x σ ⟨rfl, hok⟩
  obtain ⟨N, hN, hN1, hN2⟩ := nI_rng hok.1.1 hok.1.2 (by decide)
  refine jCon.ofP (by decide +kernel) (by simp [lg_sl, Value.category]) (fun post hp => ?_)
  refine jvk_ok TX12_personNamed (V := []) (S := []) (fun _ h => absurd h List.not_mem_nil) (fun _ h => absurd h List.not_mem_nil) [7] 30 _ _ _ _ ?_
  simp (maxSteps := 1000000) [↓Bool.cond_eq_ite, -Prod.forall, -Prod.exists, -Prod.mk.injEq, jvk, tX12_personNamed, jtb, jol, jst, jlk, jcmp, jbin, jfl, fX12, jc2, lX12, jcat, jel, lv_args, Value.category, jins, jsrt, jins2, jble, jblt, jf3, List.filter_cons, List.filter_nil, G_m]
  have key := jloop (P := fun k => ff (fun k => decide (σ.1 326 k = x)) (N - k) k = ff (fun k => decide (σ.1 326 k = x)) N 0 → jW g mX12_personNamed n post 7 [(0, .ref 322), (1, .int x), (2, .int (nI k))] [] (jup σ 322 11 0)) (N := N) (fun e => by
    rw [Nat.sub_self] at e
    refine jvk_ok TX12_personNamed (V := []) (S := []) (fun _ h => absurd h List.not_mem_nil) (fun _ h => absurd h List.not_mem_nil) [7] 30 _ _ _ _ ?_
    simp (maxSteps := 1000000) [↓Bool.cond_eq_ite, -Prod.forall, -Prod.exists, -Prod.mk.injEq, jvk, tX12_personNamed, jtb, jol, jst, jlk, jcmp, jbin, jfl, fX12, jc2, lX12, jcat, jel, lv_args, Value.category, jins, jsrt, jins2, jble, jblt, jf3, List.filter_cons, List.filter_nil, G_m, nI_1, hN1, jup_1, mD_th, mP_th, mR_th, mN_th, mLiv_th]
    try simp (disch := omega) [nI_1, nI_clamp, nI_leI, nI_ltI, nI_eq, nI_m1, NL_0, NL_1, NL_2, NL_3, NL_5, NL_6, NL_9, NL_10, NL_11, NL_12, NL_20, NL_24, NL_25, NL_60, NL_64, NL_90, NL_100, NL_120, NL_900, NL_999, NL_9999, NL_99999, NL_1000000, NL_208, NL_2080, NL_10000, hN1, jup_1, mD_th, mP_th, mR_th, mN_th, mLiv_th]
    exact hp _ _ ⟨by rw [hN2, ← e]; rfl, rfl⟩) (fun k hk ih e => by
    rw [show N - k = (N - (k + 1)) + 1 by omega] at e
    simp only [ff, decide_eq_true_eq] at e
    refine jvk_ok TX12_personNamed (V := []) (S := []) (fun _ h => absurd h List.not_mem_nil) (fun _ h => absurd h List.not_mem_nil) [7] 30 _ _ _ _ ?_
    simp (maxSteps := 1000000) [↓Bool.cond_eq_ite, -Prod.forall, -Prod.exists, -Prod.mk.injEq, jvk, tX12_personNamed, jtb, jol, jst, jlk, jcmp, jbin, jfl, fX12, jc2, lX12, jcat, jel, lv_args, Value.category, jins, jsrt, jins2, jble, jblt, jf3, List.filter_cons, List.filter_nil, G_m, nI_1, hN1, jup_1, mD_th, mP_th, mR_th, mN_th, mLiv_th]
    try simp (disch := omega) [nI_1, nI_clamp, nI_leI, nI_ltI, nI_eq, nI_m1, NL_0, NL_1, NL_2, NL_3, NL_5, NL_6, NL_9, NL_10, NL_11, NL_12, NL_20, NL_24, NL_25, NL_60, NL_64, NL_90, NL_100, NL_120, NL_900, NL_999, NL_9999, NL_99999, NL_1000000, NL_208, NL_2080, NL_10000, hN1, jup_1, mD_th, mP_th, mR_th, mN_th, mLiv_th]
    refine ⟨fun h => by omega, fun _ => ⟨jin_nI (by omega) (by omega), fun h => ?_, fun h => ?_⟩⟩
    · rw [if_neg h] at e
      exact ih e
    · rw [if_pos h] at e
      exact hp _ _ ⟨by rw [hN2, ← e], rfl⟩)
  simpa [nI_0] using key rfl
def oX12_getSetting : jO := joRI fun a x σ => (a = 322, fun v τ => v = some (.int (if mIn x 0 2 then σ.1 323 x.toNatClampNeg else -2)) ∧ τ = jup σ 322 11 0)
set_option maxRecDepth 100000 in
set_option maxHeartbeats 4000000 in
theorem CX12_getSetting (g : jG) (n : Nat) : jOk g (n + 1) mX12_getSetting oX12_getSetting := by
  refine joRI_ok ?_
  rintro _ x σ rfl
  refine jCon.ofF (by decide +kernel) (by simp [lg_sl, Value.category]) ?_
  refine jvk_ok TX12_getSetting (V := []) (S := [(117, 3, 0, oX12_inRange)]) (fun _ h => absurd h List.not_mem_nil) (List.forall_mem_cons.mpr ⟨⟨mX12_inRange, n + 0, by omega, Or.inl kX12_117, WX12_inRange, CX12_inRange g (n)⟩, (fun _ h => absurd h List.not_mem_nil)⟩) [] 30 _ _ _ _ ?_
  simp (maxSteps := 1000000) [↓Bool.cond_eq_ite, -Prod.forall, -Prod.exists, -Prod.mk.injEq, jvk, tX12_getSetting, jtb, jol, jst, jlk, jcmp, jbin, jfl, fX12, jc2, lX12, jcat, jel, lv_args, Value.category, jins, jsrt, jins2, jble, jblt, jf3, List.filter_cons, List.filter_nil, G_m, oX12_inRange, joIII, jup_1]
  refine ⟨fun h => by grind, fun h => ⟨?_, by grind⟩⟩
  simp only [mIn, decide_eq_true_eq] at h
  exact jin_of (m := 3) h.1 (by grind) rfl |> fun q => jin_le q (by decide)
def oX12_stateOf : jO := joRI fun a x σ => (a = 322 ∧ mOK σ, fun v τ => v = some (.int (if mP σ x then mD σ x.toNatClampNeg 0 else 0)) ∧ τ = jup σ 322 11 (if mP σ x then 0 else 1))
set_option maxRecDepth 100000 in
set_option maxHeartbeats 4000000 in
theorem CX12_stateOf (g : jG) (n : Nat) : jOk g (n + 2) mX12_stateOf oX12_stateOf := by
  refine joRI_ok ?_
  rintro _ x σ ⟨rfl, hok⟩
  by_cases h : mP σ x = true
  · refine jCon.ofF (by decide +kernel) (by simp [lg_sl, Value.category]) ?_
    refine jvk_ok TX12_stateOf (V := [(135, 2, 12, oX12_isPerson), (138, 2, 12, oX12_fails), (128, 3, 12, oX12_of)]) (S := []) (List.forall_mem_cons.mpr ⟨⟨mX12_isPerson, n + 1, 1, TX12, 53, rfl, by omega, kX12_135, WX12_isPerson, rfl, CX12_isPerson g (n)⟩, (List.forall_mem_cons.mpr ⟨⟨mX12_fails, n + 0, 1, TX12, 53, rfl, by omega, kX12_138, WX12_fails, rfl, CX12_fails g (n)⟩, (List.forall_mem_cons.mpr ⟨⟨mX12_of, n + 1, 2, TX12, 53, rfl, by omega, kX12_128, WX12_of, rfl, CX12_of g (n)⟩, (fun _ h => absurd h List.not_mem_nil)⟩)⟩)⟩) (fun _ h => absurd h List.not_mem_nil) [] 30 _ _ _ _ ?_
    simp (maxSteps := 1000000) [↓Bool.cond_eq_ite, -Prod.forall, -Prod.exists, -Prod.mk.injEq, jvk, tX12_stateOf, jtb, jol, jst, jlk, jcmp, jbin, jfl, fX12, jc2, lX12, jcat, jel, lv_args, Value.category, jins, jsrt, jins2, jble, jblt, jf3, List.filter_cons, List.filter_nil, G_m, oX12_isPerson, oX12_fails, oX12_of, joRI, joRII, h, jin_c, tn_c, (mP_jin hok h).2, jup_1, mD_th, mP_th, mR_th, mN_th, mLiv_th]
  · refine jCon.ofF (by decide +kernel) (by simp [lg_sl, Value.category]) ?_
    refine jvk_ok TX12_stateOf (V := [(135, 2, 12, oX12_isPerson), (138, 2, 12, oX12_fails), (128, 3, 12, oX12_of)]) (S := []) (List.forall_mem_cons.mpr ⟨⟨mX12_isPerson, n + 1, 1, TX12, 53, rfl, by omega, kX12_135, WX12_isPerson, rfl, CX12_isPerson g (n)⟩, (List.forall_mem_cons.mpr ⟨⟨mX12_fails, n + 0, 1, TX12, 53, rfl, by omega, kX12_138, WX12_fails, rfl, CX12_fails g (n)⟩, (List.forall_mem_cons.mpr ⟨⟨mX12_of, n + 1, 2, TX12, 53, rfl, by omega, kX12_128, WX12_of, rfl, CX12_of g (n)⟩, (fun _ h => absurd h List.not_mem_nil)⟩)⟩)⟩) (fun _ h => absurd h List.not_mem_nil) [] 30 _ _ _ _ ?_
    simp (maxSteps := 1000000) [↓Bool.cond_eq_ite, -Prod.forall, -Prod.exists, -Prod.mk.injEq, jvk, tX12_stateOf, jtb, jol, jst, jlk, jcmp, jbin, jfl, fX12, jc2, lX12, jcat, jel, lv_args, Value.category, jins, jsrt, jins2, jble, jblt, jf3, List.filter_cons, List.filter_nil, G_m, oX12_isPerson, oX12_fails, oX12_of, joRI, joRII, h, jup_1, mD_th, mP_th, mR_th, mN_th, mLiv_th]
def oX12_incomeOf : jO := joRI fun a x σ => (a = 322 ∧ mOK σ, fun v τ => v = some (.int (if mP σ x then mD σ x.toNatClampNeg 1 else 0)) ∧ τ = jup σ 322 11 (if mP σ x then 0 else 1))
set_option maxRecDepth 100000 in
set_option maxHeartbeats 4000000 in
theorem CX12_incomeOf (g : jG) (n : Nat) : jOk g (n + 2) mX12_incomeOf oX12_incomeOf := by
  refine joRI_ok ?_
  rintro _ x σ ⟨rfl, hok⟩
  by_cases h : mP σ x = true
  · refine jCon.ofF (by decide +kernel) (by simp [lg_sl, Value.category]) ?_
    refine jvk_ok TX12_incomeOf (V := [(135, 2, 12, oX12_isPerson), (138, 2, 12, oX12_fails), (128, 3, 12, oX12_of)]) (S := []) (List.forall_mem_cons.mpr ⟨⟨mX12_isPerson, n + 1, 1, TX12, 53, rfl, by omega, kX12_135, WX12_isPerson, rfl, CX12_isPerson g (n)⟩, (List.forall_mem_cons.mpr ⟨⟨mX12_fails, n + 0, 1, TX12, 53, rfl, by omega, kX12_138, WX12_fails, rfl, CX12_fails g (n)⟩, (List.forall_mem_cons.mpr ⟨⟨mX12_of, n + 1, 2, TX12, 53, rfl, by omega, kX12_128, WX12_of, rfl, CX12_of g (n)⟩, (fun _ h => absurd h List.not_mem_nil)⟩)⟩)⟩) (fun _ h => absurd h List.not_mem_nil) [] 30 _ _ _ _ ?_
    simp (maxSteps := 1000000) [↓Bool.cond_eq_ite, -Prod.forall, -Prod.exists, -Prod.mk.injEq, jvk, tX12_incomeOf, jtb, jol, jst, jlk, jcmp, jbin, jfl, fX12, jc2, lX12, jcat, jel, lv_args, Value.category, jins, jsrt, jins2, jble, jblt, jf3, List.filter_cons, List.filter_nil, G_m, oX12_isPerson, oX12_fails, oX12_of, joRI, joRII, h, jin_c, tn_c, (mP_jin hok h).2, jup_1, mD_th, mP_th, mR_th, mN_th, mLiv_th]
  · refine jCon.ofF (by decide +kernel) (by simp [lg_sl, Value.category]) ?_
    refine jvk_ok TX12_incomeOf (V := [(135, 2, 12, oX12_isPerson), (138, 2, 12, oX12_fails), (128, 3, 12, oX12_of)]) (S := []) (List.forall_mem_cons.mpr ⟨⟨mX12_isPerson, n + 1, 1, TX12, 53, rfl, by omega, kX12_135, WX12_isPerson, rfl, CX12_isPerson g (n)⟩, (List.forall_mem_cons.mpr ⟨⟨mX12_fails, n + 0, 1, TX12, 53, rfl, by omega, kX12_138, WX12_fails, rfl, CX12_fails g (n)⟩, (List.forall_mem_cons.mpr ⟨⟨mX12_of, n + 1, 2, TX12, 53, rfl, by omega, kX12_128, WX12_of, rfl, CX12_of g (n)⟩, (fun _ h => absurd h List.not_mem_nil)⟩)⟩)⟩) (fun _ h => absurd h List.not_mem_nil) [] 30 _ _ _ _ ?_
    simp (maxSteps := 1000000) [↓Bool.cond_eq_ite, -Prod.forall, -Prod.exists, -Prod.mk.injEq, jvk, tX12_incomeOf, jtb, jol, jst, jlk, jcmp, jbin, jfl, fX12, jc2, lX12, jcat, jel, lv_args, Value.category, jins, jsrt, jins2, jble, jblt, jf3, List.filter_cons, List.filter_nil, G_m, oX12_isPerson, oX12_fails, oX12_of, joRI, joRII, h, jup_1, mD_th, mP_th, mR_th, mN_th, mLiv_th]
def oX12_roomOf : jO := joRI fun a x σ => (a = 322 ∧ mOK σ, fun v τ => v = some (.int (if mP σ x then mD σ x.toNatClampNeg 2 else 0)) ∧ τ = jup σ 322 11 (if mP σ x then 0 else 1))
set_option maxRecDepth 100000 in
set_option maxHeartbeats 4000000 in
theorem CX12_roomOf (g : jG) (n : Nat) : jOk g (n + 2) mX12_roomOf oX12_roomOf := by
  refine joRI_ok ?_
  rintro _ x σ ⟨rfl, hok⟩
  by_cases h : mP σ x = true
  · refine jCon.ofF (by decide +kernel) (by simp [lg_sl, Value.category]) ?_
    refine jvk_ok TX12_roomOf (V := [(135, 2, 12, oX12_isPerson), (138, 2, 12, oX12_fails), (128, 3, 12, oX12_of)]) (S := []) (List.forall_mem_cons.mpr ⟨⟨mX12_isPerson, n + 1, 1, TX12, 53, rfl, by omega, kX12_135, WX12_isPerson, rfl, CX12_isPerson g (n)⟩, (List.forall_mem_cons.mpr ⟨⟨mX12_fails, n + 0, 1, TX12, 53, rfl, by omega, kX12_138, WX12_fails, rfl, CX12_fails g (n)⟩, (List.forall_mem_cons.mpr ⟨⟨mX12_of, n + 1, 2, TX12, 53, rfl, by omega, kX12_128, WX12_of, rfl, CX12_of g (n)⟩, (fun _ h => absurd h List.not_mem_nil)⟩)⟩)⟩) (fun _ h => absurd h List.not_mem_nil) [] 30 _ _ _ _ ?_
    simp (maxSteps := 1000000) [↓Bool.cond_eq_ite, -Prod.forall, -Prod.exists, -Prod.mk.injEq, jvk, tX12_roomOf, jtb, jol, jst, jlk, jcmp, jbin, jfl, fX12, jc2, lX12, jcat, jel, lv_args, Value.category, jins, jsrt, jins2, jble, jblt, jf3, List.filter_cons, List.filter_nil, G_m, oX12_isPerson, oX12_fails, oX12_of, joRI, joRII, h, jin_c, tn_c, (mP_jin hok h).2, jup_1, mD_th, mP_th, mR_th, mN_th, mLiv_th]
  · refine jCon.ofF (by decide +kernel) (by simp [lg_sl, Value.category]) ?_
    refine jvk_ok TX12_roomOf (V := [(135, 2, 12, oX12_isPerson), (138, 2, 12, oX12_fails), (128, 3, 12, oX12_of)]) (S := []) (List.forall_mem_cons.mpr ⟨⟨mX12_isPerson, n + 1, 1, TX12, 53, rfl, by omega, kX12_135, WX12_isPerson, rfl, CX12_isPerson g (n)⟩, (List.forall_mem_cons.mpr ⟨⟨mX12_fails, n + 0, 1, TX12, 53, rfl, by omega, kX12_138, WX12_fails, rfl, CX12_fails g (n)⟩, (List.forall_mem_cons.mpr ⟨⟨mX12_of, n + 1, 2, TX12, 53, rfl, by omega, kX12_128, WX12_of, rfl, CX12_of g (n)⟩, (fun _ h => absurd h List.not_mem_nil)⟩)⟩)⟩) (fun _ h => absurd h List.not_mem_nil) [] 30 _ _ _ _ ?_
    simp (maxSteps := 1000000) [↓Bool.cond_eq_ite, -Prod.forall, -Prod.exists, -Prod.mk.injEq, jvk, tX12_roomOf, jtb, jol, jst, jlk, jcmp, jbin, jfl, fX12, jc2, lX12, jcat, jel, lv_args, Value.category, jins, jsrt, jins2, jble, jblt, jf3, List.filter_cons, List.filter_nil, G_m, oX12_isPerson, oX12_fails, oX12_of, joRI, joRII, h, jup_1, mD_th, mP_th, mR_th, mN_th, mLiv_th]
def oX12_payment : jO := joRI fun a x σ => (a = 322 ∧ mOK σ, fun v τ => v = some (.int (if mP σ x then mD σ x.toNatClampNeg 3 else 0)) ∧ τ = jup σ 322 11 (if mP σ x then 0 else 1))
set_option maxRecDepth 100000 in
set_option maxHeartbeats 4000000 in
theorem CX12_payment (g : jG) (n : Nat) : jOk g (n + 2) mX12_payment oX12_payment := by
  refine joRI_ok ?_
  rintro _ x σ ⟨rfl, hok⟩
  by_cases h : mP σ x = true
  · refine jCon.ofF (by decide +kernel) (by simp [lg_sl, Value.category]) ?_
    refine jvk_ok TX12_payment (V := [(135, 2, 12, oX12_isPerson), (138, 2, 12, oX12_fails), (128, 3, 12, oX12_of)]) (S := []) (List.forall_mem_cons.mpr ⟨⟨mX12_isPerson, n + 1, 1, TX12, 53, rfl, by omega, kX12_135, WX12_isPerson, rfl, CX12_isPerson g (n)⟩, (List.forall_mem_cons.mpr ⟨⟨mX12_fails, n + 0, 1, TX12, 53, rfl, by omega, kX12_138, WX12_fails, rfl, CX12_fails g (n)⟩, (List.forall_mem_cons.mpr ⟨⟨mX12_of, n + 1, 2, TX12, 53, rfl, by omega, kX12_128, WX12_of, rfl, CX12_of g (n)⟩, (fun _ h => absurd h List.not_mem_nil)⟩)⟩)⟩) (fun _ h => absurd h List.not_mem_nil) [] 30 _ _ _ _ ?_
    simp (maxSteps := 1000000) [↓Bool.cond_eq_ite, -Prod.forall, -Prod.exists, -Prod.mk.injEq, jvk, tX12_payment, jtb, jol, jst, jlk, jcmp, jbin, jfl, fX12, jc2, lX12, jcat, jel, lv_args, Value.category, jins, jsrt, jins2, jble, jblt, jf3, List.filter_cons, List.filter_nil, G_m, oX12_isPerson, oX12_fails, oX12_of, joRI, joRII, h, jin_c, tn_c, (mP_jin hok h).2, jup_1, mD_th, mP_th, mR_th, mN_th, mLiv_th]
  · refine jCon.ofF (by decide +kernel) (by simp [lg_sl, Value.category]) ?_
    refine jvk_ok TX12_payment (V := [(135, 2, 12, oX12_isPerson), (138, 2, 12, oX12_fails), (128, 3, 12, oX12_of)]) (S := []) (List.forall_mem_cons.mpr ⟨⟨mX12_isPerson, n + 1, 1, TX12, 53, rfl, by omega, kX12_135, WX12_isPerson, rfl, CX12_isPerson g (n)⟩, (List.forall_mem_cons.mpr ⟨⟨mX12_fails, n + 0, 1, TX12, 53, rfl, by omega, kX12_138, WX12_fails, rfl, CX12_fails g (n)⟩, (List.forall_mem_cons.mpr ⟨⟨mX12_of, n + 1, 2, TX12, 53, rfl, by omega, kX12_128, WX12_of, rfl, CX12_of g (n)⟩, (fun _ h => absurd h List.not_mem_nil)⟩)⟩)⟩) (fun _ h => absurd h List.not_mem_nil) [] 30 _ _ _ _ ?_
    simp (maxSteps := 1000000) [↓Bool.cond_eq_ite, -Prod.forall, -Prod.exists, -Prod.mk.injEq, jvk, tX12_payment, jtb, jol, jst, jlk, jcmp, jbin, jfl, fX12, jc2, lX12, jcat, jel, lv_args, Value.category, jins, jsrt, jins2, jble, jblt, jf3, List.filter_cons, List.filter_nil, G_m, oX12_isPerson, oX12_fails, oX12_of, joRI, joRII, h, jup_1, mD_th, mP_th, mR_th, mN_th, mLiv_th]
def oX12_valueOf : jO := joRII fun a x y σ => (a = 322 ∧ mOK σ, fun v τ => v = some (.int (if mP σ x ∧ mR σ y then mD σ x.toNatClampNeg (7 + y.toNatClampNeg) else 0)) ∧ τ = jup σ 322 11 (if mP σ x ∧ mR σ y then 0 else 1))
set_option maxRecDepth 100000 in
set_option maxHeartbeats 4000000 in
theorem CX12_valueOf (g : jG) (n : Nat) : jOk g (n + 3) mX12_valueOf oX12_valueOf := by
  refine joRII_ok ?_
  rintro _ x y σ ⟨rfl, hok⟩
  by_cases h : mP σ x = true
  · by_cases h2 : mR σ y = true
    · refine jCon.ofF (by decide +kernel) (by simp [lg_sl, Value.category]) ?_
      refine jvk_ok TX12_valueOf (V := [(135, 2, 12, oX12_isPerson), (142, 2, 12, oX12_isRoom), (138, 2, 12, oX12_fails), (145, 3, 12, oX12_value)]) (S := []) (List.forall_mem_cons.mpr ⟨⟨mX12_isPerson, n + 1, 1, TX12, 53, rfl, by omega, kX12_135, WX12_isPerson, rfl, CX12_isPerson g (n)⟩, (List.forall_mem_cons.mpr ⟨⟨mX12_isRoom, n + 1, 1, TX12, 53, rfl, by omega, kX12_142, WX12_isRoom, rfl, CX12_isRoom g (n)⟩, (List.forall_mem_cons.mpr ⟨⟨mX12_fails, n + 0, 1, TX12, 53, rfl, by omega, kX12_138, WX12_fails, rfl, CX12_fails g (n)⟩, (List.forall_mem_cons.mpr ⟨⟨mX12_value, n + 2, 2, TX12, 53, rfl, by omega, kX12_145, WX12_value, rfl, CX12_value g (n)⟩, (fun _ h => absurd h List.not_mem_nil)⟩)⟩)⟩)⟩) (fun _ h => absurd h List.not_mem_nil) [] 40 _ _ _ _ ?_
      simp (maxSteps := 1000000) [↓Bool.cond_eq_ite, -Prod.forall, -Prod.exists, -Prod.mk.injEq, jvk, tX12_valueOf, jtb, jol, jst, jlk, jcmp, jbin, jfl, fX12, jc2, lX12, jcat, jel, lv_args, Value.category, jins, jsrt, jins2, jble, jblt, jf3, List.filter_cons, List.filter_nil, G_m, oX12_isPerson, oX12_isRoom, oX12_fails, oX12_value, joRI, joRII, h, h2, (mP_jin hok h).2, (mR_jin hok h2).2, jup_1, mD_th, mP_th, mR_th, mN_th, mLiv_th]
    · refine jCon.ofF (by decide +kernel) (by simp [lg_sl, Value.category]) ?_
      refine jvk_ok TX12_valueOf (V := [(135, 2, 12, oX12_isPerson), (142, 2, 12, oX12_isRoom), (138, 2, 12, oX12_fails), (145, 3, 12, oX12_value)]) (S := []) (List.forall_mem_cons.mpr ⟨⟨mX12_isPerson, n + 1, 1, TX12, 53, rfl, by omega, kX12_135, WX12_isPerson, rfl, CX12_isPerson g (n)⟩, (List.forall_mem_cons.mpr ⟨⟨mX12_isRoom, n + 1, 1, TX12, 53, rfl, by omega, kX12_142, WX12_isRoom, rfl, CX12_isRoom g (n)⟩, (List.forall_mem_cons.mpr ⟨⟨mX12_fails, n + 0, 1, TX12, 53, rfl, by omega, kX12_138, WX12_fails, rfl, CX12_fails g (n)⟩, (List.forall_mem_cons.mpr ⟨⟨mX12_value, n + 2, 2, TX12, 53, rfl, by omega, kX12_145, WX12_value, rfl, CX12_value g (n)⟩, (fun _ h => absurd h List.not_mem_nil)⟩)⟩)⟩)⟩) (fun _ h => absurd h List.not_mem_nil) [] 40 _ _ _ _ ?_
      simp (maxSteps := 1000000) [↓Bool.cond_eq_ite, -Prod.forall, -Prod.exists, -Prod.mk.injEq, jvk, tX12_valueOf, jtb, jol, jst, jlk, jcmp, jbin, jfl, fX12, jc2, lX12, jcat, jel, lv_args, Value.category, jins, jsrt, jins2, jble, jblt, jf3, List.filter_cons, List.filter_nil, G_m, oX12_isPerson, oX12_isRoom, oX12_fails, oX12_value, joRI, joRII, h, h2, jup_1, mD_th, mP_th, mR_th, mN_th, mLiv_th]
  · refine jCon.ofF (by decide +kernel) (by simp [lg_sl, Value.category]) ?_
    refine jvk_ok TX12_valueOf (V := [(135, 2, 12, oX12_isPerson), (142, 2, 12, oX12_isRoom), (138, 2, 12, oX12_fails), (145, 3, 12, oX12_value)]) (S := []) (List.forall_mem_cons.mpr ⟨⟨mX12_isPerson, n + 1, 1, TX12, 53, rfl, by omega, kX12_135, WX12_isPerson, rfl, CX12_isPerson g (n)⟩, (List.forall_mem_cons.mpr ⟨⟨mX12_isRoom, n + 1, 1, TX12, 53, rfl, by omega, kX12_142, WX12_isRoom, rfl, CX12_isRoom g (n)⟩, (List.forall_mem_cons.mpr ⟨⟨mX12_fails, n + 0, 1, TX12, 53, rfl, by omega, kX12_138, WX12_fails, rfl, CX12_fails g (n)⟩, (List.forall_mem_cons.mpr ⟨⟨mX12_value, n + 2, 2, TX12, 53, rfl, by omega, kX12_145, WX12_value, rfl, CX12_value g (n)⟩, (fun _ h => absurd h List.not_mem_nil)⟩)⟩)⟩)⟩) (fun _ h => absurd h List.not_mem_nil) [] 40 _ _ _ _ ?_
    simp (maxSteps := 1000000) [↓Bool.cond_eq_ite, -Prod.forall, -Prod.exists, -Prod.mk.injEq, jvk, tX12_valueOf, jtb, jol, jst, jlk, jcmp, jbin, jfl, fX12, jc2, lX12, jcat, jel, lv_args, Value.category, jins, jsrt, jins2, jble, jblt, jf3, List.filter_cons, List.filter_nil, G_m, oX12_isPerson, oX12_isRoom, oX12_fails, oX12_value, joRI, joRII, h, jup_1, mD_th, mP_th, mR_th, mN_th, mLiv_th]
def oX12_refuses : jO := joRII fun a x y σ => (a = 322 ∧ mOK σ, fun v τ => v = some (.int (if mP σ x ∧ mR σ y ∧ mD σ x.toNatClampNeg (13 + y.toNatClampNeg) = 1 then 1 else 0)) ∧ τ = jup σ 322 11 (if mP σ x ∧ mR σ y then 0 else 1))
set_option maxRecDepth 100000 in
set_option maxHeartbeats 4000000 in
theorem CX12_refuses (g : jG) (n : Nat) : jOk g (n + 3) mX12_refuses oX12_refuses := by
  refine joRII_ok ?_
  rintro _ x y σ ⟨rfl, hok⟩
  by_cases h : mP σ x = true
  · by_cases h2 : mR σ y = true
    · refine jCon.ofF (by decide +kernel) (by simp [lg_sl, Value.category]) ?_
      refine jvk_ok TX12_refuses (V := [(135, 2, 12, oX12_isPerson), (142, 2, 12, oX12_isRoom), (138, 2, 12, oX12_fails), (148, 3, 12, oX12_isRefused)]) (S := []) (List.forall_mem_cons.mpr ⟨⟨mX12_isPerson, n + 1, 1, TX12, 53, rfl, by omega, kX12_135, WX12_isPerson, rfl, CX12_isPerson g (n)⟩, (List.forall_mem_cons.mpr ⟨⟨mX12_isRoom, n + 1, 1, TX12, 53, rfl, by omega, kX12_142, WX12_isRoom, rfl, CX12_isRoom g (n)⟩, (List.forall_mem_cons.mpr ⟨⟨mX12_fails, n + 0, 1, TX12, 53, rfl, by omega, kX12_138, WX12_fails, rfl, CX12_fails g (n)⟩, (List.forall_mem_cons.mpr ⟨⟨mX12_isRefused, n + 2, 2, TX12, 53, rfl, by omega, kX12_148, WX12_isRefused, rfl, CX12_isRefused g (n)⟩, (fun _ h => absurd h List.not_mem_nil)⟩)⟩)⟩)⟩) (fun _ h => absurd h List.not_mem_nil) [] 40 _ _ _ _ ?_
      simp (maxSteps := 1000000) [↓Bool.cond_eq_ite, -Prod.forall, -Prod.exists, -Prod.mk.injEq, jvk, tX12_refuses, jtb, jol, jst, jlk, jcmp, jbin, jfl, fX12, jc2, lX12, jcat, jel, lv_args, Value.category, jins, jsrt, jins2, jble, jblt, jf3, List.filter_cons, List.filter_nil, G_m, oX12_isPerson, oX12_isRoom, oX12_fails, oX12_isRefused, joRI, joRII, h, h2, (mP_jin hok h).2, (mR_jin hok h2).2, jup_1, mD_th, mP_th, mR_th, mN_th, mLiv_th]
    · refine jCon.ofF (by decide +kernel) (by simp [lg_sl, Value.category]) ?_
      refine jvk_ok TX12_refuses (V := [(135, 2, 12, oX12_isPerson), (142, 2, 12, oX12_isRoom), (138, 2, 12, oX12_fails), (148, 3, 12, oX12_isRefused)]) (S := []) (List.forall_mem_cons.mpr ⟨⟨mX12_isPerson, n + 1, 1, TX12, 53, rfl, by omega, kX12_135, WX12_isPerson, rfl, CX12_isPerson g (n)⟩, (List.forall_mem_cons.mpr ⟨⟨mX12_isRoom, n + 1, 1, TX12, 53, rfl, by omega, kX12_142, WX12_isRoom, rfl, CX12_isRoom g (n)⟩, (List.forall_mem_cons.mpr ⟨⟨mX12_fails, n + 0, 1, TX12, 53, rfl, by omega, kX12_138, WX12_fails, rfl, CX12_fails g (n)⟩, (List.forall_mem_cons.mpr ⟨⟨mX12_isRefused, n + 2, 2, TX12, 53, rfl, by omega, kX12_148, WX12_isRefused, rfl, CX12_isRefused g (n)⟩, (fun _ h => absurd h List.not_mem_nil)⟩)⟩)⟩)⟩) (fun _ h => absurd h List.not_mem_nil) [] 40 _ _ _ _ ?_
      simp (maxSteps := 1000000) [↓Bool.cond_eq_ite, -Prod.forall, -Prod.exists, -Prod.mk.injEq, jvk, tX12_refuses, jtb, jol, jst, jlk, jcmp, jbin, jfl, fX12, jc2, lX12, jcat, jel, lv_args, Value.category, jins, jsrt, jins2, jble, jblt, jf3, List.filter_cons, List.filter_nil, G_m, oX12_isPerson, oX12_isRoom, oX12_fails, oX12_isRefused, joRI, joRII, h, h2, jup_1, mD_th, mP_th, mR_th, mN_th, mLiv_th]
  · refine jCon.ofF (by decide +kernel) (by simp [lg_sl, Value.category]) ?_
    refine jvk_ok TX12_refuses (V := [(135, 2, 12, oX12_isPerson), (142, 2, 12, oX12_isRoom), (138, 2, 12, oX12_fails), (148, 3, 12, oX12_isRefused)]) (S := []) (List.forall_mem_cons.mpr ⟨⟨mX12_isPerson, n + 1, 1, TX12, 53, rfl, by omega, kX12_135, WX12_isPerson, rfl, CX12_isPerson g (n)⟩, (List.forall_mem_cons.mpr ⟨⟨mX12_isRoom, n + 1, 1, TX12, 53, rfl, by omega, kX12_142, WX12_isRoom, rfl, CX12_isRoom g (n)⟩, (List.forall_mem_cons.mpr ⟨⟨mX12_fails, n + 0, 1, TX12, 53, rfl, by omega, kX12_138, WX12_fails, rfl, CX12_fails g (n)⟩, (List.forall_mem_cons.mpr ⟨⟨mX12_isRefused, n + 2, 2, TX12, 53, rfl, by omega, kX12_148, WX12_isRefused, rfl, CX12_isRefused g (n)⟩, (fun _ h => absurd h List.not_mem_nil)⟩)⟩)⟩)⟩) (fun _ h => absurd h List.not_mem_nil) [] 40 _ _ _ _ ?_
    simp (maxSteps := 1000000) [↓Bool.cond_eq_ite, -Prod.forall, -Prod.exists, -Prod.mk.injEq, jvk, tX12_refuses, jtb, jol, jst, jlk, jcmp, jbin, jfl, fX12, jc2, lX12, jcat, jel, lv_args, Value.category, jins, jsrt, jins2, jble, jblt, jf3, List.filter_cons, List.filter_nil, G_m, oX12_isPerson, oX12_isRoom, oX12_fails, oX12_isRefused, joRI, joRII, h, jup_1, mD_th, mP_th, mR_th, mN_th, mLiv_th]
def oX12_livingCount : jO := joR fun a σ => (a = 322 ∧ mOK σ, fun v τ => v = some (.int (nI (mLiv σ))) ∧ τ = jup σ 322 11 0)
set_option maxRecDepth 100000 in
set_option maxHeartbeats 4000000 in
theorem CX12_livingCount (g : jG) (n : Nat) : jOk g (n + 4) mX12_livingCount oX12_livingCount := by
  refine joR_ok ?_
  rintro _ σ ⟨rfl, hok⟩
  refine jCon.ofF (by decide +kernel) (by simp [lg_sl, Value.category]) ?_
  refine jvk_ok TX12_livingCount (V := [(152, 1, 12, oX12_living)]) (S := []) (List.forall_mem_cons.mpr ⟨⟨mX12_living, n + 3, 0, TX12, 53, rfl, by omega, kX12_152, WX12_living, rfl, CX12_living g (n)⟩, (fun _ h => absurd h List.not_mem_nil)⟩) (fun _ h => absurd h List.not_mem_nil) [] 20 _ _ _ _ ?_
  simp (maxSteps := 1000000) [↓Bool.cond_eq_ite, -Prod.forall, -Prod.exists, -Prod.mk.injEq, jvk, tX12_livingCount, jtb, jol, jst, jlk, jcmp, jbin, jfl, fX12, jc2, lX12, jcat, jel, lv_args, Value.category, jins, jsrt, jins2, jble, jblt, jf3, List.filter_cons, List.filter_nil, G_m, oX12_living, joR, mOK_th hok, jup_1, mD_th, mP_th, mR_th, mN_th, mLiv_th]
def mO (σ : jM) (k : Nat) : Bool := decide ((σ.1 323 7 >>> (nI k &&& 31)) &&& 1 = 0)
def oX12_isOpen : jO := joRI fun a x σ => (a = 322, fun v τ => v = some (.int (if (σ.1 323 7 >>> (x &&& 31)) &&& 1 = 0 then 1 else 0)) ∧ τ = σ)
set_option maxRecDepth 100000 in
set_option maxHeartbeats 4000000 in
theorem CX12_isOpen (g : jG) (n : Nat) : jOk g (n + 0) mX12_isOpen oX12_isOpen := by
  refine joRI_ok ?_
  rintro _ x σ rfl
  refine jCon.ofF (by decide +kernel) (by simp [lg_sl, Value.category]) ?_
  refine jvk_ok TX12_isOpen (V := []) (S := []) (fun _ h => absurd h List.not_mem_nil) (fun _ h => absurd h List.not_mem_nil) [] 20 _ _ _ _ ?_
  simp (maxSteps := 1000000) [↓Bool.cond_eq_ite, -Prod.forall, -Prod.exists, -Prod.mk.injEq, jvk, tX12_isOpen, jtb, jol, jst, jlk, jcmp, jbin, jfl, fX12, jc2, lX12, jcat, jel, lv_args, Value.category, jins, jsrt, jins2, jble, jblt, jf3, List.filter_cons, List.filter_nil, G_m, jin, tn_c]
def mPl (σ : jM) : Nat := (σ.1 322 5).toNatClampNeg
def oX12_openPlans : jO := joR fun a σ => (a = 322 ∧ mOK σ, fun v τ => v = some (.int (nI (cn (mO σ) (mPl σ)))) ∧ τ = σ)
set_option maxRecDepth 100000 in
set_option maxHeartbeats 4000000 in
theorem CX12_openPlans (g : jG) (n : Nat) : jOk g (n + 1) mX12_openPlans oX12_openPlans := by
  refine joR_ok ?_
  rintro _ σ ⟨rfl, hok⟩
  obtain ⟨N, hN, hN1, hN2⟩ := nI_rng hok.2.2.1 hok.2.2.2 (by decide)
  refine jCon.ofP (by decide +kernel) (by simp [lg_sl, Value.category]) (fun post hp => ?_)
  refine jvk_ok TX12_openPlans (V := [(159, 2, 12, oX12_isOpen)]) (S := []) (List.forall_mem_cons.mpr ⟨⟨mX12_isOpen, n + 0, 1, TX12, 53, rfl, by omega, kX12_159, WX12_isOpen, rfl, CX12_isOpen g (n)⟩, (fun _ h => absurd h List.not_mem_nil)⟩) (fun _ h => absurd h List.not_mem_nil) [4] 30 _ _ _ _ ?_
  simp (maxSteps := 1000000) [↓Bool.cond_eq_ite, -Prod.forall, -Prod.exists, -Prod.mk.injEq, jvk, tX12_openPlans, jtb, jol, jst, jlk, jcmp, jbin, jfl, fX12, jc2, lX12, jcat, jel, lv_args, Value.category, jins, jsrt, jins2, jble, jblt, jf3, List.filter_cons, List.filter_nil, G_m, oX12_isOpen, joRI]
  have key := jloop (P := fun k => jW g mX12_openPlans (n + 1) post 4 [(0, .ref 322), (1, .int (nI (cn (mO σ) k))), (2, .int (nI k))] [] σ) (N := N) (by
    refine jvk_ok TX12_openPlans (V := [(159, 2, 12, oX12_isOpen)]) (S := []) (List.forall_mem_cons.mpr ⟨⟨mX12_isOpen, n + 0, 1, TX12, 53, rfl, by omega, kX12_159, WX12_isOpen, rfl, CX12_isOpen g (n)⟩, (fun _ h => absurd h List.not_mem_nil)⟩) (fun _ h => absurd h List.not_mem_nil) [4] 30 _ _ _ _ ?_
    simp (maxSteps := 1000000) [↓Bool.cond_eq_ite, -Prod.forall, -Prod.exists, -Prod.mk.injEq, jvk, tX12_openPlans, jtb, jol, jst, jlk, jcmp, jbin, jfl, fX12, jc2, lX12, jcat, jel, lv_args, Value.category, jins, jsrt, jins2, jble, jblt, jf3, List.filter_cons, List.filter_nil, G_m, oX12_isOpen, joRI, nI_1, hN1]
    try simp (disch := omega) [nI_1, nI_clamp, nI_leI, nI_ltI, nI_eq, nI_m1, NL_0, NL_1, NL_2, NL_3, NL_5, NL_6, NL_9, NL_10, NL_11, NL_12, NL_20, NL_24, NL_25, NL_60, NL_64, NL_90, NL_100, NL_120, NL_900, NL_999, NL_9999, NL_99999, NL_1000000, NL_208, NL_2080, NL_10000, hN1]
    exact hp _ _ ⟨by rw [mPl, hN2], rfl⟩) (fun k hk ih => by
    have := cn_le (mO σ) k
    simp only [cn, mO, decide_eq_true_eq] at ih
    refine jvk_ok TX12_openPlans (V := [(159, 2, 12, oX12_isOpen)]) (S := []) (List.forall_mem_cons.mpr ⟨⟨mX12_isOpen, n + 0, 1, TX12, 53, rfl, by omega, kX12_159, WX12_isOpen, rfl, CX12_isOpen g (n)⟩, (fun _ h => absurd h List.not_mem_nil)⟩) (fun _ h => absurd h List.not_mem_nil) [4] 30 _ _ _ _ ?_
    simp (maxSteps := 1000000) [↓Bool.cond_eq_ite, -Prod.forall, -Prod.exists, -Prod.mk.injEq, jvk, tX12_openPlans, jtb, jol, jst, jlk, jcmp, jbin, jfl, fX12, jc2, lX12, jcat, jel, lv_args, Value.category, jins, jsrt, jins2, jble, jblt, jf3, List.filter_cons, List.filter_nil, G_m, oX12_isOpen, joRI, nI_1, hN1, nI_1]
    try simp (disch := omega) [nI_1, nI_clamp, nI_leI, nI_ltI, nI_eq, nI_m1, NL_0, NL_1, NL_2, NL_3, NL_5, NL_6, NL_9, NL_10, NL_11, NL_12, NL_20, NL_24, NL_25, NL_60, NL_64, NL_90, NL_100, NL_120, NL_900, NL_999, NL_9999, NL_99999, NL_1000000, NL_208, NL_2080, NL_10000, hN1, nI_1]
    refine ⟨fun h => by omega, fun _ => ⟨fun h => ?_, fun h => ?_⟩⟩
    · simpa [h, mO] using ih
    · simpa [h, mO] using ih)
  simpa [nI_0, cn] using key
def oX12_planCount : jO := joR fun a σ => (a = 322 ∧ mOK σ, fun v τ => v = some (.int (nI (cn (mO σ) (mPl σ)))) ∧ τ = jup σ 322 11 0)
set_option maxRecDepth 100000 in
set_option maxHeartbeats 4000000 in
theorem CX12_planCount (g : jG) (n : Nat) : jOk g (n + 2) mX12_planCount oX12_planCount := by
  refine joR_ok ?_
  rintro _ σ ⟨rfl, hok⟩
  refine jCon.ofF (by decide +kernel) (by simp [lg_sl, Value.category]) ?_
  refine jvk_ok TX12_planCount (V := [(162, 1, 12, oX12_openPlans)]) (S := []) (List.forall_mem_cons.mpr ⟨⟨mX12_openPlans, n + 1, 0, TX12, 53, rfl, by omega, kX12_162, WX12_openPlans, rfl, CX12_openPlans g (n)⟩, (fun _ h => absurd h List.not_mem_nil)⟩) (fun _ h => absurd h List.not_mem_nil) [] 20 _ _ _ _ ?_
  simp (maxSteps := 1000000) [↓Bool.cond_eq_ite, -Prod.forall, -Prod.exists, -Prod.mk.injEq, jvk, tX12_planCount, jtb, jol, jst, jlk, jcmp, jbin, jfl, fX12, jc2, lX12, jcat, jel, lv_args, Value.category, jins, jsrt, jins2, jble, jblt, jf3, List.filter_cons, List.filter_nil, G_m, oX12_openPlans, joR, mOK_th hok, jup_1, mD_th, mP_th, mR_th, mN_th, mLiv_th]
  rfl
def oX12_paid : jO := joRII fun a x w σ => (a = 322 ∧ mOK σ, fun v τ => v = some (.int (if mP σ x then (if w = 0 then mD σ x.toNatClampNeg 4 else if w = 1 then mD σ x.toNatClampNeg 5 else if w = 2 then mD σ x.toNatClampNeg 6 else -2) else 0)) ∧ τ = jup σ 322 11 (if mP σ x then 0 else 1))
set_option maxRecDepth 100000 in
set_option maxHeartbeats 4000000 in
theorem CX12_paid (g : jG) (n : Nat) : jOk g (n + 2) mX12_paid oX12_paid := by
  refine joRII_ok ?_
  rintro _ x w σ ⟨rfl, hok⟩
  by_cases h : mP σ x = true
  · refine jCon.ofF (by decide +kernel) (by simp [lg_sl, Value.category]) ?_
    refine jvk_ok TX12_paid (V := [(135, 2, 12, oX12_isPerson), (138, 2, 12, oX12_fails), (128, 3, 12, oX12_of)]) (S := []) (List.forall_mem_cons.mpr ⟨⟨mX12_isPerson, n + 1, 1, TX12, 53, rfl, by omega, kX12_135, WX12_isPerson, rfl, CX12_isPerson g (n)⟩, (List.forall_mem_cons.mpr ⟨⟨mX12_fails, n + 0, 1, TX12, 53, rfl, by omega, kX12_138, WX12_fails, rfl, CX12_fails g (n)⟩, (List.forall_mem_cons.mpr ⟨⟨mX12_of, n + 1, 2, TX12, 53, rfl, by omega, kX12_128, WX12_of, rfl, CX12_of g (n)⟩, (fun _ h => absurd h List.not_mem_nil)⟩)⟩)⟩) (fun _ h => absurd h List.not_mem_nil) [] 60 _ _ _ _ ?_
    simp (maxSteps := 1000000) [↓Bool.cond_eq_ite, -Prod.forall, -Prod.exists, -Prod.mk.injEq, jvk, tX12_paid, jtb, jol, jst, jlk, jcmp, jbin, jfl, fX12, jc2, lX12, jcat, jel, lv_args, Value.category, jins, jsrt, jins2, jble, jblt, jf3, List.filter_cons, List.filter_nil, G_m, oX12_isPerson, oX12_fails, oX12_of, joRI, joRII, h, jin_c, tn_c, (mP_jin hok h).2, jup_1, mD_th, mP_th, mR_th, mN_th, mLiv_th]
    grind
  · refine jCon.ofF (by decide +kernel) (by simp [lg_sl, Value.category]) ?_
    refine jvk_ok TX12_paid (V := [(135, 2, 12, oX12_isPerson), (138, 2, 12, oX12_fails), (128, 3, 12, oX12_of)]) (S := []) (List.forall_mem_cons.mpr ⟨⟨mX12_isPerson, n + 1, 1, TX12, 53, rfl, by omega, kX12_135, WX12_isPerson, rfl, CX12_isPerson g (n)⟩, (List.forall_mem_cons.mpr ⟨⟨mX12_fails, n + 0, 1, TX12, 53, rfl, by omega, kX12_138, WX12_fails, rfl, CX12_fails g (n)⟩, (List.forall_mem_cons.mpr ⟨⟨mX12_of, n + 1, 2, TX12, 53, rfl, by omega, kX12_128, WX12_of, rfl, CX12_of g (n)⟩, (fun _ h => absurd h List.not_mem_nil)⟩)⟩)⟩) (fun _ h => absurd h List.not_mem_nil) [] 30 _ _ _ _ ?_
    simp (maxSteps := 1000000) [↓Bool.cond_eq_ite, -Prod.forall, -Prod.exists, -Prod.mk.injEq, jvk, tX12_paid, jtb, jol, jst, jlk, jcmp, jbin, jfl, fX12, jc2, lX12, jcat, jel, lv_args, Value.category, jins, jsrt, jins2, jble, jblt, jf3, List.filter_cons, List.filter_nil, G_m, oX12_isPerson, oX12_fails, oX12_of, joRI, joRII, h, jup_1, mD_th, mP_th, mR_th, mN_th, mLiv_th]
def oX12_paymentSum : jO := joR fun a σ => (a = 322 ∧ mOK σ, fun v τ => v = some (.int (sm (fun p => mD σ p 3) (mN σ))) ∧ τ = σ)
set_option maxRecDepth 100000 in
set_option maxHeartbeats 4000000 in
theorem CX12_paymentSum (g : jG) (n : Nat) : jOk g (n + 2) mX12_paymentSum oX12_paymentSum := by
  refine joR_ok ?_
  rintro _ σ ⟨rfl, hok⟩
  obtain ⟨N, hN, hN1, hN2⟩ := nI_rng hok.1.1 hok.1.2 (by decide)
  refine jCon.ofP (by decide +kernel) (by simp [lg_sl, Value.category]) (fun post hp => ?_)
  refine jvk_ok TX12_paymentSum (V := [(128, 3, 12, oX12_of)]) (S := []) (List.forall_mem_cons.mpr ⟨⟨mX12_of, n + 1, 2, TX12, 53, rfl, by omega, kX12_128, WX12_of, rfl, CX12_of g (n)⟩, (fun _ h => absurd h List.not_mem_nil)⟩) (fun _ h => absurd h List.not_mem_nil) [4] 30 _ _ _ _ ?_
  simp (maxSteps := 1000000) [↓Bool.cond_eq_ite, -Prod.forall, -Prod.exists, -Prod.mk.injEq, jvk, tX12_paymentSum, jtb, jol, jst, jlk, jcmp, jbin, jfl, fX12, jc2, lX12, jcat, jel, lv_args, Value.category, jins, jsrt, jins2, jble, jblt, jf3, List.filter_cons, List.filter_nil, G_m, oX12_of, joRII]
  have key := jloop (P := fun k => jW g mX12_paymentSum (n + 2) post 4 [(0, .ref 322), (1, .int (sm (fun p => mD σ p 3) k)), (2, .int (nI k))] [] σ) (N := N) (by
    refine jvk_ok TX12_paymentSum (V := [(128, 3, 12, oX12_of)]) (S := []) (List.forall_mem_cons.mpr ⟨⟨mX12_of, n + 1, 2, TX12, 53, rfl, by omega, kX12_128, WX12_of, rfl, CX12_of g (n)⟩, (fun _ h => absurd h List.not_mem_nil)⟩) (fun _ h => absurd h List.not_mem_nil) [4] 30 _ _ _ _ ?_
    simp (maxSteps := 1000000) [↓Bool.cond_eq_ite, -Prod.forall, -Prod.exists, -Prod.mk.injEq, jvk, tX12_paymentSum, jtb, jol, jst, jlk, jcmp, jbin, jfl, fX12, jc2, lX12, jcat, jel, lv_args, Value.category, jins, jsrt, jins2, jble, jblt, jf3, List.filter_cons, List.filter_nil, G_m, oX12_of, joRII, nI_1, hN1]
    try simp (disch := omega) [nI_1, nI_clamp, nI_leI, nI_ltI, nI_eq, nI_m1, NL_0, NL_1, NL_2, NL_3, NL_5, NL_6, NL_9, NL_10, NL_11, NL_12, NL_20, NL_24, NL_25, NL_60, NL_64, NL_90, NL_100, NL_120, NL_900, NL_999, NL_9999, NL_99999, NL_1000000, NL_208, NL_2080, NL_10000, hN1]
    exact hp _ _ ⟨by rw [mN, hN2], rfl⟩) (fun k hk ih => by
    simp only [sm] at ih
    refine jvk_ok TX12_paymentSum (V := [(128, 3, 12, oX12_of)]) (S := []) (List.forall_mem_cons.mpr ⟨⟨mX12_of, n + 1, 2, TX12, 53, rfl, by omega, kX12_128, WX12_of, rfl, CX12_of g (n)⟩, (fun _ h => absurd h List.not_mem_nil)⟩) (fun _ h => absurd h List.not_mem_nil) [4] 30 _ _ _ _ ?_
    simp (maxSteps := 1000000) [↓Bool.cond_eq_ite, -Prod.forall, -Prod.exists, -Prod.mk.injEq, jvk, tX12_paymentSum, jtb, jol, jst, jlk, jcmp, jbin, jfl, fX12, jc2, lX12, jcat, jel, lv_args, Value.category, jins, jsrt, jins2, jble, jblt, jf3, List.filter_cons, List.filter_nil, G_m, oX12_of, joRII, nI_1, hN1, jin_c, tn_c]
    try simp (disch := omega) [nI_1, nI_clamp, nI_leI, nI_ltI, nI_eq, nI_m1, NL_0, NL_1, NL_2, NL_3, NL_5, NL_6, NL_9, NL_10, NL_11, NL_12, NL_20, NL_24, NL_25, NL_60, NL_64, NL_90, NL_100, NL_120, NL_900, NL_999, NL_9999, NL_99999, NL_1000000, NL_208, NL_2080, NL_10000, hN1, jin_c, tn_c]
    exact ⟨fun h => by omega, fun _ => ⟨jin_nI (by omega) (by omega), ih⟩⟩)
  simpa [nI_0, sm] using key
def oX12_missing : jO := joR fun a σ => (a = 322 ∧ mOK σ, fun v τ => v = some (.int (σ.1 323 3 - sm (fun p => mD σ p 3) (mN σ))) ∧ τ = jup σ 322 11 0)
set_option maxRecDepth 100000 in
set_option maxHeartbeats 4000000 in
theorem CX12_missing (g : jG) (n : Nat) : jOk g (n + 3) mX12_missing oX12_missing := by
  refine joR_ok ?_
  rintro _ σ ⟨rfl, hok⟩
  refine jCon.ofF (by decide +kernel) (by simp [lg_sl, Value.category]) ?_
  refine jvk_ok TX12_missing (V := [(241, 1, 12, oX12_paymentSum)]) (S := []) (List.forall_mem_cons.mpr ⟨⟨mX12_paymentSum, n + 2, 0, TX12, 53, rfl, by omega, kX12_241, WX12_paymentSum, rfl, CX12_paymentSum g (n)⟩, (fun _ h => absurd h List.not_mem_nil)⟩) (fun _ h => absurd h List.not_mem_nil) [] 20 _ _ _ _ ?_
  simp (maxSteps := 1000000) [↓Bool.cond_eq_ite, -Prod.forall, -Prod.exists, -Prod.mk.injEq, jvk, tX12_missing, jtb, jol, jst, jlk, jcmp, jbin, jfl, fX12, jc2, lX12, jcat, jel, lv_args, Value.category, jins, jsrt, jins2, jble, jblt, jf3, List.filter_cons, List.filter_nil, G_m, oX12_paymentSum, joR, mOK_th hok, jup_1, jin, tn_c]
  rfl
