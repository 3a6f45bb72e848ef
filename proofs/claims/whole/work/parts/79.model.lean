/-! the reference: a text is loaded -/
def bgR (j : Nat) : Int32 := if j = 0 then 2 else if 8 ≤ j ∧ (j - 8) % 20 = 2 then -1 else 0
def aBg (c a j : Nat) : Bool := a == c && Nat.ble j 207
def oX12_begin : jO := joR fun a σ => (a = 323 ∨ a = 347, fun v τ => v = none ∧ jfr (aBg a) b0 σ τ ∧ ∀ j, j < 208 → τ.1 a j = bgR j)
set_option maxRecDepth 100000 in
set_option maxHeartbeats 4000000 in
theorem CX12_begin (g : jG) (n : Nat) : jOk g (n + 0) mX12_begin oX12_begin := by
  refine joR_ok ?_
  rintro a σ ha
  have two : ∀ post : Option Value → jM → Prop, (∀ τ, jfr (aBg a) b0 σ τ → (∀ j, j < 208 → τ.1 a j = bgR j) → post none τ) → (∀ (k : Nat) (τ : jM), k < 10 → jW g mX12_begin n post 25 [(0, .ref a), (1, .int (nI (k + 1)))] [] (jup τ a (8 + 20 * k + 2) (-1)) → jW g mX12_begin n post 25 [(0, .ref a), (1, .int (nI k))] [] τ) → (∀ τ, post none τ → jW g mX12_begin n post 25 [(0, .ref a), (1, .int (nI 10))] [] τ) → (∀ τ, jfr (aBg a) b0 σ τ → (∀ j, j < 208 → τ.1 a j = if j = 0 then 2 else 0) → jW g mX12_begin n post 25 [(0, .ref a), (1, .int 0)] [] τ) := by
    intro post hp step last τ f h
    have key := jloop (P := fun k => ∀ τ : jM, jfr (aBg a) b0 σ τ → (∀ j, j < 208 → τ.1 a j = if j = 0 then 2 else if 8 ≤ j ∧ (j - 8) % 20 = 2 ∧ j < 8 + 20 * k then -1 else 0) → jW g mX12_begin n post 25 [(0, .ref a), (1, .int (nI k))] [] τ) (N := 10) (fun τ f h => last τ (hp τ f (fun j hj => by
      rw [h j hj]
      unfold bgR
      by_cases e0 : j = 0
      · rw [if_pos e0, if_pos e0]
      · rw [if_neg e0, if_neg e0]
        by_cases e : 8 ≤ j ∧ (j - 8) % 20 = 2
        · have e2 : 8 ≤ j ∧ (j - 8) % 20 = 2 ∧ j < 8 + 20 * 10 := ⟨e.1, e.2, by omega⟩
          rw [if_pos e, if_pos e2]
        · have e2 : ¬ (8 ≤ j ∧ (j - 8) % 20 = 2 ∧ j < 8 + 20 * 10) := fun z => e ⟨z.1, z.2.1⟩
          rw [if_neg e, if_neg e2]))) (fun k hk ih τ f h => step k τ hk (ih _ (f.up _ (by unfold aBg; rw [jble]; simp; omega)) (fun j hj => by
      rw [jup_1]
      by_cases e : j = 8 + 20 * k + 2
      · have e0 : ¬ j = 0 := by omega
        have e1 : 8 ≤ j ∧ (j - 8) % 20 = 2 ∧ j < 8 + 20 * (k + 1) := by omega
        rw [if_pos ⟨rfl, e⟩, if_neg e0, if_pos e1]
      · rw [if_neg (fun z => e z.2), h j hj]
        have c2 : (8 ≤ j ∧ (j - 8) % 20 = 2 ∧ j < 8 + 20 * k) = (8 ≤ j ∧ (j - 8) % 20 = 2 ∧ j < 8 + 20 * (k + 1)) := propext ⟨fun z => ⟨z.1, z.2.1, by omega⟩, fun z => ⟨z.1, z.2.1, by omega⟩⟩
        simp only [c2])))
    have k0 := key τ f (fun j hj => by
      rw [h j hj]
      by_cases e : j = 0
      · rw [if_pos e, if_pos e]
      · have c2 : ¬ (8 ≤ j ∧ (j - 8) % 20 = 2 ∧ j < 8 + 20 * 0) := by omega
        rw [if_neg e, if_neg e, if_neg c2])
    rw [nI_0] at k0
    exact k0
  rcases ha with rfl | rfl
  · refine jCon.ofP (by decide +kernel) (by simp [lg_sl, Value.category]) (fun post hp => ?_)
    refine jvk_ok TX12_begin (V := []) (S := []) (fun _ h => absurd h List.not_mem_nil) (fun _ h => absurd h List.not_mem_nil) [2] 20 _ _ _ _ ?_
    simp (maxSteps := 1000000) [↓Bool.cond_eq_ite, -Prod.forall, -Prod.exists, -Prod.mk.injEq, jvk, tX12_begin, jtb, jol, jst, jlk, jcmp, jbin, jfl, fX12, jc2, lX12, jcat, jel, lv_args, Value.category, jins, jsrt, jins2, jble, jblt, jf3, List.filter_cons, List.filter_nil, G_m, -Int32.not_le, -Int32.not_lt, -Int64.not_le, -Int64.not_lt, i3lt, i6lt]
    try simp (disch := omega) [-Prod.forall, -Prod.exists, -Prod.mk.injEq, -Int32.not_le, -Int32.not_lt, -Int64.not_le, -Int64.not_lt, i3lt, i6lt]
    have second := two post (fun τ f h => hp _ _ ⟨rfl, f, h⟩) (fun k τ hk k1 => by
      have hlt : ¬ (10 : Int32) ≤ nI k := nI_ge (b := 10) hk (by decide)
      have e20 : 20 * nI k = nI (20 * k) := pk_mul 20 k
      have e8 : 8 + nI (20 * k) = nI (8 + 20 * k) := nI_add 8 _
      have e2 : nI (8 + 20 * k) + 2 = nI (8 + 20 * k + 2) := nI_add _ 2
      have jq := jN_208 (k := 8 + 20 * k + 2) (by omega)
      refine jvk_ok TX12_begin (V := []) (S := []) (fun _ h => absurd h List.not_mem_nil) (fun _ h => absurd h List.not_mem_nil) [25] 30 _ _ _ _ ?_
      simp (maxSteps := 1000000) [↓Bool.cond_eq_ite, -Prod.forall, -Prod.exists, -Prod.mk.injEq, jvk, tX12_begin, jtb, jol, jst, jlk, jcmp, jbin, jfl, fX12, jc2, lX12, jcat, jel, lv_args, Value.category, jins, jsrt, jins2, jble, jblt, jf3, List.filter_cons, List.filter_nil, G_m, -Int32.not_le, -Int32.not_lt, -Int64.not_le, -Int64.not_lt, i3lt, i6lt, hlt, e20, e8, e2, jq, nI_1]
      try simp (disch := omega) [-Prod.forall, -Prod.exists, -Prod.mk.injEq, -Int32.not_le, -Int32.not_lt, -Int64.not_le, -Int64.not_lt, i3lt, i6lt, hlt, e20, e8, e2, jq, nI_1]
      exact k1) (fun τ k1 => by
      have hle : (10 : Int32) ≤ nI 10 := by decide
      refine jvk_ok TX12_begin (V := []) (S := []) (fun _ h => absurd h List.not_mem_nil) (fun _ h => absurd h List.not_mem_nil) [25] 30 _ _ _ _ ?_
      simp (maxSteps := 1000000) [↓Bool.cond_eq_ite, -Prod.forall, -Prod.exists, -Prod.mk.injEq, jvk, tX12_begin, jtb, jol, jst, jlk, jcmp, jbin, jfl, fX12, jc2, lX12, jcat, jel, lv_args, Value.category, jins, jsrt, jins2, jble, jblt, jf3, List.filter_cons, List.filter_nil, G_m, -Int32.not_le, -Int32.not_lt, -Int64.not_le, -Int64.not_lt, i3lt, i6lt, hle]
      try simp (disch := omega) [-Prod.forall, -Prod.exists, -Prod.mk.injEq, -Int32.not_le, -Int32.not_lt, -Int64.not_le, -Int64.not_lt, i3lt, i6lt, hle]
      exact k1)
    have key := jloop (P := fun k => ∀ τ : jM, jfr (aBg 323) b0 σ τ → (∀ j, j < k → τ.1 323 j = 0) → jW g mX12_begin n post 2 [(0, .ref 323), (1, .int (nI k))] [] τ) (N := 208) (fun τ f h => by
      have hle : (208 : Int32) ≤ nI 208 := by decide
      have k1 := second (jup τ 323 0 2) (f.up _ rfl) (fun j hj => by
        rw [jup_1]
        by_cases e : j = 0
        · rw [if_pos ⟨rfl, e⟩, if_pos e]
        · rw [if_neg (fun z => e z.2), if_neg e]; exact h j hj)
      refine jvk_ok TX12_begin (V := []) (S := []) (fun _ h => absurd h List.not_mem_nil) (fun _ h => absurd h List.not_mem_nil) [2, 25] 30 _ _ _ _ ?_
      simp (maxSteps := 1000000) [↓Bool.cond_eq_ite, -Prod.forall, -Prod.exists, -Prod.mk.injEq, jvk, tX12_begin, jtb, jol, jst, jlk, jcmp, jbin, jfl, fX12, jc2, lX12, jcat, jel, lv_args, Value.category, jins, jsrt, jins2, jble, jblt, jf3, List.filter_cons, List.filter_nil, G_m, -Int32.not_le, -Int32.not_lt, -Int64.not_le, -Int64.not_lt, i3lt, i6lt, hle, jin_d, tn_c]
      try simp (disch := omega) [-Prod.forall, -Prod.exists, -Prod.mk.injEq, -Int32.not_le, -Int32.not_lt, -Int64.not_le, -Int64.not_lt, i3lt, i6lt, hle, jin_d, tn_c]
      exact jW.mono k1 (by simp)) (fun k hk ih τ f h => by
      have hlt : ¬ (208 : Int32) ≤ nI k := nI_ge (b := 208) hk (by decide)
      have jq := jN_208 (k := k) hk
      have k1 := ih (jup τ 323 k 0) (f.up _ (by unfold aBg; rw [jble]; simp; omega)) (fun j hj => by
        rw [jup_1]
        by_cases e : j = k
        · rw [if_pos ⟨rfl, e⟩]
        · rw [if_neg (fun z => e z.2)]; exact h j (by omega))
      refine jvk_ok TX12_begin (V := []) (S := []) (fun _ h => absurd h List.not_mem_nil) (fun _ h => absurd h List.not_mem_nil) [2, 25] 30 _ _ _ _ ?_
      simp (maxSteps := 1000000) [↓Bool.cond_eq_ite, -Prod.forall, -Prod.exists, -Prod.mk.injEq, jvk, tX12_begin, jtb, jol, jst, jlk, jcmp, jbin, jfl, fX12, jc2, lX12, jcat, jel, lv_args, Value.category, jins, jsrt, jins2, jble, jblt, jf3, List.filter_cons, List.filter_nil, G_m, -Int32.not_le, -Int32.not_lt, -Int64.not_le, -Int64.not_lt, i3lt, i6lt, hlt, jq, nI_1]
      try simp (disch := omega) [-Prod.forall, -Prod.exists, -Prod.mk.injEq, -Int32.not_le, -Int32.not_lt, -Int64.not_le, -Int64.not_lt, i3lt, i6lt, hlt, jq, nI_1]
      exact k1)
    have k0 := key σ jfr.rfl (fun j hj => by omega)
    rw [nI_0] at k0
    exact k0
  · refine jCon.ofP (by decide +kernel) (by simp [lg_sl, Value.category]) (fun post hp => ?_)
    refine jvk_ok TX12_begin (V := []) (S := []) (fun _ h => absurd h List.not_mem_nil) (fun _ h => absurd h List.not_mem_nil) [2] 20 _ _ _ _ ?_
    simp (maxSteps := 1000000) [↓Bool.cond_eq_ite, -Prod.forall, -Prod.exists, -Prod.mk.injEq, jvk, tX12_begin, jtb, jol, jst, jlk, jcmp, jbin, jfl, fX12, jc2, lX12, jcat, jel, lv_args, Value.category, jins, jsrt, jins2, jble, jblt, jf3, List.filter_cons, List.filter_nil, G_m, -Int32.not_le, -Int32.not_lt, -Int64.not_le, -Int64.not_lt, i3lt, i6lt]
    try simp (disch := omega) [-Prod.forall, -Prod.exists, -Prod.mk.injEq, -Int32.not_le, -Int32.not_lt, -Int64.not_le, -Int64.not_lt, i3lt, i6lt]
    have second := two post (fun τ f h => hp _ _ ⟨rfl, f, h⟩) (fun k τ hk k1 => by
      have hlt : ¬ (10 : Int32) ≤ nI k := nI_ge (b := 10) hk (by decide)
      have e20 : 20 * nI k = nI (20 * k) := pk_mul 20 k
      have e8 : 8 + nI (20 * k) = nI (8 + 20 * k) := nI_add 8 _
      have e2 : nI (8 + 20 * k) + 2 = nI (8 + 20 * k + 2) := nI_add _ 2
      have jq := jN_208 (k := 8 + 20 * k + 2) (by omega)
      refine jvk_ok TX12_begin (V := []) (S := []) (fun _ h => absurd h List.not_mem_nil) (fun _ h => absurd h List.not_mem_nil) [25] 30 _ _ _ _ ?_
      simp (maxSteps := 1000000) [↓Bool.cond_eq_ite, -Prod.forall, -Prod.exists, -Prod.mk.injEq, jvk, tX12_begin, jtb, jol, jst, jlk, jcmp, jbin, jfl, fX12, jc2, lX12, jcat, jel, lv_args, Value.category, jins, jsrt, jins2, jble, jblt, jf3, List.filter_cons, List.filter_nil, G_m, -Int32.not_le, -Int32.not_lt, -Int64.not_le, -Int64.not_lt, i3lt, i6lt, hlt, e20, e8, e2, jq, nI_1]
      try simp (disch := omega) [-Prod.forall, -Prod.exists, -Prod.mk.injEq, -Int32.not_le, -Int32.not_lt, -Int64.not_le, -Int64.not_lt, i3lt, i6lt, hlt, e20, e8, e2, jq, nI_1]
      exact k1) (fun τ k1 => by
      have hle : (10 : Int32) ≤ nI 10 := by decide
      refine jvk_ok TX12_begin (V := []) (S := []) (fun _ h => absurd h List.not_mem_nil) (fun _ h => absurd h List.not_mem_nil) [25] 30 _ _ _ _ ?_
      simp (maxSteps := 1000000) [↓Bool.cond_eq_ite, -Prod.forall, -Prod.exists, -Prod.mk.injEq, jvk, tX12_begin, jtb, jol, jst, jlk, jcmp, jbin, jfl, fX12, jc2, lX12, jcat, jel, lv_args, Value.category, jins, jsrt, jins2, jble, jblt, jf3, List.filter_cons, List.filter_nil, G_m, -Int32.not_le, -Int32.not_lt, -Int64.not_le, -Int64.not_lt, i3lt, i6lt, hle]
      try simp (disch := omega) [-Prod.forall, -Prod.exists, -Prod.mk.injEq, -Int32.not_le, -Int32.not_lt, -Int64.not_le, -Int64.not_lt, i3lt, i6lt, hle]
      exact k1)
    have key := jloop (P := fun k => ∀ τ : jM, jfr (aBg 347) b0 σ τ → (∀ j, j < k → τ.1 347 j = 0) → jW g mX12_begin n post 2 [(0, .ref 347), (1, .int (nI k))] [] τ) (N := 208) (fun τ f h => by
      have hle : (208 : Int32) ≤ nI 208 := by decide
      have k1 := second (jup τ 347 0 2) (f.up _ rfl) (fun j hj => by
        rw [jup_1]
        by_cases e : j = 0
        · rw [if_pos ⟨rfl, e⟩, if_pos e]
        · rw [if_neg (fun z => e z.2), if_neg e]; exact h j hj)
      refine jvk_ok TX12_begin (V := []) (S := []) (fun _ h => absurd h List.not_mem_nil) (fun _ h => absurd h List.not_mem_nil) [2, 25] 30 _ _ _ _ ?_
      simp (maxSteps := 1000000) [↓Bool.cond_eq_ite, -Prod.forall, -Prod.exists, -Prod.mk.injEq, jvk, tX12_begin, jtb, jol, jst, jlk, jcmp, jbin, jfl, fX12, jc2, lX12, jcat, jel, lv_args, Value.category, jins, jsrt, jins2, jble, jblt, jf3, List.filter_cons, List.filter_nil, G_m, -Int32.not_le, -Int32.not_lt, -Int64.not_le, -Int64.not_lt, i3lt, i6lt, hle, jin_d, tn_c]
      try simp (disch := omega) [-Prod.forall, -Prod.exists, -Prod.mk.injEq, -Int32.not_le, -Int32.not_lt, -Int64.not_le, -Int64.not_lt, i3lt, i6lt, hle, jin_d, tn_c]
      exact jW.mono k1 (by simp)) (fun k hk ih τ f h => by
      have hlt : ¬ (208 : Int32) ≤ nI k := nI_ge (b := 208) hk (by decide)
      have jq := jN_208 (k := k) hk
      have k1 := ih (jup τ 347 k 0) (f.up _ (by unfold aBg; rw [jble]; simp; omega)) (fun j hj => by
        rw [jup_1]
        by_cases e : j = k
        · rw [if_pos ⟨rfl, e⟩]
        · rw [if_neg (fun z => e z.2)]; exact h j (by omega))
      refine jvk_ok TX12_begin (V := []) (S := []) (fun _ h => absurd h List.not_mem_nil) (fun _ h => absurd h List.not_mem_nil) [2, 25] 30 _ _ _ _ ?_
      simp (maxSteps := 1000000) [↓Bool.cond_eq_ite, -Prod.forall, -Prod.exists, -Prod.mk.injEq, jvk, tX12_begin, jtb, jol, jst, jlk, jcmp, jbin, jfl, fX12, jc2, lX12, jcat, jel, lv_args, Value.category, jins, jsrt, jins2, jble, jblt, jf3, List.filter_cons, List.filter_nil, G_m, -Int32.not_le, -Int32.not_lt, -Int64.not_le, -Int64.not_lt, i3lt, i6lt, hlt, jq, nI_1]
      try simp (disch := omega) [-Prod.forall, -Prod.exists, -Prod.mk.injEq, -Int32.not_le, -Int32.not_lt, -Int64.not_le, -Int64.not_lt, i3lt, i6lt, hlt, jq, nI_1]
      exact k1)
    have k0 := key σ jfr.rfl (fun j hj => by omega)
    rw [nI_0] at k0
    exact k0
/-- what a text leaves -/
def aTt (a j : Nat) : Bool := a == 323 || a == 325 || a == 326 || a == 327 || a == 328 || a == 329 || a == 322 && (j == 2 || j == 3 || j == 4 || j == 5)
def tkn (σ τ : jM) : Prop := (∀ j, j < 208 → τ.1 323 j = σ.1 347 j) ∧ τ.1 322 3 = σ.1 322 43 ∧ τ.1 322 4 = σ.1 322 44 ∧ τ.1 322 5 = σ.1 322 45 ∧ τ.1 322 2 = 0 ∧ (∀ r, r < rm σ.1 → τ.1 325 r = σ.1 348 r) ∧ (∀ p, p < pe σ.1 → τ.1 326 p = σ.1 349 p) ∧ ∀ k, k < pn σ.1 → τ.1 327 k = σ.1 350 (3 * k) ∧ τ.1 328 k = σ.1 350 (3 * k + 1) ∧ τ.1 329 k = σ.1 350 (3 * k + 2)
def oX12_takeText : jO := joR fun a σ => (a = 322 ∧ rSz σ, fun v τ => v = none ∧ jfr aTt b0 σ τ ∧ tkn σ τ)
set_option maxRecDepth 100000 in
set_option maxHeartbeats 4000000 in
theorem CX12_takeText (g : jG) (n : Nat) : jOk g (n + 0) mX12_takeText oX12_takeText := by
  refine joR_ok ?_
  rintro _ σ ⟨rfl, hz⟩
  obtain ⟨⟨hR, hR4⟩, ⟨hP, hP4⟩, hL, hL4⟩ := rSz_n hz
  obtain ⟨R, eR⟩ : ∃ R, R = rm σ.1 := ⟨_, rfl⟩
  obtain ⟨P, eP⟩ : ∃ P, P = pe σ.1 := ⟨_, rfl⟩
  obtain ⟨K, eK⟩ : ∃ K, K = pn σ.1 := ⟨_, rfl⟩
  rw [← eR] at hR hR4
  rw [← eP] at hP hP4
  rw [← eK] at hL hL4
  -- the plans
  refine jCon.ofP (by decide +kernel) (by simp [lg_sl, Value.category]) (fun post hp => ?_)
  refine jvk_ok TX12_takeText (V := []) (S := []) (fun _ h => absurd h List.not_mem_nil) (fun _ h => absurd h List.not_mem_nil) [2] 10 _ _ _ _ ?_
  simp (maxSteps := 1000000) [↓Bool.cond_eq_ite, -Prod.forall, -Prod.exists, -Prod.mk.injEq, jvk, tX12_takeText, jtb, jol, jst, jlk, jcmp, jbin, jfl, fX12, jc2, lX12, jcat, jel, lv_args, Value.category, jins, jsrt, jins2, jble, jblt, jf3, List.filter_cons, List.filter_nil, G_m, -Int32.not_le, -Int32.not_lt, -Int64.not_le, -Int64.not_lt, i3lt, i6lt]
  try simp (disch := omega) [-Prod.forall, -Prod.exists, -Prod.mk.injEq, -Int32.not_le, -Int32.not_lt, -Int64.not_le, -Int64.not_lt, i3lt, i6lt]
  have l4 : ∀ τ : jM, jfr aTt b0 σ τ → (∀ j, j < 208 → τ.1 323 j = σ.1 347 j) → τ.1 322 3 = nI R → τ.1 322 4 = nI P → τ.1 322 5 = nI K → (∀ r, r < R → τ.1 325 r = σ.1 348 r) → (∀ p, p < P → τ.1 326 p = σ.1 349 p) → jW g mX12_takeText n post 109 [(0, .ref 322), (1, .int 0)] [] τ := by
    intro τ f h1 h3 h4 h5 h6 h7
    have key := jloop (P := fun k => ∀ τ' : jM, jfr (fun a j => a == 327 || a == 328 || a == 329) b0 τ τ' → (∀ i, i < k → τ'.1 327 i = σ.1 350 (3 * i) ∧ τ'.1 328 i = σ.1 350 (3 * i + 1) ∧ τ'.1 329 i = σ.1 350 (3 * i + 2)) → jW g mX12_takeText n post 109 [(0, .ref 322), (1, .int (nI k))] [] τ') (N := K) (fun τ' f' h => by
      have hle : nI K ≤ nI K := nI_le (Nat.le_refl _) (by omega)
      have e5 : τ'.1 322 5 = nI K := (f'.2.2 322 5 rfl).trans h5
      refine jvk_ok TX12_takeText (V := []) (S := []) (fun _ h => absurd h List.not_mem_nil) (fun _ h => absurd h List.not_mem_nil) [109] 20 _ _ _ _ ?_
      simp (maxSteps := 1000000) [↓Bool.cond_eq_ite, -Prod.forall, -Prod.exists, -Prod.mk.injEq, jvk, tX12_takeText, jtb, jol, jst, jlk, jcmp, jbin, jfl, fX12, jc2, lX12, jcat, jel, lv_args, Value.category, jins, jsrt, jins2, jble, jblt, jf3, List.filter_cons, List.filter_nil, G_m, -Int32.not_le, -Int32.not_lt, -Int64.not_le, -Int64.not_lt, i3lt, i6lt, e5, hle]
      try simp (disch := omega) [-Prod.forall, -Prod.exists, -Prod.mk.injEq, -Int32.not_le, -Int32.not_lt, -Int64.not_le, -Int64.not_lt, i3lt, i6lt, e5, hle]
      refine hp _ _ ⟨rfl, (f.tr (f'.weak (fun a j q => by simp only [aTt, Bool.or_eq_false_iff] at q; simp [q]) (fun _ q => q))).up _ rfl, fun j hj => ?_, ?_, ?_, ?_, by rw [jup_1, if_pos ⟨rfl, rfl⟩], fun r hr => ?_, fun p hp => ?_, fun k hk => ?_⟩
      · rw [jup_1, if_neg (by omega), f'.2.2 323 j rfl]; exact h1 j hj
      · rw [jup_1, if_neg (by omega), f'.2.2 322 3 rfl, h3, hR4]
      · rw [jup_1, if_neg (by omega), f'.2.2 322 4 rfl, h4, hP4]
      · rw [jup_1, if_neg (by omega), f'.2.2 322 5 rfl, h5, hL4]
      · rw [jup_1, if_neg (by omega), f'.2.2 325 r rfl]; exact h6 r (by omega)
      · rw [jup_1, if_neg (by omega), f'.2.2 326 p rfl]; exact h7 p (by omega)
      · rw [jup_1, if_neg (by omega), jup_1, if_neg (by omega), jup_1, if_neg (by omega)]; exact h k (by omega)) (fun k hk ih τ' f' h => by
      have hlt : ¬ nI K ≤ nI k := nI_ge hk (by omega)
      have e5 : τ'.1 322 5 = nI K := (f'.2.2 322 5 rfl).trans h5
      have e3k : 3 * nI k = nI (3 * k) := pk_mul 3 k
      have a1 : nI (3 * k) + 1 = nI (3 * k + 1) := nI_1 _
      have a2 : nI (3 * k) + 2 = nI (3 * k + 2) := nI_add _ 2
      have jk : jin (nI k) 20 ∧ (nI k).toNatClampNeg = k := ⟨jin_nI (by omega) (by decide), nI_clamp (by omega)⟩
      have j0 : jin (nI (3 * k)) 60 ∧ (nI (3 * k)).toNatClampNeg = 3 * k := ⟨jin_nI (by omega) (by decide), nI_clamp (by omega)⟩
      have j1 : jin (nI (3 * k + 1)) 60 ∧ (nI (3 * k + 1)).toNatClampNeg = 3 * k + 1 := ⟨jin_nI (by omega) (by decide), nI_clamp (by omega)⟩
      have j2 : jin (nI (3 * k + 2)) 60 ∧ (nI (3 * k + 2)).toNatClampNeg = 3 * k + 2 := ⟨jin_nI (by omega) (by decide), nI_clamp (by omega)⟩
      have eC : ∀ j, τ'.1 350 j = σ.1 350 j := fun j => (f'.2.2 350 j rfl).trans (f.2.2 350 j rfl)
      have k1 := ih (jup (jup (jup τ' 327 k (σ.1 350 (3 * k))) 328 k (σ.1 350 (3 * k + 1))) 329 k (σ.1 350 (3 * k + 2))) (((f'.up _ rfl).up _ rfl).up _ rfl) (fun i hi => by
        simp only [jup_1]
        by_cases e : i = k
        · subst e; simp
        · simpa [e] using h i (by omega))
      refine jvk_ok TX12_takeText (V := []) (S := []) (fun _ h => absurd h List.not_mem_nil) (fun _ h => absurd h List.not_mem_nil) [109] 60 _ _ _ _ ?_
      simp (maxSteps := 1000000) [↓Bool.cond_eq_ite, -Prod.forall, -Prod.exists, -Prod.mk.injEq, jvk, tX12_takeText, jtb, jol, jst, jlk, jcmp, jbin, jfl, fX12, jc2, lX12, jcat, jel, lv_args, Value.category, jins, jsrt, jins2, jble, jblt, jf3, List.filter_cons, List.filter_nil, G_m, -Int32.not_le, -Int32.not_lt, -Int64.not_le, -Int64.not_lt, i3lt, i6lt, e5, hlt, e3k, a1, a2, jk, j0, j1, j2, eC, jup_1, nI_1]
      try simp (disch := omega) [-Prod.forall, -Prod.exists, -Prod.mk.injEq, -Int32.not_le, -Int32.not_lt, -Int64.not_le, -Int64.not_lt, i3lt, i6lt, e5, hlt, e3k, a1, a2, jk, j0, j1, j2, eC, jup_1, nI_1]
      exact k1)
    have k0 := key τ jfr.rfl (fun i hi => by omega)
    rw [nI_0] at k0
    exact k0
  -- the people's names
  have l3 : ∀ τ : jM, jfr aTt b0 σ τ → (∀ j, j < 208 → τ.1 323 j = σ.1 347 j) → τ.1 322 3 = nI R → τ.1 322 4 = nI P → τ.1 322 5 = nI K → (∀ r, r < R → τ.1 325 r = σ.1 348 r) → jW g mX12_takeText n post 81 [(0, .ref 322), (1, .int 0)] [] τ := by
    intro τ f h1 h3 h4 h5 h6
    have key := jloop (P := fun k => ∀ τ' : jM, jfr (fun a j => a == 326) b0 τ τ' → (∀ i, i < k → τ'.1 326 i = σ.1 349 i) → jW g mX12_takeText n post 81 [(0, .ref 322), (1, .int (nI k))] [] τ') (N := P) (fun τ' f' h => by
      have hle : nI P ≤ nI P := nI_le (Nat.le_refl _) (by omega)
      have e4 : τ'.1 322 4 = nI P := (f'.2.2 322 4 rfl).trans h4
      have k1 := l4 τ' (f.tr (f'.weak (fun a j q => by simp only [aTt, Bool.or_eq_false_iff] at q; simp [q]) (fun _ q => q))) (fun j hj => by rw [f'.2.2 323 j rfl]; exact h1 j hj) ((f'.2.2 322 3 rfl).trans h3) e4 ((f'.2.2 322 5 rfl).trans h5) (fun r hr => by rw [f'.2.2 325 r rfl]; exact h6 r hr) h
      refine jvk_ok TX12_takeText (V := []) (S := []) (fun _ h => absurd h List.not_mem_nil) (fun _ h => absurd h List.not_mem_nil) [81, 109] 20 _ _ _ _ ?_
      simp (maxSteps := 1000000) [↓Bool.cond_eq_ite, -Prod.forall, -Prod.exists, -Prod.mk.injEq, jvk, tX12_takeText, jtb, jol, jst, jlk, jcmp, jbin, jfl, fX12, jc2, lX12, jcat, jel, lv_args, Value.category, jins, jsrt, jins2, jble, jblt, jf3, List.filter_cons, List.filter_nil, G_m, -Int32.not_le, -Int32.not_lt, -Int64.not_le, -Int64.not_lt, i3lt, i6lt, e4, hle]
      try simp (disch := omega) [-Prod.forall, -Prod.exists, -Prod.mk.injEq, -Int32.not_le, -Int32.not_lt, -Int64.not_le, -Int64.not_lt, i3lt, i6lt, e4, hle]
      exact k1) (fun k hk ih τ' f' h => by
      have hlt : ¬ nI P ≤ nI k := nI_ge hk (by omega)
      have e4 : τ'.1 322 4 = nI P := (f'.2.2 322 4 rfl).trans h4
      have jk : jin (nI k) 10 ∧ (nI k).toNatClampNeg = k := ⟨jin_nI (by omega) (by decide), nI_clamp (by omega)⟩
      have eC : τ'.1 349 k = σ.1 349 k := (f'.2.2 349 k rfl).trans (f.2.2 349 k rfl)
      have k1 := ih (jup τ' 326 k (σ.1 349 k)) (f'.up _ rfl) (fun i hi => by
        rw [jup_1]
        by_cases e : i = k
        · rw [if_pos ⟨rfl, e⟩, e]
        · rw [if_neg (fun z => e z.2)]; exact h i (by omega))
      refine jvk_ok TX12_takeText (V := []) (S := []) (fun _ h => absurd h List.not_mem_nil) (fun _ h => absurd h List.not_mem_nil) [81, 109] 60 _ _ _ _ ?_
      simp (maxSteps := 1000000) [↓Bool.cond_eq_ite, -Prod.forall, -Prod.exists, -Prod.mk.injEq, jvk, tX12_takeText, jtb, jol, jst, jlk, jcmp, jbin, jfl, fX12, jc2, lX12, jcat, jel, lv_args, Value.category, jins, jsrt, jins2, jble, jblt, jf3, List.filter_cons, List.filter_nil, G_m, -Int32.not_le, -Int32.not_lt, -Int64.not_le, -Int64.not_lt, i3lt, i6lt, e4, hlt, jk, eC, nI_1]
      try simp (disch := omega) [-Prod.forall, -Prod.exists, -Prod.mk.injEq, -Int32.not_le, -Int32.not_lt, -Int64.not_le, -Int64.not_lt, i3lt, i6lt, e4, hlt, jk, eC, nI_1]
      exact k1)
    have k0 := key τ jfr.rfl (fun i hi => by omega)
    rw [nI_0] at k0
    exact k0
  have l2 : ∀ τ : jM, jfr aTt b0 σ τ → (∀ j, j < 208 → τ.1 323 j = σ.1 347 j) → τ.1 322 3 = nI R → τ.1 322 4 = nI P → τ.1 322 5 = nI K → jW g mX12_takeText n post 53 [(0, .ref 322), (1, .int 0)] [] τ := by
    intro τ f h1 h3 h4 h5
    have key := jloop (P := fun k => ∀ τ' : jM, jfr (fun a j => a == 325) b0 τ τ' → (∀ i, i < k → τ'.1 325 i = σ.1 348 i) → jW g mX12_takeText n post 53 [(0, .ref 322), (1, .int (nI k))] [] τ') (N := R) (fun τ' f' h => by
      have hle : nI R ≤ nI R := nI_le (Nat.le_refl _) (by omega)
      have e3 : τ'.1 322 3 = nI R := (f'.2.2 322 3 rfl).trans h3
      have k1 := l3 τ' (f.tr (f'.weak (fun a j q => by simp only [aTt, Bool.or_eq_false_iff] at q; simp [q]) (fun _ q => q))) (fun j hj => by rw [f'.2.2 323 j rfl]; exact h1 j hj) e3 ((f'.2.2 322 4 rfl).trans h4) ((f'.2.2 322 5 rfl).trans h5) h
      refine jvk_ok TX12_takeText (V := []) (S := []) (fun _ h => absurd h List.not_mem_nil) (fun _ h => absurd h List.not_mem_nil) [53, 81] 20 _ _ _ _ ?_
      simp (maxSteps := 1000000) [↓Bool.cond_eq_ite, -Prod.forall, -Prod.exists, -Prod.mk.injEq, jvk, tX12_takeText, jtb, jol, jst, jlk, jcmp, jbin, jfl, fX12, jc2, lX12, jcat, jel, lv_args, Value.category, jins, jsrt, jins2, jble, jblt, jf3, List.filter_cons, List.filter_nil, G_m, -Int32.not_le, -Int32.not_lt, -Int64.not_le, -Int64.not_lt, i3lt, i6lt, e3, hle]
      try simp (disch := omega) [-Prod.forall, -Prod.exists, -Prod.mk.injEq, -Int32.not_le, -Int32.not_lt, -Int64.not_le, -Int64.not_lt, i3lt, i6lt, e3, hle]
      exact k1) (fun k hk ih τ' f' h => by
      have hlt : ¬ nI R ≤ nI k := nI_ge hk (by omega)
      have e3 : τ'.1 322 3 = nI R := (f'.2.2 322 3 rfl).trans h3
      have jk : jin (nI k) 6 ∧ (nI k).toNatClampNeg = k := ⟨jin_nI (by omega) (by decide), nI_clamp (by omega)⟩
      have eC : τ'.1 348 k = σ.1 348 k := (f'.2.2 348 k rfl).trans (f.2.2 348 k rfl)
      have k1 := ih (jup τ' 325 k (σ.1 348 k)) (f'.up _ rfl) (fun i hi => by
        rw [jup_1]
        by_cases e : i = k
        · rw [if_pos ⟨rfl, e⟩, e]
        · rw [if_neg (fun z => e z.2)]; exact h i (by omega))
      refine jvk_ok TX12_takeText (V := []) (S := []) (fun _ h => absurd h List.not_mem_nil) (fun _ h => absurd h List.not_mem_nil) [53, 81] 60 _ _ _ _ ?_
      simp (maxSteps := 1000000) [↓Bool.cond_eq_ite, -Prod.forall, -Prod.exists, -Prod.mk.injEq, jvk, tX12_takeText, jtb, jol, jst, jlk, jcmp, jbin, jfl, fX12, jc2, lX12, jcat, jel, lv_args, Value.category, jins, jsrt, jins2, jble, jblt, jf3, List.filter_cons, List.filter_nil, G_m, -Int32.not_le, -Int32.not_lt, -Int64.not_le, -Int64.not_lt, i3lt, i6lt, e3, hlt, jk, eC, nI_1]
      try simp (disch := omega) [-Prod.forall, -Prod.exists, -Prod.mk.injEq, -Int32.not_le, -Int32.not_lt, -Int64.not_le, -Int64.not_lt, i3lt, i6lt, e3, hlt, jk, eC, nI_1]
      exact k1)
    have k0 := key τ jfr.rfl (fun i hi => by omega)
    rw [nI_0] at k0
    exact k0
  have key := jloop (P := fun k => ∀ τ' : jM, jfr (fun a j => a == 323) b0 σ τ' → (∀ i, i < k → τ'.1 323 i = σ.1 347 i) → jW g mX12_takeText n post 2 [(0, .ref 322), (1, .int (nI k))] [] τ') (N := 208) (fun τ' f' h => by
    have hle : (208 : Int32) ≤ nI 208 := by decide
    have e43 : τ'.1 322 43 = nI R := (f'.2.2 322 43 rfl).trans hR4
    have e44 : τ'.1 322 44 = nI P := (f'.2.2 322 44 rfl).trans hP4
    have e45 : τ'.1 322 45 = nI K := (f'.2.2 322 45 rfl).trans hL4
    have k1 := l2 (jup (jup (jup τ' 322 3 (nI R)) 322 4 (nI P)) 322 5 (nI K)) ((((f'.weak (fun a j q => by simp only [aTt, Bool.or_eq_false_iff] at q; simp [q]) (fun _ q => q)).up _ rfl).up _ rfl).up _ rfl) (fun j hj => by simp only [jup_1]; simpa using h j hj) (by simp [jup_1]) (by simp [jup_1]) (by simp [jup_1])
    refine jvk_ok TX12_takeText (V := []) (S := []) (fun _ h => absurd h List.not_mem_nil) (fun _ h => absurd h List.not_mem_nil) [2, 53] 40 _ _ _ _ ?_
    simp (maxSteps := 1000000) [↓Bool.cond_eq_ite, -Prod.forall, -Prod.exists, -Prod.mk.injEq, jvk, tX12_takeText, jtb, jol, jst, jlk, jcmp, jbin, jfl, fX12, jc2, lX12, jcat, jel, lv_args, Value.category, jins, jsrt, jins2, jble, jblt, jf3, List.filter_cons, List.filter_nil, G_m, -Int32.not_le, -Int32.not_lt, -Int64.not_le, -Int64.not_lt, i3lt, i6lt, hle, e43, e44, e45, jup_1]
    try simp (disch := omega) [-Prod.forall, -Prod.exists, -Prod.mk.injEq, -Int32.not_le, -Int32.not_lt, -Int64.not_le, -Int64.not_lt, i3lt, i6lt, hle, e43, e44, e45, jup_1]
    exact k1) (fun k hk ih τ' f' h => by
    have hlt : ¬ (208 : Int32) ≤ nI k := nI_ge (b := 208) hk (by decide)
    have jk := jN_208 hk
    have eC : τ'.1 347 k = σ.1 347 k := f'.2.2 347 k rfl
    have k1 := ih (jup τ' 323 k (σ.1 347 k)) (f'.up _ rfl) (fun i hi => by
      rw [jup_1]
      by_cases e : i = k
      · rw [if_pos ⟨rfl, e⟩, e]
      · rw [if_neg (fun z => e z.2)]; exact h i (by omega))
    refine jvk_ok TX12_takeText (V := []) (S := []) (fun _ h => absurd h List.not_mem_nil) (fun _ h => absurd h List.not_mem_nil) [2, 53] 60 _ _ _ _ ?_
    simp (maxSteps := 1000000) [↓Bool.cond_eq_ite, -Prod.forall, -Prod.exists, -Prod.mk.injEq, jvk, tX12_takeText, jtb, jol, jst, jlk, jcmp, jbin, jfl, fX12, jc2, lX12, jcat, jel, lv_args, Value.category, jins, jsrt, jins2, jble, jblt, jf3, List.filter_cons, List.filter_nil, G_m, -Int32.not_le, -Int32.not_lt, -Int64.not_le, -Int64.not_lt, i3lt, i6lt, hlt, jk, eC, nI_1]
    try simp (disch := omega) [-Prod.forall, -Prod.exists, -Prod.mk.injEq, -Int32.not_le, -Int32.not_lt, -Int64.not_le, -Int64.not_lt, i3lt, i6lt, hlt, jk, eC, nI_1]
    exact k1)
  have k0 := key σ jfr.rfl (fun i hi => by omega)
  rw [nI_0] at k0
  exact k0
/-! the reference: load -/
/-- what is there ahead of the first statement -/
def mu0 (j : Nat → Int32) : pM := fun a i => if a = 347 then bgR i else if a = 322 then 0 else j i
def pLoad (B : Nat → Int32) (L : Nat) (μ : pM) : pE ⊕ (Nat × pM) := pText B L (L + 1) 0 (rn B L 1 0) μ
def aLd (a j : Nat) : Bool := aRs a j || a == 322 && (j == 11 || j == 32 || j == 33 || j == 34)
/-- a text's reading begins so -/
def mu1 (σ : jM) : pM := fun a j => if a = 347 ∧ j < 208 then bgR j else if a = 322 ∧ (j = 43 ∨ j = 44 ∨ j = 45 ∨ j = 49) then 0 else σ.1 a j
def oX12_load : jO := joRI fun a x σ => (a = 322 ∧ bOK σ ∧ ∀ j, j < 900 → -128 ≤ σ.1 346 j ∧ σ.1 346 j ≤ 127, fun v τ =>
  (mIn x 0 (σ.1 322 32) = false ∧ v = some (.int (-2)) ∧ τ = jup σ 322 11 0) ∨
  (mIn x 0 (σ.1 322 32) = true ∧ match pLoad (σ.1 346) x.toNatClampNeg (mu1 σ) with
    | .inl e => v = some (.int e.1) ∧ ¬ e.1 = 0 ∧ jfr aLd bTk σ τ ∧ τ.1 322 32 = 0 ∧ τ.1 322 33 = nI e.2
    | .inr q => v = some (.int (nI q.1)) ∧ ∃ ρ, jfr aLd bTk σ ρ ∧ ρ.1 322 32 = 0 ∧ ρ.1 322 33 = -1 ∧ rSz ρ ∧ rdA ρ q.2 ∧ jfr aTt b0 ρ τ ∧ tkn ρ τ))
set_option maxRecDepth 100000 in
set_option maxHeartbeats 4000000 in
theorem CLd_loop (g : jG) (n : Nat) {post : Option Value → jM → Prop} {B : Nat → Int32} {L : Nat} : ∀ (d s c : Nat) (μ : pM) (σ : jM), L - s ≤ d → tB σ = B → tL σ = L → rT σ → rSz σ → tk σ s → rdA σ μ → σ.1 322 50 = nI c →
    (∀ τ, jfr aRs bTk σ τ → rT τ → rSz τ → (match pText B L (d + 1) c s μ with
      | .inl e => flt τ e
      | .inr q => (∃ t, tk τ t) ∧ τ.1 322 50 = nI q.1 ∧ rdA τ q.2) → jW g mX12_load (n + 5) post 97 [(0, .ref 322)] [] τ) → jW g mX12_load (n + 5) post 76 [(0, .ref 322)] [] σ := by
  intro d
  induction d with
  | zero =>
    intro s c μ σ hd hB hL h hz hs hμ h50 k
    have f0 := hs.2.1
    have k0 : kn B L s = 0 := kn_0.mpr (by omega)
    have e37 : σ.1 322 37 = 0 := by rw [hs.2.2.2.2.1, hB, hL, k0]; rfl
    have k1 := k σ jfr.rfl h hz (by simp only [pText]; rw [if_pos k0]; exact ⟨⟨s, hs⟩, h50, hμ⟩)
    refine jvk_ok TX12_load (V := [(313, 1, 12, oX12_advance), (381, 1, 12, oX12_readStatement), (384, 1, 12, oX12_takeText)]) (S := [(117, 3, 0, oX12_inRange), (104, 1, 0, oX12_begin)]) (List.forall_mem_cons.mpr ⟨⟨mX12_advance, n + 1, 0, TX12, 53, rfl, by omega, kX12_313, WX12_advance, rfl, CX12_advance g (n)⟩, (List.forall_mem_cons.mpr ⟨⟨mX12_readStatement, n + 4, 0, TX12, 53, rfl, by omega, kX12_381, WX12_readStatement, rfl, CX12_readStatement g (n)⟩, (List.forall_mem_cons.mpr ⟨⟨mX12_takeText, n + 0, 0, TX12, 53, rfl, by omega, kX12_384, WX12_takeText, rfl, CX12_takeText g (n)⟩, (fun _ h => absurd h List.not_mem_nil)⟩)⟩)⟩) (List.forall_mem_cons.mpr ⟨⟨mX12_inRange, n + 0, by omega, Or.inl kX12_117, WX12_inRange, CX12_inRange g (n)⟩, (List.forall_mem_cons.mpr ⟨⟨mX12_begin, n + 0, by omega, Or.inl kX12_104, WX12_begin, CX12_begin g (n)⟩, (fun _ h => absurd h List.not_mem_nil)⟩)⟩) [76, 97] 20 _ _ _ _ ?_
    simp (maxSteps := 1000000) [↓Bool.cond_eq_ite, -Prod.forall, -Prod.exists, -Prod.mk.injEq, jvk, tX12_load, jtb, jol, jst, jlk, jcmp, jbin, jfl, fX12, jc2, lX12, jcat, jel, lv_args, Value.category, jins, jsrt, jins2, jble, jblt, jf3, List.filter_cons, List.filter_nil, G_m, oX12_inRange, oX12_begin, oX12_advance, oX12_readStatement, oX12_takeText, joIII, joR, -Int32.not_le, -Int32.not_lt, -Int64.not_le, -Int64.not_lt, i3lt, i6lt, f0, e37]
    try simp (disch := omega) [-Prod.forall, -Prod.exists, -Prod.mk.injEq, -Int32.not_le, -Int32.not_lt, -Int64.not_le, -Int64.not_lt, i3lt, i6lt, f0, e37]
    exact k1
  | succ d ih =>
    intro s c μ σ hd hB hL h hz hs hμ h50 k
    have f0 := hs.2.1
    by_cases k0 : kn B L s = 0
    · have e37 : σ.1 322 37 = 0 := by rw [hs.2.2.2.2.1, hB, hL, k0]; rfl
      have k1 := k σ jfr.rfl h hz (by simp only [pText]; rw [if_pos k0]; exact ⟨⟨s, hs⟩, h50, hμ⟩)
      refine jvk_ok TX12_load (V := [(313, 1, 12, oX12_advance), (381, 1, 12, oX12_readStatement), (384, 1, 12, oX12_takeText)]) (S := [(117, 3, 0, oX12_inRange), (104, 1, 0, oX12_begin)]) (List.forall_mem_cons.mpr ⟨⟨mX12_advance, n + 1, 0, TX12, 53, rfl, by omega, kX12_313, WX12_advance, rfl, CX12_advance g (n)⟩, (List.forall_mem_cons.mpr ⟨⟨mX12_readStatement, n + 4, 0, TX12, 53, rfl, by omega, kX12_381, WX12_readStatement, rfl, CX12_readStatement g (n)⟩, (List.forall_mem_cons.mpr ⟨⟨mX12_takeText, n + 0, 0, TX12, 53, rfl, by omega, kX12_384, WX12_takeText, rfl, CX12_takeText g (n)⟩, (fun _ h => absurd h List.not_mem_nil)⟩)⟩)⟩) (List.forall_mem_cons.mpr ⟨⟨mX12_inRange, n + 0, by omega, Or.inl kX12_117, WX12_inRange, CX12_inRange g (n)⟩, (List.forall_mem_cons.mpr ⟨⟨mX12_begin, n + 0, by omega, Or.inl kX12_104, WX12_begin, CX12_begin g (n)⟩, (fun _ h => absurd h List.not_mem_nil)⟩)⟩) [76, 97] 20 _ _ _ _ ?_
      simp (maxSteps := 1000000) [↓Bool.cond_eq_ite, -Prod.forall, -Prod.exists, -Prod.mk.injEq, jvk, tX12_load, jtb, jol, jst, jlk, jcmp, jbin, jfl, fX12, jc2, lX12, jcat, jel, lv_args, Value.category, jins, jsrt, jins2, jble, jblt, jf3, List.filter_cons, List.filter_nil, G_m, oX12_inRange, oX12_begin, oX12_advance, oX12_readStatement, oX12_takeText, joIII, joR, -Int32.not_le, -Int32.not_lt, -Int64.not_le, -Int64.not_lt, i3lt, i6lt, f0, e37]
      try simp (disch := omega) [-Prod.forall, -Prod.exists, -Prod.mk.injEq, -Int32.not_le, -Int32.not_lt, -Int64.not_le, -Int64.not_lt, i3lt, i6lt, f0, e37]
      exact k1
    · have e37 : ¬ σ.1 322 37 = 0 := by
        rw [hs.2.2.2.2.1, hB, hL]
        exact fun z => k0 (tkc_0.mp z)
      have hx : ∃ s, tk σ s := ⟨s, hs⟩
      have hsl : s ≤ L := by have := hs.1; omega
      refine jvk_ok TX12_load (V := [(313, 1, 12, oX12_advance), (381, 1, 12, oX12_readStatement), (384, 1, 12, oX12_takeText)]) (S := [(117, 3, 0, oX12_inRange), (104, 1, 0, oX12_begin)]) (List.forall_mem_cons.mpr ⟨⟨mX12_advance, n + 1, 0, TX12, 53, rfl, by omega, kX12_313, WX12_advance, rfl, CX12_advance g (n)⟩, (List.forall_mem_cons.mpr ⟨⟨mX12_readStatement, n + 4, 0, TX12, 53, rfl, by omega, kX12_381, WX12_readStatement, rfl, CX12_readStatement g (n)⟩, (List.forall_mem_cons.mpr ⟨⟨mX12_takeText, n + 0, 0, TX12, 53, rfl, by omega, kX12_384, WX12_takeText, rfl, CX12_takeText g (n)⟩, (fun _ h => absurd h List.not_mem_nil)⟩)⟩)⟩) (List.forall_mem_cons.mpr ⟨⟨mX12_inRange, n + 0, by omega, Or.inl kX12_117, WX12_inRange, CX12_inRange g (n)⟩, (List.forall_mem_cons.mpr ⟨⟨mX12_begin, n + 0, by omega, Or.inl kX12_104, WX12_begin, CX12_begin g (n)⟩, (fun _ h => absurd h List.not_mem_nil)⟩)⟩) [94, 97] 20 _ _ _ _ ?_
      simp (maxSteps := 1000000) [↓Bool.cond_eq_ite, -Prod.forall, -Prod.exists, -Prod.mk.injEq, jvk, tX12_load, jtb, jol, jst, jlk, jcmp, jbin, jfl, fX12, jc2, lX12, jcat, jel, lv_args, Value.category, jins, jsrt, jins2, jble, jblt, jf3, List.filter_cons, List.filter_nil, G_m, oX12_inRange, oX12_begin, oX12_advance, oX12_readStatement, oX12_takeText, joIII, joR, -Int32.not_le, -Int32.not_lt, -Int64.not_le, -Int64.not_lt, i3lt, i6lt, f0, e37, h, hz, hx]
      try simp (disch := omega) [-Prod.forall, -Prod.exists, -Prod.mk.injEq, -Int32.not_le, -Int32.not_lt, -Int64.not_le, -Int64.not_lt, i3lt, i6lt, f0, e37, h, hz, hx]
      intro v1 τ hv1 a1 a2 a3 a4 a5
      subst hv1
      have a5 := a5 s μ hs hμ
      rw [hB, hL] at a5
      have gB : tB τ = B := (funext fun j => a1.2.2 346 j rfl : tB τ = tB σ).trans hB
      have gL : tL τ = L := (by unfold tL; rw [a1.2.2 322 34 rfl] : tL τ = tL σ).trans hL
      rcases eS : pStmt B L s μ with e | q
      · rw [eS] at a5
        have a5 : flt τ e := a5
        have hf : ¬ τ.1 322 41 = 0 := by rw [a5.1]; exact a5.2.1
        have k1 := k τ a1 a2 a3 (by simp only [pText]; rw [if_neg k0, eS]; exact a5)
        refine jvk_ok TX12_load (V := [(313, 1, 12, oX12_advance), (381, 1, 12, oX12_readStatement), (384, 1, 12, oX12_takeText)]) (S := [(117, 3, 0, oX12_inRange), (104, 1, 0, oX12_begin)]) (List.forall_mem_cons.mpr ⟨⟨mX12_advance, n + 1, 0, TX12, 53, rfl, by omega, kX12_313, WX12_advance, rfl, CX12_advance g (n)⟩, (List.forall_mem_cons.mpr ⟨⟨mX12_readStatement, n + 4, 0, TX12, 53, rfl, by omega, kX12_381, WX12_readStatement, rfl, CX12_readStatement g (n)⟩, (List.forall_mem_cons.mpr ⟨⟨mX12_takeText, n + 0, 0, TX12, 53, rfl, by omega, kX12_384, WX12_takeText, rfl, CX12_takeText g (n)⟩, (fun _ h => absurd h List.not_mem_nil)⟩)⟩)⟩) (List.forall_mem_cons.mpr ⟨⟨mX12_inRange, n + 0, by omega, Or.inl kX12_117, WX12_inRange, CX12_inRange g (n)⟩, (List.forall_mem_cons.mpr ⟨⟨mX12_begin, n + 0, by omega, Or.inl kX12_104, WX12_begin, CX12_begin g (n)⟩, (fun _ h => absurd h List.not_mem_nil)⟩)⟩) [76, 97] 20 _ _ _ _ ?_
        simp (maxSteps := 1000000) [↓Bool.cond_eq_ite, -Prod.forall, -Prod.exists, -Prod.mk.injEq, jvk, tX12_load, jtb, jol, jst, jlk, jcmp, jbin, jfl, fX12, jc2, lX12, jcat, jel, lv_args, Value.category, jins, jsrt, jins2, jble, jblt, jf3, List.filter_cons, List.filter_nil, G_m, oX12_inRange, oX12_begin, oX12_advance, oX12_readStatement, oX12_takeText, joIII, joR, -Int32.not_le, -Int32.not_lt, -Int64.not_le, -Int64.not_lt, i3lt, i6lt]
        try simp (disch := omega) [-Prod.forall, -Prod.exists, -Prod.mk.injEq, -Int32.not_le, -Int32.not_lt, -Int64.not_le, -Int64.not_lt, i3lt, i6lt]
        refine jvk_ok TX12_load (V := [(313, 1, 12, oX12_advance), (381, 1, 12, oX12_readStatement), (384, 1, 12, oX12_takeText)]) (S := [(117, 3, 0, oX12_inRange), (104, 1, 0, oX12_begin)]) (List.forall_mem_cons.mpr ⟨⟨mX12_advance, n + 1, 0, TX12, 53, rfl, by omega, kX12_313, WX12_advance, rfl, CX12_advance g (n)⟩, (List.forall_mem_cons.mpr ⟨⟨mX12_readStatement, n + 4, 0, TX12, 53, rfl, by omega, kX12_381, WX12_readStatement, rfl, CX12_readStatement g (n)⟩, (List.forall_mem_cons.mpr ⟨⟨mX12_takeText, n + 0, 0, TX12, 53, rfl, by omega, kX12_384, WX12_takeText, rfl, CX12_takeText g (n)⟩, (fun _ h => absurd h List.not_mem_nil)⟩)⟩)⟩) (List.forall_mem_cons.mpr ⟨⟨mX12_inRange, n + 0, by omega, Or.inl kX12_117, WX12_inRange, CX12_inRange g (n)⟩, (List.forall_mem_cons.mpr ⟨⟨mX12_begin, n + 0, by omega, Or.inl kX12_104, WX12_begin, CX12_begin g (n)⟩, (fun _ h => absurd h List.not_mem_nil)⟩)⟩) [97] 20 _ _ _ _ ?_
        simp (maxSteps := 1000000) [↓Bool.cond_eq_ite, -Prod.forall, -Prod.exists, -Prod.mk.injEq, jvk, tX12_load, jtb, jol, jst, jlk, jcmp, jbin, jfl, fX12, jc2, lX12, jcat, jel, lv_args, Value.category, jins, jsrt, jins2, jble, jblt, jf3, List.filter_cons, List.filter_nil, G_m, oX12_inRange, oX12_begin, oX12_advance, oX12_readStatement, oX12_takeText, joIII, joR, -Int32.not_le, -Int32.not_lt, -Int64.not_le, -Int64.not_lt, i3lt, i6lt, hf]
        try simp (disch := omega) [-Prod.forall, -Prod.exists, -Prod.mk.injEq, -Int32.not_le, -Int32.not_lt, -Int64.not_le, -Int64.not_lt, i3lt, i6lt, hf]
        exact k1
      · rw [eS] at a5
        obtain ⟨b1, b2⟩ := (a5 : tk τ q.1 ∧ rdA τ q.2)
        have hg := pStmt_gt hsl eS
        have k1 := ih q.1 (c + 1) q.2 τ (by omega) gB gL a2 a3 b1 b2 (by rw [a4, h50]; exact nI_1 _) (fun τ' f' r' z' m' => k τ' (a1.tr f') r' z' (by
          have : pText B L (d + 1 + 1) c s μ = pText B L (d + 1) (c + 1) q.1 q.2 := by
            show (if kn B L s = 0 then (Sum.inr (c, μ) : pE ⊕ (Nat × pM)) else match pStmt B L s μ with | Sum.inl e => Sum.inl e | Sum.inr (s', μ') => pText B L (d + 1) (c + 1) s' μ') = _
            rw [if_neg k0, eS]
          rw [this]
          exact m'))
        refine jvk_ok TX12_load (V := [(313, 1, 12, oX12_advance), (381, 1, 12, oX12_readStatement), (384, 1, 12, oX12_takeText)]) (S := [(117, 3, 0, oX12_inRange), (104, 1, 0, oX12_begin)]) (List.forall_mem_cons.mpr ⟨⟨mX12_advance, n + 1, 0, TX12, 53, rfl, by omega, kX12_313, WX12_advance, rfl, CX12_advance g (n)⟩, (List.forall_mem_cons.mpr ⟨⟨mX12_readStatement, n + 4, 0, TX12, 53, rfl, by omega, kX12_381, WX12_readStatement, rfl, CX12_readStatement g (n)⟩, (List.forall_mem_cons.mpr ⟨⟨mX12_takeText, n + 0, 0, TX12, 53, rfl, by omega, kX12_384, WX12_takeText, rfl, CX12_takeText g (n)⟩, (fun _ h => absurd h List.not_mem_nil)⟩)⟩)⟩) (List.forall_mem_cons.mpr ⟨⟨mX12_inRange, n + 0, by omega, Or.inl kX12_117, WX12_inRange, CX12_inRange g (n)⟩, (List.forall_mem_cons.mpr ⟨⟨mX12_begin, n + 0, by omega, Or.inl kX12_104, WX12_begin, CX12_begin g (n)⟩, (fun _ h => absurd h List.not_mem_nil)⟩)⟩) [76, 97] 20 _ _ _ _ ?_
        simp (maxSteps := 1000000) [↓Bool.cond_eq_ite, -Prod.forall, -Prod.exists, -Prod.mk.injEq, jvk, tX12_load, jtb, jol, jst, jlk, jcmp, jbin, jfl, fX12, jc2, lX12, jcat, jel, lv_args, Value.category, jins, jsrt, jins2, jble, jblt, jf3, List.filter_cons, List.filter_nil, G_m, oX12_inRange, oX12_begin, oX12_advance, oX12_readStatement, oX12_takeText, joIII, joR, -Int32.not_le, -Int32.not_lt, -Int64.not_le, -Int64.not_lt, i3lt, i6lt]
        try simp (disch := omega) [-Prod.forall, -Prod.exists, -Prod.mk.injEq, -Int32.not_le, -Int32.not_lt, -Int64.not_le, -Int64.not_lt, i3lt, i6lt]
        exact k1
set_option maxRecDepth 100000 in
set_option maxHeartbeats 4000000 in
theorem CX12_load (g : jG) (n : Nat) : jOk g (n + 5) mX12_load oX12_load := by
  refine joRI_ok ?_
  rintro _ x σ ⟨rfl, hb, hby⟩
  obtain ⟨hb1, hb2⟩ := bf_ok hb
  by_cases h : mIn x 0 (σ.1 322 32) = true
  · obtain ⟨L, hL, eL⟩ : ∃ L, L ≤ bfN σ ∧ x = nI L := by
      simp only [mIn, decide_eq_true_eq] at h
      rw [hb2] at h
      obtain ⟨j, hj1, hj2⟩ := nI_of (x := x) (by grind)
      rw [hj2] at h
      exact ⟨j, (nI_leI hj1 (by omega)).mp h.2, hj2⟩
    subst eL
    have ecL : (nI L).toNatClampNeg = L := nI_clamp (by omega)
    have h7 : (347 : Nat) = 323 ∨ (347 : Nat) = 347 := Or.inr rfl
    refine jCon.ofP (by decide +kernel) (by simp [lg_sl, Value.category]) (fun post hp => ?_)
    refine jvk_ok TX12_load (V := [(313, 1, 12, oX12_advance), (381, 1, 12, oX12_readStatement), (384, 1, 12, oX12_takeText)]) (S := [(117, 3, 0, oX12_inRange), (104, 1, 0, oX12_begin)]) (List.forall_mem_cons.mpr ⟨⟨mX12_advance, n + 1, 0, TX12, 53, rfl, by omega, kX12_313, WX12_advance, rfl, CX12_advance g (n)⟩, (List.forall_mem_cons.mpr ⟨⟨mX12_readStatement, n + 4, 0, TX12, 53, rfl, by omega, kX12_381, WX12_readStatement, rfl, CX12_readStatement g (n)⟩, (List.forall_mem_cons.mpr ⟨⟨mX12_takeText, n + 0, 0, TX12, 53, rfl, by omega, kX12_384, WX12_takeText, rfl, CX12_takeText g (n)⟩, (fun _ h => absurd h List.not_mem_nil)⟩)⟩)⟩) (List.forall_mem_cons.mpr ⟨⟨mX12_inRange, n + 0, by omega, Or.inl kX12_117, WX12_inRange, CX12_inRange g (n)⟩, (List.forall_mem_cons.mpr ⟨⟨mX12_begin, n + 0, by omega, Or.inl kX12_104, WX12_begin, CX12_begin g (n)⟩, (fun _ h => absurd h List.not_mem_nil)⟩)⟩) [27] 40 _ _ _ _ ?_
    simp (maxSteps := 1000000) [↓Bool.cond_eq_ite, -Prod.forall, -Prod.exists, -Prod.mk.injEq, jvk, tX12_load, jtb, jol, jst, jlk, jcmp, jbin, jfl, fX12, jc2, lX12, jcat, jel, lv_args, Value.category, jins, jsrt, jins2, jble, jblt, jf3, List.filter_cons, List.filter_nil, G_m, oX12_inRange, oX12_begin, oX12_advance, oX12_readStatement, oX12_takeText, joIII, joR, -Int32.not_le, -Int32.not_lt, -Int64.not_le, -Int64.not_lt, i3lt, i6lt, h, jup_1, h7]
    try simp (disch := omega) [-Prod.forall, -Prod.exists, -Prod.mk.injEq, -Int32.not_le, -Int32.not_lt, -Int64.not_le, -Int64.not_lt, i3lt, i6lt, h, jup_1, h7]
    rw [ecL] at hp
    intro v0 τ0 hv0 f0 hbg
    subst hv0
    obtain ⟨ρ, eρ⟩ : ∃ ρ, ρ = jup (jup (jup (jup (jup (jup (jup (jup (jup τ0 322 43 0) 322 44 0) 322 45 0) 322 49 0) 322 50 0) 322 34 (nI L)) 322 32 0) 322 35 0) 322 41 0 := ⟨_, rfl⟩
    have fth : jfr aLd bTk σ (jup σ 322 11 0) := jfr.rfl.up _ rfl
    have fρ : jfr aLd bTk σ ρ := by
      rw [eρ]
      refine (((((((((fth.tr (f0.weak (fun a j q => ?_) (fun _ _ => rfl))).up _ rfl).up _ rfl).up _ rfl).up _ rfl).up _ rfl).up _ rfl).up _ rfl).up _ rfl).up _ rfl
      unfold aLd aRs aRd at q
      unfold aBg
      simp only [Bool.or_eq_false_iff] at q
      simp [q]
    have p34 : ρ.1 322 34 = nI L := by rw [eρ]; simp [jup_1]
    have p35 : ρ.1 322 35 = 0 := by rw [eρ]; simp [jup_1]
    have p41 : ρ.1 322 41 = 0 := by rw [eρ]; simp [jup_1]
    have p32 : ρ.1 322 32 = 0 := by rw [eρ]; simp [jup_1]
    have p50 : ρ.1 322 50 = nI 0 := by rw [eρ, nI_0]; simp [jup_1]
    have gB : tB ρ = σ.1 346 := funext fun j => fρ.2.2 346 j rfl
    have gL : tL ρ = L := by unfold tL; rw [p34, ecL]
    have gE : tE ρ = 0 := by unfold tE; rw [p35]; rfl
    have rρ : rT ρ := ⟨by rw [p34]; exact ⟨nI_pos' (by omega), nI_le (b := 900) (by omega) (by decide)⟩, by rw [p35]; decide, by rw [gE]; omega, fun j hj => by rw [fρ.2.2 346 j rfl]; exact hby j hj⟩
    have zρ : rSz ρ := by
      have a43 : ρ.1 322 43 = 0 := by rw [eρ]; simp [jup_1]
      have a44 : ρ.1 322 44 = 0 := by rw [eρ]; simp [jup_1]
      have a45 : ρ.1 322 45 = 0 := by rw [eρ]; simp [jup_1]
      unfold rSz
      rw [a43, a44, a45]
      decide
    have mρ : rdA ρ (mu1 σ) := fun a j q => by
      unfold mu1
      by_cases e7 : a = 347 ∧ j < 208
      · rw [if_pos e7, eρ]
        simp only [jup_1]
        rw [e7.1]
        simpa using hbg j e7.2
      · rw [if_neg e7]
        by_cases e2 : a = 322 ∧ (j = 43 ∨ j = 44 ∨ j = 45 ∨ j = 49)
        · rw [if_pos e2, eρ, e2.1]
          simp only [jup_1]
          rcases e2.2 with e | e | e | e <;> subst e <;> simp
        · rw [if_neg e2, eρ]
          unfold aMu at q
          simp only [Bool.or_eq_true, Bool.and_eq_true, beq_iff_eq] at q
          have n2 : ¬ a = 322 := fun z => by omega
          simp only [jup_1, n2, false_and, if_false]
          rw [f0.2.2 a j (by unfold aBg; rw [jble]; simp; omega), jup_1, if_neg (fun z => n2 z.1)]
    refine jvk_ok TX12_load (V := [(313, 1, 12, oX12_advance), (381, 1, 12, oX12_readStatement), (384, 1, 12, oX12_takeText)]) (S := [(117, 3, 0, oX12_inRange), (104, 1, 0, oX12_begin)]) (List.forall_mem_cons.mpr ⟨⟨mX12_advance, n + 1, 0, TX12, 53, rfl, by omega, kX12_313, WX12_advance, rfl, CX12_advance g (n)⟩, (List.forall_mem_cons.mpr ⟨⟨mX12_readStatement, n + 4, 0, TX12, 53, rfl, by omega, kX12_381, WX12_readStatement, rfl, CX12_readStatement g (n)⟩, (List.forall_mem_cons.mpr ⟨⟨mX12_takeText, n + 0, 0, TX12, 53, rfl, by omega, kX12_384, WX12_takeText, rfl, CX12_takeText g (n)⟩, (fun _ h => absurd h List.not_mem_nil)⟩)⟩)⟩) (List.forall_mem_cons.mpr ⟨⟨mX12_inRange, n + 0, by omega, Or.inl kX12_117, WX12_inRange, CX12_inRange g (n)⟩, (List.forall_mem_cons.mpr ⟨⟨mX12_begin, n + 0, by omega, Or.inl kX12_104, WX12_begin, CX12_begin g (n)⟩, (fun _ h => absurd h List.not_mem_nil)⟩)⟩) [72] 60 _ _ _ _ ?_
    simp (maxSteps := 1000000) [↓Bool.cond_eq_ite, -Prod.forall, -Prod.exists, -Prod.mk.injEq, jvk, tX12_load, jtb, jol, jst, jlk, jcmp, jbin, jfl, fX12, jc2, lX12, jcat, jel, lv_args, Value.category, jins, jsrt, jins2, jble, jblt, jf3, List.filter_cons, List.filter_nil, G_m, oX12_inRange, oX12_begin, oX12_advance, oX12_readStatement, oX12_takeText, joIII, joR, -Int32.not_le, -Int32.not_lt, -Int64.not_le, -Int64.not_lt, i3lt, i6lt, jup_1]
    try simp (disch := omega) [-Prod.forall, -Prod.exists, -Prod.mk.injEq, -Int32.not_le, -Int32.not_lt, -Int64.not_le, -Int64.not_lt, i3lt, i6lt, jup_1]
    rw [← eρ]
    refine jvk_ok TX12_load (V := [(313, 1, 12, oX12_advance), (381, 1, 12, oX12_readStatement), (384, 1, 12, oX12_takeText)]) (S := [(117, 3, 0, oX12_inRange), (104, 1, 0, oX12_begin)]) (List.forall_mem_cons.mpr ⟨⟨mX12_advance, n + 1, 0, TX12, 53, rfl, by omega, kX12_313, WX12_advance, rfl, CX12_advance g (n)⟩, (List.forall_mem_cons.mpr ⟨⟨mX12_readStatement, n + 4, 0, TX12, 53, rfl, by omega, kX12_381, WX12_readStatement, rfl, CX12_readStatement g (n)⟩, (List.forall_mem_cons.mpr ⟨⟨mX12_takeText, n + 0, 0, TX12, 53, rfl, by omega, kX12_384, WX12_takeText, rfl, CX12_takeText g (n)⟩, (fun _ h => absurd h List.not_mem_nil)⟩)⟩)⟩) (List.forall_mem_cons.mpr ⟨⟨mX12_inRange, n + 0, by omega, Or.inl kX12_117, WX12_inRange, CX12_inRange g (n)⟩, (List.forall_mem_cons.mpr ⟨⟨mX12_begin, n + 0, by omega, Or.inl kX12_104, WX12_begin, CX12_begin g (n)⟩, (fun _ h => absurd h List.not_mem_nil)⟩)⟩) [76] 60 _ _ _ _ ?_
    simp (maxSteps := 1000000) [↓Bool.cond_eq_ite, -Prod.forall, -Prod.exists, -Prod.mk.injEq, jvk, tX12_load, jtb, jol, jst, jlk, jcmp, jbin, jfl, fX12, jc2, lX12, jcat, jel, lv_args, Value.category, jins, jsrt, jins2, jble, jblt, jf3, List.filter_cons, List.filter_nil, G_m, oX12_inRange, oX12_begin, oX12_advance, oX12_readStatement, oX12_takeText, joIII, joR, -Int32.not_le, -Int32.not_lt, -Int64.not_le, -Int64.not_lt, i3lt, i6lt, rρ]
    try simp (disch := omega) [-Prod.forall, -Prod.exists, -Prod.mk.injEq, -Int32.not_le, -Int32.not_lt, -Int64.not_le, -Int64.not_lt, i3lt, i6lt, rρ]
    intro v1 τ1 hv1 a1 a2
    subst hv1
    obtain ⟨b1, b2, b3⟩ := a2 p41
    rw [gB, gL, gE] at b3
    have w1 : jfr aIn bTk ρ τ1 := b1.weak (fun a j q => in_Tk a j q) (fun _ q => q)
    have gB1 : tB τ1 = σ.1 346 := (in_fr w1).1.trans gB
    have gL1 : tL τ1 = L := (in_fr w1).2.trans gL
    have z1 : rSz τ1 := rSz_fr zρ w1 rfl rfl rfl
    refine jW.mono (L' := [(0, .ref 322)]) (CLd_loop g n (B := σ.1 346) (L := L) L (rn (σ.1 346) L 1 0) 0 (mu1 σ) τ1 (by omega) gB1 gL1 b2 z1 b3 (rdA_fr mρ w1) ((w1.2.2 322 50 rfl).trans p50) (fun τ f r z m => ?_)) (by simp)
    have fτ : jfr aLd bTk σ τ := (fρ.tr (w1.weak (fun a j q => rd_In a j (rs_Rd a j (by unfold aLd at q; simp only [Bool.or_eq_false_iff] at q; exact q.1))) (fun _ q => q))).tr (f.weak (fun a j q => by unfold aLd at q; simp only [Bool.or_eq_false_iff] at q; exact q.1) (fun _ q => q))
    have e32 : τ.1 322 32 = 0 := (f.2.2 322 32 rfl).trans ((w1.2.2 322 32 rfl).trans p32)
    have hp' : ∀ v τ, (match pLoad (σ.1 346) L (mu1 σ) with | .inl e => v = some (.int e.1) ∧ ¬ e.1 = 0 ∧ jfr aLd bTk σ τ ∧ τ.1 322 32 = 0 ∧ τ.1 322 33 = nI e.2 | .inr q => v = some (.int (nI q.1)) ∧ ∃ ρ, jfr aLd bTk σ ρ ∧ ρ.1 322 32 = 0 ∧ ρ.1 322 33 = -1 ∧ rSz ρ ∧ rdA ρ q.2 ∧ jfr aTt b0 ρ τ ∧ tkn ρ τ) → post v τ := fun v τ q => hp v τ (Or.inr ⟨h, q⟩)
    unfold pLoad at hp'
    rcases eT : pText (σ.1 346) L (L + 1) 0 (rn (σ.1 346) L 1 0) (mu1 σ) with e | q
    · rw [eT] at m hp'
      have m : flt τ e := m
      have hf : ¬ τ.1 322 41 = 0 := by rw [m.1]; exact m.2.1
      have e36 := m.2.2
      have e41 := m.1
      have ne0 := m.2.1
      have k1 := hp' (some (.int e.1)) (jup τ 322 33 (nI e.2)) ⟨rfl, m.2.1, fτ.up _ rfl, by rw [jup_1, if_neg (by decide)]; exact e32, by rw [jup_1, if_pos ⟨rfl, rfl⟩]⟩
      refine jvk_ok TX12_load (V := [(313, 1, 12, oX12_advance), (381, 1, 12, oX12_readStatement), (384, 1, 12, oX12_takeText)]) (S := [(117, 3, 0, oX12_inRange), (104, 1, 0, oX12_begin)]) (List.forall_mem_cons.mpr ⟨⟨mX12_advance, n + 1, 0, TX12, 53, rfl, by omega, kX12_313, WX12_advance, rfl, CX12_advance g (n)⟩, (List.forall_mem_cons.mpr ⟨⟨mX12_readStatement, n + 4, 0, TX12, 53, rfl, by omega, kX12_381, WX12_readStatement, rfl, CX12_readStatement g (n)⟩, (List.forall_mem_cons.mpr ⟨⟨mX12_takeText, n + 0, 0, TX12, 53, rfl, by omega, kX12_384, WX12_takeText, rfl, CX12_takeText g (n)⟩, (fun _ h => absurd h List.not_mem_nil)⟩)⟩)⟩) (List.forall_mem_cons.mpr ⟨⟨mX12_inRange, n + 0, by omega, Or.inl kX12_117, WX12_inRange, CX12_inRange g (n)⟩, (List.forall_mem_cons.mpr ⟨⟨mX12_begin, n + 0, by omega, Or.inl kX12_104, WX12_begin, CX12_begin g (n)⟩, (fun _ h => absurd h List.not_mem_nil)⟩)⟩) [] 60 _ _ _ _ ?_
      simp (maxSteps := 1000000) [↓Bool.cond_eq_ite, -Prod.forall, -Prod.exists, -Prod.mk.injEq, jvk, tX12_load, jtb, jol, jst, jlk, jcmp, jbin, jfl, fX12, jc2, lX12, jcat, jel, lv_args, Value.category, jins, jsrt, jins2, jble, jblt, jf3, List.filter_cons, List.filter_nil, G_m, oX12_inRange, oX12_begin, oX12_advance, oX12_readStatement, oX12_takeText, joIII, joR, -Int32.not_le, -Int32.not_lt, -Int64.not_le, -Int64.not_lt, i3lt, i6lt, e41, ne0, e36, jup_1]
      try simp (disch := omega) [-Prod.forall, -Prod.exists, -Prod.mk.injEq, -Int32.not_le, -Int32.not_lt, -Int64.not_le, -Int64.not_lt, i3lt, i6lt, e41, ne0, e36, jup_1]
      exact k1
    · rw [eT] at m hp'
      obtain ⟨⟨t, ht⟩, m2, m3⟩ := (m : (∃ t, tk τ t) ∧ τ.1 322 50 = nI q.1 ∧ rdA τ q.2)
      have f41 := ht.2.1
      obtain ⟨ν, eν⟩ : ∃ ν, ν = jup τ 322 33 (-1) := ⟨_, rfl⟩
      have zν : rSz ν := by rw [eν]; exact z
      have n41 : ν.1 322 41 = 0 := by rw [eν]; exact f41
      refine jvk_ok TX12_load (V := [(313, 1, 12, oX12_advance), (381, 1, 12, oX12_readStatement), (384, 1, 12, oX12_takeText)]) (S := [(117, 3, 0, oX12_inRange), (104, 1, 0, oX12_begin)]) (List.forall_mem_cons.mpr ⟨⟨mX12_advance, n + 1, 0, TX12, 53, rfl, by omega, kX12_313, WX12_advance, rfl, CX12_advance g (n)⟩, (List.forall_mem_cons.mpr ⟨⟨mX12_readStatement, n + 4, 0, TX12, 53, rfl, by omega, kX12_381, WX12_readStatement, rfl, CX12_readStatement g (n)⟩, (List.forall_mem_cons.mpr ⟨⟨mX12_takeText, n + 0, 0, TX12, 53, rfl, by omega, kX12_384, WX12_takeText, rfl, CX12_takeText g (n)⟩, (fun _ h => absurd h List.not_mem_nil)⟩)⟩)⟩) (List.forall_mem_cons.mpr ⟨⟨mX12_inRange, n + 0, by omega, Or.inl kX12_117, WX12_inRange, CX12_inRange g (n)⟩, (List.forall_mem_cons.mpr ⟨⟨mX12_begin, n + 0, by omega, Or.inl kX12_104, WX12_begin, CX12_begin g (n)⟩, (fun _ h => absurd h List.not_mem_nil)⟩)⟩) [113] 60 _ _ _ _ ?_
      simp (maxSteps := 1000000) [↓Bool.cond_eq_ite, -Prod.forall, -Prod.exists, -Prod.mk.injEq, jvk, tX12_load, jtb, jol, jst, jlk, jcmp, jbin, jfl, fX12, jc2, lX12, jcat, jel, lv_args, Value.category, jins, jsrt, jins2, jble, jblt, jf3, List.filter_cons, List.filter_nil, G_m, oX12_inRange, oX12_begin, oX12_advance, oX12_readStatement, oX12_takeText, joIII, joR, -Int32.not_le, -Int32.not_lt, -Int64.not_le, -Int64.not_lt, i3lt, i6lt, f41]
      try simp (disch := omega) [-Prod.forall, -Prod.exists, -Prod.mk.injEq, -Int32.not_le, -Int32.not_lt, -Int64.not_le, -Int64.not_lt, i3lt, i6lt, f41]
      refine jvk_ok TX12_load (V := [(313, 1, 12, oX12_advance), (381, 1, 12, oX12_readStatement), (384, 1, 12, oX12_takeText)]) (S := [(117, 3, 0, oX12_inRange), (104, 1, 0, oX12_begin)]) (List.forall_mem_cons.mpr ⟨⟨mX12_advance, n + 1, 0, TX12, 53, rfl, by omega, kX12_313, WX12_advance, rfl, CX12_advance g (n)⟩, (List.forall_mem_cons.mpr ⟨⟨mX12_readStatement, n + 4, 0, TX12, 53, rfl, by omega, kX12_381, WX12_readStatement, rfl, CX12_readStatement g (n)⟩, (List.forall_mem_cons.mpr ⟨⟨mX12_takeText, n + 0, 0, TX12, 53, rfl, by omega, kX12_384, WX12_takeText, rfl, CX12_takeText g (n)⟩, (fun _ h => absurd h List.not_mem_nil)⟩)⟩)⟩) (List.forall_mem_cons.mpr ⟨⟨mX12_inRange, n + 0, by omega, Or.inl kX12_117, WX12_inRange, CX12_inRange g (n)⟩, (List.forall_mem_cons.mpr ⟨⟨mX12_begin, n + 0, by omega, Or.inl kX12_104, WX12_begin, CX12_begin g (n)⟩, (fun _ h => absurd h List.not_mem_nil)⟩)⟩) [116] 60 _ _ _ _ ?_
      simp (maxSteps := 1000000) [↓Bool.cond_eq_ite, -Prod.forall, -Prod.exists, -Prod.mk.injEq, jvk, tX12_load, jtb, jol, jst, jlk, jcmp, jbin, jfl, fX12, jc2, lX12, jcat, jel, lv_args, Value.category, jins, jsrt, jins2, jble, jblt, jf3, List.filter_cons, List.filter_nil, G_m, oX12_inRange, oX12_begin, oX12_advance, oX12_readStatement, oX12_takeText, joIII, joR, -Int32.not_le, -Int32.not_lt, -Int64.not_le, -Int64.not_lt, i3lt, i6lt]
      try simp (disch := omega) [-Prod.forall, -Prod.exists, -Prod.mk.injEq, -Int32.not_le, -Int32.not_lt, -Int64.not_le, -Int64.not_lt, i3lt, i6lt]
      rw [← eν]
      refine jvk_ok TX12_load (V := [(313, 1, 12, oX12_advance), (381, 1, 12, oX12_readStatement), (384, 1, 12, oX12_takeText)]) (S := [(117, 3, 0, oX12_inRange), (104, 1, 0, oX12_begin)]) (List.forall_mem_cons.mpr ⟨⟨mX12_advance, n + 1, 0, TX12, 53, rfl, by omega, kX12_313, WX12_advance, rfl, CX12_advance g (n)⟩, (List.forall_mem_cons.mpr ⟨⟨mX12_readStatement, n + 4, 0, TX12, 53, rfl, by omega, kX12_381, WX12_readStatement, rfl, CX12_readStatement g (n)⟩, (List.forall_mem_cons.mpr ⟨⟨mX12_takeText, n + 0, 0, TX12, 53, rfl, by omega, kX12_384, WX12_takeText, rfl, CX12_takeText g (n)⟩, (fun _ h => absurd h List.not_mem_nil)⟩)⟩)⟩) (List.forall_mem_cons.mpr ⟨⟨mX12_inRange, n + 0, by omega, Or.inl kX12_117, WX12_inRange, CX12_inRange g (n)⟩, (List.forall_mem_cons.mpr ⟨⟨mX12_begin, n + 0, by omega, Or.inl kX12_104, WX12_begin, CX12_begin g (n)⟩, (fun _ h => absurd h List.not_mem_nil)⟩)⟩) [132] 60 _ _ _ _ ?_
      simp (maxSteps := 1000000) [↓Bool.cond_eq_ite, -Prod.forall, -Prod.exists, -Prod.mk.injEq, jvk, tX12_load, jtb, jol, jst, jlk, jcmp, jbin, jfl, fX12, jc2, lX12, jcat, jel, lv_args, Value.category, jins, jsrt, jins2, jble, jblt, jf3, List.filter_cons, List.filter_nil, G_m, oX12_inRange, oX12_begin, oX12_advance, oX12_readStatement, oX12_takeText, joIII, joR, -Int32.not_le, -Int32.not_lt, -Int64.not_le, -Int64.not_lt, i3lt, i6lt, n41, zν]
      try simp (disch := omega) [-Prod.forall, -Prod.exists, -Prod.mk.injEq, -Int32.not_le, -Int32.not_lt, -Int64.not_le, -Int64.not_lt, i3lt, i6lt, n41, zν]
      intro v2 τ2 hv2 d1 d2
      subst hv2
      have e50 : τ2.1 322 50 = nI q.1 := (d1.2.2 322 50 rfl).trans (by rw [eν]; exact m2)
      have k1 := hp' (some (.int (nI q.1))) τ2 ⟨rfl, ν, by rw [eν]; exact fτ.up _ rfl, by rw [eν]; exact e32, by rw [eν]; rfl, zν, by rw [eν]; exact rdA_to m3 _ rfl, d1, d2⟩
      refine jvk_ok TX12_load (V := [(313, 1, 12, oX12_advance), (381, 1, 12, oX12_readStatement), (384, 1, 12, oX12_takeText)]) (S := [(117, 3, 0, oX12_inRange), (104, 1, 0, oX12_begin)]) (List.forall_mem_cons.mpr ⟨⟨mX12_advance, n + 1, 0, TX12, 53, rfl, by omega, kX12_313, WX12_advance, rfl, CX12_advance g (n)⟩, (List.forall_mem_cons.mpr ⟨⟨mX12_readStatement, n + 4, 0, TX12, 53, rfl, by omega, kX12_381, WX12_readStatement, rfl, CX12_readStatement g (n)⟩, (List.forall_mem_cons.mpr ⟨⟨mX12_takeText, n + 0, 0, TX12, 53, rfl, by omega, kX12_384, WX12_takeText, rfl, CX12_takeText g (n)⟩, (fun _ h => absurd h List.not_mem_nil)⟩)⟩)⟩) (List.forall_mem_cons.mpr ⟨⟨mX12_inRange, n + 0, by omega, Or.inl kX12_117, WX12_inRange, CX12_inRange g (n)⟩, (List.forall_mem_cons.mpr ⟨⟨mX12_begin, n + 0, by omega, Or.inl kX12_104, WX12_begin, CX12_begin g (n)⟩, (fun _ h => absurd h List.not_mem_nil)⟩)⟩) [] 60 _ _ _ _ ?_
      simp (maxSteps := 1000000) [↓Bool.cond_eq_ite, -Prod.forall, -Prod.exists, -Prod.mk.injEq, jvk, tX12_load, jtb, jol, jst, jlk, jcmp, jbin, jfl, fX12, jc2, lX12, jcat, jel, lv_args, Value.category, jins, jsrt, jins2, jble, jblt, jf3, List.filter_cons, List.filter_nil, G_m, oX12_inRange, oX12_begin, oX12_advance, oX12_readStatement, oX12_takeText, joIII, joR, -Int32.not_le, -Int32.not_lt, -Int64.not_le, -Int64.not_lt, i3lt, i6lt, e50]
      try simp (disch := omega) [-Prod.forall, -Prod.exists, -Prod.mk.injEq, -Int32.not_le, -Int32.not_lt, -Int64.not_le, -Int64.not_lt, i3lt, i6lt, e50]
      exact k1
  · refine jCon.ofP (by decide +kernel) (by simp [lg_sl, Value.category]) (fun post hp => ?_)
    refine jvk_ok TX12_load (V := [(313, 1, 12, oX12_advance), (381, 1, 12, oX12_readStatement), (384, 1, 12, oX12_takeText)]) (S := [(117, 3, 0, oX12_inRange), (104, 1, 0, oX12_begin)]) (List.forall_mem_cons.mpr ⟨⟨mX12_advance, n + 1, 0, TX12, 53, rfl, by omega, kX12_313, WX12_advance, rfl, CX12_advance g (n)⟩, (List.forall_mem_cons.mpr ⟨⟨mX12_readStatement, n + 4, 0, TX12, 53, rfl, by omega, kX12_381, WX12_readStatement, rfl, CX12_readStatement g (n)⟩, (List.forall_mem_cons.mpr ⟨⟨mX12_takeText, n + 0, 0, TX12, 53, rfl, by omega, kX12_384, WX12_takeText, rfl, CX12_takeText g (n)⟩, (fun _ h => absurd h List.not_mem_nil)⟩)⟩)⟩) (List.forall_mem_cons.mpr ⟨⟨mX12_inRange, n + 0, by omega, Or.inl kX12_117, WX12_inRange, CX12_inRange g (n)⟩, (List.forall_mem_cons.mpr ⟨⟨mX12_begin, n + 0, by omega, Or.inl kX12_104, WX12_begin, CX12_begin g (n)⟩, (fun _ h => absurd h List.not_mem_nil)⟩)⟩) [] 40 _ _ _ _ ?_
    simp (maxSteps := 1000000) [↓Bool.cond_eq_ite, -Prod.forall, -Prod.exists, -Prod.mk.injEq, jvk, tX12_load, jtb, jol, jst, jlk, jcmp, jbin, jfl, fX12, jc2, lX12, jcat, jel, lv_args, Value.category, jins, jsrt, jins2, jble, jblt, jf3, List.filter_cons, List.filter_nil, G_m, oX12_inRange, oX12_begin, oX12_advance, oX12_readStatement, oX12_takeText, joIII, joR, -Int32.not_le, -Int32.not_lt, -Int64.not_le, -Int64.not_lt, i3lt, i6lt, jup_1, h]
    try simp (disch := omega) [-Prod.forall, -Prod.exists, -Prod.mk.injEq, -Int32.not_le, -Int32.not_lt, -Int64.not_le, -Int64.not_lt, i3lt, i6lt, jup_1, h]
    exact hp _ _ (Or.inl ⟨by simpa using h, rfl, rfl⟩)
