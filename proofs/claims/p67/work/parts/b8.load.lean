/-! Loader: a setting -/
def sW (k : Nat) : Int32 := if k = 3 then -1 else nI k
def oX4_settingHere : jO := joR fun a σ => (a = 1 ∧ kT σ ∧ ∃ s, toP σ s, fun v τ => τ = σ ∧ ∀ s, toP σ s → v = some (.int (sW (pWhich (σ.1 3) (kLn σ) s))))
set_option maxRecDepth 100000 in
set_option maxHeartbeats 4000000 in
theorem CX4_settingHere (g : jG) (n : Nat) (hE : jEs g) : jOk g (n + 6) mX4_settingHere oX4_settingHere := by
  refine joR_ok ?_
  rintro _ σ ⟨rfl, hT, s, hs⟩
  have hcl := toP_c hT hs
  have fin : ∀ post : Option Value → jM → Prop, (∀ v τ, (τ = σ ∧ ∀ s, toP σ s → v = some (.int (sW (pWhich (σ.1 3) (kLn σ) s)))) → post v τ) → ∀ x, x = sW (pWhich (σ.1 3) (kLn σ) s) → post (some (.int x)) σ := fun post hp x hx => hp _ _ ⟨rfl, fun t ht => by rw [toP_inj hT ht hs, hx]⟩
  refine jCon.ofP (by decide +kernel) (by simp [lg_sl, Value.category]) (fun post hp => ?_)
  refine jvk_ok TX4_settingHere (V := [(81, 2, 10, oX10_isWord)]) (S := []) (List.forall_mem_cons.mpr ⟨⟨mX10_isWord, n + 5, 1, TX10, 6, rfl, by omega, kX4_81, WX10_isWord, rfl, CX10_isWord g (n) hE⟩, (fun _ h => absurd h List.not_mem_nil)⟩) (fun _ h => absurd h List.not_mem_nil) [4] 10 _ _ _ _ ?_
  simp (maxSteps := 1000000) [↓Bool.cond_eq_ite, -Prod.forall, -Prod.exists, -Prod.mk.injEq, jvk, tX4_settingHere, jtb, jol, jst, jlk, jcmp, jbin, jfl, fX4, jc2, lX4, jcat, jel, lv_args, Value.category, jins, jsrt, jins2, jble, jblt, jf3, List.filter_cons, List.filter_nil, G_loader, G_lflat, G_lroster, oX10_isWord, joRR, -Int32.not_le, -Int32.not_lt, -Int64.not_le, -Int64.not_lt, i3lt, i6lt]
  try simp (disch := omega) [-Prod.forall, -Prod.exists, -Prod.mk.injEq, -Int32.not_le, -Int32.not_lt, -Int64.not_le, -Int64.not_lt, i3lt, i6lt]
  have fin := fin post hp
  refine jr_ldcS (i := 7) hE (by decide) rfl rfl (by decide +kernel) ?_
  by_cases c1 : isW (σ.1 3) (kLn σ) s wMethod = true
  · have k1 := fin 0 (by unfold sW pWhich; rw [if_pos c1]; rfl)
    have d1 : isW (σ.1 3) (kLn σ) s (stW 7) = true := c1
    refine jvk_ok TX4_settingHere (V := [(81, 2, 10, oX10_isWord)]) (S := []) (List.forall_mem_cons.mpr ⟨⟨mX10_isWord, n + 5, 1, TX10, 6, rfl, by omega, kX4_81, WX10_isWord, rfl, CX10_isWord g (n) hE⟩, (fun _ h => absurd h List.not_mem_nil)⟩) (fun _ h => absurd h List.not_mem_nil) [] 20 _ _ _ _ ?_
    simp (maxSteps := 1000000) [↓Bool.cond_eq_ite, -Prod.forall, -Prod.exists, -Prod.mk.injEq, jvk, tX4_settingHere, jtb, jol, jst, jlk, jcmp, jbin, jfl, fX4, jc2, lX4, jcat, jel, lv_args, Value.category, jins, jsrt, jins2, jble, jblt, jf3, List.filter_cons, List.filter_nil, G_loader, G_lflat, G_lroster, oX10_isWord, joRR, -Int32.not_le, -Int32.not_lt, -Int64.not_le, -Int64.not_lt, i3lt, i6lt, hT, hs, hcl, d1]
    try simp (disch := omega) [-Prod.forall, -Prod.exists, -Prod.mk.injEq, -Int32.not_le, -Int32.not_lt, -Int64.not_le, -Int64.not_lt, i3lt, i6lt, hT, hs, hcl, d1]
    exact k1
  · have d1 : ¬ isW (σ.1 3) (kLn σ) s (stW 7) = true := c1
    refine jvk_ok TX4_settingHere (V := [(81, 2, 10, oX10_isWord)]) (S := []) (List.forall_mem_cons.mpr ⟨⟨mX10_isWord, n + 5, 1, TX10, 6, rfl, by omega, kX4_81, WX10_isWord, rfl, CX10_isWord g (n) hE⟩, (fun _ h => absurd h List.not_mem_nil)⟩) (fun _ h => absurd h List.not_mem_nil) [18] 20 _ _ _ _ ?_
    simp (maxSteps := 1000000) [↓Bool.cond_eq_ite, -Prod.forall, -Prod.exists, -Prod.mk.injEq, jvk, tX4_settingHere, jtb, jol, jst, jlk, jcmp, jbin, jfl, fX4, jc2, lX4, jcat, jel, lv_args, Value.category, jins, jsrt, jins2, jble, jblt, jf3, List.filter_cons, List.filter_nil, G_loader, G_lflat, G_lroster, oX10_isWord, joRR, -Int32.not_le, -Int32.not_lt, -Int64.not_le, -Int64.not_lt, i3lt, i6lt, hT, hs, hcl, d1]
    try simp (disch := omega) [-Prod.forall, -Prod.exists, -Prod.mk.injEq, -Int32.not_le, -Int32.not_lt, -Int64.not_le, -Int64.not_lt, i3lt, i6lt, hT, hs, hcl, d1]
    refine jr_ldcS (i := 8) hE (by decide) rfl rfl (by decide +kernel) ?_
    by_cases c2 : isW (σ.1 3) (kLn σ) s wShare = true
    · have k1 := fin 1 (by unfold sW pWhich; rw [if_neg c1, if_pos c2]; rfl)
      have d2 : isW (σ.1 3) (kLn σ) s (stW 8) = true := c2
      refine jvk_ok TX4_settingHere (V := [(81, 2, 10, oX10_isWord)]) (S := []) (List.forall_mem_cons.mpr ⟨⟨mX10_isWord, n + 5, 1, TX10, 6, rfl, by omega, kX4_81, WX10_isWord, rfl, CX10_isWord g (n) hE⟩, (fun _ h => absurd h List.not_mem_nil)⟩) (fun _ h => absurd h List.not_mem_nil) [] 20 _ _ _ _ ?_
      simp (maxSteps := 1000000) [↓Bool.cond_eq_ite, -Prod.forall, -Prod.exists, -Prod.mk.injEq, jvk, tX4_settingHere, jtb, jol, jst, jlk, jcmp, jbin, jfl, fX4, jc2, lX4, jcat, jel, lv_args, Value.category, jins, jsrt, jins2, jble, jblt, jf3, List.filter_cons, List.filter_nil, G_loader, G_lflat, G_lroster, oX10_isWord, joRR, -Int32.not_le, -Int32.not_lt, -Int64.not_le, -Int64.not_lt, i3lt, i6lt, hT, hs, hcl, d2]
      try simp (disch := omega) [-Prod.forall, -Prod.exists, -Prod.mk.injEq, -Int32.not_le, -Int32.not_lt, -Int64.not_le, -Int64.not_lt, i3lt, i6lt, hT, hs, hcl, d2]
      exact k1
    · have d2 : ¬ isW (σ.1 3) (kLn σ) s (stW 8) = true := c2
      refine jvk_ok TX4_settingHere (V := [(81, 2, 10, oX10_isWord)]) (S := []) (List.forall_mem_cons.mpr ⟨⟨mX10_isWord, n + 5, 1, TX10, 6, rfl, by omega, kX4_81, WX10_isWord, rfl, CX10_isWord g (n) hE⟩, (fun _ h => absurd h List.not_mem_nil)⟩) (fun _ h => absurd h List.not_mem_nil) [32] 20 _ _ _ _ ?_
      simp (maxSteps := 1000000) [↓Bool.cond_eq_ite, -Prod.forall, -Prod.exists, -Prod.mk.injEq, jvk, tX4_settingHere, jtb, jol, jst, jlk, jcmp, jbin, jfl, fX4, jc2, lX4, jcat, jel, lv_args, Value.category, jins, jsrt, jins2, jble, jblt, jf3, List.filter_cons, List.filter_nil, G_loader, G_lflat, G_lroster, oX10_isWord, joRR, -Int32.not_le, -Int32.not_lt, -Int64.not_le, -Int64.not_lt, i3lt, i6lt, hT, hs, hcl, d2]
      try simp (disch := omega) [-Prod.forall, -Prod.exists, -Prod.mk.injEq, -Int32.not_le, -Int32.not_lt, -Int64.not_le, -Int64.not_lt, i3lt, i6lt, hT, hs, hcl, d2]
      refine jr_ldcS (i := 9) hE (by decide) rfl rfl (by decide +kernel) ?_
      by_cases c3 : isW (σ.1 3) (kLn σ) s wAuto = true
      · have k1 := fin 2 (by unfold sW pWhich; rw [if_neg c1, if_neg c2, if_pos c3]; rfl)
        have d3 : isW (σ.1 3) (kLn σ) s (stW 9) = true := c3
        refine jvk_ok TX4_settingHere (V := [(81, 2, 10, oX10_isWord)]) (S := []) (List.forall_mem_cons.mpr ⟨⟨mX10_isWord, n + 5, 1, TX10, 6, rfl, by omega, kX4_81, WX10_isWord, rfl, CX10_isWord g (n) hE⟩, (fun _ h => absurd h List.not_mem_nil)⟩) (fun _ h => absurd h List.not_mem_nil) [] 20 _ _ _ _ ?_
        simp (maxSteps := 1000000) [↓Bool.cond_eq_ite, -Prod.forall, -Prod.exists, -Prod.mk.injEq, jvk, tX4_settingHere, jtb, jol, jst, jlk, jcmp, jbin, jfl, fX4, jc2, lX4, jcat, jel, lv_args, Value.category, jins, jsrt, jins2, jble, jblt, jf3, List.filter_cons, List.filter_nil, G_loader, G_lflat, G_lroster, oX10_isWord, joRR, -Int32.not_le, -Int32.not_lt, -Int64.not_le, -Int64.not_lt, i3lt, i6lt, hT, hs, hcl, d3]
        try simp (disch := omega) [-Prod.forall, -Prod.exists, -Prod.mk.injEq, -Int32.not_le, -Int32.not_lt, -Int64.not_le, -Int64.not_lt, i3lt, i6lt, hT, hs, hcl, d3]
        exact k1
      · have k1 := fin (-1) (by unfold sW pWhich; rw [if_neg c1, if_neg c2, if_neg c3]; rfl)
        have d3 : ¬ isW (σ.1 3) (kLn σ) s (stW 9) = true := c3
        refine jvk_ok TX4_settingHere (V := [(81, 2, 10, oX10_isWord)]) (S := []) (List.forall_mem_cons.mpr ⟨⟨mX10_isWord, n + 5, 1, TX10, 6, rfl, by omega, kX4_81, WX10_isWord, rfl, CX10_isWord g (n) hE⟩, (fun _ h => absurd h List.not_mem_nil)⟩) (fun _ h => absurd h List.not_mem_nil) [] 20 _ _ _ _ ?_
        simp (maxSteps := 1000000) [↓Bool.cond_eq_ite, -Prod.forall, -Prod.exists, -Prod.mk.injEq, jvk, tX4_settingHere, jtb, jol, jst, jlk, jcmp, jbin, jfl, fX4, jc2, lX4, jcat, jel, lv_args, Value.category, jins, jsrt, jins2, jble, jblt, jf3, List.filter_cons, List.filter_nil, G_loader, G_lflat, G_lroster, oX10_isWord, joRR, -Int32.not_le, -Int32.not_lt, -Int64.not_le, -Int64.not_lt, i3lt, i6lt, hT, hs, hcl, d3]
        try simp (disch := omega) [-Prod.forall, -Prod.exists, -Prod.mk.injEq, -Int32.not_le, -Int32.not_lt, -Int64.not_le, -Int64.not_lt, i3lt, i6lt, hT, hs, hcl, d3]
        exact k1
def aSe (k a j : Nat) : Bool := aLn a j || (a == 5 && j == k || a == 30 && j == k)
theorem se_ln {k a j : Nat} (h : aSe k a j = false) : aLn a j = false := by
  unfold aSe at h
  simp only [Bool.or_eq_false_iff] at h
  exact h.1
theorem se_of {k a j : Nat} (h1 : aLn a j = false) (h2 : ¬ ((a = 5 ∨ a = 30) ∧ j = k)) : aSe k a j = false := by
  unfold aSe
  simp only [Bool.or_eq_false_iff, Bool.and_eq_false_iff, beq_eq_false_iff_ne]
  exact ⟨h1, by omega⟩
theorem se_lw {k a j : Nat} (h : aLq a j = false) : aSe k a j = false := by
  refine se_of (lw_ln h) ?_
  unfold aLq at h
  rw [jble, jble, jble, jble, jble] at h
  simp only [Bool.or_eq_false_iff, Bool.and_eq_false_iff, beq_eq_false_iff_ne, decide_eq_false_iff_not] at h
  omega
theorem lR_set {σ τ : jM} {μ : pM} (h : lR σ μ) {k : Nat} (hk : k < 3) (f : jfr (aSe k) b0 σ τ) {x : Int32} (hx : τ.1 5 k = x) (hg : τ.1 30 k = 1) : lR τ (u1 (gvS μ k) 347 k x) := by
  refine lR_once h (by omega) x ?_ ?_ (fun j hj hjk => ?_) (fun a j q => ?_) (fun a j q => ?_)
  · unfold vC
    rw [if_pos hk]
    exact hx
  · unfold gC
    rw [if_pos hk]
    exact hg
  · unfold vC gC
    by_cases c : j < 3
    · rw [if_pos c, if_pos c, if_pos c, if_pos c]
      exact ⟨f.2.2 _ _ (se_of (ln_of (by omega) (by omega)) (by omega)), f.2.2 _ _ (se_of (ln_of (by omega) (by omega)) (by omega))⟩
    · rw [if_neg c, if_neg c, if_neg c, if_neg c]
      exact ⟨f.2.2 _ _ (se_of (ln_of (by omega) (by omega)) (by omega)), f.2.2 _ _ (se_of (ln_of (by omega) (by omega)) (by omega))⟩
  · have := h.1.2.1
    unfold lUA at q
    exact f.2.2 _ _ (se_of (ln_of (by omega) (by omega)) (by omega))
  · unfold lUC at q
    exact f.2.2 _ _ (se_of (ln_of (by omega) (by omega)) (by omega))
def oX4_readMethod : jO := joR fun a σ => (a = 1 ∧ kT σ ∧ ∃ s, toP σ s, fun v τ => (jfr (aSe 0) b0 σ τ ∧ k9 v σ τ) ∧ ∀ s, toP σ s → if pMeth (σ.1 3) (kLn σ) s = 3 then lEr v τ (-11, s) else v = some (.int 1) ∧ toP τ (nx (σ.1 3) (kLn σ) s) ∧ τ.1 5 0 = nI (pMeth (σ.1 3) (kLn σ) s) ∧ τ.1 30 0 = σ.1 30 0)
set_option maxRecDepth 100000 in
set_option maxHeartbeats 4000000 in
theorem CX4_readMethod (g : jG) (n : Nat) (hE : jEs g) : jOk g (n + 6) mX4_readMethod oX4_readMethod := by
  refine joR_ok ?_
  rintro _ σ ⟨rfl, hT, s, hs⟩
  have hcl := toP_c hT hs
  have h3 := hs.2.1
  have uniq : ∀ t, toP σ t → t = s := fun t ht => toP_inj hT ht hs
  refine jCon.ofP (by decide +kernel) (by simp [lg_sl, Value.category]) (fun post hp => ?_)
  refine jvk_ok TX4_readMethod (V := [(81, 2, 10, oX10_isWord), (113, 2, 4, oX4_fail), (117, 1, 10, oX10_advance)]) (S := []) (List.forall_mem_cons.mpr ⟨⟨mX10_isWord, n + 5, 1, TX10, 6, rfl, by omega, kX4_81, WX10_isWord, rfl, CX10_isWord g (n) hE⟩, (List.forall_mem_cons.mpr ⟨⟨mX4_fail, n + 0, 1, TX4, 10, rfl, by omega, kX4_113, WX4_fail, rfl, CX4_fail g (n)⟩, (List.forall_mem_cons.mpr ⟨⟨mX10_advance, n + 1, 0, TX10, 6, rfl, by omega, kX4_117, WX10_advance, rfl, CX10_advance g (n)⟩, (fun _ h => absurd h List.not_mem_nil)⟩)⟩)⟩) (fun _ h => absurd h List.not_mem_nil) [4] 10 _ _ _ _ ?_
  simp (maxSteps := 1000000) [↓Bool.cond_eq_ite, -Prod.forall, -Prod.exists, -Prod.mk.injEq, jvk, tX4_readMethod, jtb, jol, jst, jlk, jcmp, jbin, jfl, fX4, jc2, lX4, jcat, jel, lv_args, Value.category, jins, jsrt, jins2, jble, jblt, jf3, List.filter_cons, List.filter_nil, G_loader, G_lflat, G_lroster, oX10_isWord, oX4_fail, oX10_advance, joR, joRI, joRR, -Int32.not_le, -Int32.not_lt, -Int64.not_le, -Int64.not_lt, i3lt, i6lt]
  try simp (disch := omega) [-Prod.forall, -Prod.exists, -Prod.mk.injEq, -Int32.not_le, -Int32.not_lt, -Int64.not_le, -Int64.not_lt, i3lt, i6lt]
  have hp : ∀ v τ, jfr (aSe 0) b0 σ τ → k9 v σ τ → (if pMeth (σ.1 3) (kLn σ) s = 3 then lEr v τ (-11, s) else v = some (.int 1) ∧ toP τ (nx (σ.1 3) (kLn σ) s) ∧ τ.1 5 0 = nI (pMeth (σ.1 3) (kLn σ) s) ∧ τ.1 30 0 = σ.1 30 0) → post v τ := fun v τ f b q => hp v τ ⟨⟨f, b⟩, fun t ht => by rw [uniq t ht]; exact q⟩
  have hp0 := fun τ f q => hp (some (.int 0)) τ f k9_0 q
  have hp1 := fun τ f e q => hp (some (.int 1)) τ f (fun _ => e) q
  have j03 : jin 0 3 := ⟨by decide, by decide⟩
  have t82 : ∀ m x, m = pMeth (σ.1 3) (kLn σ) s → m < 3 → x = nI m → jW g mX4_readMethod (n + 6) post 82 [(0, .ref 1)] [] (jup σ 5 0 x) := by
    intro m x hm h3 hx
    obtain ⟨ρ, eρ⟩ : ∃ ρ, ρ = jup σ 5 0 x := ⟨_, rfl⟩
    have tρ : toP ρ s := by rw [eρ]; exact hs
    have hTρ : kT ρ := by rw [eρ]; exact hT
    have gρ : ρ.1 3 = σ.1 3 ∧ kLn ρ = kLn σ := by rw [eρ]; exact ⟨rfl, rfl⟩
    have fρ : jfr (aSe 0) b0 σ ρ := by rw [eρ]; exact jfr.rfl.up _ rfl
    have r5 : ρ.1 5 0 = x := by rw [eρ]; exact jup_s _ _ _ _
    have hpre := toP_p hTρ tρ
    rw [← eρ]
    refine jvk_ok TX4_readMethod (V := [(81, 2, 10, oX10_isWord), (113, 2, 4, oX4_fail), (117, 1, 10, oX10_advance)]) (S := []) (List.forall_mem_cons.mpr ⟨⟨mX10_isWord, n + 5, 1, TX10, 6, rfl, by omega, kX4_81, WX10_isWord, rfl, CX10_isWord g (n) hE⟩, (List.forall_mem_cons.mpr ⟨⟨mX4_fail, n + 0, 1, TX4, 10, rfl, by omega, kX4_113, WX4_fail, rfl, CX4_fail g (n)⟩, (List.forall_mem_cons.mpr ⟨⟨mX10_advance, n + 1, 0, TX10, 6, rfl, by omega, kX4_117, WX10_advance, rfl, CX10_advance g (n)⟩, (fun _ h => absurd h List.not_mem_nil)⟩)⟩)⟩) (fun _ h => absurd h List.not_mem_nil) [89] 10 _ _ _ _ ?_
    simp (maxSteps := 1000000) [↓Bool.cond_eq_ite, -Prod.forall, -Prod.exists, -Prod.mk.injEq, jvk, tX4_readMethod, jtb, jol, jst, jlk, jcmp, jbin, jfl, fX4, jc2, lX4, jcat, jel, lv_args, Value.category, jins, jsrt, jins2, jble, jblt, jf3, List.filter_cons, List.filter_nil, G_loader, G_lflat, G_lroster, oX10_isWord, oX4_fail, oX10_advance, joR, joRI, joRR, -Int32.not_le, -Int32.not_lt, -Int64.not_le, -Int64.not_lt, i3lt, i6lt, hTρ, hpre]
    try simp (disch := omega) [-Prod.forall, -Prod.exists, -Prod.mk.injEq, -Int32.not_le, -Int32.not_lt, -Int64.not_le, -Int64.not_lt, i3lt, i6lt, hTρ, hpre]
    intro v2 τ2 hv2 f2 t2
    subst hv2
    rw [toP_e hTρ tρ, gρ.1, gρ.2] at t2
    have k1 := hp1 τ2 (fρ.tr (f2.weak (fun a j q => ln_To (se_ln q)) (fun _ q => q))) ((f2.2.2 1 9 rfl).trans (by rw [eρ]; rfl)) (by
      rw [if_neg (by omega)]
      refine ⟨rfl, t2, ?_, ?_⟩
      · rw [f2.2.2 5 0 rfl, r5, hx, hm]
      · rw [f2.2.2 30 0 rfl, eρ]
        rfl)
    refine jvk_ok TX4_readMethod (V := [(81, 2, 10, oX10_isWord), (113, 2, 4, oX4_fail), (117, 1, 10, oX10_advance)]) (S := []) (List.forall_mem_cons.mpr ⟨⟨mX10_isWord, n + 5, 1, TX10, 6, rfl, by omega, kX4_81, WX10_isWord, rfl, CX10_isWord g (n) hE⟩, (List.forall_mem_cons.mpr ⟨⟨mX4_fail, n + 0, 1, TX4, 10, rfl, by omega, kX4_113, WX4_fail, rfl, CX4_fail g (n)⟩, (List.forall_mem_cons.mpr ⟨⟨mX10_advance, n + 1, 0, TX10, 6, rfl, by omega, kX4_117, WX10_advance, rfl, CX10_advance g (n)⟩, (fun _ h => absurd h List.not_mem_nil)⟩)⟩)⟩) (fun _ h => absurd h List.not_mem_nil) [] 10 _ _ _ _ ?_
    simp (maxSteps := 1000000) [↓Bool.cond_eq_ite, -Prod.forall, -Prod.exists, -Prod.mk.injEq, jvk, tX4_readMethod, jtb, jol, jst, jlk, jcmp, jbin, jfl, fX4, jc2, lX4, jcat, jel, lv_args, Value.category, jins, jsrt, jins2, jble, jblt, jf3, List.filter_cons, List.filter_nil, G_loader, G_lflat, G_lroster, oX10_isWord, oX4_fail, oX10_advance, joR, joRI, joRR, -Int32.not_le, -Int32.not_lt, -Int64.not_le, -Int64.not_lt, i3lt, i6lt]
    try simp (disch := omega) [-Prod.forall, -Prod.exists, -Prod.mk.injEq, -Int32.not_le, -Int32.not_lt, -Int64.not_le, -Int64.not_lt, i3lt, i6lt]
    exact k1
  refine jr_ldcS (i := 10) hE (by decide) rfl rfl (by decide +kernel) ?_
  by_cases c1 : isW (σ.1 3) (kLn σ) s wLow = true
  · have k1 := t82 0 0 (by unfold pMeth; rw [if_pos c1]) (by omega) rfl
    have d1 : isW (σ.1 3) (kLn σ) s (stW 10) = true := c1
    refine jvk_ok TX4_readMethod (V := [(81, 2, 10, oX10_isWord), (113, 2, 4, oX4_fail), (117, 1, 10, oX10_advance)]) (S := []) (List.forall_mem_cons.mpr ⟨⟨mX10_isWord, n + 5, 1, TX10, 6, rfl, by omega, kX4_81, WX10_isWord, rfl, CX10_isWord g (n) hE⟩, (List.forall_mem_cons.mpr ⟨⟨mX4_fail, n + 0, 1, TX4, 10, rfl, by omega, kX4_113, WX4_fail, rfl, CX4_fail g (n)⟩, (List.forall_mem_cons.mpr ⟨⟨mX10_advance, n + 1, 0, TX10, 6, rfl, by omega, kX4_117, WX10_advance, rfl, CX10_advance g (n)⟩, (fun _ h => absurd h List.not_mem_nil)⟩)⟩)⟩) (fun _ h => absurd h List.not_mem_nil) [82] 20 _ _ _ _ ?_
    simp (maxSteps := 1000000) [↓Bool.cond_eq_ite, -Prod.forall, -Prod.exists, -Prod.mk.injEq, jvk, tX4_readMethod, jtb, jol, jst, jlk, jcmp, jbin, jfl, fX4, jc2, lX4, jcat, jel, lv_args, Value.category, jins, jsrt, jins2, jble, jblt, jf3, List.filter_cons, List.filter_nil, G_loader, G_lflat, G_lroster, oX10_isWord, oX4_fail, oX10_advance, joR, joRI, joRR, -Int32.not_le, -Int32.not_lt, -Int64.not_le, -Int64.not_lt, i3lt, i6lt, hT, hs, hcl, d1, j03, tn_c]
    try simp (disch := omega) [-Prod.forall, -Prod.exists, -Prod.mk.injEq, -Int32.not_le, -Int32.not_lt, -Int64.not_le, -Int64.not_lt, i3lt, i6lt, hT, hs, hcl, d1, j03, tn_c]
    exact k1
  · have d1 : ¬ isW (σ.1 3) (kLn σ) s (stW 10) = true := c1
    refine jvk_ok TX4_readMethod (V := [(81, 2, 10, oX10_isWord), (113, 2, 4, oX4_fail), (117, 1, 10, oX10_advance)]) (S := []) (List.forall_mem_cons.mpr ⟨⟨mX10_isWord, n + 5, 1, TX10, 6, rfl, by omega, kX4_81, WX10_isWord, rfl, CX10_isWord g (n) hE⟩, (List.forall_mem_cons.mpr ⟨⟨mX4_fail, n + 0, 1, TX4, 10, rfl, by omega, kX4_113, WX4_fail, rfl, CX4_fail g (n)⟩, (List.forall_mem_cons.mpr ⟨⟨mX10_advance, n + 1, 0, TX10, 6, rfl, by omega, kX4_117, WX10_advance, rfl, CX10_advance g (n)⟩, (fun _ h => absurd h List.not_mem_nil)⟩)⟩)⟩) (fun _ h => absurd h List.not_mem_nil) [29] 20 _ _ _ _ ?_
    simp (maxSteps := 1000000) [↓Bool.cond_eq_ite, -Prod.forall, -Prod.exists, -Prod.mk.injEq, jvk, tX4_readMethod, jtb, jol, jst, jlk, jcmp, jbin, jfl, fX4, jc2, lX4, jcat, jel, lv_args, Value.category, jins, jsrt, jins2, jble, jblt, jf3, List.filter_cons, List.filter_nil, G_loader, G_lflat, G_lroster, oX10_isWord, oX4_fail, oX10_advance, joR, joRI, joRR, -Int32.not_le, -Int32.not_lt, -Int64.not_le, -Int64.not_lt, i3lt, i6lt, hT, hs, hcl, d1]
    try simp (disch := omega) [-Prod.forall, -Prod.exists, -Prod.mk.injEq, -Int32.not_le, -Int32.not_lt, -Int64.not_le, -Int64.not_lt, i3lt, i6lt, hT, hs, hcl, d1]
    refine jr_ldcS (i := 11) hE (by decide) rfl rfl (by decide +kernel) ?_
    by_cases c2 : isW (σ.1 3) (kLn σ) s wHigh = true
    · have k1 := t82 1 1 (by unfold pMeth; rw [if_neg c1, if_pos c2]) (by omega) rfl
      have d2 : isW (σ.1 3) (kLn σ) s (stW 11) = true := c2
      refine jvk_ok TX4_readMethod (V := [(81, 2, 10, oX10_isWord), (113, 2, 4, oX4_fail), (117, 1, 10, oX10_advance)]) (S := []) (List.forall_mem_cons.mpr ⟨⟨mX10_isWord, n + 5, 1, TX10, 6, rfl, by omega, kX4_81, WX10_isWord, rfl, CX10_isWord g (n) hE⟩, (List.forall_mem_cons.mpr ⟨⟨mX4_fail, n + 0, 1, TX4, 10, rfl, by omega, kX4_113, WX4_fail, rfl, CX4_fail g (n)⟩, (List.forall_mem_cons.mpr ⟨⟨mX10_advance, n + 1, 0, TX10, 6, rfl, by omega, kX4_117, WX10_advance, rfl, CX10_advance g (n)⟩, (fun _ h => absurd h List.not_mem_nil)⟩)⟩)⟩) (fun _ h => absurd h List.not_mem_nil) [82] 20 _ _ _ _ ?_
      simp (maxSteps := 1000000) [↓Bool.cond_eq_ite, -Prod.forall, -Prod.exists, -Prod.mk.injEq, jvk, tX4_readMethod, jtb, jol, jst, jlk, jcmp, jbin, jfl, fX4, jc2, lX4, jcat, jel, lv_args, Value.category, jins, jsrt, jins2, jble, jblt, jf3, List.filter_cons, List.filter_nil, G_loader, G_lflat, G_lroster, oX10_isWord, oX4_fail, oX10_advance, joR, joRI, joRR, -Int32.not_le, -Int32.not_lt, -Int64.not_le, -Int64.not_lt, i3lt, i6lt, hT, hs, hcl, d2, j03, tn_c]
      try simp (disch := omega) [-Prod.forall, -Prod.exists, -Prod.mk.injEq, -Int32.not_le, -Int32.not_lt, -Int64.not_le, -Int64.not_lt, i3lt, i6lt, hT, hs, hcl, d2, j03, tn_c]
      exact k1
    · have d2 : ¬ isW (σ.1 3) (kLn σ) s (stW 11) = true := c2
      refine jvk_ok TX4_readMethod (V := [(81, 2, 10, oX10_isWord), (113, 2, 4, oX4_fail), (117, 1, 10, oX10_advance)]) (S := []) (List.forall_mem_cons.mpr ⟨⟨mX10_isWord, n + 5, 1, TX10, 6, rfl, by omega, kX4_81, WX10_isWord, rfl, CX10_isWord g (n) hE⟩, (List.forall_mem_cons.mpr ⟨⟨mX4_fail, n + 0, 1, TX4, 10, rfl, by omega, kX4_113, WX4_fail, rfl, CX4_fail g (n)⟩, (List.forall_mem_cons.mpr ⟨⟨mX10_advance, n + 1, 0, TX10, 6, rfl, by omega, kX4_117, WX10_advance, rfl, CX10_advance g (n)⟩, (fun _ h => absurd h List.not_mem_nil)⟩)⟩)⟩) (fun _ h => absurd h List.not_mem_nil) [54] 20 _ _ _ _ ?_
      simp (maxSteps := 1000000) [↓Bool.cond_eq_ite, -Prod.forall, -Prod.exists, -Prod.mk.injEq, jvk, tX4_readMethod, jtb, jol, jst, jlk, jcmp, jbin, jfl, fX4, jc2, lX4, jcat, jel, lv_args, Value.category, jins, jsrt, jins2, jble, jblt, jf3, List.filter_cons, List.filter_nil, G_loader, G_lflat, G_lroster, oX10_isWord, oX4_fail, oX10_advance, joR, joRI, joRR, -Int32.not_le, -Int32.not_lt, -Int64.not_le, -Int64.not_lt, i3lt, i6lt, hT, hs, hcl, d2]
      try simp (disch := omega) [-Prod.forall, -Prod.exists, -Prod.mk.injEq, -Int32.not_le, -Int32.not_lt, -Int64.not_le, -Int64.not_lt, i3lt, i6lt, hT, hs, hcl, d2]
      refine jr_ldcS (i := 12) hE (by decide) rfl rfl (by decide +kernel) ?_
      by_cases c3 : isW (σ.1 3) (kLn σ) s wMiddle = true
      · have k1 := t82 2 2 (by unfold pMeth; rw [if_neg c1, if_neg c2, if_pos c3]) (by omega) rfl
        have d3 : isW (σ.1 3) (kLn σ) s (stW 12) = true := c3
        refine jvk_ok TX4_readMethod (V := [(81, 2, 10, oX10_isWord), (113, 2, 4, oX4_fail), (117, 1, 10, oX10_advance)]) (S := []) (List.forall_mem_cons.mpr ⟨⟨mX10_isWord, n + 5, 1, TX10, 6, rfl, by omega, kX4_81, WX10_isWord, rfl, CX10_isWord g (n) hE⟩, (List.forall_mem_cons.mpr ⟨⟨mX4_fail, n + 0, 1, TX4, 10, rfl, by omega, kX4_113, WX4_fail, rfl, CX4_fail g (n)⟩, (List.forall_mem_cons.mpr ⟨⟨mX10_advance, n + 1, 0, TX10, 6, rfl, by omega, kX4_117, WX10_advance, rfl, CX10_advance g (n)⟩, (fun _ h => absurd h List.not_mem_nil)⟩)⟩)⟩) (fun _ h => absurd h List.not_mem_nil) [82] 20 _ _ _ _ ?_
        simp (maxSteps := 1000000) [↓Bool.cond_eq_ite, -Prod.forall, -Prod.exists, -Prod.mk.injEq, jvk, tX4_readMethod, jtb, jol, jst, jlk, jcmp, jbin, jfl, fX4, jc2, lX4, jcat, jel, lv_args, Value.category, jins, jsrt, jins2, jble, jblt, jf3, List.filter_cons, List.filter_nil, G_loader, G_lflat, G_lroster, oX10_isWord, oX4_fail, oX10_advance, joR, joRI, joRR, -Int32.not_le, -Int32.not_lt, -Int64.not_le, -Int64.not_lt, i3lt, i6lt, hT, hs, hcl, d3, j03, tn_c]
        try simp (disch := omega) [-Prod.forall, -Prod.exists, -Prod.mk.injEq, -Int32.not_le, -Int32.not_lt, -Int64.not_le, -Int64.not_lt, i3lt, i6lt, hT, hs, hcl, d3, j03, tn_c]
        exact k1
      · have k1 := hp0 (jup (jup σ 1 8 (-11)) 1 9 (nI s)) ((jfr.rfl.up _ rfl).up _ rfl) (by
          rw [if_pos (by unfold pMeth; rw [if_neg c1, if_neg c2, if_neg c3])]
          exact lEr_f _ _ _)
        have d3 : ¬ isW (σ.1 3) (kLn σ) s (stW 12) = true := c3
        refine jvk_ok TX4_readMethod (V := [(81, 2, 10, oX10_isWord), (113, 2, 4, oX4_fail), (117, 1, 10, oX10_advance)]) (S := []) (List.forall_mem_cons.mpr ⟨⟨mX10_isWord, n + 5, 1, TX10, 6, rfl, by omega, kX4_81, WX10_isWord, rfl, CX10_isWord g (n) hE⟩, (List.forall_mem_cons.mpr ⟨⟨mX4_fail, n + 0, 1, TX4, 10, rfl, by omega, kX4_113, WX4_fail, rfl, CX4_fail g (n)⟩, (List.forall_mem_cons.mpr ⟨⟨mX10_advance, n + 1, 0, TX10, 6, rfl, by omega, kX4_117, WX10_advance, rfl, CX10_advance g (n)⟩, (fun _ h => absurd h List.not_mem_nil)⟩)⟩)⟩) (fun _ h => absurd h List.not_mem_nil) [75] 20 _ _ _ _ ?_
        simp (maxSteps := 1000000) [↓Bool.cond_eq_ite, -Prod.forall, -Prod.exists, -Prod.mk.injEq, jvk, tX4_readMethod, jtb, jol, jst, jlk, jcmp, jbin, jfl, fX4, jc2, lX4, jcat, jel, lv_args, Value.category, jins, jsrt, jins2, jble, jblt, jf3, List.filter_cons, List.filter_nil, G_loader, G_lflat, G_lroster, oX10_isWord, oX4_fail, oX10_advance, joR, joRI, joRR, -Int32.not_le, -Int32.not_lt, -Int64.not_le, -Int64.not_lt, i3lt, i6lt, hT, hs, hcl, d3]
        try simp (disch := omega) [-Prod.forall, -Prod.exists, -Prod.mk.injEq, -Int32.not_le, -Int32.not_lt, -Int64.not_le, -Int64.not_lt, i3lt, i6lt, hT, hs, hcl, d3]
        refine jvk_ok TX4_readMethod (V := [(81, 2, 10, oX10_isWord), (113, 2, 4, oX4_fail), (117, 1, 10, oX10_advance)]) (S := []) (List.forall_mem_cons.mpr ⟨⟨mX10_isWord, n + 5, 1, TX10, 6, rfl, by omega, kX4_81, WX10_isWord, rfl, CX10_isWord g (n) hE⟩, (List.forall_mem_cons.mpr ⟨⟨mX4_fail, n + 0, 1, TX4, 10, rfl, by omega, kX4_113, WX4_fail, rfl, CX4_fail g (n)⟩, (List.forall_mem_cons.mpr ⟨⟨mX10_advance, n + 1, 0, TX10, 6, rfl, by omega, kX4_117, WX10_advance, rfl, CX10_advance g (n)⟩, (fun _ h => absurd h List.not_mem_nil)⟩)⟩)⟩) (fun _ h => absurd h List.not_mem_nil) [] 40 _ _ _ _ ?_
        simp (maxSteps := 1000000) [↓Bool.cond_eq_ite, -Prod.forall, -Prod.exists, -Prod.mk.injEq, jvk, tX4_readMethod, jtb, jol, jst, jlk, jcmp, jbin, jfl, fX4, jc2, lX4, jcat, jel, lv_args, Value.category, jins, jsrt, jins2, jble, jblt, jf3, List.filter_cons, List.filter_nil, G_loader, G_lflat, G_lroster, oX10_isWord, oX4_fail, oX10_advance, joR, joRI, joRR, -Int32.not_le, -Int32.not_lt, -Int64.not_le, -Int64.not_lt, i3lt, i6lt, h3, jup_1]
        try simp (disch := omega) [-Prod.forall, -Prod.exists, -Prod.mk.injEq, -Int32.not_le, -Int32.not_lt, -Int64.not_le, -Int64.not_lt, i3lt, i6lt, h3, jup_1]
        exact k1
theorem pWh_3 (b : Nat → Int32) (len s : Nat) : pWhich b len s ≤ 3 := by
  unfold pWhich
  split
  · omega
  · split
    · omega
    · split <;> omega
def oX4_readSetting : jO := joR fun a σ => (a = 1 ∧ kT σ ∧ ∃ s, toP σ s, fun v τ => (jfr aLq b0 σ τ ∧ k9 v σ τ) ∧ ∀ s μ, toP σ s → lR σ μ → lRes v τ (pSet (σ.1 3) (kLn σ) s μ))
set_option maxRecDepth 100000 in
set_option maxHeartbeats 4000000 in
theorem CX4_readSetting (g : jG) (n : Nat) (hE : jEs g) : jOk g (n + 7) mX4_readSetting oX4_readSetting := by
  refine joR_ok ?_
  rintro _ σ ⟨rfl, hT, s, hs⟩
  have uniq : ∀ t, toP σ t → t = s := fun t ht => toP_inj hT ht hs
  have hpre := toP_p hT hs
  refine jCon.ofP (by decide +kernel) (by simp [lg_sl, Value.category]) (fun post hp => ?_)
  refine jvk_ok TX4_readSetting (V := [(117, 1, 10, oX10_advance), (174, 1, 4, oX4_settingHere), (113, 2, 4, oX4_fail), (177, 1, 4, oX4_readMethod), (149, 2, 4, oX4_readNumber)]) (S := [(180, 1, 0, oX11_mostOfSetting)]) (List.forall_mem_cons.mpr ⟨⟨mX10_advance, n + 1, 0, TX10, 6, rfl, by omega, kX4_117, WX10_advance, rfl, CX10_advance g (n)⟩, (List.forall_mem_cons.mpr ⟨⟨mX4_settingHere, n + 6, 0, TX4, 10, rfl, by omega, kX4_174, WX4_settingHere, rfl, CX4_settingHere g (n) hE⟩, (List.forall_mem_cons.mpr ⟨⟨mX4_fail, n + 0, 1, TX4, 10, rfl, by omega, kX4_113, WX4_fail, rfl, CX4_fail g (n)⟩, (List.forall_mem_cons.mpr ⟨⟨mX4_readMethod, n + 6, 0, TX4, 10, rfl, by omega, kX4_177, WX4_readMethod, rfl, CX4_readMethod g (n) hE⟩, (List.forall_mem_cons.mpr ⟨⟨mX4_readNumber, n + 2, 1, TX4, 10, rfl, by omega, kX4_149, WX4_readNumber, rfl, CX4_readNumber g (n)⟩, (fun _ h => absurd h List.not_mem_nil)⟩)⟩)⟩)⟩)⟩) (List.forall_mem_cons.mpr ⟨⟨mX11_mostOfSetting, n + 0, by omega, Or.inr ⟨_, kX4_180⟩, WX11_mostOfSetting, CX11_mostOfSetting g (n)⟩, (fun _ h => absurd h List.not_mem_nil)⟩) [7] 10 _ _ _ _ ?_
  simp (maxSteps := 1000000) [↓Bool.cond_eq_ite, -Prod.forall, -Prod.exists, -Prod.mk.injEq, jvk, tX4_readSetting, jtb, jol, jst, jlk, jcmp, jbin, jfl, fX4, jc2, lX4, jcat, jel, lv_args, Value.category, jins, jsrt, jins2, jble, jblt, jf3, List.filter_cons, List.filter_nil, G_loader, G_lflat, G_lroster, oX10_advance, oX4_settingHere, oX4_fail, oX4_readMethod, oX11_mostOfSetting, oX4_readNumber, joI, joR, joRI, -Int32.not_le, -Int32.not_lt, -Int64.not_le, -Int64.not_lt, i3lt, i6lt, hT, hpre]
  try simp (disch := omega) [-Prod.forall, -Prod.exists, -Prod.mk.injEq, -Int32.not_le, -Int32.not_lt, -Int64.not_le, -Int64.not_lt, i3lt, i6lt, hT, hpre]
  have hp : ∀ v τ, jfr aLq b0 σ τ → k9 v σ τ → (∀ μ, lR σ μ → lRes v τ (pSet (σ.1 3) (kLn σ) s μ)) → post v τ := fun v τ f b q => hp v τ ⟨⟨f, b⟩, fun t μ ht h => by rw [uniq t ht]; exact q μ h⟩
  have hp0 := fun τ f q => hp (some (.int 0)) τ f k9_0 q
  have hp1 := fun τ f e q => hp (some (.int 1)) τ f (fun _ => e) q
  intro v1 τ1 hv1 f1 t1
  subst hv1
  rw [toP_e hT hs] at t1
  obtain ⟨s1, es1⟩ : ∃ s1, s1 = nx (σ.1 3) (kLn σ) s := ⟨_, rfl⟩
  have t1 : toP τ1 s1 := by rw [es1]; exact t1
  obtain ⟨e3, eL2, kT2⟩ := to_fr f1
  have hT1 := kT2 hT
  have hx1 : ∃ s, toP τ1 s := ⟨_, t1⟩
  have l1 : jfr aLn b0 σ τ1 := f1.weak (fun a j q => ln_To q) (fun _ q => q)
  have w1 : jfr aLq b0 σ τ1 := l1.weak (fun a j q => lw_ln q) (fun _ q => q)
  have z3 := t1.2.1
  refine jvk_ok TX4_readSetting (V := [(117, 1, 10, oX10_advance), (174, 1, 4, oX4_settingHere), (113, 2, 4, oX4_fail), (177, 1, 4, oX4_readMethod), (149, 2, 4, oX4_readNumber)]) (S := [(180, 1, 0, oX11_mostOfSetting)]) (List.forall_mem_cons.mpr ⟨⟨mX10_advance, n + 1, 0, TX10, 6, rfl, by omega, kX4_117, WX10_advance, rfl, CX10_advance g (n)⟩, (List.forall_mem_cons.mpr ⟨⟨mX4_settingHere, n + 6, 0, TX4, 10, rfl, by omega, kX4_174, WX4_settingHere, rfl, CX4_settingHere g (n) hE⟩, (List.forall_mem_cons.mpr ⟨⟨mX4_fail, n + 0, 1, TX4, 10, rfl, by omega, kX4_113, WX4_fail, rfl, CX4_fail g (n)⟩, (List.forall_mem_cons.mpr ⟨⟨mX4_readMethod, n + 6, 0, TX4, 10, rfl, by omega, kX4_177, WX4_readMethod, rfl, CX4_readMethod g (n) hE⟩, (List.forall_mem_cons.mpr ⟨⟨mX4_readNumber, n + 2, 1, TX4, 10, rfl, by omega, kX4_149, WX4_readNumber, rfl, CX4_readNumber g (n)⟩, (fun _ h => absurd h List.not_mem_nil)⟩)⟩)⟩)⟩)⟩) (List.forall_mem_cons.mpr ⟨⟨mX11_mostOfSetting, n + 0, by omega, Or.inr ⟨_, kX4_180⟩, WX11_mostOfSetting, CX11_mostOfSetting g (n)⟩, (fun _ h => absurd h List.not_mem_nil)⟩) [11] 10 _ _ _ _ ?_
  simp (maxSteps := 1000000) [↓Bool.cond_eq_ite, -Prod.forall, -Prod.exists, -Prod.mk.injEq, jvk, tX4_readSetting, jtb, jol, jst, jlk, jcmp, jbin, jfl, fX4, jc2, lX4, jcat, jel, lv_args, Value.category, jins, jsrt, jins2, jble, jblt, jf3, List.filter_cons, List.filter_nil, G_loader, G_lflat, G_lroster, oX10_advance, oX4_settingHere, oX4_fail, oX4_readMethod, oX11_mostOfSetting, oX4_readNumber, joI, joR, joRI, -Int32.not_le, -Int32.not_lt, -Int64.not_le, -Int64.not_lt, i3lt, i6lt, hT1, hx1]
  try simp (disch := omega) [-Prod.forall, -Prod.exists, -Prod.mk.injEq, -Int32.not_le, -Int32.not_lt, -Int64.not_le, -Int64.not_lt, i3lt, i6lt, hT1, hx1]
  intro v2 hv2
  have hv2 := hv2 _ t1
  rw [e3, eL2] at hv2
  obtain ⟨k, ek⟩ : ∃ k, k = pWhich (σ.1 3) (kLn σ) s1 := ⟨_, rfl⟩
  have k3 := pWh_3 (σ.1 3) (kLn σ) s1
  rw [← ek] at hv2 k3
  by_cases c3 : k = 3
  · have e1 : sW k = -1 := by unfold sW; rw [if_pos c3]
    rw [e1] at hv2
    subst hv2
    have k1 := hp0 (jup (jup τ1 1 8 (-11)) 1 9 (nI s1)) ((w1.up _ rfl).up _ rfl) (fun μ h => by
      unfold pSet
      rw [← es1, ← ek, if_pos c3]
      exact lEr_f _ _ _)
    refine jvk_ok TX4_readSetting (V := [(117, 1, 10, oX10_advance), (174, 1, 4, oX4_settingHere), (113, 2, 4, oX4_fail), (177, 1, 4, oX4_readMethod), (149, 2, 4, oX4_readNumber)]) (S := [(180, 1, 0, oX11_mostOfSetting)]) (List.forall_mem_cons.mpr ⟨⟨mX10_advance, n + 1, 0, TX10, 6, rfl, by omega, kX4_117, WX10_advance, rfl, CX10_advance g (n)⟩, (List.forall_mem_cons.mpr ⟨⟨mX4_settingHere, n + 6, 0, TX4, 10, rfl, by omega, kX4_174, WX4_settingHere, rfl, CX4_settingHere g (n) hE⟩, (List.forall_mem_cons.mpr ⟨⟨mX4_fail, n + 0, 1, TX4, 10, rfl, by omega, kX4_113, WX4_fail, rfl, CX4_fail g (n)⟩, (List.forall_mem_cons.mpr ⟨⟨mX4_readMethod, n + 6, 0, TX4, 10, rfl, by omega, kX4_177, WX4_readMethod, rfl, CX4_readMethod g (n) hE⟩, (List.forall_mem_cons.mpr ⟨⟨mX4_readNumber, n + 2, 1, TX4, 10, rfl, by omega, kX4_149, WX4_readNumber, rfl, CX4_readNumber g (n)⟩, (fun _ h => absurd h List.not_mem_nil)⟩)⟩)⟩)⟩)⟩) (List.forall_mem_cons.mpr ⟨⟨mX11_mostOfSetting, n + 0, by omega, Or.inr ⟨_, kX4_180⟩, WX11_mostOfSetting, CX11_mostOfSetting g (n)⟩, (fun _ h => absurd h List.not_mem_nil)⟩) [] 40 _ _ _ _ ?_
    simp (maxSteps := 1000000) [↓Bool.cond_eq_ite, -Prod.forall, -Prod.exists, -Prod.mk.injEq, jvk, tX4_readSetting, jtb, jol, jst, jlk, jcmp, jbin, jfl, fX4, jc2, lX4, jcat, jel, lv_args, Value.category, jins, jsrt, jins2, jble, jblt, jf3, List.filter_cons, List.filter_nil, G_loader, G_lflat, G_lroster, oX10_advance, oX4_settingHere, oX4_fail, oX4_readMethod, oX11_mostOfSetting, oX4_readNumber, joI, joR, joRI, -Int32.not_le, -Int32.not_lt, -Int64.not_le, -Int64.not_lt, i3lt, i6lt, z3, jup_1]
    try simp (disch := omega) [-Prod.forall, -Prod.exists, -Prod.mk.injEq, -Int32.not_le, -Int32.not_lt, -Int64.not_le, -Int64.not_lt, i3lt, i6lt, z3, jup_1]
    exact k1
  · have e1 : sW k = nI k := by unfold sW; rw [if_neg c3]
    rw [e1] at hv2
    subst hv2
    have n1 : ¬ nI k = -1 := fun z => (nI_m1 (by omega)).mp z
    have jk : jin (nI k) 3 := jin_nI (by omega) (by decide)
    have eck : (nI k).toNatClampNeg = k := nI_clamp (by omega)
    have hgv : ∀ μ, lR σ μ → (τ1.1 30 k = 0 ↔ gv μ k = false) := fun μ h => by
      have := (h.2.1 k (by omega)).2
      unfold gC at this
      rw [if_pos (by omega)] at this
      rw [f1.2.2 30 k rfl]
      exact this
    by_cases z : τ1.1 30 k = 0
    · obtain ⟨ρ, eρ⟩ : ∃ ρ, ρ = jup τ1 30 k 1 := ⟨_, rfl⟩
      have tρ : toP ρ s1 := by rw [eρ]; exact t1
      have hTρ : kT ρ := by rw [eρ]; exact hT1
      have gρ : ρ.1 3 = τ1.1 3 ∧ kLn ρ = kLn τ1 := by rw [eρ]; exact ⟨rfl, rfl⟩
      have fρ : jfr (aSe k) b0 τ1 ρ := by
        rw [eρ]
        exact jfr.rfl.up _ (by unfold aSe; simp)
      have r30 : ρ.1 30 k = 1 := by rw [eρ]; exact jup_s _ _ _ _
      have hpre1 := toP_p hTρ tρ
      have hb1 : vp_nar .boolean 1 = 1 := by decide
      refine jvk_ok TX4_readSetting (V := [(117, 1, 10, oX10_advance), (174, 1, 4, oX4_settingHere), (113, 2, 4, oX4_fail), (177, 1, 4, oX4_readMethod), (149, 2, 4, oX4_readNumber)]) (S := [(180, 1, 0, oX11_mostOfSetting)]) (List.forall_mem_cons.mpr ⟨⟨mX10_advance, n + 1, 0, TX10, 6, rfl, by omega, kX4_117, WX10_advance, rfl, CX10_advance g (n)⟩, (List.forall_mem_cons.mpr ⟨⟨mX4_settingHere, n + 6, 0, TX4, 10, rfl, by omega, kX4_174, WX4_settingHere, rfl, CX4_settingHere g (n) hE⟩, (List.forall_mem_cons.mpr ⟨⟨mX4_fail, n + 0, 1, TX4, 10, rfl, by omega, kX4_113, WX4_fail, rfl, CX4_fail g (n)⟩, (List.forall_mem_cons.mpr ⟨⟨mX4_readMethod, n + 6, 0, TX4, 10, rfl, by omega, kX4_177, WX4_readMethod, rfl, CX4_readMethod g (n) hE⟩, (List.forall_mem_cons.mpr ⟨⟨mX4_readNumber, n + 2, 1, TX4, 10, rfl, by omega, kX4_149, WX4_readNumber, rfl, CX4_readNumber g (n)⟩, (fun _ h => absurd h List.not_mem_nil)⟩)⟩)⟩)⟩)⟩) (List.forall_mem_cons.mpr ⟨⟨mX11_mostOfSetting, n + 0, by omega, Or.inr ⟨_, kX4_180⟩, WX11_mostOfSetting, CX11_mostOfSetting g (n)⟩, (fun _ h => absurd h List.not_mem_nil)⟩) [47] 40 _ _ _ _ ?_
      simp (maxSteps := 1000000) [↓Bool.cond_eq_ite, -Prod.forall, -Prod.exists, -Prod.mk.injEq, jvk, tX4_readSetting, jtb, jol, jst, jlk, jcmp, jbin, jfl, fX4, jc2, lX4, jcat, jel, lv_args, Value.category, jins, jsrt, jins2, jble, jblt, jf3, List.filter_cons, List.filter_nil, G_loader, G_lflat, G_lroster, oX10_advance, oX4_settingHere, oX4_fail, oX4_readMethod, oX11_mostOfSetting, oX4_readNumber, joI, joR, joRI, -Int32.not_le, -Int32.not_lt, -Int64.not_le, -Int64.not_lt, i3lt, i6lt, n1, jk, eck, z, hb1]
      try simp (disch := omega) [-Prod.forall, -Prod.exists, -Prod.mk.injEq, -Int32.not_le, -Int32.not_lt, -Int64.not_le, -Int64.not_lt, i3lt, i6lt, n1, jk, eck, z, hb1]
      rw [← eρ]
      refine jvk_ok TX4_readSetting (V := [(117, 1, 10, oX10_advance), (174, 1, 4, oX4_settingHere), (113, 2, 4, oX4_fail), (177, 1, 4, oX4_readMethod), (149, 2, 4, oX4_readNumber)]) (S := [(180, 1, 0, oX11_mostOfSetting)]) (List.forall_mem_cons.mpr ⟨⟨mX10_advance, n + 1, 0, TX10, 6, rfl, by omega, kX4_117, WX10_advance, rfl, CX10_advance g (n)⟩, (List.forall_mem_cons.mpr ⟨⟨mX4_settingHere, n + 6, 0, TX4, 10, rfl, by omega, kX4_174, WX4_settingHere, rfl, CX4_settingHere g (n) hE⟩, (List.forall_mem_cons.mpr ⟨⟨mX4_fail, n + 0, 1, TX4, 10, rfl, by omega, kX4_113, WX4_fail, rfl, CX4_fail g (n)⟩, (List.forall_mem_cons.mpr ⟨⟨mX4_readMethod, n + 6, 0, TX4, 10, rfl, by omega, kX4_177, WX4_readMethod, rfl, CX4_readMethod g (n) hE⟩, (List.forall_mem_cons.mpr ⟨⟨mX4_readNumber, n + 2, 1, TX4, 10, rfl, by omega, kX4_149, WX4_readNumber, rfl, CX4_readNumber g (n)⟩, (fun _ h => absurd h List.not_mem_nil)⟩)⟩)⟩)⟩)⟩) (List.forall_mem_cons.mpr ⟨⟨mX11_mostOfSetting, n + 0, by omega, Or.inr ⟨_, kX4_180⟩, WX11_mostOfSetting, CX11_mostOfSetting g (n)⟩, (fun _ h => absurd h List.not_mem_nil)⟩) [54] 40 _ _ _ _ ?_
      simp (maxSteps := 1000000) [↓Bool.cond_eq_ite, -Prod.forall, -Prod.exists, -Prod.mk.injEq, jvk, tX4_readSetting, jtb, jol, jst, jlk, jcmp, jbin, jfl, fX4, jc2, lX4, jcat, jel, lv_args, Value.category, jins, jsrt, jins2, jble, jblt, jf3, List.filter_cons, List.filter_nil, G_loader, G_lflat, G_lroster, oX10_advance, oX4_settingHere, oX4_fail, oX4_readMethod, oX11_mostOfSetting, oX4_readNumber, joI, joR, joRI, -Int32.not_le, -Int32.not_lt, -Int64.not_le, -Int64.not_lt, i3lt, i6lt, hTρ, hpre1]
      try simp (disch := omega) [-Prod.forall, -Prod.exists, -Prod.mk.injEq, -Int32.not_le, -Int32.not_lt, -Int64.not_le, -Int64.not_lt, i3lt, i6lt, hTρ, hpre1]
      intro v3 τ3 hv3 f3 t3
      subst hv3
      rw [toP_e hTρ tρ, gρ.1, gρ.2, e3, eL2] at t3
      obtain ⟨s2, es2⟩ : ∃ s2, s2 = nx (σ.1 3) (kLn σ) s1 := ⟨_, rfl⟩
      have t3 : toP τ3 s2 := by rw [es2]; exact t3
      obtain ⟨e3b, eLb, kTb⟩ := to_fr f3
      rw [gρ.1, e3] at e3b
      rw [gρ.2, eL2] at eLb
      have hT3 := kTb hTρ
      have hx3 : ∃ s, toP τ3 s := ⟨_, t3⟩
      have f3s : jfr (aSe k) b0 τ1 τ3 := fρ.tr (f3.weak (fun a j q => ln_To (se_ln q)) (fun _ q => q))
      have E9 : τ3.1 1 9 = σ.1 1 9 := (f3.2.2 1 9 rfl).trans (by rw [eρ]; exact f1.2.2 1 9 rfl)
      have r30b : τ3.1 30 k = 1 := (f3.2.2 30 k rfl).trans r30
      have pun : ∀ μ, lR σ μ → pSet (σ.1 3) (kLn σ) s μ = (if k = 0 then (if pMeth (σ.1 3) (kLn σ) s2 = 3 then .inl (-11, s2) else .inr (nx (σ.1 3) (kLn σ) s2, u1 (gvS μ 0) 347 0 (nI (pMeth (σ.1 3) (kLn σ) s2)))) else match pInt (σ.1 3) (kLn σ) (if k = 1 then 100 else 1) s2 with
        | .inl e => .inl e
        | .inr v => .inr (nx (σ.1 3) (kLn σ) s2, u1 (gvS μ k) 347 k (nI v))) := fun μ h => by
        unfold pSet
        rw [← es1, ← ek, if_neg c3, if_neg (by rw [(hgv μ h).mp z]; decide), ← es2]
        rfl
      by_cases k0 : k = 0
      · subst k0
        have n0 : nI 0 = 0 := rfl
        refine jvk_ok TX4_readSetting (V := [(117, 1, 10, oX10_advance), (174, 1, 4, oX4_settingHere), (113, 2, 4, oX4_fail), (177, 1, 4, oX4_readMethod), (149, 2, 4, oX4_readNumber)]) (S := [(180, 1, 0, oX11_mostOfSetting)]) (List.forall_mem_cons.mpr ⟨⟨mX10_advance, n + 1, 0, TX10, 6, rfl, by omega, kX4_117, WX10_advance, rfl, CX10_advance g (n)⟩, (List.forall_mem_cons.mpr ⟨⟨mX4_settingHere, n + 6, 0, TX4, 10, rfl, by omega, kX4_174, WX4_settingHere, rfl, CX4_settingHere g (n) hE⟩, (List.forall_mem_cons.mpr ⟨⟨mX4_fail, n + 0, 1, TX4, 10, rfl, by omega, kX4_113, WX4_fail, rfl, CX4_fail g (n)⟩, (List.forall_mem_cons.mpr ⟨⟨mX4_readMethod, n + 6, 0, TX4, 10, rfl, by omega, kX4_177, WX4_readMethod, rfl, CX4_readMethod g (n) hE⟩, (List.forall_mem_cons.mpr ⟨⟨mX4_readNumber, n + 2, 1, TX4, 10, rfl, by omega, kX4_149, WX4_readNumber, rfl, CX4_readNumber g (n)⟩, (fun _ h => absurd h List.not_mem_nil)⟩)⟩)⟩)⟩)⟩) (List.forall_mem_cons.mpr ⟨⟨mX11_mostOfSetting, n + 0, by omega, Or.inr ⟨_, kX4_180⟩, WX11_mostOfSetting, CX11_mostOfSetting g (n)⟩, (fun _ h => absurd h List.not_mem_nil)⟩) [62] 40 _ _ _ _ ?_
        simp (maxSteps := 1000000) [↓Bool.cond_eq_ite, -Prod.forall, -Prod.exists, -Prod.mk.injEq, jvk, tX4_readSetting, jtb, jol, jst, jlk, jcmp, jbin, jfl, fX4, jc2, lX4, jcat, jel, lv_args, Value.category, jins, jsrt, jins2, jble, jblt, jf3, List.filter_cons, List.filter_nil, G_loader, G_lflat, G_lroster, oX10_advance, oX4_settingHere, oX4_fail, oX4_readMethod, oX11_mostOfSetting, oX4_readNumber, joI, joR, joRI, -Int32.not_le, -Int32.not_lt, -Int64.not_le, -Int64.not_lt, i3lt, i6lt, n0, hT3, hx3]
        try simp (disch := omega) [-Prod.forall, -Prod.exists, -Prod.mk.injEq, -Int32.not_le, -Int32.not_lt, -Int64.not_le, -Int64.not_lt, i3lt, i6lt, n0, hT3, hx3]
        intro v4 τ4 f4 b4 q4
        have q4 := q4 s2 t3
        rw [e3b, eLb] at q4
        have w4 : jfr aLq b0 σ τ4 := w1.tr ((f3s.tr f4).weak (fun a j q => se_lw q) (fun _ q => q))
        have k1 := hp v4 τ4 w4 (fun z => (b4 z).trans E9) (fun μ h => by
          rw [pun μ h, if_pos rfl]
          by_cases c : pMeth (σ.1 3) (kLn σ) s2 = 3
          · rw [if_pos c] at q4 ⊢
            exact q4
          · rw [if_neg c] at q4 ⊢
            exact ⟨q4.1, q4.2.1, lR_set (lR_ln h l1) (by decide) (f3s.tr f4) q4.2.2.1 (q4.2.2.2.trans r30b)⟩)
        by_cases c : pMeth (σ.1 3) (kLn σ) s2 = 3
        · rw [if_pos c] at q4
          have hv4 := q4.1
          subst hv4
          refine jvk_ok TX4_readSetting (V := [(117, 1, 10, oX10_advance), (174, 1, 4, oX4_settingHere), (113, 2, 4, oX4_fail), (177, 1, 4, oX4_readMethod), (149, 2, 4, oX4_readNumber)]) (S := [(180, 1, 0, oX11_mostOfSetting)]) (List.forall_mem_cons.mpr ⟨⟨mX10_advance, n + 1, 0, TX10, 6, rfl, by omega, kX4_117, WX10_advance, rfl, CX10_advance g (n)⟩, (List.forall_mem_cons.mpr ⟨⟨mX4_settingHere, n + 6, 0, TX4, 10, rfl, by omega, kX4_174, WX4_settingHere, rfl, CX4_settingHere g (n) hE⟩, (List.forall_mem_cons.mpr ⟨⟨mX4_fail, n + 0, 1, TX4, 10, rfl, by omega, kX4_113, WX4_fail, rfl, CX4_fail g (n)⟩, (List.forall_mem_cons.mpr ⟨⟨mX4_readMethod, n + 6, 0, TX4, 10, rfl, by omega, kX4_177, WX4_readMethod, rfl, CX4_readMethod g (n) hE⟩, (List.forall_mem_cons.mpr ⟨⟨mX4_readNumber, n + 2, 1, TX4, 10, rfl, by omega, kX4_149, WX4_readNumber, rfl, CX4_readNumber g (n)⟩, (fun _ h => absurd h List.not_mem_nil)⟩)⟩)⟩)⟩)⟩) (List.forall_mem_cons.mpr ⟨⟨mX11_mostOfSetting, n + 0, by omega, Or.inr ⟨_, kX4_180⟩, WX11_mostOfSetting, CX11_mostOfSetting g (n)⟩, (fun _ h => absurd h List.not_mem_nil)⟩) [] 10 _ _ _ _ ?_
          simp (maxSteps := 1000000) [↓Bool.cond_eq_ite, -Prod.forall, -Prod.exists, -Prod.mk.injEq, jvk, tX4_readSetting, jtb, jol, jst, jlk, jcmp, jbin, jfl, fX4, jc2, lX4, jcat, jel, lv_args, Value.category, jins, jsrt, jins2, jble, jblt, jf3, List.filter_cons, List.filter_nil, G_loader, G_lflat, G_lroster, oX10_advance, oX4_settingHere, oX4_fail, oX4_readMethod, oX11_mostOfSetting, oX4_readNumber, joI, joR, joRI, -Int32.not_le, -Int32.not_lt, -Int64.not_le, -Int64.not_lt, i3lt, i6lt]
          try simp (disch := omega) [-Prod.forall, -Prod.exists, -Prod.mk.injEq, -Int32.not_le, -Int32.not_lt, -Int64.not_le, -Int64.not_lt, i3lt, i6lt]
          exact k1
        · rw [if_neg c] at q4
          have hv4 := q4.1
          subst hv4
          refine jvk_ok TX4_readSetting (V := [(117, 1, 10, oX10_advance), (174, 1, 4, oX4_settingHere), (113, 2, 4, oX4_fail), (177, 1, 4, oX4_readMethod), (149, 2, 4, oX4_readNumber)]) (S := [(180, 1, 0, oX11_mostOfSetting)]) (List.forall_mem_cons.mpr ⟨⟨mX10_advance, n + 1, 0, TX10, 6, rfl, by omega, kX4_117, WX10_advance, rfl, CX10_advance g (n)⟩, (List.forall_mem_cons.mpr ⟨⟨mX4_settingHere, n + 6, 0, TX4, 10, rfl, by omega, kX4_174, WX4_settingHere, rfl, CX4_settingHere g (n) hE⟩, (List.forall_mem_cons.mpr ⟨⟨mX4_fail, n + 0, 1, TX4, 10, rfl, by omega, kX4_113, WX4_fail, rfl, CX4_fail g (n)⟩, (List.forall_mem_cons.mpr ⟨⟨mX4_readMethod, n + 6, 0, TX4, 10, rfl, by omega, kX4_177, WX4_readMethod, rfl, CX4_readMethod g (n) hE⟩, (List.forall_mem_cons.mpr ⟨⟨mX4_readNumber, n + 2, 1, TX4, 10, rfl, by omega, kX4_149, WX4_readNumber, rfl, CX4_readNumber g (n)⟩, (fun _ h => absurd h List.not_mem_nil)⟩)⟩)⟩)⟩)⟩) (List.forall_mem_cons.mpr ⟨⟨mX11_mostOfSetting, n + 0, by omega, Or.inr ⟨_, kX4_180⟩, WX11_mostOfSetting, CX11_mostOfSetting g (n)⟩, (fun _ h => absurd h List.not_mem_nil)⟩) [] 10 _ _ _ _ ?_
          simp (maxSteps := 1000000) [↓Bool.cond_eq_ite, -Prod.forall, -Prod.exists, -Prod.mk.injEq, jvk, tX4_readSetting, jtb, jol, jst, jlk, jcmp, jbin, jfl, fX4, jc2, lX4, jcat, jel, lv_args, Value.category, jins, jsrt, jins2, jble, jblt, jf3, List.filter_cons, List.filter_nil, G_loader, G_lflat, G_lroster, oX10_advance, oX4_settingHere, oX4_fail, oX4_readMethod, oX11_mostOfSetting, oX4_readNumber, joI, joR, joRI, -Int32.not_le, -Int32.not_lt, -Int64.not_le, -Int64.not_lt, i3lt, i6lt]
          try simp (disch := omega) [-Prod.forall, -Prod.exists, -Prod.mk.injEq, -Int32.not_le, -Int32.not_lt, -Int64.not_le, -Int64.not_lt, i3lt, i6lt]
          exact k1
      · have n0 : ¬ nI k = 0 := fun y => k0 ((nI_eq (b := 0) (by omega) (by decide)).mp y)
        have hM : mMost (nI k) = nI (if k = 1 then 100 else 1) := by
          rcases (by omega : k = 1 ∨ k = 2) with rfl | rfl
          · decide
          · decide
        have hi : ∃ hi, nI (if k = 1 then 100 else 1) = nI hi ∧ hi ≤ 99999 := ⟨_, rfl, by split <;> omega⟩
        have ech : (nI (if k = 1 then 100 else 1)).toNatClampNeg = (if k = 1 then 100 else 1) := nI_clamp (by split <;> omega)
        obtain ⟨H, eH⟩ : ∃ H, H = (if k = 1 then 100 else 1) := ⟨_, rfl⟩
        rw [← eH] at hM hi ech
        refine jvk_ok TX4_readSetting (V := [(117, 1, 10, oX10_advance), (174, 1, 4, oX4_settingHere), (113, 2, 4, oX4_fail), (177, 1, 4, oX4_readMethod), (149, 2, 4, oX4_readNumber)]) (S := [(180, 1, 0, oX11_mostOfSetting)]) (List.forall_mem_cons.mpr ⟨⟨mX10_advance, n + 1, 0, TX10, 6, rfl, by omega, kX4_117, WX10_advance, rfl, CX10_advance g (n)⟩, (List.forall_mem_cons.mpr ⟨⟨mX4_settingHere, n + 6, 0, TX4, 10, rfl, by omega, kX4_174, WX4_settingHere, rfl, CX4_settingHere g (n) hE⟩, (List.forall_mem_cons.mpr ⟨⟨mX4_fail, n + 0, 1, TX4, 10, rfl, by omega, kX4_113, WX4_fail, rfl, CX4_fail g (n)⟩, (List.forall_mem_cons.mpr ⟨⟨mX4_readMethod, n + 6, 0, TX4, 10, rfl, by omega, kX4_177, WX4_readMethod, rfl, CX4_readMethod g (n) hE⟩, (List.forall_mem_cons.mpr ⟨⟨mX4_readNumber, n + 2, 1, TX4, 10, rfl, by omega, kX4_149, WX4_readNumber, rfl, CX4_readNumber g (n)⟩, (fun _ h => absurd h List.not_mem_nil)⟩)⟩)⟩)⟩)⟩) (List.forall_mem_cons.mpr ⟨⟨mX11_mostOfSetting, n + 0, by omega, Or.inr ⟨_, kX4_180⟩, WX11_mostOfSetting, CX11_mostOfSetting g (n)⟩, (fun _ h => absurd h List.not_mem_nil)⟩) [71] 40 _ _ _ _ ?_
        simp (maxSteps := 1000000) [↓Bool.cond_eq_ite, -Prod.forall, -Prod.exists, -Prod.mk.injEq, jvk, tX4_readSetting, jtb, jol, jst, jlk, jcmp, jbin, jfl, fX4, jc2, lX4, jcat, jel, lv_args, Value.category, jins, jsrt, jins2, jble, jblt, jf3, List.filter_cons, List.filter_nil, G_loader, G_lflat, G_lroster, oX10_advance, oX4_settingHere, oX4_fail, oX4_readMethod, oX11_mostOfSetting, oX4_readNumber, joI, joR, joRI, -Int32.not_le, -Int32.not_lt, -Int64.not_le, -Int64.not_lt, i3lt, i6lt, n0, hT3, hx3, hM, hi]
        try simp (disch := omega) [-Prod.forall, -Prod.exists, -Prod.mk.injEq, -Int32.not_le, -Int32.not_lt, -Int64.not_le, -Int64.not_lt, i3lt, i6lt, n0, hT3, hx3, hM, hi]
        intro v4 τ4 f4 b4 q4
        have q4 := q4 s2 t3
        rw [e3b, eLb, ech] at q4
        have f4s : jfr (aSe k) b0 τ1 τ4 := f3s.tr (f4.weak (fun a j q => se_ln q) (fun _ q => q))
        rcases eI : pInt (σ.1 3) (kLn σ) H s2 with e | y
        · rw [eI] at q4
          have hv4 := q4.1
          subst hv4
          have k1 := hp0 τ4 (w1.tr (f4s.weak (fun a j q => se_lw q) (fun _ q => q))) (fun μ h => by
            rw [pun μ h, if_neg k0, ← eH, eI]
            exact q4)
          refine jvk_ok TX4_readSetting (V := [(117, 1, 10, oX10_advance), (174, 1, 4, oX4_settingHere), (113, 2, 4, oX4_fail), (177, 1, 4, oX4_readMethod), (149, 2, 4, oX4_readNumber)]) (S := [(180, 1, 0, oX11_mostOfSetting)]) (List.forall_mem_cons.mpr ⟨⟨mX10_advance, n + 1, 0, TX10, 6, rfl, by omega, kX4_117, WX10_advance, rfl, CX10_advance g (n)⟩, (List.forall_mem_cons.mpr ⟨⟨mX4_settingHere, n + 6, 0, TX4, 10, rfl, by omega, kX4_174, WX4_settingHere, rfl, CX4_settingHere g (n) hE⟩, (List.forall_mem_cons.mpr ⟨⟨mX4_fail, n + 0, 1, TX4, 10, rfl, by omega, kX4_113, WX4_fail, rfl, CX4_fail g (n)⟩, (List.forall_mem_cons.mpr ⟨⟨mX4_readMethod, n + 6, 0, TX4, 10, rfl, by omega, kX4_177, WX4_readMethod, rfl, CX4_readMethod g (n) hE⟩, (List.forall_mem_cons.mpr ⟨⟨mX4_readNumber, n + 2, 1, TX4, 10, rfl, by omega, kX4_149, WX4_readNumber, rfl, CX4_readNumber g (n)⟩, (fun _ h => absurd h List.not_mem_nil)⟩)⟩)⟩)⟩)⟩) (List.forall_mem_cons.mpr ⟨⟨mX11_mostOfSetting, n + 0, by omega, Or.inr ⟨_, kX4_180⟩, WX11_mostOfSetting, CX11_mostOfSetting g (n)⟩, (fun _ h => absurd h List.not_mem_nil)⟩) [] 10 _ _ _ _ ?_
          simp (maxSteps := 1000000) [↓Bool.cond_eq_ite, -Prod.forall, -Prod.exists, -Prod.mk.injEq, jvk, tX4_readSetting, jtb, jol, jst, jlk, jcmp, jbin, jfl, fX4, jc2, lX4, jcat, jel, lv_args, Value.category, jins, jsrt, jins2, jble, jblt, jf3, List.filter_cons, List.filter_nil, G_loader, G_lflat, G_lroster, oX10_advance, oX4_settingHere, oX4_fail, oX4_readMethod, oX11_mostOfSetting, oX4_readNumber, joI, joR, joRI, -Int32.not_le, -Int32.not_lt, -Int64.not_le, -Int64.not_lt, i3lt, i6lt]
          try simp (disch := omega) [-Prod.forall, -Prod.exists, -Prod.mk.injEq, -Int32.not_le, -Int32.not_lt, -Int64.not_le, -Int64.not_lt, i3lt, i6lt]
          exact k1
        · rw [eI] at q4
          obtain ⟨hv4, q7, t4⟩ := q4
          subst hv4
          have f5 : jfr (aSe k) b0 τ1 (jup τ4 5 k (nI y)) := f4s.up _ (by unfold aSe; simp)
          have k1 := hp1 (jup τ4 5 k (nI y)) (w1.tr (f5.weak (fun a j q => se_lw q) (fun _ q => q))) ((b4 rfl).trans E9) (fun μ h => by
            rw [pun μ h, if_neg k0, ← eH, eI]
            refine ⟨rfl, t4, lR_set (lR_ln h l1) (by omega) f5 (jup_s _ _ _ _) ?_⟩
            rw [jup_1, if_neg (by omega), f4.2.2 30 k rfl, r30b])
          refine jvk_ok TX4_readSetting (V := [(117, 1, 10, oX10_advance), (174, 1, 4, oX4_settingHere), (113, 2, 4, oX4_fail), (177, 1, 4, oX4_readMethod), (149, 2, 4, oX4_readNumber)]) (S := [(180, 1, 0, oX11_mostOfSetting)]) (List.forall_mem_cons.mpr ⟨⟨mX10_advance, n + 1, 0, TX10, 6, rfl, by omega, kX4_117, WX10_advance, rfl, CX10_advance g (n)⟩, (List.forall_mem_cons.mpr ⟨⟨mX4_settingHere, n + 6, 0, TX4, 10, rfl, by omega, kX4_174, WX4_settingHere, rfl, CX4_settingHere g (n) hE⟩, (List.forall_mem_cons.mpr ⟨⟨mX4_fail, n + 0, 1, TX4, 10, rfl, by omega, kX4_113, WX4_fail, rfl, CX4_fail g (n)⟩, (List.forall_mem_cons.mpr ⟨⟨mX4_readMethod, n + 6, 0, TX4, 10, rfl, by omega, kX4_177, WX4_readMethod, rfl, CX4_readMethod g (n) hE⟩, (List.forall_mem_cons.mpr ⟨⟨mX4_readNumber, n + 2, 1, TX4, 10, rfl, by omega, kX4_149, WX4_readNumber, rfl, CX4_readNumber g (n)⟩, (fun _ h => absurd h List.not_mem_nil)⟩)⟩)⟩)⟩)⟩) (List.forall_mem_cons.mpr ⟨⟨mX11_mostOfSetting, n + 0, by omega, Or.inr ⟨_, kX4_180⟩, WX11_mostOfSetting, CX11_mostOfSetting g (n)⟩, (fun _ h => absurd h List.not_mem_nil)⟩) [] 40 _ _ _ _ ?_
          simp (maxSteps := 1000000) [↓Bool.cond_eq_ite, -Prod.forall, -Prod.exists, -Prod.mk.injEq, jvk, tX4_readSetting, jtb, jol, jst, jlk, jcmp, jbin, jfl, fX4, jc2, lX4, jcat, jel, lv_args, Value.category, jins, jsrt, jins2, jble, jblt, jf3, List.filter_cons, List.filter_nil, G_loader, G_lflat, G_lroster, oX10_advance, oX4_settingHere, oX4_fail, oX4_readMethod, oX11_mostOfSetting, oX4_readNumber, joI, joR, joRI, -Int32.not_le, -Int32.not_lt, -Int64.not_le, -Int64.not_lt, i3lt, i6lt, q7, jk, eck]
          try simp (disch := omega) [-Prod.forall, -Prod.exists, -Prod.mk.injEq, -Int32.not_le, -Int32.not_lt, -Int64.not_le, -Int64.not_lt, i3lt, i6lt, q7, jk, eck]
          exact k1
    · have k1 := hp0 (jup (jup τ1 1 8 (-14)) 1 9 (nI s1)) ((w1.up _ rfl).up _ rfl) (fun μ h => by
        have hg : gv μ k = true := by
          rcases e : gv μ k with _ | _
          · exact absurd ((hgv μ h).mpr e) z
          · rfl
        unfold pSet
        rw [← es1, ← ek, if_neg c3, if_pos hg]
        exact lEr_f _ _ _)
      refine jvk_ok TX4_readSetting (V := [(117, 1, 10, oX10_advance), (174, 1, 4, oX4_settingHere), (113, 2, 4, oX4_fail), (177, 1, 4, oX4_readMethod), (149, 2, 4, oX4_readNumber)]) (S := [(180, 1, 0, oX11_mostOfSetting)]) (List.forall_mem_cons.mpr ⟨⟨mX10_advance, n + 1, 0, TX10, 6, rfl, by omega, kX4_117, WX10_advance, rfl, CX10_advance g (n)⟩, (List.forall_mem_cons.mpr ⟨⟨mX4_settingHere, n + 6, 0, TX4, 10, rfl, by omega, kX4_174, WX4_settingHere, rfl, CX4_settingHere g (n) hE⟩, (List.forall_mem_cons.mpr ⟨⟨mX4_fail, n + 0, 1, TX4, 10, rfl, by omega, kX4_113, WX4_fail, rfl, CX4_fail g (n)⟩, (List.forall_mem_cons.mpr ⟨⟨mX4_readMethod, n + 6, 0, TX4, 10, rfl, by omega, kX4_177, WX4_readMethod, rfl, CX4_readMethod g (n) hE⟩, (List.forall_mem_cons.mpr ⟨⟨mX4_readNumber, n + 2, 1, TX4, 10, rfl, by omega, kX4_149, WX4_readNumber, rfl, CX4_readNumber g (n)⟩, (fun _ h => absurd h List.not_mem_nil)⟩)⟩)⟩)⟩)⟩) (List.forall_mem_cons.mpr ⟨⟨mX11_mostOfSetting, n + 0, by omega, Or.inr ⟨_, kX4_180⟩, WX11_mostOfSetting, CX11_mostOfSetting g (n)⟩, (fun _ h => absurd h List.not_mem_nil)⟩) [] 40 _ _ _ _ ?_
      simp (maxSteps := 1000000) [↓Bool.cond_eq_ite, -Prod.forall, -Prod.exists, -Prod.mk.injEq, jvk, tX4_readSetting, jtb, jol, jst, jlk, jcmp, jbin, jfl, fX4, jc2, lX4, jcat, jel, lv_args, Value.category, jins, jsrt, jins2, jble, jblt, jf3, List.filter_cons, List.filter_nil, G_loader, G_lflat, G_lroster, oX10_advance, oX4_settingHere, oX4_fail, oX4_readMethod, oX11_mostOfSetting, oX4_readNumber, joI, joR, joRI, -Int32.not_le, -Int32.not_lt, -Int64.not_le, -Int64.not_lt, i3lt, i6lt, n1, jk, eck, z, z3, jup_1]
      try simp (disch := omega) [-Prod.forall, -Prod.exists, -Prod.mk.injEq, -Int32.not_le, -Int32.not_lt, -Int64.not_le, -Int64.not_lt, i3lt, i6lt, n1, jk, eck, z, z3, jup_1]
      exact k1
