/-! Loader: lease, deposit, room, plan -/
def oX4_readLease : jO := joR fun a σ => (a = 1 ∧ kT σ ∧ (∃ s, toP σ s), fun v τ => (jfr aLq b0 σ τ ∧ k9 v σ τ) ∧ ∀ s μ, toP σ s → lR σ μ → lRes v τ (pOnce (σ.1 3) (kLn σ) 3 3 s μ))
def oX4_readDeposit : jO := joR fun a σ => (a = 1 ∧ kT σ ∧ (∃ s, toP σ s), fun v τ => (jfr aLq b0 σ τ ∧ k9 v σ τ) ∧ ∀ s μ, toP σ s → lR σ μ → lRes v τ (pOnce (σ.1 3) (kLn σ) 4 4 s μ))
theorem lR_once {σ τ : jM} {μ : pM} (h : lR σ μ) {k : Nat} (hk : k < 5) (x : Int32) (hv : vC τ k = x) (hg : gC τ k = 1) (ho : ∀ j, j < 5 → ¬ j = k → vC τ j = vC σ j ∧ gC τ j = gC σ j) (hA : ∀ a j, lUA μ a j → τ.1 a j = σ.1 a j) (hC : ∀ a j, lUC μ a j → τ.1 a j = σ.1 a j) : lR τ (u1 (gvS μ k) 347 k x) := by
  have e : ∀ i j, ¬ (i = 347 ∧ j = k) → ¬ (i = 322 ∧ j = 49) → (u1 (gvS μ k) 347 k x) i j = μ i j := fun i j h1 h2 => by
    rw [u1_n _ _ h1]
    unfold gvS
    exact u1_n _ _ h2
  have p : pe (u1 (gvS μ k) 347 k x) = pe μ := by
    unfold pe
    rw [e _ _ (by omega) (by omega)]
  unfold lR
  rw [p]
  exact ⟨lA_cg h.1 hA (fun a j q => e a j (by unfold lVA at q; omega) (by unfold lVA at q; omega)), lB_up h.2.1 hk hv hg ho, lC_cg h.2.2 hC (fun a j q => e a j (by unfold lVC at q; omega) (by unfold lVC at q; omega))⟩
set_option maxRecDepth 100000 in
set_option maxHeartbeats 4000000 in
theorem CX4_readLease (g : jG) (n : Nat) : jOk g (n + 4) mX4_readLease oX4_readLease := by
  refine joR_ok ?_
  rintro _ σ ⟨rfl, hT, s, hs⟩
  have uniq : ∀ t, toP σ t → t = s := fun t ht => toP_inj hT ht hs
  have hx : ∃ s, toP σ s := ⟨s, hs⟩
  refine jCon.ofP (by decide +kernel) (by simp [lg_sl, Value.category]) (fun post hp => ?_)
  refine jvk_ok TX4_readLease (V := [(162, 2, 4, oX4_readAmount)]) (S := []) (List.forall_mem_cons.mpr ⟨⟨mX4_readAmount, n + 3, 1, TX4, 10, rfl, by omega, kX4_162, WX4_readAmount, rfl, CX4_readAmount g (n)⟩, (fun _ h => absurd h List.not_mem_nil)⟩) (fun _ h => absurd h List.not_mem_nil) [8] 20 _ _ _ _ ?_
  simp (maxSteps := 1000000) [↓Bool.cond_eq_ite, -Prod.forall, -Prod.exists, -Prod.mk.injEq, jvk, tX4_readLease, jtb, jol, jst, jlk, jcmp, jbin, jfl, fX4, jc2, lX4, jcat, jel, lv_args, Value.category, jins, jsrt, jins2, jble, jblt, jf3, List.filter_cons, List.filter_nil, G_loader, G_lflat, G_lroster, oX4_readAmount, joRI, -Int32.not_le, -Int32.not_lt, -Int64.not_le, -Int64.not_lt, i3lt, i6lt, hT, hx]
  try simp (disch := omega) [-Prod.forall, -Prod.exists, -Prod.mk.injEq, -Int32.not_le, -Int32.not_lt, -Int64.not_le, -Int64.not_lt, i3lt, i6lt, hT, hx]
  have hp : ∀ v τ, jfr aLq b0 σ τ → k9 v σ τ → (∀ μ, lR σ μ → lRes v τ (pOnce (σ.1 3) (kLn σ) 3 3 s μ)) → post v τ := fun v τ f b q => hp v τ ⟨⟨f, b⟩, fun t μ ht h => by rw [uniq t ht]; exact q μ h⟩
  have hp0 := fun τ f q => hp (some (.int 0)) τ f k9_0 q
  have hp1 := fun τ f e q => hp (some (.int 1)) τ f (fun _ => e) q
  intro v1 τ1 f1 b1 q1
  have q1 := q1 s hs
  have fw : jfr aLq b0 σ τ1 := f1.weak (fun a j q => lw_ln q) (fun _ q => q)
  by_cases z : σ.1 1 3 = 0
  · rw [if_pos z] at q1
    have g3 : ∀ μ, lR σ μ → ¬ gv μ 3 = true := fun μ h => by
      rw [((h.2.1 3 (by decide)).2.mp z)]
      decide
    rcases eI : pInt (σ.1 3) (kLn σ) 99999 (nx (σ.1 3) (kLn σ) s) with e | y
    · rw [eI] at q1
      have hv1 := q1.1
      subst hv1
      have k1 := hp0 τ1 fw (fun μ h => by
        unfold pOnce
        rw [if_neg (g3 μ h), eI]
        exact q1)
      refine jvk_ok TX4_readLease (V := [(162, 2, 4, oX4_readAmount)]) (S := []) (List.forall_mem_cons.mpr ⟨⟨mX4_readAmount, n + 3, 1, TX4, 10, rfl, by omega, kX4_162, WX4_readAmount, rfl, CX4_readAmount g (n)⟩, (fun _ h => absurd h List.not_mem_nil)⟩) (fun _ h => absurd h List.not_mem_nil) [] 20 _ _ _ _ ?_
      simp (maxSteps := 1000000) [↓Bool.cond_eq_ite, -Prod.forall, -Prod.exists, -Prod.mk.injEq, jvk, tX4_readLease, jtb, jol, jst, jlk, jcmp, jbin, jfl, fX4, jc2, lX4, jcat, jel, lv_args, Value.category, jins, jsrt, jins2, jble, jblt, jf3, List.filter_cons, List.filter_nil, G_loader, G_lflat, G_lroster, oX4_readAmount, joRI, -Int32.not_le, -Int32.not_lt, -Int64.not_le, -Int64.not_lt, i3lt, i6lt]
      try simp (disch := omega) [-Prod.forall, -Prod.exists, -Prod.mk.injEq, -Int32.not_le, -Int32.not_lt, -Int64.not_le, -Int64.not_lt, i3lt, i6lt]
      exact k1
    · rw [eI] at q1
      obtain ⟨hv1, q7, tq⟩ := q1
      subst hv1
      have k1 := hp1 (jup (jup τ1 1 3 1) 4 2 (nI y)) ((fw.up _ rfl).up _ rfl) (b1 rfl) (fun μ h => by
        unfold pOnce
        rw [if_neg (g3 μ h), eI]
        refine ⟨rfl, tq, lR_once (k := 3) (lR_ln h f1) (by decide) (nI y) rfl rfl (fun j hj hjk => ?_) (fun a j q => ?_) (fun a j q => ?_)⟩
        · rcases (by omega : j = 0 ∨ j = 1 ∨ j = 2 ∨ j = 4) with rfl | rfl | rfl | rfl <;> exact ⟨rfl, rfl⟩
        · rw [jup_1, if_neg (by unfold lUA at q; omega), jup_1, if_neg (by unfold lUA at q; omega)]
        · rw [jup_1, if_neg (by unfold lUC at q; omega), jup_1, if_neg (by unfold lUC at q; omega)])
      refine jvk_ok TX4_readLease (V := [(162, 2, 4, oX4_readAmount)]) (S := []) (List.forall_mem_cons.mpr ⟨⟨mX4_readAmount, n + 3, 1, TX4, 10, rfl, by omega, kX4_162, WX4_readAmount, rfl, CX4_readAmount g (n)⟩, (fun _ h => absurd h List.not_mem_nil)⟩) (fun _ h => absurd h List.not_mem_nil) [] 30 _ _ _ _ ?_
      simp (maxSteps := 1000000) [↓Bool.cond_eq_ite, -Prod.forall, -Prod.exists, -Prod.mk.injEq, jvk, tX4_readLease, jtb, jol, jst, jlk, jcmp, jbin, jfl, fX4, jc2, lX4, jcat, jel, lv_args, Value.category, jins, jsrt, jins2, jble, jblt, jf3, List.filter_cons, List.filter_nil, G_loader, G_lflat, G_lroster, oX4_readAmount, joRI, -Int32.not_le, -Int32.not_lt, -Int64.not_le, -Int64.not_lt, i3lt, i6lt, q7, jup_1]
      try simp (disch := omega) [-Prod.forall, -Prod.exists, -Prod.mk.injEq, -Int32.not_le, -Int32.not_lt, -Int64.not_le, -Int64.not_lt, i3lt, i6lt, q7, jup_1]
      exact k1
  · rw [if_neg z] at q1
    have hv1 := q1.1
    subst hv1
    have k1 := hp0 τ1 fw (fun μ h => by
      unfold pOnce
      rw [if_pos (by
        have := (h.2.1 3 (by decide)).2
        rcases e : gv μ 3 with _ | _
        · exact absurd (this.mpr e) z
        · rfl)]
      exact q1)
    refine jvk_ok TX4_readLease (V := [(162, 2, 4, oX4_readAmount)]) (S := []) (List.forall_mem_cons.mpr ⟨⟨mX4_readAmount, n + 3, 1, TX4, 10, rfl, by omega, kX4_162, WX4_readAmount, rfl, CX4_readAmount g (n)⟩, (fun _ h => absurd h List.not_mem_nil)⟩) (fun _ h => absurd h List.not_mem_nil) [] 20 _ _ _ _ ?_
    simp (maxSteps := 1000000) [↓Bool.cond_eq_ite, -Prod.forall, -Prod.exists, -Prod.mk.injEq, jvk, tX4_readLease, jtb, jol, jst, jlk, jcmp, jbin, jfl, fX4, jc2, lX4, jcat, jel, lv_args, Value.category, jins, jsrt, jins2, jble, jblt, jf3, List.filter_cons, List.filter_nil, G_loader, G_lflat, G_lroster, oX4_readAmount, joRI, -Int32.not_le, -Int32.not_lt, -Int64.not_le, -Int64.not_lt, i3lt, i6lt]
    try simp (disch := omega) [-Prod.forall, -Prod.exists, -Prod.mk.injEq, -Int32.not_le, -Int32.not_lt, -Int64.not_le, -Int64.not_lt, i3lt, i6lt]
    exact k1
set_option maxRecDepth 100000 in
set_option maxHeartbeats 4000000 in
theorem CX4_readDeposit (g : jG) (n : Nat) : jOk g (n + 4) mX4_readDeposit oX4_readDeposit := by
  refine joR_ok ?_
  rintro _ σ ⟨rfl, hT, s, hs⟩
  have uniq : ∀ t, toP σ t → t = s := fun t ht => toP_inj hT ht hs
  have hx : ∃ s, toP σ s := ⟨s, hs⟩
  refine jCon.ofP (by decide +kernel) (by simp [lg_sl, Value.category]) (fun post hp => ?_)
  refine jvk_ok TX4_readDeposit (V := [(162, 2, 4, oX4_readAmount)]) (S := []) (List.forall_mem_cons.mpr ⟨⟨mX4_readAmount, n + 3, 1, TX4, 10, rfl, by omega, kX4_162, WX4_readAmount, rfl, CX4_readAmount g (n)⟩, (fun _ h => absurd h List.not_mem_nil)⟩) (fun _ h => absurd h List.not_mem_nil) [8] 20 _ _ _ _ ?_
  simp (maxSteps := 1000000) [↓Bool.cond_eq_ite, -Prod.forall, -Prod.exists, -Prod.mk.injEq, jvk, tX4_readDeposit, jtb, jol, jst, jlk, jcmp, jbin, jfl, fX4, jc2, lX4, jcat, jel, lv_args, Value.category, jins, jsrt, jins2, jble, jblt, jf3, List.filter_cons, List.filter_nil, G_loader, G_lflat, G_lroster, oX4_readAmount, joRI, -Int32.not_le, -Int32.not_lt, -Int64.not_le, -Int64.not_lt, i3lt, i6lt, hT, hx]
  try simp (disch := omega) [-Prod.forall, -Prod.exists, -Prod.mk.injEq, -Int32.not_le, -Int32.not_lt, -Int64.not_le, -Int64.not_lt, i3lt, i6lt, hT, hx]
  have hp : ∀ v τ, jfr aLq b0 σ τ → k9 v σ τ → (∀ μ, lR σ μ → lRes v τ (pOnce (σ.1 3) (kLn σ) 4 4 s μ)) → post v τ := fun v τ f b q => hp v τ ⟨⟨f, b⟩, fun t μ ht h => by rw [uniq t ht]; exact q μ h⟩
  have hp0 := fun τ f q => hp (some (.int 0)) τ f k9_0 q
  have hp1 := fun τ f e q => hp (some (.int 1)) τ f (fun _ => e) q
  intro v1 τ1 f1 b1 q1
  have q1 := q1 s hs
  have fw : jfr aLq b0 σ τ1 := f1.weak (fun a j q => lw_ln q) (fun _ q => q)
  by_cases z : σ.1 1 4 = 0
  · rw [if_pos z] at q1
    have g4 : ∀ μ, lR σ μ → ¬ gv μ 4 = true := fun μ h => by
      rw [((h.2.1 4 (by decide)).2.mp z)]
      decide
    rcases eI : pInt (σ.1 3) (kLn σ) 99999 (nx (σ.1 3) (kLn σ) s) with e | y
    · rw [eI] at q1
      have hv1 := q1.1
      subst hv1
      have k1 := hp0 τ1 fw (fun μ h => by
        unfold pOnce
        rw [if_neg (g4 μ h), eI]
        exact q1)
      refine jvk_ok TX4_readDeposit (V := [(162, 2, 4, oX4_readAmount)]) (S := []) (List.forall_mem_cons.mpr ⟨⟨mX4_readAmount, n + 3, 1, TX4, 10, rfl, by omega, kX4_162, WX4_readAmount, rfl, CX4_readAmount g (n)⟩, (fun _ h => absurd h List.not_mem_nil)⟩) (fun _ h => absurd h List.not_mem_nil) [] 20 _ _ _ _ ?_
      simp (maxSteps := 1000000) [↓Bool.cond_eq_ite, -Prod.forall, -Prod.exists, -Prod.mk.injEq, jvk, tX4_readDeposit, jtb, jol, jst, jlk, jcmp, jbin, jfl, fX4, jc2, lX4, jcat, jel, lv_args, Value.category, jins, jsrt, jins2, jble, jblt, jf3, List.filter_cons, List.filter_nil, G_loader, G_lflat, G_lroster, oX4_readAmount, joRI, -Int32.not_le, -Int32.not_lt, -Int64.not_le, -Int64.not_lt, i3lt, i6lt]
      try simp (disch := omega) [-Prod.forall, -Prod.exists, -Prod.mk.injEq, -Int32.not_le, -Int32.not_lt, -Int64.not_le, -Int64.not_lt, i3lt, i6lt]
      exact k1
    · rw [eI] at q1
      obtain ⟨hv1, q7, tq⟩ := q1
      subst hv1
      have k1 := hp1 (jup (jup τ1 1 4 1) 4 3 (nI y)) ((fw.up _ rfl).up _ rfl) (b1 rfl) (fun μ h => by
        unfold pOnce
        rw [if_neg (g4 μ h), eI]
        refine ⟨rfl, tq, lR_once (k := 4) (lR_ln h f1) (by decide) (nI y) rfl rfl (fun j hj hjk => ?_) (fun a j q => ?_) (fun a j q => ?_)⟩
        · rcases (by omega : j = 0 ∨ j = 1 ∨ j = 2 ∨ j = 3) with rfl | rfl | rfl | rfl <;> exact ⟨rfl, rfl⟩
        · rw [jup_1, if_neg (by unfold lUA at q; omega), jup_1, if_neg (by unfold lUA at q; omega)]
        · rw [jup_1, if_neg (by unfold lUC at q; omega), jup_1, if_neg (by unfold lUC at q; omega)])
      refine jvk_ok TX4_readDeposit (V := [(162, 2, 4, oX4_readAmount)]) (S := []) (List.forall_mem_cons.mpr ⟨⟨mX4_readAmount, n + 3, 1, TX4, 10, rfl, by omega, kX4_162, WX4_readAmount, rfl, CX4_readAmount g (n)⟩, (fun _ h => absurd h List.not_mem_nil)⟩) (fun _ h => absurd h List.not_mem_nil) [] 30 _ _ _ _ ?_
      simp (maxSteps := 1000000) [↓Bool.cond_eq_ite, -Prod.forall, -Prod.exists, -Prod.mk.injEq, jvk, tX4_readDeposit, jtb, jol, jst, jlk, jcmp, jbin, jfl, fX4, jc2, lX4, jcat, jel, lv_args, Value.category, jins, jsrt, jins2, jble, jblt, jf3, List.filter_cons, List.filter_nil, G_loader, G_lflat, G_lroster, oX4_readAmount, joRI, -Int32.not_le, -Int32.not_lt, -Int64.not_le, -Int64.not_lt, i3lt, i6lt, q7, jup_1]
      try simp (disch := omega) [-Prod.forall, -Prod.exists, -Prod.mk.injEq, -Int32.not_le, -Int32.not_lt, -Int64.not_le, -Int64.not_lt, i3lt, i6lt, q7, jup_1]
      exact k1
  · rw [if_neg z] at q1
    have hv1 := q1.1
    subst hv1
    have k1 := hp0 τ1 fw (fun μ h => by
      unfold pOnce
      rw [if_pos (by
        have := (h.2.1 4 (by decide)).2
        rcases e : gv μ 4 with _ | _
        · exact absurd (this.mpr e) z
        · rfl)]
      exact q1)
    refine jvk_ok TX4_readDeposit (V := [(162, 2, 4, oX4_readAmount)]) (S := []) (List.forall_mem_cons.mpr ⟨⟨mX4_readAmount, n + 3, 1, TX4, 10, rfl, by omega, kX4_162, WX4_readAmount, rfl, CX4_readAmount g (n)⟩, (fun _ h => absurd h List.not_mem_nil)⟩) (fun _ h => absurd h List.not_mem_nil) [] 20 _ _ _ _ ?_
    simp (maxSteps := 1000000) [↓Bool.cond_eq_ite, -Prod.forall, -Prod.exists, -Prod.mk.injEq, jvk, tX4_readDeposit, jtb, jol, jst, jlk, jcmp, jbin, jfl, fX4, jc2, lX4, jcat, jel, lv_args, Value.category, jins, jsrt, jins2, jble, jblt, jf3, List.filter_cons, List.filter_nil, G_loader, G_lflat, G_lroster, oX4_readAmount, joRI, -Int32.not_le, -Int32.not_lt, -Int64.not_le, -Int64.not_lt, i3lt, i6lt]
    try simp (disch := omega) [-Prod.forall, -Prod.exists, -Prod.mk.injEq, -Int32.not_le, -Int32.not_lt, -Int64.not_le, -Int64.not_lt, i3lt, i6lt]
    exact k1
