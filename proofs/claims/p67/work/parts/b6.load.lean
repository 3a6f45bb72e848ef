/-! Loader: a room, a plan -/
theorem lR_room {σ : jM} {μ : pM} (h : lR σ μ) (h6 : rm μ < 6) (h0 : pe μ = 0) {x : Int32} (hx : ∀ j, j < rm μ → ¬ μ 348 j = x) : lR (jup (jup σ 25 (rm μ) x) 4 0 (nI (rm μ + 1))) (u1 (u1 μ 348 (rm μ) x) 322 43 (nI (rm μ + 1))) := by
  obtain ⟨R, eR⟩ : ∃ R, R = rm μ := ⟨_, rfl⟩
  rw [← eR] at h6 hx ⊢
  obtain ⟨ν, eν⟩ : ∃ ν, ν = u1 (u1 μ 348 R x) 322 43 (nI (R + 1)) := ⟨_, rfl⟩
  have e : ∀ i j, ¬ (i = 322 ∧ j = 43) → ¬ (i = 348 ∧ j = R) → ν i j = μ i j := fun i j h1 h2 => by
    rw [eν, u1_n _ _ h1, u1_n _ _ h2]
  have e43 : ν 322 43 = nI (R + 1) := by rw [eν, u1_s]
  have e48 : ν 348 R = x := by rw [eν, u1_n _ _ (by omega), u1_s]
  have r : rm ν = R + 1 := by unfold rm; rw [e43, nI_clamp (by omega)]
  have p : pe ν = 0 := by rw [← h0]; unfold pe; rw [e _ _ (by omega) (by omega)]
  have E : ∀ a j, ¬ (a = 4 ∧ j = 0) → ¬ (a = 25 ∧ j = R) → (jup (jup σ 25 R x) 4 0 (nI (R + 1))).1 a j = σ.1 a j := fun a j h1 h2 => by
    rw [jup_1, if_neg h1, jup_1, if_neg h2]
  rw [← eν]
  obtain ⟨⟨a1, a2, a3, a4, a5, a6, a7, a8, a9, b1, b2, b3⟩, hB, hC⟩ := h
  rw [← eR] at a1 a3 a4 a7 b2 b3
  unfold lR
  rw [p]
  refine ⟨?_, lB_cg hB (fun a j q => E a j (by unfold lUB at q; omega) (by unfold lUB at q; omega)) (fun a j q => e a j (by unfold lVB at q; omega) (by unfold lVB at q; omega)), lC_cg hC (fun a j q => E a j (by unfold lUC at q; omega) (by unfold lUC at q; omega)) (fun a j q => e a j (by unfold lVC at q; omega) (by unfold lVC at q; omega))⟩
  unfold lA
  rw [r, p]
  refine ⟨by omega, by omega, e43, jup_s _ _ _ _, ?_, ?_, fun j hj => ?_, fun j hj => by omega, fun i j hij hj => by omega, fun i hi => by omega, fun i j hi hj => by omega, fun i j hij hj => ?_⟩
  · rw [e _ _ (by omega) (by omega), a5, h0]
  · rw [E _ _ (by omega) (by omega), a6, h0]
  · by_cases c : j = R
    · rw [c, e48, jup_1, if_neg (by omega), jup_s]
    · rw [E _ _ (by omega) (by omega), e _ _ (by omega) (by omega)]
      exact a7 j (by omega)
  · rw [e 348 i (by omega) (by omega)]
    by_cases c : j = R
    · rw [c, e48]
      exact hx i (by omega)
    · rw [e _ _ (by omega) (by omega)]
      exact b3 i j hij (by omega)
def oX4_readRoom : jO := joR fun a σ => (a = 1 ∧ kT σ ∧ (∃ s, toP σ s) ∧ ∃ μ, lR σ μ, fun v τ => (jfr aLq b0 σ τ ∧ k9 v σ τ) ∧ ∀ s μ, toP σ s → lR σ μ → lRes v τ (pRoom (σ.1 3) (kLn σ) s μ))
set_option maxRecDepth 100000 in
set_option maxHeartbeats 4000000 in
theorem CX4_readRoom (g : jG) (n : Nat) : jOk g (n + 3) mX4_readRoom oX4_readRoom := by
  refine joR_ok ?_
  rintro _ σ ⟨rfl, hT, ⟨s, hs⟩, μ0, h0⟩
  have uniq : ∀ t, toP σ t → t = s := fun t ht => toP_inj hT ht hs
  have hx : ∃ s, toP σ s := ⟨s, hs⟩
  have h3 := hs.2.1
  obtain ⟨R, eR⟩ : ∃ R, R = rm μ0 := ⟨_, rfl⟩
  obtain ⟨P, eP⟩ : ∃ P, P = pe μ0 := ⟨_, rfl⟩
  have R6 : R ≤ 6 := by rw [eR]; exact h0.1.1
  have P10 : P ≤ 10 := by rw [eP]; exact h0.1.2.1
  have g0 : σ.1 4 0 = nI R := by rw [eR]; exact h0.1.2.2.2.1
  have g1 : σ.1 4 1 = nI P := by rw [eP]; exact h0.1.2.2.2.2.2.1
  have hμ : ∀ μ, lR σ μ → rm μ = R ∧ pe μ = P := fun μ h => by
    have := lR_n h h0
    rw [eR, eP]
    exact ⟨this.1, this.2.1⟩
  refine jCon.ofP (by decide +kernel) (by simp [lg_sl, Value.category]) (fun post hp => ?_)
  have hp : ∀ v τ, jfr aLq b0 σ τ → k9 v σ τ → (∀ μ, lR σ μ → rm μ = R → pe μ = P → lRes v τ (pRoom (σ.1 3) (kLn σ) s μ)) → post v τ := fun v τ f b q => hp v τ ⟨⟨f, b⟩, fun t μ ht h => by rw [uniq t ht]; exact q μ h (hμ μ h).1 (hμ μ h).2⟩
  have hp0 := fun τ f q => hp (some (.int 0)) τ f k9_0 q
  have hp1 := fun τ f e q => hp (some (.int 1)) τ f (fun _ => e) q
  have fail : ∀ x : Int32, jfr aLq b0 σ (jup (jup σ 1 8 x) 1 9 (nI s)) := fun x => (jfr.rfl.up _ rfl).up _ rfl
  by_cases P0 : 0 < P
  · have c : ¬ nI P ≤ 0 := nI_nle P0 (by omega)
    have k1 := hp0 _ (fail (-11)) (fun μ h e1 e2 => by
      unfold pRoom
      rw [if_pos (by omega)]
      exact lEr_f _ _ _)
    refine jvk_ok TX4_readRoom (V := [(113, 2, 4, oX4_fail), (131, 1, 4, oX4_readName), (134, 3, 7, oX7_findRoom), (138, 3, 7, oX7_nameRoom), (117, 1, 10, oX10_advance)]) (S := []) (List.forall_mem_cons.mpr ⟨⟨mX4_fail, n + 0, 1, TX4, 10, rfl, by omega, kX4_113, WX4_fail, rfl, CX4_fail g (n)⟩, (List.forall_mem_cons.mpr ⟨⟨mX4_readName, n + 2, 0, TX4, 10, rfl, by omega, kX4_131, WX4_readName, rfl, CX4_readName g (n)⟩, (List.forall_mem_cons.mpr ⟨⟨mX7_findRoom, n + 0, 2, TX7, 6, rfl, by omega, kX4_134, WX7_findRoom, rfl, CX7_findRoom g (n)⟩, (List.forall_mem_cons.mpr ⟨⟨mX7_nameRoom, n + 0, 2, TX7, 6, rfl, by omega, kX4_138, WX7_nameRoom, rfl, CX7_nameRoom g (n)⟩, (List.forall_mem_cons.mpr ⟨⟨mX10_advance, n + 1, 0, TX10, 6, rfl, by omega, kX4_117, WX10_advance, rfl, CX10_advance g (n)⟩, (fun _ h => absurd h List.not_mem_nil)⟩)⟩)⟩)⟩)⟩) (fun _ h => absurd h List.not_mem_nil) [] 40 _ _ _ _ ?_
    simp (maxSteps := 1000000) [↓Bool.cond_eq_ite, -Prod.forall, -Prod.exists, -Prod.mk.injEq, jvk, tX4_readRoom, jtb, jol, jst, jlk, jcmp, jbin, jfl, fX4, jc2, lX4, jcat, jel, lv_args, Value.category, jins, jsrt, jins2, jble, jblt, jf3, List.filter_cons, List.filter_nil, G_loader, G_lflat, G_lroster, oX4_fail, oX4_readName, oX7_findRoom, oX7_nameRoom, oX10_advance, joR, joRI, joRII, -Int32.not_le, -Int32.not_lt, -Int64.not_le, -Int64.not_lt, i3lt, i6lt, g0, g1, c, h3, jup_1]
    try simp (disch := omega) [-Prod.forall, -Prod.exists, -Prod.mk.injEq, -Int32.not_le, -Int32.not_lt, -Int64.not_le, -Int64.not_lt, i3lt, i6lt, g0, g1, c, h3, jup_1]
    exact k1
  · have P00 : P = 0 := by omega
    have c : nI P ≤ 0 := by rw [P00]; decide
    by_cases c6 : 6 ≤ R
    · have d6 : (6 : Int32) ≤ nI R := nI_le (a := 6) c6 (by omega)
      have k1 := hp0 _ (fail (-15)) (fun μ h e1 e2 => by
        unfold pRoom
        rw [if_neg (by omega), if_pos (by omega)]
        exact lEr_f _ _ _)
      refine jvk_ok TX4_readRoom (V := [(113, 2, 4, oX4_fail), (131, 1, 4, oX4_readName), (134, 3, 7, oX7_findRoom), (138, 3, 7, oX7_nameRoom), (117, 1, 10, oX10_advance)]) (S := []) (List.forall_mem_cons.mpr ⟨⟨mX4_fail, n + 0, 1, TX4, 10, rfl, by omega, kX4_113, WX4_fail, rfl, CX4_fail g (n)⟩, (List.forall_mem_cons.mpr ⟨⟨mX4_readName, n + 2, 0, TX4, 10, rfl, by omega, kX4_131, WX4_readName, rfl, CX4_readName g (n)⟩, (List.forall_mem_cons.mpr ⟨⟨mX7_findRoom, n + 0, 2, TX7, 6, rfl, by omega, kX4_134, WX7_findRoom, rfl, CX7_findRoom g (n)⟩, (List.forall_mem_cons.mpr ⟨⟨mX7_nameRoom, n + 0, 2, TX7, 6, rfl, by omega, kX4_138, WX7_nameRoom, rfl, CX7_nameRoom g (n)⟩, (List.forall_mem_cons.mpr ⟨⟨mX10_advance, n + 1, 0, TX10, 6, rfl, by omega, kX4_117, WX10_advance, rfl, CX10_advance g (n)⟩, (fun _ h => absurd h List.not_mem_nil)⟩)⟩)⟩)⟩)⟩) (fun _ h => absurd h List.not_mem_nil) [] 40 _ _ _ _ ?_
      simp (maxSteps := 1000000) [↓Bool.cond_eq_ite, -Prod.forall, -Prod.exists, -Prod.mk.injEq, jvk, tX4_readRoom, jtb, jol, jst, jlk, jcmp, jbin, jfl, fX4, jc2, lX4, jcat, jel, lv_args, Value.category, jins, jsrt, jins2, jble, jblt, jf3, List.filter_cons, List.filter_nil, G_loader, G_lflat, G_lroster, oX4_fail, oX4_readName, oX7_findRoom, oX7_nameRoom, oX10_advance, joR, joRI, joRII, -Int32.not_le, -Int32.not_lt, -Int64.not_le, -Int64.not_lt, i3lt, i6lt, g0, g1, c, d6, h3, jup_1]
      try simp (disch := omega) [-Prod.forall, -Prod.exists, -Prod.mk.injEq, -Int32.not_le, -Int32.not_lt, -Int64.not_le, -Int64.not_lt, i3lt, i6lt, g0, g1, c, d6, h3, jup_1]
      exact k1
    · have d6 : ¬ (6 : Int32) ≤ nI R := nI_ge (b := 6) (by omega) (by decide)
      refine jvk_ok TX4_readRoom (V := [(113, 2, 4, oX4_fail), (131, 1, 4, oX4_readName), (134, 3, 7, oX7_findRoom), (138, 3, 7, oX7_nameRoom), (117, 1, 10, oX10_advance)]) (S := []) (List.forall_mem_cons.mpr ⟨⟨mX4_fail, n + 0, 1, TX4, 10, rfl, by omega, kX4_113, WX4_fail, rfl, CX4_fail g (n)⟩, (List.forall_mem_cons.mpr ⟨⟨mX4_readName, n + 2, 0, TX4, 10, rfl, by omega, kX4_131, WX4_readName, rfl, CX4_readName g (n)⟩, (List.forall_mem_cons.mpr ⟨⟨mX7_findRoom, n + 0, 2, TX7, 6, rfl, by omega, kX4_134, WX7_findRoom, rfl, CX7_findRoom g (n)⟩, (List.forall_mem_cons.mpr ⟨⟨mX7_nameRoom, n + 0, 2, TX7, 6, rfl, by omega, kX4_138, WX7_nameRoom, rfl, CX7_nameRoom g (n)⟩, (List.forall_mem_cons.mpr ⟨⟨mX10_advance, n + 1, 0, TX10, 6, rfl, by omega, kX4_117, WX10_advance, rfl, CX10_advance g (n)⟩, (fun _ h => absurd h List.not_mem_nil)⟩)⟩)⟩)⟩)⟩) (fun _ h => absurd h List.not_mem_nil) [42] 40 _ _ _ _ ?_
      simp (maxSteps := 1000000) [↓Bool.cond_eq_ite, -Prod.forall, -Prod.exists, -Prod.mk.injEq, jvk, tX4_readRoom, jtb, jol, jst, jlk, jcmp, jbin, jfl, fX4, jc2, lX4, jcat, jel, lv_args, Value.category, jins, jsrt, jins2, jble, jblt, jf3, List.filter_cons, List.filter_nil, G_loader, G_lflat, G_lroster, oX4_fail, oX4_readName, oX7_findRoom, oX7_nameRoom, oX10_advance, joR, joRI, joRII, -Int32.not_le, -Int32.not_lt, -Int64.not_le, -Int64.not_lt, i3lt, i6lt, g0, g1, c, d6, hT, hx]
      try simp (disch := omega) [-Prod.forall, -Prod.exists, -Prod.mk.injEq, -Int32.not_le, -Int32.not_lt, -Int64.not_le, -Int64.not_lt, i3lt, i6lt, g0, g1, c, d6, hT, hx]
      intro v1 τ1 f1 b1 q1
      have q1 := q1 s hs
      obtain ⟨s1, es1⟩ : ∃ s1, s1 = nx (σ.1 3) (kLn σ) s := ⟨_, rfl⟩
      rw [← es1] at q1
      have w1 : jfr aLq b0 σ τ1 := f1.weak (fun a j q => lw_ln q) (fun _ q => q)
      obtain ⟨e3, eL2, kT2⟩ := ln_fr f1
      have hT1 := kT2 hT
      by_cases cN : isN (σ.1 3) (kLn σ) s1 = true
      · rw [if_pos cN] at q1
        obtain ⟨hv1, t1, n1⟩ := q1
        subst hv1
        obtain ⟨M, eM⟩ : ∃ M, M = nm (σ.1 3) (kLn σ) s1 := ⟨_, rfl⟩
        rw [← eM] at n1
        have ecR : (nI R).toNatClampNeg = R := nI_clamp (by omega)
        have hN6 : ∃ N, nI R = nI N ∧ N ≤ 6 := ⟨R, rfl, R6⟩
        have z1 : τ1.1 1 6 = nI M := n1
        have z3 := t1.2.1
        have z4 : τ1.1 4 0 = nI R := (f1.2.2 4 0 rfl).trans g0
        refine jvk_ok TX4_readRoom (V := [(113, 2, 4, oX4_fail), (131, 1, 4, oX4_readName), (134, 3, 7, oX7_findRoom), (138, 3, 7, oX7_nameRoom), (117, 1, 10, oX10_advance)]) (S := []) (List.forall_mem_cons.mpr ⟨⟨mX4_fail, n + 0, 1, TX4, 10, rfl, by omega, kX4_113, WX4_fail, rfl, CX4_fail g (n)⟩, (List.forall_mem_cons.mpr ⟨⟨mX4_readName, n + 2, 0, TX4, 10, rfl, by omega, kX4_131, WX4_readName, rfl, CX4_readName g (n)⟩, (List.forall_mem_cons.mpr ⟨⟨mX7_findRoom, n + 0, 2, TX7, 6, rfl, by omega, kX4_134, WX7_findRoom, rfl, CX7_findRoom g (n)⟩, (List.forall_mem_cons.mpr ⟨⟨mX7_nameRoom, n + 0, 2, TX7, 6, rfl, by omega, kX4_138, WX7_nameRoom, rfl, CX7_nameRoom g (n)⟩, (List.forall_mem_cons.mpr ⟨⟨mX10_advance, n + 1, 0, TX10, 6, rfl, by omega, kX4_117, WX10_advance, rfl, CX10_advance g (n)⟩, (fun _ h => absurd h List.not_mem_nil)⟩)⟩)⟩)⟩)⟩) (fun _ h => absurd h List.not_mem_nil) [59] 40 _ _ _ _ ?_
        simp (maxSteps := 1000000) [↓Bool.cond_eq_ite, -Prod.forall, -Prod.exists, -Prod.mk.injEq, jvk, tX4_readRoom, jtb, jol, jst, jlk, jcmp, jbin, jfl, fX4, jc2, lX4, jcat, jel, lv_args, Value.category, jins, jsrt, jins2, jble, jblt, jf3, List.filter_cons, List.filter_nil, G_loader, G_lflat, G_lroster, oX4_fail, oX4_readName, oX7_findRoom, oX7_nameRoom, oX10_advance, joR, joRI, joRII, -Int32.not_le, -Int32.not_lt, -Int64.not_le, -Int64.not_lt, i3lt, i6lt, n1, hN6, ecR]
        try simp (disch := omega) [-Prod.forall, -Prod.exists, -Prod.mk.injEq, -Int32.not_le, -Int32.not_lt, -Int64.not_le, -Int64.not_lt, i3lt, i6lt, n1, hN6, ecR]
        obtain ⟨F, eF⟩ : ∃ F, F = ff (fun k => decide (τ1.1 25 k = nI M)) R 0 := ⟨_, rfl⟩
        rw [← eF]
        have hd : ∀ μ, lR σ μ → rm μ = R → (dup (σ.1 3) (kLn σ) μ 348 (rm μ) s1 = true ↔ ¬ F = -1) := fun μ h e1 => by
          rw [e1, eF, eM]
          exact dup_ff (by omega) (fun j hj => by
            rw [f1.2.2 25 j rfl]
            exact h.1.2.2.2.2.2.2.1 j (by omega))
        by_cases cF : F = -1
        · have jR : jin (nI R) 6 := jin_nI (by omega) (by decide)
          have n2 : nI R + 1 = nI (R + 1) := nI_1 _
          obtain ⟨ρ, eρ⟩ : ∃ ρ, ρ = jup (jup τ1 25 R (nI M)) 4 0 (nI (R + 1)) := ⟨_, rfl⟩
          have tρ : toP ρ s1 := by rw [eρ]; exact t1
          have hTρ : kT ρ := by rw [eρ]; exact hT1
          have gρ : ρ.1 3 = τ1.1 3 ∧ kLn ρ = kLn τ1 := by rw [eρ]; exact ⟨rfl, rfl⟩
          have wρ : jfr aLq b0 σ ρ := by rw [eρ]; exact (w1.up _ rfl).up _ rfl
          have hpre := toP_p hTρ tρ
          refine jvk_ok TX4_readRoom (V := [(113, 2, 4, oX4_fail), (131, 1, 4, oX4_readName), (134, 3, 7, oX7_findRoom), (138, 3, 7, oX7_nameRoom), (117, 1, 10, oX10_advance)]) (S := []) (List.forall_mem_cons.mpr ⟨⟨mX4_fail, n + 0, 1, TX4, 10, rfl, by omega, kX4_113, WX4_fail, rfl, CX4_fail g (n)⟩, (List.forall_mem_cons.mpr ⟨⟨mX4_readName, n + 2, 0, TX4, 10, rfl, by omega, kX4_131, WX4_readName, rfl, CX4_readName g (n)⟩, (List.forall_mem_cons.mpr ⟨⟨mX7_findRoom, n + 0, 2, TX7, 6, rfl, by omega, kX4_134, WX7_findRoom, rfl, CX7_findRoom g (n)⟩, (List.forall_mem_cons.mpr ⟨⟨mX7_nameRoom, n + 0, 2, TX7, 6, rfl, by omega, kX4_138, WX7_nameRoom, rfl, CX7_nameRoom g (n)⟩, (List.forall_mem_cons.mpr ⟨⟨mX10_advance, n + 1, 0, TX10, 6, rfl, by omega, kX4_117, WX10_advance, rfl, CX10_advance g (n)⟩, (fun _ h => absurd h List.not_mem_nil)⟩)⟩)⟩)⟩)⟩) (fun _ h => absurd h List.not_mem_nil) [95] 60 _ _ _ _ ?_
          simp (maxSteps := 1000000) [↓Bool.cond_eq_ite, -Prod.forall, -Prod.exists, -Prod.mk.injEq, jvk, tX4_readRoom, jtb, jol, jst, jlk, jcmp, jbin, jfl, fX4, jc2, lX4, jcat, jel, lv_args, Value.category, jins, jsrt, jins2, jble, jblt, jf3, List.filter_cons, List.filter_nil, G_loader, G_lflat, G_lroster, oX4_fail, oX4_readName, oX7_findRoom, oX7_nameRoom, oX10_advance, joR, joRI, joRII, -Int32.not_le, -Int32.not_lt, -Int64.not_le, -Int64.not_lt, i3lt, i6lt, cF, z1, z4, jR, ecR, n2, jup_1]
          try simp (disch := omega) [-Prod.forall, -Prod.exists, -Prod.mk.injEq, -Int32.not_le, -Int32.not_lt, -Int64.not_le, -Int64.not_lt, i3lt, i6lt, cF, z1, z4, jR, ecR, n2, jup_1]
          rw [← eρ]
          refine jvk_ok TX4_readRoom (V := [(113, 2, 4, oX4_fail), (131, 1, 4, oX4_readName), (134, 3, 7, oX7_findRoom), (138, 3, 7, oX7_nameRoom), (117, 1, 10, oX10_advance)]) (S := []) (List.forall_mem_cons.mpr ⟨⟨mX4_fail, n + 0, 1, TX4, 10, rfl, by omega, kX4_113, WX4_fail, rfl, CX4_fail g (n)⟩, (List.forall_mem_cons.mpr ⟨⟨mX4_readName, n + 2, 0, TX4, 10, rfl, by omega, kX4_131, WX4_readName, rfl, CX4_readName g (n)⟩, (List.forall_mem_cons.mpr ⟨⟨mX7_findRoom, n + 0, 2, TX7, 6, rfl, by omega, kX4_134, WX7_findRoom, rfl, CX7_findRoom g (n)⟩, (List.forall_mem_cons.mpr ⟨⟨mX7_nameRoom, n + 0, 2, TX7, 6, rfl, by omega, kX4_138, WX7_nameRoom, rfl, CX7_nameRoom g (n)⟩, (List.forall_mem_cons.mpr ⟨⟨mX10_advance, n + 1, 0, TX10, 6, rfl, by omega, kX4_117, WX10_advance, rfl, CX10_advance g (n)⟩, (fun _ h => absurd h List.not_mem_nil)⟩)⟩)⟩)⟩)⟩) (fun _ h => absurd h List.not_mem_nil) [102] 20 _ _ _ _ ?_
          simp (maxSteps := 1000000) [↓Bool.cond_eq_ite, -Prod.forall, -Prod.exists, -Prod.mk.injEq, jvk, tX4_readRoom, jtb, jol, jst, jlk, jcmp, jbin, jfl, fX4, jc2, lX4, jcat, jel, lv_args, Value.category, jins, jsrt, jins2, jble, jblt, jf3, List.filter_cons, List.filter_nil, G_loader, G_lflat, G_lroster, oX4_fail, oX4_readName, oX7_findRoom, oX7_nameRoom, oX10_advance, joR, joRI, joRII, -Int32.not_le, -Int32.not_lt, -Int64.not_le, -Int64.not_lt, i3lt, i6lt, hTρ, hpre]
          try simp (disch := omega) [-Prod.forall, -Prod.exists, -Prod.mk.injEq, -Int32.not_le, -Int32.not_lt, -Int64.not_le, -Int64.not_lt, i3lt, i6lt, hTρ, hpre]
          intro v2 τ2 hv2 f2 t2
          subst hv2
          rw [toP_e hTρ tρ, gρ.1, gρ.2, e3, eL2] at t2
          have k1 := hp1 τ2 (wρ.tr (f2.weak (fun a j q => ln_To (lw_ln q)) (fun _ q => q))) ((f2.2.2 1 9 rfl).trans (by rw [eρ]; exact b1 rfl)) (fun μ h er ep => by
            have hdd := hd μ h er
            unfold pRoom
            rw [← es1, if_neg (by omega), if_neg (by omega), if_neg (fun z => z cN), if_neg (fun z => hdd.mp z cF), ← eM]
            refine ⟨rfl, t2, ?_⟩
            have hl := lR_room (lR_ln h f1) (by omega : rm μ < 6) (by omega) (x := nI M) (fun j hj z => hdd.mp ((al_ex _).mpr ⟨j, hj, by
              rw [← eM]
              simp only [decide_eq_true_eq]
              exact fun y => y z⟩) cF)
            rw [er] at hl ⊢
            rw [← eρ] at hl
            exact lR_ln hl (f2.weak (fun a j q => ln_To q) (fun _ q => q)))
          refine jvk_ok TX4_readRoom (V := [(113, 2, 4, oX4_fail), (131, 1, 4, oX4_readName), (134, 3, 7, oX7_findRoom), (138, 3, 7, oX7_nameRoom), (117, 1, 10, oX10_advance)]) (S := []) (List.forall_mem_cons.mpr ⟨⟨mX4_fail, n + 0, 1, TX4, 10, rfl, by omega, kX4_113, WX4_fail, rfl, CX4_fail g (n)⟩, (List.forall_mem_cons.mpr ⟨⟨mX4_readName, n + 2, 0, TX4, 10, rfl, by omega, kX4_131, WX4_readName, rfl, CX4_readName g (n)⟩, (List.forall_mem_cons.mpr ⟨⟨mX7_findRoom, n + 0, 2, TX7, 6, rfl, by omega, kX4_134, WX7_findRoom, rfl, CX7_findRoom g (n)⟩, (List.forall_mem_cons.mpr ⟨⟨mX7_nameRoom, n + 0, 2, TX7, 6, rfl, by omega, kX4_138, WX7_nameRoom, rfl, CX7_nameRoom g (n)⟩, (List.forall_mem_cons.mpr ⟨⟨mX10_advance, n + 1, 0, TX10, 6, rfl, by omega, kX4_117, WX10_advance, rfl, CX10_advance g (n)⟩, (fun _ h => absurd h List.not_mem_nil)⟩)⟩)⟩)⟩)⟩) (fun _ h => absurd h List.not_mem_nil) [] 20 _ _ _ _ ?_
          simp (maxSteps := 1000000) [↓Bool.cond_eq_ite, -Prod.forall, -Prod.exists, -Prod.mk.injEq, jvk, tX4_readRoom, jtb, jol, jst, jlk, jcmp, jbin, jfl, fX4, jc2, lX4, jcat, jel, lv_args, Value.category, jins, jsrt, jins2, jble, jblt, jf3, List.filter_cons, List.filter_nil, G_loader, G_lflat, G_lroster, oX4_fail, oX4_readName, oX7_findRoom, oX7_nameRoom, oX10_advance, joR, joRI, joRII, -Int32.not_le, -Int32.not_lt, -Int64.not_le, -Int64.not_lt, i3lt, i6lt]
          try simp (disch := omega) [-Prod.forall, -Prod.exists, -Prod.mk.injEq, -Int32.not_le, -Int32.not_lt, -Int64.not_le, -Int64.not_lt, i3lt, i6lt]
          exact k1
        · have k1 := hp0 (jup (jup τ1 1 8 (-14)) 1 9 (nI s1)) ((w1.up _ rfl).up _ rfl) (fun μ h er ep => by
            have hdd := hd μ h er
            unfold pRoom
            rw [← es1, if_neg (by omega), if_neg (by omega), if_neg (fun z => z cN), if_pos (hdd.mpr cF)]
            exact lEr_f _ _ _)
          refine jvk_ok TX4_readRoom (V := [(113, 2, 4, oX4_fail), (131, 1, 4, oX4_readName), (134, 3, 7, oX7_findRoom), (138, 3, 7, oX7_nameRoom), (117, 1, 10, oX10_advance)]) (S := []) (List.forall_mem_cons.mpr ⟨⟨mX4_fail, n + 0, 1, TX4, 10, rfl, by omega, kX4_113, WX4_fail, rfl, CX4_fail g (n)⟩, (List.forall_mem_cons.mpr ⟨⟨mX4_readName, n + 2, 0, TX4, 10, rfl, by omega, kX4_131, WX4_readName, rfl, CX4_readName g (n)⟩, (List.forall_mem_cons.mpr ⟨⟨mX7_findRoom, n + 0, 2, TX7, 6, rfl, by omega, kX4_134, WX7_findRoom, rfl, CX7_findRoom g (n)⟩, (List.forall_mem_cons.mpr ⟨⟨mX7_nameRoom, n + 0, 2, TX7, 6, rfl, by omega, kX4_138, WX7_nameRoom, rfl, CX7_nameRoom g (n)⟩, (List.forall_mem_cons.mpr ⟨⟨mX10_advance, n + 1, 0, TX10, 6, rfl, by omega, kX4_117, WX10_advance, rfl, CX10_advance g (n)⟩, (fun _ h => absurd h List.not_mem_nil)⟩)⟩)⟩)⟩)⟩) (fun _ h => absurd h List.not_mem_nil) [] 40 _ _ _ _ ?_
          simp (maxSteps := 1000000) [↓Bool.cond_eq_ite, -Prod.forall, -Prod.exists, -Prod.mk.injEq, jvk, tX4_readRoom, jtb, jol, jst, jlk, jcmp, jbin, jfl, fX4, jc2, lX4, jcat, jel, lv_args, Value.category, jins, jsrt, jins2, jble, jblt, jf3, List.filter_cons, List.filter_nil, G_loader, G_lflat, G_lroster, oX4_fail, oX4_readName, oX7_findRoom, oX7_nameRoom, oX10_advance, joR, joRI, joRII, -Int32.not_le, -Int32.not_lt, -Int64.not_le, -Int64.not_lt, i3lt, i6lt, cF, z3, jup_1]
          try simp (disch := omega) [-Prod.forall, -Prod.exists, -Prod.mk.injEq, -Int32.not_le, -Int32.not_lt, -Int64.not_le, -Int64.not_lt, i3lt, i6lt, cF, z3, jup_1]
          exact k1
      · rw [if_neg cN] at q1
        have hv1 := q1.1
        subst hv1
        have k1 := hp0 τ1 w1 (fun μ h er ep => by
          unfold pRoom
          rw [← es1, if_neg (by omega), if_neg (by omega), if_pos cN]
          exact q1)
        refine jvk_ok TX4_readRoom (V := [(113, 2, 4, oX4_fail), (131, 1, 4, oX4_readName), (134, 3, 7, oX7_findRoom), (138, 3, 7, oX7_nameRoom), (117, 1, 10, oX10_advance)]) (S := []) (List.forall_mem_cons.mpr ⟨⟨mX4_fail, n + 0, 1, TX4, 10, rfl, by omega, kX4_113, WX4_fail, rfl, CX4_fail g (n)⟩, (List.forall_mem_cons.mpr ⟨⟨mX4_readName, n + 2, 0, TX4, 10, rfl, by omega, kX4_131, WX4_readName, rfl, CX4_readName g (n)⟩, (List.forall_mem_cons.mpr ⟨⟨mX7_findRoom, n + 0, 2, TX7, 6, rfl, by omega, kX4_134, WX7_findRoom, rfl, CX7_findRoom g (n)⟩, (List.forall_mem_cons.mpr ⟨⟨mX7_nameRoom, n + 0, 2, TX7, 6, rfl, by omega, kX4_138, WX7_nameRoom, rfl, CX7_nameRoom g (n)⟩, (List.forall_mem_cons.mpr ⟨⟨mX10_advance, n + 1, 0, TX10, 6, rfl, by omega, kX4_117, WX10_advance, rfl, CX10_advance g (n)⟩, (fun _ h => absurd h List.not_mem_nil)⟩)⟩)⟩)⟩)⟩) (fun _ h => absurd h List.not_mem_nil) [] 20 _ _ _ _ ?_
        simp (maxSteps := 1000000) [↓Bool.cond_eq_ite, -Prod.forall, -Prod.exists, -Prod.mk.injEq, jvk, tX4_readRoom, jtb, jol, jst, jlk, jcmp, jbin, jfl, fX4, jc2, lX4, jcat, jel, lv_args, Value.category, jins, jsrt, jins2, jble, jblt, jf3, List.filter_cons, List.filter_nil, G_loader, G_lflat, G_lroster, oX4_fail, oX4_readName, oX7_findRoom, oX7_nameRoom, oX10_advance, joR, joRI, joRII, -Int32.not_le, -Int32.not_lt, -Int64.not_le, -Int64.not_lt, i3lt, i6lt]
        try simp (disch := omega) [-Prod.forall, -Prod.exists, -Prod.mk.injEq, -Int32.not_le, -Int32.not_lt, -Int64.not_le, -Int64.not_lt, i3lt, i6lt]
        exact k1
/-! rsA: where the new plan goes -/
theorem rsA_sp (b : Nat) (mo : Int32) : ∀ (k : Nat) (σ : jM), ∃ q, (rsA b mo k σ).1 = q ∧ q ≤ k ∧ (∀ i, q ≤ i → i < k → mo < σ.1 (b + 4) i) ∧ (q = 0 ∨ ∃ i, q = i + 1 ∧ ¬ mo < σ.1 (b + 4) i) ∧ ∀ a i, 3 ≤ a → a ≤ 5 → (rsA b mo k σ).2.1 (b + a) i = if q < i ∧ i ≤ k then σ.1 (b + a) (i - 1) else σ.1 (b + a) i
  | 0, σ => ⟨0, rfl, Nat.le_refl _, fun i h1 h2 => by omega, Or.inl rfl, fun a i _ _ => by rw [if_neg (by omega)]; rfl⟩
  | k + 1, σ => by
    simp only [rsA]
    by_cases c : mo < σ.1 (b + 4) k
    · rw [if_pos c]
      obtain ⟨q, h1, h2, h3, h4, h5⟩ := rsA_sp b mo k (rsP b σ (k + 1))
      have e : ∀ a i, 3 ≤ a → a ≤ 5 → (rsP b σ (k + 1)).1 (b + a) i = if i = k + 1 then σ.1 (b + a) k else σ.1 (b + a) i := fun a i h1 h2 => by
        unfold rsP
        rw [show k + 1 - 1 = k from rfl, jup_1, jup_1, jup_1]
        by_cases ci : i = k + 1
        · rw [if_pos ci]
          rcases (by omega : a = 3 ∨ a = 4 ∨ a = 5) with rfl | rfl | rfl
          · rw [if_neg (by omega), if_neg (by omega), if_pos ⟨rfl, ci⟩]
          · rw [if_neg (by omega), if_pos ⟨rfl, ci⟩]
          · rw [if_pos ⟨rfl, ci⟩]
        · rw [if_neg ci, if_neg (fun z => ci z.2), if_neg (fun z => ci z.2), if_neg (fun z => ci z.2)]
      refine ⟨q, h1, by omega, fun i i1 i2 => ?_, ?_, fun a i a1 a2 => ?_⟩
      · by_cases ik : i = k
        · rw [ik]; exact c
        · have := h3 i i1 (by omega)
          rw [e 4 i (by omega) (by omega), if_neg (by omega)] at this
          exact this
      · rcases h4 with h4 | ⟨i, i1, i2⟩
        · exact Or.inl h4
        · rw [e 4 i (by omega) (by omega), if_neg (by omega)] at i2
          exact Or.inr ⟨i, i1, i2⟩
      · rw [h5 a i a1 a2]
        by_cases ci : q < i ∧ i ≤ k
        · rw [if_pos ci, if_pos (by omega), e a _ a1 a2, if_neg (by omega)]
        · rw [if_neg ci, e a _ a1 a2]
          by_cases ck : i = k + 1
          · rw [if_pos ck, if_pos (by omega), ck]
            rfl
          · rw [if_neg ck, if_neg (by omega)]
    · rw [if_neg c]
      exact ⟨k + 1, rfl, Nat.le_refl _, fun i h1 h2 => by omega, Or.inr ⟨k, rfl, c⟩, fun a i _ _ => by rw [if_neg (by omega)]⟩
theorem rsN_sp (b : Nat) (σ : jM) (p mo inc : Int32) (K : Nat) : ∃ q, q ≤ K ∧ (∀ i, q ≤ i → i < K → mo < σ.1 (b + 4) i) ∧ (q = 0 ∨ ∃ i, q = i + 1 ∧ ¬ mo < σ.1 (b + 4) i) ∧ (rsN b σ p mo inc K).1 b 5 = nI (K + 1) ∧ ∀ i, i ≤ K → (rsN b σ p mo inc K).1 (b + 3) i = (if i = q then p else if q < i then σ.1 (b + 3) (i - 1) else σ.1 (b + 3) i) ∧ (rsN b σ p mo inc K).1 (b + 4) i = (if i = q then mo else if q < i then σ.1 (b + 4) (i - 1) else σ.1 (b + 4) i) ∧ (rsN b σ p mo inc K).1 (b + 5) i = (if i = q then inc else if q < i then σ.1 (b + 5) (i - 1) else σ.1 (b + 5) i) := by
  obtain ⟨q, h1, h2, h3, h4, h5⟩ := rsA_sp b mo K σ
  refine ⟨q, h2, h3, h4, jup_s _ _ _ _, fun i hi => ?_⟩
  unfold rsN
  rw [h1]
  have e : ∀ a, 3 ≤ a → a ≤ 5 → (rsA b mo K σ).2.1 (b + a) i = if q < i then σ.1 (b + a) (i - 1) else σ.1 (b + a) i := fun a a1 a2 => by
    rw [h5 a i a1 a2]
    by_cases c : q < i
    · rw [if_pos c, if_pos ⟨c, hi⟩]
    · rw [if_neg c, if_neg (fun z => c z.1)]
  refine ⟨?_, ?_, ?_⟩
  · rw [jup_1, if_neg (by omega), jup_1, if_neg (by omega), jup_1, if_neg (by omega), jup_1]
    by_cases c : i = q
    · rw [if_pos c, if_pos ⟨rfl, c⟩]
    · rw [if_neg c, if_neg (fun z => c z.2), e 3 (by omega) (by omega)]
  · rw [jup_1, if_neg (by omega), jup_1, if_neg (by omega), jup_1]
    by_cases c : i = q
    · rw [if_pos c, if_pos ⟨rfl, c⟩]
    · rw [if_neg c, if_neg (fun z => c z.2), jup_1, if_neg (by omega), e 4 (by omega) (by omega)]
  · rw [jup_1, if_neg (by omega), jup_1]
    by_cases c : i = q
    · rw [if_pos c, if_pos ⟨rfl, c⟩]
    · rw [if_neg c, if_neg (fun z => c z.2), jup_1, if_neg (by omega), jup_1, if_neg (by omega), e 5 (by omega) (by omega)]
