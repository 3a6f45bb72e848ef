/-! RentDivision: agreeOn, divide, swapRooms -/
/-- the division that is agreed on, for the first k people -/
def agS (ch py : Nat → Int32) (σ : jM) (k : Nat) : jM := (fun a j => if a = 52 ∧ j < k then ch j else if a = 53 ∧ j < k then py j else σ.1 a j, σ.2)
theorem agS_1 (ch py : Nat → Int32) (σ : jM) (k a j : Nat) : (agS ch py σ k).1 a j = if a = 52 ∧ j < k then ch j else if a = 53 ∧ j < k then py j else σ.1 a j := rfl
theorem agS_0 (ch py : Nat → Int32) (σ : jM) : agS ch py σ 0 = σ := by unfold agS; simp
theorem agS_s (ch py : Nat → Int32) (σ : jM) (k : Nat) : jup (jup (agS ch py σ k) 52 k (ch k)) 53 k (py k) = agS ch py σ (k + 1) := by
  unfold jup agS
  congr 1
  funext a j
  dsimp only
  by_cases e : a = 52
  · subst e
    by_cases h : j = k
    · subst h; simp
    · by_cases h2 : j < k
      · simp [h, h2, show j < k + 1 by omega]
      · simp [h, h2, show ¬ j < k + 1 by omega]
  · by_cases e3 : a = 53
    · subst e3
      by_cases h : j = k
      · subst h; simp
      · by_cases h2 : j < k
        · simp [h, h2, show j < k + 1 by omega]
        · simp [h, h2, show ¬ j < k + 1 by omega]
    · simp [e, e3]
def agC (σ : jM) : Nat → Bool := fun p => decide (¬ clR σ p = -1 ∧ ¬ clR σ p = σ.1 52 p)
def oX11_agreeOn : jO := joRR fun a b σ => (a = 0 ∧ b = 259 ∧ flOK σ ∧ prOK σ, fun v τ => v = some (.int (nI (cn (agC σ) (fN σ)))) ∧ τ = agS (clR σ) (clY σ) σ (fN σ))
set_option maxRecDepth 100000 in
set_option maxHeartbeats 4000000 in
theorem CX11_agreeOn (g : jG) (n : Nat) : jOk g (n + 4) mX11_agreeOn oX11_agreeOn := by
  refine joRR_ok ?_
  rintro _ _ σ ⟨rfl, rfl, hf, hO⟩
  obtain ⟨⟨n10, eN⟩, -, -⟩ := fOK_n hf.1
  have hc := (pr_ex hO).2.1
  refine jCon.ofP (by decide +kernel) (by simp [lg_sl, Value.category]) (fun post hp => ?_)
  refine jvk_ok TX11_agreeOn (V := [(184, 2, 6, oX6_roomFor), (256, 2, 6, oX6_paymentFor), (313, 4, 2, oX2_assign)]) (S := []) (List.forall_mem_cons.mpr ⟨⟨mX6_roomFor, n + 3, 1, TX6, 8, rfl, by omega, kX11_184, WX6_roomFor, rfl, CX6_roomFor g (n)⟩, (List.forall_mem_cons.mpr ⟨⟨mX6_paymentFor, n + 3, 1, TX6, 8, rfl, by omega, kX11_256, WX6_paymentFor, rfl, CX6_paymentFor g (n)⟩, (List.forall_mem_cons.mpr ⟨⟨mX2_assign, n + 1, 3, TX2, 16, rfl, by omega, kX11_313, WX2_assign, rfl, CX2_assign g (n)⟩, (fun _ h => absurd h List.not_mem_nil)⟩)⟩)⟩) (fun _ h => absurd h List.not_mem_nil) [4] 20 _ _ _ _ ?_
  simp (maxSteps := 1000000) [↓Bool.cond_eq_ite, -Prod.forall, -Prod.exists, -Prod.mk.injEq, jvk, tX11_agreeOn, jtb, jol, jst, jlk, jcmp, jbin, jfl, fX11, jc2, lX11, jcat, jel, lv_args, Value.category, jins, jsrt, jins2, jble, jblt, jf3, List.filter_cons, List.filter_nil, G_x, G_flat, G_loader, G_roster, G_lroster, G_lflat, G_history, G_prop, G_choice, G_tchoice, G_settle, G_page, oX6_roomFor, oX6_paymentFor, oX2_assign, joRI, joRIII, -Int32.not_le, -Int32.not_lt, -Int64.not_le, -Int64.not_lt, i3lt, i6lt]
  try simp (disch := omega) [-Prod.forall, -Prod.exists, -Prod.mk.injEq, -Int32.not_le, -Int32.not_lt, -Int64.not_le, -Int64.not_lt, i3lt, i6lt]
  have key := jloop (P := fun k => jW g mX11_agreeOn (n + 4) post 4 [(0, .ref 0), (1, .ref 259), (2, .int (nI (cn (agC σ) k))), (3, .int (nI k))] [] (agS (clR σ) (clY σ) σ k)) (N := fN σ) (by
    have hle : nI (fN σ) ≤ nI (fN σ) := nI_le (Nat.le_refl _) (by omega)
    have e1 : (agS (clR σ) (clY σ) σ (fN σ)).1 37 1 = nI (fN σ) := eN
    have k1 := hp _ _ ⟨rfl, rfl⟩
    refine jvk_ok TX11_agreeOn (V := [(184, 2, 6, oX6_roomFor), (256, 2, 6, oX6_paymentFor), (313, 4, 2, oX2_assign)]) (S := []) (List.forall_mem_cons.mpr ⟨⟨mX6_roomFor, n + 3, 1, TX6, 8, rfl, by omega, kX11_184, WX6_roomFor, rfl, CX6_roomFor g (n)⟩, (List.forall_mem_cons.mpr ⟨⟨mX6_paymentFor, n + 3, 1, TX6, 8, rfl, by omega, kX11_256, WX6_paymentFor, rfl, CX6_paymentFor g (n)⟩, (List.forall_mem_cons.mpr ⟨⟨mX2_assign, n + 1, 3, TX2, 16, rfl, by omega, kX11_313, WX2_assign, rfl, CX2_assign g (n)⟩, (fun _ h => absurd h List.not_mem_nil)⟩)⟩)⟩) (fun _ h => absurd h List.not_mem_nil) [4] 20 _ _ _ _ ?_
    simp (maxSteps := 1000000) [↓Bool.cond_eq_ite, -Prod.forall, -Prod.exists, -Prod.mk.injEq, jvk, tX11_agreeOn, jtb, jol, jst, jlk, jcmp, jbin, jfl, fX11, jc2, lX11, jcat, jel, lv_args, Value.category, jins, jsrt, jins2, jble, jblt, jf3, List.filter_cons, List.filter_nil, G_x, G_flat, G_loader, G_roster, G_lroster, G_lflat, G_history, G_prop, G_choice, G_tchoice, G_settle, G_page, oX6_roomFor, oX6_paymentFor, oX2_assign, joRI, joRIII, -Int32.not_le, -Int32.not_lt, -Int64.not_le, -Int64.not_lt, i3lt, i6lt, e1, hle]
    try simp (disch := omega) [-Prod.forall, -Prod.exists, -Prod.mk.injEq, -Int32.not_le, -Int32.not_lt, -Int64.not_le, -Int64.not_lt, i3lt, i6lt, e1, hle]
    exact k1) (fun k hk ih => by
    have hlt : ¬ nI (fN σ) ≤ nI k := nI_ge hk (by omega)
    have jk : jin (nI k) 10 := jin_nI (by omega) (by decide)
    have eck : (nI k).toNatClampNeg = k := nI_clamp (by omega)
    rw [← agS_s] at ih
    obtain ⟨ρ, eρ⟩ : ∃ ρ, ρ = agS (clR σ) (clY σ) σ k := ⟨_, rfl⟩
    rw [← eρ] at ih ⊢
    have e1 : ρ.1 37 1 = nI (fN σ) := by rw [eρ]; exact eN
    have e37 : ρ.1 37 = σ.1 37 := by rw [eρ]; rfl
    have e52 : ρ.1 52 k = σ.1 52 k := by rw [eρ, agS_1, if_neg (by omega), if_neg (by omega)]
    have e260 : ρ.1 260 = σ.1 260 := by rw [eρ]; rfl
    have e263 : ∀ i, ρ.1 (260 + 3 + i) = σ.1 (260 + 3 + i) := fun i => by
      funext j
      rw [eρ, agS_1, if_neg (by omega), if_neg (by omega)]
    have hcρ : cOK ρ 260 := by
      unfold cOK cM cR at hc ⊢
      simp only [e260, e263]
      exact hc
    have epl : ∀ x, plP ρ x = plP σ x := fun x => by rw [eρ]; rfl
    have e269 : ρ.1 269 = σ.1 269 := by rw [eρ]; rfl
    have e279 : ρ.1 279 = σ.1 279 := by rw [eρ]; rfl
    obtain ⟨r1, r2⟩ := pr_room hf hO hk
    have hPk : fP ρ (nI k) = true := by rw [fP_same e37]; exact fP_nI hf.1 hk
    have eAs : ∀ r y, fAs ρ (nI k) r y = jup (jup ρ 52 k r) 53 k y := fun r y => by
      unfold fAs
      rw [if_pos hPk, eck]
    refine jvk_ok TX11_agreeOn (V := [(184, 2, 6, oX6_roomFor), (256, 2, 6, oX6_paymentFor), (313, 4, 2, oX2_assign)]) (S := []) (List.forall_mem_cons.mpr ⟨⟨mX6_roomFor, n + 3, 1, TX6, 8, rfl, by omega, kX11_184, WX6_roomFor, rfl, CX6_roomFor g (n)⟩, (List.forall_mem_cons.mpr ⟨⟨mX6_paymentFor, n + 3, 1, TX6, 8, rfl, by omega, kX11_256, WX6_paymentFor, rfl, CX6_paymentFor g (n)⟩, (List.forall_mem_cons.mpr ⟨⟨mX2_assign, n + 1, 3, TX2, 16, rfl, by omega, kX11_313, WX2_assign, rfl, CX2_assign g (n)⟩, (fun _ h => absurd h List.not_mem_nil)⟩)⟩)⟩) (fun _ h => absurd h List.not_mem_nil) [4, 20] 40 _ _ _ _ ?_
    simp (maxSteps := 1000000) [↓Bool.cond_eq_ite, -Prod.forall, -Prod.exists, -Prod.mk.injEq, jvk, tX11_agreeOn, jtb, jol, jst, jlk, jcmp, jbin, jfl, fX11, jc2, lX11, jcat, jel, lv_args, Value.category, jins, jsrt, jins2, jble, jblt, jf3, List.filter_cons, List.filter_nil, G_x, G_flat, G_loader, G_roster, G_lroster, G_lflat, G_history, G_prop, G_choice, G_tchoice, G_settle, G_page, oX6_roomFor, oX6_paymentFor, oX2_assign, joRI, joRIII, -Int32.not_le, -Int32.not_lt, -Int64.not_le, -Int64.not_lt, i3lt, i6lt, e1, hlt, hcρ]
    try simp (disch := omega) [-Prod.forall, -Prod.exists, -Prod.mk.injEq, -Int32.not_le, -Int32.not_lt, -Int64.not_le, -Int64.not_lt, i3lt, i6lt, e1, hlt, hcρ]
    rw [epl, e269, r1]
    simp only [cn] at ih
    by_cases c : clR σ k = -1
    · have d : ¬ agC σ k = true := by unfold agC; rw [decide_eq_true_eq]; exact fun z => z.1 c
      rw [if_neg d, Nat.add_zero] at ih
      have k2 : jW g mX11_agreeOn (n + 4) post 45 [(0, .ref 0), (1, .ref 259), (2, .int (nI (cn (agC σ) k))), (3, .int (nI k)), (4, .int (clR σ k))] [] ρ := by
        refine jvk_ok TX11_agreeOn (V := [(184, 2, 6, oX6_roomFor), (256, 2, 6, oX6_paymentFor), (313, 4, 2, oX2_assign)]) (S := []) (List.forall_mem_cons.mpr ⟨⟨mX6_roomFor, n + 3, 1, TX6, 8, rfl, by omega, kX11_184, WX6_roomFor, rfl, CX6_roomFor g (n)⟩, (List.forall_mem_cons.mpr ⟨⟨mX6_paymentFor, n + 3, 1, TX6, 8, rfl, by omega, kX11_256, WX6_paymentFor, rfl, CX6_paymentFor g (n)⟩, (List.forall_mem_cons.mpr ⟨⟨mX2_assign, n + 1, 3, TX2, 16, rfl, by omega, kX11_313, WX2_assign, rfl, CX2_assign g (n)⟩, (fun _ h => absurd h List.not_mem_nil)⟩)⟩)⟩) (fun _ h => absurd h List.not_mem_nil) [4, 57] 40 _ _ _ _ ?_
        simp (maxSteps := 1000000) [↓Bool.cond_eq_ite, -Prod.forall, -Prod.exists, -Prod.mk.injEq, jvk, tX11_agreeOn, jtb, jol, jst, jlk, jcmp, jbin, jfl, fX11, jc2, lX11, jcat, jel, lv_args, Value.category, jins, jsrt, jins2, jble, jblt, jf3, List.filter_cons, List.filter_nil, G_x, G_flat, G_loader, G_roster, G_lroster, G_lflat, G_history, G_prop, G_choice, G_tchoice, G_settle, G_page, oX6_roomFor, oX6_paymentFor, oX2_assign, joRI, joRIII, -Int32.not_le, -Int32.not_lt, -Int64.not_le, -Int64.not_lt, i3lt, i6lt, hcρ]
        try simp (disch := omega) [-Prod.forall, -Prod.exists, -Prod.mk.injEq, -Int32.not_le, -Int32.not_lt, -Int64.not_le, -Int64.not_lt, i3lt, i6lt, hcρ]
        rw [epl, e279, r2]
        refine jvk_ok TX11_agreeOn (V := [(184, 2, 6, oX6_roomFor), (256, 2, 6, oX6_paymentFor), (313, 4, 2, oX2_assign)]) (S := []) (List.forall_mem_cons.mpr ⟨⟨mX6_roomFor, n + 3, 1, TX6, 8, rfl, by omega, kX11_184, WX6_roomFor, rfl, CX6_roomFor g (n)⟩, (List.forall_mem_cons.mpr ⟨⟨mX6_paymentFor, n + 3, 1, TX6, 8, rfl, by omega, kX11_256, WX6_paymentFor, rfl, CX6_paymentFor g (n)⟩, (List.forall_mem_cons.mpr ⟨⟨mX2_assign, n + 1, 3, TX2, 16, rfl, by omega, kX11_313, WX2_assign, rfl, CX2_assign g (n)⟩, (fun _ h => absurd h List.not_mem_nil)⟩)⟩)⟩) (fun _ h => absurd h List.not_mem_nil) [4, 60] 40 _ _ _ _ ?_
        simp (maxSteps := 1000000) [↓Bool.cond_eq_ite, -Prod.forall, -Prod.exists, -Prod.mk.injEq, jvk, tX11_agreeOn, jtb, jol, jst, jlk, jcmp, jbin, jfl, fX11, jc2, lX11, jcat, jel, lv_args, Value.category, jins, jsrt, jins2, jble, jblt, jf3, List.filter_cons, List.filter_nil, G_x, G_flat, G_loader, G_roster, G_lroster, G_lflat, G_history, G_prop, G_choice, G_tchoice, G_settle, G_page, oX6_roomFor, oX6_paymentFor, oX2_assign, joRI, joRIII, -Int32.not_le, -Int32.not_lt, -Int64.not_le, -Int64.not_lt, i3lt, i6lt]
        try simp (disch := omega) [-Prod.forall, -Prod.exists, -Prod.mk.injEq, -Int32.not_le, -Int32.not_lt, -Int64.not_le, -Int64.not_lt, i3lt, i6lt]
        rw [eAs]
        refine jvk_ok TX11_agreeOn (V := [(184, 2, 6, oX6_roomFor), (256, 2, 6, oX6_paymentFor), (313, 4, 2, oX2_assign)]) (S := []) (List.forall_mem_cons.mpr ⟨⟨mX6_roomFor, n + 3, 1, TX6, 8, rfl, by omega, kX11_184, WX6_roomFor, rfl, CX6_roomFor g (n)⟩, (List.forall_mem_cons.mpr ⟨⟨mX6_paymentFor, n + 3, 1, TX6, 8, rfl, by omega, kX11_256, WX6_paymentFor, rfl, CX6_paymentFor g (n)⟩, (List.forall_mem_cons.mpr ⟨⟨mX2_assign, n + 1, 3, TX2, 16, rfl, by omega, kX11_313, WX2_assign, rfl, CX2_assign g (n)⟩, (fun _ h => absurd h List.not_mem_nil)⟩)⟩)⟩) (fun _ h => absurd h List.not_mem_nil) [4] 40 _ _ _ _ ?_
        simp (maxSteps := 1000000) [↓Bool.cond_eq_ite, -Prod.forall, -Prod.exists, -Prod.mk.injEq, jvk, tX11_agreeOn, jtb, jol, jst, jlk, jcmp, jbin, jfl, fX11, jc2, lX11, jcat, jel, lv_args, Value.category, jins, jsrt, jins2, jble, jblt, jf3, List.filter_cons, List.filter_nil, G_x, G_flat, G_loader, G_roster, G_lroster, G_lflat, G_history, G_prop, G_choice, G_tchoice, G_settle, G_page, oX6_roomFor, oX6_paymentFor, oX2_assign, joRI, joRIII, -Int32.not_le, -Int32.not_lt, -Int64.not_le, -Int64.not_lt, i3lt, i6lt, nI_1]
        try simp (disch := omega) [-Prod.forall, -Prod.exists, -Prod.mk.injEq, -Int32.not_le, -Int32.not_lt, -Int64.not_le, -Int64.not_lt, i3lt, i6lt, nI_1]
        exact jW.mono ih (by simp)
      rw [c] at k2 ⊢
      refine jvk_ok TX11_agreeOn (V := [(184, 2, 6, oX6_roomFor), (256, 2, 6, oX6_paymentFor), (313, 4, 2, oX2_assign)]) (S := []) (List.forall_mem_cons.mpr ⟨⟨mX6_roomFor, n + 3, 1, TX6, 8, rfl, by omega, kX11_184, WX6_roomFor, rfl, CX6_roomFor g (n)⟩, (List.forall_mem_cons.mpr ⟨⟨mX6_paymentFor, n + 3, 1, TX6, 8, rfl, by omega, kX11_256, WX6_paymentFor, rfl, CX6_paymentFor g (n)⟩, (List.forall_mem_cons.mpr ⟨⟨mX2_assign, n + 1, 3, TX2, 16, rfl, by omega, kX11_313, WX2_assign, rfl, CX2_assign g (n)⟩, (fun _ h => absurd h List.not_mem_nil)⟩)⟩)⟩) (fun _ h => absurd h List.not_mem_nil) [4, 45] 40 _ _ _ _ ?_
      simp (maxSteps := 1000000) [↓Bool.cond_eq_ite, -Prod.forall, -Prod.exists, -Prod.mk.injEq, jvk, tX11_agreeOn, jtb, jol, jst, jlk, jcmp, jbin, jfl, fX11, jc2, lX11, jcat, jel, lv_args, Value.category, jins, jsrt, jins2, jble, jblt, jf3, List.filter_cons, List.filter_nil, G_x, G_flat, G_loader, G_roster, G_lroster, G_lflat, G_history, G_prop, G_choice, G_tchoice, G_settle, G_page, oX6_roomFor, oX6_paymentFor, oX2_assign, joRI, joRIII, -Int32.not_le, -Int32.not_lt, -Int64.not_le, -Int64.not_lt, i3lt, i6lt]
      try simp (disch := omega) [-Prod.forall, -Prod.exists, -Prod.mk.injEq, -Int32.not_le, -Int32.not_lt, -Int64.not_le, -Int64.not_lt, i3lt, i6lt]
      exact k2
    · by_cases c2 : clR σ k = σ.1 52 k
      · have d : ¬ agC σ k = true := by unfold agC; rw [decide_eq_true_eq]; exact fun z => z.2 c2
        rw [if_neg d, Nat.add_zero] at ih
        have k2 : jW g mX11_agreeOn (n + 4) post 45 [(0, .ref 0), (1, .ref 259), (2, .int (nI (cn (agC σ) k))), (3, .int (nI k)), (4, .int (clR σ k))] [] ρ := by
          refine jvk_ok TX11_agreeOn (V := [(184, 2, 6, oX6_roomFor), (256, 2, 6, oX6_paymentFor), (313, 4, 2, oX2_assign)]) (S := []) (List.forall_mem_cons.mpr ⟨⟨mX6_roomFor, n + 3, 1, TX6, 8, rfl, by omega, kX11_184, WX6_roomFor, rfl, CX6_roomFor g (n)⟩, (List.forall_mem_cons.mpr ⟨⟨mX6_paymentFor, n + 3, 1, TX6, 8, rfl, by omega, kX11_256, WX6_paymentFor, rfl, CX6_paymentFor g (n)⟩, (List.forall_mem_cons.mpr ⟨⟨mX2_assign, n + 1, 3, TX2, 16, rfl, by omega, kX11_313, WX2_assign, rfl, CX2_assign g (n)⟩, (fun _ h => absurd h List.not_mem_nil)⟩)⟩)⟩) (fun _ h => absurd h List.not_mem_nil) [4, 57] 40 _ _ _ _ ?_
          simp (maxSteps := 1000000) [↓Bool.cond_eq_ite, -Prod.forall, -Prod.exists, -Prod.mk.injEq, jvk, tX11_agreeOn, jtb, jol, jst, jlk, jcmp, jbin, jfl, fX11, jc2, lX11, jcat, jel, lv_args, Value.category, jins, jsrt, jins2, jble, jblt, jf3, List.filter_cons, List.filter_nil, G_x, G_flat, G_loader, G_roster, G_lroster, G_lflat, G_history, G_prop, G_choice, G_tchoice, G_settle, G_page, oX6_roomFor, oX6_paymentFor, oX2_assign, joRI, joRIII, -Int32.not_le, -Int32.not_lt, -Int64.not_le, -Int64.not_lt, i3lt, i6lt, hcρ]
          try simp (disch := omega) [-Prod.forall, -Prod.exists, -Prod.mk.injEq, -Int32.not_le, -Int32.not_lt, -Int64.not_le, -Int64.not_lt, i3lt, i6lt, hcρ]
          rw [epl, e279, r2]
          refine jvk_ok TX11_agreeOn (V := [(184, 2, 6, oX6_roomFor), (256, 2, 6, oX6_paymentFor), (313, 4, 2, oX2_assign)]) (S := []) (List.forall_mem_cons.mpr ⟨⟨mX6_roomFor, n + 3, 1, TX6, 8, rfl, by omega, kX11_184, WX6_roomFor, rfl, CX6_roomFor g (n)⟩, (List.forall_mem_cons.mpr ⟨⟨mX6_paymentFor, n + 3, 1, TX6, 8, rfl, by omega, kX11_256, WX6_paymentFor, rfl, CX6_paymentFor g (n)⟩, (List.forall_mem_cons.mpr ⟨⟨mX2_assign, n + 1, 3, TX2, 16, rfl, by omega, kX11_313, WX2_assign, rfl, CX2_assign g (n)⟩, (fun _ h => absurd h List.not_mem_nil)⟩)⟩)⟩) (fun _ h => absurd h List.not_mem_nil) [4, 60] 40 _ _ _ _ ?_
          simp (maxSteps := 1000000) [↓Bool.cond_eq_ite, -Prod.forall, -Prod.exists, -Prod.mk.injEq, jvk, tX11_agreeOn, jtb, jol, jst, jlk, jcmp, jbin, jfl, fX11, jc2, lX11, jcat, jel, lv_args, Value.category, jins, jsrt, jins2, jble, jblt, jf3, List.filter_cons, List.filter_nil, G_x, G_flat, G_loader, G_roster, G_lroster, G_lflat, G_history, G_prop, G_choice, G_tchoice, G_settle, G_page, oX6_roomFor, oX6_paymentFor, oX2_assign, joRI, joRIII, -Int32.not_le, -Int32.not_lt, -Int64.not_le, -Int64.not_lt, i3lt, i6lt]
          try simp (disch := omega) [-Prod.forall, -Prod.exists, -Prod.mk.injEq, -Int32.not_le, -Int32.not_lt, -Int64.not_le, -Int64.not_lt, i3lt, i6lt]
          rw [eAs]
          refine jvk_ok TX11_agreeOn (V := [(184, 2, 6, oX6_roomFor), (256, 2, 6, oX6_paymentFor), (313, 4, 2, oX2_assign)]) (S := []) (List.forall_mem_cons.mpr ⟨⟨mX6_roomFor, n + 3, 1, TX6, 8, rfl, by omega, kX11_184, WX6_roomFor, rfl, CX6_roomFor g (n)⟩, (List.forall_mem_cons.mpr ⟨⟨mX6_paymentFor, n + 3, 1, TX6, 8, rfl, by omega, kX11_256, WX6_paymentFor, rfl, CX6_paymentFor g (n)⟩, (List.forall_mem_cons.mpr ⟨⟨mX2_assign, n + 1, 3, TX2, 16, rfl, by omega, kX11_313, WX2_assign, rfl, CX2_assign g (n)⟩, (fun _ h => absurd h List.not_mem_nil)⟩)⟩)⟩) (fun _ h => absurd h List.not_mem_nil) [4] 40 _ _ _ _ ?_
          simp (maxSteps := 1000000) [↓Bool.cond_eq_ite, -Prod.forall, -Prod.exists, -Prod.mk.injEq, jvk, tX11_agreeOn, jtb, jol, jst, jlk, jcmp, jbin, jfl, fX11, jc2, lX11, jcat, jel, lv_args, Value.category, jins, jsrt, jins2, jble, jblt, jf3, List.filter_cons, List.filter_nil, G_x, G_flat, G_loader, G_roster, G_lroster, G_lflat, G_history, G_prop, G_choice, G_tchoice, G_settle, G_page, oX6_roomFor, oX6_paymentFor, oX2_assign, joRI, joRIII, -Int32.not_le, -Int32.not_lt, -Int64.not_le, -Int64.not_lt, i3lt, i6lt, nI_1]
          try simp (disch := omega) [-Prod.forall, -Prod.exists, -Prod.mk.injEq, -Int32.not_le, -Int32.not_lt, -Int64.not_le, -Int64.not_lt, i3lt, i6lt, nI_1]
          exact jW.mono ih (by simp)
        have c2' : (clR σ k = σ.1 52 k) = True := eq_true c2
        refine jvk_ok TX11_agreeOn (V := [(184, 2, 6, oX6_roomFor), (256, 2, 6, oX6_paymentFor), (313, 4, 2, oX2_assign)]) (S := []) (List.forall_mem_cons.mpr ⟨⟨mX6_roomFor, n + 3, 1, TX6, 8, rfl, by omega, kX11_184, WX6_roomFor, rfl, CX6_roomFor g (n)⟩, (List.forall_mem_cons.mpr ⟨⟨mX6_paymentFor, n + 3, 1, TX6, 8, rfl, by omega, kX11_256, WX6_paymentFor, rfl, CX6_paymentFor g (n)⟩, (List.forall_mem_cons.mpr ⟨⟨mX2_assign, n + 1, 3, TX2, 16, rfl, by omega, kX11_313, WX2_assign, rfl, CX2_assign g (n)⟩, (fun _ h => absurd h List.not_mem_nil)⟩)⟩)⟩) (fun _ h => absurd h List.not_mem_nil) [4, 45] 40 _ _ _ _ ?_
        simp (maxSteps := 1000000) [↓Bool.cond_eq_ite, -Prod.forall, -Prod.exists, -Prod.mk.injEq, jvk, tX11_agreeOn, jtb, jol, jst, jlk, jcmp, jbin, jfl, fX11, jc2, lX11, jcat, jel, lv_args, Value.category, jins, jsrt, jins2, jble, jblt, jf3, List.filter_cons, List.filter_nil, G_x, G_flat, G_loader, G_roster, G_lroster, G_lflat, G_history, G_prop, G_choice, G_tchoice, G_settle, G_page, oX6_roomFor, oX6_paymentFor, oX2_assign, joRI, joRIII, -Int32.not_le, -Int32.not_lt, -Int64.not_le, -Int64.not_lt, i3lt, i6lt, c, e52, jk, eck, c2']
        try simp (disch := omega) [-Prod.forall, -Prod.exists, -Prod.mk.injEq, -Int32.not_le, -Int32.not_lt, -Int64.not_le, -Int64.not_lt, i3lt, i6lt, c, e52, jk, eck, c2']
        exact k2
      · have d : agC σ k = true := by unfold agC; rw [decide_eq_true_eq]; exact ⟨c, c2⟩
        rw [if_pos d] at ih
        have k2 : jW g mX11_agreeOn (n + 4) post 45 [(0, .ref 0), (1, .ref 259), (2, .int (nI (cn (agC σ) k + 1))), (3, .int (nI k)), (4, .int (clR σ k))] [] ρ := by
          refine jvk_ok TX11_agreeOn (V := [(184, 2, 6, oX6_roomFor), (256, 2, 6, oX6_paymentFor), (313, 4, 2, oX2_assign)]) (S := []) (List.forall_mem_cons.mpr ⟨⟨mX6_roomFor, n + 3, 1, TX6, 8, rfl, by omega, kX11_184, WX6_roomFor, rfl, CX6_roomFor g (n)⟩, (List.forall_mem_cons.mpr ⟨⟨mX6_paymentFor, n + 3, 1, TX6, 8, rfl, by omega, kX11_256, WX6_paymentFor, rfl, CX6_paymentFor g (n)⟩, (List.forall_mem_cons.mpr ⟨⟨mX2_assign, n + 1, 3, TX2, 16, rfl, by omega, kX11_313, WX2_assign, rfl, CX2_assign g (n)⟩, (fun _ h => absurd h List.not_mem_nil)⟩)⟩)⟩) (fun _ h => absurd h List.not_mem_nil) [4, 57] 40 _ _ _ _ ?_
          simp (maxSteps := 1000000) [↓Bool.cond_eq_ite, -Prod.forall, -Prod.exists, -Prod.mk.injEq, jvk, tX11_agreeOn, jtb, jol, jst, jlk, jcmp, jbin, jfl, fX11, jc2, lX11, jcat, jel, lv_args, Value.category, jins, jsrt, jins2, jble, jblt, jf3, List.filter_cons, List.filter_nil, G_x, G_flat, G_loader, G_roster, G_lroster, G_lflat, G_history, G_prop, G_choice, G_tchoice, G_settle, G_page, oX6_roomFor, oX6_paymentFor, oX2_assign, joRI, joRIII, -Int32.not_le, -Int32.not_lt, -Int64.not_le, -Int64.not_lt, i3lt, i6lt, hcρ]
          try simp (disch := omega) [-Prod.forall, -Prod.exists, -Prod.mk.injEq, -Int32.not_le, -Int32.not_lt, -Int64.not_le, -Int64.not_lt, i3lt, i6lt, hcρ]
          rw [epl, e279, r2]
          refine jvk_ok TX11_agreeOn (V := [(184, 2, 6, oX6_roomFor), (256, 2, 6, oX6_paymentFor), (313, 4, 2, oX2_assign)]) (S := []) (List.forall_mem_cons.mpr ⟨⟨mX6_roomFor, n + 3, 1, TX6, 8, rfl, by omega, kX11_184, WX6_roomFor, rfl, CX6_roomFor g (n)⟩, (List.forall_mem_cons.mpr ⟨⟨mX6_paymentFor, n + 3, 1, TX6, 8, rfl, by omega, kX11_256, WX6_paymentFor, rfl, CX6_paymentFor g (n)⟩, (List.forall_mem_cons.mpr ⟨⟨mX2_assign, n + 1, 3, TX2, 16, rfl, by omega, kX11_313, WX2_assign, rfl, CX2_assign g (n)⟩, (fun _ h => absurd h List.not_mem_nil)⟩)⟩)⟩) (fun _ h => absurd h List.not_mem_nil) [4, 60] 40 _ _ _ _ ?_
          simp (maxSteps := 1000000) [↓Bool.cond_eq_ite, -Prod.forall, -Prod.exists, -Prod.mk.injEq, jvk, tX11_agreeOn, jtb, jol, jst, jlk, jcmp, jbin, jfl, fX11, jc2, lX11, jcat, jel, lv_args, Value.category, jins, jsrt, jins2, jble, jblt, jf3, List.filter_cons, List.filter_nil, G_x, G_flat, G_loader, G_roster, G_lroster, G_lflat, G_history, G_prop, G_choice, G_tchoice, G_settle, G_page, oX6_roomFor, oX6_paymentFor, oX2_assign, joRI, joRIII, -Int32.not_le, -Int32.not_lt, -Int64.not_le, -Int64.not_lt, i3lt, i6lt]
          try simp (disch := omega) [-Prod.forall, -Prod.exists, -Prod.mk.injEq, -Int32.not_le, -Int32.not_lt, -Int64.not_le, -Int64.not_lt, i3lt, i6lt]
          rw [eAs]
          refine jvk_ok TX11_agreeOn (V := [(184, 2, 6, oX6_roomFor), (256, 2, 6, oX6_paymentFor), (313, 4, 2, oX2_assign)]) (S := []) (List.forall_mem_cons.mpr ⟨⟨mX6_roomFor, n + 3, 1, TX6, 8, rfl, by omega, kX11_184, WX6_roomFor, rfl, CX6_roomFor g (n)⟩, (List.forall_mem_cons.mpr ⟨⟨mX6_paymentFor, n + 3, 1, TX6, 8, rfl, by omega, kX11_256, WX6_paymentFor, rfl, CX6_paymentFor g (n)⟩, (List.forall_mem_cons.mpr ⟨⟨mX2_assign, n + 1, 3, TX2, 16, rfl, by omega, kX11_313, WX2_assign, rfl, CX2_assign g (n)⟩, (fun _ h => absurd h List.not_mem_nil)⟩)⟩)⟩) (fun _ h => absurd h List.not_mem_nil) [4] 40 _ _ _ _ ?_
          simp (maxSteps := 1000000) [↓Bool.cond_eq_ite, -Prod.forall, -Prod.exists, -Prod.mk.injEq, jvk, tX11_agreeOn, jtb, jol, jst, jlk, jcmp, jbin, jfl, fX11, jc2, lX11, jcat, jel, lv_args, Value.category, jins, jsrt, jins2, jble, jblt, jf3, List.filter_cons, List.filter_nil, G_x, G_flat, G_loader, G_roster, G_lroster, G_lflat, G_history, G_prop, G_choice, G_tchoice, G_settle, G_page, oX6_roomFor, oX6_paymentFor, oX2_assign, joRI, joRIII, -Int32.not_le, -Int32.not_lt, -Int64.not_le, -Int64.not_lt, i3lt, i6lt, nI_1]
          try simp (disch := omega) [-Prod.forall, -Prod.exists, -Prod.mk.injEq, -Int32.not_le, -Int32.not_lt, -Int64.not_le, -Int64.not_lt, i3lt, i6lt, nI_1]
          exact jW.mono ih (by simp)
        refine jvk_ok TX11_agreeOn (V := [(184, 2, 6, oX6_roomFor), (256, 2, 6, oX6_paymentFor), (313, 4, 2, oX2_assign)]) (S := []) (List.forall_mem_cons.mpr ⟨⟨mX6_roomFor, n + 3, 1, TX6, 8, rfl, by omega, kX11_184, WX6_roomFor, rfl, CX6_roomFor g (n)⟩, (List.forall_mem_cons.mpr ⟨⟨mX6_paymentFor, n + 3, 1, TX6, 8, rfl, by omega, kX11_256, WX6_paymentFor, rfl, CX6_paymentFor g (n)⟩, (List.forall_mem_cons.mpr ⟨⟨mX2_assign, n + 1, 3, TX2, 16, rfl, by omega, kX11_313, WX2_assign, rfl, CX2_assign g (n)⟩, (fun _ h => absurd h List.not_mem_nil)⟩)⟩)⟩) (fun _ h => absurd h List.not_mem_nil) [4, 45] 40 _ _ _ _ ?_
        simp (maxSteps := 1000000) [↓Bool.cond_eq_ite, -Prod.forall, -Prod.exists, -Prod.mk.injEq, jvk, tX11_agreeOn, jtb, jol, jst, jlk, jcmp, jbin, jfl, fX11, jc2, lX11, jcat, jel, lv_args, Value.category, jins, jsrt, jins2, jble, jblt, jf3, List.filter_cons, List.filter_nil, G_x, G_flat, G_loader, G_roster, G_lroster, G_lflat, G_history, G_prop, G_choice, G_tchoice, G_settle, G_page, oX6_roomFor, oX6_paymentFor, oX2_assign, joRI, joRIII, -Int32.not_le, -Int32.not_lt, -Int64.not_le, -Int64.not_lt, i3lt, i6lt, c, e52, jk, eck, c2, nI_1]
        try simp (disch := omega) [-Prod.forall, -Prod.exists, -Prod.mk.injEq, -Int32.not_le, -Int32.not_lt, -Int64.not_le, -Int64.not_lt, i3lt, i6lt, c, e52, jk, eck, c2, nI_1]
        exact k2)
  have e0 : cn (agC σ) 0 = 0 := rfl
  rw [nI_0, e0, nI_0, agS_0] at key
  exact key
theorem sc_fl {σ τ : jM} (hO : hiO σ) (S : scP σ τ) : ∀ c, 37 ≤ c → c ≤ 56 → τ.1 c = σ.1 c := fun c h1 h2 => sc_same hO S c (by omega) (by omega)
/-- what divide leaves: the flat kept, the proposal made the division -/
def dvP (σ τ : jM) : Prop := ∃ ρ1 ρ2 ρ3, cuP σ ρ1 ∧ scP ρ1 ρ2 ∧ cuP ρ2 ρ3 ∧ τ = agS (clR σ) (clY σ) ρ3 (fN σ)
def oX11_divide : jO := joR fun a σ => (a = 0 ∧ flOK σ ∧ prIv σ ∧ hiO σ, fun v τ => (flC σ = none ∧ v = some (.int (-1)) ∧ cuP σ τ) ∨ (¬ flC σ = none ∧ v = some (.int (nI (cn (agC σ) (fN σ)))) ∧ dvP σ τ))
set_option maxRecDepth 100000 in
set_option maxHeartbeats 4000000 in
theorem CX11_divide (g : jG) (n : Nat) : jOk g (n + 6) mX11_divide oX11_divide := by
  refine joR_ok ?_
  rintro _ σ ⟨rfl, hf, hI, hO⟩
  refine jCon.ofP (by decide +kernel) (by simp [lg_sl, Value.category]) (fun post hp => ?_)
  refine jvk_ok TX11_divide (V := [(176, 1, 11, oX11_currentProposal), (180, 1, 6, oX6_exists), (310, 1, 11, oX11_startChange), (330, 2, 11, oX11_agreeOn)]) (S := []) (List.forall_mem_cons.mpr ⟨⟨mX11_currentProposal, n + 5, 0, TX11, 9, rfl, by omega, kX11_176, WX11_currentProposal, rfl, CX11_currentProposal g (n)⟩, (List.forall_mem_cons.mpr ⟨⟨mX6_exists, n + 1, 0, TX6, 8, rfl, by omega, kX11_180, WX6_exists, rfl, CX6_exists g (n)⟩, (List.forall_mem_cons.mpr ⟨⟨mX11_startChange, n + 3, 0, TX11, 9, rfl, by omega, kX11_310, WX11_startChange, rfl, CX11_startChange g (n)⟩, (List.forall_mem_cons.mpr ⟨⟨mX11_agreeOn, n + 4, 1, TX11, 9, rfl, by omega, kX11_330, WX11_agreeOn, rfl, CX11_agreeOn g (n)⟩, (fun _ h => absurd h List.not_mem_nil)⟩)⟩)⟩)⟩) (fun _ h => absurd h List.not_mem_nil) [4] 20 _ _ _ _ ?_
  simp (maxSteps := 1000000) [↓Bool.cond_eq_ite, -Prod.forall, -Prod.exists, -Prod.mk.injEq, jvk, tX11_divide, jtb, jol, jst, jlk, jcmp, jbin, jfl, fX11, jc2, lX11, jcat, jel, lv_args, Value.category, jins, jsrt, jins2, jble, jblt, jf3, List.filter_cons, List.filter_nil, G_x, G_flat, G_loader, G_roster, G_lroster, G_lflat, G_history, G_prop, G_choice, G_tchoice, G_settle, G_page, oX11_currentProposal, oX6_exists, oX11_startChange, oX11_agreeOn, joR, joRR, -Int32.not_le, -Int32.not_lt, -Int64.not_le, -Int64.not_lt, i3lt, i6lt, hf, hI]
  try simp (disch := omega) [-Prod.forall, -Prod.exists, -Prod.mk.injEq, -Int32.not_le, -Int32.not_lt, -Int64.not_le, -Int64.not_lt, i3lt, i6lt, hf, hI]
  intro v1 τ1 hv1 C
  subst hv1
  have hc := (pr_ex C.2.1).2.1
  refine jvk_ok TX11_divide (V := [(176, 1, 11, oX11_currentProposal), (180, 1, 6, oX6_exists), (310, 1, 11, oX11_startChange), (330, 2, 11, oX11_agreeOn)]) (S := []) (List.forall_mem_cons.mpr ⟨⟨mX11_currentProposal, n + 5, 0, TX11, 9, rfl, by omega, kX11_176, WX11_currentProposal, rfl, CX11_currentProposal g (n)⟩, (List.forall_mem_cons.mpr ⟨⟨mX6_exists, n + 1, 0, TX6, 8, rfl, by omega, kX11_180, WX6_exists, rfl, CX6_exists g (n)⟩, (List.forall_mem_cons.mpr ⟨⟨mX11_startChange, n + 3, 0, TX11, 9, rfl, by omega, kX11_310, WX11_startChange, rfl, CX11_startChange g (n)⟩, (List.forall_mem_cons.mpr ⟨⟨mX11_agreeOn, n + 4, 1, TX11, 9, rfl, by omega, kX11_330, WX11_agreeOn, rfl, CX11_agreeOn g (n)⟩, (fun _ h => absurd h List.not_mem_nil)⟩)⟩)⟩)⟩) (fun _ h => absurd h List.not_mem_nil) [7] 20 _ _ _ _ ?_
  simp (maxSteps := 1000000) [↓Bool.cond_eq_ite, -Prod.forall, -Prod.exists, -Prod.mk.injEq, jvk, tX11_divide, jtb, jol, jst, jlk, jcmp, jbin, jfl, fX11, jc2, lX11, jcat, jel, lv_args, Value.category, jins, jsrt, jins2, jble, jblt, jf3, List.filter_cons, List.filter_nil, G_x, G_flat, G_loader, G_roster, G_lroster, G_lflat, G_history, G_prop, G_choice, G_tchoice, G_settle, G_page, oX11_currentProposal, oX6_exists, oX11_startChange, oX11_agreeOn, joR, joRR, -Int32.not_le, -Int32.not_lt, -Int64.not_le, -Int64.not_lt, i3lt, i6lt, hc]
  try simp (disch := omega) [-Prod.forall, -Prod.exists, -Prod.mk.injEq, -Int32.not_le, -Int32.not_lt, -Int64.not_le, -Int64.not_lt, i3lt, i6lt, hc]
  rcases pr_cases hf C with ⟨e, c⟩ | ⟨a, e, c, c1⟩
  · have k1 := hp _ τ1 (Or.inl ⟨e, rfl, C⟩)
    rw [c]
    refine jvk_ok TX11_divide (V := [(176, 1, 11, oX11_currentProposal), (180, 1, 6, oX6_exists), (310, 1, 11, oX11_startChange), (330, 2, 11, oX11_agreeOn)]) (S := []) (List.forall_mem_cons.mpr ⟨⟨mX11_currentProposal, n + 5, 0, TX11, 9, rfl, by omega, kX11_176, WX11_currentProposal, rfl, CX11_currentProposal g (n)⟩, (List.forall_mem_cons.mpr ⟨⟨mX6_exists, n + 1, 0, TX6, 8, rfl, by omega, kX11_180, WX6_exists, rfl, CX6_exists g (n)⟩, (List.forall_mem_cons.mpr ⟨⟨mX11_startChange, n + 3, 0, TX11, 9, rfl, by omega, kX11_310, WX11_startChange, rfl, CX11_startChange g (n)⟩, (List.forall_mem_cons.mpr ⟨⟨mX11_agreeOn, n + 4, 1, TX11, 9, rfl, by omega, kX11_330, WX11_agreeOn, rfl, CX11_agreeOn g (n)⟩, (fun _ h => absurd h List.not_mem_nil)⟩)⟩)⟩)⟩) (fun _ h => absurd h List.not_mem_nil) [] 20 _ _ _ _ ?_
    simp (maxSteps := 1000000) [↓Bool.cond_eq_ite, -Prod.forall, -Prod.exists, -Prod.mk.injEq, jvk, tX11_divide, jtb, jol, jst, jlk, jcmp, jbin, jfl, fX11, jc2, lX11, jcat, jel, lv_args, Value.category, jins, jsrt, jins2, jble, jblt, jf3, List.filter_cons, List.filter_nil, G_x, G_flat, G_loader, G_roster, G_lroster, G_lflat, G_history, G_prop, G_choice, G_tchoice, G_settle, G_page, oX11_currentProposal, oX6_exists, oX11_startChange, oX11_agreeOn, joR, joRR, -Int32.not_le, -Int32.not_lt, -Int64.not_le, -Int64.not_lt, i3lt, i6lt]
    try simp (disch := omega) [-Prod.forall, -Prod.exists, -Prod.mk.injEq, -Int32.not_le, -Int32.not_lt, -Int64.not_le, -Int64.not_lt, i3lt, i6lt]
    exact k1
  · rw [c]
    have hO1 : hiO τ1 := by
      have e57 := cu_same C 57 (by omega) (by omega)
      unfold hiO
      rw [e57]; exact hO
    refine jvk_ok TX11_divide (V := [(176, 1, 11, oX11_currentProposal), (180, 1, 6, oX6_exists), (310, 1, 11, oX11_startChange), (330, 2, 11, oX11_agreeOn)]) (S := []) (List.forall_mem_cons.mpr ⟨⟨mX11_currentProposal, n + 5, 0, TX11, 9, rfl, by omega, kX11_176, WX11_currentProposal, rfl, CX11_currentProposal g (n)⟩, (List.forall_mem_cons.mpr ⟨⟨mX6_exists, n + 1, 0, TX6, 8, rfl, by omega, kX11_180, WX6_exists, rfl, CX6_exists g (n)⟩, (List.forall_mem_cons.mpr ⟨⟨mX11_startChange, n + 3, 0, TX11, 9, rfl, by omega, kX11_310, WX11_startChange, rfl, CX11_startChange g (n)⟩, (List.forall_mem_cons.mpr ⟨⟨mX11_agreeOn, n + 4, 1, TX11, 9, rfl, by omega, kX11_330, WX11_agreeOn, rfl, CX11_agreeOn g (n)⟩, (fun _ h => absurd h List.not_mem_nil)⟩)⟩)⟩)⟩) (fun _ h => absurd h List.not_mem_nil) [16] 20 _ _ _ _ ?_
    simp (maxSteps := 1000000) [↓Bool.cond_eq_ite, -Prod.forall, -Prod.exists, -Prod.mk.injEq, jvk, tX11_divide, jtb, jol, jst, jlk, jcmp, jbin, jfl, fX11, jc2, lX11, jcat, jel, lv_args, Value.category, jins, jsrt, jins2, jble, jblt, jf3, List.filter_cons, List.filter_nil, G_x, G_flat, G_loader, G_roster, G_lroster, G_lflat, G_history, G_prop, G_choice, G_tchoice, G_settle, G_page, oX11_currentProposal, oX6_exists, oX11_startChange, oX11_agreeOn, joR, joRR, -Int32.not_le, -Int32.not_lt, -Int64.not_le, -Int64.not_lt, i3lt, i6lt, hO1]
    try simp (disch := omega) [-Prod.forall, -Prod.exists, -Prod.mk.injEq, -Int32.not_le, -Int32.not_lt, -Int64.not_le, -Int64.not_lt, i3lt, i6lt, hO1]
    intro v2 τ2 hv2 S
    subst hv2
    have hf2 : flOK τ2 := flOK_same C.2.2 (sc_fl hO1 S)
    have hI2 : prIv τ2 := Or.inl S.2.2.2.2
    refine jvk_ok TX11_divide (V := [(176, 1, 11, oX11_currentProposal), (180, 1, 6, oX6_exists), (310, 1, 11, oX11_startChange), (330, 2, 11, oX11_agreeOn)]) (S := []) (List.forall_mem_cons.mpr ⟨⟨mX11_currentProposal, n + 5, 0, TX11, 9, rfl, by omega, kX11_176, WX11_currentProposal, rfl, CX11_currentProposal g (n)⟩, (List.forall_mem_cons.mpr ⟨⟨mX6_exists, n + 1, 0, TX6, 8, rfl, by omega, kX11_180, WX6_exists, rfl, CX6_exists g (n)⟩, (List.forall_mem_cons.mpr ⟨⟨mX11_startChange, n + 3, 0, TX11, 9, rfl, by omega, kX11_310, WX11_startChange, rfl, CX11_startChange g (n)⟩, (List.forall_mem_cons.mpr ⟨⟨mX11_agreeOn, n + 4, 1, TX11, 9, rfl, by omega, kX11_330, WX11_agreeOn, rfl, CX11_agreeOn g (n)⟩, (fun _ h => absurd h List.not_mem_nil)⟩)⟩)⟩)⟩) (fun _ h => absurd h List.not_mem_nil) [21] 20 _ _ _ _ ?_
    simp (maxSteps := 1000000) [↓Bool.cond_eq_ite, -Prod.forall, -Prod.exists, -Prod.mk.injEq, jvk, tX11_divide, jtb, jol, jst, jlk, jcmp, jbin, jfl, fX11, jc2, lX11, jcat, jel, lv_args, Value.category, jins, jsrt, jins2, jble, jblt, jf3, List.filter_cons, List.filter_nil, G_x, G_flat, G_loader, G_roster, G_lroster, G_lflat, G_history, G_prop, G_choice, G_tchoice, G_settle, G_page, oX11_currentProposal, oX6_exists, oX11_startChange, oX11_agreeOn, joR, joRR, -Int32.not_le, -Int32.not_lt, -Int64.not_le, -Int64.not_lt, i3lt, i6lt, hf2, hI2]
    try simp (disch := omega) [-Prod.forall, -Prod.exists, -Prod.mk.injEq, -Int32.not_le, -Int32.not_lt, -Int64.not_le, -Int64.not_lt, i3lt, i6lt, hf2, hI2]
    intro v3 τ3 hv3 C3
    subst hv3
    obtain ⟨⟨a1, -⟩, -⟩ := cu_fl hf C
    obtain ⟨-, -, -, -, -, eR1, eY1⟩ := cu_py hf C
    obtain ⟨-, -, -, -, -, eR3, eY3⟩ := cu_py hf2 C3
    obtain ⟨⟨b1, b2, b3, -⟩, b5, b6, b7, b8, b9⟩ := fl_same C.2.2.1 (sc_fl hO1 S)
    obtain ⟨⟨d1, -⟩, -⟩ := cu_fl hf2 C3
    have eR2 : clR τ2 = clR τ1 := by funext p; unfold clR; rw [b6, b2, b1]
    have e38 : τ2.1 38 = τ1.1 38 := sc_fl hO1 S 38 (by omega) (by omega)
    have eY2 : clY τ2 = clY τ1 := by
      funext p
      unfold clY flPy flSh flPr flPp flBs
      rw [b6, b2, b9, b7, b8, b5, b3, e38]
    have eR : clR τ3 = clR σ := by rw [eR3, eR2, eR1]
    have eY : clY τ3 = clY σ := by rw [eY3, eY2, eY1]
    have eN : fN τ3 = fN σ := by rw [d1, b1, a1]
    have e52 : τ3.1 52 = σ.1 52 := by
      rw [cu_same C3 52 (by omega) (by omega), sc_fl hO1 S 52 (by omega) (by omega), cu_same C 52 (by omega) (by omega)]
    have eC : agC τ3 = agC σ := by funext p; unfold agC; rw [eR, e52]
    have h3 := C3.2.2
    have h4 := C3.2.1
    have k1 := hp (some (.int (nI (cn (agC σ) (fN σ))))) (agS (clR σ) (clY σ) τ3 (fN σ)) (Or.inr ⟨by rw [e]; simp, rfl, τ1, τ2, τ3, C, S, C3, rfl⟩)
    refine jvk_ok TX11_divide (V := [(176, 1, 11, oX11_currentProposal), (180, 1, 6, oX6_exists), (310, 1, 11, oX11_startChange), (330, 2, 11, oX11_agreeOn)]) (S := []) (List.forall_mem_cons.mpr ⟨⟨mX11_currentProposal, n + 5, 0, TX11, 9, rfl, by omega, kX11_176, WX11_currentProposal, rfl, CX11_currentProposal g (n)⟩, (List.forall_mem_cons.mpr ⟨⟨mX6_exists, n + 1, 0, TX6, 8, rfl, by omega, kX11_180, WX6_exists, rfl, CX6_exists g (n)⟩, (List.forall_mem_cons.mpr ⟨⟨mX11_startChange, n + 3, 0, TX11, 9, rfl, by omega, kX11_310, WX11_startChange, rfl, CX11_startChange g (n)⟩, (List.forall_mem_cons.mpr ⟨⟨mX11_agreeOn, n + 4, 1, TX11, 9, rfl, by omega, kX11_330, WX11_agreeOn, rfl, CX11_agreeOn g (n)⟩, (fun _ h => absurd h List.not_mem_nil)⟩)⟩)⟩)⟩) (fun _ h => absurd h List.not_mem_nil) [24] 20 _ _ _ _ ?_
    simp (maxSteps := 1000000) [↓Bool.cond_eq_ite, -Prod.forall, -Prod.exists, -Prod.mk.injEq, jvk, tX11_divide, jtb, jol, jst, jlk, jcmp, jbin, jfl, fX11, jc2, lX11, jcat, jel, lv_args, Value.category, jins, jsrt, jins2, jble, jblt, jf3, List.filter_cons, List.filter_nil, G_x, G_flat, G_loader, G_roster, G_lroster, G_lflat, G_history, G_prop, G_choice, G_tchoice, G_settle, G_page, oX11_currentProposal, oX6_exists, oX11_startChange, oX11_agreeOn, joR, joRR, -Int32.not_le, -Int32.not_lt, -Int64.not_le, -Int64.not_lt, i3lt, i6lt, h3, h4]
    try simp (disch := omega) [-Prod.forall, -Prod.exists, -Prod.mk.injEq, -Int32.not_le, -Int32.not_lt, -Int64.not_le, -Int64.not_lt, i3lt, i6lt, h3, h4]
    rw [eR, eY, eN, eC]
    refine jvk_ok TX11_divide (V := [(176, 1, 11, oX11_currentProposal), (180, 1, 6, oX6_exists), (310, 1, 11, oX11_startChange), (330, 2, 11, oX11_agreeOn)]) (S := []) (List.forall_mem_cons.mpr ⟨⟨mX11_currentProposal, n + 5, 0, TX11, 9, rfl, by omega, kX11_176, WX11_currentProposal, rfl, CX11_currentProposal g (n)⟩, (List.forall_mem_cons.mpr ⟨⟨mX6_exists, n + 1, 0, TX6, 8, rfl, by omega, kX11_180, WX6_exists, rfl, CX6_exists g (n)⟩, (List.forall_mem_cons.mpr ⟨⟨mX11_startChange, n + 3, 0, TX11, 9, rfl, by omega, kX11_310, WX11_startChange, rfl, CX11_startChange g (n)⟩, (List.forall_mem_cons.mpr ⟨⟨mX11_agreeOn, n + 4, 1, TX11, 9, rfl, by omega, kX11_330, WX11_agreeOn, rfl, CX11_agreeOn g (n)⟩, (fun _ h => absurd h List.not_mem_nil)⟩)⟩)⟩)⟩) (fun _ h => absurd h List.not_mem_nil) [] 20 _ _ _ _ ?_
    simp (maxSteps := 1000000) [↓Bool.cond_eq_ite, -Prod.forall, -Prod.exists, -Prod.mk.injEq, jvk, tX11_divide, jtb, jol, jst, jlk, jcmp, jbin, jfl, fX11, jc2, lX11, jcat, jel, lv_args, Value.category, jins, jsrt, jins2, jble, jblt, jf3, List.filter_cons, List.filter_nil, G_x, G_flat, G_loader, G_roster, G_lroster, G_lflat, G_history, G_prop, G_choice, G_tchoice, G_settle, G_page, oX11_currentProposal, oX6_exists, oX11_startChange, oX11_agreeOn, joR, joRR, -Int32.not_le, -Int32.not_lt, -Int64.not_le, -Int64.not_lt, i3lt, i6lt]
    try simp (disch := omega) [-Prod.forall, -Prod.exists, -Prod.mk.injEq, -Int32.not_le, -Int32.not_lt, -Int64.not_le, -Int64.not_lt, i3lt, i6lt]
    exact k1
def oX11_swapRooms : jO := joRII fun a x y σ => (a = 0 ∧ hiO σ ∧ fOK σ, fun v τ => (¬ (fH σ x = true ∧ fH σ y = true) ∧ v = some (.int (-1)) ∧ τ = σ) ∨ ((fH σ x = true ∧ fH σ y = true) ∧ (x = y ∨ fW σ x (σ.1 52 y.toNatClampNeg) = -1 ∨ fW σ y (σ.1 52 x.toNatClampNeg) = -1) ∧ v = some (.int (-4)) ∧ τ = σ) ∨ ((fH σ x = true ∧ fH σ y = true) ∧ ¬ (x = y ∨ fW σ x (σ.1 52 y.toNatClampNeg) = -1 ∨ fW σ y (σ.1 52 x.toNatClampNeg) = -1) ∧ v = some (.int (fSE τ (fN σ) (fN σ))) ∧ chP σ τ (fun ρ => jup (jup (jup (jup ρ 52 x.toNatClampNeg (σ.1 52 y.toNatClampNeg)) 53 x.toNatClampNeg (σ.1 53 y.toNatClampNeg)) 52 y.toNatClampNeg (σ.1 52 x.toNatClampNeg)) 53 y.toNatClampNeg (σ.1 53 x.toNatClampNeg))))
set_option maxRecDepth 100000 in
set_option maxHeartbeats 4000000 in
theorem CX11_swapRooms (g : jG) (n : Nat) : jOk g (n + 5) mX11_swapRooms oX11_swapRooms := by
  refine joRII_ok ?_
  rintro _ x y σ ⟨rfl, hO, hok⟩
  by_cases c : fH σ x = true
  · by_cases d : fH σ y = true
    · have jx := fP_jin (fH_P c)
      have jy := fP_jin (fH_P d)
      have no : (x = y ∨ fW σ x (σ.1 52 y.toNatClampNeg) = -1 ∨ fW σ y (σ.1 52 x.toNatClampNeg) = -1) → ∀ post : Option Value → jM → Prop, (∀ v τ, ((¬ (fH σ x = true ∧ fH σ y = true) ∧ v = some (.int (-1)) ∧ τ = σ) ∨ ((fH σ x = true ∧ fH σ y = true) ∧ (x = y ∨ fW σ x (σ.1 52 y.toNatClampNeg) = -1 ∨ fW σ y (σ.1 52 x.toNatClampNeg) = -1) ∧ v = some (.int (-4)) ∧ τ = σ) ∨ ((fH σ x = true ∧ fH σ y = true) ∧ ¬ (x = y ∨ fW σ x (σ.1 52 y.toNatClampNeg) = -1 ∨ fW σ y (σ.1 52 x.toNatClampNeg) = -1) ∧ v = some (.int (fSE τ (fN σ) (fN σ))) ∧ chP σ τ (fun ρ => jup (jup (jup (jup ρ 52 x.toNatClampNeg (σ.1 52 y.toNatClampNeg)) 53 x.toNatClampNeg (σ.1 53 y.toNatClampNeg)) 52 y.toNatClampNeg (σ.1 52 x.toNatClampNeg)) 53 y.toNatClampNeg (σ.1 53 x.toNatClampNeg)))) → post v τ) → post (some (.int (-4))) σ := fun z post hp => hp _ _ (Or.inr (Or.inl ⟨⟨c, d⟩, z, rfl, rfl⟩))
      refine jCon.ofP (by decide +kernel) (by simp [lg_sl, Value.category]) (fun post hp => ?_)
      by_cases e : x = y
      · have k1 := no (Or.inl e) post hp
        subst e
        refine jvk_ok TX11_swapRooms (V := [(259, 2, 2, oX2_hasRoom), (151, 3, 2, oX2_worth), (310, 1, 11, oX11_startChange), (313, 4, 2, oX2_assign), (265, 1, 2, oX2_sumOfEnvy)]) (S := []) (List.forall_mem_cons.mpr ⟨⟨mX2_hasRoom, n + 1, 1, TX2, 16, rfl, by omega, kX11_259, WX2_hasRoom, rfl, CX2_hasRoom g (n)⟩, (List.forall_mem_cons.mpr ⟨⟨mX2_worth, n + 1, 2, TX2, 16, rfl, by omega, kX11_151, WX2_worth, rfl, CX2_worth g (n)⟩, (List.forall_mem_cons.mpr ⟨⟨mX11_startChange, n + 3, 0, TX11, 9, rfl, by omega, kX11_310, WX11_startChange, rfl, CX11_startChange g (n)⟩, (List.forall_mem_cons.mpr ⟨⟨mX2_assign, n + 1, 3, TX2, 16, rfl, by omega, kX11_313, WX2_assign, rfl, CX2_assign g (n)⟩, (List.forall_mem_cons.mpr ⟨⟨mX2_sumOfEnvy, n + 4, 0, TX2, 16, rfl, by omega, kX11_265, WX2_sumOfEnvy, rfl, CX2_sumOfEnvy g (n)⟩, (fun _ h => absurd h List.not_mem_nil)⟩)⟩)⟩)⟩)⟩) (fun _ h => absurd h List.not_mem_nil) [] 60 _ _ _ _ ?_
        simp (maxSteps := 1000000) [↓Bool.cond_eq_ite, -Prod.forall, -Prod.exists, -Prod.mk.injEq, jvk, tX11_swapRooms, jtb, jol, jst, jlk, jcmp, jbin, jfl, fX11, jc2, lX11, jcat, jel, lv_args, Value.category, jins, jsrt, jins2, jble, jblt, jf3, List.filter_cons, List.filter_nil, G_x, G_flat, G_loader, G_roster, G_lroster, G_lflat, G_history, G_prop, G_choice, G_tchoice, G_settle, G_page, oX2_hasRoom, oX2_worth, oX11_startChange, oX2_assign, oX2_sumOfEnvy, joR, joRI, joRII, joRIII, -Int32.not_le, -Int32.not_lt, -Int64.not_le, -Int64.not_lt, i3lt, i6lt, c, jx]
        try simp (disch := omega) [-Prod.forall, -Prod.exists, -Prod.mk.injEq, -Int32.not_le, -Int32.not_lt, -Int64.not_le, -Int64.not_lt, i3lt, i6lt, c, jx]
        exact k1
      · by_cases w1 : fW σ x (σ.1 52 y.toNatClampNeg) = -1
        · have k1 := no (Or.inr (Or.inl w1)) post hp
          refine jvk_ok TX11_swapRooms (V := [(259, 2, 2, oX2_hasRoom), (151, 3, 2, oX2_worth), (310, 1, 11, oX11_startChange), (313, 4, 2, oX2_assign), (265, 1, 2, oX2_sumOfEnvy)]) (S := []) (List.forall_mem_cons.mpr ⟨⟨mX2_hasRoom, n + 1, 1, TX2, 16, rfl, by omega, kX11_259, WX2_hasRoom, rfl, CX2_hasRoom g (n)⟩, (List.forall_mem_cons.mpr ⟨⟨mX2_worth, n + 1, 2, TX2, 16, rfl, by omega, kX11_151, WX2_worth, rfl, CX2_worth g (n)⟩, (List.forall_mem_cons.mpr ⟨⟨mX11_startChange, n + 3, 0, TX11, 9, rfl, by omega, kX11_310, WX11_startChange, rfl, CX11_startChange g (n)⟩, (List.forall_mem_cons.mpr ⟨⟨mX2_assign, n + 1, 3, TX2, 16, rfl, by omega, kX11_313, WX2_assign, rfl, CX2_assign g (n)⟩, (List.forall_mem_cons.mpr ⟨⟨mX2_sumOfEnvy, n + 4, 0, TX2, 16, rfl, by omega, kX11_265, WX2_sumOfEnvy, rfl, CX2_sumOfEnvy g (n)⟩, (fun _ h => absurd h List.not_mem_nil)⟩)⟩)⟩)⟩)⟩) (fun _ h => absurd h List.not_mem_nil) [] 60 _ _ _ _ ?_
          simp (maxSteps := 1000000) [↓Bool.cond_eq_ite, -Prod.forall, -Prod.exists, -Prod.mk.injEq, jvk, tX11_swapRooms, jtb, jol, jst, jlk, jcmp, jbin, jfl, fX11, jc2, lX11, jcat, jel, lv_args, Value.category, jins, jsrt, jins2, jble, jblt, jf3, List.filter_cons, List.filter_nil, G_x, G_flat, G_loader, G_roster, G_lroster, G_lflat, G_history, G_prop, G_choice, G_tchoice, G_settle, G_page, oX2_hasRoom, oX2_worth, oX11_startChange, oX2_assign, oX2_sumOfEnvy, joR, joRI, joRII, joRIII, -Int32.not_le, -Int32.not_lt, -Int64.not_le, -Int64.not_lt, i3lt, i6lt, c, d, jx, jy, e, w1]
          try simp (disch := omega) [-Prod.forall, -Prod.exists, -Prod.mk.injEq, -Int32.not_le, -Int32.not_lt, -Int64.not_le, -Int64.not_lt, i3lt, i6lt, c, d, jx, jy, e, w1]
          exact k1
        · by_cases w2 : fW σ y (σ.1 52 x.toNatClampNeg) = -1
          · have k1 := no (Or.inr (Or.inr w2)) post hp
            refine jvk_ok TX11_swapRooms (V := [(259, 2, 2, oX2_hasRoom), (151, 3, 2, oX2_worth), (310, 1, 11, oX11_startChange), (313, 4, 2, oX2_assign), (265, 1, 2, oX2_sumOfEnvy)]) (S := []) (List.forall_mem_cons.mpr ⟨⟨mX2_hasRoom, n + 1, 1, TX2, 16, rfl, by omega, kX11_259, WX2_hasRoom, rfl, CX2_hasRoom g (n)⟩, (List.forall_mem_cons.mpr ⟨⟨mX2_worth, n + 1, 2, TX2, 16, rfl, by omega, kX11_151, WX2_worth, rfl, CX2_worth g (n)⟩, (List.forall_mem_cons.mpr ⟨⟨mX11_startChange, n + 3, 0, TX11, 9, rfl, by omega, kX11_310, WX11_startChange, rfl, CX11_startChange g (n)⟩, (List.forall_mem_cons.mpr ⟨⟨mX2_assign, n + 1, 3, TX2, 16, rfl, by omega, kX11_313, WX2_assign, rfl, CX2_assign g (n)⟩, (List.forall_mem_cons.mpr ⟨⟨mX2_sumOfEnvy, n + 4, 0, TX2, 16, rfl, by omega, kX11_265, WX2_sumOfEnvy, rfl, CX2_sumOfEnvy g (n)⟩, (fun _ h => absurd h List.not_mem_nil)⟩)⟩)⟩)⟩)⟩) (fun _ h => absurd h List.not_mem_nil) [] 60 _ _ _ _ ?_
            simp (maxSteps := 1000000) [↓Bool.cond_eq_ite, -Prod.forall, -Prod.exists, -Prod.mk.injEq, jvk, tX11_swapRooms, jtb, jol, jst, jlk, jcmp, jbin, jfl, fX11, jc2, lX11, jcat, jel, lv_args, Value.category, jins, jsrt, jins2, jble, jblt, jf3, List.filter_cons, List.filter_nil, G_x, G_flat, G_loader, G_roster, G_lroster, G_lflat, G_history, G_prop, G_choice, G_tchoice, G_settle, G_page, oX2_hasRoom, oX2_worth, oX11_startChange, oX2_assign, oX2_sumOfEnvy, joR, joRI, joRII, joRIII, -Int32.not_le, -Int32.not_lt, -Int64.not_le, -Int64.not_lt, i3lt, i6lt, c, d, jx, jy, e, w1, w2]
            try simp (disch := omega) [-Prod.forall, -Prod.exists, -Prod.mk.injEq, -Int32.not_le, -Int32.not_lt, -Int64.not_le, -Int64.not_lt, i3lt, i6lt, c, d, jx, jy, e, w1, w2]
            exact k1
          · refine jvk_ok TX11_swapRooms (V := [(259, 2, 2, oX2_hasRoom), (151, 3, 2, oX2_worth), (310, 1, 11, oX11_startChange), (313, 4, 2, oX2_assign), (265, 1, 2, oX2_sumOfEnvy)]) (S := []) (List.forall_mem_cons.mpr ⟨⟨mX2_hasRoom, n + 1, 1, TX2, 16, rfl, by omega, kX11_259, WX2_hasRoom, rfl, CX2_hasRoom g (n)⟩, (List.forall_mem_cons.mpr ⟨⟨mX2_worth, n + 1, 2, TX2, 16, rfl, by omega, kX11_151, WX2_worth, rfl, CX2_worth g (n)⟩, (List.forall_mem_cons.mpr ⟨⟨mX11_startChange, n + 3, 0, TX11, 9, rfl, by omega, kX11_310, WX11_startChange, rfl, CX11_startChange g (n)⟩, (List.forall_mem_cons.mpr ⟨⟨mX2_assign, n + 1, 3, TX2, 16, rfl, by omega, kX11_313, WX2_assign, rfl, CX2_assign g (n)⟩, (List.forall_mem_cons.mpr ⟨⟨mX2_sumOfEnvy, n + 4, 0, TX2, 16, rfl, by omega, kX11_265, WX2_sumOfEnvy, rfl, CX2_sumOfEnvy g (n)⟩, (fun _ h => absurd h List.not_mem_nil)⟩)⟩)⟩)⟩)⟩) (fun _ h => absurd h List.not_mem_nil) [84] 60 _ _ _ _ ?_
            simp (maxSteps := 1000000) [↓Bool.cond_eq_ite, -Prod.forall, -Prod.exists, -Prod.mk.injEq, jvk, tX11_swapRooms, jtb, jol, jst, jlk, jcmp, jbin, jfl, fX11, jc2, lX11, jcat, jel, lv_args, Value.category, jins, jsrt, jins2, jble, jblt, jf3, List.filter_cons, List.filter_nil, G_x, G_flat, G_loader, G_roster, G_lroster, G_lflat, G_history, G_prop, G_choice, G_tchoice, G_settle, G_page, oX2_hasRoom, oX2_worth, oX11_startChange, oX2_assign, oX2_sumOfEnvy, joR, joRI, joRII, joRIII, -Int32.not_le, -Int32.not_lt, -Int64.not_le, -Int64.not_lt, i3lt, i6lt, c, d, jx, jy, e, w1, w2, hO]
            try simp (disch := omega) [-Prod.forall, -Prod.exists, -Prod.mk.injEq, -Int32.not_le, -Int32.not_lt, -Int64.not_le, -Int64.not_lt, i3lt, i6lt, c, d, jx, jy, e, w1, w2, hO]
            intro v1 ρ hv1 S
            subst hv1
            have e52 := sc_fl hO S 52 (by omega) (by omega)
            have e53 := sc_fl hO S 53 (by omega) (by omega)
            have e37 := sc_fl hO S 37 (by omega) (by omega)
            have hxy : ¬ y.toNatClampNeg = x.toNatClampNeg := fun z => e (by rw [(tn_nI jx).1, (tn_nI jy).1, z])
            have hxy' : ¬ x.toNatClampNeg = y.toNatClampNeg := fun z => hxy z.symm
            have eA1 : ∀ r z, fAs ρ x r z = jup (jup ρ 52 x.toNatClampNeg r) 53 x.toNatClampNeg z := fun r z => by
              unfold fAs
              rw [if_pos (by rw [fP_same e37]; exact fH_P c)]
            have eA2 : ∀ a1 b1 r z, fAs (jup (jup ρ 52 x.toNatClampNeg a1) 53 x.toNatClampNeg b1) y r z = jup (jup (jup (jup ρ 52 x.toNatClampNeg a1) 53 x.toNatClampNeg b1) 52 y.toNatClampNeg r) 53 y.toNatClampNeg z := fun a1 b1 r z => by
              unfold fAs
              rw [if_pos (by rw [fP_same (by rw [← e37]; funext j; rw [jup_1, if_neg (by omega), jup_1, if_neg (by omega)])]; exact fH_P d)]
            have k1 := hp _ _ (Or.inr (Or.inr ⟨⟨c, d⟩, fun z => z.elim e (fun z => z.elim w1 w2), rfl, ρ, S, rfl⟩))
            refine jvk_ok TX11_swapRooms (V := [(259, 2, 2, oX2_hasRoom), (151, 3, 2, oX2_worth), (310, 1, 11, oX11_startChange), (313, 4, 2, oX2_assign), (265, 1, 2, oX2_sumOfEnvy)]) (S := []) (List.forall_mem_cons.mpr ⟨⟨mX2_hasRoom, n + 1, 1, TX2, 16, rfl, by omega, kX11_259, WX2_hasRoom, rfl, CX2_hasRoom g (n)⟩, (List.forall_mem_cons.mpr ⟨⟨mX2_worth, n + 1, 2, TX2, 16, rfl, by omega, kX11_151, WX2_worth, rfl, CX2_worth g (n)⟩, (List.forall_mem_cons.mpr ⟨⟨mX11_startChange, n + 3, 0, TX11, 9, rfl, by omega, kX11_310, WX11_startChange, rfl, CX11_startChange g (n)⟩, (List.forall_mem_cons.mpr ⟨⟨mX2_assign, n + 1, 3, TX2, 16, rfl, by omega, kX11_313, WX2_assign, rfl, CX2_assign g (n)⟩, (List.forall_mem_cons.mpr ⟨⟨mX2_sumOfEnvy, n + 4, 0, TX2, 16, rfl, by omega, kX11_265, WX2_sumOfEnvy, rfl, CX2_sumOfEnvy g (n)⟩, (fun _ h => absurd h List.not_mem_nil)⟩)⟩)⟩)⟩)⟩) (fun _ h => absurd h List.not_mem_nil) [114] 60 _ _ _ _ ?_
            simp (maxSteps := 1000000) [↓Bool.cond_eq_ite, -Prod.forall, -Prod.exists, -Prod.mk.injEq, jvk, tX11_swapRooms, jtb, jol, jst, jlk, jcmp, jbin, jfl, fX11, jc2, lX11, jcat, jel, lv_args, Value.category, jins, jsrt, jins2, jble, jblt, jf3, List.filter_cons, List.filter_nil, G_x, G_flat, G_loader, G_roster, G_lroster, G_lflat, G_history, G_prop, G_choice, G_tchoice, G_settle, G_page, oX2_hasRoom, oX2_worth, oX11_startChange, oX2_assign, oX2_sumOfEnvy, joR, joRI, joRII, joRIII, -Int32.not_le, -Int32.not_lt, -Int64.not_le, -Int64.not_lt, i3lt, i6lt, jx, jy, e52, e53]
            try simp (disch := omega) [-Prod.forall, -Prod.exists, -Prod.mk.injEq, -Int32.not_le, -Int32.not_lt, -Int64.not_le, -Int64.not_lt, i3lt, i6lt, jx, jy, e52, e53]
            rw [eA1]
            refine jvk_ok TX11_swapRooms (V := [(259, 2, 2, oX2_hasRoom), (151, 3, 2, oX2_worth), (310, 1, 11, oX11_startChange), (313, 4, 2, oX2_assign), (265, 1, 2, oX2_sumOfEnvy)]) (S := []) (List.forall_mem_cons.mpr ⟨⟨mX2_hasRoom, n + 1, 1, TX2, 16, rfl, by omega, kX11_259, WX2_hasRoom, rfl, CX2_hasRoom g (n)⟩, (List.forall_mem_cons.mpr ⟨⟨mX2_worth, n + 1, 2, TX2, 16, rfl, by omega, kX11_151, WX2_worth, rfl, CX2_worth g (n)⟩, (List.forall_mem_cons.mpr ⟨⟨mX11_startChange, n + 3, 0, TX11, 9, rfl, by omega, kX11_310, WX11_startChange, rfl, CX11_startChange g (n)⟩, (List.forall_mem_cons.mpr ⟨⟨mX2_assign, n + 1, 3, TX2, 16, rfl, by omega, kX11_313, WX2_assign, rfl, CX2_assign g (n)⟩, (List.forall_mem_cons.mpr ⟨⟨mX2_sumOfEnvy, n + 4, 0, TX2, 16, rfl, by omega, kX11_265, WX2_sumOfEnvy, rfl, CX2_sumOfEnvy g (n)⟩, (fun _ h => absurd h List.not_mem_nil)⟩)⟩)⟩)⟩)⟩) (fun _ h => absurd h List.not_mem_nil) [125] 60 _ _ _ _ ?_
            simp (maxSteps := 1000000) [↓Bool.cond_eq_ite, -Prod.forall, -Prod.exists, -Prod.mk.injEq, jvk, tX11_swapRooms, jtb, jol, jst, jlk, jcmp, jbin, jfl, fX11, jc2, lX11, jcat, jel, lv_args, Value.category, jins, jsrt, jins2, jble, jblt, jf3, List.filter_cons, List.filter_nil, G_x, G_flat, G_loader, G_roster, G_lroster, G_lflat, G_history, G_prop, G_choice, G_tchoice, G_settle, G_page, oX2_hasRoom, oX2_worth, oX11_startChange, oX2_assign, oX2_sumOfEnvy, joR, joRI, joRII, joRIII, -Int32.not_le, -Int32.not_lt, -Int64.not_le, -Int64.not_lt, i3lt, i6lt, jx, jy]
            try simp (disch := omega) [-Prod.forall, -Prod.exists, -Prod.mk.injEq, -Int32.not_le, -Int32.not_lt, -Int64.not_le, -Int64.not_lt, i3lt, i6lt, jx, jy]
            rw [eA2]
            obtain ⟨μ, eμ⟩ : ∃ μ, μ = jup (jup (jup (jup ρ 52 x.toNatClampNeg (σ.1 52 y.toNatClampNeg)) 53 x.toNatClampNeg (σ.1 53 y.toNatClampNeg)) 52 y.toNatClampNeg (σ.1 52 x.toNatClampNeg)) 53 y.toNatClampNeg (σ.1 53 x.toNatClampNeg) := ⟨_, rfl⟩
            have m37 : μ.1 37 = σ.1 37 := by
              rw [← e37, eμ]
              funext j
              rw [jup_1, if_neg (by omega), jup_1, if_neg (by omega), jup_1, if_neg (by omega), jup_1, if_neg (by omega)]
            have okμ : fOK μ := fOK_same m37 hok
            have fNμ : fN μ = fN σ := by unfold fN; rw [m37]
            rw [← eμ]
            refine jvk_ok TX11_swapRooms (V := [(259, 2, 2, oX2_hasRoom), (151, 3, 2, oX2_worth), (310, 1, 11, oX11_startChange), (313, 4, 2, oX2_assign), (265, 1, 2, oX2_sumOfEnvy)]) (S := []) (List.forall_mem_cons.mpr ⟨⟨mX2_hasRoom, n + 1, 1, TX2, 16, rfl, by omega, kX11_259, WX2_hasRoom, rfl, CX2_hasRoom g (n)⟩, (List.forall_mem_cons.mpr ⟨⟨mX2_worth, n + 1, 2, TX2, 16, rfl, by omega, kX11_151, WX2_worth, rfl, CX2_worth g (n)⟩, (List.forall_mem_cons.mpr ⟨⟨mX11_startChange, n + 3, 0, TX11, 9, rfl, by omega, kX11_310, WX11_startChange, rfl, CX11_startChange g (n)⟩, (List.forall_mem_cons.mpr ⟨⟨mX2_assign, n + 1, 3, TX2, 16, rfl, by omega, kX11_313, WX2_assign, rfl, CX2_assign g (n)⟩, (List.forall_mem_cons.mpr ⟨⟨mX2_sumOfEnvy, n + 4, 0, TX2, 16, rfl, by omega, kX11_265, WX2_sumOfEnvy, rfl, CX2_sumOfEnvy g (n)⟩, (fun _ h => absurd h List.not_mem_nil)⟩)⟩)⟩)⟩)⟩) (fun _ h => absurd h List.not_mem_nil) [] 60 _ _ _ _ ?_
            simp (maxSteps := 1000000) [↓Bool.cond_eq_ite, -Prod.forall, -Prod.exists, -Prod.mk.injEq, jvk, tX11_swapRooms, jtb, jol, jst, jlk, jcmp, jbin, jfl, fX11, jc2, lX11, jcat, jel, lv_args, Value.category, jins, jsrt, jins2, jble, jblt, jf3, List.filter_cons, List.filter_nil, G_x, G_flat, G_loader, G_roster, G_lroster, G_lflat, G_history, G_prop, G_choice, G_tchoice, G_settle, G_page, oX2_hasRoom, oX2_worth, oX11_startChange, oX2_assign, oX2_sumOfEnvy, joR, joRI, joRII, joRIII, -Int32.not_le, -Int32.not_lt, -Int64.not_le, -Int64.not_lt, i3lt, i6lt, okμ, fNμ]
            try simp (disch := omega) [-Prod.forall, -Prod.exists, -Prod.mk.injEq, -Int32.not_le, -Int32.not_lt, -Int64.not_le, -Int64.not_lt, i3lt, i6lt, okμ, fNμ]
            rw [eμ]
            exact k1
    · refine jCon.ofP (by decide +kernel) (by simp [lg_sl, Value.category]) (fun post hp => ?_)
      refine jvk_ok TX11_swapRooms (V := [(259, 2, 2, oX2_hasRoom), (151, 3, 2, oX2_worth), (310, 1, 11, oX11_startChange), (313, 4, 2, oX2_assign), (265, 1, 2, oX2_sumOfEnvy)]) (S := []) (List.forall_mem_cons.mpr ⟨⟨mX2_hasRoom, n + 1, 1, TX2, 16, rfl, by omega, kX11_259, WX2_hasRoom, rfl, CX2_hasRoom g (n)⟩, (List.forall_mem_cons.mpr ⟨⟨mX2_worth, n + 1, 2, TX2, 16, rfl, by omega, kX11_151, WX2_worth, rfl, CX2_worth g (n)⟩, (List.forall_mem_cons.mpr ⟨⟨mX11_startChange, n + 3, 0, TX11, 9, rfl, by omega, kX11_310, WX11_startChange, rfl, CX11_startChange g (n)⟩, (List.forall_mem_cons.mpr ⟨⟨mX2_assign, n + 1, 3, TX2, 16, rfl, by omega, kX11_313, WX2_assign, rfl, CX2_assign g (n)⟩, (List.forall_mem_cons.mpr ⟨⟨mX2_sumOfEnvy, n + 4, 0, TX2, 16, rfl, by omega, kX11_265, WX2_sumOfEnvy, rfl, CX2_sumOfEnvy g (n)⟩, (fun _ h => absurd h List.not_mem_nil)⟩)⟩)⟩)⟩)⟩) (fun _ h => absurd h List.not_mem_nil) [] 40 _ _ _ _ ?_
      simp (maxSteps := 1000000) [↓Bool.cond_eq_ite, -Prod.forall, -Prod.exists, -Prod.mk.injEq, jvk, tX11_swapRooms, jtb, jol, jst, jlk, jcmp, jbin, jfl, fX11, jc2, lX11, jcat, jel, lv_args, Value.category, jins, jsrt, jins2, jble, jblt, jf3, List.filter_cons, List.filter_nil, G_x, G_flat, G_loader, G_roster, G_lroster, G_lflat, G_history, G_prop, G_choice, G_tchoice, G_settle, G_page, oX2_hasRoom, oX2_worth, oX11_startChange, oX2_assign, oX2_sumOfEnvy, joR, joRI, joRII, joRIII, -Int32.not_le, -Int32.not_lt, -Int64.not_le, -Int64.not_lt, i3lt, i6lt, c, d]
      try simp (disch := omega) [-Prod.forall, -Prod.exists, -Prod.mk.injEq, -Int32.not_le, -Int32.not_lt, -Int64.not_le, -Int64.not_lt, i3lt, i6lt, c, d]
      exact hp _ _ (Or.inl ⟨fun q => d q.2, rfl, rfl⟩)
  · refine jCon.ofP (by decide +kernel) (by simp [lg_sl, Value.category]) (fun post hp => ?_)
    refine jvk_ok TX11_swapRooms (V := [(259, 2, 2, oX2_hasRoom), (151, 3, 2, oX2_worth), (310, 1, 11, oX11_startChange), (313, 4, 2, oX2_assign), (265, 1, 2, oX2_sumOfEnvy)]) (S := []) (List.forall_mem_cons.mpr ⟨⟨mX2_hasRoom, n + 1, 1, TX2, 16, rfl, by omega, kX11_259, WX2_hasRoom, rfl, CX2_hasRoom g (n)⟩, (List.forall_mem_cons.mpr ⟨⟨mX2_worth, n + 1, 2, TX2, 16, rfl, by omega, kX11_151, WX2_worth, rfl, CX2_worth g (n)⟩, (List.forall_mem_cons.mpr ⟨⟨mX11_startChange, n + 3, 0, TX11, 9, rfl, by omega, kX11_310, WX11_startChange, rfl, CX11_startChange g (n)⟩, (List.forall_mem_cons.mpr ⟨⟨mX2_assign, n + 1, 3, TX2, 16, rfl, by omega, kX11_313, WX2_assign, rfl, CX2_assign g (n)⟩, (List.forall_mem_cons.mpr ⟨⟨mX2_sumOfEnvy, n + 4, 0, TX2, 16, rfl, by omega, kX11_265, WX2_sumOfEnvy, rfl, CX2_sumOfEnvy g (n)⟩, (fun _ h => absurd h List.not_mem_nil)⟩)⟩)⟩)⟩)⟩) (fun _ h => absurd h List.not_mem_nil) [] 40 _ _ _ _ ?_
    simp (maxSteps := 1000000) [↓Bool.cond_eq_ite, -Prod.forall, -Prod.exists, -Prod.mk.injEq, jvk, tX11_swapRooms, jtb, jol, jst, jlk, jcmp, jbin, jfl, fX11, jc2, lX11, jcat, jel, lv_args, Value.category, jins, jsrt, jins2, jble, jblt, jf3, List.filter_cons, List.filter_nil, G_x, G_flat, G_loader, G_roster, G_lroster, G_lflat, G_history, G_prop, G_choice, G_tchoice, G_settle, G_page, oX2_hasRoom, oX2_worth, oX11_startChange, oX2_assign, oX2_sumOfEnvy, joR, joRI, joRII, joRIII, -Int32.not_le, -Int32.not_lt, -Int64.not_le, -Int64.not_lt, i3lt, i6lt, c]
    try simp (disch := omega) [-Prod.forall, -Prod.exists, -Prod.mk.injEq, -Int32.not_le, -Int32.not_lt, -Int64.not_le, -Int64.not_lt, i3lt, i6lt, c]
    exact hp _ _ (Or.inl ⟨fun q => c q.1, rfl, rfl⟩)
