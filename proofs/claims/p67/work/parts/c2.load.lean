/-! the program's load -/
def ldF (τ : jM) : Prop := (∀ k, 1 ≤ k → k ≤ 5 → ∀ j, j < roL k → τ.1 (31 + k) j = τ.1 (24 + k) j) ∧ τ.1 31 5 = τ.1 24 5 ∧ (∀ j, j < 7 → τ.1 37 j = τ.1 4 j) ∧ ∀ k, 1 ≤ k → k ≤ 19 → k ≠ 4 → ∀ j, j < fLn k → τ.1 (37 + k) j = τ.1 (4 + k) j
def aLX (a j : Nat) : Bool := aRL a j || (Nat.ble 31 a && Nat.ble a 56 || (a == 57 && j == 2 || a == 0 && j == 5))
theorem lx_of {a j : Nat} (h : aLX a j = false) : aRL a j = false ∧ ¬ (31 ≤ a ∧ a ≤ 56) ∧ ¬ (a = 57 ∧ j = 2) ∧ ¬ (a = 0 ∧ j = 5) := by
  unfold aLX at h
  rw [jble, jble] at h
  simp only [Bool.or_eq_false_iff, Bool.and_eq_false_iff, beq_eq_false_iff_ne, decide_eq_false_iff_not] at h
  exact ⟨h.1, by omega, by omega, by omega⟩
def ldP (σ : jM) (v : Option Value) (τ : jM) : pE ⊕ (Nat × pM) → Prop
  | .inl e => v = some (.int e.1) ∧ e.1 < 0 ∧ τ.1 1 9 = nI e.2 ∧ jfr aRL b0 σ τ ∧ τ.1 2 1 = 0
  | .inr q => v = some (.int (nI q.1)) ∧ q.1 ≤ 900 ∧ τ.1 1 9 = -1 ∧ jfr aLX b0 σ τ ∧ τ.1 2 1 = 0 ∧ lR τ q.2 ∧ lFlE τ ∧ ldF τ ∧ τ.1 57 2 = 0 ∧ τ.1 0 5 = 0
theorem lR_o {σ τ : jM} {μ : pM} (h : lR σ μ) (e : ∀ a j, a = 1 ∨ 4 ≤ a ∧ a ≤ 30 → τ.1 a j = σ.1 a j) : lR τ μ := by
  have := h.1.2.1
  exact ⟨lA_cg h.1 (fun a j q => e a j (by unfold lUA at q; omega)) (fun _ _ _ => rfl), lB_cg h.2.1 (fun a j q => e a j (by unfold lUB at q; omega)) (fun _ _ _ => rfl), lC_cg h.2.2 (fun a j q => e a j (by unfold lUC at q; omega)) (fun _ _ _ => rfl)⟩
def oX11_load : jO := joRI fun a x σ => (a = 0 ∧ ∃ h, σ.1 2 1 = nI h ∧ h ≤ 900, fun v τ => (mIn x 0 (σ.1 2 1) = false ∧ v = some (.int (-2)) ∧ τ = σ) ∨ (mIn x 0 (σ.1 2 1) = true ∧ ∀ μ, lInit μ → ldP σ v τ (pLoad (σ.1 3) x.toNatClampNeg μ)))
set_option maxRecDepth 100000 in
set_option maxHeartbeats 4000000 in
theorem CX11_load (g : jG) (n : Nat) (hE : jEs g) : jOk g (n + 10) mX11_load oX11_load := by
  refine joRI_ok ?_
  rintro _ x σ ⟨rfl, h, hh, hh9⟩
  refine jCon.ofP (by decide +kernel) (by simp [lg_sl, Value.category]) (fun post hp => ?_)
  by_cases x0 : x < 0
  · have k1 := hp (some (.int (-2))) σ (Or.inl ⟨by
      unfold mIn
      rw [decide_eq_false_iff_not]
      grind, rfl, rfl⟩)
    have x0' : ¬ 0 ≤ x := by grind
    refine jvk_ok TX11_load (V := [(83, 2, 4, oX4_read), (87, 1, 10, oX10_forget), (91, 2, 7, oX7_copy), (96, 2, 2, oX2_copy), (99, 1, 3, oX3_forget)]) (S := []) (List.forall_mem_cons.mpr ⟨⟨mX4_read, n + 9, 1, TX4, 10, rfl, by omega, kX11_83, WX4_read, rfl, CX4_read g (n) hE⟩, (List.forall_mem_cons.mpr ⟨⟨mX10_forget, n + 0, 0, TX10, 6, rfl, by omega, kX11_87, WX10_forget, rfl, CX10_forget g (n)⟩, (List.forall_mem_cons.mpr ⟨⟨mX7_copy, n + 1, 1, TX7, 6, rfl, by omega, kX11_91, WX7_copy, rfl, CX7_copy g (n)⟩, (List.forall_mem_cons.mpr ⟨⟨mX2_copy, n + 1, 1, TX2, 16, rfl, by omega, kX11_96, WX2_copy, rfl, CX2_copy g (n)⟩, (List.forall_mem_cons.mpr ⟨⟨mX3_forget, n + 0, 0, TX3, 3, rfl, by omega, kX11_99, WX3_forget, rfl, CX3_forget g (n)⟩, (fun _ h => absurd h List.not_mem_nil)⟩)⟩)⟩)⟩)⟩) (fun _ h => absurd h List.not_mem_nil) [] 20 _ _ _ _ ?_
    simp (maxSteps := 1000000) [↓Bool.cond_eq_ite, -Prod.forall, -Prod.exists, -Prod.mk.injEq, jvk, tX11_load, jtb, jol, jst, jlk, jcmp, jbin, jfl, fX11, jc2, lX11, jcat, jel, lv_args, Value.category, jins, jsrt, jins2, jble, jblt, jf3, List.filter_cons, List.filter_nil, G_x, G_flat, G_loader, G_roster, G_lroster, G_lflat, G_history, G_prop, G_choice, G_tchoice, G_settle, G_page, oX4_read, oX10_forget, oX7_copy, oX2_copy, oX3_forget, joR, joRI, joRR, -Int32.not_le, -Int32.not_lt, -Int64.not_le, -Int64.not_lt, i3lt, i6lt, x0, x0']
    try simp (disch := omega) [-Prod.forall, -Prod.exists, -Prod.mk.injEq, -Int32.not_le, -Int32.not_lt, -Int64.not_le, -Int64.not_lt, i3lt, i6lt, x0, x0']
    exact k1
  · have x0' : 0 ≤ x := by grind
    obtain ⟨m, hm1, rfl⟩ := nI_of x0
    by_cases c : m ≤ h
    · have hin : mIn (nI m) 0 (σ.1 2 1) = true := by
        unfold mIn
        rw [decide_eq_true_eq, hh]
        exact ⟨x0', nI_le c (by omega)⟩
      have hle : nI m ≤ nI h := nI_le c (by omega)
      have hpre : ∃ m' h', nI m = nI m' ∧ σ.1 2 1 = nI h' ∧ m' ≤ h' ∧ h' ≤ 900 := ⟨m, h, rfl, hh, c, hh9⟩
      refine jvk_ok TX11_load (V := [(83, 2, 4, oX4_read), (87, 1, 10, oX10_forget), (91, 2, 7, oX7_copy), (96, 2, 2, oX2_copy), (99, 1, 3, oX3_forget)]) (S := []) (List.forall_mem_cons.mpr ⟨⟨mX4_read, n + 9, 1, TX4, 10, rfl, by omega, kX11_83, WX4_read, rfl, CX4_read g (n) hE⟩, (List.forall_mem_cons.mpr ⟨⟨mX10_forget, n + 0, 0, TX10, 6, rfl, by omega, kX11_87, WX10_forget, rfl, CX10_forget g (n)⟩, (List.forall_mem_cons.mpr ⟨⟨mX7_copy, n + 1, 1, TX7, 6, rfl, by omega, kX11_91, WX7_copy, rfl, CX7_copy g (n)⟩, (List.forall_mem_cons.mpr ⟨⟨mX2_copy, n + 1, 1, TX2, 16, rfl, by omega, kX11_96, WX2_copy, rfl, CX2_copy g (n)⟩, (List.forall_mem_cons.mpr ⟨⟨mX3_forget, n + 0, 0, TX3, 3, rfl, by omega, kX11_99, WX3_forget, rfl, CX3_forget g (n)⟩, (fun _ h => absurd h List.not_mem_nil)⟩)⟩)⟩)⟩)⟩) (fun _ h => absurd h List.not_mem_nil) [21] 30 _ _ _ _ ?_
      simp (maxSteps := 1000000) [↓Bool.cond_eq_ite, -Prod.forall, -Prod.exists, -Prod.mk.injEq, jvk, tX11_load, jtb, jol, jst, jlk, jcmp, jbin, jfl, fX11, jc2, lX11, jcat, jel, lv_args, Value.category, jins, jsrt, jins2, jble, jblt, jf3, List.filter_cons, List.filter_nil, G_x, G_flat, G_loader, G_roster, G_lroster, G_lflat, G_history, G_prop, G_choice, G_tchoice, G_settle, G_page, oX4_read, oX10_forget, oX7_copy, oX2_copy, oX3_forget, joR, joRI, joRR, -Int32.not_le, -Int32.not_lt, -Int64.not_le, -Int64.not_lt, i3lt, i6lt, x0', hh, hle]
      try simp (disch := omega) [-Prod.forall, -Prod.exists, -Prod.mk.injEq, -Int32.not_le, -Int32.not_lt, -Int64.not_le, -Int64.not_lt, i3lt, i6lt, x0', hh, hle]
      refine jvk_ok TX11_load (V := [(83, 2, 4, oX4_read), (87, 1, 10, oX10_forget), (91, 2, 7, oX7_copy), (96, 2, 2, oX2_copy), (99, 1, 3, oX3_forget)]) (S := []) (List.forall_mem_cons.mpr ⟨⟨mX4_read, n + 9, 1, TX4, 10, rfl, by omega, kX11_83, WX4_read, rfl, CX4_read g (n) hE⟩, (List.forall_mem_cons.mpr ⟨⟨mX10_forget, n + 0, 0, TX10, 6, rfl, by omega, kX11_87, WX10_forget, rfl, CX10_forget g (n)⟩, (List.forall_mem_cons.mpr ⟨⟨mX7_copy, n + 1, 1, TX7, 6, rfl, by omega, kX11_91, WX7_copy, rfl, CX7_copy g (n)⟩, (List.forall_mem_cons.mpr ⟨⟨mX2_copy, n + 1, 1, TX2, 16, rfl, by omega, kX11_96, WX2_copy, rfl, CX2_copy g (n)⟩, (List.forall_mem_cons.mpr ⟨⟨mX3_forget, n + 0, 0, TX3, 3, rfl, by omega, kX11_99, WX3_forget, rfl, CX3_forget g (n)⟩, (fun _ h => absurd h List.not_mem_nil)⟩)⟩)⟩)⟩)⟩) (fun _ h => absurd h List.not_mem_nil) [29] 30 _ _ _ _ ?_
      simp (maxSteps := 1000000) [↓Bool.cond_eq_ite, -Prod.forall, -Prod.exists, -Prod.mk.injEq, jvk, tX11_load, jtb, jol, jst, jlk, jcmp, jbin, jfl, fX11, jc2, lX11, jcat, jel, lv_args, Value.category, jins, jsrt, jins2, jble, jblt, jf3, List.filter_cons, List.filter_nil, G_x, G_flat, G_loader, G_roster, G_lroster, G_lflat, G_history, G_prop, G_choice, G_tchoice, G_settle, G_page, oX4_read, oX10_forget, oX7_copy, oX2_copy, oX3_forget, joR, joRI, joRR, -Int32.not_le, -Int32.not_lt, -Int64.not_le, -Int64.not_lt, i3lt, i6lt]
      try simp (disch := omega) [-Prod.forall, -Prod.exists, -Prod.mk.injEq, -Int32.not_le, -Int32.not_lt, -Int64.not_le, -Int64.not_lt, i3lt, i6lt]
      refine ⟨⟨m, rfl, h, hh, c, hh9⟩, ?_⟩
      intro v1 τ1 f1 q1
      have i1 : lInit (mu1 σ) := ⟨⟨rfl, rfl, rfl, rfl⟩, fun k hk => by
        rcases (by omega : k = 0 ∨ k = 1 ∨ k = 2 ∨ k = 3 ∨ k = 4) with rfl | rfl | rfl | rfl | rfl <;> rfl⟩
      have r0 := q1 (mu1 σ) i1
      obtain ⟨r, er⟩ : ∃ r, r = pLoad (σ.1 3) (nI m).toNatClampNeg (mu1 σ) := ⟨_, rfl⟩
      rw [← er] at r0
      rcases r with e | q
      · obtain ⟨hv1, en, e9⟩ := r0
        subst hv1
        have n0 : ¬ 0 ≤ e.1 := by grind
        have k1 := hp (some (.int e.1)) (jup τ1 2 1 0) (Or.inr ⟨hin, fun μ hμ => by
          have r1 := q1 μ hμ
          rcases e' : pLoad (σ.1 3) (nI m).toNatClampNeg μ with z | z
          · rw [e'] at r1
            exact ⟨r1.1, r1.2.1, r1.2.2, f1.up _ rfl, jup_s _ _ _ _⟩
          · rw [e'] at r1
            have y := Value.int.inj (Option.some.inj r1.1)
            have y2 : 0 ≤ nI z.1 := nI_pos' (by have := r1.2.2.2.2; omega)
            rw [← y] at y2
            exact absurd y2 n0⟩)
        refine jvk_ok TX11_load (V := [(83, 2, 4, oX4_read), (87, 1, 10, oX10_forget), (91, 2, 7, oX7_copy), (96, 2, 2, oX2_copy), (99, 1, 3, oX3_forget)]) (S := []) (List.forall_mem_cons.mpr ⟨⟨mX4_read, n + 9, 1, TX4, 10, rfl, by omega, kX11_83, WX4_read, rfl, CX4_read g (n) hE⟩, (List.forall_mem_cons.mpr ⟨⟨mX10_forget, n + 0, 0, TX10, 6, rfl, by omega, kX11_87, WX10_forget, rfl, CX10_forget g (n)⟩, (List.forall_mem_cons.mpr ⟨⟨mX7_copy, n + 1, 1, TX7, 6, rfl, by omega, kX11_91, WX7_copy, rfl, CX7_copy g (n)⟩, (List.forall_mem_cons.mpr ⟨⟨mX2_copy, n + 1, 1, TX2, 16, rfl, by omega, kX11_96, WX2_copy, rfl, CX2_copy g (n)⟩, (List.forall_mem_cons.mpr ⟨⟨mX3_forget, n + 0, 0, TX3, 3, rfl, by omega, kX11_99, WX3_forget, rfl, CX3_forget g (n)⟩, (fun _ h => absurd h List.not_mem_nil)⟩)⟩)⟩)⟩)⟩) (fun _ h => absurd h List.not_mem_nil) [] 30 _ _ _ _ ?_
        simp (maxSteps := 1000000) [↓Bool.cond_eq_ite, -Prod.forall, -Prod.exists, -Prod.mk.injEq, jvk, tX11_load, jtb, jol, jst, jlk, jcmp, jbin, jfl, fX11, jc2, lX11, jcat, jel, lv_args, Value.category, jins, jsrt, jins2, jble, jblt, jf3, List.filter_cons, List.filter_nil, G_x, G_flat, G_loader, G_roster, G_lroster, G_lflat, G_history, G_prop, G_choice, G_tchoice, G_settle, G_page, oX4_read, oX10_forget, oX7_copy, oX2_copy, oX3_forget, joR, joRI, joRR, -Int32.not_le, -Int32.not_lt, -Int64.not_le, -Int64.not_lt, i3lt, i6lt, n0]
        try simp (disch := omega) [-Prod.forall, -Prod.exists, -Prod.mk.injEq, -Int32.not_le, -Int32.not_lt, -Int64.not_le, -Int64.not_lt, i3lt, i6lt, n0]
        exact k1
      · obtain ⟨hv1, e9, hl, hfe, hq9⟩ := r0
        subst hv1
        have p0 : 0 ≤ nI q.1 := nI_pos' (by omega)
        have hfd : flFd 37 ∧ flFd 4 ∧ dsj 37 4 := ⟨flF_37, flF_4, by unfold dsj; omega⟩
        obtain ⟨ρ, eρ⟩ : ∃ ρ, ρ = jup τ1 2 1 0 := ⟨_, rfl⟩
        have Eρ : ∀ a j, ¬ (a = 2 ∧ j = 1) → ρ.1 a j = τ1.1 a j := fun a j h => by rw [eρ, jup_1, if_neg h]
        have fρ : jfr aLX b0 σ ρ := by
          rw [eρ]
          exact (f1.weak (fun a j q => (lx_of q).1) (fun _ q => q)).up _ rfl
        have ρ21 : ρ.1 2 1 = 0 := by rw [eρ, jup_s]
        refine jvk_ok TX11_load (V := [(83, 2, 4, oX4_read), (87, 1, 10, oX10_forget), (91, 2, 7, oX7_copy), (96, 2, 2, oX2_copy), (99, 1, 3, oX3_forget)]) (S := []) (List.forall_mem_cons.mpr ⟨⟨mX4_read, n + 9, 1, TX4, 10, rfl, by omega, kX11_83, WX4_read, rfl, CX4_read g (n) hE⟩, (List.forall_mem_cons.mpr ⟨⟨mX10_forget, n + 0, 0, TX10, 6, rfl, by omega, kX11_87, WX10_forget, rfl, CX10_forget g (n)⟩, (List.forall_mem_cons.mpr ⟨⟨mX7_copy, n + 1, 1, TX7, 6, rfl, by omega, kX11_91, WX7_copy, rfl, CX7_copy g (n)⟩, (List.forall_mem_cons.mpr ⟨⟨mX2_copy, n + 1, 1, TX2, 16, rfl, by omega, kX11_96, WX2_copy, rfl, CX2_copy g (n)⟩, (List.forall_mem_cons.mpr ⟨⟨mX3_forget, n + 0, 0, TX3, 3, rfl, by omega, kX11_99, WX3_forget, rfl, CX3_forget g (n)⟩, (fun _ h => absurd h List.not_mem_nil)⟩)⟩)⟩)⟩)⟩) (fun _ h => absurd h List.not_mem_nil) [57] 30 _ _ _ _ ?_
        simp (maxSteps := 1000000) [↓Bool.cond_eq_ite, -Prod.forall, -Prod.exists, -Prod.mk.injEq, jvk, tX11_load, jtb, jol, jst, jlk, jcmp, jbin, jfl, fX11, jc2, lX11, jcat, jel, lv_args, Value.category, jins, jsrt, jins2, jble, jblt, jf3, List.filter_cons, List.filter_nil, G_x, G_flat, G_loader, G_roster, G_lroster, G_lflat, G_history, G_prop, G_choice, G_tchoice, G_settle, G_page, oX4_read, oX10_forget, oX7_copy, oX2_copy, oX3_forget, joR, joRI, joRR, -Int32.not_le, -Int32.not_lt, -Int64.not_le, -Int64.not_lt, i3lt, i6lt, p0]
        try simp (disch := omega) [-Prod.forall, -Prod.exists, -Prod.mk.injEq, -Int32.not_le, -Int32.not_lt, -Int64.not_le, -Int64.not_lt, i3lt, i6lt, p0]
        rw [← eρ]
        refine jvk_ok TX11_load (V := [(83, 2, 4, oX4_read), (87, 1, 10, oX10_forget), (91, 2, 7, oX7_copy), (96, 2, 2, oX2_copy), (99, 1, 3, oX3_forget)]) (S := []) (List.forall_mem_cons.mpr ⟨⟨mX4_read, n + 9, 1, TX4, 10, rfl, by omega, kX11_83, WX4_read, rfl, CX4_read g (n) hE⟩, (List.forall_mem_cons.mpr ⟨⟨mX10_forget, n + 0, 0, TX10, 6, rfl, by omega, kX11_87, WX10_forget, rfl, CX10_forget g (n)⟩, (List.forall_mem_cons.mpr ⟨⟨mX7_copy, n + 1, 1, TX7, 6, rfl, by omega, kX11_91, WX7_copy, rfl, CX7_copy g (n)⟩, (List.forall_mem_cons.mpr ⟨⟨mX2_copy, n + 1, 1, TX2, 16, rfl, by omega, kX11_96, WX2_copy, rfl, CX2_copy g (n)⟩, (List.forall_mem_cons.mpr ⟨⟨mX3_forget, n + 0, 0, TX3, 3, rfl, by omega, kX11_99, WX3_forget, rfl, CX3_forget g (n)⟩, (fun _ h => absurd h List.not_mem_nil)⟩)⟩)⟩)⟩)⟩) (fun _ h => absurd h List.not_mem_nil) [60] 10 _ _ _ _ ?_
        simp (maxSteps := 1000000) [↓Bool.cond_eq_ite, -Prod.forall, -Prod.exists, -Prod.mk.injEq, jvk, tX11_load, jtb, jol, jst, jlk, jcmp, jbin, jfl, fX11, jc2, lX11, jcat, jel, lv_args, Value.category, jins, jsrt, jins2, jble, jblt, jf3, List.filter_cons, List.filter_nil, G_x, G_flat, G_loader, G_roster, G_lroster, G_lflat, G_history, G_prop, G_choice, G_tchoice, G_settle, G_page, oX4_read, oX10_forget, oX7_copy, oX2_copy, oX3_forget, joR, joRI, joRR, -Int32.not_le, -Int32.not_lt, -Int64.not_le, -Int64.not_lt, i3lt, i6lt]
        try simp (disch := omega) [-Prod.forall, -Prod.exists, -Prod.mk.injEq, -Int32.not_le, -Int32.not_lt, -Int64.not_le, -Int64.not_lt, i3lt, i6lt]
        intro v2 τ2 hv2 R2
        subst hv2
        refine jvk_ok TX11_load (V := [(83, 2, 4, oX4_read), (87, 1, 10, oX10_forget), (91, 2, 7, oX7_copy), (96, 2, 2, oX2_copy), (99, 1, 3, oX3_forget)]) (S := []) (List.forall_mem_cons.mpr ⟨⟨mX4_read, n + 9, 1, TX4, 10, rfl, by omega, kX11_83, WX4_read, rfl, CX4_read g (n) hE⟩, (List.forall_mem_cons.mpr ⟨⟨mX10_forget, n + 0, 0, TX10, 6, rfl, by omega, kX11_87, WX10_forget, rfl, CX10_forget g (n)⟩, (List.forall_mem_cons.mpr ⟨⟨mX7_copy, n + 1, 1, TX7, 6, rfl, by omega, kX11_91, WX7_copy, rfl, CX7_copy g (n)⟩, (List.forall_mem_cons.mpr ⟨⟨mX2_copy, n + 1, 1, TX2, 16, rfl, by omega, kX11_96, WX2_copy, rfl, CX2_copy g (n)⟩, (List.forall_mem_cons.mpr ⟨⟨mX3_forget, n + 0, 0, TX3, 3, rfl, by omega, kX11_99, WX3_forget, rfl, CX3_forget g (n)⟩, (fun _ h => absurd h List.not_mem_nil)⟩)⟩)⟩)⟩)⟩) (fun _ h => absurd h List.not_mem_nil) [74] 20 _ _ _ _ ?_
        simp (maxSteps := 1000000) [↓Bool.cond_eq_ite, -Prod.forall, -Prod.exists, -Prod.mk.injEq, jvk, tX11_load, jtb, jol, jst, jlk, jcmp, jbin, jfl, fX11, jc2, lX11, jcat, jel, lv_args, Value.category, jins, jsrt, jins2, jble, jblt, jf3, List.filter_cons, List.filter_nil, G_x, G_flat, G_loader, G_roster, G_lroster, G_lflat, G_history, G_prop, G_choice, G_tchoice, G_settle, G_page, oX4_read, oX10_forget, oX7_copy, oX2_copy, oX3_forget, joR, joRI, joRR, -Int32.not_le, -Int32.not_lt, -Int64.not_le, -Int64.not_lt, i3lt, i6lt, hfd]
        try simp (disch := omega) [-Prod.forall, -Prod.exists, -Prod.mk.injEq, -Int32.not_le, -Int32.not_lt, -Int64.not_le, -Int64.not_lt, i3lt, i6lt, hfd]
        intro v3 τ3 hv3 F3
        subst hv3
        obtain ⟨⟨rf, rk⟩, r5⟩ := R2
        obtain ⟨ff, fj, fk⟩ := F3
        have E2 : ∀ a j, a < 31 ∨ 36 < a → τ2.1 a j = ρ.1 a j := fun a j h => rf.2.2 a j (aRo_o h)
        have E3 : ∀ a j, a < 37 ∨ 56 < a → τ3.1 a j = τ2.1 a j := fun a j h => ff.2.2 a j (by
          unfold aFl
          rw [jble, jble]
          simp only [Bool.and_eq_false_iff, decide_eq_false_iff_not]
          omega)
        obtain ⟨ω, eω⟩ : ∃ ω, ω = jup (jup τ3 57 2 0) 0 5 0 := ⟨_, rfl⟩
        have E4 : ∀ a j, ¬ (a = 57 ∧ j = 2) → ¬ (a = 0 ∧ j = 5) → ω.1 a j = τ3.1 a j := fun a j h1 h2 => by rw [eω, jup_1, if_neg h2, jup_1, if_neg h1]
        have low : ∀ a j, 1 ≤ a → a ≤ 30 → ω.1 a j = ρ.1 a j := fun a j h1 h2 => by rw [E4 a j (by omega) (by omega), E3 a j (by omega), E2 a j (by omega)]
        have fω : jfr aLX b0 σ ω := by
          have g2 : jfr aLX b0 ρ τ2 := rf.weak (fun a j q => aRo_o (by have := (lx_of q).2.1; have := rl_of (lx_of q).1; omega)) (fun _ q => q)
          have g3 : jfr aLX b0 τ2 τ3 := ff.weak (fun a j q => by
            have := (lx_of q).2.1
            unfold aFl
            rw [jble, jble]
            simp only [Bool.and_eq_false_iff, decide_eq_false_iff_not]
            omega) (fun _ q => q)
          rw [eω]
          exact (((fρ.tr g2).tr g3).up _ rfl).up _ rfl
        have k1 := hp (some (.int (nI q.1))) ω (Or.inr ⟨hin, fun μ hμ => by
          have r1 := q1 μ hμ
          rcases e' : pLoad (σ.1 3) (nI m).toNatClampNeg μ with z | z
          · rw [e'] at r1
            have y := Value.int.inj (Option.some.inj r1.1)
            have y2 := r1.2.1
            rw [← y] at y2
            exact absurd p0 (by grind)
          · rw [e'] at r1
            refine ⟨r1.1, r1.2.2.2.2, ?_, fω, ?_, lR_o r1.2.2.1 (fun a j h => ?_), ⟨fun j h4 h7 => ?_, fun k hk j hj => ?_⟩, ⟨fun k k1 k5 j hj => ?_, ?_, fun j hj => ?_, fun k k1 k19 k4 j hj => ?_⟩, ?_, ?_⟩
            · rw [low 1 9 (by omega) (by omega), Eρ 1 9 (by omega)]; exact r1.2.1
            · rw [low 2 1 (by omega) (by omega)]; exact ρ21
            · rw [low a j (by omega) (by omega), Eρ a j (by omega)]
            · rw [low 4 j (by omega) (by omega), Eρ 4 j (by omega)]; exact r1.2.2.2.1.1 j h4 h7
            · rw [low (4 + k) j (by omega) (by omega), Eρ (4 + k) j (by omega)]; exact r1.2.2.2.1.2 k hk j hj
            · rw [low (24 + k) j (by omega) (by omega), E4 (31 + k) j (by omega) (by omega), E3 (31 + k) j (by omega), rk k trivial k1 k5 j hj]
            · rw [low 24 5 (by omega) (by omega), E4 31 5 (by omega) (by omega), E3 31 5 (by omega)]; exact r5
            · rw [low 4 j (by omega) (by omega), E4 37 j (by omega) (by omega), fj j hj, E2 4 j (by omega)]
            · rw [low (4 + k) j (by omega) (by omega), E4 (37 + k) j (by omega) (by omega), fk k trivial k1 k19 k4 j hj, E2 (4 + k) j (by omega)]
            · rw [eω, jup_1, if_neg (by omega), jup_s]
            · rw [eω, jup_s]⟩)
        rw [eω] at k1
        refine jvk_ok TX11_load (V := [(83, 2, 4, oX4_read), (87, 1, 10, oX10_forget), (91, 2, 7, oX7_copy), (96, 2, 2, oX2_copy), (99, 1, 3, oX3_forget)]) (S := []) (List.forall_mem_cons.mpr ⟨⟨mX4_read, n + 9, 1, TX4, 10, rfl, by omega, kX11_83, WX4_read, rfl, CX4_read g (n) hE⟩, (List.forall_mem_cons.mpr ⟨⟨mX10_forget, n + 0, 0, TX10, 6, rfl, by omega, kX11_87, WX10_forget, rfl, CX10_forget g (n)⟩, (List.forall_mem_cons.mpr ⟨⟨mX7_copy, n + 1, 1, TX7, 6, rfl, by omega, kX11_91, WX7_copy, rfl, CX7_copy g (n)⟩, (List.forall_mem_cons.mpr ⟨⟨mX2_copy, n + 1, 1, TX2, 16, rfl, by omega, kX11_96, WX2_copy, rfl, CX2_copy g (n)⟩, (List.forall_mem_cons.mpr ⟨⟨mX3_forget, n + 0, 0, TX3, 3, rfl, by omega, kX11_99, WX3_forget, rfl, CX3_forget g (n)⟩, (fun _ h => absurd h List.not_mem_nil)⟩)⟩)⟩)⟩)⟩) (fun _ h => absurd h List.not_mem_nil) [] 30 _ _ _ _ ?_
        simp (maxSteps := 1000000) [↓Bool.cond_eq_ite, -Prod.forall, -Prod.exists, -Prod.mk.injEq, jvk, tX11_load, jtb, jol, jst, jlk, jcmp, jbin, jfl, fX11, jc2, lX11, jcat, jel, lv_args, Value.category, jins, jsrt, jins2, jble, jblt, jf3, List.filter_cons, List.filter_nil, G_x, G_flat, G_loader, G_roster, G_lroster, G_lflat, G_history, G_prop, G_choice, G_tchoice, G_settle, G_page, oX4_read, oX10_forget, oX7_copy, oX2_copy, oX3_forget, joR, joRI, joRR, -Int32.not_le, -Int32.not_lt, -Int64.not_le, -Int64.not_lt, i3lt, i6lt]
        try simp (disch := omega) [-Prod.forall, -Prod.exists, -Prod.mk.injEq, -Int32.not_le, -Int32.not_lt, -Int64.not_le, -Int64.not_lt, i3lt, i6lt]
        exact k1
    · have hin : mIn (nI m) 0 (σ.1 2 1) = false := by
        unfold mIn
        rw [decide_eq_false_iff_not, hh]
        exact fun z => c ((nI_leI hm1 (by omega)).mp z.2)
      have hgt : ¬ nI m ≤ nI h := fun z => c ((nI_leI hm1 (by omega)).mp z)
      have k1 := hp (some (.int (-2))) σ (Or.inl ⟨hin, rfl, rfl⟩)
      refine jvk_ok TX11_load (V := [(83, 2, 4, oX4_read), (87, 1, 10, oX10_forget), (91, 2, 7, oX7_copy), (96, 2, 2, oX2_copy), (99, 1, 3, oX3_forget)]) (S := []) (List.forall_mem_cons.mpr ⟨⟨mX4_read, n + 9, 1, TX4, 10, rfl, by omega, kX11_83, WX4_read, rfl, CX4_read g (n) hE⟩, (List.forall_mem_cons.mpr ⟨⟨mX10_forget, n + 0, 0, TX10, 6, rfl, by omega, kX11_87, WX10_forget, rfl, CX10_forget g (n)⟩, (List.forall_mem_cons.mpr ⟨⟨mX7_copy, n + 1, 1, TX7, 6, rfl, by omega, kX11_91, WX7_copy, rfl, CX7_copy g (n)⟩, (List.forall_mem_cons.mpr ⟨⟨mX2_copy, n + 1, 1, TX2, 16, rfl, by omega, kX11_96, WX2_copy, rfl, CX2_copy g (n)⟩, (List.forall_mem_cons.mpr ⟨⟨mX3_forget, n + 0, 0, TX3, 3, rfl, by omega, kX11_99, WX3_forget, rfl, CX3_forget g (n)⟩, (fun _ h => absurd h List.not_mem_nil)⟩)⟩)⟩)⟩)⟩) (fun _ h => absurd h List.not_mem_nil) [] 30 _ _ _ _ ?_
      simp (maxSteps := 1000000) [↓Bool.cond_eq_ite, -Prod.forall, -Prod.exists, -Prod.mk.injEq, jvk, tX11_load, jtb, jol, jst, jlk, jcmp, jbin, jfl, fX11, jc2, lX11, jcat, jel, lv_args, Value.category, jins, jsrt, jins2, jble, jblt, jf3, List.filter_cons, List.filter_nil, G_x, G_flat, G_loader, G_roster, G_lroster, G_lflat, G_history, G_prop, G_choice, G_tchoice, G_settle, G_page, oX4_read, oX10_forget, oX7_copy, oX2_copy, oX3_forget, joR, joRI, joRR, -Int32.not_le, -Int32.not_lt, -Int64.not_le, -Int64.not_lt, i3lt, i6lt, x0', hh, hgt]
      try simp (disch := omega) [-Prod.forall, -Prod.exists, -Prod.mk.injEq, -Int32.not_le, -Int32.not_lt, -Int64.not_le, -Int64.not_lt, i3lt, i6lt, x0', hh, hgt]
      exact k1
