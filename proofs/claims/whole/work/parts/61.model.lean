/-! the reference: whether the division is the proposal; a proposal becomes the division -/
def al (p : Nat → Bool) : Nat → Bool
  | 0 => true
  | n + 1 => al p n && p n
theorem al_iff {p : Nat → Bool} : ∀ n, al p n = true ↔ ∀ j, j < n → p j = true
  | 0 => ⟨fun _ j h => by omega, fun _ => rfl⟩
  | n + 1 => by
    simp only [al, Bool.and_eq_true, al_iff n]
    refine ⟨fun h j hj => ?_, fun h => ⟨fun j hj => h j (by omega), h n (by omega)⟩⟩
    by_cases e : j = n
    · subst e; exact h.2
    · exact h.1 j (by omega)
theorem al_no {p : Nat → Bool} {n k : Nat} (hk : k < n) (h : ¬ p k = true) : al p n = false := by
  cases e : al p n with
  | false => rfl
  | true => exact absurd ((al_iff n).mp e k hk) h
/-- the payments of a proposal -/
def mPy (σ : jM) (p : Nat) : Int32 := if xl σ p = true then paS σ (shN σ) (cn (xl σ) p) else 0
def mCu (σ : jM) (p : Nat) : Bool := decide (mD σ p 2 = qch (dC σ) (xl σ) (mN σ) p ∧ (0 ≤ mD σ p 2 → mD σ p 3 = mPy σ p))
def oX12_isCurrent : jO := joR fun a σ => (a = 322 ∧ mOK σ ∧ dI (σ.1 323), fun v τ => v = some (.int (if al (mCu σ) (mN σ) = true then 1 else 0)) ∧ jfr aSc bSc σ τ ∧ τ.1 322 11 = 0)
set_option maxRecDepth 100000 in
set_option maxHeartbeats 4000000 in
theorem CX12_isCurrent (g : jG) (n : Nat) : jOk g (n + 16) mX12_isCurrent oX12_isCurrent := by
  refine joR_ok ?_
  rintro _ σ ⟨rfl, hok, hd⟩
  obtain ⟨hN10, hN4⟩ := mN_le hok
  have hd1 : dI ((jup σ 322 11 0).1 323) := hd
  refine jCon.ofP (by decide +kernel) (by simp [lg_sl, Value.category]) (fun post hp => ?_)
  refine jvk_ok TX12_isCurrent (V := [(217, 1, 12, oX12_laysProposal), (128, 3, 12, oX12_of)]) (S := []) (List.forall_mem_cons.mpr ⟨⟨mX12_laysProposal, n + 15, 0, TX12, 53, rfl, by omega, kX12_217, WX12_laysProposal, rfl, CX12_laysProposal g (n)⟩, (List.forall_mem_cons.mpr ⟨⟨mX12_of, n + 1, 2, TX12, 53, rfl, by omega, kX12_128, WX12_of, rfl, CX12_of g (n)⟩, (fun _ h => absurd h List.not_mem_nil)⟩)⟩) (fun _ h => absurd h List.not_mem_nil) [9] 20 _ _ _ _ ?_
  simp (maxSteps := 1000000) [↓Bool.cond_eq_ite, -Prod.forall, -Prod.exists, -Prod.mk.injEq, jvk, tX12_isCurrent, jtb, jol, jst, jlk, jcmp, jbin, jfl, fX12, jc2, lX12, jcat, jel, lv_args, Value.category, jins, jsrt, jins2, jble, jblt, jf3, List.filter_cons, List.filter_nil, G_m, oX12_laysProposal, oX12_of, joR, joRII, -Int32.not_le, -Int32.not_lt, -Int64.not_le, -Int64.not_lt, i3lt, i6lt, mOK_th hok, hd1]
  try simp (disch := omega) [-Prod.forall, -Prod.exists, -Prod.mk.injEq, -Int32.not_le, -Int32.not_lt, -Int64.not_le, -Int64.not_lt, i3lt, i6lt, mOK_th hok, hd1]
  intro v0 τ0 hv0 f0 e11 ha0 hy0
  subst hv0
  have eC : dC (jup σ 322 11 0) = dC σ := rfl
  have g0 : jfr aSc bSc σ τ0 := (sc_th σ 0).tr f0
  have s0 : sR σ τ0 := sc_R g0
  have e11' : τ0.1 322 11 = 0 := e11
  rw [eC] at ha0 hy0 ⊢
  have hch := ac_C ha0 s0
  have e4 : τ0.1 322 4 = nI (mN σ) := s0.2.2.trans hN4
  have key : ∀ is : Nat, is = (if (dC σ).isSome = true then 1 else 0) → jW g mX12_isCurrent (n + 16) post 12 [(0, .ref 322), (1, .int (nI is)), (2, .int 0)] [] τ0 := by
    intro is his
    have k0 := jloop (P := fun k => al (mCu σ) k = true → jW g mX12_isCurrent (n + 16) post 12 [(0, .ref 322), (1, .int (nI is)), (2, .int (nI k))] [] τ0) (N := mN σ) (fun ha => by
      have hle : nI (mN σ) ≤ nI (mN σ) := nI_le (Nat.le_refl _) (by omega)
      refine jvk_ok TX12_isCurrent (V := [(217, 1, 12, oX12_laysProposal), (128, 3, 12, oX12_of)]) (S := []) (List.forall_mem_cons.mpr ⟨⟨mX12_laysProposal, n + 15, 0, TX12, 53, rfl, by omega, kX12_217, WX12_laysProposal, rfl, CX12_laysProposal g (n)⟩, (List.forall_mem_cons.mpr ⟨⟨mX12_of, n + 1, 2, TX12, 53, rfl, by omega, kX12_128, WX12_of, rfl, CX12_of g (n)⟩, (fun _ h => absurd h List.not_mem_nil)⟩)⟩) (fun _ h => absurd h List.not_mem_nil) [12] 20 _ _ _ _ ?_
      simp (maxSteps := 1000000) [↓Bool.cond_eq_ite, -Prod.forall, -Prod.exists, -Prod.mk.injEq, jvk, tX12_isCurrent, jtb, jol, jst, jlk, jcmp, jbin, jfl, fX12, jc2, lX12, jcat, jel, lv_args, Value.category, jins, jsrt, jins2, jble, jblt, jf3, List.filter_cons, List.filter_nil, G_m, oX12_laysProposal, oX12_of, joR, joRII, -Int32.not_le, -Int32.not_lt, -Int64.not_le, -Int64.not_lt, i3lt, i6lt, e4, hle]
      try simp (disch := omega) [-Prod.forall, -Prod.exists, -Prod.mk.injEq, -Int32.not_le, -Int32.not_lt, -Int64.not_le, -Int64.not_lt, i3lt, i6lt, e4, hle]
      exact hp _ _ ⟨by rw [if_pos ha], g0, e11'⟩) (fun k hk ih ha => by
      have hlt : ¬ nI (mN σ) ≤ nI k := nI_ge hk (by omega)
      have hk1 : jin (nI k) 10 := jin_nI (by omega) (by decide)
      have eck : (nI k).toNatClampNeg = k := nI_clamp (by omega)
      have emD : ∀ w, mD τ0 k w = mD σ k w := fun w => sR_D s0 k w
      have e330 := hch k (by omega)
      have no : ¬ mCu σ k = true → jW g mX12_isCurrent (n + 16) post 64 [] [] τ0 := fun h => by
        refine jvk_ok TX12_isCurrent (V := [(217, 1, 12, oX12_laysProposal), (128, 3, 12, oX12_of)]) (S := []) (List.forall_mem_cons.mpr ⟨⟨mX12_laysProposal, n + 15, 0, TX12, 53, rfl, by omega, kX12_217, WX12_laysProposal, rfl, CX12_laysProposal g (n)⟩, (List.forall_mem_cons.mpr ⟨⟨mX12_of, n + 1, 2, TX12, 53, rfl, by omega, kX12_128, WX12_of, rfl, CX12_of g (n)⟩, (fun _ h => absurd h List.not_mem_nil)⟩)⟩) (fun _ h => absurd h List.not_mem_nil) [12] 20 _ _ _ _ ?_
        simp (maxSteps := 1000000) [↓Bool.cond_eq_ite, -Prod.forall, -Prod.exists, -Prod.mk.injEq, jvk, tX12_isCurrent, jtb, jol, jst, jlk, jcmp, jbin, jfl, fX12, jc2, lX12, jcat, jel, lv_args, Value.category, jins, jsrt, jins2, jble, jblt, jf3, List.filter_cons, List.filter_nil, G_m, oX12_laysProposal, oX12_of, joR, joRII, -Int32.not_le, -Int32.not_lt, -Int64.not_le, -Int64.not_lt, i3lt, i6lt]
        try simp (disch := omega) [-Prod.forall, -Prod.exists, -Prod.mk.injEq, -Int32.not_le, -Int32.not_lt, -Int64.not_le, -Int64.not_lt, i3lt, i6lt]
        exact hp _ _ ⟨by rw [al_no hk h, if_neg (by simp)], g0, e11'⟩
      have yes : mCu σ k = true → jW g mX12_isCurrent (n + 16) post 66 [(0, .ref 322), (1, .int (nI is)), (2, .int (nI k))] [] τ0 := fun h => by
        have k1 := ih (by simp only [al]; rw [ha, h]; rfl)
        refine jvk_ok TX12_isCurrent (V := [(217, 1, 12, oX12_laysProposal), (128, 3, 12, oX12_of)]) (S := []) (List.forall_mem_cons.mpr ⟨⟨mX12_laysProposal, n + 15, 0, TX12, 53, rfl, by omega, kX12_217, WX12_laysProposal, rfl, CX12_laysProposal g (n)⟩, (List.forall_mem_cons.mpr ⟨⟨mX12_of, n + 1, 2, TX12, 53, rfl, by omega, kX12_128, WX12_of, rfl, CX12_of g (n)⟩, (fun _ h => absurd h List.not_mem_nil)⟩)⟩) (fun _ h => absurd h List.not_mem_nil) [12] 20 _ _ _ _ ?_
        simp (maxSteps := 1000000) [↓Bool.cond_eq_ite, -Prod.forall, -Prod.exists, -Prod.mk.injEq, jvk, tX12_isCurrent, jtb, jol, jst, jlk, jcmp, jbin, jfl, fX12, jc2, lX12, jcat, jel, lv_args, Value.category, jins, jsrt, jins2, jble, jblt, jf3, List.filter_cons, List.filter_nil, G_m, oX12_laysProposal, oX12_of, joR, joRII, -Int32.not_le, -Int32.not_lt, -Int64.not_le, -Int64.not_lt, i3lt, i6lt, nI_1]
        try simp (disch := omega) [-Prod.forall, -Prod.exists, -Prod.mk.injEq, -Int32.not_le, -Int32.not_lt, -Int64.not_le, -Int64.not_lt, i3lt, i6lt, nI_1]
        exact k1
      have hroom : jW g mX12_isCurrent (n + 16) post 34 [(0, .ref 322), (1, .int (nI is)), (2, .int (nI k))] [.int (qch (dC σ) (xl σ) (mN σ) k)] τ0 := by
        by_cases h1 : mD σ k 2 = qch (dC σ) (xl σ) (mN σ) k
        · by_cases h2 : 0 ≤ mD σ k 2
          · have h2' : 0 ≤ qch (dC σ) (xl σ) (mN σ) k := by rw [← h1]; exact h2
            have hs : (dC σ).isSome = true := by
              rcases hC0 : dC σ with _ | c
              · rw [hC0] at h2'; exact absurd h2' not_m1
              · rfl
            have e340 : τ0.1 340 k = mPy σ k := (hy0 hs k hk).2.2
            by_cases h3 : mD σ k 3 = mPy σ k
            · have yy := yes (by simp only [mCu, decide_eq_true_eq]; exact ⟨h1, fun _ => h3⟩)
              refine jvk_ok TX12_isCurrent (V := [(217, 1, 12, oX12_laysProposal), (128, 3, 12, oX12_of)]) (S := []) (List.forall_mem_cons.mpr ⟨⟨mX12_laysProposal, n + 15, 0, TX12, 53, rfl, by omega, kX12_217, WX12_laysProposal, rfl, CX12_laysProposal g (n)⟩, (List.forall_mem_cons.mpr ⟨⟨mX12_of, n + 1, 2, TX12, 53, rfl, by omega, kX12_128, WX12_of, rfl, CX12_of g (n)⟩, (fun _ h => absurd h List.not_mem_nil)⟩)⟩) (fun _ h => absurd h List.not_mem_nil) [12, 64, 66] 30 _ _ _ _ ?_
              simp (maxSteps := 1000000) [↓Bool.cond_eq_ite, -Prod.forall, -Prod.exists, -Prod.mk.injEq, jvk, tX12_isCurrent, jtb, jol, jst, jlk, jcmp, jbin, jfl, fX12, jc2, lX12, jcat, jel, lv_args, Value.category, jins, jsrt, jins2, jble, jblt, jf3, List.filter_cons, List.filter_nil, G_m, oX12_laysProposal, oX12_of, joR, joRII, -Int32.not_le, -Int32.not_lt, -Int64.not_le, -Int64.not_lt, i3lt, i6lt, e4, hlt, hk1, eck, emD, h1, h2', e340, h3, jin_c, tn_c]
              try simp (disch := omega) [-Prod.forall, -Prod.exists, -Prod.mk.injEq, -Int32.not_le, -Int32.not_lt, -Int64.not_le, -Int64.not_lt, i3lt, i6lt, e4, hlt, hk1, eck, emD, h1, h2', e340, h3, jin_c, tn_c]
              exact jW.mono yy (by simp)
            · have nn := no (by simp only [mCu, decide_eq_true_eq]; exact fun z => h3 (z.2 h2))
              refine jvk_ok TX12_isCurrent (V := [(217, 1, 12, oX12_laysProposal), (128, 3, 12, oX12_of)]) (S := []) (List.forall_mem_cons.mpr ⟨⟨mX12_laysProposal, n + 15, 0, TX12, 53, rfl, by omega, kX12_217, WX12_laysProposal, rfl, CX12_laysProposal g (n)⟩, (List.forall_mem_cons.mpr ⟨⟨mX12_of, n + 1, 2, TX12, 53, rfl, by omega, kX12_128, WX12_of, rfl, CX12_of g (n)⟩, (fun _ h => absurd h List.not_mem_nil)⟩)⟩) (fun _ h => absurd h List.not_mem_nil) [12, 64, 66] 30 _ _ _ _ ?_
              simp (maxSteps := 1000000) [↓Bool.cond_eq_ite, -Prod.forall, -Prod.exists, -Prod.mk.injEq, jvk, tX12_isCurrent, jtb, jol, jst, jlk, jcmp, jbin, jfl, fX12, jc2, lX12, jcat, jel, lv_args, Value.category, jins, jsrt, jins2, jble, jblt, jf3, List.filter_cons, List.filter_nil, G_m, oX12_laysProposal, oX12_of, joR, joRII, -Int32.not_le, -Int32.not_lt, -Int64.not_le, -Int64.not_lt, i3lt, i6lt, e4, hlt, hk1, eck, emD, h1, h2', e340, h3, jin_c, tn_c]
              try simp (disch := omega) [-Prod.forall, -Prod.exists, -Prod.mk.injEq, -Int32.not_le, -Int32.not_lt, -Int64.not_le, -Int64.not_lt, i3lt, i6lt, e4, hlt, hk1, eck, emD, h1, h2', e340, h3, jin_c, tn_c]
              exact jW.mono nn (by simp)
          · have h2' : ¬ 0 ≤ qch (dC σ) (xl σ) (mN σ) k := by rw [← h1]; exact h2
            have yy := yes (by simp only [mCu, decide_eq_true_eq]; exact ⟨h1, fun z => absurd z h2⟩)
            refine jvk_ok TX12_isCurrent (V := [(217, 1, 12, oX12_laysProposal), (128, 3, 12, oX12_of)]) (S := []) (List.forall_mem_cons.mpr ⟨⟨mX12_laysProposal, n + 15, 0, TX12, 53, rfl, by omega, kX12_217, WX12_laysProposal, rfl, CX12_laysProposal g (n)⟩, (List.forall_mem_cons.mpr ⟨⟨mX12_of, n + 1, 2, TX12, 53, rfl, by omega, kX12_128, WX12_of, rfl, CX12_of g (n)⟩, (fun _ h => absurd h List.not_mem_nil)⟩)⟩) (fun _ h => absurd h List.not_mem_nil) [12, 64, 66] 30 _ _ _ _ ?_
            simp (maxSteps := 1000000) [↓Bool.cond_eq_ite, -Prod.forall, -Prod.exists, -Prod.mk.injEq, jvk, tX12_isCurrent, jtb, jol, jst, jlk, jcmp, jbin, jfl, fX12, jc2, lX12, jcat, jel, lv_args, Value.category, jins, jsrt, jins2, jble, jblt, jf3, List.filter_cons, List.filter_nil, G_m, oX12_laysProposal, oX12_of, joR, joRII, -Int32.not_le, -Int32.not_lt, -Int64.not_le, -Int64.not_lt, i3lt, i6lt, e4, hlt, hk1, eck, emD, h1, h2', jin_c, tn_c]
            try simp (disch := omega) [-Prod.forall, -Prod.exists, -Prod.mk.injEq, -Int32.not_le, -Int32.not_lt, -Int64.not_le, -Int64.not_lt, i3lt, i6lt, e4, hlt, hk1, eck, emD, h1, h2', jin_c, tn_c]
            exact jW.mono yy (by simp)
        · have nn := no (by simp only [mCu, decide_eq_true_eq]; exact fun z => h1 z.1)
          refine jvk_ok TX12_isCurrent (V := [(217, 1, 12, oX12_laysProposal), (128, 3, 12, oX12_of)]) (S := []) (List.forall_mem_cons.mpr ⟨⟨mX12_laysProposal, n + 15, 0, TX12, 53, rfl, by omega, kX12_217, WX12_laysProposal, rfl, CX12_laysProposal g (n)⟩, (List.forall_mem_cons.mpr ⟨⟨mX12_of, n + 1, 2, TX12, 53, rfl, by omega, kX12_128, WX12_of, rfl, CX12_of g (n)⟩, (fun _ h => absurd h List.not_mem_nil)⟩)⟩) (fun _ h => absurd h List.not_mem_nil) [12, 64, 66] 30 _ _ _ _ ?_
          simp (maxSteps := 1000000) [↓Bool.cond_eq_ite, -Prod.forall, -Prod.exists, -Prod.mk.injEq, jvk, tX12_isCurrent, jtb, jol, jst, jlk, jcmp, jbin, jfl, fX12, jc2, lX12, jcat, jel, lv_args, Value.category, jins, jsrt, jins2, jble, jblt, jf3, List.filter_cons, List.filter_nil, G_m, oX12_laysProposal, oX12_of, joR, joRII, -Int32.not_le, -Int32.not_lt, -Int64.not_le, -Int64.not_lt, i3lt, i6lt, e4, hlt, hk1, eck, emD, h1, jin_c, tn_c]
          try simp (disch := omega) [-Prod.forall, -Prod.exists, -Prod.mk.injEq, -Int32.not_le, -Int32.not_lt, -Int64.not_le, -Int64.not_lt, i3lt, i6lt, e4, hlt, hk1, eck, emD, h1, jin_c, tn_c]
          exact jW.mono nn (by simp)
      rcases hC0 : dC σ with _ | c
      · have e0 : is = 0 := by rw [his, hC0]; rfl
        subst e0
        have q0 : qch (dC σ) (xl σ) (mN σ) k = -1 := by rw [hC0]; rfl
        rw [q0] at hroom
        have z0 : nI 0 = 0 := nI_0
        refine jvk_ok TX12_isCurrent (V := [(217, 1, 12, oX12_laysProposal), (128, 3, 12, oX12_of)]) (S := []) (List.forall_mem_cons.mpr ⟨⟨mX12_laysProposal, n + 15, 0, TX12, 53, rfl, by omega, kX12_217, WX12_laysProposal, rfl, CX12_laysProposal g (n)⟩, (List.forall_mem_cons.mpr ⟨⟨mX12_of, n + 1, 2, TX12, 53, rfl, by omega, kX12_128, WX12_of, rfl, CX12_of g (n)⟩, (fun _ h => absurd h List.not_mem_nil)⟩)⟩) (fun _ h => absurd h List.not_mem_nil) [12, 34] 30 _ _ _ _ ?_
        simp (maxSteps := 1000000) [↓Bool.cond_eq_ite, -Prod.forall, -Prod.exists, -Prod.mk.injEq, jvk, tX12_isCurrent, jtb, jol, jst, jlk, jcmp, jbin, jfl, fX12, jc2, lX12, jcat, jel, lv_args, Value.category, jins, jsrt, jins2, jble, jblt, jf3, List.filter_cons, List.filter_nil, G_m, oX12_laysProposal, oX12_of, joR, joRII, -Int32.not_le, -Int32.not_lt, -Int64.not_le, -Int64.not_lt, i3lt, i6lt, e4, hlt, z0]
        try simp (disch := omega) [-Prod.forall, -Prod.exists, -Prod.mk.injEq, -Int32.not_le, -Int32.not_lt, -Int64.not_le, -Int64.not_lt, i3lt, i6lt, e4, hlt, z0]
        rw [z0] at hroom
        exact hroom
      · have e0 : is = 1 := by rw [his, hC0]; rfl
        subst e0
        have z0 : ¬ nI 1 = 0 := by decide
        refine jvk_ok TX12_isCurrent (V := [(217, 1, 12, oX12_laysProposal), (128, 3, 12, oX12_of)]) (S := []) (List.forall_mem_cons.mpr ⟨⟨mX12_laysProposal, n + 15, 0, TX12, 53, rfl, by omega, kX12_217, WX12_laysProposal, rfl, CX12_laysProposal g (n)⟩, (List.forall_mem_cons.mpr ⟨⟨mX12_of, n + 1, 2, TX12, 53, rfl, by omega, kX12_128, WX12_of, rfl, CX12_of g (n)⟩, (fun _ h => absurd h List.not_mem_nil)⟩)⟩) (fun _ h => absurd h List.not_mem_nil) [12, 34] 30 _ _ _ _ ?_
        simp (maxSteps := 1000000) [↓Bool.cond_eq_ite, -Prod.forall, -Prod.exists, -Prod.mk.injEq, jvk, tX12_isCurrent, jtb, jol, jst, jlk, jcmp, jbin, jfl, fX12, jc2, lX12, jcat, jel, lv_args, Value.category, jins, jsrt, jins2, jble, jblt, jf3, List.filter_cons, List.filter_nil, G_m, oX12_laysProposal, oX12_of, joR, joRII, -Int32.not_le, -Int32.not_lt, -Int64.not_le, -Int64.not_lt, i3lt, i6lt, e4, hlt, z0, hk1, eck, e330]
        try simp (disch := omega) [-Prod.forall, -Prod.exists, -Prod.mk.injEq, -Int32.not_le, -Int32.not_lt, -Int64.not_le, -Int64.not_lt, i3lt, i6lt, e4, hlt, z0, hk1, eck, e330]
        exact hroom)
    rw [nI_0] at k0
    exact k0 rfl
  by_cases hs : (dC σ).isSome = true
  · have k1 := key 1 (by rw [if_pos hs])
    have z1 : nI 1 = 1 := rfl
    rw [z1] at k1
    refine jvk_ok TX12_isCurrent (V := [(217, 1, 12, oX12_laysProposal), (128, 3, 12, oX12_of)]) (S := []) (List.forall_mem_cons.mpr ⟨⟨mX12_laysProposal, n + 15, 0, TX12, 53, rfl, by omega, kX12_217, WX12_laysProposal, rfl, CX12_laysProposal g (n)⟩, (List.forall_mem_cons.mpr ⟨⟨mX12_of, n + 1, 2, TX12, 53, rfl, by omega, kX12_128, WX12_of, rfl, CX12_of g (n)⟩, (fun _ h => absurd h List.not_mem_nil)⟩)⟩) (fun _ h => absurd h List.not_mem_nil) [12] 10 _ _ _ _ ?_
    simp (maxSteps := 1000000) [↓Bool.cond_eq_ite, -Prod.forall, -Prod.exists, -Prod.mk.injEq, jvk, tX12_isCurrent, jtb, jol, jst, jlk, jcmp, jbin, jfl, fX12, jc2, lX12, jcat, jel, lv_args, Value.category, jins, jsrt, jins2, jble, jblt, jf3, List.filter_cons, List.filter_nil, G_m, oX12_laysProposal, oX12_of, joR, joRII, -Int32.not_le, -Int32.not_lt, -Int64.not_le, -Int64.not_lt, i3lt, i6lt, hs]
    try simp (disch := omega) [-Prod.forall, -Prod.exists, -Prod.mk.injEq, -Int32.not_le, -Int32.not_lt, -Int64.not_le, -Int64.not_lt, i3lt, i6lt, hs]
    exact k1
  · have k1 := key 0 (by rw [if_neg hs])
    rw [nI_0] at k1
    refine jvk_ok TX12_isCurrent (V := [(217, 1, 12, oX12_laysProposal), (128, 3, 12, oX12_of)]) (S := []) (List.forall_mem_cons.mpr ⟨⟨mX12_laysProposal, n + 15, 0, TX12, 53, rfl, by omega, kX12_217, WX12_laysProposal, rfl, CX12_laysProposal g (n)⟩, (List.forall_mem_cons.mpr ⟨⟨mX12_of, n + 1, 2, TX12, 53, rfl, by omega, kX12_128, WX12_of, rfl, CX12_of g (n)⟩, (fun _ h => absurd h List.not_mem_nil)⟩)⟩) (fun _ h => absurd h List.not_mem_nil) [12] 10 _ _ _ _ ?_
    simp (maxSteps := 1000000) [↓Bool.cond_eq_ite, -Prod.forall, -Prod.exists, -Prod.mk.injEq, jvk, tX12_isCurrent, jtb, jol, jst, jlk, jcmp, jbin, jfl, fX12, jc2, lX12, jcat, jel, lv_args, Value.category, jins, jsrt, jins2, jble, jblt, jf3, List.filter_cons, List.filter_nil, G_m, oX12_laysProposal, oX12_of, joR, joRII, -Int32.not_le, -Int32.not_lt, -Int64.not_le, -Int64.not_lt, i3lt, i6lt, hs]
    try simp (disch := omega) [-Prod.forall, -Prod.exists, -Prod.mk.injEq, -Int32.not_le, -Int32.not_lt, -Int64.not_le, -Int64.not_lt, i3lt, i6lt, hs]
    exact k1
/-! a row with a proposal as its division, for the first k -/
def agR (ch py f : Nat → Int32) (k : Nat) : Nat → Int32 := fun j => if j < 8 + 20 * k ∧ 8 ≤ j ∧ (j - 8) % 20 = 2 then (if ch ((j - 8) / 20) < 0 then -1 else ch ((j - 8) / 20)) else if j < 8 + 20 * k ∧ 8 ≤ j ∧ (j - 8) % 20 = 3 then (if ch ((j - 8) / 20) < 0 then 0 else py ((j - 8) / 20)) else f j
theorem agR_0 (ch py f : Nat → Int32) : agR ch py f 0 = f := by
  funext j
  unfold agR
  rw [if_neg (by omega), if_neg (by omega)]
theorem agR_at (ch py f : Nat → Int32) (k p w : Nat) (hw : w < 20) : agR ch py f k (8 + 20 * p + w) = if p < k ∧ w = 2 then (if ch p < 0 then -1 else ch p) else if p < k ∧ w = 3 then (if ch p < 0 then 0 else py p) else f (8 + 20 * p + w) := by
  have e1 : (8 + 20 * p + w - 8) % 20 = w := by omega
  have e2 : (8 + 20 * p + w - 8) / 20 = p := by omega
  have c2 : (8 + 20 * p + w < 8 + 20 * k ∧ 8 ≤ 8 + 20 * p + w ∧ w = 2) = (p < k ∧ w = 2) := propext ⟨fun z => ⟨by omega, z.2.2⟩, fun z => ⟨by omega, by omega, z.2⟩⟩
  have c3 : (8 + 20 * p + w < 8 + 20 * k ∧ 8 ≤ 8 + 20 * p + w ∧ w = 3) = (p < k ∧ w = 3) := propext ⟨fun z => ⟨by omega, z.2.2⟩, fun z => ⟨by omega, by omega, z.2⟩⟩
  unfold agR
  rw [e1, e2]
  simp only [c2, c3]
theorem agR_s (ch py f : Nat → Int32) (k : Nat) (j : Nat) : agR ch py f (k + 1) j = if j = 8 + 20 * k + 2 then (if ch k < 0 then -1 else ch k) else if j = 8 + 20 * k + 3 then (if ch k < 0 then 0 else py k) else agR ch py f k j := by
  by_cases e2 : j = 8 + 20 * k + 2
  · rw [if_pos e2, e2, agR_at ch py f (k + 1) k 2 (by decide)]
    simp
  · rw [if_neg e2]
    by_cases e3 : j = 8 + 20 * k + 3
    · rw [if_pos e3, e3, agR_at ch py f (k + 1) k 3 (by decide)]
      simp
    · rw [if_neg e3]
      have c2 : (j < 8 + 20 * (k + 1) ∧ 8 ≤ j ∧ (j - 8) % 20 = 2) = (j < 8 + 20 * k ∧ 8 ≤ j ∧ (j - 8) % 20 = 2) := propext ⟨fun z => ⟨by omega, z.2⟩, fun z => ⟨by omega, z.2⟩⟩
      have c3 : (j < 8 + 20 * (k + 1) ∧ 8 ≤ j ∧ (j - 8) % 20 = 3) = (j < 8 + 20 * k ∧ 8 ≤ j ∧ (j - 8) % 20 = 3) := propext ⟨fun z => ⟨by omega, z.2⟩, fun z => ⟨by omega, z.2⟩⟩
      unfold agR
      simp only [c2, c3]
/-- a state with another row -/
def rw3 (σ : jM) (f : Nat → Int32) : jM := (fun i j => if i = 323 then f j else σ.1 i j, σ.2)
theorem rw3_1 (σ : jM) (f : Nat → Int32) (i j : Nat) : (rw3 σ f).1 i j = if i = 323 then f j else σ.1 i j := rfl
theorem rw3_o (σ : jM) (f : Nat → Int32) {i : Nat} (h : i ≠ 323) (j : Nat) : (rw3 σ f).1 i j = σ.1 i j := by rw [rw3_1, if_neg h]
theorem rw3_r (σ : jM) (f : Nat → Int32) : (rw3 σ f).1 323 = f := by funext j; rw [rw3_1, if_pos rfl]
theorem rw3_self (σ : jM) : rw3 σ (σ.1 323) = σ := by
  unfold rw3
  have : (fun i j => if i = 323 then σ.1 323 j else σ.1 i j) = σ.1 := by
    funext i j
    by_cases e : i = 323
    · rw [if_pos e, e]
    · rw [if_neg e]
  rw [this]
theorem rw3_up (σ : jM) (f : Nat → Int32) (j : Nat) (x : Int32) : jup (rw3 σ f) 323 j x = rw3 σ (fun i => if i = j then x else f i) := by
  unfold jup rw3
  congr 1
  funext a i
  by_cases e : a = 323
  · subst e
    by_cases e2 : i = j
    · simp [e2]
    · simp [e2]
  · simp [e]
def agN (ch f : Nat → Int32) (k : Nat) : Nat := cn (fun p => decide (0 ≤ ch p ∧ ¬ ch p = f (8 + 20 * p + 2))) k
def oX12_agrees : jO := joR fun a σ => (a = 322 ∧ mOK σ, fun v τ => v = some (.int (nI (agN (σ.1 330) (σ.1 323) (mN σ)))) ∧ τ = rw3 σ (agR (σ.1 330) (σ.1 340) (σ.1 323) (mN σ)))
set_option maxRecDepth 100000 in
set_option maxHeartbeats 4000000 in
theorem CX12_agrees (g : jG) (n : Nat) : jOk g (n + 2) mX12_agrees oX12_agrees := by
  refine joR_ok ?_
  rintro _ σ ⟨rfl, hok⟩
  obtain ⟨hN10, hN4⟩ := mN_le hok
  refine jCon.ofP (by decide +kernel) (by simp [lg_sl, Value.category]) (fun post hp => ?_)
  refine jvk_ok TX12_agrees (V := [(128, 3, 12, oX12_of), (256, 2, 12, oX12_leaves)]) (S := [(124, 2, 0, oX12_place)]) (List.forall_mem_cons.mpr ⟨⟨mX12_of, n + 1, 2, TX12, 53, rfl, by omega, kX12_128, WX12_of, rfl, CX12_of g (n)⟩, (List.forall_mem_cons.mpr ⟨⟨mX12_leaves, n + 1, 1, TX12, 53, rfl, by omega, kX12_256, WX12_leaves, rfl, CX12_leaves g (n)⟩, (fun _ h => absurd h List.not_mem_nil)⟩)⟩) (List.forall_mem_cons.mpr ⟨⟨mX12_place, n + 0, by omega, Or.inl kX12_124, WX12_place, CX12_place g (n)⟩, (fun _ h => absurd h List.not_mem_nil)⟩) [4] 20 _ _ _ _ ?_
  simp (maxSteps := 1000000) [↓Bool.cond_eq_ite, -Prod.forall, -Prod.exists, -Prod.mk.injEq, jvk, tX12_agrees, jtb, jol, jst, jlk, jcmp, jbin, jfl, fX12, jc2, lX12, jcat, jel, lv_args, Value.category, jins, jsrt, jins2, jble, jblt, jf3, List.filter_cons, List.filter_nil, G_m, oX12_of, oX12_leaves, oX12_place, joII, joRI, joRII, -Int32.not_le, -Int32.not_lt, -Int64.not_le, -Int64.not_lt, i3lt, i6lt]
  try simp (disch := omega) [-Prod.forall, -Prod.exists, -Prod.mk.injEq, -Int32.not_le, -Int32.not_lt, -Int64.not_le, -Int64.not_lt, i3lt, i6lt]
  have key := jloop (P := fun k => jW g mX12_agrees (n + 2) post 4 [(0, .ref 322), (1, .int (nI (agN (σ.1 330) (σ.1 323) k))), (2, .int (nI k))] [] (rw3 σ (agR (σ.1 330) (σ.1 340) (σ.1 323) k))) (N := mN σ) (by
    have hle : nI (mN σ) ≤ nI (mN σ) := nI_le (Nat.le_refl _) (by omega)
    have e4 : (rw3 σ (agR (σ.1 330) (σ.1 340) (σ.1 323) (mN σ))).1 322 4 = nI (mN σ) := hN4
    refine jvk_ok TX12_agrees (V := [(128, 3, 12, oX12_of), (256, 2, 12, oX12_leaves)]) (S := [(124, 2, 0, oX12_place)]) (List.forall_mem_cons.mpr ⟨⟨mX12_of, n + 1, 2, TX12, 53, rfl, by omega, kX12_128, WX12_of, rfl, CX12_of g (n)⟩, (List.forall_mem_cons.mpr ⟨⟨mX12_leaves, n + 1, 1, TX12, 53, rfl, by omega, kX12_256, WX12_leaves, rfl, CX12_leaves g (n)⟩, (fun _ h => absurd h List.not_mem_nil)⟩)⟩) (List.forall_mem_cons.mpr ⟨⟨mX12_place, n + 0, by omega, Or.inl kX12_124, WX12_place, CX12_place g (n)⟩, (fun _ h => absurd h List.not_mem_nil)⟩) [4] 20 _ _ _ _ ?_
    simp (maxSteps := 1000000) [↓Bool.cond_eq_ite, -Prod.forall, -Prod.exists, -Prod.mk.injEq, jvk, tX12_agrees, jtb, jol, jst, jlk, jcmp, jbin, jfl, fX12, jc2, lX12, jcat, jel, lv_args, Value.category, jins, jsrt, jins2, jble, jblt, jf3, List.filter_cons, List.filter_nil, G_m, oX12_of, oX12_leaves, oX12_place, joII, joRI, joRII, -Int32.not_le, -Int32.not_lt, -Int64.not_le, -Int64.not_lt, i3lt, i6lt, e4, hle]
    try simp (disch := omega) [-Prod.forall, -Prod.exists, -Prod.mk.injEq, -Int32.not_le, -Int32.not_lt, -Int64.not_le, -Int64.not_lt, i3lt, i6lt, e4, hle]
    exact hp _ _ ⟨rfl, rfl⟩) (fun k hk ih => by
    have hlt : ¬ nI (mN σ) ≤ nI k := nI_ge hk (by omega)
    have hk1 : jin (nI k) 10 := jin_nI (by omega) (by decide)
    have eck : (nI k).toNatClampNeg = k := nI_clamp (by omega)
    obtain ⟨ρ, eρ⟩ : ∃ ρ, ρ = rw3 σ (agR (σ.1 330) (σ.1 340) (σ.1 323) k) := ⟨_, rfl⟩
    rw [← eρ]
    have e4 : ρ.1 322 4 = nI (mN σ) := by rw [eρ]; exact hN4
    have e330 : ρ.1 330 k = σ.1 330 k := by rw [eρ]; rfl
    have e340 : ρ.1 340 k = σ.1 340 k := by rw [eρ]; rfl
    have emD : mD ρ k 2 = σ.1 323 (8 + 20 * k + 2) := by
      rw [eρ]
      show agR _ _ _ _ _ = _
      rw [agR_at _ _ _ _ _ _ (by decide), if_neg (by omega), if_neg (by omega)]
    have hpl2 : jin (nI (8 + 20 * k + 2)) 208 ∧ (nI (8 + 20 * k + 2)).toNatClampNeg = 8 + 20 * k + 2 := jN_208 (by omega)
    have hpl3 : jin (nI (8 + 20 * k + 3)) 208 ∧ (nI (8 + 20 * k + 3)).toNatClampNeg = 8 + 20 * k + 3 := jN_208 (by omega)
    have em2 : mpl (nI k) 2 = 8 + 20 * k + 2 := by unfold mpl; rw [eck]; rfl
    have em3 : mpl (nI k) 3 = 8 + 20 * k + 3 := by unfold mpl; rw [eck]; rfl
    have eN1 : agN (σ.1 330) (σ.1 323) (k + 1) = agN (σ.1 330) (σ.1 323) k + if decide (0 ≤ σ.1 330 k ∧ ¬ σ.1 330 k = σ.1 323 (8 + 20 * k + 2)) = true then 1 else 0 := rfl
    rw [eN1] at ih
    by_cases h0 : 0 ≤ σ.1 330 k
    · have h0n : ¬ σ.1 330 k < 0 := by grind
      have eS : jup (jup (mLv ρ k) 323 (8 + 20 * k + 2) (σ.1 330 k)) 323 (8 + 20 * k + 3) (σ.1 340 k) = rw3 σ (agR (σ.1 330) (σ.1 340) (σ.1 323) (k + 1)) := by
        rw [eρ]
        unfold mLv
        rw [rw3_up, rw3_up, rw3_up, rw3_up]
        congr 1
        funext j
        rw [agR_s, if_neg h0n, if_neg h0n]
        by_cases e2 : j = 8 + 20 * k + 2
        · have e3 : ¬ j = 8 + 20 * k + 3 := by omega
          simp [e2]
        · by_cases e3 : j = 8 + 20 * k + 3
          · simp [e3]
          · simp [e2, e3]
      have em330 : (mLv ρ k).1 330 k = σ.1 330 k := by unfold mLv; rw [jup_1, if_neg (by omega), jup_1, if_neg (by omega)]; exact e330
      have em340 : ∀ x, (jup (mLv ρ k) 323 (8 + 20 * k + 2) x).1 340 k = σ.1 340 k := fun x => by rw [jup_1, if_neg (by omega)]; unfold mLv; rw [jup_1, if_neg (by omega), jup_1, if_neg (by omega)]; exact e340
      rw [← eS] at ih
      by_cases h1 : σ.1 330 k = σ.1 323 (8 + 20 * k + 2)
      · rw [if_neg (by simp [h1])] at ih
        refine jvk_ok TX12_agrees (V := [(128, 3, 12, oX12_of), (256, 2, 12, oX12_leaves)]) (S := [(124, 2, 0, oX12_place)]) (List.forall_mem_cons.mpr ⟨⟨mX12_of, n + 1, 2, TX12, 53, rfl, by omega, kX12_128, WX12_of, rfl, CX12_of g (n)⟩, (List.forall_mem_cons.mpr ⟨⟨mX12_leaves, n + 1, 1, TX12, 53, rfl, by omega, kX12_256, WX12_leaves, rfl, CX12_leaves g (n)⟩, (fun _ h => absurd h List.not_mem_nil)⟩)⟩) (List.forall_mem_cons.mpr ⟨⟨mX12_place, n + 0, by omega, Or.inl kX12_124, WX12_place, CX12_place g (n)⟩, (fun _ h => absurd h List.not_mem_nil)⟩) [4, 46] 40 _ _ _ _ ?_
        simp (maxSteps := 1000000) [↓Bool.cond_eq_ite, -Prod.forall, -Prod.exists, -Prod.mk.injEq, jvk, tX12_agrees, jtb, jol, jst, jlk, jcmp, jbin, jfl, fX12, jc2, lX12, jcat, jel, lv_args, Value.category, jins, jsrt, jins2, jble, jblt, jf3, List.filter_cons, List.filter_nil, G_m, oX12_of, oX12_leaves, oX12_place, joII, joRI, joRII, -Int32.not_le, -Int32.not_lt, -Int64.not_le, -Int64.not_lt, i3lt, i6lt, e4, hlt, hk1, eck, e330, h0, emD, h1.symm, jin_c, tn_c]
        try simp (disch := omega) [-Prod.forall, -Prod.exists, -Prod.mk.injEq, -Int32.not_le, -Int32.not_lt, -Int64.not_le, -Int64.not_lt, i3lt, i6lt, e4, hlt, hk1, eck, e330, h0, emD, h1.symm, jin_c, tn_c]
        refine jvk_ok TX12_agrees (V := [(128, 3, 12, oX12_of), (256, 2, 12, oX12_leaves)]) (S := [(124, 2, 0, oX12_place)]) (List.forall_mem_cons.mpr ⟨⟨mX12_of, n + 1, 2, TX12, 53, rfl, by omega, kX12_128, WX12_of, rfl, CX12_of g (n)⟩, (List.forall_mem_cons.mpr ⟨⟨mX12_leaves, n + 1, 1, TX12, 53, rfl, by omega, kX12_256, WX12_leaves, rfl, CX12_leaves g (n)⟩, (fun _ h => absurd h List.not_mem_nil)⟩)⟩) (List.forall_mem_cons.mpr ⟨⟨mX12_place, n + 0, by omega, Or.inl kX12_124, WX12_place, CX12_place g (n)⟩, (fun _ h => absurd h List.not_mem_nil)⟩) [4] 40 _ _ _ _ ?_
        simp (maxSteps := 1000000) [↓Bool.cond_eq_ite, -Prod.forall, -Prod.exists, -Prod.mk.injEq, jvk, tX12_agrees, jtb, jol, jst, jlk, jcmp, jbin, jfl, fX12, jc2, lX12, jcat, jel, lv_args, Value.category, jins, jsrt, jins2, jble, jblt, jf3, List.filter_cons, List.filter_nil, G_m, oX12_of, oX12_leaves, oX12_place, joII, joRI, joRII, -Int32.not_le, -Int32.not_lt, -Int64.not_le, -Int64.not_lt, i3lt, i6lt, hk1, eck, em330, em340, h0, h0n, em2, em3, hpl2, hpl3, jin_c, tn_c, nI_1]
        try simp (disch := omega) [-Prod.forall, -Prod.exists, -Prod.mk.injEq, -Int32.not_le, -Int32.not_lt, -Int64.not_le, -Int64.not_lt, i3lt, i6lt, hk1, eck, em330, em340, h0, h0n, em2, em3, hpl2, hpl3, jin_c, tn_c, nI_1]
        exact ih
      · rw [if_pos (by simp [h0, h1]), ← nI_1] at ih
        refine jvk_ok TX12_agrees (V := [(128, 3, 12, oX12_of), (256, 2, 12, oX12_leaves)]) (S := [(124, 2, 0, oX12_place)]) (List.forall_mem_cons.mpr ⟨⟨mX12_of, n + 1, 2, TX12, 53, rfl, by omega, kX12_128, WX12_of, rfl, CX12_of g (n)⟩, (List.forall_mem_cons.mpr ⟨⟨mX12_leaves, n + 1, 1, TX12, 53, rfl, by omega, kX12_256, WX12_leaves, rfl, CX12_leaves g (n)⟩, (fun _ h => absurd h List.not_mem_nil)⟩)⟩) (List.forall_mem_cons.mpr ⟨⟨mX12_place, n + 0, by omega, Or.inl kX12_124, WX12_place, CX12_place g (n)⟩, (fun _ h => absurd h List.not_mem_nil)⟩) [4, 46] 40 _ _ _ _ ?_
        simp (maxSteps := 1000000) [↓Bool.cond_eq_ite, -Prod.forall, -Prod.exists, -Prod.mk.injEq, jvk, tX12_agrees, jtb, jol, jst, jlk, jcmp, jbin, jfl, fX12, jc2, lX12, jcat, jel, lv_args, Value.category, jins, jsrt, jins2, jble, jblt, jf3, List.filter_cons, List.filter_nil, G_m, oX12_of, oX12_leaves, oX12_place, joII, joRI, joRII, -Int32.not_le, -Int32.not_lt, -Int64.not_le, -Int64.not_lt, i3lt, i6lt, e4, hlt, hk1, eck, e330, h0, emD, h1, jin_c, tn_c]
        try simp (disch := omega) [-Prod.forall, -Prod.exists, -Prod.mk.injEq, -Int32.not_le, -Int32.not_lt, -Int64.not_le, -Int64.not_lt, i3lt, i6lt, e4, hlt, hk1, eck, e330, h0, emD, h1, jin_c, tn_c]
        refine jvk_ok TX12_agrees (V := [(128, 3, 12, oX12_of), (256, 2, 12, oX12_leaves)]) (S := [(124, 2, 0, oX12_place)]) (List.forall_mem_cons.mpr ⟨⟨mX12_of, n + 1, 2, TX12, 53, rfl, by omega, kX12_128, WX12_of, rfl, CX12_of g (n)⟩, (List.forall_mem_cons.mpr ⟨⟨mX12_leaves, n + 1, 1, TX12, 53, rfl, by omega, kX12_256, WX12_leaves, rfl, CX12_leaves g (n)⟩, (fun _ h => absurd h List.not_mem_nil)⟩)⟩) (List.forall_mem_cons.mpr ⟨⟨mX12_place, n + 0, by omega, Or.inl kX12_124, WX12_place, CX12_place g (n)⟩, (fun _ h => absurd h List.not_mem_nil)⟩) [4] 40 _ _ _ _ ?_
        simp (maxSteps := 1000000) [↓Bool.cond_eq_ite, -Prod.forall, -Prod.exists, -Prod.mk.injEq, jvk, tX12_agrees, jtb, jol, jst, jlk, jcmp, jbin, jfl, fX12, jc2, lX12, jcat, jel, lv_args, Value.category, jins, jsrt, jins2, jble, jblt, jf3, List.filter_cons, List.filter_nil, G_m, oX12_of, oX12_leaves, oX12_place, joII, joRI, joRII, -Int32.not_le, -Int32.not_lt, -Int64.not_le, -Int64.not_lt, i3lt, i6lt, hk1, eck, em330, em340, h0, h0n, em2, em3, hpl2, hpl3, jin_c, tn_c, nI_1]
        try simp (disch := omega) [-Prod.forall, -Prod.exists, -Prod.mk.injEq, -Int32.not_le, -Int32.not_lt, -Int64.not_le, -Int64.not_lt, i3lt, i6lt, hk1, eck, em330, em340, h0, h0n, em2, em3, hpl2, hpl3, jin_c, tn_c, nI_1]
        simpa [nI_1] using ih
    · have h0n : σ.1 330 k < 0 := by grind
      have eS : mLv ρ k = rw3 σ (agR (σ.1 330) (σ.1 340) (σ.1 323) (k + 1)) := by
        rw [eρ]
        unfold mLv
        rw [rw3_up, rw3_up]
        congr 1
        funext j
        rw [agR_s, if_pos h0n, if_pos h0n]
        by_cases e2 : j = 8 + 20 * k + 2
        · have e3 : ¬ j = 8 + 20 * k + 3 := by omega
          simp [e2]
        · by_cases e3 : j = 8 + 20 * k + 3
          · simp [e3]
          · simp [e2, e3]
      have em330 : (mLv ρ k).1 330 k = σ.1 330 k := by unfold mLv; rw [jup_1, if_neg (by omega), jup_1, if_neg (by omega)]; exact e330
      rw [if_neg (by simp [h0])] at ih
      rw [← eS] at ih
      refine jvk_ok TX12_agrees (V := [(128, 3, 12, oX12_of), (256, 2, 12, oX12_leaves)]) (S := [(124, 2, 0, oX12_place)]) (List.forall_mem_cons.mpr ⟨⟨mX12_of, n + 1, 2, TX12, 53, rfl, by omega, kX12_128, WX12_of, rfl, CX12_of g (n)⟩, (List.forall_mem_cons.mpr ⟨⟨mX12_leaves, n + 1, 1, TX12, 53, rfl, by omega, kX12_256, WX12_leaves, rfl, CX12_leaves g (n)⟩, (fun _ h => absurd h List.not_mem_nil)⟩)⟩) (List.forall_mem_cons.mpr ⟨⟨mX12_place, n + 0, by omega, Or.inl kX12_124, WX12_place, CX12_place g (n)⟩, (fun _ h => absurd h List.not_mem_nil)⟩) [4, 46] 40 _ _ _ _ ?_
      simp (maxSteps := 1000000) [↓Bool.cond_eq_ite, -Prod.forall, -Prod.exists, -Prod.mk.injEq, jvk, tX12_agrees, jtb, jol, jst, jlk, jcmp, jbin, jfl, fX12, jc2, lX12, jcat, jel, lv_args, Value.category, jins, jsrt, jins2, jble, jblt, jf3, List.filter_cons, List.filter_nil, G_m, oX12_of, oX12_leaves, oX12_place, joII, joRI, joRII, -Int32.not_le, -Int32.not_lt, -Int64.not_le, -Int64.not_lt, i3lt, i6lt, e4, hlt, hk1, eck, e330, h0, h0n, emD, jin_c, tn_c]
      try simp (disch := omega) [-Prod.forall, -Prod.exists, -Prod.mk.injEq, -Int32.not_le, -Int32.not_lt, -Int64.not_le, -Int64.not_lt, i3lt, i6lt, e4, hlt, hk1, eck, e330, h0, h0n, emD, jin_c, tn_c]
      refine jvk_ok TX12_agrees (V := [(128, 3, 12, oX12_of), (256, 2, 12, oX12_leaves)]) (S := [(124, 2, 0, oX12_place)]) (List.forall_mem_cons.mpr ⟨⟨mX12_of, n + 1, 2, TX12, 53, rfl, by omega, kX12_128, WX12_of, rfl, CX12_of g (n)⟩, (List.forall_mem_cons.mpr ⟨⟨mX12_leaves, n + 1, 1, TX12, 53, rfl, by omega, kX12_256, WX12_leaves, rfl, CX12_leaves g (n)⟩, (fun _ h => absurd h List.not_mem_nil)⟩)⟩) (List.forall_mem_cons.mpr ⟨⟨mX12_place, n + 0, by omega, Or.inl kX12_124, WX12_place, CX12_place g (n)⟩, (fun _ h => absurd h List.not_mem_nil)⟩) [4] 40 _ _ _ _ ?_
      simp (maxSteps := 1000000) [↓Bool.cond_eq_ite, -Prod.forall, -Prod.exists, -Prod.mk.injEq, jvk, tX12_agrees, jtb, jol, jst, jlk, jcmp, jbin, jfl, fX12, jc2, lX12, jcat, jel, lv_args, Value.category, jins, jsrt, jins2, jble, jblt, jf3, List.filter_cons, List.filter_nil, G_m, oX12_of, oX12_leaves, oX12_place, joII, joRI, joRII, -Int32.not_le, -Int32.not_lt, -Int64.not_le, -Int64.not_lt, i3lt, i6lt, hk1, eck, em330, h0, h0n, jin_c, tn_c, nI_1]
      try simp (disch := omega) [-Prod.forall, -Prod.exists, -Prod.mk.injEq, -Int32.not_le, -Int32.not_lt, -Int64.not_le, -Int64.not_lt, i3lt, i6lt, hk1, eck, em330, h0, h0n, jin_c, tn_c, nI_1]
      simpa using ih)
  rw [nI_0] at key
  have e0 : agN (σ.1 330) (σ.1 323) 0 = 0 := rfl
  rw [e0, nI_0, agR_0, rw3_self] at key
  exact key
