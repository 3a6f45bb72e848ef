/-! Roster (cells 24 and 31): names and plans by month -/
theorem jup_s (σ : jM) (a k : Nat) (x : Int32) : (jup σ a k x).1 a k = x := by rw [jup_1, if_pos ⟨rfl, rfl⟩]
def oX7_findRoom : jO := joRII fun a x y σ => ((a = 24 ∨ a = 31) ∧ ∃ N, y = nI N ∧ N ≤ 6, fun v τ => v = some (.int (ff (fun k => decide (σ.1 (a + 1) k = x)) y.toNatClampNeg 0)) ∧ τ = σ)
set_option maxRecDepth 100000 in
set_option maxHeartbeats 4000000 in
theorem CX7_findRoom (g : jG) (n : Nat) : jOk g (n + 0) mX7_findRoom oX7_findRoom := by
  refine joRII_ok ?_
  rintro a x _ σ ⟨ha, N, rfl, hN⟩
  have ecN : (nI N).toNatClampNeg = N := nI_clamp (by omega)
  have main : ∀ b : Nat, (b = 24 ∨ b = 31) → ∀ post : Option Value → jM → Prop, (∀ v τ, v = some (.int (ff (fun k => decide (σ.1 (b + 1) k = x)) N 0)) ∧ τ = σ → post v τ) → jW g mX7_findRoom n post 0 (lv_args 0 [.ref b, .int x, .int (nI N)]) [] σ := by
    intro b hb post hp
    obtain ⟨F, eF⟩ : ∃ F, F = ff (fun k => decide (σ.1 (b + 1) k = x)) N 0 := ⟨_, rfl⟩
    rw [← eF] at hp
    rcases hb with rfl | rfl
    · have key := jloop (P := fun k => ff (fun k => decide (σ.1 (24 + 1) k = x)) (N - k) k = F → jW g mX7_findRoom n post 2 [(0, .ref 24), (1, .int x), (2, .int (nI N)), (3, .int (nI k))] [] σ) (N := N) (fun e => by
        rw [Nat.sub_self] at e
        have hle : nI N ≤ nI N := nI_le (Nat.le_refl _) (by omega)
        refine jvk_ok TX7_findRoom (V := []) (S := []) (fun _ h => absurd h List.not_mem_nil) (fun _ h => absurd h List.not_mem_nil) [2] 30 _ _ _ _ ?_
        simp (maxSteps := 1000000) [↓Bool.cond_eq_ite, -Prod.forall, -Prod.exists, -Prod.mk.injEq, jvk, tX7_findRoom, jtb, jol, jst, jlk, jcmp, jbin, jfl, fX7, jc2, lX7, jcat, jel, lv_args, Value.category, jins, jsrt, jins2, jble, jblt, jf3, List.filter_cons, List.filter_nil, G_roster, G_lroster, -Int32.not_le, -Int32.not_lt, -Int64.not_le, -Int64.not_lt, i3lt, i6lt, hle]
        try simp (disch := omega) [-Prod.forall, -Prod.exists, -Prod.mk.injEq, -Int32.not_le, -Int32.not_lt, -Int64.not_le, -Int64.not_lt, i3lt, i6lt, hle]
        exact hp _ _ ⟨by rw [← e]; rfl, rfl⟩) (fun k hk ih e => by
        have hlt : ¬ nI N ≤ nI k := nI_ge hk (by omega)
        have h6 : ¬ (6 : Int32) ≤ nI k := nI_ge (b := 6) (by omega) (by decide)
        have jk : jin (nI k) 6 ∧ (nI k).toNatClampNeg = k := ⟨jin_nI (by omega) (by decide), nI_clamp (by omega)⟩
        rw [show N - k = (N - (k + 1)) + 1 by omega] at e
        simp only [ff, decide_eq_true_eq] at e
        by_cases c : σ.1 25 k = x
        · rw [if_pos c] at e
          refine jvk_ok TX7_findRoom (V := []) (S := []) (fun _ h => absurd h List.not_mem_nil) (fun _ h => absurd h List.not_mem_nil) [2] 30 _ _ _ _ ?_
          simp (maxSteps := 1000000) [↓Bool.cond_eq_ite, -Prod.forall, -Prod.exists, -Prod.mk.injEq, jvk, tX7_findRoom, jtb, jol, jst, jlk, jcmp, jbin, jfl, fX7, jc2, lX7, jcat, jel, lv_args, Value.category, jins, jsrt, jins2, jble, jblt, jf3, List.filter_cons, List.filter_nil, G_roster, G_lroster, -Int32.not_le, -Int32.not_lt, -Int64.not_le, -Int64.not_lt, i3lt, i6lt, hlt, h6, jk, c]
          try simp (disch := omega) [-Prod.forall, -Prod.exists, -Prod.mk.injEq, -Int32.not_le, -Int32.not_lt, -Int64.not_le, -Int64.not_lt, i3lt, i6lt, hlt, h6, jk, c]
          exact hp _ _ ⟨by rw [← e], rfl⟩
        · rw [if_neg c] at e
          have k1 := ih e
          refine jvk_ok TX7_findRoom (V := []) (S := []) (fun _ h => absurd h List.not_mem_nil) (fun _ h => absurd h List.not_mem_nil) [2] 30 _ _ _ _ ?_
          simp (maxSteps := 1000000) [↓Bool.cond_eq_ite, -Prod.forall, -Prod.exists, -Prod.mk.injEq, jvk, tX7_findRoom, jtb, jol, jst, jlk, jcmp, jbin, jfl, fX7, jc2, lX7, jcat, jel, lv_args, Value.category, jins, jsrt, jins2, jble, jblt, jf3, List.filter_cons, List.filter_nil, G_roster, G_lroster, -Int32.not_le, -Int32.not_lt, -Int64.not_le, -Int64.not_lt, i3lt, i6lt, hlt, h6, jk, c, nI_1]
          try simp (disch := omega) [-Prod.forall, -Prod.exists, -Prod.mk.injEq, -Int32.not_le, -Int32.not_lt, -Int64.not_le, -Int64.not_lt, i3lt, i6lt, hlt, h6, jk, c, nI_1]
          exact k1)
      rw [nI_0] at key
      have k1 := key eF.symm
      refine jvk_ok TX7_findRoom (V := []) (S := []) (fun _ h => absurd h List.not_mem_nil) (fun _ h => absurd h List.not_mem_nil) [2] 10 _ _ _ _ ?_
      simp (maxSteps := 1000000) [↓Bool.cond_eq_ite, -Prod.forall, -Prod.exists, -Prod.mk.injEq, jvk, tX7_findRoom, jtb, jol, jst, jlk, jcmp, jbin, jfl, fX7, jc2, lX7, jcat, jel, lv_args, Value.category, jins, jsrt, jins2, jble, jblt, jf3, List.filter_cons, List.filter_nil, G_roster, G_lroster, -Int32.not_le, -Int32.not_lt, -Int64.not_le, -Int64.not_lt, i3lt, i6lt]
      try simp (disch := omega) [-Prod.forall, -Prod.exists, -Prod.mk.injEq, -Int32.not_le, -Int32.not_lt, -Int64.not_le, -Int64.not_lt, i3lt, i6lt]
      exact k1
    · have key := jloop (P := fun k => ff (fun k => decide (σ.1 (31 + 1) k = x)) (N - k) k = F → jW g mX7_findRoom n post 2 [(0, .ref 31), (1, .int x), (2, .int (nI N)), (3, .int (nI k))] [] σ) (N := N) (fun e => by
        rw [Nat.sub_self] at e
        have hle : nI N ≤ nI N := nI_le (Nat.le_refl _) (by omega)
        refine jvk_ok TX7_findRoom (V := []) (S := []) (fun _ h => absurd h List.not_mem_nil) (fun _ h => absurd h List.not_mem_nil) [2] 30 _ _ _ _ ?_
        simp (maxSteps := 1000000) [↓Bool.cond_eq_ite, -Prod.forall, -Prod.exists, -Prod.mk.injEq, jvk, tX7_findRoom, jtb, jol, jst, jlk, jcmp, jbin, jfl, fX7, jc2, lX7, jcat, jel, lv_args, Value.category, jins, jsrt, jins2, jble, jblt, jf3, List.filter_cons, List.filter_nil, G_roster, G_lroster, -Int32.not_le, -Int32.not_lt, -Int64.not_le, -Int64.not_lt, i3lt, i6lt, hle]
        try simp (disch := omega) [-Prod.forall, -Prod.exists, -Prod.mk.injEq, -Int32.not_le, -Int32.not_lt, -Int64.not_le, -Int64.not_lt, i3lt, i6lt, hle]
        exact hp _ _ ⟨by rw [← e]; rfl, rfl⟩) (fun k hk ih e => by
        have hlt : ¬ nI N ≤ nI k := nI_ge hk (by omega)
        have h6 : ¬ (6 : Int32) ≤ nI k := nI_ge (b := 6) (by omega) (by decide)
        have jk : jin (nI k) 6 ∧ (nI k).toNatClampNeg = k := ⟨jin_nI (by omega) (by decide), nI_clamp (by omega)⟩
        rw [show N - k = (N - (k + 1)) + 1 by omega] at e
        simp only [ff, decide_eq_true_eq] at e
        by_cases c : σ.1 32 k = x
        · rw [if_pos c] at e
          refine jvk_ok TX7_findRoom (V := []) (S := []) (fun _ h => absurd h List.not_mem_nil) (fun _ h => absurd h List.not_mem_nil) [2] 30 _ _ _ _ ?_
          simp (maxSteps := 1000000) [↓Bool.cond_eq_ite, -Prod.forall, -Prod.exists, -Prod.mk.injEq, jvk, tX7_findRoom, jtb, jol, jst, jlk, jcmp, jbin, jfl, fX7, jc2, lX7, jcat, jel, lv_args, Value.category, jins, jsrt, jins2, jble, jblt, jf3, List.filter_cons, List.filter_nil, G_roster, G_lroster, -Int32.not_le, -Int32.not_lt, -Int64.not_le, -Int64.not_lt, i3lt, i6lt, hlt, h6, jk, c]
          try simp (disch := omega) [-Prod.forall, -Prod.exists, -Prod.mk.injEq, -Int32.not_le, -Int32.not_lt, -Int64.not_le, -Int64.not_lt, i3lt, i6lt, hlt, h6, jk, c]
          exact hp _ _ ⟨by rw [← e], rfl⟩
        · rw [if_neg c] at e
          have k1 := ih e
          refine jvk_ok TX7_findRoom (V := []) (S := []) (fun _ h => absurd h List.not_mem_nil) (fun _ h => absurd h List.not_mem_nil) [2] 30 _ _ _ _ ?_
          simp (maxSteps := 1000000) [↓Bool.cond_eq_ite, -Prod.forall, -Prod.exists, -Prod.mk.injEq, jvk, tX7_findRoom, jtb, jol, jst, jlk, jcmp, jbin, jfl, fX7, jc2, lX7, jcat, jel, lv_args, Value.category, jins, jsrt, jins2, jble, jblt, jf3, List.filter_cons, List.filter_nil, G_roster, G_lroster, -Int32.not_le, -Int32.not_lt, -Int64.not_le, -Int64.not_lt, i3lt, i6lt, hlt, h6, jk, c, nI_1]
          try simp (disch := omega) [-Prod.forall, -Prod.exists, -Prod.mk.injEq, -Int32.not_le, -Int32.not_lt, -Int64.not_le, -Int64.not_lt, i3lt, i6lt, hlt, h6, jk, c, nI_1]
          exact k1)
      rw [nI_0] at key
      have k1 := key eF.symm
      refine jvk_ok TX7_findRoom (V := []) (S := []) (fun _ h => absurd h List.not_mem_nil) (fun _ h => absurd h List.not_mem_nil) [2] 10 _ _ _ _ ?_
      simp (maxSteps := 1000000) [↓Bool.cond_eq_ite, -Prod.forall, -Prod.exists, -Prod.mk.injEq, jvk, tX7_findRoom, jtb, jol, jst, jlk, jcmp, jbin, jfl, fX7, jc2, lX7, jcat, jel, lv_args, Value.category, jins, jsrt, jins2, jble, jblt, jf3, List.filter_cons, List.filter_nil, G_roster, G_lroster, -Int32.not_le, -Int32.not_lt, -Int64.not_le, -Int64.not_lt, i3lt, i6lt]
      try simp (disch := omega) [-Prod.forall, -Prod.exists, -Prod.mk.injEq, -Int32.not_le, -Int32.not_lt, -Int64.not_le, -Int64.not_lt, i3lt, i6lt]
      exact k1
  refine jCon.ofP (by decide +kernel) (by simp [lg_sl, Value.category]) (fun post hp => main a ha post (fun v τ q => hp v τ (by rw [ecN]; exact q)))
def oX7_findPerson : jO := joRII fun a x y σ => ((a = 24 ∨ a = 31) ∧ ∃ N, y = nI N ∧ N ≤ 10, fun v τ => v = some (.int (ff (fun k => decide (σ.1 (a + 2) k = x)) y.toNatClampNeg 0)) ∧ τ = σ)
set_option maxRecDepth 100000 in
set_option maxHeartbeats 4000000 in
theorem CX7_findPerson (g : jG) (n : Nat) : jOk g (n + 0) mX7_findPerson oX7_findPerson := by
  refine joRII_ok ?_
  rintro a x _ σ ⟨ha, N, rfl, hN⟩
  have ecN : (nI N).toNatClampNeg = N := nI_clamp (by omega)
  have main : ∀ b : Nat, (b = 24 ∨ b = 31) → ∀ post : Option Value → jM → Prop, (∀ v τ, v = some (.int (ff (fun k => decide (σ.1 (b + 2) k = x)) N 0)) ∧ τ = σ → post v τ) → jW g mX7_findPerson n post 0 (lv_args 0 [.ref b, .int x, .int (nI N)]) [] σ := by
    intro b hb post hp
    obtain ⟨F, eF⟩ : ∃ F, F = ff (fun k => decide (σ.1 (b + 2) k = x)) N 0 := ⟨_, rfl⟩
    rw [← eF] at hp
    rcases hb with rfl | rfl
    · have key := jloop (P := fun k => ff (fun k => decide (σ.1 (24 + 2) k = x)) (N - k) k = F → jW g mX7_findPerson n post 2 [(0, .ref 24), (1, .int x), (2, .int (nI N)), (3, .int (nI k))] [] σ) (N := N) (fun e => by
        rw [Nat.sub_self] at e
        have hle : nI N ≤ nI N := nI_le (Nat.le_refl _) (by omega)
        refine jvk_ok TX7_findPerson (V := []) (S := []) (fun _ h => absurd h List.not_mem_nil) (fun _ h => absurd h List.not_mem_nil) [2] 30 _ _ _ _ ?_
        simp (maxSteps := 1000000) [↓Bool.cond_eq_ite, -Prod.forall, -Prod.exists, -Prod.mk.injEq, jvk, tX7_findPerson, jtb, jol, jst, jlk, jcmp, jbin, jfl, fX7, jc2, lX7, jcat, jel, lv_args, Value.category, jins, jsrt, jins2, jble, jblt, jf3, List.filter_cons, List.filter_nil, G_roster, G_lroster, -Int32.not_le, -Int32.not_lt, -Int64.not_le, -Int64.not_lt, i3lt, i6lt, hle]
        try simp (disch := omega) [-Prod.forall, -Prod.exists, -Prod.mk.injEq, -Int32.not_le, -Int32.not_lt, -Int64.not_le, -Int64.not_lt, i3lt, i6lt, hle]
        exact hp _ _ ⟨by rw [← e]; rfl, rfl⟩) (fun k hk ih e => by
        have hlt : ¬ nI N ≤ nI k := nI_ge hk (by omega)
        have h6 : ¬ (10 : Int32) ≤ nI k := nI_ge (b := 10) (by omega) (by decide)
        have jk : jin (nI k) 10 ∧ (nI k).toNatClampNeg = k := ⟨jin_nI (by omega) (by decide), nI_clamp (by omega)⟩
        rw [show N - k = (N - (k + 1)) + 1 by omega] at e
        simp only [ff, decide_eq_true_eq] at e
        by_cases c : σ.1 26 k = x
        · rw [if_pos c] at e
          refine jvk_ok TX7_findPerson (V := []) (S := []) (fun _ h => absurd h List.not_mem_nil) (fun _ h => absurd h List.not_mem_nil) [2] 30 _ _ _ _ ?_
          simp (maxSteps := 1000000) [↓Bool.cond_eq_ite, -Prod.forall, -Prod.exists, -Prod.mk.injEq, jvk, tX7_findPerson, jtb, jol, jst, jlk, jcmp, jbin, jfl, fX7, jc2, lX7, jcat, jel, lv_args, Value.category, jins, jsrt, jins2, jble, jblt, jf3, List.filter_cons, List.filter_nil, G_roster, G_lroster, -Int32.not_le, -Int32.not_lt, -Int64.not_le, -Int64.not_lt, i3lt, i6lt, hlt, h6, jk, c]
          try simp (disch := omega) [-Prod.forall, -Prod.exists, -Prod.mk.injEq, -Int32.not_le, -Int32.not_lt, -Int64.not_le, -Int64.not_lt, i3lt, i6lt, hlt, h6, jk, c]
          exact hp _ _ ⟨by rw [← e], rfl⟩
        · rw [if_neg c] at e
          have k1 := ih e
          refine jvk_ok TX7_findPerson (V := []) (S := []) (fun _ h => absurd h List.not_mem_nil) (fun _ h => absurd h List.not_mem_nil) [2] 30 _ _ _ _ ?_
          simp (maxSteps := 1000000) [↓Bool.cond_eq_ite, -Prod.forall, -Prod.exists, -Prod.mk.injEq, jvk, tX7_findPerson, jtb, jol, jst, jlk, jcmp, jbin, jfl, fX7, jc2, lX7, jcat, jel, lv_args, Value.category, jins, jsrt, jins2, jble, jblt, jf3, List.filter_cons, List.filter_nil, G_roster, G_lroster, -Int32.not_le, -Int32.not_lt, -Int64.not_le, -Int64.not_lt, i3lt, i6lt, hlt, h6, jk, c, nI_1]
          try simp (disch := omega) [-Prod.forall, -Prod.exists, -Prod.mk.injEq, -Int32.not_le, -Int32.not_lt, -Int64.not_le, -Int64.not_lt, i3lt, i6lt, hlt, h6, jk, c, nI_1]
          exact k1)
      rw [nI_0] at key
      have k1 := key eF.symm
      refine jvk_ok TX7_findPerson (V := []) (S := []) (fun _ h => absurd h List.not_mem_nil) (fun _ h => absurd h List.not_mem_nil) [2] 10 _ _ _ _ ?_
      simp (maxSteps := 1000000) [↓Bool.cond_eq_ite, -Prod.forall, -Prod.exists, -Prod.mk.injEq, jvk, tX7_findPerson, jtb, jol, jst, jlk, jcmp, jbin, jfl, fX7, jc2, lX7, jcat, jel, lv_args, Value.category, jins, jsrt, jins2, jble, jblt, jf3, List.filter_cons, List.filter_nil, G_roster, G_lroster, -Int32.not_le, -Int32.not_lt, -Int64.not_le, -Int64.not_lt, i3lt, i6lt]
      try simp (disch := omega) [-Prod.forall, -Prod.exists, -Prod.mk.injEq, -Int32.not_le, -Int32.not_lt, -Int64.not_le, -Int64.not_lt, i3lt, i6lt]
      exact k1
    · have key := jloop (P := fun k => ff (fun k => decide (σ.1 (31 + 2) k = x)) (N - k) k = F → jW g mX7_findPerson n post 2 [(0, .ref 31), (1, .int x), (2, .int (nI N)), (3, .int (nI k))] [] σ) (N := N) (fun e => by
        rw [Nat.sub_self] at e
        have hle : nI N ≤ nI N := nI_le (Nat.le_refl _) (by omega)
        refine jvk_ok TX7_findPerson (V := []) (S := []) (fun _ h => absurd h List.not_mem_nil) (fun _ h => absurd h List.not_mem_nil) [2] 30 _ _ _ _ ?_
        simp (maxSteps := 1000000) [↓Bool.cond_eq_ite, -Prod.forall, -Prod.exists, -Prod.mk.injEq, jvk, tX7_findPerson, jtb, jol, jst, jlk, jcmp, jbin, jfl, fX7, jc2, lX7, jcat, jel, lv_args, Value.category, jins, jsrt, jins2, jble, jblt, jf3, List.filter_cons, List.filter_nil, G_roster, G_lroster, -Int32.not_le, -Int32.not_lt, -Int64.not_le, -Int64.not_lt, i3lt, i6lt, hle]
        try simp (disch := omega) [-Prod.forall, -Prod.exists, -Prod.mk.injEq, -Int32.not_le, -Int32.not_lt, -Int64.not_le, -Int64.not_lt, i3lt, i6lt, hle]
        exact hp _ _ ⟨by rw [← e]; rfl, rfl⟩) (fun k hk ih e => by
        have hlt : ¬ nI N ≤ nI k := nI_ge hk (by omega)
        have h6 : ¬ (10 : Int32) ≤ nI k := nI_ge (b := 10) (by omega) (by decide)
        have jk : jin (nI k) 10 ∧ (nI k).toNatClampNeg = k := ⟨jin_nI (by omega) (by decide), nI_clamp (by omega)⟩
        rw [show N - k = (N - (k + 1)) + 1 by omega] at e
        simp only [ff, decide_eq_true_eq] at e
        by_cases c : σ.1 33 k = x
        · rw [if_pos c] at e
          refine jvk_ok TX7_findPerson (V := []) (S := []) (fun _ h => absurd h List.not_mem_nil) (fun _ h => absurd h List.not_mem_nil) [2] 30 _ _ _ _ ?_
          simp (maxSteps := 1000000) [↓Bool.cond_eq_ite, -Prod.forall, -Prod.exists, -Prod.mk.injEq, jvk, tX7_findPerson, jtb, jol, jst, jlk, jcmp, jbin, jfl, fX7, jc2, lX7, jcat, jel, lv_args, Value.category, jins, jsrt, jins2, jble, jblt, jf3, List.filter_cons, List.filter_nil, G_roster, G_lroster, -Int32.not_le, -Int32.not_lt, -Int64.not_le, -Int64.not_lt, i3lt, i6lt, hlt, h6, jk, c]
          try simp (disch := omega) [-Prod.forall, -Prod.exists, -Prod.mk.injEq, -Int32.not_le, -Int32.not_lt, -Int64.not_le, -Int64.not_lt, i3lt, i6lt, hlt, h6, jk, c]
          exact hp _ _ ⟨by rw [← e], rfl⟩
        · rw [if_neg c] at e
          have k1 := ih e
          refine jvk_ok TX7_findPerson (V := []) (S := []) (fun _ h => absurd h List.not_mem_nil) (fun _ h => absurd h List.not_mem_nil) [2] 30 _ _ _ _ ?_
          simp (maxSteps := 1000000) [↓Bool.cond_eq_ite, -Prod.forall, -Prod.exists, -Prod.mk.injEq, jvk, tX7_findPerson, jtb, jol, jst, jlk, jcmp, jbin, jfl, fX7, jc2, lX7, jcat, jel, lv_args, Value.category, jins, jsrt, jins2, jble, jblt, jf3, List.filter_cons, List.filter_nil, G_roster, G_lroster, -Int32.not_le, -Int32.not_lt, -Int64.not_le, -Int64.not_lt, i3lt, i6lt, hlt, h6, jk, c, nI_1]
          try simp (disch := omega) [-Prod.forall, -Prod.exists, -Prod.mk.injEq, -Int32.not_le, -Int32.not_lt, -Int64.not_le, -Int64.not_lt, i3lt, i6lt, hlt, h6, jk, c, nI_1]
          exact k1)
      rw [nI_0] at key
      have k1 := key eF.symm
      refine jvk_ok TX7_findPerson (V := []) (S := []) (fun _ h => absurd h List.not_mem_nil) (fun _ h => absurd h List.not_mem_nil) [2] 10 _ _ _ _ ?_
      simp (maxSteps := 1000000) [↓Bool.cond_eq_ite, -Prod.forall, -Prod.exists, -Prod.mk.injEq, jvk, tX7_findPerson, jtb, jol, jst, jlk, jcmp, jbin, jfl, fX7, jc2, lX7, jcat, jel, lv_args, Value.category, jins, jsrt, jins2, jble, jblt, jf3, List.filter_cons, List.filter_nil, G_roster, G_lroster, -Int32.not_le, -Int32.not_lt, -Int64.not_le, -Int64.not_lt, i3lt, i6lt]
      try simp (disch := omega) [-Prod.forall, -Prod.exists, -Prod.mk.injEq, -Int32.not_le, -Int32.not_lt, -Int64.not_le, -Int64.not_lt, i3lt, i6lt]
      exact k1
  refine jCon.ofP (by decide +kernel) (by simp [lg_sl, Value.category]) (fun post hp => main a ha post (fun v τ q => hp v τ (by rw [ecN]; exact q)))
def oX7_nameRoom : jO := joRII fun a x y σ => ((a = 24 ∨ a = 31) ∧ jin x 6, fun v τ => v = none ∧ τ = jup σ (a + 1) x.toNatClampNeg y)
set_option maxRecDepth 100000 in
set_option maxHeartbeats 4000000 in
theorem CX7_nameRoom (g : jG) (n : Nat) : jOk g (n + 0) mX7_nameRoom oX7_nameRoom := by
  refine joRII_ok ?_
  rintro a x y σ ⟨ha, hx⟩
  have x0 : ¬ x < 0 := by rw [(tn_nI hx).1]; exact nI_pos (tn_nI hx).2.2
  have x1 : ¬ (6 : Int32) ≤ x := by rw [(tn_nI hx).1]; exact nI_ge (b := 6) (jin_lt hx) (by decide)
  rcases ha with rfl | rfl
  · refine jCon.ofP (by decide +kernel) (by simp [lg_sl, Value.category]) (fun post hp => ?_)
    refine jvk_ok TX7_nameRoom (V := []) (S := []) (fun _ h => absurd h List.not_mem_nil) (fun _ h => absurd h List.not_mem_nil) [] 30 _ _ _ _ ?_
    simp (maxSteps := 1000000) [↓Bool.cond_eq_ite, -Prod.forall, -Prod.exists, -Prod.mk.injEq, jvk, tX7_nameRoom, jtb, jol, jst, jlk, jcmp, jbin, jfl, fX7, jc2, lX7, jcat, jel, lv_args, Value.category, jins, jsrt, jins2, jble, jblt, jf3, List.filter_cons, List.filter_nil, G_roster, G_lroster, -Int32.not_le, -Int32.not_lt, -Int64.not_le, -Int64.not_lt, i3lt, i6lt, x0, x1, hx]
    try simp (disch := omega) [-Prod.forall, -Prod.exists, -Prod.mk.injEq, -Int32.not_le, -Int32.not_lt, -Int64.not_le, -Int64.not_lt, i3lt, i6lt, x0, x1, hx]
    exact hp _ _ ⟨rfl, rfl⟩
  · refine jCon.ofP (by decide +kernel) (by simp [lg_sl, Value.category]) (fun post hp => ?_)
    refine jvk_ok TX7_nameRoom (V := []) (S := []) (fun _ h => absurd h List.not_mem_nil) (fun _ h => absurd h List.not_mem_nil) [] 30 _ _ _ _ ?_
    simp (maxSteps := 1000000) [↓Bool.cond_eq_ite, -Prod.forall, -Prod.exists, -Prod.mk.injEq, jvk, tX7_nameRoom, jtb, jol, jst, jlk, jcmp, jbin, jfl, fX7, jc2, lX7, jcat, jel, lv_args, Value.category, jins, jsrt, jins2, jble, jblt, jf3, List.filter_cons, List.filter_nil, G_roster, G_lroster, -Int32.not_le, -Int32.not_lt, -Int64.not_le, -Int64.not_lt, i3lt, i6lt, x0, x1, hx]
    try simp (disch := omega) [-Prod.forall, -Prod.exists, -Prod.mk.injEq, -Int32.not_le, -Int32.not_lt, -Int64.not_le, -Int64.not_lt, i3lt, i6lt, x0, x1, hx]
    exact hp _ _ ⟨rfl, rfl⟩
def oX7_namePerson : jO := joRII fun a x y σ => ((a = 24 ∨ a = 31) ∧ jin x 10, fun v τ => v = none ∧ τ = jup σ (a + 2) x.toNatClampNeg y)
set_option maxRecDepth 100000 in
set_option maxHeartbeats 4000000 in
theorem CX7_namePerson (g : jG) (n : Nat) : jOk g (n + 0) mX7_namePerson oX7_namePerson := by
  refine joRII_ok ?_
  rintro a x y σ ⟨ha, hx⟩
  have x0 : ¬ x < 0 := by rw [(tn_nI hx).1]; exact nI_pos (tn_nI hx).2.2
  have x1 : ¬ (10 : Int32) ≤ x := by rw [(tn_nI hx).1]; exact nI_ge (b := 10) (jin_lt hx) (by decide)
  rcases ha with rfl | rfl
  · refine jCon.ofP (by decide +kernel) (by simp [lg_sl, Value.category]) (fun post hp => ?_)
    refine jvk_ok TX7_namePerson (V := []) (S := []) (fun _ h => absurd h List.not_mem_nil) (fun _ h => absurd h List.not_mem_nil) [] 30 _ _ _ _ ?_
    simp (maxSteps := 1000000) [↓Bool.cond_eq_ite, -Prod.forall, -Prod.exists, -Prod.mk.injEq, jvk, tX7_namePerson, jtb, jol, jst, jlk, jcmp, jbin, jfl, fX7, jc2, lX7, jcat, jel, lv_args, Value.category, jins, jsrt, jins2, jble, jblt, jf3, List.filter_cons, List.filter_nil, G_roster, G_lroster, -Int32.not_le, -Int32.not_lt, -Int64.not_le, -Int64.not_lt, i3lt, i6lt, x0, x1, hx]
    try simp (disch := omega) [-Prod.forall, -Prod.exists, -Prod.mk.injEq, -Int32.not_le, -Int32.not_lt, -Int64.not_le, -Int64.not_lt, i3lt, i6lt, x0, x1, hx]
    exact hp _ _ ⟨rfl, rfl⟩
  · refine jCon.ofP (by decide +kernel) (by simp [lg_sl, Value.category]) (fun post hp => ?_)
    refine jvk_ok TX7_namePerson (V := []) (S := []) (fun _ h => absurd h List.not_mem_nil) (fun _ h => absurd h List.not_mem_nil) [] 30 _ _ _ _ ?_
    simp (maxSteps := 1000000) [↓Bool.cond_eq_ite, -Prod.forall, -Prod.exists, -Prod.mk.injEq, jvk, tX7_namePerson, jtb, jol, jst, jlk, jcmp, jbin, jfl, fX7, jc2, lX7, jcat, jel, lv_args, Value.category, jins, jsrt, jins2, jble, jblt, jf3, List.filter_cons, List.filter_nil, G_roster, G_lroster, -Int32.not_le, -Int32.not_lt, -Int64.not_le, -Int64.not_lt, i3lt, i6lt, x0, x1, hx]
    try simp (disch := omega) [-Prod.forall, -Prod.exists, -Prod.mk.injEq, -Int32.not_le, -Int32.not_lt, -Int64.not_le, -Int64.not_lt, i3lt, i6lt, x0, x1, hx]
    exact hp _ _ ⟨rfl, rfl⟩
def oX7_hasPlan : jO := joRI fun a x σ => ((a = 24 ∨ a = 31) ∧ ∃ k, x = nI k ∧ k ≤ 1000000, fun v τ => v = some (.int (if x < σ.1 a 5 ∧ x < 20 then 1 else 0)) ∧ τ = σ)
set_option maxRecDepth 100000 in
set_option maxHeartbeats 4000000 in
theorem CX7_hasPlan (g : jG) (n : Nat) : jOk g (n + 0) mX7_hasPlan oX7_hasPlan := by
  refine joRI_ok ?_
  rintro a _ σ ⟨ha, k, rfl, hk⟩
  have x0 : ¬ nI k < 0 := nI_pos (by omega)
  have fl : ∀ (c d : Int32) (post : Option Value → jM → Prop), (∀ v τ, v = some (.int (if nI k < c ∧ nI k < d then 1 else 0)) ∧ τ = σ → post v τ) → (c ≤ nI k → post (some (.int 0)) σ) ∧ (¬ c ≤ nI k → (d ≤ nI k → post (some (.int 0)) σ) ∧ (¬ d ≤ nI k → post (some (.int 1)) σ)) := fun c d post hp => ⟨fun h => hp _ _ ⟨by rw [if_neg (fun z => by have := z.1; grind)], rfl⟩, fun h => ⟨fun h2 => hp _ _ ⟨by rw [if_neg (fun z => by have := z.2; grind)], rfl⟩, fun h2 => hp _ _ ⟨by rw [if_pos ⟨by grind, by grind⟩], rfl⟩⟩⟩
  rcases ha with rfl | rfl
  · refine jCon.ofP (by decide +kernel) (by simp [lg_sl, Value.category]) (fun post hp => ?_)
    refine jvk_ok TX7_hasPlan (V := []) (S := []) (fun _ h => absurd h List.not_mem_nil) (fun _ h => absurd h List.not_mem_nil) [] 30 _ _ _ _ ?_
    simp (maxSteps := 1000000) [↓Bool.cond_eq_ite, -Prod.forall, -Prod.exists, -Prod.mk.injEq, jvk, tX7_hasPlan, jtb, jol, jst, jlk, jcmp, jbin, jfl, fX7, jc2, lX7, jcat, jel, lv_args, Value.category, jins, jsrt, jins2, jble, jblt, jf3, List.filter_cons, List.filter_nil, G_roster, G_lroster, -Int32.not_le, -Int32.not_lt, -Int64.not_le, -Int64.not_lt, i3lt, i6lt, x0]
    try simp (disch := omega) [-Prod.forall, -Prod.exists, -Prod.mk.injEq, -Int32.not_le, -Int32.not_lt, -Int64.not_le, -Int64.not_lt, i3lt, i6lt, x0]
    exact fl _ _ post hp
  · refine jCon.ofP (by decide +kernel) (by simp [lg_sl, Value.category]) (fun post hp => ?_)
    refine jvk_ok TX7_hasPlan (V := []) (S := []) (fun _ h => absurd h List.not_mem_nil) (fun _ h => absurd h List.not_mem_nil) [] 30 _ _ _ _ ?_
    simp (maxSteps := 1000000) [↓Bool.cond_eq_ite, -Prod.forall, -Prod.exists, -Prod.mk.injEq, jvk, tX7_hasPlan, jtb, jol, jst, jlk, jcmp, jbin, jfl, fX7, jc2, lX7, jcat, jel, lv_args, Value.category, jins, jsrt, jins2, jble, jblt, jf3, List.filter_cons, List.filter_nil, G_roster, G_lroster, -Int32.not_le, -Int32.not_lt, -Int64.not_le, -Int64.not_lt, i3lt, i6lt, x0]
    try simp (disch := omega) [-Prod.forall, -Prod.exists, -Prod.mk.injEq, -Int32.not_le, -Int32.not_lt, -Int64.not_le, -Int64.not_lt, i3lt, i6lt, x0]
    exact fl _ _ post hp
/-- a plan is put behind those of the same month and of the months ahead -/
def rsP (b : Nat) (σ : jM) (k : Nat) : jM := jup (jup (jup σ (b + 3) k (σ.1 (b + 3) (k - 1))) (b + 4) k (σ.1 (b + 4) (k - 1))) (b + 5) k (σ.1 (b + 5) (k - 1))
def rsA (b : Nat) (mo : Int32) : Nat → jM → Nat × jM
  | 0, σ => (0, σ)
  | k + 1, σ => if mo < σ.1 (b + 4) k then rsA b mo k (rsP b σ (k + 1)) else (k + 1, σ)
theorem rsA_fr (b : Nat) (mo : Int32) : ∀ (k : Nat) (σ : jM), (rsA b mo k σ).1 ≤ k ∧ jfr (fun a j => (a == b + 3 || a == b + 4 || a == b + 5) && Nat.ble j k) b0 σ (rsA b mo k σ).2
  | 0, σ => ⟨Nat.le_refl _, jfr.rfl⟩
  | k + 1, σ => by
    simp only [rsA]
    by_cases c : mo < σ.1 (b + 4) k
    · rw [if_pos c]
      obtain ⟨h1, h2⟩ := rsA_fr b mo k (rsP b σ (k + 1))
      refine ⟨by omega, ?_⟩
      have f : jfr (fun a j => (a == b + 3 || a == b + 4 || a == b + 5) && Nat.ble j (k + 1)) b0 σ (rsP b σ (k + 1)) := by
        unfold rsP
        exact ((jfr.rfl.up _ (by simp)).up _ (by simp)).up _ (by simp)
      refine f.tr (h2.weak (fun a j q => ?_) (fun _ q => q))
      rw [jble] at q ⊢
      simp only [Bool.and_eq_false_iff, decide_eq_false_iff_not] at q ⊢
      rcases q with q | q
      · exact Or.inl q
      · exact Or.inr (by omega)
    · rw [if_neg c]
      exact ⟨Nat.le_refl _, jfr.rfl⟩
def rsN (b : Nat) (σ : jM) (p mo inc : Int32) (K : Nat) : jM := jup (jup (jup (jup (rsA b mo K σ).2 (b + 3) (rsA b mo K σ).1 p) (b + 4) (rsA b mo K σ).1 mo) (b + 5) (rsA b mo K σ).1 inc) b 5 (nI (K + 1))
def oX7_addPlan : jO := joRIII fun a x y z σ => (a = 24 ∧ ∃ K, σ.1 24 5 = nI K ∧ K < 20, fun v τ => v = none ∧ τ = rsN 24 σ x y z (σ.1 24 5).toNatClampNeg)
set_option maxRecDepth 100000 in
set_option maxHeartbeats 4000000 in
theorem CX7_addPlan (g : jG) (n : Nat) : jOk g (n + 0) mX7_addPlan oX7_addPlan := by
  refine joRIII_ok ?_
  rintro _ x y z σ ⟨rfl, K, hK, hK20⟩
  have ecK : (nI K).toNatClampNeg = K := nI_clamp (by omega)
  have c20 : ¬ (20 : Int32) ≤ nI K := nI_ge (b := 20) hK20 (by decide)
  refine jCon.ofP (by decide +kernel) (by simp [lg_sl, Value.category]) (fun post hp => ?_)
  refine jvk_ok TX7_addPlan (V := []) (S := []) (fun _ h => absurd h List.not_mem_nil) (fun _ h => absurd h List.not_mem_nil) [16] 20 _ _ _ _ ?_
  simp (maxSteps := 1000000) [↓Bool.cond_eq_ite, -Prod.forall, -Prod.exists, -Prod.mk.injEq, jvk, tX7_addPlan, jtb, jol, jst, jlk, jcmp, jbin, jfl, fX7, jc2, lX7, jcat, jel, lv_args, Value.category, jins, jsrt, jins2, jble, jblt, jf3, List.filter_cons, List.filter_nil, G_roster, G_lroster, -Int32.not_le, -Int32.not_lt, -Int64.not_le, -Int64.not_lt, i3lt, i6lt, hK, c20]
  try simp (disch := omega) [-Prod.forall, -Prod.exists, -Prod.mk.injEq, -Int32.not_le, -Int32.not_lt, -Int64.not_le, -Int64.not_lt, i3lt, i6lt, hK, c20]
  rw [hK, ecK] at hp
  have last : ∀ (k : Nat) (τ : jM), k < 20 → τ.1 24 5 = nI K → post none (jup (jup (jup (jup τ 27 k x) 28 k y) 29 k z) 24 5 (nI (K + 1))) → jW g mX7_addPlan n post 88 [(0, .ref 24), (1, .int x), (2, .int y), (3, .int z), (4, .int (nI k))] [] τ := by
    intro k τ hk h5 kk
    have jk : jin (nI k) 20 ∧ (nI k).toNatClampNeg = k := ⟨jin_nI (by omega) (by decide), nI_clamp (by omega)⟩
    have n1 : nI K + 1 = nI (K + 1) := nI_1 _
    refine jvk_ok TX7_addPlan (V := []) (S := []) (fun _ h => absurd h List.not_mem_nil) (fun _ h => absurd h List.not_mem_nil) [] 40 _ _ _ _ ?_
    simp (maxSteps := 1000000) [↓Bool.cond_eq_ite, -Prod.forall, -Prod.exists, -Prod.mk.injEq, jvk, tX7_addPlan, jtb, jol, jst, jlk, jcmp, jbin, jfl, fX7, jc2, lX7, jcat, jel, lv_args, Value.category, jins, jsrt, jins2, jble, jblt, jf3, List.filter_cons, List.filter_nil, G_roster, G_lroster, -Int32.not_le, -Int32.not_lt, -Int64.not_le, -Int64.not_lt, i3lt, i6lt, jk, h5, n1, jup_1]
    try simp (disch := omega) [-Prod.forall, -Prod.exists, -Prod.mk.injEq, -Int32.not_le, -Int32.not_lt, -Int64.not_le, -Int64.not_lt, i3lt, i6lt, jk, h5, n1, jup_1]
    exact kk
  have key : ∀ (k : Nat) (τ : jM), k < 20 → τ.1 24 5 = nI K → post none (jup (jup (jup (jup (rsA 24 y k τ).2 27 (rsA 24 y k τ).1 x) 28 (rsA 24 y k τ).1 y) 29 (rsA 24 y k τ).1 z) 24 5 (nI (K + 1))) → jW g mX7_addPlan n post 16 [(0, .ref 24), (1, .int x), (2, .int y), (3, .int z), (4, .int (nI k))] [] τ := by
    intro k
    induction k with
    | zero =>
      intro τ _ h5 kk
      have h0 : nI 0 ≤ 0 := by decide
      have k1 := last 0 τ (by omega) h5 kk
      refine jvk_ok TX7_addPlan (V := []) (S := []) (fun _ h => absurd h List.not_mem_nil) (fun _ h => absurd h List.not_mem_nil) [16, 88] 20 _ _ _ _ ?_
      simp (maxSteps := 1000000) [↓Bool.cond_eq_ite, -Prod.forall, -Prod.exists, -Prod.mk.injEq, jvk, tX7_addPlan, jtb, jol, jst, jlk, jcmp, jbin, jfl, fX7, jc2, lX7, jcat, jel, lv_args, Value.category, jins, jsrt, jins2, jble, jblt, jf3, List.filter_cons, List.filter_nil, G_roster, G_lroster, -Int32.not_le, -Int32.not_lt, -Int64.not_le, -Int64.not_lt, i3lt, i6lt, h0]
      try simp (disch := omega) [-Prod.forall, -Prod.exists, -Prod.mk.injEq, -Int32.not_le, -Int32.not_lt, -Int64.not_le, -Int64.not_lt, i3lt, i6lt, h0]
      exact k1
    | succ k ih =>
      intro τ hk h5 kk
      have h0 : ¬ nI (k + 1) ≤ 0 := nI_nle (by omega) (by omega)
      have e1 : nI (k + 1) - 1 = nI k := nI_pred k
      have em : nI (k + 1) + -1 = nI k := pk_m1 k
      have jk : jin (nI k) 20 ∧ (nI k).toNatClampNeg = k := ⟨jin_nI (by omega) (by decide), nI_clamp (by omega)⟩
      have jk1 : jin (nI (k + 1)) 20 ∧ (nI (k + 1)).toNatClampNeg = k + 1 := ⟨jin_nI (by omega) (by decide), nI_clamp (by omega)⟩
      simp only [rsA] at kk
      by_cases c : y < τ.1 28 k
      · have c' : ¬ τ.1 28 k ≤ y := by grind
        rw [if_pos c] at kk
        have k1 := ih (rsP 24 τ (k + 1)) (by omega) h5 kk
        unfold rsP at k1
        rw [show k + 1 - 1 = k from rfl] at k1
        refine jvk_ok TX7_addPlan (V := []) (S := []) (fun _ h => absurd h List.not_mem_nil) (fun _ h => absurd h List.not_mem_nil) [16, 88] 60 _ _ _ _ ?_
        simp (maxSteps := 1000000) [↓Bool.cond_eq_ite, -Prod.forall, -Prod.exists, -Prod.mk.injEq, jvk, tX7_addPlan, jtb, jol, jst, jlk, jcmp, jbin, jfl, fX7, jc2, lX7, jcat, jel, lv_args, Value.category, jins, jsrt, jins2, jble, jblt, jf3, List.filter_cons, List.filter_nil, G_roster, G_lroster, -Int32.not_le, -Int32.not_lt, -Int64.not_le, -Int64.not_lt, i3lt, i6lt, h0, e1, em, jk, jk1, c', jup_1]
        try simp (disch := omega) [-Prod.forall, -Prod.exists, -Prod.mk.injEq, -Int32.not_le, -Int32.not_lt, -Int64.not_le, -Int64.not_lt, i3lt, i6lt, h0, e1, em, jk, jk1, c', jup_1]
        exact k1
      · have c' : τ.1 28 k ≤ y := by grind
        rw [if_neg c] at kk
        have k1 := last (k + 1) τ hk h5 kk
        refine jvk_ok TX7_addPlan (V := []) (S := []) (fun _ h => absurd h List.not_mem_nil) (fun _ h => absurd h List.not_mem_nil) [16, 88] 60 _ _ _ _ ?_
        simp (maxSteps := 1000000) [↓Bool.cond_eq_ite, -Prod.forall, -Prod.exists, -Prod.mk.injEq, jvk, tX7_addPlan, jtb, jol, jst, jlk, jcmp, jbin, jfl, fX7, jc2, lX7, jcat, jel, lv_args, Value.category, jins, jsrt, jins2, jble, jblt, jf3, List.filter_cons, List.filter_nil, G_roster, G_lroster, -Int32.not_le, -Int32.not_lt, -Int64.not_le, -Int64.not_lt, i3lt, i6lt, h0, e1, em, jk, jk1, c']
        try simp (disch := omega) [-Prod.forall, -Prod.exists, -Prod.mk.injEq, -Int32.not_le, -Int32.not_lt, -Int64.not_le, -Int64.not_lt, i3lt, i6lt, h0, e1, em, jk, jk1, c']
        exact k1
  exact key K σ (by omega) hK (hp _ _ ⟨rfl, rfl⟩)
