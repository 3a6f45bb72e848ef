/-! Proposal: raiseLows, findLows -/
def aRow (r a j : Nat) : Bool := a == r
theorem aRow_same {r : Nat} {σ τ : jM} (hr : r < 260 ∨ 271 < r) (f : jfr (aRow r) b0 σ τ) : ∀ c, 260 ≤ c → c ≤ 271 → τ.1 c = σ.1 c := fun c h1 h2 => funext fun j => f.2.2 c j (by unfold aRow; simp; omega)
theorem ivI_up (σ : jM) (r q : Nat) (z : Int) (hz : -2147483648 ≤ z ∧ z < 2147483648) : ivI (jup σ r q (iI z)) r = fun k => if k = q then z else ivI σ r k := by
  funext k
  unfold ivI
  rw [jup_1]
  by_cases e : k = q
  · rw [if_pos ⟨rfl, e⟩, if_pos e, iI_toInt hz]
  · rw [if_neg (fun w => e w.2), if_neg e]
def oX6_raiseLows : jO := joR fun a σ => (a = 259 ∧ prH σ ∧ (∀ k, k < cM σ 260 → 0 ≤ ivI σ 272 k ∧ ivI σ 272 k ≤ prLo σ k), fun v τ => ∃ c : Nat, v = some (.int (nI c)) ∧ jfr (aRow 272) b0 σ τ ∧ swI (cM σ 260) (prE σ) (prG σ) (prLo σ) (ivI σ 272) (ivI τ 272) c (dLo (cM σ 260) 0))
set_option maxRecDepth 100000 in
set_option maxHeartbeats 4000000 in
theorem CX6_raiseLows (g : jG) (n : Nat) : jOk g (n + 2) mX6_raiseLows oX6_raiseLows := by
  refine joR_ok ?_
  rintro _ σ ⟨rfl, h, hx⟩
  obtain ⟨m6, em, -, -⟩ := cOK_n h.1
  have all := prH_all h
  obtain ⟨m, eM⟩ : ∃ m, m = cM σ 260 := ⟨_, rfl⟩
  refine jCon.ofP (by decide +kernel) (by simp [lg_sl, Value.category]) (fun post hp => ?_)
  refine jvk_ok TX6_raiseLows (V := [(102, 3, 6, oX6_gain)]) (S := []) (List.forall_mem_cons.mpr ⟨⟨mX6_gain, n + 1, 2, TX6, 8, rfl, by omega, kX6_102, WX6_gain, rfl, CX6_gain g (n)⟩, (fun _ h => absurd h List.not_mem_nil)⟩) (fun _ h => absurd h List.not_mem_nil) [4] 20 _ _ _ _ ?_
  simp (maxSteps := 1000000) [↓Bool.cond_eq_ite, -Prod.forall, -Prod.exists, -Prod.mk.injEq, jvk, tX6_raiseLows, jtb, jol, jst, jlk, jcmp, jbin, jfl, fX6, jc2, lX6, jcat, jel, lv_args, Value.category, jins, jsrt, jins2, jble, jblt, jf3, List.filter_cons, List.filter_nil, G_prop, G_choice, G_flat, oX6_gain, joRII, -Int32.not_le, -Int32.not_lt, -Int64.not_le, -Int64.not_lt, i3lt, i6lt]
  try simp (disch := omega) [-Prod.forall, -Prod.exists, -Prod.mk.injEq, -Int32.not_le, -Int32.not_lt, -Int64.not_le, -Int64.not_lt, i3lt, i6lt]
  rw [← eM] at hp m6 em hx all
  have loop := jloop (P := fun p => ∀ (ρ : jM) (c : Nat), jfr (aRow 272) b0 σ ρ → swI m (prE σ) (prG σ) (prLo σ) (ivI σ 272) (ivI ρ 272) c (dLo p 0) → jW g mX6_raiseLows (n + 2) post 4 [(0, .ref 259), (1, .int (nI c)), (2, .int (nI p))] [] ρ) (N := m) (fun ρ c f hs => by
    have e4 : ρ.1 260 0 = nI m := (f.2.2 260 0 rfl).trans em
    have hle : nI m ≤ nI m := nI_le (Nat.le_refl _) (by omega)
    refine jvk_ok TX6_raiseLows (V := [(102, 3, 6, oX6_gain)]) (S := []) (List.forall_mem_cons.mpr ⟨⟨mX6_gain, n + 1, 2, TX6, 8, rfl, by omega, kX6_102, WX6_gain, rfl, CX6_gain g (n)⟩, (fun _ h => absurd h List.not_mem_nil)⟩) (fun _ h => absurd h List.not_mem_nil) [4] 20 _ _ _ _ ?_
    simp (maxSteps := 1000000) [↓Bool.cond_eq_ite, -Prod.forall, -Prod.exists, -Prod.mk.injEq, jvk, tX6_raiseLows, jtb, jol, jst, jlk, jcmp, jbin, jfl, fX6, jc2, lX6, jcat, jel, lv_args, Value.category, jins, jsrt, jins2, jble, jblt, jf3, List.filter_cons, List.filter_nil, G_prop, G_choice, G_flat, oX6_gain, joRII, -Int32.not_le, -Int32.not_lt, -Int64.not_le, -Int64.not_lt, i3lt, i6lt, e4, hle]
    try simp (disch := omega) [-Prod.forall, -Prod.exists, -Prod.mk.injEq, -Int32.not_le, -Int32.not_lt, -Int64.not_le, -Int64.not_lt, i3lt, i6lt, e4, hle]
    refine ⟨?_, hp _ _ ⟨c, rfl, f, hs⟩⟩
    rcases hs.2.2.2 with z | z
    · subst z; exact Or.inl rfl
    · subst z; exact Or.inr rfl) (fun p hp1 ih ρ c f hs => by
    have e4 : ρ.1 260 0 = nI m := (f.2.2 260 0 rfl).trans em
    have hlt : ¬ nI m ≤ nI p := nI_ge hp1 (by omega)
    have jp : jin (nI p) 6 := jin_nI (by omega) (by decide)
    have ecp : (nI p).toNatClampNeg = p := nI_clamp (by omega)
    have loop2 := jloop (P := fun q => ∀ (ρ : jM) (c : Nat), jfr (aRow 272) b0 σ ρ → swI m (prE σ) (prG σ) (prLo σ) (ivI σ 272) (ivI ρ 272) c (dLo p q) → jW g mX6_raiseLows (n + 2) post 17 [(0, .ref 259), (1, .int (nI c)), (2, .int (nI p)), (3, .int (nI q))] [] ρ) (N := m) (fun ρ c f hs => by
      have e4 : ρ.1 260 0 = nI m := (f.2.2 260 0 rfl).trans em
      have hle : nI m ≤ nI m := nI_le (Nat.le_refl _) (by omega)
      have k1 := ih ρ c f ⟨hs.1, fun s t h1 h2 h3 h4 => hs.2.1 s t h1 h2 (by unfold dLo at h3 ⊢; omega) h4, hs.2.2⟩
      refine jvk_ok TX6_raiseLows (V := [(102, 3, 6, oX6_gain)]) (S := []) (List.forall_mem_cons.mpr ⟨⟨mX6_gain, n + 1, 2, TX6, 8, rfl, by omega, kX6_102, WX6_gain, rfl, CX6_gain g (n)⟩, (fun _ h => absurd h List.not_mem_nil)⟩) (fun _ h => absurd h List.not_mem_nil) [4, 17] 20 _ _ _ _ ?_
      simp (maxSteps := 1000000) [↓Bool.cond_eq_ite, -Prod.forall, -Prod.exists, -Prod.mk.injEq, jvk, tX6_raiseLows, jtb, jol, jst, jlk, jcmp, jbin, jfl, fX6, jc2, lX6, jcat, jel, lv_args, Value.category, jins, jsrt, jins2, jble, jblt, jf3, List.filter_cons, List.filter_nil, G_prop, G_choice, G_flat, oX6_gain, joRII, -Int32.not_le, -Int32.not_lt, -Int64.not_le, -Int64.not_lt, i3lt, i6lt, e4, hle, nI_1]
      try simp (disch := omega) [-Prod.forall, -Prod.exists, -Prod.mk.injEq, -Int32.not_le, -Int32.not_lt, -Int64.not_le, -Int64.not_lt, i3lt, i6lt, e4, hle, nI_1]
      exact jW.mono k1 (by simp)) (fun q hq ih2 ρ c f hs => by
      have e4 : ρ.1 260 0 = nI m := (f.2.2 260 0 rfl).trans em
      have hltq : ¬ nI m ≤ nI q := nI_ge hq (by omega)
      have jq : jin (nI q) 6 := jin_nI (by omega) (by decide)
      have ecq : (nI q).toNatClampNeg = q := nI_clamp (by omega)
      obtain ⟨hρ, s1, s2, s3, s4, s5, s6, s7⟩ := prH_same h (aRow_same (by omega) f)
      have hga := pr_ga hρ (p := p) (q := q) (by rw [s1, ← eM]; exact hp1) (by rw [s1, ← eM]; exact hq)
      rw [s2, s3, s7] at hga
      have hokρ := hρ.1
      have hD : ∀ s t, dLo p (q + 1) s t → dLo p q s t ∨ s = p ∧ t = q := fun s t z => by unfold dLo at z ⊢; omega
      obtain ⟨y, ey⟩ : ∃ y, y = gaN ρ p q := ⟨_, rfl⟩
      rw [← ey] at hga
      refine jvk_ok TX6_raiseLows (V := [(102, 3, 6, oX6_gain)]) (S := []) (List.forall_mem_cons.mpr ⟨⟨mX6_gain, n + 1, 2, TX6, 8, rfl, by omega, kX6_102, WX6_gain, rfl, CX6_gain g (n)⟩, (fun _ h => absurd h List.not_mem_nil)⟩) (fun _ h => absurd h List.not_mem_nil) [34] 30 _ _ _ _ ?_
      simp (maxSteps := 1000000) [↓Bool.cond_eq_ite, -Prod.forall, -Prod.exists, -Prod.mk.injEq, jvk, tX6_raiseLows, jtb, jol, jst, jlk, jcmp, jbin, jfl, fX6, jc2, lX6, jcat, jel, lv_args, Value.category, jins, jsrt, jins2, jble, jblt, jf3, List.filter_cons, List.filter_nil, G_prop, G_choice, G_flat, oX6_gain, joRII, -Int32.not_le, -Int32.not_lt, -Int64.not_le, -Int64.not_lt, i3lt, i6lt, e4, hltq, hokρ, jp, jq, ecp, ecq, ey.symm]
      try simp (disch := omega) [-Prod.forall, -Prod.exists, -Prod.mk.injEq, -Int32.not_le, -Int32.not_lt, -Int64.not_le, -Int64.not_lt, i3lt, i6lt, e4, hltq, hokρ, jp, jq, ecp, ecq, ey.symm]
      rcases hga with ⟨g1, g2⟩ | ⟨g1, g2, g3, g4, g5⟩
      · have k1 := ih2 ρ c f (swI_skip hD hs (fun z => by have := (pr_E.mp z).2; rw [g1] at this; cases this))
        refine jvk_ok TX6_raiseLows (V := [(102, 3, 6, oX6_gain)]) (S := []) (List.forall_mem_cons.mpr ⟨⟨mX6_gain, n + 1, 2, TX6, 8, rfl, by omega, kX6_102, WX6_gain, rfl, CX6_gain g (n)⟩, (fun _ h => absurd h List.not_mem_nil)⟩) (fun _ h => absurd h List.not_mem_nil) [17] 20 _ _ _ _ ?_
        simp (maxSteps := 1000000) [↓Bool.cond_eq_ite, -Prod.forall, -Prod.exists, -Prod.mk.injEq, jvk, tX6_raiseLows, jtb, jol, jst, jlk, jcmp, jbin, jfl, fX6, jc2, lX6, jcat, jel, lv_args, Value.category, jins, jsrt, jins2, jble, jblt, jf3, List.filter_cons, List.filter_nil, G_prop, G_choice, G_flat, oX6_gain, joRII, -Int32.not_le, -Int32.not_lt, -Int64.not_le, -Int64.not_lt, i3lt, i6lt, g2, nI_1]
        try simp (disch := omega) [-Prod.forall, -Prod.exists, -Prod.mk.injEq, -Int32.not_le, -Int32.not_lt, -Int64.not_le, -Int64.not_lt, i3lt, i6lt, g2, nI_1]
        exact jW.mono k1 (by simp)
      · have bp := hs.1 p hp1
        have bq := hs.1 q hq
        have lp := pr_bd h (k := p) (by rw [← eM]; exact hp1)
        have lq := pr_bd h (k := q) (by rw [← eM]; exact hq)
        have ep : ρ.1 272 p = iI (ivI ρ 272 p) := (iI_of _).symm
        have eq : ρ.1 272 q = iI (ivI ρ 272 q) := (iI_of _).symm
        have ea : iI (ivI ρ 272 p) + y = iI (ivI ρ 272 p + prG σ p q) := by rw [g2, iI_add]
        have hcmp := iI_le (x := ivI ρ 272 p + prG σ p q) (y := ivI ρ 272 q) ⟨by omega, by omega⟩ ⟨by omega, by omega⟩
        by_cases c1 : ivI ρ 272 p + prG σ p q ≤ ivI ρ 272 q
        · have c1' := hcmp.mpr c1
          have k1 := ih2 ρ c f (swI_skip hD hs (fun _ => by omega))
          refine jvk_ok TX6_raiseLows (V := [(102, 3, 6, oX6_gain)]) (S := []) (List.forall_mem_cons.mpr ⟨⟨mX6_gain, n + 1, 2, TX6, 8, rfl, by omega, kX6_102, WX6_gain, rfl, CX6_gain g (n)⟩, (fun _ h => absurd h List.not_mem_nil)⟩) (fun _ h => absurd h List.not_mem_nil) [17] 40 _ _ _ _ ?_
          simp (maxSteps := 1000000) [↓Bool.cond_eq_ite, -Prod.forall, -Prod.exists, -Prod.mk.injEq, jvk, tX6_raiseLows, jtb, jol, jst, jlk, jcmp, jbin, jfl, fX6, jc2, lX6, jcat, jel, lv_args, Value.category, jins, jsrt, jins2, jble, jblt, jf3, List.filter_cons, List.filter_nil, G_prop, G_choice, G_flat, oX6_gain, joRII, -Int32.not_le, -Int32.not_lt, -Int64.not_le, -Int64.not_lt, i3lt, i6lt, g3, jp, jq, ecp, ecq, ep, eq, ea, c1', nI_1]
          try simp (disch := omega) [-Prod.forall, -Prod.exists, -Prod.mk.injEq, -Int32.not_le, -Int32.not_lt, -Int64.not_le, -Int64.not_lt, i3lt, i6lt, g3, jp, jq, ecp, ecq, ep, eq, ea, c1', nI_1]
          exact jW.mono k1 (by simp)
        · have c1' : ¬ iI (ivI ρ 272 p + prG σ p q) ≤ iI (ivI ρ 272 q) := fun z => c1 (hcmp.mp z)
          have hne : p ≠ q := fun z => by
            subst z
            rw [pr_self] at c1
            omega
          have k1 := ih2 (jup ρ 272 q (iI (ivI ρ 272 p + prG σ p q))) 1 (f.up _ (by unfold aRow; rfl)) (by
            rw [ivI_up _ _ _ _ ⟨by omega, by omega⟩]
            exact swI_set hD all.2.2.2.1 hs hp1 hq (pr_E.mpr ⟨hne, g1⟩) (by omega))
          have n1 : nI 1 = 1 := rfl
          rw [n1] at k1
          refine jvk_ok TX6_raiseLows (V := [(102, 3, 6, oX6_gain)]) (S := []) (List.forall_mem_cons.mpr ⟨⟨mX6_gain, n + 1, 2, TX6, 8, rfl, by omega, kX6_102, WX6_gain, rfl, CX6_gain g (n)⟩, (fun _ h => absurd h List.not_mem_nil)⟩) (fun _ h => absurd h List.not_mem_nil) [17] 40 _ _ _ _ ?_
          simp (maxSteps := 1000000) [↓Bool.cond_eq_ite, -Prod.forall, -Prod.exists, -Prod.mk.injEq, jvk, tX6_raiseLows, jtb, jol, jst, jlk, jcmp, jbin, jfl, fX6, jc2, lX6, jcat, jel, lv_args, Value.category, jins, jsrt, jins2, jble, jblt, jf3, List.filter_cons, List.filter_nil, G_prop, G_choice, G_flat, oX6_gain, joRII, -Int32.not_le, -Int32.not_lt, -Int64.not_le, -Int64.not_lt, i3lt, i6lt, g3, jp, jq, ecp, ecq, ep, eq, ea, c1', nI_1]
          try simp (disch := omega) [-Prod.forall, -Prod.exists, -Prod.mk.injEq, -Int32.not_le, -Int32.not_lt, -Int64.not_le, -Int64.not_lt, i3lt, i6lt, g3, jp, jq, ecp, ecq, ep, eq, ea, c1', nI_1]
          exact jW.mono k1 (by simp))
    have k0 := loop2 ρ c f hs
    rw [nI_0] at k0
    refine jvk_ok TX6_raiseLows (V := [(102, 3, 6, oX6_gain)]) (S := []) (List.forall_mem_cons.mpr ⟨⟨mX6_gain, n + 1, 2, TX6, 8, rfl, by omega, kX6_102, WX6_gain, rfl, CX6_gain g (n)⟩, (fun _ h => absurd h List.not_mem_nil)⟩) (fun _ h => absurd h List.not_mem_nil) [17] 20 _ _ _ _ ?_
    simp (maxSteps := 1000000) [↓Bool.cond_eq_ite, -Prod.forall, -Prod.exists, -Prod.mk.injEq, jvk, tX6_raiseLows, jtb, jol, jst, jlk, jcmp, jbin, jfl, fX6, jc2, lX6, jcat, jel, lv_args, Value.category, jins, jsrt, jins2, jble, jblt, jf3, List.filter_cons, List.filter_nil, G_prop, G_choice, G_flat, oX6_gain, joRII, -Int32.not_le, -Int32.not_lt, -Int64.not_le, -Int64.not_lt, i3lt, i6lt, e4, hlt]
    try simp (disch := omega) [-Prod.forall, -Prod.exists, -Prod.mk.injEq, -Int32.not_le, -Int32.not_lt, -Int64.not_le, -Int64.not_lt, i3lt, i6lt, e4, hlt]
    exact k0)
  have k0 := loop σ 0 jfr.rfl ⟨fun k hk => ⟨(hx k hk).1, Int.le_refl _, (hx k hk).2⟩, fun s t _ _ z _ => by unfold dLo at z; omega, fun _ _ _ => rfl, Or.inl rfl⟩
  rw [nI_0] at k0
  exact k0
def oX6_findLows : jO := joR fun a σ => (a = 259 ∧ prH σ, fun v τ => v = none ∧ jfr (aRow 272) b0 σ τ ∧ ∀ k, k < cM σ 260 → τ.1 272 k = iI (prLo σ k))
set_option maxRecDepth 100000 in
set_option maxHeartbeats 4000000 in
theorem CX6_findLows (g : jG) (n : Nat) : jOk g (n + 3) mX6_findLows oX6_findLows := by
  refine joR_ok ?_
  rintro _ σ ⟨rfl, h⟩
  obtain ⟨m6, em, -, -⟩ := cOK_n h.1
  have all := prH_all h
  refine jCon.ofP (by decide +kernel) (by simp [lg_sl, Value.category]) (fun post hp => ?_)
  refine jvk_ok TX6_findLows (V := [(99, 1, 6, oX6_raiseLows)]) (S := [(93, 2, 0, oJ7_fill_53178)]) (List.forall_mem_cons.mpr ⟨⟨mX6_raiseLows, n + 2, 0, TX6, 8, rfl, by omega, kX6_99, WX6_raiseLows, rfl, CX6_raiseLows g (n)⟩, (fun _ h => absurd h List.not_mem_nil)⟩) (List.forall_mem_cons.mpr ⟨⟨mJ7_fill_53178, n + 0, by omega, Or.inl kX6_93, WJ7_fill_53178, CJ7_fill_53178 g (n)⟩, (fun _ h => absurd h List.not_mem_nil)⟩) [12] 20 _ _ _ _ ?_
  simp (maxSteps := 1000000) [↓Bool.cond_eq_ite, -Prod.forall, -Prod.exists, -Prod.mk.injEq, jvk, tX6_findLows, jtb, jol, jst, jlk, jcmp, jbin, jfl, fX6, jc2, lX6, jcat, jel, lv_args, Value.category, jins, jsrt, jins2, jble, jblt, jf3, List.filter_cons, List.filter_nil, G_prop, G_choice, G_flat, oJ7_fill_53178, oX6_raiseLows, joR, joRI, -Int32.not_le, -Int32.not_lt, -Int64.not_le, -Int64.not_lt, i3lt, i6lt]
  try simp (disch := omega) [-Prod.forall, -Prod.exists, -Prod.mk.injEq, -Int32.not_le, -Int32.not_lt, -Int64.not_le, -Int64.not_lt, i3lt, i6lt]
  have loop := jloop (P := fun i => ∀ (ρ : jM) (c : Nat), jfr (aRow 272) b0 σ ρ → (∀ k, k < cM σ 260 → 0 ≤ ivI ρ 272 k ∧ ivI ρ 272 k ≤ prLo σ k ∧ wF (cM σ 260) (prE σ) (prG σ) i k ≤ ivI ρ 272 k) → (c = 0 ∧ (∀ k, k < cM σ 260 → ivI ρ 272 k = prLo σ k) ∨ c = 1) → jW g mX6_findLows (n + 3) post 12 [(0, .ref 259), (1, .int (nI c)), (2, .int (nI i))] [] ρ) (N := 6) (fun ρ c f hb _ => by
    have hle : (6 : Int32) ≤ nI 6 := by decide
    refine jvk_ok TX6_findLows (V := [(99, 1, 6, oX6_raiseLows)]) (S := [(93, 2, 0, oJ7_fill_53178)]) (List.forall_mem_cons.mpr ⟨⟨mX6_raiseLows, n + 2, 0, TX6, 8, rfl, by omega, kX6_99, WX6_raiseLows, rfl, CX6_raiseLows g (n)⟩, (fun _ h => absurd h List.not_mem_nil)⟩) (List.forall_mem_cons.mpr ⟨⟨mJ7_fill_53178, n + 0, by omega, Or.inl kX6_93, WJ7_fill_53178, CJ7_fill_53178 g (n)⟩, (fun _ h => absurd h List.not_mem_nil)⟩) [12] 20 _ _ _ _ ?_
    simp (maxSteps := 1000000) [↓Bool.cond_eq_ite, -Prod.forall, -Prod.exists, -Prod.mk.injEq, jvk, tX6_findLows, jtb, jol, jst, jlk, jcmp, jbin, jfl, fX6, jc2, lX6, jcat, jel, lv_args, Value.category, jins, jsrt, jins2, jble, jblt, jf3, List.filter_cons, List.filter_nil, G_prop, G_choice, G_flat, oJ7_fill_53178, oX6_raiseLows, joR, joRI, -Int32.not_le, -Int32.not_lt, -Int64.not_le, -Int64.not_lt, i3lt, i6lt, hle]
    try simp (disch := omega) [-Prod.forall, -Prod.exists, -Prod.mk.injEq, -Int32.not_le, -Int32.not_lt, -Int64.not_le, -Int64.not_lt, i3lt, i6lt, hle]
    refine hp _ _ ⟨rfl, f, fun k hk => ?_⟩
    have b1 := hb k hk
    have b2 : wF (cM σ 260) (prE σ) (prG σ) 5 k ≤ wF (cM σ 260) (prE σ) (prG σ) 6 k := wF_up 5 1 k
    have b3 : prLo σ k = wF (cM σ 260) (prE σ) (prG σ) 5 k := rfl
    have b4 : ivI ρ 272 k = prLo σ k := by omega
    rw [← b4]
    exact (iI_of _).symm) (fun i hi ih ρ c f hb hc => by
    have hlt : ¬ (6 : Int32) ≤ nI i := nI_ge (b := 6) hi (by decide)
    rcases hc with ⟨c0, hc⟩ | c1
    · subst c0
      rw [nI_0]
      refine jvk_ok TX6_findLows (V := [(99, 1, 6, oX6_raiseLows)]) (S := [(93, 2, 0, oJ7_fill_53178)]) (List.forall_mem_cons.mpr ⟨⟨mX6_raiseLows, n + 2, 0, TX6, 8, rfl, by omega, kX6_99, WX6_raiseLows, rfl, CX6_raiseLows g (n)⟩, (fun _ h => absurd h List.not_mem_nil)⟩) (List.forall_mem_cons.mpr ⟨⟨mJ7_fill_53178, n + 0, by omega, Or.inl kX6_93, WJ7_fill_53178, CJ7_fill_53178 g (n)⟩, (fun _ h => absurd h List.not_mem_nil)⟩) [12] 20 _ _ _ _ ?_
      simp (maxSteps := 1000000) [↓Bool.cond_eq_ite, -Prod.forall, -Prod.exists, -Prod.mk.injEq, jvk, tX6_findLows, jtb, jol, jst, jlk, jcmp, jbin, jfl, fX6, jc2, lX6, jcat, jel, lv_args, Value.category, jins, jsrt, jins2, jble, jblt, jf3, List.filter_cons, List.filter_nil, G_prop, G_choice, G_flat, oJ7_fill_53178, oX6_raiseLows, joR, joRI, -Int32.not_le, -Int32.not_lt, -Int64.not_le, -Int64.not_lt, i3lt, i6lt, hlt]
      try simp (disch := omega) [-Prod.forall, -Prod.exists, -Prod.mk.injEq, -Int32.not_le, -Int32.not_lt, -Int64.not_le, -Int64.not_lt, i3lt, i6lt, hlt]
      refine hp _ _ ⟨rfl, f, fun k hk => ?_⟩
      rw [← hc k hk]
      exact (iI_of _).symm
    · subst c1
      have n1 : ¬ nI 1 = 0 := by decide
      obtain ⟨hρ, s1, s2, s3, s4, s5, s6, s7⟩ := prH_same h (aRow_same (by omega) f)
      have hpre : ∀ k, k < cM ρ 260 → 0 ≤ ivI ρ 272 k ∧ ivI ρ 272 k ≤ prLo ρ k := fun k hk => by
        rw [s1] at hk
        rw [s4]
        exact ⟨(hb k hk).1, (hb k hk).2.1⟩
      refine jvk_ok TX6_findLows (V := [(99, 1, 6, oX6_raiseLows)]) (S := [(93, 2, 0, oJ7_fill_53178)]) (List.forall_mem_cons.mpr ⟨⟨mX6_raiseLows, n + 2, 0, TX6, 8, rfl, by omega, kX6_99, WX6_raiseLows, rfl, CX6_raiseLows g (n)⟩, (fun _ h => absurd h List.not_mem_nil)⟩) (List.forall_mem_cons.mpr ⟨⟨mJ7_fill_53178, n + 0, by omega, Or.inl kX6_93, WJ7_fill_53178, CJ7_fill_53178 g (n)⟩, (fun _ h => absurd h List.not_mem_nil)⟩) [26] 20 _ _ _ _ ?_
      simp (maxSteps := 1000000) [↓Bool.cond_eq_ite, -Prod.forall, -Prod.exists, -Prod.mk.injEq, jvk, tX6_findLows, jtb, jol, jst, jlk, jcmp, jbin, jfl, fX6, jc2, lX6, jcat, jel, lv_args, Value.category, jins, jsrt, jins2, jble, jblt, jf3, List.filter_cons, List.filter_nil, G_prop, G_choice, G_flat, oJ7_fill_53178, oX6_raiseLows, joR, joRI, -Int32.not_le, -Int32.not_lt, -Int64.not_le, -Int64.not_lt, i3lt, i6lt, hlt, n1, hρ, hpre]
      try simp (disch := omega) [-Prod.forall, -Prod.exists, -Prod.mk.injEq, -Int32.not_le, -Int32.not_lt, -Int64.not_le, -Int64.not_lt, i3lt, i6lt, hlt, n1, hρ, hpre]
      refine ⟨hpre, ?_⟩
      intro v τ c hv fr hs
      subst hv
      rw [s1, s4, s6, s7] at hs
      have hD : ∀ s t, s < cM σ 260 → t < cM σ 260 → dLo (cM σ 260) 0 s t := fun s t q1 _ => Or.inl q1
      have up := swI_up hD hs (k := i) (fun q hq => (hb q hq).2.2)
      have k1 := ih τ c (f.tr fr) (fun k hk => ⟨by have := hs.1 k hk; omega, (hs.1 k hk).2.2, up k hk⟩) (by
        rcases hs.2.2.2 with z | z
        · subst z
          exact Or.inl ⟨rfl, swI_end hD hs⟩
        · exact Or.inr z)
      refine jvk_ok TX6_findLows (V := [(99, 1, 6, oX6_raiseLows)]) (S := [(93, 2, 0, oJ7_fill_53178)]) (List.forall_mem_cons.mpr ⟨⟨mX6_raiseLows, n + 2, 0, TX6, 8, rfl, by omega, kX6_99, WX6_raiseLows, rfl, CX6_raiseLows g (n)⟩, (fun _ h => absurd h List.not_mem_nil)⟩) (List.forall_mem_cons.mpr ⟨⟨mJ7_fill_53178, n + 0, by omega, Or.inl kX6_93, WJ7_fill_53178, CJ7_fill_53178 g (n)⟩, (fun _ h => absurd h List.not_mem_nil)⟩) [12] 20 _ _ _ _ ?_
      simp (maxSteps := 1000000) [↓Bool.cond_eq_ite, -Prod.forall, -Prod.exists, -Prod.mk.injEq, jvk, tX6_findLows, jtb, jol, jst, jlk, jcmp, jbin, jfl, fX6, jc2, lX6, jcat, jel, lv_args, Value.category, jins, jsrt, jins2, jble, jblt, jf3, List.filter_cons, List.filter_nil, G_prop, G_choice, G_flat, oJ7_fill_53178, oX6_raiseLows, joR, joRI, -Int32.not_le, -Int32.not_lt, -Int64.not_le, -Int64.not_lt, i3lt, i6lt, nI_1]
      try simp (disch := omega) [-Prod.forall, -Prod.exists, -Prod.mk.injEq, -Int32.not_le, -Int32.not_lt, -Int64.not_le, -Int64.not_lt, i3lt, i6lt, nI_1]
      exact k1)
  have e0 : ∀ k, k < cM σ 260 → ivI (jfil σ 272 6 0) 272 k = 0 := fun k hk => by
    unfold ivI
    rw [jfil_1, if_pos ⟨rfl, by omega⟩]
    rfl
  have f0 : jfr (aRow 272) b0 σ (jfil σ 272 6 0) := ⟨rfl, fun _ _ _ => rfl, fun a j q => by
    rw [jfil_1, if_neg (fun z => by rw [z.1] at q; cases q)]⟩
  have k0 := loop (jfil σ 272 6 0) 1 f0 (fun k hk => by
    rw [e0 k hk]
    exact ⟨Int.le_refl _, all.2.2.2.1.1 k hk, Int.le_refl _⟩) (Or.inr rfl)
  have n1 : nI 1 = 1 := rfl
  rw [nI_0, n1] at k0
  exact k0
