/-! the reference: owners, surpluses, who can afford -/
theorem ff_congr {p q : Nat → Bool} : ∀ (d k : Nat), (∀ j, k ≤ j → j < k + d → p j = q j) → ff p d k = ff q d k
  | 0, _, _ => rfl
  | d + 1, k, h => by
    simp only [ff]
    rw [h k (Nat.le_refl _) (by omega), ff_congr d (k + 1) (fun j h1 h2 => h j (by omega) (by omega))]
theorem ff_rng {p : Nat → Bool} : ∀ (d k : Nat), ff p d k = -1 ∨ ∃ j, k ≤ j ∧ j < k + d ∧ p j = true ∧ ff p d k = nI j
  | 0, _ => Or.inl rfl
  | d + 1, k => by
    simp only [ff]
    by_cases h : p k = true
    · rw [if_pos h]
      exact Or.inr ⟨k, Nat.le_refl _, by omega, h, rfl⟩
    · rw [if_neg h]
      rcases ff_rng (p := p) d (k + 1) with h1 | ⟨j, h1, h2, h3, h4⟩
      · exact Or.inl h1
      · exact Or.inr ⟨j, by omega, by omega, h3, h4⟩
/-- who has a room in the proposal -/
def mOw (σ : jM) (x : Int32) : Int32 := ff (fun p => decide (qch (dC σ) (xl σ) (mN σ) p = x)) (mN σ) 0
theorem mOw_eq {σ τ : jM} (hok : mOK σ) (s : sR σ τ) (h : ∀ q, q < 10 → τ.1 330 q = qch (dC σ) (xl σ) (mN σ) q) (x : Int32) : ff (fun p => decide (τ.1 330 p = x)) (mN τ) 0 = mOw σ x := by
  have h10 := (mN_le hok).1
  rw [sR_N s]
  exact ff_congr _ _ (fun j _ hj => by rw [h j (by omega)])
def oX12_extreme : jO := joRII fun a x y σ => (a = 322 ∧ mOK σ ∧ dI (σ.1 323), fun v τ => v = some (.int (if mR σ x = true then (if (dC σ).isSome = true ∧ 0 ≤ mOw σ x then (if y = 0 then mLo σ (mOw σ x).toNatClampNeg else mHi σ (mOw σ x).toNatClampNeg) else -2000000000) else 0)) ∧ jfr aSc bSc σ τ ∧ τ.1 322 11 = if mR σ x = true then 0 else 1)
set_option maxRecDepth 100000 in
set_option maxHeartbeats 4000000 in
theorem CX12_extreme (g : jG) (n : Nat) : jOk g (n + 15) mX12_extreme oX12_extreme := by
  refine joRII_ok ?_
  rintro _ x y σ ⟨rfl, hok, hd⟩
  have hd1 : dOK ((jup σ 322 11 0).1 323) := hd.1
  by_cases h : mR σ x = true
  · refine jCon.ofP (by decide +kernel) (by simp [lg_sl, Value.category]) (fun post hp => ?_)
    refine jvk_ok TX12_extreme (V := [(142, 2, 12, oX12_isRoom), (138, 2, 12, oX12_fails), (206, 1, 12, oX12_proposes), (213, 2, 12, oX12_ownerOf), (185, 1, 12, oX12_layExtremes)]) (S := []) (List.forall_mem_cons.mpr ⟨⟨mX12_isRoom, n + 1, 1, TX12, 53, rfl, by omega, kX12_142, WX12_isRoom, rfl, CX12_isRoom g (n)⟩, (List.forall_mem_cons.mpr ⟨⟨mX12_fails, n + 0, 1, TX12, 53, rfl, by omega, kX12_138, WX12_fails, rfl, CX12_fails g (n)⟩, (List.forall_mem_cons.mpr ⟨⟨mX12_proposes, n + 14, 0, TX12, 53, rfl, by omega, kX12_206, WX12_proposes, rfl, CX12_proposes g (n)⟩, (List.forall_mem_cons.mpr ⟨⟨mX12_ownerOf, n + 0, 1, TX12, 53, rfl, by omega, kX12_213, WX12_ownerOf, rfl, CX12_ownerOf g (n)⟩, (List.forall_mem_cons.mpr ⟨⟨mX12_layExtremes, n + 4, 0, TX12, 53, rfl, by omega, kX12_185, WX12_layExtremes, rfl, CX12_layExtremes g (n)⟩, (fun _ h => absurd h List.not_mem_nil)⟩)⟩)⟩)⟩)⟩) (fun _ h => absurd h List.not_mem_nil) [18] 20 _ _ _ _ ?_
    simp (maxSteps := 1000000) [↓Bool.cond_eq_ite, -Prod.forall, -Prod.exists, -Prod.mk.injEq, jvk, tX12_extreme, jtb, jol, jst, jlk, jcmp, jbin, jfl, fX12, jc2, lX12, jcat, jel, lv_args, Value.category, jins, jsrt, jins2, jble, jblt, jf3, List.filter_cons, List.filter_nil, G_m, oX12_isRoom, oX12_fails, oX12_proposes, oX12_ownerOf, oX12_layExtremes, joR, joRI, -Int32.not_le, -Int32.not_lt, -Int64.not_le, -Int64.not_lt, i3lt, i6lt, h, mOK_th hok, hd1]
    try simp (disch := omega) [-Prod.forall, -Prod.exists, -Prod.mk.injEq, -Int32.not_le, -Int32.not_lt, -Int64.not_le, -Int64.not_lt, i3lt, i6lt, h, mOK_th hok, hd1]
    intro v0 τ0 hv0 f0 ha0
    subst hv0
    have eC : dC (jup σ 322 11 0) = dC σ := rfl
    have g0 : jfr aSc bSc σ τ0 := (sc_th σ 0).tr (sc_of f0 sc_Tr (fun _ _ => rfl))
    have s0 : sR σ τ0 := sc_R g0
    have e11 : τ0.1 322 11 = 0 := f0.2.2 322 11 rfl
    rw [eC] at ha0 ⊢
    have hok0 := sc_ok hok g0
    have hch := ac_C ha0 s0
    have eow := mOw_eq hok s0 hch x
    rcases hC0 : dC σ with _ | c
    · refine jvk_ok TX12_extreme (V := [(142, 2, 12, oX12_isRoom), (138, 2, 12, oX12_fails), (206, 1, 12, oX12_proposes), (213, 2, 12, oX12_ownerOf), (185, 1, 12, oX12_layExtremes)]) (S := []) (List.forall_mem_cons.mpr ⟨⟨mX12_isRoom, n + 1, 1, TX12, 53, rfl, by omega, kX12_142, WX12_isRoom, rfl, CX12_isRoom g (n)⟩, (List.forall_mem_cons.mpr ⟨⟨mX12_fails, n + 0, 1, TX12, 53, rfl, by omega, kX12_138, WX12_fails, rfl, CX12_fails g (n)⟩, (List.forall_mem_cons.mpr ⟨⟨mX12_proposes, n + 14, 0, TX12, 53, rfl, by omega, kX12_206, WX12_proposes, rfl, CX12_proposes g (n)⟩, (List.forall_mem_cons.mpr ⟨⟨mX12_ownerOf, n + 0, 1, TX12, 53, rfl, by omega, kX12_213, WX12_ownerOf, rfl, CX12_ownerOf g (n)⟩, (List.forall_mem_cons.mpr ⟨⟨mX12_layExtremes, n + 4, 0, TX12, 53, rfl, by omega, kX12_185, WX12_layExtremes, rfl, CX12_layExtremes g (n)⟩, (fun _ h => absurd h List.not_mem_nil)⟩)⟩)⟩)⟩)⟩) (fun _ h => absurd h List.not_mem_nil) [] 20 _ _ _ _ ?_
      simp (maxSteps := 1000000) [↓Bool.cond_eq_ite, -Prod.forall, -Prod.exists, -Prod.mk.injEq, jvk, tX12_extreme, jtb, jol, jst, jlk, jcmp, jbin, jfl, fX12, jc2, lX12, jcat, jel, lv_args, Value.category, jins, jsrt, jins2, jble, jblt, jf3, List.filter_cons, List.filter_nil, G_m, oX12_isRoom, oX12_fails, oX12_proposes, oX12_ownerOf, oX12_layExtremes, joR, joRI, -Int32.not_le, -Int32.not_lt, -Int64.not_le, -Int64.not_lt, i3lt, i6lt]
      try simp (disch := omega) [-Prod.forall, -Prod.exists, -Prod.mk.injEq, -Int32.not_le, -Int32.not_lt, -Int64.not_le, -Int64.not_lt, i3lt, i6lt]
      exact hp _ _ ⟨by rw [if_pos h, hC0, if_neg (by simp)], g0, by rw [if_pos h]; exact e11⟩
    · have hs : (dC σ).isSome = true := by rw [hC0]; rfl
      rcases ff_rng (p := fun p => decide (qch (dC σ) (xl σ) (mN σ) p = x)) (mN σ) 0 with hw | ⟨j, -, hj, -, hw⟩
      · have hw' : mOw σ x = -1 := hw
        rw [hw'] at eow
        refine jvk_ok TX12_extreme (V := [(142, 2, 12, oX12_isRoom), (138, 2, 12, oX12_fails), (206, 1, 12, oX12_proposes), (213, 2, 12, oX12_ownerOf), (185, 1, 12, oX12_layExtremes)]) (S := []) (List.forall_mem_cons.mpr ⟨⟨mX12_isRoom, n + 1, 1, TX12, 53, rfl, by omega, kX12_142, WX12_isRoom, rfl, CX12_isRoom g (n)⟩, (List.forall_mem_cons.mpr ⟨⟨mX12_fails, n + 0, 1, TX12, 53, rfl, by omega, kX12_138, WX12_fails, rfl, CX12_fails g (n)⟩, (List.forall_mem_cons.mpr ⟨⟨mX12_proposes, n + 14, 0, TX12, 53, rfl, by omega, kX12_206, WX12_proposes, rfl, CX12_proposes g (n)⟩, (List.forall_mem_cons.mpr ⟨⟨mX12_ownerOf, n + 0, 1, TX12, 53, rfl, by omega, kX12_213, WX12_ownerOf, rfl, CX12_ownerOf g (n)⟩, (List.forall_mem_cons.mpr ⟨⟨mX12_layExtremes, n + 4, 0, TX12, 53, rfl, by omega, kX12_185, WX12_layExtremes, rfl, CX12_layExtremes g (n)⟩, (fun _ h => absurd h List.not_mem_nil)⟩)⟩)⟩)⟩)⟩) (fun _ h => absurd h List.not_mem_nil) [] 20 _ _ _ _ ?_
        simp (maxSteps := 1000000) [↓Bool.cond_eq_ite, -Prod.forall, -Prod.exists, -Prod.mk.injEq, jvk, tX12_extreme, jtb, jol, jst, jlk, jcmp, jbin, jfl, fX12, jc2, lX12, jcat, jel, lv_args, Value.category, jins, jsrt, jins2, jble, jblt, jf3, List.filter_cons, List.filter_nil, G_m, oX12_isRoom, oX12_fails, oX12_proposes, oX12_ownerOf, oX12_layExtremes, joR, joRI, -Int32.not_le, -Int32.not_lt, -Int64.not_le, -Int64.not_lt, i3lt, i6lt, hok0, eow]
        try simp (disch := omega) [-Prod.forall, -Prod.exists, -Prod.mk.injEq, -Int32.not_le, -Int32.not_lt, -Int64.not_le, -Int64.not_lt, i3lt, i6lt, hok0, eow]
        exact hp _ _ ⟨by rw [if_pos h, hw', if_neg (fun z => not_m1 z.2)], g0, by rw [if_pos h]; exact e11⟩
      · have hw' : mOw σ x = nI j := hw
        have h10 := (mN_le hok).1
        have hj0 : 0 ≤ nI j := nI_pos' (by omega)
        have hj1 : jin (nI j) 10 := jin_nI (by omega) (by decide)
        have ecj : (nI j).toNatClampNeg = j := nI_clamp (by omega)
        rw [hw'] at eow
        have hc : hC τ0 c := ⟨hok0, by rw [s0.1]; exact hd.1, by rw [sR_C s0, hC0], by rw [hC0] at ha0; exact ha0⟩
        have hne : ∃ c, hC τ0 c := ⟨c, hc⟩
        refine jvk_ok TX12_extreme (V := [(142, 2, 12, oX12_isRoom), (138, 2, 12, oX12_fails), (206, 1, 12, oX12_proposes), (213, 2, 12, oX12_ownerOf), (185, 1, 12, oX12_layExtremes)]) (S := []) (List.forall_mem_cons.mpr ⟨⟨mX12_isRoom, n + 1, 1, TX12, 53, rfl, by omega, kX12_142, WX12_isRoom, rfl, CX12_isRoom g (n)⟩, (List.forall_mem_cons.mpr ⟨⟨mX12_fails, n + 0, 1, TX12, 53, rfl, by omega, kX12_138, WX12_fails, rfl, CX12_fails g (n)⟩, (List.forall_mem_cons.mpr ⟨⟨mX12_proposes, n + 14, 0, TX12, 53, rfl, by omega, kX12_206, WX12_proposes, rfl, CX12_proposes g (n)⟩, (List.forall_mem_cons.mpr ⟨⟨mX12_ownerOf, n + 0, 1, TX12, 53, rfl, by omega, kX12_213, WX12_ownerOf, rfl, CX12_ownerOf g (n)⟩, (List.forall_mem_cons.mpr ⟨⟨mX12_layExtremes, n + 4, 0, TX12, 53, rfl, by omega, kX12_185, WX12_layExtremes, rfl, CX12_layExtremes g (n)⟩, (fun _ h => absurd h List.not_mem_nil)⟩)⟩)⟩)⟩)⟩) (fun _ h => absurd h List.not_mem_nil) [36] 40 _ _ _ _ ?_
        simp (maxSteps := 1000000) [↓Bool.cond_eq_ite, -Prod.forall, -Prod.exists, -Prod.mk.injEq, jvk, tX12_extreme, jtb, jol, jst, jlk, jcmp, jbin, jfl, fX12, jc2, lX12, jcat, jel, lv_args, Value.category, jins, jsrt, jins2, jble, jblt, jf3, List.filter_cons, List.filter_nil, G_m, oX12_isRoom, oX12_fails, oX12_proposes, oX12_ownerOf, oX12_layExtremes, joR, joRI, -Int32.not_le, -Int32.not_lt, -Int64.not_le, -Int64.not_lt, i3lt, i6lt, hok0, eow, hj0, hne]
        try simp (disch := omega) [-Prod.forall, -Prod.exists, -Prod.mk.injEq, -Int32.not_le, -Int32.not_lt, -Int64.not_le, -Int64.not_lt, i3lt, i6lt, hok0, eow, hj0, hne]
        intro v1 τ1 hv1 f1 h1
        subst hv1
        have g1 : jfr aSc bSc σ τ1 := g0.tr (sc_of f1 sc_Ex (fun _ _ => rfl))
        have s1 : sR σ τ1 := sc_R g1
        have eow1 := mOw_eq hok s1 (fun q hq => by rw [f1.2.2 330 q rfl]; exact hch q hq) x
        rw [hw'] at eow1
        have hx := h1 j (by rw [sR_N s0]; omega)
        rw [sR_Lo s0, sR_Hi s0] at hx
        have hx1 := hx.1
        have hx2 := hx.2
        have hok1 := sc_ok hok g1
        by_cases hy : y = 0
        · refine jvk_ok TX12_extreme (V := [(142, 2, 12, oX12_isRoom), (138, 2, 12, oX12_fails), (206, 1, 12, oX12_proposes), (213, 2, 12, oX12_ownerOf), (185, 1, 12, oX12_layExtremes)]) (S := []) (List.forall_mem_cons.mpr ⟨⟨mX12_isRoom, n + 1, 1, TX12, 53, rfl, by omega, kX12_142, WX12_isRoom, rfl, CX12_isRoom g (n)⟩, (List.forall_mem_cons.mpr ⟨⟨mX12_fails, n + 0, 1, TX12, 53, rfl, by omega, kX12_138, WX12_fails, rfl, CX12_fails g (n)⟩, (List.forall_mem_cons.mpr ⟨⟨mX12_proposes, n + 14, 0, TX12, 53, rfl, by omega, kX12_206, WX12_proposes, rfl, CX12_proposes g (n)⟩, (List.forall_mem_cons.mpr ⟨⟨mX12_ownerOf, n + 0, 1, TX12, 53, rfl, by omega, kX12_213, WX12_ownerOf, rfl, CX12_ownerOf g (n)⟩, (List.forall_mem_cons.mpr ⟨⟨mX12_layExtremes, n + 4, 0, TX12, 53, rfl, by omega, kX12_185, WX12_layExtremes, rfl, CX12_layExtremes g (n)⟩, (fun _ h => absurd h List.not_mem_nil)⟩)⟩)⟩)⟩)⟩) (fun _ h => absurd h List.not_mem_nil) [] 40 _ _ _ _ ?_
          simp (maxSteps := 1000000) [↓Bool.cond_eq_ite, -Prod.forall, -Prod.exists, -Prod.mk.injEq, jvk, tX12_extreme, jtb, jol, jst, jlk, jcmp, jbin, jfl, fX12, jc2, lX12, jcat, jel, lv_args, Value.category, jins, jsrt, jins2, jble, jblt, jf3, List.filter_cons, List.filter_nil, G_m, oX12_isRoom, oX12_fails, oX12_proposes, oX12_ownerOf, oX12_layExtremes, joR, joRI, -Int32.not_le, -Int32.not_lt, -Int64.not_le, -Int64.not_lt, i3lt, i6lt, hy, hok1, eow1, hj1, ecj, hx1, hx2]
          try simp (disch := omega) [-Prod.forall, -Prod.exists, -Prod.mk.injEq, -Int32.not_le, -Int32.not_lt, -Int64.not_le, -Int64.not_lt, i3lt, i6lt, hy, hok1, eow1, hj1, ecj, hx1, hx2]
          exact hp _ _ ⟨by rw [if_pos h, hw', if_pos ⟨hs, hj0⟩, if_pos hy, ecj], g1, by rw [if_pos h]; exact (f1.2.2 322 11 rfl).trans e11⟩
        · refine jvk_ok TX12_extreme (V := [(142, 2, 12, oX12_isRoom), (138, 2, 12, oX12_fails), (206, 1, 12, oX12_proposes), (213, 2, 12, oX12_ownerOf), (185, 1, 12, oX12_layExtremes)]) (S := []) (List.forall_mem_cons.mpr ⟨⟨mX12_isRoom, n + 1, 1, TX12, 53, rfl, by omega, kX12_142, WX12_isRoom, rfl, CX12_isRoom g (n)⟩, (List.forall_mem_cons.mpr ⟨⟨mX12_fails, n + 0, 1, TX12, 53, rfl, by omega, kX12_138, WX12_fails, rfl, CX12_fails g (n)⟩, (List.forall_mem_cons.mpr ⟨⟨mX12_proposes, n + 14, 0, TX12, 53, rfl, by omega, kX12_206, WX12_proposes, rfl, CX12_proposes g (n)⟩, (List.forall_mem_cons.mpr ⟨⟨mX12_ownerOf, n + 0, 1, TX12, 53, rfl, by omega, kX12_213, WX12_ownerOf, rfl, CX12_ownerOf g (n)⟩, (List.forall_mem_cons.mpr ⟨⟨mX12_layExtremes, n + 4, 0, TX12, 53, rfl, by omega, kX12_185, WX12_layExtremes, rfl, CX12_layExtremes g (n)⟩, (fun _ h => absurd h List.not_mem_nil)⟩)⟩)⟩)⟩)⟩) (fun _ h => absurd h List.not_mem_nil) [] 40 _ _ _ _ ?_
          simp (maxSteps := 1000000) [↓Bool.cond_eq_ite, -Prod.forall, -Prod.exists, -Prod.mk.injEq, jvk, tX12_extreme, jtb, jol, jst, jlk, jcmp, jbin, jfl, fX12, jc2, lX12, jcat, jel, lv_args, Value.category, jins, jsrt, jins2, jble, jblt, jf3, List.filter_cons, List.filter_nil, G_m, oX12_isRoom, oX12_fails, oX12_proposes, oX12_ownerOf, oX12_layExtremes, joR, joRI, -Int32.not_le, -Int32.not_lt, -Int64.not_le, -Int64.not_lt, i3lt, i6lt, hy, hok1, eow1, hj1, ecj, hx1, hx2]
          try simp (disch := omega) [-Prod.forall, -Prod.exists, -Prod.mk.injEq, -Int32.not_le, -Int32.not_lt, -Int64.not_le, -Int64.not_lt, i3lt, i6lt, hy, hok1, eow1, hj1, ecj, hx1, hx2]
          exact hp _ _ ⟨by rw [if_pos h, hw', if_pos ⟨hs, hj0⟩, if_neg hy, ecj], g1, by rw [if_pos h]; exact (f1.2.2 322 11 rfl).trans e11⟩
  · refine jCon.ofP (by decide +kernel) (by simp [lg_sl, Value.category]) (fun post hp => ?_)
    refine jvk_ok TX12_extreme (V := [(142, 2, 12, oX12_isRoom), (138, 2, 12, oX12_fails), (206, 1, 12, oX12_proposes), (213, 2, 12, oX12_ownerOf), (185, 1, 12, oX12_layExtremes)]) (S := []) (List.forall_mem_cons.mpr ⟨⟨mX12_isRoom, n + 1, 1, TX12, 53, rfl, by omega, kX12_142, WX12_isRoom, rfl, CX12_isRoom g (n)⟩, (List.forall_mem_cons.mpr ⟨⟨mX12_fails, n + 0, 1, TX12, 53, rfl, by omega, kX12_138, WX12_fails, rfl, CX12_fails g (n)⟩, (List.forall_mem_cons.mpr ⟨⟨mX12_proposes, n + 14, 0, TX12, 53, rfl, by omega, kX12_206, WX12_proposes, rfl, CX12_proposes g (n)⟩, (List.forall_mem_cons.mpr ⟨⟨mX12_ownerOf, n + 0, 1, TX12, 53, rfl, by omega, kX12_213, WX12_ownerOf, rfl, CX12_ownerOf g (n)⟩, (List.forall_mem_cons.mpr ⟨⟨mX12_layExtremes, n + 4, 0, TX12, 53, rfl, by omega, kX12_185, WX12_layExtremes, rfl, CX12_layExtremes g (n)⟩, (fun _ h => absurd h List.not_mem_nil)⟩)⟩)⟩)⟩)⟩) (fun _ h => absurd h List.not_mem_nil) [] 20 _ _ _ _ ?_
    simp (maxSteps := 1000000) [↓Bool.cond_eq_ite, -Prod.forall, -Prod.exists, -Prod.mk.injEq, jvk, tX12_extreme, jtb, jol, jst, jlk, jcmp, jbin, jfl, fX12, jc2, lX12, jcat, jel, lv_args, Value.category, jins, jsrt, jins2, jble, jblt, jf3, List.filter_cons, List.filter_nil, G_m, oX12_isRoom, oX12_fails, oX12_proposes, oX12_ownerOf, oX12_layExtremes, joR, joRI, -Int32.not_le, -Int32.not_lt, -Int64.not_le, -Int64.not_lt, i3lt, i6lt, h]
    try simp (disch := omega) [-Prod.forall, -Prod.exists, -Prod.mk.injEq, -Int32.not_le, -Int32.not_lt, -Int64.not_le, -Int64.not_lt, i3lt, i6lt, h]
    exact hp _ _ ⟨by rw [if_neg h], sc_th σ 1, by rw [if_neg h]; rfl⟩
def oX12_price : jO := joRI fun a x σ => (a = 322 ∧ mOK σ ∧ dI (σ.1 323), fun v τ => v = some (.int (if mR σ x = true then (if (dC σ).isSome = true ∧ 0 ≤ mOw σ x then mPr σ (nI (shN σ)) (mOw σ x).toNatClampNeg else -2000000000) else 0)) ∧ jfr aSc bSc σ τ ∧ τ.1 322 11 = if mR σ x = true then 0 else 1)
set_option maxRecDepth 100000 in
set_option maxHeartbeats 4000000 in
theorem CX12_price (g : jG) (n : Nat) : jOk g (n + 16) mX12_price oX12_price := by
  refine joRI_ok ?_
  rintro _ x σ ⟨rfl, hok, hd⟩
  have hd1 : dI ((jup σ 322 11 0).1 323) := hd
  by_cases h : mR σ x = true
  · refine jCon.ofP (by decide +kernel) (by simp [lg_sl, Value.category]) (fun post hp => ?_)
    refine jvk_ok TX12_price (V := [(142, 2, 12, oX12_isRoom), (138, 2, 12, oX12_fails), (217, 1, 12, oX12_laysProposal), (213, 2, 12, oX12_ownerOf)]) (S := []) (List.forall_mem_cons.mpr ⟨⟨mX12_isRoom, n + 1, 1, TX12, 53, rfl, by omega, kX12_142, WX12_isRoom, rfl, CX12_isRoom g (n)⟩, (List.forall_mem_cons.mpr ⟨⟨mX12_fails, n + 0, 1, TX12, 53, rfl, by omega, kX12_138, WX12_fails, rfl, CX12_fails g (n)⟩, (List.forall_mem_cons.mpr ⟨⟨mX12_laysProposal, n + 15, 0, TX12, 53, rfl, by omega, kX12_217, WX12_laysProposal, rfl, CX12_laysProposal g (n)⟩, (List.forall_mem_cons.mpr ⟨⟨mX12_ownerOf, n + 0, 1, TX12, 53, rfl, by omega, kX12_213, WX12_ownerOf, rfl, CX12_ownerOf g (n)⟩, (fun _ h => absurd h List.not_mem_nil)⟩)⟩)⟩)⟩) (fun _ h => absurd h List.not_mem_nil) [18] 20 _ _ _ _ ?_
    simp (maxSteps := 1000000) [↓Bool.cond_eq_ite, -Prod.forall, -Prod.exists, -Prod.mk.injEq, jvk, tX12_price, jtb, jol, jst, jlk, jcmp, jbin, jfl, fX12, jc2, lX12, jcat, jel, lv_args, Value.category, jins, jsrt, jins2, jble, jblt, jf3, List.filter_cons, List.filter_nil, G_m, oX12_isRoom, oX12_fails, oX12_laysProposal, oX12_ownerOf, joR, joRI, -Int32.not_le, -Int32.not_lt, -Int64.not_le, -Int64.not_lt, i3lt, i6lt, h, mOK_th hok, hd1]
    try simp (disch := omega) [-Prod.forall, -Prod.exists, -Prod.mk.injEq, -Int32.not_le, -Int32.not_lt, -Int64.not_le, -Int64.not_lt, i3lt, i6lt, h, mOK_th hok, hd1]
    intro v0 τ0 hv0 f0 e11 ha0 hy0
    subst hv0
    have eC : dC (jup σ 322 11 0) = dC σ := rfl
    have g0 : jfr aSc bSc σ τ0 := (sc_th σ 0).tr f0
    have s0 : sR σ τ0 := sc_R g0
    rw [eC] at ha0 hy0 ⊢
    have e11' : τ0.1 322 11 = 0 := e11
    have hok0 := sc_ok hok g0
    have hch := ac_C ha0 s0
    have eow := mOw_eq hok s0 hch x
    by_cases hs : (dC σ).isSome = true
    · rcases ff_rng (p := fun p => decide (qch (dC σ) (xl σ) (mN σ) p = x)) (mN σ) 0 with hw | ⟨j, -, hj, -, hw⟩
      · have hw' : mOw σ x = -1 := hw
        rw [hw'] at eow
        refine jvk_ok TX12_price (V := [(142, 2, 12, oX12_isRoom), (138, 2, 12, oX12_fails), (217, 1, 12, oX12_laysProposal), (213, 2, 12, oX12_ownerOf)]) (S := []) (List.forall_mem_cons.mpr ⟨⟨mX12_isRoom, n + 1, 1, TX12, 53, rfl, by omega, kX12_142, WX12_isRoom, rfl, CX12_isRoom g (n)⟩, (List.forall_mem_cons.mpr ⟨⟨mX12_fails, n + 0, 1, TX12, 53, rfl, by omega, kX12_138, WX12_fails, rfl, CX12_fails g (n)⟩, (List.forall_mem_cons.mpr ⟨⟨mX12_laysProposal, n + 15, 0, TX12, 53, rfl, by omega, kX12_217, WX12_laysProposal, rfl, CX12_laysProposal g (n)⟩, (List.forall_mem_cons.mpr ⟨⟨mX12_ownerOf, n + 0, 1, TX12, 53, rfl, by omega, kX12_213, WX12_ownerOf, rfl, CX12_ownerOf g (n)⟩, (fun _ h => absurd h List.not_mem_nil)⟩)⟩)⟩)⟩) (fun _ h => absurd h List.not_mem_nil) [] 20 _ _ _ _ ?_
        simp (maxSteps := 1000000) [↓Bool.cond_eq_ite, -Prod.forall, -Prod.exists, -Prod.mk.injEq, jvk, tX12_price, jtb, jol, jst, jlk, jcmp, jbin, jfl, fX12, jc2, lX12, jcat, jel, lv_args, Value.category, jins, jsrt, jins2, jble, jblt, jf3, List.filter_cons, List.filter_nil, G_m, oX12_isRoom, oX12_fails, oX12_laysProposal, oX12_ownerOf, joR, joRI, -Int32.not_le, -Int32.not_lt, -Int64.not_le, -Int64.not_lt, i3lt, i6lt, hok0, eow, hs]
        try simp (disch := omega) [-Prod.forall, -Prod.exists, -Prod.mk.injEq, -Int32.not_le, -Int32.not_lt, -Int64.not_le, -Int64.not_lt, i3lt, i6lt, hok0, eow, hs]
        exact hp _ _ ⟨by rw [if_pos h, hw', if_neg (fun z => not_m1 z.2)], g0, by rw [if_pos h]; exact e11'⟩
      · have hw' : mOw σ x = nI j := hw
        have h10 := (mN_le hok).1
        have hj0 : 0 ≤ nI j := nI_pos' (by omega)
        have hj1 : jin (nI j) 10 := jin_nI (by omega) (by decide)
        have ecj : (nI j).toNatClampNeg = j := nI_clamp (by omega)
        rw [hw'] at eow
        have hj' : j < mN σ := by omega
        have hx := (hy0 hs j hj').1
        have hx' : τ0.1 334 j = mPr σ (nI (shN σ)) j := hx
        refine jvk_ok TX12_price (V := [(142, 2, 12, oX12_isRoom), (138, 2, 12, oX12_fails), (217, 1, 12, oX12_laysProposal), (213, 2, 12, oX12_ownerOf)]) (S := []) (List.forall_mem_cons.mpr ⟨⟨mX12_isRoom, n + 1, 1, TX12, 53, rfl, by omega, kX12_142, WX12_isRoom, rfl, CX12_isRoom g (n)⟩, (List.forall_mem_cons.mpr ⟨⟨mX12_fails, n + 0, 1, TX12, 53, rfl, by omega, kX12_138, WX12_fails, rfl, CX12_fails g (n)⟩, (List.forall_mem_cons.mpr ⟨⟨mX12_laysProposal, n + 15, 0, TX12, 53, rfl, by omega, kX12_217, WX12_laysProposal, rfl, CX12_laysProposal g (n)⟩, (List.forall_mem_cons.mpr ⟨⟨mX12_ownerOf, n + 0, 1, TX12, 53, rfl, by omega, kX12_213, WX12_ownerOf, rfl, CX12_ownerOf g (n)⟩, (fun _ h => absurd h List.not_mem_nil)⟩)⟩)⟩)⟩) (fun _ h => absurd h List.not_mem_nil) [] 40 _ _ _ _ ?_
        simp (maxSteps := 1000000) [↓Bool.cond_eq_ite, -Prod.forall, -Prod.exists, -Prod.mk.injEq, jvk, tX12_price, jtb, jol, jst, jlk, jcmp, jbin, jfl, fX12, jc2, lX12, jcat, jel, lv_args, Value.category, jins, jsrt, jins2, jble, jblt, jf3, List.filter_cons, List.filter_nil, G_m, oX12_isRoom, oX12_fails, oX12_laysProposal, oX12_ownerOf, joR, joRI, -Int32.not_le, -Int32.not_lt, -Int64.not_le, -Int64.not_lt, i3lt, i6lt, hok0, eow, hs, hj0, hj1, ecj, hx']
        try simp (disch := omega) [-Prod.forall, -Prod.exists, -Prod.mk.injEq, -Int32.not_le, -Int32.not_lt, -Int64.not_le, -Int64.not_lt, i3lt, i6lt, hok0, eow, hs, hj0, hj1, ecj, hx']
        exact hp _ _ ⟨by rw [if_pos h, hw', if_pos ⟨hs, hj0⟩, ecj], g0, by rw [if_pos h]; exact e11'⟩
    · refine jvk_ok TX12_price (V := [(142, 2, 12, oX12_isRoom), (138, 2, 12, oX12_fails), (217, 1, 12, oX12_laysProposal), (213, 2, 12, oX12_ownerOf)]) (S := []) (List.forall_mem_cons.mpr ⟨⟨mX12_isRoom, n + 1, 1, TX12, 53, rfl, by omega, kX12_142, WX12_isRoom, rfl, CX12_isRoom g (n)⟩, (List.forall_mem_cons.mpr ⟨⟨mX12_fails, n + 0, 1, TX12, 53, rfl, by omega, kX12_138, WX12_fails, rfl, CX12_fails g (n)⟩, (List.forall_mem_cons.mpr ⟨⟨mX12_laysProposal, n + 15, 0, TX12, 53, rfl, by omega, kX12_217, WX12_laysProposal, rfl, CX12_laysProposal g (n)⟩, (List.forall_mem_cons.mpr ⟨⟨mX12_ownerOf, n + 0, 1, TX12, 53, rfl, by omega, kX12_213, WX12_ownerOf, rfl, CX12_ownerOf g (n)⟩, (fun _ h => absurd h List.not_mem_nil)⟩)⟩)⟩)⟩) (fun _ h => absurd h List.not_mem_nil) [] 20 _ _ _ _ ?_
      simp (maxSteps := 1000000) [↓Bool.cond_eq_ite, -Prod.forall, -Prod.exists, -Prod.mk.injEq, jvk, tX12_price, jtb, jol, jst, jlk, jcmp, jbin, jfl, fX12, jc2, lX12, jcat, jel, lv_args, Value.category, jins, jsrt, jins2, jble, jblt, jf3, List.filter_cons, List.filter_nil, G_m, oX12_isRoom, oX12_fails, oX12_laysProposal, oX12_ownerOf, joR, joRI, -Int32.not_le, -Int32.not_lt, -Int64.not_le, -Int64.not_lt, i3lt, i6lt, hs]
      try simp (disch := omega) [-Prod.forall, -Prod.exists, -Prod.mk.injEq, -Int32.not_le, -Int32.not_lt, -Int64.not_le, -Int64.not_lt, i3lt, i6lt, hs]
      exact hp _ _ ⟨by rw [if_pos h, if_neg (fun z => hs z.1)], g0, by rw [if_pos h]; exact e11'⟩
  · refine jCon.ofP (by decide +kernel) (by simp [lg_sl, Value.category]) (fun post hp => ?_)
    refine jvk_ok TX12_price (V := [(142, 2, 12, oX12_isRoom), (138, 2, 12, oX12_fails), (217, 1, 12, oX12_laysProposal), (213, 2, 12, oX12_ownerOf)]) (S := []) (List.forall_mem_cons.mpr ⟨⟨mX12_isRoom, n + 1, 1, TX12, 53, rfl, by omega, kX12_142, WX12_isRoom, rfl, CX12_isRoom g (n)⟩, (List.forall_mem_cons.mpr ⟨⟨mX12_fails, n + 0, 1, TX12, 53, rfl, by omega, kX12_138, WX12_fails, rfl, CX12_fails g (n)⟩, (List.forall_mem_cons.mpr ⟨⟨mX12_laysProposal, n + 15, 0, TX12, 53, rfl, by omega, kX12_217, WX12_laysProposal, rfl, CX12_laysProposal g (n)⟩, (List.forall_mem_cons.mpr ⟨⟨mX12_ownerOf, n + 0, 1, TX12, 53, rfl, by omega, kX12_213, WX12_ownerOf, rfl, CX12_ownerOf g (n)⟩, (fun _ h => absurd h List.not_mem_nil)⟩)⟩)⟩)⟩) (fun _ h => absurd h List.not_mem_nil) [] 20 _ _ _ _ ?_
    simp (maxSteps := 1000000) [↓Bool.cond_eq_ite, -Prod.forall, -Prod.exists, -Prod.mk.injEq, jvk, tX12_price, jtb, jol, jst, jlk, jcmp, jbin, jfl, fX12, jc2, lX12, jcat, jel, lv_args, Value.category, jins, jsrt, jins2, jble, jblt, jf3, List.filter_cons, List.filter_nil, G_m, oX12_isRoom, oX12_fails, oX12_laysProposal, oX12_ownerOf, joR, joRI, -Int32.not_le, -Int32.not_lt, -Int64.not_le, -Int64.not_lt, i3lt, i6lt, h]
    try simp (disch := omega) [-Prod.forall, -Prod.exists, -Prod.mk.injEq, -Int32.not_le, -Int32.not_lt, -Int64.not_le, -Int64.not_lt, i3lt, i6lt, h]
    exact hp _ _ ⟨by rw [if_neg h], sc_th σ 1, by rw [if_neg h]; rfl⟩
def oX12_surplusOf : jO := joRI fun a x σ => (a = 322 ∧ jin x 10 ∧ jin (σ.1 330 x.toNatClampNeg) 6, fun v τ => v = some (.int (120 * mD σ x.toNatClampNeg (7 + (σ.1 330 x.toNatClampNeg).toNatClampNeg) - σ.1 334 x.toNatClampNeg)) ∧ τ = σ)
set_option maxRecDepth 100000 in
set_option maxHeartbeats 4000000 in
theorem CX12_surplusOf (g : jG) (n : Nat) : jOk g (n + 3) mX12_surplusOf oX12_surplusOf := by
  refine joRI_ok ?_
  rintro _ x σ ⟨rfl, h1, h2⟩
  refine jCon.ofF (by decide +kernel) (by simp [lg_sl, Value.category]) ?_
  refine jvk_ok TX12_surplusOf (V := [(145, 3, 12, oX12_value)]) (S := []) (List.forall_mem_cons.mpr ⟨⟨mX12_value, n + 2, 2, TX12, 53, rfl, by omega, kX12_145, WX12_value, rfl, CX12_value g (n)⟩, (fun _ h => absurd h List.not_mem_nil)⟩) (fun _ h => absurd h List.not_mem_nil) [] 20 _ _ _ _ ?_
  simp (maxSteps := 1000000) [↓Bool.cond_eq_ite, -Prod.forall, -Prod.exists, -Prod.mk.injEq, jvk, tX12_surplusOf, jtb, jol, jst, jlk, jcmp, jbin, jfl, fX12, jc2, lX12, jcat, jel, lv_args, Value.category, jins, jsrt, jins2, jble, jblt, jf3, List.filter_cons, List.filter_nil, G_m, oX12_value, joRII, -Int32.not_le, -Int32.not_lt, -Int64.not_le, -Int64.not_lt, i3lt, i6lt, h1, h2]
  try simp (disch := omega) [-Prod.forall, -Prod.exists, -Prod.mk.injEq, -Int32.not_le, -Int32.not_lt, -Int64.not_le, -Int64.not_lt, i3lt, i6lt, h1, h2]
def mSu (σ : jM) (p : Nat) : Int32 := 120 * mD σ p (7 + mA σ (cn (xl σ) p)) - mPr σ (nI (shN σ)) p
theorem mSu_eq {σ τ : jM} (hok : mOK σ) (hd : dI (σ.1 323)) (s : sR σ τ) (hok0 : mOK τ) (ha : accOK τ (dC σ)) (hs : (dC σ).isSome = true) (hy : pyOK σ τ (shN σ)) {p : Nat} (hp : p < mN σ) (hl : xl σ p = true) : jin (τ.1 330 p) 6 ∧ 120 * mD τ p (7 + (τ.1 330 p).toNatClampNeg) - τ.1 334 p = mSu σ p := by
  obtain ⟨c, hC0⟩ := Option.isSome_iff_exists.mp hs
  have hc : hC τ c := ⟨hok0, by rw [s.1]; exact hd.1, by rw [sR_C s, hC0], by rw [hC0] at ha; exact ha⟩
  have hl' : dL (τ.1 323) p = true := by rw [s.1]; exact hl
  obtain ⟨q1, q2, q3⟩ := hC_liv hc (by rw [sR_N s]; exact hp) hl'
  have eA : mA σ = c.2.2 := by rw [mA, hC0]
  rw [q3, nI_clamp (by omega), (hy p hp).1, sR_D s, mSu, eA]
  have e : cn (dL (τ.1 323)) p = cn (xl σ) p := by rw [s.1]
  rw [e] at q2 ⊢
  exact ⟨jin_nI q2 (by decide), rfl⟩
def oX12_surplus : jO := joRI fun a x σ => (a = 322 ∧ mOK σ ∧ dI (σ.1 323), fun v τ => v = some (.int (mNo σ x (mSu σ x.toNatClampNeg))) ∧ jfr aSc bSc σ τ ∧ τ.1 322 11 = if mP σ x = true then 0 else 1)
set_option maxRecDepth 100000 in
set_option maxHeartbeats 4000000 in
theorem CX12_surplus (g : jG) (n : Nat) : jOk g (n + 16) mX12_surplus oX12_surplus := by
  refine joRI_ok ?_
  rintro _ x σ ⟨rfl, hok, hd⟩
  have hd1 : dI ((jup σ 322 11 0).1 323) := hd
  by_cases h : mP σ x = true
  · have hx := (mP_jin hok h).2
    refine jCon.ofP (by decide +kernel) (by simp [lg_sl, Value.category]) (fun post hp => ?_)
    refine jvk_ok TX12_surplus (V := [(135, 2, 12, oX12_isPerson), (138, 2, 12, oX12_fails), (217, 1, 12, oX12_laysProposal), (131, 2, 12, oX12_isLiving), (220, 2, 12, oX12_surplusOf)]) (S := []) (List.forall_mem_cons.mpr ⟨⟨mX12_isPerson, n + 1, 1, TX12, 53, rfl, by omega, kX12_135, WX12_isPerson, rfl, CX12_isPerson g (n)⟩, (List.forall_mem_cons.mpr ⟨⟨mX12_fails, n + 0, 1, TX12, 53, rfl, by omega, kX12_138, WX12_fails, rfl, CX12_fails g (n)⟩, (List.forall_mem_cons.mpr ⟨⟨mX12_laysProposal, n + 15, 0, TX12, 53, rfl, by omega, kX12_217, WX12_laysProposal, rfl, CX12_laysProposal g (n)⟩, (List.forall_mem_cons.mpr ⟨⟨mX12_isLiving, n + 2, 1, TX12, 53, rfl, by omega, kX12_131, WX12_isLiving, rfl, CX12_isLiving g (n)⟩, (List.forall_mem_cons.mpr ⟨⟨mX12_surplusOf, n + 3, 1, TX12, 53, rfl, by omega, kX12_220, WX12_surplusOf, rfl, CX12_surplusOf g (n)⟩, (fun _ h => absurd h List.not_mem_nil)⟩)⟩)⟩)⟩)⟩) (fun _ h => absurd h List.not_mem_nil) [18] 20 _ _ _ _ ?_
    simp (maxSteps := 1000000) [↓Bool.cond_eq_ite, -Prod.forall, -Prod.exists, -Prod.mk.injEq, jvk, tX12_surplus, jtb, jol, jst, jlk, jcmp, jbin, jfl, fX12, jc2, lX12, jcat, jel, lv_args, Value.category, jins, jsrt, jins2, jble, jblt, jf3, List.filter_cons, List.filter_nil, G_m, oX12_isPerson, oX12_fails, oX12_laysProposal, oX12_isLiving, oX12_surplusOf, joR, joRI, -Int32.not_le, -Int32.not_lt, -Int64.not_le, -Int64.not_lt, i3lt, i6lt, h, mOK_th hok, hd1]
    try simp (disch := omega) [-Prod.forall, -Prod.exists, -Prod.mk.injEq, -Int32.not_le, -Int32.not_lt, -Int64.not_le, -Int64.not_lt, i3lt, i6lt, h, mOK_th hok, hd1]
    intro v0 τ0 hv0 f0 e11 ha0 hy0
    subst hv0
    have eC : dC (jup σ 322 11 0) = dC σ := rfl
    have g0 : jfr aSc bSc σ τ0 := (sc_th σ 0).tr f0
    have s0 : sR σ τ0 := sc_R g0
    have e11' : τ0.1 322 11 = 0 := e11
    rw [eC] at ha0 hy0 ⊢
    by_cases hC0 : (dC σ).isSome = true
    · by_cases hl : xl σ x.toNatClampNeg = true
      · have hl1 : mD τ0 x.toNatClampNeg 0 = 1 := by rw [sR_D s0, mD_xl]; exact hl
        obtain ⟨b1, b2⟩ := mSu_eq hok hd s0 (sc_ok hok g0) ha0 hC0 (hy0 hC0) (mP_lt hok h) hl
        refine jvk_ok TX12_surplus (V := [(135, 2, 12, oX12_isPerson), (138, 2, 12, oX12_fails), (217, 1, 12, oX12_laysProposal), (131, 2, 12, oX12_isLiving), (220, 2, 12, oX12_surplusOf)]) (S := []) (List.forall_mem_cons.mpr ⟨⟨mX12_isPerson, n + 1, 1, TX12, 53, rfl, by omega, kX12_135, WX12_isPerson, rfl, CX12_isPerson g (n)⟩, (List.forall_mem_cons.mpr ⟨⟨mX12_fails, n + 0, 1, TX12, 53, rfl, by omega, kX12_138, WX12_fails, rfl, CX12_fails g (n)⟩, (List.forall_mem_cons.mpr ⟨⟨mX12_laysProposal, n + 15, 0, TX12, 53, rfl, by omega, kX12_217, WX12_laysProposal, rfl, CX12_laysProposal g (n)⟩, (List.forall_mem_cons.mpr ⟨⟨mX12_isLiving, n + 2, 1, TX12, 53, rfl, by omega, kX12_131, WX12_isLiving, rfl, CX12_isLiving g (n)⟩, (List.forall_mem_cons.mpr ⟨⟨mX12_surplusOf, n + 3, 1, TX12, 53, rfl, by omega, kX12_220, WX12_surplusOf, rfl, CX12_surplusOf g (n)⟩, (fun _ h => absurd h List.not_mem_nil)⟩)⟩)⟩)⟩)⟩) (fun _ h => absurd h List.not_mem_nil) [] 20 _ _ _ _ ?_
        simp (maxSteps := 1000000) [↓Bool.cond_eq_ite, -Prod.forall, -Prod.exists, -Prod.mk.injEq, jvk, tX12_surplus, jtb, jol, jst, jlk, jcmp, jbin, jfl, fX12, jc2, lX12, jcat, jel, lv_args, Value.category, jins, jsrt, jins2, jble, jblt, jf3, List.filter_cons, List.filter_nil, G_m, oX12_isPerson, oX12_fails, oX12_laysProposal, oX12_isLiving, oX12_surplusOf, joR, joRI, -Int32.not_le, -Int32.not_lt, -Int64.not_le, -Int64.not_lt, i3lt, i6lt, hC0, hx, hl1, b1, b2, jin_c, tn_c]
        try simp (disch := omega) [-Prod.forall, -Prod.exists, -Prod.mk.injEq, -Int32.not_le, -Int32.not_lt, -Int64.not_le, -Int64.not_lt, i3lt, i6lt, hC0, hx, hl1, b1, b2, jin_c, tn_c]
        exact hp _ _ ⟨by rw [mNo, if_pos h, if_pos ⟨hC0, hl⟩], g0, by rw [if_pos h]; exact e11'⟩
      · have hl1 : ¬ mD τ0 x.toNatClampNeg 0 = 1 := by rw [sR_D s0, mD_xl]; exact hl
        refine jvk_ok TX12_surplus (V := [(135, 2, 12, oX12_isPerson), (138, 2, 12, oX12_fails), (217, 1, 12, oX12_laysProposal), (131, 2, 12, oX12_isLiving), (220, 2, 12, oX12_surplusOf)]) (S := []) (List.forall_mem_cons.mpr ⟨⟨mX12_isPerson, n + 1, 1, TX12, 53, rfl, by omega, kX12_135, WX12_isPerson, rfl, CX12_isPerson g (n)⟩, (List.forall_mem_cons.mpr ⟨⟨mX12_fails, n + 0, 1, TX12, 53, rfl, by omega, kX12_138, WX12_fails, rfl, CX12_fails g (n)⟩, (List.forall_mem_cons.mpr ⟨⟨mX12_laysProposal, n + 15, 0, TX12, 53, rfl, by omega, kX12_217, WX12_laysProposal, rfl, CX12_laysProposal g (n)⟩, (List.forall_mem_cons.mpr ⟨⟨mX12_isLiving, n + 2, 1, TX12, 53, rfl, by omega, kX12_131, WX12_isLiving, rfl, CX12_isLiving g (n)⟩, (List.forall_mem_cons.mpr ⟨⟨mX12_surplusOf, n + 3, 1, TX12, 53, rfl, by omega, kX12_220, WX12_surplusOf, rfl, CX12_surplusOf g (n)⟩, (fun _ h => absurd h List.not_mem_nil)⟩)⟩)⟩)⟩)⟩) (fun _ h => absurd h List.not_mem_nil) [] 20 _ _ _ _ ?_
        simp (maxSteps := 1000000) [↓Bool.cond_eq_ite, -Prod.forall, -Prod.exists, -Prod.mk.injEq, jvk, tX12_surplus, jtb, jol, jst, jlk, jcmp, jbin, jfl, fX12, jc2, lX12, jcat, jel, lv_args, Value.category, jins, jsrt, jins2, jble, jblt, jf3, List.filter_cons, List.filter_nil, G_m, oX12_isPerson, oX12_fails, oX12_laysProposal, oX12_isLiving, oX12_surplusOf, joR, joRI, -Int32.not_le, -Int32.not_lt, -Int64.not_le, -Int64.not_lt, i3lt, i6lt, hC0, hx, hl1, jin_c, tn_c]
        try simp (disch := omega) [-Prod.forall, -Prod.exists, -Prod.mk.injEq, -Int32.not_le, -Int32.not_lt, -Int64.not_le, -Int64.not_lt, i3lt, i6lt, hC0, hx, hl1, jin_c, tn_c]
        exact hp _ _ ⟨by rw [mNo, if_pos h, if_neg (fun z => hl z.2)], g0, by rw [if_pos h]; exact e11'⟩
    · refine jvk_ok TX12_surplus (V := [(135, 2, 12, oX12_isPerson), (138, 2, 12, oX12_fails), (217, 1, 12, oX12_laysProposal), (131, 2, 12, oX12_isLiving), (220, 2, 12, oX12_surplusOf)]) (S := []) (List.forall_mem_cons.mpr ⟨⟨mX12_isPerson, n + 1, 1, TX12, 53, rfl, by omega, kX12_135, WX12_isPerson, rfl, CX12_isPerson g (n)⟩, (List.forall_mem_cons.mpr ⟨⟨mX12_fails, n + 0, 1, TX12, 53, rfl, by omega, kX12_138, WX12_fails, rfl, CX12_fails g (n)⟩, (List.forall_mem_cons.mpr ⟨⟨mX12_laysProposal, n + 15, 0, TX12, 53, rfl, by omega, kX12_217, WX12_laysProposal, rfl, CX12_laysProposal g (n)⟩, (List.forall_mem_cons.mpr ⟨⟨mX12_isLiving, n + 2, 1, TX12, 53, rfl, by omega, kX12_131, WX12_isLiving, rfl, CX12_isLiving g (n)⟩, (List.forall_mem_cons.mpr ⟨⟨mX12_surplusOf, n + 3, 1, TX12, 53, rfl, by omega, kX12_220, WX12_surplusOf, rfl, CX12_surplusOf g (n)⟩, (fun _ h => absurd h List.not_mem_nil)⟩)⟩)⟩)⟩)⟩) (fun _ h => absurd h List.not_mem_nil) [] 20 _ _ _ _ ?_
      simp (maxSteps := 1000000) [↓Bool.cond_eq_ite, -Prod.forall, -Prod.exists, -Prod.mk.injEq, jvk, tX12_surplus, jtb, jol, jst, jlk, jcmp, jbin, jfl, fX12, jc2, lX12, jcat, jel, lv_args, Value.category, jins, jsrt, jins2, jble, jblt, jf3, List.filter_cons, List.filter_nil, G_m, oX12_isPerson, oX12_fails, oX12_laysProposal, oX12_isLiving, oX12_surplusOf, joR, joRI, -Int32.not_le, -Int32.not_lt, -Int64.not_le, -Int64.not_lt, i3lt, i6lt, hC0]
      try simp (disch := omega) [-Prod.forall, -Prod.exists, -Prod.mk.injEq, -Int32.not_le, -Int32.not_lt, -Int64.not_le, -Int64.not_lt, i3lt, i6lt, hC0]
      exact hp _ _ ⟨by rw [mNo, if_pos h, if_neg (fun z => hC0 z.1)], g0, by rw [if_pos h]; exact e11'⟩
  · refine jCon.ofP (by decide +kernel) (by simp [lg_sl, Value.category]) (fun post hp => ?_)
    refine jvk_ok TX12_surplus (V := [(135, 2, 12, oX12_isPerson), (138, 2, 12, oX12_fails), (217, 1, 12, oX12_laysProposal), (131, 2, 12, oX12_isLiving), (220, 2, 12, oX12_surplusOf)]) (S := []) (List.forall_mem_cons.mpr ⟨⟨mX12_isPerson, n + 1, 1, TX12, 53, rfl, by omega, kX12_135, WX12_isPerson, rfl, CX12_isPerson g (n)⟩, (List.forall_mem_cons.mpr ⟨⟨mX12_fails, n + 0, 1, TX12, 53, rfl, by omega, kX12_138, WX12_fails, rfl, CX12_fails g (n)⟩, (List.forall_mem_cons.mpr ⟨⟨mX12_laysProposal, n + 15, 0, TX12, 53, rfl, by omega, kX12_217, WX12_laysProposal, rfl, CX12_laysProposal g (n)⟩, (List.forall_mem_cons.mpr ⟨⟨mX12_isLiving, n + 2, 1, TX12, 53, rfl, by omega, kX12_131, WX12_isLiving, rfl, CX12_isLiving g (n)⟩, (List.forall_mem_cons.mpr ⟨⟨mX12_surplusOf, n + 3, 1, TX12, 53, rfl, by omega, kX12_220, WX12_surplusOf, rfl, CX12_surplusOf g (n)⟩, (fun _ h => absurd h List.not_mem_nil)⟩)⟩)⟩)⟩)⟩) (fun _ h => absurd h List.not_mem_nil) [] 20 _ _ _ _ ?_
    simp (maxSteps := 1000000) [↓Bool.cond_eq_ite, -Prod.forall, -Prod.exists, -Prod.mk.injEq, jvk, tX12_surplus, jtb, jol, jst, jlk, jcmp, jbin, jfl, fX12, jc2, lX12, jcat, jel, lv_args, Value.category, jins, jsrt, jins2, jble, jblt, jf3, List.filter_cons, List.filter_nil, G_m, oX12_isPerson, oX12_fails, oX12_laysProposal, oX12_isLiving, oX12_surplusOf, joR, joRI, -Int32.not_le, -Int32.not_lt, -Int64.not_le, -Int64.not_lt, i3lt, i6lt, h]
    try simp (disch := omega) [-Prod.forall, -Prod.exists, -Prod.mk.injEq, -Int32.not_le, -Int32.not_lt, -Int64.not_le, -Int64.not_lt, i3lt, i6lt, h]
    exact hp _ _ ⟨by rw [mNo, if_neg h], sc_th σ 1, by rw [if_neg h]; rfl⟩
/-- the first with the least surplus -/
def mLs (σ : jM) : Nat → Option Nat
  | 0 => none
  | k + 1 => if xl σ k = true then (match mLs σ k with
    | none => some k
    | some b => if mSu σ k < mSu σ b then some k else some b) else mLs σ k
def oN (x : Option Nat) : Int32 := match x with
  | none => -1
  | some b => nI b
theorem mLs_lt {σ : jM} : ∀ {k b : Nat}, mLs σ k = some b → b < k ∧ xl σ b = true
  | 0, b, h => by cases h
  | k + 1, b, h => by
    simp only [mLs] at h
    by_cases hl : xl σ k = true
    · rw [if_pos hl] at h
      rcases e : mLs σ k with _ | c
      · rw [e] at h
        cases h
        exact ⟨by omega, hl⟩
      · rw [e] at h
        dsimp only at h
        have := mLs_lt e
        split at h
        · cases h; exact ⟨by omega, hl⟩
        · cases h; exact ⟨by omega, this.2⟩
    · rw [if_neg hl] at h
      have := mLs_lt h
      exact ⟨by omega, this.2⟩
def oX12_leastSurplus : jO := joR fun a σ => (a = 322 ∧ mOK σ ∧ dI (σ.1 323), fun v τ => v = some (.int (if (dC σ).isSome = true then oN (mLs σ (mN σ)) else -1)) ∧ jfr aSc bSc σ τ ∧ τ.1 322 11 = 0)
set_option maxRecDepth 100000 in
set_option maxHeartbeats 4000000 in
theorem CX12_leastSurplus (g : jG) (n : Nat) : jOk g (n + 16) mX12_leastSurplus oX12_leastSurplus := by
  refine joR_ok ?_
  rintro _ σ ⟨rfl, hok, hd⟩
  obtain ⟨hN10, hN4⟩ := mN_le hok
  have hd1 : dI ((jup σ 322 11 0).1 323) := hd
  refine jCon.ofP (by decide +kernel) (by simp [lg_sl, Value.category]) (fun post hp => ?_)
  refine jvk_ok TX12_leastSurplus (V := [(217, 1, 12, oX12_laysProposal), (131, 2, 12, oX12_isLiving), (220, 2, 12, oX12_surplusOf)]) (S := []) (List.forall_mem_cons.mpr ⟨⟨mX12_laysProposal, n + 15, 0, TX12, 53, rfl, by omega, kX12_217, WX12_laysProposal, rfl, CX12_laysProposal g (n)⟩, (List.forall_mem_cons.mpr ⟨⟨mX12_isLiving, n + 2, 1, TX12, 53, rfl, by omega, kX12_131, WX12_isLiving, rfl, CX12_isLiving g (n)⟩, (List.forall_mem_cons.mpr ⟨⟨mX12_surplusOf, n + 3, 1, TX12, 53, rfl, by omega, kX12_220, WX12_surplusOf, rfl, CX12_surplusOf g (n)⟩, (fun _ h => absurd h List.not_mem_nil)⟩)⟩)⟩) (fun _ h => absurd h List.not_mem_nil) [9] 20 _ _ _ _ ?_
  simp (maxSteps := 1000000) [↓Bool.cond_eq_ite, -Prod.forall, -Prod.exists, -Prod.mk.injEq, jvk, tX12_leastSurplus, jtb, jol, jst, jlk, jcmp, jbin, jfl, fX12, jc2, lX12, jcat, jel, lv_args, Value.category, jins, jsrt, jins2, jble, jblt, jf3, List.filter_cons, List.filter_nil, G_m, oX12_laysProposal, oX12_isLiving, oX12_surplusOf, joR, joRI, -Int32.not_le, -Int32.not_lt, -Int64.not_le, -Int64.not_lt, i3lt, i6lt, mOK_th hok, hd1]
  try simp (disch := omega) [-Prod.forall, -Prod.exists, -Prod.mk.injEq, -Int32.not_le, -Int32.not_lt, -Int64.not_le, -Int64.not_lt, i3lt, i6lt, mOK_th hok, hd1]
  intro v0 τ0 hv0 f0 e11 ha0 hy0
  subst hv0
  have eC : dC (jup σ 322 11 0) = dC σ := rfl
  have g0 : jfr aSc bSc σ τ0 := (sc_th σ 0).tr f0
  have s0 : sR σ τ0 := sc_R g0
  have e11' : τ0.1 322 11 = 0 := e11
  rw [eC] at ha0 hy0 ⊢
  by_cases hC0 : (dC σ).isSome = true
  · have e4 : τ0.1 322 4 = nI (mN σ) := s0.2.2.trans hN4
    have key := jloop (P := fun k => jW g mX12_leastSurplus (n + 16) post 18 [(0, .ref 322), (1, .int (oN (mLs σ k))), (2, .int (nI k))] [] τ0) (N := mN σ) (by
      have hle : nI (mN σ) ≤ nI (mN σ) := nI_le (Nat.le_refl _) (by omega)
      refine jvk_ok TX12_leastSurplus (V := [(217, 1, 12, oX12_laysProposal), (131, 2, 12, oX12_isLiving), (220, 2, 12, oX12_surplusOf)]) (S := []) (List.forall_mem_cons.mpr ⟨⟨mX12_laysProposal, n + 15, 0, TX12, 53, rfl, by omega, kX12_217, WX12_laysProposal, rfl, CX12_laysProposal g (n)⟩, (List.forall_mem_cons.mpr ⟨⟨mX12_isLiving, n + 2, 1, TX12, 53, rfl, by omega, kX12_131, WX12_isLiving, rfl, CX12_isLiving g (n)⟩, (List.forall_mem_cons.mpr ⟨⟨mX12_surplusOf, n + 3, 1, TX12, 53, rfl, by omega, kX12_220, WX12_surplusOf, rfl, CX12_surplusOf g (n)⟩, (fun _ h => absurd h List.not_mem_nil)⟩)⟩)⟩) (fun _ h => absurd h List.not_mem_nil) [18] 20 _ _ _ _ ?_
      simp (maxSteps := 1000000) [↓Bool.cond_eq_ite, -Prod.forall, -Prod.exists, -Prod.mk.injEq, jvk, tX12_leastSurplus, jtb, jol, jst, jlk, jcmp, jbin, jfl, fX12, jc2, lX12, jcat, jel, lv_args, Value.category, jins, jsrt, jins2, jble, jblt, jf3, List.filter_cons, List.filter_nil, G_m, oX12_laysProposal, oX12_isLiving, oX12_surplusOf, joR, joRI, -Int32.not_le, -Int32.not_lt, -Int64.not_le, -Int64.not_lt, i3lt, i6lt, e4, hle]
      try simp (disch := omega) [-Prod.forall, -Prod.exists, -Prod.mk.injEq, -Int32.not_le, -Int32.not_lt, -Int64.not_le, -Int64.not_lt, i3lt, i6lt, e4, hle]
      exact hp _ _ ⟨by rw [if_pos hC0], g0, e11'⟩) (fun k hk ih => by
      have hlt : ¬ nI (mN σ) ≤ nI k := nI_ge hk (by omega)
      have hk1 : jin (nI k) 10 := jin_nI (by omega) (by decide)
      have eck : (nI k).toNatClampNeg = k := nI_clamp (by omega)
      simp only [mLs] at ih
      by_cases hl : xl σ k = true
      · have hl1 : mD τ0 k 0 = 1 := by rw [sR_D s0, mD_xl]; exact hl
        obtain ⟨b1, b2⟩ := mSu_eq hok hd s0 (sc_ok hok g0) ha0 hC0 (hy0 hC0) hk hl
        rw [if_pos hl] at ih
        rcases eb : mLs σ k with _ | b
        · rw [eb] at ih
          have e0 : oN none = -1 := rfl
          have e1 : oN (some k) = nI k := rfl
          dsimp only at ih
          rw [e1] at ih
          refine jvk_ok TX12_leastSurplus (V := [(217, 1, 12, oX12_laysProposal), (131, 2, 12, oX12_isLiving), (220, 2, 12, oX12_surplusOf)]) (S := []) (List.forall_mem_cons.mpr ⟨⟨mX12_laysProposal, n + 15, 0, TX12, 53, rfl, by omega, kX12_217, WX12_laysProposal, rfl, CX12_laysProposal g (n)⟩, (List.forall_mem_cons.mpr ⟨⟨mX12_isLiving, n + 2, 1, TX12, 53, rfl, by omega, kX12_131, WX12_isLiving, rfl, CX12_isLiving g (n)⟩, (List.forall_mem_cons.mpr ⟨⟨mX12_surplusOf, n + 3, 1, TX12, 53, rfl, by omega, kX12_220, WX12_surplusOf, rfl, CX12_surplusOf g (n)⟩, (fun _ h => absurd h List.not_mem_nil)⟩)⟩)⟩) (fun _ h => absurd h List.not_mem_nil) [18] 40 _ _ _ _ ?_
          simp (maxSteps := 1000000) [↓Bool.cond_eq_ite, -Prod.forall, -Prod.exists, -Prod.mk.injEq, jvk, tX12_leastSurplus, jtb, jol, jst, jlk, jcmp, jbin, jfl, fX12, jc2, lX12, jcat, jel, lv_args, Value.category, jins, jsrt, jins2, jble, jblt, jf3, List.filter_cons, List.filter_nil, G_m, oX12_laysProposal, oX12_isLiving, oX12_surplusOf, joR, joRI, -Int32.not_le, -Int32.not_lt, -Int64.not_le, -Int64.not_lt, i3lt, i6lt, e4, hlt, hk1, eck, hl1, e0, nI_1]
          try simp (disch := omega) [-Prod.forall, -Prod.exists, -Prod.mk.injEq, -Int32.not_le, -Int32.not_lt, -Int64.not_le, -Int64.not_lt, i3lt, i6lt, e4, hlt, hk1, eck, hl1, e0, nI_1]
          exact ih
        · rw [eb] at ih
          have hb := mLs_lt eb
          have e0 : oN (some b) = nI b := rfl
          have hj0 : 0 ≤ nI b := nI_pos' (by omega)
          have hj1 : jin (nI b) 10 := jin_nI (by omega) (by decide)
          have ecj : (nI b).toNatClampNeg = b := nI_clamp (by omega)
          obtain ⟨c1, c2⟩ := mSu_eq hok hd s0 (sc_ok hok g0) ha0 hC0 (hy0 hC0) (show b < mN σ by omega) hb.2
          dsimp only at ih
          by_cases hc : mSu σ k < mSu σ b
          · rw [if_pos hc] at ih
            have hc' : ¬ mSu σ b ≤ mSu σ k := by grind
            have e1 : oN (some k) = nI k := rfl
            rw [e1] at ih
            refine jvk_ok TX12_leastSurplus (V := [(217, 1, 12, oX12_laysProposal), (131, 2, 12, oX12_isLiving), (220, 2, 12, oX12_surplusOf)]) (S := []) (List.forall_mem_cons.mpr ⟨⟨mX12_laysProposal, n + 15, 0, TX12, 53, rfl, by omega, kX12_217, WX12_laysProposal, rfl, CX12_laysProposal g (n)⟩, (List.forall_mem_cons.mpr ⟨⟨mX12_isLiving, n + 2, 1, TX12, 53, rfl, by omega, kX12_131, WX12_isLiving, rfl, CX12_isLiving g (n)⟩, (List.forall_mem_cons.mpr ⟨⟨mX12_surplusOf, n + 3, 1, TX12, 53, rfl, by omega, kX12_220, WX12_surplusOf, rfl, CX12_surplusOf g (n)⟩, (fun _ h => absurd h List.not_mem_nil)⟩)⟩)⟩) (fun _ h => absurd h List.not_mem_nil) [18] 40 _ _ _ _ ?_
            simp (maxSteps := 1000000) [↓Bool.cond_eq_ite, -Prod.forall, -Prod.exists, -Prod.mk.injEq, jvk, tX12_leastSurplus, jtb, jol, jst, jlk, jcmp, jbin, jfl, fX12, jc2, lX12, jcat, jel, lv_args, Value.category, jins, jsrt, jins2, jble, jblt, jf3, List.filter_cons, List.filter_nil, G_m, oX12_laysProposal, oX12_isLiving, oX12_surplusOf, joR, joRI, -Int32.not_le, -Int32.not_lt, -Int64.not_le, -Int64.not_lt, i3lt, i6lt, e4, hlt, hk1, eck, hl1, e0, hj0, hj1, ecj, b1, b2, c1, c2, hc', nI_1]
            try simp (disch := omega) [-Prod.forall, -Prod.exists, -Prod.mk.injEq, -Int32.not_le, -Int32.not_lt, -Int64.not_le, -Int64.not_lt, i3lt, i6lt, e4, hlt, hk1, eck, hl1, e0, hj0, hj1, ecj, b1, b2, c1, c2, hc', nI_1]
            exact ih
          · rw [if_neg hc] at ih
            have hc' : mSu σ b ≤ mSu σ k := by grind
            rw [e0] at ih
            refine jvk_ok TX12_leastSurplus (V := [(217, 1, 12, oX12_laysProposal), (131, 2, 12, oX12_isLiving), (220, 2, 12, oX12_surplusOf)]) (S := []) (List.forall_mem_cons.mpr ⟨⟨mX12_laysProposal, n + 15, 0, TX12, 53, rfl, by omega, kX12_217, WX12_laysProposal, rfl, CX12_laysProposal g (n)⟩, (List.forall_mem_cons.mpr ⟨⟨mX12_isLiving, n + 2, 1, TX12, 53, rfl, by omega, kX12_131, WX12_isLiving, rfl, CX12_isLiving g (n)⟩, (List.forall_mem_cons.mpr ⟨⟨mX12_surplusOf, n + 3, 1, TX12, 53, rfl, by omega, kX12_220, WX12_surplusOf, rfl, CX12_surplusOf g (n)⟩, (fun _ h => absurd h List.not_mem_nil)⟩)⟩)⟩) (fun _ h => absurd h List.not_mem_nil) [18] 40 _ _ _ _ ?_
            simp (maxSteps := 1000000) [↓Bool.cond_eq_ite, -Prod.forall, -Prod.exists, -Prod.mk.injEq, jvk, tX12_leastSurplus, jtb, jol, jst, jlk, jcmp, jbin, jfl, fX12, jc2, lX12, jcat, jel, lv_args, Value.category, jins, jsrt, jins2, jble, jblt, jf3, List.filter_cons, List.filter_nil, G_m, oX12_laysProposal, oX12_isLiving, oX12_surplusOf, joR, joRI, -Int32.not_le, -Int32.not_lt, -Int64.not_le, -Int64.not_lt, i3lt, i6lt, e4, hlt, hk1, eck, hl1, e0, hj0, hj1, ecj, b1, b2, c1, c2, hc', nI_1]
            try simp (disch := omega) [-Prod.forall, -Prod.exists, -Prod.mk.injEq, -Int32.not_le, -Int32.not_lt, -Int64.not_le, -Int64.not_lt, i3lt, i6lt, e4, hlt, hk1, eck, hl1, e0, hj0, hj1, ecj, b1, b2, c1, c2, hc', nI_1]
            exact ih
      · have hl1 : ¬ mD τ0 k 0 = 1 := by rw [sR_D s0, mD_xl]; exact hl
        rw [if_neg hl] at ih
        refine jvk_ok TX12_leastSurplus (V := [(217, 1, 12, oX12_laysProposal), (131, 2, 12, oX12_isLiving), (220, 2, 12, oX12_surplusOf)]) (S := []) (List.forall_mem_cons.mpr ⟨⟨mX12_laysProposal, n + 15, 0, TX12, 53, rfl, by omega, kX12_217, WX12_laysProposal, rfl, CX12_laysProposal g (n)⟩, (List.forall_mem_cons.mpr ⟨⟨mX12_isLiving, n + 2, 1, TX12, 53, rfl, by omega, kX12_131, WX12_isLiving, rfl, CX12_isLiving g (n)⟩, (List.forall_mem_cons.mpr ⟨⟨mX12_surplusOf, n + 3, 1, TX12, 53, rfl, by omega, kX12_220, WX12_surplusOf, rfl, CX12_surplusOf g (n)⟩, (fun _ h => absurd h List.not_mem_nil)⟩)⟩)⟩) (fun _ h => absurd h List.not_mem_nil) [18] 40 _ _ _ _ ?_
        simp (maxSteps := 1000000) [↓Bool.cond_eq_ite, -Prod.forall, -Prod.exists, -Prod.mk.injEq, jvk, tX12_leastSurplus, jtb, jol, jst, jlk, jcmp, jbin, jfl, fX12, jc2, lX12, jcat, jel, lv_args, Value.category, jins, jsrt, jins2, jble, jblt, jf3, List.filter_cons, List.filter_nil, G_m, oX12_laysProposal, oX12_isLiving, oX12_surplusOf, joR, joRI, -Int32.not_le, -Int32.not_lt, -Int64.not_le, -Int64.not_lt, i3lt, i6lt, e4, hlt, hk1, eck, hl1, nI_1]
        try simp (disch := omega) [-Prod.forall, -Prod.exists, -Prod.mk.injEq, -Int32.not_le, -Int32.not_lt, -Int64.not_le, -Int64.not_lt, i3lt, i6lt, e4, hlt, hk1, eck, hl1, nI_1]
        exact ih)
    rw [nI_0] at key
    refine jvk_ok TX12_leastSurplus (V := [(217, 1, 12, oX12_laysProposal), (131, 2, 12, oX12_isLiving), (220, 2, 12, oX12_surplusOf)]) (S := []) (List.forall_mem_cons.mpr ⟨⟨mX12_laysProposal, n + 15, 0, TX12, 53, rfl, by omega, kX12_217, WX12_laysProposal, rfl, CX12_laysProposal g (n)⟩, (List.forall_mem_cons.mpr ⟨⟨mX12_isLiving, n + 2, 1, TX12, 53, rfl, by omega, kX12_131, WX12_isLiving, rfl, CX12_isLiving g (n)⟩, (List.forall_mem_cons.mpr ⟨⟨mX12_surplusOf, n + 3, 1, TX12, 53, rfl, by omega, kX12_220, WX12_surplusOf, rfl, CX12_surplusOf g (n)⟩, (fun _ h => absurd h List.not_mem_nil)⟩)⟩)⟩) (fun _ h => absurd h List.not_mem_nil) [18] 20 _ _ _ _ ?_
    simp (maxSteps := 1000000) [↓Bool.cond_eq_ite, -Prod.forall, -Prod.exists, -Prod.mk.injEq, jvk, tX12_leastSurplus, jtb, jol, jst, jlk, jcmp, jbin, jfl, fX12, jc2, lX12, jcat, jel, lv_args, Value.category, jins, jsrt, jins2, jble, jblt, jf3, List.filter_cons, List.filter_nil, G_m, oX12_laysProposal, oX12_isLiving, oX12_surplusOf, joR, joRI, -Int32.not_le, -Int32.not_lt, -Int64.not_le, -Int64.not_lt, i3lt, i6lt, hC0]
    try simp (disch := omega) [-Prod.forall, -Prod.exists, -Prod.mk.injEq, -Int32.not_le, -Int32.not_lt, -Int64.not_le, -Int64.not_lt, i3lt, i6lt, hC0]
    exact key
  · refine jvk_ok TX12_leastSurplus (V := [(217, 1, 12, oX12_laysProposal), (131, 2, 12, oX12_isLiving), (220, 2, 12, oX12_surplusOf)]) (S := []) (List.forall_mem_cons.mpr ⟨⟨mX12_laysProposal, n + 15, 0, TX12, 53, rfl, by omega, kX12_217, WX12_laysProposal, rfl, CX12_laysProposal g (n)⟩, (List.forall_mem_cons.mpr ⟨⟨mX12_isLiving, n + 2, 1, TX12, 53, rfl, by omega, kX12_131, WX12_isLiving, rfl, CX12_isLiving g (n)⟩, (List.forall_mem_cons.mpr ⟨⟨mX12_surplusOf, n + 3, 1, TX12, 53, rfl, by omega, kX12_220, WX12_surplusOf, rfl, CX12_surplusOf g (n)⟩, (fun _ h => absurd h List.not_mem_nil)⟩)⟩)⟩) (fun _ h => absurd h List.not_mem_nil) [] 20 _ _ _ _ ?_
    simp (maxSteps := 1000000) [↓Bool.cond_eq_ite, -Prod.forall, -Prod.exists, -Prod.mk.injEq, jvk, tX12_leastSurplus, jtb, jol, jst, jlk, jcmp, jbin, jfl, fX12, jc2, lX12, jcat, jel, lv_args, Value.category, jins, jsrt, jins2, jble, jblt, jf3, List.filter_cons, List.filter_nil, G_m, oX12_laysProposal, oX12_isLiving, oX12_surplusOf, joR, joRI, -Int32.not_le, -Int32.not_lt, -Int64.not_le, -Int64.not_lt, i3lt, i6lt, hC0]
    try simp (disch := omega) [-Prod.forall, -Prod.exists, -Prod.mk.injEq, -Int32.not_le, -Int32.not_lt, -Int64.not_le, -Int64.not_lt, i3lt, i6lt, hC0]
    exact hp _ _ ⟨by rw [if_neg hC0], g0, e11'⟩
def oX12_affords : jO := joRI fun a x σ => (a = 322 ∧ mOK σ, fun v τ => v = some (.int (nI (cn (fun p => xl σ p && decide (σ.1 340 p * 100 ≤ mD σ p 1 * x)) (mN σ)))) ∧ τ = σ)
set_option maxRecDepth 100000 in
set_option maxHeartbeats 4000000 in
theorem CX12_affords (g : jG) (n : Nat) : jOk g (n + 3) mX12_affords oX12_affords := by
  refine joRI_ok ?_
  rintro _ x σ ⟨rfl, hok⟩
  obtain ⟨hN10, hN4⟩ := mN_le hok
  refine jCon.ofP (by decide +kernel) (by simp [lg_sl, Value.category]) (fun post hp => ?_)
  refine jvk_ok TX12_affords (V := [(131, 2, 12, oX12_isLiving), (128, 3, 12, oX12_of)]) (S := []) (List.forall_mem_cons.mpr ⟨⟨mX12_isLiving, n + 2, 1, TX12, 53, rfl, by omega, kX12_131, WX12_isLiving, rfl, CX12_isLiving g (n)⟩, (List.forall_mem_cons.mpr ⟨⟨mX12_of, n + 1, 2, TX12, 53, rfl, by omega, kX12_128, WX12_of, rfl, CX12_of g (n)⟩, (fun _ h => absurd h List.not_mem_nil)⟩)⟩) (fun _ h => absurd h List.not_mem_nil) [4] 20 _ _ _ _ ?_
  simp (maxSteps := 1000000) [↓Bool.cond_eq_ite, -Prod.forall, -Prod.exists, -Prod.mk.injEq, jvk, tX12_affords, jtb, jol, jst, jlk, jcmp, jbin, jfl, fX12, jc2, lX12, jcat, jel, lv_args, Value.category, jins, jsrt, jins2, jble, jblt, jf3, List.filter_cons, List.filter_nil, G_m, oX12_isLiving, oX12_of, joRI, joRII, -Int32.not_le, -Int32.not_lt, -Int64.not_le, -Int64.not_lt, i3lt, i6lt]
  try simp (disch := omega) [-Prod.forall, -Prod.exists, -Prod.mk.injEq, -Int32.not_le, -Int32.not_lt, -Int64.not_le, -Int64.not_lt, i3lt, i6lt]
  have key := jloop (P := fun k => jW g mX12_affords (n + 3) post 4 [(0, .ref 322), (1, .int x), (2, .int (nI (cn (fun p => xl σ p && decide (σ.1 340 p * 100 ≤ mD σ p 1 * x)) k))), (3, .int (nI k))] [] σ) (N := mN σ) (by
    have hle : nI (mN σ) ≤ nI (mN σ) := nI_le (Nat.le_refl _) (by omega)
    refine jvk_ok TX12_affords (V := [(131, 2, 12, oX12_isLiving), (128, 3, 12, oX12_of)]) (S := []) (List.forall_mem_cons.mpr ⟨⟨mX12_isLiving, n + 2, 1, TX12, 53, rfl, by omega, kX12_131, WX12_isLiving, rfl, CX12_isLiving g (n)⟩, (List.forall_mem_cons.mpr ⟨⟨mX12_of, n + 1, 2, TX12, 53, rfl, by omega, kX12_128, WX12_of, rfl, CX12_of g (n)⟩, (fun _ h => absurd h List.not_mem_nil)⟩)⟩) (fun _ h => absurd h List.not_mem_nil) [4] 20 _ _ _ _ ?_
    simp (maxSteps := 1000000) [↓Bool.cond_eq_ite, -Prod.forall, -Prod.exists, -Prod.mk.injEq, jvk, tX12_affords, jtb, jol, jst, jlk, jcmp, jbin, jfl, fX12, jc2, lX12, jcat, jel, lv_args, Value.category, jins, jsrt, jins2, jble, jblt, jf3, List.filter_cons, List.filter_nil, G_m, oX12_isLiving, oX12_of, joRI, joRII, -Int32.not_le, -Int32.not_lt, -Int64.not_le, -Int64.not_lt, i3lt, i6lt, hN4, hle]
    try simp (disch := omega) [-Prod.forall, -Prod.exists, -Prod.mk.injEq, -Int32.not_le, -Int32.not_lt, -Int64.not_le, -Int64.not_lt, i3lt, i6lt, hN4, hle]
    exact hp _ _ ⟨rfl, rfl⟩) (fun k hk ih => by
    have hlt : ¬ nI (mN σ) ≤ nI k := nI_ge hk (by omega)
    have hk1 : jin (nI k) 10 := jin_nI (by omega) (by decide)
    have eck : (nI k).toNatClampNeg = k := nI_clamp (by omega)
    simp only [cn] at ih
    by_cases hl : xl σ k = true
    · have hl1 : mD σ k 0 = 1 := by rw [mD_xl]; exact hl
      by_cases hc : σ.1 340 k * 100 ≤ mD σ k 1 * x
      · rw [if_pos (by simp [hl, hc]), ← nI_1] at ih
        refine jvk_ok TX12_affords (V := [(131, 2, 12, oX12_isLiving), (128, 3, 12, oX12_of)]) (S := []) (List.forall_mem_cons.mpr ⟨⟨mX12_isLiving, n + 2, 1, TX12, 53, rfl, by omega, kX12_131, WX12_isLiving, rfl, CX12_isLiving g (n)⟩, (List.forall_mem_cons.mpr ⟨⟨mX12_of, n + 1, 2, TX12, 53, rfl, by omega, kX12_128, WX12_of, rfl, CX12_of g (n)⟩, (fun _ h => absurd h List.not_mem_nil)⟩)⟩) (fun _ h => absurd h List.not_mem_nil) [4] 40 _ _ _ _ ?_
        simp (maxSteps := 1000000) [↓Bool.cond_eq_ite, -Prod.forall, -Prod.exists, -Prod.mk.injEq, jvk, tX12_affords, jtb, jol, jst, jlk, jcmp, jbin, jfl, fX12, jc2, lX12, jcat, jel, lv_args, Value.category, jins, jsrt, jins2, jble, jblt, jf3, List.filter_cons, List.filter_nil, G_m, oX12_isLiving, oX12_of, joRI, joRII, -Int32.not_le, -Int32.not_lt, -Int64.not_le, -Int64.not_lt, i3lt, i6lt, hN4, hlt, hk1, eck, hl1, hc, jin_c, tn_c, nI_1]
        try simp (disch := omega) [-Prod.forall, -Prod.exists, -Prod.mk.injEq, -Int32.not_le, -Int32.not_lt, -Int64.not_le, -Int64.not_lt, i3lt, i6lt, hN4, hlt, hk1, eck, hl1, hc, jin_c, tn_c, nI_1]
        simpa [nI_1] using ih
      · rw [if_neg (by simp [hl, hc])] at ih
        refine jvk_ok TX12_affords (V := [(131, 2, 12, oX12_isLiving), (128, 3, 12, oX12_of)]) (S := []) (List.forall_mem_cons.mpr ⟨⟨mX12_isLiving, n + 2, 1, TX12, 53, rfl, by omega, kX12_131, WX12_isLiving, rfl, CX12_isLiving g (n)⟩, (List.forall_mem_cons.mpr ⟨⟨mX12_of, n + 1, 2, TX12, 53, rfl, by omega, kX12_128, WX12_of, rfl, CX12_of g (n)⟩, (fun _ h => absurd h List.not_mem_nil)⟩)⟩) (fun _ h => absurd h List.not_mem_nil) [4] 40 _ _ _ _ ?_
        simp (maxSteps := 1000000) [↓Bool.cond_eq_ite, -Prod.forall, -Prod.exists, -Prod.mk.injEq, jvk, tX12_affords, jtb, jol, jst, jlk, jcmp, jbin, jfl, fX12, jc2, lX12, jcat, jel, lv_args, Value.category, jins, jsrt, jins2, jble, jblt, jf3, List.filter_cons, List.filter_nil, G_m, oX12_isLiving, oX12_of, joRI, joRII, -Int32.not_le, -Int32.not_lt, -Int64.not_le, -Int64.not_lt, i3lt, i6lt, hN4, hlt, hk1, eck, hl1, hc, jin_c, tn_c, nI_1]
        try simp (disch := omega) [-Prod.forall, -Prod.exists, -Prod.mk.injEq, -Int32.not_le, -Int32.not_lt, -Int64.not_le, -Int64.not_lt, i3lt, i6lt, hN4, hlt, hk1, eck, hl1, hc, jin_c, tn_c, nI_1]
        simpa using ih
    · have hl1 : ¬ mD σ k 0 = 1 := by rw [mD_xl]; exact hl
      rw [if_neg (by simp [hl])] at ih
      refine jvk_ok TX12_affords (V := [(131, 2, 12, oX12_isLiving), (128, 3, 12, oX12_of)]) (S := []) (List.forall_mem_cons.mpr ⟨⟨mX12_isLiving, n + 2, 1, TX12, 53, rfl, by omega, kX12_131, WX12_isLiving, rfl, CX12_isLiving g (n)⟩, (List.forall_mem_cons.mpr ⟨⟨mX12_of, n + 1, 2, TX12, 53, rfl, by omega, kX12_128, WX12_of, rfl, CX12_of g (n)⟩, (fun _ h => absurd h List.not_mem_nil)⟩)⟩) (fun _ h => absurd h List.not_mem_nil) [4] 40 _ _ _ _ ?_
      simp (maxSteps := 1000000) [↓Bool.cond_eq_ite, -Prod.forall, -Prod.exists, -Prod.mk.injEq, jvk, tX12_affords, jtb, jol, jst, jlk, jcmp, jbin, jfl, fX12, jc2, lX12, jcat, jel, lv_args, Value.category, jins, jsrt, jins2, jble, jblt, jf3, List.filter_cons, List.filter_nil, G_m, oX12_isLiving, oX12_of, joRI, joRII, -Int32.not_le, -Int32.not_lt, -Int64.not_le, -Int64.not_lt, i3lt, i6lt, hN4, hlt, hk1, eck, hl1, jin_c, tn_c, nI_1]
      try simp (disch := omega) [-Prod.forall, -Prod.exists, -Prod.mk.injEq, -Int32.not_le, -Int32.not_lt, -Int64.not_le, -Int64.not_lt, i3lt, i6lt, hN4, hlt, hk1, eck, hl1, jin_c, tn_c, nI_1]
      simpa using ih)
  simpa [nI_0, cn] using key
/-- how many can afford what is laid with a share -/
def mAf (σ : jM) (sh : Nat) (x : Int32) : Nat := cn (fun p => xl σ p && decide (paS σ sh (cn (xl σ) p) * 100 ≤ mD σ p 1 * x)) (mN σ)
theorem cn_congr {p q : Nat → Bool} : ∀ (n : Nat), (∀ j, j < n → p j = q j) → cn p n = cn q n
  | 0, _ => rfl
  | n + 1, h => by
    simp only [cn]
    rw [cn_congr n (fun j hj => h j (by omega)), h n (by omega)]
theorem mAf_eq {σ τ : jM} (s : sR σ τ) {sh : Nat} (hy : pyOK σ τ sh) (x : Int32) : cn (fun p => xl τ p && decide (τ.1 340 p * 100 ≤ mD τ p 1 * x)) (mN τ) = mAf σ sh x := by
  rw [sR_N s]
  refine cn_congr _ (fun j hj => ?_)
  rw [sR_l s, sR_D s, (hy j hj).2.2]
  by_cases hl : xl σ j = true
  · rw [if_pos hl]
  · simp [hl]
def oX12_affordable : jO := joRI fun a x σ => (a = 322 ∧ mOK σ ∧ dI (σ.1 323), fun v τ => v = some (.int (if mIn x 0 100 = true then (if (dC σ).isSome = true then nI (mAf σ (shN σ) x) else 0) else -2)) ∧ jfr aSc bSc σ τ ∧ τ.1 322 11 = 0)
set_option maxRecDepth 100000 in
set_option maxHeartbeats 4000000 in
theorem CX12_affordable (g : jG) (n : Nat) : jOk g (n + 16) mX12_affordable oX12_affordable := by
  refine joRI_ok ?_
  rintro _ x σ ⟨rfl, hok, hd⟩
  have hd1 : dI ((jup σ 322 11 0).1 323) := hd
  by_cases h : mIn x 0 100 = true
  · refine jCon.ofP (by decide +kernel) (by simp [lg_sl, Value.category]) (fun post hp => ?_)
    refine jvk_ok TX12_affordable (V := [(217, 1, 12, oX12_laysProposal), (223, 2, 12, oX12_affords)]) (S := [(117, 3, 0, oX12_inRange)]) (List.forall_mem_cons.mpr ⟨⟨mX12_laysProposal, n + 15, 0, TX12, 53, rfl, by omega, kX12_217, WX12_laysProposal, rfl, CX12_laysProposal g (n)⟩, (List.forall_mem_cons.mpr ⟨⟨mX12_affords, n + 3, 1, TX12, 53, rfl, by omega, kX12_223, WX12_affords, rfl, CX12_affords g (n)⟩, (fun _ h => absurd h List.not_mem_nil)⟩)⟩) (List.forall_mem_cons.mpr ⟨⟨mX12_inRange, n + 0, by omega, Or.inl kX12_117, WX12_inRange, CX12_inRange g (n)⟩, (fun _ h => absurd h List.not_mem_nil)⟩) [22] 20 _ _ _ _ ?_
    simp (maxSteps := 1000000) [↓Bool.cond_eq_ite, -Prod.forall, -Prod.exists, -Prod.mk.injEq, jvk, tX12_affordable, jtb, jol, jst, jlk, jcmp, jbin, jfl, fX12, jc2, lX12, jcat, jel, lv_args, Value.category, jins, jsrt, jins2, jble, jblt, jf3, List.filter_cons, List.filter_nil, G_m, oX12_inRange, oX12_laysProposal, oX12_affords, joIII, joR, joRI, -Int32.not_le, -Int32.not_lt, -Int64.not_le, -Int64.not_lt, i3lt, i6lt, h, mOK_th hok, hd1]
    try simp (disch := omega) [-Prod.forall, -Prod.exists, -Prod.mk.injEq, -Int32.not_le, -Int32.not_lt, -Int64.not_le, -Int64.not_lt, i3lt, i6lt, h, mOK_th hok, hd1]
    intro v0 τ0 hv0 f0 e11 ha0 hy0
    subst hv0
    have eC : dC (jup σ 322 11 0) = dC σ := rfl
    have g0 : jfr aSc bSc σ τ0 := (sc_th σ 0).tr f0
    have s0 : sR σ τ0 := sc_R g0
    have e11' : τ0.1 322 11 = 0 := e11
    rw [eC] at ha0 hy0 ⊢
    have hok0 := sc_ok hok g0
    by_cases hC0 : (dC σ).isSome = true
    · have ea := mAf_eq s0 (hy0 hC0) x
      refine jvk_ok TX12_affordable (V := [(217, 1, 12, oX12_laysProposal), (223, 2, 12, oX12_affords)]) (S := [(117, 3, 0, oX12_inRange)]) (List.forall_mem_cons.mpr ⟨⟨mX12_laysProposal, n + 15, 0, TX12, 53, rfl, by omega, kX12_217, WX12_laysProposal, rfl, CX12_laysProposal g (n)⟩, (List.forall_mem_cons.mpr ⟨⟨mX12_affords, n + 3, 1, TX12, 53, rfl, by omega, kX12_223, WX12_affords, rfl, CX12_affords g (n)⟩, (fun _ h => absurd h List.not_mem_nil)⟩)⟩) (List.forall_mem_cons.mpr ⟨⟨mX12_inRange, n + 0, by omega, Or.inl kX12_117, WX12_inRange, CX12_inRange g (n)⟩, (fun _ h => absurd h List.not_mem_nil)⟩) [] 20 _ _ _ _ ?_
      simp (maxSteps := 1000000) [↓Bool.cond_eq_ite, -Prod.forall, -Prod.exists, -Prod.mk.injEq, jvk, tX12_affordable, jtb, jol, jst, jlk, jcmp, jbin, jfl, fX12, jc2, lX12, jcat, jel, lv_args, Value.category, jins, jsrt, jins2, jble, jblt, jf3, List.filter_cons, List.filter_nil, G_m, oX12_inRange, oX12_laysProposal, oX12_affords, joIII, joR, joRI, -Int32.not_le, -Int32.not_lt, -Int64.not_le, -Int64.not_lt, i3lt, i6lt, hC0, hok0, ea]
      try simp (disch := omega) [-Prod.forall, -Prod.exists, -Prod.mk.injEq, -Int32.not_le, -Int32.not_lt, -Int64.not_le, -Int64.not_lt, i3lt, i6lt, hC0, hok0, ea]
      exact hp _ _ ⟨by rw [if_pos h, if_pos hC0]; rfl, g0, e11'⟩
    · refine jvk_ok TX12_affordable (V := [(217, 1, 12, oX12_laysProposal), (223, 2, 12, oX12_affords)]) (S := [(117, 3, 0, oX12_inRange)]) (List.forall_mem_cons.mpr ⟨⟨mX12_laysProposal, n + 15, 0, TX12, 53, rfl, by omega, kX12_217, WX12_laysProposal, rfl, CX12_laysProposal g (n)⟩, (List.forall_mem_cons.mpr ⟨⟨mX12_affords, n + 3, 1, TX12, 53, rfl, by omega, kX12_223, WX12_affords, rfl, CX12_affords g (n)⟩, (fun _ h => absurd h List.not_mem_nil)⟩)⟩) (List.forall_mem_cons.mpr ⟨⟨mX12_inRange, n + 0, by omega, Or.inl kX12_117, WX12_inRange, CX12_inRange g (n)⟩, (fun _ h => absurd h List.not_mem_nil)⟩) [] 20 _ _ _ _ ?_
      simp (maxSteps := 1000000) [↓Bool.cond_eq_ite, -Prod.forall, -Prod.exists, -Prod.mk.injEq, jvk, tX12_affordable, jtb, jol, jst, jlk, jcmp, jbin, jfl, fX12, jc2, lX12, jcat, jel, lv_args, Value.category, jins, jsrt, jins2, jble, jblt, jf3, List.filter_cons, List.filter_nil, G_m, oX12_inRange, oX12_laysProposal, oX12_affords, joIII, joR, joRI, -Int32.not_le, -Int32.not_lt, -Int64.not_le, -Int64.not_lt, i3lt, i6lt, hC0]
      try simp (disch := omega) [-Prod.forall, -Prod.exists, -Prod.mk.injEq, -Int32.not_le, -Int32.not_lt, -Int64.not_le, -Int64.not_lt, i3lt, i6lt, hC0]
      exact hp _ _ ⟨by rw [if_pos h, if_neg hC0], g0, e11'⟩
  · refine jCon.ofP (by decide +kernel) (by simp [lg_sl, Value.category]) (fun post hp => ?_)
    refine jvk_ok TX12_affordable (V := [(217, 1, 12, oX12_laysProposal), (223, 2, 12, oX12_affords)]) (S := [(117, 3, 0, oX12_inRange)]) (List.forall_mem_cons.mpr ⟨⟨mX12_laysProposal, n + 15, 0, TX12, 53, rfl, by omega, kX12_217, WX12_laysProposal, rfl, CX12_laysProposal g (n)⟩, (List.forall_mem_cons.mpr ⟨⟨mX12_affords, n + 3, 1, TX12, 53, rfl, by omega, kX12_223, WX12_affords, rfl, CX12_affords g (n)⟩, (fun _ h => absurd h List.not_mem_nil)⟩)⟩) (List.forall_mem_cons.mpr ⟨⟨mX12_inRange, n + 0, by omega, Or.inl kX12_117, WX12_inRange, CX12_inRange g (n)⟩, (fun _ h => absurd h List.not_mem_nil)⟩) [] 20 _ _ _ _ ?_
    simp (maxSteps := 1000000) [↓Bool.cond_eq_ite, -Prod.forall, -Prod.exists, -Prod.mk.injEq, jvk, tX12_affordable, jtb, jol, jst, jlk, jcmp, jbin, jfl, fX12, jc2, lX12, jcat, jel, lv_args, Value.category, jins, jsrt, jins2, jble, jblt, jf3, List.filter_cons, List.filter_nil, G_m, oX12_inRange, oX12_laysProposal, oX12_affords, joIII, joR, joRI, -Int32.not_le, -Int32.not_lt, -Int64.not_le, -Int64.not_lt, i3lt, i6lt, h]
    try simp (disch := omega) [-Prod.forall, -Prod.exists, -Prod.mk.injEq, -Int32.not_le, -Int32.not_lt, -Int64.not_le, -Int64.not_lt, i3lt, i6lt, h]
    exact hp _ _ ⟨by rw [if_neg h], sc_th σ 0, rfl⟩
def oX12_leastShare : jO := joRI fun a x σ => (a = 322 ∧ mOK σ ∧ dI (σ.1 323), fun v τ => v = some (.int (if mIn x 0 100 = true then (if (dC σ).isSome = true then ff (fun s => decide (mAf σ s x = mLiv σ)) 101 0 else -1) else -2)) ∧ jfr aSc bSc σ τ ∧ τ.1 322 11 = 0)
set_option maxRecDepth 100000 in
set_option maxHeartbeats 4000000 in
theorem CX12_leastShare (g : jG) (n : Nat) : jOk g (n + 15) mX12_leastShare oX12_leastShare := by
  refine joRI_ok ?_
  rintro _ x σ ⟨rfl, hok, hd⟩
  have hd1 : dOK ((jup σ 322 11 0).1 323) := hd.1
  by_cases h : mIn x 0 100 = true
  · refine jCon.ofP (by decide +kernel) (by simp [lg_sl, Value.category]) (fun post hp => ?_)
    refine jvk_ok TX12_leastShare (V := [(206, 1, 12, oX12_proposes), (210, 2, 12, oX12_layPayments), (223, 2, 12, oX12_affords), (152, 1, 12, oX12_living)]) (S := [(117, 3, 0, oX12_inRange)]) (List.forall_mem_cons.mpr ⟨⟨mX12_proposes, n + 14, 0, TX12, 53, rfl, by omega, kX12_206, WX12_proposes, rfl, CX12_proposes g (n)⟩, (List.forall_mem_cons.mpr ⟨⟨mX12_layPayments, n + 6, 1, TX12, 53, rfl, by omega, kX12_210, WX12_layPayments, rfl, CX12_layPayments g (n)⟩, (List.forall_mem_cons.mpr ⟨⟨mX12_affords, n + 3, 1, TX12, 53, rfl, by omega, kX12_223, WX12_affords, rfl, CX12_affords g (n)⟩, (List.forall_mem_cons.mpr ⟨⟨mX12_living, n + 3, 0, TX12, 53, rfl, by omega, kX12_152, WX12_living, rfl, CX12_living g (n)⟩, (fun _ h => absurd h List.not_mem_nil)⟩)⟩)⟩)⟩) (List.forall_mem_cons.mpr ⟨⟨mX12_inRange, n + 0, by omega, Or.inl kX12_117, WX12_inRange, CX12_inRange g (n)⟩, (fun _ h => absurd h List.not_mem_nil)⟩) [22] 20 _ _ _ _ ?_
    simp (maxSteps := 1000000) [↓Bool.cond_eq_ite, -Prod.forall, -Prod.exists, -Prod.mk.injEq, jvk, tX12_leastShare, jtb, jol, jst, jlk, jcmp, jbin, jfl, fX12, jc2, lX12, jcat, jel, lv_args, Value.category, jins, jsrt, jins2, jble, jblt, jf3, List.filter_cons, List.filter_nil, G_m, oX12_inRange, oX12_proposes, oX12_layPayments, oX12_affords, oX12_living, joIII, joR, joRI, -Int32.not_le, -Int32.not_lt, -Int64.not_le, -Int64.not_lt, i3lt, i6lt, h, mOK_th hok, hd1]
    try simp (disch := omega) [-Prod.forall, -Prod.exists, -Prod.mk.injEq, -Int32.not_le, -Int32.not_lt, -Int64.not_le, -Int64.not_lt, i3lt, i6lt, h, mOK_th hok, hd1]
    intro v0 τ0 hv0 f0 ha0
    subst hv0
    have eC : dC (jup σ 322 11 0) = dC σ := rfl
    have g0 : jfr aSc bSc σ τ0 := (sc_th σ 0).tr (sc_of f0 sc_Tr (fun _ _ => rfl))
    have e11' : τ0.1 322 11 = 0 := f0.2.2 322 11 rfl
    rw [eC] at ha0 ⊢
    rcases hC0 : dC σ with _ | c
    · refine jvk_ok TX12_leastShare (V := [(206, 1, 12, oX12_proposes), (210, 2, 12, oX12_layPayments), (223, 2, 12, oX12_affords), (152, 1, 12, oX12_living)]) (S := [(117, 3, 0, oX12_inRange)]) (List.forall_mem_cons.mpr ⟨⟨mX12_proposes, n + 14, 0, TX12, 53, rfl, by omega, kX12_206, WX12_proposes, rfl, CX12_proposes g (n)⟩, (List.forall_mem_cons.mpr ⟨⟨mX12_layPayments, n + 6, 1, TX12, 53, rfl, by omega, kX12_210, WX12_layPayments, rfl, CX12_layPayments g (n)⟩, (List.forall_mem_cons.mpr ⟨⟨mX12_affords, n + 3, 1, TX12, 53, rfl, by omega, kX12_223, WX12_affords, rfl, CX12_affords g (n)⟩, (List.forall_mem_cons.mpr ⟨⟨mX12_living, n + 3, 0, TX12, 53, rfl, by omega, kX12_152, WX12_living, rfl, CX12_living g (n)⟩, (fun _ h => absurd h List.not_mem_nil)⟩)⟩)⟩)⟩) (List.forall_mem_cons.mpr ⟨⟨mX12_inRange, n + 0, by omega, Or.inl kX12_117, WX12_inRange, CX12_inRange g (n)⟩, (fun _ h => absurd h List.not_mem_nil)⟩) [] 20 _ _ _ _ ?_
      simp (maxSteps := 1000000) [↓Bool.cond_eq_ite, -Prod.forall, -Prod.exists, -Prod.mk.injEq, jvk, tX12_leastShare, jtb, jol, jst, jlk, jcmp, jbin, jfl, fX12, jc2, lX12, jcat, jel, lv_args, Value.category, jins, jsrt, jins2, jble, jblt, jf3, List.filter_cons, List.filter_nil, G_m, oX12_inRange, oX12_proposes, oX12_layPayments, oX12_affords, oX12_living, joIII, joR, joRI, -Int32.not_le, -Int32.not_lt, -Int64.not_le, -Int64.not_lt, i3lt, i6lt]
      try simp (disch := omega) [-Prod.forall, -Prod.exists, -Prod.mk.injEq, -Int32.not_le, -Int32.not_lt, -Int64.not_le, -Int64.not_lt, i3lt, i6lt]
      exact hp _ _ ⟨by rw [if_pos h, hC0, if_neg (by simp)], g0, e11'⟩
    · have hs : (dC σ).isSome = true := by rw [hC0]; rfl
      obtain ⟨F, eF⟩ : ∃ F, F = ff (fun s => decide (mAf σ s x = mLiv σ)) 101 0 := ⟨_, rfl⟩
      rw [← eF] at hp
      have key := jloop (P := fun k => ∀ τ : jM, jfr aSc bSc σ τ → τ.1 322 11 = 0 → accOK τ (some c) → ff (fun s => decide (mAf σ s x = mLiv σ)) (101 - k) k = F → jW g mX12_leastShare (n + 15) post 29 [(0, .ref 322), (1, .int x), (2, .int (nI k))] [] τ) (N := 101) (fun τ f e11 ha e => by
        have hle : ¬ nI 101 ≤ 100 := by decide
        refine jvk_ok TX12_leastShare (V := [(206, 1, 12, oX12_proposes), (210, 2, 12, oX12_layPayments), (223, 2, 12, oX12_affords), (152, 1, 12, oX12_living)]) (S := [(117, 3, 0, oX12_inRange)]) (List.forall_mem_cons.mpr ⟨⟨mX12_proposes, n + 14, 0, TX12, 53, rfl, by omega, kX12_206, WX12_proposes, rfl, CX12_proposes g (n)⟩, (List.forall_mem_cons.mpr ⟨⟨mX12_layPayments, n + 6, 1, TX12, 53, rfl, by omega, kX12_210, WX12_layPayments, rfl, CX12_layPayments g (n)⟩, (List.forall_mem_cons.mpr ⟨⟨mX12_affords, n + 3, 1, TX12, 53, rfl, by omega, kX12_223, WX12_affords, rfl, CX12_affords g (n)⟩, (List.forall_mem_cons.mpr ⟨⟨mX12_living, n + 3, 0, TX12, 53, rfl, by omega, kX12_152, WX12_living, rfl, CX12_living g (n)⟩, (fun _ h => absurd h List.not_mem_nil)⟩)⟩)⟩)⟩) (List.forall_mem_cons.mpr ⟨⟨mX12_inRange, n + 0, by omega, Or.inl kX12_117, WX12_inRange, CX12_inRange g (n)⟩, (fun _ h => absurd h List.not_mem_nil)⟩) [29] 20 _ _ _ _ ?_
        simp (maxSteps := 1000000) [↓Bool.cond_eq_ite, -Prod.forall, -Prod.exists, -Prod.mk.injEq, jvk, tX12_leastShare, jtb, jol, jst, jlk, jcmp, jbin, jfl, fX12, jc2, lX12, jcat, jel, lv_args, Value.category, jins, jsrt, jins2, jble, jblt, jf3, List.filter_cons, List.filter_nil, G_m, oX12_inRange, oX12_proposes, oX12_layPayments, oX12_affords, oX12_living, joIII, joR, joRI, -Int32.not_le, -Int32.not_lt, -Int64.not_le, -Int64.not_lt, i3lt, i6lt, hle]
        try simp (disch := omega) [-Prod.forall, -Prod.exists, -Prod.mk.injEq, -Int32.not_le, -Int32.not_lt, -Int64.not_le, -Int64.not_lt, i3lt, i6lt, hle]
        exact hp _ _ ⟨by rw [if_pos h, if_pos hs, ← e]; rfl, f, e11⟩) (fun k hk ih τ f e11 ha e => by
        have hle : nI k ≤ 100 := nI_le (b := 100) (by omega) (by decide)
        have s0 := sc_R f
        have hok0 := sc_ok hok f
        have hne : ∃ c, hC τ c := ⟨c, hok0, by rw [s0.1]; exact hd.1, by rw [sR_C s0, hC0], ha⟩
        have hd0 : dI (τ.1 323) := by rw [s0.1]; exact hd
        have hpre : ∃ sh, nI k = nI sh ∧ sh ≤ 100 := ⟨_, rfl, by omega⟩
        refine jvk_ok TX12_leastShare (V := [(206, 1, 12, oX12_proposes), (210, 2, 12, oX12_layPayments), (223, 2, 12, oX12_affords), (152, 1, 12, oX12_living)]) (S := [(117, 3, 0, oX12_inRange)]) (List.forall_mem_cons.mpr ⟨⟨mX12_proposes, n + 14, 0, TX12, 53, rfl, by omega, kX12_206, WX12_proposes, rfl, CX12_proposes g (n)⟩, (List.forall_mem_cons.mpr ⟨⟨mX12_layPayments, n + 6, 1, TX12, 53, rfl, by omega, kX12_210, WX12_layPayments, rfl, CX12_layPayments g (n)⟩, (List.forall_mem_cons.mpr ⟨⟨mX12_affords, n + 3, 1, TX12, 53, rfl, by omega, kX12_223, WX12_affords, rfl, CX12_affords g (n)⟩, (List.forall_mem_cons.mpr ⟨⟨mX12_living, n + 3, 0, TX12, 53, rfl, by omega, kX12_152, WX12_living, rfl, CX12_living g (n)⟩, (fun _ h => absurd h List.not_mem_nil)⟩)⟩)⟩)⟩) (List.forall_mem_cons.mpr ⟨⟨mX12_inRange, n + 0, by omega, Or.inl kX12_117, WX12_inRange, CX12_inRange g (n)⟩, (fun _ h => absurd h List.not_mem_nil)⟩) [29, 40] 20 _ _ _ _ ?_
        simp (maxSteps := 1000000) [↓Bool.cond_eq_ite, -Prod.forall, -Prod.exists, -Prod.mk.injEq, jvk, tX12_leastShare, jtb, jol, jst, jlk, jcmp, jbin, jfl, fX12, jc2, lX12, jcat, jel, lv_args, Value.category, jins, jsrt, jins2, jble, jblt, jf3, List.filter_cons, List.filter_nil, G_m, oX12_inRange, oX12_proposes, oX12_layPayments, oX12_affords, oX12_living, joIII, joR, joRI, -Int32.not_le, -Int32.not_lt, -Int64.not_le, -Int64.not_lt, i3lt, i6lt, hle, hne, hd0, hpre]
        try simp (disch := omega) [-Prod.forall, -Prod.exists, -Prod.mk.injEq, -Int32.not_le, -Int32.not_lt, -Int64.not_le, -Int64.not_lt, i3lt, i6lt, hle, hne, hd0, hpre]
        intro v1 τ1 hv1 f1 h1
        subst hv1
        have g1 : jfr aSc bSc σ τ1 := f.tr (sc_of f1 sc_Py (fun _ q => q))
        have s1 := sc_R g1
        have hok1 := sc_ok hok g1
        have hy1 : pyOK σ τ1 k := fun p hp => by
          have h2 := h1 p (by rw [sR_N s0]; exact hp)
          rw [nI_clamp (by omega), sR_Pr s0, sR_sh s0, sR_pa s0, sR_l s0] at h2
          exact h2
        have ea := mAf_eq s1 hy1 x
        have el := sR_Lv s1
        have hb1 : mAf σ k x ≤ mN σ := cn_le _ _
        have hb2 : mLiv σ ≤ mN σ := cn_le _ _
        have h10 := (mN_le hok).1
        have eq := nI_eq (a := mAf σ k x) (b := mLiv σ) (by omega) (by omega)
        have ac1 : accOK τ1 (some c) := by
          have e323 : τ1.1 323 = τ.1 323 := funext fun j => f1.2.2 323 j rfl
          obtain ⟨b1, b2, b3, b4⟩ := ha
          refine ⟨by rw [f1.2.2 322 14 rfl, b1], by rw [f1.2.2 322 15 rfl, b2], fun q hq => ?_, b4⟩
          rw [f1.2.2 330 q rfl, b3 q hq, e323]
          unfold mN
          rw [f1.2.2 322 4 rfl]
        rw [show 101 - k = (101 - (k + 1)) + 1 by omega] at e
        simp only [ff, decide_eq_true_eq] at e
        by_cases hc : mAf σ k x = mLiv σ
        · rw [if_pos hc] at e
          refine jvk_ok TX12_leastShare (V := [(206, 1, 12, oX12_proposes), (210, 2, 12, oX12_layPayments), (223, 2, 12, oX12_affords), (152, 1, 12, oX12_living)]) (S := [(117, 3, 0, oX12_inRange)]) (List.forall_mem_cons.mpr ⟨⟨mX12_proposes, n + 14, 0, TX12, 53, rfl, by omega, kX12_206, WX12_proposes, rfl, CX12_proposes g (n)⟩, (List.forall_mem_cons.mpr ⟨⟨mX12_layPayments, n + 6, 1, TX12, 53, rfl, by omega, kX12_210, WX12_layPayments, rfl, CX12_layPayments g (n)⟩, (List.forall_mem_cons.mpr ⟨⟨mX12_affords, n + 3, 1, TX12, 53, rfl, by omega, kX12_223, WX12_affords, rfl, CX12_affords g (n)⟩, (List.forall_mem_cons.mpr ⟨⟨mX12_living, n + 3, 0, TX12, 53, rfl, by omega, kX12_152, WX12_living, rfl, CX12_living g (n)⟩, (fun _ h => absurd h List.not_mem_nil)⟩)⟩)⟩)⟩) (List.forall_mem_cons.mpr ⟨⟨mX12_inRange, n + 0, by omega, Or.inl kX12_117, WX12_inRange, CX12_inRange g (n)⟩, (fun _ h => absurd h List.not_mem_nil)⟩) [29] 20 _ _ _ _ ?_
          simp (maxSteps := 1000000) [↓Bool.cond_eq_ite, -Prod.forall, -Prod.exists, -Prod.mk.injEq, jvk, tX12_leastShare, jtb, jol, jst, jlk, jcmp, jbin, jfl, fX12, jc2, lX12, jcat, jel, lv_args, Value.category, jins, jsrt, jins2, jble, jblt, jf3, List.filter_cons, List.filter_nil, G_m, oX12_inRange, oX12_proposes, oX12_layPayments, oX12_affords, oX12_living, joIII, joR, joRI, -Int32.not_le, -Int32.not_lt, -Int64.not_le, -Int64.not_lt, i3lt, i6lt, hok1, ea, el, eq, hc]
          try simp (disch := omega) [-Prod.forall, -Prod.exists, -Prod.mk.injEq, -Int32.not_le, -Int32.not_lt, -Int64.not_le, -Int64.not_lt, i3lt, i6lt, hok1, ea, el, eq, hc]
          exact hp _ _ ⟨by rw [if_pos h, if_pos hs, ← e], g1, (f1.2.2 322 11 rfl).trans e11⟩
        · rw [if_neg hc] at e
          have k1 := ih τ1 g1 ((f1.2.2 322 11 rfl).trans e11) ac1 e
          refine jvk_ok TX12_leastShare (V := [(206, 1, 12, oX12_proposes), (210, 2, 12, oX12_layPayments), (223, 2, 12, oX12_affords), (152, 1, 12, oX12_living)]) (S := [(117, 3, 0, oX12_inRange)]) (List.forall_mem_cons.mpr ⟨⟨mX12_proposes, n + 14, 0, TX12, 53, rfl, by omega, kX12_206, WX12_proposes, rfl, CX12_proposes g (n)⟩, (List.forall_mem_cons.mpr ⟨⟨mX12_layPayments, n + 6, 1, TX12, 53, rfl, by omega, kX12_210, WX12_layPayments, rfl, CX12_layPayments g (n)⟩, (List.forall_mem_cons.mpr ⟨⟨mX12_affords, n + 3, 1, TX12, 53, rfl, by omega, kX12_223, WX12_affords, rfl, CX12_affords g (n)⟩, (List.forall_mem_cons.mpr ⟨⟨mX12_living, n + 3, 0, TX12, 53, rfl, by omega, kX12_152, WX12_living, rfl, CX12_living g (n)⟩, (fun _ h => absurd h List.not_mem_nil)⟩)⟩)⟩)⟩) (List.forall_mem_cons.mpr ⟨⟨mX12_inRange, n + 0, by omega, Or.inl kX12_117, WX12_inRange, CX12_inRange g (n)⟩, (fun _ h => absurd h List.not_mem_nil)⟩) [29] 20 _ _ _ _ ?_
          simp (maxSteps := 1000000) [↓Bool.cond_eq_ite, -Prod.forall, -Prod.exists, -Prod.mk.injEq, jvk, tX12_leastShare, jtb, jol, jst, jlk, jcmp, jbin, jfl, fX12, jc2, lX12, jcat, jel, lv_args, Value.category, jins, jsrt, jins2, jble, jblt, jf3, List.filter_cons, List.filter_nil, G_m, oX12_inRange, oX12_proposes, oX12_layPayments, oX12_affords, oX12_living, joIII, joR, joRI, -Int32.not_le, -Int32.not_lt, -Int64.not_le, -Int64.not_lt, i3lt, i6lt, hok1, ea, el, eq, hc, nI_1]
          try simp (disch := omega) [-Prod.forall, -Prod.exists, -Prod.mk.injEq, -Int32.not_le, -Int32.not_lt, -Int64.not_le, -Int64.not_lt, i3lt, i6lt, hok1, ea, el, eq, hc, nI_1]
          exact k1)
      have k0 := key τ0 g0 e11' (by rw [hC0] at ha0; exact ha0) eF.symm
      rw [nI_0] at k0
      refine jvk_ok TX12_leastShare (V := [(206, 1, 12, oX12_proposes), (210, 2, 12, oX12_layPayments), (223, 2, 12, oX12_affords), (152, 1, 12, oX12_living)]) (S := [(117, 3, 0, oX12_inRange)]) (List.forall_mem_cons.mpr ⟨⟨mX12_proposes, n + 14, 0, TX12, 53, rfl, by omega, kX12_206, WX12_proposes, rfl, CX12_proposes g (n)⟩, (List.forall_mem_cons.mpr ⟨⟨mX12_layPayments, n + 6, 1, TX12, 53, rfl, by omega, kX12_210, WX12_layPayments, rfl, CX12_layPayments g (n)⟩, (List.forall_mem_cons.mpr ⟨⟨mX12_affords, n + 3, 1, TX12, 53, rfl, by omega, kX12_223, WX12_affords, rfl, CX12_affords g (n)⟩, (List.forall_mem_cons.mpr ⟨⟨mX12_living, n + 3, 0, TX12, 53, rfl, by omega, kX12_152, WX12_living, rfl, CX12_living g (n)⟩, (fun _ h => absurd h List.not_mem_nil)⟩)⟩)⟩)⟩) (List.forall_mem_cons.mpr ⟨⟨mX12_inRange, n + 0, by omega, Or.inl kX12_117, WX12_inRange, CX12_inRange g (n)⟩, (fun _ h => absurd h List.not_mem_nil)⟩) [29] 20 _ _ _ _ ?_
      simp (maxSteps := 1000000) [↓Bool.cond_eq_ite, -Prod.forall, -Prod.exists, -Prod.mk.injEq, jvk, tX12_leastShare, jtb, jol, jst, jlk, jcmp, jbin, jfl, fX12, jc2, lX12, jcat, jel, lv_args, Value.category, jins, jsrt, jins2, jble, jblt, jf3, List.filter_cons, List.filter_nil, G_m, oX12_inRange, oX12_proposes, oX12_layPayments, oX12_affords, oX12_living, joIII, joR, joRI, -Int32.not_le, -Int32.not_lt, -Int64.not_le, -Int64.not_lt, i3lt, i6lt, hs]
      try simp (disch := omega) [-Prod.forall, -Prod.exists, -Prod.mk.injEq, -Int32.not_le, -Int32.not_lt, -Int64.not_le, -Int64.not_lt, i3lt, i6lt, hs]
      exact k0
  · refine jCon.ofP (by decide +kernel) (by simp [lg_sl, Value.category]) (fun post hp => ?_)
    refine jvk_ok TX12_leastShare (V := [(206, 1, 12, oX12_proposes), (210, 2, 12, oX12_layPayments), (223, 2, 12, oX12_affords), (152, 1, 12, oX12_living)]) (S := [(117, 3, 0, oX12_inRange)]) (List.forall_mem_cons.mpr ⟨⟨mX12_proposes, n + 14, 0, TX12, 53, rfl, by omega, kX12_206, WX12_proposes, rfl, CX12_proposes g (n)⟩, (List.forall_mem_cons.mpr ⟨⟨mX12_layPayments, n + 6, 1, TX12, 53, rfl, by omega, kX12_210, WX12_layPayments, rfl, CX12_layPayments g (n)⟩, (List.forall_mem_cons.mpr ⟨⟨mX12_affords, n + 3, 1, TX12, 53, rfl, by omega, kX12_223, WX12_affords, rfl, CX12_affords g (n)⟩, (List.forall_mem_cons.mpr ⟨⟨mX12_living, n + 3, 0, TX12, 53, rfl, by omega, kX12_152, WX12_living, rfl, CX12_living g (n)⟩, (fun _ h => absurd h List.not_mem_nil)⟩)⟩)⟩)⟩) (List.forall_mem_cons.mpr ⟨⟨mX12_inRange, n + 0, by omega, Or.inl kX12_117, WX12_inRange, CX12_inRange g (n)⟩, (fun _ h => absurd h List.not_mem_nil)⟩) [] 20 _ _ _ _ ?_
    simp (maxSteps := 1000000) [↓Bool.cond_eq_ite, -Prod.forall, -Prod.exists, -Prod.mk.injEq, jvk, tX12_leastShare, jtb, jol, jst, jlk, jcmp, jbin, jfl, fX12, jc2, lX12, jcat, jel, lv_args, Value.category, jins, jsrt, jins2, jble, jblt, jf3, List.filter_cons, List.filter_nil, G_m, oX12_inRange, oX12_proposes, oX12_layPayments, oX12_affords, oX12_living, joIII, joR, joRI, -Int32.not_le, -Int32.not_lt, -Int64.not_le, -Int64.not_lt, i3lt, i6lt, h]
    try simp (disch := omega) [-Prod.forall, -Prod.exists, -Prod.mk.injEq, -Int32.not_le, -Int32.not_lt, -Int64.not_le, -Int64.not_lt, i3lt, i6lt, h]
    exact hp _ _ ⟨by rw [if_neg h], sc_th σ 0, rfl⟩
