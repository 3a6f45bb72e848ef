/-! the methods that throw: plan, transfer -/
theorem XX11_plan {g : jG} (hX : jEx g) (n : Nat) {x w : Int32} {σ : jM} (h : x < 0 ∨ σ.1 31 5 - σ.1 37 6 ≤ x) : jTh g (n + 20) mX11_plan [.ref 0, .int x, .int w] σ (fun τ => τ = σ) := by
  have hz := jzX_ok g (n + 20) (fun τ => τ = σ)
  have fin : ∀ st, st = [] → jY g (jzX g (n + 20) (fun τ => τ = σ)) mX11_plan (n + 20) 12 [(0, .ref 0), (1, .int x), (2, .int w)] st σ := fun st e => by
    subst e
    exact jy_throwS hX rfl (i := 15) (by decide) rfl rfl (by omega) rfl (by simp) (by decide +kernel) (by decide +kernel) (by decide +kernel) (by decide +kernel) (by decide +kernel)
  refine jTh.of (by decide +kernel) (by simp [lg_sl, Value.category]) ?_
  by_cases x0 : x < 0
  · have x0' : ¬ 0 ≤ x := by grind
    refine jyk_ok hz TX11_plan (V := [(164, 1, 11, oX11_planCount), (173, 3, 7, oX7_planNumber)]) (S := []) (List.forall_mem_cons.mpr ⟨⟨mX11_planCount, n + 0, 0, TX11, 9, rfl, by omega, kX11_164, WX11_planCount, rfl, CX11_planCount g (n)⟩, (List.forall_mem_cons.mpr ⟨⟨mX7_planNumber, n + 1, 2, TX7, 6, rfl, by omega, kX11_173, WX7_planNumber, rfl, CX7_planNumber g (n)⟩, (fun _ h => absurd h List.not_mem_nil)⟩)⟩) (fun _ h => absurd h List.not_mem_nil) [12] 20 _ _ _ _ ?_
    simp (maxSteps := 1000000) [↓Bool.cond_eq_ite, -Prod.forall, -Prod.exists, -Prod.mk.injEq, jvk, tX11_plan, jtb, jol, jst, jlk, jcmp, jbin, jfl, fX11, jc2, lX11, jcat, jel, lv_args, Value.category, jins, jsrt, jins2, jble, jblt, jf3, List.filter_cons, List.filter_nil, G_x, G_flat, G_loader, G_roster, G_lroster, G_lflat, G_history, G_prop, G_choice, G_tchoice, G_settle, G_page, oX11_planCount, oX7_planNumber, joR, joRII, -Int32.not_le, -Int32.not_lt, -Int64.not_le, -Int64.not_lt, i3lt, i6lt, x0, x0']
    try simp (disch := omega) [-Prod.forall, -Prod.exists, -Prod.mk.injEq, -Int32.not_le, -Int32.not_lt, -Int64.not_le, -Int64.not_lt, i3lt, i6lt, x0, x0']
    exact fin _ rfl
  · have x0' : 0 ≤ x := by grind
    have h1 := h.resolve_left x0
    refine jyk_ok hz TX11_plan (V := [(164, 1, 11, oX11_planCount), (173, 3, 7, oX7_planNumber)]) (S := []) (List.forall_mem_cons.mpr ⟨⟨mX11_planCount, n + 0, 0, TX11, 9, rfl, by omega, kX11_164, WX11_planCount, rfl, CX11_planCount g (n)⟩, (List.forall_mem_cons.mpr ⟨⟨mX7_planNumber, n + 1, 2, TX7, 6, rfl, by omega, kX11_173, WX7_planNumber, rfl, CX7_planNumber g (n)⟩, (fun _ h => absurd h List.not_mem_nil)⟩)⟩) (fun _ h => absurd h List.not_mem_nil) [12] 20 _ _ _ _ ?_
    simp (maxSteps := 1000000) [↓Bool.cond_eq_ite, -Prod.forall, -Prod.exists, -Prod.mk.injEq, jvk, tX11_plan, jtb, jol, jst, jlk, jcmp, jbin, jfl, fX11, jc2, lX11, jcat, jel, lv_args, Value.category, jins, jsrt, jins2, jble, jblt, jf3, List.filter_cons, List.filter_nil, G_x, G_flat, G_loader, G_roster, G_lroster, G_lflat, G_history, G_prop, G_choice, G_tchoice, G_settle, G_page, oX11_planCount, oX7_planNumber, joR, joRII, -Int32.not_le, -Int32.not_lt, -Int64.not_le, -Int64.not_lt, i3lt, i6lt, x0', h1]
    try simp (disch := omega) [-Prod.forall, -Prod.exists, -Prod.mk.injEq, -Int32.not_le, -Int32.not_lt, -Int64.not_le, -Int64.not_lt, i3lt, i6lt, x0', h1]
    exact fin _ rfl
theorem XX11_transfer {g : jG} (hX : jEx g) (n : Nat) {x w : Int32} {σ : jM} (hok : fOK σ) (hm6 : flM σ ≤ 6) (hdp : dpO σ) (hst : stO σ) (h : x < 0 ∨ nI (ctr σ).length ≤ x) : jTh g (n + 20) mX11_transfer [.ref 0, .int x, .int w] σ (fun τ => jfr aMs bAi σ τ) := by
  have hz := jzX_ok g (n + 20) (fun τ => jfr aMs bAi σ τ)
  have fin : ∀ st τ, st = [] → jfr aMs bAi σ τ → jY g (jzX g (n + 20) (fun τ => jfr aMs bAi σ τ)) mX11_transfer (n + 20) 26 [(0, .ref 0), (1, .int x), (2, .int w)] st τ := fun st τ e f => by
    subst e
    exact jy_throwW hX rfl (i := 16) (by decide) rfl rfl (by omega) f (by simp) (by decide +kernel) (by decide +kernel) (by decide +kernel) (by decide +kernel) (by decide +kernel)
  refine jTh.of (by decide +kernel) (by simp [lg_sl, Value.category]) ?_
  refine jyk_ok hz TX11_transfer (V := [(297, 2, 8, oX8_make), (301, 3, 8, oX8_number)]) (S := []) (List.forall_mem_cons.mpr ⟨⟨mX8_make, n + 3, 1, TX8, 8, rfl, by omega, kX11_297, WX8_make, rfl, CX8_make g (n)⟩, (List.forall_mem_cons.mpr ⟨⟨mX8_number, n + 0, 2, TX8, 8, rfl, by omega, kX11_301, WX8_number, rfl, CX8_number g (n)⟩, (fun _ h => absurd h List.not_mem_nil)⟩)⟩) (fun _ h => absurd h List.not_mem_nil) [11] 30 _ _ _ _ ?_
  simp (maxSteps := 1000000) [↓Bool.cond_eq_ite, -Prod.forall, -Prod.exists, -Prod.mk.injEq, jvk, tX11_transfer, jtb, jol, jst, jlk, jcmp, jbin, jfl, fX11, jc2, lX11, jcat, jel, lv_args, Value.category, jins, jsrt, jins2, jble, jblt, jf3, List.filter_cons, List.filter_nil, G_x, G_flat, G_loader, G_roster, G_lroster, G_lflat, G_history, G_prop, G_choice, G_tchoice, G_settle, G_page, oX8_make, oX8_number, joRII, joRR, -Int32.not_le, -Int32.not_lt, -Int64.not_le, -Int64.not_lt, i3lt, i6lt, hok, hm6, hdp, hst]
  try simp (disch := omega) [-Prod.forall, -Prod.exists, -Prod.mk.injEq, -Int32.not_le, -Int32.not_lt, -Int64.not_le, -Int64.not_lt, i3lt, i6lt, hok, hm6, hdp, hst]
  intro v1 τ1 hv1 f1 h1 ht
  subst hv1
  have e1 : τ1.1 300 6 = nI (ctr σ).length := by
    have := ht.1
    rw [Nat.zero_add] at this
    exact this
  by_cases x0 : x < 0
  · have x0' : ¬ 0 ≤ x := by grind
    refine jyk_ok hz TX11_transfer (V := [(297, 2, 8, oX8_make), (301, 3, 8, oX8_number)]) (S := []) (List.forall_mem_cons.mpr ⟨⟨mX8_make, n + 3, 1, TX8, 8, rfl, by omega, kX11_297, WX8_make, rfl, CX8_make g (n)⟩, (List.forall_mem_cons.mpr ⟨⟨mX8_number, n + 0, 2, TX8, 8, rfl, by omega, kX11_301, WX8_number, rfl, CX8_number g (n)⟩, (fun _ h => absurd h List.not_mem_nil)⟩)⟩) (fun _ h => absurd h List.not_mem_nil) [26] 20 _ _ _ _ ?_
    simp (maxSteps := 1000000) [↓Bool.cond_eq_ite, -Prod.forall, -Prod.exists, -Prod.mk.injEq, jvk, tX11_transfer, jtb, jol, jst, jlk, jcmp, jbin, jfl, fX11, jc2, lX11, jcat, jel, lv_args, Value.category, jins, jsrt, jins2, jble, jblt, jf3, List.filter_cons, List.filter_nil, G_x, G_flat, G_loader, G_roster, G_lroster, G_lflat, G_history, G_prop, G_choice, G_tchoice, G_settle, G_page, oX8_make, oX8_number, joRII, joRR, -Int32.not_le, -Int32.not_lt, -Int64.not_le, -Int64.not_lt, i3lt, i6lt, x0, x0']
    try simp (disch := omega) [-Prod.forall, -Prod.exists, -Prod.mk.injEq, -Int32.not_le, -Int32.not_lt, -Int64.not_le, -Int64.not_lt, i3lt, i6lt, x0, x0']
    exact fin _ _ rfl f1
  · have x0' : 0 ≤ x := by grind
    have h1 := h.resolve_left x0
    refine jyk_ok hz TX11_transfer (V := [(297, 2, 8, oX8_make), (301, 3, 8, oX8_number)]) (S := []) (List.forall_mem_cons.mpr ⟨⟨mX8_make, n + 3, 1, TX8, 8, rfl, by omega, kX11_297, WX8_make, rfl, CX8_make g (n)⟩, (List.forall_mem_cons.mpr ⟨⟨mX8_number, n + 0, 2, TX8, 8, rfl, by omega, kX11_301, WX8_number, rfl, CX8_number g (n)⟩, (fun _ h => absurd h List.not_mem_nil)⟩)⟩) (fun _ h => absurd h List.not_mem_nil) [26] 20 _ _ _ _ ?_
    simp (maxSteps := 1000000) [↓Bool.cond_eq_ite, -Prod.forall, -Prod.exists, -Prod.mk.injEq, jvk, tX11_transfer, jtb, jol, jst, jlk, jcmp, jbin, jfl, fX11, jc2, lX11, jcat, jel, lv_args, Value.category, jins, jsrt, jins2, jble, jblt, jf3, List.filter_cons, List.filter_nil, G_x, G_flat, G_loader, G_roster, G_lroster, G_lflat, G_history, G_prop, G_choice, G_tchoice, G_settle, G_page, oX8_make, oX8_number, joRII, joRR, -Int32.not_le, -Int32.not_lt, -Int64.not_le, -Int64.not_lt, i3lt, i6lt, x0', e1, h1]
    try simp (disch := omega) [-Prod.forall, -Prod.exists, -Prod.mk.injEq, -Int32.not_le, -Int32.not_lt, -Int64.not_le, -Int64.not_lt, i3lt, i6lt, x0', e1, h1]
    exact fin _ _ rfl f1
