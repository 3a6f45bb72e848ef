/-! the methods that throw: a person or a room that is none -/
theorem XX11_checkPerson {g : jG} (hX : jEx g) (n : Nat) {x : Int32} {σ : jM} (hok : fOK σ) (h : ¬ fP σ x = true) : jTh g (n + 10) mX11_checkPerson [.ref 0, .int x] σ (fun τ => τ = σ) := by
  have hz := jzX_ok g (n + 10) (fun τ => τ = σ)
  refine jTh.of (by decide +kernel) (by simp [lg_sl, Value.category]) ?_
  refine jyk_ok hz TX11_checkPerson (V := [(304, 2, 2, oX2_isPerson)]) (S := []) (List.forall_mem_cons.mpr ⟨⟨mX2_isPerson, n + 0, 1, TX2, 16, rfl, by omega, kX11_304, WX2_isPerson, rfl, CX2_isPerson g (n)⟩, (fun _ h => absurd h List.not_mem_nil)⟩) (fun _ h => absurd h List.not_mem_nil) [11] 20 _ _ _ _ ?_
  simp (maxSteps := 1000000) [↓Bool.cond_eq_ite, -Prod.forall, -Prod.exists, -Prod.mk.injEq, jvk, tX11_checkPerson, jtb, jol, jst, jlk, jcmp, jbin, jfl, fX11, jc2, lX11, jcat, jel, lv_args, Value.category, jins, jsrt, jins2, jble, jblt, jf3, List.filter_cons, List.filter_nil, G_x, G_flat, G_loader, G_roster, G_lroster, G_lflat, G_history, G_prop, G_choice, G_tchoice, G_settle, G_page, oX2_isPerson, joRI, -Int32.not_le, -Int32.not_lt, -Int64.not_le, -Int64.not_lt, i3lt, i6lt, hok, h]
  try simp (disch := omega) [-Prod.forall, -Prod.exists, -Prod.mk.injEq, -Int32.not_le, -Int32.not_lt, -Int64.not_le, -Int64.not_lt, i3lt, i6lt, hok, h]
  exact jy_throwW hX rfl (i := 13) (by decide) rfl rfl (by omega) rfl (by simp) (by decide +kernel) (by decide +kernel) (by decide +kernel) (by decide +kernel) (by decide +kernel)
theorem XX11_checkRoom {g : jG} (hX : jEx g) (n : Nat) {x : Int32} {σ : jM} (hok : fOK σ) (h : ¬ fR σ x = true) : jTh g (n + 10) mX11_checkRoom [.ref 0, .int x] σ (fun τ => τ = σ) := by
  have hz := jzX_ok g (n + 10) (fun τ => τ = σ)
  refine jTh.of (by decide +kernel) (by simp [lg_sl, Value.category]) ?_
  refine jyk_ok hz TX11_checkRoom (V := [(317, 2, 2, oX2_isRoom)]) (S := []) (List.forall_mem_cons.mpr ⟨⟨mX2_isRoom, n + 0, 1, TX2, 16, rfl, by omega, kX11_317, WX2_isRoom, rfl, CX2_isRoom g (n)⟩, (fun _ h => absurd h List.not_mem_nil)⟩) (fun _ h => absurd h List.not_mem_nil) [11] 20 _ _ _ _ ?_
  simp (maxSteps := 1000000) [↓Bool.cond_eq_ite, -Prod.forall, -Prod.exists, -Prod.mk.injEq, jvk, tX11_checkRoom, jtb, jol, jst, jlk, jcmp, jbin, jfl, fX11, jc2, lX11, jcat, jel, lv_args, Value.category, jins, jsrt, jins2, jble, jblt, jf3, List.filter_cons, List.filter_nil, G_x, G_flat, G_loader, G_roster, G_lroster, G_lflat, G_history, G_prop, G_choice, G_tchoice, G_settle, G_page, oX2_isRoom, joRI, -Int32.not_le, -Int32.not_lt, -Int64.not_le, -Int64.not_lt, i3lt, i6lt, hok, h]
  try simp (disch := omega) [-Prod.forall, -Prod.exists, -Prod.mk.injEq, -Int32.not_le, -Int32.not_lt, -Int64.not_le, -Int64.not_lt, i3lt, i6lt, hok, h]
  exact jy_throwW hX rfl (i := 14) (by decide) rfl rfl (by omega) rfl (by simp) (by decide +kernel) (by decide +kernel) (by decide +kernel) (by decide +kernel) (by decide +kernel)
