/-! the reference: transfers told and made; plans told -/
theorem trS_len {σ : jM} (hok : mOK σ) (hd : dI (σ.1 323)) (hst : dSt (σ.1 323)) : (trS σ).length ≤ 11 := by
  have := trL_len 11 (duI σ) (duI_ok hok hd hst)
  have h2 : nz (duI σ) ≤ 11 := cn_le _ _
  unfold trS
  omega
def oX12_transferCount : jO := joR fun a σ => (a = 322 ∧ mOK σ ∧ dI (σ.1 323) ∧ dSt (σ.1 323), fun v τ => v = some (.int (nI (trS σ).length)) ∧ jfr aSc bSc σ τ ∧ τ.1 322 11 = 0)
set_option maxRecDepth 100000 in
set_option maxHeartbeats 4000000 in
theorem CX12_transferCount (g : jG) (n : Nat) : jOk g (n + 5) mX12_transferCount oX12_transferCount := by
  refine joR_ok ?_
  rintro _ σ ⟨rfl, hok, hd, hst⟩
  have hd1 : dI ((jup σ 322 11 0).1 323) := hd
  have hs1 : dSt ((jup σ 322 11 0).1 323) := hst
  refine jCon.ofP (by decide +kernel) (by simp [lg_sl, Value.category]) (fun post hp => ?_)
  refine jvk_ok TX12_transferCount (V := [(250, 1, 12, oX12_layTransfers)]) (S := []) (List.forall_mem_cons.mpr ⟨⟨mX12_layTransfers, n + 4, 0, TX12, 53, rfl, by omega, kX12_250, WX12_layTransfers, rfl, CX12_layTransfers g (n)⟩, (fun _ h => absurd h List.not_mem_nil)⟩) (fun _ h => absurd h List.not_mem_nil) [9] 20 _ _ _ _ ?_
  simp (maxSteps := 1000000) [↓Bool.cond_eq_ite, -Prod.forall, -Prod.exists, -Prod.mk.injEq, jvk, tX12_transferCount, jtb, jol, jst, jlk, jcmp, jbin, jfl, fX12, jc2, lX12, jcat, jel, lv_args, Value.category, jins, jsrt, jins2, jble, jblt, jf3, List.filter_cons, List.filter_nil, G_m, oX12_layTransfers, joR, -Int32.not_le, -Int32.not_lt, -Int64.not_le, -Int64.not_lt, i3lt, i6lt, mOK_th hok, hd1, hs1]
  try simp (disch := omega) [-Prod.forall, -Prod.exists, -Prod.mk.injEq, -Int32.not_le, -Int32.not_lt, -Int64.not_le, -Int64.not_lt, i3lt, i6lt, mOK_th hok, hd1, hs1]
  intro v0 τ0 hv0 f0 h0 ho
  subst hv0
  have e : τ0.1 322 30 = nI (trS σ).length := by
    have := ho.1
    rw [Nat.zero_add] at this
    exact this
  refine jvk_ok TX12_transferCount (V := [(250, 1, 12, oX12_layTransfers)]) (S := []) (List.forall_mem_cons.mpr ⟨⟨mX12_layTransfers, n + 4, 0, TX12, 53, rfl, by omega, kX12_250, WX12_layTransfers, rfl, CX12_layTransfers g (n)⟩, (fun _ h => absurd h List.not_mem_nil)⟩) (fun _ h => absurd h List.not_mem_nil) [] 20 _ _ _ _ ?_
  simp (maxSteps := 1000000) [↓Bool.cond_eq_ite, -Prod.forall, -Prod.exists, -Prod.mk.injEq, jvk, tX12_transferCount, jtb, jol, jst, jlk, jcmp, jbin, jfl, fX12, jc2, lX12, jcat, jel, lv_args, Value.category, jins, jsrt, jins2, jble, jblt, jf3, List.filter_cons, List.filter_nil, G_m, oX12_layTransfers, joR, -Int32.not_le, -Int32.not_lt, -Int64.not_le, -Int64.not_lt, i3lt, i6lt, e]
  try simp (disch := omega) [-Prod.forall, -Prod.exists, -Prod.mk.injEq, -Int32.not_le, -Int32.not_lt, -Int64.not_le, -Int64.not_lt, i3lt, i6lt, e]
  exact hp _ _ ⟨rfl, (sc_th σ 0).tr (sc_of f0 sc_Tf (fun _ q => q)), f0.2.2 322 11 rfl⟩
/-- a number of the transfer at a place -/
def trN (L : List trT) (i w : Int32) : Int32 := if w = 0 then nI (L.getD i.toNatClampNeg (0, 0, 0)).1 else if w = 1 then nI (L.getD i.toNatClampNeg (0, 0, 0)).2.1 else if w = 2 then iI (L.getD i.toNatClampNeg (0, 0, 0)).2.2 else -2
def oX12_transfer : jO := joRII fun a x w σ => (a = 322 ∧ mOK σ ∧ dI (σ.1 323) ∧ dSt (σ.1 323), fun v τ => v = some (.int (if mIn x 0 (nI (trS σ).length - 1) = true then trN (trS σ) x w else 0)) ∧ jfr aSc bSc σ τ ∧ τ.1 322 11 = if mIn x 0 (nI (trS σ).length - 1) = true then 0 else 1)
set_option maxRecDepth 100000 in
set_option maxHeartbeats 4000000 in
theorem CX12_transfer (g : jG) (n : Nat) : jOk g (n + 5) mX12_transfer oX12_transfer := by
  refine joRII_ok ?_
  rintro _ x w σ ⟨rfl, hok, hd, hst⟩
  have hlen := trS_len hok hd hst
  refine jCon.ofP (by decide +kernel) (by simp [lg_sl, Value.category]) (fun post hp => ?_)
  refine jvk_ok TX12_transfer (V := [(250, 1, 12, oX12_layTransfers), (138, 2, 12, oX12_fails)]) (S := [(117, 3, 0, oX12_inRange)]) (List.forall_mem_cons.mpr ⟨⟨mX12_layTransfers, n + 4, 0, TX12, 53, rfl, by omega, kX12_250, WX12_layTransfers, rfl, CX12_layTransfers g (n)⟩, (List.forall_mem_cons.mpr ⟨⟨mX12_fails, n + 0, 1, TX12, 53, rfl, by omega, kX12_138, WX12_fails, rfl, CX12_fails g (n)⟩, (fun _ h => absurd h List.not_mem_nil)⟩)⟩) (List.forall_mem_cons.mpr ⟨⟨mX12_inRange, n + 0, by omega, Or.inl kX12_117, WX12_inRange, CX12_inRange g (n)⟩, (fun _ h => absurd h List.not_mem_nil)⟩) [4] 20 _ _ _ _ ?_
  simp (maxSteps := 1000000) [↓Bool.cond_eq_ite, -Prod.forall, -Prod.exists, -Prod.mk.injEq, jvk, tX12_transfer, jtb, jol, jst, jlk, jcmp, jbin, jfl, fX12, jc2, lX12, jcat, jel, lv_args, Value.category, jins, jsrt, jins2, jble, jblt, jf3, List.filter_cons, List.filter_nil, G_m, oX12_layTransfers, oX12_inRange, oX12_fails, joIII, joR, joRI, -Int32.not_le, -Int32.not_lt, -Int64.not_le, -Int64.not_lt, i3lt, i6lt, hok, hd, hst]
  try simp (disch := omega) [-Prod.forall, -Prod.exists, -Prod.mk.injEq, -Int32.not_le, -Int32.not_lt, -Int64.not_le, -Int64.not_lt, i3lt, i6lt, hok, hd, hst]
  intro v0 τ0 hv0 f0 h0 ho
  subst hv0
  have e : τ0.1 322 30 = nI (trS σ).length := by
    have := ho.1
    rw [Nat.zero_add] at this
    exact this
  have g0 : jfr aSc bSc σ τ0 := sc_of f0 sc_Tf (fun _ q => q)
  by_cases h : mIn x 0 (nI (trS σ).length - 1) = true
  · have hx := mIn_jin rfl (by omega) h
    have hx24 : jin x 24 := jin_le hx (by omega)
    obtain ⟨o1, o2, o3⟩ := ho.2 x.toNatClampNeg (jin_lt hx)
    rw [Nat.zero_add] at o1 o2 o3
    by_cases w0 : w = 0
    · refine jvk_ok TX12_transfer (V := [(250, 1, 12, oX12_layTransfers), (138, 2, 12, oX12_fails)]) (S := [(117, 3, 0, oX12_inRange)]) (List.forall_mem_cons.mpr ⟨⟨mX12_layTransfers, n + 4, 0, TX12, 53, rfl, by omega, kX12_250, WX12_layTransfers, rfl, CX12_layTransfers g (n)⟩, (List.forall_mem_cons.mpr ⟨⟨mX12_fails, n + 0, 1, TX12, 53, rfl, by omega, kX12_138, WX12_fails, rfl, CX12_fails g (n)⟩, (fun _ h => absurd h List.not_mem_nil)⟩)⟩) (List.forall_mem_cons.mpr ⟨⟨mX12_inRange, n + 0, by omega, Or.inl kX12_117, WX12_inRange, CX12_inRange g (n)⟩, (fun _ h => absurd h List.not_mem_nil)⟩) [] 60 _ _ _ _ ?_
      simp (maxSteps := 1000000) [↓Bool.cond_eq_ite, -Prod.forall, -Prod.exists, -Prod.mk.injEq, jvk, tX12_transfer, jtb, jol, jst, jlk, jcmp, jbin, jfl, fX12, jc2, lX12, jcat, jel, lv_args, Value.category, jins, jsrt, jins2, jble, jblt, jf3, List.filter_cons, List.filter_nil, G_m, oX12_layTransfers, oX12_inRange, oX12_fails, joIII, joR, joRI, -Int32.not_le, -Int32.not_lt, -Int64.not_le, -Int64.not_lt, i3lt, i6lt, jup_1, e, h, hx24, o1, w0]
      try simp (disch := omega) [-Prod.forall, -Prod.exists, -Prod.mk.injEq, -Int32.not_le, -Int32.not_lt, -Int64.not_le, -Int64.not_lt, i3lt, i6lt, jup_1, e, h, hx24, o1, w0]
      exact hp _ _ ⟨by rw [if_pos h, trN, if_pos w0]; first | rfl | simp, g0.up _ rfl, by rw [if_pos h]; rfl⟩
    · by_cases w1 : w = 1
      · refine jvk_ok TX12_transfer (V := [(250, 1, 12, oX12_layTransfers), (138, 2, 12, oX12_fails)]) (S := [(117, 3, 0, oX12_inRange)]) (List.forall_mem_cons.mpr ⟨⟨mX12_layTransfers, n + 4, 0, TX12, 53, rfl, by omega, kX12_250, WX12_layTransfers, rfl, CX12_layTransfers g (n)⟩, (List.forall_mem_cons.mpr ⟨⟨mX12_fails, n + 0, 1, TX12, 53, rfl, by omega, kX12_138, WX12_fails, rfl, CX12_fails g (n)⟩, (fun _ h => absurd h List.not_mem_nil)⟩)⟩) (List.forall_mem_cons.mpr ⟨⟨mX12_inRange, n + 0, by omega, Or.inl kX12_117, WX12_inRange, CX12_inRange g (n)⟩, (fun _ h => absurd h List.not_mem_nil)⟩) [] 60 _ _ _ _ ?_
        simp (maxSteps := 1000000) [↓Bool.cond_eq_ite, -Prod.forall, -Prod.exists, -Prod.mk.injEq, jvk, tX12_transfer, jtb, jol, jst, jlk, jcmp, jbin, jfl, fX12, jc2, lX12, jcat, jel, lv_args, Value.category, jins, jsrt, jins2, jble, jblt, jf3, List.filter_cons, List.filter_nil, G_m, oX12_layTransfers, oX12_inRange, oX12_fails, joIII, joR, joRI, -Int32.not_le, -Int32.not_lt, -Int64.not_le, -Int64.not_lt, i3lt, i6lt, jup_1, e, h, hx24, o2, w0, w1]
        try simp (disch := omega) [-Prod.forall, -Prod.exists, -Prod.mk.injEq, -Int32.not_le, -Int32.not_lt, -Int64.not_le, -Int64.not_lt, i3lt, i6lt, jup_1, e, h, hx24, o2, w0, w1]
        exact hp _ _ ⟨by rw [if_pos h, trN, if_neg w0, if_pos w1]; first | rfl | simp, g0.up _ rfl, by rw [if_pos h]; rfl⟩
      · by_cases w2 : w = 2
        · refine jvk_ok TX12_transfer (V := [(250, 1, 12, oX12_layTransfers), (138, 2, 12, oX12_fails)]) (S := [(117, 3, 0, oX12_inRange)]) (List.forall_mem_cons.mpr ⟨⟨mX12_layTransfers, n + 4, 0, TX12, 53, rfl, by omega, kX12_250, WX12_layTransfers, rfl, CX12_layTransfers g (n)⟩, (List.forall_mem_cons.mpr ⟨⟨mX12_fails, n + 0, 1, TX12, 53, rfl, by omega, kX12_138, WX12_fails, rfl, CX12_fails g (n)⟩, (fun _ h => absurd h List.not_mem_nil)⟩)⟩) (List.forall_mem_cons.mpr ⟨⟨mX12_inRange, n + 0, by omega, Or.inl kX12_117, WX12_inRange, CX12_inRange g (n)⟩, (fun _ h => absurd h List.not_mem_nil)⟩) [] 60 _ _ _ _ ?_
          simp (maxSteps := 1000000) [↓Bool.cond_eq_ite, -Prod.forall, -Prod.exists, -Prod.mk.injEq, jvk, tX12_transfer, jtb, jol, jst, jlk, jcmp, jbin, jfl, fX12, jc2, lX12, jcat, jel, lv_args, Value.category, jins, jsrt, jins2, jble, jblt, jf3, List.filter_cons, List.filter_nil, G_m, oX12_layTransfers, oX12_inRange, oX12_fails, joIII, joR, joRI, -Int32.not_le, -Int32.not_lt, -Int64.not_le, -Int64.not_lt, i3lt, i6lt, jup_1, e, h, hx24, o3, w0, w1, w2]
          try simp (disch := omega) [-Prod.forall, -Prod.exists, -Prod.mk.injEq, -Int32.not_le, -Int32.not_lt, -Int64.not_le, -Int64.not_lt, i3lt, i6lt, jup_1, e, h, hx24, o3, w0, w1, w2]
          exact hp _ _ ⟨by rw [if_pos h, trN, if_neg w0, if_neg w1, if_pos w2]; first | rfl | simp, g0.up _ rfl, by rw [if_pos h]; rfl⟩
        · refine jvk_ok TX12_transfer (V := [(250, 1, 12, oX12_layTransfers), (138, 2, 12, oX12_fails)]) (S := [(117, 3, 0, oX12_inRange)]) (List.forall_mem_cons.mpr ⟨⟨mX12_layTransfers, n + 4, 0, TX12, 53, rfl, by omega, kX12_250, WX12_layTransfers, rfl, CX12_layTransfers g (n)⟩, (List.forall_mem_cons.mpr ⟨⟨mX12_fails, n + 0, 1, TX12, 53, rfl, by omega, kX12_138, WX12_fails, rfl, CX12_fails g (n)⟩, (fun _ h => absurd h List.not_mem_nil)⟩)⟩) (List.forall_mem_cons.mpr ⟨⟨mX12_inRange, n + 0, by omega, Or.inl kX12_117, WX12_inRange, CX12_inRange g (n)⟩, (fun _ h => absurd h List.not_mem_nil)⟩) [] 60 _ _ _ _ ?_
          simp (maxSteps := 1000000) [↓Bool.cond_eq_ite, -Prod.forall, -Prod.exists, -Prod.mk.injEq, jvk, tX12_transfer, jtb, jol, jst, jlk, jcmp, jbin, jfl, fX12, jc2, lX12, jcat, jel, lv_args, Value.category, jins, jsrt, jins2, jble, jblt, jf3, List.filter_cons, List.filter_nil, G_m, oX12_layTransfers, oX12_inRange, oX12_fails, joIII, joR, joRI, -Int32.not_le, -Int32.not_lt, -Int64.not_le, -Int64.not_lt, i3lt, i6lt, e, h, w0, w1, w2]
          try simp (disch := omega) [-Prod.forall, -Prod.exists, -Prod.mk.injEq, -Int32.not_le, -Int32.not_lt, -Int64.not_le, -Int64.not_lt, i3lt, i6lt, e, h, w0, w1, w2]
          exact hp _ _ ⟨by rw [if_pos h, trN, if_neg w0, if_neg w1, if_neg w2], g0.up _ rfl, by rw [if_pos h]; rfl⟩
  · refine jvk_ok TX12_transfer (V := [(250, 1, 12, oX12_layTransfers), (138, 2, 12, oX12_fails)]) (S := [(117, 3, 0, oX12_inRange)]) (List.forall_mem_cons.mpr ⟨⟨mX12_layTransfers, n + 4, 0, TX12, 53, rfl, by omega, kX12_250, WX12_layTransfers, rfl, CX12_layTransfers g (n)⟩, (List.forall_mem_cons.mpr ⟨⟨mX12_fails, n + 0, 1, TX12, 53, rfl, by omega, kX12_138, WX12_fails, rfl, CX12_fails g (n)⟩, (fun _ h => absurd h List.not_mem_nil)⟩)⟩) (List.forall_mem_cons.mpr ⟨⟨mX12_inRange, n + 0, by omega, Or.inl kX12_117, WX12_inRange, CX12_inRange g (n)⟩, (fun _ h => absurd h List.not_mem_nil)⟩) [] 60 _ _ _ _ ?_
    simp (maxSteps := 1000000) [↓Bool.cond_eq_ite, -Prod.forall, -Prod.exists, -Prod.mk.injEq, jvk, tX12_transfer, jtb, jol, jst, jlk, jcmp, jbin, jfl, fX12, jc2, lX12, jcat, jel, lv_args, Value.category, jins, jsrt, jins2, jble, jblt, jf3, List.filter_cons, List.filter_nil, G_m, oX12_layTransfers, oX12_inRange, oX12_fails, joIII, joR, joRI, -Int32.not_le, -Int32.not_lt, -Int64.not_le, -Int64.not_lt, i3lt, i6lt, e, h]
    try simp (disch := omega) [-Prod.forall, -Prod.exists, -Prod.mk.injEq, -Int32.not_le, -Int32.not_lt, -Int64.not_le, -Int64.not_lt, i3lt, i6lt, e, h]
    exact hp _ _ ⟨by rw [if_neg h], g0.up _ rfl, by rw [if_neg h]; rfl⟩
/-- a row with all stakes at their targets, for the first k -/
def stR (tg f : Nat → Int32) (k : Nat) : Nat → Int32 := fun j => if j < 8 + 20 * k ∧ 8 ≤ j ∧ (j - 8) % 20 = 5 then tg ((j - 8) / 20) else f j
theorem stR_0 (tg f : Nat → Int32) : stR tg f 0 = f := by
  funext j
  unfold stR
  rw [if_neg (by omega)]
theorem stR_s (tg f : Nat → Int32) (k : Nat) : stR tg f (k + 1) = fun j => if j = 8 + 20 * k + 5 then tg k else stR tg f k j := by
  funext j
  try dsimp only
  unfold stR
  by_cases e : j = 8 + 20 * k + 5
  · have e2 : (j - 8) / 20 = k := by omega
    rw [if_pos e, if_pos (by omega), e2]
  · rw [if_neg e]
    by_cases h : j < 8 + 20 * k ∧ 8 ≤ j ∧ (j - 8) % 20 = 5
    · rw [if_pos h, if_pos (by omega)]
    · rw [if_neg h, if_neg (by omega)]
theorem stR_congr {tg tg' f : Nat → Int32} {k : Nat} (h : ∀ p, p < k → tg p = tg' p) : stR tg f k = stR tg' f k := by
  funext j
  unfold stR
  by_cases h1 : j < 8 + 20 * k ∧ 8 ≤ j ∧ (j - 8) % 20 = 5
  · rw [if_pos h1, if_pos h1, h _ (by omega)]
  · rw [if_neg h1, if_neg h1]
theorem sR_tg {σ τ : jM} (s : sR σ τ) : tgS τ = tgS σ := by
  funext p
  have e1 : dpN τ = dpN σ := by unfold dpN; rw [s.1]
  have e2 : tgW τ = tgW σ := by funext i; unfold tgW; rw [sR_p s, sR_D s]
  unfold tgS
  rw [sR_l s, e1, e2, sR_Lv s]
theorem sR_trS {σ τ : jM} (s : sR σ τ) : trS τ = trS σ := by
  have e : duP τ = duP σ := by funext p; unfold duP; rw [sR_N s, sR_tg s, sR_D s]
  have e2 : duI τ = duI σ := by funext p; unfold duI; rw [e]
  unfold trS
  rw [e2]
def oX12_settle : jO := joR fun a σ => (a = 322 ∧ mOK σ ∧ dI (σ.1 323) ∧ dSt (σ.1 323) ∧ mH σ, fun v τ => v = some (.int (nI (trS σ).length)) ∧ ∃ ρ, jfr aSc bSc (mRem (jup σ 322 11 0)) ρ ∧ ρ.1 322 11 = 0 ∧ τ = rw3 ρ (stR (tgS σ) (σ.1 323) (mN σ)))
set_option maxRecDepth 100000 in
set_option maxHeartbeats 4000000 in
theorem CX12_settle (g : jG) (n : Nat) : jOk g (n + 5) mX12_settle oX12_settle := by
  refine joR_ok ?_
  rintro _ σ ⟨rfl, hok, hd, hst, hh⟩
  obtain ⟨hN10, hN4⟩ := mN_le hok
  have hh1 : mH (jup σ 322 11 0) := hh
  obtain ⟨μ, eμ⟩ : ∃ μ, μ = mRem (jup σ 322 11 0) := ⟨_, rfl⟩
  have e323 : μ.1 323 = σ.1 323 := by rw [eμ]; exact funext fun j => mRem_d _ j
  have s0 : sR σ μ := ⟨e323, by rw [eμ]; exact mRem_f _ 3 (by decide), by rw [eμ]; exact mRem_f _ 4 (by decide)⟩
  have hok1 : mOK μ := by rw [eμ]; exact mOK_rem (mOK_th hok 0)
  have hd1 : dI (μ.1 323) := by rw [e323]; exact hd
  have hs1 : dSt (μ.1 323) := by rw [e323]; exact hst
  have e11 : μ.1 322 11 = 0 := by rw [eμ, mRem_f _ 11 (by decide)]; rfl
  refine jCon.ofP (by decide +kernel) (by simp [lg_sl, Value.category]) (fun post hp => ?_)
  refine jvk_ok TX12_settle (V := [(253, 1, 12, oX12_remember), (250, 1, 12, oX12_layTransfers)]) (S := [(124, 2, 0, oX12_place)]) (List.forall_mem_cons.mpr ⟨⟨mX12_remember, n + 0, 0, TX12, 53, rfl, by omega, kX12_253, WX12_remember, rfl, CX12_remember g (n)⟩, (List.forall_mem_cons.mpr ⟨⟨mX12_layTransfers, n + 4, 0, TX12, 53, rfl, by omega, kX12_250, WX12_layTransfers, rfl, CX12_layTransfers g (n)⟩, (fun _ h => absurd h List.not_mem_nil)⟩)⟩) (List.forall_mem_cons.mpr ⟨⟨mX12_place, n + 0, by omega, Or.inl kX12_124, WX12_place, CX12_place g (n)⟩, (fun _ h => absurd h List.not_mem_nil)⟩) [10] 20 _ _ _ _ ?_
  simp (maxSteps := 1000000) [↓Bool.cond_eq_ite, -Prod.forall, -Prod.exists, -Prod.mk.injEq, jvk, tX12_settle, jtb, jol, jst, jlk, jcmp, jbin, jfl, fX12, jc2, lX12, jcat, jel, lv_args, Value.category, jins, jsrt, jins2, jble, jblt, jf3, List.filter_cons, List.filter_nil, G_m, oX12_remember, oX12_layTransfers, oX12_place, joII, joR, -Int32.not_le, -Int32.not_lt, -Int64.not_le, -Int64.not_lt, i3lt, i6lt, hh1]
  try simp (disch := omega) [-Prod.forall, -Prod.exists, -Prod.mk.injEq, -Int32.not_le, -Int32.not_lt, -Int64.not_le, -Int64.not_lt, i3lt, i6lt, hh1]
  rw [← eμ] at hp ⊢
  refine jvk_ok TX12_settle (V := [(253, 1, 12, oX12_remember), (250, 1, 12, oX12_layTransfers)]) (S := [(124, 2, 0, oX12_place)]) (List.forall_mem_cons.mpr ⟨⟨mX12_remember, n + 0, 0, TX12, 53, rfl, by omega, kX12_253, WX12_remember, rfl, CX12_remember g (n)⟩, (List.forall_mem_cons.mpr ⟨⟨mX12_layTransfers, n + 4, 0, TX12, 53, rfl, by omega, kX12_250, WX12_layTransfers, rfl, CX12_layTransfers g (n)⟩, (fun _ h => absurd h List.not_mem_nil)⟩)⟩) (List.forall_mem_cons.mpr ⟨⟨mX12_place, n + 0, by omega, Or.inl kX12_124, WX12_place, CX12_place g (n)⟩, (fun _ h => absurd h List.not_mem_nil)⟩) [13] 20 _ _ _ _ ?_
  simp (maxSteps := 1000000) [↓Bool.cond_eq_ite, -Prod.forall, -Prod.exists, -Prod.mk.injEq, jvk, tX12_settle, jtb, jol, jst, jlk, jcmp, jbin, jfl, fX12, jc2, lX12, jcat, jel, lv_args, Value.category, jins, jsrt, jins2, jble, jblt, jf3, List.filter_cons, List.filter_nil, G_m, oX12_remember, oX12_layTransfers, oX12_place, joII, joR, -Int32.not_le, -Int32.not_lt, -Int64.not_le, -Int64.not_lt, i3lt, i6lt, hok1, hd1, hs1]
  try simp (disch := omega) [-Prod.forall, -Prod.exists, -Prod.mk.injEq, -Int32.not_le, -Int32.not_lt, -Int64.not_le, -Int64.not_lt, i3lt, i6lt, hok1, hd1, hs1]
  intro v0 τ0 hv0 f0 h0 ho
  subst hv0
  have g0 : jfr aSc bSc μ τ0 := sc_of f0 sc_Tf (fun _ q => q)
  have e30 : τ0.1 322 30 = nI (trS σ).length := by
    have := ho.1
    rw [Nat.zero_add, sR_trS s0] at this
    exact this
  have key := jloop (P := fun k => jW g mX12_settle (n + 5) post 15 [(0, .ref 322), (1, .int (nI k))] [] (rw3 τ0 (stR (tgS σ) (σ.1 323) k))) (N := mN σ) (by
    have hle : nI (mN σ) ≤ nI (mN σ) := nI_le (Nat.le_refl _) (by omega)
    have e4 : (rw3 τ0 (stR (tgS σ) (σ.1 323) (mN σ))).1 322 4 = nI (mN σ) := ((f0.2.2 322 4 rfl).trans s0.2.2).trans hN4
    have e30' : (rw3 τ0 (stR (tgS σ) (σ.1 323) (mN σ))).1 322 30 = nI (trS σ).length := e30
    refine jvk_ok TX12_settle (V := [(253, 1, 12, oX12_remember), (250, 1, 12, oX12_layTransfers)]) (S := [(124, 2, 0, oX12_place)]) (List.forall_mem_cons.mpr ⟨⟨mX12_remember, n + 0, 0, TX12, 53, rfl, by omega, kX12_253, WX12_remember, rfl, CX12_remember g (n)⟩, (List.forall_mem_cons.mpr ⟨⟨mX12_layTransfers, n + 4, 0, TX12, 53, rfl, by omega, kX12_250, WX12_layTransfers, rfl, CX12_layTransfers g (n)⟩, (fun _ h => absurd h List.not_mem_nil)⟩)⟩) (List.forall_mem_cons.mpr ⟨⟨mX12_place, n + 0, by omega, Or.inl kX12_124, WX12_place, CX12_place g (n)⟩, (fun _ h => absurd h List.not_mem_nil)⟩) [15] 20 _ _ _ _ ?_
    simp (maxSteps := 1000000) [↓Bool.cond_eq_ite, -Prod.forall, -Prod.exists, -Prod.mk.injEq, jvk, tX12_settle, jtb, jol, jst, jlk, jcmp, jbin, jfl, fX12, jc2, lX12, jcat, jel, lv_args, Value.category, jins, jsrt, jins2, jble, jblt, jf3, List.filter_cons, List.filter_nil, G_m, oX12_remember, oX12_layTransfers, oX12_place, joII, joR, -Int32.not_le, -Int32.not_lt, -Int64.not_le, -Int64.not_lt, i3lt, i6lt, e4, hle, e30']
    try simp (disch := omega) [-Prod.forall, -Prod.exists, -Prod.mk.injEq, -Int32.not_le, -Int32.not_lt, -Int64.not_le, -Int64.not_lt, i3lt, i6lt, e4, hle, e30']
    exact hp _ _ ⟨rfl, τ0, g0, (f0.2.2 322 11 rfl).trans e11, rfl⟩) (fun k hk ih => by
    have hlt : ¬ nI (mN σ) ≤ nI k := nI_ge hk (by omega)
    have hk1 : jin (nI k) 10 := jin_nI (by omega) (by decide)
    have eck : (nI k).toNatClampNeg = k := nI_clamp (by omega)
    have em : mpl (nI k) 5 = 8 + 20 * k + 5 := by unfold mpl; rw [eck]; rfl
    have hpl := jN_208 (k := 8 + 20 * k + 5) (by omega)
    obtain ⟨ρ, eρ⟩ : ∃ ρ, ρ = rw3 τ0 (stR (tgS σ) (σ.1 323) k) := ⟨_, rfl⟩
    have e4 : ρ.1 322 4 = nI (mN σ) := by rw [eρ]; exact ((f0.2.2 322 4 rfl).trans s0.2.2).trans hN4
    have e342 : ρ.1 342 k = tgS σ k := by
      rw [eρ, rw3_o _ _ (by decide), h0 k (by rw [sR_N s0]; exact hk), sR_tg s0]
    rw [stR_s, ← rw3_up, ← eρ] at ih
    rw [← eρ]
    refine jvk_ok TX12_settle (V := [(253, 1, 12, oX12_remember), (250, 1, 12, oX12_layTransfers)]) (S := [(124, 2, 0, oX12_place)]) (List.forall_mem_cons.mpr ⟨⟨mX12_remember, n + 0, 0, TX12, 53, rfl, by omega, kX12_253, WX12_remember, rfl, CX12_remember g (n)⟩, (List.forall_mem_cons.mpr ⟨⟨mX12_layTransfers, n + 4, 0, TX12, 53, rfl, by omega, kX12_250, WX12_layTransfers, rfl, CX12_layTransfers g (n)⟩, (fun _ h => absurd h List.not_mem_nil)⟩)⟩) (List.forall_mem_cons.mpr ⟨⟨mX12_place, n + 0, by omega, Or.inl kX12_124, WX12_place, CX12_place g (n)⟩, (fun _ h => absurd h List.not_mem_nil)⟩) [15] 40 _ _ _ _ ?_
    simp (maxSteps := 1000000) [↓Bool.cond_eq_ite, -Prod.forall, -Prod.exists, -Prod.mk.injEq, jvk, tX12_settle, jtb, jol, jst, jlk, jcmp, jbin, jfl, fX12, jc2, lX12, jcat, jel, lv_args, Value.category, jins, jsrt, jins2, jble, jblt, jf3, List.filter_cons, List.filter_nil, G_m, oX12_remember, oX12_layTransfers, oX12_place, joII, joR, -Int32.not_le, -Int32.not_lt, -Int64.not_le, -Int64.not_lt, i3lt, i6lt, e4, hlt, hk1, eck, em, hpl, e342, jin_c, tn_c, nI_1]
    try simp (disch := omega) [-Prod.forall, -Prod.exists, -Prod.mk.injEq, -Int32.not_le, -Int32.not_lt, -Int64.not_le, -Int64.not_lt, i3lt, i6lt, e4, hlt, hk1, eck, em, hpl, e342, jin_c, tn_c, nI_1]
    exact ih)
  have e0 : rw3 τ0 (stR (tgS σ) (σ.1 323) 0) = τ0 := by
    rw [stR_0]
    have : σ.1 323 = τ0.1 323 := by rw [← e323]; exact (funext fun j => f0.2.2 323 j rfl).symm
    rw [this, rw3_self]
  rw [nI_0, e0] at key
  refine jvk_ok TX12_settle (V := [(253, 1, 12, oX12_remember), (250, 1, 12, oX12_layTransfers)]) (S := [(124, 2, 0, oX12_place)]) (List.forall_mem_cons.mpr ⟨⟨mX12_remember, n + 0, 0, TX12, 53, rfl, by omega, kX12_253, WX12_remember, rfl, CX12_remember g (n)⟩, (List.forall_mem_cons.mpr ⟨⟨mX12_layTransfers, n + 4, 0, TX12, 53, rfl, by omega, kX12_250, WX12_layTransfers, rfl, CX12_layTransfers g (n)⟩, (fun _ h => absurd h List.not_mem_nil)⟩)⟩) (List.forall_mem_cons.mpr ⟨⟨mX12_place, n + 0, by omega, Or.inl kX12_124, WX12_place, CX12_place g (n)⟩, (fun _ h => absurd h List.not_mem_nil)⟩) [15] 20 _ _ _ _ ?_
  simp (maxSteps := 1000000) [↓Bool.cond_eq_ite, -Prod.forall, -Prod.exists, -Prod.mk.injEq, jvk, tX12_settle, jtb, jol, jst, jlk, jcmp, jbin, jfl, fX12, jc2, lX12, jcat, jel, lv_args, Value.category, jins, jsrt, jins2, jble, jblt, jf3, List.filter_cons, List.filter_nil, G_m, oX12_remember, oX12_layTransfers, oX12_place, joII, joR, -Int32.not_le, -Int32.not_lt, -Int64.not_le, -Int64.not_lt, i3lt, i6lt]
  try simp (disch := omega) [-Prod.forall, -Prod.exists, -Prod.mk.injEq, -Int32.not_le, -Int32.not_lt, -Int64.not_le, -Int64.not_lt, i3lt, i6lt]
  exact key
/-! plans that are open -/
def mAh (σ : jM) (k : Nat) : Nat → Bool := fun l => mO σ l && (decide (σ.1 328 l < σ.1 328 k) || decide (σ.1 328 l = σ.1 328 k) && decide (l < k))
def mPa (σ : jM) (x : Int32) (k : Nat) : Bool := mO σ k && decide (nI (cn (mAh σ k) (mPl σ)) = x)
theorem mPl_le {σ : jM} (h : mOK σ) : mPl σ ≤ 20 ∧ σ.1 322 5 = nI (mPl σ) := by
  obtain ⟨N, hN, hN1, hN2⟩ := nI_rng h.2.2.1 h.2.2.2 (by decide)
  unfold mPl
  rw [hN2]
  exact ⟨hN, hN1⟩
def oX12_planAt : jO := joRI fun a x σ => (a = 322 ∧ mOK σ, fun v τ => v = some (.int (ff (mPa σ x) (mPl σ) 0)) ∧ τ = σ)
set_option maxRecDepth 100000 in
set_option maxHeartbeats 4000000 in
theorem CX12_planAt (g : jG) (n : Nat) : jOk g (n + 1) mX12_planAt oX12_planAt := by
  refine joRI_ok ?_
  rintro _ x σ ⟨rfl, hok⟩
  obtain ⟨hL20, hL5⟩ := mPl_le hok
  refine jCon.ofP (by decide +kernel) (by simp [lg_sl, Value.category]) (fun post hp => ?_)
  refine jvk_ok TX12_planAt (V := [(159, 2, 12, oX12_isOpen)]) (S := []) (List.forall_mem_cons.mpr ⟨⟨mX12_isOpen, n + 0, 1, TX12, 53, rfl, by omega, kX12_159, WX12_isOpen, rfl, CX12_isOpen g (n)⟩, (fun _ h => absurd h List.not_mem_nil)⟩) (fun _ h => absurd h List.not_mem_nil) [2] 30 _ _ _ _ ?_
  simp (maxSteps := 1000000) [↓Bool.cond_eq_ite, -Prod.forall, -Prod.exists, -Prod.mk.injEq, jvk, tX12_planAt, jtb, jol, jst, jlk, jcmp, jbin, jfl, fX12, jc2, lX12, jcat, jel, lv_args, Value.category, jins, jsrt, jins2, jble, jblt, jf3, List.filter_cons, List.filter_nil, G_m, oX12_isOpen, joRI, -Int32.not_le, -Int32.not_lt, -Int64.not_le, -Int64.not_lt, i3lt, i6lt]
  try simp (disch := omega) [-Prod.forall, -Prod.exists, -Prod.mk.injEq, -Int32.not_le, -Int32.not_lt, -Int64.not_le, -Int64.not_lt, i3lt, i6lt]
  have key := jloop (P := fun k => ff (mPa σ x) (mPl σ - k) k = ff (mPa σ x) (mPl σ) 0 → jW g mX12_planAt (n + 1) post 2 [(0, .ref 322), (1, .int x), (2, .int (nI k))] [] σ) (N := mPl σ) (fun e => by
    rw [Nat.sub_self] at e
    have hle : nI (mPl σ) ≤ nI (mPl σ) := nI_le (Nat.le_refl _) (by omega)
    refine jvk_ok TX12_planAt (V := [(159, 2, 12, oX12_isOpen)]) (S := []) (List.forall_mem_cons.mpr ⟨⟨mX12_isOpen, n + 0, 1, TX12, 53, rfl, by omega, kX12_159, WX12_isOpen, rfl, CX12_isOpen g (n)⟩, (fun _ h => absurd h List.not_mem_nil)⟩) (fun _ h => absurd h List.not_mem_nil) [2, 26] 30 _ _ _ _ ?_
    simp (maxSteps := 1000000) [↓Bool.cond_eq_ite, -Prod.forall, -Prod.exists, -Prod.mk.injEq, jvk, tX12_planAt, jtb, jol, jst, jlk, jcmp, jbin, jfl, fX12, jc2, lX12, jcat, jel, lv_args, Value.category, jins, jsrt, jins2, jble, jblt, jf3, List.filter_cons, List.filter_nil, G_m, oX12_isOpen, joRI, -Int32.not_le, -Int32.not_lt, -Int64.not_le, -Int64.not_lt, i3lt, i6lt, hL5, hle]
    try simp (disch := omega) [-Prod.forall, -Prod.exists, -Prod.mk.injEq, -Int32.not_le, -Int32.not_lt, -Int64.not_le, -Int64.not_lt, i3lt, i6lt, hL5, hle]
    exact hp _ _ ⟨by rw [← e]; rfl, rfl⟩) (fun k hk ih e => by
    have hlt : ¬ nI (mPl σ) ≤ nI k := nI_ge hk (by omega)
    have hk1 : jin (nI k) 20 := jin_nI (by omega) (by decide)
    have eck : (nI k).toNatClampNeg = k := nI_clamp (by omega)
    rw [show mPl σ - k = (mPl σ - (k + 1)) + 1 by omega] at e
    simp only [ff] at e
    by_cases ho : mO σ k = true
    · have ho' : (σ.1 323 7 >>> (nI k &&& 31)) &&& 1 = 0 := by simpa [mO] using ho
      have key2 := jloop (P := fun l => jW g mX12_planAt (n + 1) post 26 [(0, .ref 322), (1, .int x), (2, .int (nI k)), (3, .int (nI (cn (mAh σ k) l))), (4, .int (nI l))] [] σ) (N := mPl σ) (by
        have hle : nI (mPl σ) ≤ nI (mPl σ) := nI_le (Nat.le_refl _) (by omega)
        by_cases c : nI (cn (mAh σ k) (mPl σ)) = x
        · rw [if_pos (by simp [mPa, ho, c])] at e
          refine jvk_ok TX12_planAt (V := [(159, 2, 12, oX12_isOpen)]) (S := []) (List.forall_mem_cons.mpr ⟨⟨mX12_isOpen, n + 0, 1, TX12, 53, rfl, by omega, kX12_159, WX12_isOpen, rfl, CX12_isOpen g (n)⟩, (fun _ h => absurd h List.not_mem_nil)⟩) (fun _ h => absurd h List.not_mem_nil) [2, 26] 30 _ _ _ _ ?_
          simp (maxSteps := 1000000) [↓Bool.cond_eq_ite, -Prod.forall, -Prod.exists, -Prod.mk.injEq, jvk, tX12_planAt, jtb, jol, jst, jlk, jcmp, jbin, jfl, fX12, jc2, lX12, jcat, jel, lv_args, Value.category, jins, jsrt, jins2, jble, jblt, jf3, List.filter_cons, List.filter_nil, G_m, oX12_isOpen, joRI, -Int32.not_le, -Int32.not_lt, -Int64.not_le, -Int64.not_lt, i3lt, i6lt, hL5, hle, c]
          try simp (disch := omega) [-Prod.forall, -Prod.exists, -Prod.mk.injEq, -Int32.not_le, -Int32.not_lt, -Int64.not_le, -Int64.not_lt, i3lt, i6lt, hL5, hle, c]
          exact hp _ _ ⟨by rw [← e], rfl⟩
        · rw [if_neg (by simp [mPa, c])] at e
          have k1 := ih e
          refine jvk_ok TX12_planAt (V := [(159, 2, 12, oX12_isOpen)]) (S := []) (List.forall_mem_cons.mpr ⟨⟨mX12_isOpen, n + 0, 1, TX12, 53, rfl, by omega, kX12_159, WX12_isOpen, rfl, CX12_isOpen g (n)⟩, (fun _ h => absurd h List.not_mem_nil)⟩) (fun _ h => absurd h List.not_mem_nil) [2, 26] 30 _ _ _ _ ?_
          simp (maxSteps := 1000000) [↓Bool.cond_eq_ite, -Prod.forall, -Prod.exists, -Prod.mk.injEq, jvk, tX12_planAt, jtb, jol, jst, jlk, jcmp, jbin, jfl, fX12, jc2, lX12, jcat, jel, lv_args, Value.category, jins, jsrt, jins2, jble, jblt, jf3, List.filter_cons, List.filter_nil, G_m, oX12_isOpen, joRI, -Int32.not_le, -Int32.not_lt, -Int64.not_le, -Int64.not_lt, i3lt, i6lt, hL5, hle, c, nI_1]
          try simp (disch := omega) [-Prod.forall, -Prod.exists, -Prod.mk.injEq, -Int32.not_le, -Int32.not_lt, -Int64.not_le, -Int64.not_lt, i3lt, i6lt, hL5, hle, c, nI_1]
          exact jW.mono k1 (by simp)) (fun l hl ih2 => by
        have hlt2 : ¬ nI (mPl σ) ≤ nI l := nI_ge hl (by omega)
        have hl1 : jin (nI l) 20 := jin_nI (by omega) (by decide)
        have ecl : (nI l).toNatClampNeg = l := nI_clamp (by omega)
        have hclk := nI_leI (a := k) (b := l) (by omega) (by omega)
        simp only [cn] at ih2
        by_cases o2 : mO σ l = true
        · have o2' : (σ.1 323 7 >>> (nI l &&& 31)) &&& 1 = 0 := by simpa [mO] using o2
          by_cases c1 : σ.1 328 l < σ.1 328 k
          · have c1' : ¬ σ.1 328 k ≤ σ.1 328 l := by grind
            rw [if_pos (by simp [mAh, o2, c1]), ← nI_1] at ih2
            refine jvk_ok TX12_planAt (V := [(159, 2, 12, oX12_isOpen)]) (S := []) (List.forall_mem_cons.mpr ⟨⟨mX12_isOpen, n + 0, 1, TX12, 53, rfl, by omega, kX12_159, WX12_isOpen, rfl, CX12_isOpen g (n)⟩, (fun _ h => absurd h List.not_mem_nil)⟩) (fun _ h => absurd h List.not_mem_nil) [2, 26] 60 _ _ _ _ ?_
            simp (maxSteps := 1000000) [↓Bool.cond_eq_ite, -Prod.forall, -Prod.exists, -Prod.mk.injEq, jvk, tX12_planAt, jtb, jol, jst, jlk, jcmp, jbin, jfl, fX12, jc2, lX12, jcat, jel, lv_args, Value.category, jins, jsrt, jins2, jble, jblt, jf3, List.filter_cons, List.filter_nil, G_m, oX12_isOpen, joRI, -Int32.not_le, -Int32.not_lt, -Int64.not_le, -Int64.not_lt, i3lt, i6lt, hL5, hlt2, hk1, hl1, eck, ecl, o2', c1', nI_1]
            try simp (disch := omega) [-Prod.forall, -Prod.exists, -Prod.mk.injEq, -Int32.not_le, -Int32.not_lt, -Int64.not_le, -Int64.not_lt, i3lt, i6lt, hL5, hlt2, hk1, hl1, eck, ecl, o2', c1', nI_1]
            simpa [nI_1] using ih2
          · have c1' : σ.1 328 k ≤ σ.1 328 l := by grind
            by_cases c2 : σ.1 328 l = σ.1 328 k
            · by_cases c3 : l < k
              · rw [if_pos (by simp [mAh, o2, c2, c3]), ← nI_1] at ih2
                refine jvk_ok TX12_planAt (V := [(159, 2, 12, oX12_isOpen)]) (S := []) (List.forall_mem_cons.mpr ⟨⟨mX12_isOpen, n + 0, 1, TX12, 53, rfl, by omega, kX12_159, WX12_isOpen, rfl, CX12_isOpen g (n)⟩, (fun _ h => absurd h List.not_mem_nil)⟩) (fun _ h => absurd h List.not_mem_nil) [2, 26] 60 _ _ _ _ ?_
                simp (maxSteps := 1000000) [↓Bool.cond_eq_ite, -Prod.forall, -Prod.exists, -Prod.mk.injEq, jvk, tX12_planAt, jtb, jol, jst, jlk, jcmp, jbin, jfl, fX12, jc2, lX12, jcat, jel, lv_args, Value.category, jins, jsrt, jins2, jble, jblt, jf3, List.filter_cons, List.filter_nil, G_m, oX12_isOpen, joRI, -Int32.not_le, -Int32.not_lt, -Int64.not_le, -Int64.not_lt, i3lt, i6lt, hL5, hlt2, hk1, hl1, eck, ecl, o2', c1', c2, hclk, c3, nI_1]
                try simp (disch := omega) [-Prod.forall, -Prod.exists, -Prod.mk.injEq, -Int32.not_le, -Int32.not_lt, -Int64.not_le, -Int64.not_lt, i3lt, i6lt, hL5, hlt2, hk1, hl1, eck, ecl, o2', c1', c2, hclk, c3, nI_1]
                simpa [nI_1, c2, c3] using ih2
              · rw [if_neg (by simp [mAh, c2, c3])] at ih2
                refine jvk_ok TX12_planAt (V := [(159, 2, 12, oX12_isOpen)]) (S := []) (List.forall_mem_cons.mpr ⟨⟨mX12_isOpen, n + 0, 1, TX12, 53, rfl, by omega, kX12_159, WX12_isOpen, rfl, CX12_isOpen g (n)⟩, (fun _ h => absurd h List.not_mem_nil)⟩) (fun _ h => absurd h List.not_mem_nil) [2, 26] 60 _ _ _ _ ?_
                simp (maxSteps := 1000000) [↓Bool.cond_eq_ite, -Prod.forall, -Prod.exists, -Prod.mk.injEq, jvk, tX12_planAt, jtb, jol, jst, jlk, jcmp, jbin, jfl, fX12, jc2, lX12, jcat, jel, lv_args, Value.category, jins, jsrt, jins2, jble, jblt, jf3, List.filter_cons, List.filter_nil, G_m, oX12_isOpen, joRI, -Int32.not_le, -Int32.not_lt, -Int64.not_le, -Int64.not_lt, i3lt, i6lt, hL5, hlt2, hk1, hl1, eck, ecl, o2', c1', c2, hclk, c3, nI_1]
                try simp (disch := omega) [-Prod.forall, -Prod.exists, -Prod.mk.injEq, -Int32.not_le, -Int32.not_lt, -Int64.not_le, -Int64.not_lt, i3lt, i6lt, hL5, hlt2, hk1, hl1, eck, ecl, o2', c1', c2, hclk, c3, nI_1]
                simpa [nI_1, c2, c3] using ih2
            · rw [if_neg (by simp [mAh, c1, c2])] at ih2
              refine jvk_ok TX12_planAt (V := [(159, 2, 12, oX12_isOpen)]) (S := []) (List.forall_mem_cons.mpr ⟨⟨mX12_isOpen, n + 0, 1, TX12, 53, rfl, by omega, kX12_159, WX12_isOpen, rfl, CX12_isOpen g (n)⟩, (fun _ h => absurd h List.not_mem_nil)⟩) (fun _ h => absurd h List.not_mem_nil) [2, 26] 60 _ _ _ _ ?_
              simp (maxSteps := 1000000) [↓Bool.cond_eq_ite, -Prod.forall, -Prod.exists, -Prod.mk.injEq, jvk, tX12_planAt, jtb, jol, jst, jlk, jcmp, jbin, jfl, fX12, jc2, lX12, jcat, jel, lv_args, Value.category, jins, jsrt, jins2, jble, jblt, jf3, List.filter_cons, List.filter_nil, G_m, oX12_isOpen, joRI, -Int32.not_le, -Int32.not_lt, -Int64.not_le, -Int64.not_lt, i3lt, i6lt, hL5, hlt2, hk1, hl1, eck, ecl, o2', c1', c2, nI_1]
              try simp (disch := omega) [-Prod.forall, -Prod.exists, -Prod.mk.injEq, -Int32.not_le, -Int32.not_lt, -Int64.not_le, -Int64.not_lt, i3lt, i6lt, hL5, hlt2, hk1, hl1, eck, ecl, o2', c1', c2, nI_1]
              simpa [nI_1] using ih2
        · have o2' : ¬ (σ.1 323 7 >>> (nI l &&& 31)) &&& 1 = 0 := by simpa [mO] using o2
          rw [if_neg (by simp [mAh, o2])] at ih2
          refine jvk_ok TX12_planAt (V := [(159, 2, 12, oX12_isOpen)]) (S := []) (List.forall_mem_cons.mpr ⟨⟨mX12_isOpen, n + 0, 1, TX12, 53, rfl, by omega, kX12_159, WX12_isOpen, rfl, CX12_isOpen g (n)⟩, (fun _ h => absurd h List.not_mem_nil)⟩) (fun _ h => absurd h List.not_mem_nil) [2, 26] 60 _ _ _ _ ?_
          simp (maxSteps := 1000000) [↓Bool.cond_eq_ite, -Prod.forall, -Prod.exists, -Prod.mk.injEq, jvk, tX12_planAt, jtb, jol, jst, jlk, jcmp, jbin, jfl, fX12, jc2, lX12, jcat, jel, lv_args, Value.category, jins, jsrt, jins2, jble, jblt, jf3, List.filter_cons, List.filter_nil, G_m, oX12_isOpen, joRI, -Int32.not_le, -Int32.not_lt, -Int64.not_le, -Int64.not_lt, i3lt, i6lt, hL5, hlt2, hk1, hl1, eck, ecl, o2', nI_1]
          try simp (disch := omega) [-Prod.forall, -Prod.exists, -Prod.mk.injEq, -Int32.not_le, -Int32.not_lt, -Int64.not_le, -Int64.not_lt, i3lt, i6lt, hL5, hlt2, hk1, hl1, eck, ecl, o2', nI_1]
          simpa [nI_1] using ih2)
      have e0 : cn (mAh σ k) 0 = 0 := rfl
      rw [nI_0, e0, nI_0] at key2
      refine jvk_ok TX12_planAt (V := [(159, 2, 12, oX12_isOpen)]) (S := []) (List.forall_mem_cons.mpr ⟨⟨mX12_isOpen, n + 0, 1, TX12, 53, rfl, by omega, kX12_159, WX12_isOpen, rfl, CX12_isOpen g (n)⟩, (fun _ h => absurd h List.not_mem_nil)⟩) (fun _ h => absurd h List.not_mem_nil) [2, 26] 30 _ _ _ _ ?_
      simp (maxSteps := 1000000) [↓Bool.cond_eq_ite, -Prod.forall, -Prod.exists, -Prod.mk.injEq, jvk, tX12_planAt, jtb, jol, jst, jlk, jcmp, jbin, jfl, fX12, jc2, lX12, jcat, jel, lv_args, Value.category, jins, jsrt, jins2, jble, jblt, jf3, List.filter_cons, List.filter_nil, G_m, oX12_isOpen, joRI, -Int32.not_le, -Int32.not_lt, -Int64.not_le, -Int64.not_lt, i3lt, i6lt, hL5, hlt, hk1, eck, ho']
      try simp (disch := omega) [-Prod.forall, -Prod.exists, -Prod.mk.injEq, -Int32.not_le, -Int32.not_lt, -Int64.not_le, -Int64.not_lt, i3lt, i6lt, hL5, hlt, hk1, eck, ho']
      exact key2
    · have ho' : ¬ (σ.1 323 7 >>> (nI k &&& 31)) &&& 1 = 0 := by simpa [mO] using ho
      rw [if_neg (by simp [mPa, ho])] at e
      have k1 := ih e
      refine jvk_ok TX12_planAt (V := [(159, 2, 12, oX12_isOpen)]) (S := []) (List.forall_mem_cons.mpr ⟨⟨mX12_isOpen, n + 0, 1, TX12, 53, rfl, by omega, kX12_159, WX12_isOpen, rfl, CX12_isOpen g (n)⟩, (fun _ h => absurd h List.not_mem_nil)⟩) (fun _ h => absurd h List.not_mem_nil) [2, 26] 30 _ _ _ _ ?_
      simp (maxSteps := 1000000) [↓Bool.cond_eq_ite, -Prod.forall, -Prod.exists, -Prod.mk.injEq, jvk, tX12_planAt, jtb, jol, jst, jlk, jcmp, jbin, jfl, fX12, jc2, lX12, jcat, jel, lv_args, Value.category, jins, jsrt, jins2, jble, jblt, jf3, List.filter_cons, List.filter_nil, G_m, oX12_isOpen, joRI, -Int32.not_le, -Int32.not_lt, -Int64.not_le, -Int64.not_lt, i3lt, i6lt, hL5, hlt, hk1, eck, ho', nI_1]
      try simp (disch := omega) [-Prod.forall, -Prod.exists, -Prod.mk.injEq, -Int32.not_le, -Int32.not_lt, -Int64.not_le, -Int64.not_lt, i3lt, i6lt, hL5, hlt, hk1, eck, ho', nI_1]
      exact k1)
  rw [nI_0] at key
  exact key rfl
/-- some open plan is the one at each place below the number of those that are open -/
def plOK (σ : jM) : Prop := ∀ x, jin x (cn (mO σ) (mPl σ)) → 0 ≤ ff (mPa σ x) (mPl σ) 0
def plN (σ : jM) (k : Nat) (w : Int32) : Int32 := if w = 0 then σ.1 327 k else if w = 1 then σ.1 328 k else if w = 2 then σ.1 329 k else -2
def oX12_plan : jO := joRII fun a x w σ => (a = 322 ∧ mOK σ ∧ plOK σ, fun v τ => v = some (.int (if mIn x 0 (nI (cn (mO σ) (mPl σ)) - 1) = true then plN σ (ff (mPa σ x) (mPl σ) 0).toNatClampNeg w else 0)) ∧ τ = jup σ 322 11 (if mIn x 0 (nI (cn (mO σ) (mPl σ)) - 1) = true then 0 else 1))
set_option maxRecDepth 100000 in
set_option maxHeartbeats 4000000 in
theorem CX12_plan (g : jG) (n : Nat) : jOk g (n + 2) mX12_plan oX12_plan := by
  refine joRII_ok ?_
  rintro _ x w σ ⟨rfl, hok, hpl⟩
  obtain ⟨hL20, hL5⟩ := mPl_le hok
  have hcn := cn_le (mO σ) (mPl σ)
  by_cases h : mIn x 0 (nI (cn (mO σ) (mPl σ)) - 1) = true
  · have hx := mIn_jin rfl (by omega) h
    rcases ff_rng (p := mPa σ x) (mPl σ) 0 with h1 | ⟨j, -, hj, -, h1⟩
    · have := hpl x hx
      rw [h1] at this
      exact absurd this not_m1
    · have hok1 := mOK_th hok 0
      have eA : ff (mPa (jup σ 322 11 0) x) (mPl (jup σ 322 11 0)) 0 = nI j := h1
      have hj1 : jin (nI j) 20 := jin_nI (by omega) (by decide)
      have ecj : (nI j).toNatClampNeg = j := nI_clamp (by omega)
      by_cases w0 : w = 0
      · refine jCon.ofP (by decide +kernel) (by simp [lg_sl, Value.category]) (fun post hp => ?_)
        refine jvk_ok TX12_plan (V := [(162, 1, 12, oX12_openPlans), (138, 2, 12, oX12_fails), (165, 2, 12, oX12_planAt)]) (S := [(117, 3, 0, oX12_inRange)]) (List.forall_mem_cons.mpr ⟨⟨mX12_openPlans, n + 1, 0, TX12, 53, rfl, by omega, kX12_162, WX12_openPlans, rfl, CX12_openPlans g (n)⟩, (List.forall_mem_cons.mpr ⟨⟨mX12_fails, n + 0, 1, TX12, 53, rfl, by omega, kX12_138, WX12_fails, rfl, CX12_fails g (n)⟩, (List.forall_mem_cons.mpr ⟨⟨mX12_planAt, n + 1, 1, TX12, 53, rfl, by omega, kX12_165, WX12_planAt, rfl, CX12_planAt g (n)⟩, (fun _ h => absurd h List.not_mem_nil)⟩)⟩)⟩) (List.forall_mem_cons.mpr ⟨⟨mX12_inRange, n + 0, by omega, Or.inl kX12_117, WX12_inRange, CX12_inRange g (n)⟩, (fun _ h => absurd h List.not_mem_nil)⟩) [] 60 _ _ _ _ ?_
        simp (maxSteps := 1000000) [↓Bool.cond_eq_ite, -Prod.forall, -Prod.exists, -Prod.mk.injEq, jvk, tX12_plan, jtb, jol, jst, jlk, jcmp, jbin, jfl, fX12, jc2, lX12, jcat, jel, lv_args, Value.category, jins, jsrt, jins2, jble, jblt, jf3, List.filter_cons, List.filter_nil, G_m, oX12_openPlans, oX12_inRange, oX12_fails, oX12_planAt, joIII, joR, joRI, -Int32.not_le, -Int32.not_lt, -Int64.not_le, -Int64.not_lt, i3lt, i6lt, hok, h, hok1, eA, hj1, ecj, w0]
        try simp (disch := omega) [-Prod.forall, -Prod.exists, -Prod.mk.injEq, -Int32.not_le, -Int32.not_lt, -Int64.not_le, -Int64.not_lt, i3lt, i6lt, hok, h, hok1, eA, hj1, ecj, w0]
        exact hp _ _ ⟨by rw [if_pos h, h1, ecj, plN, if_pos w0]; rfl, by rw [if_pos h]⟩
      · by_cases w1 : w = 1
        · refine jCon.ofP (by decide +kernel) (by simp [lg_sl, Value.category]) (fun post hp => ?_)
          refine jvk_ok TX12_plan (V := [(162, 1, 12, oX12_openPlans), (138, 2, 12, oX12_fails), (165, 2, 12, oX12_planAt)]) (S := [(117, 3, 0, oX12_inRange)]) (List.forall_mem_cons.mpr ⟨⟨mX12_openPlans, n + 1, 0, TX12, 53, rfl, by omega, kX12_162, WX12_openPlans, rfl, CX12_openPlans g (n)⟩, (List.forall_mem_cons.mpr ⟨⟨mX12_fails, n + 0, 1, TX12, 53, rfl, by omega, kX12_138, WX12_fails, rfl, CX12_fails g (n)⟩, (List.forall_mem_cons.mpr ⟨⟨mX12_planAt, n + 1, 1, TX12, 53, rfl, by omega, kX12_165, WX12_planAt, rfl, CX12_planAt g (n)⟩, (fun _ h => absurd h List.not_mem_nil)⟩)⟩)⟩) (List.forall_mem_cons.mpr ⟨⟨mX12_inRange, n + 0, by omega, Or.inl kX12_117, WX12_inRange, CX12_inRange g (n)⟩, (fun _ h => absurd h List.not_mem_nil)⟩) [] 60 _ _ _ _ ?_
          simp (maxSteps := 1000000) [↓Bool.cond_eq_ite, -Prod.forall, -Prod.exists, -Prod.mk.injEq, jvk, tX12_plan, jtb, jol, jst, jlk, jcmp, jbin, jfl, fX12, jc2, lX12, jcat, jel, lv_args, Value.category, jins, jsrt, jins2, jble, jblt, jf3, List.filter_cons, List.filter_nil, G_m, oX12_openPlans, oX12_inRange, oX12_fails, oX12_planAt, joIII, joR, joRI, -Int32.not_le, -Int32.not_lt, -Int64.not_le, -Int64.not_lt, i3lt, i6lt, hok, h, hok1, eA, hj1, ecj, w0, w1]
          try simp (disch := omega) [-Prod.forall, -Prod.exists, -Prod.mk.injEq, -Int32.not_le, -Int32.not_lt, -Int64.not_le, -Int64.not_lt, i3lt, i6lt, hok, h, hok1, eA, hj1, ecj, w0, w1]
          exact hp _ _ ⟨by rw [if_pos h, h1, ecj, plN, if_neg w0, if_pos w1]; rfl, by rw [if_pos h]⟩
        · by_cases w2 : w = 2
          · refine jCon.ofP (by decide +kernel) (by simp [lg_sl, Value.category]) (fun post hp => ?_)
            refine jvk_ok TX12_plan (V := [(162, 1, 12, oX12_openPlans), (138, 2, 12, oX12_fails), (165, 2, 12, oX12_planAt)]) (S := [(117, 3, 0, oX12_inRange)]) (List.forall_mem_cons.mpr ⟨⟨mX12_openPlans, n + 1, 0, TX12, 53, rfl, by omega, kX12_162, WX12_openPlans, rfl, CX12_openPlans g (n)⟩, (List.forall_mem_cons.mpr ⟨⟨mX12_fails, n + 0, 1, TX12, 53, rfl, by omega, kX12_138, WX12_fails, rfl, CX12_fails g (n)⟩, (List.forall_mem_cons.mpr ⟨⟨mX12_planAt, n + 1, 1, TX12, 53, rfl, by omega, kX12_165, WX12_planAt, rfl, CX12_planAt g (n)⟩, (fun _ h => absurd h List.not_mem_nil)⟩)⟩)⟩) (List.forall_mem_cons.mpr ⟨⟨mX12_inRange, n + 0, by omega, Or.inl kX12_117, WX12_inRange, CX12_inRange g (n)⟩, (fun _ h => absurd h List.not_mem_nil)⟩) [] 60 _ _ _ _ ?_
            simp (maxSteps := 1000000) [↓Bool.cond_eq_ite, -Prod.forall, -Prod.exists, -Prod.mk.injEq, jvk, tX12_plan, jtb, jol, jst, jlk, jcmp, jbin, jfl, fX12, jc2, lX12, jcat, jel, lv_args, Value.category, jins, jsrt, jins2, jble, jblt, jf3, List.filter_cons, List.filter_nil, G_m, oX12_openPlans, oX12_inRange, oX12_fails, oX12_planAt, joIII, joR, joRI, -Int32.not_le, -Int32.not_lt, -Int64.not_le, -Int64.not_lt, i3lt, i6lt, hok, h, hok1, eA, hj1, ecj, w0, w1, w2]
            try simp (disch := omega) [-Prod.forall, -Prod.exists, -Prod.mk.injEq, -Int32.not_le, -Int32.not_lt, -Int64.not_le, -Int64.not_lt, i3lt, i6lt, hok, h, hok1, eA, hj1, ecj, w0, w1, w2]
            exact hp _ _ ⟨by rw [if_pos h, h1, ecj, plN, if_neg w0, if_neg w1, if_pos w2]; rfl, by rw [if_pos h]⟩
          · refine jCon.ofP (by decide +kernel) (by simp [lg_sl, Value.category]) (fun post hp => ?_)
            refine jvk_ok TX12_plan (V := [(162, 1, 12, oX12_openPlans), (138, 2, 12, oX12_fails), (165, 2, 12, oX12_planAt)]) (S := [(117, 3, 0, oX12_inRange)]) (List.forall_mem_cons.mpr ⟨⟨mX12_openPlans, n + 1, 0, TX12, 53, rfl, by omega, kX12_162, WX12_openPlans, rfl, CX12_openPlans g (n)⟩, (List.forall_mem_cons.mpr ⟨⟨mX12_fails, n + 0, 1, TX12, 53, rfl, by omega, kX12_138, WX12_fails, rfl, CX12_fails g (n)⟩, (List.forall_mem_cons.mpr ⟨⟨mX12_planAt, n + 1, 1, TX12, 53, rfl, by omega, kX12_165, WX12_planAt, rfl, CX12_planAt g (n)⟩, (fun _ h => absurd h List.not_mem_nil)⟩)⟩)⟩) (List.forall_mem_cons.mpr ⟨⟨mX12_inRange, n + 0, by omega, Or.inl kX12_117, WX12_inRange, CX12_inRange g (n)⟩, (fun _ h => absurd h List.not_mem_nil)⟩) [] 60 _ _ _ _ ?_
            simp (maxSteps := 1000000) [↓Bool.cond_eq_ite, -Prod.forall, -Prod.exists, -Prod.mk.injEq, jvk, tX12_plan, jtb, jol, jst, jlk, jcmp, jbin, jfl, fX12, jc2, lX12, jcat, jel, lv_args, Value.category, jins, jsrt, jins2, jble, jblt, jf3, List.filter_cons, List.filter_nil, G_m, oX12_openPlans, oX12_inRange, oX12_fails, oX12_planAt, joIII, joR, joRI, -Int32.not_le, -Int32.not_lt, -Int64.not_le, -Int64.not_lt, i3lt, i6lt, hok, h, hok1, eA, w0, w1, w2]
            try simp (disch := omega) [-Prod.forall, -Prod.exists, -Prod.mk.injEq, -Int32.not_le, -Int32.not_lt, -Int64.not_le, -Int64.not_lt, i3lt, i6lt, hok, h, hok1, eA, w0, w1, w2]
            exact hp _ _ ⟨by rw [if_pos h, plN, if_neg w0, if_neg w1, if_neg w2], by rw [if_pos h]⟩
  · refine jCon.ofP (by decide +kernel) (by simp [lg_sl, Value.category]) (fun post hp => ?_)
    refine jvk_ok TX12_plan (V := [(162, 1, 12, oX12_openPlans), (138, 2, 12, oX12_fails), (165, 2, 12, oX12_planAt)]) (S := [(117, 3, 0, oX12_inRange)]) (List.forall_mem_cons.mpr ⟨⟨mX12_openPlans, n + 1, 0, TX12, 53, rfl, by omega, kX12_162, WX12_openPlans, rfl, CX12_openPlans g (n)⟩, (List.forall_mem_cons.mpr ⟨⟨mX12_fails, n + 0, 1, TX12, 53, rfl, by omega, kX12_138, WX12_fails, rfl, CX12_fails g (n)⟩, (List.forall_mem_cons.mpr ⟨⟨mX12_planAt, n + 1, 1, TX12, 53, rfl, by omega, kX12_165, WX12_planAt, rfl, CX12_planAt g (n)⟩, (fun _ h => absurd h List.not_mem_nil)⟩)⟩)⟩) (List.forall_mem_cons.mpr ⟨⟨mX12_inRange, n + 0, by omega, Or.inl kX12_117, WX12_inRange, CX12_inRange g (n)⟩, (fun _ h => absurd h List.not_mem_nil)⟩) [] 60 _ _ _ _ ?_
    simp (maxSteps := 1000000) [↓Bool.cond_eq_ite, -Prod.forall, -Prod.exists, -Prod.mk.injEq, jvk, tX12_plan, jtb, jol, jst, jlk, jcmp, jbin, jfl, fX12, jc2, lX12, jcat, jel, lv_args, Value.category, jins, jsrt, jins2, jble, jblt, jf3, List.filter_cons, List.filter_nil, G_m, oX12_openPlans, oX12_inRange, oX12_fails, oX12_planAt, joIII, joR, joRI, -Int32.not_le, -Int32.not_lt, -Int64.not_le, -Int64.not_lt, i3lt, i6lt, hok, h]
    try simp (disch := omega) [-Prod.forall, -Prod.exists, -Prod.mk.injEq, -Int32.not_le, -Int32.not_lt, -Int64.not_le, -Int64.not_lt, i3lt, i6lt, hok, h]
    exact hp _ _ ⟨by rw [if_neg h], by rw [if_neg h]⟩
