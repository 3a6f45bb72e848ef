/-! the reference: the choice of rooms; people move, rooms are exchanged, envy -/
theorem qP_0 (h : Nat → Nat) (a : qC) : qP 0 0 h a = a := by
  rcases a with _ | a
  · rfl
  · simp [qP]
def dC (σ : jM) : qC := if mLiv σ = 0 then none else qT (dW (σ.1 323) (mN σ)) (mRo σ) (mLiv σ) 0 0
def oX12_tries : jO := oTr 10 0 0 0 (fun _ => 0) none
set_option maxRecDepth 100000 in
set_option maxHeartbeats 4000000 in
theorem CX12_tries (g : jG) (n : Nat) : jOk g (n + 13) mX12_tries oX12_tries := CTr g n 10 0 0 0 (fun _ => 0) none
def oX12_proposes : jO := joR fun a σ => (a = 322 ∧ mOK σ ∧ dOK (σ.1 323), fun v τ => v = some (.int (if (dC σ).isSome then 1 else 0)) ∧ jfr aTr b0 σ τ ∧ accOK τ (dC σ))
set_option maxRecDepth 100000 in
set_option maxHeartbeats 4000000 in
theorem CX12_proposes (g : jG) (n : Nat) : jOk g (n + 14) mX12_proposes oX12_proposes := by
  refine joR_ok ?_
  rintro _ σ ⟨rfl, hok, hd⟩
  have eLiv : mLiv σ = cn (dL (σ.1 323)) (mN σ) := rfl
  refine jCon.ofP (by decide +kernel) (by simp [lg_sl, Value.category]) (fun post hp => ?_)
  refine jvk_ok TX12_proposes (V := [(152, 1, 12, oX12_living), (175, 4, 12, oX12_tries)]) (S := []) (List.forall_mem_cons.mpr ⟨⟨mX12_living, n + 3, 0, TX12, 53, rfl, by omega, kX12_152, WX12_living, rfl, CX12_living g (n)⟩, (List.forall_mem_cons.mpr ⟨⟨mX12_tries, n + 13, 3, TX12, 53, rfl, by omega, kX12_175, WX12_tries, rfl, CX12_tries g (n)⟩, (fun _ h => absurd h List.not_mem_nil)⟩)⟩) (fun _ h => absurd h List.not_mem_nil) [2] 20 _ _ _ _ ?_
  simp (maxSteps := 1000000) [↓Bool.cond_eq_ite, -Prod.forall, -Prod.exists, -Prod.mk.injEq, jvk, tX12_proposes, jtb, jol, jst, jlk, jcmp, jbin, jfl, fX12, jc2, lX12, jcat, jel, lv_args, Value.category, jins, jsrt, jins2, jble, jblt, jf3, List.filter_cons, List.filter_nil, G_m, oX12_living, oX12_tries, joR]
  have fin : ∀ τ, jfr aTr b0 σ τ → accOK τ (dC σ) → jW g mX12_proposes (n + 14) post 52 [(0, .ref 322)] [] τ := by
    intro τ f h
    have e14 : τ.1 322 14 = qs (dC σ) := h.1
    rcases hc : dC σ with _ | c
    · have e : τ.1 322 14 = -1 := by rw [e14, hc]; rfl
      refine jvk_ok TX12_proposes (V := [(152, 1, 12, oX12_living), (175, 4, 12, oX12_tries)]) (S := []) (List.forall_mem_cons.mpr ⟨⟨mX12_living, n + 3, 0, TX12, 53, rfl, by omega, kX12_152, WX12_living, rfl, CX12_living g (n)⟩, (List.forall_mem_cons.mpr ⟨⟨mX12_tries, n + 13, 3, TX12, 53, rfl, by omega, kX12_175, WX12_tries, rfl, CX12_tries g (n)⟩, (fun _ h => absurd h List.not_mem_nil)⟩)⟩) (fun _ h => absurd h List.not_mem_nil) [2] 20 _ _ _ _ ?_
      simp (maxSteps := 1000000) [↓Bool.cond_eq_ite, -Prod.forall, -Prod.exists, -Prod.mk.injEq, jvk, tX12_proposes, jtb, jol, jst, jlk, jcmp, jbin, jfl, fX12, jc2, lX12, jcat, jel, lv_args, Value.category, jins, jsrt, jins2, jble, jblt, jf3, List.filter_cons, List.filter_nil, G_m, oX12_living, oX12_tries, joR, e]
      exact hp _ _ ⟨by rw [hc]; rfl, f, h⟩
    · have hb := h.2.2.2 c hc
      have e : τ.1 322 14 = nI c.1 := by rw [e14, hc]; rfl
      have e0 : ¬ nI c.1 < 0 := by
        rw [Int32.lt_iff_toInt_lt, nI_toInt (by omega)]
        simp only [Int32.toInt_zero]
        omega
      refine jvk_ok TX12_proposes (V := [(152, 1, 12, oX12_living), (175, 4, 12, oX12_tries)]) (S := []) (List.forall_mem_cons.mpr ⟨⟨mX12_living, n + 3, 0, TX12, 53, rfl, by omega, kX12_152, WX12_living, rfl, CX12_living g (n)⟩, (List.forall_mem_cons.mpr ⟨⟨mX12_tries, n + 13, 3, TX12, 53, rfl, by omega, kX12_175, WX12_tries, rfl, CX12_tries g (n)⟩, (fun _ h => absurd h List.not_mem_nil)⟩)⟩) (fun _ h => absurd h List.not_mem_nil) [2] 20 _ _ _ _ ?_
      simp (maxSteps := 1000000) [↓Bool.cond_eq_ite, -Prod.forall, -Prod.exists, -Prod.mk.injEq, jvk, tX12_proposes, jtb, jol, jst, jlk, jcmp, jbin, jfl, fX12, jc2, lX12, jcat, jel, lv_args, Value.category, jins, jsrt, jins2, jble, jblt, jf3, List.filter_cons, List.filter_nil, G_m, oX12_living, oX12_tries, joR, e, e0]
      exact hp _ _ ⟨by rw [hc]; rfl, f, h⟩
  have key := jloop (P := fun k => ∀ σ1 : jM, jfr aTr b0 σ σ1 → (∀ q, q < k → σ1.1 330 q = -1 ∧ σ1.1 331 q = -1) → jW g mX12_proposes (n + 14) post 2 [(0, .ref 322), (1, .int (nI k))] [] σ1) (N := 10) (fun σ1 f1 hq => by
    obtain ⟨σ2, e2⟩ : ∃ σ2, σ2 = jup (jup σ1 322 14 (-1)) 322 15 0 := ⟨_, rfl⟩
    have f2 : jfr aTr b0 σ σ2 := by rw [e2]; exact (f1.up _ rfl).up _ rfl
    have hok2 : mOK σ2 := mOK_of hok (f2.2.2 322 3 rfl) (f2.2.2 322 4 rfl) (f2.2.2 322 5 rfl)
    have e323 : σ2.1 323 = σ.1 323 := funext fun j => f2.2.2 323 j rfl
    have eN : mN σ2 = mN σ := by unfold mN; rw [f2.2.2 322 4 rfl]
    have eR : mRo σ2 = mRo σ := by unfold mRo; rw [f2.2.2 322 3 rfl]
    have eL : mLiv σ2 = mLiv σ := by unfold mLiv; rw [eN]; unfold mD; rw [e323]
    have h330 : ∀ q, q < 10 → σ2.1 330 q = -1 ∧ σ2.1 331 q = -1 := by rw [e2]; exact hq
    have a14 : σ2.1 322 14 = -1 := by rw [e2]; rfl
    have a15 : σ2.1 322 15 = 0 := by rw [e2]; rfl
    have ac : accOK σ2 none := ⟨a14, a15, fun q hq => (h330 q hq).1, fun a h => by cases h⟩
    refine jvk_ok TX12_proposes (V := [(152, 1, 12, oX12_living), (175, 4, 12, oX12_tries)]) (S := []) (List.forall_mem_cons.mpr ⟨⟨mX12_living, n + 3, 0, TX12, 53, rfl, by omega, kX12_152, WX12_living, rfl, CX12_living g (n)⟩, (List.forall_mem_cons.mpr ⟨⟨mX12_tries, n + 13, 3, TX12, 53, rfl, by omega, kX12_175, WX12_tries, rfl, CX12_tries g (n)⟩, (fun _ h => absurd h List.not_mem_nil)⟩)⟩) (fun _ h => absurd h List.not_mem_nil) [2, 38] 10 _ _ _ _ ?_
    simp (maxSteps := 1000000) [↓Bool.cond_eq_ite, -Prod.forall, -Prod.exists, -Prod.mk.injEq, jvk, tX12_proposes, jtb, jol, jst, jlk, jcmp, jbin, jfl, fX12, jc2, lX12, jcat, jel, lv_args, Value.category, jins, jsrt, jins2, jble, jblt, jf3, List.filter_cons, List.filter_nil, G_m, oX12_living, oX12_tries, joR, nI_1]
    try simp (disch := omega) [nI_1, nI_clamp, nI_leI, nI_ltI, nI_eq, nI_m1, NL_0, NL_1, NL_2, NL_3, NL_5, NL_6, NL_9, NL_10, NL_11, NL_12, NL_20, NL_24, NL_25, NL_60, NL_64, NL_90, NL_100, NL_120, NL_900, NL_999, NL_9999, NL_99999, NL_1000000, NL_208, NL_2080, NL_10000]
    rw [← e2]
    have hN10 : mN σ ≤ 10 := by
      obtain ⟨N, hN, hN1, hN2⟩ := nI_rng hok.1.1 hok.1.2 (by decide)
      rw [mN, hN2]; exact hN
    have hLN := cn_le (dL (σ.1 323)) (mN σ)
    by_cases h0 : mLiv σ = 0
    · refine jvk_ok TX12_proposes (V := [(152, 1, 12, oX12_living), (175, 4, 12, oX12_tries)]) (S := []) (List.forall_mem_cons.mpr ⟨⟨mX12_living, n + 3, 0, TX12, 53, rfl, by omega, kX12_152, WX12_living, rfl, CX12_living g (n)⟩, (List.forall_mem_cons.mpr ⟨⟨mX12_tries, n + 13, 3, TX12, 53, rfl, by omega, kX12_175, WX12_tries, rfl, CX12_tries g (n)⟩, (fun _ h => absurd h List.not_mem_nil)⟩)⟩) (fun _ h => absurd h List.not_mem_nil) [2, 52] 20 _ _ _ _ ?_
      simp (maxSteps := 1000000) [↓Bool.cond_eq_ite, -Prod.forall, -Prod.exists, -Prod.mk.injEq, jvk, tX12_proposes, jtb, jol, jst, jlk, jcmp, jbin, jfl, fX12, jc2, lX12, jcat, jel, lv_args, Value.category, jins, jsrt, jins2, jble, jblt, jf3, List.filter_cons, List.filter_nil, G_m, oX12_living, oX12_tries, joR, hok2, eL, h0]
      try simp (disch := omega) [hok2, eL, h0, nI_0]
      refine jW.mono (fin σ2 f2 ?_) (by simp)
      rw [dC, if_pos h0]
      exact ac
    · have hpos : ¬ nI (mLiv σ) ≤ 0 := by
        rw [Int32.le_iff_toInt_le, nI_toInt (by omega)]
        simp only [Int32.toInt_zero]
        omega
      have hlt0 : 0 < nI (mLiv σ) := by grind
      have hz : zTr σ2 10 0 0 0 (fun _ => 0) none := ⟨hok2, by rw [e323]; exact hd, by omega, by omega, by omega, by omega, fun q hq => by rw [(h330 q hq).2]; simp, ac⟩
      refine jvk_ok TX12_proposes (V := [(152, 1, 12, oX12_living), (175, 4, 12, oX12_tries)]) (S := []) (List.forall_mem_cons.mpr ⟨⟨mX12_living, n + 3, 0, TX12, 53, rfl, by omega, kX12_152, WX12_living, rfl, CX12_living g (n)⟩, (List.forall_mem_cons.mpr ⟨⟨mX12_tries, n + 13, 3, TX12, 53, rfl, by omega, kX12_175, WX12_tries, rfl, CX12_tries g (n)⟩, (fun _ h => absurd h List.not_mem_nil)⟩)⟩) (fun _ h => absurd h List.not_mem_nil) [2, 52] 20 _ _ _ _ ?_
      simp (maxSteps := 1000000) [↓Bool.cond_eq_ite, -Prod.forall, -Prod.exists, -Prod.mk.injEq, jvk, tX12_proposes, jtb, jol, jst, jlk, jcmp, jbin, jfl, fX12, jc2, lX12, jcat, jel, lv_args, Value.category, jins, jsrt, jins2, jble, jblt, jf3, List.filter_cons, List.filter_nil, G_m, oX12_living, oX12_tries, joR, hok2, eL, hpos, hlt0, oTr, joRIII, hz]
      try simp (disch := omega) [-Prod.forall, -Prod.exists, -Prod.mk.injEq, hok2, eL, hpos, hlt0, oTr, joRIII, hz, nI_0]
      intro v1 τ hv1 hτ
      subst hv1
      refine jW.mono (fin τ (f2.tr hτ.1) ?_) (by simp)
      have hτ3 := hτ.2.2
      have e5 : eTr σ2 0 0 0 (fun _ => 0) = dC σ := by
        rw [eTr, dC, if_neg h0, e323, eN, eR, eLiv]
        exact qP_0 _ _
      rw [e5] at hτ3
      exact hτ3) (fun k hk ih σ1 f1 hq => by
    refine jvk_ok TX12_proposes (V := [(152, 1, 12, oX12_living), (175, 4, 12, oX12_tries)]) (S := []) (List.forall_mem_cons.mpr ⟨⟨mX12_living, n + 3, 0, TX12, 53, rfl, by omega, kX12_152, WX12_living, rfl, CX12_living g (n)⟩, (List.forall_mem_cons.mpr ⟨⟨mX12_tries, n + 13, 3, TX12, 53, rfl, by omega, kX12_175, WX12_tries, rfl, CX12_tries g (n)⟩, (fun _ h => absurd h List.not_mem_nil)⟩)⟩) (fun _ h => absurd h List.not_mem_nil) [2, 38] 20 _ _ _ _ ?_
    simp (maxSteps := 1000000) [↓Bool.cond_eq_ite, -Prod.forall, -Prod.exists, -Prod.mk.injEq, jvk, tX12_proposes, jtb, jol, jst, jlk, jcmp, jbin, jfl, fX12, jc2, lX12, jcat, jel, lv_args, Value.category, jins, jsrt, jins2, jble, jblt, jf3, List.filter_cons, List.filter_nil, G_m, oX12_living, oX12_tries, joR, nI_1, jin_nI hk (by decide)]
    try simp (disch := omega) [nI_1, nI_clamp, nI_leI, nI_ltI, nI_eq, nI_m1, NL_0, NL_1, NL_2, NL_3, NL_5, NL_6, NL_9, NL_10, NL_11, NL_12, NL_20, NL_24, NL_25, NL_60, NL_64, NL_90, NL_100, NL_120, NL_900, NL_999, NL_9999, NL_99999, NL_1000000, NL_208, NL_2080, NL_10000, jin_nI hk (by decide)]
    refine ⟨fun h => by omega, fun _ => ih _ ((f1.up _ rfl).up _ rfl) (fun q hq1 => ?_)⟩
    simp only [jup_1]
    by_cases e : q = k
    · subst e; simp
    · simpa [e] using hq q (by omega))
  simpa [nI_0] using key σ jfr.rfl (fun q hq => by omega)
def mOut1 (σ : jM) (p : Nat) : jM := mLv (jup (mRem (jup σ 322 11 0)) 323 (8 + 20 * p + 0) 2) p
def oX12_moveOut : jO := joRI fun a x σ => (a = 322 ∧ mH σ ∧ mOK σ, fun v τ =>
  (mP σ x = false ∧ v = some (.int (-1)) ∧ τ = jup σ 322 11 0) ∨
  (mP σ x = true ∧ ¬ mD σ x.toNatClampNeg 0 = 1 ∧ v = some (.int (-4)) ∧ τ = jup σ 322 11 0) ∨
  (mP σ x = true ∧ mD σ x.toNatClampNeg 0 = 1 ∧ v = some (.int (nI (mLiv (mOut1 σ x.toNatClampNeg)))) ∧ τ = mOut1 σ x.toNatClampNeg))
set_option maxRecDepth 100000 in
set_option maxHeartbeats 4000000 in
theorem CX12_moveOut (g : jG) (n : Nat) : jOk g (n + 4) mX12_moveOut oX12_moveOut := by
  refine joRI_ok ?_
  rintro _ x σ ⟨rfl, h1, hok⟩
  by_cases h : mP σ x = true
  · have h3 := (mP_jin hok h).2
    have h4 := jN_208 (mpl_lt h3 jin_c.1)
    by_cases h5 : mD σ x.toNatClampNeg 0 = 1
    · have hok2 : mOK (mLv (jup (mRem (jup σ 322 11 0)) 323 (mpl x 0) 2) x.toNatClampNeg) := mOK_up (mOK_up (mOK_up (mOK_rem (mOK_th hok 0)) _ _) _ _) _ _
      refine jCon.ofF (by decide +kernel) (by simp [lg_sl, Value.category]) ?_
      refine jvk_ok TX12_moveOut (V := [(135, 2, 12, oX12_isPerson), (131, 2, 12, oX12_isLiving), (253, 1, 12, oX12_remember), (256, 2, 12, oX12_leaves), (152, 1, 12, oX12_living)]) (S := [(124, 2, 0, oX12_place)]) (List.forall_mem_cons.mpr ⟨⟨mX12_isPerson, n + 1, 1, TX12, 53, rfl, by omega, kX12_135, WX12_isPerson, rfl, CX12_isPerson g (n)⟩, (List.forall_mem_cons.mpr ⟨⟨mX12_isLiving, n + 2, 1, TX12, 53, rfl, by omega, kX12_131, WX12_isLiving, rfl, CX12_isLiving g (n)⟩, (List.forall_mem_cons.mpr ⟨⟨mX12_remember, n + 0, 0, TX12, 53, rfl, by omega, kX12_253, WX12_remember, rfl, CX12_remember g (n)⟩, (List.forall_mem_cons.mpr ⟨⟨mX12_leaves, n + 1, 1, TX12, 53, rfl, by omega, kX12_256, WX12_leaves, rfl, CX12_leaves g (n)⟩, (List.forall_mem_cons.mpr ⟨⟨mX12_living, n + 3, 0, TX12, 53, rfl, by omega, kX12_152, WX12_living, rfl, CX12_living g (n)⟩, (fun _ h => absurd h List.not_mem_nil)⟩)⟩)⟩)⟩)⟩) (List.forall_mem_cons.mpr ⟨⟨mX12_place, n + 0, by omega, Or.inl kX12_124, WX12_place, CX12_place g (n)⟩, (fun _ h => absurd h List.not_mem_nil)⟩) [] 60 _ _ _ _ ?_
      simp (maxSteps := 1000000) [↓Bool.cond_eq_ite, -Prod.forall, -Prod.exists, -Prod.mk.injEq, jvk, tX12_moveOut, jtb, jol, jst, jlk, jcmp, jbin, jfl, fX12, jc2, lX12, jcat, jel, lv_args, Value.category, jins, jsrt, jins2, jble, jblt, jf3, List.filter_cons, List.filter_nil, G_m, oX12_isPerson, oX12_isLiving, oX12_remember, oX12_place, oX12_leaves, oX12_living, joII, joR, joRI, mH_th h1, mOK_th hok, mP_th, h, h3, h4, jin_c, tn_c, mD_th, h5, hok2, jup_1]
      exact ⟨by simp [mOut1, mpl, tn_c], by simp [mOut1, mpl, tn_c]⟩
    · refine jCon.ofF (by decide +kernel) (by simp [lg_sl, Value.category]) ?_
      refine jvk_ok TX12_moveOut (V := [(135, 2, 12, oX12_isPerson), (131, 2, 12, oX12_isLiving), (253, 1, 12, oX12_remember), (256, 2, 12, oX12_leaves), (152, 1, 12, oX12_living)]) (S := [(124, 2, 0, oX12_place)]) (List.forall_mem_cons.mpr ⟨⟨mX12_isPerson, n + 1, 1, TX12, 53, rfl, by omega, kX12_135, WX12_isPerson, rfl, CX12_isPerson g (n)⟩, (List.forall_mem_cons.mpr ⟨⟨mX12_isLiving, n + 2, 1, TX12, 53, rfl, by omega, kX12_131, WX12_isLiving, rfl, CX12_isLiving g (n)⟩, (List.forall_mem_cons.mpr ⟨⟨mX12_remember, n + 0, 0, TX12, 53, rfl, by omega, kX12_253, WX12_remember, rfl, CX12_remember g (n)⟩, (List.forall_mem_cons.mpr ⟨⟨mX12_leaves, n + 1, 1, TX12, 53, rfl, by omega, kX12_256, WX12_leaves, rfl, CX12_leaves g (n)⟩, (List.forall_mem_cons.mpr ⟨⟨mX12_living, n + 3, 0, TX12, 53, rfl, by omega, kX12_152, WX12_living, rfl, CX12_living g (n)⟩, (fun _ h => absurd h List.not_mem_nil)⟩)⟩)⟩)⟩)⟩) (List.forall_mem_cons.mpr ⟨⟨mX12_place, n + 0, by omega, Or.inl kX12_124, WX12_place, CX12_place g (n)⟩, (fun _ h => absurd h List.not_mem_nil)⟩) [] 60 _ _ _ _ ?_
      simp (maxSteps := 1000000) [↓Bool.cond_eq_ite, -Prod.forall, -Prod.exists, -Prod.mk.injEq, jvk, tX12_moveOut, jtb, jol, jst, jlk, jcmp, jbin, jfl, fX12, jc2, lX12, jcat, jel, lv_args, Value.category, jins, jsrt, jins2, jble, jblt, jf3, List.filter_cons, List.filter_nil, G_m, oX12_isPerson, oX12_isLiving, oX12_remember, oX12_place, oX12_leaves, oX12_living, joII, joR, joRI, mH_th h1, mOK_th hok, mP_th, h, h3, h4, jin_c, tn_c, mD_th, h5]
  · refine jCon.ofF (by decide +kernel) (by simp [lg_sl, Value.category]) ?_
    refine jvk_ok TX12_moveOut (V := [(135, 2, 12, oX12_isPerson), (131, 2, 12, oX12_isLiving), (253, 1, 12, oX12_remember), (256, 2, 12, oX12_leaves), (152, 1, 12, oX12_living)]) (S := [(124, 2, 0, oX12_place)]) (List.forall_mem_cons.mpr ⟨⟨mX12_isPerson, n + 1, 1, TX12, 53, rfl, by omega, kX12_135, WX12_isPerson, rfl, CX12_isPerson g (n)⟩, (List.forall_mem_cons.mpr ⟨⟨mX12_isLiving, n + 2, 1, TX12, 53, rfl, by omega, kX12_131, WX12_isLiving, rfl, CX12_isLiving g (n)⟩, (List.forall_mem_cons.mpr ⟨⟨mX12_remember, n + 0, 0, TX12, 53, rfl, by omega, kX12_253, WX12_remember, rfl, CX12_remember g (n)⟩, (List.forall_mem_cons.mpr ⟨⟨mX12_leaves, n + 1, 1, TX12, 53, rfl, by omega, kX12_256, WX12_leaves, rfl, CX12_leaves g (n)⟩, (List.forall_mem_cons.mpr ⟨⟨mX12_living, n + 3, 0, TX12, 53, rfl, by omega, kX12_152, WX12_living, rfl, CX12_living g (n)⟩, (fun _ h => absurd h List.not_mem_nil)⟩)⟩)⟩)⟩)⟩) (List.forall_mem_cons.mpr ⟨⟨mX12_place, n + 0, by omega, Or.inl kX12_124, WX12_place, CX12_place g (n)⟩, (fun _ h => absurd h List.not_mem_nil)⟩) [] 60 _ _ _ _ ?_
    simp (maxSteps := 1000000) [↓Bool.cond_eq_ite, -Prod.forall, -Prod.exists, -Prod.mk.injEq, jvk, tX12_moveOut, jtb, jol, jst, jlk, jcmp, jbin, jfl, fX12, jc2, lX12, jcat, jel, lv_args, Value.category, jins, jsrt, jins2, jble, jblt, jf3, List.filter_cons, List.filter_nil, G_m, oX12_isPerson, oX12_isLiving, oX12_remember, oX12_place, oX12_leaves, oX12_living, joII, joR, joRI, mH_th h1, mP_th, h]
theorem mR_of {σ τ : jM} (h : τ.1 322 3 = σ.1 322 3) (x : Int32) : mR τ x = mR σ x := by unfold mR; rw [h]
def mSv1 (σ : jM) (p r : Nat) (x y : Int32) : jM := jup (jup (mRem (jup σ 322 11 0)) 323 (8 + 20 * p + (7 + r)) x) 323 (8 + 20 * p + (13 + r)) y
theorem jin_vr {p r : Int32} (hp : jin p 10) (hr : jin r 6) : jin (7 + r) 20 ∧ jin (13 + r) 20 ∧ mpl p (7 + r) = 8 + 20 * p.toNatClampNeg + (7 + r.toNatClampNeg) ∧ mpl p (13 + r) = 8 + 20 * p.toNatClampNeg + (13 + r.toNatClampNeg) ∧ jin (nI (8 + 20 * p.toNatClampNeg + (7 + r.toNatClampNeg))) 208 ∧ (nI (8 + 20 * p.toNatClampNeg + (7 + r.toNatClampNeg))).toNatClampNeg = 8 + 20 * p.toNatClampNeg + (7 + r.toNatClampNeg) ∧ jin (nI (8 + 20 * p.toNatClampNeg + (13 + r.toNatClampNeg))) 208 ∧ (nI (8 + 20 * p.toNatClampNeg + (13 + r.toNatClampNeg))).toNatClampNeg = 8 + 20 * p.toNatClampNeg + (13 + r.toNatClampNeg) := by
  obtain ⟨a1, a2⟩ := jin_add (a := 7) (m := 20) hr (by decide) (by decide)
  obtain ⟨b1, b2⟩ := jin_add (a := 13) (m := 20) hr (by decide) (by decide)
  have a1 : jin (7 + r) 20 := a1
  have a2 : (7 + r).toNatClampNeg = 7 + r.toNatClampNeg := a2
  have b1 : jin (13 + r) 20 := b1
  have b2 : (13 + r).toNatClampNeg = 13 + r.toNatClampNeg := b2
  have e1 : mpl p (7 + r) = 8 + 20 * p.toNatClampNeg + (7 + r.toNatClampNeg) := by unfold mpl; rw [a2]
  have e2 : mpl p (13 + r) = 8 + 20 * p.toNatClampNeg + (13 + r.toNatClampNeg) := by unfold mpl; rw [b2]
  have c1 := jN_208 (mpl_lt hp a1)
  have c2 := jN_208 (mpl_lt hp b1)
  rw [e1] at c1
  rw [e2] at c2
  exact ⟨a1, b1, e1, e2, c1.1, c1.2, c2.1, c2.2⟩
def oX12_setValue : jO := joRIII fun a x y z σ => (a = 322 ∧ mH σ ∧ mOK σ, fun v τ =>
  (¬ (mP σ x = true ∧ mR σ y = true) ∧ v = some (.int (-1)) ∧ τ = jup σ 322 11 0) ∨
  (mP σ x = true ∧ mR σ y = true ∧ mIn z 0 9999 = false ∧ v = some (.int (-2)) ∧ τ = jup σ 322 11 0) ∨
  (mP σ x = true ∧ mR σ y = true ∧ mIn z 0 9999 = true ∧ v = some (.int (mD σ x.toNatClampNeg (7 + y.toNatClampNeg))) ∧ τ = mSv1 σ x.toNatClampNeg y.toNatClampNeg z 0))
set_option maxRecDepth 100000 in
set_option maxHeartbeats 4000000 in
theorem CX12_setValue (g : jG) (n : Nat) : jOk g (n + 2) mX12_setValue oX12_setValue := by
  refine joRIII_ok ?_
  rintro _ x y z σ ⟨rfl, h1, hok⟩
  by_cases h : mP σ x = true
  · have h3 := (mP_jin hok h).2
    by_cases h5 : mR σ y = true
    · have h6 := jin_vr h3 (mR_jin hok h5).2
      by_cases h7 : mIn z 0 9999 = true
      · refine jCon.ofF (by decide +kernel) (by simp [lg_sl, Value.category]) ?_
        refine jvk_ok TX12_setValue (V := [(135, 2, 12, oX12_isPerson), (142, 2, 12, oX12_isRoom), (259, 3, 12, oX12_sets)]) (S := [(117, 3, 0, oX12_inRange), (124, 2, 0, oX12_place)]) (List.forall_mem_cons.mpr ⟨⟨mX12_isPerson, n + 1, 1, TX12, 53, rfl, by omega, kX12_135, WX12_isPerson, rfl, CX12_isPerson g (n)⟩, (List.forall_mem_cons.mpr ⟨⟨mX12_isRoom, n + 1, 1, TX12, 53, rfl, by omega, kX12_142, WX12_isRoom, rfl, CX12_isRoom g (n)⟩, (List.forall_mem_cons.mpr ⟨⟨mX12_sets, n + 1, 2, TX12, 53, rfl, by omega, kX12_259, WX12_sets, rfl, CX12_sets g (n)⟩, (fun _ h => absurd h List.not_mem_nil)⟩)⟩)⟩) (List.forall_mem_cons.mpr ⟨⟨mX12_inRange, n + 0, by omega, Or.inl kX12_117, WX12_inRange, CX12_inRange g (n)⟩, (List.forall_mem_cons.mpr ⟨⟨mX12_place, n + 0, by omega, Or.inl kX12_124, WX12_place, CX12_place g (n)⟩, (fun _ h => absurd h List.not_mem_nil)⟩)⟩) [] 60 _ _ _ _ ?_
        simp (maxSteps := 1000000) [↓Bool.cond_eq_ite, -Prod.forall, -Prod.exists, -Prod.mk.injEq, jvk, tX12_setValue, jtb, jol, jst, jlk, jcmp, jbin, jfl, fX12, jc2, lX12, jcat, jel, lv_args, Value.category, jins, jsrt, jins2, jble, jblt, jf3, List.filter_cons, List.filter_nil, G_m, oX12_isPerson, oX12_isRoom, oX12_inRange, oX12_place, oX12_sets, joII, joIII, joRI, joRII, mH_th h1, mP_th, mR_th, h, h3, h5, h6, h7, jup_1]
        exact ⟨rfl, rfl⟩
      · refine jCon.ofF (by decide +kernel) (by simp [lg_sl, Value.category]) ?_
        refine jvk_ok TX12_setValue (V := [(135, 2, 12, oX12_isPerson), (142, 2, 12, oX12_isRoom), (259, 3, 12, oX12_sets)]) (S := [(117, 3, 0, oX12_inRange), (124, 2, 0, oX12_place)]) (List.forall_mem_cons.mpr ⟨⟨mX12_isPerson, n + 1, 1, TX12, 53, rfl, by omega, kX12_135, WX12_isPerson, rfl, CX12_isPerson g (n)⟩, (List.forall_mem_cons.mpr ⟨⟨mX12_isRoom, n + 1, 1, TX12, 53, rfl, by omega, kX12_142, WX12_isRoom, rfl, CX12_isRoom g (n)⟩, (List.forall_mem_cons.mpr ⟨⟨mX12_sets, n + 1, 2, TX12, 53, rfl, by omega, kX12_259, WX12_sets, rfl, CX12_sets g (n)⟩, (fun _ h => absurd h List.not_mem_nil)⟩)⟩)⟩) (List.forall_mem_cons.mpr ⟨⟨mX12_inRange, n + 0, by omega, Or.inl kX12_117, WX12_inRange, CX12_inRange g (n)⟩, (List.forall_mem_cons.mpr ⟨⟨mX12_place, n + 0, by omega, Or.inl kX12_124, WX12_place, CX12_place g (n)⟩, (fun _ h => absurd h List.not_mem_nil)⟩)⟩) [] 60 _ _ _ _ ?_
        simp (maxSteps := 1000000) [↓Bool.cond_eq_ite, -Prod.forall, -Prod.exists, -Prod.mk.injEq, jvk, tX12_setValue, jtb, jol, jst, jlk, jcmp, jbin, jfl, fX12, jc2, lX12, jcat, jel, lv_args, Value.category, jins, jsrt, jins2, jble, jblt, jf3, List.filter_cons, List.filter_nil, G_m, oX12_isPerson, oX12_isRoom, oX12_inRange, oX12_place, oX12_sets, joII, joIII, joRI, joRII, mH_th h1, mP_th, mR_th, h, h3, h5, h7]
    · refine jCon.ofF (by decide +kernel) (by simp [lg_sl, Value.category]) ?_
      refine jvk_ok TX12_setValue (V := [(135, 2, 12, oX12_isPerson), (142, 2, 12, oX12_isRoom), (259, 3, 12, oX12_sets)]) (S := [(117, 3, 0, oX12_inRange), (124, 2, 0, oX12_place)]) (List.forall_mem_cons.mpr ⟨⟨mX12_isPerson, n + 1, 1, TX12, 53, rfl, by omega, kX12_135, WX12_isPerson, rfl, CX12_isPerson g (n)⟩, (List.forall_mem_cons.mpr ⟨⟨mX12_isRoom, n + 1, 1, TX12, 53, rfl, by omega, kX12_142, WX12_isRoom, rfl, CX12_isRoom g (n)⟩, (List.forall_mem_cons.mpr ⟨⟨mX12_sets, n + 1, 2, TX12, 53, rfl, by omega, kX12_259, WX12_sets, rfl, CX12_sets g (n)⟩, (fun _ h => absurd h List.not_mem_nil)⟩)⟩)⟩) (List.forall_mem_cons.mpr ⟨⟨mX12_inRange, n + 0, by omega, Or.inl kX12_117, WX12_inRange, CX12_inRange g (n)⟩, (List.forall_mem_cons.mpr ⟨⟨mX12_place, n + 0, by omega, Or.inl kX12_124, WX12_place, CX12_place g (n)⟩, (fun _ h => absurd h List.not_mem_nil)⟩)⟩) [] 60 _ _ _ _ ?_
      simp (maxSteps := 1000000) [↓Bool.cond_eq_ite, -Prod.forall, -Prod.exists, -Prod.mk.injEq, jvk, tX12_setValue, jtb, jol, jst, jlk, jcmp, jbin, jfl, fX12, jc2, lX12, jcat, jel, lv_args, Value.category, jins, jsrt, jins2, jble, jblt, jf3, List.filter_cons, List.filter_nil, G_m, oX12_isPerson, oX12_isRoom, oX12_inRange, oX12_place, oX12_sets, joII, joIII, joRI, joRII, mH_th h1, mP_th, mR_th, h, h3, h5]
  · refine jCon.ofF (by decide +kernel) (by simp [lg_sl, Value.category]) ?_
    refine jvk_ok TX12_setValue (V := [(135, 2, 12, oX12_isPerson), (142, 2, 12, oX12_isRoom), (259, 3, 12, oX12_sets)]) (S := [(117, 3, 0, oX12_inRange), (124, 2, 0, oX12_place)]) (List.forall_mem_cons.mpr ⟨⟨mX12_isPerson, n + 1, 1, TX12, 53, rfl, by omega, kX12_135, WX12_isPerson, rfl, CX12_isPerson g (n)⟩, (List.forall_mem_cons.mpr ⟨⟨mX12_isRoom, n + 1, 1, TX12, 53, rfl, by omega, kX12_142, WX12_isRoom, rfl, CX12_isRoom g (n)⟩, (List.forall_mem_cons.mpr ⟨⟨mX12_sets, n + 1, 2, TX12, 53, rfl, by omega, kX12_259, WX12_sets, rfl, CX12_sets g (n)⟩, (fun _ h => absurd h List.not_mem_nil)⟩)⟩)⟩) (List.forall_mem_cons.mpr ⟨⟨mX12_inRange, n + 0, by omega, Or.inl kX12_117, WX12_inRange, CX12_inRange g (n)⟩, (List.forall_mem_cons.mpr ⟨⟨mX12_place, n + 0, by omega, Or.inl kX12_124, WX12_place, CX12_place g (n)⟩, (fun _ h => absurd h List.not_mem_nil)⟩)⟩) [] 60 _ _ _ _ ?_
    simp (maxSteps := 1000000) [↓Bool.cond_eq_ite, -Prod.forall, -Prod.exists, -Prod.mk.injEq, jvk, tX12_setValue, jtb, jol, jst, jlk, jcmp, jbin, jfl, fX12, jc2, lX12, jcat, jel, lv_args, Value.category, jins, jsrt, jins2, jble, jblt, jf3, List.filter_cons, List.filter_nil, G_m, oX12_isPerson, oX12_isRoom, oX12_inRange, oX12_place, oX12_sets, joII, joIII, joRI, joRII, mH_th h1, mP_th, h]
def oX12_setRefusal : jO := joRIII fun a x y z σ => (a = 322 ∧ mH σ ∧ mOK σ ∧ (z = 0 ∨ z = 1), fun v τ =>
  (¬ (mP σ x = true ∧ mR σ y = true) ∧ v = some (.int (-1)) ∧ τ = jup σ 322 11 0) ∨
  (mP σ x = true ∧ mR σ y = true ∧ (mD σ x.toNatClampNeg (13 + y.toNatClampNeg) = 1 ↔ z = 1) ∧ v = some (.int (-4)) ∧ τ = jup σ 322 11 0) ∨
  (mP σ x = true ∧ mR σ y = true ∧ ¬ (mD σ x.toNatClampNeg (13 + y.toNatClampNeg) = 1 ↔ z = 1) ∧ v = some (.int (mD σ x.toNatClampNeg (7 + y.toNatClampNeg))) ∧ τ = mSv1 σ x.toNatClampNeg y.toNatClampNeg 0 z))
set_option maxRecDepth 100000 in
set_option maxHeartbeats 4000000 in
theorem CX12_setRefusal (g : jG) (n : Nat) : jOk g (n + 3) mX12_setRefusal oX12_setRefusal := by
  refine joRIII_ok ?_
  rintro _ x y z σ ⟨rfl, h1, hok, hz⟩
  by_cases h : mP σ x = true
  · have h3 := (mP_jin hok h).2
    by_cases h5 : mR σ y = true
    · have h6 := jin_vr h3 (mR_jin hok h5).2
      have h8 := (mR_jin hok h5).2
      by_cases h7 : mD σ x.toNatClampNeg (13 + y.toNatClampNeg) = 1
      · rcases hz with rfl | rfl
        · refine jCon.ofF (by decide +kernel) (by simp [lg_sl, Value.category]) ?_
          refine jvk_ok TX12_setRefusal (V := [(135, 2, 12, oX12_isPerson), (142, 2, 12, oX12_isRoom), (148, 3, 12, oX12_isRefused), (259, 3, 12, oX12_sets)]) (S := [(124, 2, 0, oX12_place)]) (List.forall_mem_cons.mpr ⟨⟨mX12_isPerson, n + 1, 1, TX12, 53, rfl, by omega, kX12_135, WX12_isPerson, rfl, CX12_isPerson g (n)⟩, (List.forall_mem_cons.mpr ⟨⟨mX12_isRoom, n + 1, 1, TX12, 53, rfl, by omega, kX12_142, WX12_isRoom, rfl, CX12_isRoom g (n)⟩, (List.forall_mem_cons.mpr ⟨⟨mX12_isRefused, n + 2, 2, TX12, 53, rfl, by omega, kX12_148, WX12_isRefused, rfl, CX12_isRefused g (n)⟩, (List.forall_mem_cons.mpr ⟨⟨mX12_sets, n + 1, 2, TX12, 53, rfl, by omega, kX12_259, WX12_sets, rfl, CX12_sets g (n)⟩, (fun _ h => absurd h List.not_mem_nil)⟩)⟩)⟩)⟩) (List.forall_mem_cons.mpr ⟨⟨mX12_place, n + 0, by omega, Or.inl kX12_124, WX12_place, CX12_place g (n)⟩, (fun _ h => absurd h List.not_mem_nil)⟩) [] 60 _ _ _ _ ?_
          simp (maxSteps := 1000000) [↓Bool.cond_eq_ite, -Prod.forall, -Prod.exists, -Prod.mk.injEq, jvk, tX12_setRefusal, jtb, jol, jst, jlk, jcmp, jbin, jfl, fX12, jc2, lX12, jcat, jel, lv_args, Value.category, jins, jsrt, jins2, jble, jblt, jf3, List.filter_cons, List.filter_nil, G_m, oX12_isPerson, oX12_isRoom, oX12_isRefused, oX12_place, oX12_sets, joII, joRI, joRII, mH_th h1, mP_th, mR_th, mD_th, h, h3, h5, h6, h7, h8, jup_1]
          exact ⟨rfl, rfl⟩
        · refine jCon.ofF (by decide +kernel) (by simp [lg_sl, Value.category]) ?_
          refine jvk_ok TX12_setRefusal (V := [(135, 2, 12, oX12_isPerson), (142, 2, 12, oX12_isRoom), (148, 3, 12, oX12_isRefused), (259, 3, 12, oX12_sets)]) (S := [(124, 2, 0, oX12_place)]) (List.forall_mem_cons.mpr ⟨⟨mX12_isPerson, n + 1, 1, TX12, 53, rfl, by omega, kX12_135, WX12_isPerson, rfl, CX12_isPerson g (n)⟩, (List.forall_mem_cons.mpr ⟨⟨mX12_isRoom, n + 1, 1, TX12, 53, rfl, by omega, kX12_142, WX12_isRoom, rfl, CX12_isRoom g (n)⟩, (List.forall_mem_cons.mpr ⟨⟨mX12_isRefused, n + 2, 2, TX12, 53, rfl, by omega, kX12_148, WX12_isRefused, rfl, CX12_isRefused g (n)⟩, (List.forall_mem_cons.mpr ⟨⟨mX12_sets, n + 1, 2, TX12, 53, rfl, by omega, kX12_259, WX12_sets, rfl, CX12_sets g (n)⟩, (fun _ h => absurd h List.not_mem_nil)⟩)⟩)⟩)⟩) (List.forall_mem_cons.mpr ⟨⟨mX12_place, n + 0, by omega, Or.inl kX12_124, WX12_place, CX12_place g (n)⟩, (fun _ h => absurd h List.not_mem_nil)⟩) [] 60 _ _ _ _ ?_
          simp (maxSteps := 1000000) [↓Bool.cond_eq_ite, -Prod.forall, -Prod.exists, -Prod.mk.injEq, jvk, tX12_setRefusal, jtb, jol, jst, jlk, jcmp, jbin, jfl, fX12, jc2, lX12, jcat, jel, lv_args, Value.category, jins, jsrt, jins2, jble, jblt, jf3, List.filter_cons, List.filter_nil, G_m, oX12_isPerson, oX12_isRoom, oX12_isRefused, oX12_place, oX12_sets, joII, joRI, joRII, mH_th h1, mP_th, mR_th, mD_th, h, h3, h5, h6, h7, h8, jup_1]
      · rcases hz with rfl | rfl
        · refine jCon.ofF (by decide +kernel) (by simp [lg_sl, Value.category]) ?_
          refine jvk_ok TX12_setRefusal (V := [(135, 2, 12, oX12_isPerson), (142, 2, 12, oX12_isRoom), (148, 3, 12, oX12_isRefused), (259, 3, 12, oX12_sets)]) (S := [(124, 2, 0, oX12_place)]) (List.forall_mem_cons.mpr ⟨⟨mX12_isPerson, n + 1, 1, TX12, 53, rfl, by omega, kX12_135, WX12_isPerson, rfl, CX12_isPerson g (n)⟩, (List.forall_mem_cons.mpr ⟨⟨mX12_isRoom, n + 1, 1, TX12, 53, rfl, by omega, kX12_142, WX12_isRoom, rfl, CX12_isRoom g (n)⟩, (List.forall_mem_cons.mpr ⟨⟨mX12_isRefused, n + 2, 2, TX12, 53, rfl, by omega, kX12_148, WX12_isRefused, rfl, CX12_isRefused g (n)⟩, (List.forall_mem_cons.mpr ⟨⟨mX12_sets, n + 1, 2, TX12, 53, rfl, by omega, kX12_259, WX12_sets, rfl, CX12_sets g (n)⟩, (fun _ h => absurd h List.not_mem_nil)⟩)⟩)⟩)⟩) (List.forall_mem_cons.mpr ⟨⟨mX12_place, n + 0, by omega, Or.inl kX12_124, WX12_place, CX12_place g (n)⟩, (fun _ h => absurd h List.not_mem_nil)⟩) [] 60 _ _ _ _ ?_
          simp (maxSteps := 1000000) [↓Bool.cond_eq_ite, -Prod.forall, -Prod.exists, -Prod.mk.injEq, jvk, tX12_setRefusal, jtb, jol, jst, jlk, jcmp, jbin, jfl, fX12, jc2, lX12, jcat, jel, lv_args, Value.category, jins, jsrt, jins2, jble, jblt, jf3, List.filter_cons, List.filter_nil, G_m, oX12_isPerson, oX12_isRoom, oX12_isRefused, oX12_place, oX12_sets, joII, joRI, joRII, mH_th h1, mP_th, mR_th, mD_th, h, h3, h5, h6, h7, h8, jup_1]
        · refine jCon.ofF (by decide +kernel) (by simp [lg_sl, Value.category]) ?_
          refine jvk_ok TX12_setRefusal (V := [(135, 2, 12, oX12_isPerson), (142, 2, 12, oX12_isRoom), (148, 3, 12, oX12_isRefused), (259, 3, 12, oX12_sets)]) (S := [(124, 2, 0, oX12_place)]) (List.forall_mem_cons.mpr ⟨⟨mX12_isPerson, n + 1, 1, TX12, 53, rfl, by omega, kX12_135, WX12_isPerson, rfl, CX12_isPerson g (n)⟩, (List.forall_mem_cons.mpr ⟨⟨mX12_isRoom, n + 1, 1, TX12, 53, rfl, by omega, kX12_142, WX12_isRoom, rfl, CX12_isRoom g (n)⟩, (List.forall_mem_cons.mpr ⟨⟨mX12_isRefused, n + 2, 2, TX12, 53, rfl, by omega, kX12_148, WX12_isRefused, rfl, CX12_isRefused g (n)⟩, (List.forall_mem_cons.mpr ⟨⟨mX12_sets, n + 1, 2, TX12, 53, rfl, by omega, kX12_259, WX12_sets, rfl, CX12_sets g (n)⟩, (fun _ h => absurd h List.not_mem_nil)⟩)⟩)⟩)⟩) (List.forall_mem_cons.mpr ⟨⟨mX12_place, n + 0, by omega, Or.inl kX12_124, WX12_place, CX12_place g (n)⟩, (fun _ h => absurd h List.not_mem_nil)⟩) [] 60 _ _ _ _ ?_
          simp (maxSteps := 1000000) [↓Bool.cond_eq_ite, -Prod.forall, -Prod.exists, -Prod.mk.injEq, jvk, tX12_setRefusal, jtb, jol, jst, jlk, jcmp, jbin, jfl, fX12, jc2, lX12, jcat, jel, lv_args, Value.category, jins, jsrt, jins2, jble, jblt, jf3, List.filter_cons, List.filter_nil, G_m, oX12_isPerson, oX12_isRoom, oX12_isRefused, oX12_place, oX12_sets, joII, joRI, joRII, mH_th h1, mP_th, mR_th, mD_th, h, h3, h5, h6, h7, h8, jup_1]
          exact ⟨rfl, rfl⟩
    · refine jCon.ofF (by decide +kernel) (by simp [lg_sl, Value.category]) ?_
      refine jvk_ok TX12_setRefusal (V := [(135, 2, 12, oX12_isPerson), (142, 2, 12, oX12_isRoom), (148, 3, 12, oX12_isRefused), (259, 3, 12, oX12_sets)]) (S := [(124, 2, 0, oX12_place)]) (List.forall_mem_cons.mpr ⟨⟨mX12_isPerson, n + 1, 1, TX12, 53, rfl, by omega, kX12_135, WX12_isPerson, rfl, CX12_isPerson g (n)⟩, (List.forall_mem_cons.mpr ⟨⟨mX12_isRoom, n + 1, 1, TX12, 53, rfl, by omega, kX12_142, WX12_isRoom, rfl, CX12_isRoom g (n)⟩, (List.forall_mem_cons.mpr ⟨⟨mX12_isRefused, n + 2, 2, TX12, 53, rfl, by omega, kX12_148, WX12_isRefused, rfl, CX12_isRefused g (n)⟩, (List.forall_mem_cons.mpr ⟨⟨mX12_sets, n + 1, 2, TX12, 53, rfl, by omega, kX12_259, WX12_sets, rfl, CX12_sets g (n)⟩, (fun _ h => absurd h List.not_mem_nil)⟩)⟩)⟩)⟩) (List.forall_mem_cons.mpr ⟨⟨mX12_place, n + 0, by omega, Or.inl kX12_124, WX12_place, CX12_place g (n)⟩, (fun _ h => absurd h List.not_mem_nil)⟩) [] 60 _ _ _ _ ?_
      simp (maxSteps := 1000000) [↓Bool.cond_eq_ite, -Prod.forall, -Prod.exists, -Prod.mk.injEq, jvk, tX12_setRefusal, jtb, jol, jst, jlk, jcmp, jbin, jfl, fX12, jc2, lX12, jcat, jel, lv_args, Value.category, jins, jsrt, jins2, jble, jblt, jf3, List.filter_cons, List.filter_nil, G_m, oX12_isPerson, oX12_isRoom, oX12_isRefused, oX12_place, oX12_sets, joII, joRI, joRII, mH_th h1, mP_th, mR_th, h, h3, h5]
  · refine jCon.ofF (by decide +kernel) (by simp [lg_sl, Value.category]) ?_
    refine jvk_ok TX12_setRefusal (V := [(135, 2, 12, oX12_isPerson), (142, 2, 12, oX12_isRoom), (148, 3, 12, oX12_isRefused), (259, 3, 12, oX12_sets)]) (S := [(124, 2, 0, oX12_place)]) (List.forall_mem_cons.mpr ⟨⟨mX12_isPerson, n + 1, 1, TX12, 53, rfl, by omega, kX12_135, WX12_isPerson, rfl, CX12_isPerson g (n)⟩, (List.forall_mem_cons.mpr ⟨⟨mX12_isRoom, n + 1, 1, TX12, 53, rfl, by omega, kX12_142, WX12_isRoom, rfl, CX12_isRoom g (n)⟩, (List.forall_mem_cons.mpr ⟨⟨mX12_isRefused, n + 2, 2, TX12, 53, rfl, by omega, kX12_148, WX12_isRefused, rfl, CX12_isRefused g (n)⟩, (List.forall_mem_cons.mpr ⟨⟨mX12_sets, n + 1, 2, TX12, 53, rfl, by omega, kX12_259, WX12_sets, rfl, CX12_sets g (n)⟩, (fun _ h => absurd h List.not_mem_nil)⟩)⟩)⟩)⟩) (List.forall_mem_cons.mpr ⟨⟨mX12_place, n + 0, by omega, Or.inl kX12_124, WX12_place, CX12_place g (n)⟩, (fun _ h => absurd h List.not_mem_nil)⟩) [] 60 _ _ _ _ ?_
    simp (maxSteps := 1000000) [↓Bool.cond_eq_ite, -Prod.forall, -Prod.exists, -Prod.mk.injEq, jvk, tX12_setRefusal, jtb, jol, jst, jlk, jcmp, jbin, jfl, fX12, jc2, lX12, jcat, jel, lv_args, Value.category, jins, jsrt, jins2, jble, jblt, jf3, List.filter_cons, List.filter_nil, G_m, oX12_isPerson, oX12_isRoom, oX12_isRefused, oX12_place, oX12_sets, joII, joRI, joRII, mH_th h1, mP_th, h]
