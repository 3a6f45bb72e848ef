/-! the reference: people move, rooms are exchanged, envy -/
theorem mOK_of {σ τ : jM} (h : mOK σ) (h3 : τ.1 322 3 = σ.1 322 3) (h4 : τ.1 322 4 = σ.1 322 4) (h5 : τ.1 322 5 = σ.1 322 5) : mOK τ := by
  unfold mOK
  rw [h3, h4, h5]
  exact h
theorem mP_of {σ τ : jM} (h : τ.1 322 4 = σ.1 322 4) (x : Int32) : mP τ x = mP σ x := by unfold mP; rw [h]
theorem mOK_rem {σ : jM} (h : mOK σ) : mOK (mRem σ) := mOK_of h (mRem_f σ 3 (by decide)) (mRem_f σ 4 (by decide)) (mRem_f σ 5 (by decide))
theorem mOK_up {σ : jM} (h : mOK σ) (j : Nat) (x : Int32) : mOK (jup σ 323 j x) := mOK_of h (by simp [jup_1]) (by simp [jup_1]) (by simp [jup_1])
theorem jN_208 {k : Nat} (h : k < 208) : jin (nI k) 208 ∧ (nI k).toNatClampNeg = k := ⟨jin_nI h (by decide), nI_clamp (by omega)⟩
def mLv (σ : jM) (p : Nat) : jM := jup (jup σ 323 (8 + 20 * p + 2) (-1)) 323 (8 + 20 * p + 3) 0
def oX12_leaves : jO := joRI fun a x σ => (a = 322 ∧ jin x 10, fun v τ => v = none ∧ τ = mLv σ x.toNatClampNeg)
set_option maxRecDepth 100000 in
set_option maxHeartbeats 4000000 in
theorem CX12_leaves (g : jG) (n : Nat) : jOk g (n + 1) mX12_leaves oX12_leaves := by
  refine joRI_ok ?_
  rintro _ x σ ⟨rfl, h1⟩
  have h2 := jN_208 (mpl_lt h1 jin_c.2.2.1)
  have h3 := jN_208 (mpl_lt h1 jin_c.2.2.2.1)
  refine jCon.ofF (by decide +kernel) (by simp [lg_sl, Value.category]) ?_
  refine jvk_ok TX12_leaves (V := []) (S := [(124, 2, 0, oX12_place)]) (fun _ h => absurd h List.not_mem_nil) (List.forall_mem_cons.mpr ⟨⟨mX12_place, n + 0, by omega, Or.inl kX12_124, WX12_place, CX12_place g (n)⟩, (fun _ h => absurd h List.not_mem_nil)⟩) [] 30 _ _ _ _ ?_
  simp (maxSteps := 1000000) [↓Bool.cond_eq_ite, -Prod.forall, -Prod.exists, -Prod.mk.injEq, jvk, tX12_leaves, jtb, jol, jst, jlk, jcmp, jbin, jfl, fX12, jc2, lX12, jcat, jel, lv_args, Value.category, jins, jsrt, jins2, jble, jblt, jf3, List.filter_cons, List.filter_nil, G_m, oX12_place, joII, h1, jin_c, h2, h3, jup_1]
  simp [mLv, mpl, tn_c]
/-- the state behind moveIn, where it is one -/
def mIn1 (σ : jM) (p : Nat) : jM := jup (mRem (jup σ 322 11 0)) 323 (8 + 20 * p + 0) 1
def oX12_moveIn : jO := joRI fun a x σ => (a = 322 ∧ mH σ ∧ mOK σ, fun v τ =>
  (mP σ x = false ∧ v = some (.int (-1)) ∧ τ = jup σ 322 11 0) ∨
  (mP σ x = true ∧ mD σ x.toNatClampNeg 0 = 1 ∧ v = some (.int (-4)) ∧ τ = jup σ 322 11 0) ∨
  (mP σ x = true ∧ ¬ mD σ x.toNatClampNeg 0 = 1 ∧ nI (mLiv σ) = σ.1 322 3 ∧ v = some (.int (-3)) ∧ τ = jup σ 322 11 0) ∨
  (mP σ x = true ∧ ¬ mD σ x.toNatClampNeg 0 = 1 ∧ ¬ nI (mLiv σ) = σ.1 322 3 ∧ v = some (.int (nI (mLiv (mIn1 σ x.toNatClampNeg)))) ∧ τ = mIn1 σ x.toNatClampNeg))
set_option maxRecDepth 100000 in
set_option maxHeartbeats 4000000 in
theorem CX12_moveIn (g : jG) (n : Nat) : jOk g (n + 4) mX12_moveIn oX12_moveIn := by
  refine joRI_ok ?_
  rintro _ x σ ⟨rfl, h1, hok⟩
  by_cases h : mP σ x = true
  · have h3 := (mP_jin hok h).2
    have h4 := jN_208 (mpl_lt h3 jin_c.1)
    by_cases h5 : mD σ x.toNatClampNeg 0 = 1
    · refine jCon.ofF (by decide +kernel) (by simp [lg_sl, Value.category]) ?_
      refine jvk_ok TX12_moveIn (V := [(135, 2, 12, oX12_isPerson), (131, 2, 12, oX12_isLiving), (152, 1, 12, oX12_living), (253, 1, 12, oX12_remember)]) (S := [(124, 2, 0, oX12_place)]) (List.forall_mem_cons.mpr ⟨⟨mX12_isPerson, n + 1, 1, TX12, 53, rfl, by omega, kX12_135, WX12_isPerson, rfl, CX12_isPerson g (n)⟩, (List.forall_mem_cons.mpr ⟨⟨mX12_isLiving, n + 2, 1, TX12, 53, rfl, by omega, kX12_131, WX12_isLiving, rfl, CX12_isLiving g (n)⟩, (List.forall_mem_cons.mpr ⟨⟨mX12_living, n + 3, 0, TX12, 53, rfl, by omega, kX12_152, WX12_living, rfl, CX12_living g (n)⟩, (List.forall_mem_cons.mpr ⟨⟨mX12_remember, n + 0, 0, TX12, 53, rfl, by omega, kX12_253, WX12_remember, rfl, CX12_remember g (n)⟩, (fun _ h => absurd h List.not_mem_nil)⟩)⟩)⟩)⟩) (List.forall_mem_cons.mpr ⟨⟨mX12_place, n + 0, by omega, Or.inl kX12_124, WX12_place, CX12_place g (n)⟩, (fun _ h => absurd h List.not_mem_nil)⟩) [] 60 _ _ _ _ ?_
      simp (maxSteps := 1000000) [↓Bool.cond_eq_ite, -Prod.forall, -Prod.exists, -Prod.mk.injEq, jvk, tX12_moveIn, jtb, jol, jst, jlk, jcmp, jbin, jfl, fX12, jc2, lX12, jcat, jel, lv_args, Value.category, jins, jsrt, jins2, jble, jblt, jf3, List.filter_cons, List.filter_nil, G_m, oX12_isPerson, oX12_isLiving, oX12_living, oX12_remember, oX12_place, joII, joR, joRI, mH_th h1, mOK_th hok, mP_th, h, h3, h4, jin_c, tn_c, mD_th, h5]
    · by_cases h6 : nI (mLiv σ) = σ.1 322 3
      · refine jCon.ofF (by decide +kernel) (by simp [lg_sl, Value.category]) ?_
        refine jvk_ok TX12_moveIn (V := [(135, 2, 12, oX12_isPerson), (131, 2, 12, oX12_isLiving), (152, 1, 12, oX12_living), (253, 1, 12, oX12_remember)]) (S := [(124, 2, 0, oX12_place)]) (List.forall_mem_cons.mpr ⟨⟨mX12_isPerson, n + 1, 1, TX12, 53, rfl, by omega, kX12_135, WX12_isPerson, rfl, CX12_isPerson g (n)⟩, (List.forall_mem_cons.mpr ⟨⟨mX12_isLiving, n + 2, 1, TX12, 53, rfl, by omega, kX12_131, WX12_isLiving, rfl, CX12_isLiving g (n)⟩, (List.forall_mem_cons.mpr ⟨⟨mX12_living, n + 3, 0, TX12, 53, rfl, by omega, kX12_152, WX12_living, rfl, CX12_living g (n)⟩, (List.forall_mem_cons.mpr ⟨⟨mX12_remember, n + 0, 0, TX12, 53, rfl, by omega, kX12_253, WX12_remember, rfl, CX12_remember g (n)⟩, (fun _ h => absurd h List.not_mem_nil)⟩)⟩)⟩)⟩) (List.forall_mem_cons.mpr ⟨⟨mX12_place, n + 0, by omega, Or.inl kX12_124, WX12_place, CX12_place g (n)⟩, (fun _ h => absurd h List.not_mem_nil)⟩) [] 60 _ _ _ _ ?_
        simp (maxSteps := 1000000) [↓Bool.cond_eq_ite, -Prod.forall, -Prod.exists, -Prod.mk.injEq, jvk, tX12_moveIn, jtb, jol, jst, jlk, jcmp, jbin, jfl, fX12, jc2, lX12, jcat, jel, lv_args, Value.category, jins, jsrt, jins2, jble, jblt, jf3, List.filter_cons, List.filter_nil, G_m, oX12_isPerson, oX12_isLiving, oX12_living, oX12_remember, oX12_place, joII, joR, joRI, mH_th h1, mOK_th hok, mP_th, h, h3, h4, jin_c, tn_c, mD_th, h5, mLiv_th, h6, jup_1]
      · refine jCon.ofF (by decide +kernel) (by simp [lg_sl, Value.category]) ?_
        refine jvk_ok TX12_moveIn (V := [(135, 2, 12, oX12_isPerson), (131, 2, 12, oX12_isLiving), (152, 1, 12, oX12_living), (253, 1, 12, oX12_remember)]) (S := [(124, 2, 0, oX12_place)]) (List.forall_mem_cons.mpr ⟨⟨mX12_isPerson, n + 1, 1, TX12, 53, rfl, by omega, kX12_135, WX12_isPerson, rfl, CX12_isPerson g (n)⟩, (List.forall_mem_cons.mpr ⟨⟨mX12_isLiving, n + 2, 1, TX12, 53, rfl, by omega, kX12_131, WX12_isLiving, rfl, CX12_isLiving g (n)⟩, (List.forall_mem_cons.mpr ⟨⟨mX12_living, n + 3, 0, TX12, 53, rfl, by omega, kX12_152, WX12_living, rfl, CX12_living g (n)⟩, (List.forall_mem_cons.mpr ⟨⟨mX12_remember, n + 0, 0, TX12, 53, rfl, by omega, kX12_253, WX12_remember, rfl, CX12_remember g (n)⟩, (fun _ h => absurd h List.not_mem_nil)⟩)⟩)⟩)⟩) (List.forall_mem_cons.mpr ⟨⟨mX12_place, n + 0, by omega, Or.inl kX12_124, WX12_place, CX12_place g (n)⟩, (fun _ h => absurd h List.not_mem_nil)⟩) [] 60 _ _ _ _ ?_
        simp (maxSteps := 1000000) [↓Bool.cond_eq_ite, -Prod.forall, -Prod.exists, -Prod.mk.injEq, jvk, tX12_moveIn, jtb, jol, jst, jlk, jcmp, jbin, jfl, fX12, jc2, lX12, jcat, jel, lv_args, Value.category, jins, jsrt, jins2, jble, jblt, jf3, List.filter_cons, List.filter_nil, G_m, oX12_isPerson, oX12_isLiving, oX12_living, oX12_remember, oX12_place, joII, joR, joRI, mH_th h1, mOK_th hok, mP_th, h, h3, h4, jin_c, tn_c, mD_th, h5, mLiv_th, h6, jup_1, mOK_up, mOK_rem]
        exact ⟨by simp [mIn1, mpl, tn_c], by simp [mIn1, mpl, tn_c]⟩
  · refine jCon.ofF (by decide +kernel) (by simp [lg_sl, Value.category]) ?_
    refine jvk_ok TX12_moveIn (V := [(135, 2, 12, oX12_isPerson), (131, 2, 12, oX12_isLiving), (152, 1, 12, oX12_living), (253, 1, 12, oX12_remember)]) (S := [(124, 2, 0, oX12_place)]) (List.forall_mem_cons.mpr ⟨⟨mX12_isPerson, n + 1, 1, TX12, 53, rfl, by omega, kX12_135, WX12_isPerson, rfl, CX12_isPerson g (n)⟩, (List.forall_mem_cons.mpr ⟨⟨mX12_isLiving, n + 2, 1, TX12, 53, rfl, by omega, kX12_131, WX12_isLiving, rfl, CX12_isLiving g (n)⟩, (List.forall_mem_cons.mpr ⟨⟨mX12_living, n + 3, 0, TX12, 53, rfl, by omega, kX12_152, WX12_living, rfl, CX12_living g (n)⟩, (List.forall_mem_cons.mpr ⟨⟨mX12_remember, n + 0, 0, TX12, 53, rfl, by omega, kX12_253, WX12_remember, rfl, CX12_remember g (n)⟩, (fun _ h => absurd h List.not_mem_nil)⟩)⟩)⟩)⟩) (List.forall_mem_cons.mpr ⟨⟨mX12_place, n + 0, by omega, Or.inl kX12_124, WX12_place, CX12_place g (n)⟩, (fun _ h => absurd h List.not_mem_nil)⟩) [] 60 _ _ _ _ ?_
    simp (maxSteps := 1000000) [↓Bool.cond_eq_ite, -Prod.forall, -Prod.exists, -Prod.mk.injEq, jvk, tX12_moveIn, jtb, jol, jst, jlk, jcmp, jbin, jfl, fX12, jc2, lX12, jcat, jel, lv_args, Value.category, jins, jsrt, jins2, jble, jblt, jf3, List.filter_cons, List.filter_nil, G_m, oX12_isPerson, oX12_isLiving, oX12_living, oX12_remember, oX12_place, joII, joR, joRI, mH_th h1, mP_th, h]
