/-! what is asked of the proposal -/
theorem cu_xC {a j : Nat} (h : xC a j = true) : aCu a j = false ∧ (a < 283 ∨ 285 < a) := by
  unfold xC at h
  unfold aCu aMk
  simp only [jble, Bool.or_eq_true, Bool.and_eq_true, beq_iff_eq, decide_eq_true_eq] at h
  simp only [jble, Bool.or_eq_false_iff, Bool.and_eq_false_iff, decide_eq_false_iff_not, beq_eq_false_iff_ne]
  omega
theorem xcu {σ τ : jM} (h : cuP σ τ) : xQ σ τ := ⟨fun a j c => h.1.2.2 a j (cu_xC c).1, Or.inr h.2.1⟩
theorem xcp {σ : jM} {x : Int32} : ∀ (v : Option Value) (τ : jM), v = some (.int x) ∧ cuP σ τ → v = some (.int x) ∧ xQ σ τ := fun _ _ q => ⟨q.1, xcu q.2⟩
theorem xmp {σ : jM} {R N K : Nat} (h : xRk σ R N K) {x y : Int32} : ∀ (v : Option Value) (τ : jM), v = some (.int x) ∧ jfr aSc bSc σ τ ∧ τ.1 322 11 = y → v = some (.int x) ∧ xQ σ τ := fun _ _ q => ⟨q.1, xM_Q h q.2.1⟩
theorem xmt {σ : jM} {R N K : Nat} (h : xRk σ R N K) {x y : Int32} {c : Prop} [Decidable c] (e : c → x = y) : ∀ (v : Option Value) (τ : jM), v = some (.int x) ∧ jfr aSc bSc σ τ ∧ (τ.1 322 11 = if c then 0 else 1) → (c → v = some (.int y) ∧ τ.1 322 11 = 0) ∧ (¬ c → (∃ z, v = some (.int z)) ∧ τ.1 322 11 = 1) ∧ xQ σ τ := by
  intro v τ q
  obtain ⟨q1, q2, q3⟩ := q
  exact ⟨fun d => ⟨by rw [q1, e d], by rw [q3, if_pos d]⟩, fun d => ⟨⟨_, q1⟩, by rw [q3, if_neg d]⟩, xM_Q h q2⟩
theorem xv_pre {σ : jM} {R N K : Nat} (h : xRk σ R N K) : (flOK σ ∧ prIv σ) ∧ mOK σ ∧ dI (σ.1 323) := ⟨⟨xv_flOK h, h.2.2.2.2.2.2.2⟩, (xv_n h).2.2.2.2.2.1, xv_dI h⟩
theorem clV_none {σ : jM} {R N K : Nat} (h : xRk σ R N K) (e : dC σ = none) (x : Int32) (f : Nat × Nat × (Nat → Nat) → Int32) : clV σ x f = x := by
  unfold clV
  rw [xv_C h, e]
theorem clV_some {σ : jM} {R N K : Nat} (h : xRk σ R N K) {a : Nat × Nat × (Nat → Nat)} (e : dC σ = some a) (x : Int32) (f : Nat × Nat × (Nat → Nat) → Int32) : clV σ x f = f a := by
  unfold clV
  rw [xv_C h, e]
theorem xs_hasProposal : xS oX11_hasProposal oM_hasProposal [] :=
  xS_mk (x := fun σ => clV σ 0 (fun _ => 1)) (y := fun σ => if (dC σ).isSome then 1 else 0) (fun h => ⟨⟨rfl, (xv_pre h).1⟩, xcp⟩) (fun h => ⟨⟨rfl, (xv_pre h).2⟩, xmp h⟩) (fun {σ R N K} h => by
    rcases e : dC σ with _ | a
    · rw [clV_none h e]; rfl
    · rw [clV_some h e]; rfl) (fun q => by rw [sR_C q.sR])
theorem xs_proposedValue : xS oX11_proposedValue oM_proposedValue [] :=
  xS_mk (x := fun σ => clV σ (-1) (fun a => nI a.1)) (y := fun σ => qs (dC σ)) (fun h => ⟨⟨rfl, (xv_pre h).1⟩, xcp⟩) (fun h => ⟨⟨rfl, (xv_pre h).2⟩, xmp h⟩) (fun {σ R N K} h => by
    rcases e : dC σ with _ | a
    · rw [clV_none h e]; rfl
    · rw [clV_some h e]; rfl) (fun q => by rw [sR_C q.sR])
theorem xs_choiceCount : xS oX11_choiceCount oM_choiceCount [] :=
  xS_mk (x := fun σ => clV σ 0 (fun a => nI a.2.1)) (y := fun σ => qc (dC σ)) (fun h => ⟨⟨rfl, (xv_pre h).1⟩, xcp⟩) (fun h => ⟨⟨rfl, (xv_pre h).2⟩, xmp h⟩) (fun {σ R N K} h => by
    rcases e : dC σ with _ | a
    · rw [clV_none h e]; rfl
    · rw [clV_some h e]; rfl) (fun q => by rw [sR_C q.sR])
theorem xv_hm {σ : jM} {R N K : Nat} (h : xRk σ R N K) : mLiv σ = cn (xl σ) N := by
  have n3 := (xv_n h).2.2.1
  unfold mLiv
  rw [n3]
  rfl
/-- what a person gains, at its place -/
theorem xv_G {σ : jM} {R N K : Nat} (h : xRk σ R N K) {a : Nat × Nat × (Nat → Nat)} (ha : dC σ = some a) {i : Nat} (hi : i < mLiv σ) : clG σ a.2.2 i = mSu σ (xp σ i) := by
  obtain ⟨-, n2, n3, n4, -⟩ := xv_n h
  obtain ⟨x1, x2, x3, x4, x5⟩ := xv_I h hi
  obtain ⟨c0, c1, c2⟩ := dC_A ha
  obtain ⟨s1, s2, -⟩ := xv_S h
  have n10 := h.1.1.2
  have r6 := h.1.1.1
  have w := xv_W h hi (r := a.2.2 i) (by rw [← n4]; exact (c1 i hi).1)
  have ar : a.2.2 i < R := by rw [← n4]; exact (c1 i hi).1
  have mp := (xv_mPr h ha s2).2.1 (xp σ i) (by rw [n3]; exact x2)
  rw [if_pos x3, x4] at mp
  unfold clG mSu
  rw [s1, xv_Pr h ha _ hi, x4, xv_mA ha, mp, w]
  congr 2
  have sm := (c1 i hi).2
  unfold dW at sm ⊢
  have e : qpl (dL (σ.1 323)) N i = xp σ i := by
    unfold xp
    rw [n3]
  rw [n3, e] at sm
  rw [e]
  have d9 := (xv_dI h).1 (xp σ i) (by omega) (a.2.2 i) (by omega)
  by_cases d : σ.1 323 (8 + 20 * xp σ i + (13 + a.2.2 i)) = 1
  · rw [if_pos d] at sm; cases sm
  · rw [if_neg d]
    obtain ⟨k, k1, k2, k3⟩ := nI_rng d9.1 d9.2 (by decide)
    show nI _ = σ.1 323 (8 + 20 * xp σ i + (7 + a.2.2 i))
    rw [k3, k2]
theorem sR_Su {σ τ : jM} (s : sR σ τ) : mSu τ = mSu σ := by
  funext p
  have e : shN τ = shN σ := by
    unfold shN
    rw [s.1]
  unfold mSu
  rw [sR_D s, sR_A s, sR_l s, sR_Pr s, e]
theorem sR_sN {σ τ : jM} (s : sR σ τ) : shN τ = shN σ := by
  unfold shN
  rw [s.1]
theorem xv_Y0 {σ : jM} {R N K : Nat} (h : xRk σ R N K) {p : Nat} (hp : p < N) : (mCh σ p = -1 → clY σ p = 0) ∧ (0 ≤ mCh σ p → clY σ p = mPy σ p) ∧ (mCh σ p = -1 ∨ ∃ r, r < R ∧ mCh σ p = nI r ∧ xl σ p = true) := by
  obtain ⟨n1, n2, n3, n4, -⟩ := xv_n h
  obtain ⟨l1, l2, -⟩ := xv_liv h
  have r6 := h.1.1.1
  rcases e : dC σ with _ | a
  · have c : mCh σ p = -1 := by
      unfold mCh
      rw [e]
      rfl
    refine ⟨fun _ => ?_, fun z => ?_, Or.inl c⟩
    · unfold clY
      rw [xv_C h, e]
    · rw [c] at z
      exact absurd z (by decide)
  · by_cases l : xl σ p = true
    · have ck : cn (xl σ) p < mLiv σ := by
        rw [xv_hm h]
        exact cn_lt l hp
      have ar := ((dC_A e).2.1 _ ck).1
      rw [n4] at ar
      have c : mCh σ p = nI (a.2.2 (cn (xl σ) p)) := by
        unfold mCh
        rw [e, n3]
        exact if_pos ⟨l, hp⟩
      refine ⟨fun z => ?_, fun _ => xv_Yp h hp e, Or.inr ⟨_, ar, c, l⟩⟩
      rw [c] at z
      exact absurd ((nI_m1 (by omega)).mp z) id
    · have c : mCh σ p = -1 := by
        unfold mCh
        rw [e]
        exact if_neg (fun z => l z.1)
      refine ⟨fun _ => ?_, fun z => ?_, Or.inl c⟩
      · unfold clY
        rw [xv_C h, e]
        dsimp only
        rw [l1 p hp, if_neg l]
      · rw [c] at z
        exact absurd z (by decide)
theorem sR_Ch {σ τ : jM} (s : sR σ τ) : mCh τ = mCh σ ∧ mPy τ = mPy σ := by
  refine ⟨?_, ?_⟩
  · funext p
    unfold mCh
    rw [sR_C s, sR_l s, sR_N s]
  · funext p
    unfold mPy
    rw [sR_l s, sR_pa s, sR_sN s]
theorem xt_proposedRoom (x : Int32) : xTw (fun σ => mP σ x = true) xE oX11_proposedRoom oM_proposedRoom [.int x] :=
  xT_mk (x := fun σ => clR σ x.toNatClampNeg) (y := fun σ => mCh σ x.toNatClampNeg)
    (fun h c => ⟨⟨rfl, (xv_pre h).1.1, (xv_pre h).1.2, ((xv_P h x).1).trans c⟩, xcp⟩)
    (fun h => xt_e h)
    (fun {σ R N K} h => ⟨⟨rfl, (xv_pre h).2⟩, xmt h (fun c => if_pos c)⟩)
    (fun h c => xv_Rm h (xv_p h c).1) (fun q => by rw [(sR_Ch q.sR).1]) (fun q => by rw [xQ_P q])
/-- a number of a person in the proposal -/
theorem xt_num {oc om : jO} {x : Int32} (f : jM → (Nat → Nat) → Nat → Int32) (g : jM → Nat → Int32)
    (hf : ∀ {σ R N K}, xRk σ R N K → ∀ {a : Nat × Nat × (Nat → Nat)}, dC σ = some a → ∀ {p}, p < N → xl σ p = true → f σ a.2.2 (cn (xl σ) p) = g σ p) (hg : ∀ {σ τ}, sR σ τ → g τ = g σ)
    (hc : ∀ σ, oc [.ref 0, .int x] σ = ((0 : Nat) = 0 ∧ flOK σ ∧ prIv σ ∧ fP σ x = true, fun v τ => v = some (.int (clN σ x.toNatClampNeg (f σ))) ∧ cuP σ τ))
    (hm : ∀ σ, om [.ref 322, .int x] σ = ((322 : Nat) = 322 ∧ mOK σ ∧ dI (σ.1 323), fun v τ => v = some (.int (mNo σ x (g σ x.toNatClampNeg))) ∧ jfr aSc bSc σ τ ∧ τ.1 322 11 = if mP σ x = true then 0 else 1)) : xTw (fun σ => mP σ x = true) xE oc om [.int x] :=
  xT_mk (x := fun σ => clN σ x.toNatClampNeg (f σ)) (y := fun σ => if (dC σ).isSome = true ∧ xl σ x.toNatClampNeg = true then g σ x.toNatClampNeg else -2000000000)
    (fun {σ R N K} h c => by
      rw [hc]
      exact ⟨⟨rfl, (xv_pre h).1.1, (xv_pre h).1.2, ((xv_P h x).1).trans c⟩, xcp⟩)
    (fun h => xt_e h)
    (fun {σ R N K} h => by
      rw [hm]
      exact ⟨⟨rfl, (xv_pre h).2⟩, xmt h (fun c => if_pos c)⟩)
    (fun {σ R N K} h c => by
      obtain ⟨l1, l2, -⟩ := xv_liv h
      have hp := (xv_p h c).1
      unfold clN
      rcases e : dC σ with _ | a
      · rw [clV_none h e]
        exact (if_neg (fun z => by simp at z)).symm
      · rw [clV_some h e, l1 _ hp, l2 _ (Nat.le_of_lt hp)]
        by_cases l : xl σ x.toNatClampNeg = true
        · rw [if_pos l, if_pos ⟨rfl, l⟩]
          exact hf h e hp l
        · rw [if_neg l, if_neg (fun z => l z.2)]) (fun q => by rw [sR_C q.sR, sR_l q.sR, hg q.sR]) (fun q => by rw [xQ_P q])
theorem ck_of {σ : jM} {R N K : Nat} (h : xRk σ R N K) {p : Nat} (hp : p < N) (l : xl σ p = true) : cn (xl σ) p < mLiv σ ∧ xp σ (cn (xl σ) p) = p := by
  refine ⟨?_, ?_⟩
  · rw [xv_hm h]
    exact cn_lt l hp
  · unfold xp
    rw [(xv_n h).2.2.1]
    exact qpl_cn l hp
theorem xt_proposedPayment (x : Int32) : xTw (fun σ => mP σ x = true) xE oX11_proposedPayment oM_proposedPayment [.int x] :=
  xt_num (fun σ A i => flPy σ A (flS σ) i) (fun σ p => paS σ (shN σ) (cn (xl σ) p)) (fun h _ e _ hp l => by rw [(xv_S h).1]; exact xv_Py h e _ (ck_of h hp l).1) (fun s => by
    funext p
    rw [sR_sN s, sR_pa s, sR_l s]) (fun _ => rfl) (fun _ => rfl)
theorem xt_surplus (x : Int32) : xTw (fun σ => mP σ x = true) xE oX11_surplus oM_surplus [.int x] :=
  xt_num (fun σ A i => clG σ A i) (fun σ p => mSu σ p) (fun h _ e _ hp l => by
    have := xv_G h e (ck_of h hp l).1
    rw [(ck_of h hp l).2] at this
    exact this) (fun s => sR_Su s) (fun _ => rfl) (fun _ => rfl)
