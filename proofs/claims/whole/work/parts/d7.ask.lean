/-! what is asked of the proposal -/
theorem cu_xC {a j : Nat} (h : xC a j = true) : aCu a j = false ∧ (a < 283 ∨ 285 < a) := by
  unfold xC at h
  unfold aCu aMk
  simp only [jble, Bool.or_eq_true, Bool.and_eq_true, beq_iff_eq, decide_eq_true_eq] at h
  simp only [jble, Bool.or_eq_false_iff, Bool.and_eq_false_iff, decide_eq_false_iff_not, beq_eq_false_iff_ne]
  omega
theorem xcu {σ τ : jM} (h : cuP σ τ) : xQ σ τ := ⟨fun a j c => h.1.2.2 a j (cu_xC c).1, Or.inr h.2.1⟩
theorem xcq {σ τ : jM} (h : cuQ σ τ) : xQ σ τ := ⟨fun a j c => h.1 a j (cu_xC c).1 (cu_xC c).2, Or.inr h.2.1⟩
theorem xcp {σ : jM} {x : Int32} : ∀ (v : Option Value) (τ : jM), v = some (.int x) ∧ cuP σ τ → v = some (.int x) ∧ xQ σ τ := fun _ _ q => ⟨q.1, xcu q.2⟩
theorem xmp {σ : jM} {R N K : Nat} (h : xRk σ R N K) {x y : Int32} : ∀ (v : Option Value) (τ : jM), v = some (.int x) ∧ jfr aSc bSc σ τ ∧ τ.1 322 11 = y → v = some (.int x) ∧ xQ σ τ := fun _ _ q => ⟨q.1, xM_Q h q.2.1⟩
theorem xmt {σ : jM} {R N K : Nat} (h : xRk σ R N K) {x y : Int32} {c : Prop} [Decidable c] (e : c → x = y) : ∀ (v : Option Value) (τ : jM), v = some (.int x) ∧ jfr aSc bSc σ τ ∧ (τ.1 322 11 = if c then 0 else 1) → (c → v = some (.int y) ∧ τ.1 322 11 = 0) ∧ (¬ c → (∃ z, v = some (.int z)) ∧ τ.1 322 11 = 1) ∧ xQ σ τ := by
  intro v τ q
  obtain ⟨q1, q2, q3⟩ := q
  exact ⟨fun d => ⟨by rw [q1, e d], by rw [q3, if_pos d]⟩, fun d => ⟨⟨_, q1⟩, by rw [q3, if_neg d]⟩, xM_Q h q2⟩
theorem xv_pre {σ : jM} {R N K : Nat} (h : xRk σ R N K) : (flOK σ ∧ prIv σ) ∧ mOK σ ∧ dI (σ.1 323) := ⟨⟨xv_flOK h, h.2.2.2.2.2.2.2⟩, (xv_n h).2.2.2.2.2.1, xv_dI h⟩
theorem clV_none {σ : jM} {R N K : Nat} (h : xRk σ R N K) (e : dC σ = none) (x : Int32) (f : Nat × Nat × (Nat → Nat) → Int32) : clV σ x f = x := by
  unfold clV
  rw [xv_C h, e]
theorem clV_some {σ : jM} {R N K : Nat} (h : xRk σ R N K) {a : Nat × Nat × (Nat → Nat)} (e : dC σ = some a) (x : Int32) (f : Nat × Nat × (Nat → Nat) → Int32) : clV σ x f = f a := by
  unfold clV
  rw [xv_C h, e]
theorem xs_hasProposal : xS oX11_hasProposal oX12_hasProposal [] :=
  xS_mk (x := fun σ => clV σ 0 (fun _ => 1)) (y := fun σ => if (dC σ).isSome then 1 else 0) (fun h => ⟨⟨rfl, (xv_pre h).1⟩, xcp⟩) (fun h => ⟨⟨rfl, (xv_pre h).2⟩, xmp h⟩) (fun {σ R N K} h => by
    rcases e : dC σ with _ | a
    · rw [clV_none h e]; rfl
    · rw [clV_some h e]; rfl) (fun q => by rw [sR_C q.sR])
theorem xs_proposedValue : xS oX11_proposedValue oX12_proposedValue [] :=
  xS_mk (x := fun σ => clV σ (-1) (fun a => nI a.1)) (y := fun σ => qs (dC σ)) (fun h => ⟨⟨rfl, (xv_pre h).1⟩, xcp⟩) (fun h => ⟨⟨rfl, (xv_pre h).2⟩, xmp h⟩) (fun {σ R N K} h => by
    rcases e : dC σ with _ | a
    · rw [clV_none h e]; rfl
    · rw [clV_some h e]; rfl) (fun q => by rw [sR_C q.sR])
theorem xs_choiceCount : xS oX11_choiceCount oX12_choiceCount [] :=
  xS_mk (x := fun σ => clV σ 0 (fun a => nI a.2.1)) (y := fun σ => qc (dC σ)) (fun h => ⟨⟨rfl, (xv_pre h).1⟩, xcp⟩) (fun h => ⟨⟨rfl, (xv_pre h).2⟩, xmp h⟩) (fun {σ R N K} h => by
    rcases e : dC σ with _ | a
    · rw [clV_none h e]; rfl
    · rw [clV_some h e]; rfl) (fun q => by rw [sR_C q.sR])
theorem xv_hm {σ : jM} {R N K : Nat} (h : xRk σ R N K) : mLiv σ = cn (xl σ) N := by
  have n3 := (xv_n h).2.2.1
  unfold mLiv
  rw [n3]
  rfl
/-- what a person gains, at its place -/
theorem xv_G {σ : jM} {R N K : Nat} (h : xRk σ R N K) {a : Nat × Nat × (Nat → Nat)} (ha : dC σ = some a) {i : Nat} (hi : i < mLiv σ) : clG σ a.2.2 i = mSu σ (xp σ i) := by
  obtain ⟨-, n2, n3, n4, -⟩ := xv_n h
  obtain ⟨x1, x2, x3, x4, x5⟩ := xv_I h hi
  obtain ⟨c0, c1, c2⟩ := dC_A ha
  obtain ⟨s1, s2, -⟩ := xv_S h
  have n10 := h.1.1.2
  have r6 := h.1.1.1
  have w := xv_W h hi (r := a.2.2 i) (by rw [← n4]; exact (c1 i hi).1)
  have ar : a.2.2 i < R := by rw [← n4]; exact (c1 i hi).1
  have mp := (xv_mPr h ha s2).2.1 (xp σ i) (by rw [n3]; exact x2)
  rw [if_pos x3, x4] at mp
  unfold clG mSu
  rw [s1, xv_Pr h ha _ hi, x4, xv_mA ha, mp, w]
  congr 2
  have sm := (c1 i hi).2
  unfold dW at sm ⊢
  have e : qpl (dL (σ.1 323)) N i = xp σ i := by
    unfold xp
    rw [n3]
  rw [n3, e] at sm
  rw [e]
  have d9 := (xv_dI h).1 (xp σ i) (by omega) (a.2.2 i) (by omega)
  by_cases d : σ.1 323 (8 + 20 * xp σ i + (13 + a.2.2 i)) = 1
  · rw [if_pos d] at sm; cases sm
  · rw [if_neg d]
    obtain ⟨k, k1, k2, k3⟩ := nI_rng d9.1 d9.2 (by decide)
    show nI _ = σ.1 323 (8 + 20 * xp σ i + (7 + a.2.2 i))
    rw [k3, k2]
theorem xv_Ls {σ : jM} {R N K : Nat} (h : xRk σ R N K) {a : Nat × Nat × (Nat → Nat)} (ha : dC σ = some a) : ∀ k, k ≤ N → mLs σ k = if cn (xl σ) k = 0 then none else some (xp σ (clLg σ a.2.2 (cn (xl σ) k - 1)))
  | 0, _ => rfl
  | k + 1, hk => by
    have ih := xv_Ls h ha k (by omega)
    have n3 := (xv_n h).2.2.1
    simp only [mLs]
    by_cases l : xl σ k = true
    · have ck : cn (xl σ) k < mLiv σ := by
        rw [xv_hm h]
        exact cn_lt l (by omega)
      have xk : xp σ (cn (xl σ) k) = k := by
        unfold xp
        rw [n3]
        exact qpl_cn l (by omega)
      have cs : cn (xl σ) (k + 1) = cn (xl σ) k + 1 := by
        simp only [cn]
        rw [if_pos l]
      rw [if_pos l, cs, if_neg (by omega), ih]
      by_cases c0 : cn (xl σ) k = 0
      · rw [if_pos c0, c0]
        rw [c0] at xk
        show some k = some (xp σ 0)
        rw [xk]
      · rw [if_neg c0]
        obtain ⟨c, hc⟩ : ∃ c, cn (xl σ) k = c + 1 := ⟨cn (xl σ) k - 1, by omega⟩
        rw [hc] at ck xk ⊢
        have le := clLg_le σ a.2.2 c
        have g1 := xv_G h ha ck
        have g2 := xv_G h ha (i := clLg σ a.2.2 c) (by omega)
        rw [xk] at g1
        rw [show c + 1 - 1 = c from rfl, show c + 1 + 1 - 1 = c + 1 from rfl]
        dsimp only
        simp only [clLg]
        rw [g1, g2]
        by_cases d : mSu σ k < mSu σ (xp σ (clLg σ a.2.2 c))
        · rw [if_pos d, if_pos d, xk]
        · rw [if_neg d, if_neg d]
    · have cs : cn (xl σ) (k + 1) = cn (xl σ) k := by
        simp only [cn]
        rw [if_neg l]
        rfl
      rw [if_neg l, cs, ih]
theorem sR_Su {σ τ : jM} (s : sR σ τ) : mSu τ = mSu σ := by
  funext p
  have e : shN τ = shN σ := by
    unfold shN
    rw [s.1]
  unfold mSu
  rw [sR_D s, sR_A s, sR_l s, sR_Pr s, e]
theorem sR_Ls {σ τ : jM} (s : sR σ τ) : ∀ k, mLs τ k = mLs σ k
  | 0 => rfl
  | k + 1 => by
    simp only [mLs]
    rw [sR_Ls s k, sR_l s, sR_Su s]
theorem xs_leastSurplus : xS oX11_leastSurplus oX12_leastSurplus [] :=
  xS_mk (x := fun σ => clV σ (-1) (fun a => nI (clLeast σ a))) (y := fun σ => if (dC σ).isSome = true then oN (mLs σ (mN σ)) else -1) (fun h => ⟨⟨rfl, (xv_pre h).1⟩, xcp⟩) (fun h => ⟨⟨rfl, (xv_pre h).2⟩, xmp h⟩) (fun {σ R N K} h => by
    rcases e : dC σ with _ | a
    · rw [clV_none h e]; rfl
    · rw [clV_some h e]
      show nI (clLeast σ a) = oN (mLs σ (mN σ))
      have c0 := (dC_A e).1
      have hm := xv_hm h
      rw [(xv_n h).2.2.1, xv_Ls h e N (Nat.le_refl _), if_neg (by omega), ← hm]
      have le := clLg_le σ a.2.2 (mLiv σ - 1)
      unfold clLeast
      rw [(xv_liv h).2.2.1, (xv_I h (i := clLg σ a.2.2 (mLiv σ - 1)) (by omega)).2.2.2.2]
      rfl) (fun {σ τ} q => by rw [sR_C q.sR, sR_N q.sR, sR_Ls q.sR])
theorem sR_Af {σ τ : jM} (s : sR σ τ) (n : Nat) (x : Int32) : mAf τ n x = mAf σ n x := by
  unfold mAf
  rw [sR_N s, sR_l s, sR_pa s]
  have : mD τ = mD σ := by
    funext a b
    exact sR_D s a b
  rw [this]
theorem sR_sN {σ τ : jM} (s : sR σ τ) : shN τ = shN σ := by
  unfold shN
  rw [s.1]
theorem xs_affordable (x : Int32) : xS oX11_affordable oX12_affordable [.int x] :=
  xS_mk (x := fun σ => if mIn x 0 100 = true then clV σ 0 (fun a => nI (clAb σ a.2.2 (flS σ) x)) else -2) (y := fun σ => if mIn x 0 100 = true then (if (dC σ).isSome = true then nI (mAf σ (shN σ) x) else 0) else -2) (fun {σ R N K} h => ⟨⟨rfl, (xv_pre h).1⟩, fun v τ q => by
    rcases q with ⟨q1, q2, q3⟩ | ⟨q1, q2, q3⟩
    · rw [if_neg q1, q3]
      exact ⟨q2, xQ.rfl h⟩
    · rw [if_pos q1]
      exact ⟨q2, xcu q3⟩⟩) (fun h => ⟨⟨rfl, (xv_pre h).2⟩, xmp h⟩) (fun {σ R N K} h => by
    by_cases c : mIn x 0 100 = true
    · rw [if_pos c, if_pos c]
      rcases e : dC σ with _ | a
      · rw [clV_none h e]; rfl
      · rw [clV_some h e, (xv_S h).1, xv_Ab h e]; rfl
    · rw [if_neg c, if_neg c]) (fun {σ τ} q => by rw [sR_C q.sR, sR_Af q.sR, sR_sN q.sR])
theorem xs_leastShare (x : Int32) : xS oX11_leastShare oX12_leastShare [.int x] :=
  xS_mk (x := fun σ => if mIn x 0 100 = true then clV σ (-1) (fun a => ff (fun s => decide (clAb σ a.2.2 s x = flM σ)) 101 0) else -2) (y := fun σ => if mIn x 0 100 = true then (if (dC σ).isSome = true then ff (fun s => decide (mAf σ s x = mLiv σ)) 101 0 else -1) else -2) (fun {σ R N K} h => ⟨⟨rfl, (xv_pre h).1⟩, fun v τ q => by
    rcases q with ⟨q1, q2, q3⟩ | ⟨q1, q2, q3⟩
    · rw [if_neg q1, q3]
      exact ⟨q2, xQ.rfl h⟩
    · rw [if_pos q1]
      exact ⟨q2, xcq q3⟩⟩) (fun h => ⟨⟨rfl, (xv_pre h).2⟩, xmp h⟩) (fun {σ R N K} h => by
    by_cases c : mIn x 0 100 = true
    · rw [if_pos c, if_pos c]
      rcases e : dC σ with _ | a
      · rw [clV_none h e]; rfl
      · rw [clV_some h e]
        refine Eq.trans ?_ (if_pos rfl).symm
        exact ff_congr 101 0 (fun j _ _ => by rw [xv_Ab h e, (xv_liv h).2.2.1])
    · rw [if_neg c, if_neg c]) (fun {σ τ} q => by
    have e : ∀ s, mAf τ s x = mAf σ s x := fun s => sR_Af q.sR s x
    rw [sR_C q.sR, sR_Lv q.sR]
    simp only [e])
theorem al_cg {p q : Nat → Bool} : ∀ n, (∀ j, j < n → p j = q j) → al p n = al q n
  | 0, _ => rfl
  | n + 1, h => by
    simp only [al]
    rw [al_cg n (fun j hj => h j (by omega)), h n (by omega)]
theorem xv_Y0 {σ : jM} {R N K : Nat} (h : xRk σ R N K) {p : Nat} (hp : p < N) : (mCh σ p = -1 → clY σ p = 0) ∧ (0 ≤ mCh σ p → clY σ p = mPy σ p) ∧ (mCh σ p = -1 ∨ ∃ r, r < R ∧ mCh σ p = nI r ∧ xl σ p = true) := by
  obtain ⟨n1, n2, n3, n4, -⟩ := xv_n h
  obtain ⟨l1, l2, -⟩ := xv_liv h
  have r6 := h.1.1.1
  rcases e : dC σ with _ | a
  · have c : mCh σ p = -1 := by
      unfold mCh
      rw [e]
      rfl
    refine ⟨fun _ => ?_, fun z => ?_, Or.inl c⟩
    · unfold clY
      rw [xv_C h, e]
    · rw [c] at z
      exact absurd z (by decide)
  · by_cases l : xl σ p = true
    · have ck : cn (xl σ) p < mLiv σ := by
        rw [xv_hm h]
        exact cn_lt l hp
      have ar := ((dC_A e).2.1 _ ck).1
      rw [n4] at ar
      have c : mCh σ p = nI (a.2.2 (cn (xl σ) p)) := by
        unfold mCh
        rw [e, n3]
        exact if_pos ⟨l, hp⟩
      refine ⟨fun z => ?_, fun _ => xv_Yp h hp e, Or.inr ⟨_, ar, c, l⟩⟩
      rw [c] at z
      exact absurd ((nI_m1 (by omega)).mp z) id
    · have c : mCh σ p = -1 := by
        unfold mCh
        rw [e]
        exact if_neg (fun z => l z.1)
      refine ⟨fun _ => ?_, fun z => ?_, Or.inl c⟩
      · unfold clY
        rw [xv_C h, e]
        dsimp only
        rw [l1 p hp, if_neg l]
      · rw [c] at z
        exact absurd z (by decide)
theorem sR_Ch {σ τ : jM} (s : sR σ τ) : mCh τ = mCh σ ∧ mPy τ = mPy σ := by
  refine ⟨?_, ?_⟩
  · funext p
    unfold mCh
    rw [sR_C s, sR_l s, sR_N s]
  · funext p
    unfold mPy
    rw [sR_l s, sR_pa s, sR_sN s]
theorem xs_isCurrent : xS oX11_isCurrent oX12_isCurrent [] :=
  xS_mk (x := fun σ => if al (fun p => decide (σ.1 52 p = clR σ p ∧ σ.1 53 p = clY σ p)) (fN σ) = true then 1 else 0) (y := fun σ => if al (mCu σ) (mN σ) = true then 1 else 0) (fun h => ⟨⟨rfl, (xv_pre h).1⟩, xcp⟩) (fun h => ⟨⟨rfl, (xv_pre h).2⟩, xmp h⟩) (fun {σ R N K} h => by
    obtain ⟨n1, -, n3, -⟩ := xv_n h
    have n10 := h.1.1.2
    have e : al (fun p => decide (σ.1 52 p = clR σ p ∧ σ.1 53 p = clY σ p)) N = al (mCu σ) N := al_cg N (fun p hp => by
      obtain ⟨-, a1, a2, -⟩ := (fl37 h.2.1.1).2.2.1 p (by omega)
      obtain ⟨y1, y2, y3⟩ := xv_Y0 h hp
      have a1 : σ.1 52 p = mD σ p 2 := a1
      have a2 : σ.1 53 p = mD σ p 3 := a2
      unfold mCu
      rw [xv_Rm h hp, a1, a2, Bool.eq_iff_iff, decide_eq_true_eq, decide_eq_true_eq]
      show (mD σ p 2 = mCh σ p ∧ mD σ p 3 = clY σ p) ↔ (mD σ p 2 = mCh σ p ∧ (0 ≤ mD σ p 2 → mD σ p 3 = mPy σ p))
      refine ⟨fun z => ⟨z.1, fun z0 => ?_⟩, fun z => ⟨z.1, ?_⟩⟩
      · rw [z.1] at z0
        rw [z.2, y2 z0]
      · by_cases c : mCh σ p = -1
        · rw [y1 c]
          rcases h.2.1.2.1.2.2.2.1 p (by omega) with ⟨-, d⟩ | ⟨-, -, r, hr, d⟩
          · exact d
          · have d : mD σ p 2 = nI r := d
            rw [z.1, c] at d
            exact absurd ((nI_m1 (by have := h.1.1.1; omega)).mp d.symm) id
        · rcases y3 with y3 | ⟨r, r1, r2, -⟩
          · exact absurd y3 c
          · have c0 : 0 ≤ mCh σ p := by
              rw [r2]
              exact (NL_0.1 r (by have := h.1.1.1; omega)).mpr (Nat.zero_le _)
            rw [y2 c0]
            exact z.2 (by rw [z.1]; exact c0))
    rw [n1, n3, e]) (fun {σ τ} q => by
    have e : mCu τ = mCu σ := by
      funext p
      unfold mCu
      rw [xQ_D q, (sR_Ch q.sR).2, sR_C q.sR, sR_l q.sR, sR_N q.sR]
    rw [sR_N q.sR, e])
theorem xt_proposedRoom (x : Int32) : xTw (fun σ => mP σ x = true) xE oX11_proposedRoom oX12_proposedRoom [.int x] :=
  xT_mk (x := fun σ => clR σ x.toNatClampNeg) (y := fun σ => mCh σ x.toNatClampNeg)
    (fun h c => ⟨⟨rfl, (xv_pre h).1.1, (xv_pre h).1.2, ((xv_P h x).1).trans c⟩, xcp⟩)
    (fun h => xt_e h)
    (fun {σ R N K} h => ⟨⟨rfl, (xv_pre h).2⟩, xmt h (fun c => if_pos c)⟩)
    (fun h c => xv_Rm h (xv_p h c).1) (fun q => by rw [(sR_Ch q.sR).1]) (fun q => by rw [xQ_P q])
/-- a number of a person in the proposal -/
theorem xt_num {oc om : jO} {x : Int32} (f : jM → (Nat → Nat) → Nat → Int32) (g : jM → Nat → Int32)
    (hf : ∀ {σ R N K}, xRk σ R N K → ∀ {a : Nat × Nat × (Nat → Nat)}, dC σ = some a → ∀ {p}, p < N → xl σ p = true → f σ a.2.2 (cn (xl σ) p) = g σ p) (hg : ∀ {σ τ}, sR σ τ → g τ = g σ)
    (hc : ∀ σ, oc [.ref 0, .int x] σ = ((0 : Nat) = 0 ∧ flOK σ ∧ prIv σ ∧ fP σ x = true, fun v τ => v = some (.int (clN σ x.toNatClampNeg (f σ))) ∧ cuP σ τ))
    (hm : ∀ σ, om [.ref 322, .int x] σ = ((322 : Nat) = 322 ∧ mOK σ ∧ dI (σ.1 323), fun v τ => v = some (.int (mNo σ x (g σ x.toNatClampNeg))) ∧ jfr aSc bSc σ τ ∧ τ.1 322 11 = if mP σ x = true then 0 else 1)) : xTw (fun σ => mP σ x = true) xE oc om [.int x] :=
  xT_mk (x := fun σ => clN σ x.toNatClampNeg (f σ)) (y := fun σ => if (dC σ).isSome = true ∧ xl σ x.toNatClampNeg = true then g σ x.toNatClampNeg else -2000000000)
    (fun {σ R N K} h c => by
      rw [hc]
      exact ⟨⟨rfl, (xv_pre h).1.1, (xv_pre h).1.2, ((xv_P h x).1).trans c⟩, xcp⟩)
    (fun h => xt_e h)
    (fun {σ R N K} h => by
      rw [hm]
      exact ⟨⟨rfl, (xv_pre h).2⟩, xmt h (fun c => if_pos c)⟩)
    (fun {σ R N K} h c => by
      obtain ⟨l1, l2, -⟩ := xv_liv h
      have hp := (xv_p h c).1
      unfold clN
      rcases e : dC σ with _ | a
      · rw [clV_none h e]
        exact (if_neg (fun z => by simp at z)).symm
      · rw [clV_some h e, l1 _ hp, l2 _ (Nat.le_of_lt hp)]
        by_cases l : xl σ x.toNatClampNeg = true
        · rw [if_pos l, if_pos ⟨rfl, l⟩]
          exact hf h e hp l
        · rw [if_neg l, if_neg (fun z => l z.2)]) (fun q => by rw [sR_C q.sR, sR_l q.sR, hg q.sR]) (fun q => by rw [xQ_P q])
theorem ck_of {σ : jM} {R N K : Nat} (h : xRk σ R N K) {p : Nat} (hp : p < N) (l : xl σ p = true) : cn (xl σ) p < mLiv σ ∧ xp σ (cn (xl σ) p) = p := by
  refine ⟨?_, ?_⟩
  · rw [xv_hm h]
    exact cn_lt l hp
  · unfold xp
    rw [(xv_n h).2.2.1]
    exact qpl_cn l hp
theorem xt_incomeShare (x : Int32) : xTw (fun σ => mP σ x = true) xE oX11_incomeShare oX12_incomeShare [.int x] :=
  xt_num (fun σ _ i => flSh σ (flS σ) i) (fun σ p => shS σ (shN σ) (cn (xl σ) p)) (fun h _ _ _ hp l => by rw [(xv_S h).1]; exact xv_Sh h _ (ck_of h hp l).1) (fun s => by
    funext p
    rw [sR_sN s, sR_sh s, sR_l s]) (fun _ => rfl) (fun _ => rfl)
theorem xt_proposedPayment (x : Int32) : xTw (fun σ => mP σ x = true) xE oX11_proposedPayment oX12_proposedPayment [.int x] :=
  xt_num (fun σ A i => flPy σ A (flS σ) i) (fun σ p => paS σ (shN σ) (cn (xl σ) p)) (fun h _ e _ hp l => by rw [(xv_S h).1]; exact xv_Py h e _ (ck_of h hp l).1) (fun s => by
    funext p
    rw [sR_sN s, sR_pa s, sR_l s]) (fun _ => rfl) (fun _ => rfl)
theorem xt_surplus (x : Int32) : xTw (fun σ => mP σ x = true) xE oX11_surplus oX12_surplus [.int x] :=
  xt_num (fun σ A i => clG σ A i) (fun σ p => mSu σ p) (fun h _ e _ hp l => by
    have := xv_G h e (ck_of h hp l).1
    rw [(ck_of h hp l).2] at this
    exact this) (fun s => sR_Su s) (fun _ => rfl) (fun _ => rfl)
