/-! the reference: the targets of the deposit -/
theorem clamp_le0 {x : Int32} (h : x ≤ 0) : x.toNatClampNeg = 0 := by
  rw [Int32.le_iff_toInt_le] at h
  simp only [Int32.toInt_zero] at h
  show x.toInt.toNat = 0
  omega
/-- the weights of the places: payments -/
def tgW (σ : jM) (i : Nat) : Nat := (mD σ (xp σ i) 3).toNatClampNeg
def dpN (σ : jM) : Nat := (σ.1 323 4).toNatClampNeg
def tgS (σ : jM) (p : Nat) : Int32 := if xl σ p = true then spS (dpN σ) (tgW σ) (mLiv σ) (cn (xl σ) p) else 0
def aTg (a j : Nat) : Bool := a == 335 || a == 338 || a == 342
theorem sc_Tg (a j : Nat) (h : aSc a j = false) : aTg a j = false := by
  unfold aSc at h
  unfold aTg
  rw [jble, jble] at h
  simp only [Bool.or_eq_false_iff, Bool.and_eq_false_iff, decide_eq_false_iff_not, beq_eq_false_iff_ne] at h ⊢
  omega
theorem dp_ok {σ : jM} (hd : dI (σ.1 323)) : dpN σ ≤ 99999 ∧ σ.1 323 4 = nI (dpN σ) := by
  obtain ⟨s, h1, h2, h3⟩ := nI_rng hd.2.2.2.1.1 hd.2.2.2.1.2 (by decide)
  unfold dpN
  rw [h3]
  exact ⟨h1, h2⟩
def oX12_layTargets : jO := joR fun a σ => (a = 322 ∧ mOK σ ∧ dI (σ.1 323), fun v τ => v = none ∧ jfr aTg bSc σ τ ∧ ∀ p, p < mN σ → τ.1 342 p = tgS σ p)
set_option maxRecDepth 100000 in
set_option maxHeartbeats 4000000 in
theorem CX12_layTargets (g : jG) (n : Nat) : jOk g (n + 3) mX12_layTargets oX12_layTargets := by
  refine joR_ok ?_
  rintro _ σ ⟨rfl, hok, hd⟩
  obtain ⟨hN10, hN4⟩ := mN_le hok
  obtain ⟨hD1, hD2⟩ := dp_ok hd
  have eLv : cn (xl σ) (mN σ) = mLiv σ := rfl
  refine jCon.ofP (by decide +kernel) (by simp [lg_sl, Value.category]) (fun post hp => ?_)
  refine jvk_ok TX12_layTargets (V := [(131, 2, 12, oX12_isLiving), (128, 3, 12, oX12_of), (200, 2, 12, oX12_splits)]) (S := []) (List.forall_mem_cons.mpr ⟨⟨mX12_isLiving, n + 2, 1, TX12, 53, rfl, by omega, kX12_131, WX12_isLiving, rfl, CX12_isLiving g (n)⟩, (List.forall_mem_cons.mpr ⟨⟨mX12_of, n + 1, 2, TX12, 53, rfl, by omega, kX12_128, WX12_of, rfl, CX12_of g (n)⟩, (List.forall_mem_cons.mpr ⟨⟨mX12_splits, n + 1, 1, TX12, 53, rfl, by omega, kX12_200, WX12_splits, rfl, CX12_splits g (n)⟩, (fun _ h => absurd h List.not_mem_nil)⟩)⟩)⟩) (fun _ h => absurd h List.not_mem_nil) [2] 20 _ _ _ _ ?_
  simp (maxSteps := 1000000) [↓Bool.cond_eq_ite, -Prod.forall, -Prod.exists, -Prod.mk.injEq, jvk, tX12_layTargets, jtb, jol, jst, jlk, jcmp, jbin, jfl, fX12, jc2, lX12, jcat, jel, lv_args, Value.category, jins, jsrt, jins2, jble, jblt, jf3, List.filter_cons, List.filter_nil, G_m, oX12_isLiving, oX12_of, oX12_splits, joRI, joRII, -Int32.not_le, -Int32.not_lt, -Int64.not_le, -Int64.not_lt, i3lt, i6lt]
  try simp (disch := omega) [-Prod.forall, -Prod.exists, -Prod.mk.injEq, -Int32.not_le, -Int32.not_lt, -Int64.not_le, -Int64.not_lt, i3lt, i6lt]
  have key := jloop (P := fun k => ∀ τ : jM, jfr aTg bSc σ τ → (∀ p, p < k → τ.1 338 p = (if xl σ p = true then 1 else 0) ∧ τ.2.1 336 p = lN (mD σ p 3).toNatClampNeg) → jW g mX12_layTargets (n + 3) post 2 [(0, .ref 322), (1, .int (nI k))] [] τ) (N := mN σ) (fun τ f h => by
    have e4 : τ.1 322 4 = nI (mN σ) := (f.2.2 322 4 rfl).trans hN4
    have hle : nI (mN σ) ≤ nI (mN σ) := nI_le (Nat.le_refl _) (by omega)
    obtain ⟨t1, t2, t3, t4, t5⟩ := jfr_T f (fun _ => rfl) rfl
    have hok2 : mOK τ := mOK_of hok (f.2.2 322 3 rfl) (f.2.2 322 4 rfl) (f.2.2 322 5 rfl)
    have hT2 : xT τ := fun p hp => by
      rw [t3]
      exact (h p (by rw [← t2]; exact hp)).1
    have hW2 : xW2 τ := fun p hp hl => by
      rw [t2] at hp
      exact ⟨_, by have := Int32.toInt_lt (mD σ p 3); show (mD σ p 3).toInt.toNat < _; omega, (h p hp).2⟩
    have exw : ∀ i, i < mLiv σ → xw τ i = tgW σ i := fun i hi => by
      obtain ⟨q1, q2, q3⟩ := xp_is (σ := σ) hi
      unfold xw tgW
      have hb : (mD σ (xp σ i) 3).toNatClampNeg < 2147483648 := by have := Int32.toInt_lt (mD σ (xp σ i) 3); show (mD σ (xp σ i) 3).toInt.toNat < _; omega
      rw [t4, (h _ q2).2, lN_toInt (by omega)]
      rfl
    have e34 : τ.1 323 4 = nI (dpN σ) := by rw [t1, hD2]
    have hpre : ∃ A, nI (dpN σ) = nI A ∧ A ≤ 99999 := ⟨_, rfl, hD1⟩
    refine jvk_ok TX12_layTargets (V := [(131, 2, 12, oX12_isLiving), (128, 3, 12, oX12_of), (200, 2, 12, oX12_splits)]) (S := []) (List.forall_mem_cons.mpr ⟨⟨mX12_isLiving, n + 2, 1, TX12, 53, rfl, by omega, kX12_131, WX12_isLiving, rfl, CX12_isLiving g (n)⟩, (List.forall_mem_cons.mpr ⟨⟨mX12_of, n + 1, 2, TX12, 53, rfl, by omega, kX12_128, WX12_of, rfl, CX12_of g (n)⟩, (List.forall_mem_cons.mpr ⟨⟨mX12_splits, n + 1, 1, TX12, 53, rfl, by omega, kX12_200, WX12_splits, rfl, CX12_splits g (n)⟩, (fun _ h => absurd h List.not_mem_nil)⟩)⟩)⟩) (fun _ h => absurd h List.not_mem_nil) [2, 63] 40 _ _ _ _ ?_
    simp (maxSteps := 1000000) [↓Bool.cond_eq_ite, -Prod.forall, -Prod.exists, -Prod.mk.injEq, jvk, tX12_layTargets, jtb, jol, jst, jlk, jcmp, jbin, jfl, fX12, jc2, lX12, jcat, jel, lv_args, Value.category, jins, jsrt, jins2, jble, jblt, jf3, List.filter_cons, List.filter_nil, G_m, oX12_isLiving, oX12_of, oX12_splits, joRI, joRII, -Int32.not_le, -Int32.not_lt, -Int64.not_le, -Int64.not_lt, i3lt, i6lt, e4, hle, e34, hok2, hT2, hW2, hpre, jin_d, tn_c]
    try simp (disch := omega) [-Prod.forall, -Prod.exists, -Prod.mk.injEq, -Int32.not_le, -Int32.not_lt, -Int64.not_le, -Int64.not_lt, i3lt, i6lt, e4, hle, e34, hok2, hT2, hW2, hpre, jin_d, tn_c]
    intro v1 τ1 hv1 f1 h1
    subst hv1
    have w1 : jfr aTg bSc σ τ1 := f.tr (f1.weak (fun a j q => by simp only [aTg, Bool.or_eq_false_iff] at q; simp only [aSp, q]) (fun a q => by simp only [bSc, Bool.or_eq_false_iff] at q; simp only [bSp, q]))
    have h335 : ∀ p, p < mN σ → τ1.1 335 p = tgS σ p := fun p hp => by
      rw [h1 p (by omega), t2, t3, t5, if_pos hp, nI_clamp (by omega), tgS]
      by_cases hl : xl σ p = true
      · rw [if_pos hl, if_pos hl]
        exact spS_congr exw _ (cn_lt hl hp)
      · rw [if_neg hl, if_neg hl]
    have h338 : ∀ p, p < mN σ → τ1.1 338 p = if xl σ p = true then 1 else 0 := fun p hp => (f1.2.2 338 p rfl).trans (h p hp).1
    have key2 := jloop (P := fun k => ∀ τ' : jM, jfr aTg bSc σ τ' → (∀ a p, a ≠ 342 → τ'.1 a p = τ1.1 a p) → (∀ p, p < k → τ'.1 342 p = tgS σ p) → jW g mX12_layTargets (n + 3) post 65 [(0, .ref 322), (1, .int (nI k))] [] τ') (N := mN σ) (fun τ' f' hs' h' => by
      have e4 : τ'.1 322 4 = nI (mN σ) := (f'.2.2 322 4 rfl).trans hN4
      refine jvk_ok TX12_layTargets (V := [(131, 2, 12, oX12_isLiving), (128, 3, 12, oX12_of), (200, 2, 12, oX12_splits)]) (S := []) (List.forall_mem_cons.mpr ⟨⟨mX12_isLiving, n + 2, 1, TX12, 53, rfl, by omega, kX12_131, WX12_isLiving, rfl, CX12_isLiving g (n)⟩, (List.forall_mem_cons.mpr ⟨⟨mX12_of, n + 1, 2, TX12, 53, rfl, by omega, kX12_128, WX12_of, rfl, CX12_of g (n)⟩, (List.forall_mem_cons.mpr ⟨⟨mX12_splits, n + 1, 1, TX12, 53, rfl, by omega, kX12_200, WX12_splits, rfl, CX12_splits g (n)⟩, (fun _ h => absurd h List.not_mem_nil)⟩)⟩)⟩) (fun _ h => absurd h List.not_mem_nil) [65] 20 _ _ _ _ ?_
      simp (maxSteps := 1000000) [↓Bool.cond_eq_ite, -Prod.forall, -Prod.exists, -Prod.mk.injEq, jvk, tX12_layTargets, jtb, jol, jst, jlk, jcmp, jbin, jfl, fX12, jc2, lX12, jcat, jel, lv_args, Value.category, jins, jsrt, jins2, jble, jblt, jf3, List.filter_cons, List.filter_nil, G_m, oX12_isLiving, oX12_of, oX12_splits, joRI, joRII, -Int32.not_le, -Int32.not_lt, -Int64.not_le, -Int64.not_lt, i3lt, i6lt, e4, hle]
      try simp (disch := omega) [-Prod.forall, -Prod.exists, -Prod.mk.injEq, -Int32.not_le, -Int32.not_lt, -Int64.not_le, -Int64.not_lt, i3lt, i6lt, e4, hle]
      exact hp _ _ ⟨rfl, f', h'⟩) (fun k hk ih τ' f' hs' h' => by
      have e4 : τ'.1 322 4 = nI (mN σ) := (f'.2.2 322 4 rfl).trans hN4
      have hlt : ¬ nI (mN σ) ≤ nI k := nI_ge hk (by omega)
      have hk1 : jin (nI k) 10 := jin_nI (by omega) (by decide)
      have eck : (nI k).toNatClampNeg = k := nI_clamp (by omega)
      have e338 := (hs' 338 k (by decide)).trans (h338 k hk)
      have e335 := (hs' 335 k (by decide)).trans (h335 k hk)
      have nxt : jW g mX12_layTargets (n + 3) post 65 [(0, .ref 322), (1, .int (nI (k + 1)))] [] (jup τ' 342 k (tgS σ k)) := by
        refine ih _ (f'.up _ rfl) (fun a p ha => ?_) (fun p hp => ?_)
        · rw [jup_1, if_neg (fun z => ha z.1)]
          exact hs' a p ha
        · rw [jup_1]
          by_cases e : p = k
          · subst e
            rw [if_pos ⟨rfl, rfl⟩]
          · rw [if_neg (by simp [e])]
            exact h' p (by omega)
      by_cases hl : xl σ k = true
      · rw [if_pos hl] at e338
        refine jvk_ok TX12_layTargets (V := [(131, 2, 12, oX12_isLiving), (128, 3, 12, oX12_of), (200, 2, 12, oX12_splits)]) (S := []) (List.forall_mem_cons.mpr ⟨⟨mX12_isLiving, n + 2, 1, TX12, 53, rfl, by omega, kX12_131, WX12_isLiving, rfl, CX12_isLiving g (n)⟩, (List.forall_mem_cons.mpr ⟨⟨mX12_of, n + 1, 2, TX12, 53, rfl, by omega, kX12_128, WX12_of, rfl, CX12_of g (n)⟩, (List.forall_mem_cons.mpr ⟨⟨mX12_splits, n + 1, 1, TX12, 53, rfl, by omega, kX12_200, WX12_splits, rfl, CX12_splits g (n)⟩, (fun _ h => absurd h List.not_mem_nil)⟩)⟩)⟩) (fun _ h => absurd h List.not_mem_nil) [65] 40 _ _ _ _ ?_
        simp (maxSteps := 1000000) [↓Bool.cond_eq_ite, -Prod.forall, -Prod.exists, -Prod.mk.injEq, jvk, tX12_layTargets, jtb, jol, jst, jlk, jcmp, jbin, jfl, fX12, jc2, lX12, jcat, jel, lv_args, Value.category, jins, jsrt, jins2, jble, jblt, jf3, List.filter_cons, List.filter_nil, G_m, oX12_isLiving, oX12_of, oX12_splits, joRI, joRII, -Int32.not_le, -Int32.not_lt, -Int64.not_le, -Int64.not_lt, i3lt, i6lt, e4, hlt, hk1, eck, e338, e335, nI_1]
        try simp (disch := omega) [-Prod.forall, -Prod.exists, -Prod.mk.injEq, -Int32.not_le, -Int32.not_lt, -Int64.not_le, -Int64.not_lt, i3lt, i6lt, e4, hlt, hk1, eck, e338, e335, nI_1]
        exact nxt
      · rw [if_neg hl] at e338
        have ez : tgS σ k = 0 := by rw [tgS, if_neg hl]
        rw [ez] at nxt
        refine jvk_ok TX12_layTargets (V := [(131, 2, 12, oX12_isLiving), (128, 3, 12, oX12_of), (200, 2, 12, oX12_splits)]) (S := []) (List.forall_mem_cons.mpr ⟨⟨mX12_isLiving, n + 2, 1, TX12, 53, rfl, by omega, kX12_131, WX12_isLiving, rfl, CX12_isLiving g (n)⟩, (List.forall_mem_cons.mpr ⟨⟨mX12_of, n + 1, 2, TX12, 53, rfl, by omega, kX12_128, WX12_of, rfl, CX12_of g (n)⟩, (List.forall_mem_cons.mpr ⟨⟨mX12_splits, n + 1, 1, TX12, 53, rfl, by omega, kX12_200, WX12_splits, rfl, CX12_splits g (n)⟩, (fun _ h => absurd h List.not_mem_nil)⟩)⟩)⟩) (fun _ h => absurd h List.not_mem_nil) [65] 40 _ _ _ _ ?_
        simp (maxSteps := 1000000) [↓Bool.cond_eq_ite, -Prod.forall, -Prod.exists, -Prod.mk.injEq, jvk, tX12_layTargets, jtb, jol, jst, jlk, jcmp, jbin, jfl, fX12, jc2, lX12, jcat, jel, lv_args, Value.category, jins, jsrt, jins2, jble, jblt, jf3, List.filter_cons, List.filter_nil, G_m, oX12_isLiving, oX12_of, oX12_splits, joRI, joRII, -Int32.not_le, -Int32.not_lt, -Int64.not_le, -Int64.not_lt, i3lt, i6lt, e4, hlt, hk1, eck, e338, nI_1]
        try simp (disch := omega) [-Prod.forall, -Prod.exists, -Prod.mk.injEq, -Int32.not_le, -Int32.not_lt, -Int64.not_le, -Int64.not_lt, i3lt, i6lt, e4, hlt, hk1, eck, e338, nI_1]
        exact nxt)
    have k0 := key2 τ1 w1 (fun _ _ _ => rfl) (fun p hp => by omega)
    rw [nI_0] at k0
    refine jvk_ok TX12_layTargets (V := [(131, 2, 12, oX12_isLiving), (128, 3, 12, oX12_of), (200, 2, 12, oX12_splits)]) (S := []) (List.forall_mem_cons.mpr ⟨⟨mX12_isLiving, n + 2, 1, TX12, 53, rfl, by omega, kX12_131, WX12_isLiving, rfl, CX12_isLiving g (n)⟩, (List.forall_mem_cons.mpr ⟨⟨mX12_of, n + 1, 2, TX12, 53, rfl, by omega, kX12_128, WX12_of, rfl, CX12_of g (n)⟩, (List.forall_mem_cons.mpr ⟨⟨mX12_splits, n + 1, 1, TX12, 53, rfl, by omega, kX12_200, WX12_splits, rfl, CX12_splits g (n)⟩, (fun _ h => absurd h List.not_mem_nil)⟩)⟩)⟩) (fun _ h => absurd h List.not_mem_nil) [65] 10 _ _ _ _ ?_
    simp (maxSteps := 1000000) [↓Bool.cond_eq_ite, -Prod.forall, -Prod.exists, -Prod.mk.injEq, jvk, tX12_layTargets, jtb, jol, jst, jlk, jcmp, jbin, jfl, fX12, jc2, lX12, jcat, jel, lv_args, Value.category, jins, jsrt, jins2, jble, jblt, jf3, List.filter_cons, List.filter_nil, G_m, oX12_isLiving, oX12_of, oX12_splits, joRI, joRII, -Int32.not_le, -Int32.not_lt, -Int64.not_le, -Int64.not_lt, i3lt, i6lt]
    try simp (disch := omega) [-Prod.forall, -Prod.exists, -Prod.mk.injEq, -Int32.not_le, -Int32.not_lt, -Int64.not_le, -Int64.not_lt, i3lt, i6lt]
    exact jW.mono k0 (by simp)) (fun k hk ih τ f h => by
    have e4 : τ.1 322 4 = nI (mN σ) := (f.2.2 322 4 rfl).trans hN4
    have hlt : ¬ nI (mN σ) ≤ nI k := nI_ge hk (by omega)
    have hk1 : jin (nI k) 10 := jin_nI (by omega) (by decide)
    have eck : (nI k).toNatClampNeg = k := nI_clamp (by omega)
    have e323 : τ.1 323 = σ.1 323 := funext fun j => f.2.2 323 j rfl
    have emD : ∀ x, mD τ k x = mD σ k x := fun x => by unfold mD; rw [e323]
    have emD2 : ∀ y x, mD (jup τ 338 k y) k x = mD σ k x := fun y x => emD x
    have nxt : ∀ x w, x = (if xl σ k = true then (1 : Int32) else 0) → w = lN (mD σ k 3).toNatClampNeg → jW g mX12_layTargets (n + 3) post 2 [(0, .ref 322), (1, .int (nI (k + 1)))] [] (jupL (jup τ 338 k x) 336 k w) := fun x w hx hw => by
      refine ih _ ((f.up _ rfl).upL _ rfl) (fun p hp => ?_)
      have a1 : (jupL (jup τ 338 k x) 336 k w).1 338 p = if p = k then x else τ.1 338 p := by simp [jupL_1, jup_1]
      have a2 : (jupL (jup τ 338 k x) 336 k w).2.1 336 p = if p = k then w else τ.2.1 336 p := by simp [jupL_2, jup_2]
      rw [a1, a2]
      by_cases e : p = k
      · subst e
        rw [if_pos rfl, if_pos rfl]
        exact ⟨hx, hw⟩
      · rw [if_neg e, if_neg e]
        exact h p (by omega)
    have eLive : (mD σ k 0 = 1) = (xl σ k = true) := mD_xl
    by_cases hp0 : mD σ k 3 ≤ 0
    · have ez : (0 : Int64) = lN (mD σ k 3).toNatClampNeg := by rw [clamp_le0 hp0]; rfl
      by_cases hl : mD σ k 0 = 1
      · have nx := nxt 1 0 (by rw [eLive] at hl; rw [if_pos hl]) ez
        refine jvk_ok TX12_layTargets (V := [(131, 2, 12, oX12_isLiving), (128, 3, 12, oX12_of), (200, 2, 12, oX12_splits)]) (S := []) (List.forall_mem_cons.mpr ⟨⟨mX12_isLiving, n + 2, 1, TX12, 53, rfl, by omega, kX12_131, WX12_isLiving, rfl, CX12_isLiving g (n)⟩, (List.forall_mem_cons.mpr ⟨⟨mX12_of, n + 1, 2, TX12, 53, rfl, by omega, kX12_128, WX12_of, rfl, CX12_of g (n)⟩, (List.forall_mem_cons.mpr ⟨⟨mX12_splits, n + 1, 1, TX12, 53, rfl, by omega, kX12_200, WX12_splits, rfl, CX12_splits g (n)⟩, (fun _ h => absurd h List.not_mem_nil)⟩)⟩)⟩) (fun _ h => absurd h List.not_mem_nil) [2] 40 _ _ _ _ ?_
        simp (maxSteps := 1000000) [↓Bool.cond_eq_ite, -Prod.forall, -Prod.exists, -Prod.mk.injEq, jvk, tX12_layTargets, jtb, jol, jst, jlk, jcmp, jbin, jfl, fX12, jc2, lX12, jcat, jel, lv_args, Value.category, jins, jsrt, jins2, jble, jblt, jf3, List.filter_cons, List.filter_nil, G_m, oX12_isLiving, oX12_of, oX12_splits, joRI, joRII, -Int32.not_le, -Int32.not_lt, -Int64.not_le, -Int64.not_lt, i3lt, i6lt, e4, hlt, hk1, eck, emD, emD2, hl, hp0, jin_c, tn_c, nI_1]
        try simp (disch := omega) [-Prod.forall, -Prod.exists, -Prod.mk.injEq, -Int32.not_le, -Int32.not_lt, -Int64.not_le, -Int64.not_lt, i3lt, i6lt, e4, hlt, hk1, eck, emD, emD2, hl, hp0, jin_c, tn_c, nI_1]
        exact nx
      · have nx := nxt 0 0 (by rw [eLive] at hl; rw [if_neg hl]) ez
        refine jvk_ok TX12_layTargets (V := [(131, 2, 12, oX12_isLiving), (128, 3, 12, oX12_of), (200, 2, 12, oX12_splits)]) (S := []) (List.forall_mem_cons.mpr ⟨⟨mX12_isLiving, n + 2, 1, TX12, 53, rfl, by omega, kX12_131, WX12_isLiving, rfl, CX12_isLiving g (n)⟩, (List.forall_mem_cons.mpr ⟨⟨mX12_of, n + 1, 2, TX12, 53, rfl, by omega, kX12_128, WX12_of, rfl, CX12_of g (n)⟩, (List.forall_mem_cons.mpr ⟨⟨mX12_splits, n + 1, 1, TX12, 53, rfl, by omega, kX12_200, WX12_splits, rfl, CX12_splits g (n)⟩, (fun _ h => absurd h List.not_mem_nil)⟩)⟩)⟩) (fun _ h => absurd h List.not_mem_nil) [2] 40 _ _ _ _ ?_
        simp (maxSteps := 1000000) [↓Bool.cond_eq_ite, -Prod.forall, -Prod.exists, -Prod.mk.injEq, jvk, tX12_layTargets, jtb, jol, jst, jlk, jcmp, jbin, jfl, fX12, jc2, lX12, jcat, jel, lv_args, Value.category, jins, jsrt, jins2, jble, jblt, jf3, List.filter_cons, List.filter_nil, G_m, oX12_isLiving, oX12_of, oX12_splits, joRI, joRII, -Int32.not_le, -Int32.not_lt, -Int64.not_le, -Int64.not_lt, i3lt, i6lt, e4, hlt, hk1, eck, emD, emD2, hl, hp0, jin_c, tn_c, nI_1]
        try simp (disch := omega) [-Prod.forall, -Prod.exists, -Prod.mk.injEq, -Int32.not_le, -Int32.not_lt, -Int64.not_le, -Int64.not_lt, i3lt, i6lt, e4, hlt, hk1, eck, emD, emD2, hl, hp0, jin_c, tn_c, nI_1]
        exact nx
    · obtain ⟨j, hj1, hj2⟩ := nI_of (x := mD σ k 3) (by grind)
      have ez : (mD σ k 3).toInt64 = lN (mD σ k 3).toNatClampNeg := by rw [hj2, nI_clamp hj1]; exact nI_l hj1
      by_cases hl : mD σ k 0 = 1
      · have nx := nxt 1 _ (by rw [eLive] at hl; rw [if_pos hl]) ez
        refine jvk_ok TX12_layTargets (V := [(131, 2, 12, oX12_isLiving), (128, 3, 12, oX12_of), (200, 2, 12, oX12_splits)]) (S := []) (List.forall_mem_cons.mpr ⟨⟨mX12_isLiving, n + 2, 1, TX12, 53, rfl, by omega, kX12_131, WX12_isLiving, rfl, CX12_isLiving g (n)⟩, (List.forall_mem_cons.mpr ⟨⟨mX12_of, n + 1, 2, TX12, 53, rfl, by omega, kX12_128, WX12_of, rfl, CX12_of g (n)⟩, (List.forall_mem_cons.mpr ⟨⟨mX12_splits, n + 1, 1, TX12, 53, rfl, by omega, kX12_200, WX12_splits, rfl, CX12_splits g (n)⟩, (fun _ h => absurd h List.not_mem_nil)⟩)⟩)⟩) (fun _ h => absurd h List.not_mem_nil) [2] 40 _ _ _ _ ?_
        simp (maxSteps := 1000000) [↓Bool.cond_eq_ite, -Prod.forall, -Prod.exists, -Prod.mk.injEq, jvk, tX12_layTargets, jtb, jol, jst, jlk, jcmp, jbin, jfl, fX12, jc2, lX12, jcat, jel, lv_args, Value.category, jins, jsrt, jins2, jble, jblt, jf3, List.filter_cons, List.filter_nil, G_m, oX12_isLiving, oX12_of, oX12_splits, joRI, joRII, -Int32.not_le, -Int32.not_lt, -Int64.not_le, -Int64.not_lt, i3lt, i6lt, e4, hlt, hk1, eck, emD, emD2, hl, hp0, jin_c, tn_c, nI_1]
        try simp (disch := omega) [-Prod.forall, -Prod.exists, -Prod.mk.injEq, -Int32.not_le, -Int32.not_lt, -Int64.not_le, -Int64.not_lt, i3lt, i6lt, e4, hlt, hk1, eck, emD, emD2, hl, hp0, jin_c, tn_c, nI_1]
        exact nx
      · have nx := nxt 0 _ (by rw [eLive] at hl; rw [if_neg hl]) ez
        refine jvk_ok TX12_layTargets (V := [(131, 2, 12, oX12_isLiving), (128, 3, 12, oX12_of), (200, 2, 12, oX12_splits)]) (S := []) (List.forall_mem_cons.mpr ⟨⟨mX12_isLiving, n + 2, 1, TX12, 53, rfl, by omega, kX12_131, WX12_isLiving, rfl, CX12_isLiving g (n)⟩, (List.forall_mem_cons.mpr ⟨⟨mX12_of, n + 1, 2, TX12, 53, rfl, by omega, kX12_128, WX12_of, rfl, CX12_of g (n)⟩, (List.forall_mem_cons.mpr ⟨⟨mX12_splits, n + 1, 1, TX12, 53, rfl, by omega, kX12_200, WX12_splits, rfl, CX12_splits g (n)⟩, (fun _ h => absurd h List.not_mem_nil)⟩)⟩)⟩) (fun _ h => absurd h List.not_mem_nil) [2] 40 _ _ _ _ ?_
        simp (maxSteps := 1000000) [↓Bool.cond_eq_ite, -Prod.forall, -Prod.exists, -Prod.mk.injEq, jvk, tX12_layTargets, jtb, jol, jst, jlk, jcmp, jbin, jfl, fX12, jc2, lX12, jcat, jel, lv_args, Value.category, jins, jsrt, jins2, jble, jblt, jf3, List.filter_cons, List.filter_nil, G_m, oX12_isLiving, oX12_of, oX12_splits, joRI, joRII, -Int32.not_le, -Int32.not_lt, -Int64.not_le, -Int64.not_lt, i3lt, i6lt, e4, hlt, hk1, eck, emD, emD2, hl, hp0, jin_c, tn_c, nI_1]
        try simp (disch := omega) [-Prod.forall, -Prod.exists, -Prod.mk.injEq, -Int32.not_le, -Int32.not_lt, -Int64.not_le, -Int64.not_lt, i3lt, i6lt, e4, hlt, hk1, eck, emD, emD2, hl, hp0, jin_c, tn_c, nI_1]
        exact nx)
  have k0 := key σ jfr.rfl (fun p hp => by omega)
  rw [nI_0] at k0
  exact k0
def oX12_target : jO := joRI fun a x σ => (a = 322 ∧ mOK σ ∧ dI (σ.1 323), fun v τ => v = some (.int (if mP σ x = true then tgS σ x.toNatClampNeg else 0)) ∧ jfr aSc bSc σ τ ∧ τ.1 322 11 = if mP σ x = true then 0 else 1)
set_option maxRecDepth 100000 in
set_option maxHeartbeats 4000000 in
theorem CX12_target (g : jG) (n : Nat) : jOk g (n + 4) mX12_target oX12_target := by
  refine joRI_ok ?_
  rintro _ x σ ⟨rfl, hok, hd⟩
  have hd1 : dI ((jup σ 322 11 0).1 323) := hd
  by_cases h : mP σ x = true
  · have hx := (mP_jin hok h).2
    refine jCon.ofP (by decide +kernel) (by simp [lg_sl, Value.category]) (fun post hp => ?_)
    refine jvk_ok TX12_target (V := [(135, 2, 12, oX12_isPerson), (138, 2, 12, oX12_fails), (244, 1, 12, oX12_layTargets)]) (S := []) (List.forall_mem_cons.mpr ⟨⟨mX12_isPerson, n + 1, 1, TX12, 53, rfl, by omega, kX12_135, WX12_isPerson, rfl, CX12_isPerson g (n)⟩, (List.forall_mem_cons.mpr ⟨⟨mX12_fails, n + 0, 1, TX12, 53, rfl, by omega, kX12_138, WX12_fails, rfl, CX12_fails g (n)⟩, (List.forall_mem_cons.mpr ⟨⟨mX12_layTargets, n + 3, 0, TX12, 53, rfl, by omega, kX12_244, WX12_layTargets, rfl, CX12_layTargets g (n)⟩, (fun _ h => absurd h List.not_mem_nil)⟩)⟩)⟩) (fun _ h => absurd h List.not_mem_nil) [18] 20 _ _ _ _ ?_
    simp (maxSteps := 1000000) [↓Bool.cond_eq_ite, -Prod.forall, -Prod.exists, -Prod.mk.injEq, jvk, tX12_target, jtb, jol, jst, jlk, jcmp, jbin, jfl, fX12, jc2, lX12, jcat, jel, lv_args, Value.category, jins, jsrt, jins2, jble, jblt, jf3, List.filter_cons, List.filter_nil, G_m, oX12_isPerson, oX12_fails, oX12_layTargets, joR, joRI, -Int32.not_le, -Int32.not_lt, -Int64.not_le, -Int64.not_lt, i3lt, i6lt, h, mOK_th hok, hd1]
    try simp (disch := omega) [-Prod.forall, -Prod.exists, -Prod.mk.injEq, -Int32.not_le, -Int32.not_lt, -Int64.not_le, -Int64.not_lt, i3lt, i6lt, h, mOK_th hok, hd1]
    intro v0 τ0 hv0 f0 h0
    subst hv0
    have e : τ0.1 342 x.toNatClampNeg = tgS σ x.toNatClampNeg := h0 _ (mP_lt hok h)
    have g0 : jfr aSc bSc σ τ0 := (sc_th σ 0).tr (sc_of f0 sc_Tg (fun _ q => q))
    refine jvk_ok TX12_target (V := [(135, 2, 12, oX12_isPerson), (138, 2, 12, oX12_fails), (244, 1, 12, oX12_layTargets)]) (S := []) (List.forall_mem_cons.mpr ⟨⟨mX12_isPerson, n + 1, 1, TX12, 53, rfl, by omega, kX12_135, WX12_isPerson, rfl, CX12_isPerson g (n)⟩, (List.forall_mem_cons.mpr ⟨⟨mX12_fails, n + 0, 1, TX12, 53, rfl, by omega, kX12_138, WX12_fails, rfl, CX12_fails g (n)⟩, (List.forall_mem_cons.mpr ⟨⟨mX12_layTargets, n + 3, 0, TX12, 53, rfl, by omega, kX12_244, WX12_layTargets, rfl, CX12_layTargets g (n)⟩, (fun _ h => absurd h List.not_mem_nil)⟩)⟩)⟩) (fun _ h => absurd h List.not_mem_nil) [] 20 _ _ _ _ ?_
    simp (maxSteps := 1000000) [↓Bool.cond_eq_ite, -Prod.forall, -Prod.exists, -Prod.mk.injEq, jvk, tX12_target, jtb, jol, jst, jlk, jcmp, jbin, jfl, fX12, jc2, lX12, jcat, jel, lv_args, Value.category, jins, jsrt, jins2, jble, jblt, jf3, List.filter_cons, List.filter_nil, G_m, oX12_isPerson, oX12_fails, oX12_layTargets, joR, joRI, -Int32.not_le, -Int32.not_lt, -Int64.not_le, -Int64.not_lt, i3lt, i6lt, hx, e]
    try simp (disch := omega) [-Prod.forall, -Prod.exists, -Prod.mk.injEq, -Int32.not_le, -Int32.not_lt, -Int64.not_le, -Int64.not_lt, i3lt, i6lt, hx, e]
    exact hp _ _ ⟨by rw [if_pos h], g0, by rw [if_pos h]; exact f0.2.2 322 11 rfl⟩
  · refine jCon.ofP (by decide +kernel) (by simp [lg_sl, Value.category]) (fun post hp => ?_)
    refine jvk_ok TX12_target (V := [(135, 2, 12, oX12_isPerson), (138, 2, 12, oX12_fails), (244, 1, 12, oX12_layTargets)]) (S := []) (List.forall_mem_cons.mpr ⟨⟨mX12_isPerson, n + 1, 1, TX12, 53, rfl, by omega, kX12_135, WX12_isPerson, rfl, CX12_isPerson g (n)⟩, (List.forall_mem_cons.mpr ⟨⟨mX12_fails, n + 0, 1, TX12, 53, rfl, by omega, kX12_138, WX12_fails, rfl, CX12_fails g (n)⟩, (List.forall_mem_cons.mpr ⟨⟨mX12_layTargets, n + 3, 0, TX12, 53, rfl, by omega, kX12_244, WX12_layTargets, rfl, CX12_layTargets g (n)⟩, (fun _ h => absurd h List.not_mem_nil)⟩)⟩)⟩) (fun _ h => absurd h List.not_mem_nil) [] 20 _ _ _ _ ?_
    simp (maxSteps := 1000000) [↓Bool.cond_eq_ite, -Prod.forall, -Prod.exists, -Prod.mk.injEq, jvk, tX12_target, jtb, jol, jst, jlk, jcmp, jbin, jfl, fX12, jc2, lX12, jcat, jel, lv_args, Value.category, jins, jsrt, jins2, jble, jblt, jf3, List.filter_cons, List.filter_nil, G_m, oX12_isPerson, oX12_fails, oX12_layTargets, joR, joRI, -Int32.not_le, -Int32.not_lt, -Int64.not_le, -Int64.not_lt, i3lt, i6lt, h]
    try simp (disch := omega) [-Prod.forall, -Prod.exists, -Prod.mk.injEq, -Int32.not_le, -Int32.not_lt, -Int64.not_le, -Int64.not_lt, i3lt, i6lt, h]
    exact hp _ _ ⟨by rw [if_neg h], sc_th σ 1, by rw [if_neg h]; rfl⟩
