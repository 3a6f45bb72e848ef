/-! the reference: an amount is split by weights -/
def xw (σ : jM) (i : Nat) : Nat := (σ.2.1 336 (xp σ i)).toInt.toNat
def xW2 (σ : jM) : Prop := ∀ p, p < mN σ → xl σ p = true → ∃ w, w < 2147483648 ∧ σ.2.1 336 p = lN w
theorem xw_of {σ : jM} (h : xW2 σ) {p : Nat} (hp : p < mN σ) (hl : xl σ p = true) : σ.2.1 336 p = lN (xw σ (cn (xl σ) p)) ∧ xw σ (cn (xl σ) p) < 2147483648 := by
  obtain ⟨w, h1, h2⟩ := h p hp hl
  unfold xw
  rw [xp_cn hl hp, h2, lN_toInt (by omega)]
  exact ⟨rfl, h1⟩
theorem smN_part {f : Nat → Nat} {k : Nat} : ∀ {n : Nat}, k ≤ n → smN f k ≤ smN f n
  | 0, h => by rw [Nat.le_zero.mp h]; exact Nat.le_refl _
  | n + 1, h => by
    by_cases e : k = n + 1
    · subst e; exact Nat.le_refl _
    · have := smN_part (f := f) (k := k) (n := n) (by omega)
      simp only [smN]
      omega
theorem xw_lt {σ : jM} (h : xW2 σ) (i : Nat) (hi : i < mLiv σ) : xw σ i < 2147483648 := by
  obtain ⟨q1, q2, q3⟩ := xp_is (σ := σ) hi
  have := (xw_of h q2 q1).2
  rw [q3] at this
  exact this
theorem jfr_T {A : Nat → Nat → Bool} {B : Nat → Bool} {σ τ : jM} (f : jfr A B σ τ) (h323 : ∀ j, A 323 j = false) (h4 : A 322 4 = false) : τ.1 323 = σ.1 323 ∧ mN τ = mN σ ∧ xl τ = xl σ ∧ xp τ = xp σ ∧ mLiv τ = mLiv σ := by
  have e1 : τ.1 323 = σ.1 323 := funext fun j => f.2.2 323 j (h323 j)
  have e2 : mN τ = mN σ := by unfold mN; rw [f.2.2 322 4 h4]
  have e3 : xl τ = xl σ := by unfold xl; rw [e1]
  refine ⟨e1, e2, e3, ?_, ?_⟩
  · funext i; unfold xp; rw [e2, e3]
  · show cn (xl τ) (mN τ) = cn (xl σ) (mN σ)
    rw [e2, e3]
theorem hoN_all {r : Nat → Int} : ∀ {m : Nat}, (∀ i, i < m → 0 ≤ r i) → hoN r m = m
  | 0, _ => rfl
  | m + 1, h => by
    have := hoN_all (m := m) (fun i hi => h i (by omega))
    unfold hoN at this ⊢
    simp only [cn]
    rw [this, if_pos (by simpa using h m (by omega))]
def oX12_splits : jO := joRI fun a x σ => (a = 322 ∧ mOK σ ∧ xT σ ∧ xW2 σ ∧ ∃ A, x = nI A ∧ A ≤ 99999, fun v τ => v = none ∧ jfr aSp bSp σ τ ∧ ∀ p, p < 10 → τ.1 335 p = if p < mN σ then (if xl σ p = true then spS x.toNatClampNeg (xw σ) (mLiv σ) (cn (xl σ) p) else 0) else σ.1 335 p)
set_option maxRecDepth 100000 in
set_option maxHeartbeats 4000000 in
theorem CX12_splits (g : jG) (n : Nat) : jOk g (n + 1) mX12_splits oX12_splits := by
  refine joRI_ok ?_
  rintro _ _ σ ⟨rfl, hok, hT, hw2, A, rfl, hA⟩
  obtain ⟨hN10, hN4⟩ := mN_le hok
  have ecA : (nI A).toNatClampNeg = A := nI_clamp (by omega)
  have ecA2 : (nI A).toInt64 = lN A := nI_l (by omega)
  have hmN : mLiv σ ≤ mN σ := cn_le _ _
  have eLv : cn (xl σ) (mN σ) = mLiv σ := rfl
  have hwlt := xw_lt hw2
  have hsum : smN (xw σ) (mLiv σ) ≤ 2147483648 * mLiv σ := smN_le _ (fun i hi => by have := hwlt i hi; omega)
  refine jCon.ofP (by decide +kernel) (by simp [lg_sl, Value.category]) (fun post hp => ?_)
  refine jvk_ok TX12_splits (V := [(193, 2, 12, oX12_handOut)]) (S := []) (List.forall_mem_cons.mpr ⟨⟨mX12_handOut, n + 0, 1, TX12, 53, rfl, by omega, kX12_193, WX12_handOut, rfl, CX12_handOut g (n)⟩, (fun _ h => absurd h List.not_mem_nil)⟩) (fun _ h => absurd h List.not_mem_nil) [5] 20 _ _ _ _ ?_
  simp (maxSteps := 1000000) [↓Bool.cond_eq_ite, -Prod.forall, -Prod.exists, -Prod.mk.injEq, jvk, tX12_splits, jtb, jol, jst, jlk, jcmp, jbin, jfl, fX12, jc2, lX12, jcat, jel, lv_args, Value.category, jins, jsrt, jins2, jble, jblt, jf3, List.filter_cons, List.filter_nil, G_m, oX12_handOut, joRI, -Int32.not_le, -Int32.not_lt, -Int64.not_le, -Int64.not_lt, i3lt, i6lt]
  try simp (disch := omega) [-Prod.forall, -Prod.exists, -Prod.mk.injEq, -Int32.not_le, -Int32.not_lt, -Int64.not_le, -Int64.not_lt, i3lt, i6lt]
  rw [ecA] at hp
  -- the last loop
  have l3 : ∀ e : Nat, e = (if smN (xw σ) (mLiv σ) = 0 then 1 else 0) → jW g mX12_splits (n + 1) post 104 [(0, .ref 322), (1, .int (nI A)), (2, .long (lN (spA (xw σ) (mLiv σ)))), (4, .int (nI e)), (5, .int (nI A)), (6, .int 0)] [] σ := by
    intro e he
    have key := jloop (P := fun k => ∀ τ : jM, jfr aSp bSp σ τ → (∀ p, p < 10 → τ.1 335 p = if p < k then (if xl σ p = true then nI (spP A (xw σ) (mLiv σ) (cn (xl σ) p)) else 0) else σ.1 335 p) → (∀ p, p < k → xl σ p = true → τ.2.1 337 p = lN (spR A (xw σ) (mLiv σ) (cn (xl σ) p))) → jW g mX12_splits (n + 1) post 104 [(0, .ref 322), (1, .int (nI A)), (2, .long (lN (spA (xw σ) (mLiv σ)))), (4, .int (nI e)), (5, .int (nI (A - smN (spP A (xw σ) (mLiv σ)) (cn (xl σ) k)))), (6, .int (nI k))] [] τ) (N := mN σ) (fun τ f h1 h2 => by
      have e4 : τ.1 322 4 = nI (mN σ) := (f.2.2 322 4 rfl).trans hN4
      have hle : nI (mN σ) ≤ nI (mN σ) := nI_le (Nat.le_refl _) (by omega)
      obtain ⟨t1, t2, t3, t4, t5⟩ := jfr_T f (fun _ => rfl) rfl
      rw [eLv]
      by_cases hm : mLiv σ = 0
      · have ez : spA (xw σ) (mLiv σ) = 0 := by rw [hm]; rfl
        have l0 : lN (spA (xw σ) (mLiv σ)) ≤ 0 := by rw [ez]; decide
        refine jvk_ok TX12_splits (V := [(193, 2, 12, oX12_handOut)]) (S := []) (List.forall_mem_cons.mpr ⟨⟨mX12_handOut, n + 0, 1, TX12, 53, rfl, by omega, kX12_193, WX12_handOut, rfl, CX12_handOut g (n)⟩, (fun _ h => absurd h List.not_mem_nil)⟩) (fun _ h => absurd h List.not_mem_nil) [104] 40 _ _ _ _ ?_
        simp (maxSteps := 1000000) [↓Bool.cond_eq_ite, -Prod.forall, -Prod.exists, -Prod.mk.injEq, jvk, tX12_splits, jtb, jol, jst, jlk, jcmp, jbin, jfl, fX12, jc2, lX12, jcat, jel, lv_args, Value.category, jins, jsrt, jins2, jble, jblt, jf3, List.filter_cons, List.filter_nil, G_m, oX12_handOut, joRI, -Int32.not_le, -Int32.not_lt, -Int64.not_le, -Int64.not_lt, i3lt, i6lt, e4, hle, l0, lg_cmp_le]
        try simp (disch := omega) [-Prod.forall, -Prod.exists, -Prod.mk.injEq, -Int32.not_le, -Int32.not_lt, -Int64.not_le, -Int64.not_lt, i3lt, i6lt, e4, hle, l0, lg_cmp_le]
        refine hp _ _ ⟨rfl, f, fun p hp => ?_⟩
        rw [h1 p hp]
        by_cases hpN : p < mN σ
        · rw [if_pos hpN, if_pos hpN]
          by_cases hl : xl σ p = true
          · have : cn (xl σ) p < mLiv σ := cn_lt hl hpN
            omega
          · rw [if_neg hl, if_neg hl]
        · rw [if_neg hpN, if_neg hpN]
      · obtain ⟨s1, s2, s3⟩ := sp_le A (xw σ) (m := mLiv σ) (by omega)
        have sA : spA (xw σ) (mLiv σ) < 2147483648 * 11 := by
          unfold spA
          split
          · omega
          · omega
        have l0 : ¬ lN (spA (xw σ) (mLiv σ)) ≤ 0 := fun z => by
          have := (pk_lLE (b := 0) (by omega) (by omega)).mp z
          omega
        have hok2 : mOK τ := mOK_of hok (f.2.2 322 3 rfl) (f.2.2 322 4 rfl) (f.2.2 322 5 rfl)
        have hT2 : xT τ := fun p hp => by
          rw [t3, f.2.2 338 p rfl]
          exact hT p (by rw [← t2]; exact hp)
        have exr : ∀ i, i < mLiv σ → xr τ i = (spR A (xw σ) (mLiv σ) i : Int) := fun i hi => by
          obtain ⟨q1, q2, q3⟩ := xp_is (σ := σ) hi
          have hlt := Nat.mod_lt (A * spW (xw σ) (mLiv σ) i) s1
          have hlt2 : spR A (xw σ) (mLiv σ) i < spA (xw σ) (mLiv σ) := hlt
          unfold xr
          rw [t4, h2 _ q2 q1, q3, pk_lT (by omega)]
        have exs : ∀ i, i < mLiv σ → xs τ i = nI (spP A (xw σ) (mLiv σ) i) := fun i hi => by
          obtain ⟨q1, q2, q3⟩ := xp_is (σ := σ) hi
          unfold xs
          rw [t4, h1 _ (by omega), if_pos q2, if_pos q1, q3]
        have hall : hoN (xr τ) (mLiv τ) = mLiv σ := by
          rw [t5]
          exact hoN_all (fun i hi => by rw [exr i hi]; omega)
        have hpre : ∃ k, nI (A - smN (spP A (xw σ) (mLiv σ)) (mLiv σ)) = nI k ∧ k ≤ hoN (xr τ) (mLiv τ) := ⟨_, rfl, by
          rw [hall]
          have : A - smN (spP A (xw σ) (mLiv σ)) (mLiv σ) = spL A (xw σ) (mLiv σ) := rfl
          omega⟩
        refine jvk_ok TX12_splits (V := [(193, 2, 12, oX12_handOut)]) (S := []) (List.forall_mem_cons.mpr ⟨⟨mX12_handOut, n + 0, 1, TX12, 53, rfl, by omega, kX12_193, WX12_handOut, rfl, CX12_handOut g (n)⟩, (fun _ h => absurd h List.not_mem_nil)⟩) (fun _ h => absurd h List.not_mem_nil) [104, 208] 40 _ _ _ _ ?_
        simp (maxSteps := 1000000) [↓Bool.cond_eq_ite, -Prod.forall, -Prod.exists, -Prod.mk.injEq, jvk, tX12_splits, jtb, jol, jst, jlk, jcmp, jbin, jfl, fX12, jc2, lX12, jcat, jel, lv_args, Value.category, jins, jsrt, jins2, jble, jblt, jf3, List.filter_cons, List.filter_nil, G_m, oX12_handOut, joRI, -Int32.not_le, -Int32.not_lt, -Int64.not_le, -Int64.not_lt, i3lt, i6lt, e4, hle, l0, lg_cmp_le, hok2, hT2, hpre]
        try simp (disch := omega) [-Prod.forall, -Prod.exists, -Prod.mk.injEq, -Int32.not_le, -Int32.not_lt, -Int64.not_le, -Int64.not_lt, i3lt, i6lt, e4, hle, l0, lg_cmp_le, hok2, hT2, hpre]
        intro v3 τ3 hv3 f3 h3
        subst hv3
        refine jvk_ok TX12_splits (V := [(193, 2, 12, oX12_handOut)]) (S := []) (List.forall_mem_cons.mpr ⟨⟨mX12_handOut, n + 0, 1, TX12, 53, rfl, by omega, kX12_193, WX12_handOut, rfl, CX12_handOut g (n)⟩, (fun _ h => absurd h List.not_mem_nil)⟩) (fun _ h => absurd h List.not_mem_nil) [] 40 _ _ _ _ ?_
        simp (maxSteps := 1000000) [↓Bool.cond_eq_ite, -Prod.forall, -Prod.exists, -Prod.mk.injEq, jvk, tX12_splits, jtb, jol, jst, jlk, jcmp, jbin, jfl, fX12, jc2, lX12, jcat, jel, lv_args, Value.category, jins, jsrt, jins2, jble, jblt, jf3, List.filter_cons, List.filter_nil, G_m, oX12_handOut, joRI, -Int32.not_le, -Int32.not_lt, -Int64.not_le, -Int64.not_lt, i3lt, i6lt]
        try simp (disch := omega) [-Prod.forall, -Prod.exists, -Prod.mk.injEq, -Int32.not_le, -Int32.not_lt, -Int64.not_le, -Int64.not_lt, i3lt, i6lt]
        refine hp _ _ ⟨rfl, f.tr f3, fun p hp => ?_⟩
        rw [h3 p hp, t2, t3, t5]
        by_cases hpN : p < mN σ
        · rw [if_pos hpN]
          by_cases hl : xl σ p = true
          · rw [if_pos ⟨hpN, hl⟩, if_pos hl, nI_clamp (by omega)]
            exact hoS_congr _ _ _ _ _ (fun i hi => ⟨exr i hi, exs i hi⟩) _ (cn_lt hl hpN)
          · rw [if_neg (fun z => hl z.2), if_neg hl, h1 p hp, if_pos hpN, if_neg hl]
        · rw [if_neg (fun z => hpN z.1), if_neg hpN, h1 p hp, if_neg hpN]) (fun k hk ih τ f h1 h2 => by
      have e4 : τ.1 322 4 = nI (mN σ) := (f.2.2 322 4 rfl).trans hN4
      have hlt : ¬ nI (mN σ) ≤ nI k := nI_ge hk (by omega)
      have hk1 : jin (nI k) 10 := jin_nI (by omega) (by decide)
      have eck : (nI k).toNatClampNeg = k := nI_clamp (by omega)
      have e338 : τ.1 338 k = if xl σ k = true then 1 else 0 := (f.2.2 338 k rfl).trans (hT k hk)
      by_cases hl : xl σ k = true
      · rw [if_pos hl] at e338
        have hkm : cn (xl σ) k < mLiv σ := cn_lt hl hk
        obtain ⟨s1, s2, s3⟩ := sp_le A (xw σ) (m := mLiv σ) (by omega)
        have ecn : cn (xl σ) (k + 1) = cn (xl σ) k + 1 := by simp only [cn]; rw [if_pos hl]
        have sA : spA (xw σ) (mLiv σ) < 2147483648 * 11 := by
          unfold spA
          split <;> omega
        have enz : ¬ lN (spA (xw σ) (mLiv σ)) = 0 := fun z => by
          have := (pk_lEQ (b := 0) (by omega) (by omega)).mp z
          omega
        have e336 : τ.2.1 336 k = lN (xw σ (cn (xl σ) k)) := (f.2.1 336 k rfl).trans (xw_of hw2 hk hl).1
        have hwk := hwlt _ hkm
        have hWb : spW (xw σ) (mLiv σ) (cn (xl σ) k) < 2147483648 := by unfold spW; split <;> omega
        have hprod : A * spW (xw σ) (mLiv σ) (cn (xl σ) k) ≤ 99999 * 2147483648 := Nat.mul_le_mul hA (by omega)
        have eW : lN A * lN (spW (xw σ) (mLiv σ) (cn (xl σ) k)) = lN (A * spW (xw σ) (mLiv σ) (cn (xl σ) k)) := lN_mul _ _
        have eD : lN (A * spW (xw σ) (mLiv σ) (cn (xl σ) k)) / lN (spA (xw σ) (mLiv σ)) = lN (spP A (xw σ) (mLiv σ) (cn (xl σ) k)) := pk_lDiv (by omega) s1 (by omega)
        have eR : lN (A * spW (xw σ) (mLiv σ) (cn (xl σ) k)) - lN (spP A (xw σ) (mLiv σ) (cn (xl σ) k)) * lN (spA (xw σ) (mLiv σ)) = lN (spR A (xw σ) (mLiv σ) (cn (xl σ) k)) := by
          rw [← eD]
          exact pk_lRem (by omega) s1 (by omega)
        have hps : smN (spP A (xw σ) (mLiv σ)) (cn (xl σ) k + 1) ≤ A := Nat.le_trans (smN_part (by omega)) s2
        simp only [smN] at hps
        have eS : nI (A - smN (spP A (xw σ) (mLiv σ)) (cn (xl σ) k)) - nI (spP A (xw σ) (mLiv σ) (cn (xl σ) k)) = nI (A - (smN (spP A (xw σ) (mLiv σ)) (cn (xl σ) k) + spP A (xw σ) (mLiv σ) (cn (xl σ) k))) := by
          rw [pk_sub (by omega), Nat.sub_sub]
        rw [ecn] at ih
        simp only [smN] at ih
        have k1 := ih (jupL (jup (jup τ 335 k 0) 335 k (nI (spP A (xw σ) (mLiv σ) (cn (xl σ) k)))) 337 k (lN (spR A (xw σ) (mLiv σ) (cn (xl σ) k)))) (((f.up _ rfl).up _ rfl).upL _ rfl) (fun p hp => by
          rw [jupL_1, jup_1]
          by_cases e : p = k
          · subst e
            rw [if_pos ⟨rfl, rfl⟩, if_pos (show p < p + 1 by omega), if_pos hl]
          · rw [if_neg (by simp [e]), jup_1, if_neg (by simp [e]), h1 p hp]
            by_cases e2 : p < k
            · rw [if_pos e2, if_pos (show p < k + 1 by omega)]
            · rw [if_neg e2, if_neg (show ¬ p < k + 1 by omega)]) (fun p hp hlp => by
          rw [jupL_2]
          by_cases e : p = k
          · subst e
            rw [if_pos ⟨rfl, rfl⟩]
          · rw [if_neg (by simp [e])]
            exact h2 p (by omega) hlp)
        by_cases hz : smN (xw σ) (mLiv σ) = 0
        · rw [if_pos hz] at he
          subst he
          have eW1 : (1 : Int64) = lN (spW (xw σ) (mLiv σ) (cn (xl σ) k)) := by
            unfold spW
            rw [if_pos hz]
            rfl
          have e10 : ¬ nI 1 = 0 := by decide
          refine jvk_ok TX12_splits (V := [(193, 2, 12, oX12_handOut)]) (S := []) (List.forall_mem_cons.mpr ⟨⟨mX12_handOut, n + 0, 1, TX12, 53, rfl, by omega, kX12_193, WX12_handOut, rfl, CX12_handOut g (n)⟩, (fun _ h => absurd h List.not_mem_nil)⟩) (fun _ h => absurd h List.not_mem_nil) [134, 104] 20 _ _ _ _ ?_
          simp (maxSteps := 1000000) [↓Bool.cond_eq_ite, -Prod.forall, -Prod.exists, -Prod.mk.injEq, jvk, tX12_splits, jtb, jol, jst, jlk, jcmp, jbin, jfl, fX12, jc2, lX12, jcat, jel, lv_args, Value.category, jins, jsrt, jins2, jble, jblt, jf3, List.filter_cons, List.filter_nil, G_m, oX12_handOut, joRI, -Int32.not_le, -Int32.not_lt, -Int64.not_le, -Int64.not_lt, i3lt, i6lt, e4, hlt, hk1, eck, e338, jup_1]
          try simp (disch := omega) [-Prod.forall, -Prod.exists, -Prod.mk.injEq, -Int32.not_le, -Int32.not_lt, -Int64.not_le, -Int64.not_lt, i3lt, i6lt, e4, hlt, hk1, eck, e338, jup_1]
          refine jvk_ok TX12_splits (V := [(193, 2, 12, oX12_handOut)]) (S := []) (List.forall_mem_cons.mpr ⟨⟨mX12_handOut, n + 0, 1, TX12, 53, rfl, by omega, kX12_193, WX12_handOut, rfl, CX12_handOut g (n)⟩, (fun _ h => absurd h List.not_mem_nil)⟩) (fun _ h => absurd h List.not_mem_nil) [155, 104] 20 _ _ _ _ ?_
          simp (maxSteps := 1000000) [↓Bool.cond_eq_ite, -Prod.forall, -Prod.exists, -Prod.mk.injEq, jvk, tX12_splits, jtb, jol, jst, jlk, jcmp, jbin, jfl, fX12, jc2, lX12, jcat, jel, lv_args, Value.category, jins, jsrt, jins2, jble, jblt, jf3, List.filter_cons, List.filter_nil, G_m, oX12_handOut, joRI, -Int32.not_le, -Int32.not_lt, -Int64.not_le, -Int64.not_lt, i3lt, i6lt, e10, ecA2, eW1, eW]
          try simp (disch := omega) [-Prod.forall, -Prod.exists, -Prod.mk.injEq, -Int32.not_le, -Int32.not_lt, -Int64.not_le, -Int64.not_lt, i3lt, i6lt, e10, ecA2, eW1, eW]
          refine jvk_ok TX12_splits (V := [(193, 2, 12, oX12_handOut)]) (S := []) (List.forall_mem_cons.mpr ⟨⟨mX12_handOut, n + 0, 1, TX12, 53, rfl, by omega, kX12_193, WX12_handOut, rfl, CX12_handOut g (n)⟩, (fun _ h => absurd h List.not_mem_nil)⟩) (fun _ h => absurd h List.not_mem_nil) [178, 104] 30 _ _ _ _ ?_
          simp (maxSteps := 1000000) [↓Bool.cond_eq_ite, -Prod.forall, -Prod.exists, -Prod.mk.injEq, jvk, tX12_splits, jtb, jol, jst, jlk, jcmp, jbin, jfl, fX12, jc2, lX12, jcat, jel, lv_args, Value.category, jins, jsrt, jins2, jble, jblt, jf3, List.filter_cons, List.filter_nil, G_m, oX12_handOut, joRI, -Int32.not_le, -Int32.not_lt, -Int64.not_le, -Int64.not_lt, i3lt, i6lt, hk1, eck, enz, eD, eR, lN_i]
          try simp (disch := omega) [-Prod.forall, -Prod.exists, -Prod.mk.injEq, -Int32.not_le, -Int32.not_lt, -Int64.not_le, -Int64.not_lt, i3lt, i6lt, hk1, eck, enz, eD, eR, lN_i]
          refine jvk_ok TX12_splits (V := [(193, 2, 12, oX12_handOut)]) (S := []) (List.forall_mem_cons.mpr ⟨⟨mX12_handOut, n + 0, 1, TX12, 53, rfl, by omega, kX12_193, WX12_handOut, rfl, CX12_handOut g (n)⟩, (fun _ h => absurd h List.not_mem_nil)⟩) (fun _ h => absurd h List.not_mem_nil) [104] 30 _ _ _ _ ?_
          simp (maxSteps := 1000000) [↓Bool.cond_eq_ite, -Prod.forall, -Prod.exists, -Prod.mk.injEq, jvk, tX12_splits, jtb, jol, jst, jlk, jcmp, jbin, jfl, fX12, jc2, lX12, jcat, jel, lv_args, Value.category, jins, jsrt, jins2, jble, jblt, jf3, List.filter_cons, List.filter_nil, G_m, oX12_handOut, joRI, -Int32.not_le, -Int32.not_lt, -Int64.not_le, -Int64.not_lt, i3lt, i6lt, hk1, eck, eS, jupL_1, jup_1, nI_1]
          try simp (disch := omega) [-Prod.forall, -Prod.exists, -Prod.mk.injEq, -Int32.not_le, -Int32.not_lt, -Int64.not_le, -Int64.not_lt, i3lt, i6lt, hk1, eck, eS, jupL_1, jup_1, nI_1]
          exact jW.mono k1 (by simp)
        · rw [if_neg hz] at he
          subst he
          have eW1 : spW (xw σ) (mLiv σ) (cn (xl σ) k) = xw σ (cn (xl σ) k) := by
            unfold spW
            rw [if_neg hz]
          have e336' : τ.2.1 336 k = lN (spW (xw σ) (mLiv σ) (cn (xl σ) k)) := by rw [e336, eW1]
          have e10 : nI 0 = 0 := nI_0
          rw [e10] at k1
          refine jvk_ok TX12_splits (V := [(193, 2, 12, oX12_handOut)]) (S := []) (List.forall_mem_cons.mpr ⟨⟨mX12_handOut, n + 0, 1, TX12, 53, rfl, by omega, kX12_193, WX12_handOut, rfl, CX12_handOut g (n)⟩, (fun _ h => absurd h List.not_mem_nil)⟩) (fun _ h => absurd h List.not_mem_nil) [134, 104] 20 _ _ _ _ ?_
          simp (maxSteps := 1000000) [↓Bool.cond_eq_ite, -Prod.forall, -Prod.exists, -Prod.mk.injEq, jvk, tX12_splits, jtb, jol, jst, jlk, jcmp, jbin, jfl, fX12, jc2, lX12, jcat, jel, lv_args, Value.category, jins, jsrt, jins2, jble, jblt, jf3, List.filter_cons, List.filter_nil, G_m, oX12_handOut, joRI, -Int32.not_le, -Int32.not_lt, -Int64.not_le, -Int64.not_lt, i3lt, i6lt, e4, hlt, hk1, eck, e338, e10, jup_1]
          try simp (disch := omega) [-Prod.forall, -Prod.exists, -Prod.mk.injEq, -Int32.not_le, -Int32.not_lt, -Int64.not_le, -Int64.not_lt, i3lt, i6lt, e4, hlt, hk1, eck, e338, e10, jup_1]
          refine jvk_ok TX12_splits (V := [(193, 2, 12, oX12_handOut)]) (S := []) (List.forall_mem_cons.mpr ⟨⟨mX12_handOut, n + 0, 1, TX12, 53, rfl, by omega, kX12_193, WX12_handOut, rfl, CX12_handOut g (n)⟩, (fun _ h => absurd h List.not_mem_nil)⟩) (fun _ h => absurd h List.not_mem_nil) [155, 104] 20 _ _ _ _ ?_
          simp (maxSteps := 1000000) [↓Bool.cond_eq_ite, -Prod.forall, -Prod.exists, -Prod.mk.injEq, jvk, tX12_splits, jtb, jol, jst, jlk, jcmp, jbin, jfl, fX12, jc2, lX12, jcat, jel, lv_args, Value.category, jins, jsrt, jins2, jble, jblt, jf3, List.filter_cons, List.filter_nil, G_m, oX12_handOut, joRI, -Int32.not_le, -Int32.not_lt, -Int64.not_le, -Int64.not_lt, i3lt, i6lt, e10, hk1, eck, ecA2, e336', eW, jup_2]
          try simp (disch := omega) [-Prod.forall, -Prod.exists, -Prod.mk.injEq, -Int32.not_le, -Int32.not_lt, -Int64.not_le, -Int64.not_lt, i3lt, i6lt, e10, hk1, eck, ecA2, e336', eW, jup_2]
          refine jvk_ok TX12_splits (V := [(193, 2, 12, oX12_handOut)]) (S := []) (List.forall_mem_cons.mpr ⟨⟨mX12_handOut, n + 0, 1, TX12, 53, rfl, by omega, kX12_193, WX12_handOut, rfl, CX12_handOut g (n)⟩, (fun _ h => absurd h List.not_mem_nil)⟩) (fun _ h => absurd h List.not_mem_nil) [178, 104] 30 _ _ _ _ ?_
          simp (maxSteps := 1000000) [↓Bool.cond_eq_ite, -Prod.forall, -Prod.exists, -Prod.mk.injEq, jvk, tX12_splits, jtb, jol, jst, jlk, jcmp, jbin, jfl, fX12, jc2, lX12, jcat, jel, lv_args, Value.category, jins, jsrt, jins2, jble, jblt, jf3, List.filter_cons, List.filter_nil, G_m, oX12_handOut, joRI, -Int32.not_le, -Int32.not_lt, -Int64.not_le, -Int64.not_lt, i3lt, i6lt, hk1, eck, enz, eD, eR, lN_i]
          try simp (disch := omega) [-Prod.forall, -Prod.exists, -Prod.mk.injEq, -Int32.not_le, -Int32.not_lt, -Int64.not_le, -Int64.not_lt, i3lt, i6lt, hk1, eck, enz, eD, eR, lN_i]
          refine jvk_ok TX12_splits (V := [(193, 2, 12, oX12_handOut)]) (S := []) (List.forall_mem_cons.mpr ⟨⟨mX12_handOut, n + 0, 1, TX12, 53, rfl, by omega, kX12_193, WX12_handOut, rfl, CX12_handOut g (n)⟩, (fun _ h => absurd h List.not_mem_nil)⟩) (fun _ h => absurd h List.not_mem_nil) [104] 30 _ _ _ _ ?_
          simp (maxSteps := 1000000) [↓Bool.cond_eq_ite, -Prod.forall, -Prod.exists, -Prod.mk.injEq, jvk, tX12_splits, jtb, jol, jst, jlk, jcmp, jbin, jfl, fX12, jc2, lX12, jcat, jel, lv_args, Value.category, jins, jsrt, jins2, jble, jblt, jf3, List.filter_cons, List.filter_nil, G_m, oX12_handOut, joRI, -Int32.not_le, -Int32.not_lt, -Int64.not_le, -Int64.not_lt, i3lt, i6lt, hk1, eck, eS, jupL_1, jup_1, nI_1]
          try simp (disch := omega) [-Prod.forall, -Prod.exists, -Prod.mk.injEq, -Int32.not_le, -Int32.not_lt, -Int64.not_le, -Int64.not_lt, i3lt, i6lt, hk1, eck, eS, jupL_1, jup_1, nI_1]
          exact jW.mono k1 (by simp)
      · rw [if_neg hl] at e338
        have ecn : cn (xl σ) (k + 1) = cn (xl σ) k := by simp only [cn]; rw [if_neg hl]; rfl
        rw [ecn] at ih
        have k1 := ih (jup τ 335 k 0) (f.up _ rfl) (fun p hp => by
          rw [jup_1]
          by_cases e : p = k
          · subst e
            rw [if_pos ⟨rfl, rfl⟩, if_pos (show p < p + 1 by omega), if_neg hl]
          · rw [if_neg (by simp [e]), h1 p hp]
            by_cases e2 : p < k
            · rw [if_pos e2, if_pos (show p < k + 1 by omega)]
            · rw [if_neg e2, if_neg (show ¬ p < k + 1 by omega)]) (fun p hp hlp => by
          by_cases e : p = k
          · subst e
            exact absurd hlp hl
          · exact h2 p (by omega) hlp)
        refine jvk_ok TX12_splits (V := [(193, 2, 12, oX12_handOut)]) (S := []) (List.forall_mem_cons.mpr ⟨⟨mX12_handOut, n + 0, 1, TX12, 53, rfl, by omega, kX12_193, WX12_handOut, rfl, CX12_handOut g (n)⟩, (fun _ h => absurd h List.not_mem_nil)⟩) (fun _ h => absurd h List.not_mem_nil) [104] 60 _ _ _ _ ?_
        simp (maxSteps := 1000000) [↓Bool.cond_eq_ite, -Prod.forall, -Prod.exists, -Prod.mk.injEq, jvk, tX12_splits, jtb, jol, jst, jlk, jcmp, jbin, jfl, fX12, jc2, lX12, jcat, jel, lv_args, Value.category, jins, jsrt, jins2, jble, jblt, jf3, List.filter_cons, List.filter_nil, G_m, oX12_handOut, joRI, -Int32.not_le, -Int32.not_lt, -Int64.not_le, -Int64.not_lt, i3lt, i6lt, e4, hlt, hk1, eck, e338, jup_1, nI_1]
        try simp (disch := omega) [-Prod.forall, -Prod.exists, -Prod.mk.injEq, -Int32.not_le, -Int32.not_lt, -Int64.not_le, -Int64.not_lt, i3lt, i6lt, e4, hlt, hk1, eck, e338, jup_1, nI_1]
        exact jW.mono k1 (by simp))
    have k0 := key σ jfr.rfl (fun p hp => by rw [if_neg (by omega)]) (fun p hp => by omega)
    simpa [nI_0, cn, smN] using k0
  have e4 : σ.1 322 4 = nI (mN σ) := hN4
  have hle : nI (mN σ) ≤ nI (mN σ) := nI_le (Nat.le_refl _) (by omega)
  have key := jloop (P := fun k => jW g mX12_splits (n + 1) post 5 [(0, .ref 322), (1, .int (nI A)), (2, .long (lN (smN (xw σ) (cn (xl σ) k)))), (4, .int (nI k))] [] σ) (N := mN σ) (by
    rw [eLv]
    by_cases hz : smN (xw σ) (mLiv σ) = 0
    · have e0 : lN (smN (xw σ) (mLiv σ)) = 0 := by rw [hz]; rfl
      have l3' := l3 1 (by rw [if_pos hz])
      have key2 := jloop (P := fun k => jW g mX12_splits (n + 1) post 68 [(0, .ref 322), (1, .int (nI A)), (2, .long (lN (cn (xl σ) k))), (4, .int (nI 1)), (5, .int (nI A)), (6, .int (nI k))] [] σ) (N := mN σ) (by
        rw [eLv]
        have eA : spA (xw σ) (mLiv σ) = mLiv σ := by unfold spA; rw [if_pos hz]
        rw [eA] at l3'
        refine jvk_ok TX12_splits (V := [(193, 2, 12, oX12_handOut)]) (S := []) (List.forall_mem_cons.mpr ⟨⟨mX12_handOut, n + 0, 1, TX12, 53, rfl, by omega, kX12_193, WX12_handOut, rfl, CX12_handOut g (n)⟩, (fun _ h => absurd h List.not_mem_nil)⟩) (fun _ h => absurd h List.not_mem_nil) [68, 104] 60 _ _ _ _ ?_
        simp (maxSteps := 1000000) [↓Bool.cond_eq_ite, -Prod.forall, -Prod.exists, -Prod.mk.injEq, jvk, tX12_splits, jtb, jol, jst, jlk, jcmp, jbin, jfl, fX12, jc2, lX12, jcat, jel, lv_args, Value.category, jins, jsrt, jins2, jble, jblt, jf3, List.filter_cons, List.filter_nil, G_m, oX12_handOut, joRI, -Int32.not_le, -Int32.not_lt, -Int64.not_le, -Int64.not_lt, i3lt, i6lt, e4, hle]
        try simp (disch := omega) [-Prod.forall, -Prod.exists, -Prod.mk.injEq, -Int32.not_le, -Int32.not_lt, -Int64.not_le, -Int64.not_lt, i3lt, i6lt, e4, hle]
        exact jW.mono l3' (by simp)) (fun k hk ih => by
        have hlt : ¬ nI (mN σ) ≤ nI k := nI_ge hk (by omega)
        have hk1 : jin (nI k) 10 := jin_nI (by omega) (by decide)
        have eck : (nI k).toNatClampNeg = k := nI_clamp (by omega)
        have e338 := hT k hk
        by_cases hl : xl σ k = true
        · rw [if_pos hl] at e338
          have ecn : cn (xl σ) (k + 1) = cn (xl σ) k + 1 := by simp only [cn]; rw [if_pos hl]
          rw [ecn] at ih
          refine jvk_ok TX12_splits (V := [(193, 2, 12, oX12_handOut)]) (S := []) (List.forall_mem_cons.mpr ⟨⟨mX12_handOut, n + 0, 1, TX12, 53, rfl, by omega, kX12_193, WX12_handOut, rfl, CX12_handOut g (n)⟩, (fun _ h => absurd h List.not_mem_nil)⟩) (fun _ h => absurd h List.not_mem_nil) [68, 104] 60 _ _ _ _ ?_
          simp (maxSteps := 1000000) [↓Bool.cond_eq_ite, -Prod.forall, -Prod.exists, -Prod.mk.injEq, jvk, tX12_splits, jtb, jol, jst, jlk, jcmp, jbin, jfl, fX12, jc2, lX12, jcat, jel, lv_args, Value.category, jins, jsrt, jins2, jble, jblt, jf3, List.filter_cons, List.filter_nil, G_m, oX12_handOut, joRI, -Int32.not_le, -Int32.not_lt, -Int64.not_le, -Int64.not_lt, i3lt, i6lt, e4, hlt, hk1, eck, e338, lN_1, nI_1]
          try simp (disch := omega) [-Prod.forall, -Prod.exists, -Prod.mk.injEq, -Int32.not_le, -Int32.not_lt, -Int64.not_le, -Int64.not_lt, i3lt, i6lt, e4, hlt, hk1, eck, e338, lN_1, nI_1]
          exact ih
        · rw [if_neg hl] at e338
          have ecn : cn (xl σ) (k + 1) = cn (xl σ) k := by simp only [cn]; rw [if_neg hl]; rfl
          rw [ecn] at ih
          refine jvk_ok TX12_splits (V := [(193, 2, 12, oX12_handOut)]) (S := []) (List.forall_mem_cons.mpr ⟨⟨mX12_handOut, n + 0, 1, TX12, 53, rfl, by omega, kX12_193, WX12_handOut, rfl, CX12_handOut g (n)⟩, (fun _ h => absurd h List.not_mem_nil)⟩) (fun _ h => absurd h List.not_mem_nil) [68, 104] 60 _ _ _ _ ?_
          simp (maxSteps := 1000000) [↓Bool.cond_eq_ite, -Prod.forall, -Prod.exists, -Prod.mk.injEq, jvk, tX12_splits, jtb, jol, jst, jlk, jcmp, jbin, jfl, fX12, jc2, lX12, jcat, jel, lv_args, Value.category, jins, jsrt, jins2, jble, jblt, jf3, List.filter_cons, List.filter_nil, G_m, oX12_handOut, joRI, -Int32.not_le, -Int32.not_lt, -Int64.not_le, -Int64.not_lt, i3lt, i6lt, e4, hlt, hk1, eck, e338, lN_1, nI_1]
          try simp (disch := omega) [-Prod.forall, -Prod.exists, -Prod.mk.injEq, -Int32.not_le, -Int32.not_lt, -Int64.not_le, -Int64.not_lt, i3lt, i6lt, e4, hlt, hk1, eck, e338, lN_1, nI_1]
          exact ih)
      rw [nI_0] at key2
      have e11 : nI 1 = 1 := rfl
      refine jvk_ok TX12_splits (V := [(193, 2, 12, oX12_handOut)]) (S := []) (List.forall_mem_cons.mpr ⟨⟨mX12_handOut, n + 0, 1, TX12, 53, rfl, by omega, kX12_193, WX12_handOut, rfl, CX12_handOut g (n)⟩, (fun _ h => absurd h List.not_mem_nil)⟩) (fun _ h => absurd h List.not_mem_nil) [68] 60 _ _ _ _ ?_
      simp (maxSteps := 1000000) [↓Bool.cond_eq_ite, -Prod.forall, -Prod.exists, -Prod.mk.injEq, jvk, tX12_splits, jtb, jol, jst, jlk, jcmp, jbin, jfl, fX12, jc2, lX12, jcat, jel, lv_args, Value.category, jins, jsrt, jins2, jble, jblt, jf3, List.filter_cons, List.filter_nil, G_m, oX12_handOut, joRI, -Int32.not_le, -Int32.not_lt, -Int64.not_le, -Int64.not_lt, i3lt, i6lt, e4, hle, e0, lg_cmp_eq]
      try simp (disch := omega) [-Prod.forall, -Prod.exists, -Prod.mk.injEq, -Int32.not_le, -Int32.not_lt, -Int64.not_le, -Int64.not_lt, i3lt, i6lt, e4, hle, e0, lg_cmp_eq]
      rw [e11] at key2
      simpa [cn, lN] using key2
    · have e0 : ¬ lN (smN (xw σ) (mLiv σ)) = 0 := fun z => by
        have := (pk_lEQ (b := 0) (by omega) (by omega)).mp z
        omega
      have l3' := l3 0 (by rw [if_neg hz])
      have eA : spA (xw σ) (mLiv σ) = smN (xw σ) (mLiv σ) := by unfold spA; rw [if_neg hz]
      rw [eA] at l3'
      refine jvk_ok TX12_splits (V := [(193, 2, 12, oX12_handOut)]) (S := []) (List.forall_mem_cons.mpr ⟨⟨mX12_handOut, n + 0, 1, TX12, 53, rfl, by omega, kX12_193, WX12_handOut, rfl, CX12_handOut g (n)⟩, (fun _ h => absurd h List.not_mem_nil)⟩) (fun _ h => absurd h List.not_mem_nil) [104] 60 _ _ _ _ ?_
      simp (maxSteps := 1000000) [↓Bool.cond_eq_ite, -Prod.forall, -Prod.exists, -Prod.mk.injEq, jvk, tX12_splits, jtb, jol, jst, jlk, jcmp, jbin, jfl, fX12, jc2, lX12, jcat, jel, lv_args, Value.category, jins, jsrt, jins2, jble, jblt, jf3, List.filter_cons, List.filter_nil, G_m, oX12_handOut, joRI, -Int32.not_le, -Int32.not_lt, -Int64.not_le, -Int64.not_lt, i3lt, i6lt, e4, hle, e0, lg_cmp_eq]
      try simp (disch := omega) [-Prod.forall, -Prod.exists, -Prod.mk.injEq, -Int32.not_le, -Int32.not_lt, -Int64.not_le, -Int64.not_lt, i3lt, i6lt, e4, hle, e0, lg_cmp_eq]
      simpa [nI_0] using l3') (fun k hk ih => by
    have hlt : ¬ nI (mN σ) ≤ nI k := nI_ge hk (by omega)
    have hk1 : jin (nI k) 10 := jin_nI (by omega) (by decide)
    have eck : (nI k).toNatClampNeg = k := nI_clamp (by omega)
    have e338 := hT k hk
    by_cases hl : xl σ k = true
    · rw [if_pos hl] at e338
      have ecn : cn (xl σ) (k + 1) = cn (xl σ) k + 1 := by simp only [cn]; rw [if_pos hl]
      have e336 := (xw_of hw2 hk hl).1
      rw [ecn] at ih
      simp only [smN] at ih
      refine jvk_ok TX12_splits (V := [(193, 2, 12, oX12_handOut)]) (S := []) (List.forall_mem_cons.mpr ⟨⟨mX12_handOut, n + 0, 1, TX12, 53, rfl, by omega, kX12_193, WX12_handOut, rfl, CX12_handOut g (n)⟩, (fun _ h => absurd h List.not_mem_nil)⟩) (fun _ h => absurd h List.not_mem_nil) [5] 60 _ _ _ _ ?_
      simp (maxSteps := 1000000) [↓Bool.cond_eq_ite, -Prod.forall, -Prod.exists, -Prod.mk.injEq, jvk, tX12_splits, jtb, jol, jst, jlk, jcmp, jbin, jfl, fX12, jc2, lX12, jcat, jel, lv_args, Value.category, jins, jsrt, jins2, jble, jblt, jf3, List.filter_cons, List.filter_nil, G_m, oX12_handOut, joRI, -Int32.not_le, -Int32.not_lt, -Int64.not_le, -Int64.not_lt, i3lt, i6lt, e4, hlt, hk1, eck, e338, e336, lN_add, nI_1]
      try simp (disch := omega) [-Prod.forall, -Prod.exists, -Prod.mk.injEq, -Int32.not_le, -Int32.not_lt, -Int64.not_le, -Int64.not_lt, i3lt, i6lt, e4, hlt, hk1, eck, e338, e336, lN_add, nI_1]
      exact ih
    · rw [if_neg hl] at e338
      have ecn : cn (xl σ) (k + 1) = cn (xl σ) k := by simp only [cn]; rw [if_neg hl]; rfl
      rw [ecn] at ih
      refine jvk_ok TX12_splits (V := [(193, 2, 12, oX12_handOut)]) (S := []) (List.forall_mem_cons.mpr ⟨⟨mX12_handOut, n + 0, 1, TX12, 53, rfl, by omega, kX12_193, WX12_handOut, rfl, CX12_handOut g (n)⟩, (fun _ h => absurd h List.not_mem_nil)⟩) (fun _ h => absurd h List.not_mem_nil) [5] 60 _ _ _ _ ?_
      simp (maxSteps := 1000000) [↓Bool.cond_eq_ite, -Prod.forall, -Prod.exists, -Prod.mk.injEq, jvk, tX12_splits, jtb, jol, jst, jlk, jcmp, jbin, jfl, fX12, jc2, lX12, jcat, jel, lv_args, Value.category, jins, jsrt, jins2, jble, jblt, jf3, List.filter_cons, List.filter_nil, G_m, oX12_handOut, joRI, -Int32.not_le, -Int32.not_lt, -Int64.not_le, -Int64.not_lt, i3lt, i6lt, e4, hlt, hk1, eck, e338, nI_1]
      try simp (disch := omega) [-Prod.forall, -Prod.exists, -Prod.mk.injEq, -Int32.not_le, -Int32.not_lt, -Int64.not_le, -Int64.not_lt, i3lt, i6lt, e4, hlt, hk1, eck, e338, nI_1]
      simpa using ih)
  simpa [nI_0, cn, smN, lN] using key
