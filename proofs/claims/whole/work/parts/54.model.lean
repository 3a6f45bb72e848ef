/-! the reference: amounts are split -/
abbrev xl (σ : jM) : Nat → Bool := dL (σ.1 323)
/-- the person at a place -/
abbrev xp (σ : jM) (i : Nat) : Nat := qpl (xl σ) (mN σ) i
/-- the rests and the parts of the places -/
def xr (σ : jM) (i : Nat) : Int := (σ.2.1 337 (xp σ i)).toInt
def xs (σ : jM) (i : Nat) : Int32 := σ.1 335 (xp σ i)
theorem xp_is {σ : jM} {i : Nat} (hi : i < mLiv σ) : xl σ (xp σ i) = true ∧ xp σ i < mN σ ∧ cn (xl σ) (xp σ i) = i := qpl_is hi
theorem xp_cn {σ : jM} {p : Nat} (hl : xl σ p = true) (hp : p < mN σ) : xp σ (cn (xl σ) p) = p := qpl_cn hl hp
/-- takesPart is who lives -/
def xT (σ : jM) : Prop := ∀ p, p < mN σ → σ.1 338 p = if xl σ p = true then 1 else 0
def aSp (a j : Nat) : Bool := a == 335
def bSp (a : Nat) : Bool := a == 337
def oX12_handOut : jO := joRI fun a x σ => (a = 322 ∧ mOK σ ∧ xT σ ∧ ∃ k, x = nI k ∧ k ≤ hoN (xr σ) (mLiv σ), fun v τ => v = none ∧ jfr aSp bSp σ τ ∧ ∀ p, p < 10 → τ.1 335 p = if p < mN σ ∧ xl σ p = true then hoS (mLiv σ) x.toNatClampNeg (xr σ) (xs σ) (cn (xl σ) p) else σ.1 335 p)
def hoI (σ : jM) : Option Nat → Int32
  | none => -1
  | some i => nI (xp σ i)
theorem hoN_le (r : Nat → Int) (m : Nat) : hoN r m ≤ m := cn_le _ _
set_option maxRecDepth 100000 in
set_option maxHeartbeats 4000000 in
theorem CHo_in (g : jG) (n : Nat) {post : Option Value → jM → Prop} {σ τ : jM} (hok : mOK σ) (hT : xT σ) {r : Nat → Int} {d : Nat} (f : jfr aSp bSp σ τ) (hr : ∀ p, p < mN σ → xl σ p = true → (τ.2.1 337 p).toInt = r (cn (xl σ) p))
    (hk : jW g mX12_handOut n post 72 [(0, .ref 322), (2, .int (nI d)), (3, .int (hoI σ (hoB r (mLiv σ))))] [] τ) : jW g mX12_handOut n post 11 [(0, .ref 322), (2, .int (nI d)), (3, .int (-1)), (4, .int 0)] [] τ := by
  obtain ⟨hN10, hN4⟩ := mN_le hok
  have e4 : τ.1 322 4 = nI (mN σ) := (f.2.2 322 4 rfl).trans hN4
  have key := jloop (P := fun k => jW g mX12_handOut n post 11 [(0, .ref 322), (2, .int (nI d)), (3, .int (hoI σ (hoB r (cn (xl σ) k)))), (4, .int (nI k))] [] τ) (N := mN σ) (by
    have hle : nI (mN σ) ≤ nI (mN σ) := nI_le (Nat.le_refl _) (by omega)
    rw [show cn (xl σ) (mN σ) = mLiv σ from rfl]
    refine jvk_ok TX12_handOut (V := []) (S := []) (fun _ h => absurd h List.not_mem_nil) (fun _ h => absurd h List.not_mem_nil) [11, 72] 30 _ _ _ _ ?_
    simp (maxSteps := 1000000) [↓Bool.cond_eq_ite, -Prod.forall, -Prod.exists, -Prod.mk.injEq, jvk, tX12_handOut, jtb, jol, jst, jlk, jcmp, jbin, jfl, fX12, jc2, lX12, jcat, jel, lv_args, Value.category, jins, jsrt, jins2, jble, jblt, jf3, List.filter_cons, List.filter_nil, G_m, -Int32.not_le, -Int32.not_lt, -Int64.not_le, -Int64.not_lt, i3lt, i6lt, e4, hle]
    try simp (disch := omega) [-Prod.forall, -Prod.exists, -Prod.mk.injEq, -Int32.not_le, -Int32.not_lt, -Int64.not_le, -Int64.not_lt, i3lt, i6lt, e4, hle]
    exact jW.mono hk (by simp)) (fun k hkN ih => by
    have hlt : ¬ nI (mN σ) ≤ nI k := nI_ge hkN (by omega)
    have hk1 : jin (nI k) 10 := jin_nI (by omega) (by decide)
    have eck : (nI k).toNatClampNeg = k := nI_clamp (by omega)
    have e338 : τ.1 338 k = if xl σ k = true then 1 else 0 := (f.2.2 338 k rfl).trans (hT k hkN)
    by_cases hl : xl σ k = true
    · rw [if_pos hl] at e338
      have er := hr k hkN hl
      have ecn : cn (xl σ) (k + 1) = cn (xl σ) k + 1 := by simp only [cn]; rw [if_pos hl]
      rw [ecn] at ih
      simp only [hoB] at ih
      by_cases h0 : 0 ≤ r (cn (xl σ) k)
      · have l0 : (0 : Int64) ≤ τ.2.1 337 k := by
          rw [Int64.le_iff_toInt_le, er]
          exact h0
        rcases eb : hoB r (cn (xl σ) k) with _ | b
        · rw [eb] at ih
          dsimp only at ih
          rw [if_pos h0] at ih
          have e2 : hoI σ (some (cn (xl σ) k)) = nI k := by
            show nI (xp σ (cn (xl σ) k)) = nI k
            rw [xp_cn hl hkN]
          rw [e2] at ih
          have e3 : hoI σ none = -1 := rfl
          refine jvk_ok TX12_handOut (V := []) (S := []) (fun _ h => absurd h List.not_mem_nil) (fun _ h => absurd h List.not_mem_nil) [11, 72] 40 _ _ _ _ ?_
          simp (maxSteps := 1000000) [↓Bool.cond_eq_ite, -Prod.forall, -Prod.exists, -Prod.mk.injEq, jvk, tX12_handOut, jtb, jol, jst, jlk, jcmp, jbin, jfl, fX12, jc2, lX12, jcat, jel, lv_args, Value.category, jins, jsrt, jins2, jble, jblt, jf3, List.filter_cons, List.filter_nil, G_m, -Int32.not_le, -Int32.not_lt, -Int64.not_le, -Int64.not_lt, i3lt, i6lt, e4, hlt, hk1, eck, e338, l0, e3, lg_cmp_ge, lg_cmp_le, lg_cmp_lt, nI_1]
          try simp (disch := omega) [-Prod.forall, -Prod.exists, -Prod.mk.injEq, -Int32.not_le, -Int32.not_lt, -Int64.not_le, -Int64.not_lt, i3lt, i6lt, e4, hlt, hk1, eck, e338, l0, e3, lg_cmp_ge, lg_cmp_le, lg_cmp_lt, nI_1]
          exact ih
        · rw [eb] at ih
          dsimp only at ih
          have hb := hoB_lt eb
          have hcn := cn_le (xl σ) k
          have hbm : b < cn (xl σ) (mN σ) := Nat.lt_of_lt_of_le hb.1 (cn_mono (xl σ) (by omega))
          obtain ⟨q1, q2, q3⟩ := xp_is (σ := σ) hbm
          have e3 : hoI σ (some b) = nI (xp σ b) := rfl
          have hb1 : jin (nI (xp σ b)) 10 := jin_nI (by omega) (by decide)
          have ecb : (nI (xp σ b)).toNatClampNeg = xp σ b := nI_clamp (by omega)
          have hnl : 0 ≤ nI (xp σ b) := nI_pos' (by omega)
          have erb := hr _ q2 q1
          rw [q3] at erb
          by_cases h1 : r b < r (cn (xl σ) k)
          · rw [if_pos ⟨h0, h1⟩] at ih
            have e2 : hoI σ (some (cn (xl σ) k)) = nI k := by
              show nI (xp σ (cn (xl σ) k)) = nI k
              rw [xp_cn hl hkN]
            rw [e2] at ih
            have l1 : ¬ τ.2.1 337 k ≤ τ.2.1 337 (xp σ b) := fun z => by
              rw [Int64.le_iff_toInt_le, er, erb] at z
              omega
            refine jvk_ok TX12_handOut (V := []) (S := []) (fun _ h => absurd h List.not_mem_nil) (fun _ h => absurd h List.not_mem_nil) [11, 72] 40 _ _ _ _ ?_
            simp (maxSteps := 1000000) [↓Bool.cond_eq_ite, -Prod.forall, -Prod.exists, -Prod.mk.injEq, jvk, tX12_handOut, jtb, jol, jst, jlk, jcmp, jbin, jfl, fX12, jc2, lX12, jcat, jel, lv_args, Value.category, jins, jsrt, jins2, jble, jblt, jf3, List.filter_cons, List.filter_nil, G_m, -Int32.not_le, -Int32.not_lt, -Int64.not_le, -Int64.not_lt, i3lt, i6lt, e4, hlt, hk1, eck, e338, l0, l1, e3, hb1, ecb, hnl, lg_cmp_ge, lg_cmp_le, lg_cmp_lt, nI_1]
            try simp (disch := omega) [-Prod.forall, -Prod.exists, -Prod.mk.injEq, -Int32.not_le, -Int32.not_lt, -Int64.not_le, -Int64.not_lt, i3lt, i6lt, e4, hlt, hk1, eck, e338, l0, l1, e3, hb1, ecb, hnl, lg_cmp_ge, lg_cmp_le, lg_cmp_lt, nI_1]
            exact ih
          · rw [if_neg (fun z => h1 z.2)] at ih
            have l1 : τ.2.1 337 k ≤ τ.2.1 337 (xp σ b) := by
              rw [Int64.le_iff_toInt_le, er, erb]
              omega
            rw [e3] at ih
            refine jvk_ok TX12_handOut (V := []) (S := []) (fun _ h => absurd h List.not_mem_nil) (fun _ h => absurd h List.not_mem_nil) [11, 72] 40 _ _ _ _ ?_
            simp (maxSteps := 1000000) [↓Bool.cond_eq_ite, -Prod.forall, -Prod.exists, -Prod.mk.injEq, jvk, tX12_handOut, jtb, jol, jst, jlk, jcmp, jbin, jfl, fX12, jc2, lX12, jcat, jel, lv_args, Value.category, jins, jsrt, jins2, jble, jblt, jf3, List.filter_cons, List.filter_nil, G_m, -Int32.not_le, -Int32.not_lt, -Int64.not_le, -Int64.not_lt, i3lt, i6lt, e4, hlt, hk1, eck, e338, l0, l1, e3, hb1, ecb, hnl, lg_cmp_ge, lg_cmp_le, lg_cmp_lt, nI_1]
            try simp (disch := omega) [-Prod.forall, -Prod.exists, -Prod.mk.injEq, -Int32.not_le, -Int32.not_lt, -Int64.not_le, -Int64.not_lt, i3lt, i6lt, e4, hlt, hk1, eck, e338, l0, l1, e3, hb1, ecb, hnl, lg_cmp_ge, lg_cmp_le, lg_cmp_lt, nI_1]
            exact ih
      · have l0 : ¬ (0 : Int64) ≤ τ.2.1 337 k := fun z => by
          rw [Int64.le_iff_toInt_le, er] at z
          exact h0 z
        have l0' : τ.2.1 337 k < 0 := by
          rw [Int64.lt_iff_toInt_lt, er]
          simp only [Int64.toInt_zero]
          omega
        have ih2 : jW g mX12_handOut n post 11 [(0, .ref 322), (2, .int (nI d)), (3, .int (hoI σ (hoB r (cn (xl σ) k)))), (4, .int (nI (k + 1)))] [] τ := by
          rcases eb : hoB r (cn (xl σ) k) with _ | b
          · rw [eb] at ih
            dsimp only at ih
            rw [if_neg h0] at ih
            exact ih
          · rw [eb] at ih
            dsimp only at ih
            rw [if_neg (fun z => h0 z.1)] at ih
            exact ih
        refine jvk_ok TX12_handOut (V := []) (S := []) (fun _ h => absurd h List.not_mem_nil) (fun _ h => absurd h List.not_mem_nil) [11, 72] 40 _ _ _ _ ?_
        simp (maxSteps := 1000000) [↓Bool.cond_eq_ite, -Prod.forall, -Prod.exists, -Prod.mk.injEq, jvk, tX12_handOut, jtb, jol, jst, jlk, jcmp, jbin, jfl, fX12, jc2, lX12, jcat, jel, lv_args, Value.category, jins, jsrt, jins2, jble, jblt, jf3, List.filter_cons, List.filter_nil, G_m, -Int32.not_le, -Int32.not_lt, -Int64.not_le, -Int64.not_lt, i3lt, i6lt, e4, hlt, hk1, eck, e338, l0, l0', lg_cmp_ge, lg_cmp_le, lg_cmp_lt, nI_1]
        try simp (disch := omega) [-Prod.forall, -Prod.exists, -Prod.mk.injEq, -Int32.not_le, -Int32.not_lt, -Int64.not_le, -Int64.not_lt, i3lt, i6lt, e4, hlt, hk1, eck, e338, l0, l0', lg_cmp_ge, lg_cmp_le, lg_cmp_lt, nI_1]
        exact ih2
    · rw [if_neg hl] at e338
      have ecn : cn (xl σ) (k + 1) = cn (xl σ) k := by simp only [cn]; rw [if_neg hl]; rfl
      rw [ecn] at ih
      refine jvk_ok TX12_handOut (V := []) (S := []) (fun _ h => absurd h List.not_mem_nil) (fun _ h => absurd h List.not_mem_nil) [11, 72] 40 _ _ _ _ ?_
      simp (maxSteps := 1000000) [↓Bool.cond_eq_ite, -Prod.forall, -Prod.exists, -Prod.mk.injEq, jvk, tX12_handOut, jtb, jol, jst, jlk, jcmp, jbin, jfl, fX12, jc2, lX12, jcat, jel, lv_args, Value.category, jins, jsrt, jins2, jble, jblt, jf3, List.filter_cons, List.filter_nil, G_m, -Int32.not_le, -Int32.not_lt, -Int64.not_le, -Int64.not_lt, i3lt, i6lt, e4, hlt, hk1, eck, e338, nI_1]
      try simp (disch := omega) [-Prod.forall, -Prod.exists, -Prod.mk.injEq, -Int32.not_le, -Int32.not_lt, -Int64.not_le, -Int64.not_lt, i3lt, i6lt, e4, hlt, hk1, eck, e338, nI_1]
      exact ih)
  simpa [nI_0, cn, hoB, hoI] using key
set_option maxRecDepth 100000 in
set_option maxHeartbeats 4000000 in
theorem CX12_handOut (g : jG) (n : Nat) : jOk g (n + 0) mX12_handOut oX12_handOut := by
  refine joRI_ok ?_
  rintro _ _ σ ⟨rfl, hok, hT, L, rfl, hL⟩
  obtain ⟨hN10, hN4⟩ := mN_le hok
  have hLm : L ≤ 10 := by
    have := hoN_le (xr σ) (mLiv σ)
    have h2 : mLiv σ ≤ mN σ := cn_le _ _
    omega
  have ecL : (nI L).toNatClampNeg = L := nI_clamp (by omega)
  refine jCon.ofP (by decide +kernel) (by simp [lg_sl, Value.category]) (fun post hp => ?_)
  refine jvk_ok TX12_handOut (V := []) (S := []) (fun _ h => absurd h List.not_mem_nil) (fun _ h => absurd h List.not_mem_nil) [2] 20 _ _ _ _ ?_
  simp (maxSteps := 1000000) [↓Bool.cond_eq_ite, -Prod.forall, -Prod.exists, -Prod.mk.injEq, jvk, tX12_handOut, jtb, jol, jst, jlk, jcmp, jbin, jfl, fX12, jc2, lX12, jcat, jel, lv_args, Value.category, jins, jsrt, jins2, jble, jblt, jf3, List.filter_cons, List.filter_nil, G_m, -Int32.not_le, -Int32.not_lt, -Int64.not_le, -Int64.not_lt, i3lt, i6lt]
  try simp (disch := omega) [-Prod.forall, -Prod.exists, -Prod.mk.injEq, -Int32.not_le, -Int32.not_lt, -Int64.not_le, -Int64.not_lt, i3lt, i6lt]
  rw [ecL] at hp
  have key : ∀ (d : Nat) (τ : jM) (r : Nat → Int) (s : Nat → Int32), d ≤ 10 → d ≤ hoN r (mLiv σ) → jfr aSp bSp σ τ → (∀ p, p < mN σ → xl σ p = true → (τ.2.1 337 p).toInt = r (cn (xl σ) p)) → (∀ p, p < 10 → τ.1 335 p = if p < mN σ ∧ xl σ p = true then s (cn (xl σ) p) else σ.1 335 p) → (∀ i, i < mLiv σ → hoS (mLiv σ) d r s i = hoS (mLiv σ) L (xr σ) (xs σ) i) → jW g mX12_handOut n post 2 [(0, .ref 322), (2, .int (nI d))] [] τ := by
    intro d
    induction d with
    | zero =>
      intro τ r s _ _ f hr hs he
      refine jvk_ok TX12_handOut (V := []) (S := []) (fun _ h => absurd h List.not_mem_nil) (fun _ h => absurd h List.not_mem_nil) [2, 11] 20 _ _ _ _ ?_
      simp (maxSteps := 1000000) [↓Bool.cond_eq_ite, -Prod.forall, -Prod.exists, -Prod.mk.injEq, jvk, tX12_handOut, jtb, jol, jst, jlk, jcmp, jbin, jfl, fX12, jc2, lX12, jcat, jel, lv_args, Value.category, jins, jsrt, jins2, jble, jblt, jf3, List.filter_cons, List.filter_nil, G_m, -Int32.not_le, -Int32.not_lt, -Int64.not_le, -Int64.not_lt, i3lt, i6lt]
      try simp (disch := omega) [-Prod.forall, -Prod.exists, -Prod.mk.injEq, -Int32.not_le, -Int32.not_lt, -Int64.not_le, -Int64.not_lt, i3lt, i6lt, nI_0]
      refine hp _ _ ⟨rfl, f, fun p hp => ?_⟩
      rw [hs p hp]
      by_cases h : p < mN σ ∧ xl σ p = true
      · rw [if_pos h, if_pos h]
        exact he _ (cn_lt h.2 h.1)
      · rw [if_neg h, if_neg h]
    | succ d ihd =>
      intro τ r s hd10 hd f hr hs he
      have hpos : ¬ nI (d + 1) ≤ 0 := nI_nle (by omega) (by omega)
      have epr : nI (d + 1) + -1 = nI d := pk_m1 d
      rcases eb : hoB r (mLiv σ) with _ | b
      · have := hoN_pos eb
        omega
      · have hb := hoB_lt eb
        obtain ⟨q1, q2, q3⟩ := xp_is (σ := σ) hb.1
        have hb1 : jin (nI (xp σ b)) 10 := jin_nI (by omega) (by decide)
        have ecb : (nI (xp σ b)).toNatClampNeg = xp σ b := nI_clamp (by omega)
        have hu := hoN_upd hb.2 (mLiv σ)
        rw [if_pos hb.1] at hu
        have k1 := ihd (jupL (jup τ 335 (xp σ b) (τ.1 335 (xp σ b) + 1)) 337 (xp σ b) (-1)) (hoU r b) (hoA s b) (by omega) (by omega) ((f.up _ rfl).upL _ rfl) (fun p hp hl => by
          rw [jupL_2]
          by_cases e : p = xp σ b
          · subst e
            rw [if_pos ⟨rfl, rfl⟩, q3, hoU, if_pos rfl]
            rfl
          · rw [if_neg (by simp [e]), hoU, if_neg (fun z => e (cn_inj hl q1 (z.trans q3.symm)))]
            exact hr p hp hl) (fun p hp => by
          rw [jupL_1, jup_1]
          by_cases e : p = xp σ b
          · subst e
            rw [if_pos ⟨rfl, rfl⟩, if_pos ⟨q2, q1⟩, q3, hoA, if_pos rfl, hs _ hp, if_pos ⟨q2, q1⟩, q3]
          · rw [if_neg (by simp [e]), hs p hp]
            by_cases h : p < mN σ ∧ xl σ p = true
            · rw [if_pos h, if_pos h, hoA, if_neg (fun z => e (cn_inj h.2 q1 (z.trans q3.symm)))]
            · rw [if_neg h, if_neg h]) (fun i hi => by
          rw [← he i hi]
          simp only [hoS, eb])
        refine jvk_ok TX12_handOut (V := []) (S := []) (fun _ h => absurd h List.not_mem_nil) (fun _ h => absurd h List.not_mem_nil) [2, 11] 20 _ _ _ _ ?_
        simp (maxSteps := 1000000) [↓Bool.cond_eq_ite, -Prod.forall, -Prod.exists, -Prod.mk.injEq, jvk, tX12_handOut, jtb, jol, jst, jlk, jcmp, jbin, jfl, fX12, jc2, lX12, jcat, jel, lv_args, Value.category, jins, jsrt, jins2, jble, jblt, jf3, List.filter_cons, List.filter_nil, G_m, -Int32.not_le, -Int32.not_lt, -Int64.not_le, -Int64.not_lt, i3lt, i6lt, hpos]
        try simp (disch := omega) [-Prod.forall, -Prod.exists, -Prod.mk.injEq, -Int32.not_le, -Int32.not_lt, -Int64.not_le, -Int64.not_lt, i3lt, i6lt, hpos]
        refine jW.mono (CHo_in g n (r := r) (d := d + 1) hok hT f hr ?_) (by simp)
        have eB : hoI σ (hoB r (mLiv σ)) = nI (xp σ b) := by rw [eb]; rfl
        refine jvk_ok TX12_handOut (V := []) (S := []) (fun _ h => absurd h List.not_mem_nil) (fun _ h => absurd h List.not_mem_nil) [2] 30 _ _ _ _ ?_
        simp (maxSteps := 1000000) [↓Bool.cond_eq_ite, -Prod.forall, -Prod.exists, -Prod.mk.injEq, jvk, tX12_handOut, jtb, jol, jst, jlk, jcmp, jbin, jfl, fX12, jc2, lX12, jcat, jel, lv_args, Value.category, jins, jsrt, jins2, jble, jblt, jf3, List.filter_cons, List.filter_nil, G_m, -Int32.not_le, -Int32.not_lt, -Int64.not_le, -Int64.not_lt, i3lt, i6lt, hb1, ecb, eB, epr]
        try simp (disch := omega) [-Prod.forall, -Prod.exists, -Prod.mk.injEq, -Int32.not_le, -Int32.not_lt, -Int64.not_le, -Int64.not_lt, i3lt, i6lt, hb1, ecb, eB, epr]
        exact jW.mono k1 (by simp)
  refine jW.mono (key L σ (xr σ) (xs σ) hLm hL jfr.rfl (fun p hp hl => by
    unfold xr
    rw [xp_cn hl hp]) (fun p hp => by
    by_cases h : p < mN σ ∧ xl σ p = true
    · rw [if_pos h, xs, xp_cn h.2 h.1]
    · rw [if_neg h]) (fun i hi => rfl)) (by simp)
