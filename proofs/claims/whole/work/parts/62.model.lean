/-! the reference: the proposal becomes the division; two people exchange their rooms -/
theorem agR_congr {ch ch' py py' f : Nat → Int32} {k : Nat} (h : ∀ p, p < k → ch p = ch' p ∧ (0 ≤ ch p → py p = py' p)) : agR ch py f k = agR ch' py' f k := by
  funext j
  unfold agR
  by_cases c2 : j < 8 + 20 * k ∧ 8 ≤ j ∧ (j - 8) % 20 = 2
  · rw [if_pos c2, if_pos c2, (h ((j - 8) / 20) (by omega)).1]
  · rw [if_neg c2, if_neg c2]
    by_cases c3 : j < 8 + 20 * k ∧ 8 ≤ j ∧ (j - 8) % 20 = 3
    · rw [if_pos c3, if_pos c3]
      obtain ⟨a1, a2⟩ := h ((j - 8) / 20) (by omega)
      by_cases h0 : ch ((j - 8) / 20) < 0
      · have h0' : ch' ((j - 8) / 20) < 0 := by rw [← a1]; exact h0
        rw [if_pos h0, if_pos h0']
      · have h0' : ¬ ch' ((j - 8) / 20) < 0 := by rw [← a1]; exact h0
        rw [if_neg h0, if_neg h0']
        exact a2 (by grind)
    · rw [if_neg c3, if_neg c3]
theorem agN_congr {ch ch' f : Nat → Int32} {k : Nat} (h : ∀ p, p < k → ch p = ch' p) : agN ch f k = agN ch' f k := cn_congr k (fun j hj => by rw [h j hj])
def mCh (σ : jM) (p : Nat) : Int32 := qch (dC σ) (xl σ) (mN σ) p
def oX12_divide : jO := joR fun a σ => (a = 322 ∧ mOK σ ∧ dI (σ.1 323) ∧ mH σ, fun v τ =>
  ((dC σ).isSome = false ∧ v = some (.int (-1)) ∧ jfr aSc bSc σ τ ∧ τ.1 322 11 = 0) ∨
  ((dC σ).isSome = true ∧ v = some (.int (nI (agN (mCh σ) (σ.1 323) (mN σ)))) ∧ ∃ ρ, jfr aSc bSc σ ρ ∧ ρ.1 322 11 = 0 ∧ τ = rw3 (mRem ρ) (agR (mCh σ) (mPy σ) (σ.1 323) (mN σ))))
theorem qch_pos {σ : jM} {p : Nat} (h : 0 ≤ mCh σ p) : (dC σ).isSome = true ∧ xl σ p = true := by
  unfold mCh at h
  rcases hC0 : dC σ with _ | c
  · rw [hC0] at h; exact absurd h not_m1
  · rw [hC0] at h
    by_cases hl : xl σ p = true
    · exact ⟨rfl, hl⟩
    · have : qch (some c) (xl σ) (mN σ) p = -1 := by
        show (if xl σ p = true ∧ p < mN σ then _ else (-1 : Int32)) = -1
        rw [if_neg (fun z => hl z.1)]
      rw [this] at h
      exact absurd h not_m1
set_option maxRecDepth 100000 in
set_option maxHeartbeats 4000000 in
theorem CX12_divide (g : jG) (n : Nat) : jOk g (n + 16) mX12_divide oX12_divide := by
  refine joR_ok ?_
  rintro _ σ ⟨rfl, hok, hd, hh⟩
  obtain ⟨hN10, hN4⟩ := mN_le hok
  have hd1 : dI ((jup σ 322 11 0).1 323) := hd
  refine jCon.ofP (by decide +kernel) (by simp [lg_sl, Value.category]) (fun post hp => ?_)
  refine jvk_ok TX12_divide (V := [(217, 1, 12, oX12_laysProposal), (253, 1, 12, oX12_remember), (266, 1, 12, oX12_agrees)]) (S := []) (List.forall_mem_cons.mpr ⟨⟨mX12_laysProposal, n + 15, 0, TX12, 53, rfl, by omega, kX12_217, WX12_laysProposal, rfl, CX12_laysProposal g (n)⟩, (List.forall_mem_cons.mpr ⟨⟨mX12_remember, n + 0, 0, TX12, 53, rfl, by omega, kX12_253, WX12_remember, rfl, CX12_remember g (n)⟩, (List.forall_mem_cons.mpr ⟨⟨mX12_agrees, n + 2, 0, TX12, 53, rfl, by omega, kX12_266, WX12_agrees, rfl, CX12_agrees g (n)⟩, (fun _ h => absurd h List.not_mem_nil)⟩)⟩)⟩) (fun _ h => absurd h List.not_mem_nil) [9] 20 _ _ _ _ ?_
  simp (maxSteps := 1000000) [↓Bool.cond_eq_ite, -Prod.forall, -Prod.exists, -Prod.mk.injEq, jvk, tX12_divide, jtb, jol, jst, jlk, jcmp, jbin, jfl, fX12, jc2, lX12, jcat, jel, lv_args, Value.category, jins, jsrt, jins2, jble, jblt, jf3, List.filter_cons, List.filter_nil, G_m, oX12_laysProposal, oX12_remember, oX12_agrees, joR, -Int32.not_le, -Int32.not_lt, -Int64.not_le, -Int64.not_lt, i3lt, i6lt, mOK_th hok, hd1]
  try simp (disch := omega) [-Prod.forall, -Prod.exists, -Prod.mk.injEq, -Int32.not_le, -Int32.not_lt, -Int64.not_le, -Int64.not_lt, i3lt, i6lt, mOK_th hok, hd1]
  intro v0 τ0 hv0 f0 e11 ha0 hy0
  subst hv0
  have eC : dC (jup σ 322 11 0) = dC σ := rfl
  have g0 : jfr aSc bSc σ τ0 := (sc_th σ 0).tr f0
  have s0 : sR σ τ0 := sc_R g0
  have e11' : τ0.1 322 11 = 0 := e11
  rw [eC] at ha0 hy0 ⊢
  have hch := ac_C ha0 s0
  have hok0 := sc_ok hok g0
  have hh0 : mH τ0 := by unfold mH; rw [g0.2.2 322 2 rfl]; exact hh
  have hok1 : mOK (mRem τ0) := mOK_rem hok0
  by_cases hs : (dC σ).isSome = true
  · have eN0 : mN (mRem τ0) = mN σ := by unfold mN; rw [mRem_f τ0 4 (by decide), g0.2.2 322 4 rfl]
    have e330 : (mRem τ0).1 330 = τ0.1 330 := funext fun j => mRem_o τ0 330 j (by decide) (by simp)
    have e340 : (mRem τ0).1 340 = τ0.1 340 := funext fun j => mRem_o τ0 340 j (by decide) (by simp)
    have e323 : (mRem τ0).1 323 = σ.1 323 := (funext fun j => mRem_d τ0 j).trans s0.1
    have eA : agN (τ0.1 330) (σ.1 323) (mN σ) = agN (mCh σ) (σ.1 323) (mN σ) := agN_congr (fun p hp => hch p (by omega))
    have eR : agR (τ0.1 330) (τ0.1 340) (σ.1 323) (mN σ) = agR (mCh σ) (mPy σ) (σ.1 323) (mN σ) := agR_congr (fun p hp => ⟨hch p (by omega), fun _ => (hy0 hs p hp).2.2⟩)
    refine jvk_ok TX12_divide (V := [(217, 1, 12, oX12_laysProposal), (253, 1, 12, oX12_remember), (266, 1, 12, oX12_agrees)]) (S := []) (List.forall_mem_cons.mpr ⟨⟨mX12_laysProposal, n + 15, 0, TX12, 53, rfl, by omega, kX12_217, WX12_laysProposal, rfl, CX12_laysProposal g (n)⟩, (List.forall_mem_cons.mpr ⟨⟨mX12_remember, n + 0, 0, TX12, 53, rfl, by omega, kX12_253, WX12_remember, rfl, CX12_remember g (n)⟩, (List.forall_mem_cons.mpr ⟨⟨mX12_agrees, n + 2, 0, TX12, 53, rfl, by omega, kX12_266, WX12_agrees, rfl, CX12_agrees g (n)⟩, (fun _ h => absurd h List.not_mem_nil)⟩)⟩)⟩) (fun _ h => absurd h List.not_mem_nil) [] 20 _ _ _ _ ?_
    simp (maxSteps := 1000000) [↓Bool.cond_eq_ite, -Prod.forall, -Prod.exists, -Prod.mk.injEq, jvk, tX12_divide, jtb, jol, jst, jlk, jcmp, jbin, jfl, fX12, jc2, lX12, jcat, jel, lv_args, Value.category, jins, jsrt, jins2, jble, jblt, jf3, List.filter_cons, List.filter_nil, G_m, oX12_laysProposal, oX12_remember, oX12_agrees, joR, -Int32.not_le, -Int32.not_lt, -Int64.not_le, -Int64.not_lt, i3lt, i6lt, hs, hh0, hok1, eN0, e330, e340, e323, eA, eR]
    try simp (disch := omega) [-Prod.forall, -Prod.exists, -Prod.mk.injEq, -Int32.not_le, -Int32.not_lt, -Int64.not_le, -Int64.not_lt, i3lt, i6lt, hs, hh0, hok1, eN0, e330, e340, e323, eA, eR]
    exact hp _ _ (Or.inr ⟨hs, rfl, τ0, g0, e11', rfl⟩)
  · refine jvk_ok TX12_divide (V := [(217, 1, 12, oX12_laysProposal), (253, 1, 12, oX12_remember), (266, 1, 12, oX12_agrees)]) (S := []) (List.forall_mem_cons.mpr ⟨⟨mX12_laysProposal, n + 15, 0, TX12, 53, rfl, by omega, kX12_217, WX12_laysProposal, rfl, CX12_laysProposal g (n)⟩, (List.forall_mem_cons.mpr ⟨⟨mX12_remember, n + 0, 0, TX12, 53, rfl, by omega, kX12_253, WX12_remember, rfl, CX12_remember g (n)⟩, (List.forall_mem_cons.mpr ⟨⟨mX12_agrees, n + 2, 0, TX12, 53, rfl, by omega, kX12_266, WX12_agrees, rfl, CX12_agrees g (n)⟩, (fun _ h => absurd h List.not_mem_nil)⟩)⟩)⟩) (fun _ h => absurd h List.not_mem_nil) [] 20 _ _ _ _ ?_
    simp (maxSteps := 1000000) [↓Bool.cond_eq_ite, -Prod.forall, -Prod.exists, -Prod.mk.injEq, jvk, tX12_divide, jtb, jol, jst, jlk, jcmp, jbin, jfl, fX12, jc2, lX12, jcat, jel, lv_args, Value.category, jins, jsrt, jins2, jble, jblt, jf3, List.filter_cons, List.filter_nil, G_m, oX12_laysProposal, oX12_remember, oX12_agrees, joR, -Int32.not_le, -Int32.not_lt, -Int64.not_le, -Int64.not_lt, i3lt, i6lt, hs]
    try simp (disch := omega) [-Prod.forall, -Prod.exists, -Prod.mk.injEq, -Int32.not_le, -Int32.not_lt, -Int64.not_le, -Int64.not_lt, i3lt, i6lt, hs]
    exact hp _ _ (Or.inl ⟨by simpa using hs, rfl, g0, e11'⟩)
/-- the state behind an exchange -/
def mSw (σ : jM) (p q : Nat) : jM := jup (jup (jup (jup (mRem (jup σ 322 11 0)) 323 (8 + 20 * p + 2) (mD σ q 2)) 323 (8 + 20 * p + 3) (mD σ q 3)) 323 (8 + 20 * q + 2) (mD σ p 2)) 323 (8 + 20 * q + 3) (mD σ p 3)
def mHr (σ : jM) (p : Int32) : Prop := mP σ p = true ∧ 0 ≤ mD σ p.toNatClampNeg 2
def oX12_swapRooms : jO := joRII fun a p q σ => (a = 322 ∧ mOK σ ∧ mH σ ∧ dRm (σ.1 323), fun v τ =>
  (¬ (mHr σ p ∧ mHr σ q) ∧ v = some (.int (-1)) ∧ τ = jup σ 322 11 0) ∨
  (mHr σ p ∧ mHr σ q ∧ (p = q ∨ mD σ p.toNatClampNeg (13 + (mD σ q.toNatClampNeg 2).toNatClampNeg) = 1 ∨ mD σ q.toNatClampNeg (13 + (mD σ p.toNatClampNeg 2).toNatClampNeg) = 1) ∧ v = some (.int (-4)) ∧ τ = jup σ 322 11 0) ∨
  (mHr σ p ∧ mHr σ q ∧ ¬ (p = q ∨ mD σ p.toNatClampNeg (13 + (mD σ q.toNatClampNeg 2).toNatClampNeg) = 1 ∨ mD σ q.toNatClampNeg (13 + (mD σ p.toNatClampNeg 2).toNatClampNeg) = 1) ∧ v = some (.int (mAE (mSw σ p.toNatClampNeg q.toNatClampNeg) (mN σ) (mN σ))) ∧ τ = mSw σ p.toNatClampNeg q.toNatClampNeg))
theorem dRm_up {f : Nat → Int32} (h : dRm f) {p : Nat} {x : Int32} (hx : 0 ≤ x → jin x 6) : dRm (fun j => if j = 8 + 20 * p + 2 then x else f j) := by
  intro q hq h0
  dsimp only at h0 ⊢
  by_cases e : 8 + 20 * q + 2 = 8 + 20 * p + 2
  · rw [if_pos e] at h0 ⊢; exact hx h0
  · rw [if_neg e] at h0 ⊢; exact h q hq h0
theorem mSw_d {σ : jM} {p q : Nat} (h : dRm (σ.1 323)) (hp : 0 ≤ mD σ p 2 → jin (mD σ p 2) 6) (hq : 0 ≤ mD σ q 2 → jin (mD σ q 2) 6) : dRm ((mSw σ p q).1 323) := by
  intro k hk h0
  unfold mSw at h0 ⊢
  simp only [jup_1, mRem_d] at h0 ⊢
  by_cases e1 : 8 + 20 * k + 2 = 8 + 20 * q + 2
  · have e2 : ¬ 8 + 20 * k + 2 = 8 + 20 * q + 3 := by omega
    simp only [e1, e2, and_self, and_false, if_true, if_false] at h0 ⊢
    have e3 : ¬ 8 + 20 * q + 2 = 8 + 20 * q + 3 := by omega
    rw [if_neg (by omega)] at h0 ⊢
    exact hp h0
  · rw [if_neg (by omega), if_neg (by omega), if_neg (by omega)] at h0 ⊢
    by_cases e4 : 8 + 20 * k + 2 = 8 + 20 * p + 2
    · rw [if_pos ⟨trivial, e4⟩] at h0 ⊢
      exact hq h0
    · rw [if_neg (fun z => e4 z.2)] at h0 ⊢
      simp only [if_false, false_and, show ¬ (323 = 322) by decide] at h0 ⊢
      exact h k hk h0
set_option maxRecDepth 100000 in
set_option maxHeartbeats 4000000 in
theorem CX12_swapRooms (g : jG) (n : Nat) : jOk g (n + 5) mX12_swapRooms oX12_swapRooms := by
  refine joRII_ok ?_
  rintro _ p q σ ⟨rfl, hok, hh, h0⟩
  by_cases h1 : mP σ p = true
  · have a1 := (mP_jin hok h1).2
    by_cases h2 : mP σ q = true
    · have a2 := (mP_jin hok h2).2
      by_cases h3 : 0 ≤ mD σ p.toNatClampNeg 2
      · have b1 : jin (mD σ p.toNatClampNeg 2) 6 := h0 _ (jin_lt a1) h3
        by_cases h4 : 0 ≤ mD σ q.toNatClampNeg 2
        · have b2 : jin (mD σ q.toNatClampNeg 2) 6 := h0 _ (jin_lt a2) h4
          have hp1 : mHr σ p := ⟨h1, h3⟩
          have hp2 : mHr σ q := ⟨h2, h4⟩
          by_cases e : p = q
          · refine jCon.ofP (by decide +kernel) (by simp [lg_sl, Value.category]) (fun post hp => ?_)
            refine jvk_ok TX12_swapRooms (V := [(135, 2, 12, oX12_isPerson), (229, 2, 12, oX12_hasRoom), (128, 3, 12, oX12_of), (148, 3, 12, oX12_isRefused), (253, 1, 12, oX12_remember), (238, 1, 12, oX12_allEnvy)]) (S := [(124, 2, 0, oX12_place)]) (List.forall_mem_cons.mpr ⟨⟨mX12_isPerson, n + 1, 1, TX12, 53, rfl, by omega, kX12_135, WX12_isPerson, rfl, CX12_isPerson g (n)⟩, (List.forall_mem_cons.mpr ⟨⟨mX12_hasRoom, n + 2, 1, TX12, 53, rfl, by omega, kX12_229, WX12_hasRoom, rfl, CX12_hasRoom g (n)⟩, (List.forall_mem_cons.mpr ⟨⟨mX12_of, n + 1, 2, TX12, 53, rfl, by omega, kX12_128, WX12_of, rfl, CX12_of g (n)⟩, (List.forall_mem_cons.mpr ⟨⟨mX12_isRefused, n + 2, 2, TX12, 53, rfl, by omega, kX12_148, WX12_isRefused, rfl, CX12_isRefused g (n)⟩, (List.forall_mem_cons.mpr ⟨⟨mX12_remember, n + 0, 0, TX12, 53, rfl, by omega, kX12_253, WX12_remember, rfl, CX12_remember g (n)⟩, (List.forall_mem_cons.mpr ⟨⟨mX12_allEnvy, n + 4, 0, TX12, 53, rfl, by omega, kX12_238, WX12_allEnvy, rfl, CX12_allEnvy g (n)⟩, (fun _ h => absurd h List.not_mem_nil)⟩)⟩)⟩)⟩)⟩)⟩) (List.forall_mem_cons.mpr ⟨⟨mX12_place, n + 0, by omega, Or.inl kX12_124, WX12_place, CX12_place g (n)⟩, (fun _ h => absurd h List.not_mem_nil)⟩) [] 60 _ _ _ _ ?_
            simp (maxSteps := 1000000) [↓Bool.cond_eq_ite, -Prod.forall, -Prod.exists, -Prod.mk.injEq, jvk, tX12_swapRooms, jtb, jol, jst, jlk, jcmp, jbin, jfl, fX12, jc2, lX12, jcat, jel, lv_args, Value.category, jins, jsrt, jins2, jble, jblt, jf3, List.filter_cons, List.filter_nil, G_m, oX12_isPerson, oX12_hasRoom, oX12_of, oX12_isRefused, oX12_remember, oX12_place, oX12_allEnvy, joII, joR, joRI, joRII, -Int32.not_le, -Int32.not_lt, -Int64.not_le, -Int64.not_lt, i3lt, i6lt, mD_th, mP_th, mR_th, mN_th, mLiv_th, mP_th, mD_th, h1, h2, a1, a2, h3, h4, e, jin_c, tn_c]
            try simp (disch := omega) [-Prod.forall, -Prod.exists, -Prod.mk.injEq, -Int32.not_le, -Int32.not_lt, -Int64.not_le, -Int64.not_lt, i3lt, i6lt, mD_th, mP_th, mR_th, mN_th, mLiv_th, mP_th, mD_th, h1, h2, a1, a2, h3, h4, e, jin_c, tn_c]
            exact hp _ _ (Or.inr (Or.inl ⟨hp1, hp2, Or.inl e, rfl, rfl⟩))
          · by_cases h5 : mD σ p.toNatClampNeg (13 + (mD σ q.toNatClampNeg 2).toNatClampNeg) = 1
            · refine jCon.ofP (by decide +kernel) (by simp [lg_sl, Value.category]) (fun post hp => ?_)
              refine jvk_ok TX12_swapRooms (V := [(135, 2, 12, oX12_isPerson), (229, 2, 12, oX12_hasRoom), (128, 3, 12, oX12_of), (148, 3, 12, oX12_isRefused), (253, 1, 12, oX12_remember), (238, 1, 12, oX12_allEnvy)]) (S := [(124, 2, 0, oX12_place)]) (List.forall_mem_cons.mpr ⟨⟨mX12_isPerson, n + 1, 1, TX12, 53, rfl, by omega, kX12_135, WX12_isPerson, rfl, CX12_isPerson g (n)⟩, (List.forall_mem_cons.mpr ⟨⟨mX12_hasRoom, n + 2, 1, TX12, 53, rfl, by omega, kX12_229, WX12_hasRoom, rfl, CX12_hasRoom g (n)⟩, (List.forall_mem_cons.mpr ⟨⟨mX12_of, n + 1, 2, TX12, 53, rfl, by omega, kX12_128, WX12_of, rfl, CX12_of g (n)⟩, (List.forall_mem_cons.mpr ⟨⟨mX12_isRefused, n + 2, 2, TX12, 53, rfl, by omega, kX12_148, WX12_isRefused, rfl, CX12_isRefused g (n)⟩, (List.forall_mem_cons.mpr ⟨⟨mX12_remember, n + 0, 0, TX12, 53, rfl, by omega, kX12_253, WX12_remember, rfl, CX12_remember g (n)⟩, (List.forall_mem_cons.mpr ⟨⟨mX12_allEnvy, n + 4, 0, TX12, 53, rfl, by omega, kX12_238, WX12_allEnvy, rfl, CX12_allEnvy g (n)⟩, (fun _ h => absurd h List.not_mem_nil)⟩)⟩)⟩)⟩)⟩)⟩) (List.forall_mem_cons.mpr ⟨⟨mX12_place, n + 0, by omega, Or.inl kX12_124, WX12_place, CX12_place g (n)⟩, (fun _ h => absurd h List.not_mem_nil)⟩) [] 60 _ _ _ _ ?_
              simp (maxSteps := 1000000) [↓Bool.cond_eq_ite, -Prod.forall, -Prod.exists, -Prod.mk.injEq, jvk, tX12_swapRooms, jtb, jol, jst, jlk, jcmp, jbin, jfl, fX12, jc2, lX12, jcat, jel, lv_args, Value.category, jins, jsrt, jins2, jble, jblt, jf3, List.filter_cons, List.filter_nil, G_m, oX12_isPerson, oX12_hasRoom, oX12_of, oX12_isRefused, oX12_remember, oX12_place, oX12_allEnvy, joII, joR, joRI, joRII, -Int32.not_le, -Int32.not_lt, -Int64.not_le, -Int64.not_lt, i3lt, i6lt, mD_th, mP_th, mR_th, mN_th, mLiv_th, mP_th, mD_th, h1, h2, a1, a2, b1, b2, h3, h4, e, h5, jin_c, tn_c]
              try simp (disch := omega) [-Prod.forall, -Prod.exists, -Prod.mk.injEq, -Int32.not_le, -Int32.not_lt, -Int64.not_le, -Int64.not_lt, i3lt, i6lt, mD_th, mP_th, mR_th, mN_th, mLiv_th, mP_th, mD_th, h1, h2, a1, a2, b1, b2, h3, h4, e, h5, jin_c, tn_c]
              exact hp _ _ (Or.inr (Or.inl ⟨hp1, hp2, Or.inr (Or.inl h5), rfl, rfl⟩))
            · by_cases h6 : mD σ q.toNatClampNeg (13 + (mD σ p.toNatClampNeg 2).toNatClampNeg) = 1
              · refine jCon.ofP (by decide +kernel) (by simp [lg_sl, Value.category]) (fun post hp => ?_)
                refine jvk_ok TX12_swapRooms (V := [(135, 2, 12, oX12_isPerson), (229, 2, 12, oX12_hasRoom), (128, 3, 12, oX12_of), (148, 3, 12, oX12_isRefused), (253, 1, 12, oX12_remember), (238, 1, 12, oX12_allEnvy)]) (S := [(124, 2, 0, oX12_place)]) (List.forall_mem_cons.mpr ⟨⟨mX12_isPerson, n + 1, 1, TX12, 53, rfl, by omega, kX12_135, WX12_isPerson, rfl, CX12_isPerson g (n)⟩, (List.forall_mem_cons.mpr ⟨⟨mX12_hasRoom, n + 2, 1, TX12, 53, rfl, by omega, kX12_229, WX12_hasRoom, rfl, CX12_hasRoom g (n)⟩, (List.forall_mem_cons.mpr ⟨⟨mX12_of, n + 1, 2, TX12, 53, rfl, by omega, kX12_128, WX12_of, rfl, CX12_of g (n)⟩, (List.forall_mem_cons.mpr ⟨⟨mX12_isRefused, n + 2, 2, TX12, 53, rfl, by omega, kX12_148, WX12_isRefused, rfl, CX12_isRefused g (n)⟩, (List.forall_mem_cons.mpr ⟨⟨mX12_remember, n + 0, 0, TX12, 53, rfl, by omega, kX12_253, WX12_remember, rfl, CX12_remember g (n)⟩, (List.forall_mem_cons.mpr ⟨⟨mX12_allEnvy, n + 4, 0, TX12, 53, rfl, by omega, kX12_238, WX12_allEnvy, rfl, CX12_allEnvy g (n)⟩, (fun _ h => absurd h List.not_mem_nil)⟩)⟩)⟩)⟩)⟩)⟩) (List.forall_mem_cons.mpr ⟨⟨mX12_place, n + 0, by omega, Or.inl kX12_124, WX12_place, CX12_place g (n)⟩, (fun _ h => absurd h List.not_mem_nil)⟩) [] 60 _ _ _ _ ?_
                simp (maxSteps := 1000000) [↓Bool.cond_eq_ite, -Prod.forall, -Prod.exists, -Prod.mk.injEq, jvk, tX12_swapRooms, jtb, jol, jst, jlk, jcmp, jbin, jfl, fX12, jc2, lX12, jcat, jel, lv_args, Value.category, jins, jsrt, jins2, jble, jblt, jf3, List.filter_cons, List.filter_nil, G_m, oX12_isPerson, oX12_hasRoom, oX12_of, oX12_isRefused, oX12_remember, oX12_place, oX12_allEnvy, joII, joR, joRI, joRII, -Int32.not_le, -Int32.not_lt, -Int64.not_le, -Int64.not_lt, i3lt, i6lt, mD_th, mP_th, mR_th, mN_th, mLiv_th, mP_th, mD_th, h1, h2, a1, a2, b1, b2, h3, h4, e, h5, h6, jin_c, tn_c]
                try simp (disch := omega) [-Prod.forall, -Prod.exists, -Prod.mk.injEq, -Int32.not_le, -Int32.not_lt, -Int64.not_le, -Int64.not_lt, i3lt, i6lt, mD_th, mP_th, mR_th, mN_th, mLiv_th, mP_th, mD_th, h1, h2, a1, a2, b1, b2, h3, h4, e, h5, h6, jin_c, tn_c]
                exact hp _ _ (Or.inr (Or.inl ⟨hp1, hp2, Or.inr (Or.inr h6), rfl, rfl⟩))
              · have hP := jin_lt a1
                have hQ := jin_lt a2
                have hne : ¬ p.toNatClampNeg = q.toNatClampNeg := fun z => e ((jin_ne a1 a2).mpr z)
                have c1 := jN_208 (k := 8 + 20 * p.toNatClampNeg + 2) (by omega)
                have c2 := jN_208 (k := 8 + 20 * p.toNatClampNeg + 3) (by omega)
                have c3 := jN_208 (k := 8 + 20 * q.toNatClampNeg + 2) (by omega)
                have c4 := jN_208 (k := 8 + 20 * q.toNatClampNeg + 3) (by omega)
                have m1 : mpl p 2 = 8 + 20 * p.toNatClampNeg + 2 := rfl
                have m2 : mpl p 3 = 8 + 20 * p.toNatClampNeg + 3 := rfl
                have m3 : mpl q 2 = 8 + 20 * q.toNatClampNeg + 2 := rfl
                have m4 : mpl q 3 = 8 + 20 * q.toNatClampNeg + 3 := rfl
                have r1 : ∀ k w, mD (mRem (jup σ 322 11 0)) k w = mD σ k w := fun k w => mRem_d _ _
                have r2 : ∀ x, mD (jup (mRem (jup σ 322 11 0)) 323 (8 + 20 * p.toNatClampNeg + 2) x) q.toNatClampNeg 3 = mD σ q.toNatClampNeg 3 := fun x => by
                  unfold mD
                  rw [jup_1, if_neg (by omega)]
                  exact mRem_d _ _
                have hh1 : mH (jup σ 322 11 0) := hh
                have eS : jup (jup (jup (jup (mRem (jup σ 322 11 0)) 323 (8 + 20 * p.toNatClampNeg + 2) (mD σ q.toNatClampNeg 2)) 323 (8 + 20 * p.toNatClampNeg + 3) (mD σ q.toNatClampNeg 3)) 323 (8 + 20 * q.toNatClampNeg + 2) (mD σ p.toNatClampNeg 2)) 323 (8 + 20 * q.toNatClampNeg + 3) (mD σ p.toNatClampNeg 3) = mSw σ p.toNatClampNeg q.toNatClampNeg := rfl
                have hok2 : mOK (mSw σ p.toNatClampNeg q.toNatClampNeg) := mOK_up (mOK_up (mOK_up (mOK_up (mOK_rem (mOK_th hok 0)) _ _) _ _) _ _) _ _
                have hd2 := mSw_d h0 (fun _ => b1) (fun _ => b2)
                have eN2 : mN (mSw σ p.toNatClampNeg q.toNatClampNeg) = mN σ := by
                  unfold mSw mN
                  simp only [jup_1]
                  rw [if_neg (by omega), if_neg (by omega), if_neg (by omega), if_neg (by omega), mRem_f _ 4 (by decide)]
                  rfl
                refine jCon.ofP (by decide +kernel) (by simp [lg_sl, Value.category]) (fun post hp => ?_)
                refine jvk_ok TX12_swapRooms (V := [(135, 2, 12, oX12_isPerson), (229, 2, 12, oX12_hasRoom), (128, 3, 12, oX12_of), (148, 3, 12, oX12_isRefused), (253, 1, 12, oX12_remember), (238, 1, 12, oX12_allEnvy)]) (S := [(124, 2, 0, oX12_place)]) (List.forall_mem_cons.mpr ⟨⟨mX12_isPerson, n + 1, 1, TX12, 53, rfl, by omega, kX12_135, WX12_isPerson, rfl, CX12_isPerson g (n)⟩, (List.forall_mem_cons.mpr ⟨⟨mX12_hasRoom, n + 2, 1, TX12, 53, rfl, by omega, kX12_229, WX12_hasRoom, rfl, CX12_hasRoom g (n)⟩, (List.forall_mem_cons.mpr ⟨⟨mX12_of, n + 1, 2, TX12, 53, rfl, by omega, kX12_128, WX12_of, rfl, CX12_of g (n)⟩, (List.forall_mem_cons.mpr ⟨⟨mX12_isRefused, n + 2, 2, TX12, 53, rfl, by omega, kX12_148, WX12_isRefused, rfl, CX12_isRefused g (n)⟩, (List.forall_mem_cons.mpr ⟨⟨mX12_remember, n + 0, 0, TX12, 53, rfl, by omega, kX12_253, WX12_remember, rfl, CX12_remember g (n)⟩, (List.forall_mem_cons.mpr ⟨⟨mX12_allEnvy, n + 4, 0, TX12, 53, rfl, by omega, kX12_238, WX12_allEnvy, rfl, CX12_allEnvy g (n)⟩, (fun _ h => absurd h List.not_mem_nil)⟩)⟩)⟩)⟩)⟩)⟩) (List.forall_mem_cons.mpr ⟨⟨mX12_place, n + 0, by omega, Or.inl kX12_124, WX12_place, CX12_place g (n)⟩, (fun _ h => absurd h List.not_mem_nil)⟩) [81] 60 _ _ _ _ ?_
                simp (maxSteps := 1000000) [↓Bool.cond_eq_ite, -Prod.forall, -Prod.exists, -Prod.mk.injEq, jvk, tX12_swapRooms, jtb, jol, jst, jlk, jcmp, jbin, jfl, fX12, jc2, lX12, jcat, jel, lv_args, Value.category, jins, jsrt, jins2, jble, jblt, jf3, List.filter_cons, List.filter_nil, G_m, oX12_isPerson, oX12_hasRoom, oX12_of, oX12_isRefused, oX12_remember, oX12_place, oX12_allEnvy, joII, joR, joRI, joRII, -Int32.not_le, -Int32.not_lt, -Int64.not_le, -Int64.not_lt, i3lt, i6lt, mD_th, mP_th, mR_th, mN_th, mLiv_th, mP_th, mD_th, h1, h2, a1, a2, b1, b2, h3, h4, e, h5, h6, jin_c, tn_c]
                try simp (disch := omega) [-Prod.forall, -Prod.exists, -Prod.mk.injEq, -Int32.not_le, -Int32.not_lt, -Int64.not_le, -Int64.not_lt, i3lt, i6lt, mD_th, mP_th, mR_th, mN_th, mLiv_th, mP_th, mD_th, h1, h2, a1, a2, b1, b2, h3, h4, e, h5, h6, jin_c, tn_c]
                refine jvk_ok TX12_swapRooms (V := [(135, 2, 12, oX12_isPerson), (229, 2, 12, oX12_hasRoom), (128, 3, 12, oX12_of), (148, 3, 12, oX12_isRefused), (253, 1, 12, oX12_remember), (238, 1, 12, oX12_allEnvy)]) (S := [(124, 2, 0, oX12_place)]) (List.forall_mem_cons.mpr ⟨⟨mX12_isPerson, n + 1, 1, TX12, 53, rfl, by omega, kX12_135, WX12_isPerson, rfl, CX12_isPerson g (n)⟩, (List.forall_mem_cons.mpr ⟨⟨mX12_hasRoom, n + 2, 1, TX12, 53, rfl, by omega, kX12_229, WX12_hasRoom, rfl, CX12_hasRoom g (n)⟩, (List.forall_mem_cons.mpr ⟨⟨mX12_of, n + 1, 2, TX12, 53, rfl, by omega, kX12_128, WX12_of, rfl, CX12_of g (n)⟩, (List.forall_mem_cons.mpr ⟨⟨mX12_isRefused, n + 2, 2, TX12, 53, rfl, by omega, kX12_148, WX12_isRefused, rfl, CX12_isRefused g (n)⟩, (List.forall_mem_cons.mpr ⟨⟨mX12_remember, n + 0, 0, TX12, 53, rfl, by omega, kX12_253, WX12_remember, rfl, CX12_remember g (n)⟩, (List.forall_mem_cons.mpr ⟨⟨mX12_allEnvy, n + 4, 0, TX12, 53, rfl, by omega, kX12_238, WX12_allEnvy, rfl, CX12_allEnvy g (n)⟩, (fun _ h => absurd h List.not_mem_nil)⟩)⟩)⟩)⟩)⟩)⟩) (List.forall_mem_cons.mpr ⟨⟨mX12_place, n + 0, by omega, Or.inl kX12_124, WX12_place, CX12_place g (n)⟩, (fun _ h => absurd h List.not_mem_nil)⟩) [145] 60 _ _ _ _ ?_
                simp (maxSteps := 1000000) [↓Bool.cond_eq_ite, -Prod.forall, -Prod.exists, -Prod.mk.injEq, jvk, tX12_swapRooms, jtb, jol, jst, jlk, jcmp, jbin, jfl, fX12, jc2, lX12, jcat, jel, lv_args, Value.category, jins, jsrt, jins2, jble, jblt, jf3, List.filter_cons, List.filter_nil, G_m, oX12_isPerson, oX12_hasRoom, oX12_of, oX12_isRefused, oX12_remember, oX12_place, oX12_allEnvy, joII, joR, joRI, joRII, -Int32.not_le, -Int32.not_lt, -Int64.not_le, -Int64.not_lt, i3lt, i6lt, hh1, a1, a2, jin_c, tn_c, c1, c2, c3, c4, m1, m2, m3, m4, r1, r2]
                try simp (disch := omega) [-Prod.forall, -Prod.exists, -Prod.mk.injEq, -Int32.not_le, -Int32.not_lt, -Int64.not_le, -Int64.not_lt, i3lt, i6lt, hh1, a1, a2, jin_c, tn_c, c1, c2, c3, c4, m1, m2, m3, m4, r1, r2]
                rw [eS]
                refine jvk_ok TX12_swapRooms (V := [(135, 2, 12, oX12_isPerson), (229, 2, 12, oX12_hasRoom), (128, 3, 12, oX12_of), (148, 3, 12, oX12_isRefused), (253, 1, 12, oX12_remember), (238, 1, 12, oX12_allEnvy)]) (S := [(124, 2, 0, oX12_place)]) (List.forall_mem_cons.mpr ⟨⟨mX12_isPerson, n + 1, 1, TX12, 53, rfl, by omega, kX12_135, WX12_isPerson, rfl, CX12_isPerson g (n)⟩, (List.forall_mem_cons.mpr ⟨⟨mX12_hasRoom, n + 2, 1, TX12, 53, rfl, by omega, kX12_229, WX12_hasRoom, rfl, CX12_hasRoom g (n)⟩, (List.forall_mem_cons.mpr ⟨⟨mX12_of, n + 1, 2, TX12, 53, rfl, by omega, kX12_128, WX12_of, rfl, CX12_of g (n)⟩, (List.forall_mem_cons.mpr ⟨⟨mX12_isRefused, n + 2, 2, TX12, 53, rfl, by omega, kX12_148, WX12_isRefused, rfl, CX12_isRefused g (n)⟩, (List.forall_mem_cons.mpr ⟨⟨mX12_remember, n + 0, 0, TX12, 53, rfl, by omega, kX12_253, WX12_remember, rfl, CX12_remember g (n)⟩, (List.forall_mem_cons.mpr ⟨⟨mX12_allEnvy, n + 4, 0, TX12, 53, rfl, by omega, kX12_238, WX12_allEnvy, rfl, CX12_allEnvy g (n)⟩, (fun _ h => absurd h List.not_mem_nil)⟩)⟩)⟩)⟩)⟩)⟩) (List.forall_mem_cons.mpr ⟨⟨mX12_place, n + 0, by omega, Or.inl kX12_124, WX12_place, CX12_place g (n)⟩, (fun _ h => absurd h List.not_mem_nil)⟩) [] 60 _ _ _ _ ?_
                simp (maxSteps := 1000000) [↓Bool.cond_eq_ite, -Prod.forall, -Prod.exists, -Prod.mk.injEq, jvk, tX12_swapRooms, jtb, jol, jst, jlk, jcmp, jbin, jfl, fX12, jc2, lX12, jcat, jel, lv_args, Value.category, jins, jsrt, jins2, jble, jblt, jf3, List.filter_cons, List.filter_nil, G_m, oX12_isPerson, oX12_hasRoom, oX12_of, oX12_isRefused, oX12_remember, oX12_place, oX12_allEnvy, joII, joR, joRI, joRII, -Int32.not_le, -Int32.not_lt, -Int64.not_le, -Int64.not_lt, i3lt, i6lt, hok2, hd2, eN2]
                try simp (disch := omega) [-Prod.forall, -Prod.exists, -Prod.mk.injEq, -Int32.not_le, -Int32.not_lt, -Int64.not_le, -Int64.not_lt, i3lt, i6lt, hok2, hd2, eN2]
                exact hp _ _ (Or.inr (Or.inr ⟨hp1, hp2, fun z => z.elim e (fun z => z.elim h5 h6), rfl, rfl⟩))
        · refine jCon.ofP (by decide +kernel) (by simp [lg_sl, Value.category]) (fun post hp => ?_)
          refine jvk_ok TX12_swapRooms (V := [(135, 2, 12, oX12_isPerson), (229, 2, 12, oX12_hasRoom), (128, 3, 12, oX12_of), (148, 3, 12, oX12_isRefused), (253, 1, 12, oX12_remember), (238, 1, 12, oX12_allEnvy)]) (S := [(124, 2, 0, oX12_place)]) (List.forall_mem_cons.mpr ⟨⟨mX12_isPerson, n + 1, 1, TX12, 53, rfl, by omega, kX12_135, WX12_isPerson, rfl, CX12_isPerson g (n)⟩, (List.forall_mem_cons.mpr ⟨⟨mX12_hasRoom, n + 2, 1, TX12, 53, rfl, by omega, kX12_229, WX12_hasRoom, rfl, CX12_hasRoom g (n)⟩, (List.forall_mem_cons.mpr ⟨⟨mX12_of, n + 1, 2, TX12, 53, rfl, by omega, kX12_128, WX12_of, rfl, CX12_of g (n)⟩, (List.forall_mem_cons.mpr ⟨⟨mX12_isRefused, n + 2, 2, TX12, 53, rfl, by omega, kX12_148, WX12_isRefused, rfl, CX12_isRefused g (n)⟩, (List.forall_mem_cons.mpr ⟨⟨mX12_remember, n + 0, 0, TX12, 53, rfl, by omega, kX12_253, WX12_remember, rfl, CX12_remember g (n)⟩, (List.forall_mem_cons.mpr ⟨⟨mX12_allEnvy, n + 4, 0, TX12, 53, rfl, by omega, kX12_238, WX12_allEnvy, rfl, CX12_allEnvy g (n)⟩, (fun _ h => absurd h List.not_mem_nil)⟩)⟩)⟩)⟩)⟩)⟩) (List.forall_mem_cons.mpr ⟨⟨mX12_place, n + 0, by omega, Or.inl kX12_124, WX12_place, CX12_place g (n)⟩, (fun _ h => absurd h List.not_mem_nil)⟩) [] 60 _ _ _ _ ?_
          simp (maxSteps := 1000000) [↓Bool.cond_eq_ite, -Prod.forall, -Prod.exists, -Prod.mk.injEq, jvk, tX12_swapRooms, jtb, jol, jst, jlk, jcmp, jbin, jfl, fX12, jc2, lX12, jcat, jel, lv_args, Value.category, jins, jsrt, jins2, jble, jblt, jf3, List.filter_cons, List.filter_nil, G_m, oX12_isPerson, oX12_hasRoom, oX12_of, oX12_isRefused, oX12_remember, oX12_place, oX12_allEnvy, joII, joR, joRI, joRII, -Int32.not_le, -Int32.not_lt, -Int64.not_le, -Int64.not_lt, i3lt, i6lt, mD_th, mP_th, mR_th, mN_th, mLiv_th, mP_th, mD_th, h1, h2, a1, a2, h3, h4, jin_c, tn_c]
          try simp (disch := omega) [-Prod.forall, -Prod.exists, -Prod.mk.injEq, -Int32.not_le, -Int32.not_lt, -Int64.not_le, -Int64.not_lt, i3lt, i6lt, mD_th, mP_th, mR_th, mN_th, mLiv_th, mP_th, mD_th, h1, h2, a1, a2, h3, h4, jin_c, tn_c]
          exact hp _ _ (Or.inl ⟨fun z => h4 z.2.2, rfl, rfl⟩)
      · refine jCon.ofP (by decide +kernel) (by simp [lg_sl, Value.category]) (fun post hp => ?_)
        refine jvk_ok TX12_swapRooms (V := [(135, 2, 12, oX12_isPerson), (229, 2, 12, oX12_hasRoom), (128, 3, 12, oX12_of), (148, 3, 12, oX12_isRefused), (253, 1, 12, oX12_remember), (238, 1, 12, oX12_allEnvy)]) (S := [(124, 2, 0, oX12_place)]) (List.forall_mem_cons.mpr ⟨⟨mX12_isPerson, n + 1, 1, TX12, 53, rfl, by omega, kX12_135, WX12_isPerson, rfl, CX12_isPerson g (n)⟩, (List.forall_mem_cons.mpr ⟨⟨mX12_hasRoom, n + 2, 1, TX12, 53, rfl, by omega, kX12_229, WX12_hasRoom, rfl, CX12_hasRoom g (n)⟩, (List.forall_mem_cons.mpr ⟨⟨mX12_of, n + 1, 2, TX12, 53, rfl, by omega, kX12_128, WX12_of, rfl, CX12_of g (n)⟩, (List.forall_mem_cons.mpr ⟨⟨mX12_isRefused, n + 2, 2, TX12, 53, rfl, by omega, kX12_148, WX12_isRefused, rfl, CX12_isRefused g (n)⟩, (List.forall_mem_cons.mpr ⟨⟨mX12_remember, n + 0, 0, TX12, 53, rfl, by omega, kX12_253, WX12_remember, rfl, CX12_remember g (n)⟩, (List.forall_mem_cons.mpr ⟨⟨mX12_allEnvy, n + 4, 0, TX12, 53, rfl, by omega, kX12_238, WX12_allEnvy, rfl, CX12_allEnvy g (n)⟩, (fun _ h => absurd h List.not_mem_nil)⟩)⟩)⟩)⟩)⟩)⟩) (List.forall_mem_cons.mpr ⟨⟨mX12_place, n + 0, by omega, Or.inl kX12_124, WX12_place, CX12_place g (n)⟩, (fun _ h => absurd h List.not_mem_nil)⟩) [] 60 _ _ _ _ ?_
        simp (maxSteps := 1000000) [↓Bool.cond_eq_ite, -Prod.forall, -Prod.exists, -Prod.mk.injEq, jvk, tX12_swapRooms, jtb, jol, jst, jlk, jcmp, jbin, jfl, fX12, jc2, lX12, jcat, jel, lv_args, Value.category, jins, jsrt, jins2, jble, jblt, jf3, List.filter_cons, List.filter_nil, G_m, oX12_isPerson, oX12_hasRoom, oX12_of, oX12_isRefused, oX12_remember, oX12_place, oX12_allEnvy, joII, joR, joRI, joRII, -Int32.not_le, -Int32.not_lt, -Int64.not_le, -Int64.not_lt, i3lt, i6lt, mD_th, mP_th, mR_th, mN_th, mLiv_th, mP_th, mD_th, h1, h2, a1, a2, h3, jin_c, tn_c]
        try simp (disch := omega) [-Prod.forall, -Prod.exists, -Prod.mk.injEq, -Int32.not_le, -Int32.not_lt, -Int64.not_le, -Int64.not_lt, i3lt, i6lt, mD_th, mP_th, mR_th, mN_th, mLiv_th, mP_th, mD_th, h1, h2, a1, a2, h3, jin_c, tn_c]
        exact hp _ _ (Or.inl ⟨fun z => h3 z.1.2, rfl, rfl⟩)
    · refine jCon.ofP (by decide +kernel) (by simp [lg_sl, Value.category]) (fun post hp => ?_)
      refine jvk_ok TX12_swapRooms (V := [(135, 2, 12, oX12_isPerson), (229, 2, 12, oX12_hasRoom), (128, 3, 12, oX12_of), (148, 3, 12, oX12_isRefused), (253, 1, 12, oX12_remember), (238, 1, 12, oX12_allEnvy)]) (S := [(124, 2, 0, oX12_place)]) (List.forall_mem_cons.mpr ⟨⟨mX12_isPerson, n + 1, 1, TX12, 53, rfl, by omega, kX12_135, WX12_isPerson, rfl, CX12_isPerson g (n)⟩, (List.forall_mem_cons.mpr ⟨⟨mX12_hasRoom, n + 2, 1, TX12, 53, rfl, by omega, kX12_229, WX12_hasRoom, rfl, CX12_hasRoom g (n)⟩, (List.forall_mem_cons.mpr ⟨⟨mX12_of, n + 1, 2, TX12, 53, rfl, by omega, kX12_128, WX12_of, rfl, CX12_of g (n)⟩, (List.forall_mem_cons.mpr ⟨⟨mX12_isRefused, n + 2, 2, TX12, 53, rfl, by omega, kX12_148, WX12_isRefused, rfl, CX12_isRefused g (n)⟩, (List.forall_mem_cons.mpr ⟨⟨mX12_remember, n + 0, 0, TX12, 53, rfl, by omega, kX12_253, WX12_remember, rfl, CX12_remember g (n)⟩, (List.forall_mem_cons.mpr ⟨⟨mX12_allEnvy, n + 4, 0, TX12, 53, rfl, by omega, kX12_238, WX12_allEnvy, rfl, CX12_allEnvy g (n)⟩, (fun _ h => absurd h List.not_mem_nil)⟩)⟩)⟩)⟩)⟩)⟩) (List.forall_mem_cons.mpr ⟨⟨mX12_place, n + 0, by omega, Or.inl kX12_124, WX12_place, CX12_place g (n)⟩, (fun _ h => absurd h List.not_mem_nil)⟩) [] 60 _ _ _ _ ?_
      simp (maxSteps := 1000000) [↓Bool.cond_eq_ite, -Prod.forall, -Prod.exists, -Prod.mk.injEq, jvk, tX12_swapRooms, jtb, jol, jst, jlk, jcmp, jbin, jfl, fX12, jc2, lX12, jcat, jel, lv_args, Value.category, jins, jsrt, jins2, jble, jblt, jf3, List.filter_cons, List.filter_nil, G_m, oX12_isPerson, oX12_hasRoom, oX12_of, oX12_isRefused, oX12_remember, oX12_place, oX12_allEnvy, joII, joR, joRI, joRII, -Int32.not_le, -Int32.not_lt, -Int64.not_le, -Int64.not_lt, i3lt, i6lt, mD_th, mP_th, mR_th, mN_th, mLiv_th, mP_th, mD_th, h1, h2]
      try simp (disch := omega) [-Prod.forall, -Prod.exists, -Prod.mk.injEq, -Int32.not_le, -Int32.not_lt, -Int64.not_le, -Int64.not_lt, i3lt, i6lt, mD_th, mP_th, mR_th, mN_th, mLiv_th, mP_th, mD_th, h1, h2]
      exact hp _ _ (Or.inl ⟨fun z => h2 z.2.1, rfl, rfl⟩)
  · refine jCon.ofP (by decide +kernel) (by simp [lg_sl, Value.category]) (fun post hp => ?_)
    refine jvk_ok TX12_swapRooms (V := [(135, 2, 12, oX12_isPerson), (229, 2, 12, oX12_hasRoom), (128, 3, 12, oX12_of), (148, 3, 12, oX12_isRefused), (253, 1, 12, oX12_remember), (238, 1, 12, oX12_allEnvy)]) (S := [(124, 2, 0, oX12_place)]) (List.forall_mem_cons.mpr ⟨⟨mX12_isPerson, n + 1, 1, TX12, 53, rfl, by omega, kX12_135, WX12_isPerson, rfl, CX12_isPerson g (n)⟩, (List.forall_mem_cons.mpr ⟨⟨mX12_hasRoom, n + 2, 1, TX12, 53, rfl, by omega, kX12_229, WX12_hasRoom, rfl, CX12_hasRoom g (n)⟩, (List.forall_mem_cons.mpr ⟨⟨mX12_of, n + 1, 2, TX12, 53, rfl, by omega, kX12_128, WX12_of, rfl, CX12_of g (n)⟩, (List.forall_mem_cons.mpr ⟨⟨mX12_isRefused, n + 2, 2, TX12, 53, rfl, by omega, kX12_148, WX12_isRefused, rfl, CX12_isRefused g (n)⟩, (List.forall_mem_cons.mpr ⟨⟨mX12_remember, n + 0, 0, TX12, 53, rfl, by omega, kX12_253, WX12_remember, rfl, CX12_remember g (n)⟩, (List.forall_mem_cons.mpr ⟨⟨mX12_allEnvy, n + 4, 0, TX12, 53, rfl, by omega, kX12_238, WX12_allEnvy, rfl, CX12_allEnvy g (n)⟩, (fun _ h => absurd h List.not_mem_nil)⟩)⟩)⟩)⟩)⟩)⟩) (List.forall_mem_cons.mpr ⟨⟨mX12_place, n + 0, by omega, Or.inl kX12_124, WX12_place, CX12_place g (n)⟩, (fun _ h => absurd h List.not_mem_nil)⟩) [] 60 _ _ _ _ ?_
    simp (maxSteps := 1000000) [↓Bool.cond_eq_ite, -Prod.forall, -Prod.exists, -Prod.mk.injEq, jvk, tX12_swapRooms, jtb, jol, jst, jlk, jcmp, jbin, jfl, fX12, jc2, lX12, jcat, jel, lv_args, Value.category, jins, jsrt, jins2, jble, jblt, jf3, List.filter_cons, List.filter_nil, G_m, oX12_isPerson, oX12_hasRoom, oX12_of, oX12_isRefused, oX12_remember, oX12_place, oX12_allEnvy, joII, joR, joRI, joRII, -Int32.not_le, -Int32.not_lt, -Int64.not_le, -Int64.not_lt, i3lt, i6lt, mD_th, mP_th, mR_th, mN_th, mLiv_th, mP_th, mD_th, h1]
    try simp (disch := omega) [-Prod.forall, -Prod.exists, -Prod.mk.injEq, -Int32.not_le, -Int32.not_lt, -Int64.not_le, -Int64.not_lt, i3lt, i6lt, mD_th, mP_th, mR_th, mN_th, mLiv_th, mP_th, mD_th, h1]
    exact hp _ _ (Or.inl ⟨fun z => h1 z.1.1, rfl, rfl⟩)
