/-! the reference: its history, its changes -/
def mSh (σ : jM) (k : Nat) : jM := (fun i j => if i = 324 ∧ j < k then σ.1 324 (j + 208) else σ.1 i j, σ.2)
def mCp (σ : jM) (h k : Nat) : jM := (fun i j => if i = 324 ∧ h * 208 ≤ j ∧ j < h * 208 + k then σ.1 323 (j - h * 208) else σ.1 i j, σ.2)
def mUn (σ : jM) (h k : Nat) : jM := (fun i j => if i = 323 ∧ j < k then σ.1 324 (h * 208 + j) else σ.1 i j, σ.2)
theorem mSh_s (σ : jM) (k : Nat) : jup (mSh σ k) 324 k (σ.1 324 (k + 208)) = mSh σ (k + 1) := by
  unfold jup mSh; congr 1; funext i j; grind
theorem mCp_s (σ : jM) (h k : Nat) : jup (mCp σ h k) 324 (h * 208 + k) (σ.1 323 k) = mCp σ h (k + 1) := by
  unfold jup mCp; congr 1; funext i j; grind
theorem mUn_s (σ : jM) (h k : Nat) : jup (mUn σ h k) 323 k (σ.1 324 (h * 208 + k)) = mUn σ h (k + 1) := by
  unfold jup mUn; congr 1; funext i j; grind
theorem mSh_0 (σ : jM) : mSh σ 0 = σ := by unfold mSh; simp
theorem mCp_0 (σ : jM) (h : Nat) : mCp σ h 0 = σ := by
  have : (fun i j => if i = 324 ∧ h * 208 ≤ j ∧ j < h * 208 + 0 then σ.1 323 (j - h * 208) else σ.1 i j) = σ.1 := by
    funext i j
    rw [if_neg (by omega)]
  unfold mCp
  rw [this]
theorem mUn_0 (σ : jM) (h : Nat) : mUn σ h 0 = σ := by unfold mUn; simp
theorem mSh_1 (σ : jM) (k i j : Nat) : (mSh σ k).1 i j = if i = 324 ∧ j < k then σ.1 324 (j + 208) else σ.1 i j := rfl
theorem mCp_1 (σ : jM) (h k i j : Nat) : (mCp σ h k).1 i j = if i = 324 ∧ h * 208 ≤ j ∧ j < h * 208 + k then σ.1 323 (j - h * 208) else σ.1 i j := rfl
theorem mUn_1 (σ : jM) (h k i j : Nat) : (mUn σ h k).1 i j = if i = 323 ∧ j < k then σ.1 324 (h * 208 + j) else σ.1 i j := rfl
def mH (σ : jM) : Prop := 0 ≤ σ.1 322 2 ∧ σ.1 322 2 ≤ 10
abbrev mHs (σ : jM) : Nat := (σ.1 322 2).toNatClampNeg
def mRem (σ : jM) : jM := if σ.1 322 2 = 10 then jup (mCp (jup (mSh σ 1872) 322 2 9) 9 208) 322 2 10 else jup (mCp σ (mHs σ) 208) 322 2 (σ.1 322 2 + 1)
def oX12_remember : jO := joR fun a σ => (a = 322 ∧ mH σ, fun v τ => v = none ∧ τ = mRem σ)
set_option maxRecDepth 100000 in
set_option maxHeartbeats 4000000 in
theorem CmRem_loop (g : jG) (n : Nat) {post : Option Value → jM → Prop} (σ : jM) (L : List (Nat × Value)) {h : Nat} (hh : σ.1 322 2 = nI h) (h9 : h ≤ 9) (hp : post none (jup (mCp σ h 208) 322 2 (nI h + 1))) :
    jW g mX12_remember n post 54 [(0, .ref 322), (1, .int 0)] [] σ := by
  have key := jloop (P := fun k => jW g mX12_remember n post 54 [(0, .ref 322), (1, .int (nI k))] [] (mCp σ h k)) (N := 208) (by
    refine jvk_ok TX12_remember (V := []) (S := []) (fun _ h => absurd h List.not_mem_nil) (fun _ h => absurd h List.not_mem_nil) [54] 60 _ _ _ _ ?_
    simp (maxSteps := 1000000) [↓Bool.cond_eq_ite, -Prod.forall, -Prod.exists, -Prod.mk.injEq, jvk, tX12_remember, jtb, jol, jst, jlk, jcmp, jbin, jfl, fX12, jc2, lX12, jcat, jel, lv_args, Value.category, jins, jsrt, jins2, jble, jblt, jf3, List.filter_cons, List.filter_nil, G_m, nI_1, hh, mCp_1]
    try simp (disch := omega) [nI_1, nI_clamp, nI_leI, nI_ltI, nI_eq, nI_m1, NL_0, NL_1, NL_2, NL_3, NL_5, NL_6, NL_9, NL_10, NL_11, NL_12, NL_20, NL_24, NL_25, NL_60, NL_64, NL_90, NL_100, NL_120, NL_900, NL_999, NL_9999, NL_99999, NL_1000000, NL_208, NL_2080, NL_10000, hh, mCp_1]
    rw [nI_1] at hp
    exact hp) (fun k hk ih => by
    refine jvk_ok TX12_remember (V := []) (S := []) (fun _ h => absurd h List.not_mem_nil) (fun _ h => absurd h List.not_mem_nil) [54] 60 _ _ _ _ ?_
    simp (maxSteps := 1000000) [↓Bool.cond_eq_ite, -Prod.forall, -Prod.exists, -Prod.mk.injEq, jvk, tX12_remember, jtb, jol, jst, jlk, jcmp, jbin, jfl, fX12, jc2, lX12, jcat, jel, lv_args, Value.category, jins, jsrt, jins2, jble, jblt, jf3, List.filter_cons, List.filter_nil, G_m, nI_1, hh, mCp_1]
    try simp (disch := omega) [nI_1, nI_clamp, nI_leI, nI_ltI, nI_eq, nI_m1, NL_0, NL_1, NL_2, NL_3, NL_5, NL_6, NL_9, NL_10, NL_11, NL_12, NL_20, NL_24, NL_25, NL_60, NL_64, NL_90, NL_100, NL_120, NL_900, NL_999, NL_9999, NL_99999, NL_1000000, NL_208, NL_2080, NL_10000, hh, mCp_1]
    refine ⟨fun q => by omega, fun _ => ⟨jin_nI (by omega) (by omega), ?_, ?_⟩⟩
    · rw [show (208 : Int32) = nI 208 from rfl, pk_mul, nI_add]
      exact jin_nI (by omega) (by omega)
    · rw [show (208 : Int32) = nI 208 from rfl, pk_mul, nI_add, nI_clamp (by omega), mCp_s]
      exact ih)
  simpa [nI_0, mCp_0] using key
set_option maxRecDepth 100000 in
set_option maxHeartbeats 4000000 in
theorem CX12_remember (g : jG) (n : Nat) : jOk g (n + 0) mX12_remember oX12_remember := by
  refine joR_ok ?_
  rintro _ σ ⟨rfl, hok⟩
  obtain ⟨h, h1, h2, h3⟩ := nI_rng hok.1 hok.2 (by decide)
  by_cases h10 : h = 10
  · subst h10
    have e : σ.1 322 2 = 10 := h2
    refine jCon.ofP (by decide +kernel) (by simp [lg_sl, Value.category]) (fun post hp => ?_)
    refine jvk_ok TX12_remember (V := []) (S := []) (fun _ h => absurd h List.not_mem_nil) (fun _ h => absurd h List.not_mem_nil) [13, 54] 60 _ _ _ _ ?_
    simp (maxSteps := 1000000) [↓Bool.cond_eq_ite, -Prod.forall, -Prod.exists, -Prod.mk.injEq, jvk, tX12_remember, jtb, jol, jst, jlk, jcmp, jbin, jfl, fX12, jc2, lX12, jcat, jel, lv_args, Value.category, jins, jsrt, jins2, jble, jblt, jf3, List.filter_cons, List.filter_nil, G_m, e]
    have key := jloop (P := fun k => jW g mX12_remember n post 13 [(0, .ref 322), (1, .int (nI (208 + k)))] [] (mSh σ k)) (N := 1872) (by
      refine jvk_ok TX12_remember (V := []) (S := []) (fun _ h => absurd h List.not_mem_nil) (fun _ h => absurd h List.not_mem_nil) [13, 54] 60 _ _ _ _ ?_
      simp (maxSteps := 1000000) [↓Bool.cond_eq_ite, -Prod.forall, -Prod.exists, -Prod.mk.injEq, jvk, tX12_remember, jtb, jol, jst, jlk, jcmp, jbin, jfl, fX12, jc2, lX12, jcat, jel, lv_args, Value.category, jins, jsrt, jins2, jble, jblt, jf3, List.filter_cons, List.filter_nil, G_m, nI_1, e, mSh_1]
      try simp (disch := omega) [nI_1, nI_clamp, nI_leI, nI_ltI, nI_eq, nI_m1, NL_0, NL_1, NL_2, NL_3, NL_5, NL_6, NL_9, NL_10, NL_11, NL_12, NL_20, NL_24, NL_25, NL_60, NL_64, NL_90, NL_100, NL_120, NL_900, NL_999, NL_9999, NL_99999, NL_1000000, NL_208, NL_2080, NL_10000, e, mSh_1]
      refine CmRem_loop g n (h := 9) _ [] (by rfl) (by decide) ?_
      exact hp _ _ ⟨rfl, by rw [mRem, if_pos e]; rfl⟩) (fun k hk ih => by
      refine jvk_ok TX12_remember (V := []) (S := []) (fun _ h => absurd h List.not_mem_nil) (fun _ h => absurd h List.not_mem_nil) [13, 54] 60 _ _ _ _ ?_
      simp (maxSteps := 1000000) [↓Bool.cond_eq_ite, -Prod.forall, -Prod.exists, -Prod.mk.injEq, jvk, tX12_remember, jtb, jol, jst, jlk, jcmp, jbin, jfl, fX12, jc2, lX12, jcat, jel, lv_args, Value.category, jins, jsrt, jins2, jble, jblt, jf3, List.filter_cons, List.filter_nil, G_m, nI_1, e, mSh_1]
      try simp (disch := omega) [nI_1, nI_clamp, nI_leI, nI_ltI, nI_eq, nI_m1, NL_0, NL_1, NL_2, NL_3, NL_5, NL_6, NL_9, NL_10, NL_11, NL_12, NL_20, NL_24, NL_25, NL_60, NL_64, NL_90, NL_100, NL_120, NL_900, NL_999, NL_9999, NL_99999, NL_1000000, NL_208, NL_2080, NL_10000, e, mSh_1]
      refine ⟨fun q => by omega, fun _ => ⟨jin_nI (by omega) (by omega), ?_, ?_⟩⟩
      · rw [show (208 : Int32) = nI 208 from rfl, pk_sub (by omega)]
        exact jin_nI (by omega) (by omega)
      · rw [show (208 : Int32) = nI 208 from rfl, pk_sub (by omega), nI_clamp (by omega), show 208 + k - 208 = k by omega, if_neg (by omega), show 208 + k = k + 208 by omega, show k + 208 + 1 = 208 + (k + 1) by omega, mSh_s]
        exact ih)
    simp only [mSh_0] at key
    exact key
  · have e : ¬ σ.1 322 2 = 10 := by
      rw [h2]
      intro q
      exact h10 ((nI_eqL (m := 10) (by decide) (by omega)).mp q)
    refine jCon.ofP (by decide +kernel) (by simp [lg_sl, Value.category]) (fun post hp => ?_)
    refine jvk_ok TX12_remember (V := []) (S := []) (fun _ h => absurd h List.not_mem_nil) (fun _ h => absurd h List.not_mem_nil) [13, 54] 60 _ _ _ _ ?_
    simp (maxSteps := 1000000) [↓Bool.cond_eq_ite, -Prod.forall, -Prod.exists, -Prod.mk.injEq, jvk, tX12_remember, jtb, jol, jst, jlk, jcmp, jbin, jfl, fX12, jc2, lX12, jcat, jel, lv_args, Value.category, jins, jsrt, jins2, jble, jblt, jf3, List.filter_cons, List.filter_nil, G_m, e]
    refine CmRem_loop g n (h := h) _ [] h2 (by omega) ?_
    exact hp _ _ ⟨rfl, by rw [mRem, if_neg e, mHs, h3, h2]⟩
theorem mRem_o (σ : jM) (a j : Nat) (h1 : a ≠ 324) (h2 : ¬ (a = 322 ∧ j = 2)) : (mRem σ).1 a j = σ.1 a j := by
  unfold mRem
  split <;> simp [jup_1, mCp_1, mSh_1, h1, h2]
theorem mRem_d (σ : jM) (j : Nat) : (mRem σ).1 323 j = σ.1 323 j := mRem_o σ 323 j (by decide) (by simp)
theorem mRem_f (σ : jM) (j : Nat) (h : j ≠ 2) : (mRem σ).1 322 j = σ.1 322 j := mRem_o σ 322 j (by decide) (by simp [h])
theorem mRem_2 (σ : jM) : (mRem σ).2 = σ.2 := by
  unfold mRem
  split <;> rfl
def oX12_undo : jO := joR fun a σ => (a = 322 ∧ mH σ, fun v τ => v = some (.int (if σ.1 322 2 = 0 then -1 else σ.1 322 2 - 1)) ∧ τ = if σ.1 322 2 = 0 then jup σ 322 11 0 else mUn (jup (jup σ 322 11 0) 322 2 (σ.1 322 2 - 1)) (mHs σ - 1) 208)
set_option maxRecDepth 100000 in
set_option maxHeartbeats 4000000 in
theorem CX12_undo (g : jG) (n : Nat) : jOk g (n + 0) mX12_undo oX12_undo := by
  refine joR_ok ?_
  rintro _ σ ⟨rfl, hok⟩
  obtain ⟨h, h1, h2, h3⟩ := nI_rng hok.1 hok.2 (by decide)
  by_cases h0 : h = 0
  · subst h0
    have e : σ.1 322 2 = 0 := h2
    refine jCon.ofF (by decide +kernel) (by simp [lg_sl, Value.category]) ?_
    refine jvk_ok TX12_undo (V := []) (S := []) (fun _ h => absurd h List.not_mem_nil) (fun _ h => absurd h List.not_mem_nil) [26] 40 _ _ _ _ ?_
    simp (maxSteps := 1000000) [↓Bool.cond_eq_ite, -Prod.forall, -Prod.exists, -Prod.mk.injEq, jvk, tX12_undo, jtb, jol, jst, jlk, jcmp, jbin, jfl, fX12, jc2, lX12, jcat, jel, lv_args, Value.category, jins, jsrt, jins2, jble, jblt, jf3, List.filter_cons, List.filter_nil, G_m, jup_1, e]
  · have e : ¬ σ.1 322 2 = 0 := by
      rw [h2]
      intro q
      exact h0 ((nI_eqL (m := 0) (by decide) (by omega)).mp q)
    have e1 : σ.1 322 2 - 1 = nI (h - 1) := by rw [h2, show (1 : Int32) = nI 1 from rfl, pk_sub (by omega)]
    refine jCon.ofP (by decide +kernel) (by simp [lg_sl, Value.category]) (fun post hp => ?_)
    refine jvk_ok TX12_undo (V := []) (S := []) (fun _ h => absurd h List.not_mem_nil) (fun _ h => absurd h List.not_mem_nil) [26] 40 _ _ _ _ ?_
    simp (maxSteps := 1000000) [↓Bool.cond_eq_ite, -Prod.forall, -Prod.exists, -Prod.mk.injEq, jvk, tX12_undo, jtb, jol, jst, jlk, jcmp, jbin, jfl, fX12, jc2, lX12, jcat, jel, lv_args, Value.category, jins, jsrt, jins2, jble, jblt, jf3, List.filter_cons, List.filter_nil, G_m, jup_1, e, e1]
    have key := jloop (P := fun k => jW g mX12_undo n post 26 [(0, .ref 322), (1, .int (nI k))] [] (mUn (jup (jup σ 322 11 0) 322 2 (nI (h - 1))) (h - 1) k)) (N := 208) (by
      refine jvk_ok TX12_undo (V := []) (S := []) (fun _ h => absurd h List.not_mem_nil) (fun _ h => absurd h List.not_mem_nil) [26] 40 _ _ _ _ ?_
      simp (maxSteps := 1000000) [↓Bool.cond_eq_ite, -Prod.forall, -Prod.exists, -Prod.mk.injEq, jvk, tX12_undo, jtb, jol, jst, jlk, jcmp, jbin, jfl, fX12, jc2, lX12, jcat, jel, lv_args, Value.category, jins, jsrt, jins2, jble, jblt, jf3, List.filter_cons, List.filter_nil, G_m, nI_1, mUn_1, jup_1]
      try simp (disch := omega) [nI_1, nI_clamp, nI_leI, nI_ltI, nI_eq, nI_m1, NL_0, NL_1, NL_2, NL_3, NL_5, NL_6, NL_9, NL_10, NL_11, NL_12, NL_20, NL_24, NL_25, NL_60, NL_64, NL_90, NL_100, NL_120, NL_900, NL_999, NL_9999, NL_99999, NL_1000000, NL_208, NL_2080, NL_10000, mUn_1, jup_1]
      exact hp _ _ ⟨by simp [e, e1], by rw [if_neg e, e1, mHs, h3]⟩) (fun k hk ih => by
      refine jvk_ok TX12_undo (V := []) (S := []) (fun _ h => absurd h List.not_mem_nil) (fun _ h => absurd h List.not_mem_nil) [26] 40 _ _ _ _ ?_
      simp (maxSteps := 1000000) [↓Bool.cond_eq_ite, -Prod.forall, -Prod.exists, -Prod.mk.injEq, jvk, tX12_undo, jtb, jol, jst, jlk, jcmp, jbin, jfl, fX12, jc2, lX12, jcat, jel, lv_args, Value.category, jins, jsrt, jins2, jble, jblt, jf3, List.filter_cons, List.filter_nil, G_m, nI_1, mUn_1, jup_1]
      try simp (disch := omega) [nI_1, nI_clamp, nI_leI, nI_ltI, nI_eq, nI_m1, NL_0, NL_1, NL_2, NL_3, NL_5, NL_6, NL_9, NL_10, NL_11, NL_12, NL_20, NL_24, NL_25, NL_60, NL_64, NL_90, NL_100, NL_120, NL_900, NL_999, NL_9999, NL_99999, NL_1000000, NL_208, NL_2080, NL_10000, mUn_1, jup_1]
      refine ⟨fun q => by omega, fun _ => ⟨?_, jin_nI (by omega) (by omega), ?_⟩⟩
      · rw [show (208 : Int32) = nI 208 from rfl, pk_mul, nI_add]
        exact jin_nI (by omega) (by omega)
      · rw [show (208 : Int32) = nI 208 from rfl, pk_mul, nI_add, nI_clamp (by omega)]
        have := mUn_s (jup (jup σ 322 11 0) 322 2 (nI (h - 1))) (h - 1) k
        simp only [jup_1] at this
        rw [show (if (324 = 322 ∧ (h - 1) * 208 + k = 2) then nI (h - 1) else if (324 = 322 ∧ (h - 1) * 208 + k = 11) then 0 else σ.1 324 ((h - 1) * 208 + k)) = σ.1 324 ((h - 1) * 208 + k) by simp] at this
        rw [this]
        exact ih)
    simpa [nI_0, mUn_0] using key
def oX12_sets : jO := joRII fun a x y σ => (a = 322 ∧ mH σ ∧ jin x 208, fun v τ => v = some (.int (σ.1 323 x.toNatClampNeg)) ∧ τ = jup (mRem σ) 323 x.toNatClampNeg y)
set_option maxRecDepth 100000 in
set_option maxHeartbeats 4000000 in
theorem CX12_sets (g : jG) (n : Nat) : jOk g (n + 1) mX12_sets oX12_sets := by
  refine joRII_ok ?_
  rintro _ x y σ ⟨rfl, h1, h2⟩
  refine jCon.ofF (by decide +kernel) (by simp [lg_sl, Value.category]) ?_
  refine jvk_ok TX12_sets (V := [(253, 1, 12, oX12_remember)]) (S := []) (List.forall_mem_cons.mpr ⟨⟨mX12_remember, n + 0, 0, TX12, 53, rfl, by omega, kX12_253, WX12_remember, rfl, CX12_remember g (n)⟩, (fun _ h => absurd h List.not_mem_nil)⟩) (fun _ h => absurd h List.not_mem_nil) [] 30 _ _ _ _ ?_
  simp (maxSteps := 1000000) [↓Bool.cond_eq_ite, -Prod.forall, -Prod.exists, -Prod.mk.injEq, jvk, tX12_sets, jtb, jol, jst, jlk, jcmp, jbin, jfl, fX12, jc2, lX12, jcat, jel, lv_args, Value.category, jins, jsrt, jins2, jble, jblt, jf3, List.filter_cons, List.filter_nil, G_m, oX12_remember, joR, h1, h2, mRem_d]
theorem mH_th {σ : jM} (h : mH σ) (x : Int32) : mH (jup σ 322 11 x) := h
def oX12_setLease : jO := joRI fun a x σ => (a = 322 ∧ mH σ, fun v τ => v = some (.int (if mIn x 0 99999 then σ.1 323 3 else -2)) ∧ τ = if mIn x 0 99999 then jup (mRem (jup σ 322 11 0)) 323 3 x else jup σ 322 11 0)
set_option maxRecDepth 100000 in
set_option maxHeartbeats 4000000 in
theorem CX12_setLease (g : jG) (n : Nat) : jOk g (n + 2) mX12_setLease oX12_setLease := by
  refine joRI_ok ?_
  rintro _ x σ ⟨rfl, h1⟩
  by_cases h : mIn x 0 99999 = true
  · refine jCon.ofF (by decide +kernel) (by simp [lg_sl, Value.category]) ?_
    refine jvk_ok TX12_setLease (V := [(259, 3, 12, oX12_sets)]) (S := [(117, 3, 0, oX12_inRange)]) (List.forall_mem_cons.mpr ⟨⟨mX12_sets, n + 1, 2, TX12, 53, rfl, by omega, kX12_259, WX12_sets, rfl, CX12_sets g (n)⟩, (fun _ h => absurd h List.not_mem_nil)⟩) (List.forall_mem_cons.mpr ⟨⟨mX12_inRange, n + 0, by omega, Or.inl kX12_117, WX12_inRange, CX12_inRange g (n)⟩, (fun _ h => absurd h List.not_mem_nil)⟩) [] 30 _ _ _ _ ?_
    simp (maxSteps := 1000000) [↓Bool.cond_eq_ite, -Prod.forall, -Prod.exists, -Prod.mk.injEq, jvk, tX12_setLease, jtb, jol, jst, jlk, jcmp, jbin, jfl, fX12, jc2, lX12, jcat, jel, lv_args, Value.category, jins, jsrt, jins2, jble, jblt, jf3, List.filter_cons, List.filter_nil, G_m, oX12_inRange, oX12_sets, joIII, joRII, mH_th h1, h, jin, tn_c, jup_1]
  · refine jCon.ofF (by decide +kernel) (by simp [lg_sl, Value.category]) ?_
    refine jvk_ok TX12_setLease (V := [(259, 3, 12, oX12_sets)]) (S := [(117, 3, 0, oX12_inRange)]) (List.forall_mem_cons.mpr ⟨⟨mX12_sets, n + 1, 2, TX12, 53, rfl, by omega, kX12_259, WX12_sets, rfl, CX12_sets g (n)⟩, (fun _ h => absurd h List.not_mem_nil)⟩) (List.forall_mem_cons.mpr ⟨⟨mX12_inRange, n + 0, by omega, Or.inl kX12_117, WX12_inRange, CX12_inRange g (n)⟩, (fun _ h => absurd h List.not_mem_nil)⟩) [] 30 _ _ _ _ ?_
    simp (maxSteps := 1000000) [↓Bool.cond_eq_ite, -Prod.forall, -Prod.exists, -Prod.mk.injEq, jvk, tX12_setLease, jtb, jol, jst, jlk, jcmp, jbin, jfl, fX12, jc2, lX12, jcat, jel, lv_args, Value.category, jins, jsrt, jins2, jble, jblt, jf3, List.filter_cons, List.filter_nil, G_m, oX12_inRange, oX12_sets, joIII, joRII, mH_th h1, h]
def oX12_setDeposit : jO := joRI fun a x σ => (a = 322 ∧ mH σ, fun v τ => v = some (.int (if mIn x 0 99999 then σ.1 323 4 else -2)) ∧ τ = if mIn x 0 99999 then jup (mRem (jup σ 322 11 0)) 323 4 x else jup σ 322 11 0)
set_option maxRecDepth 100000 in
set_option maxHeartbeats 4000000 in
theorem CX12_setDeposit (g : jG) (n : Nat) : jOk g (n + 2) mX12_setDeposit oX12_setDeposit := by
  refine joRI_ok ?_
  rintro _ x σ ⟨rfl, h1⟩
  by_cases h : mIn x 0 99999 = true
  · refine jCon.ofF (by decide +kernel) (by simp [lg_sl, Value.category]) ?_
    refine jvk_ok TX12_setDeposit (V := [(259, 3, 12, oX12_sets)]) (S := [(117, 3, 0, oX12_inRange)]) (List.forall_mem_cons.mpr ⟨⟨mX12_sets, n + 1, 2, TX12, 53, rfl, by omega, kX12_259, WX12_sets, rfl, CX12_sets g (n)⟩, (fun _ h => absurd h List.not_mem_nil)⟩) (List.forall_mem_cons.mpr ⟨⟨mX12_inRange, n + 0, by omega, Or.inl kX12_117, WX12_inRange, CX12_inRange g (n)⟩, (fun _ h => absurd h List.not_mem_nil)⟩) [] 30 _ _ _ _ ?_
    simp (maxSteps := 1000000) [↓Bool.cond_eq_ite, -Prod.forall, -Prod.exists, -Prod.mk.injEq, jvk, tX12_setDeposit, jtb, jol, jst, jlk, jcmp, jbin, jfl, fX12, jc2, lX12, jcat, jel, lv_args, Value.category, jins, jsrt, jins2, jble, jblt, jf3, List.filter_cons, List.filter_nil, G_m, oX12_inRange, oX12_sets, joIII, joRII, mH_th h1, h, jin, tn_c, jup_1]
  · refine jCon.ofF (by decide +kernel) (by simp [lg_sl, Value.category]) ?_
    refine jvk_ok TX12_setDeposit (V := [(259, 3, 12, oX12_sets)]) (S := [(117, 3, 0, oX12_inRange)]) (List.forall_mem_cons.mpr ⟨⟨mX12_sets, n + 1, 2, TX12, 53, rfl, by omega, kX12_259, WX12_sets, rfl, CX12_sets g (n)⟩, (fun _ h => absurd h List.not_mem_nil)⟩) (List.forall_mem_cons.mpr ⟨⟨mX12_inRange, n + 0, by omega, Or.inl kX12_117, WX12_inRange, CX12_inRange g (n)⟩, (fun _ h => absurd h List.not_mem_nil)⟩) [] 30 _ _ _ _ ?_
    simp (maxSteps := 1000000) [↓Bool.cond_eq_ite, -Prod.forall, -Prod.exists, -Prod.mk.injEq, jvk, tX12_setDeposit, jtb, jol, jst, jlk, jcmp, jbin, jfl, fX12, jc2, lX12, jcat, jel, lv_args, Value.category, jins, jsrt, jins2, jble, jblt, jf3, List.filter_cons, List.filter_nil, G_m, oX12_inRange, oX12_sets, joIII, joRII, mH_th h1, h]
def mMost (x : Int32) : Int32 := if x = 0 then 2 else if x = 1 then 100 else 1
def oX12_mostOf : jO := joI fun x σ => (True, fun v τ => v = some (.int (mMost x)) ∧ τ = σ)
set_option maxRecDepth 100000 in
set_option maxHeartbeats 4000000 in
theorem CX12_mostOf (g : jG) (n : Nat) : jOk g (n + 0) mX12_mostOf oX12_mostOf := by
  refine joI_ok ?_
  rintro x σ -
  refine jCon.ofF (by decide +kernel) (by simp [lg_sl, Value.category]) ?_
  refine jvk_ok TX12_mostOf (V := []) (S := []) (fun _ h => absurd h List.not_mem_nil) (fun _ h => absurd h List.not_mem_nil) [] 30 _ _ _ _ ?_
  simp (maxSteps := 1000000) [↓Bool.cond_eq_ite, -Prod.forall, -Prod.exists, -Prod.mk.injEq, jvk, tX12_mostOf, jtb, jol, jst, jlk, jcmp, jbin, jfl, fX12, jc2, lX12, jcat, jel, lv_args, Value.category, jins, jsrt, jins2, jble, jblt, jf3, List.filter_cons, List.filter_nil, G_m, mMost]
  grind
theorem jin_3 {x : Int32} (h : mIn x 0 2 = true) (m : Nat) (hm : 3 ≤ m) : jin x m := by
  simp only [mIn, decide_eq_true_eq] at h
  exact jin_le (jin_of (n := 3) (m := 3) h.1 (by grind) rfl) hm
def oX12_setSetting : jO := joRII fun a x y σ => (a = 322 ∧ mH σ, fun v τ => v = some (.int (if mIn x 0 2 ∧ mIn y 0 (mMost x) then σ.1 323 x.toNatClampNeg else -2)) ∧ τ = if mIn x 0 2 ∧ mIn y 0 (mMost x) then jup (mRem (jup σ 322 11 0)) 323 x.toNatClampNeg y else jup σ 322 11 0)
set_option maxRecDepth 100000 in
set_option maxHeartbeats 4000000 in
theorem CX12_setSetting (g : jG) (n : Nat) : jOk g (n + 2) mX12_setSetting oX12_setSetting := by
  refine joRII_ok ?_
  rintro _ x y σ ⟨rfl, h1⟩
  by_cases h : mIn x 0 2 = true
  · by_cases h2 : mIn y 0 (mMost x) = true
    · refine jCon.ofF (by decide +kernel) (by simp [lg_sl, Value.category]) ?_
      refine jvk_ok TX12_setSetting (V := [(259, 3, 12, oX12_sets)]) (S := [(117, 3, 0, oX12_inRange), (263, 1, 0, oX12_mostOf)]) (List.forall_mem_cons.mpr ⟨⟨mX12_sets, n + 1, 2, TX12, 53, rfl, by omega, kX12_259, WX12_sets, rfl, CX12_sets g (n)⟩, (fun _ h => absurd h List.not_mem_nil)⟩) (List.forall_mem_cons.mpr ⟨⟨mX12_inRange, n + 0, by omega, Or.inl kX12_117, WX12_inRange, CX12_inRange g (n)⟩, (List.forall_mem_cons.mpr ⟨⟨mX12_mostOf, n + 0, by omega, Or.inl kX12_263, WX12_mostOf, CX12_mostOf g (n)⟩, (fun _ h => absurd h List.not_mem_nil)⟩)⟩) [] 30 _ _ _ _ ?_
      simp (maxSteps := 1000000) [↓Bool.cond_eq_ite, -Prod.forall, -Prod.exists, -Prod.mk.injEq, jvk, tX12_setSetting, jtb, jol, jst, jlk, jcmp, jbin, jfl, fX12, jc2, lX12, jcat, jel, lv_args, Value.category, jins, jsrt, jins2, jble, jblt, jf3, List.filter_cons, List.filter_nil, G_m, oX12_inRange, oX12_mostOf, oX12_sets, joI, joIII, joRII, mH_th h1, h, h2, jin_3 h 208 (by decide), jup_1]
    · refine jCon.ofF (by decide +kernel) (by simp [lg_sl, Value.category]) ?_
      refine jvk_ok TX12_setSetting (V := [(259, 3, 12, oX12_sets)]) (S := [(117, 3, 0, oX12_inRange), (263, 1, 0, oX12_mostOf)]) (List.forall_mem_cons.mpr ⟨⟨mX12_sets, n + 1, 2, TX12, 53, rfl, by omega, kX12_259, WX12_sets, rfl, CX12_sets g (n)⟩, (fun _ h => absurd h List.not_mem_nil)⟩) (List.forall_mem_cons.mpr ⟨⟨mX12_inRange, n + 0, by omega, Or.inl kX12_117, WX12_inRange, CX12_inRange g (n)⟩, (List.forall_mem_cons.mpr ⟨⟨mX12_mostOf, n + 0, by omega, Or.inl kX12_263, WX12_mostOf, CX12_mostOf g (n)⟩, (fun _ h => absurd h List.not_mem_nil)⟩)⟩) [] 30 _ _ _ _ ?_
      simp (maxSteps := 1000000) [↓Bool.cond_eq_ite, -Prod.forall, -Prod.exists, -Prod.mk.injEq, jvk, tX12_setSetting, jtb, jol, jst, jlk, jcmp, jbin, jfl, fX12, jc2, lX12, jcat, jel, lv_args, Value.category, jins, jsrt, jins2, jble, jblt, jf3, List.filter_cons, List.filter_nil, G_m, oX12_inRange, oX12_mostOf, oX12_sets, joI, joIII, joRII, mH_th h1, h, h2]
  · refine jCon.ofF (by decide +kernel) (by simp [lg_sl, Value.category]) ?_
    refine jvk_ok TX12_setSetting (V := [(259, 3, 12, oX12_sets)]) (S := [(117, 3, 0, oX12_inRange), (263, 1, 0, oX12_mostOf)]) (List.forall_mem_cons.mpr ⟨⟨mX12_sets, n + 1, 2, TX12, 53, rfl, by omega, kX12_259, WX12_sets, rfl, CX12_sets g (n)⟩, (fun _ h => absurd h List.not_mem_nil)⟩) (List.forall_mem_cons.mpr ⟨⟨mX12_inRange, n + 0, by omega, Or.inl kX12_117, WX12_inRange, CX12_inRange g (n)⟩, (List.forall_mem_cons.mpr ⟨⟨mX12_mostOf, n + 0, by omega, Or.inl kX12_263, WX12_mostOf, CX12_mostOf g (n)⟩, (fun _ h => absurd h List.not_mem_nil)⟩)⟩) [] 30 _ _ _ _ ?_
    simp (maxSteps := 1000000) [↓Bool.cond_eq_ite, -Prod.forall, -Prod.exists, -Prod.mk.injEq, jvk, tX12_setSetting, jtb, jol, jst, jlk, jcmp, jbin, jfl, fX12, jc2, lX12, jcat, jel, lv_args, Value.category, jins, jsrt, jins2, jble, jblt, jf3, List.filter_cons, List.filter_nil, G_m, oX12_inRange, oX12_mostOf, oX12_sets, joI, joIII, joRII, mH_th h1, h]
def oX12_setIncome : jO := joRII fun a x y σ => (a = 322 ∧ mH σ ∧ mOK σ, fun v τ => v = some (.int (if mP σ x then (if mIn y 0 99999 then mD σ x.toNatClampNeg 1 else -2) else -1)) ∧ τ = if mP σ x ∧ mIn y 0 99999 then jup (mRem (jup σ 322 11 0)) 323 (8 + 20 * x.toNatClampNeg + 1) y else jup σ 322 11 0)
set_option maxRecDepth 100000 in
set_option maxHeartbeats 4000000 in
theorem CX12_setIncome (g : jG) (n : Nat) : jOk g (n + 2) mX12_setIncome oX12_setIncome := by
  refine joRII_ok ?_
  rintro _ x y σ ⟨rfl, h1, hok⟩
  by_cases h : mP σ x = true
  · by_cases h2 : mIn y 0 99999 = true
    · have h3 := (mP_jin hok h).2
      have h4 := mpl_lt h3 jin_c.2.1
      refine jCon.ofF (by decide +kernel) (by simp [lg_sl, Value.category]) ?_
      refine jvk_ok TX12_setIncome (V := [(135, 2, 12, oX12_isPerson), (259, 3, 12, oX12_sets)]) (S := [(117, 3, 0, oX12_inRange), (124, 2, 0, oX12_place)]) (List.forall_mem_cons.mpr ⟨⟨mX12_isPerson, n + 1, 1, TX12, 53, rfl, by omega, kX12_135, WX12_isPerson, rfl, CX12_isPerson g (n)⟩, (List.forall_mem_cons.mpr ⟨⟨mX12_sets, n + 1, 2, TX12, 53, rfl, by omega, kX12_259, WX12_sets, rfl, CX12_sets g (n)⟩, (fun _ h => absurd h List.not_mem_nil)⟩)⟩) (List.forall_mem_cons.mpr ⟨⟨mX12_inRange, n + 0, by omega, Or.inl kX12_117, WX12_inRange, CX12_inRange g (n)⟩, (List.forall_mem_cons.mpr ⟨⟨mX12_place, n + 0, by omega, Or.inl kX12_124, WX12_place, CX12_place g (n)⟩, (fun _ h => absurd h List.not_mem_nil)⟩)⟩) [] 30 _ _ _ _ ?_
      simp (maxSteps := 1000000) [↓Bool.cond_eq_ite, -Prod.forall, -Prod.exists, -Prod.mk.injEq, jvk, tX12_setIncome, jtb, jol, jst, jlk, jcmp, jbin, jfl, fX12, jc2, lX12, jcat, jel, lv_args, Value.category, jins, jsrt, jins2, jble, jblt, jf3, List.filter_cons, List.filter_nil, G_m, oX12_isPerson, oX12_inRange, oX12_place, oX12_sets, joII, joIII, joRI, joRII, mH_th h1, mP_th, h, h2, h3, jin_c, jup_1, nI_clamp (show mpl x 1 < 2 ^ 31 by omega), jin_nI h4 (by decide)]
      simp [mpl, tn_c, mD]
    · refine jCon.ofF (by decide +kernel) (by simp [lg_sl, Value.category]) ?_
      refine jvk_ok TX12_setIncome (V := [(135, 2, 12, oX12_isPerson), (259, 3, 12, oX12_sets)]) (S := [(117, 3, 0, oX12_inRange), (124, 2, 0, oX12_place)]) (List.forall_mem_cons.mpr ⟨⟨mX12_isPerson, n + 1, 1, TX12, 53, rfl, by omega, kX12_135, WX12_isPerson, rfl, CX12_isPerson g (n)⟩, (List.forall_mem_cons.mpr ⟨⟨mX12_sets, n + 1, 2, TX12, 53, rfl, by omega, kX12_259, WX12_sets, rfl, CX12_sets g (n)⟩, (fun _ h => absurd h List.not_mem_nil)⟩)⟩) (List.forall_mem_cons.mpr ⟨⟨mX12_inRange, n + 0, by omega, Or.inl kX12_117, WX12_inRange, CX12_inRange g (n)⟩, (List.forall_mem_cons.mpr ⟨⟨mX12_place, n + 0, by omega, Or.inl kX12_124, WX12_place, CX12_place g (n)⟩, (fun _ h => absurd h List.not_mem_nil)⟩)⟩) [] 30 _ _ _ _ ?_
      simp (maxSteps := 1000000) [↓Bool.cond_eq_ite, -Prod.forall, -Prod.exists, -Prod.mk.injEq, jvk, tX12_setIncome, jtb, jol, jst, jlk, jcmp, jbin, jfl, fX12, jc2, lX12, jcat, jel, lv_args, Value.category, jins, jsrt, jins2, jble, jblt, jf3, List.filter_cons, List.filter_nil, G_m, oX12_isPerson, oX12_inRange, oX12_place, oX12_sets, joII, joIII, joRI, joRII, mH_th h1, mP_th, h, h2]
  · refine jCon.ofF (by decide +kernel) (by simp [lg_sl, Value.category]) ?_
    refine jvk_ok TX12_setIncome (V := [(135, 2, 12, oX12_isPerson), (259, 3, 12, oX12_sets)]) (S := [(117, 3, 0, oX12_inRange), (124, 2, 0, oX12_place)]) (List.forall_mem_cons.mpr ⟨⟨mX12_isPerson, n + 1, 1, TX12, 53, rfl, by omega, kX12_135, WX12_isPerson, rfl, CX12_isPerson g (n)⟩, (List.forall_mem_cons.mpr ⟨⟨mX12_sets, n + 1, 2, TX12, 53, rfl, by omega, kX12_259, WX12_sets, rfl, CX12_sets g (n)⟩, (fun _ h => absurd h List.not_mem_nil)⟩)⟩) (List.forall_mem_cons.mpr ⟨⟨mX12_inRange, n + 0, by omega, Or.inl kX12_117, WX12_inRange, CX12_inRange g (n)⟩, (List.forall_mem_cons.mpr ⟨⟨mX12_place, n + 0, by omega, Or.inl kX12_124, WX12_place, CX12_place g (n)⟩, (fun _ h => absurd h List.not_mem_nil)⟩)⟩) [] 30 _ _ _ _ ?_
    simp (maxSteps := 1000000) [↓Bool.cond_eq_ite, -Prod.forall, -Prod.exists, -Prod.mk.injEq, jvk, tX12_setIncome, jtb, jol, jst, jlk, jcmp, jbin, jfl, fX12, jc2, lX12, jcat, jel, lv_args, Value.category, jins, jsrt, jins2, jble, jblt, jf3, List.filter_cons, List.filter_nil, G_m, oX12_isPerson, oX12_inRange, oX12_place, oX12_sets, joII, joIII, joRI, joRII, mH_th h1, mP_th, h]
