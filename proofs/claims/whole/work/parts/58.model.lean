/-! the reference: what it tells of the proposal -/
def sR (σ τ : jM) : Prop := τ.1 323 = σ.1 323 ∧ τ.1 322 3 = σ.1 322 3 ∧ τ.1 322 4 = σ.1 322 4
theorem sR_of {A : Nat → Nat → Bool} {B : Nat → Bool} {σ τ : jM} (f : jfr A B σ τ) (h323 : ∀ j, A 323 j = false) (h3 : A 322 3 = false) (h4 : A 322 4 = false) : sR σ τ := ⟨funext fun j => f.2.2 323 j (h323 j), f.2.2 322 3 h3, f.2.2 322 4 h4⟩
theorem sR_N {σ τ : jM} (h : sR σ τ) : mN τ = mN σ := by unfold mN; rw [h.2.2]
theorem sR_R {σ τ : jM} (h : sR σ τ) : mRo τ = mRo σ := by unfold mRo; rw [h.2.1]
theorem sR_Lv {σ τ : jM} (h : sR σ τ) : mLiv τ = mLiv σ := by
  show cn (dL (τ.1 323)) (mN τ) = cn (dL (σ.1 323)) (mN σ)
  rw [h.1, sR_N h]
theorem sR_D {σ τ : jM} (h : sR σ τ) (p w : Nat) : mD τ p w = mD σ p w := by unfold mD; rw [h.1]
theorem sR_l {σ τ : jM} (h : sR σ τ) : xl τ = xl σ := by unfold xl; rw [h.1]
theorem sR_p {σ τ : jM} (h : sR σ τ) : xp τ = xp σ := by funext i; unfold xp; rw [sR_N h, sR_l h]
theorem sR_C {σ τ : jM} (h : sR σ τ) : dC τ = dC σ := by unfold dC; rw [sR_Lv h, h.1, sR_N h, sR_R h]
theorem sR_A {σ τ : jM} (h : sR σ τ) : mA τ = mA σ := by unfold mA; rw [sR_C h]
theorem sR_Lo {σ τ : jM} (h : sR σ τ) : mLo τ = mLo σ := by funext p; unfold mLo; rw [h.1, sR_N h, sR_A h, sR_Lv h]
theorem sR_Hi {σ τ : jM} (h : sR σ τ) : mHi τ = mHi σ := by funext p; unfold mHi; rw [h.1, sR_N h, sR_A h, sR_Lv h]
theorem sR_Bs {σ τ : jM} (h : sR σ τ) : mBs τ = mBs σ := by funext p; unfold mBs; rw [h.1, sR_Lo h, sR_Hi h]
theorem sR_Ip {σ τ : jM} (h : sR σ τ) (x : Int32) : mIp τ x = mIp σ x := by unfold mIp; rw [h.1]
theorem sR_Mo {σ τ : jM} (h : sR σ τ) (x : Int32) : mMo τ x = mMo σ x := by unfold mMo; rw [h.1, sR_Ip h, sR_Bs h, sR_N h, sR_Lv h]
theorem sR_Pr {σ τ : jM} (h : sR σ τ) (x : Int32) : mPr τ x = mPr σ x := by funext p; unfold mPr; rw [h.1, sR_Bs h, sR_Mo h]
theorem sR_bI {σ τ : jM} (h : sR σ τ) : bI τ = bI σ := by funext i; unfold bI; rw [h.1, sR_N h, sR_A h, sR_Lv h]
theorem sR_pp {σ τ : jM} (h : sR σ τ) (n : Nat) : ppN τ n = ppN σ n := by unfold ppN; rw [h.1]
theorem sR_ip {σ τ : jM} (h : sR σ τ) (n : Nat) : ipN τ n = ipN σ n := by unfold ipN; rw [h.1]
theorem sR_mo {σ τ : jM} (h : sR σ τ) (n : Nat) : moI τ n = moI σ n := by unfold moI; rw [sR_pp h, sR_bI h, sR_Lv h]
theorem sR_pr {σ τ : jM} (h : sR σ τ) (n : Nat) : prI τ n = prI σ n := by funext i; unfold prI; rw [sR_bI h, sR_mo h]
theorem sR_lf {σ τ : jM} (h : sR σ τ) (n : Nat) : lfI τ n = lfI σ n := by unfold lfI; rw [sR_pp h, sR_pr h, sR_Lv h]
theorem sR_un {σ τ : jM} (h : sR σ τ) (n : Nat) : unS τ n = unS σ n := by unfold unS; rw [sR_lf h, sR_pr h, sR_Lv h]
theorem sR_ic {σ τ : jM} (h : sR σ τ) : icN τ = icN σ := by funext i; unfold icN; rw [sR_p h, sR_D h]
theorem sR_sh {σ τ : jM} (h : sR σ τ) (n : Nat) : shS τ n = shS σ n := by unfold shS; rw [sR_ip h, sR_ic h, sR_Lv h]
theorem sR_pa {σ τ : jM} (h : sR σ τ) (n : Nat) : paS τ n = paS σ n := by funext i; unfold paS; rw [sR_un h, sR_sh h]
theorem sR_mP {σ τ : jM} (h : sR σ τ) (x : Int32) : mP τ x = mP σ x := by unfold mP; rw [h.2.2]
theorem sR_mR {σ τ : jM} (h : sR σ τ) (x : Int32) : mR τ x = mR σ x := by unfold mR; rw [h.2.1]
/-- the scratch -/
def aSc (a j : Nat) : Bool := Nat.ble 330 a && Nat.ble a 345 || a == 322 && (j == 11 || j == 14 || j == 15 || j == 30)
def bSc (a : Nat) : Bool := a == 336 || a == 337
theorem sc_of {A : Nat → Nat → Bool} {B : Nat → Bool} {σ τ : jM} (f : jfr A B σ τ) (hA : ∀ a j, aSc a j = false → A a j = false) (hB : ∀ a, bSc a = false → B a = false) : jfr aSc bSc σ τ := f.weak hA hB
theorem sc_Tr (a j : Nat) (h : aSc a j = false) : aTr a j = false := by
  unfold aSc at h
  unfold aTr
  rw [jble, jble] at h
  simp only [Bool.or_eq_false_iff, Bool.and_eq_false_iff, decide_eq_false_iff_not, beq_eq_false_iff_ne] at h ⊢
  omega
theorem sc_Ex (a j : Nat) (h : aSc a j = false) : aEx a j = false := by
  unfold aSc at h
  unfold aEx
  rw [jble, jble] at h
  simp only [Bool.or_eq_false_iff, Bool.and_eq_false_iff, decide_eq_false_iff_not, beq_eq_false_iff_ne] at h ⊢
  omega
theorem sc_Py (a j : Nat) (h : aSc a j = false) : aPy a j = false := by
  unfold aSc at h
  unfold aPy
  rw [jble, jble] at h
  simp only [Bool.or_eq_false_iff, Bool.and_eq_false_iff, decide_eq_false_iff_not, beq_eq_false_iff_ne] at h ⊢
  omega
theorem sc_323 (j : Nat) : aSc 323 j = false := by
  unfold aSc
  simp
theorem sc_R {σ τ : jM} (f : jfr aSc bSc σ τ) : sR σ τ := sR_of f sc_323 rfl rfl
theorem sc_ok {σ τ : jM} (h : mOK σ) (f : jfr aSc bSc σ τ) : mOK τ := mOK_of h (f.2.2 322 3 rfl) (f.2.2 322 4 rfl) (f.2.2 322 5 rfl)
theorem sc_th (σ : jM) (x : Int32) : jfr aSc bSc σ (jup σ 322 11 x) := jfr.rfl.up _ rfl
theorem ac_C {σ τ : jM} {acc : qC} (h : accOK τ acc) (s : sR σ τ) : ∀ q, q < 10 → τ.1 330 q = qch acc (xl σ) (mN σ) q := fun q hq => by
  rw [h.2.2.1 q hq, s.1, sR_N s]
def shN (σ : jM) : Nat := (σ.1 323 1).toNatClampNeg
theorem shN_ok {σ : jM} (hd : dI (σ.1 323)) : shN σ ≤ 100 ∧ σ.1 323 1 = nI (shN σ) := by
  obtain ⟨s, h1, h2, h3⟩ := nI_rng hd.2.2.2.2.1 hd.2.2.2.2.2 (by decide)
  unfold shN
  rw [h3]
  exact ⟨h1, h2⟩
/-- what is laid with a proposal -/
def pyOK (σ τ : jM) (sh : Nat) : Prop := ∀ p, p < mN σ → τ.1 334 p = mPr σ (nI sh) p ∧ τ.1 339 p = (if xl σ p = true then shS σ sh (cn (xl σ) p) else 0) ∧ τ.1 340 p = (if xl σ p = true then paS σ sh (cn (xl σ) p) else 0)
def oX12_laysProposal : jO := joR fun a σ => (a = 322 ∧ mOK σ ∧ dI (σ.1 323), fun v τ => v = some (.int (if (dC σ).isSome then 1 else 0)) ∧ jfr aSc bSc σ τ ∧ τ.1 322 11 = σ.1 322 11 ∧ accOK τ (dC σ) ∧ ((dC σ).isSome = true → pyOK σ τ (shN σ)))
set_option maxRecDepth 100000 in
set_option maxHeartbeats 4000000 in
theorem CX12_laysProposal (g : jG) (n : Nat) : jOk g (n + 15) mX12_laysProposal oX12_laysProposal := by
  refine joR_ok ?_
  rintro _ σ ⟨rfl, hok, hd⟩
  refine jCon.ofP (by decide +kernel) (by simp [lg_sl, Value.category]) (fun post hp => ?_)
  refine jvk_ok TX12_laysProposal (V := [(206, 1, 12, oX12_proposes), (210, 2, 12, oX12_layPayments)]) (S := []) (List.forall_mem_cons.mpr ⟨⟨mX12_proposes, n + 14, 0, TX12, 53, rfl, by omega, kX12_206, WX12_proposes, rfl, CX12_proposes g (n)⟩, (List.forall_mem_cons.mpr ⟨⟨mX12_layPayments, n + 6, 1, TX12, 53, rfl, by omega, kX12_210, WX12_layPayments, rfl, CX12_layPayments g (n)⟩, (fun _ h => absurd h List.not_mem_nil)⟩)⟩) (fun _ h => absurd h List.not_mem_nil) [4] 10 _ _ _ _ ?_
  simp (maxSteps := 1000000) [↓Bool.cond_eq_ite, -Prod.forall, -Prod.exists, -Prod.mk.injEq, jvk, tX12_laysProposal, jtb, jol, jst, jlk, jcmp, jbin, jfl, fX12, jc2, lX12, jcat, jel, lv_args, Value.category, jins, jsrt, jins2, jble, jblt, jf3, List.filter_cons, List.filter_nil, G_m, oX12_proposes, oX12_layPayments, joR, joRI, -Int32.not_le, -Int32.not_lt, -Int64.not_le, -Int64.not_lt, i3lt, i6lt, hok, hd.1]
  try simp (disch := omega) [-Prod.forall, -Prod.exists, -Prod.mk.injEq, -Int32.not_le, -Int32.not_lt, -Int64.not_le, -Int64.not_lt, i3lt, i6lt, hok, hd.1]
  intro v0 τ0 hv0 f0 ha0
  subst hv0
  have g0 : jfr aSc bSc σ τ0 := sc_of f0 sc_Tr (fun _ _ => rfl)
  have s0 := sc_R g0
  rcases hC0 : dC σ with _ | c
  · have e : ¬ (dC σ).isSome = true := by rw [hC0]; simp
    refine jvk_ok TX12_laysProposal (V := [(206, 1, 12, oX12_proposes), (210, 2, 12, oX12_layPayments)]) (S := []) (List.forall_mem_cons.mpr ⟨⟨mX12_proposes, n + 14, 0, TX12, 53, rfl, by omega, kX12_206, WX12_proposes, rfl, CX12_proposes g (n)⟩, (List.forall_mem_cons.mpr ⟨⟨mX12_layPayments, n + 6, 1, TX12, 53, rfl, by omega, kX12_210, WX12_layPayments, rfl, CX12_layPayments g (n)⟩, (fun _ h => absurd h List.not_mem_nil)⟩)⟩) (fun _ h => absurd h List.not_mem_nil) [] 20 _ _ _ _ ?_
    simp (maxSteps := 1000000) [↓Bool.cond_eq_ite, -Prod.forall, -Prod.exists, -Prod.mk.injEq, jvk, tX12_laysProposal, jtb, jol, jst, jlk, jcmp, jbin, jfl, fX12, jc2, lX12, jcat, jel, lv_args, Value.category, jins, jsrt, jins2, jble, jblt, jf3, List.filter_cons, List.filter_nil, G_m, oX12_proposes, oX12_layPayments, joR, joRI, -Int32.not_le, -Int32.not_lt, -Int64.not_le, -Int64.not_lt, i3lt, i6lt, e, hC0]
    try simp (disch := omega) [-Prod.forall, -Prod.exists, -Prod.mk.injEq, -Int32.not_le, -Int32.not_lt, -Int64.not_le, -Int64.not_lt, i3lt, i6lt, e, hC0]
    exact hp _ _ ⟨by rw [hC0]; rfl, g0, f0.2.2 322 11 rfl, by rw [hC0] at ha0 ⊢; exact ha0, fun z => absurd z e⟩
  · have hc : hC τ0 c := ⟨sc_ok hok g0, by rw [s0.1]; exact hd.1, by rw [sR_C s0, hC0], by rw [hC0] at ha0; exact ha0⟩
    have hne : ∃ c, hC τ0 c := ⟨c, hc⟩
    have hd0 : dI (τ0.1 323) := by rw [s0.1]; exact hd
    obtain ⟨hs1, hs2⟩ := shN_ok hd
    have e1 : τ0.1 323 1 = nI (shN σ) := by rw [s0.1, hs2]
    have hpre : ∃ sh, nI (shN σ) = nI sh ∧ sh ≤ 100 := ⟨_, rfl, hs1⟩
    refine jvk_ok TX12_laysProposal (V := [(206, 1, 12, oX12_proposes), (210, 2, 12, oX12_layPayments)]) (S := []) (List.forall_mem_cons.mpr ⟨⟨mX12_proposes, n + 14, 0, TX12, 53, rfl, by omega, kX12_206, WX12_proposes, rfl, CX12_proposes g (n)⟩, (List.forall_mem_cons.mpr ⟨⟨mX12_layPayments, n + 6, 1, TX12, 53, rfl, by omega, kX12_210, WX12_layPayments, rfl, CX12_layPayments g (n)⟩, (fun _ h => absurd h List.not_mem_nil)⟩)⟩) (fun _ h => absurd h List.not_mem_nil) [19] 20 _ _ _ _ ?_
    simp (maxSteps := 1000000) [↓Bool.cond_eq_ite, -Prod.forall, -Prod.exists, -Prod.mk.injEq, jvk, tX12_laysProposal, jtb, jol, jst, jlk, jcmp, jbin, jfl, fX12, jc2, lX12, jcat, jel, lv_args, Value.category, jins, jsrt, jins2, jble, jblt, jf3, List.filter_cons, List.filter_nil, G_m, oX12_proposes, oX12_layPayments, joR, joRI, -Int32.not_le, -Int32.not_lt, -Int64.not_le, -Int64.not_lt, i3lt, i6lt, hC0, hne, hd0, e1, hpre, jin_d, tn_c]
    try simp (disch := omega) [-Prod.forall, -Prod.exists, -Prod.mk.injEq, -Int32.not_le, -Int32.not_lt, -Int64.not_le, -Int64.not_lt, i3lt, i6lt, hC0, hne, hd0, e1, hpre, jin_d, tn_c]
    intro v1 τ1 hv1 f1 h1
    subst hv1
    refine jvk_ok TX12_laysProposal (V := [(206, 1, 12, oX12_proposes), (210, 2, 12, oX12_layPayments)]) (S := []) (List.forall_mem_cons.mpr ⟨⟨mX12_proposes, n + 14, 0, TX12, 53, rfl, by omega, kX12_206, WX12_proposes, rfl, CX12_proposes g (n)⟩, (List.forall_mem_cons.mpr ⟨⟨mX12_layPayments, n + 6, 1, TX12, 53, rfl, by omega, kX12_210, WX12_layPayments, rfl, CX12_layPayments g (n)⟩, (fun _ h => absurd h List.not_mem_nil)⟩)⟩) (fun _ h => absurd h List.not_mem_nil) [] 20 _ _ _ _ ?_
    simp (maxSteps := 1000000) [↓Bool.cond_eq_ite, -Prod.forall, -Prod.exists, -Prod.mk.injEq, jvk, tX12_laysProposal, jtb, jol, jst, jlk, jcmp, jbin, jfl, fX12, jc2, lX12, jcat, jel, lv_args, Value.category, jins, jsrt, jins2, jble, jblt, jf3, List.filter_cons, List.filter_nil, G_m, oX12_proposes, oX12_layPayments, joR, joRI, -Int32.not_le, -Int32.not_lt, -Int64.not_le, -Int64.not_lt, i3lt, i6lt]
    try simp (disch := omega) [-Prod.forall, -Prod.exists, -Prod.mk.injEq, -Int32.not_le, -Int32.not_lt, -Int64.not_le, -Int64.not_lt, i3lt, i6lt]
    have g1 : jfr aSc bSc τ0 τ1 := sc_of f1 sc_Py (fun _ q => q)
    refine hp _ _ ⟨by rw [hC0]; rfl, g0.tr g1, (f1.2.2 322 11 rfl).trans (f0.2.2 322 11 rfl), ?_, fun _ p hp => ?_⟩
    · have e323 : τ1.1 323 = τ0.1 323 := funext fun j => f1.2.2 323 j rfl
      obtain ⟨b1, b2, b3, b4⟩ := ha0
      refine ⟨by rw [f1.2.2 322 14 rfl, b1], by rw [f1.2.2 322 15 rfl, b2], fun q hq => ?_, b4⟩
      rw [f1.2.2 330 q rfl, b3 q hq, e323]
      unfold mN
      rw [f1.2.2 322 4 rfl]
    · have h2 := h1 p (by rw [sR_N s0]; exact hp)
      rw [nI_clamp (by omega), sR_Pr s0, sR_sh s0, sR_pa s0, sR_l s0] at h2
      exact h2
def oX12_hasProposal : jO := joR fun a σ => (a = 322 ∧ mOK σ ∧ dI (σ.1 323), fun v τ => v = some (.int (if (dC σ).isSome then 1 else 0)) ∧ jfr aSc bSc σ τ ∧ τ.1 322 11 = 0)
set_option maxRecDepth 100000 in
set_option maxHeartbeats 4000000 in
theorem CX12_hasProposal (g : jG) (n : Nat) : jOk g (n + 15) mX12_hasProposal oX12_hasProposal := by
  refine joR_ok ?_
  rintro _ σ ⟨rfl, hok, hd⟩
  have hd1 : dOK ((jup σ 322 11 0).1 323) := hd.1
  refine jCon.ofP (by decide +kernel) (by simp [lg_sl, Value.category]) (fun post hp => ?_)
  refine jvk_ok TX12_hasProposal (V := [(206, 1, 12, oX12_proposes)]) (S := []) (List.forall_mem_cons.mpr ⟨⟨mX12_proposes, n + 14, 0, TX12, 53, rfl, by omega, kX12_206, WX12_proposes, rfl, CX12_proposes g (n)⟩, (fun _ h => absurd h List.not_mem_nil)⟩) (fun _ h => absurd h List.not_mem_nil) [9] 10 _ _ _ _ ?_
  simp (maxSteps := 1000000) [↓Bool.cond_eq_ite, -Prod.forall, -Prod.exists, -Prod.mk.injEq, jvk, tX12_hasProposal, jtb, jol, jst, jlk, jcmp, jbin, jfl, fX12, jc2, lX12, jcat, jel, lv_args, Value.category, jins, jsrt, jins2, jble, jblt, jf3, List.filter_cons, List.filter_nil, G_m, oX12_proposes, joR, -Int32.not_le, -Int32.not_lt, -Int64.not_le, -Int64.not_lt, i3lt, i6lt, mOK_th hok, hd1]
  try simp (disch := omega) [-Prod.forall, -Prod.exists, -Prod.mk.injEq, -Int32.not_le, -Int32.not_lt, -Int64.not_le, -Int64.not_lt, i3lt, i6lt, mOK_th hok, hd1]
  intro v0 τ0 hv0 f0 ha0
  subst hv0
  refine jvk_ok TX12_hasProposal (V := [(206, 1, 12, oX12_proposes)]) (S := []) (List.forall_mem_cons.mpr ⟨⟨mX12_proposes, n + 14, 0, TX12, 53, rfl, by omega, kX12_206, WX12_proposes, rfl, CX12_proposes g (n)⟩, (fun _ h => absurd h List.not_mem_nil)⟩) (fun _ h => absurd h List.not_mem_nil) [] 10 _ _ _ _ ?_
  simp (maxSteps := 1000000) [↓Bool.cond_eq_ite, -Prod.forall, -Prod.exists, -Prod.mk.injEq, jvk, tX12_hasProposal, jtb, jol, jst, jlk, jcmp, jbin, jfl, fX12, jc2, lX12, jcat, jel, lv_args, Value.category, jins, jsrt, jins2, jble, jblt, jf3, List.filter_cons, List.filter_nil, G_m, oX12_proposes, joR, -Int32.not_le, -Int32.not_lt, -Int64.not_le, -Int64.not_lt, i3lt, i6lt]
  try simp (disch := omega) [-Prod.forall, -Prod.exists, -Prod.mk.injEq, -Int32.not_le, -Int32.not_lt, -Int64.not_le, -Int64.not_lt, i3lt, i6lt]
  exact ⟨Classical.em _, hp _ _ ⟨rfl, (sc_th σ 0).tr (sc_of f0 sc_Tr (fun _ _ => rfl)), f0.2.2 322 11 rfl⟩⟩
def oX12_proposedValue : jO := joR fun a σ => (a = 322 ∧ mOK σ ∧ dI (σ.1 323), fun v τ => v = some (.int (qs (dC σ))) ∧ jfr aSc bSc σ τ ∧ τ.1 322 11 = 0)
set_option maxRecDepth 100000 in
set_option maxHeartbeats 4000000 in
theorem CX12_proposedValue (g : jG) (n : Nat) : jOk g (n + 15) mX12_proposedValue oX12_proposedValue := by
  refine joR_ok ?_
  rintro _ σ ⟨rfl, hok, hd⟩
  have hd1 : dOK ((jup σ 322 11 0).1 323) := hd.1
  refine jCon.ofP (by decide +kernel) (by simp [lg_sl, Value.category]) (fun post hp => ?_)
  refine jvk_ok TX12_proposedValue (V := [(206, 1, 12, oX12_proposes)]) (S := []) (List.forall_mem_cons.mpr ⟨⟨mX12_proposes, n + 14, 0, TX12, 53, rfl, by omega, kX12_206, WX12_proposes, rfl, CX12_proposes g (n)⟩, (fun _ h => absurd h List.not_mem_nil)⟩) (fun _ h => absurd h List.not_mem_nil) [9] 10 _ _ _ _ ?_
  simp (maxSteps := 1000000) [↓Bool.cond_eq_ite, -Prod.forall, -Prod.exists, -Prod.mk.injEq, jvk, tX12_proposedValue, jtb, jol, jst, jlk, jcmp, jbin, jfl, fX12, jc2, lX12, jcat, jel, lv_args, Value.category, jins, jsrt, jins2, jble, jblt, jf3, List.filter_cons, List.filter_nil, G_m, oX12_proposes, joR, -Int32.not_le, -Int32.not_lt, -Int64.not_le, -Int64.not_lt, i3lt, i6lt, mOK_th hok, hd1]
  try simp (disch := omega) [-Prod.forall, -Prod.exists, -Prod.mk.injEq, -Int32.not_le, -Int32.not_lt, -Int64.not_le, -Int64.not_lt, i3lt, i6lt, mOK_th hok, hd1]
  intro v0 τ0 hv0 f0 ha0
  subst hv0
  have eC : dC (jup σ 322 11 0) = dC σ := rfl
  rw [eC] at ha0 ⊢
  rcases hC0 : dC σ with _ | c
  · refine jvk_ok TX12_proposedValue (V := [(206, 1, 12, oX12_proposes)]) (S := []) (List.forall_mem_cons.mpr ⟨⟨mX12_proposes, n + 14, 0, TX12, 53, rfl, by omega, kX12_206, WX12_proposes, rfl, CX12_proposes g (n)⟩, (fun _ h => absurd h List.not_mem_nil)⟩) (fun _ h => absurd h List.not_mem_nil) [] 10 _ _ _ _ ?_
    simp (maxSteps := 1000000) [↓Bool.cond_eq_ite, -Prod.forall, -Prod.exists, -Prod.mk.injEq, jvk, tX12_proposedValue, jtb, jol, jst, jlk, jcmp, jbin, jfl, fX12, jc2, lX12, jcat, jel, lv_args, Value.category, jins, jsrt, jins2, jble, jblt, jf3, List.filter_cons, List.filter_nil, G_m, oX12_proposes, joR, -Int32.not_le, -Int32.not_lt, -Int64.not_le, -Int64.not_lt, i3lt, i6lt]
    try simp (disch := omega) [-Prod.forall, -Prod.exists, -Prod.mk.injEq, -Int32.not_le, -Int32.not_lt, -Int64.not_le, -Int64.not_lt, i3lt, i6lt]
    exact hp _ _ ⟨by rw [hC0]; rfl, (sc_th σ 0).tr (sc_of f0 sc_Tr (fun _ _ => rfl)), f0.2.2 322 11 rfl⟩
  · have e : τ0.1 322 14 = qs (some c) := by rw [ha0.1, hC0]
    refine jvk_ok TX12_proposedValue (V := [(206, 1, 12, oX12_proposes)]) (S := []) (List.forall_mem_cons.mpr ⟨⟨mX12_proposes, n + 14, 0, TX12, 53, rfl, by omega, kX12_206, WX12_proposes, rfl, CX12_proposes g (n)⟩, (fun _ h => absurd h List.not_mem_nil)⟩) (fun _ h => absurd h List.not_mem_nil) [] 10 _ _ _ _ ?_
    simp (maxSteps := 1000000) [↓Bool.cond_eq_ite, -Prod.forall, -Prod.exists, -Prod.mk.injEq, jvk, tX12_proposedValue, jtb, jol, jst, jlk, jcmp, jbin, jfl, fX12, jc2, lX12, jcat, jel, lv_args, Value.category, jins, jsrt, jins2, jble, jblt, jf3, List.filter_cons, List.filter_nil, G_m, oX12_proposes, joR, -Int32.not_le, -Int32.not_lt, -Int64.not_le, -Int64.not_lt, i3lt, i6lt, e]
    try simp (disch := omega) [-Prod.forall, -Prod.exists, -Prod.mk.injEq, -Int32.not_le, -Int32.not_lt, -Int64.not_le, -Int64.not_lt, i3lt, i6lt, e]
    exact hp _ _ ⟨by rw [hC0], (sc_th σ 0).tr (sc_of f0 sc_Tr (fun _ _ => rfl)), f0.2.2 322 11 rfl⟩
def oX12_choiceCount : jO := joR fun a σ => (a = 322 ∧ mOK σ ∧ dI (σ.1 323), fun v τ => v = some (.int (qc (dC σ))) ∧ jfr aSc bSc σ τ ∧ τ.1 322 11 = 0)
set_option maxRecDepth 100000 in
set_option maxHeartbeats 4000000 in
theorem CX12_choiceCount (g : jG) (n : Nat) : jOk g (n + 15) mX12_choiceCount oX12_choiceCount := by
  refine joR_ok ?_
  rintro _ σ ⟨rfl, hok, hd⟩
  have hd1 : dOK ((jup σ 322 11 0).1 323) := hd.1
  refine jCon.ofP (by decide +kernel) (by simp [lg_sl, Value.category]) (fun post hp => ?_)
  refine jvk_ok TX12_choiceCount (V := [(206, 1, 12, oX12_proposes)]) (S := []) (List.forall_mem_cons.mpr ⟨⟨mX12_proposes, n + 14, 0, TX12, 53, rfl, by omega, kX12_206, WX12_proposes, rfl, CX12_proposes g (n)⟩, (fun _ h => absurd h List.not_mem_nil)⟩) (fun _ h => absurd h List.not_mem_nil) [9] 10 _ _ _ _ ?_
  simp (maxSteps := 1000000) [↓Bool.cond_eq_ite, -Prod.forall, -Prod.exists, -Prod.mk.injEq, jvk, tX12_choiceCount, jtb, jol, jst, jlk, jcmp, jbin, jfl, fX12, jc2, lX12, jcat, jel, lv_args, Value.category, jins, jsrt, jins2, jble, jblt, jf3, List.filter_cons, List.filter_nil, G_m, oX12_proposes, joR, -Int32.not_le, -Int32.not_lt, -Int64.not_le, -Int64.not_lt, i3lt, i6lt, mOK_th hok, hd1]
  try simp (disch := omega) [-Prod.forall, -Prod.exists, -Prod.mk.injEq, -Int32.not_le, -Int32.not_lt, -Int64.not_le, -Int64.not_lt, i3lt, i6lt, mOK_th hok, hd1]
  intro v0 τ0 hv0 f0 ha0
  subst hv0
  have eC : dC (jup σ 322 11 0) = dC σ := rfl
  rw [eC] at ha0 ⊢
  rcases hC0 : dC σ with _ | c
  · refine jvk_ok TX12_choiceCount (V := [(206, 1, 12, oX12_proposes)]) (S := []) (List.forall_mem_cons.mpr ⟨⟨mX12_proposes, n + 14, 0, TX12, 53, rfl, by omega, kX12_206, WX12_proposes, rfl, CX12_proposes g (n)⟩, (fun _ h => absurd h List.not_mem_nil)⟩) (fun _ h => absurd h List.not_mem_nil) [] 10 _ _ _ _ ?_
    simp (maxSteps := 1000000) [↓Bool.cond_eq_ite, -Prod.forall, -Prod.exists, -Prod.mk.injEq, jvk, tX12_choiceCount, jtb, jol, jst, jlk, jcmp, jbin, jfl, fX12, jc2, lX12, jcat, jel, lv_args, Value.category, jins, jsrt, jins2, jble, jblt, jf3, List.filter_cons, List.filter_nil, G_m, oX12_proposes, joR, -Int32.not_le, -Int32.not_lt, -Int64.not_le, -Int64.not_lt, i3lt, i6lt]
    try simp (disch := omega) [-Prod.forall, -Prod.exists, -Prod.mk.injEq, -Int32.not_le, -Int32.not_lt, -Int64.not_le, -Int64.not_lt, i3lt, i6lt]
    exact hp _ _ ⟨by rw [hC0]; rfl, (sc_th σ 0).tr (sc_of f0 sc_Tr (fun _ _ => rfl)), f0.2.2 322 11 rfl⟩
  · have e : τ0.1 322 15 = qc (some c) := by rw [ha0.2.1, hC0]
    refine jvk_ok TX12_choiceCount (V := [(206, 1, 12, oX12_proposes)]) (S := []) (List.forall_mem_cons.mpr ⟨⟨mX12_proposes, n + 14, 0, TX12, 53, rfl, by omega, kX12_206, WX12_proposes, rfl, CX12_proposes g (n)⟩, (fun _ h => absurd h List.not_mem_nil)⟩) (fun _ h => absurd h List.not_mem_nil) [] 10 _ _ _ _ ?_
    simp (maxSteps := 1000000) [↓Bool.cond_eq_ite, -Prod.forall, -Prod.exists, -Prod.mk.injEq, jvk, tX12_choiceCount, jtb, jol, jst, jlk, jcmp, jbin, jfl, fX12, jc2, lX12, jcat, jel, lv_args, Value.category, jins, jsrt, jins2, jble, jblt, jf3, List.filter_cons, List.filter_nil, G_m, oX12_proposes, joR, -Int32.not_le, -Int32.not_lt, -Int64.not_le, -Int64.not_lt, i3lt, i6lt, e]
    try simp (disch := omega) [-Prod.forall, -Prod.exists, -Prod.mk.injEq, -Int32.not_le, -Int32.not_lt, -Int64.not_le, -Int64.not_lt, i3lt, i6lt, e]
    exact hp _ _ ⟨by rw [hC0], (sc_th σ 0).tr (sc_of f0 sc_Tr (fun _ _ => rfl)), f0.2.2 322 11 rfl⟩
def oX12_proposedRoom : jO := joRI fun a x σ => (a = 322 ∧ mOK σ ∧ dI (σ.1 323), fun v τ => v = some (.int (if mP σ x = true then qch (dC σ) (xl σ) (mN σ) x.toNatClampNeg else 0)) ∧ jfr aSc bSc σ τ ∧ τ.1 322 11 = if mP σ x = true then 0 else 1)
set_option maxRecDepth 100000 in
set_option maxHeartbeats 4000000 in
theorem CX12_proposedRoom (g : jG) (n : Nat) : jOk g (n + 15) mX12_proposedRoom oX12_proposedRoom := by
  refine joRI_ok ?_
  rintro _ x σ ⟨rfl, hok, hd⟩
  have hd1 : dOK ((jup σ 322 11 0).1 323) := hd.1
  by_cases h : mP σ x = true
  · have hx := (mP_jin hok h).2
    refine jCon.ofP (by decide +kernel) (by simp [lg_sl, Value.category]) (fun post hp => ?_)
    refine jvk_ok TX12_proposedRoom (V := [(135, 2, 12, oX12_isPerson), (138, 2, 12, oX12_fails), (206, 1, 12, oX12_proposes)]) (S := []) (List.forall_mem_cons.mpr ⟨⟨mX12_isPerson, n + 1, 1, TX12, 53, rfl, by omega, kX12_135, WX12_isPerson, rfl, CX12_isPerson g (n)⟩, (List.forall_mem_cons.mpr ⟨⟨mX12_fails, n + 0, 1, TX12, 53, rfl, by omega, kX12_138, WX12_fails, rfl, CX12_fails g (n)⟩, (List.forall_mem_cons.mpr ⟨⟨mX12_proposes, n + 14, 0, TX12, 53, rfl, by omega, kX12_206, WX12_proposes, rfl, CX12_proposes g (n)⟩, (fun _ h => absurd h List.not_mem_nil)⟩)⟩)⟩) (fun _ h => absurd h List.not_mem_nil) [18] 20 _ _ _ _ ?_
    simp (maxSteps := 1000000) [↓Bool.cond_eq_ite, -Prod.forall, -Prod.exists, -Prod.mk.injEq, jvk, tX12_proposedRoom, jtb, jol, jst, jlk, jcmp, jbin, jfl, fX12, jc2, lX12, jcat, jel, lv_args, Value.category, jins, jsrt, jins2, jble, jblt, jf3, List.filter_cons, List.filter_nil, G_m, oX12_isPerson, oX12_fails, oX12_proposes, joR, joRI, -Int32.not_le, -Int32.not_lt, -Int64.not_le, -Int64.not_lt, i3lt, i6lt, h, mOK_th hok, hd1]
    try simp (disch := omega) [-Prod.forall, -Prod.exists, -Prod.mk.injEq, -Int32.not_le, -Int32.not_lt, -Int64.not_le, -Int64.not_lt, i3lt, i6lt, h, mOK_th hok, hd1]
    intro v0 τ0 hv0 f0 ha0
    subst hv0
    have eC : dC (jup σ 322 11 0) = dC σ := rfl
    have s0 : sR σ τ0 := sc_R ((sc_th σ 0).tr (sc_of f0 sc_Tr (fun _ _ => rfl)))
    rw [eC] at ha0 ⊢
    have h330 := ac_C ha0 s0 _ (jin_lt hx)
    rcases hC0 : dC σ with _ | c
    · refine jvk_ok TX12_proposedRoom (V := [(135, 2, 12, oX12_isPerson), (138, 2, 12, oX12_fails), (206, 1, 12, oX12_proposes)]) (S := []) (List.forall_mem_cons.mpr ⟨⟨mX12_isPerson, n + 1, 1, TX12, 53, rfl, by omega, kX12_135, WX12_isPerson, rfl, CX12_isPerson g (n)⟩, (List.forall_mem_cons.mpr ⟨⟨mX12_fails, n + 0, 1, TX12, 53, rfl, by omega, kX12_138, WX12_fails, rfl, CX12_fails g (n)⟩, (List.forall_mem_cons.mpr ⟨⟨mX12_proposes, n + 14, 0, TX12, 53, rfl, by omega, kX12_206, WX12_proposes, rfl, CX12_proposes g (n)⟩, (fun _ h => absurd h List.not_mem_nil)⟩)⟩)⟩) (fun _ h => absurd h List.not_mem_nil) [] 20 _ _ _ _ ?_
      simp (maxSteps := 1000000) [↓Bool.cond_eq_ite, -Prod.forall, -Prod.exists, -Prod.mk.injEq, jvk, tX12_proposedRoom, jtb, jol, jst, jlk, jcmp, jbin, jfl, fX12, jc2, lX12, jcat, jel, lv_args, Value.category, jins, jsrt, jins2, jble, jblt, jf3, List.filter_cons, List.filter_nil, G_m, oX12_isPerson, oX12_fails, oX12_proposes, joR, joRI, -Int32.not_le, -Int32.not_lt, -Int64.not_le, -Int64.not_lt, i3lt, i6lt]
      try simp (disch := omega) [-Prod.forall, -Prod.exists, -Prod.mk.injEq, -Int32.not_le, -Int32.not_lt, -Int64.not_le, -Int64.not_lt, i3lt, i6lt]
      exact hp _ _ ⟨by rw [if_pos h, hC0]; rfl, (sc_th σ 0).tr (sc_of f0 sc_Tr (fun _ _ => rfl)), by rw [if_pos h]; exact f0.2.2 322 11 rfl⟩
    · rw [hC0] at h330
      refine jvk_ok TX12_proposedRoom (V := [(135, 2, 12, oX12_isPerson), (138, 2, 12, oX12_fails), (206, 1, 12, oX12_proposes)]) (S := []) (List.forall_mem_cons.mpr ⟨⟨mX12_isPerson, n + 1, 1, TX12, 53, rfl, by omega, kX12_135, WX12_isPerson, rfl, CX12_isPerson g (n)⟩, (List.forall_mem_cons.mpr ⟨⟨mX12_fails, n + 0, 1, TX12, 53, rfl, by omega, kX12_138, WX12_fails, rfl, CX12_fails g (n)⟩, (List.forall_mem_cons.mpr ⟨⟨mX12_proposes, n + 14, 0, TX12, 53, rfl, by omega, kX12_206, WX12_proposes, rfl, CX12_proposes g (n)⟩, (fun _ h => absurd h List.not_mem_nil)⟩)⟩)⟩) (fun _ h => absurd h List.not_mem_nil) [] 20 _ _ _ _ ?_
      simp (maxSteps := 1000000) [↓Bool.cond_eq_ite, -Prod.forall, -Prod.exists, -Prod.mk.injEq, jvk, tX12_proposedRoom, jtb, jol, jst, jlk, jcmp, jbin, jfl, fX12, jc2, lX12, jcat, jel, lv_args, Value.category, jins, jsrt, jins2, jble, jblt, jf3, List.filter_cons, List.filter_nil, G_m, oX12_isPerson, oX12_fails, oX12_proposes, joR, joRI, -Int32.not_le, -Int32.not_lt, -Int64.not_le, -Int64.not_lt, i3lt, i6lt, hx, h330]
      try simp (disch := omega) [-Prod.forall, -Prod.exists, -Prod.mk.injEq, -Int32.not_le, -Int32.not_lt, -Int64.not_le, -Int64.not_lt, i3lt, i6lt, hx, h330]
      exact hp _ _ ⟨by rw [if_pos h, hC0], (sc_th σ 0).tr (sc_of f0 sc_Tr (fun _ _ => rfl)), by rw [if_pos h]; exact f0.2.2 322 11 rfl⟩
  · refine jCon.ofP (by decide +kernel) (by simp [lg_sl, Value.category]) (fun post hp => ?_)
    refine jvk_ok TX12_proposedRoom (V := [(135, 2, 12, oX12_isPerson), (138, 2, 12, oX12_fails), (206, 1, 12, oX12_proposes)]) (S := []) (List.forall_mem_cons.mpr ⟨⟨mX12_isPerson, n + 1, 1, TX12, 53, rfl, by omega, kX12_135, WX12_isPerson, rfl, CX12_isPerson g (n)⟩, (List.forall_mem_cons.mpr ⟨⟨mX12_fails, n + 0, 1, TX12, 53, rfl, by omega, kX12_138, WX12_fails, rfl, CX12_fails g (n)⟩, (List.forall_mem_cons.mpr ⟨⟨mX12_proposes, n + 14, 0, TX12, 53, rfl, by omega, kX12_206, WX12_proposes, rfl, CX12_proposes g (n)⟩, (fun _ h => absurd h List.not_mem_nil)⟩)⟩)⟩) (fun _ h => absurd h List.not_mem_nil) [] 20 _ _ _ _ ?_
    simp (maxSteps := 1000000) [↓Bool.cond_eq_ite, -Prod.forall, -Prod.exists, -Prod.mk.injEq, jvk, tX12_proposedRoom, jtb, jol, jst, jlk, jcmp, jbin, jfl, fX12, jc2, lX12, jcat, jel, lv_args, Value.category, jins, jsrt, jins2, jble, jblt, jf3, List.filter_cons, List.filter_nil, G_m, oX12_isPerson, oX12_fails, oX12_proposes, joR, joRI, -Int32.not_le, -Int32.not_lt, -Int64.not_le, -Int64.not_lt, i3lt, i6lt, h]
    try simp (disch := omega) [-Prod.forall, -Prod.exists, -Prod.mk.injEq, -Int32.not_le, -Int32.not_lt, -Int64.not_le, -Int64.not_lt, i3lt, i6lt, h]
    exact hp _ _ ⟨by rw [if_neg h], sc_th σ 1, by rw [if_neg h]; rfl⟩
def oX12_pricePart : jO := joR fun a σ => (a = 322, fun v τ => v = some (.int (σ.1 323 3 - mIp σ (σ.1 323 1))) ∧ τ = jup σ 322 11 0)
theorem mIp_th (σ : jM) (x y : Int32) : mIp (jup σ 322 11 x) y = mIp σ y := rfl
set_option maxRecDepth 100000 in
set_option maxHeartbeats 4000000 in
theorem CX12_pricePart (g : jG) (n : Nat) : jOk g (n + 1) mX12_pricePart oX12_pricePart := by
  refine joR_ok ?_
  rintro _ σ rfl
  refine jCon.ofF (by decide +kernel) (by simp [lg_sl, Value.category]) ?_
  refine jvk_ok TX12_pricePart (V := [(188, 2, 12, oX12_incomePart)]) (S := []) (List.forall_mem_cons.mpr ⟨⟨mX12_incomePart, n + 0, 1, TX12, 53, rfl, by omega, kX12_188, WX12_incomePart, rfl, CX12_incomePart g (n)⟩, (fun _ h => absurd h List.not_mem_nil)⟩) (fun _ h => absurd h List.not_mem_nil) [] 20 _ _ _ _ ?_
  simp (maxSteps := 1000000) [↓Bool.cond_eq_ite, -Prod.forall, -Prod.exists, -Prod.mk.injEq, jvk, tX12_pricePart, jtb, jol, jst, jlk, jcmp, jbin, jfl, fX12, jc2, lX12, jcat, jel, lv_args, Value.category, jins, jsrt, jins2, jble, jblt, jf3, List.filter_cons, List.filter_nil, G_m, oX12_incomePart, joRI, -Int32.not_le, -Int32.not_lt, -Int64.not_le, -Int64.not_lt, i3lt, i6lt, jin_d, tn_c, jup_1, mIp_th]
  try simp (disch := omega) [-Prod.forall, -Prod.exists, -Prod.mk.injEq, -Int32.not_le, -Int32.not_lt, -Int64.not_le, -Int64.not_lt, i3lt, i6lt, jin_d, tn_c, jup_1, mIp_th]
/-- numbers of one who lives, where there is a proposal -/
def mNo (σ : jM) (p : Int32) (v : Int32) : Int32 := if mP σ p = true then (if (dC σ).isSome = true ∧ xl σ p.toNatClampNeg = true then v else -2000000000) else 0
def oX12_incomeShare : jO := joRI fun a x σ => (a = 322 ∧ mOK σ ∧ dI (σ.1 323), fun v τ => v = some (.int (mNo σ x (shS σ (shN σ) (cn (xl σ) x.toNatClampNeg)))) ∧ jfr aSc bSc σ τ ∧ τ.1 322 11 = if mP σ x = true then 0 else 1)
theorem mP_lt {σ : jM} (hok : mOK σ) {x : Int32} (h : mP σ x = true) : x.toNatClampNeg < mN σ := jin_lt (mP_jin hok h).1
theorem mD_xl {σ : jM} {p : Nat} : (mD σ p 0 = 1) = (xl σ p = true) := by
  unfold xl dL mD
  simp only [decide_eq_true_eq]
set_option maxRecDepth 100000 in
set_option maxHeartbeats 4000000 in
theorem CX12_incomeShare (g : jG) (n : Nat) : jOk g (n + 16) mX12_incomeShare oX12_incomeShare := by
  refine joRI_ok ?_
  rintro _ x σ ⟨rfl, hok, hd⟩
  have hd1 : dI ((jup σ 322 11 0).1 323) := hd
  by_cases h : mP σ x = true
  · have hx := (mP_jin hok h).2
    refine jCon.ofP (by decide +kernel) (by simp [lg_sl, Value.category]) (fun post hp => ?_)
    refine jvk_ok TX12_incomeShare (V := [(135, 2, 12, oX12_isPerson), (138, 2, 12, oX12_fails), (217, 1, 12, oX12_laysProposal), (131, 2, 12, oX12_isLiving)]) (S := []) (List.forall_mem_cons.mpr ⟨⟨mX12_isPerson, n + 1, 1, TX12, 53, rfl, by omega, kX12_135, WX12_isPerson, rfl, CX12_isPerson g (n)⟩, (List.forall_mem_cons.mpr ⟨⟨mX12_fails, n + 0, 1, TX12, 53, rfl, by omega, kX12_138, WX12_fails, rfl, CX12_fails g (n)⟩, (List.forall_mem_cons.mpr ⟨⟨mX12_laysProposal, n + 15, 0, TX12, 53, rfl, by omega, kX12_217, WX12_laysProposal, rfl, CX12_laysProposal g (n)⟩, (List.forall_mem_cons.mpr ⟨⟨mX12_isLiving, n + 2, 1, TX12, 53, rfl, by omega, kX12_131, WX12_isLiving, rfl, CX12_isLiving g (n)⟩, (fun _ h => absurd h List.not_mem_nil)⟩)⟩)⟩)⟩) (fun _ h => absurd h List.not_mem_nil) [18] 20 _ _ _ _ ?_
    simp (maxSteps := 1000000) [↓Bool.cond_eq_ite, -Prod.forall, -Prod.exists, -Prod.mk.injEq, jvk, tX12_incomeShare, jtb, jol, jst, jlk, jcmp, jbin, jfl, fX12, jc2, lX12, jcat, jel, lv_args, Value.category, jins, jsrt, jins2, jble, jblt, jf3, List.filter_cons, List.filter_nil, G_m, oX12_isPerson, oX12_fails, oX12_laysProposal, oX12_isLiving, joR, joRI, -Int32.not_le, -Int32.not_lt, -Int64.not_le, -Int64.not_lt, i3lt, i6lt, h, mOK_th hok, hd1]
    try simp (disch := omega) [-Prod.forall, -Prod.exists, -Prod.mk.injEq, -Int32.not_le, -Int32.not_lt, -Int64.not_le, -Int64.not_lt, i3lt, i6lt, h, mOK_th hok, hd1]
    intro v0 τ0 hv0 f0 e11 ha0 hy0
    subst hv0
    have eC : dC (jup σ 322 11 0) = dC σ := rfl
    have s0 : sR σ τ0 := sc_R ((sc_th σ 0).tr f0)
    rw [eC] at ha0 hy0 ⊢
    by_cases hC0 : (dC σ).isSome = true
    · by_cases hl : xl σ x.toNatClampNeg = true
      · have hl1 : mD τ0 x.toNatClampNeg 0 = 1 := by rw [sR_D s0, mD_xl]; exact hl
        have e339 := (hy0 hC0 _ (mP_lt hok h)).2.1
        have e339' : τ0.1 339 x.toNatClampNeg = shS σ (shN σ) (cn (xl σ) x.toNatClampNeg) := by rw [e339]; exact if_pos hl
        refine jvk_ok TX12_incomeShare (V := [(135, 2, 12, oX12_isPerson), (138, 2, 12, oX12_fails), (217, 1, 12, oX12_laysProposal), (131, 2, 12, oX12_isLiving)]) (S := []) (List.forall_mem_cons.mpr ⟨⟨mX12_isPerson, n + 1, 1, TX12, 53, rfl, by omega, kX12_135, WX12_isPerson, rfl, CX12_isPerson g (n)⟩, (List.forall_mem_cons.mpr ⟨⟨mX12_fails, n + 0, 1, TX12, 53, rfl, by omega, kX12_138, WX12_fails, rfl, CX12_fails g (n)⟩, (List.forall_mem_cons.mpr ⟨⟨mX12_laysProposal, n + 15, 0, TX12, 53, rfl, by omega, kX12_217, WX12_laysProposal, rfl, CX12_laysProposal g (n)⟩, (List.forall_mem_cons.mpr ⟨⟨mX12_isLiving, n + 2, 1, TX12, 53, rfl, by omega, kX12_131, WX12_isLiving, rfl, CX12_isLiving g (n)⟩, (fun _ h => absurd h List.not_mem_nil)⟩)⟩)⟩)⟩) (fun _ h => absurd h List.not_mem_nil) [] 20 _ _ _ _ ?_
        simp (maxSteps := 1000000) [↓Bool.cond_eq_ite, -Prod.forall, -Prod.exists, -Prod.mk.injEq, jvk, tX12_incomeShare, jtb, jol, jst, jlk, jcmp, jbin, jfl, fX12, jc2, lX12, jcat, jel, lv_args, Value.category, jins, jsrt, jins2, jble, jblt, jf3, List.filter_cons, List.filter_nil, G_m, oX12_isPerson, oX12_fails, oX12_laysProposal, oX12_isLiving, joR, joRI, -Int32.not_le, -Int32.not_lt, -Int64.not_le, -Int64.not_lt, i3lt, i6lt, hC0, hx, hl1, e339', jin_c, tn_c]
        try simp (disch := omega) [-Prod.forall, -Prod.exists, -Prod.mk.injEq, -Int32.not_le, -Int32.not_lt, -Int64.not_le, -Int64.not_lt, i3lt, i6lt, hC0, hx, hl1, e339', jin_c, tn_c]
        exact hp _ _ ⟨by rw [mNo, if_pos h, if_pos ⟨hC0, hl⟩], (sc_th σ 0).tr f0, by rw [if_pos h]; exact e11⟩
      · have hl1 : ¬ mD τ0 x.toNatClampNeg 0 = 1 := by rw [sR_D s0, mD_xl]; exact hl
        refine jvk_ok TX12_incomeShare (V := [(135, 2, 12, oX12_isPerson), (138, 2, 12, oX12_fails), (217, 1, 12, oX12_laysProposal), (131, 2, 12, oX12_isLiving)]) (S := []) (List.forall_mem_cons.mpr ⟨⟨mX12_isPerson, n + 1, 1, TX12, 53, rfl, by omega, kX12_135, WX12_isPerson, rfl, CX12_isPerson g (n)⟩, (List.forall_mem_cons.mpr ⟨⟨mX12_fails, n + 0, 1, TX12, 53, rfl, by omega, kX12_138, WX12_fails, rfl, CX12_fails g (n)⟩, (List.forall_mem_cons.mpr ⟨⟨mX12_laysProposal, n + 15, 0, TX12, 53, rfl, by omega, kX12_217, WX12_laysProposal, rfl, CX12_laysProposal g (n)⟩, (List.forall_mem_cons.mpr ⟨⟨mX12_isLiving, n + 2, 1, TX12, 53, rfl, by omega, kX12_131, WX12_isLiving, rfl, CX12_isLiving g (n)⟩, (fun _ h => absurd h List.not_mem_nil)⟩)⟩)⟩)⟩) (fun _ h => absurd h List.not_mem_nil) [] 20 _ _ _ _ ?_
        simp (maxSteps := 1000000) [↓Bool.cond_eq_ite, -Prod.forall, -Prod.exists, -Prod.mk.injEq, jvk, tX12_incomeShare, jtb, jol, jst, jlk, jcmp, jbin, jfl, fX12, jc2, lX12, jcat, jel, lv_args, Value.category, jins, jsrt, jins2, jble, jblt, jf3, List.filter_cons, List.filter_nil, G_m, oX12_isPerson, oX12_fails, oX12_laysProposal, oX12_isLiving, joR, joRI, -Int32.not_le, -Int32.not_lt, -Int64.not_le, -Int64.not_lt, i3lt, i6lt, hC0, hx, hl1, jin_c, tn_c]
        try simp (disch := omega) [-Prod.forall, -Prod.exists, -Prod.mk.injEq, -Int32.not_le, -Int32.not_lt, -Int64.not_le, -Int64.not_lt, i3lt, i6lt, hC0, hx, hl1, jin_c, tn_c]
        exact hp _ _ ⟨by rw [mNo, if_pos h, if_neg (fun z => hl z.2)], (sc_th σ 0).tr f0, by rw [if_pos h]; exact e11⟩
    · refine jvk_ok TX12_incomeShare (V := [(135, 2, 12, oX12_isPerson), (138, 2, 12, oX12_fails), (217, 1, 12, oX12_laysProposal), (131, 2, 12, oX12_isLiving)]) (S := []) (List.forall_mem_cons.mpr ⟨⟨mX12_isPerson, n + 1, 1, TX12, 53, rfl, by omega, kX12_135, WX12_isPerson, rfl, CX12_isPerson g (n)⟩, (List.forall_mem_cons.mpr ⟨⟨mX12_fails, n + 0, 1, TX12, 53, rfl, by omega, kX12_138, WX12_fails, rfl, CX12_fails g (n)⟩, (List.forall_mem_cons.mpr ⟨⟨mX12_laysProposal, n + 15, 0, TX12, 53, rfl, by omega, kX12_217, WX12_laysProposal, rfl, CX12_laysProposal g (n)⟩, (List.forall_mem_cons.mpr ⟨⟨mX12_isLiving, n + 2, 1, TX12, 53, rfl, by omega, kX12_131, WX12_isLiving, rfl, CX12_isLiving g (n)⟩, (fun _ h => absurd h List.not_mem_nil)⟩)⟩)⟩)⟩) (fun _ h => absurd h List.not_mem_nil) [] 20 _ _ _ _ ?_
      simp (maxSteps := 1000000) [↓Bool.cond_eq_ite, -Prod.forall, -Prod.exists, -Prod.mk.injEq, jvk, tX12_incomeShare, jtb, jol, jst, jlk, jcmp, jbin, jfl, fX12, jc2, lX12, jcat, jel, lv_args, Value.category, jins, jsrt, jins2, jble, jblt, jf3, List.filter_cons, List.filter_nil, G_m, oX12_isPerson, oX12_fails, oX12_laysProposal, oX12_isLiving, joR, joRI, -Int32.not_le, -Int32.not_lt, -Int64.not_le, -Int64.not_lt, i3lt, i6lt, hC0]
      try simp (disch := omega) [-Prod.forall, -Prod.exists, -Prod.mk.injEq, -Int32.not_le, -Int32.not_lt, -Int64.not_le, -Int64.not_lt, i3lt, i6lt, hC0]
      exact hp _ _ ⟨by rw [mNo, if_pos h, if_neg (fun z => hC0 z.1)], (sc_th σ 0).tr f0, by rw [if_pos h]; exact e11⟩
  · refine jCon.ofP (by decide +kernel) (by simp [lg_sl, Value.category]) (fun post hp => ?_)
    refine jvk_ok TX12_incomeShare (V := [(135, 2, 12, oX12_isPerson), (138, 2, 12, oX12_fails), (217, 1, 12, oX12_laysProposal), (131, 2, 12, oX12_isLiving)]) (S := []) (List.forall_mem_cons.mpr ⟨⟨mX12_isPerson, n + 1, 1, TX12, 53, rfl, by omega, kX12_135, WX12_isPerson, rfl, CX12_isPerson g (n)⟩, (List.forall_mem_cons.mpr ⟨⟨mX12_fails, n + 0, 1, TX12, 53, rfl, by omega, kX12_138, WX12_fails, rfl, CX12_fails g (n)⟩, (List.forall_mem_cons.mpr ⟨⟨mX12_laysProposal, n + 15, 0, TX12, 53, rfl, by omega, kX12_217, WX12_laysProposal, rfl, CX12_laysProposal g (n)⟩, (List.forall_mem_cons.mpr ⟨⟨mX12_isLiving, n + 2, 1, TX12, 53, rfl, by omega, kX12_131, WX12_isLiving, rfl, CX12_isLiving g (n)⟩, (fun _ h => absurd h List.not_mem_nil)⟩)⟩)⟩)⟩) (fun _ h => absurd h List.not_mem_nil) [] 20 _ _ _ _ ?_
    simp (maxSteps := 1000000) [↓Bool.cond_eq_ite, -Prod.forall, -Prod.exists, -Prod.mk.injEq, jvk, tX12_incomeShare, jtb, jol, jst, jlk, jcmp, jbin, jfl, fX12, jc2, lX12, jcat, jel, lv_args, Value.category, jins, jsrt, jins2, jble, jblt, jf3, List.filter_cons, List.filter_nil, G_m, oX12_isPerson, oX12_fails, oX12_laysProposal, oX12_isLiving, joR, joRI, -Int32.not_le, -Int32.not_lt, -Int64.not_le, -Int64.not_lt, i3lt, i6lt, h]
    try simp (disch := omega) [-Prod.forall, -Prod.exists, -Prod.mk.injEq, -Int32.not_le, -Int32.not_lt, -Int64.not_le, -Int64.not_lt, i3lt, i6lt, h]
    exact hp _ _ ⟨by rw [mNo, if_neg h], sc_th σ 1, by rw [if_neg h]; rfl⟩
def oX12_proposedPayment : jO := joRI fun a x σ => (a = 322 ∧ mOK σ ∧ dI (σ.1 323), fun v τ => v = some (.int (mNo σ x (paS σ (shN σ) (cn (xl σ) x.toNatClampNeg)))) ∧ jfr aSc bSc σ τ ∧ τ.1 322 11 = if mP σ x = true then 0 else 1)
set_option maxRecDepth 100000 in
set_option maxHeartbeats 4000000 in
theorem CX12_proposedPayment (g : jG) (n : Nat) : jOk g (n + 16) mX12_proposedPayment oX12_proposedPayment := by
  refine joRI_ok ?_
  rintro _ x σ ⟨rfl, hok, hd⟩
  have hd1 : dI ((jup σ 322 11 0).1 323) := hd
  by_cases h : mP σ x = true
  · have hx := (mP_jin hok h).2
    refine jCon.ofP (by decide +kernel) (by simp [lg_sl, Value.category]) (fun post hp => ?_)
    refine jvk_ok TX12_proposedPayment (V := [(135, 2, 12, oX12_isPerson), (138, 2, 12, oX12_fails), (217, 1, 12, oX12_laysProposal), (131, 2, 12, oX12_isLiving)]) (S := []) (List.forall_mem_cons.mpr ⟨⟨mX12_isPerson, n + 1, 1, TX12, 53, rfl, by omega, kX12_135, WX12_isPerson, rfl, CX12_isPerson g (n)⟩, (List.forall_mem_cons.mpr ⟨⟨mX12_fails, n + 0, 1, TX12, 53, rfl, by omega, kX12_138, WX12_fails, rfl, CX12_fails g (n)⟩, (List.forall_mem_cons.mpr ⟨⟨mX12_laysProposal, n + 15, 0, TX12, 53, rfl, by omega, kX12_217, WX12_laysProposal, rfl, CX12_laysProposal g (n)⟩, (List.forall_mem_cons.mpr ⟨⟨mX12_isLiving, n + 2, 1, TX12, 53, rfl, by omega, kX12_131, WX12_isLiving, rfl, CX12_isLiving g (n)⟩, (fun _ h => absurd h List.not_mem_nil)⟩)⟩)⟩)⟩) (fun _ h => absurd h List.not_mem_nil) [18] 20 _ _ _ _ ?_
    simp (maxSteps := 1000000) [↓Bool.cond_eq_ite, -Prod.forall, -Prod.exists, -Prod.mk.injEq, jvk, tX12_proposedPayment, jtb, jol, jst, jlk, jcmp, jbin, jfl, fX12, jc2, lX12, jcat, jel, lv_args, Value.category, jins, jsrt, jins2, jble, jblt, jf3, List.filter_cons, List.filter_nil, G_m, oX12_isPerson, oX12_fails, oX12_laysProposal, oX12_isLiving, joR, joRI, -Int32.not_le, -Int32.not_lt, -Int64.not_le, -Int64.not_lt, i3lt, i6lt, h, mOK_th hok, hd1]
    try simp (disch := omega) [-Prod.forall, -Prod.exists, -Prod.mk.injEq, -Int32.not_le, -Int32.not_lt, -Int64.not_le, -Int64.not_lt, i3lt, i6lt, h, mOK_th hok, hd1]
    intro v0 τ0 hv0 f0 e11 ha0 hy0
    subst hv0
    have eC : dC (jup σ 322 11 0) = dC σ := rfl
    have s0 : sR σ τ0 := sc_R ((sc_th σ 0).tr f0)
    rw [eC] at ha0 hy0 ⊢
    by_cases hC0 : (dC σ).isSome = true
    · by_cases hl : xl σ x.toNatClampNeg = true
      · have hl1 : mD τ0 x.toNatClampNeg 0 = 1 := by rw [sR_D s0, mD_xl]; exact hl
        have e340 := (hy0 hC0 _ (mP_lt hok h)).2.2
        have e340' : τ0.1 340 x.toNatClampNeg = paS σ (shN σ) (cn (xl σ) x.toNatClampNeg) := by rw [e340]; exact if_pos hl
        refine jvk_ok TX12_proposedPayment (V := [(135, 2, 12, oX12_isPerson), (138, 2, 12, oX12_fails), (217, 1, 12, oX12_laysProposal), (131, 2, 12, oX12_isLiving)]) (S := []) (List.forall_mem_cons.mpr ⟨⟨mX12_isPerson, n + 1, 1, TX12, 53, rfl, by omega, kX12_135, WX12_isPerson, rfl, CX12_isPerson g (n)⟩, (List.forall_mem_cons.mpr ⟨⟨mX12_fails, n + 0, 1, TX12, 53, rfl, by omega, kX12_138, WX12_fails, rfl, CX12_fails g (n)⟩, (List.forall_mem_cons.mpr ⟨⟨mX12_laysProposal, n + 15, 0, TX12, 53, rfl, by omega, kX12_217, WX12_laysProposal, rfl, CX12_laysProposal g (n)⟩, (List.forall_mem_cons.mpr ⟨⟨mX12_isLiving, n + 2, 1, TX12, 53, rfl, by omega, kX12_131, WX12_isLiving, rfl, CX12_isLiving g (n)⟩, (fun _ h => absurd h List.not_mem_nil)⟩)⟩)⟩)⟩) (fun _ h => absurd h List.not_mem_nil) [] 20 _ _ _ _ ?_
        simp (maxSteps := 1000000) [↓Bool.cond_eq_ite, -Prod.forall, -Prod.exists, -Prod.mk.injEq, jvk, tX12_proposedPayment, jtb, jol, jst, jlk, jcmp, jbin, jfl, fX12, jc2, lX12, jcat, jel, lv_args, Value.category, jins, jsrt, jins2, jble, jblt, jf3, List.filter_cons, List.filter_nil, G_m, oX12_isPerson, oX12_fails, oX12_laysProposal, oX12_isLiving, joR, joRI, -Int32.not_le, -Int32.not_lt, -Int64.not_le, -Int64.not_lt, i3lt, i6lt, hC0, hx, hl1, e340', jin_c, tn_c]
        try simp (disch := omega) [-Prod.forall, -Prod.exists, -Prod.mk.injEq, -Int32.not_le, -Int32.not_lt, -Int64.not_le, -Int64.not_lt, i3lt, i6lt, hC0, hx, hl1, e340', jin_c, tn_c]
        exact hp _ _ ⟨by rw [mNo, if_pos h, if_pos ⟨hC0, hl⟩], (sc_th σ 0).tr f0, by rw [if_pos h]; exact e11⟩
      · have hl1 : ¬ mD τ0 x.toNatClampNeg 0 = 1 := by rw [sR_D s0, mD_xl]; exact hl
        refine jvk_ok TX12_proposedPayment (V := [(135, 2, 12, oX12_isPerson), (138, 2, 12, oX12_fails), (217, 1, 12, oX12_laysProposal), (131, 2, 12, oX12_isLiving)]) (S := []) (List.forall_mem_cons.mpr ⟨⟨mX12_isPerson, n + 1, 1, TX12, 53, rfl, by omega, kX12_135, WX12_isPerson, rfl, CX12_isPerson g (n)⟩, (List.forall_mem_cons.mpr ⟨⟨mX12_fails, n + 0, 1, TX12, 53, rfl, by omega, kX12_138, WX12_fails, rfl, CX12_fails g (n)⟩, (List.forall_mem_cons.mpr ⟨⟨mX12_laysProposal, n + 15, 0, TX12, 53, rfl, by omega, kX12_217, WX12_laysProposal, rfl, CX12_laysProposal g (n)⟩, (List.forall_mem_cons.mpr ⟨⟨mX12_isLiving, n + 2, 1, TX12, 53, rfl, by omega, kX12_131, WX12_isLiving, rfl, CX12_isLiving g (n)⟩, (fun _ h => absurd h List.not_mem_nil)⟩)⟩)⟩)⟩) (fun _ h => absurd h List.not_mem_nil) [] 20 _ _ _ _ ?_
        simp (maxSteps := 1000000) [↓Bool.cond_eq_ite, -Prod.forall, -Prod.exists, -Prod.mk.injEq, jvk, tX12_proposedPayment, jtb, jol, jst, jlk, jcmp, jbin, jfl, fX12, jc2, lX12, jcat, jel, lv_args, Value.category, jins, jsrt, jins2, jble, jblt, jf3, List.filter_cons, List.filter_nil, G_m, oX12_isPerson, oX12_fails, oX12_laysProposal, oX12_isLiving, joR, joRI, -Int32.not_le, -Int32.not_lt, -Int64.not_le, -Int64.not_lt, i3lt, i6lt, hC0, hx, hl1, jin_c, tn_c]
        try simp (disch := omega) [-Prod.forall, -Prod.exists, -Prod.mk.injEq, -Int32.not_le, -Int32.not_lt, -Int64.not_le, -Int64.not_lt, i3lt, i6lt, hC0, hx, hl1, jin_c, tn_c]
        exact hp _ _ ⟨by rw [mNo, if_pos h, if_neg (fun z => hl z.2)], (sc_th σ 0).tr f0, by rw [if_pos h]; exact e11⟩
    · refine jvk_ok TX12_proposedPayment (V := [(135, 2, 12, oX12_isPerson), (138, 2, 12, oX12_fails), (217, 1, 12, oX12_laysProposal), (131, 2, 12, oX12_isLiving)]) (S := []) (List.forall_mem_cons.mpr ⟨⟨mX12_isPerson, n + 1, 1, TX12, 53, rfl, by omega, kX12_135, WX12_isPerson, rfl, CX12_isPerson g (n)⟩, (List.forall_mem_cons.mpr ⟨⟨mX12_fails, n + 0, 1, TX12, 53, rfl, by omega, kX12_138, WX12_fails, rfl, CX12_fails g (n)⟩, (List.forall_mem_cons.mpr ⟨⟨mX12_laysProposal, n + 15, 0, TX12, 53, rfl, by omega, kX12_217, WX12_laysProposal, rfl, CX12_laysProposal g (n)⟩, (List.forall_mem_cons.mpr ⟨⟨mX12_isLiving, n + 2, 1, TX12, 53, rfl, by omega, kX12_131, WX12_isLiving, rfl, CX12_isLiving g (n)⟩, (fun _ h => absurd h List.not_mem_nil)⟩)⟩)⟩)⟩) (fun _ h => absurd h List.not_mem_nil) [] 20 _ _ _ _ ?_
      simp (maxSteps := 1000000) [↓Bool.cond_eq_ite, -Prod.forall, -Prod.exists, -Prod.mk.injEq, jvk, tX12_proposedPayment, jtb, jol, jst, jlk, jcmp, jbin, jfl, fX12, jc2, lX12, jcat, jel, lv_args, Value.category, jins, jsrt, jins2, jble, jblt, jf3, List.filter_cons, List.filter_nil, G_m, oX12_isPerson, oX12_fails, oX12_laysProposal, oX12_isLiving, joR, joRI, -Int32.not_le, -Int32.not_lt, -Int64.not_le, -Int64.not_lt, i3lt, i6lt, hC0]
      try simp (disch := omega) [-Prod.forall, -Prod.exists, -Prod.mk.injEq, -Int32.not_le, -Int32.not_lt, -Int64.not_le, -Int64.not_lt, i3lt, i6lt, hC0]
      exact hp _ _ ⟨by rw [mNo, if_pos h, if_neg (fun z => hC0 z.1)], (sc_th σ 0).tr f0, by rw [if_pos h]; exact e11⟩
  · refine jCon.ofP (by decide +kernel) (by simp [lg_sl, Value.category]) (fun post hp => ?_)
    refine jvk_ok TX12_proposedPayment (V := [(135, 2, 12, oX12_isPerson), (138, 2, 12, oX12_fails), (217, 1, 12, oX12_laysProposal), (131, 2, 12, oX12_isLiving)]) (S := []) (List.forall_mem_cons.mpr ⟨⟨mX12_isPerson, n + 1, 1, TX12, 53, rfl, by omega, kX12_135, WX12_isPerson, rfl, CX12_isPerson g (n)⟩, (List.forall_mem_cons.mpr ⟨⟨mX12_fails, n + 0, 1, TX12, 53, rfl, by omega, kX12_138, WX12_fails, rfl, CX12_fails g (n)⟩, (List.forall_mem_cons.mpr ⟨⟨mX12_laysProposal, n + 15, 0, TX12, 53, rfl, by omega, kX12_217, WX12_laysProposal, rfl, CX12_laysProposal g (n)⟩, (List.forall_mem_cons.mpr ⟨⟨mX12_isLiving, n + 2, 1, TX12, 53, rfl, by omega, kX12_131, WX12_isLiving, rfl, CX12_isLiving g (n)⟩, (fun _ h => absurd h List.not_mem_nil)⟩)⟩)⟩)⟩) (fun _ h => absurd h List.not_mem_nil) [] 20 _ _ _ _ ?_
    simp (maxSteps := 1000000) [↓Bool.cond_eq_ite, -Prod.forall, -Prod.exists, -Prod.mk.injEq, jvk, tX12_proposedPayment, jtb, jol, jst, jlk, jcmp, jbin, jfl, fX12, jc2, lX12, jcat, jel, lv_args, Value.category, jins, jsrt, jins2, jble, jblt, jf3, List.filter_cons, List.filter_nil, G_m, oX12_isPerson, oX12_fails, oX12_laysProposal, oX12_isLiving, joR, joRI, -Int32.not_le, -Int32.not_lt, -Int64.not_le, -Int64.not_lt, i3lt, i6lt, h]
    try simp (disch := omega) [-Prod.forall, -Prod.exists, -Prod.mk.injEq, -Int32.not_le, -Int32.not_lt, -Int64.not_le, -Int64.not_lt, i3lt, i6lt, h]
    exact hp _ _ ⟨by rw [mNo, if_neg h], sc_th σ 1, by rw [if_neg h]; rfl⟩
