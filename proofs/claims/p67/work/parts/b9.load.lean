/-! Loader: a person -/
theorem pVals_fr {b : Nat → Int32} {len P : Nat} : ∀ (d r s : Nat) (μ : pM) (q : pS), r + d ≤ 6 → pVals b len P d r s μ = .inr q → ∀ a j, ¬ (a = 347 ∧ 8 + 20 * P + 7 ≤ j ∧ j < 8 + 20 * P + 19) → q.2 a j = μ a j
  | 0, r, s, μ, q, _, h, a, j, _ => by
    simp only [pVals] at h
    cases h
    rfl
  | d + 1, r, s, μ, q, hd, h, a, j, hj => by
    simp only [pVals] at h
    by_cases c : isW b len s wNo = true
    · rw [if_pos c] at h
      rw [pVals_fr d (r + 1) _ _ q (by omega) h a j hj, u1_n _ _ (by omega)]
    · rw [if_neg c] at h
      rcases eI : pInt b len 9999 s with e | y
      · rw [eI] at h
        cases h
      · rw [eI] at h
        have h : pVals b len P d (r + 1) (nx b len s) (u1 (u1 μ 347 (8 + 20 * P + (13 + r)) 0) 347 (8 + 20 * P + (7 + r)) (nI y)) = .inr q := h
        rw [pVals_fr d (r + 1) _ _ q (by omega) h a j hj, u1_n _ _ (by omega), u1_n _ _ (by omega)]
/-- within a person's values -/
def lVv (P r : Nat) (τ : jM) (μ : pM) : Prop := lRN (P + 1) τ μ ∧ pe μ = P ∧ ∀ k, k < r → τ.1 (9 + P) k = wV μ P k
def aPv (P a j : Nat) : Bool := aLn a j || a == 9 + P
theorem pv_ln {P a j : Nat} (h : aPv P a j = false) : aLn a j = false := by
  unfold aPv at h
  simp only [Bool.or_eq_false_iff] at h
  exact h.1
theorem pv_of {P a j : Nat} (h1 : aLn a j = false) (h2 : ¬ a = 9 + P) : aPv P a j = false := by
  unfold aPv
  simp only [Bool.or_eq_false_iff, beq_eq_false_iff_ne]
  exact ⟨h1, h2⟩
theorem pv_lw {P a j : Nat} (hP : P < 10) (h : aLq a j = false) : aPv P a j = false := by
  refine pv_of (lw_ln h) ?_
  unfold aLq at h
  rw [jble, jble, jble, jble, jble] at h
  simp only [Bool.or_eq_false_iff, Bool.and_eq_false_iff, beq_eq_false_iff_ne, decide_eq_false_iff_not] at h
  omega
theorem lRN_u {N P : Nat} {σ τ : jM} {μ ν : pM} (h : lRN N σ μ) (hP : pe μ = P) (hP10 : P < 10) (f : jfr (aPv P) b0 σ τ) (e : ∀ a j, ¬ (a = 347 ∧ 8 + 20 * P ≤ j) → ¬ (a = 349 ∧ P ≤ j) → ν a j = μ a j) : lRN N τ ν := by
  subst hP
  refine ⟨lA_cg h.1 (fun a j q => f.2.2 a j ?_) (fun a j q => e a j ?_ ?_), lB_cg h.2.1 (fun a j q => f.2.2 a j ?_) (fun a j q => e a j ?_ ?_), lC_cg h.2.2 (fun a j q => f.2.2 a j ?_) (fun a j q => e a j ?_ ?_)⟩
  · unfold lUA at q; exact pv_of (ln_of (by omega) (by omega)) (by omega)
  · unfold lVA at q; omega
  · unfold lVA at q; omega
  · unfold lUB at q; exact pv_of (ln_of (by omega) (by omega)) (by omega)
  · unfold lVB at q; omega
  · unfold lVB at q; omega
  · unfold lUC at q; exact pv_of (ln_of (by omega) (by omega)) (by omega)
  · unfold lVC at q; omega
  · unfold lVC at q; omega
def pvRes (P R : Nat) (v : Option Value) (τ : jM) : pE ⊕ pS → Prop
  | .inl e => lEr v τ e
  | .inr q => v = some (.int 1) ∧ toP τ q.1 ∧ lVv P R τ q.2
theorem lVv_s {P r : Nat} {σ τ : jM} {μ ν : pM} (h : lVv P r σ μ) (hP10 : P < 10) (hr : r < 6) (f : jfr (aPv P) b0 σ τ) (e : ∀ a j, ¬ (a = 347 ∧ (j = 8 + 20 * P + (13 + r) ∨ j = 8 + 20 * P + (7 + r))) → ν a j = μ a j) (hk : ∀ k, k < r → τ.1 (9 + P) k = σ.1 (9 + P) k) (hn : τ.1 (9 + P) r = wV ν P r) : lVv P (r + 1) τ ν := by
  obtain ⟨h1, h2, h3⟩ := h
  refine ⟨lRN_u h1 h2 hP10 f (fun a j q1 q2 => e a j (by omega)), ?_, fun k k1 => ?_⟩
  · rw [← h2]
    unfold pe
    rw [e _ _ (by omega)]
  · by_cases c : k = r
    · rw [c]; exact hn
    · rw [hk k (by omega), h3 k (by omega)]
      unfold wV
      rw [e _ _ (by omega), e 347 (8 + 20 * P + (7 + k)) (by omega)]
set_option maxRecDepth 100000 in
set_option maxHeartbeats 4000000 in
theorem CPs_1 (g : jG) (n : Nat) (hE : jEs g) {post : Option Value → jM → Prop} {σ : jM} (hT : kT σ) {P R : Nat} (hP : P < 10) (hR : R ≤ 6) (g0 : σ.1 4 0 = nI R) : ∀ (d r s : Nat) (τ : jM), r + d = R → jfr (aPv P) b0 σ τ → toP τ s → (∀ v ω, jfr (aPv P) b0 σ ω → k9 v τ ω → (∀ μ, lVv P r τ μ → pvRes P R v ω (pVals (σ.1 3) (kLn σ) P d r s μ)) → post v ω) → jW g mX4_readPerson (n + 6) post 111 [(0, .ref 1), (1, .int (nI P)), (2, .int (nI r))] [] τ := by
  intro d
  induction d with
  | zero =>
    intro r s τ hd f ht hp
    have z4 : τ.1 4 0 = nI R := (f.2.2 4 0 (pv_of (ln_of (by omega) (by omega)) (by omega))).trans g0
    have hge : nI R ≤ nI r := nI_le (by omega) (by omega)
    have k1 := hp (some (.int 1)) τ f (fun _ => rfl) (fun μ h => ⟨rfl, ht, by
      rw [show R = r by omega]
      exact h⟩)
    refine jvk_ok TX4_readPerson (V := [(113, 2, 4, oX4_fail), (131, 1, 4, oX4_readName), (142, 3, 7, oX7_findPerson), (145, 3, 7, oX7_namePerson), (117, 1, 10, oX10_advance), (149, 2, 4, oX4_readNumber), (81, 2, 10, oX10_isWord)]) (S := []) (List.forall_mem_cons.mpr ⟨⟨mX4_fail, n + 0, 1, TX4, 10, rfl, by omega, kX4_113, WX4_fail, rfl, CX4_fail g (n)⟩, (List.forall_mem_cons.mpr ⟨⟨mX4_readName, n + 2, 0, TX4, 10, rfl, by omega, kX4_131, WX4_readName, rfl, CX4_readName g (n)⟩, (List.forall_mem_cons.mpr ⟨⟨mX7_findPerson, n + 0, 2, TX7, 6, rfl, by omega, kX4_142, WX7_findPerson, rfl, CX7_findPerson g (n)⟩, (List.forall_mem_cons.mpr ⟨⟨mX7_namePerson, n + 0, 2, TX7, 6, rfl, by omega, kX4_145, WX7_namePerson, rfl, CX7_namePerson g (n)⟩, (List.forall_mem_cons.mpr ⟨⟨mX10_advance, n + 1, 0, TX10, 6, rfl, by omega, kX4_117, WX10_advance, rfl, CX10_advance g (n)⟩, (List.forall_mem_cons.mpr ⟨⟨mX4_readNumber, n + 2, 1, TX4, 10, rfl, by omega, kX4_149, WX4_readNumber, rfl, CX4_readNumber g (n)⟩, (List.forall_mem_cons.mpr ⟨⟨mX10_isWord, n + 5, 1, TX10, 6, rfl, by omega, kX4_81, WX10_isWord, rfl, CX10_isWord g (n) hE⟩, (fun _ h => absurd h List.not_mem_nil)⟩)⟩)⟩)⟩)⟩)⟩)⟩) (fun _ h => absurd h List.not_mem_nil) [111] 20 _ _ _ _ ?_
    simp (maxSteps := 1000000) [↓Bool.cond_eq_ite, -Prod.forall, -Prod.exists, -Prod.mk.injEq, jvk, tX4_readPerson, jtb, jol, jst, jlk, jcmp, jbin, jfl, fX4, jc2, lX4, jcat, jel, lv_args, Value.category, jins, jsrt, jins2, jble, jblt, jf3, List.filter_cons, List.filter_nil, G_loader, G_lflat, G_lroster, oX4_fail, oX4_readName, oX7_findPerson, oX7_namePerson, oX10_advance, oX4_readNumber, oX10_isWord, joR, joRI, joRII, joRR, -Int32.not_le, -Int32.not_lt, -Int64.not_le, -Int64.not_lt, i3lt, i6lt, z4, hge]
    try simp (disch := omega) [-Prod.forall, -Prod.exists, -Prod.mk.injEq, -Int32.not_le, -Int32.not_lt, -Int64.not_le, -Int64.not_lt, i3lt, i6lt, z4, hge]
    exact k1
  | succ d ih =>
    intro r s τ hd f ht hp
    have z4 : τ.1 4 0 = nI R := (f.2.2 4 0 (pv_of (ln_of (by omega) (by omega)) (by omega))).trans g0
    have nge : ¬ nI R ≤ nI r := nI_ge (by omega) (by omega)
    have e3 : τ.1 3 = σ.1 3 := funext fun j => f.2.2 3 j (pv_of (ln_of (by omega) (by omega)) (by omega))
    have e22 : τ.1 2 2 = σ.1 2 2 := f.2.2 2 2 (pv_of rfl (by omega))
    have eL : kLn τ = kLn σ := by unfold kLn; rw [e22]
    have hT1 : kT τ := by unfold kT; rw [e22]; exact hT
    have hcl := toP_c hT1 ht
    have jr6 : jin (nI r) 6 := jin_nI (by omega) (by decide)
    have ecr : (nI r).toNatClampNeg = r := nI_clamp (by omega)
    have jp : jin (nI P) 10 := jin_nI hP (by decide)
    have ecp : (nI P).toNatClampNeg = P := nI_clamp (by omega)
    obtain ⟨ap, lp⟩ := wL_row P hP
    refine jvk_ok TX4_readPerson (V := [(113, 2, 4, oX4_fail), (131, 1, 4, oX4_readName), (142, 3, 7, oX7_findPerson), (145, 3, 7, oX7_namePerson), (117, 1, 10, oX10_advance), (149, 2, 4, oX4_readNumber), (81, 2, 10, oX10_isWord)]) (S := []) (List.forall_mem_cons.mpr ⟨⟨mX4_fail, n + 0, 1, TX4, 10, rfl, by omega, kX4_113, WX4_fail, rfl, CX4_fail g (n)⟩, (List.forall_mem_cons.mpr ⟨⟨mX4_readName, n + 2, 0, TX4, 10, rfl, by omega, kX4_131, WX4_readName, rfl, CX4_readName g (n)⟩, (List.forall_mem_cons.mpr ⟨⟨mX7_findPerson, n + 0, 2, TX7, 6, rfl, by omega, kX4_142, WX7_findPerson, rfl, CX7_findPerson g (n)⟩, (List.forall_mem_cons.mpr ⟨⟨mX7_namePerson, n + 0, 2, TX7, 6, rfl, by omega, kX4_145, WX7_namePerson, rfl, CX7_namePerson g (n)⟩, (List.forall_mem_cons.mpr ⟨⟨mX10_advance, n + 1, 0, TX10, 6, rfl, by omega, kX4_117, WX10_advance, rfl, CX10_advance g (n)⟩, (List.forall_mem_cons.mpr ⟨⟨mX4_readNumber, n + 2, 1, TX4, 10, rfl, by omega, kX4_149, WX4_readNumber, rfl, CX4_readNumber g (n)⟩, (List.forall_mem_cons.mpr ⟨⟨mX10_isWord, n + 5, 1, TX10, 6, rfl, by omega, kX4_81, WX10_isWord, rfl, CX10_isWord g (n) hE⟩, (fun _ h => absurd h List.not_mem_nil)⟩)⟩)⟩)⟩)⟩)⟩)⟩) (fun _ h => absurd h List.not_mem_nil) [126] 20 _ _ _ _ ?_
    simp (maxSteps := 1000000) [↓Bool.cond_eq_ite, -Prod.forall, -Prod.exists, -Prod.mk.injEq, jvk, tX4_readPerson, jtb, jol, jst, jlk, jcmp, jbin, jfl, fX4, jc2, lX4, jcat, jel, lv_args, Value.category, jins, jsrt, jins2, jble, jblt, jf3, List.filter_cons, List.filter_nil, G_loader, G_lflat, G_lroster, oX4_fail, oX4_readName, oX7_findPerson, oX7_namePerson, oX10_advance, oX4_readNumber, oX10_isWord, joR, joRI, joRII, joRR, -Int32.not_le, -Int32.not_lt, -Int64.not_le, -Int64.not_lt, i3lt, i6lt, z4, nge]
    try simp (disch := omega) [-Prod.forall, -Prod.exists, -Prod.mk.injEq, -Int32.not_le, -Int32.not_lt, -Int64.not_le, -Int64.not_lt, i3lt, i6lt, z4, nge]
    refine jr_ldcS (i := 2) hE (by decide) rfl rfl (by decide +kernel) ?_
    by_cases c : isW (σ.1 3) (kLn σ) s wNo = true
    · have d1 : isW (τ.1 3) (kLn τ) s (stW 2) = true := by rw [e3, eL]; exact c
      obtain ⟨ρ, eρ⟩ : ∃ ρ, ρ = jup τ (9 + P) r (-1) := ⟨_, rfl⟩
      have E : ∀ a j, ¬ (a = 9 + P ∧ j = r) → ρ.1 a j = τ.1 a j := fun a j h => by rw [eρ, jup_1, if_neg h]
      have tρ : toP ρ s := by
        have q3 : ρ.1 3 = τ.1 3 := funext fun j => E 3 j (by omega)
        have q2 : ρ.1 2 = τ.1 2 := funext fun j => E 2 j (by omega)
        have qL : kLn ρ = kLn τ := by unfold kLn; rw [q2]
        unfold toP
        rw [q2, q3, qL]
        exact ht
      have hTρ : kT ρ := by unfold kT; rw [E 2 2 (by omega)]; exact hT1
      have gρ : ρ.1 3 = σ.1 3 ∧ kLn ρ = kLn σ := ⟨(funext fun j => E 3 j (by omega)).trans e3, by unfold kLn; rw [E 2 2 (by omega), e22]⟩
      have fρ : jfr (aPv P) b0 τ ρ := by rw [eρ]; exact jfr.rfl.up _ (by unfold aPv; simp)
      have hpre := toP_p hTρ tρ
      refine jvk_ok TX4_readPerson (V := [(113, 2, 4, oX4_fail), (131, 1, 4, oX4_readName), (142, 3, 7, oX7_findPerson), (145, 3, 7, oX7_namePerson), (117, 1, 10, oX10_advance), (149, 2, 4, oX4_readNumber), (81, 2, 10, oX10_isWord)]) (S := []) (List.forall_mem_cons.mpr ⟨⟨mX4_fail, n + 0, 1, TX4, 10, rfl, by omega, kX4_113, WX4_fail, rfl, CX4_fail g (n)⟩, (List.forall_mem_cons.mpr ⟨⟨mX4_readName, n + 2, 0, TX4, 10, rfl, by omega, kX4_131, WX4_readName, rfl, CX4_readName g (n)⟩, (List.forall_mem_cons.mpr ⟨⟨mX7_findPerson, n + 0, 2, TX7, 6, rfl, by omega, kX4_142, WX7_findPerson, rfl, CX7_findPerson g (n)⟩, (List.forall_mem_cons.mpr ⟨⟨mX7_namePerson, n + 0, 2, TX7, 6, rfl, by omega, kX4_145, WX7_namePerson, rfl, CX7_namePerson g (n)⟩, (List.forall_mem_cons.mpr ⟨⟨mX10_advance, n + 1, 0, TX10, 6, rfl, by omega, kX4_117, WX10_advance, rfl, CX10_advance g (n)⟩, (List.forall_mem_cons.mpr ⟨⟨mX4_readNumber, n + 2, 1, TX4, 10, rfl, by omega, kX4_149, WX4_readNumber, rfl, CX4_readNumber g (n)⟩, (List.forall_mem_cons.mpr ⟨⟨mX10_isWord, n + 5, 1, TX10, 6, rfl, by omega, kX4_81, WX10_isWord, rfl, CX10_isWord g (n) hE⟩, (fun _ h => absurd h List.not_mem_nil)⟩)⟩)⟩)⟩)⟩)⟩)⟩) (fun _ h => absurd h List.not_mem_nil) [146] 60 _ _ _ _ ?_
      simp (maxSteps := 1000000) [↓Bool.cond_eq_ite, -Prod.forall, -Prod.exists, -Prod.mk.injEq, jvk, tX4_readPerson, jtb, jol, jst, jlk, jcmp, jbin, jfl, fX4, jc2, lX4, jcat, jel, lv_args, Value.category, jins, jsrt, jins2, jble, jblt, jf3, List.filter_cons, List.filter_nil, G_loader, G_lflat, G_lroster, oX4_fail, oX4_readName, oX7_findPerson, oX7_namePerson, oX10_advance, oX4_readNumber, oX10_isWord, joR, joRI, joRII, joRR, -Int32.not_le, -Int32.not_lt, -Int64.not_le, -Int64.not_lt, i3lt, i6lt, hT1, ht, hcl, d1, jr6, ecr, jp, ecp, G_lflat, ap, lp]
      try simp (disch := omega) [-Prod.forall, -Prod.exists, -Prod.mk.injEq, -Int32.not_le, -Int32.not_lt, -Int64.not_le, -Int64.not_lt, i3lt, i6lt, hT1, ht, hcl, d1, jr6, ecr, jp, ecp, G_lflat, ap, lp]
      rw [← eρ]
      refine jvk_ok TX4_readPerson (V := [(113, 2, 4, oX4_fail), (131, 1, 4, oX4_readName), (142, 3, 7, oX7_findPerson), (145, 3, 7, oX7_namePerson), (117, 1, 10, oX10_advance), (149, 2, 4, oX4_readNumber), (81, 2, 10, oX10_isWord)]) (S := []) (List.forall_mem_cons.mpr ⟨⟨mX4_fail, n + 0, 1, TX4, 10, rfl, by omega, kX4_113, WX4_fail, rfl, CX4_fail g (n)⟩, (List.forall_mem_cons.mpr ⟨⟨mX4_readName, n + 2, 0, TX4, 10, rfl, by omega, kX4_131, WX4_readName, rfl, CX4_readName g (n)⟩, (List.forall_mem_cons.mpr ⟨⟨mX7_findPerson, n + 0, 2, TX7, 6, rfl, by omega, kX4_142, WX7_findPerson, rfl, CX7_findPerson g (n)⟩, (List.forall_mem_cons.mpr ⟨⟨mX7_namePerson, n + 0, 2, TX7, 6, rfl, by omega, kX4_145, WX7_namePerson, rfl, CX7_namePerson g (n)⟩, (List.forall_mem_cons.mpr ⟨⟨mX10_advance, n + 1, 0, TX10, 6, rfl, by omega, kX4_117, WX10_advance, rfl, CX10_advance g (n)⟩, (List.forall_mem_cons.mpr ⟨⟨mX4_readNumber, n + 2, 1, TX4, 10, rfl, by omega, kX4_149, WX4_readNumber, rfl, CX4_readNumber g (n)⟩, (List.forall_mem_cons.mpr ⟨⟨mX10_isWord, n + 5, 1, TX10, 6, rfl, by omega, kX4_81, WX10_isWord, rfl, CX10_isWord g (n) hE⟩, (fun _ h => absurd h List.not_mem_nil)⟩)⟩)⟩)⟩)⟩)⟩)⟩) (fun _ h => absurd h List.not_mem_nil) [153] 20 _ _ _ _ ?_
      simp (maxSteps := 1000000) [↓Bool.cond_eq_ite, -Prod.forall, -Prod.exists, -Prod.mk.injEq, jvk, tX4_readPerson, jtb, jol, jst, jlk, jcmp, jbin, jfl, fX4, jc2, lX4, jcat, jel, lv_args, Value.category, jins, jsrt, jins2, jble, jblt, jf3, List.filter_cons, List.filter_nil, G_loader, G_lflat, G_lroster, oX4_fail, oX4_readName, oX7_findPerson, oX7_namePerson, oX10_advance, oX4_readNumber, oX10_isWord, joR, joRI, joRII, joRR, -Int32.not_le, -Int32.not_lt, -Int64.not_le, -Int64.not_lt, i3lt, i6lt, hTρ, hpre]
      try simp (disch := omega) [-Prod.forall, -Prod.exists, -Prod.mk.injEq, -Int32.not_le, -Int32.not_lt, -Int64.not_le, -Int64.not_lt, i3lt, i6lt, hTρ, hpre]
      intro v1 τ1 hv1 f1 t1
      subst hv1
      rw [toP_e hTρ tρ, gρ.1, gρ.2] at t1
      have f2 : jfr (aPv P) b0 τ τ1 := fρ.tr (f1.weak (fun a j q => ln_To (pv_ln q)) (fun _ q => q))
      have k1 := ih (r + 1) _ τ1 (by omega) (f.tr f2) t1 (fun v ω fω b q => hp v ω fω (fun z => (b z).trans ((f1.2.2 1 9 rfl).trans (E 1 9 (by omega)))) (fun μ h => by
        simp only [pVals]
        rw [if_pos c]
        refine q _ (lVv_s h hP (by omega) f2 (fun a j hj => u1_n _ _ (by omega)) (fun k hk => ?_) ?_)
        · rw [f1.2.2 _ _ (ln_To (ln_of (by omega) (by omega))), E _ _ (by omega)]
        · rw [f1.2.2 _ _ (ln_To (ln_of (by omega) (by omega))), eρ, jup_s]
          unfold wV
          rw [if_pos (u1_s _ _ _ _)]))
      refine jvk_ok TX4_readPerson (V := [(113, 2, 4, oX4_fail), (131, 1, 4, oX4_readName), (142, 3, 7, oX7_findPerson), (145, 3, 7, oX7_namePerson), (117, 1, 10, oX10_advance), (149, 2, 4, oX4_readNumber), (81, 2, 10, oX10_isWord)]) (S := []) (List.forall_mem_cons.mpr ⟨⟨mX4_fail, n + 0, 1, TX4, 10, rfl, by omega, kX4_113, WX4_fail, rfl, CX4_fail g (n)⟩, (List.forall_mem_cons.mpr ⟨⟨mX4_readName, n + 2, 0, TX4, 10, rfl, by omega, kX4_131, WX4_readName, rfl, CX4_readName g (n)⟩, (List.forall_mem_cons.mpr ⟨⟨mX7_findPerson, n + 0, 2, TX7, 6, rfl, by omega, kX4_142, WX7_findPerson, rfl, CX7_findPerson g (n)⟩, (List.forall_mem_cons.mpr ⟨⟨mX7_namePerson, n + 0, 2, TX7, 6, rfl, by omega, kX4_145, WX7_namePerson, rfl, CX7_namePerson g (n)⟩, (List.forall_mem_cons.mpr ⟨⟨mX10_advance, n + 1, 0, TX10, 6, rfl, by omega, kX4_117, WX10_advance, rfl, CX10_advance g (n)⟩, (List.forall_mem_cons.mpr ⟨⟨mX4_readNumber, n + 2, 1, TX4, 10, rfl, by omega, kX4_149, WX4_readNumber, rfl, CX4_readNumber g (n)⟩, (List.forall_mem_cons.mpr ⟨⟨mX10_isWord, n + 5, 1, TX10, 6, rfl, by omega, kX4_81, WX10_isWord, rfl, CX10_isWord g (n) hE⟩, (fun _ h => absurd h List.not_mem_nil)⟩)⟩)⟩)⟩)⟩)⟩)⟩) (fun _ h => absurd h List.not_mem_nil) [111] 20 _ _ _ _ ?_
      simp (maxSteps := 1000000) [↓Bool.cond_eq_ite, -Prod.forall, -Prod.exists, -Prod.mk.injEq, jvk, tX4_readPerson, jtb, jol, jst, jlk, jcmp, jbin, jfl, fX4, jc2, lX4, jcat, jel, lv_args, Value.category, jins, jsrt, jins2, jble, jblt, jf3, List.filter_cons, List.filter_nil, G_loader, G_lflat, G_lroster, oX4_fail, oX4_readName, oX7_findPerson, oX7_namePerson, oX10_advance, oX4_readNumber, oX10_isWord, joR, joRI, joRII, joRR, -Int32.not_le, -Int32.not_lt, -Int64.not_le, -Int64.not_lt, i3lt, i6lt, nI_1]
      try simp (disch := omega) [-Prod.forall, -Prod.exists, -Prod.mk.injEq, -Int32.not_le, -Int32.not_lt, -Int64.not_le, -Int64.not_lt, i3lt, i6lt, nI_1]
      exact k1
    · have d1 : ¬ isW (τ.1 3) (kLn τ) s (stW 2) = true := by rw [e3, eL]; exact c
      have hx : ∃ s, toP τ s := ⟨s, ht⟩
      have h9 : ∃ hi, (9999 : Int32) = nI hi ∧ hi ≤ 99999 := ⟨9999, rfl, by decide⟩
      have c9 : (9999 : Int32).toNatClampNeg = 9999 := by decide
      refine jvk_ok TX4_readPerson (V := [(113, 2, 4, oX4_fail), (131, 1, 4, oX4_readName), (142, 3, 7, oX7_findPerson), (145, 3, 7, oX7_namePerson), (117, 1, 10, oX10_advance), (149, 2, 4, oX4_readNumber), (81, 2, 10, oX10_isWord)]) (S := []) (List.forall_mem_cons.mpr ⟨⟨mX4_fail, n + 0, 1, TX4, 10, rfl, by omega, kX4_113, WX4_fail, rfl, CX4_fail g (n)⟩, (List.forall_mem_cons.mpr ⟨⟨mX4_readName, n + 2, 0, TX4, 10, rfl, by omega, kX4_131, WX4_readName, rfl, CX4_readName g (n)⟩, (List.forall_mem_cons.mpr ⟨⟨mX7_findPerson, n + 0, 2, TX7, 6, rfl, by omega, kX4_142, WX7_findPerson, rfl, CX7_findPerson g (n)⟩, (List.forall_mem_cons.mpr ⟨⟨mX7_namePerson, n + 0, 2, TX7, 6, rfl, by omega, kX4_145, WX7_namePerson, rfl, CX7_namePerson g (n)⟩, (List.forall_mem_cons.mpr ⟨⟨mX10_advance, n + 1, 0, TX10, 6, rfl, by omega, kX4_117, WX10_advance, rfl, CX10_advance g (n)⟩, (List.forall_mem_cons.mpr ⟨⟨mX4_readNumber, n + 2, 1, TX4, 10, rfl, by omega, kX4_149, WX4_readNumber, rfl, CX4_readNumber g (n)⟩, (List.forall_mem_cons.mpr ⟨⟨mX10_isWord, n + 5, 1, TX10, 6, rfl, by omega, kX4_81, WX10_isWord, rfl, CX10_isWord g (n) hE⟩, (fun _ h => absurd h List.not_mem_nil)⟩)⟩)⟩)⟩)⟩)⟩)⟩) (fun _ h => absurd h List.not_mem_nil) [156] 60 _ _ _ _ ?_
      simp (maxSteps := 1000000) [↓Bool.cond_eq_ite, -Prod.forall, -Prod.exists, -Prod.mk.injEq, jvk, tX4_readPerson, jtb, jol, jst, jlk, jcmp, jbin, jfl, fX4, jc2, lX4, jcat, jel, lv_args, Value.category, jins, jsrt, jins2, jble, jblt, jf3, List.filter_cons, List.filter_nil, G_loader, G_lflat, G_lroster, oX4_fail, oX4_readName, oX7_findPerson, oX7_namePerson, oX10_advance, oX4_readNumber, oX10_isWord, joR, joRI, joRII, joRR, -Int32.not_le, -Int32.not_lt, -Int64.not_le, -Int64.not_lt, i3lt, i6lt, hT1, ht, hcl, d1]
      try simp (disch := omega) [-Prod.forall, -Prod.exists, -Prod.mk.injEq, -Int32.not_le, -Int32.not_lt, -Int64.not_le, -Int64.not_lt, i3lt, i6lt, hT1, ht, hcl, d1]
      refine jvk_ok TX4_readPerson (V := [(113, 2, 4, oX4_fail), (131, 1, 4, oX4_readName), (142, 3, 7, oX7_findPerson), (145, 3, 7, oX7_namePerson), (117, 1, 10, oX10_advance), (149, 2, 4, oX4_readNumber), (81, 2, 10, oX10_isWord)]) (S := []) (List.forall_mem_cons.mpr ⟨⟨mX4_fail, n + 0, 1, TX4, 10, rfl, by omega, kX4_113, WX4_fail, rfl, CX4_fail g (n)⟩, (List.forall_mem_cons.mpr ⟨⟨mX4_readName, n + 2, 0, TX4, 10, rfl, by omega, kX4_131, WX4_readName, rfl, CX4_readName g (n)⟩, (List.forall_mem_cons.mpr ⟨⟨mX7_findPerson, n + 0, 2, TX7, 6, rfl, by omega, kX4_142, WX7_findPerson, rfl, CX7_findPerson g (n)⟩, (List.forall_mem_cons.mpr ⟨⟨mX7_namePerson, n + 0, 2, TX7, 6, rfl, by omega, kX4_145, WX7_namePerson, rfl, CX7_namePerson g (n)⟩, (List.forall_mem_cons.mpr ⟨⟨mX10_advance, n + 1, 0, TX10, 6, rfl, by omega, kX4_117, WX10_advance, rfl, CX10_advance g (n)⟩, (List.forall_mem_cons.mpr ⟨⟨mX4_readNumber, n + 2, 1, TX4, 10, rfl, by omega, kX4_149, WX4_readNumber, rfl, CX4_readNumber g (n)⟩, (List.forall_mem_cons.mpr ⟨⟨mX10_isWord, n + 5, 1, TX10, 6, rfl, by omega, kX4_81, WX10_isWord, rfl, CX10_isWord g (n) hE⟩, (fun _ h => absurd h List.not_mem_nil)⟩)⟩)⟩)⟩)⟩)⟩)⟩) (fun _ h => absurd h List.not_mem_nil) [163] 60 _ _ _ _ ?_
      simp (maxSteps := 1000000) [↓Bool.cond_eq_ite, -Prod.forall, -Prod.exists, -Prod.mk.injEq, jvk, tX4_readPerson, jtb, jol, jst, jlk, jcmp, jbin, jfl, fX4, jc2, lX4, jcat, jel, lv_args, Value.category, jins, jsrt, jins2, jble, jblt, jf3, List.filter_cons, List.filter_nil, G_loader, G_lflat, G_lroster, oX4_fail, oX4_readName, oX7_findPerson, oX7_namePerson, oX10_advance, oX4_readNumber, oX10_isWord, joR, joRI, joRII, joRR, -Int32.not_le, -Int32.not_lt, -Int64.not_le, -Int64.not_lt, i3lt, i6lt, hT1, hx, h9]
      try simp (disch := omega) [-Prod.forall, -Prod.exists, -Prod.mk.injEq, -Int32.not_le, -Int32.not_lt, -Int64.not_le, -Int64.not_lt, i3lt, i6lt, hT1, hx, h9]
      intro v1 τ1 f1 b1 q1
      have q1 := q1 s ht
      rw [e3, eL] at q1
      have f1p : jfr (aPv P) b0 τ τ1 := f1.weak (fun a j q => pv_ln q) (fun _ q => q)
      rcases eI : pInt (σ.1 3) (kLn σ) 9999 s with e | y
      · rw [eI] at q1
        have hv1 := q1.1
        subst hv1
        have k1 := hp (some (.int 0)) τ1 (f.tr f1p) k9_0 (fun μ h => by
          simp only [pVals]
          rw [if_neg c, eI]
          exact q1)
        refine jvk_ok TX4_readPerson (V := [(113, 2, 4, oX4_fail), (131, 1, 4, oX4_readName), (142, 3, 7, oX7_findPerson), (145, 3, 7, oX7_namePerson), (117, 1, 10, oX10_advance), (149, 2, 4, oX4_readNumber), (81, 2, 10, oX10_isWord)]) (S := []) (List.forall_mem_cons.mpr ⟨⟨mX4_fail, n + 0, 1, TX4, 10, rfl, by omega, kX4_113, WX4_fail, rfl, CX4_fail g (n)⟩, (List.forall_mem_cons.mpr ⟨⟨mX4_readName, n + 2, 0, TX4, 10, rfl, by omega, kX4_131, WX4_readName, rfl, CX4_readName g (n)⟩, (List.forall_mem_cons.mpr ⟨⟨mX7_findPerson, n + 0, 2, TX7, 6, rfl, by omega, kX4_142, WX7_findPerson, rfl, CX7_findPerson g (n)⟩, (List.forall_mem_cons.mpr ⟨⟨mX7_namePerson, n + 0, 2, TX7, 6, rfl, by omega, kX4_145, WX7_namePerson, rfl, CX7_namePerson g (n)⟩, (List.forall_mem_cons.mpr ⟨⟨mX10_advance, n + 1, 0, TX10, 6, rfl, by omega, kX4_117, WX10_advance, rfl, CX10_advance g (n)⟩, (List.forall_mem_cons.mpr ⟨⟨mX4_readNumber, n + 2, 1, TX4, 10, rfl, by omega, kX4_149, WX4_readNumber, rfl, CX4_readNumber g (n)⟩, (List.forall_mem_cons.mpr ⟨⟨mX10_isWord, n + 5, 1, TX10, 6, rfl, by omega, kX4_81, WX10_isWord, rfl, CX10_isWord g (n) hE⟩, (fun _ h => absurd h List.not_mem_nil)⟩)⟩)⟩)⟩)⟩)⟩)⟩) (fun _ h => absurd h List.not_mem_nil) [] 20 _ _ _ _ ?_
        simp (maxSteps := 1000000) [↓Bool.cond_eq_ite, -Prod.forall, -Prod.exists, -Prod.mk.injEq, jvk, tX4_readPerson, jtb, jol, jst, jlk, jcmp, jbin, jfl, fX4, jc2, lX4, jcat, jel, lv_args, Value.category, jins, jsrt, jins2, jble, jblt, jf3, List.filter_cons, List.filter_nil, G_loader, G_lflat, G_lroster, oX4_fail, oX4_readName, oX7_findPerson, oX7_namePerson, oX10_advance, oX4_readNumber, oX10_isWord, joR, joRI, joRII, joRR, -Int32.not_le, -Int32.not_lt, -Int64.not_le, -Int64.not_lt, i3lt, i6lt]
        try simp (disch := omega) [-Prod.forall, -Prod.exists, -Prod.mk.injEq, -Int32.not_le, -Int32.not_lt, -Int64.not_le, -Int64.not_lt, i3lt, i6lt]
        exact k1
      · rw [eI] at q1
        obtain ⟨hv1, q7, t1⟩ := q1
        subst hv1
        obtain ⟨ρ, eρ⟩ : ∃ ρ, ρ = jup τ1 (9 + P) r (nI y) := ⟨_, rfl⟩
        have E : ∀ a j, ¬ (a = 9 + P ∧ j = r) → ρ.1 a j = τ1.1 a j := fun a j h => by rw [eρ, jup_1, if_neg h]
        have tρ : toP ρ (nx (σ.1 3) (kLn σ) s) := by
          have q3 : ρ.1 3 = τ1.1 3 := funext fun j => E 3 j (by omega)
          have q2 : ρ.1 2 = τ1.1 2 := funext fun j => E 2 j (by omega)
          have qL : kLn ρ = kLn τ1 := by unfold kLn; rw [q2]
          unfold toP
          rw [q2, q3, qL]
          exact t1
        have fρ : jfr (aPv P) b0 τ ρ := by rw [eρ]; exact f1p.up _ (by unfold aPv; simp)
        have k1 := ih (r + 1) _ ρ (by omega) (f.tr fρ) tρ (fun v ω fω b q => hp v ω fω (fun z => (b z).trans ((E 1 9 (by omega)).trans (b1 rfl))) (fun μ h => by
          simp only [pVals]
          rw [if_neg c, eI]
          refine q _ (lVv_s h hP (by omega) fρ (fun a j hj => by rw [u1_n _ _ (by omega), u1_n _ _ (by omega)]) (fun k hk => ?_) ?_)
          · rw [E _ _ (by omega), f1.2.2 _ _ (ln_of (by omega) (by omega))]
          · rw [eρ, jup_s]
            unfold wV
            rw [u1_n _ _ (by omega), u1_s, if_neg (by decide), u1_s]))
        rw [eρ] at k1
        refine jvk_ok TX4_readPerson (V := [(113, 2, 4, oX4_fail), (131, 1, 4, oX4_readName), (142, 3, 7, oX7_findPerson), (145, 3, 7, oX7_namePerson), (117, 1, 10, oX10_advance), (149, 2, 4, oX4_readNumber), (81, 2, 10, oX10_isWord)]) (S := []) (List.forall_mem_cons.mpr ⟨⟨mX4_fail, n + 0, 1, TX4, 10, rfl, by omega, kX4_113, WX4_fail, rfl, CX4_fail g (n)⟩, (List.forall_mem_cons.mpr ⟨⟨mX4_readName, n + 2, 0, TX4, 10, rfl, by omega, kX4_131, WX4_readName, rfl, CX4_readName g (n)⟩, (List.forall_mem_cons.mpr ⟨⟨mX7_findPerson, n + 0, 2, TX7, 6, rfl, by omega, kX4_142, WX7_findPerson, rfl, CX7_findPerson g (n)⟩, (List.forall_mem_cons.mpr ⟨⟨mX7_namePerson, n + 0, 2, TX7, 6, rfl, by omega, kX4_145, WX7_namePerson, rfl, CX7_namePerson g (n)⟩, (List.forall_mem_cons.mpr ⟨⟨mX10_advance, n + 1, 0, TX10, 6, rfl, by omega, kX4_117, WX10_advance, rfl, CX10_advance g (n)⟩, (List.forall_mem_cons.mpr ⟨⟨mX4_readNumber, n + 2, 1, TX4, 10, rfl, by omega, kX4_149, WX4_readNumber, rfl, CX4_readNumber g (n)⟩, (List.forall_mem_cons.mpr ⟨⟨mX10_isWord, n + 5, 1, TX10, 6, rfl, by omega, kX4_81, WX10_isWord, rfl, CX10_isWord g (n) hE⟩, (fun _ h => absurd h List.not_mem_nil)⟩)⟩)⟩)⟩)⟩)⟩)⟩) (fun _ h => absurd h List.not_mem_nil) [111] 60 _ _ _ _ ?_
        simp (maxSteps := 1000000) [↓Bool.cond_eq_ite, -Prod.forall, -Prod.exists, -Prod.mk.injEq, jvk, tX4_readPerson, jtb, jol, jst, jlk, jcmp, jbin, jfl, fX4, jc2, lX4, jcat, jel, lv_args, Value.category, jins, jsrt, jins2, jble, jblt, jf3, List.filter_cons, List.filter_nil, G_loader, G_lflat, G_lroster, oX4_fail, oX4_readName, oX7_findPerson, oX7_namePerson, oX10_advance, oX4_readNumber, oX10_isWord, joR, joRI, joRII, joRR, -Int32.not_le, -Int32.not_lt, -Int64.not_le, -Int64.not_lt, i3lt, i6lt, q7, jr6, ecr, jp, ecp, G_lflat, ap, lp, nI_1]
        try simp (disch := omega) [-Prod.forall, -Prod.exists, -Prod.mk.injEq, -Int32.not_le, -Int32.not_lt, -Int64.not_le, -Int64.not_lt, i3lt, i6lt, q7, jr6, ecr, jp, ecp, G_lflat, ap, lp, nI_1]
        exact k1
theorem lR_pers {τ : jM} {μ : pM} {P : Nat} (h : lRN (P + 1) τ μ) (hP : pe μ = P) (hP10 : P < 10) (hn : τ.1 26 P = μ 349 P) (hu : ∀ q, q < P → ¬ μ 349 q = μ 349 P) (hi : τ.1 7 P = μ 347 (8 + 20 * P + 1)) (hw : ∀ r, r < rm μ → τ.1 (9 + P) r = wV μ P r) : lR τ (u1 μ 322 44 (nI (P + 1))) := by
  obtain ⟨ν, eν⟩ : ∃ ν, ν = u1 μ 322 44 (nI (P + 1)) := ⟨_, rfl⟩
  have e : ∀ i j, ¬ (i = 322 ∧ j = 44) → ν i j = μ i j := fun i j h1 => by rw [eν, u1_n _ _ h1]
  have e44 : ν 322 44 = nI (P + 1) := by rw [eν, u1_s]
  have p : pe ν = P + 1 := by unfold pe; rw [e44, nI_clamp (by omega)]
  have r : rm ν = rm μ := by unfold rm; rw [e _ _ (by omega)]
  rw [← eν]
  obtain ⟨⟨a1, a2, a3, a4, a5, a6, a7, a8, a9, b1, b2, b3⟩, hB, hC⟩ := h
  rw [hP] at a8 a9 b1 b2
  unfold lR
  rw [p]
  refine ⟨?_, lB_cg hB (fun _ _ _ => rfl) (fun a j q => e a j (by unfold lVB at q; omega)), lC_cg hC (fun _ _ _ => rfl) (fun a j q => e a j (by unfold lVC at q; omega))⟩
  unfold lA
  rw [r, p]
  refine ⟨a1, by omega, (e _ _ (by omega)).trans a3, a4, e44, a6, fun j hj => ?_, fun j hj => ?_, fun i j hij hj => ?_, fun i hi2 => ?_, fun i j hi2 hj => ?_, fun i j hij hj => ?_⟩
  · rw [e _ _ (by omega)]; exact a7 j hj
  · rw [e _ _ (by omega)]
    by_cases c : j = P
    · rw [c]; exact hn
    · exact a8 j (by omega)
  · rw [e 349 i (by omega), e 349 j (by omega)]
    by_cases c : j = P
    · rw [c]; exact hu i (by omega)
    · exact a9 i j hij (by omega)
  · rw [e _ _ (by omega)]
    by_cases c : i = P
    · rw [c]; exact hi
    · exact b1 i (by omega)
  · unfold wV
    rw [e _ _ (by omega), e 347 (8 + 20 * i + (7 + j)) (by omega)]
    by_cases c : i = P
    · rw [c]; exact hw j hj
    · exact b2 i j (by omega) hj
  · rw [e 348 i (by omega), e 348 j (by omega)]
    exact b3 i j hij hj
theorem pPers_eq {b : Nat → Int32} {len s P R : Nat} {μ : pM} (h1 : pe μ = P) (h2 : rm μ = R) (hP : P < 10) (hN : isN b len (nx b len s) = true) (hd : ¬ dup b len μ 349 (pe μ) (nx b len s) = true) : pPers b len s μ = (match pInt b len 99999 (nx b len (nx b len s)) with
    | .inl e => .inl e
    | .inr v => match pVals b len P R 0 (nx b len (nx b len (nx b len s))) (u1 (u1 μ 349 P (nI (nm b len (nx b len s)))) 347 (8 + 20 * P + 1) (nI v)) with
      | .inl e => .inl e
      | .inr (s', μ') => .inr (s', u1 μ' 322 44 (nI (P + 1)))) := by
  unfold pPers
  rw [if_neg (by omega), if_neg (fun z => z hN), if_neg hd, h1, h2]
  rfl
def oX4_readPerson : jO := joR fun a σ => (a = 1 ∧ kT σ ∧ (∃ s, toP σ s) ∧ ∃ μ, lR σ μ, fun v τ => (jfr aLq b0 σ τ ∧ k9 v σ τ) ∧ ∀ s μ, toP σ s → lR σ μ → lRes v τ (pPers (σ.1 3) (kLn σ) s μ))
set_option maxRecDepth 100000 in
set_option maxHeartbeats 4000000 in
theorem CX4_readPerson (g : jG) (n : Nat) (hE : jEs g) : jOk g (n + 6) mX4_readPerson oX4_readPerson := by
  refine joR_ok ?_
  rintro _ σ ⟨rfl, hT, ⟨s, hs⟩, μ0, h0⟩
  have uniq : ∀ t, toP σ t → t = s := fun t ht => toP_inj hT ht hs
  have hx : ∃ s, toP σ s := ⟨s, hs⟩
  have h3 := hs.2.1
  obtain ⟨R, eR⟩ : ∃ R, R = rm μ0 := ⟨_, rfl⟩
  obtain ⟨P, eP⟩ : ∃ P, P = pe μ0 := ⟨_, rfl⟩
  have R6 : R ≤ 6 := by rw [eR]; exact h0.1.1
  have P10 : P ≤ 10 := by rw [eP]; exact h0.1.2.1
  have g0 : σ.1 4 0 = nI R := by rw [eR]; exact h0.1.2.2.2.1
  have g1 : σ.1 4 1 = nI P := by rw [eP]; exact h0.1.2.2.2.2.2.1
  have hμ : ∀ μ, lR σ μ → rm μ = R ∧ pe μ = P := fun μ h => by
    have := lR_n h h0
    rw [eR, eP]
    exact ⟨this.1, this.2.1⟩
  refine jCon.ofP (by decide +kernel) (by simp [lg_sl, Value.category]) (fun post hp => ?_)
  have hp : ∀ v τ, jfr aLq b0 σ τ → k9 v σ τ → (∀ μ, lR σ μ → rm μ = R → pe μ = P → lRes v τ (pPers (σ.1 3) (kLn σ) s μ)) → post v τ := fun v τ f b q => hp v τ ⟨⟨f, b⟩, fun t μ ht h => by rw [uniq t ht]; exact q μ h (hμ μ h).1 (hμ μ h).2⟩
  have hp0 := fun τ f q => hp (some (.int 0)) τ f k9_0 q
  have hp1 := fun τ f e q => hp (some (.int 1)) τ f (fun _ => e) q
  by_cases c : 10 ≤ P
  · have d : (10 : Int32) ≤ nI P := nI_le (a := 10) c (by omega)
    have k1 := hp0 (jup (jup σ 1 8 (-15)) 1 9 (nI s)) ((jfr.rfl.up _ rfl).up _ rfl) (fun μ h e1 e2 => by
      unfold pPers
      rw [if_pos (by omega)]
      exact lEr_f _ _ _)
    refine jvk_ok TX4_readPerson (V := [(113, 2, 4, oX4_fail), (131, 1, 4, oX4_readName), (142, 3, 7, oX7_findPerson), (145, 3, 7, oX7_namePerson), (117, 1, 10, oX10_advance), (149, 2, 4, oX4_readNumber), (81, 2, 10, oX10_isWord)]) (S := []) (List.forall_mem_cons.mpr ⟨⟨mX4_fail, n + 0, 1, TX4, 10, rfl, by omega, kX4_113, WX4_fail, rfl, CX4_fail g (n)⟩, (List.forall_mem_cons.mpr ⟨⟨mX4_readName, n + 2, 0, TX4, 10, rfl, by omega, kX4_131, WX4_readName, rfl, CX4_readName g (n)⟩, (List.forall_mem_cons.mpr ⟨⟨mX7_findPerson, n + 0, 2, TX7, 6, rfl, by omega, kX4_142, WX7_findPerson, rfl, CX7_findPerson g (n)⟩, (List.forall_mem_cons.mpr ⟨⟨mX7_namePerson, n + 0, 2, TX7, 6, rfl, by omega, kX4_145, WX7_namePerson, rfl, CX7_namePerson g (n)⟩, (List.forall_mem_cons.mpr ⟨⟨mX10_advance, n + 1, 0, TX10, 6, rfl, by omega, kX4_117, WX10_advance, rfl, CX10_advance g (n)⟩, (List.forall_mem_cons.mpr ⟨⟨mX4_readNumber, n + 2, 1, TX4, 10, rfl, by omega, kX4_149, WX4_readNumber, rfl, CX4_readNumber g (n)⟩, (List.forall_mem_cons.mpr ⟨⟨mX10_isWord, n + 5, 1, TX10, 6, rfl, by omega, kX4_81, WX10_isWord, rfl, CX10_isWord g (n) hE⟩, (fun _ h => absurd h List.not_mem_nil)⟩)⟩)⟩)⟩)⟩)⟩)⟩) (fun _ h => absurd h List.not_mem_nil) [] 40 _ _ _ _ ?_
    simp (maxSteps := 1000000) [↓Bool.cond_eq_ite, -Prod.forall, -Prod.exists, -Prod.mk.injEq, jvk, tX4_readPerson, jtb, jol, jst, jlk, jcmp, jbin, jfl, fX4, jc2, lX4, jcat, jel, lv_args, Value.category, jins, jsrt, jins2, jble, jblt, jf3, List.filter_cons, List.filter_nil, G_loader, G_lflat, G_lroster, oX4_fail, oX4_readName, oX7_findPerson, oX7_namePerson, oX10_advance, oX4_readNumber, oX10_isWord, joR, joRI, joRII, joRR, -Int32.not_le, -Int32.not_lt, -Int64.not_le, -Int64.not_lt, i3lt, i6lt, g1, d, h3, jup_1]
    try simp (disch := omega) [-Prod.forall, -Prod.exists, -Prod.mk.injEq, -Int32.not_le, -Int32.not_lt, -Int64.not_le, -Int64.not_lt, i3lt, i6lt, g1, d, h3, jup_1]
    exact k1
  · have hP : P < 10 := by omega
    have d : ¬ (10 : Int32) ≤ nI P := nI_ge (b := 10) hP (by decide)
    refine jvk_ok TX4_readPerson (V := [(113, 2, 4, oX4_fail), (131, 1, 4, oX4_readName), (142, 3, 7, oX7_findPerson), (145, 3, 7, oX7_namePerson), (117, 1, 10, oX10_advance), (149, 2, 4, oX4_readNumber), (81, 2, 10, oX10_isWord)]) (S := []) (List.forall_mem_cons.mpr ⟨⟨mX4_fail, n + 0, 1, TX4, 10, rfl, by omega, kX4_113, WX4_fail, rfl, CX4_fail g (n)⟩, (List.forall_mem_cons.mpr ⟨⟨mX4_readName, n + 2, 0, TX4, 10, rfl, by omega, kX4_131, WX4_readName, rfl, CX4_readName g (n)⟩, (List.forall_mem_cons.mpr ⟨⟨mX7_findPerson, n + 0, 2, TX7, 6, rfl, by omega, kX4_142, WX7_findPerson, rfl, CX7_findPerson g (n)⟩, (List.forall_mem_cons.mpr ⟨⟨mX7_namePerson, n + 0, 2, TX7, 6, rfl, by omega, kX4_145, WX7_namePerson, rfl, CX7_namePerson g (n)⟩, (List.forall_mem_cons.mpr ⟨⟨mX10_advance, n + 1, 0, TX10, 6, rfl, by omega, kX4_117, WX10_advance, rfl, CX10_advance g (n)⟩, (List.forall_mem_cons.mpr ⟨⟨mX4_readNumber, n + 2, 1, TX4, 10, rfl, by omega, kX4_149, WX4_readNumber, rfl, CX4_readNumber g (n)⟩, (List.forall_mem_cons.mpr ⟨⟨mX10_isWord, n + 5, 1, TX10, 6, rfl, by omega, kX4_81, WX10_isWord, rfl, CX10_isWord g (n) hE⟩, (fun _ h => absurd h List.not_mem_nil)⟩)⟩)⟩)⟩)⟩)⟩)⟩) (fun _ h => absurd h List.not_mem_nil) [25] 40 _ _ _ _ ?_
    simp (maxSteps := 1000000) [↓Bool.cond_eq_ite, -Prod.forall, -Prod.exists, -Prod.mk.injEq, jvk, tX4_readPerson, jtb, jol, jst, jlk, jcmp, jbin, jfl, fX4, jc2, lX4, jcat, jel, lv_args, Value.category, jins, jsrt, jins2, jble, jblt, jf3, List.filter_cons, List.filter_nil, G_loader, G_lflat, G_lroster, oX4_fail, oX4_readName, oX7_findPerson, oX7_namePerson, oX10_advance, oX4_readNumber, oX10_isWord, joR, joRI, joRII, joRR, -Int32.not_le, -Int32.not_lt, -Int64.not_le, -Int64.not_lt, i3lt, i6lt, g1, d, hT, hx]
    try simp (disch := omega) [-Prod.forall, -Prod.exists, -Prod.mk.injEq, -Int32.not_le, -Int32.not_lt, -Int64.not_le, -Int64.not_lt, i3lt, i6lt, g1, d, hT, hx]
    intro v1 τ1 f1 b1 q1
    have q1 := q1 s hs
    obtain ⟨s1, es1⟩ : ∃ s1, s1 = nx (σ.1 3) (kLn σ) s := ⟨_, rfl⟩
    rw [← es1] at q1
    have w1 : jfr aLq b0 σ τ1 := f1.weak (fun a j q => lw_ln q) (fun _ q => q)
    obtain ⟨e3, eL2, kT2⟩ := ln_fr f1
    have hT1 := kT2 hT
    by_cases cN : isN (σ.1 3) (kLn σ) s1 = true
    · rw [if_pos cN] at q1
      obtain ⟨hv1, t1, n1⟩ := q1
      subst hv1
      obtain ⟨M, eM⟩ : ∃ M, M = nm (σ.1 3) (kLn σ) s1 := ⟨_, rfl⟩
      rw [← eM] at n1
      have ecP : (nI P).toNatClampNeg = P := nI_clamp (by omega)
      have hN10 : ∃ N, nI P = nI N ∧ N ≤ 10 := ⟨P, rfl, P10⟩
      have z3 := t1.2.1
      have z4 : τ1.1 4 1 = nI P := (f1.2.2 4 1 rfl).trans g1
      have jP : jin (nI P) 10 := jin_nI hP (by decide)
      have n2 : nI P + 1 = nI (P + 1) := nI_1 _
      refine jvk_ok TX4_readPerson (V := [(113, 2, 4, oX4_fail), (131, 1, 4, oX4_readName), (142, 3, 7, oX7_findPerson), (145, 3, 7, oX7_namePerson), (117, 1, 10, oX10_advance), (149, 2, 4, oX4_readNumber), (81, 2, 10, oX10_isWord)]) (S := []) (List.forall_mem_cons.mpr ⟨⟨mX4_fail, n + 0, 1, TX4, 10, rfl, by omega, kX4_113, WX4_fail, rfl, CX4_fail g (n)⟩, (List.forall_mem_cons.mpr ⟨⟨mX4_readName, n + 2, 0, TX4, 10, rfl, by omega, kX4_131, WX4_readName, rfl, CX4_readName g (n)⟩, (List.forall_mem_cons.mpr ⟨⟨mX7_findPerson, n + 0, 2, TX7, 6, rfl, by omega, kX4_142, WX7_findPerson, rfl, CX7_findPerson g (n)⟩, (List.forall_mem_cons.mpr ⟨⟨mX7_namePerson, n + 0, 2, TX7, 6, rfl, by omega, kX4_145, WX7_namePerson, rfl, CX7_namePerson g (n)⟩, (List.forall_mem_cons.mpr ⟨⟨mX10_advance, n + 1, 0, TX10, 6, rfl, by omega, kX4_117, WX10_advance, rfl, CX10_advance g (n)⟩, (List.forall_mem_cons.mpr ⟨⟨mX4_readNumber, n + 2, 1, TX4, 10, rfl, by omega, kX4_149, WX4_readNumber, rfl, CX4_readNumber g (n)⟩, (List.forall_mem_cons.mpr ⟨⟨mX10_isWord, n + 5, 1, TX10, 6, rfl, by omega, kX4_81, WX10_isWord, rfl, CX10_isWord g (n) hE⟩, (fun _ h => absurd h List.not_mem_nil)⟩)⟩)⟩)⟩)⟩)⟩)⟩) (fun _ h => absurd h List.not_mem_nil) [42] 40 _ _ _ _ ?_
      simp (maxSteps := 1000000) [↓Bool.cond_eq_ite, -Prod.forall, -Prod.exists, -Prod.mk.injEq, jvk, tX4_readPerson, jtb, jol, jst, jlk, jcmp, jbin, jfl, fX4, jc2, lX4, jcat, jel, lv_args, Value.category, jins, jsrt, jins2, jble, jblt, jf3, List.filter_cons, List.filter_nil, G_loader, G_lflat, G_lroster, oX4_fail, oX4_readName, oX7_findPerson, oX7_namePerson, oX10_advance, oX4_readNumber, oX10_isWord, joR, joRI, joRII, joRR, -Int32.not_le, -Int32.not_lt, -Int64.not_le, -Int64.not_lt, i3lt, i6lt, n1, hN10, ecP]
      try simp (disch := omega) [-Prod.forall, -Prod.exists, -Prod.mk.injEq, -Int32.not_le, -Int32.not_lt, -Int64.not_le, -Int64.not_lt, i3lt, i6lt, n1, hN10, ecP]
      obtain ⟨F, eF⟩ : ∃ F, F = ff (fun k => decide (τ1.1 26 k = nI M)) P 0 := ⟨_, rfl⟩
      rw [← eF]
      have hd : ∀ μ, lR σ μ → pe μ = P → (dup (σ.1 3) (kLn σ) μ 349 (pe μ) s1 = true ↔ ¬ F = -1) := fun μ h e1 => by
        rw [e1, eF, eM]
        exact dup_ff P10 (fun j hj => by
          rw [f1.2.2 26 j rfl]
          exact h.1.2.2.2.2.2.2.2.1 j (by omega))
      by_cases cF : F = -1
      · obtain ⟨ρ, eρ⟩ : ∃ ρ, ρ = jup (jup τ1 26 P (nI M)) 4 1 (nI (P + 1)) := ⟨_, rfl⟩
        have tρ : toP ρ s1 := by rw [eρ]; exact t1
        have hTρ : kT ρ := by rw [eρ]; exact hT1
        have gρ : ρ.1 3 = σ.1 3 ∧ kLn ρ = kLn σ := by rw [eρ]; exact ⟨e3, eL2⟩
        have wρ : jfr aLq b0 σ ρ := by rw [eρ]; exact (w1.up _ rfl).up _ rfl
        have hpre := toP_p hTρ tρ
        refine jvk_ok TX4_readPerson (V := [(113, 2, 4, oX4_fail), (131, 1, 4, oX4_readName), (142, 3, 7, oX7_findPerson), (145, 3, 7, oX7_namePerson), (117, 1, 10, oX10_advance), (149, 2, 4, oX4_readNumber), (81, 2, 10, oX10_isWord)]) (S := []) (List.forall_mem_cons.mpr ⟨⟨mX4_fail, n + 0, 1, TX4, 10, rfl, by omega, kX4_113, WX4_fail, rfl, CX4_fail g (n)⟩, (List.forall_mem_cons.mpr ⟨⟨mX4_readName, n + 2, 0, TX4, 10, rfl, by omega, kX4_131, WX4_readName, rfl, CX4_readName g (n)⟩, (List.forall_mem_cons.mpr ⟨⟨mX7_findPerson, n + 0, 2, TX7, 6, rfl, by omega, kX4_142, WX7_findPerson, rfl, CX7_findPerson g (n)⟩, (List.forall_mem_cons.mpr ⟨⟨mX7_namePerson, n + 0, 2, TX7, 6, rfl, by omega, kX4_145, WX7_namePerson, rfl, CX7_namePerson g (n)⟩, (List.forall_mem_cons.mpr ⟨⟨mX10_advance, n + 1, 0, TX10, 6, rfl, by omega, kX4_117, WX10_advance, rfl, CX10_advance g (n)⟩, (List.forall_mem_cons.mpr ⟨⟨mX4_readNumber, n + 2, 1, TX4, 10, rfl, by omega, kX4_149, WX4_readNumber, rfl, CX4_readNumber g (n)⟩, (List.forall_mem_cons.mpr ⟨⟨mX10_isWord, n + 5, 1, TX10, 6, rfl, by omega, kX4_81, WX10_isWord, rfl, CX10_isWord g (n) hE⟩, (fun _ h => absurd h List.not_mem_nil)⟩)⟩)⟩)⟩)⟩)⟩)⟩) (fun _ h => absurd h List.not_mem_nil) [78] 60 _ _ _ _ ?_
        simp (maxSteps := 1000000) [↓Bool.cond_eq_ite, -Prod.forall, -Prod.exists, -Prod.mk.injEq, jvk, tX4_readPerson, jtb, jol, jst, jlk, jcmp, jbin, jfl, fX4, jc2, lX4, jcat, jel, lv_args, Value.category, jins, jsrt, jins2, jble, jblt, jf3, List.filter_cons, List.filter_nil, G_loader, G_lflat, G_lroster, oX4_fail, oX4_readName, oX7_findPerson, oX7_namePerson, oX10_advance, oX4_readNumber, oX10_isWord, joR, joRI, joRII, joRR, -Int32.not_le, -Int32.not_lt, -Int64.not_le, -Int64.not_lt, i3lt, i6lt, cF, n1, z4, jP, ecP, n2, jup_1]
        try simp (disch := omega) [-Prod.forall, -Prod.exists, -Prod.mk.injEq, -Int32.not_le, -Int32.not_lt, -Int64.not_le, -Int64.not_lt, i3lt, i6lt, cF, n1, z4, jP, ecP, n2, jup_1]
        rw [← eρ]
        refine jvk_ok TX4_readPerson (V := [(113, 2, 4, oX4_fail), (131, 1, 4, oX4_readName), (142, 3, 7, oX7_findPerson), (145, 3, 7, oX7_namePerson), (117, 1, 10, oX10_advance), (149, 2, 4, oX4_readNumber), (81, 2, 10, oX10_isWord)]) (S := []) (List.forall_mem_cons.mpr ⟨⟨mX4_fail, n + 0, 1, TX4, 10, rfl, by omega, kX4_113, WX4_fail, rfl, CX4_fail g (n)⟩, (List.forall_mem_cons.mpr ⟨⟨mX4_readName, n + 2, 0, TX4, 10, rfl, by omega, kX4_131, WX4_readName, rfl, CX4_readName g (n)⟩, (List.forall_mem_cons.mpr ⟨⟨mX7_findPerson, n + 0, 2, TX7, 6, rfl, by omega, kX4_142, WX7_findPerson, rfl, CX7_findPerson g (n)⟩, (List.forall_mem_cons.mpr ⟨⟨mX7_namePerson, n + 0, 2, TX7, 6, rfl, by omega, kX4_145, WX7_namePerson, rfl, CX7_namePerson g (n)⟩, (List.forall_mem_cons.mpr ⟨⟨mX10_advance, n + 1, 0, TX10, 6, rfl, by omega, kX4_117, WX10_advance, rfl, CX10_advance g (n)⟩, (List.forall_mem_cons.mpr ⟨⟨mX4_readNumber, n + 2, 1, TX4, 10, rfl, by omega, kX4_149, WX4_readNumber, rfl, CX4_readNumber g (n)⟩, (List.forall_mem_cons.mpr ⟨⟨mX10_isWord, n + 5, 1, TX10, 6, rfl, by omega, kX4_81, WX10_isWord, rfl, CX10_isWord g (n) hE⟩, (fun _ h => absurd h List.not_mem_nil)⟩)⟩)⟩)⟩)⟩)⟩)⟩) (fun _ h => absurd h List.not_mem_nil) [85] 20 _ _ _ _ ?_
        simp (maxSteps := 1000000) [↓Bool.cond_eq_ite, -Prod.forall, -Prod.exists, -Prod.mk.injEq, jvk, tX4_readPerson, jtb, jol, jst, jlk, jcmp, jbin, jfl, fX4, jc2, lX4, jcat, jel, lv_args, Value.category, jins, jsrt, jins2, jble, jblt, jf3, List.filter_cons, List.filter_nil, G_loader, G_lflat, G_lroster, oX4_fail, oX4_readName, oX7_findPerson, oX7_namePerson, oX10_advance, oX4_readNumber, oX10_isWord, joR, joRI, joRII, joRR, -Int32.not_le, -Int32.not_lt, -Int64.not_le, -Int64.not_lt, i3lt, i6lt, hTρ, hpre]
        try simp (disch := omega) [-Prod.forall, -Prod.exists, -Prod.mk.injEq, -Int32.not_le, -Int32.not_lt, -Int64.not_le, -Int64.not_lt, i3lt, i6lt, hTρ, hpre]
        intro v2 τ2 hv2 f2 t2
        subst hv2
        rw [toP_e hTρ tρ, gρ.1, gρ.2] at t2
        obtain ⟨s2, es2⟩ : ∃ s2, s2 = nx (σ.1 3) (kLn σ) s1 := ⟨_, rfl⟩
        have t2 : toP τ2 s2 := by rw [es2]; exact t2
        obtain ⟨e3b, eLb, kTb⟩ := to_fr f2
        rw [gρ.1] at e3b
        rw [gρ.2] at eLb
        have hT2 := kTb hTρ
        have hx2 : ∃ s, toP τ2 s := ⟨_, t2⟩
        have h9 : ∃ hi, (99999 : Int32) = nI hi ∧ hi ≤ 99999 := ⟨99999, rfl, by decide⟩
        have c9 : (99999 : Int32).toNatClampNeg = 99999 := by decide
        refine jvk_ok TX4_readPerson (V := [(113, 2, 4, oX4_fail), (131, 1, 4, oX4_readName), (142, 3, 7, oX7_findPerson), (145, 3, 7, oX7_namePerson), (117, 1, 10, oX10_advance), (149, 2, 4, oX4_readNumber), (81, 2, 10, oX10_isWord)]) (S := []) (List.forall_mem_cons.mpr ⟨⟨mX4_fail, n + 0, 1, TX4, 10, rfl, by omega, kX4_113, WX4_fail, rfl, CX4_fail g (n)⟩, (List.forall_mem_cons.mpr ⟨⟨mX4_readName, n + 2, 0, TX4, 10, rfl, by omega, kX4_131, WX4_readName, rfl, CX4_readName g (n)⟩, (List.forall_mem_cons.mpr ⟨⟨mX7_findPerson, n + 0, 2, TX7, 6, rfl, by omega, kX4_142, WX7_findPerson, rfl, CX7_findPerson g (n)⟩, (List.forall_mem_cons.mpr ⟨⟨mX7_namePerson, n + 0, 2, TX7, 6, rfl, by omega, kX4_145, WX7_namePerson, rfl, CX7_namePerson g (n)⟩, (List.forall_mem_cons.mpr ⟨⟨mX10_advance, n + 1, 0, TX10, 6, rfl, by omega, kX4_117, WX10_advance, rfl, CX10_advance g (n)⟩, (List.forall_mem_cons.mpr ⟨⟨mX4_readNumber, n + 2, 1, TX4, 10, rfl, by omega, kX4_149, WX4_readNumber, rfl, CX4_readNumber g (n)⟩, (List.forall_mem_cons.mpr ⟨⟨mX10_isWord, n + 5, 1, TX10, 6, rfl, by omega, kX4_81, WX10_isWord, rfl, CX10_isWord g (n) hE⟩, (fun _ h => absurd h List.not_mem_nil)⟩)⟩)⟩)⟩)⟩)⟩)⟩) (fun _ h => absurd h List.not_mem_nil) [91] 20 _ _ _ _ ?_
        simp (maxSteps := 1000000) [↓Bool.cond_eq_ite, -Prod.forall, -Prod.exists, -Prod.mk.injEq, jvk, tX4_readPerson, jtb, jol, jst, jlk, jcmp, jbin, jfl, fX4, jc2, lX4, jcat, jel, lv_args, Value.category, jins, jsrt, jins2, jble, jblt, jf3, List.filter_cons, List.filter_nil, G_loader, G_lflat, G_lroster, oX4_fail, oX4_readName, oX7_findPerson, oX7_namePerson, oX10_advance, oX4_readNumber, oX10_isWord, joR, joRI, joRII, joRR, -Int32.not_le, -Int32.not_lt, -Int64.not_le, -Int64.not_lt, i3lt, i6lt, hT2, hx2, h9]
        try simp (disch := omega) [-Prod.forall, -Prod.exists, -Prod.mk.injEq, -Int32.not_le, -Int32.not_lt, -Int64.not_le, -Int64.not_lt, i3lt, i6lt, hT2, hx2, h9]
        intro v3 τ3 f3 b3 q3
        have q3 := q3 s2 t2
        rw [e3b, eLb] at q3
        have l3 : jfr aLn b0 ρ τ3 := (f2.weak (fun a j q => ln_To q) (fun _ q => q)).tr f3
        have w3 : jfr aLq b0 σ τ3 := wρ.tr (l3.weak (fun a j q => lw_ln q) (fun _ q => q))
        have pun : ∀ μ, lR σ μ → rm μ = R → pe μ = P → pPers (σ.1 3) (kLn σ) s μ = (match pInt (σ.1 3) (kLn σ) 99999 s2 with
            | .inl e => .inl e
            | .inr v => match pVals (σ.1 3) (kLn σ) P R 0 (nx (σ.1 3) (kLn σ) s2) (u1 (u1 μ 349 P (nI M)) 347 (8 + 20 * P + 1) (nI v)) with
              | .inl e => .inl e
              | .inr (s', μ') => .inr (s', u1 μ' 322 44 (nI (P + 1)))) := fun μ h a1 a2 => by
          have := pPers_eq (b := σ.1 3) (len := kLn σ) (s := s) a2 a1 hP (by rw [← es1]; exact cN) (by rw [← es1]; exact fun z => (hd μ h a2).mp z cF)
          rw [← es1, ← es2, ← eM] at this
          exact this
        rcases eI : pInt (σ.1 3) (kLn σ) 99999 s2 with e | y
        · rw [eI] at q3
          have hv3 := q3.1
          subst hv3
          have k1 := hp0 τ3 w3 (fun μ h a1 a2 => by
            rw [pun μ h a1 a2, eI]
            exact q3)
          refine jvk_ok TX4_readPerson (V := [(113, 2, 4, oX4_fail), (131, 1, 4, oX4_readName), (142, 3, 7, oX7_findPerson), (145, 3, 7, oX7_namePerson), (117, 1, 10, oX10_advance), (149, 2, 4, oX4_readNumber), (81, 2, 10, oX10_isWord)]) (S := []) (List.forall_mem_cons.mpr ⟨⟨mX4_fail, n + 0, 1, TX4, 10, rfl, by omega, kX4_113, WX4_fail, rfl, CX4_fail g (n)⟩, (List.forall_mem_cons.mpr ⟨⟨mX4_readName, n + 2, 0, TX4, 10, rfl, by omega, kX4_131, WX4_readName, rfl, CX4_readName g (n)⟩, (List.forall_mem_cons.mpr ⟨⟨mX7_findPerson, n + 0, 2, TX7, 6, rfl, by omega, kX4_142, WX7_findPerson, rfl, CX7_findPerson g (n)⟩, (List.forall_mem_cons.mpr ⟨⟨mX7_namePerson, n + 0, 2, TX7, 6, rfl, by omega, kX4_145, WX7_namePerson, rfl, CX7_namePerson g (n)⟩, (List.forall_mem_cons.mpr ⟨⟨mX10_advance, n + 1, 0, TX10, 6, rfl, by omega, kX4_117, WX10_advance, rfl, CX10_advance g (n)⟩, (List.forall_mem_cons.mpr ⟨⟨mX4_readNumber, n + 2, 1, TX4, 10, rfl, by omega, kX4_149, WX4_readNumber, rfl, CX4_readNumber g (n)⟩, (List.forall_mem_cons.mpr ⟨⟨mX10_isWord, n + 5, 1, TX10, 6, rfl, by omega, kX4_81, WX10_isWord, rfl, CX10_isWord g (n) hE⟩, (fun _ h => absurd h List.not_mem_nil)⟩)⟩)⟩)⟩)⟩)⟩)⟩) (fun _ h => absurd h List.not_mem_nil) [] 10 _ _ _ _ ?_
          simp (maxSteps := 1000000) [↓Bool.cond_eq_ite, -Prod.forall, -Prod.exists, -Prod.mk.injEq, jvk, tX4_readPerson, jtb, jol, jst, jlk, jcmp, jbin, jfl, fX4, jc2, lX4, jcat, jel, lv_args, Value.category, jins, jsrt, jins2, jble, jblt, jf3, List.filter_cons, List.filter_nil, G_loader, G_lflat, G_lroster, oX4_fail, oX4_readName, oX7_findPerson, oX7_namePerson, oX10_advance, oX4_readNumber, oX10_isWord, joR, joRI, joRII, joRR, -Int32.not_le, -Int32.not_lt, -Int64.not_le, -Int64.not_lt, i3lt, i6lt]
          try simp (disch := omega) [-Prod.forall, -Prod.exists, -Prod.mk.injEq, -Int32.not_le, -Int32.not_lt, -Int64.not_le, -Int64.not_lt, i3lt, i6lt]
          exact k1
        · rw [eI] at q3
          obtain ⟨hv3, q7, t3⟩ := q3
          subst hv3
          obtain ⟨τ4, e4⟩ : ∃ τ4, τ4 = jup τ3 7 P (nI y) := ⟨_, rfl⟩
          have t4 : toP τ4 (nx (σ.1 3) (kLn σ) s2) := by rw [e4]; exact t3
          have w4 : jfr aLq b0 σ τ4 := by rw [e4]; exact w3.up _ rfl
          obtain ⟨e3d, eLd, kTd⟩ := lw_fr w4
          have g4 : τ4.1 4 0 = nI R := by
            rw [e4]
            exact (l3.2.2 4 0 rfl).trans (by rw [eρ]; exact (f1.2.2 4 0 rfl).trans g0)
          have rel : ∀ μ, lR σ μ → rm μ = R → pe μ = P → lVv P 0 τ4 (u1 (u1 μ 349 P (nI M)) 347 (8 + 20 * P + 1) (nI y)) := fun μ h a1 a2 => by
            have h1 := lR_ln h f1
            obtain ⟨hA, hB, hC⟩ := h1
            have f4 : ∀ a j, ¬ (a = 26 ∧ j = P) → ¬ (a = 4 ∧ j = 1) → ¬ (a = 7 ∧ j = P) → aLn a j = false → τ4.1 a j = τ1.1 a j := fun a j b1 b2 b3 b4 => by
              rw [e4, jup_1, if_neg b3, l3.2.2 a j b4, eρ, jup_1, if_neg b2, jup_1, if_neg b1]
            have e : ∀ a j, ¬ (a = 347 ∧ 8 + 20 * P ≤ j) → ¬ (a = 349 ∧ P ≤ j) → (u1 (u1 μ 349 P (nI M)) 347 (8 + 20 * P + 1) (nI y)) a j = μ a j := fun a j b1 b2 => by
              rw [u1_n _ _ (by omega), u1_n _ _ (by omega)]
            refine ⟨⟨?_, lB_cg hB (fun a j q => f4 a j (by unfold lUB at q; omega) (by unfold lUB at q; omega) (by unfold lUB at q; omega) (ln_of (by unfold lUB at q; omega) (by unfold lUB at q; omega))) (fun a j q => e a j (by unfold lVB at q; omega) (by unfold lVB at q; omega)), lC_cg hC (fun a j q => f4 a j (by unfold lUC at q; omega) (by unfold lUC at q; omega) (by unfold lUC at q; omega) (ln_of (by unfold lUC at q; omega) (by unfold lUC at q; omega))) (fun a j q => e a j (by unfold lVC at q; omega) (by unfold lVC at q; omega))⟩, ?_, fun k hk => by omega⟩
            · obtain ⟨b1, b2, b3, b4, b5, b6, b7, b8, b9, d1, d2, d3⟩ := hA
              have g41 : τ4.1 4 1 = nI (P + 1) := by
                rw [e4, jup_1, if_neg (by omega), l3.2.2 4 1 rfl, eρ, jup_s]
              have hA1 : lA (P + 1) (jup τ1 4 1 (nI (P + 1))) μ := ⟨b1, b2, b3, b4, b5, jup_s _ _ _ _, b7, b8, b9, d1, fun p r hp hr => by
                rw [jup_1, if_neg (by omega)]
                exact d2 p r hp hr, d3⟩
              refine lA_cg hA1 (fun a j q => ?_) (fun a j q => e a j (by unfold lVA at q; omega) (by unfold lVA at q; omega))
              by_cases z : a = 4 ∧ j = 1
              · rw [z.1, z.2, g41, jup_s]
              · rw [jup_1, if_neg z]
                have := b2
                unfold lUA at q
                exact f4 a j (by omega) z (by omega) (ln_of (by omega) (by omega))
            · refine Eq.trans ?_ a2
              unfold pe
              rw [e _ _ (by omega) (by omega)]
          have E9 : τ4.1 1 9 = σ.1 1 9 := by
            rw [e4]
            exact (b3 rfl).trans ((f2.2.2 1 9 rfl).trans (by rw [eρ]; exact b1 rfl))
          have n0 : nI 0 = 0 := rfl
          have k1 := CPs_1 g n hE (post := post) (σ := τ4) (kTd hT) hP R6 g4 R 0 _ τ4 (by omega) jfr.rfl t4 (fun v ω fω b q => hp v ω (w4.tr (fω.weak (fun a j z => pv_lw hP z) (fun _ z => z))) (fun z => (b z).trans E9) (fun μ h a1 a2 => by
            have qq := q _ (rel μ h a1 a2)
            rw [e3d, eLd] at qq
            rw [pun μ h a1 a2, eI]
            show lRes v ω (match pVals (σ.1 3) (kLn σ) P R 0 (nx (σ.1 3) (kLn σ) s2) (u1 (u1 μ 349 P (nI M)) 347 (8 + 20 * P + 1) (nI y)) with
              | .inl e => .inl e
              | .inr (s', μ') => .inr (s', u1 μ' 322 44 (nI (P + 1))))
            rcases eV : pVals (σ.1 3) (kLn σ) P R 0 (nx (σ.1 3) (kLn σ) s2) (u1 (u1 μ 349 P (nI M)) 347 (8 + 20 * P + 1) (nI y)) with e | ⟨s', μ'⟩
            · rw [eV] at qq
              exact qq
            · rw [eV] at qq
              obtain ⟨x1, x2, x3⟩ := qq
              have fr : ∀ a j, ¬ (a = 347 ∧ 8 + 20 * P + 7 ≤ j ∧ j < 8 + 20 * P + 19) → μ' a j = (u1 (u1 μ 349 P (nI M)) 347 (8 + 20 * P + 1) (nI y)) a j := fun a j hj => pVals_fr R 0 _ _ _ (by omega) eV a j hj
              refine ⟨x1, x2, lR_pers x3.1 x3.2.1 hP ?_ (fun k hk => ?_) ?_ (fun r hr => x3.2.2 r ?_)⟩
              · rw [fω.2.2 26 P (pv_of rfl (by omega)), e4, jup_1, if_neg (by omega), l3.2.2 26 P rfl, eρ, jup_1, if_neg (by omega), jup_s]
                show nI M = μ' 349 P
                rw [fr 349 P (by omega), u1_n _ _ (by omega), u1_s]
              · show ¬ μ' 349 k = μ' 349 P
                rw [fr 349 k (by omega), fr 349 P (by omega), u1_n _ _ (by omega), u1_n _ _ (by omega), u1_n _ _ (by omega), u1_s]
                intro z
                refine (hd μ h a2).mp ?_ cF
                unfold dup
                refine (al_ex _).mpr ⟨k, by omega, ?_⟩
                rw [← eM]
                simp only [decide_eq_true_eq]
                exact fun y => y z
              · rw [fω.2.2 7 P (pv_of rfl (by omega)), e4, jup_s]
                show nI y = μ' 347 (8 + 20 * P + 1)
                rw [fr 347 (8 + 20 * P + 1) (by omega), u1_s]
              · have hr2 : r < rm μ' := hr
                have : rm μ' = rm μ := by
                  unfold rm
                  rw [fr 322 43 (by omega), u1_n _ _ (by omega), u1_n _ _ (by omega)]
                omega))
          rw [n0, e4] at k1
          refine jvk_ok TX4_readPerson (V := [(113, 2, 4, oX4_fail), (131, 1, 4, oX4_readName), (142, 3, 7, oX7_findPerson), (145, 3, 7, oX7_namePerson), (117, 1, 10, oX10_advance), (149, 2, 4, oX4_readNumber), (81, 2, 10, oX10_isWord)]) (S := []) (List.forall_mem_cons.mpr ⟨⟨mX4_fail, n + 0, 1, TX4, 10, rfl, by omega, kX4_113, WX4_fail, rfl, CX4_fail g (n)⟩, (List.forall_mem_cons.mpr ⟨⟨mX4_readName, n + 2, 0, TX4, 10, rfl, by omega, kX4_131, WX4_readName, rfl, CX4_readName g (n)⟩, (List.forall_mem_cons.mpr ⟨⟨mX7_findPerson, n + 0, 2, TX7, 6, rfl, by omega, kX4_142, WX7_findPerson, rfl, CX7_findPerson g (n)⟩, (List.forall_mem_cons.mpr ⟨⟨mX7_namePerson, n + 0, 2, TX7, 6, rfl, by omega, kX4_145, WX7_namePerson, rfl, CX7_namePerson g (n)⟩, (List.forall_mem_cons.mpr ⟨⟨mX10_advance, n + 1, 0, TX10, 6, rfl, by omega, kX4_117, WX10_advance, rfl, CX10_advance g (n)⟩, (List.forall_mem_cons.mpr ⟨⟨mX4_readNumber, n + 2, 1, TX4, 10, rfl, by omega, kX4_149, WX4_readNumber, rfl, CX4_readNumber g (n)⟩, (List.forall_mem_cons.mpr ⟨⟨mX10_isWord, n + 5, 1, TX10, 6, rfl, by omega, kX4_81, WX10_isWord, rfl, CX10_isWord g (n) hE⟩, (fun _ h => absurd h List.not_mem_nil)⟩)⟩)⟩)⟩)⟩)⟩)⟩) (fun _ h => absurd h List.not_mem_nil) [111] 40 _ _ _ _ ?_
          simp (maxSteps := 1000000) [↓Bool.cond_eq_ite, -Prod.forall, -Prod.exists, -Prod.mk.injEq, jvk, tX4_readPerson, jtb, jol, jst, jlk, jcmp, jbin, jfl, fX4, jc2, lX4, jcat, jel, lv_args, Value.category, jins, jsrt, jins2, jble, jblt, jf3, List.filter_cons, List.filter_nil, G_loader, G_lflat, G_lroster, oX4_fail, oX4_readName, oX7_findPerson, oX7_namePerson, oX10_advance, oX4_readNumber, oX10_isWord, joR, joRI, joRII, joRR, -Int32.not_le, -Int32.not_lt, -Int64.not_le, -Int64.not_lt, i3lt, i6lt, q7, jP, ecP]
          try simp (disch := omega) [-Prod.forall, -Prod.exists, -Prod.mk.injEq, -Int32.not_le, -Int32.not_lt, -Int64.not_le, -Int64.not_lt, i3lt, i6lt, q7, jP, ecP]
          exact k1
      · have k1 := hp0 (jup (jup τ1 1 8 (-14)) 1 9 (nI s1)) ((w1.up _ rfl).up _ rfl) (fun μ h a1 a2 => by
          unfold pPers
          rw [← es1, if_neg (by omega), if_neg (fun z => z cN), if_pos ((hd μ h a2).mpr cF)]
          exact lEr_f _ _ _)
        refine jvk_ok TX4_readPerson (V := [(113, 2, 4, oX4_fail), (131, 1, 4, oX4_readName), (142, 3, 7, oX7_findPerson), (145, 3, 7, oX7_namePerson), (117, 1, 10, oX10_advance), (149, 2, 4, oX4_readNumber), (81, 2, 10, oX10_isWord)]) (S := []) (List.forall_mem_cons.mpr ⟨⟨mX4_fail, n + 0, 1, TX4, 10, rfl, by omega, kX4_113, WX4_fail, rfl, CX4_fail g (n)⟩, (List.forall_mem_cons.mpr ⟨⟨mX4_readName, n + 2, 0, TX4, 10, rfl, by omega, kX4_131, WX4_readName, rfl, CX4_readName g (n)⟩, (List.forall_mem_cons.mpr ⟨⟨mX7_findPerson, n + 0, 2, TX7, 6, rfl, by omega, kX4_142, WX7_findPerson, rfl, CX7_findPerson g (n)⟩, (List.forall_mem_cons.mpr ⟨⟨mX7_namePerson, n + 0, 2, TX7, 6, rfl, by omega, kX4_145, WX7_namePerson, rfl, CX7_namePerson g (n)⟩, (List.forall_mem_cons.mpr ⟨⟨mX10_advance, n + 1, 0, TX10, 6, rfl, by omega, kX4_117, WX10_advance, rfl, CX10_advance g (n)⟩, (List.forall_mem_cons.mpr ⟨⟨mX4_readNumber, n + 2, 1, TX4, 10, rfl, by omega, kX4_149, WX4_readNumber, rfl, CX4_readNumber g (n)⟩, (List.forall_mem_cons.mpr ⟨⟨mX10_isWord, n + 5, 1, TX10, 6, rfl, by omega, kX4_81, WX10_isWord, rfl, CX10_isWord g (n) hE⟩, (fun _ h => absurd h List.not_mem_nil)⟩)⟩)⟩)⟩)⟩)⟩)⟩) (fun _ h => absurd h List.not_mem_nil) [] 40 _ _ _ _ ?_
        simp (maxSteps := 1000000) [↓Bool.cond_eq_ite, -Prod.forall, -Prod.exists, -Prod.mk.injEq, jvk, tX4_readPerson, jtb, jol, jst, jlk, jcmp, jbin, jfl, fX4, jc2, lX4, jcat, jel, lv_args, Value.category, jins, jsrt, jins2, jble, jblt, jf3, List.filter_cons, List.filter_nil, G_loader, G_lflat, G_lroster, oX4_fail, oX4_readName, oX7_findPerson, oX7_namePerson, oX10_advance, oX4_readNumber, oX10_isWord, joR, joRI, joRII, joRR, -Int32.not_le, -Int32.not_lt, -Int64.not_le, -Int64.not_lt, i3lt, i6lt, cF, z3, jup_1]
        try simp (disch := omega) [-Prod.forall, -Prod.exists, -Prod.mk.injEq, -Int32.not_le, -Int32.not_lt, -Int64.not_le, -Int64.not_lt, i3lt, i6lt, cF, z3, jup_1]
        exact k1
    · rw [if_neg cN] at q1
      have hv1 := q1.1
      subst hv1
      have k1 := hp0 τ1 w1 (fun μ h a1 a2 => by
        unfold pPers
        rw [← es1, if_neg (by omega), if_pos cN]
        exact q1)
      refine jvk_ok TX4_readPerson (V := [(113, 2, 4, oX4_fail), (131, 1, 4, oX4_readName), (142, 3, 7, oX7_findPerson), (145, 3, 7, oX7_namePerson), (117, 1, 10, oX10_advance), (149, 2, 4, oX4_readNumber), (81, 2, 10, oX10_isWord)]) (S := []) (List.forall_mem_cons.mpr ⟨⟨mX4_fail, n + 0, 1, TX4, 10, rfl, by omega, kX4_113, WX4_fail, rfl, CX4_fail g (n)⟩, (List.forall_mem_cons.mpr ⟨⟨mX4_readName, n + 2, 0, TX4, 10, rfl, by omega, kX4_131, WX4_readName, rfl, CX4_readName g (n)⟩, (List.forall_mem_cons.mpr ⟨⟨mX7_findPerson, n + 0, 2, TX7, 6, rfl, by omega, kX4_142, WX7_findPerson, rfl, CX7_findPerson g (n)⟩, (List.forall_mem_cons.mpr ⟨⟨mX7_namePerson, n + 0, 2, TX7, 6, rfl, by omega, kX4_145, WX7_namePerson, rfl, CX7_namePerson g (n)⟩, (List.forall_mem_cons.mpr ⟨⟨mX10_advance, n + 1, 0, TX10, 6, rfl, by omega, kX4_117, WX10_advance, rfl, CX10_advance g (n)⟩, (List.forall_mem_cons.mpr ⟨⟨mX4_readNumber, n + 2, 1, TX4, 10, rfl, by omega, kX4_149, WX4_readNumber, rfl, CX4_readNumber g (n)⟩, (List.forall_mem_cons.mpr ⟨⟨mX10_isWord, n + 5, 1, TX10, 6, rfl, by omega, kX4_81, WX10_isWord, rfl, CX10_isWord g (n) hE⟩, (fun _ h => absurd h List.not_mem_nil)⟩)⟩)⟩)⟩)⟩)⟩)⟩) (fun _ h => absurd h List.not_mem_nil) [] 20 _ _ _ _ ?_
      simp (maxSteps := 1000000) [↓Bool.cond_eq_ite, -Prod.forall, -Prod.exists, -Prod.mk.injEq, jvk, tX4_readPerson, jtb, jol, jst, jlk, jcmp, jbin, jfl, fX4, jc2, lX4, jcat, jel, lv_args, Value.category, jins, jsrt, jins2, jble, jblt, jf3, List.filter_cons, List.filter_nil, G_loader, G_lflat, G_lroster, oX4_fail, oX4_readName, oX7_findPerson, oX7_namePerson, oX10_advance, oX4_readNumber, oX10_isWord, joR, joRI, joRII, joRR, -Int32.not_le, -Int32.not_lt, -Int64.not_le, -Int64.not_lt, i3lt, i6lt]
      try simp (disch := omega) [-Prod.forall, -Prod.exists, -Prod.mk.injEq, -Int32.not_le, -Int32.not_lt, -Int64.not_le, -Int64.not_lt, i3lt, i6lt]
      exact k1
