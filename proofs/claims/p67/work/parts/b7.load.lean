/-! Loader: a plan -/
def uPl (μ : pM) (K : Nat) (p mo inc : Int32) : pM := u1 (u1 (u1 (u1 μ 350 (3 * K) p) 350 (3 * K + 1) mo) 350 (3 * K + 2) inc) 322 45 (nI (K + 1))
theorem lC_plan {σ : jM} {μ : pM} (h : lC σ μ) (h20 : pn μ < 20) (p mo inc : Int32) : lC (rsN 24 σ p mo inc (pn μ)) (uPl μ (pn μ) p mo inc) := by
  obtain ⟨K, eK⟩ : ∃ K, K = pn μ := ⟨_, rfl⟩
  obtain ⟨a1, a2, a3, ρ, c1, c2⟩ := h
  rw [← eK] at h20 a1 c1 c2 ⊢
  obtain ⟨q, q1, q2, q3, q4, q5⟩ := rsN_sp 24 σ p mo inc K
  obtain ⟨τ, eτ⟩ : ∃ τ, τ = rsN 24 σ p mo inc K := ⟨_, rfl⟩
  rw [← eτ] at q4 q5 ⊢
  obtain ⟨ν, eν⟩ : ∃ ν, ν = uPl μ K p mo inc := ⟨_, rfl⟩
  rw [← eν]
  have n0 : ∀ j, j < 3 * K → ν 350 j = μ 350 j := fun j hj => by
    rw [eν]
    unfold uPl
    rw [u1_n _ _ (by omega), u1_n _ _ (by omega), u1_n _ _ (by omega), u1_n _ _ (by omega)]
  have n1 : ν 350 (3 * K) = p ∧ ν 350 (3 * K + 1) = mo ∧ ν 350 (3 * K + 2) = inc := by
    rw [eν]
    unfold uPl
    refine ⟨?_, ?_, ?_⟩
    · rw [u1_n _ _ (by omega), u1_n _ _ (by omega), u1_n _ _ (by omega), u1_s]
    · rw [u1_n _ _ (by omega), u1_n _ _ (by omega), u1_s]
    · rw [u1_n _ _ (by omega), u1_s]
  have n2 : ν 322 45 = nI (K + 1) := by
    rw [eν]
    exact u1_s _ _ _ _
  have n3 : pn ν = K + 1 := by unfold pn; rw [n2, nI_clamp (by omega)]
  have r27 : ∀ i, i ≤ K → τ.1 27 i = (if i = q then p else if q < i then σ.1 27 (i - 1) else σ.1 27 i) := fun i hi => (q5 i hi).1
  have r28 : ∀ i, i ≤ K → τ.1 28 i = (if i = q then mo else if q < i then σ.1 28 (i - 1) else σ.1 28 i) := fun i hi => (q5 i hi).2.1
  have r29 : ∀ i, i ≤ K → τ.1 29 i = (if i = q then inc else if q < i then σ.1 29 (i - 1) else σ.1 29 i) := fun i hi => (q5 i hi).2.2
  have m28 : ∀ i, q ≤ i → i < K → mo < σ.1 28 i := q2
  have m28' : q = 0 ∨ ∃ i, q = i + 1 ∧ ¬ mo < σ.1 28 i := q3
  have old : ∀ i j, i < j → j < K → plB ν (ρ i) (ρ j) := fun i j hij hj => by
    have d0 := (c1 i (by omega)).1
    have d1 := (c1 j hj).1
    unfold plB
    rw [n0 _ (by omega), n0 (3 * ρ j + 1) (by omega)]
    exact c2 i j hij hj
  have mon : ∀ i, i < K → ν 350 (3 * ρ i + 1) = σ.1 28 i := fun i hi => by
    have d := c1 i hi
    rw [n0 _ (by have := d.1; omega)]
    exact d.2.2.1.symm
  unfold lC lPl
  rw [n3]
  refine ⟨by omega, n2, q4, fun i => if i < q then ρ i else if i = q then K else ρ (i - 1), fun i hi => ?_, fun i j hij hj => ?_⟩
  · by_cases ci : i < q
    · obtain ⟨d0, d1, d2, d3⟩ := c1 i (by omega)
      simp only [if_pos ci]
      rw [r27 i (by omega), r28 i (by omega), r29 i (by omega), if_neg (by omega), if_neg (by omega), if_neg (by omega), if_neg (by omega), if_neg (by omega), if_neg (by omega), n0 _ (by omega), n0 (3 * ρ i + 1) (by omega), n0 (3 * ρ i + 2) (by omega)]
      exact ⟨by omega, d1, d2, d3⟩
    · by_cases ce : i = q
      · simp only [if_neg ci, if_pos ce]
        rw [r27 i (by omega), r28 i (by omega), r29 i (by omega), if_pos ce, if_pos ce, if_pos ce, n1.1, n1.2.1, n1.2.2]
        exact ⟨by omega, rfl, rfl, rfl⟩
      · have cg : q < i := by omega
        obtain ⟨d0, d1, d2, d3⟩ := c1 (i - 1) (by omega)
        simp only [if_neg ci, if_neg ce]
        rw [r27 i (by omega), r28 i (by omega), r29 i (by omega), if_neg ce, if_neg ce, if_neg ce, if_pos cg, if_pos cg, if_pos cg, n0 _ (by omega), n0 (3 * ρ (i - 1) + 1) (by omega), n0 (3 * ρ (i - 1) + 2) (by omega)]
        exact ⟨by omega, d1, d2, d3⟩
  · by_cases ci : i < q
    · simp only [if_pos ci]
      by_cases cj : j < q
      · simp only [if_pos cj]
        exact old i j hij (by omega)
      · by_cases ce : j = q
        · simp only [if_neg cj, if_pos ce]
          have di := (c1 i (by omega)).1
          rcases m28' with z | ⟨k, k1, k2⟩
          · omega
          · have hle : ν 350 (3 * ρ i + 1) ≤ mo := by
              rw [mon i (by omega)]
              by_cases e : i = k
              · rw [e]
                grind
              · have o := c2 i k (by omega) (by omega)
                have e1 := mon i (by omega)
                have e2 := mon k (by omega)
                have o2 := old i k (by omega) (by omega)
                unfold plB at o2
                rw [e1, e2] at o2
                rcases o2 with o2 | o2
                · grind
                · grind
            unfold plB
            rw [n1.2.1]
            by_cases e : ν 350 (3 * ρ i + 1) = mo
            · exact Or.inr ⟨e, di⟩
            · exact Or.inl (by grind)
        · simp only [if_neg cj, if_neg ce]
          exact old i (j - 1) (by omega) (by omega)
    · by_cases ce : i = q
      · have cj : ¬ j < q := by omega
        have ce2 : ¬ j = q := by omega
        simp only [if_neg ci, if_pos ce, if_neg cj, if_neg ce2]
        unfold plB
        rw [n1.2.1, mon (j - 1) (by omega)]
        exact Or.inl (m28 (j - 1) (by omega) (by omega))
      · have cj : ¬ j < q := by omega
        have ce2 : ¬ j = q := by omega
        simp only [if_neg ci, if_neg ce, if_neg cj, if_neg ce2]
        exact old (i - 1) (j - 1) (by omega) (by omega)
theorem rsN_fr (σ : jM) (p mo inc : Int32) (K : Nat) : jfr (fun a j => Nat.ble 27 a && Nat.ble a 29 || a == 24 && j == 5) b0 σ (rsN 24 σ p mo inc K) := by
  have h := (rsA_fr 24 mo K σ).2
  unfold rsN
  refine (((h.weak (fun a j q => ?_) (fun _ q => q)).up _ rfl).up _ rfl).up _ rfl |>.up _ rfl
  rw [jble, jble] at q
  simp only [Bool.or_eq_false_iff, Bool.and_eq_false_iff, beq_eq_false_iff_ne, decide_eq_false_iff_not] at q ⊢
  omega
theorem lR_plan {σ : jM} {μ : pM} (h : lR σ μ) (h20 : pn μ < 20) (p mo inc : Int32) : lR (rsN 24 σ p mo inc (pn μ)) (uPl μ (pn μ) p mo inc) := by
  have f := rsN_fr σ p mo inc (pn μ)
  have E : ∀ a j, ¬ (27 ≤ a ∧ a ≤ 29) → ¬ (a = 24 ∧ j = 5) → (rsN 24 σ p mo inc (pn μ)).1 a j = σ.1 a j := fun a j h1 h2 => f.2.2 a j (by
    show (Nat.ble 27 a && Nat.ble a 29 || a == 24 && j == 5) = false
    rw [jble, jble]
    simp only [Bool.or_eq_false_iff, Bool.and_eq_false_iff, beq_eq_false_iff_ne, decide_eq_false_iff_not]
    omega)
  have e : ∀ i j, ¬ i = 350 → ¬ (i = 322 ∧ j = 45) → (uPl μ (pn μ) p mo inc) i j = μ i j := fun i j h1 h2 => by
    unfold uPl
    rw [u1_n _ _ (by omega), u1_n _ _ (by omega), u1_n _ _ (by omega), u1_n _ _ (by omega)]
  have q : pe (uPl μ (pn μ) p mo inc) = pe μ := by unfold pe; rw [e _ _ (by omega) (by omega)]
  unfold lR
  rw [q]
  exact ⟨lA_cg h.1 (fun a j q => E a j (by unfold lUA at q; have := h.1.2.1; omega) (by unfold lUA at q; have := h.1.2.1; omega)) (fun a j q => e a j (by unfold lVA at q; omega) (by unfold lVA at q; omega)), lB_cg h.2.1 (fun a j q => E a j (by unfold lUB at q; omega) (by unfold lUB at q; omega)) (fun a j q => e a j (by unfold lVB at q; omega) (by unfold lVB at q; omega)), lC_plan h.2.2 h20 p mo inc⟩
def oX4_readPlan : jO := joR fun a σ => (a = 1 ∧ kT σ ∧ (∃ s, toP σ s) ∧ ∃ μ, lR σ μ, fun v τ => (jfr aLq b0 σ τ ∧ k9 v σ τ) ∧ ∀ s μ, toP σ s → lR σ μ → lRes v τ (pPlan (σ.1 3) (kLn σ) s μ))
set_option maxRecDepth 100000 in
set_option maxHeartbeats 4000000 in
theorem CX4_readPlan (g : jG) (n : Nat) : jOk g (n + 3) mX4_readPlan oX4_readPlan := by
  refine joR_ok ?_
  rintro _ σ ⟨rfl, hT, ⟨s, hs⟩, μ0, h0⟩
  have uniq : ∀ t, toP σ t → t = s := fun t ht => toP_inj hT ht hs
  have hx : ∃ s, toP σ s := ⟨s, hs⟩
  have h3 := hs.2.1
  obtain ⟨K, eK⟩ : ∃ K, K = pn μ0 := ⟨_, rfl⟩
  obtain ⟨P, eP⟩ : ∃ P, P = pe μ0 := ⟨_, rfl⟩
  have K20 : K ≤ 20 := by rw [eK]; exact h0.2.2.1
  have P10 : P ≤ 10 := by rw [eP]; exact h0.1.2.1
  have g5 : σ.1 24 5 = nI K := by rw [eK]; exact h0.2.2.2.2.1
  have g1 : σ.1 4 1 = nI P := by rw [eP]; exact h0.1.2.2.2.2.2.1
  have hμ : ∀ μ, lR σ μ → pn μ = K ∧ pe μ = P := fun μ h => by
    have := lR_n h h0
    rw [eK, eP]
    exact ⟨this.2.2, this.2.1⟩
  refine jCon.ofP (by decide +kernel) (by simp [lg_sl, Value.category]) (fun post hp => ?_)
  have hp : ∀ v τ, jfr aLq b0 σ τ → k9 v σ τ → (∀ μ, lR σ μ → pn μ = K → pe μ = P → lRes v τ (pPlan (σ.1 3) (kLn σ) s μ)) → post v τ := fun v τ f b q => hp v τ ⟨⟨f, b⟩, fun t μ ht h => by rw [uniq t ht]; exact q μ h (hμ μ h).1 (hμ μ h).2⟩
  have hp0 := fun τ f q => hp (some (.int 0)) τ f k9_0 q
  have hp1 := fun τ f e q => hp (some (.int 1)) τ f (fun _ => e) q
  by_cases c : 20 ≤ K
  · have d : (20 : Int32) ≤ nI K := nI_le (a := 20) c (by omega)
    have k1 := hp0 (jup (jup σ 1 8 (-15)) 1 9 (nI s)) ((jfr.rfl.up _ rfl).up _ rfl) (fun μ h e1 e2 => by
      unfold pPlan
      rw [if_pos (by omega)]
      exact lEr_f _ _ _)
    refine jvk_ok TX4_readPlan (V := [(113, 2, 4, oX4_fail), (131, 1, 4, oX4_readName), (142, 3, 7, oX7_findPerson), (117, 1, 10, oX10_advance), (149, 2, 4, oX4_readNumber), (170, 4, 7, oX7_addPlan)]) (S := []) (List.forall_mem_cons.mpr ⟨⟨mX4_fail, n + 0, 1, TX4, 10, rfl, by omega, kX4_113, WX4_fail, rfl, CX4_fail g (n)⟩, (List.forall_mem_cons.mpr ⟨⟨mX4_readName, n + 2, 0, TX4, 10, rfl, by omega, kX4_131, WX4_readName, rfl, CX4_readName g (n)⟩, (List.forall_mem_cons.mpr ⟨⟨mX7_findPerson, n + 0, 2, TX7, 6, rfl, by omega, kX4_142, WX7_findPerson, rfl, CX7_findPerson g (n)⟩, (List.forall_mem_cons.mpr ⟨⟨mX10_advance, n + 1, 0, TX10, 6, rfl, by omega, kX4_117, WX10_advance, rfl, CX10_advance g (n)⟩, (List.forall_mem_cons.mpr ⟨⟨mX4_readNumber, n + 2, 1, TX4, 10, rfl, by omega, kX4_149, WX4_readNumber, rfl, CX4_readNumber g (n)⟩, (List.forall_mem_cons.mpr ⟨⟨mX7_addPlan, n + 0, 3, TX7, 6, rfl, by omega, kX4_170, WX7_addPlan, rfl, CX7_addPlan g (n)⟩, (fun _ h => absurd h List.not_mem_nil)⟩)⟩)⟩)⟩)⟩)⟩) (fun _ h => absurd h List.not_mem_nil) [] 40 _ _ _ _ ?_
    simp (maxSteps := 1000000) [↓Bool.cond_eq_ite, -Prod.forall, -Prod.exists, -Prod.mk.injEq, jvk, tX4_readPlan, jtb, jol, jst, jlk, jcmp, jbin, jfl, fX4, jc2, lX4, jcat, jel, lv_args, Value.category, jins, jsrt, jins2, jble, jblt, jf3, List.filter_cons, List.filter_nil, G_loader, G_lflat, G_lroster, oX4_fail, oX4_readName, oX7_findPerson, oX10_advance, oX4_readNumber, oX7_addPlan, joR, joRI, joRII, joRIII, -Int32.not_le, -Int32.not_lt, -Int64.not_le, -Int64.not_lt, i3lt, i6lt, g5, d, h3, jup_1]
    try simp (disch := omega) [-Prod.forall, -Prod.exists, -Prod.mk.injEq, -Int32.not_le, -Int32.not_lt, -Int64.not_le, -Int64.not_lt, i3lt, i6lt, g5, d, h3, jup_1]
    exact k1
  · have d : ¬ (20 : Int32) ≤ nI K := nI_ge (b := 20) (by omega) (by decide)
    refine jvk_ok TX4_readPlan (V := [(113, 2, 4, oX4_fail), (131, 1, 4, oX4_readName), (142, 3, 7, oX7_findPerson), (117, 1, 10, oX10_advance), (149, 2, 4, oX4_readNumber), (170, 4, 7, oX7_addPlan)]) (S := []) (List.forall_mem_cons.mpr ⟨⟨mX4_fail, n + 0, 1, TX4, 10, rfl, by omega, kX4_113, WX4_fail, rfl, CX4_fail g (n)⟩, (List.forall_mem_cons.mpr ⟨⟨mX4_readName, n + 2, 0, TX4, 10, rfl, by omega, kX4_131, WX4_readName, rfl, CX4_readName g (n)⟩, (List.forall_mem_cons.mpr ⟨⟨mX7_findPerson, n + 0, 2, TX7, 6, rfl, by omega, kX4_142, WX7_findPerson, rfl, CX7_findPerson g (n)⟩, (List.forall_mem_cons.mpr ⟨⟨mX10_advance, n + 1, 0, TX10, 6, rfl, by omega, kX4_117, WX10_advance, rfl, CX10_advance g (n)⟩, (List.forall_mem_cons.mpr ⟨⟨mX4_readNumber, n + 2, 1, TX4, 10, rfl, by omega, kX4_149, WX4_readNumber, rfl, CX4_readNumber g (n)⟩, (List.forall_mem_cons.mpr ⟨⟨mX7_addPlan, n + 0, 3, TX7, 6, rfl, by omega, kX4_170, WX7_addPlan, rfl, CX7_addPlan g (n)⟩, (fun _ h => absurd h List.not_mem_nil)⟩)⟩)⟩)⟩)⟩)⟩) (fun _ h => absurd h List.not_mem_nil) [23] 40 _ _ _ _ ?_
    simp (maxSteps := 1000000) [↓Bool.cond_eq_ite, -Prod.forall, -Prod.exists, -Prod.mk.injEq, jvk, tX4_readPlan, jtb, jol, jst, jlk, jcmp, jbin, jfl, fX4, jc2, lX4, jcat, jel, lv_args, Value.category, jins, jsrt, jins2, jble, jblt, jf3, List.filter_cons, List.filter_nil, G_loader, G_lflat, G_lroster, oX4_fail, oX4_readName, oX7_findPerson, oX10_advance, oX4_readNumber, oX7_addPlan, joR, joRI, joRII, joRIII, -Int32.not_le, -Int32.not_lt, -Int64.not_le, -Int64.not_lt, i3lt, i6lt, g5, d, hT, hx]
    try simp (disch := omega) [-Prod.forall, -Prod.exists, -Prod.mk.injEq, -Int32.not_le, -Int32.not_lt, -Int64.not_le, -Int64.not_lt, i3lt, i6lt, g5, d, hT, hx]
    intro v1 τ1 f1 b1 q1
    have q1 := q1 s hs
    obtain ⟨s1, es1⟩ : ∃ s1, s1 = nx (σ.1 3) (kLn σ) s := ⟨_, rfl⟩
    rw [← es1] at q1
    have w1 : jfr aLq b0 σ τ1 := f1.weak (fun a j q => lw_ln q) (fun _ q => q)
    obtain ⟨e3, eL2, kT2⟩ := ln_fr f1
    have hT1 := kT2 hT
    by_cases cN : isN (σ.1 3) (kLn σ) s1 = true
    · rw [if_pos cN] at q1
      obtain ⟨hv1, t1, n1⟩ := q1
      subst hv1
      obtain ⟨M, eM⟩ : ∃ M, M = nm (σ.1 3) (kLn σ) s1 := ⟨_, rfl⟩
      rw [← eM] at n1
      have ecP : (nI P).toNatClampNeg = P := nI_clamp (by omega)
      have hN10 : ∃ N, nI P = nI N ∧ N ≤ 10 := ⟨P, rfl, P10⟩
      have z3 := t1.2.1
      have z4 : τ1.1 4 1 = nI P := (f1.2.2 4 1 rfl).trans g1
      have z5 : τ1.1 24 5 = nI K := (f1.2.2 24 5 rfl).trans g5
      refine jvk_ok TX4_readPlan (V := [(113, 2, 4, oX4_fail), (131, 1, 4, oX4_readName), (142, 3, 7, oX7_findPerson), (117, 1, 10, oX10_advance), (149, 2, 4, oX4_readNumber), (170, 4, 7, oX7_addPlan)]) (S := []) (List.forall_mem_cons.mpr ⟨⟨mX4_fail, n + 0, 1, TX4, 10, rfl, by omega, kX4_113, WX4_fail, rfl, CX4_fail g (n)⟩, (List.forall_mem_cons.mpr ⟨⟨mX4_readName, n + 2, 0, TX4, 10, rfl, by omega, kX4_131, WX4_readName, rfl, CX4_readName g (n)⟩, (List.forall_mem_cons.mpr ⟨⟨mX7_findPerson, n + 0, 2, TX7, 6, rfl, by omega, kX4_142, WX7_findPerson, rfl, CX7_findPerson g (n)⟩, (List.forall_mem_cons.mpr ⟨⟨mX10_advance, n + 1, 0, TX10, 6, rfl, by omega, kX4_117, WX10_advance, rfl, CX10_advance g (n)⟩, (List.forall_mem_cons.mpr ⟨⟨mX4_readNumber, n + 2, 1, TX4, 10, rfl, by omega, kX4_149, WX4_readNumber, rfl, CX4_readNumber g (n)⟩, (List.forall_mem_cons.mpr ⟨⟨mX7_addPlan, n + 0, 3, TX7, 6, rfl, by omega, kX4_170, WX7_addPlan, rfl, CX7_addPlan g (n)⟩, (fun _ h => absurd h List.not_mem_nil)⟩)⟩)⟩)⟩)⟩)⟩) (fun _ h => absurd h List.not_mem_nil) [46] 40 _ _ _ _ ?_
      simp (maxSteps := 1000000) [↓Bool.cond_eq_ite, -Prod.forall, -Prod.exists, -Prod.mk.injEq, jvk, tX4_readPlan, jtb, jol, jst, jlk, jcmp, jbin, jfl, fX4, jc2, lX4, jcat, jel, lv_args, Value.category, jins, jsrt, jins2, jble, jblt, jf3, List.filter_cons, List.filter_nil, G_loader, G_lflat, G_lroster, oX4_fail, oX4_readName, oX7_findPerson, oX10_advance, oX4_readNumber, oX7_addPlan, joR, joRI, joRII, joRIII, -Int32.not_le, -Int32.not_lt, -Int64.not_le, -Int64.not_lt, i3lt, i6lt, n1, hN10, ecP, z4]
      try simp (disch := omega) [-Prod.forall, -Prod.exists, -Prod.mk.injEq, -Int32.not_le, -Int32.not_lt, -Int64.not_le, -Int64.not_lt, i3lt, i6lt, n1, hN10, ecP, z4]
      obtain ⟨F, eF⟩ : ∃ F, F = ff (fun k => decide (τ1.1 26 k = nI M)) P 0 := ⟨_, rfl⟩
      rw [← eF]
      have hd : ∀ μ, lR σ μ → pe μ = P → lm (fun p => decide (μ 349 p = nI (nm (σ.1 3) (kLn σ) s1))) (pe μ) = F := fun μ h e1 => by
        have u := h.1.2.2.2.2.2.2.2.2.1
        rw [ff_lm (by omega) (fun a b ha hb pa pb => by
          simp only [decide_eq_true_eq] at pa pb
          rcases (by omega : a < b ∨ a = b ∨ b < a) with z | z | z
          · exact absurd (pa.trans pb.symm) (u a b z hb)
          · exact z
          · exact absurd (pb.trans pa.symm) (u b a z ha)), e1, eF]
        refine ff_congr _ _ (fun j _ hj => ?_)
        rw [f1.2.2 26 j rfl, h.1.2.2.2.2.2.2.2.1 j (by omega), eM]
      by_cases cF : F = -1
      · have k1 := hp0 (jup (jup τ1 1 8 (-13)) 1 9 (nI s1)) ((w1.up _ rfl).up _ rfl) (fun μ h e1 e2 => by
          unfold pPlan
          rw [← es1, if_neg (by omega), if_neg (fun z => z cN), if_pos (by rw [hd μ h e2, cF])]
          exact lEr_f _ _ _)
        refine jvk_ok TX4_readPlan (V := [(113, 2, 4, oX4_fail), (131, 1, 4, oX4_readName), (142, 3, 7, oX7_findPerson), (117, 1, 10, oX10_advance), (149, 2, 4, oX4_readNumber), (170, 4, 7, oX7_addPlan)]) (S := []) (List.forall_mem_cons.mpr ⟨⟨mX4_fail, n + 0, 1, TX4, 10, rfl, by omega, kX4_113, WX4_fail, rfl, CX4_fail g (n)⟩, (List.forall_mem_cons.mpr ⟨⟨mX4_readName, n + 2, 0, TX4, 10, rfl, by omega, kX4_131, WX4_readName, rfl, CX4_readName g (n)⟩, (List.forall_mem_cons.mpr ⟨⟨mX7_findPerson, n + 0, 2, TX7, 6, rfl, by omega, kX4_142, WX7_findPerson, rfl, CX7_findPerson g (n)⟩, (List.forall_mem_cons.mpr ⟨⟨mX10_advance, n + 1, 0, TX10, 6, rfl, by omega, kX4_117, WX10_advance, rfl, CX10_advance g (n)⟩, (List.forall_mem_cons.mpr ⟨⟨mX4_readNumber, n + 2, 1, TX4, 10, rfl, by omega, kX4_149, WX4_readNumber, rfl, CX4_readNumber g (n)⟩, (List.forall_mem_cons.mpr ⟨⟨mX7_addPlan, n + 0, 3, TX7, 6, rfl, by omega, kX4_170, WX7_addPlan, rfl, CX7_addPlan g (n)⟩, (fun _ h => absurd h List.not_mem_nil)⟩)⟩)⟩)⟩)⟩)⟩) (fun _ h => absurd h List.not_mem_nil) [] 40 _ _ _ _ ?_
        simp (maxSteps := 1000000) [↓Bool.cond_eq_ite, -Prod.forall, -Prod.exists, -Prod.mk.injEq, jvk, tX4_readPlan, jtb, jol, jst, jlk, jcmp, jbin, jfl, fX4, jc2, lX4, jcat, jel, lv_args, Value.category, jins, jsrt, jins2, jble, jblt, jf3, List.filter_cons, List.filter_nil, G_loader, G_lflat, G_lroster, oX4_fail, oX4_readName, oX7_findPerson, oX10_advance, oX4_readNumber, oX7_addPlan, joR, joRI, joRII, joRIII, -Int32.not_le, -Int32.not_lt, -Int64.not_le, -Int64.not_lt, i3lt, i6lt, cF, z3, jup_1]
        try simp (disch := omega) [-Prod.forall, -Prod.exists, -Prod.mk.injEq, -Int32.not_le, -Int32.not_lt, -Int64.not_le, -Int64.not_lt, i3lt, i6lt, cF, z3, jup_1]
        exact k1
      · have pun : ∀ μ, lR σ μ → pn μ = K → pe μ = P → pPlan (σ.1 3) (kLn σ) s μ = (match pInt (σ.1 3) (kLn σ) 999 (nx (σ.1 3) (kLn σ) s1) with
            | .inl e => .inl e
            | .inr m => match pInt (σ.1 3) (kLn σ) 99999 (nx (σ.1 3) (kLn σ) (nx (σ.1 3) (kLn σ) s1)) with
              | .inl e => .inl e
              | .inr v => .inr (nx (σ.1 3) (kLn σ) (nx (σ.1 3) (kLn σ) (nx (σ.1 3) (kLn σ) s1)), uPl μ K F (nI m) (nI v))) := fun μ h e1 e2 => by
          unfold pPlan
          rw [← es1, if_neg (by omega), if_neg (fun z => z cN), if_neg (by rw [hd μ h e2]; exact cF), hd μ h e2, e1]
          rfl
        have hpre := toP_p hT1 t1
        refine jvk_ok TX4_readPlan (V := [(113, 2, 4, oX4_fail), (131, 1, 4, oX4_readName), (142, 3, 7, oX7_findPerson), (117, 1, 10, oX10_advance), (149, 2, 4, oX4_readNumber), (170, 4, 7, oX7_addPlan)]) (S := []) (List.forall_mem_cons.mpr ⟨⟨mX4_fail, n + 0, 1, TX4, 10, rfl, by omega, kX4_113, WX4_fail, rfl, CX4_fail g (n)⟩, (List.forall_mem_cons.mpr ⟨⟨mX4_readName, n + 2, 0, TX4, 10, rfl, by omega, kX4_131, WX4_readName, rfl, CX4_readName g (n)⟩, (List.forall_mem_cons.mpr ⟨⟨mX7_findPerson, n + 0, 2, TX7, 6, rfl, by omega, kX4_142, WX7_findPerson, rfl, CX7_findPerson g (n)⟩, (List.forall_mem_cons.mpr ⟨⟨mX10_advance, n + 1, 0, TX10, 6, rfl, by omega, kX4_117, WX10_advance, rfl, CX10_advance g (n)⟩, (List.forall_mem_cons.mpr ⟨⟨mX4_readNumber, n + 2, 1, TX4, 10, rfl, by omega, kX4_149, WX4_readNumber, rfl, CX4_readNumber g (n)⟩, (List.forall_mem_cons.mpr ⟨⟨mX7_addPlan, n + 0, 3, TX7, 6, rfl, by omega, kX4_170, WX7_addPlan, rfl, CX7_addPlan g (n)⟩, (fun _ h => absurd h List.not_mem_nil)⟩)⟩)⟩)⟩)⟩)⟩) (fun _ h => absurd h List.not_mem_nil) [66] 40 _ _ _ _ ?_
        simp (maxSteps := 1000000) [↓Bool.cond_eq_ite, -Prod.forall, -Prod.exists, -Prod.mk.injEq, jvk, tX4_readPlan, jtb, jol, jst, jlk, jcmp, jbin, jfl, fX4, jc2, lX4, jcat, jel, lv_args, Value.category, jins, jsrt, jins2, jble, jblt, jf3, List.filter_cons, List.filter_nil, G_loader, G_lflat, G_lroster, oX4_fail, oX4_readName, oX7_findPerson, oX10_advance, oX4_readNumber, oX7_addPlan, joR, joRI, joRII, joRIII, -Int32.not_le, -Int32.not_lt, -Int64.not_le, -Int64.not_lt, i3lt, i6lt, cF, hT1, hpre]
        try simp (disch := omega) [-Prod.forall, -Prod.exists, -Prod.mk.injEq, -Int32.not_le, -Int32.not_lt, -Int64.not_le, -Int64.not_lt, i3lt, i6lt, cF, hT1, hpre]
        intro v2 τ2 hv2 f2 t2
        subst hv2
        rw [toP_e hT1 t1, e3, eL2] at t2
        obtain ⟨s2, es2⟩ : ∃ s2, s2 = nx (σ.1 3) (kLn σ) s1 := ⟨_, rfl⟩
        have t2 : toP τ2 s2 := by rw [es2]; exact t2
        rw [← es2] at pun
        obtain ⟨e3b, eLb, kTb⟩ := to_fr f2
        have hT2 := kTb hT1
        have hx2 : ∃ s, toP τ2 s := ⟨_, t2⟩
        have h99 : ∃ hi, (999 : Int32) = nI hi ∧ hi ≤ 99999 := ⟨999, rfl, by decide⟩
        have c99 : (999 : Int32).toNatClampNeg = 999 := by decide
        have l2 : jfr aLn b0 σ τ2 := f1.tr (f2.weak (fun a j q => ln_To q) (fun _ q => q))
        refine jvk_ok TX4_readPlan (V := [(113, 2, 4, oX4_fail), (131, 1, 4, oX4_readName), (142, 3, 7, oX7_findPerson), (117, 1, 10, oX10_advance), (149, 2, 4, oX4_readNumber), (170, 4, 7, oX7_addPlan)]) (S := []) (List.forall_mem_cons.mpr ⟨⟨mX4_fail, n + 0, 1, TX4, 10, rfl, by omega, kX4_113, WX4_fail, rfl, CX4_fail g (n)⟩, (List.forall_mem_cons.mpr ⟨⟨mX4_readName, n + 2, 0, TX4, 10, rfl, by omega, kX4_131, WX4_readName, rfl, CX4_readName g (n)⟩, (List.forall_mem_cons.mpr ⟨⟨mX7_findPerson, n + 0, 2, TX7, 6, rfl, by omega, kX4_142, WX7_findPerson, rfl, CX7_findPerson g (n)⟩, (List.forall_mem_cons.mpr ⟨⟨mX10_advance, n + 1, 0, TX10, 6, rfl, by omega, kX4_117, WX10_advance, rfl, CX10_advance g (n)⟩, (List.forall_mem_cons.mpr ⟨⟨mX4_readNumber, n + 2, 1, TX4, 10, rfl, by omega, kX4_149, WX4_readNumber, rfl, CX4_readNumber g (n)⟩, (List.forall_mem_cons.mpr ⟨⟨mX7_addPlan, n + 0, 3, TX7, 6, rfl, by omega, kX4_170, WX7_addPlan, rfl, CX7_addPlan g (n)⟩, (fun _ h => absurd h List.not_mem_nil)⟩)⟩)⟩)⟩)⟩)⟩) (fun _ h => absurd h List.not_mem_nil) [73] 20 _ _ _ _ ?_
        simp (maxSteps := 1000000) [↓Bool.cond_eq_ite, -Prod.forall, -Prod.exists, -Prod.mk.injEq, jvk, tX4_readPlan, jtb, jol, jst, jlk, jcmp, jbin, jfl, fX4, jc2, lX4, jcat, jel, lv_args, Value.category, jins, jsrt, jins2, jble, jblt, jf3, List.filter_cons, List.filter_nil, G_loader, G_lflat, G_lroster, oX4_fail, oX4_readName, oX7_findPerson, oX10_advance, oX4_readNumber, oX7_addPlan, joR, joRI, joRII, joRIII, -Int32.not_le, -Int32.not_lt, -Int64.not_le, -Int64.not_lt, i3lt, i6lt, hT2, hx2, h99]
        try simp (disch := omega) [-Prod.forall, -Prod.exists, -Prod.mk.injEq, -Int32.not_le, -Int32.not_lt, -Int64.not_le, -Int64.not_lt, i3lt, i6lt, hT2, hx2, h99]
        intro v3 τ3 f3 b3 q3
        have q3 := q3 s2 t2
        rw [e3b, eLb, e3, eL2] at q3
        have l3 : jfr aLn b0 σ τ3 := l2.tr f3
        rcases eI : pInt (σ.1 3) (kLn σ) 999 s2 with e | m
        · rw [eI] at q3 pun
          have hv3 := q3.1
          subst hv3
          have k1 := hp0 τ3 (l3.weak (fun a j q => lw_ln q) (fun _ q => q)) (fun μ h a1 a2 => by rw [pun μ h a1 a2]; exact q3)
          refine jvk_ok TX4_readPlan (V := [(113, 2, 4, oX4_fail), (131, 1, 4, oX4_readName), (142, 3, 7, oX7_findPerson), (117, 1, 10, oX10_advance), (149, 2, 4, oX4_readNumber), (170, 4, 7, oX7_addPlan)]) (S := []) (List.forall_mem_cons.mpr ⟨⟨mX4_fail, n + 0, 1, TX4, 10, rfl, by omega, kX4_113, WX4_fail, rfl, CX4_fail g (n)⟩, (List.forall_mem_cons.mpr ⟨⟨mX4_readName, n + 2, 0, TX4, 10, rfl, by omega, kX4_131, WX4_readName, rfl, CX4_readName g (n)⟩, (List.forall_mem_cons.mpr ⟨⟨mX7_findPerson, n + 0, 2, TX7, 6, rfl, by omega, kX4_142, WX7_findPerson, rfl, CX7_findPerson g (n)⟩, (List.forall_mem_cons.mpr ⟨⟨mX10_advance, n + 1, 0, TX10, 6, rfl, by omega, kX4_117, WX10_advance, rfl, CX10_advance g (n)⟩, (List.forall_mem_cons.mpr ⟨⟨mX4_readNumber, n + 2, 1, TX4, 10, rfl, by omega, kX4_149, WX4_readNumber, rfl, CX4_readNumber g (n)⟩, (List.forall_mem_cons.mpr ⟨⟨mX7_addPlan, n + 0, 3, TX7, 6, rfl, by omega, kX4_170, WX7_addPlan, rfl, CX7_addPlan g (n)⟩, (fun _ h => absurd h List.not_mem_nil)⟩)⟩)⟩)⟩)⟩)⟩) (fun _ h => absurd h List.not_mem_nil) [] 10 _ _ _ _ ?_
          simp (maxSteps := 1000000) [↓Bool.cond_eq_ite, -Prod.forall, -Prod.exists, -Prod.mk.injEq, jvk, tX4_readPlan, jtb, jol, jst, jlk, jcmp, jbin, jfl, fX4, jc2, lX4, jcat, jel, lv_args, Value.category, jins, jsrt, jins2, jble, jblt, jf3, List.filter_cons, List.filter_nil, G_loader, G_lflat, G_lroster, oX4_fail, oX4_readName, oX7_findPerson, oX10_advance, oX4_readNumber, oX7_addPlan, joR, joRI, joRII, joRIII, -Int32.not_le, -Int32.not_lt, -Int64.not_le, -Int64.not_lt, i3lt, i6lt]
          try simp (disch := omega) [-Prod.forall, -Prod.exists, -Prod.mk.injEq, -Int32.not_le, -Int32.not_lt, -Int64.not_le, -Int64.not_lt, i3lt, i6lt]
          exact k1
        · rw [eI] at q3 pun
          obtain ⟨hv3, q7, t3⟩ := q3
          subst hv3
          obtain ⟨s3, es3⟩ : ∃ s3, s3 = nx (σ.1 3) (kLn σ) s2 := ⟨_, rfl⟩
          rw [← es3] at t3 pun
          obtain ⟨e3c, eLc, kTc⟩ := ln_fr l3
          have hT3 := kTc hT
          have hx3 : ∃ s, toP τ3 s := ⟨_, t3⟩
          have h9 : ∃ hi, (99999 : Int32) = nI hi ∧ hi ≤ 99999 := ⟨99999, rfl, by decide⟩
          have c9 : (99999 : Int32).toNatClampNeg = 99999 := by decide
          refine jvk_ok TX4_readPlan (V := [(113, 2, 4, oX4_fail), (131, 1, 4, oX4_readName), (142, 3, 7, oX7_findPerson), (117, 1, 10, oX10_advance), (149, 2, 4, oX4_readNumber), (170, 4, 7, oX7_addPlan)]) (S := []) (List.forall_mem_cons.mpr ⟨⟨mX4_fail, n + 0, 1, TX4, 10, rfl, by omega, kX4_113, WX4_fail, rfl, CX4_fail g (n)⟩, (List.forall_mem_cons.mpr ⟨⟨mX4_readName, n + 2, 0, TX4, 10, rfl, by omega, kX4_131, WX4_readName, rfl, CX4_readName g (n)⟩, (List.forall_mem_cons.mpr ⟨⟨mX7_findPerson, n + 0, 2, TX7, 6, rfl, by omega, kX4_142, WX7_findPerson, rfl, CX7_findPerson g (n)⟩, (List.forall_mem_cons.mpr ⟨⟨mX10_advance, n + 1, 0, TX10, 6, rfl, by omega, kX4_117, WX10_advance, rfl, CX10_advance g (n)⟩, (List.forall_mem_cons.mpr ⟨⟨mX4_readNumber, n + 2, 1, TX4, 10, rfl, by omega, kX4_149, WX4_readNumber, rfl, CX4_readNumber g (n)⟩, (List.forall_mem_cons.mpr ⟨⟨mX7_addPlan, n + 0, 3, TX7, 6, rfl, by omega, kX4_170, WX7_addPlan, rfl, CX7_addPlan g (n)⟩, (fun _ h => absurd h List.not_mem_nil)⟩)⟩)⟩)⟩)⟩)⟩) (fun _ h => absurd h List.not_mem_nil) [89] 20 _ _ _ _ ?_
          simp (maxSteps := 1000000) [↓Bool.cond_eq_ite, -Prod.forall, -Prod.exists, -Prod.mk.injEq, jvk, tX4_readPlan, jtb, jol, jst, jlk, jcmp, jbin, jfl, fX4, jc2, lX4, jcat, jel, lv_args, Value.category, jins, jsrt, jins2, jble, jblt, jf3, List.filter_cons, List.filter_nil, G_loader, G_lflat, G_lroster, oX4_fail, oX4_readName, oX7_findPerson, oX10_advance, oX4_readNumber, oX7_addPlan, joR, joRI, joRII, joRIII, -Int32.not_le, -Int32.not_lt, -Int64.not_le, -Int64.not_lt, i3lt, i6lt, hT3, hx3, h9, q7]
          try simp (disch := omega) [-Prod.forall, -Prod.exists, -Prod.mk.injEq, -Int32.not_le, -Int32.not_lt, -Int64.not_le, -Int64.not_lt, i3lt, i6lt, hT3, hx3, h9, q7]
          intro v4 τ4 f4 b4 q4
          have q4 := q4 s3 t3
          rw [e3c, eLc] at q4
          have l4 : jfr aLn b0 σ τ4 := l3.tr f4
          have w4 : jfr aLq b0 σ τ4 := l4.weak (fun a j q => lw_ln q) (fun _ q => q)
          rcases eJ : pInt (σ.1 3) (kLn σ) 99999 s3 with e | y
          · rw [eJ] at q4 pun
            have hv4 := q4.1
            subst hv4
            have k1 := hp0 τ4 w4 (fun μ h a1 a2 => by rw [pun μ h a1 a2]; exact q4)
            refine jvk_ok TX4_readPlan (V := [(113, 2, 4, oX4_fail), (131, 1, 4, oX4_readName), (142, 3, 7, oX7_findPerson), (117, 1, 10, oX10_advance), (149, 2, 4, oX4_readNumber), (170, 4, 7, oX7_addPlan)]) (S := []) (List.forall_mem_cons.mpr ⟨⟨mX4_fail, n + 0, 1, TX4, 10, rfl, by omega, kX4_113, WX4_fail, rfl, CX4_fail g (n)⟩, (List.forall_mem_cons.mpr ⟨⟨mX4_readName, n + 2, 0, TX4, 10, rfl, by omega, kX4_131, WX4_readName, rfl, CX4_readName g (n)⟩, (List.forall_mem_cons.mpr ⟨⟨mX7_findPerson, n + 0, 2, TX7, 6, rfl, by omega, kX4_142, WX7_findPerson, rfl, CX7_findPerson g (n)⟩, (List.forall_mem_cons.mpr ⟨⟨mX10_advance, n + 1, 0, TX10, 6, rfl, by omega, kX4_117, WX10_advance, rfl, CX10_advance g (n)⟩, (List.forall_mem_cons.mpr ⟨⟨mX4_readNumber, n + 2, 1, TX4, 10, rfl, by omega, kX4_149, WX4_readNumber, rfl, CX4_readNumber g (n)⟩, (List.forall_mem_cons.mpr ⟨⟨mX7_addPlan, n + 0, 3, TX7, 6, rfl, by omega, kX4_170, WX7_addPlan, rfl, CX7_addPlan g (n)⟩, (fun _ h => absurd h List.not_mem_nil)⟩)⟩)⟩)⟩)⟩)⟩) (fun _ h => absurd h List.not_mem_nil) [] 10 _ _ _ _ ?_
            simp (maxSteps := 1000000) [↓Bool.cond_eq_ite, -Prod.forall, -Prod.exists, -Prod.mk.injEq, jvk, tX4_readPlan, jtb, jol, jst, jlk, jcmp, jbin, jfl, fX4, jc2, lX4, jcat, jel, lv_args, Value.category, jins, jsrt, jins2, jble, jblt, jf3, List.filter_cons, List.filter_nil, G_loader, G_lflat, G_lroster, oX4_fail, oX4_readName, oX7_findPerson, oX10_advance, oX4_readNumber, oX7_addPlan, joR, joRI, joRII, joRIII, -Int32.not_le, -Int32.not_lt, -Int64.not_le, -Int64.not_lt, i3lt, i6lt]
            try simp (disch := omega) [-Prod.forall, -Prod.exists, -Prod.mk.injEq, -Int32.not_le, -Int32.not_lt, -Int64.not_le, -Int64.not_lt, i3lt, i6lt]
            exact k1
          · rw [eJ] at q4 pun
            obtain ⟨hv4, q8, t4⟩ := q4
            subst hv4
            have z5b : τ4.1 24 5 = nI K := (l4.2.2 24 5 rfl).trans g5
            have hK : ∃ K, τ4.1 24 5 = nI K ∧ K < 20 := ⟨K, z5b, by omega⟩
            have ecK : (τ4.1 24 5).toNatClampNeg = K := by rw [z5b, nI_clamp (by omega)]
            have k1 := hp1 (rsN 24 τ4 F (nI m) (nI y) K) (w4.tr ((rsN_fr τ4 F (nI m) (nI y) K).weak (fun a j q => by
              unfold aLq at q
              rw [jble, jble, jble, jble, jble] at q
              rw [jble, jble]
              simp only [Bool.or_eq_false_iff, Bool.and_eq_false_iff, beq_eq_false_iff_ne, decide_eq_false_iff_not] at q ⊢
              omega) (fun _ q => q))) (((rsN_fr τ4 F (nI m) (nI y) K).2.2 1 9 rfl).trans ((b4 rfl).trans ((b3 rfl).trans ((f2.2.2 1 9 rfl).trans (b1 rfl))))) (fun μ h a1 a2 => by
              rw [pun μ h a1 a2]
              have hl := lR_plan (lR_ln h l4) (by omega) F (nI m) (nI y)
              rw [a1] at hl
              have rf := rsN_fr τ4 F (nI m) (nI y) K
              refine ⟨rfl, ?_, hl⟩
              have g3 : (rsN 24 τ4 F (nI m) (nI y) K).1 3 = τ4.1 3 := funext fun j => rf.2.2 3 j rfl
              have g2 : (rsN 24 τ4 F (nI m) (nI y) K).1 2 = τ4.1 2 := funext fun j => rf.2.2 2 j rfl
              have gL : kLn (rsN 24 τ4 F (nI m) (nI y) K) = kLn τ4 := by unfold kLn; rw [g2]
              unfold toP
              rw [g2, g3, gL]
              exact t4)
            refine jvk_ok TX4_readPlan (V := [(113, 2, 4, oX4_fail), (131, 1, 4, oX4_readName), (142, 3, 7, oX7_findPerson), (117, 1, 10, oX10_advance), (149, 2, 4, oX4_readNumber), (170, 4, 7, oX7_addPlan)]) (S := []) (List.forall_mem_cons.mpr ⟨⟨mX4_fail, n + 0, 1, TX4, 10, rfl, by omega, kX4_113, WX4_fail, rfl, CX4_fail g (n)⟩, (List.forall_mem_cons.mpr ⟨⟨mX4_readName, n + 2, 0, TX4, 10, rfl, by omega, kX4_131, WX4_readName, rfl, CX4_readName g (n)⟩, (List.forall_mem_cons.mpr ⟨⟨mX7_findPerson, n + 0, 2, TX7, 6, rfl, by omega, kX4_142, WX7_findPerson, rfl, CX7_findPerson g (n)⟩, (List.forall_mem_cons.mpr ⟨⟨mX10_advance, n + 1, 0, TX10, 6, rfl, by omega, kX4_117, WX10_advance, rfl, CX10_advance g (n)⟩, (List.forall_mem_cons.mpr ⟨⟨mX4_readNumber, n + 2, 1, TX4, 10, rfl, by omega, kX4_149, WX4_readNumber, rfl, CX4_readNumber g (n)⟩, (List.forall_mem_cons.mpr ⟨⟨mX7_addPlan, n + 0, 3, TX7, 6, rfl, by omega, kX4_170, WX7_addPlan, rfl, CX7_addPlan g (n)⟩, (fun _ h => absurd h List.not_mem_nil)⟩)⟩)⟩)⟩)⟩)⟩) (fun _ h => absurd h List.not_mem_nil) [] 40 _ _ _ _ ?_
            simp (maxSteps := 1000000) [↓Bool.cond_eq_ite, -Prod.forall, -Prod.exists, -Prod.mk.injEq, jvk, tX4_readPlan, jtb, jol, jst, jlk, jcmp, jbin, jfl, fX4, jc2, lX4, jcat, jel, lv_args, Value.category, jins, jsrt, jins2, jble, jblt, jf3, List.filter_cons, List.filter_nil, G_loader, G_lflat, G_lroster, oX4_fail, oX4_readName, oX7_findPerson, oX10_advance, oX4_readNumber, oX7_addPlan, joR, joRI, joRII, joRIII, -Int32.not_le, -Int32.not_lt, -Int64.not_le, -Int64.not_lt, i3lt, i6lt, q8, hK, ecK]
            try simp (disch := omega) [-Prod.forall, -Prod.exists, -Prod.mk.injEq, -Int32.not_le, -Int32.not_lt, -Int64.not_le, -Int64.not_lt, i3lt, i6lt, q8, hK, ecK]
            exact k1
    · rw [if_neg cN] at q1
      have hv1 := q1.1
      subst hv1
      have k1 := hp0 τ1 w1 (fun μ h e1 e2 => by
        unfold pPlan
        rw [← es1, if_neg (by omega), if_pos cN]
        exact q1)
      refine jvk_ok TX4_readPlan (V := [(113, 2, 4, oX4_fail), (131, 1, 4, oX4_readName), (142, 3, 7, oX7_findPerson), (117, 1, 10, oX10_advance), (149, 2, 4, oX4_readNumber), (170, 4, 7, oX7_addPlan)]) (S := []) (List.forall_mem_cons.mpr ⟨⟨mX4_fail, n + 0, 1, TX4, 10, rfl, by omega, kX4_113, WX4_fail, rfl, CX4_fail g (n)⟩, (List.forall_mem_cons.mpr ⟨⟨mX4_readName, n + 2, 0, TX4, 10, rfl, by omega, kX4_131, WX4_readName, rfl, CX4_readName g (n)⟩, (List.forall_mem_cons.mpr ⟨⟨mX7_findPerson, n + 0, 2, TX7, 6, rfl, by omega, kX4_142, WX7_findPerson, rfl, CX7_findPerson g (n)⟩, (List.forall_mem_cons.mpr ⟨⟨mX10_advance, n + 1, 0, TX10, 6, rfl, by omega, kX4_117, WX10_advance, rfl, CX10_advance g (n)⟩, (List.forall_mem_cons.mpr ⟨⟨mX4_readNumber, n + 2, 1, TX4, 10, rfl, by omega, kX4_149, WX4_readNumber, rfl, CX4_readNumber g (n)⟩, (List.forall_mem_cons.mpr ⟨⟨mX7_addPlan, n + 0, 3, TX7, 6, rfl, by omega, kX4_170, WX7_addPlan, rfl, CX7_addPlan g (n)⟩, (fun _ h => absurd h List.not_mem_nil)⟩)⟩)⟩)⟩)⟩)⟩) (fun _ h => absurd h List.not_mem_nil) [] 20 _ _ _ _ ?_
      simp (maxSteps := 1000000) [↓Bool.cond_eq_ite, -Prod.forall, -Prod.exists, -Prod.mk.injEq, jvk, tX4_readPlan, jtb, jol, jst, jlk, jcmp, jbin, jfl, fX4, jc2, lX4, jcat, jel, lv_args, Value.category, jins, jsrt, jins2, jble, jblt, jf3, List.filter_cons, List.filter_nil, G_loader, G_lflat, G_lroster, oX4_fail, oX4_readName, oX7_findPerson, oX10_advance, oX4_readNumber, oX7_addPlan, joR, joRI, joRII, joRIII, -Int32.not_le, -Int32.not_lt, -Int64.not_le, -Int64.not_lt, i3lt, i6lt]
      try simp (disch := omega) [-Prod.forall, -Prod.exists, -Prod.mk.injEq, -Int32.not_le, -Int32.not_lt, -Int64.not_le, -Int64.not_lt, i3lt, i6lt]
      exact k1
