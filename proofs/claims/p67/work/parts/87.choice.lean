/-! Choice: take, places, values -/
def aTa (b a j : Nat) : Bool := a == b && (j == 0 || j == 1) || a == b + 1 || (b + 3).ble a && a.ble (b + 8)
theorem aTa_f {b a j : Nat} (h0 : a ≠ b ∨ (j ≠ 0 ∧ j ≠ 1)) (h1 : a ≠ b + 1) (h2 : a < b + 3 ∨ b + 8 < a) : aTa b a j = false := by
  unfold aTa
  simp only [jble, Bool.or_eq_false_iff, Bool.and_eq_false_iff, beq_eq_false_iff_ne, decide_eq_false_iff_not]
  omega
theorem aTa_0 {b : Nat} : aTa b b 0 = true := by unfold aTa; simp
theorem aTa_1 {b : Nat} : aTa b b 1 = true := by unfold aTa; simp
theorem aTa_p {b j : Nat} : aTa b (b + 1) j = true := by unfold aTa; simp
theorem aTa_w {b i j : Nat} (h : i < 6) : aTa b (b + 3 + i) j = true := by
  unfold aTa
  simp only [jble, Bool.or_eq_true, Bool.and_eq_true, beq_iff_eq, decide_eq_true_eq]
  omega
def liv (σ : jM) : Nat → Bool := fun j => decide (σ.1 39 j = 1)
def fRm (σ : jM) : Nat := (σ.1 37 0).toNatClampNeg
theorem fOK_n {σ : jM} (h : fOK σ) : (fN σ ≤ 10 ∧ σ.1 37 1 = nI (fN σ)) ∧ fRm σ ≤ 6 ∧ σ.1 37 0 = nI (fRm σ) := by
  obtain ⟨a, a1, a2, a3⟩ := nI_rng h.1 h.2.1 (by decide)
  obtain ⟨c, c1, c2, c3⟩ := nI_rng h.2.2.1 h.2.2.2 (by decide)
  unfold fN fRm
  rw [a3, c3]
  exact ⟨⟨a1, a2⟩, c1, c2⟩
theorem fP_nI {σ : jM} (h : fOK σ) {k : Nat} (hk : k < fN σ) : fP σ (nI k) = true := by
  obtain ⟨⟨n10, eN⟩, -, -⟩ := fOK_n h
  unfold fP
  rw [eN, decide_eq_true_eq]
  refine ⟨nI_pos' (by omega), (nI_ltI (by omega) (by omega)).mpr hk, ?_⟩
  exact (nI_ltI (b := 10) (by omega) (by decide)).mpr (by omega)
theorem fR_nI {σ : jM} (h : fOK σ) {k : Nat} (hk : k < fRm σ) : fR σ (nI k) = true := by
  obtain ⟨-, r6, eR⟩ := fOK_n h
  unfold fR
  rw [eR, decide_eq_true_eq]
  refine ⟨nI_pos' (by omega), (nI_ltI (by omega) (by omega)).mpr hk, ?_⟩
  exact (nI_ltI (b := 6) (by omega) (by decide)).mpr (by omega)
/-- the people below k, and their values -/
def takP (σ ρ : jM) (b k : Nat) : Prop := ∀ p, p < k → liv σ p = true → ρ.1 (b + 1) (cn (liv σ) p) = nI p ∧ ∀ r, r < fRm σ → ρ.1 (b + 3 + cn (liv σ) p) r = σ.1 (42 + p) r
def oX1_take : jO := joRR fun b f σ => ((b = 260 ∨ b = 288) ∧ f = 37 ∧ fOK σ ∧ cn (liv σ) (fN σ) ≤ 6, fun v τ => v = none ∧ jfr (aTa b) b0 σ τ ∧ τ.1 b 0 = nI (cn (liv σ) (fN σ)) ∧ τ.1 b 1 = nI (fRm σ) ∧ takP σ τ b (fN σ))
set_option maxRecDepth 100000 in
set_option maxHeartbeats 4000000 in
theorem CX1_take (g : jG) (n : Nat) : jOk g (n + 2) mX1_take oX1_take := by
  refine joRR_ok ?_
  rintro b _ σ ⟨hb, rfl, hok, hc6⟩
  have hF := chF_of hb
  have hb2 : 260 ≤ b := by omega
  obtain ⟨⟨n10, eN⟩, r6, eR⟩ := fOK_n hok
  obtain ⟨f0, f1, f2, f3, f4, f5, f6, -, -, -, -, -, -, f13, f14, f15, f16, f17, f18, -, -, -, -, -, -⟩ := hF
  have hmin : (if nI (fRm σ) ≤ 6 then nI (fRm σ) else 6) = nI (fRm σ) := if_pos (nI_le (b := 6) r6 (by decide))
  have hb37 : ¬ 37 = b := by omega
  refine jCon.ofP (by decide +kernel) (by simp [lg_sl, Value.category]) (fun post hp => ?_)
  refine jvk_ok TX1_take (V := [(48, 2, 2, oX2_isLiving), (52, 3, 2, oX2_worth)]) (S := [(39, 2, 0, oJ9_min_7cf53)]) (List.forall_mem_cons.mpr ⟨⟨mX2_isLiving, n + 1, 1, TX2, 16, rfl, by omega, kX1_48, WX2_isLiving, rfl, CX2_isLiving g (n)⟩, (List.forall_mem_cons.mpr ⟨⟨mX2_worth, n + 1, 2, TX2, 16, rfl, by omega, kX1_52, WX2_worth, rfl, CX2_worth g (n)⟩, (fun _ h => absurd h List.not_mem_nil)⟩)⟩) (List.forall_mem_cons.mpr ⟨⟨mJ9_min_7cf53, n + 0, by omega, Or.inl kX1_39, WJ9_min_7cf53, CJ9_min_7cf53 g (n)⟩, (fun _ h => absurd h List.not_mem_nil)⟩) [20] 40 _ _ _ _ ?_
  simp (maxSteps := 1000000) [↓Bool.cond_eq_ite, -Prod.forall, -Prod.exists, -Prod.mk.injEq, jvk, tX1_take, jtb, jol, jst, jlk, jcmp, jbin, jfl, fX1, jc2, lX1, jcat, jel, lv_args, Value.category, jins, jsrt, jins2, jble, jblt, jf3, List.filter_cons, List.filter_nil, G_choice, G_tchoice, G_flat, oJ9_min_7cf53, oX2_isLiving, oX2_worth, joII, joRI, joRII, -Int32.not_le, -Int32.not_lt, -Int64.not_le, -Int64.not_lt, i3lt, i6lt, f0, f1, f2, eR, hmin, hb37, jup_1]
  try simp (disch := omega) [-Prod.forall, -Prod.exists, -Prod.mk.injEq, -Int32.not_le, -Int32.not_lt, -Int64.not_le, -Int64.not_lt, i3lt, i6lt, f0, f1, f2, eR, hmin, hb37, jup_1]
  have loop := jloop (P := fun k => ∀ ρ : jM, jfr (aTa b) b0 σ ρ → ρ.1 b 0 = nI (cn (liv σ) k) → ρ.1 b 1 = nI (fRm σ) → takP σ ρ b k → jW g mX1_take (n + 2) post 20 [(0, .ref b), (1, .ref 37), (2, .int (nI k))] [] ρ) (N := fN σ) (fun ρ f h0 h1 ht => by
    have hle : nI (fN σ) ≤ nI (fN σ) := nI_le (Nat.le_refl _) (by omega)
    have e1 : ρ.1 37 1 = nI (fN σ) := (f.2.2 37 1 (aTa_f (by omega) (by omega) (by omega))).trans eN
    refine jvk_ok TX1_take (V := [(48, 2, 2, oX2_isLiving), (52, 3, 2, oX2_worth)]) (S := [(39, 2, 0, oJ9_min_7cf53)]) (List.forall_mem_cons.mpr ⟨⟨mX2_isLiving, n + 1, 1, TX2, 16, rfl, by omega, kX1_48, WX2_isLiving, rfl, CX2_isLiving g (n)⟩, (List.forall_mem_cons.mpr ⟨⟨mX2_worth, n + 1, 2, TX2, 16, rfl, by omega, kX1_52, WX2_worth, rfl, CX2_worth g (n)⟩, (fun _ h => absurd h List.not_mem_nil)⟩)⟩) (List.forall_mem_cons.mpr ⟨⟨mJ9_min_7cf53, n + 0, by omega, Or.inl kX1_39, WJ9_min_7cf53, CJ9_min_7cf53 g (n)⟩, (fun _ h => absurd h List.not_mem_nil)⟩) [20] 20 _ _ _ _ ?_
    simp (maxSteps := 1000000) [↓Bool.cond_eq_ite, -Prod.forall, -Prod.exists, -Prod.mk.injEq, jvk, tX1_take, jtb, jol, jst, jlk, jcmp, jbin, jfl, fX1, jc2, lX1, jcat, jel, lv_args, Value.category, jins, jsrt, jins2, jble, jblt, jf3, List.filter_cons, List.filter_nil, G_choice, G_tchoice, G_flat, oJ9_min_7cf53, oX2_isLiving, oX2_worth, joII, joRI, joRII, -Int32.not_le, -Int32.not_lt, -Int64.not_le, -Int64.not_lt, i3lt, i6lt, e1, hle]
    try simp (disch := omega) [-Prod.forall, -Prod.exists, -Prod.mk.injEq, -Int32.not_le, -Int32.not_lt, -Int64.not_le, -Int64.not_lt, i3lt, i6lt, e1, hle]
    exact hp _ _ ⟨rfl, f, h0, h1, ht⟩) (fun k hk ih ρ f h0 h1 ht => by
    have hlt : ¬ nI (fN σ) ≤ nI k := nI_ge hk (by omega)
    have e37 : ρ.1 37 = σ.1 37 := funext fun j => f.2.2 37 j (aTa_f (by omega) (by omega) (by omega))
    have e39 : ρ.1 39 = σ.1 39 := funext fun j => f.2.2 39 j (aTa_f (by omega) (by omega) (by omega))
    have e1 : ρ.1 37 1 = nI (fN σ) := by rw [e37]; exact eN
    have eck : (nI k).toNatClampNeg = k := nI_clamp (by omega)
    have fP' : ∀ μ : jM, μ.1 37 = σ.1 37 → fP μ (nI k) = true := fun μ e => by
      have := fP_nI hok hk
      unfold fP at this ⊢
      rw [e]; exact this
    have hfP := fP' ρ e37
    by_cases hl : liv σ k = true
    · have hl1 : ρ.1 39 k = 1 := by rw [e39]; simpa [liv] using hl
      have hcl := cn_lt hl hk
      obtain ⟨c, ec⟩ : ∃ c, c = cn (liv σ) k := ⟨_, rfl⟩
      rw [← ec] at hcl h0
      have c6 : ¬ (6 : Int32) ≤ nI c := nI_ge (b := 6) (by omega) (by decide)
      have jc : jin (nI c) 6 := jin_nI (by omega) (by decide)
      have ecc : (nI c).toNatClampNeg = c := nI_clamp (by omega)
      have ecs : cn (liv σ) (k + 1) = c + 1 := by simp only [cn]; rw [if_pos hl, ← ec]
      rw [ecs] at ih
      obtain ⟨g1, g2⟩ := f18 c (by omega)
      have loop2 := jloop (P := fun r => ∀ μ : jM, jfr (aTa b) b0 σ μ → μ.1 b 0 = nI c → μ.1 b 1 = nI (fRm σ) → takP σ μ b k → μ.1 (b + 1) c = nI k → (∀ q, q < r → μ.1 (b + 3 + c) q = σ.1 (42 + k) q) → jW g mX1_take (n + 2) post 57 [(0, .ref b), (1, .ref 37), (2, .int (nI k)), (3, .int (nI r))] [] μ) (N := fRm σ) (fun μ fμ m0 m1 mt mp mq => by
        have hle : nI (fRm σ) ≤ nI (fRm σ) := nI_le (Nat.le_refl _) (by omega)
        have k1 := ih (jup μ b 0 (nI (c + 1))) (fμ.up _ aTa_0) (by rw [jup_1, if_pos ⟨rfl, rfl⟩]) (by rw [jup_1, if_neg (by omega)]; exact m1) (fun p hp2 hlp => by
          by_cases e : p = k
          · subst e
            rw [← ec, jup_1, if_neg (by omega)]
            refine ⟨mp, fun r hr => ?_⟩
            rw [jup_1, if_neg (by omega)]
            exact mq r hr
          · obtain ⟨t1, t2⟩ := mt p (by omega) hlp
            rw [jup_1, if_neg (by omega)]
            refine ⟨t1, fun r hr => ?_⟩
            rw [jup_1, if_neg (by omega)]
            exact t2 r hr)
        refine jvk_ok TX1_take (V := [(48, 2, 2, oX2_isLiving), (52, 3, 2, oX2_worth)]) (S := [(39, 2, 0, oJ9_min_7cf53)]) (List.forall_mem_cons.mpr ⟨⟨mX2_isLiving, n + 1, 1, TX2, 16, rfl, by omega, kX1_48, WX2_isLiving, rfl, CX2_isLiving g (n)⟩, (List.forall_mem_cons.mpr ⟨⟨mX2_worth, n + 1, 2, TX2, 16, rfl, by omega, kX1_52, WX2_worth, rfl, CX2_worth g (n)⟩, (fun _ h => absurd h List.not_mem_nil)⟩)⟩) (List.forall_mem_cons.mpr ⟨⟨mJ9_min_7cf53, n + 0, by omega, Or.inl kX1_39, WJ9_min_7cf53, CJ9_min_7cf53 g (n)⟩, (fun _ h => absurd h List.not_mem_nil)⟩) [57, 20] 40 _ _ _ _ ?_
        simp (maxSteps := 1000000) [↓Bool.cond_eq_ite, -Prod.forall, -Prod.exists, -Prod.mk.injEq, jvk, tX1_take, jtb, jol, jst, jlk, jcmp, jbin, jfl, fX1, jc2, lX1, jcat, jel, lv_args, Value.category, jins, jsrt, jins2, jble, jblt, jf3, List.filter_cons, List.filter_nil, G_choice, G_tchoice, G_flat, oJ9_min_7cf53, oX2_isLiving, oX2_worth, joII, joRI, joRII, -Int32.not_le, -Int32.not_lt, -Int64.not_le, -Int64.not_lt, i3lt, i6lt, f0, f1, f2, m0, m1, hle, nI_1]
        try simp (disch := omega) [-Prod.forall, -Prod.exists, -Prod.mk.injEq, -Int32.not_le, -Int32.not_lt, -Int64.not_le, -Int64.not_lt, i3lt, i6lt, f0, f1, f2, m0, m1, hle, nI_1]
        exact jW.mono k1 (by simp)) (fun r hr ih2 μ fμ m0 m1 mt mp mq => by
        have hltr : ¬ nI (fRm σ) ≤ nI r := nI_ge hr (by omega)
        have jr : jin (nI r) 6 := jin_nI (by omega) (by decide)
        have ecr : (nI r).toNatClampNeg = r := nI_clamp (by omega)
        have m37 : μ.1 37 = σ.1 37 := funext fun j => fμ.2.2 37 j (aTa_f (by omega) (by omega) (by omega))
        have mfR : fR μ (nI r) = true := by
          have := fR_nI hok hr
          unfold fR at this ⊢
          rw [m37]; exact this
        have hfW : fW μ (nI k) (nI r) = σ.1 (42 + k) r := by
          unfold fW
          rw [if_pos ⟨fP' μ m37, mfR⟩, eck, ecr]
          exact fμ.2.2 _ _ (aTa_f (by omega) (by omega) (by omega))
        have k1 := ih2 (jup μ (b + 3 + c) r (σ.1 (42 + k) r)) (fμ.up _ (aTa_w (by omega))) (by rw [jup_1, if_neg (by omega)]; exact m0) (by rw [jup_1, if_neg (by omega)]; exact m1) (fun p hp2 hlp => by
          obtain ⟨t1, t2⟩ := mt p hp2 hlp
          rw [jup_1, if_neg (by omega)]
          refine ⟨t1, fun q hq => ?_⟩
          have hne : cn (liv σ) p < cn (liv σ) k := cn_lt hlp hp2
          rw [jup_1, if_neg (by omega)]
          exact t2 q hq) (by rw [jup_1, if_neg (by omega)]; exact mp) (fun q hq => by
          rw [jup_1]
          by_cases e : q = r
          · rw [if_pos ⟨rfl, e⟩, e]
          · rw [if_neg (fun z => e z.2)]
            exact mq q (by omega))
        refine jvk_ok TX1_take (V := [(48, 2, 2, oX2_isLiving), (52, 3, 2, oX2_worth)]) (S := [(39, 2, 0, oJ9_min_7cf53)]) (List.forall_mem_cons.mpr ⟨⟨mX2_isLiving, n + 1, 1, TX2, 16, rfl, by omega, kX1_48, WX2_isLiving, rfl, CX2_isLiving g (n)⟩, (List.forall_mem_cons.mpr ⟨⟨mX2_worth, n + 1, 2, TX2, 16, rfl, by omega, kX1_52, WX2_worth, rfl, CX2_worth g (n)⟩, (fun _ h => absurd h List.not_mem_nil)⟩)⟩) (List.forall_mem_cons.mpr ⟨⟨mJ9_min_7cf53, n + 0, by omega, Or.inl kX1_39, WJ9_min_7cf53, CJ9_min_7cf53 g (n)⟩, (fun _ h => absurd h List.not_mem_nil)⟩) [57, 20] 40 _ _ _ _ ?_
        simp (maxSteps := 1000000) [↓Bool.cond_eq_ite, -Prod.forall, -Prod.exists, -Prod.mk.injEq, jvk, tX1_take, jtb, jol, jst, jlk, jcmp, jbin, jfl, fX1, jc2, lX1, jcat, jel, lv_args, Value.category, jins, jsrt, jins2, jble, jblt, jf3, List.filter_cons, List.filter_nil, G_choice, G_tchoice, G_flat, oJ9_min_7cf53, oX2_isLiving, oX2_worth, joII, joRI, joRII, -Int32.not_le, -Int32.not_lt, -Int64.not_le, -Int64.not_lt, i3lt, i6lt, f0, f1, f2, f5, f6, f15, f16, f17, g1, g2, m0, m1, hltr, hfW, jc, ecc, jr, ecr, nI_1]
        try simp (disch := omega) [-Prod.forall, -Prod.exists, -Prod.mk.injEq, -Int32.not_le, -Int32.not_lt, -Int64.not_le, -Int64.not_lt, i3lt, i6lt, f0, f1, f2, f5, f6, f15, f16, f17, g1, g2, m0, m1, hltr, hfW, jc, ecc, jr, ecr, nI_1]
        exact k1)
      have k0 := loop2 (jup ρ (b + 1) c (nI k)) (f.up _ aTa_p) (by rw [jup_1, if_neg (by omega)]; exact h0) (by rw [jup_1, if_neg (by omega)]; exact h1) (fun p hp2 hlp => by
        obtain ⟨t1, t2⟩ := ht p hp2 hlp
        have hne : cn (liv σ) p < cn (liv σ) k := cn_lt hlp hp2
        rw [jup_1, if_neg (by omega)]
        refine ⟨t1, fun q hq => ?_⟩
        rw [jup_1, if_neg (by omega)]
        exact t2 q hq) (by rw [jup_1, if_pos ⟨rfl, rfl⟩]) (fun q hq => by omega)
      rw [nI_0] at k0
      have hif : (if fP ρ (nI k) = true ∧ ρ.1 39 k = 1 then (1 : Int32) else 0) = 1 := if_pos ⟨hfP, hl1⟩
      refine jvk_ok TX1_take (V := [(48, 2, 2, oX2_isLiving), (52, 3, 2, oX2_worth)]) (S := [(39, 2, 0, oJ9_min_7cf53)]) (List.forall_mem_cons.mpr ⟨⟨mX2_isLiving, n + 1, 1, TX2, 16, rfl, by omega, kX1_48, WX2_isLiving, rfl, CX2_isLiving g (n)⟩, (List.forall_mem_cons.mpr ⟨⟨mX2_worth, n + 1, 2, TX2, 16, rfl, by omega, kX1_52, WX2_worth, rfl, CX2_worth g (n)⟩, (fun _ h => absurd h List.not_mem_nil)⟩)⟩) (List.forall_mem_cons.mpr ⟨⟨mJ9_min_7cf53, n + 0, by omega, Or.inl kX1_39, WJ9_min_7cf53, CJ9_min_7cf53 g (n)⟩, (fun _ h => absurd h List.not_mem_nil)⟩) [57, 20] 40 _ _ _ _ ?_
      simp (maxSteps := 1000000) [↓Bool.cond_eq_ite, -Prod.forall, -Prod.exists, -Prod.mk.injEq, jvk, tX1_take, jtb, jol, jst, jlk, jcmp, jbin, jfl, fX1, jc2, lX1, jcat, jel, lv_args, Value.category, jins, jsrt, jins2, jble, jblt, jf3, List.filter_cons, List.filter_nil, G_choice, G_tchoice, G_flat, oJ9_min_7cf53, oX2_isLiving, oX2_worth, joII, joRI, joRII, -Int32.not_le, -Int32.not_lt, -Int64.not_le, -Int64.not_lt, i3lt, i6lt, f0, f1, f3, f4, f13, f14, e1, hlt, eck, hif, h0, c6, jc, ecc]
      try simp (disch := omega) [-Prod.forall, -Prod.exists, -Prod.mk.injEq, -Int32.not_le, -Int32.not_lt, -Int64.not_le, -Int64.not_lt, i3lt, i6lt, f0, f1, f3, f4, f13, f14, e1, hlt, eck, hif, h0, c6, jc, ecc]
      exact k0
    · have hl1 : ¬ ρ.1 39 k = 1 := by rw [e39]; simpa [liv] using hl
      have ecs : cn (liv σ) (k + 1) = cn (liv σ) k := by simp only [cn]; rw [if_neg hl]; rfl
      rw [ecs] at ih
      have k1 := ih ρ f h0 h1 (fun p hp2 hlp => by
        by_cases e : p = k
        · subst e; exact absurd hlp hl
        · exact ht p (by omega) hlp)
      have hif : (if fP ρ (nI k) = true ∧ ρ.1 39 k = 1 then (1 : Int32) else 0) = 0 := if_neg (fun z => hl1 z.2)
      refine jvk_ok TX1_take (V := [(48, 2, 2, oX2_isLiving), (52, 3, 2, oX2_worth)]) (S := [(39, 2, 0, oJ9_min_7cf53)]) (List.forall_mem_cons.mpr ⟨⟨mX2_isLiving, n + 1, 1, TX2, 16, rfl, by omega, kX1_48, WX2_isLiving, rfl, CX2_isLiving g (n)⟩, (List.forall_mem_cons.mpr ⟨⟨mX2_worth, n + 1, 2, TX2, 16, rfl, by omega, kX1_52, WX2_worth, rfl, CX2_worth g (n)⟩, (fun _ h => absurd h List.not_mem_nil)⟩)⟩) (List.forall_mem_cons.mpr ⟨⟨mJ9_min_7cf53, n + 0, by omega, Or.inl kX1_39, WJ9_min_7cf53, CJ9_min_7cf53 g (n)⟩, (fun _ h => absurd h List.not_mem_nil)⟩) [57, 20] 40 _ _ _ _ ?_
      simp (maxSteps := 1000000) [↓Bool.cond_eq_ite, -Prod.forall, -Prod.exists, -Prod.mk.injEq, jvk, tX1_take, jtb, jol, jst, jlk, jcmp, jbin, jfl, fX1, jc2, lX1, jcat, jel, lv_args, Value.category, jins, jsrt, jins2, jble, jblt, jf3, List.filter_cons, List.filter_nil, G_choice, G_tchoice, G_flat, oJ9_min_7cf53, oX2_isLiving, oX2_worth, joII, joRI, joRII, -Int32.not_le, -Int32.not_lt, -Int64.not_le, -Int64.not_lt, i3lt, i6lt, e1, hlt, eck, hif, nI_1]
      try simp (disch := omega) [-Prod.forall, -Prod.exists, -Prod.mk.injEq, -Int32.not_le, -Int32.not_lt, -Int64.not_le, -Int64.not_lt, i3lt, i6lt, e1, hlt, eck, hif, nI_1]
      exact k1)
  have k0 := loop (jup (jup σ b 0 0) b 1 (nI (fRm σ))) ((jfr.rfl.up _ aTa_0).up _ aTa_1) (by rw [jup_1, if_neg (by omega), jup_1, if_pos ⟨rfl, rfl⟩]; rfl) (by rw [jup_1, if_pos ⟨rfl, rfl⟩]) (fun p hp2 _ => by omega)
  rw [nI_0] at k0
  exact k0
def oX1_placeOf : jO := joRI fun b x σ => (chF b ∧ cOK σ b, fun v τ => v = some (.int (ff (fun k => decide (σ.1 (b + 1) k = x)) (cM σ b) 0)) ∧ τ = σ)
set_option maxRecDepth 100000 in
set_option maxHeartbeats 4000000 in
theorem CX1_placeOf (g : jG) (n : Nat) : jOk g (n + 0) mX1_placeOf oX1_placeOf := by
  refine joRI_ok ?_
  rintro b x σ ⟨hF, hok⟩
  obtain ⟨m6, em, -, -⟩ := cOK_n hok
  obtain ⟨f0, f1, -, f3, f4, -, -, -, -, -, -, -, -, f13, f14, -, -, -, -, -, -, -, -, -, -⟩ := hF
  refine jCon.ofP (by decide +kernel) (by simp [lg_sl, Value.category]) (fun post hp => ?_)
  refine jvk_ok TX1_placeOf (V := []) (S := []) (fun _ h => absurd h List.not_mem_nil) (fun _ h => absurd h List.not_mem_nil) [2] 30 _ _ _ _ ?_
  simp (maxSteps := 1000000) [↓Bool.cond_eq_ite, -Prod.forall, -Prod.exists, -Prod.mk.injEq, jvk, tX1_placeOf, jtb, jol, jst, jlk, jcmp, jbin, jfl, fX1, jc2, lX1, jcat, jel, lv_args, Value.category, jins, jsrt, jins2, jble, jblt, jf3, List.filter_cons, List.filter_nil, G_choice, G_tchoice, G_flat, -Int32.not_le, -Int32.not_lt, -Int64.not_le, -Int64.not_lt, i3lt, i6lt]
  try simp (disch := omega) [-Prod.forall, -Prod.exists, -Prod.mk.injEq, -Int32.not_le, -Int32.not_lt, -Int64.not_le, -Int64.not_lt, i3lt, i6lt]
  have key := jloop (P := fun k => ff (fun k => decide (σ.1 (b + 1) k = x)) (cM σ b - k) k = ff (fun k => decide (σ.1 (b + 1) k = x)) (cM σ b) 0 → jW g mX1_placeOf n post 2 [(0, .ref b), (1, .int x), (2, .int (nI k))] [] σ) (N := cM σ b) (fun e => by
    rw [Nat.sub_self] at e
    have hle : nI (cM σ b) ≤ nI (cM σ b) := nI_le (Nat.le_refl _) (by omega)
    refine jvk_ok TX1_placeOf (V := []) (S := []) (fun _ h => absurd h List.not_mem_nil) (fun _ h => absurd h List.not_mem_nil) [2] 30 _ _ _ _ ?_
    simp (maxSteps := 1000000) [↓Bool.cond_eq_ite, -Prod.forall, -Prod.exists, -Prod.mk.injEq, jvk, tX1_placeOf, jtb, jol, jst, jlk, jcmp, jbin, jfl, fX1, jc2, lX1, jcat, jel, lv_args, Value.category, jins, jsrt, jins2, jble, jblt, jf3, List.filter_cons, List.filter_nil, G_choice, G_tchoice, G_flat, -Int32.not_le, -Int32.not_lt, -Int64.not_le, -Int64.not_lt, i3lt, i6lt, f0, f1, em, hle]
    try simp (disch := omega) [-Prod.forall, -Prod.exists, -Prod.mk.injEq, -Int32.not_le, -Int32.not_lt, -Int64.not_le, -Int64.not_lt, i3lt, i6lt, f0, f1, em, hle]
    exact hp _ _ ⟨by rw [← e]; rfl, rfl⟩) (fun k hk ih e => by
    have hlt : ¬ nI (cM σ b) ≤ nI k := nI_ge hk (by omega)
    have eck : (nI k).toNatClampNeg = k := nI_clamp (by omega)
    have jk : jin (nI k) 6 := jin_nI (by omega) (by decide)
    rw [show cM σ b - k = (cM σ b - (k + 1)) + 1 by omega] at e
    simp only [ff] at e
    by_cases c : σ.1 (b + 1) k = x
    · rw [if_pos (by simp [c])] at e
      refine jvk_ok TX1_placeOf (V := []) (S := []) (fun _ h => absurd h List.not_mem_nil) (fun _ h => absurd h List.not_mem_nil) [2] 30 _ _ _ _ ?_
      simp (maxSteps := 1000000) [↓Bool.cond_eq_ite, -Prod.forall, -Prod.exists, -Prod.mk.injEq, jvk, tX1_placeOf, jtb, jol, jst, jlk, jcmp, jbin, jfl, fX1, jc2, lX1, jcat, jel, lv_args, Value.category, jins, jsrt, jins2, jble, jblt, jf3, List.filter_cons, List.filter_nil, G_choice, G_tchoice, G_flat, -Int32.not_le, -Int32.not_lt, -Int64.not_le, -Int64.not_lt, i3lt, i6lt, f0, f1, f3, f4, f13, f14, em, hlt, jk, eck, c]
      try simp (disch := omega) [-Prod.forall, -Prod.exists, -Prod.mk.injEq, -Int32.not_le, -Int32.not_lt, -Int64.not_le, -Int64.not_lt, i3lt, i6lt, f0, f1, f3, f4, f13, f14, em, hlt, jk, eck, c]
      exact hp _ _ ⟨by rw [← e], rfl⟩
    · rw [if_neg (by simp [c])] at e
      have k1 := ih e
      refine jvk_ok TX1_placeOf (V := []) (S := []) (fun _ h => absurd h List.not_mem_nil) (fun _ h => absurd h List.not_mem_nil) [2] 30 _ _ _ _ ?_
      simp (maxSteps := 1000000) [↓Bool.cond_eq_ite, -Prod.forall, -Prod.exists, -Prod.mk.injEq, jvk, tX1_placeOf, jtb, jol, jst, jlk, jcmp, jbin, jfl, fX1, jc2, lX1, jcat, jel, lv_args, Value.category, jins, jsrt, jins2, jble, jblt, jf3, List.filter_cons, List.filter_nil, G_choice, G_tchoice, G_flat, -Int32.not_le, -Int32.not_lt, -Int64.not_le, -Int64.not_lt, i3lt, i6lt, f0, f1, f3, f4, f13, f14, em, hlt, jk, eck, c, nI_1]
      try simp (disch := omega) [-Prod.forall, -Prod.exists, -Prod.mk.injEq, -Int32.not_le, -Int32.not_lt, -Int64.not_le, -Int64.not_lt, i3lt, i6lt, f0, f1, f3, f4, f13, f14, em, hlt, jk, eck, c, nI_1]
      exact k1)
  rw [nI_0] at key
  exact key rfl
def oX1_placeIn : jO := joRI fun b x σ => (chF b ∧ cOK σ b, fun v τ => v = some (.int (ff (fun k => decide (σ.1 (b + 9) k = x)) (cM σ b) 0)) ∧ τ = σ)
set_option maxRecDepth 100000 in
set_option maxHeartbeats 4000000 in
theorem CX1_placeIn (g : jG) (n : Nat) : jOk g (n + 0) mX1_placeIn oX1_placeIn := by
  refine joRI_ok ?_
  rintro b x σ ⟨hF, hok⟩
  obtain ⟨m6, em, -, -⟩ := cOK_n hok
  obtain ⟨f0, f1, -, -, -, -, -, f7, f8, -, -, -, -, -, -, -, -, -, -, f19, f20, -, -, -, -⟩ := hF
  refine jCon.ofP (by decide +kernel) (by simp [lg_sl, Value.category]) (fun post hp => ?_)
  refine jvk_ok TX1_placeIn (V := []) (S := []) (fun _ h => absurd h List.not_mem_nil) (fun _ h => absurd h List.not_mem_nil) [2] 30 _ _ _ _ ?_
  simp (maxSteps := 1000000) [↓Bool.cond_eq_ite, -Prod.forall, -Prod.exists, -Prod.mk.injEq, jvk, tX1_placeIn, jtb, jol, jst, jlk, jcmp, jbin, jfl, fX1, jc2, lX1, jcat, jel, lv_args, Value.category, jins, jsrt, jins2, jble, jblt, jf3, List.filter_cons, List.filter_nil, G_choice, G_tchoice, G_flat, -Int32.not_le, -Int32.not_lt, -Int64.not_le, -Int64.not_lt, i3lt, i6lt]
  try simp (disch := omega) [-Prod.forall, -Prod.exists, -Prod.mk.injEq, -Int32.not_le, -Int32.not_lt, -Int64.not_le, -Int64.not_lt, i3lt, i6lt]
  have key := jloop (P := fun k => ff (fun k => decide (σ.1 (b + 9) k = x)) (cM σ b - k) k = ff (fun k => decide (σ.1 (b + 9) k = x)) (cM σ b) 0 → jW g mX1_placeIn n post 2 [(0, .ref b), (1, .int x), (2, .int (nI k))] [] σ) (N := cM σ b) (fun e => by
    rw [Nat.sub_self] at e
    have hle : nI (cM σ b) ≤ nI (cM σ b) := nI_le (Nat.le_refl _) (by omega)
    refine jvk_ok TX1_placeIn (V := []) (S := []) (fun _ h => absurd h List.not_mem_nil) (fun _ h => absurd h List.not_mem_nil) [2] 30 _ _ _ _ ?_
    simp (maxSteps := 1000000) [↓Bool.cond_eq_ite, -Prod.forall, -Prod.exists, -Prod.mk.injEq, jvk, tX1_placeIn, jtb, jol, jst, jlk, jcmp, jbin, jfl, fX1, jc2, lX1, jcat, jel, lv_args, Value.category, jins, jsrt, jins2, jble, jblt, jf3, List.filter_cons, List.filter_nil, G_choice, G_tchoice, G_flat, -Int32.not_le, -Int32.not_lt, -Int64.not_le, -Int64.not_lt, i3lt, i6lt, f0, f1, em, hle]
    try simp (disch := omega) [-Prod.forall, -Prod.exists, -Prod.mk.injEq, -Int32.not_le, -Int32.not_lt, -Int64.not_le, -Int64.not_lt, i3lt, i6lt, f0, f1, em, hle]
    exact hp _ _ ⟨by rw [← e]; rfl, rfl⟩) (fun k hk ih e => by
    have hlt : ¬ nI (cM σ b) ≤ nI k := nI_ge hk (by omega)
    have eck : (nI k).toNatClampNeg = k := nI_clamp (by omega)
    have jk : jin (nI k) 6 := jin_nI (by omega) (by decide)
    rw [show cM σ b - k = (cM σ b - (k + 1)) + 1 by omega] at e
    simp only [ff] at e
    by_cases c : σ.1 (b + 9) k = x
    · rw [if_pos (by simp [c])] at e
      refine jvk_ok TX1_placeIn (V := []) (S := []) (fun _ h => absurd h List.not_mem_nil) (fun _ h => absurd h List.not_mem_nil) [2] 30 _ _ _ _ ?_
      simp (maxSteps := 1000000) [↓Bool.cond_eq_ite, -Prod.forall, -Prod.exists, -Prod.mk.injEq, jvk, tX1_placeIn, jtb, jol, jst, jlk, jcmp, jbin, jfl, fX1, jc2, lX1, jcat, jel, lv_args, Value.category, jins, jsrt, jins2, jble, jblt, jf3, List.filter_cons, List.filter_nil, G_choice, G_tchoice, G_flat, -Int32.not_le, -Int32.not_lt, -Int64.not_le, -Int64.not_lt, i3lt, i6lt, f0, f1, f7, f8, f19, f20, em, hlt, jk, eck, c]
      try simp (disch := omega) [-Prod.forall, -Prod.exists, -Prod.mk.injEq, -Int32.not_le, -Int32.not_lt, -Int64.not_le, -Int64.not_lt, i3lt, i6lt, f0, f1, f7, f8, f19, f20, em, hlt, jk, eck, c]
      exact hp _ _ ⟨by rw [← e], rfl⟩
    · rw [if_neg (by simp [c])] at e
      have k1 := ih e
      refine jvk_ok TX1_placeIn (V := []) (S := []) (fun _ h => absurd h List.not_mem_nil) (fun _ h => absurd h List.not_mem_nil) [2] 30 _ _ _ _ ?_
      simp (maxSteps := 1000000) [↓Bool.cond_eq_ite, -Prod.forall, -Prod.exists, -Prod.mk.injEq, jvk, tX1_placeIn, jtb, jol, jst, jlk, jcmp, jbin, jfl, fX1, jc2, lX1, jcat, jel, lv_args, Value.category, jins, jsrt, jins2, jble, jblt, jf3, List.filter_cons, List.filter_nil, G_choice, G_tchoice, G_flat, -Int32.not_le, -Int32.not_lt, -Int64.not_le, -Int64.not_lt, i3lt, i6lt, f0, f1, f7, f8, f19, f20, em, hlt, jk, eck, c, nI_1]
      try simp (disch := omega) [-Prod.forall, -Prod.exists, -Prod.mk.injEq, -Int32.not_le, -Int32.not_lt, -Int64.not_le, -Int64.not_lt, i3lt, i6lt, f0, f1, f7, f8, f19, f20, em, hlt, jk, eck, c, nI_1]
      exact k1)
  rw [nI_0] at key
  exact key rfl
/-- what the room of another place is worth for a place -/
def woR (σ : jM) (b i j : Nat) : Int32 := if 0 ≤ σ.1 (b + 9) j ∧ σ.1 (b + 9) j < σ.1 b 1 then σ.1 (b + 3 + i) (σ.1 (b + 9) j).toNatClampNeg else -1
def oX1_worthOfRoom : jO := joRII fun b x y σ => (chF b ∧ cOK σ b ∧ jin x 6 ∧ jin y 6, fun v τ => v = some (.int (woR σ b x.toNatClampNeg y.toNatClampNeg)) ∧ τ = σ)
set_option maxRecDepth 100000 in
set_option maxHeartbeats 4000000 in
theorem CX1_worthOfRoom (g : jG) (n : Nat) : jOk g (n + 0) mX1_worthOfRoom oX1_worthOfRoom := by
  refine joRII_ok ?_
  rintro b x y σ ⟨hF, hok, hx, hy⟩
  obtain ⟨-, -, r6, eR⟩ := cOK_n hok
  obtain ⟨f0, -, f2, -, -, f5, f6, f7, f8, -, -, -, -, -, -, f15, f16, f17, f18, f19, f20, -, -, -, -⟩ := hF
  obtain ⟨g1, g2⟩ := f18 x.toNatClampNeg (jin_lt hx)
  obtain ⟨z, ez⟩ : ∃ z, z = σ.1 (b + 9) y.toNatClampNeg := ⟨_, rfl⟩
  by_cases c1 : 0 ≤ z
  · have c1' : ¬ z < 0 := by grind
    by_cases c2 : z < σ.1 b 1
    · have c2' : ¬ σ.1 b 1 ≤ z := by grind
      have c2n : ¬ nI (cR σ b) ≤ z := by rw [← eR]; exact c2'
      have jz : jin z 6 := by
        rw [eR] at c2
        obtain ⟨q, q1, q2, -⟩ := nI_rng (x := z) c1 (show z ≤ 6 from Int32.le_trans (Int32.le_of_lt c2) (nI_le (b := 6) r6 (by decide))) (by decide)
        rw [q2] at c2 ⊢
        have := (nI_ltI (by omega) (by omega)).mp c2
        exact jin_nI (by omega) (by decide)
      refine jCon.ofP (by decide +kernel) (by simp [lg_sl, Value.category]) (fun post hp => ?_)
      refine jvk_ok TX1_worthOfRoom (V := []) (S := []) (fun _ h => absurd h List.not_mem_nil) (fun _ h => absurd h List.not_mem_nil) [] 40 _ _ _ _ ?_
      simp (maxSteps := 1000000) [↓Bool.cond_eq_ite, -Prod.forall, -Prod.exists, -Prod.mk.injEq, jvk, tX1_worthOfRoom, jtb, jol, jst, jlk, jcmp, jbin, jfl, fX1, jc2, lX1, jcat, jel, lv_args, Value.category, jins, jsrt, jins2, jble, jblt, jf3, List.filter_cons, List.filter_nil, G_choice, G_tchoice, G_flat, -Int32.not_le, -Int32.not_lt, -Int64.not_le, -Int64.not_lt, i3lt, i6lt, f0, f2, f5, f6, f7, f8, f15, f16, f17, g1, g2, f19, f20, hx, hy, ez.symm, c1, c1', eR, c2n, jz]
      try simp (disch := omega) [-Prod.forall, -Prod.exists, -Prod.mk.injEq, -Int32.not_le, -Int32.not_lt, -Int64.not_le, -Int64.not_lt, i3lt, i6lt, f0, f2, f5, f6, f7, f8, f15, f16, f17, g1, g2, f19, f20, hx, hy, ez.symm, c1, c1', eR, c2n, jz]
      exact hp _ _ ⟨by unfold woR; rw [← ez, if_pos ⟨c1, c2⟩], rfl⟩
    · have c2' : σ.1 b 1 ≤ z := by grind
      have c2n : nI (cR σ b) ≤ z := by rw [← eR]; exact c2'
      refine jCon.ofP (by decide +kernel) (by simp [lg_sl, Value.category]) (fun post hp => ?_)
      refine jvk_ok TX1_worthOfRoom (V := []) (S := []) (fun _ h => absurd h List.not_mem_nil) (fun _ h => absurd h List.not_mem_nil) [] 40 _ _ _ _ ?_
      simp (maxSteps := 1000000) [↓Bool.cond_eq_ite, -Prod.forall, -Prod.exists, -Prod.mk.injEq, jvk, tX1_worthOfRoom, jtb, jol, jst, jlk, jcmp, jbin, jfl, fX1, jc2, lX1, jcat, jel, lv_args, Value.category, jins, jsrt, jins2, jble, jblt, jf3, List.filter_cons, List.filter_nil, G_choice, G_tchoice, G_flat, -Int32.not_le, -Int32.not_lt, -Int64.not_le, -Int64.not_lt, i3lt, i6lt, f0, f2, f7, f8, f19, f20, hx, hy, ez.symm, c1, c1', eR, c2n]
      try simp (disch := omega) [-Prod.forall, -Prod.exists, -Prod.mk.injEq, -Int32.not_le, -Int32.not_lt, -Int64.not_le, -Int64.not_lt, i3lt, i6lt, f0, f2, f7, f8, f19, f20, hx, hy, ez.symm, c1, c1', eR, c2n]
      exact hp _ _ ⟨by unfold woR; rw [← ez, if_neg (fun w => c2 w.2)], rfl⟩
  · have c1' : z < 0 := by grind
    refine jCon.ofP (by decide +kernel) (by simp [lg_sl, Value.category]) (fun post hp => ?_)
    refine jvk_ok TX1_worthOfRoom (V := []) (S := []) (fun _ h => absurd h List.not_mem_nil) (fun _ h => absurd h List.not_mem_nil) [] 40 _ _ _ _ ?_
    simp (maxSteps := 1000000) [↓Bool.cond_eq_ite, -Prod.forall, -Prod.exists, -Prod.mk.injEq, jvk, tX1_worthOfRoom, jtb, jol, jst, jlk, jcmp, jbin, jfl, fX1, jc2, lX1, jcat, jel, lv_args, Value.category, jins, jsrt, jins2, jble, jblt, jf3, List.filter_cons, List.filter_nil, G_choice, G_tchoice, G_flat, -Int32.not_le, -Int32.not_lt, -Int64.not_le, -Int64.not_lt, i3lt, i6lt, f0, f2, f7, f8, f19, f20, hx, hy, ez.symm, c1, c1']
    try simp (disch := omega) [-Prod.forall, -Prod.exists, -Prod.mk.injEq, -Int32.not_le, -Int32.not_lt, -Int64.not_le, -Int64.not_lt, i3lt, i6lt, f0, f2, f7, f8, f19, f20, hx, hy, ez.symm, c1, c1']
    exact hp _ _ ⟨by unfold woR; rw [← ez, if_neg (fun w => c1 w.1)], rfl⟩
def oX1_exists : jO := joR fun b σ => (chF b ∧ cOK σ b, fun v τ => v = some (.int (if 0 < cM σ b ∧ ¬ σ.1 (b + 10) 0 = -1 then 1 else 0)) ∧ τ = σ)
set_option maxRecDepth 100000 in
set_option maxHeartbeats 4000000 in
theorem CX1_exists (g : jG) (n : Nat) : jOk g (n + 0) mX1_exists oX1_exists := by
  refine joR_ok ?_
  rintro b σ ⟨hF, hok⟩
  obtain ⟨m6, em, -, -⟩ := cOK_n hok
  obtain ⟨f0, f1, -, -, -, -, -, -, -, f9, f10, -, -, -, -, -, -, -, -, -, -, f21, f22, -, -⟩ := hF
  have j0 : jin 0 64 := jin_nI (k := 0) (by decide) (by decide)
  have t0 : (0 : Int32).toNatClampNeg = 0 := by decide
  by_cases c1 : 0 < cM σ b
  · have c1' : ¬ nI (cM σ b) ≤ 0 := nI_nle c1 (by omega)
    by_cases c2 : σ.1 (b + 10) 0 = -1
    · refine jCon.ofP (by decide +kernel) (by simp [lg_sl, Value.category]) (fun post hp => ?_)
      refine jvk_ok TX1_exists (V := []) (S := []) (fun _ h => absurd h List.not_mem_nil) (fun _ h => absurd h List.not_mem_nil) [] 30 _ _ _ _ ?_
      simp (maxSteps := 1000000) [↓Bool.cond_eq_ite, -Prod.forall, -Prod.exists, -Prod.mk.injEq, jvk, tX1_exists, jtb, jol, jst, jlk, jcmp, jbin, jfl, fX1, jc2, lX1, jcat, jel, lv_args, Value.category, jins, jsrt, jins2, jble, jblt, jf3, List.filter_cons, List.filter_nil, G_choice, G_tchoice, G_flat, -Int32.not_le, -Int32.not_lt, -Int64.not_le, -Int64.not_lt, i3lt, i6lt, f0, f1, f9, f10, f21, f22, em, c1', c2, j0, t0]
      try simp (disch := omega) [-Prod.forall, -Prod.exists, -Prod.mk.injEq, -Int32.not_le, -Int32.not_lt, -Int64.not_le, -Int64.not_lt, i3lt, i6lt, f0, f1, f9, f10, f21, f22, em, c1', c2, j0, t0]
      exact hp _ _ ⟨by rw [if_neg (fun z => z.2 c2)], rfl⟩
    · refine jCon.ofP (by decide +kernel) (by simp [lg_sl, Value.category]) (fun post hp => ?_)
      refine jvk_ok TX1_exists (V := []) (S := []) (fun _ h => absurd h List.not_mem_nil) (fun _ h => absurd h List.not_mem_nil) [] 30 _ _ _ _ ?_
      simp (maxSteps := 1000000) [↓Bool.cond_eq_ite, -Prod.forall, -Prod.exists, -Prod.mk.injEq, jvk, tX1_exists, jtb, jol, jst, jlk, jcmp, jbin, jfl, fX1, jc2, lX1, jcat, jel, lv_args, Value.category, jins, jsrt, jins2, jble, jblt, jf3, List.filter_cons, List.filter_nil, G_choice, G_tchoice, G_flat, -Int32.not_le, -Int32.not_lt, -Int64.not_le, -Int64.not_lt, i3lt, i6lt, f0, f1, f9, f10, f21, f22, em, c1', c2, j0, t0]
      try simp (disch := omega) [-Prod.forall, -Prod.exists, -Prod.mk.injEq, -Int32.not_le, -Int32.not_lt, -Int64.not_le, -Int64.not_lt, i3lt, i6lt, f0, f1, f9, f10, f21, f22, em, c1', c2, j0, t0]
      exact hp _ _ ⟨by rw [if_pos ⟨c1, c2⟩], rfl⟩
  · have c1' : nI (cM σ b) ≤ 0 := by rw [show cM σ b = 0 by omega]; decide
    refine jCon.ofP (by decide +kernel) (by simp [lg_sl, Value.category]) (fun post hp => ?_)
    refine jvk_ok TX1_exists (V := []) (S := []) (fun _ h => absurd h List.not_mem_nil) (fun _ h => absurd h List.not_mem_nil) [] 30 _ _ _ _ ?_
    simp (maxSteps := 1000000) [↓Bool.cond_eq_ite, -Prod.forall, -Prod.exists, -Prod.mk.injEq, jvk, tX1_exists, jtb, jol, jst, jlk, jcmp, jbin, jfl, fX1, jc2, lX1, jcat, jel, lv_args, Value.category, jins, jsrt, jins2, jble, jblt, jf3, List.filter_cons, List.filter_nil, G_choice, G_tchoice, G_flat, -Int32.not_le, -Int32.not_lt, -Int64.not_le, -Int64.not_lt, i3lt, i6lt, f0, f1, em, c1']
    try simp (disch := omega) [-Prod.forall, -Prod.exists, -Prod.mk.injEq, -Int32.not_le, -Int32.not_lt, -Int64.not_le, -Int64.not_lt, i3lt, i6lt, f0, f1, em, c1']
    exact hp _ _ ⟨by rw [if_neg (fun z => c1 z.1)], rfl⟩
def oX1_greatestSum : jO := joR fun b σ => (chF b, fun v τ => v = some (.int (σ.1 (b + 10) 0)) ∧ τ = σ)
set_option maxRecDepth 100000 in
set_option maxHeartbeats 4000000 in
theorem CX1_greatestSum (g : jG) (n : Nat) : jOk g (n + 0) mX1_greatestSum oX1_greatestSum := by
  refine joR_ok ?_
  rintro b σ hF
  obtain ⟨f0, -, -, -, -, -, -, -, -, f9, f10, -, -, -, -, -, -, -, -, -, -, f21, f22, -, -⟩ := hF
  have j0 : jin 0 64 := jin_nI (k := 0) (by decide) (by decide)
  have t0 : (0 : Int32).toNatClampNeg = 0 := by decide
  refine jCon.ofP (by decide +kernel) (by simp [lg_sl, Value.category]) (fun post hp => ?_)
  refine jvk_ok TX1_greatestSum (V := []) (S := []) (fun _ h => absurd h List.not_mem_nil) (fun _ h => absurd h List.not_mem_nil) [] 30 _ _ _ _ ?_
  simp (maxSteps := 1000000) [↓Bool.cond_eq_ite, -Prod.forall, -Prod.exists, -Prod.mk.injEq, jvk, tX1_greatestSum, jtb, jol, jst, jlk, jcmp, jbin, jfl, fX1, jc2, lX1, jcat, jel, lv_args, Value.category, jins, jsrt, jins2, jble, jblt, jf3, List.filter_cons, List.filter_nil, G_choice, G_tchoice, G_flat, -Int32.not_le, -Int32.not_lt, -Int64.not_le, -Int64.not_lt, i3lt, i6lt, f0, f9, f10, f21, f22, j0, t0]
  try simp (disch := omega) [-Prod.forall, -Prod.exists, -Prod.mk.injEq, -Int32.not_le, -Int32.not_lt, -Int64.not_le, -Int64.not_lt, i3lt, i6lt, f0, f9, f10, f21, f22, j0, t0]
  exact hp _ _ ⟨rfl, rfl⟩
def oX1_countGreatest : jO := joR fun b σ => (chF b, fun v τ => v = some (.int (σ.1 (b + 11) 0)) ∧ τ = σ)
set_option maxRecDepth 100000 in
set_option maxHeartbeats 4000000 in
theorem CX1_countGreatest (g : jG) (n : Nat) : jOk g (n + 0) mX1_countGreatest oX1_countGreatest := by
  refine joR_ok ?_
  rintro b σ hF
  obtain ⟨f0, -, -, -, -, -, -, -, -, -, -, f11, f12, -, -, -, -, -, -, -, -, -, -, f23, f24⟩ := hF
  have j0 : jin 0 64 := jin_nI (k := 0) (by decide) (by decide)
  have t0 : (0 : Int32).toNatClampNeg = 0 := by decide
  refine jCon.ofP (by decide +kernel) (by simp [lg_sl, Value.category]) (fun post hp => ?_)
  refine jvk_ok TX1_countGreatest (V := []) (S := []) (fun _ h => absurd h List.not_mem_nil) (fun _ h => absurd h List.not_mem_nil) [] 30 _ _ _ _ ?_
  simp (maxSteps := 1000000) [↓Bool.cond_eq_ite, -Prod.forall, -Prod.exists, -Prod.mk.injEq, jvk, tX1_countGreatest, jtb, jol, jst, jlk, jcmp, jbin, jfl, fX1, jc2, lX1, jcat, jel, lv_args, Value.category, jins, jsrt, jins2, jble, jblt, jf3, List.filter_cons, List.filter_nil, G_choice, G_tchoice, G_flat, -Int32.not_le, -Int32.not_lt, -Int64.not_le, -Int64.not_lt, i3lt, i6lt, f0, f11, f12, f23, f24, j0, t0]
  try simp (disch := omega) [-Prod.forall, -Prod.exists, -Prod.mk.injEq, -Int32.not_le, -Int32.not_lt, -Int64.not_le, -Int64.not_lt, i3lt, i6lt, f0, f11, f12, f23, f24, j0, t0]
  exact hp _ _ ⟨rfl, rfl⟩
