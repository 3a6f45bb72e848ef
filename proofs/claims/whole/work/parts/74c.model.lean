/-! the reference: a person of a text -/
def oX12_readPerson : jO := joR fun a σ => (a = 322 ∧ rT σ ∧ rSz σ ∧ ∃ s, tk σ s, fun v τ => v = none ∧ jfr aRd bTk σ τ ∧ rT τ ∧ rSz τ ∧ ∀ s μ, tk σ s → rdA σ μ → rRes τ (pPers (tB σ) (tL σ) s μ))
theorem rT_44 {τ : jM} (h : rT τ) (x : Int32) : rT (jup τ 322 44 x) := h
/-- the values of a text's person depend on what is read alone -/
theorem pVals_rd {B : Nat → Int32} {L P : Nat} : ∀ (d r s : Nat) (μ ν : pM), (∀ a j, aMu a j = true → μ a j = ν a j) → ∀ τ : jM, rRes τ (pVals B L P d r s μ) → rRes τ (pVals B L P d r s ν)
  | 0, _, s, μ, ν, h, τ, q => ⟨q.1, fun a j z => (q.2 a j z).trans (h a j z)⟩
  | d + 1, r, s, μ, ν, h, τ, q => by
    have up : ∀ (μ ν : pM) (a k : Nat) (x : Int32), (∀ a j, aMu a j = true → μ a j = ν a j) → ∀ i j, aMu i j = true → u1 μ a k x i j = u1 ν a k x i j := fun μ ν a k x h i j z => by
      unfold u1
      by_cases e : i = a ∧ j = k
      · rw [if_pos e, if_pos e]
      · rw [if_neg e, if_neg e]; exact h i j z
    simp only [pVals] at q ⊢
    by_cases c : isW B L s wNo = true
    · rw [if_pos c] at q ⊢
      exact pVals_rd d _ _ _ _ (up _ _ _ _ _ h) τ q
    · rw [if_neg c] at q ⊢
      rcases eP : pInt B L 9999 s with e | y
      · rw [eP] at q
        exact q
      · rw [eP] at q
        exact pVals_rd d _ _ _ _ (up _ _ _ _ _ (up _ _ _ _ _ h)) τ q
def r44 (x : Int32) : pE ⊕ pS → pE ⊕ pS
  | .inl e => .inl e
  | .inr q => .inr (q.1, u1 q.2 322 44 x)
theorem rRes_44 {τ : jM} {r : pE ⊕ pS} (h : rRes τ r) (x : Int32) : rRes (jup τ 322 44 x) (r44 x r) := by
  rcases r with e | q
  · exact h
  · exact ⟨h.1, rdA_up h.2 _ _ _⟩
set_option maxRecDepth 100000 in
set_option maxHeartbeats 4000000 in
theorem CX12_readPerson (g : jG) (n : Nat) : jOk g (n + 3) mX12_readPerson oX12_readPerson := by
  refine joR_ok ?_
  rintro _ σ ⟨rfl, h, hz, s, hs⟩
  obtain ⟨⟨hR, hR4⟩, ⟨hP, hP4⟩, -, -⟩ := rSz_n hz
  have h9 := (rT_n h).1
  have f0 := hs.2.1
  have uniq : ∀ t, tk σ t → t = s := fun t ht => tk_inj ht hs h9
  have e36 := hs.2.2.1
  by_cases cP : 10 ≤ pe σ.1
  · have cP' : (10 : Int32) ≤ nI (pe σ.1) := nI_le (a := 10) cP (by omega)
    have k1 : ∀ post : Option Value → jM → Prop, post none (jup σ 322 41 (-15)) → jW g mX12_readPerson (n + 3) post 20 [(0, .ref 322)] [] (jup σ 322 41 (-15)) := fun post k => CNf_readPerson g n (σ := jup σ 322 41 (-15)) h (rSz_fr hz (jfr.rfl.up (A := aIn) (B := bTk) _ rfl) rfl rfl rfl) (by rw [jup_1, if_pos ⟨rfl, rfl⟩]; decide) k
    refine jCon.ofP (by decide +kernel) (by simp [lg_sl, Value.category]) (fun post hp => ?_)
    refine jvk_ok TX12_readPerson (V := [(309, 3, 12, oX12_check), (313, 1, 12, oX12_advance), (322, 1, 12, oX12_nameHere), (325, 2, 12, oX12_integer), (329, 2, 12, oX12_isWord)]) (S := [(124, 2, 0, oX12_place)]) (List.forall_mem_cons.mpr ⟨⟨mX12_check, n + 0, 2, TX12, 53, rfl, by omega, kX12_309, WX12_check, rfl, CX12_check g (n)⟩, (List.forall_mem_cons.mpr ⟨⟨mX12_advance, n + 1, 0, TX12, 53, rfl, by omega, kX12_313, WX12_advance, rfl, CX12_advance g (n)⟩, (List.forall_mem_cons.mpr ⟨⟨mX12_nameHere, n + 1, 0, TX12, 53, rfl, by omega, kX12_322, WX12_nameHere, rfl, CX12_nameHere g (n)⟩, (List.forall_mem_cons.mpr ⟨⟨mX12_integer, n + 2, 1, TX12, 53, rfl, by omega, kX12_325, WX12_integer, rfl, CX12_integer g (n)⟩, (List.forall_mem_cons.mpr ⟨⟨mX12_isWord, n + 0, 1, TX12, 53, rfl, by omega, kX12_329, WX12_isWord, rfl, CX12_isWord g (n)⟩, (fun _ h => absurd h List.not_mem_nil)⟩)⟩)⟩)⟩)⟩) (List.forall_mem_cons.mpr ⟨⟨mX12_place, n + 0, by omega, Or.inl kX12_124, WX12_place, CX12_place g (n)⟩, (fun _ h => absurd h List.not_mem_nil)⟩) [20] 40 _ _ _ _ ?_
    simp (maxSteps := 1000000) [↓Bool.cond_eq_ite, -Prod.forall, -Prod.exists, -Prod.mk.injEq, jvk, tX12_readPerson, jtb, jol, jst, jlk, jcmp, jbin, jfl, fX12, jc2, lX12, jcat, jel, lv_args, Value.category, jins, jsrt, jins2, jble, jblt, jf3, List.filter_cons, List.filter_nil, G_m, oX12_check, oX12_advance, oX12_nameHere, oX12_place, oX12_integer, oX12_isWord, joII, joR, joRI, joRII, joRJ, -Int32.not_le, -Int32.not_lt, -Int64.not_le, -Int64.not_lt, i3lt, i6lt, hP4, cP', f0, i11, jup_1]
    try simp (disch := omega) [-Prod.forall, -Prod.exists, -Prod.mk.injEq, -Int32.not_le, -Int32.not_lt, -Int64.not_le, -Int64.not_lt, i3lt, i6lt, hP4, cP', f0, i11, jup_1]
    refine k1 _ (hp _ _ ⟨rfl, jfr.rfl.up _ rfl, h, rSz_fr hz (jfr.rfl.up (A := aIn) (B := bTk) _ rfl) rfl rfl rfl, fun t μ ht hμ => ?_⟩)
    rw [uniq t ht]
    unfold pPers
    rw [(rdA_n hμ).2.1, if_pos cP]
    exact ⟨by rw [jup_1, if_pos ⟨rfl, rfl⟩], i11.2.2.2.2, by rw [jup_1, if_neg (by decide)]; exact e36⟩
  · have cP' : ¬ (10 : Int32) ≤ nI (pe σ.1) := nI_ge (b := 10) (by omega) (by decide)
    refine jCon.ofP (by decide +kernel) (by simp [lg_sl, Value.category]) (fun post hp => ?_)
    refine jvk_ok TX12_readPerson (V := [(309, 3, 12, oX12_check), (313, 1, 12, oX12_advance), (322, 1, 12, oX12_nameHere), (325, 2, 12, oX12_integer), (329, 2, 12, oX12_isWord)]) (S := [(124, 2, 0, oX12_place)]) (List.forall_mem_cons.mpr ⟨⟨mX12_check, n + 0, 2, TX12, 53, rfl, by omega, kX12_309, WX12_check, rfl, CX12_check g (n)⟩, (List.forall_mem_cons.mpr ⟨⟨mX12_advance, n + 1, 0, TX12, 53, rfl, by omega, kX12_313, WX12_advance, rfl, CX12_advance g (n)⟩, (List.forall_mem_cons.mpr ⟨⟨mX12_nameHere, n + 1, 0, TX12, 53, rfl, by omega, kX12_322, WX12_nameHere, rfl, CX12_nameHere g (n)⟩, (List.forall_mem_cons.mpr ⟨⟨mX12_integer, n + 2, 1, TX12, 53, rfl, by omega, kX12_325, WX12_integer, rfl, CX12_integer g (n)⟩, (List.forall_mem_cons.mpr ⟨⟨mX12_isWord, n + 0, 1, TX12, 53, rfl, by omega, kX12_329, WX12_isWord, rfl, CX12_isWord g (n)⟩, (fun _ h => absurd h List.not_mem_nil)⟩)⟩)⟩)⟩)⟩) (List.forall_mem_cons.mpr ⟨⟨mX12_place, n + 0, by omega, Or.inl kX12_124, WX12_place, CX12_place g (n)⟩, (fun _ h => absurd h List.not_mem_nil)⟩) [20] 40 _ _ _ _ ?_
    simp (maxSteps := 1000000) [↓Bool.cond_eq_ite, -Prod.forall, -Prod.exists, -Prod.mk.injEq, jvk, tX12_readPerson, jtb, jol, jst, jlk, jcmp, jbin, jfl, fX12, jc2, lX12, jcat, jel, lv_args, Value.category, jins, jsrt, jins2, jble, jblt, jf3, List.filter_cons, List.filter_nil, G_m, oX12_check, oX12_advance, oX12_nameHere, oX12_place, oX12_integer, oX12_isWord, joII, joR, joRI, joRII, joRJ, -Int32.not_le, -Int32.not_lt, -Int64.not_le, -Int64.not_lt, i3lt, i6lt, hP4, cP', f0, jup_1]
    try simp (disch := omega) [-Prod.forall, -Prod.exists, -Prod.mk.injEq, -Int32.not_le, -Int32.not_lt, -Int64.not_le, -Int64.not_lt, i3lt, i6lt, hP4, cP', f0, jup_1]
    refine CNm_readPerson g n h hz hs (fun τ e f hr hfl he => hp _ _ ⟨rfl, f.weak (fun a j q => rd_In a j q) (fun _ q => q), hr, rSz_fr hz f rfl rfl rfl, fun t μ ht hμ => ?_⟩) (fun τ f hr ht1 hi hd => ?_)
    · rw [uniq t ht]
      unfold pPers
      rw [(rdA_n hμ).2.1, if_neg cP, dup_fr hμ _ _ _ _ _ (fun _ => rfl)]
      rcases he with ⟨e1, e2⟩ | ⟨e1, e2, e3⟩
      · rw [if_pos e1, ← e2]; exact hfl
      · rw [if_neg (fun z => z e1), if_pos e2, ← e3]; exact hfl
    · obtain ⟨g1, g2⟩ := in_fr f
      obtain ⟨s1, es1⟩ : ∃ s1, s1 = nx (tB σ) (tL σ) s := ⟨_, rfl⟩
      rw [← es1] at ht1 hi hd
      have elet := tk_let ht1 (by rw [g1, g2]; exact hi)
      rw [g1, g2] at elet
      obtain ⟨P, eP⟩ : ∃ P, P = pe σ.1 := ⟨_, rfl⟩
      obtain ⟨R, eR⟩ : ∃ R, R = rm σ.1 := ⟨_, rfl⟩
      rw [← eP] at hP hP4 cP hd
      rw [← eR] at hR hR4
      have e43 : τ.1 322 43 = nI R := (f.2.2 322 43 rfl).trans hR4
      have e44 : τ.1 322 44 = nI P := (f.2.2 322 44 rfl).trans hP4
      have jr : jin (nI P) 10 := jin_nI (by omega) (by decide)
      have er : (nI P).toNatClampNeg = P := nI_clamp (by omega)
      obtain ⟨ρ, eρ⟩ : ∃ ρ, ρ = jup τ 349 P (nI (nm (tB σ) (tL σ) s1)) := ⟨_, rfl⟩
      have tρ : tk ρ s1 := by rw [eρ]; exact ht1
      have rρ : rT ρ := by rw [eρ]; exact hr
      have fρ : ρ.1 322 41 = 0 := tρ.2.1
      have gρ : tB ρ = tB σ ∧ tL ρ = tL σ := by rw [eρ]; exact ⟨g1, g2⟩
      have frρ : jfr aRd bTk σ ρ := by rw [eρ]; exact (f.weak (fun a j q => rd_In a j q) (fun _ q => q)).up _ rfl
      refine jvk_ok TX12_readPerson (V := [(309, 3, 12, oX12_check), (313, 1, 12, oX12_advance), (322, 1, 12, oX12_nameHere), (325, 2, 12, oX12_integer), (329, 2, 12, oX12_isWord)]) (S := [(124, 2, 0, oX12_place)]) (List.forall_mem_cons.mpr ⟨⟨mX12_check, n + 0, 2, TX12, 53, rfl, by omega, kX12_309, WX12_check, rfl, CX12_check g (n)⟩, (List.forall_mem_cons.mpr ⟨⟨mX12_advance, n + 1, 0, TX12, 53, rfl, by omega, kX12_313, WX12_advance, rfl, CX12_advance g (n)⟩, (List.forall_mem_cons.mpr ⟨⟨mX12_nameHere, n + 1, 0, TX12, 53, rfl, by omega, kX12_322, WX12_nameHere, rfl, CX12_nameHere g (n)⟩, (List.forall_mem_cons.mpr ⟨⟨mX12_integer, n + 2, 1, TX12, 53, rfl, by omega, kX12_325, WX12_integer, rfl, CX12_integer g (n)⟩, (List.forall_mem_cons.mpr ⟨⟨mX12_isWord, n + 0, 1, TX12, 53, rfl, by omega, kX12_329, WX12_isWord, rfl, CX12_isWord g (n)⟩, (fun _ h => absurd h List.not_mem_nil)⟩)⟩)⟩)⟩)⟩) (List.forall_mem_cons.mpr ⟨⟨mX12_place, n + 0, by omega, Or.inl kX12_124, WX12_place, CX12_place g (n)⟩, (fun _ h => absurd h List.not_mem_nil)⟩) [89] 40 _ _ _ _ ?_
      simp (maxSteps := 1000000) [↓Bool.cond_eq_ite, -Prod.forall, -Prod.exists, -Prod.mk.injEq, jvk, tX12_readPerson, jtb, jol, jst, jlk, jcmp, jbin, jfl, fX12, jc2, lX12, jcat, jel, lv_args, Value.category, jins, jsrt, jins2, jble, jblt, jf3, List.filter_cons, List.filter_nil, G_m, oX12_check, oX12_advance, oX12_nameHere, oX12_place, oX12_integer, oX12_isWord, joII, joR, joRI, joRII, joRJ, -Int32.not_le, -Int32.not_lt, -Int64.not_le, -Int64.not_lt, i3lt, i6lt, e44, jr, er, elet, jup_1]
      try simp (disch := omega) [-Prod.forall, -Prod.exists, -Prod.mk.injEq, -Int32.not_le, -Int32.not_lt, -Int64.not_le, -Int64.not_lt, i3lt, i6lt, e44, jr, er, elet, jup_1]
      rw [← eρ]
      refine jvk_ok TX12_readPerson (V := [(309, 3, 12, oX12_check), (313, 1, 12, oX12_advance), (322, 1, 12, oX12_nameHere), (325, 2, 12, oX12_integer), (329, 2, 12, oX12_isWord)]) (S := [(124, 2, 0, oX12_place)]) (List.forall_mem_cons.mpr ⟨⟨mX12_check, n + 0, 2, TX12, 53, rfl, by omega, kX12_309, WX12_check, rfl, CX12_check g (n)⟩, (List.forall_mem_cons.mpr ⟨⟨mX12_advance, n + 1, 0, TX12, 53, rfl, by omega, kX12_313, WX12_advance, rfl, CX12_advance g (n)⟩, (List.forall_mem_cons.mpr ⟨⟨mX12_nameHere, n + 1, 0, TX12, 53, rfl, by omega, kX12_322, WX12_nameHere, rfl, CX12_nameHere g (n)⟩, (List.forall_mem_cons.mpr ⟨⟨mX12_integer, n + 2, 1, TX12, 53, rfl, by omega, kX12_325, WX12_integer, rfl, CX12_integer g (n)⟩, (List.forall_mem_cons.mpr ⟨⟨mX12_isWord, n + 0, 1, TX12, 53, rfl, by omega, kX12_329, WX12_isWord, rfl, CX12_isWord g (n)⟩, (fun _ h => absurd h List.not_mem_nil)⟩)⟩)⟩)⟩)⟩) (List.forall_mem_cons.mpr ⟨⟨mX12_place, n + 0, by omega, Or.inl kX12_124, WX12_place, CX12_place g (n)⟩, (fun _ h => absurd h List.not_mem_nil)⟩) [93] 40 _ _ _ _ ?_
      simp (maxSteps := 1000000) [↓Bool.cond_eq_ite, -Prod.forall, -Prod.exists, -Prod.mk.injEq, jvk, tX12_readPerson, jtb, jol, jst, jlk, jcmp, jbin, jfl, fX12, jc2, lX12, jcat, jel, lv_args, Value.category, jins, jsrt, jins2, jble, jblt, jf3, List.filter_cons, List.filter_nil, G_m, oX12_check, oX12_advance, oX12_nameHere, oX12_place, oX12_integer, oX12_isWord, joII, joR, joRI, joRII, joRJ, -Int32.not_le, -Int32.not_lt, -Int64.not_le, -Int64.not_lt, i3lt, i6lt, rρ]
      try simp (disch := omega) [-Prod.forall, -Prod.exists, -Prod.mk.injEq, -Int32.not_le, -Int32.not_lt, -Int64.not_le, -Int64.not_lt, i3lt, i6lt, rρ]
      intro v1 τ1 hv1 a1 a2
      subst hv1
      obtain ⟨b1, b2, b3⟩ := a2 fρ
      rw [tk_nx rρ tρ, gρ.1, gρ.2] at b3
      have w1 : jfr aIn bTk ρ τ1 := b1.weak (fun a j q => in_Tk a j q) (fun _ q => q)
      obtain ⟨c1, c2⟩ := in_fr w1
      rw [gρ.1] at c1
      rw [gρ.2] at c2
      have x44 : τ1.1 322 44 = nI P := (w1.2.2 322 44 rfl).trans (by rw [eρ]; exact e44)
      have x43 : τ1.1 322 43 = nI R := (w1.2.2 322 43 rfl).trans (by rw [eρ]; exact e43)
      have m1 : mpl (nI P) 1 = 8 + 20 * P + 1 := by unfold mpl; rw [er]; rfl
      have q1 := jN_208 (k := 8 + 20 * P + 1) (by omega)
      have h99 : ∃ hi, (99999 : Int32) = nI hi ∧ hi ≤ 99999 := ⟨99999, rfl, by decide⟩
      have hx1 : ∃ s, tk τ1 s := ⟨_, b3⟩
      obtain ⟨s2, es2⟩ : ∃ s2, s2 = nx (tB σ) (tL σ) s1 := ⟨_, rfl⟩
      rw [← es2] at b3
      refine jvk_ok TX12_readPerson (V := [(309, 3, 12, oX12_check), (313, 1, 12, oX12_advance), (322, 1, 12, oX12_nameHere), (325, 2, 12, oX12_integer), (329, 2, 12, oX12_isWord)]) (S := [(124, 2, 0, oX12_place)]) (List.forall_mem_cons.mpr ⟨⟨mX12_check, n + 0, 2, TX12, 53, rfl, by omega, kX12_309, WX12_check, rfl, CX12_check g (n)⟩, (List.forall_mem_cons.mpr ⟨⟨mX12_advance, n + 1, 0, TX12, 53, rfl, by omega, kX12_313, WX12_advance, rfl, CX12_advance g (n)⟩, (List.forall_mem_cons.mpr ⟨⟨mX12_nameHere, n + 1, 0, TX12, 53, rfl, by omega, kX12_322, WX12_nameHere, rfl, CX12_nameHere g (n)⟩, (List.forall_mem_cons.mpr ⟨⟨mX12_integer, n + 2, 1, TX12, 53, rfl, by omega, kX12_325, WX12_integer, rfl, CX12_integer g (n)⟩, (List.forall_mem_cons.mpr ⟨⟨mX12_isWord, n + 0, 1, TX12, 53, rfl, by omega, kX12_329, WX12_isWord, rfl, CX12_isWord g (n)⟩, (fun _ h => absurd h List.not_mem_nil)⟩)⟩)⟩)⟩)⟩) (List.forall_mem_cons.mpr ⟨⟨mX12_place, n + 0, by omega, Or.inl kX12_124, WX12_place, CX12_place g (n)⟩, (fun _ h => absurd h List.not_mem_nil)⟩) [112] 40 _ _ _ _ ?_
      simp (maxSteps := 1000000) [↓Bool.cond_eq_ite, -Prod.forall, -Prod.exists, -Prod.mk.injEq, jvk, tX12_readPerson, jtb, jol, jst, jlk, jcmp, jbin, jfl, fX12, jc2, lX12, jcat, jel, lv_args, Value.category, jins, jsrt, jins2, jble, jblt, jf3, List.filter_cons, List.filter_nil, G_m, oX12_check, oX12_advance, oX12_nameHere, oX12_place, oX12_integer, oX12_isWord, joII, joR, joRI, joRII, joRJ, -Int32.not_le, -Int32.not_lt, -Int64.not_le, -Int64.not_lt, i3lt, i6lt, b2, hx1, h99, x44, jr, m1, q1, jin_c, tn_c]
      try simp (disch := omega) [-Prod.forall, -Prod.exists, -Prod.mk.injEq, -Int32.not_le, -Int32.not_lt, -Int64.not_le, -Int64.not_lt, i3lt, i6lt, b2, hx1, h99, x44, jr, m1, q1, jin_c, tn_c]
      intro v2 τ2 hv2 d1 d2 d3 d4
      subst hv2
      have d4 := d4 s2 b3
      rw [c1, c2] at d4
      have y44 : τ2.1 322 44 = nI P := (d1.2.2 322 44 rfl).trans x44
      have y43 : τ2.1 322 43 = nI R := (d1.2.2 322 43 rfl).trans x43
      have fr2 : jfr aRd bTk σ τ2 := frρ.tr ((w1.tr d1).weak (fun a j q => rd_In a j q) (fun _ q => q))
      have szf : ∀ τ' : jM, jfr aRd bTk σ τ' → τ'.1 322 43 = nI R → τ'.1 322 45 = σ.1 322 45 → rSz (jup τ' 322 44 (nI (P + 1))) := fun τ' f' z43 z45 => by
        refine ⟨?_, ?_, ?_⟩
        · rw [jup_1, if_neg (by decide), z43, ← hR4]; exact hz.1
        · rw [jup_1, if_pos ⟨rfl, rfl⟩]
          exact ⟨nI_pos' (by omega), nI_le (b := 10) (by omega) (by decide)⟩
        · rw [jup_1, if_neg (by decide), z45]; exact hz.2.2
      have z45 : τ2.1 322 45 = σ.1 322 45 := ((d1.2.2 322 45 rfl).trans (w1.2.2 322 45 rfl)).trans (by rw [eρ]; exact f.2.2 322 45 rfl)
      rcases eI : pInt (tB σ) (tL σ) 99999 s2 with e | y
      · rw [eI] at d4
        have d4 : flt τ2 e := d4
        have hf0 : ¬ τ2.1 322 41 = 0 := by rw [d4.1]; exact d4.2.1
        have k1 := CPl_f g n (post := post) (P := P) (R := R) (by omega) hR R 0 (jup τ2 347 (8 + 20 * P + 1) (τ1.1 322 38)) rfl (Nat.zero_le _) d2 hf0 y43 y44 (fun τ' f' => by
          have e41 : ∀ j, τ'.1 322 j = τ2.1 322 j := fun j => f'.2.2 322 j rfl
          have fr3 : jfr aRd bTk σ τ' := (fr2.up _ rfl).tr (f'.weak rd_47 (fun _ _ => rfl))
          refine hp _ _ ⟨rfl, fr3.up _ rfl, ?_, szf τ' fr3 ((e41 43).trans y43) ((e41 45).trans z45), fun t μ ht hμ => ?_⟩
          · have e35 : tE τ' = tE τ2 := by unfold tE; rw [e41]
            have e34 : tL τ' = tL τ2 := by unfold tL; rw [e41]
            refine rT_44 ?_ _
            unfold rT
            rw [e41, e41, e35, e34]
            exact ⟨d2.1, d2.2.1, d2.2.2.1, fun j hj => by rw [f'.2.2 346 j rfl]; exact d2.2.2.2 j hj⟩
          · rw [uniq t ht]
            unfold pPers
            rw [(rdA_n hμ).2.1, ← eP, if_neg cP, dup_fr hμ _ _ _ _ _ (fun _ => rfl), ← es1, if_neg (fun z => z hi), if_neg (by rw [hd]; decide), ← es2, eI]
            exact ⟨by rw [jup_1, if_neg (by decide), e41]; exact d4.1, d4.2.1, by rw [jup_1, if_neg (by decide), e41]; exact d4.2.2⟩) []
        rw [nI_0] at k1
        refine jvk_ok TX12_readPerson (V := [(309, 3, 12, oX12_check), (313, 1, 12, oX12_advance), (322, 1, 12, oX12_nameHere), (325, 2, 12, oX12_integer), (329, 2, 12, oX12_isWord)]) (S := [(124, 2, 0, oX12_place)]) (List.forall_mem_cons.mpr ⟨⟨mX12_check, n + 0, 2, TX12, 53, rfl, by omega, kX12_309, WX12_check, rfl, CX12_check g (n)⟩, (List.forall_mem_cons.mpr ⟨⟨mX12_advance, n + 1, 0, TX12, 53, rfl, by omega, kX12_313, WX12_advance, rfl, CX12_advance g (n)⟩, (List.forall_mem_cons.mpr ⟨⟨mX12_nameHere, n + 1, 0, TX12, 53, rfl, by omega, kX12_322, WX12_nameHere, rfl, CX12_nameHere g (n)⟩, (List.forall_mem_cons.mpr ⟨⟨mX12_integer, n + 2, 1, TX12, 53, rfl, by omega, kX12_325, WX12_integer, rfl, CX12_integer g (n)⟩, (List.forall_mem_cons.mpr ⟨⟨mX12_isWord, n + 0, 1, TX12, 53, rfl, by omega, kX12_329, WX12_isWord, rfl, CX12_isWord g (n)⟩, (fun _ h => absurd h List.not_mem_nil)⟩)⟩)⟩)⟩)⟩) (List.forall_mem_cons.mpr ⟨⟨mX12_place, n + 0, by omega, Or.inl kX12_124, WX12_place, CX12_place g (n)⟩, (fun _ h => absurd h List.not_mem_nil)⟩) [115] 40 _ _ _ _ ?_
        simp (maxSteps := 1000000) [↓Bool.cond_eq_ite, -Prod.forall, -Prod.exists, -Prod.mk.injEq, jvk, tX12_readPerson, jtb, jol, jst, jlk, jcmp, jbin, jfl, fX12, jc2, lX12, jcat, jel, lv_args, Value.category, jins, jsrt, jins2, jble, jblt, jf3, List.filter_cons, List.filter_nil, G_m, oX12_check, oX12_advance, oX12_nameHere, oX12_place, oX12_integer, oX12_isWord, joII, joR, joRI, joRII, joRJ, -Int32.not_le, -Int32.not_lt, -Int64.not_le, -Int64.not_lt, i3lt, i6lt, q1]
        try simp (disch := omega) [-Prod.forall, -Prod.exists, -Prod.mk.injEq, -Int32.not_le, -Int32.not_lt, -Int64.not_le, -Int64.not_lt, i3lt, i6lt, q1]
        exact k1
      · rw [eI] at d4
        obtain ⟨b4, b5⟩ := (d4 : τ1.1 322 38 = nI y ∧ tk τ2 (nx (tB τ1) (tL τ1) s2))
        rw [c1, c2] at b5
        have fr3 : jfr aRd bTk σ (jup τ2 347 (8 + 20 * P + 1) (nI y)) := fr2.up _ rfl
        have g3 : tB (jup τ2 347 (8 + 20 * P + 1) (nI y)) = tB σ ∧ tL (jup τ2 347 (8 + 20 * P + 1) (nI y)) = tL σ := ⟨funext fun j => fr3.2.2 346 j rfl, by unfold tL; rw [fr3.2.2 322 34 rfl]⟩
        have k1 := CPl_n g n (post := post) (σ := jup τ2 347 (8 + 20 * P + 1) (nI y)) (P := P) (R := R) (by omega) hR R 0 (nx (tB σ) (tL σ) s2) (u1 τ2.1 347 (8 + 20 * P + 1) (nI y)) (jup τ2 347 (8 + 20 * P + 1) (nI y)) rfl (Nat.zero_le _) d2 b5 (fun a j _ => rfl) jfr.rfl y43 y44 (fun τ' f' hr' hres => by
          rw [g3.1, g3.2] at hres
          have fr4 : jfr aRd bTk σ τ' := fr3.tr (f'.weak rd_Pe (fun _ q => q))
          refine hp _ _ ⟨rfl, fr4.up _ rfl, rT_44 hr' _, szf τ' fr4 ((f'.2.2 322 43 rfl).trans y43) ((f'.2.2 322 45 rfl).trans z45), fun t μ ht hμ => ?_⟩
          rw [uniq t ht]
          unfold pPers
          rw [(rdA_n hμ).2.1, (rdA_n hμ).1, ← eP, ← eR, if_neg cP, dup_fr hμ _ _ _ _ _ (fun _ => rfl), ← es1, if_neg (fun z => z hi), if_neg (by rw [hd]; decide), ← es2, eI]
          dsimp only
          have hμ1 : rdA ρ (u1 μ 349 P (nI (nm (tB σ) (tL σ) s1))) := by rw [eρ]; exact rdA_up (rdA_fr hμ f) _ _ _
          have hμ2 : rdA τ2 (u1 μ 349 P (nI (nm (tB σ) (tL σ) s1))) := rdA_fr (rdA_fr hμ1 w1) d1
          have q2 := pVals_rd (B := tB σ) (L := tL σ) (P := P) R 0 (nx (tB σ) (tL σ) s2) (u1 τ2.1 347 (8 + 20 * P + 1) (nI y)) (u1 (u1 μ 349 P (nI (nm (tB σ) (tL σ) s1))) 347 (8 + 20 * P + 1) (nI y)) (fun a j z => rdA_up hμ2 347 (8 + 20 * P + 1) (nI y) a j z) τ' hres
          have q3 := rRes_44 q2 (nI (P + 1))
          rcases eV : pVals (tB σ) (tL σ) P R 0 (nx (tB σ) (tL σ) s2) (u1 (u1 μ 349 P (nI (nm (tB σ) (tL σ) s1))) 347 (8 + 20 * P + 1) (nI y)) with e | q
          · rw [eV] at q3; exact q3
          · rw [eV] at q3; exact q3) []
        rw [nI_0] at k1
        refine jvk_ok TX12_readPerson (V := [(309, 3, 12, oX12_check), (313, 1, 12, oX12_advance), (322, 1, 12, oX12_nameHere), (325, 2, 12, oX12_integer), (329, 2, 12, oX12_isWord)]) (S := [(124, 2, 0, oX12_place)]) (List.forall_mem_cons.mpr ⟨⟨mX12_check, n + 0, 2, TX12, 53, rfl, by omega, kX12_309, WX12_check, rfl, CX12_check g (n)⟩, (List.forall_mem_cons.mpr ⟨⟨mX12_advance, n + 1, 0, TX12, 53, rfl, by omega, kX12_313, WX12_advance, rfl, CX12_advance g (n)⟩, (List.forall_mem_cons.mpr ⟨⟨mX12_nameHere, n + 1, 0, TX12, 53, rfl, by omega, kX12_322, WX12_nameHere, rfl, CX12_nameHere g (n)⟩, (List.forall_mem_cons.mpr ⟨⟨mX12_integer, n + 2, 1, TX12, 53, rfl, by omega, kX12_325, WX12_integer, rfl, CX12_integer g (n)⟩, (List.forall_mem_cons.mpr ⟨⟨mX12_isWord, n + 0, 1, TX12, 53, rfl, by omega, kX12_329, WX12_isWord, rfl, CX12_isWord g (n)⟩, (fun _ h => absurd h List.not_mem_nil)⟩)⟩)⟩)⟩)⟩) (List.forall_mem_cons.mpr ⟨⟨mX12_place, n + 0, by omega, Or.inl kX12_124, WX12_place, CX12_place g (n)⟩, (fun _ h => absurd h List.not_mem_nil)⟩) [115] 40 _ _ _ _ ?_
        simp (maxSteps := 1000000) [↓Bool.cond_eq_ite, -Prod.forall, -Prod.exists, -Prod.mk.injEq, jvk, tX12_readPerson, jtb, jol, jst, jlk, jcmp, jbin, jfl, fX12, jc2, lX12, jcat, jel, lv_args, Value.category, jins, jsrt, jins2, jble, jblt, jf3, List.filter_cons, List.filter_nil, G_m, oX12_check, oX12_advance, oX12_nameHere, oX12_place, oX12_integer, oX12_isWord, joII, joR, joRI, joRII, joRJ, -Int32.not_le, -Int32.not_lt, -Int64.not_le, -Int64.not_lt, i3lt, i6lt, q1, b4]
        try simp (disch := omega) [-Prod.forall, -Prod.exists, -Prod.mk.injEq, -Int32.not_le, -Int32.not_lt, -Int64.not_le, -Int64.not_lt, i3lt, i6lt, q1, b4]
        exact k1
