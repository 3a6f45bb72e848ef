/-! the reference: people of a text, their values -/
def a47 (a _j : Nat) : Bool := a == 347
theorem rd_47 (a j : Nat) (h : aRd a j = false) : a47 a j = false := by
  unfold aRd at h
  unfold a47
  simp only [Bool.or_eq_false_iff] at h
  exact h.1.1.1.1
def aPe (a j : Nat) : Bool := aIn a j || a == 347
theorem rd_Pe (a j : Nat) (h : aRd a j = false) : aPe a j = false := by
  unfold aPe
  rw [rd_In a j h]
  have := rd_47 a j h
  unfold a47 at this
  rw [this]
  rfl
theorem pe_In (a j : Nat) (h : aPe a j = false) : aIn a j = false := by
  unfold aPe at h
  simp only [Bool.or_eq_false_iff] at h
  exact h.1
theorem pe_fr {σ τ : jM} (f : jfr aPe bTk σ τ) : tB τ = tB σ ∧ tL τ = tL σ := ⟨funext fun j => f.2.2 346 j rfl, by unfold tL; rw [f.2.2 322 34 rfl]⟩
set_option maxRecDepth 100000 in
set_option maxHeartbeats 4000000 in
theorem CPl_f (g : jG) (n : Nat) {post : Option Value → jM → Prop} {P R : Nat} (hP : P < 10) (hR : R ≤ 6) : ∀ (d r : Nat) (τ : jM), R - r = d → r ≤ R → rT τ → ¬ τ.1 322 41 = 0 → τ.1 322 43 = nI R → τ.1 322 44 = nI P → (∀ τ', jfr a47 b0 τ τ' → post none (jup τ' 322 44 (nI (P + 1)))) → ∀ L, jW g mX12_readPerson (n + 3) post 115 ((0, .ref 322) :: (1, .int (nI r)) :: L) [] τ := by
  intro d
  induction d with
  | zero =>
    intro r τ hd hr h hf e43 e44 k L
    have hle : nI R ≤ nI r := nI_le (by omega) (by omega)
    have n1 : nI P + 1 = nI (P + 1) := nI_1 _
    have k1 := k τ jfr.rfl
    refine jW.mono (L' := [(0, .ref 322), (1, .int (nI r))]) ?_ (by simp)
    refine jvk_ok TX12_readPerson (V := [(309, 3, 12, oX12_check), (313, 1, 12, oX12_advance), (322, 1, 12, oX12_nameHere), (325, 2, 12, oX12_integer), (329, 2, 12, oX12_isWord)]) (S := [(124, 2, 0, oX12_place)]) (List.forall_mem_cons.mpr ⟨⟨mX12_check, n + 0, 2, TX12, 53, rfl, by omega, kX12_309, WX12_check, rfl, CX12_check g (n)⟩, (List.forall_mem_cons.mpr ⟨⟨mX12_advance, n + 1, 0, TX12, 53, rfl, by omega, kX12_313, WX12_advance, rfl, CX12_advance g (n)⟩, (List.forall_mem_cons.mpr ⟨⟨mX12_nameHere, n + 1, 0, TX12, 53, rfl, by omega, kX12_322, WX12_nameHere, rfl, CX12_nameHere g (n)⟩, (List.forall_mem_cons.mpr ⟨⟨mX12_integer, n + 2, 1, TX12, 53, rfl, by omega, kX12_325, WX12_integer, rfl, CX12_integer g (n)⟩, (List.forall_mem_cons.mpr ⟨⟨mX12_isWord, n + 0, 1, TX12, 53, rfl, by omega, kX12_329, WX12_isWord, rfl, CX12_isWord g (n)⟩, (fun _ h => absurd h List.not_mem_nil)⟩)⟩)⟩)⟩)⟩) (List.forall_mem_cons.mpr ⟨⟨mX12_place, n + 0, by omega, Or.inl kX12_124, WX12_place, CX12_place g (n)⟩, (fun _ h => absurd h List.not_mem_nil)⟩) [115] 20 _ _ _ _ ?_
    simp (maxSteps := 1000000) [↓Bool.cond_eq_ite, -Prod.forall, -Prod.exists, -Prod.mk.injEq, jvk, tX12_readPerson, jtb, jol, jst, jlk, jcmp, jbin, jfl, fX12, jc2, lX12, jcat, jel, lv_args, Value.category, jins, jsrt, jins2, jble, jblt, jf3, List.filter_cons, List.filter_nil, G_m, oX12_check, oX12_advance, oX12_nameHere, oX12_place, oX12_integer, oX12_isWord, joII, joR, joRI, joRII, joRJ, -Int32.not_le, -Int32.not_lt, -Int64.not_le, -Int64.not_lt, i3lt, i6lt, e43, e44, hle, n1]
    try simp (disch := omega) [-Prod.forall, -Prod.exists, -Prod.mk.injEq, -Int32.not_le, -Int32.not_lt, -Int64.not_le, -Int64.not_lt, i3lt, i6lt, e43, e44, hle, n1]
    exact k1
  | succ d ih =>
    intro r τ hd hr h hf e43 e44 k L
    have hlt : ¬ nI R ≤ nI r := nI_ge (by omega) (by omega)
    have e13 : 13 + nI r = nI (13 + r) := nI_add 13 r
    have e7 : 7 + nI r = nI (7 + r) := nI_add 7 r
    have jP : jin (nI P) 10 := jin_nI hP (by decide)
    have j13 : jin (nI (13 + r)) 20 := jin_nI (by omega) (by decide)
    have j7 : jin (nI (7 + r)) 20 := jin_nI (by omega) (by decide)
    have m13 : mpl (nI P) (nI (13 + r)) = 8 + 20 * P + (13 + r) := by unfold mpl; rw [nI_clamp (by omega), nI_clamp (by omega)]
    have m7 : mpl (nI P) (nI (7 + r)) = 8 + 20 * P + (7 + r) := by unfold mpl; rw [nI_clamp (by omega), nI_clamp (by omega)]
    have q13 := jN_208 (k := 8 + 20 * P + (13 + r)) (by omega)
    have q7 := jN_208 (k := 8 + 20 * P + (7 + r)) (by omega)
    have h9 : ∃ hi, (9999 : Int32) = nI hi ∧ hi ≤ 99999 := ⟨9999, rfl, by decide⟩
    obtain ⟨τ1, e1⟩ : ∃ τ1, τ1 = jup τ 347 (8 + 20 * P + (13 + r)) 0 := ⟨_, rfl⟩
    have h1 : rT τ1 := by rw [e1]; exact h
    have hf1 : ¬ τ1.1 322 41 = 0 := by rw [e1]; exact hf
    have f43 : τ1.1 322 43 = nI R := by rw [e1]; exact e43
    have f44 : τ1.1 322 44 = nI P := by rw [e1]; exact e44
    have w1 : jfr a47 b0 τ τ1 := by rw [e1]; exact jfr.rfl.up _ rfl
    refine jW.mono (L' := [(0, .ref 322), (1, .int (nI r))]) ?_ (by simp)
    refine jvk_ok TX12_readPerson (V := [(309, 3, 12, oX12_check), (313, 1, 12, oX12_advance), (322, 1, 12, oX12_nameHere), (325, 2, 12, oX12_integer), (329, 2, 12, oX12_isWord)]) (S := [(124, 2, 0, oX12_place)]) (List.forall_mem_cons.mpr ⟨⟨mX12_check, n + 0, 2, TX12, 53, rfl, by omega, kX12_309, WX12_check, rfl, CX12_check g (n)⟩, (List.forall_mem_cons.mpr ⟨⟨mX12_advance, n + 1, 0, TX12, 53, rfl, by omega, kX12_313, WX12_advance, rfl, CX12_advance g (n)⟩, (List.forall_mem_cons.mpr ⟨⟨mX12_nameHere, n + 1, 0, TX12, 53, rfl, by omega, kX12_322, WX12_nameHere, rfl, CX12_nameHere g (n)⟩, (List.forall_mem_cons.mpr ⟨⟨mX12_integer, n + 2, 1, TX12, 53, rfl, by omega, kX12_325, WX12_integer, rfl, CX12_integer g (n)⟩, (List.forall_mem_cons.mpr ⟨⟨mX12_isWord, n + 0, 1, TX12, 53, rfl, by omega, kX12_329, WX12_isWord, rfl, CX12_isWord g (n)⟩, (fun _ h => absurd h List.not_mem_nil)⟩)⟩)⟩)⟩)⟩) (List.forall_mem_cons.mpr ⟨⟨mX12_place, n + 0, by omega, Or.inl kX12_124, WX12_place, CX12_place g (n)⟩, (fun _ h => absurd h List.not_mem_nil)⟩) [167, 115] 40 _ _ _ _ ?_
    simp (maxSteps := 1000000) [↓Bool.cond_eq_ite, -Prod.forall, -Prod.exists, -Prod.mk.injEq, jvk, tX12_readPerson, jtb, jol, jst, jlk, jcmp, jbin, jfl, fX12, jc2, lX12, jcat, jel, lv_args, Value.category, jins, jsrt, jins2, jble, jblt, jf3, List.filter_cons, List.filter_nil, G_m, oX12_check, oX12_advance, oX12_nameHere, oX12_place, oX12_integer, oX12_isWord, joII, joR, joRI, joRII, joRJ, -Int32.not_le, -Int32.not_lt, -Int64.not_le, -Int64.not_lt, i3lt, i6lt, e43, e44, hlt, hf, e13, jP, j13, m13, q13]
    try simp (disch := omega) [-Prod.forall, -Prod.exists, -Prod.mk.injEq, -Int32.not_le, -Int32.not_lt, -Int64.not_le, -Int64.not_lt, i3lt, i6lt, e43, e44, hlt, hf, e13, jP, j13, m13, q13]
    rw [← e1]
    refine jvk_ok TX12_readPerson (V := [(309, 3, 12, oX12_check), (313, 1, 12, oX12_advance), (322, 1, 12, oX12_nameHere), (325, 2, 12, oX12_integer), (329, 2, 12, oX12_isWord)]) (S := [(124, 2, 0, oX12_place)]) (List.forall_mem_cons.mpr ⟨⟨mX12_check, n + 0, 2, TX12, 53, rfl, by omega, kX12_309, WX12_check, rfl, CX12_check g (n)⟩, (List.forall_mem_cons.mpr ⟨⟨mX12_advance, n + 1, 0, TX12, 53, rfl, by omega, kX12_313, WX12_advance, rfl, CX12_advance g (n)⟩, (List.forall_mem_cons.mpr ⟨⟨mX12_nameHere, n + 1, 0, TX12, 53, rfl, by omega, kX12_322, WX12_nameHere, rfl, CX12_nameHere g (n)⟩, (List.forall_mem_cons.mpr ⟨⟨mX12_integer, n + 2, 1, TX12, 53, rfl, by omega, kX12_325, WX12_integer, rfl, CX12_integer g (n)⟩, (List.forall_mem_cons.mpr ⟨⟨mX12_isWord, n + 0, 1, TX12, 53, rfl, by omega, kX12_329, WX12_isWord, rfl, CX12_isWord g (n)⟩, (fun _ h => absurd h List.not_mem_nil)⟩)⟩)⟩)⟩)⟩) (List.forall_mem_cons.mpr ⟨⟨mX12_place, n + 0, by omega, Or.inl kX12_124, WX12_place, CX12_place g (n)⟩, (fun _ h => absurd h List.not_mem_nil)⟩) [189, 115] 40 _ _ _ _ ?_
    simp (maxSteps := 1000000) [↓Bool.cond_eq_ite, -Prod.forall, -Prod.exists, -Prod.mk.injEq, jvk, tX12_readPerson, jtb, jol, jst, jlk, jcmp, jbin, jfl, fX12, jc2, lX12, jcat, jel, lv_args, Value.category, jins, jsrt, jins2, jble, jblt, jf3, List.filter_cons, List.filter_nil, G_m, oX12_check, oX12_advance, oX12_nameHere, oX12_place, oX12_integer, oX12_isWord, joII, joR, joRI, joRII, joRJ, -Int32.not_le, -Int32.not_lt, -Int64.not_le, -Int64.not_lt, i3lt, i6lt, f44, e7, jP, j7, m7, q7, h1, hf1, h9]
    try simp (disch := omega) [-Prod.forall, -Prod.exists, -Prod.mk.injEq, -Int32.not_le, -Int32.not_lt, -Int64.not_le, -Int64.not_lt, i3lt, i6lt, f44, e7, jP, j7, m7, q7, h1, hf1, h9]
    intro v0 τ0 hv0 a1 a2 a3 a4
    subst hv0
    subst a3
    have k1 := ih (r + 1) (jup τ0 347 (8 + 20 * P + (7 + r)) (τ0.1 322 38)) (by omega) (by omega) h1 hf1 f43 f44 (fun τ' f' => k τ' ((w1.up _ rfl).tr f'))
    refine jvk_ok TX12_readPerson (V := [(309, 3, 12, oX12_check), (313, 1, 12, oX12_advance), (322, 1, 12, oX12_nameHere), (325, 2, 12, oX12_integer), (329, 2, 12, oX12_isWord)]) (S := [(124, 2, 0, oX12_place)]) (List.forall_mem_cons.mpr ⟨⟨mX12_check, n + 0, 2, TX12, 53, rfl, by omega, kX12_309, WX12_check, rfl, CX12_check g (n)⟩, (List.forall_mem_cons.mpr ⟨⟨mX12_advance, n + 1, 0, TX12, 53, rfl, by omega, kX12_313, WX12_advance, rfl, CX12_advance g (n)⟩, (List.forall_mem_cons.mpr ⟨⟨mX12_nameHere, n + 1, 0, TX12, 53, rfl, by omega, kX12_322, WX12_nameHere, rfl, CX12_nameHere g (n)⟩, (List.forall_mem_cons.mpr ⟨⟨mX12_integer, n + 2, 1, TX12, 53, rfl, by omega, kX12_325, WX12_integer, rfl, CX12_integer g (n)⟩, (List.forall_mem_cons.mpr ⟨⟨mX12_isWord, n + 0, 1, TX12, 53, rfl, by omega, kX12_329, WX12_isWord, rfl, CX12_isWord g (n)⟩, (fun _ h => absurd h List.not_mem_nil)⟩)⟩)⟩)⟩)⟩) (List.forall_mem_cons.mpr ⟨⟨mX12_place, n + 0, by omega, Or.inl kX12_124, WX12_place, CX12_place g (n)⟩, (fun _ h => absurd h List.not_mem_nil)⟩) [115] 40 _ _ _ _ ?_
    simp (maxSteps := 1000000) [↓Bool.cond_eq_ite, -Prod.forall, -Prod.exists, -Prod.mk.injEq, jvk, tX12_readPerson, jtb, jol, jst, jlk, jcmp, jbin, jfl, fX12, jc2, lX12, jcat, jel, lv_args, Value.category, jins, jsrt, jins2, jble, jblt, jf3, List.filter_cons, List.filter_nil, G_m, oX12_check, oX12_advance, oX12_nameHere, oX12_place, oX12_integer, oX12_isWord, joII, joR, joRI, joRII, joRJ, -Int32.not_le, -Int32.not_lt, -Int64.not_le, -Int64.not_lt, i3lt, i6lt, q7, nI_1]
    try simp (disch := omega) [-Prod.forall, -Prod.exists, -Prod.mk.injEq, -Int32.not_le, -Int32.not_lt, -Int64.not_le, -Int64.not_lt, i3lt, i6lt, q7, nI_1]
    exact k1 _
set_option maxRecDepth 100000 in
set_option maxHeartbeats 4000000 in
theorem CPl_n (g : jG) (n : Nat) {post : Option Value → jM → Prop} {σ : jM} {P R : Nat} (hP : P < 10) (hR : R ≤ 6) : ∀ (d r s : Nat) (μ : pM) (τ : jM), R - r = d → r ≤ R → rT τ → tk τ s → rdA τ μ → jfr aPe bTk σ τ → τ.1 322 43 = nI R → τ.1 322 44 = nI P → (∀ τ', jfr aPe bTk σ τ' → rT τ' → rRes τ' (pVals (tB σ) (tL σ) P d r s μ) → post none (jup τ' 322 44 (nI (P + 1)))) → ∀ L, jW g mX12_readPerson (n + 3) post 115 ((0, .ref 322) :: (1, .int (nI r)) :: L) [] τ := by
  intro d
  induction d with
  | zero =>
    intro r s μ τ hd hr h hs hμ f e43 e44 k L
    have hle : nI R ≤ nI r := nI_le (by omega) (by omega)
    have n1 : nI P + 1 = nI (P + 1) := nI_1 _
    have k1 := k τ f h ⟨hs, hμ⟩
    refine jW.mono (L' := [(0, .ref 322), (1, .int (nI r))]) ?_ (by simp)
    refine jvk_ok TX12_readPerson (V := [(309, 3, 12, oX12_check), (313, 1, 12, oX12_advance), (322, 1, 12, oX12_nameHere), (325, 2, 12, oX12_integer), (329, 2, 12, oX12_isWord)]) (S := [(124, 2, 0, oX12_place)]) (List.forall_mem_cons.mpr ⟨⟨mX12_check, n + 0, 2, TX12, 53, rfl, by omega, kX12_309, WX12_check, rfl, CX12_check g (n)⟩, (List.forall_mem_cons.mpr ⟨⟨mX12_advance, n + 1, 0, TX12, 53, rfl, by omega, kX12_313, WX12_advance, rfl, CX12_advance g (n)⟩, (List.forall_mem_cons.mpr ⟨⟨mX12_nameHere, n + 1, 0, TX12, 53, rfl, by omega, kX12_322, WX12_nameHere, rfl, CX12_nameHere g (n)⟩, (List.forall_mem_cons.mpr ⟨⟨mX12_integer, n + 2, 1, TX12, 53, rfl, by omega, kX12_325, WX12_integer, rfl, CX12_integer g (n)⟩, (List.forall_mem_cons.mpr ⟨⟨mX12_isWord, n + 0, 1, TX12, 53, rfl, by omega, kX12_329, WX12_isWord, rfl, CX12_isWord g (n)⟩, (fun _ h => absurd h List.not_mem_nil)⟩)⟩)⟩)⟩)⟩) (List.forall_mem_cons.mpr ⟨⟨mX12_place, n + 0, by omega, Or.inl kX12_124, WX12_place, CX12_place g (n)⟩, (fun _ h => absurd h List.not_mem_nil)⟩) [115] 20 _ _ _ _ ?_
    simp (maxSteps := 1000000) [↓Bool.cond_eq_ite, -Prod.forall, -Prod.exists, -Prod.mk.injEq, jvk, tX12_readPerson, jtb, jol, jst, jlk, jcmp, jbin, jfl, fX12, jc2, lX12, jcat, jel, lv_args, Value.category, jins, jsrt, jins2, jble, jblt, jf3, List.filter_cons, List.filter_nil, G_m, oX12_check, oX12_advance, oX12_nameHere, oX12_place, oX12_integer, oX12_isWord, joII, joR, joRI, joRII, joRJ, -Int32.not_le, -Int32.not_lt, -Int64.not_le, -Int64.not_lt, i3lt, i6lt, e43, e44, hle, n1]
    try simp (disch := omega) [-Prod.forall, -Prod.exists, -Prod.mk.injEq, -Int32.not_le, -Int32.not_lt, -Int64.not_le, -Int64.not_lt, i3lt, i6lt, e43, e44, hle, n1]
    exact k1
  | succ d ih =>
    intro r s μ τ hd hr h hs hμ f e43 e44 k L
    obtain ⟨g1, g2⟩ := pe_fr f
    have h9L := (rT_n h).1
    have hlt : ¬ nI R ≤ nI r := nI_ge (by omega) (by omega)
    have e13 : 13 + nI r = nI (13 + r) := nI_add 13 r
    have e7 : 7 + nI r = nI (7 + r) := nI_add 7 r
    have jP : jin (nI P) 10 := jin_nI hP (by decide)
    have j13 : jin (nI (13 + r)) 20 := jin_nI (by omega) (by decide)
    have j7 : jin (nI (7 + r)) 20 := jin_nI (by omega) (by decide)
    have m13 : mpl (nI P) (nI (13 + r)) = 8 + 20 * P + (13 + r) := by unfold mpl; rw [nI_clamp (by omega), nI_clamp (by omega)]
    have m7 : mpl (nI P) (nI (7 + r)) = 8 + 20 * P + (7 + r) := by unfold mpl; rw [nI_clamp (by omega), nI_clamp (by omega)]
    have q13 := jN_208 (k := 8 + 20 * P + (13 + r)) (by omega)
    have q7 := jN_208 (k := 8 + 20 * P + (7 + r)) (by omega)
    have h9 : ∃ hi, (9999 : Int32) = nI hi ∧ hi ≤ 99999 := ⟨9999, rfl, by decide⟩
    have hf := hs.2.1
    have e37 := hs.2.2.2.2.1
    refine jW.mono (L' := [(0, .ref 322), (1, .int (nI r))]) ?_ (by simp)
    have hno : (τ.1 322 41 = 0 ∧ τ.1 322 37 = 1 ∧ τ.2.1 322 39 = 463) ↔ isW (tB σ) (tL σ) s wNo = true := by
      have e463 : (463 : Int64) = lN (hL wNo) := by rw [hL_all.2.2.1]; rfl
      rw [← g1, ← g2]
      refine ⟨fun z => ?_, fun z => ?_⟩
      · have k2 := tkc_1.mp (e37.symm.trans z.2.1)
        exact (isW_wh k2 wd_all.2.2.1).mp (by rw [← (hs.2.2.2.2.2.2.2 k2).2, z.2.2, e463])
      · have k2 := isW_kn z
        exact ⟨hf, e37.trans (tkc_1.mpr k2), by rw [(hs.2.2.2.2.2.2.2 k2).2, (isW_wh k2 wd_all.2.2.1).mpr z, e463]⟩
    by_cases c : isW (tB σ) (tL σ) s wNo = true
    · have c1 := hno.mpr c
      obtain ⟨τ1, e1⟩ : ∃ τ1, τ1 = jup τ 347 (8 + 20 * P + (13 + r)) 1 := ⟨_, rfl⟩
      have h1 : rT τ1 := by rw [e1]; exact h
      have t1 : tk τ1 s := by rw [e1]; exact hs
      have f1 := t1.2.1
      have w1 : jfr aPe bTk σ τ1 := by rw [e1]; exact f.up _ rfl
      have u1' : rdA τ1 (u1 μ 347 (8 + 20 * P + (13 + r)) 1) := by rw [e1]; exact rdA_up hμ _ _ _
      refine jvk_ok TX12_readPerson (V := [(309, 3, 12, oX12_check), (313, 1, 12, oX12_advance), (322, 1, 12, oX12_nameHere), (325, 2, 12, oX12_integer), (329, 2, 12, oX12_isWord)]) (S := [(124, 2, 0, oX12_place)]) (List.forall_mem_cons.mpr ⟨⟨mX12_check, n + 0, 2, TX12, 53, rfl, by omega, kX12_309, WX12_check, rfl, CX12_check g (n)⟩, (List.forall_mem_cons.mpr ⟨⟨mX12_advance, n + 1, 0, TX12, 53, rfl, by omega, kX12_313, WX12_advance, rfl, CX12_advance g (n)⟩, (List.forall_mem_cons.mpr ⟨⟨mX12_nameHere, n + 1, 0, TX12, 53, rfl, by omega, kX12_322, WX12_nameHere, rfl, CX12_nameHere g (n)⟩, (List.forall_mem_cons.mpr ⟨⟨mX12_integer, n + 2, 1, TX12, 53, rfl, by omega, kX12_325, WX12_integer, rfl, CX12_integer g (n)⟩, (List.forall_mem_cons.mpr ⟨⟨mX12_isWord, n + 0, 1, TX12, 53, rfl, by omega, kX12_329, WX12_isWord, rfl, CX12_isWord g (n)⟩, (fun _ h => absurd h List.not_mem_nil)⟩)⟩)⟩)⟩)⟩) (List.forall_mem_cons.mpr ⟨⟨mX12_place, n + 0, by omega, Or.inl kX12_124, WX12_place, CX12_place g (n)⟩, (fun _ h => absurd h List.not_mem_nil)⟩) [160, 115] 40 _ _ _ _ ?_
      simp (maxSteps := 1000000) [↓Bool.cond_eq_ite, -Prod.forall, -Prod.exists, -Prod.mk.injEq, jvk, tX12_readPerson, jtb, jol, jst, jlk, jcmp, jbin, jfl, fX12, jc2, lX12, jcat, jel, lv_args, Value.category, jins, jsrt, jins2, jble, jblt, jf3, List.filter_cons, List.filter_nil, G_m, oX12_check, oX12_advance, oX12_nameHere, oX12_place, oX12_integer, oX12_isWord, joII, joR, joRI, joRII, joRJ, -Int32.not_le, -Int32.not_lt, -Int64.not_le, -Int64.not_lt, i3lt, i6lt, e43, e44, hlt, c1, e13, jP, j13, m13, q13]
      try simp (disch := omega) [-Prod.forall, -Prod.exists, -Prod.mk.injEq, -Int32.not_le, -Int32.not_lt, -Int64.not_le, -Int64.not_lt, i3lt, i6lt, e43, e44, hlt, c1, e13, jP, j13, m13, q13]
      rw [← e1]
      refine jvk_ok TX12_readPerson (V := [(309, 3, 12, oX12_check), (313, 1, 12, oX12_advance), (322, 1, 12, oX12_nameHere), (325, 2, 12, oX12_integer), (329, 2, 12, oX12_isWord)]) (S := [(124, 2, 0, oX12_place)]) (List.forall_mem_cons.mpr ⟨⟨mX12_check, n + 0, 2, TX12, 53, rfl, by omega, kX12_309, WX12_check, rfl, CX12_check g (n)⟩, (List.forall_mem_cons.mpr ⟨⟨mX12_advance, n + 1, 0, TX12, 53, rfl, by omega, kX12_313, WX12_advance, rfl, CX12_advance g (n)⟩, (List.forall_mem_cons.mpr ⟨⟨mX12_nameHere, n + 1, 0, TX12, 53, rfl, by omega, kX12_322, WX12_nameHere, rfl, CX12_nameHere g (n)⟩, (List.forall_mem_cons.mpr ⟨⟨mX12_integer, n + 2, 1, TX12, 53, rfl, by omega, kX12_325, WX12_integer, rfl, CX12_integer g (n)⟩, (List.forall_mem_cons.mpr ⟨⟨mX12_isWord, n + 0, 1, TX12, 53, rfl, by omega, kX12_329, WX12_isWord, rfl, CX12_isWord g (n)⟩, (fun _ h => absurd h List.not_mem_nil)⟩)⟩)⟩)⟩)⟩) (List.forall_mem_cons.mpr ⟨⟨mX12_place, n + 0, by omega, Or.inl kX12_124, WX12_place, CX12_place g (n)⟩, (fun _ h => absurd h List.not_mem_nil)⟩) [164, 115] 40 _ _ _ _ ?_
      simp (maxSteps := 1000000) [↓Bool.cond_eq_ite, -Prod.forall, -Prod.exists, -Prod.mk.injEq, jvk, tX12_readPerson, jtb, jol, jst, jlk, jcmp, jbin, jfl, fX12, jc2, lX12, jcat, jel, lv_args, Value.category, jins, jsrt, jins2, jble, jblt, jf3, List.filter_cons, List.filter_nil, G_m, oX12_check, oX12_advance, oX12_nameHere, oX12_place, oX12_integer, oX12_isWord, joII, joR, joRI, joRII, joRJ, -Int32.not_le, -Int32.not_lt, -Int64.not_le, -Int64.not_lt, i3lt, i6lt, h1]
      try simp (disch := omega) [-Prod.forall, -Prod.exists, -Prod.mk.injEq, -Int32.not_le, -Int32.not_lt, -Int64.not_le, -Int64.not_lt, i3lt, i6lt, h1]
      intro v0 τ0 hv0 a1 a2
      subst hv0
      obtain ⟨b1, b2, b3⟩ := a2 f1
      rw [tk_nx h1 t1, (pe_fr w1).1, (pe_fr w1).2] at b3
      have wi : jfr aIn bTk τ1 τ0 := b1.weak (fun a j q => in_Tk a j q) (fun _ q => q)
      have k1 := ih (r + 1) (nx (tB σ) (tL σ) s) (u1 μ 347 (8 + 20 * P + (13 + r)) 1) τ0 (by omega) (by omega) b2 b3 (rdA_fr u1' wi) (w1.tr (wi.weak (fun a j q => pe_In a j q) (fun _ q => q))) ((wi.2.2 322 43 rfl).trans (by rw [e1]; exact e43)) ((wi.2.2 322 44 rfl).trans (by rw [e1]; exact e44)) (fun τ' f' hr' hres => k τ' f' hr' (by
        show rRes τ' (if isW (tB σ) (tL σ) s wNo = true then _ else _)
        rw [if_pos c]; exact hres))
      refine jvk_ok TX12_readPerson (V := [(309, 3, 12, oX12_check), (313, 1, 12, oX12_advance), (322, 1, 12, oX12_nameHere), (325, 2, 12, oX12_integer), (329, 2, 12, oX12_isWord)]) (S := [(124, 2, 0, oX12_place)]) (List.forall_mem_cons.mpr ⟨⟨mX12_check, n + 0, 2, TX12, 53, rfl, by omega, kX12_309, WX12_check, rfl, CX12_check g (n)⟩, (List.forall_mem_cons.mpr ⟨⟨mX12_advance, n + 1, 0, TX12, 53, rfl, by omega, kX12_313, WX12_advance, rfl, CX12_advance g (n)⟩, (List.forall_mem_cons.mpr ⟨⟨mX12_nameHere, n + 1, 0, TX12, 53, rfl, by omega, kX12_322, WX12_nameHere, rfl, CX12_nameHere g (n)⟩, (List.forall_mem_cons.mpr ⟨⟨mX12_integer, n + 2, 1, TX12, 53, rfl, by omega, kX12_325, WX12_integer, rfl, CX12_integer g (n)⟩, (List.forall_mem_cons.mpr ⟨⟨mX12_isWord, n + 0, 1, TX12, 53, rfl, by omega, kX12_329, WX12_isWord, rfl, CX12_isWord g (n)⟩, (fun _ h => absurd h List.not_mem_nil)⟩)⟩)⟩)⟩)⟩) (List.forall_mem_cons.mpr ⟨⟨mX12_place, n + 0, by omega, Or.inl kX12_124, WX12_place, CX12_place g (n)⟩, (fun _ h => absurd h List.not_mem_nil)⟩) [115] 40 _ _ _ _ ?_
      simp (maxSteps := 1000000) [↓Bool.cond_eq_ite, -Prod.forall, -Prod.exists, -Prod.mk.injEq, jvk, tX12_readPerson, jtb, jol, jst, jlk, jcmp, jbin, jfl, fX12, jc2, lX12, jcat, jel, lv_args, Value.category, jins, jsrt, jins2, jble, jblt, jf3, List.filter_cons, List.filter_nil, G_m, oX12_check, oX12_advance, oX12_nameHere, oX12_place, oX12_integer, oX12_isWord, joII, joR, joRI, joRII, joRJ, -Int32.not_le, -Int32.not_lt, -Int64.not_le, -Int64.not_lt, i3lt, i6lt, nI_1]
      try simp (disch := omega) [-Prod.forall, -Prod.exists, -Prod.mk.injEq, -Int32.not_le, -Int32.not_lt, -Int64.not_le, -Int64.not_lt, i3lt, i6lt, nI_1]
      exact k1 _
    · have c1 : ¬ (τ.1 322 41 = 0 ∧ τ.1 322 37 = 1 ∧ τ.2.1 322 39 = 463) := fun z => c (hno.mp z)
      obtain ⟨τ1, e1⟩ : ∃ τ1, τ1 = jup τ 347 (8 + 20 * P + (13 + r)) 0 := ⟨_, rfl⟩
      have h1 : rT τ1 := by rw [e1]; exact h
      have t1 : tk τ1 s := by rw [e1]; exact hs
      have hx1 : ∃ s, tk τ1 s := ⟨s, t1⟩
      have f1 := t1.2.1
      have w1 : jfr aPe bTk σ τ1 := by rw [e1]; exact f.up _ rfl
      have u1' : rdA τ1 (u1 μ 347 (8 + 20 * P + (13 + r)) 0) := by rw [e1]; exact rdA_up hμ _ _ _
      have f43 : τ1.1 322 43 = nI R := by rw [e1]; exact e43
      have f44 : τ1.1 322 44 = nI P := by rw [e1]; exact e44
      have if0 : (if (τ.1 322 41 = 0 ∧ τ.1 322 37 = 1 ∧ τ.2.1 322 39 = 463) then (1 : Int32) else 0) = 0 := if_neg c1
      refine jvk_ok TX12_readPerson (V := [(309, 3, 12, oX12_check), (313, 1, 12, oX12_advance), (322, 1, 12, oX12_nameHere), (325, 2, 12, oX12_integer), (329, 2, 12, oX12_isWord)]) (S := [(124, 2, 0, oX12_place)]) (List.forall_mem_cons.mpr ⟨⟨mX12_check, n + 0, 2, TX12, 53, rfl, by omega, kX12_309, WX12_check, rfl, CX12_check g (n)⟩, (List.forall_mem_cons.mpr ⟨⟨mX12_advance, n + 1, 0, TX12, 53, rfl, by omega, kX12_313, WX12_advance, rfl, CX12_advance g (n)⟩, (List.forall_mem_cons.mpr ⟨⟨mX12_nameHere, n + 1, 0, TX12, 53, rfl, by omega, kX12_322, WX12_nameHere, rfl, CX12_nameHere g (n)⟩, (List.forall_mem_cons.mpr ⟨⟨mX12_integer, n + 2, 1, TX12, 53, rfl, by omega, kX12_325, WX12_integer, rfl, CX12_integer g (n)⟩, (List.forall_mem_cons.mpr ⟨⟨mX12_isWord, n + 0, 1, TX12, 53, rfl, by omega, kX12_329, WX12_isWord, rfl, CX12_isWord g (n)⟩, (fun _ h => absurd h List.not_mem_nil)⟩)⟩)⟩)⟩)⟩) (List.forall_mem_cons.mpr ⟨⟨mX12_place, n + 0, by omega, Or.inl kX12_124, WX12_place, CX12_place g (n)⟩, (fun _ h => absurd h List.not_mem_nil)⟩) [167, 115] 40 _ _ _ _ ?_
      simp (maxSteps := 1000000) [↓Bool.cond_eq_ite, -Prod.forall, -Prod.exists, -Prod.mk.injEq, jvk, tX12_readPerson, jtb, jol, jst, jlk, jcmp, jbin, jfl, fX12, jc2, lX12, jcat, jel, lv_args, Value.category, jins, jsrt, jins2, jble, jblt, jf3, List.filter_cons, List.filter_nil, G_m, oX12_check, oX12_advance, oX12_nameHere, oX12_place, oX12_integer, oX12_isWord, joII, joR, joRI, joRII, joRJ, -Int32.not_le, -Int32.not_lt, -Int64.not_le, -Int64.not_lt, i3lt, i6lt, e43, e44, hlt, if0, e13, jP, j13, m13, q13]
      try simp (disch := omega) [-Prod.forall, -Prod.exists, -Prod.mk.injEq, -Int32.not_le, -Int32.not_lt, -Int64.not_le, -Int64.not_lt, i3lt, i6lt, e43, e44, hlt, if0, e13, jP, j13, m13, q13]
      rw [← e1]
      refine jvk_ok TX12_readPerson (V := [(309, 3, 12, oX12_check), (313, 1, 12, oX12_advance), (322, 1, 12, oX12_nameHere), (325, 2, 12, oX12_integer), (329, 2, 12, oX12_isWord)]) (S := [(124, 2, 0, oX12_place)]) (List.forall_mem_cons.mpr ⟨⟨mX12_check, n + 0, 2, TX12, 53, rfl, by omega, kX12_309, WX12_check, rfl, CX12_check g (n)⟩, (List.forall_mem_cons.mpr ⟨⟨mX12_advance, n + 1, 0, TX12, 53, rfl, by omega, kX12_313, WX12_advance, rfl, CX12_advance g (n)⟩, (List.forall_mem_cons.mpr ⟨⟨mX12_nameHere, n + 1, 0, TX12, 53, rfl, by omega, kX12_322, WX12_nameHere, rfl, CX12_nameHere g (n)⟩, (List.forall_mem_cons.mpr ⟨⟨mX12_integer, n + 2, 1, TX12, 53, rfl, by omega, kX12_325, WX12_integer, rfl, CX12_integer g (n)⟩, (List.forall_mem_cons.mpr ⟨⟨mX12_isWord, n + 0, 1, TX12, 53, rfl, by omega, kX12_329, WX12_isWord, rfl, CX12_isWord g (n)⟩, (fun _ h => absurd h List.not_mem_nil)⟩)⟩)⟩)⟩)⟩) (List.forall_mem_cons.mpr ⟨⟨mX12_place, n + 0, by omega, Or.inl kX12_124, WX12_place, CX12_place g (n)⟩, (fun _ h => absurd h List.not_mem_nil)⟩) [189, 115] 40 _ _ _ _ ?_
      simp (maxSteps := 1000000) [↓Bool.cond_eq_ite, -Prod.forall, -Prod.exists, -Prod.mk.injEq, jvk, tX12_readPerson, jtb, jol, jst, jlk, jcmp, jbin, jfl, fX12, jc2, lX12, jcat, jel, lv_args, Value.category, jins, jsrt, jins2, jble, jblt, jf3, List.filter_cons, List.filter_nil, G_m, oX12_check, oX12_advance, oX12_nameHere, oX12_place, oX12_integer, oX12_isWord, joII, joR, joRI, joRII, joRJ, -Int32.not_le, -Int32.not_lt, -Int64.not_le, -Int64.not_lt, i3lt, i6lt, f44, e7, jP, j7, m7, q7, h1, hx1, h9]
      try simp (disch := omega) [-Prod.forall, -Prod.exists, -Prod.mk.injEq, -Int32.not_le, -Int32.not_lt, -Int64.not_le, -Int64.not_lt, i3lt, i6lt, f44, e7, jP, j7, m7, q7, h1, hx1, h9]
      intro v0 τ0 hv0 a1 a2 a3 a4
      subst hv0
      have a4 := a4 s t1
      rw [(pe_fr w1).1, (pe_fr w1).2] at a4
      have w2 : jfr aPe bTk σ τ0 := w1.tr (a1.weak (fun a j q => pe_In a j q) (fun _ q => q))
      have z43 : τ0.1 322 43 = nI R := (a1.2.2 322 43 rfl).trans f43
      have z44 : τ0.1 322 44 = nI P := (a1.2.2 322 44 rfl).trans f44
      rcases eP : pInt (tB σ) (tL σ) 9999 s with e | y
      · rw [eP] at a4
        have a4 : flt τ0 e := a4
        have hf0 : ¬ τ0.1 322 41 = 0 := by rw [a4.1]; exact a4.2.1
        have k1 := CPl_f g n (post := post) hP hR (R - (r + 1)) (r + 1) (jup τ0 347 (8 + 20 * P + (7 + r)) (τ1.1 322 38)) rfl (by omega) a2 hf0 z43 z44 (fun τ' f' => k τ' ((w2.up _ rfl).tr (f'.weak (fun a j q => by
          unfold aPe at q
          simp only [Bool.or_eq_false_iff] at q
          exact q.2) (fun _ _ => rfl))) (by
          have e41 : ∀ j, τ'.1 322 j = τ0.1 322 j := fun j => f'.2.2 322 j rfl
          have e35 : tE τ' = tE τ0 := by unfold tE; rw [e41]
          have e34 : tL τ' = tL τ0 := by unfold tL; rw [e41]
          unfold rT
          rw [e41, e41, e35, e34]
          exact ⟨a2.1, a2.2.1, a2.2.2.1, fun j hj => by rw [f'.2.2 346 j rfl]; exact a2.2.2.2 j hj⟩) (by
          show rRes τ' (if isW (tB σ) (tL σ) s wNo = true then _ else match pInt (tB σ) (tL σ) 9999 s with | .inl e => .inl e | .inr v => _)
          rw [if_neg c, eP]
          exact ⟨(f'.2.2 322 41 rfl).trans a4.1, a4.2.1, (f'.2.2 322 36 rfl).trans a4.2.2⟩))
        refine jvk_ok TX12_readPerson (V := [(309, 3, 12, oX12_check), (313, 1, 12, oX12_advance), (322, 1, 12, oX12_nameHere), (325, 2, 12, oX12_integer), (329, 2, 12, oX12_isWord)]) (S := [(124, 2, 0, oX12_place)]) (List.forall_mem_cons.mpr ⟨⟨mX12_check, n + 0, 2, TX12, 53, rfl, by omega, kX12_309, WX12_check, rfl, CX12_check g (n)⟩, (List.forall_mem_cons.mpr ⟨⟨mX12_advance, n + 1, 0, TX12, 53, rfl, by omega, kX12_313, WX12_advance, rfl, CX12_advance g (n)⟩, (List.forall_mem_cons.mpr ⟨⟨mX12_nameHere, n + 1, 0, TX12, 53, rfl, by omega, kX12_322, WX12_nameHere, rfl, CX12_nameHere g (n)⟩, (List.forall_mem_cons.mpr ⟨⟨mX12_integer, n + 2, 1, TX12, 53, rfl, by omega, kX12_325, WX12_integer, rfl, CX12_integer g (n)⟩, (List.forall_mem_cons.mpr ⟨⟨mX12_isWord, n + 0, 1, TX12, 53, rfl, by omega, kX12_329, WX12_isWord, rfl, CX12_isWord g (n)⟩, (fun _ h => absurd h List.not_mem_nil)⟩)⟩)⟩)⟩)⟩) (List.forall_mem_cons.mpr ⟨⟨mX12_place, n + 0, by omega, Or.inl kX12_124, WX12_place, CX12_place g (n)⟩, (fun _ h => absurd h List.not_mem_nil)⟩) [115] 40 _ _ _ _ ?_
        simp (maxSteps := 1000000) [↓Bool.cond_eq_ite, -Prod.forall, -Prod.exists, -Prod.mk.injEq, jvk, tX12_readPerson, jtb, jol, jst, jlk, jcmp, jbin, jfl, fX12, jc2, lX12, jcat, jel, lv_args, Value.category, jins, jsrt, jins2, jble, jblt, jf3, List.filter_cons, List.filter_nil, G_m, oX12_check, oX12_advance, oX12_nameHere, oX12_place, oX12_integer, oX12_isWord, joII, joR, joRI, joRII, joRJ, -Int32.not_le, -Int32.not_lt, -Int64.not_le, -Int64.not_lt, i3lt, i6lt, q7, nI_1]
        try simp (disch := omega) [-Prod.forall, -Prod.exists, -Prod.mk.injEq, -Int32.not_le, -Int32.not_lt, -Int64.not_le, -Int64.not_lt, i3lt, i6lt, q7, nI_1]
        exact k1 _
      · rw [eP] at a4
        obtain ⟨b1, b2⟩ := (a4 : τ1.1 322 38 = nI y ∧ tk τ0 (nx (tB τ1) (tL τ1) s))
        rw [(pe_fr w1).1, (pe_fr w1).2] at b2
        have k1 := ih (r + 1) (nx (tB σ) (tL σ) s) (u1 (u1 μ 347 (8 + 20 * P + (13 + r)) 0) 347 (8 + 20 * P + (7 + r)) (nI y)) (jup τ0 347 (8 + 20 * P + (7 + r)) (nI y)) (by omega) (by omega) a2 b2 (rdA_up (rdA_fr u1' a1) _ _ _) (w2.up _ rfl) z43 z44 (fun τ' f' hr' hres => k τ' f' hr' (by
          show rRes τ' (if isW (tB σ) (tL σ) s wNo = true then _ else match pInt (tB σ) (tL σ) 9999 s with | .inl e => .inl e | .inr v => _)
          rw [if_neg c, eP]
          exact hres))
        refine jvk_ok TX12_readPerson (V := [(309, 3, 12, oX12_check), (313, 1, 12, oX12_advance), (322, 1, 12, oX12_nameHere), (325, 2, 12, oX12_integer), (329, 2, 12, oX12_isWord)]) (S := [(124, 2, 0, oX12_place)]) (List.forall_mem_cons.mpr ⟨⟨mX12_check, n + 0, 2, TX12, 53, rfl, by omega, kX12_309, WX12_check, rfl, CX12_check g (n)⟩, (List.forall_mem_cons.mpr ⟨⟨mX12_advance, n + 1, 0, TX12, 53, rfl, by omega, kX12_313, WX12_advance, rfl, CX12_advance g (n)⟩, (List.forall_mem_cons.mpr ⟨⟨mX12_nameHere, n + 1, 0, TX12, 53, rfl, by omega, kX12_322, WX12_nameHere, rfl, CX12_nameHere g (n)⟩, (List.forall_mem_cons.mpr ⟨⟨mX12_integer, n + 2, 1, TX12, 53, rfl, by omega, kX12_325, WX12_integer, rfl, CX12_integer g (n)⟩, (List.forall_mem_cons.mpr ⟨⟨mX12_isWord, n + 0, 1, TX12, 53, rfl, by omega, kX12_329, WX12_isWord, rfl, CX12_isWord g (n)⟩, (fun _ h => absurd h List.not_mem_nil)⟩)⟩)⟩)⟩)⟩) (List.forall_mem_cons.mpr ⟨⟨mX12_place, n + 0, by omega, Or.inl kX12_124, WX12_place, CX12_place g (n)⟩, (fun _ h => absurd h List.not_mem_nil)⟩) [115] 40 _ _ _ _ ?_
        simp (maxSteps := 1000000) [↓Bool.cond_eq_ite, -Prod.forall, -Prod.exists, -Prod.mk.injEq, jvk, tX12_readPerson, jtb, jol, jst, jlk, jcmp, jbin, jfl, fX12, jc2, lX12, jcat, jel, lv_args, Value.category, jins, jsrt, jins2, jble, jblt, jf3, List.filter_cons, List.filter_nil, G_m, oX12_check, oX12_advance, oX12_nameHere, oX12_place, oX12_integer, oX12_isWord, joII, joR, joRI, joRII, joRJ, -Int32.not_le, -Int32.not_lt, -Int64.not_le, -Int64.not_lt, i3lt, i6lt, q7, b1, nI_1]
        try simp (disch := omega) [-Prod.forall, -Prod.exists, -Prod.mk.injEq, -Int32.not_le, -Int32.not_lt, -Int64.not_le, -Int64.not_lt, i3lt, i6lt, q7, b1, nI_1]
        exact k1 _
