/-! the reference: people of a text, their names -/
/-! behind an error: readPerson -/
set_option maxRecDepth 100000 in
set_option maxHeartbeats 4000000 in
theorem CNl_readPerson (g : jG) (n : Nat) {post : Option Value → jM → Prop} {σ : jM} (hz : rSz σ) (hf : ¬ σ.1 322 41 = 0) (k : post none σ) : ∀ (d i : Nat), pe σ.1 - i = d → i ≤ pe σ.1 → jW g mX12_readPerson (n + 3) post 30 [(0, .ref 322), (1, .int (nI i))] [] σ := by
  have hN := rSz_n hz
  obtain ⟨hN10, hN4⟩ := hN.2.1
  intro d
  induction d with
  | zero =>
    intro i hd hi
    have hle : nI (pe σ.1) ≤ nI i := nI_le (by omega) (by omega)
    refine jvk_ok TX12_readPerson (V := [(309, 3, 12, oX12_check), (313, 1, 12, oX12_advance), (322, 1, 12, oX12_nameHere), (325, 2, 12, oX12_integer), (329, 2, 12, oX12_isWord)]) (S := [(124, 2, 0, oX12_place)]) (List.forall_mem_cons.mpr ⟨⟨mX12_check, n + 0, 2, TX12, 53, rfl, by omega, kX12_309, WX12_check, rfl, CX12_check g (n)⟩, (List.forall_mem_cons.mpr ⟨⟨mX12_advance, n + 1, 0, TX12, 53, rfl, by omega, kX12_313, WX12_advance, rfl, CX12_advance g (n)⟩, (List.forall_mem_cons.mpr ⟨⟨mX12_nameHere, n + 1, 0, TX12, 53, rfl, by omega, kX12_322, WX12_nameHere, rfl, CX12_nameHere g (n)⟩, (List.forall_mem_cons.mpr ⟨⟨mX12_integer, n + 2, 1, TX12, 53, rfl, by omega, kX12_325, WX12_integer, rfl, CX12_integer g (n)⟩, (List.forall_mem_cons.mpr ⟨⟨mX12_isWord, n + 0, 1, TX12, 53, rfl, by omega, kX12_329, WX12_isWord, rfl, CX12_isWord g (n)⟩, (fun _ h => absurd h List.not_mem_nil)⟩)⟩)⟩)⟩)⟩) (List.forall_mem_cons.mpr ⟨⟨mX12_place, n + 0, by omega, Or.inl kX12_124, WX12_place, CX12_place g (n)⟩, (fun _ h => absurd h List.not_mem_nil)⟩) [30] 20 _ _ _ _ ?_
    simp (maxSteps := 1000000) [↓Bool.cond_eq_ite, -Prod.forall, -Prod.exists, -Prod.mk.injEq, jvk, tX12_readPerson, jtb, jol, jst, jlk, jcmp, jbin, jfl, fX12, jc2, lX12, jcat, jel, lv_args, Value.category, jins, jsrt, jins2, jble, jblt, jf3, List.filter_cons, List.filter_nil, G_m, oX12_check, oX12_advance, oX12_nameHere, oX12_place, oX12_integer, oX12_isWord, joII, joR, joRI, joRII, joRJ, -Int32.not_le, -Int32.not_lt, -Int64.not_le, -Int64.not_lt, i3lt, i6lt, hN4, hle, hf]
    try simp (disch := omega) [-Prod.forall, -Prod.exists, -Prod.mk.injEq, -Int32.not_le, -Int32.not_lt, -Int64.not_le, -Int64.not_lt, i3lt, i6lt, hN4, hle, hf]
    exact k
  | succ d ih =>
    intro i hd hi
    have hlt : ¬ nI (pe σ.1) ≤ nI i := nI_ge (by omega) (by omega)
    have hk1 : jin (nI i) 10 := jin_nI (by omega) (by decide)
    have eck : (nI i).toNatClampNeg = i := nI_clamp (by omega)
    have k1 := ih (i + 1) (by omega) (by omega)
    by_cases c : σ.1 349 i = σ.1 322 40
    · refine jvk_ok TX12_readPerson (V := [(309, 3, 12, oX12_check), (313, 1, 12, oX12_advance), (322, 1, 12, oX12_nameHere), (325, 2, 12, oX12_integer), (329, 2, 12, oX12_isWord)]) (S := [(124, 2, 0, oX12_place)]) (List.forall_mem_cons.mpr ⟨⟨mX12_check, n + 0, 2, TX12, 53, rfl, by omega, kX12_309, WX12_check, rfl, CX12_check g (n)⟩, (List.forall_mem_cons.mpr ⟨⟨mX12_advance, n + 1, 0, TX12, 53, rfl, by omega, kX12_313, WX12_advance, rfl, CX12_advance g (n)⟩, (List.forall_mem_cons.mpr ⟨⟨mX12_nameHere, n + 1, 0, TX12, 53, rfl, by omega, kX12_322, WX12_nameHere, rfl, CX12_nameHere g (n)⟩, (List.forall_mem_cons.mpr ⟨⟨mX12_integer, n + 2, 1, TX12, 53, rfl, by omega, kX12_325, WX12_integer, rfl, CX12_integer g (n)⟩, (List.forall_mem_cons.mpr ⟨⟨mX12_isWord, n + 0, 1, TX12, 53, rfl, by omega, kX12_329, WX12_isWord, rfl, CX12_isWord g (n)⟩, (fun _ h => absurd h List.not_mem_nil)⟩)⟩)⟩)⟩)⟩) (List.forall_mem_cons.mpr ⟨⟨mX12_place, n + 0, by omega, Or.inl kX12_124, WX12_place, CX12_place g (n)⟩, (fun _ h => absurd h List.not_mem_nil)⟩) [30] 20 _ _ _ _ ?_
      simp (maxSteps := 1000000) [↓Bool.cond_eq_ite, -Prod.forall, -Prod.exists, -Prod.mk.injEq, jvk, tX12_readPerson, jtb, jol, jst, jlk, jcmp, jbin, jfl, fX12, jc2, lX12, jcat, jel, lv_args, Value.category, jins, jsrt, jins2, jble, jblt, jf3, List.filter_cons, List.filter_nil, G_m, oX12_check, oX12_advance, oX12_nameHere, oX12_place, oX12_integer, oX12_isWord, joII, joR, joRI, joRII, joRJ, -Int32.not_le, -Int32.not_lt, -Int64.not_le, -Int64.not_lt, i3lt, i6lt, hN4, hlt, hk1, eck, c, hf, nI_1]
      try simp (disch := omega) [-Prod.forall, -Prod.exists, -Prod.mk.injEq, -Int32.not_le, -Int32.not_lt, -Int64.not_le, -Int64.not_lt, i3lt, i6lt, hN4, hlt, hk1, eck, c, hf, nI_1]
      exact k1
    · refine jvk_ok TX12_readPerson (V := [(309, 3, 12, oX12_check), (313, 1, 12, oX12_advance), (322, 1, 12, oX12_nameHere), (325, 2, 12, oX12_integer), (329, 2, 12, oX12_isWord)]) (S := [(124, 2, 0, oX12_place)]) (List.forall_mem_cons.mpr ⟨⟨mX12_check, n + 0, 2, TX12, 53, rfl, by omega, kX12_309, WX12_check, rfl, CX12_check g (n)⟩, (List.forall_mem_cons.mpr ⟨⟨mX12_advance, n + 1, 0, TX12, 53, rfl, by omega, kX12_313, WX12_advance, rfl, CX12_advance g (n)⟩, (List.forall_mem_cons.mpr ⟨⟨mX12_nameHere, n + 1, 0, TX12, 53, rfl, by omega, kX12_322, WX12_nameHere, rfl, CX12_nameHere g (n)⟩, (List.forall_mem_cons.mpr ⟨⟨mX12_integer, n + 2, 1, TX12, 53, rfl, by omega, kX12_325, WX12_integer, rfl, CX12_integer g (n)⟩, (List.forall_mem_cons.mpr ⟨⟨mX12_isWord, n + 0, 1, TX12, 53, rfl, by omega, kX12_329, WX12_isWord, rfl, CX12_isWord g (n)⟩, (fun _ h => absurd h List.not_mem_nil)⟩)⟩)⟩)⟩)⟩) (List.forall_mem_cons.mpr ⟨⟨mX12_place, n + 0, by omega, Or.inl kX12_124, WX12_place, CX12_place g (n)⟩, (fun _ h => absurd h List.not_mem_nil)⟩) [30] 20 _ _ _ _ ?_
      simp (maxSteps := 1000000) [↓Bool.cond_eq_ite, -Prod.forall, -Prod.exists, -Prod.mk.injEq, jvk, tX12_readPerson, jtb, jol, jst, jlk, jcmp, jbin, jfl, fX12, jc2, lX12, jcat, jel, lv_args, Value.category, jins, jsrt, jins2, jble, jblt, jf3, List.filter_cons, List.filter_nil, G_m, oX12_check, oX12_advance, oX12_nameHere, oX12_place, oX12_integer, oX12_isWord, joII, joR, joRI, joRII, joRJ, -Int32.not_le, -Int32.not_lt, -Int64.not_le, -Int64.not_lt, i3lt, i6lt, hN4, hlt, hk1, eck, c, hf, nI_1]
      try simp (disch := omega) [-Prod.forall, -Prod.exists, -Prod.mk.injEq, -Int32.not_le, -Int32.not_lt, -Int64.not_le, -Int64.not_lt, i3lt, i6lt, hN4, hlt, hk1, eck, c, hf, nI_1]
      exact k1
set_option maxRecDepth 100000 in
set_option maxHeartbeats 4000000 in
theorem CNf_readPerson (g : jG) (n : Nat) {post : Option Value → jM → Prop} {σ : jM} (h : rT σ) (hz : rSz σ) (hf : ¬ σ.1 322 41 = 0) (k : post none σ) : jW g mX12_readPerson (n + 3) post 20 [(0, .ref 322)] [] σ := by
  have k0 := CNl_readPerson g n hz hf k _ 0 rfl (Nat.zero_le _)
  rw [nI_0] at k0
  refine jvk_ok TX12_readPerson (V := [(309, 3, 12, oX12_check), (313, 1, 12, oX12_advance), (322, 1, 12, oX12_nameHere), (325, 2, 12, oX12_integer), (329, 2, 12, oX12_isWord)]) (S := [(124, 2, 0, oX12_place)]) (List.forall_mem_cons.mpr ⟨⟨mX12_check, n + 0, 2, TX12, 53, rfl, by omega, kX12_309, WX12_check, rfl, CX12_check g (n)⟩, (List.forall_mem_cons.mpr ⟨⟨mX12_advance, n + 1, 0, TX12, 53, rfl, by omega, kX12_313, WX12_advance, rfl, CX12_advance g (n)⟩, (List.forall_mem_cons.mpr ⟨⟨mX12_nameHere, n + 1, 0, TX12, 53, rfl, by omega, kX12_322, WX12_nameHere, rfl, CX12_nameHere g (n)⟩, (List.forall_mem_cons.mpr ⟨⟨mX12_integer, n + 2, 1, TX12, 53, rfl, by omega, kX12_325, WX12_integer, rfl, CX12_integer g (n)⟩, (List.forall_mem_cons.mpr ⟨⟨mX12_isWord, n + 0, 1, TX12, 53, rfl, by omega, kX12_329, WX12_isWord, rfl, CX12_isWord g (n)⟩, (fun _ h => absurd h List.not_mem_nil)⟩)⟩)⟩)⟩)⟩) (List.forall_mem_cons.mpr ⟨⟨mX12_place, n + 0, by omega, Or.inl kX12_124, WX12_place, CX12_place g (n)⟩, (fun _ h => absurd h List.not_mem_nil)⟩) [24, 28, 30] 10 _ _ _ _ ?_
  simp (maxSteps := 1000000) [↓Bool.cond_eq_ite, -Prod.forall, -Prod.exists, -Prod.mk.injEq, jvk, tX12_readPerson, jtb, jol, jst, jlk, jcmp, jbin, jfl, fX12, jc2, lX12, jcat, jel, lv_args, Value.category, jins, jsrt, jins2, jble, jblt, jf3, List.filter_cons, List.filter_nil, G_m, oX12_check, oX12_advance, oX12_nameHere, oX12_place, oX12_integer, oX12_isWord, joII, joR, joRI, joRII, joRJ, -Int32.not_le, -Int32.not_lt, -Int64.not_le, -Int64.not_lt, i3lt, i6lt, h, hf]
  try simp (disch := omega) [-Prod.forall, -Prod.exists, -Prod.mk.injEq, -Int32.not_le, -Int32.not_lt, -Int64.not_le, -Int64.not_lt, i3lt, i6lt, h, hf]
  refine jvk_ok TX12_readPerson (V := [(309, 3, 12, oX12_check), (313, 1, 12, oX12_advance), (322, 1, 12, oX12_nameHere), (325, 2, 12, oX12_integer), (329, 2, 12, oX12_isWord)]) (S := [(124, 2, 0, oX12_place)]) (List.forall_mem_cons.mpr ⟨⟨mX12_check, n + 0, 2, TX12, 53, rfl, by omega, kX12_309, WX12_check, rfl, CX12_check g (n)⟩, (List.forall_mem_cons.mpr ⟨⟨mX12_advance, n + 1, 0, TX12, 53, rfl, by omega, kX12_313, WX12_advance, rfl, CX12_advance g (n)⟩, (List.forall_mem_cons.mpr ⟨⟨mX12_nameHere, n + 1, 0, TX12, 53, rfl, by omega, kX12_322, WX12_nameHere, rfl, CX12_nameHere g (n)⟩, (List.forall_mem_cons.mpr ⟨⟨mX12_integer, n + 2, 1, TX12, 53, rfl, by omega, kX12_325, WX12_integer, rfl, CX12_integer g (n)⟩, (List.forall_mem_cons.mpr ⟨⟨mX12_isWord, n + 0, 1, TX12, 53, rfl, by omega, kX12_329, WX12_isWord, rfl, CX12_isWord g (n)⟩, (fun _ h => absurd h List.not_mem_nil)⟩)⟩)⟩)⟩)⟩) (List.forall_mem_cons.mpr ⟨⟨mX12_place, n + 0, by omega, Or.inl kX12_124, WX12_place, CX12_place g (n)⟩, (fun _ h => absurd h List.not_mem_nil)⟩) [28, 30] 10 _ _ _ _ ?_
  simp (maxSteps := 1000000) [↓Bool.cond_eq_ite, -Prod.forall, -Prod.exists, -Prod.mk.injEq, jvk, tX12_readPerson, jtb, jol, jst, jlk, jcmp, jbin, jfl, fX12, jc2, lX12, jcat, jel, lv_args, Value.category, jins, jsrt, jins2, jble, jblt, jf3, List.filter_cons, List.filter_nil, G_m, oX12_check, oX12_advance, oX12_nameHere, oX12_place, oX12_integer, oX12_isWord, joII, joR, joRI, joRII, joRJ, -Int32.not_le, -Int32.not_lt, -Int64.not_le, -Int64.not_lt, i3lt, i6lt, h, hf]
  try simp (disch := omega) [-Prod.forall, -Prod.exists, -Prod.mk.injEq, -Int32.not_le, -Int32.not_lt, -Int64.not_le, -Int64.not_lt, i3lt, i6lt, h, hf]
  intro a3
  refine jvk_ok TX12_readPerson (V := [(309, 3, 12, oX12_check), (313, 1, 12, oX12_advance), (322, 1, 12, oX12_nameHere), (325, 2, 12, oX12_integer), (329, 2, 12, oX12_isWord)]) (S := [(124, 2, 0, oX12_place)]) (List.forall_mem_cons.mpr ⟨⟨mX12_check, n + 0, 2, TX12, 53, rfl, by omega, kX12_309, WX12_check, rfl, CX12_check g (n)⟩, (List.forall_mem_cons.mpr ⟨⟨mX12_advance, n + 1, 0, TX12, 53, rfl, by omega, kX12_313, WX12_advance, rfl, CX12_advance g (n)⟩, (List.forall_mem_cons.mpr ⟨⟨mX12_nameHere, n + 1, 0, TX12, 53, rfl, by omega, kX12_322, WX12_nameHere, rfl, CX12_nameHere g (n)⟩, (List.forall_mem_cons.mpr ⟨⟨mX12_integer, n + 2, 1, TX12, 53, rfl, by omega, kX12_325, WX12_integer, rfl, CX12_integer g (n)⟩, (List.forall_mem_cons.mpr ⟨⟨mX12_isWord, n + 0, 1, TX12, 53, rfl, by omega, kX12_329, WX12_isWord, rfl, CX12_isWord g (n)⟩, (fun _ h => absurd h List.not_mem_nil)⟩)⟩)⟩)⟩)⟩) (List.forall_mem_cons.mpr ⟨⟨mX12_place, n + 0, by omega, Or.inl kX12_124, WX12_place, CX12_place g (n)⟩, (fun _ h => absurd h List.not_mem_nil)⟩) [30] 10 _ _ _ _ ?_
  simp (maxSteps := 1000000) [↓Bool.cond_eq_ite, -Prod.forall, -Prod.exists, -Prod.mk.injEq, jvk, tX12_readPerson, jtb, jol, jst, jlk, jcmp, jbin, jfl, fX12, jc2, lX12, jcat, jel, lv_args, Value.category, jins, jsrt, jins2, jble, jblt, jf3, List.filter_cons, List.filter_nil, G_m, oX12_check, oX12_advance, oX12_nameHere, oX12_place, oX12_integer, oX12_isWord, joII, joR, joRI, joRII, joRJ, -Int32.not_le, -Int32.not_lt, -Int64.not_le, -Int64.not_lt, i3lt, i6lt]
  try simp (disch := omega) [-Prod.forall, -Prod.exists, -Prod.mk.injEq, -Int32.not_le, -Int32.not_lt, -Int64.not_le, -Int64.not_lt, i3lt, i6lt]
  exact k0
set_option maxRecDepth 100000 in
set_option maxHeartbeats 4000000 in
theorem CNm_readPerson (g : jG) (n : Nat) {post : Option Value → jM → Prop} {σ : jM} (h : rT σ) (hz : rSz σ) {s : Nat} (hs : tk σ s)
    (kf : ∀ τ e, jfr aIn bTk σ τ → rT τ → flt τ e → ((¬ isN (tB σ) (tL σ) (nx (tB σ) (tL σ) s) = true ∧ e = (-11, nx (tB σ) (tL σ) s)) ∨ (isN (tB σ) (tL σ) (nx (tB σ) (tL σ) s) = true ∧ dup (tB σ) (tL σ) σ.1 349 (pe σ.1) (nx (tB σ) (tL σ) s) = true ∧ e = (-14, nx (tB σ) (tL σ) s))) → post none τ)
    (ky : ∀ τ, jfr aIn bTk σ τ → rT τ → tk τ (nx (tB σ) (tL σ) s) → isN (tB σ) (tL σ) (nx (tB σ) (tL σ) s) = true → dup (tB σ) (tL σ) σ.1 349 (pe σ.1) (nx (tB σ) (tL σ) s) = false → jW g mX12_readPerson (n + 3) post 76 [(0, .ref 322)] [] τ) :
    jW g mX12_readPerson (n + 3) post 20 [(0, .ref 322)] [] σ := by
  have f0 := hs.2.1
  obtain ⟨s1, es1⟩ : ∃ s1, s1 = nx (tB σ) (tL σ) s := ⟨_, rfl⟩
  rw [← es1] at kf ky
  refine jvk_ok TX12_readPerson (V := [(309, 3, 12, oX12_check), (313, 1, 12, oX12_advance), (322, 1, 12, oX12_nameHere), (325, 2, 12, oX12_integer), (329, 2, 12, oX12_isWord)]) (S := [(124, 2, 0, oX12_place)]) (List.forall_mem_cons.mpr ⟨⟨mX12_check, n + 0, 2, TX12, 53, rfl, by omega, kX12_309, WX12_check, rfl, CX12_check g (n)⟩, (List.forall_mem_cons.mpr ⟨⟨mX12_advance, n + 1, 0, TX12, 53, rfl, by omega, kX12_313, WX12_advance, rfl, CX12_advance g (n)⟩, (List.forall_mem_cons.mpr ⟨⟨mX12_nameHere, n + 1, 0, TX12, 53, rfl, by omega, kX12_322, WX12_nameHere, rfl, CX12_nameHere g (n)⟩, (List.forall_mem_cons.mpr ⟨⟨mX12_integer, n + 2, 1, TX12, 53, rfl, by omega, kX12_325, WX12_integer, rfl, CX12_integer g (n)⟩, (List.forall_mem_cons.mpr ⟨⟨mX12_isWord, n + 0, 1, TX12, 53, rfl, by omega, kX12_329, WX12_isWord, rfl, CX12_isWord g (n)⟩, (fun _ h => absurd h List.not_mem_nil)⟩)⟩)⟩)⟩)⟩) (List.forall_mem_cons.mpr ⟨⟨mX12_place, n + 0, by omega, Or.inl kX12_124, WX12_place, CX12_place g (n)⟩, (fun _ h => absurd h List.not_mem_nil)⟩) [24, 28, 30] 10 _ _ _ _ ?_
  simp (maxSteps := 1000000) [↓Bool.cond_eq_ite, -Prod.forall, -Prod.exists, -Prod.mk.injEq, jvk, tX12_readPerson, jtb, jol, jst, jlk, jcmp, jbin, jfl, fX12, jc2, lX12, jcat, jel, lv_args, Value.category, jins, jsrt, jins2, jble, jblt, jf3, List.filter_cons, List.filter_nil, G_m, oX12_check, oX12_advance, oX12_nameHere, oX12_place, oX12_integer, oX12_isWord, joII, joR, joRI, joRII, joRJ, -Int32.not_le, -Int32.not_lt, -Int64.not_le, -Int64.not_lt, i3lt, i6lt, h]
  try simp (disch := omega) [-Prod.forall, -Prod.exists, -Prod.mk.injEq, -Int32.not_le, -Int32.not_lt, -Int64.not_le, -Int64.not_lt, i3lt, i6lt, h]
  intro v1 τ hv1 a1 a2
  subst hv1
  obtain ⟨b1, b2, b3⟩ := a2 f0
  rw [tk_nx h hs, ← es1] at b3
  obtain ⟨g1, g2⟩ := tk_fr b1
  have w1 : jfr aIn bTk σ τ := b1.weak (fun a j q => in_Tk a j q) (fun _ q => q)
  have zt : rSz τ := rSz_fr hz w1 rfl rfl rfl
  have t0 := b3.2.1
  have hpre : ∃ s, tk τ s := ⟨s1, b3⟩
  obtain ⟨hN10, hN4⟩ := (rSz_n hz).2.1
  have e4 : τ.1 322 44 = nI (pe σ.1) := (w1.2.2 322 44 rfl).trans hN4
  have eC : pe τ.1 = pe σ.1 := by unfold pe; rw [e4, hN4]
  refine jvk_ok TX12_readPerson (V := [(309, 3, 12, oX12_check), (313, 1, 12, oX12_advance), (322, 1, 12, oX12_nameHere), (325, 2, 12, oX12_integer), (329, 2, 12, oX12_isWord)]) (S := [(124, 2, 0, oX12_place)]) (List.forall_mem_cons.mpr ⟨⟨mX12_check, n + 0, 2, TX12, 53, rfl, by omega, kX12_309, WX12_check, rfl, CX12_check g (n)⟩, (List.forall_mem_cons.mpr ⟨⟨mX12_advance, n + 1, 0, TX12, 53, rfl, by omega, kX12_313, WX12_advance, rfl, CX12_advance g (n)⟩, (List.forall_mem_cons.mpr ⟨⟨mX12_nameHere, n + 1, 0, TX12, 53, rfl, by omega, kX12_322, WX12_nameHere, rfl, CX12_nameHere g (n)⟩, (List.forall_mem_cons.mpr ⟨⟨mX12_integer, n + 2, 1, TX12, 53, rfl, by omega, kX12_325, WX12_integer, rfl, CX12_integer g (n)⟩, (List.forall_mem_cons.mpr ⟨⟨mX12_isWord, n + 0, 1, TX12, 53, rfl, by omega, kX12_329, WX12_isWord, rfl, CX12_isWord g (n)⟩, (fun _ h => absurd h List.not_mem_nil)⟩)⟩)⟩)⟩)⟩) (List.forall_mem_cons.mpr ⟨⟨mX12_place, n + 0, by omega, Or.inl kX12_124, WX12_place, CX12_place g (n)⟩, (fun _ h => absurd h List.not_mem_nil)⟩) [28, 30] 10 _ _ _ _ ?_
  simp (maxSteps := 1000000) [↓Bool.cond_eq_ite, -Prod.forall, -Prod.exists, -Prod.mk.injEq, jvk, tX12_readPerson, jtb, jol, jst, jlk, jcmp, jbin, jfl, fX12, jc2, lX12, jcat, jel, lv_args, Value.category, jins, jsrt, jins2, jble, jblt, jf3, List.filter_cons, List.filter_nil, G_m, oX12_check, oX12_advance, oX12_nameHere, oX12_place, oX12_integer, oX12_isWord, joII, joR, joRI, joRII, joRJ, -Int32.not_le, -Int32.not_lt, -Int64.not_le, -Int64.not_lt, i3lt, i6lt, b2, t0, hpre]
  try simp (disch := omega) [-Prod.forall, -Prod.exists, -Prod.mk.injEq, -Int32.not_le, -Int32.not_lt, -Int64.not_le, -Int64.not_lt, i3lt, i6lt, b2, t0, hpre]
  intro v2 τ2 hv2 c1
  subst hv2
  obtain ⟨c3, c4⟩ := c1 s1 b3
  rw [g1, g2] at c3 c4
  refine jvk_ok TX12_readPerson (V := [(309, 3, 12, oX12_check), (313, 1, 12, oX12_advance), (322, 1, 12, oX12_nameHere), (325, 2, 12, oX12_integer), (329, 2, 12, oX12_isWord)]) (S := [(124, 2, 0, oX12_place)]) (List.forall_mem_cons.mpr ⟨⟨mX12_check, n + 0, 2, TX12, 53, rfl, by omega, kX12_309, WX12_check, rfl, CX12_check g (n)⟩, (List.forall_mem_cons.mpr ⟨⟨mX12_advance, n + 1, 0, TX12, 53, rfl, by omega, kX12_313, WX12_advance, rfl, CX12_advance g (n)⟩, (List.forall_mem_cons.mpr ⟨⟨mX12_nameHere, n + 1, 0, TX12, 53, rfl, by omega, kX12_322, WX12_nameHere, rfl, CX12_nameHere g (n)⟩, (List.forall_mem_cons.mpr ⟨⟨mX12_integer, n + 2, 1, TX12, 53, rfl, by omega, kX12_325, WX12_integer, rfl, CX12_integer g (n)⟩, (List.forall_mem_cons.mpr ⟨⟨mX12_isWord, n + 0, 1, TX12, 53, rfl, by omega, kX12_329, WX12_isWord, rfl, CX12_isWord g (n)⟩, (fun _ h => absurd h List.not_mem_nil)⟩)⟩)⟩)⟩)⟩) (List.forall_mem_cons.mpr ⟨⟨mX12_place, n + 0, by omega, Or.inl kX12_124, WX12_place, CX12_place g (n)⟩, (fun _ h => absurd h List.not_mem_nil)⟩) [30] 10 _ _ _ _ ?_
  simp (maxSteps := 1000000) [↓Bool.cond_eq_ite, -Prod.forall, -Prod.exists, -Prod.mk.injEq, jvk, tX12_readPerson, jtb, jol, jst, jlk, jcmp, jbin, jfl, fX12, jc2, lX12, jcat, jel, lv_args, Value.category, jins, jsrt, jins2, jble, jblt, jf3, List.filter_cons, List.filter_nil, G_m, oX12_check, oX12_advance, oX12_nameHere, oX12_place, oX12_integer, oX12_isWord, joII, joR, joRI, joRII, joRJ, -Int32.not_le, -Int32.not_lt, -Int64.not_le, -Int64.not_lt, i3lt, i6lt]
  try simp (disch := omega) [-Prod.forall, -Prod.exists, -Prod.mk.injEq, -Int32.not_le, -Int32.not_lt, -Int64.not_le, -Int64.not_lt, i3lt, i6lt]
  by_cases hi : isN (tB σ) (tL σ) s1 = true
  · have e2 := c3 hi
    subst e2
    have elet := tk_let b3 (by rw [g1, g2]; exact hi)
    rw [g1, g2] at elet
    have key : ∀ (d i : Nat), pe σ.1 - i = d → i ≤ pe σ.1 → (∀ r, r < i → ¬ σ.1 349 r = nI (nm (tB σ) (tL σ) s1)) → jW g mX12_readPerson (n + 3) post 30 [(0, .ref 322), (1, .int (nI i))] [] τ2 := by
      intro d
      induction d with
      | zero =>
        intro i hd hi2 hno
        have hle : nI (pe σ.1) ≤ nI i := nI_le (by omega) (by omega)
        have k1 := ky τ2 w1 b2 b3 hi (by
          unfold dup
          rw [(al_iff _).mpr (fun j hj => by simpa using hno j (by omega))]
          rfl)
        refine jvk_ok TX12_readPerson (V := [(309, 3, 12, oX12_check), (313, 1, 12, oX12_advance), (322, 1, 12, oX12_nameHere), (325, 2, 12, oX12_integer), (329, 2, 12, oX12_isWord)]) (S := [(124, 2, 0, oX12_place)]) (List.forall_mem_cons.mpr ⟨⟨mX12_check, n + 0, 2, TX12, 53, rfl, by omega, kX12_309, WX12_check, rfl, CX12_check g (n)⟩, (List.forall_mem_cons.mpr ⟨⟨mX12_advance, n + 1, 0, TX12, 53, rfl, by omega, kX12_313, WX12_advance, rfl, CX12_advance g (n)⟩, (List.forall_mem_cons.mpr ⟨⟨mX12_nameHere, n + 1, 0, TX12, 53, rfl, by omega, kX12_322, WX12_nameHere, rfl, CX12_nameHere g (n)⟩, (List.forall_mem_cons.mpr ⟨⟨mX12_integer, n + 2, 1, TX12, 53, rfl, by omega, kX12_325, WX12_integer, rfl, CX12_integer g (n)⟩, (List.forall_mem_cons.mpr ⟨⟨mX12_isWord, n + 0, 1, TX12, 53, rfl, by omega, kX12_329, WX12_isWord, rfl, CX12_isWord g (n)⟩, (fun _ h => absurd h List.not_mem_nil)⟩)⟩)⟩)⟩)⟩) (List.forall_mem_cons.mpr ⟨⟨mX12_place, n + 0, by omega, Or.inl kX12_124, WX12_place, CX12_place g (n)⟩, (fun _ h => absurd h List.not_mem_nil)⟩) [30, 76] 20 _ _ _ _ ?_
        simp (maxSteps := 1000000) [↓Bool.cond_eq_ite, -Prod.forall, -Prod.exists, -Prod.mk.injEq, jvk, tX12_readPerson, jtb, jol, jst, jlk, jcmp, jbin, jfl, fX12, jc2, lX12, jcat, jel, lv_args, Value.category, jins, jsrt, jins2, jble, jblt, jf3, List.filter_cons, List.filter_nil, G_m, oX12_check, oX12_advance, oX12_nameHere, oX12_place, oX12_integer, oX12_isWord, joII, joR, joRI, joRII, joRJ, -Int32.not_le, -Int32.not_lt, -Int64.not_le, -Int64.not_lt, i3lt, i6lt, e4, hle, t0]
        try simp (disch := omega) [-Prod.forall, -Prod.exists, -Prod.mk.injEq, -Int32.not_le, -Int32.not_lt, -Int64.not_le, -Int64.not_lt, i3lt, i6lt, e4, hle, t0]
        exact jW.mono k1 (by simp)
      | succ d ih =>
        intro i hd hi2 hno
        have hlt : ¬ nI (pe σ.1) ≤ nI i := nI_ge (by omega) (by omega)
        have hk1 : jin (nI i) 10 := jin_nI (by omega) (by decide)
        have eck : (nI i).toNatClampNeg = i := nI_clamp (by omega)
        have eR : τ2.1 349 i = σ.1 349 i := w1.2.2 349 i rfl
        by_cases c : σ.1 349 i = nI (nm (tB σ) (tL σ) s1)
        · have k1 := CNl_readPerson g n (σ := jup τ2 322 41 (-14)) (post := post) (rSz_fr zt (jfr.rfl.up (A := aIn) (B := bTk) _ rfl) rfl rfl rfl) (by rw [jup_1, if_pos ⟨rfl, rfl⟩]; decide) (kf _ (-14, s1) (w1.up _ rfl) b2 ⟨by rw [jup_1, if_pos ⟨rfl, rfl⟩], i11.2.2.2.1, by rw [jup_1, if_neg (by decide)]; exact b3.2.2.1⟩ (Or.inr ⟨hi, by
            unfold dup
            rw [al_no (k := i) (by omega) (by simp [c])]
            rfl, rfl⟩)) _ (i + 1) rfl (by
            have : pe (jup τ2 322 41 (-14)).1 = pe τ2.1 := rfl
            rw [this, eC]; omega)
          refine jvk_ok TX12_readPerson (V := [(309, 3, 12, oX12_check), (313, 1, 12, oX12_advance), (322, 1, 12, oX12_nameHere), (325, 2, 12, oX12_integer), (329, 2, 12, oX12_isWord)]) (S := [(124, 2, 0, oX12_place)]) (List.forall_mem_cons.mpr ⟨⟨mX12_check, n + 0, 2, TX12, 53, rfl, by omega, kX12_309, WX12_check, rfl, CX12_check g (n)⟩, (List.forall_mem_cons.mpr ⟨⟨mX12_advance, n + 1, 0, TX12, 53, rfl, by omega, kX12_313, WX12_advance, rfl, CX12_advance g (n)⟩, (List.forall_mem_cons.mpr ⟨⟨mX12_nameHere, n + 1, 0, TX12, 53, rfl, by omega, kX12_322, WX12_nameHere, rfl, CX12_nameHere g (n)⟩, (List.forall_mem_cons.mpr ⟨⟨mX12_integer, n + 2, 1, TX12, 53, rfl, by omega, kX12_325, WX12_integer, rfl, CX12_integer g (n)⟩, (List.forall_mem_cons.mpr ⟨⟨mX12_isWord, n + 0, 1, TX12, 53, rfl, by omega, kX12_329, WX12_isWord, rfl, CX12_isWord g (n)⟩, (fun _ h => absurd h List.not_mem_nil)⟩)⟩)⟩)⟩)⟩) (List.forall_mem_cons.mpr ⟨⟨mX12_place, n + 0, by omega, Or.inl kX12_124, WX12_place, CX12_place g (n)⟩, (fun _ h => absurd h List.not_mem_nil)⟩) [30, 76] 20 _ _ _ _ ?_
          simp (maxSteps := 1000000) [↓Bool.cond_eq_ite, -Prod.forall, -Prod.exists, -Prod.mk.injEq, jvk, tX12_readPerson, jtb, jol, jst, jlk, jcmp, jbin, jfl, fX12, jc2, lX12, jcat, jel, lv_args, Value.category, jins, jsrt, jins2, jble, jblt, jf3, List.filter_cons, List.filter_nil, G_m, oX12_check, oX12_advance, oX12_nameHere, oX12_place, oX12_integer, oX12_isWord, joII, joR, joRI, joRII, joRJ, -Int32.not_le, -Int32.not_lt, -Int64.not_le, -Int64.not_lt, i3lt, i6lt, e4, hlt, hk1, eck, eR, elet, c, t0, i11, nI_1]
          try simp (disch := omega) [-Prod.forall, -Prod.exists, -Prod.mk.injEq, -Int32.not_le, -Int32.not_lt, -Int64.not_le, -Int64.not_lt, i3lt, i6lt, e4, hlt, hk1, eck, eR, elet, c, t0, i11, nI_1]
          exact k1
        · have k1 := ih (i + 1) (by omega) (by omega) (fun r hr => by
            by_cases e : r = i
            · subst e; exact c
            · exact hno r (by omega))
          refine jvk_ok TX12_readPerson (V := [(309, 3, 12, oX12_check), (313, 1, 12, oX12_advance), (322, 1, 12, oX12_nameHere), (325, 2, 12, oX12_integer), (329, 2, 12, oX12_isWord)]) (S := [(124, 2, 0, oX12_place)]) (List.forall_mem_cons.mpr ⟨⟨mX12_check, n + 0, 2, TX12, 53, rfl, by omega, kX12_309, WX12_check, rfl, CX12_check g (n)⟩, (List.forall_mem_cons.mpr ⟨⟨mX12_advance, n + 1, 0, TX12, 53, rfl, by omega, kX12_313, WX12_advance, rfl, CX12_advance g (n)⟩, (List.forall_mem_cons.mpr ⟨⟨mX12_nameHere, n + 1, 0, TX12, 53, rfl, by omega, kX12_322, WX12_nameHere, rfl, CX12_nameHere g (n)⟩, (List.forall_mem_cons.mpr ⟨⟨mX12_integer, n + 2, 1, TX12, 53, rfl, by omega, kX12_325, WX12_integer, rfl, CX12_integer g (n)⟩, (List.forall_mem_cons.mpr ⟨⟨mX12_isWord, n + 0, 1, TX12, 53, rfl, by omega, kX12_329, WX12_isWord, rfl, CX12_isWord g (n)⟩, (fun _ h => absurd h List.not_mem_nil)⟩)⟩)⟩)⟩)⟩) (List.forall_mem_cons.mpr ⟨⟨mX12_place, n + 0, by omega, Or.inl kX12_124, WX12_place, CX12_place g (n)⟩, (fun _ h => absurd h List.not_mem_nil)⟩) [30, 76] 20 _ _ _ _ ?_
          simp (maxSteps := 1000000) [↓Bool.cond_eq_ite, -Prod.forall, -Prod.exists, -Prod.mk.injEq, jvk, tX12_readPerson, jtb, jol, jst, jlk, jcmp, jbin, jfl, fX12, jc2, lX12, jcat, jel, lv_args, Value.category, jins, jsrt, jins2, jble, jblt, jf3, List.filter_cons, List.filter_nil, G_m, oX12_check, oX12_advance, oX12_nameHere, oX12_place, oX12_integer, oX12_isWord, joII, joR, joRI, joRII, joRJ, -Int32.not_le, -Int32.not_lt, -Int64.not_le, -Int64.not_lt, i3lt, i6lt, e4, hlt, hk1, eck, eR, elet, c, t0, nI_1]
          try simp (disch := omega) [-Prod.forall, -Prod.exists, -Prod.mk.injEq, -Int32.not_le, -Int32.not_lt, -Int64.not_le, -Int64.not_lt, i3lt, i6lt, e4, hlt, hk1, eck, eR, elet, c, t0, nI_1]
          exact k1
    have k0 := key _ 0 rfl (Nat.zero_le _) (fun r hr => by omega)
    rw [nI_0] at k0
    exact k0
  · have e2 := c4 (by simpa using hi)
    subst e2
    have k1 := CNl_readPerson g n (σ := jup τ 322 41 (-11)) (post := post) (rSz_fr zt (jfr.rfl.up (A := aIn) (B := bTk) _ rfl) rfl rfl rfl) (by rw [jup_1, if_pos ⟨rfl, rfl⟩]; decide) (kf _ (-11, s1) (w1.up _ rfl) b2 ⟨by rw [jup_1, if_pos ⟨rfl, rfl⟩], i11.1, by rw [jup_1, if_neg (by decide)]; exact b3.2.2.1⟩ (Or.inl ⟨hi, rfl⟩)) _ 0 rfl (Nat.zero_le _)
    rw [nI_0] at k1
    exact k1
