/-! the reference: a plan of a text -/
def oX12_readPlan : jO := joR fun a σ => (a = 322 ∧ rT σ ∧ rSz σ ∧ ∃ s, tk σ s, fun v τ => v = none ∧ jfr aRd bTk σ τ ∧ rT τ ∧ rSz τ ∧ ∀ s μ, tk σ s → rdA σ μ → rRes τ (pPlan (tB σ) (tL σ) s μ))
/-! the loop over the names -/
set_option maxRecDepth 100000 in
set_option maxHeartbeats 4000000 in
theorem CPn_l (g : jG) (n : Nat) {post : Option Value → jM → Prop} {σ : jM} (hz : rSz σ) (k : jW g mX12_readPlan (n + 3) post 65 [(0, .ref 322), (1, .int (lm (fun p => decide (σ.1 349 p = σ.1 322 40)) (pe σ.1)))] [] σ) : jW g mX12_readPlan (n + 3) post 32 [(0, .ref 322), (1, .int (-1)), (2, .int 0)] [] σ := by
  obtain ⟨-, ⟨hP, hP4⟩, -, -⟩ := rSz_n hz
  have key := jloop (P := fun i => jW g mX12_readPlan (n + 3) post 32 [(0, .ref 322), (1, .int (lm (fun p => decide (σ.1 349 p = σ.1 322 40)) i)), (2, .int (nI i))] [] σ) (N := pe σ.1) (by
    have hle : nI (pe σ.1) ≤ nI (pe σ.1) := nI_le (Nat.le_refl _) (by omega)
    refine jvk_ok TX12_readPlan (V := [(309, 3, 12, oX12_check), (313, 1, 12, oX12_advance), (322, 1, 12, oX12_nameHere), (325, 2, 12, oX12_integer)]) (S := []) (List.forall_mem_cons.mpr ⟨⟨mX12_check, n + 0, 2, TX12, 53, rfl, by omega, kX12_309, WX12_check, rfl, CX12_check g (n)⟩, (List.forall_mem_cons.mpr ⟨⟨mX12_advance, n + 1, 0, TX12, 53, rfl, by omega, kX12_313, WX12_advance, rfl, CX12_advance g (n)⟩, (List.forall_mem_cons.mpr ⟨⟨mX12_nameHere, n + 1, 0, TX12, 53, rfl, by omega, kX12_322, WX12_nameHere, rfl, CX12_nameHere g (n)⟩, (List.forall_mem_cons.mpr ⟨⟨mX12_integer, n + 2, 1, TX12, 53, rfl, by omega, kX12_325, WX12_integer, rfl, CX12_integer g (n)⟩, (fun _ h => absurd h List.not_mem_nil)⟩)⟩)⟩)⟩) (fun _ h => absurd h List.not_mem_nil) [32, 65] 20 _ _ _ _ ?_
    simp (maxSteps := 1000000) [↓Bool.cond_eq_ite, -Prod.forall, -Prod.exists, -Prod.mk.injEq, jvk, tX12_readPlan, jtb, jol, jst, jlk, jcmp, jbin, jfl, fX12, jc2, lX12, jcat, jel, lv_args, Value.category, jins, jsrt, jins2, jble, jblt, jf3, List.filter_cons, List.filter_nil, G_m, oX12_check, oX12_advance, oX12_nameHere, oX12_integer, joR, joRI, joRII, -Int32.not_le, -Int32.not_lt, -Int64.not_le, -Int64.not_lt, i3lt, i6lt, hP4, hle]
    try simp (disch := omega) [-Prod.forall, -Prod.exists, -Prod.mk.injEq, -Int32.not_le, -Int32.not_lt, -Int64.not_le, -Int64.not_lt, i3lt, i6lt, hP4, hle]
    exact jW.mono k (by simp)) (fun i hi ih => by
    have hlt : ¬ nI (pe σ.1) ≤ nI i := nI_ge hi (by omega)
    have hk1 : jin (nI i) 10 := jin_nI (by omega) (by decide)
    have eck : (nI i).toNatClampNeg = i := nI_clamp (by omega)
    simp only [lm, decide_eq_true_eq] at ih
    by_cases c : σ.1 349 i = σ.1 322 40
    · rw [if_pos c] at ih
      refine jvk_ok TX12_readPlan (V := [(309, 3, 12, oX12_check), (313, 1, 12, oX12_advance), (322, 1, 12, oX12_nameHere), (325, 2, 12, oX12_integer)]) (S := []) (List.forall_mem_cons.mpr ⟨⟨mX12_check, n + 0, 2, TX12, 53, rfl, by omega, kX12_309, WX12_check, rfl, CX12_check g (n)⟩, (List.forall_mem_cons.mpr ⟨⟨mX12_advance, n + 1, 0, TX12, 53, rfl, by omega, kX12_313, WX12_advance, rfl, CX12_advance g (n)⟩, (List.forall_mem_cons.mpr ⟨⟨mX12_nameHere, n + 1, 0, TX12, 53, rfl, by omega, kX12_322, WX12_nameHere, rfl, CX12_nameHere g (n)⟩, (List.forall_mem_cons.mpr ⟨⟨mX12_integer, n + 2, 1, TX12, 53, rfl, by omega, kX12_325, WX12_integer, rfl, CX12_integer g (n)⟩, (fun _ h => absurd h List.not_mem_nil)⟩)⟩)⟩)⟩) (fun _ h => absurd h List.not_mem_nil) [32, 65] 20 _ _ _ _ ?_
      simp (maxSteps := 1000000) [↓Bool.cond_eq_ite, -Prod.forall, -Prod.exists, -Prod.mk.injEq, jvk, tX12_readPlan, jtb, jol, jst, jlk, jcmp, jbin, jfl, fX12, jc2, lX12, jcat, jel, lv_args, Value.category, jins, jsrt, jins2, jble, jblt, jf3, List.filter_cons, List.filter_nil, G_m, oX12_check, oX12_advance, oX12_nameHere, oX12_integer, joR, joRI, joRII, -Int32.not_le, -Int32.not_lt, -Int64.not_le, -Int64.not_lt, i3lt, i6lt, hP4, hlt, hk1, eck, c, nI_1]
      try simp (disch := omega) [-Prod.forall, -Prod.exists, -Prod.mk.injEq, -Int32.not_le, -Int32.not_lt, -Int64.not_le, -Int64.not_lt, i3lt, i6lt, hP4, hlt, hk1, eck, c, nI_1]
      exact ih
    · rw [if_neg c] at ih
      refine jvk_ok TX12_readPlan (V := [(309, 3, 12, oX12_check), (313, 1, 12, oX12_advance), (322, 1, 12, oX12_nameHere), (325, 2, 12, oX12_integer)]) (S := []) (List.forall_mem_cons.mpr ⟨⟨mX12_check, n + 0, 2, TX12, 53, rfl, by omega, kX12_309, WX12_check, rfl, CX12_check g (n)⟩, (List.forall_mem_cons.mpr ⟨⟨mX12_advance, n + 1, 0, TX12, 53, rfl, by omega, kX12_313, WX12_advance, rfl, CX12_advance g (n)⟩, (List.forall_mem_cons.mpr ⟨⟨mX12_nameHere, n + 1, 0, TX12, 53, rfl, by omega, kX12_322, WX12_nameHere, rfl, CX12_nameHere g (n)⟩, (List.forall_mem_cons.mpr ⟨⟨mX12_integer, n + 2, 1, TX12, 53, rfl, by omega, kX12_325, WX12_integer, rfl, CX12_integer g (n)⟩, (fun _ h => absurd h List.not_mem_nil)⟩)⟩)⟩)⟩) (fun _ h => absurd h List.not_mem_nil) [32, 65] 20 _ _ _ _ ?_
      simp (maxSteps := 1000000) [↓Bool.cond_eq_ite, -Prod.forall, -Prod.exists, -Prod.mk.injEq, jvk, tX12_readPlan, jtb, jol, jst, jlk, jcmp, jbin, jfl, fX12, jc2, lX12, jcat, jel, lv_args, Value.category, jins, jsrt, jins2, jble, jblt, jf3, List.filter_cons, List.filter_nil, G_m, oX12_check, oX12_advance, oX12_nameHere, oX12_integer, joR, joRI, joRII, -Int32.not_le, -Int32.not_lt, -Int64.not_le, -Int64.not_lt, i3lt, i6lt, hP4, hlt, hk1, eck, c, nI_1]
      try simp (disch := omega) [-Prod.forall, -Prod.exists, -Prod.mk.injEq, -Int32.not_le, -Int32.not_lt, -Int64.not_le, -Int64.not_lt, i3lt, i6lt, hP4, hlt, hk1, eck, c, nI_1]
      exact ih)
  rw [nI_0] at key
  exact key
/-! behind an error -/
set_option maxRecDepth 100000 in
set_option maxHeartbeats 4000000 in
theorem CPn_e (g : jG) (n : Nat) {post : Option Value → jM → Prop} {σ : jM} (h : rT σ) (hf : ¬ σ.1 322 41 = 0) (k : post none σ) : ∀ L, jW g mX12_readPlan (n + 3) post 80 ((0, .ref 322) :: L) [] σ := by
  intro L
  have h99 : ∃ hi, (99999 : Int32) = nI hi ∧ hi ≤ 99999 := ⟨99999, rfl, by decide⟩
  have h999 : ∃ hi, (999 : Int32) = nI hi ∧ hi ≤ 99999 := ⟨999, rfl, by decide⟩
  refine jW.mono (L' := [(0, .ref 322)]) ?_ (by simp)
  refine jvk_ok TX12_readPlan (V := [(309, 3, 12, oX12_check), (313, 1, 12, oX12_advance), (322, 1, 12, oX12_nameHere), (325, 2, 12, oX12_integer)]) (S := []) (List.forall_mem_cons.mpr ⟨⟨mX12_check, n + 0, 2, TX12, 53, rfl, by omega, kX12_309, WX12_check, rfl, CX12_check g (n)⟩, (List.forall_mem_cons.mpr ⟨⟨mX12_advance, n + 1, 0, TX12, 53, rfl, by omega, kX12_313, WX12_advance, rfl, CX12_advance g (n)⟩, (List.forall_mem_cons.mpr ⟨⟨mX12_nameHere, n + 1, 0, TX12, 53, rfl, by omega, kX12_322, WX12_nameHere, rfl, CX12_nameHere g (n)⟩, (List.forall_mem_cons.mpr ⟨⟨mX12_integer, n + 2, 1, TX12, 53, rfl, by omega, kX12_325, WX12_integer, rfl, CX12_integer g (n)⟩, (fun _ h => absurd h List.not_mem_nil)⟩)⟩)⟩)⟩) (fun _ h => absurd h List.not_mem_nil) [84] 20 _ _ _ _ ?_
  simp (maxSteps := 1000000) [↓Bool.cond_eq_ite, -Prod.forall, -Prod.exists, -Prod.mk.injEq, jvk, tX12_readPlan, jtb, jol, jst, jlk, jcmp, jbin, jfl, fX12, jc2, lX12, jcat, jel, lv_args, Value.category, jins, jsrt, jins2, jble, jblt, jf3, List.filter_cons, List.filter_nil, G_m, oX12_check, oX12_advance, oX12_nameHere, oX12_integer, joR, joRI, joRII, -Int32.not_le, -Int32.not_lt, -Int64.not_le, -Int64.not_lt, i3lt, i6lt, h, hf]
  try simp (disch := omega) [-Prod.forall, -Prod.exists, -Prod.mk.injEq, -Int32.not_le, -Int32.not_lt, -Int64.not_le, -Int64.not_lt, i3lt, i6lt, h, hf]
  refine jvk_ok TX12_readPlan (V := [(309, 3, 12, oX12_check), (313, 1, 12, oX12_advance), (322, 1, 12, oX12_nameHere), (325, 2, 12, oX12_integer)]) (S := []) (List.forall_mem_cons.mpr ⟨⟨mX12_check, n + 0, 2, TX12, 53, rfl, by omega, kX12_309, WX12_check, rfl, CX12_check g (n)⟩, (List.forall_mem_cons.mpr ⟨⟨mX12_advance, n + 1, 0, TX12, 53, rfl, by omega, kX12_313, WX12_advance, rfl, CX12_advance g (n)⟩, (List.forall_mem_cons.mpr ⟨⟨mX12_nameHere, n + 1, 0, TX12, 53, rfl, by omega, kX12_322, WX12_nameHere, rfl, CX12_nameHere g (n)⟩, (List.forall_mem_cons.mpr ⟨⟨mX12_integer, n + 2, 1, TX12, 53, rfl, by omega, kX12_325, WX12_integer, rfl, CX12_integer g (n)⟩, (fun _ h => absurd h List.not_mem_nil)⟩)⟩)⟩)⟩) (fun _ h => absurd h List.not_mem_nil) [91] 20 _ _ _ _ ?_
  simp (maxSteps := 1000000) [↓Bool.cond_eq_ite, -Prod.forall, -Prod.exists, -Prod.mk.injEq, jvk, tX12_readPlan, jtb, jol, jst, jlk, jcmp, jbin, jfl, fX12, jc2, lX12, jcat, jel, lv_args, Value.category, jins, jsrt, jins2, jble, jblt, jf3, List.filter_cons, List.filter_nil, G_m, oX12_check, oX12_advance, oX12_nameHere, oX12_integer, joR, joRI, joRII, -Int32.not_le, -Int32.not_lt, -Int64.not_le, -Int64.not_lt, i3lt, i6lt, h, hf, h999]
  try simp (disch := omega) [-Prod.forall, -Prod.exists, -Prod.mk.injEq, -Int32.not_le, -Int32.not_lt, -Int64.not_le, -Int64.not_lt, i3lt, i6lt, h, hf, h999]
  intro v2 τ2 hv2 d1 d2 d3 d4
  subst hv2 d3
  refine jvk_ok TX12_readPlan (V := [(309, 3, 12, oX12_check), (313, 1, 12, oX12_advance), (322, 1, 12, oX12_nameHere), (325, 2, 12, oX12_integer)]) (S := []) (List.forall_mem_cons.mpr ⟨⟨mX12_check, n + 0, 2, TX12, 53, rfl, by omega, kX12_309, WX12_check, rfl, CX12_check g (n)⟩, (List.forall_mem_cons.mpr ⟨⟨mX12_advance, n + 1, 0, TX12, 53, rfl, by omega, kX12_313, WX12_advance, rfl, CX12_advance g (n)⟩, (List.forall_mem_cons.mpr ⟨⟨mX12_nameHere, n + 1, 0, TX12, 53, rfl, by omega, kX12_322, WX12_nameHere, rfl, CX12_nameHere g (n)⟩, (List.forall_mem_cons.mpr ⟨⟨mX12_integer, n + 2, 1, TX12, 53, rfl, by omega, kX12_325, WX12_integer, rfl, CX12_integer g (n)⟩, (fun _ h => absurd h List.not_mem_nil)⟩)⟩)⟩)⟩) (fun _ h => absurd h List.not_mem_nil) [99] 20 _ _ _ _ ?_
  simp (maxSteps := 1000000) [↓Bool.cond_eq_ite, -Prod.forall, -Prod.exists, -Prod.mk.injEq, jvk, tX12_readPlan, jtb, jol, jst, jlk, jcmp, jbin, jfl, fX12, jc2, lX12, jcat, jel, lv_args, Value.category, jins, jsrt, jins2, jble, jblt, jf3, List.filter_cons, List.filter_nil, G_m, oX12_check, oX12_advance, oX12_nameHere, oX12_integer, joR, joRI, joRII, -Int32.not_le, -Int32.not_lt, -Int64.not_le, -Int64.not_lt, i3lt, i6lt, h, hf, h99]
  try simp (disch := omega) [-Prod.forall, -Prod.exists, -Prod.mk.injEq, -Int32.not_le, -Int32.not_lt, -Int64.not_le, -Int64.not_lt, i3lt, i6lt, h, hf, h99]
  intro v3 τ3 hv3 e1 e2 e3 e4
  subst hv3 e3
  refine jvk_ok TX12_readPlan (V := [(309, 3, 12, oX12_check), (313, 1, 12, oX12_advance), (322, 1, 12, oX12_nameHere), (325, 2, 12, oX12_integer)]) (S := []) (List.forall_mem_cons.mpr ⟨⟨mX12_check, n + 0, 2, TX12, 53, rfl, by omega, kX12_309, WX12_check, rfl, CX12_check g (n)⟩, (List.forall_mem_cons.mpr ⟨⟨mX12_advance, n + 1, 0, TX12, 53, rfl, by omega, kX12_313, WX12_advance, rfl, CX12_advance g (n)⟩, (List.forall_mem_cons.mpr ⟨⟨mX12_nameHere, n + 1, 0, TX12, 53, rfl, by omega, kX12_322, WX12_nameHere, rfl, CX12_nameHere g (n)⟩, (List.forall_mem_cons.mpr ⟨⟨mX12_integer, n + 2, 1, TX12, 53, rfl, by omega, kX12_325, WX12_integer, rfl, CX12_integer g (n)⟩, (fun _ h => absurd h List.not_mem_nil)⟩)⟩)⟩)⟩) (fun _ h => absurd h List.not_mem_nil) [108] 20 _ _ _ _ ?_
  simp (maxSteps := 1000000) [↓Bool.cond_eq_ite, -Prod.forall, -Prod.exists, -Prod.mk.injEq, jvk, tX12_readPlan, jtb, jol, jst, jlk, jcmp, jbin, jfl, fX12, jc2, lX12, jcat, jel, lv_args, Value.category, jins, jsrt, jins2, jble, jblt, jf3, List.filter_cons, List.filter_nil, G_m, oX12_check, oX12_advance, oX12_nameHere, oX12_integer, joR, joRI, joRII, -Int32.not_le, -Int32.not_lt, -Int64.not_le, -Int64.not_lt, i3lt, i6lt, hf]
  try simp (disch := omega) [-Prod.forall, -Prod.exists, -Prod.mk.injEq, -Int32.not_le, -Int32.not_lt, -Int64.not_le, -Int64.not_lt, i3lt, i6lt, hf]
  exact k
set_option maxRecDepth 100000 in
set_option maxHeartbeats 4000000 in
theorem CPn_f (g : jG) (n : Nat) {post : Option Value → jM → Prop} {σ : jM} (h : rT σ) (hz : rSz σ) (hf : ¬ σ.1 322 41 = 0) (k : post none σ) : jW g mX12_readPlan (n + 3) post 28 [(0, .ref 322)] [] σ := by
  have k0 := CPn_l g n hz (post := post) (by
    have hb : ∀ x : Int32, 0 ≤ x ∨ x < 0 := fun x => by grind
    rcases hb (lm (fun p => decide (σ.1 349 p = σ.1 322 40)) (pe σ.1)) with c | c
    · have c' : ¬ lm (fun p => decide (σ.1 349 p = σ.1 322 40)) (pe σ.1) < 0 := by grind
      have k1 := CPn_e g n (post := post) h hf k [(1, .int (lm (fun p => decide (σ.1 349 p = σ.1 322 40)) (pe σ.1)))]
      refine jvk_ok TX12_readPlan (V := [(309, 3, 12, oX12_check), (313, 1, 12, oX12_advance), (322, 1, 12, oX12_nameHere), (325, 2, 12, oX12_integer)]) (S := []) (List.forall_mem_cons.mpr ⟨⟨mX12_check, n + 0, 2, TX12, 53, rfl, by omega, kX12_309, WX12_check, rfl, CX12_check g (n)⟩, (List.forall_mem_cons.mpr ⟨⟨mX12_advance, n + 1, 0, TX12, 53, rfl, by omega, kX12_313, WX12_advance, rfl, CX12_advance g (n)⟩, (List.forall_mem_cons.mpr ⟨⟨mX12_nameHere, n + 1, 0, TX12, 53, rfl, by omega, kX12_322, WX12_nameHere, rfl, CX12_nameHere g (n)⟩, (List.forall_mem_cons.mpr ⟨⟨mX12_integer, n + 2, 1, TX12, 53, rfl, by omega, kX12_325, WX12_integer, rfl, CX12_integer g (n)⟩, (fun _ h => absurd h List.not_mem_nil)⟩)⟩)⟩)⟩) (fun _ h => absurd h List.not_mem_nil) [80] 20 _ _ _ _ ?_
      simp (maxSteps := 1000000) [↓Bool.cond_eq_ite, -Prod.forall, -Prod.exists, -Prod.mk.injEq, jvk, tX12_readPlan, jtb, jol, jst, jlk, jcmp, jbin, jfl, fX12, jc2, lX12, jcat, jel, lv_args, Value.category, jins, jsrt, jins2, jble, jblt, jf3, List.filter_cons, List.filter_nil, G_m, oX12_check, oX12_advance, oX12_nameHere, oX12_integer, joR, joRI, joRII, -Int32.not_le, -Int32.not_lt, -Int64.not_le, -Int64.not_lt, i3lt, i6lt, c, c', hf]
      try simp (disch := omega) [-Prod.forall, -Prod.exists, -Prod.mk.injEq, -Int32.not_le, -Int32.not_lt, -Int64.not_le, -Int64.not_lt, i3lt, i6lt, c, c', hf]
      exact k1
    · have c' : ¬ 0 ≤ lm (fun p => decide (σ.1 349 p = σ.1 322 40)) (pe σ.1) := by grind
      have k1 := CPn_e g n (post := post) h hf k [(1, .int (lm (fun p => decide (σ.1 349 p = σ.1 322 40)) (pe σ.1)))]
      refine jvk_ok TX12_readPlan (V := [(309, 3, 12, oX12_check), (313, 1, 12, oX12_advance), (322, 1, 12, oX12_nameHere), (325, 2, 12, oX12_integer)]) (S := []) (List.forall_mem_cons.mpr ⟨⟨mX12_check, n + 0, 2, TX12, 53, rfl, by omega, kX12_309, WX12_check, rfl, CX12_check g (n)⟩, (List.forall_mem_cons.mpr ⟨⟨mX12_advance, n + 1, 0, TX12, 53, rfl, by omega, kX12_313, WX12_advance, rfl, CX12_advance g (n)⟩, (List.forall_mem_cons.mpr ⟨⟨mX12_nameHere, n + 1, 0, TX12, 53, rfl, by omega, kX12_322, WX12_nameHere, rfl, CX12_nameHere g (n)⟩, (List.forall_mem_cons.mpr ⟨⟨mX12_integer, n + 2, 1, TX12, 53, rfl, by omega, kX12_325, WX12_integer, rfl, CX12_integer g (n)⟩, (fun _ h => absurd h List.not_mem_nil)⟩)⟩)⟩)⟩) (fun _ h => absurd h List.not_mem_nil) [80] 20 _ _ _ _ ?_
      simp (maxSteps := 1000000) [↓Bool.cond_eq_ite, -Prod.forall, -Prod.exists, -Prod.mk.injEq, jvk, tX12_readPlan, jtb, jol, jst, jlk, jcmp, jbin, jfl, fX12, jc2, lX12, jcat, jel, lv_args, Value.category, jins, jsrt, jins2, jble, jblt, jf3, List.filter_cons, List.filter_nil, G_m, oX12_check, oX12_advance, oX12_nameHere, oX12_integer, joR, joRI, joRII, -Int32.not_le, -Int32.not_lt, -Int64.not_le, -Int64.not_lt, i3lt, i6lt, c, c', hf]
      try simp (disch := omega) [-Prod.forall, -Prod.exists, -Prod.mk.injEq, -Int32.not_le, -Int32.not_lt, -Int64.not_le, -Int64.not_lt, i3lt, i6lt, c, c', hf]
      exact k1)
  refine jvk_ok TX12_readPlan (V := [(309, 3, 12, oX12_check), (313, 1, 12, oX12_advance), (322, 1, 12, oX12_nameHere), (325, 2, 12, oX12_integer)]) (S := []) (List.forall_mem_cons.mpr ⟨⟨mX12_check, n + 0, 2, TX12, 53, rfl, by omega, kX12_309, WX12_check, rfl, CX12_check g (n)⟩, (List.forall_mem_cons.mpr ⟨⟨mX12_advance, n + 1, 0, TX12, 53, rfl, by omega, kX12_313, WX12_advance, rfl, CX12_advance g (n)⟩, (List.forall_mem_cons.mpr ⟨⟨mX12_nameHere, n + 1, 0, TX12, 53, rfl, by omega, kX12_322, WX12_nameHere, rfl, CX12_nameHere g (n)⟩, (List.forall_mem_cons.mpr ⟨⟨mX12_integer, n + 2, 1, TX12, 53, rfl, by omega, kX12_325, WX12_integer, rfl, CX12_integer g (n)⟩, (fun _ h => absurd h List.not_mem_nil)⟩)⟩)⟩)⟩) (fun _ h => absurd h List.not_mem_nil) [32] 10 _ _ _ _ ?_
  simp (maxSteps := 1000000) [↓Bool.cond_eq_ite, -Prod.forall, -Prod.exists, -Prod.mk.injEq, jvk, tX12_readPlan, jtb, jol, jst, jlk, jcmp, jbin, jfl, fX12, jc2, lX12, jcat, jel, lv_args, Value.category, jins, jsrt, jins2, jble, jblt, jf3, List.filter_cons, List.filter_nil, G_m, oX12_check, oX12_advance, oX12_nameHere, oX12_integer, joR, joRI, joRII, -Int32.not_le, -Int32.not_lt, -Int64.not_le, -Int64.not_lt, i3lt, i6lt]
  try simp (disch := omega) [-Prod.forall, -Prod.exists, -Prod.mk.injEq, -Int32.not_le, -Int32.not_lt, -Int64.not_le, -Int64.not_lt, i3lt, i6lt]
  exact k0
set_option maxRecDepth 100000 in
set_option maxHeartbeats 4000000 in
theorem CX12_readPlan (g : jG) (n : Nat) : jOk g (n + 3) mX12_readPlan oX12_readPlan := by
  refine joR_ok ?_
  rintro _ σ ⟨rfl, h, hz, s, hs⟩
  obtain ⟨⟨hR, hR4⟩, ⟨hP, hP4⟩, hL, hL4⟩ := rSz_n hz
  have h9 := (rT_n h).1
  have f0 := hs.2.1
  have uniq : ∀ t, tk σ t → t = s := fun t ht => tk_inj ht hs h9
  have e36 := hs.2.2.1
  have up41 : ∀ (τ : jM) (x : Int32), rSz τ → rSz (jup τ 322 41 x) := fun τ x q => q
  by_cases cL : 20 ≤ pn σ.1
  · have cL' : (20 : Int32) ≤ nI (pn σ.1) := nI_le (a := 20) cL (by omega)
    have hf : ¬ (jup σ 322 41 (-15)).1 322 41 = 0 := by rw [jup_1, if_pos ⟨rfl, rfl⟩]; decide
    have r1 : rT (jup σ 322 41 (-15)) := h
    refine jCon.ofP (by decide +kernel) (by simp [lg_sl, Value.category]) (fun post hp => ?_)
    refine jvk_ok TX12_readPlan (V := [(309, 3, 12, oX12_check), (313, 1, 12, oX12_advance), (322, 1, 12, oX12_nameHere), (325, 2, 12, oX12_integer)]) (S := []) (List.forall_mem_cons.mpr ⟨⟨mX12_check, n + 0, 2, TX12, 53, rfl, by omega, kX12_309, WX12_check, rfl, CX12_check g (n)⟩, (List.forall_mem_cons.mpr ⟨⟨mX12_advance, n + 1, 0, TX12, 53, rfl, by omega, kX12_313, WX12_advance, rfl, CX12_advance g (n)⟩, (List.forall_mem_cons.mpr ⟨⟨mX12_nameHere, n + 1, 0, TX12, 53, rfl, by omega, kX12_322, WX12_nameHere, rfl, CX12_nameHere g (n)⟩, (List.forall_mem_cons.mpr ⟨⟨mX12_integer, n + 2, 1, TX12, 53, rfl, by omega, kX12_325, WX12_integer, rfl, CX12_integer g (n)⟩, (fun _ h => absurd h List.not_mem_nil)⟩)⟩)⟩)⟩) (fun _ h => absurd h List.not_mem_nil) [20] 40 _ _ _ _ ?_
    simp (maxSteps := 1000000) [↓Bool.cond_eq_ite, -Prod.forall, -Prod.exists, -Prod.mk.injEq, jvk, tX12_readPlan, jtb, jol, jst, jlk, jcmp, jbin, jfl, fX12, jc2, lX12, jcat, jel, lv_args, Value.category, jins, jsrt, jins2, jble, jblt, jf3, List.filter_cons, List.filter_nil, G_m, oX12_check, oX12_advance, oX12_nameHere, oX12_integer, joR, joRI, joRII, -Int32.not_le, -Int32.not_lt, -Int64.not_le, -Int64.not_lt, i3lt, i6lt, hL4, cL', f0, i11, jup_1]
    try simp (disch := omega) [-Prod.forall, -Prod.exists, -Prod.mk.injEq, -Int32.not_le, -Int32.not_lt, -Int64.not_le, -Int64.not_lt, i3lt, i6lt, hL4, cL', f0, i11, jup_1]
    obtain ⟨ρ, eρ⟩ : ∃ ρ, ρ = jup σ 322 41 (-15) := ⟨_, rfl⟩
    rw [← eρ] at hf r1 ⊢
    refine jvk_ok TX12_readPlan (V := [(309, 3, 12, oX12_check), (313, 1, 12, oX12_advance), (322, 1, 12, oX12_nameHere), (325, 2, 12, oX12_integer)]) (S := []) (List.forall_mem_cons.mpr ⟨⟨mX12_check, n + 0, 2, TX12, 53, rfl, by omega, kX12_309, WX12_check, rfl, CX12_check g (n)⟩, (List.forall_mem_cons.mpr ⟨⟨mX12_advance, n + 1, 0, TX12, 53, rfl, by omega, kX12_313, WX12_advance, rfl, CX12_advance g (n)⟩, (List.forall_mem_cons.mpr ⟨⟨mX12_nameHere, n + 1, 0, TX12, 53, rfl, by omega, kX12_322, WX12_nameHere, rfl, CX12_nameHere g (n)⟩, (List.forall_mem_cons.mpr ⟨⟨mX12_integer, n + 2, 1, TX12, 53, rfl, by omega, kX12_325, WX12_integer, rfl, CX12_integer g (n)⟩, (fun _ h => absurd h List.not_mem_nil)⟩)⟩)⟩)⟩) (fun _ h => absurd h List.not_mem_nil) [24] 10 _ _ _ _ ?_
    simp (maxSteps := 1000000) [↓Bool.cond_eq_ite, -Prod.forall, -Prod.exists, -Prod.mk.injEq, jvk, tX12_readPlan, jtb, jol, jst, jlk, jcmp, jbin, jfl, fX12, jc2, lX12, jcat, jel, lv_args, Value.category, jins, jsrt, jins2, jble, jblt, jf3, List.filter_cons, List.filter_nil, G_m, oX12_check, oX12_advance, oX12_nameHere, oX12_integer, joR, joRI, joRII, -Int32.not_le, -Int32.not_lt, -Int64.not_le, -Int64.not_lt, i3lt, i6lt, r1, hf]
    try simp (disch := omega) [-Prod.forall, -Prod.exists, -Prod.mk.injEq, -Int32.not_le, -Int32.not_lt, -Int64.not_le, -Int64.not_lt, i3lt, i6lt, r1, hf]
    refine jvk_ok TX12_readPlan (V := [(309, 3, 12, oX12_check), (313, 1, 12, oX12_advance), (322, 1, 12, oX12_nameHere), (325, 2, 12, oX12_integer)]) (S := []) (List.forall_mem_cons.mpr ⟨⟨mX12_check, n + 0, 2, TX12, 53, rfl, by omega, kX12_309, WX12_check, rfl, CX12_check g (n)⟩, (List.forall_mem_cons.mpr ⟨⟨mX12_advance, n + 1, 0, TX12, 53, rfl, by omega, kX12_313, WX12_advance, rfl, CX12_advance g (n)⟩, (List.forall_mem_cons.mpr ⟨⟨mX12_nameHere, n + 1, 0, TX12, 53, rfl, by omega, kX12_322, WX12_nameHere, rfl, CX12_nameHere g (n)⟩, (List.forall_mem_cons.mpr ⟨⟨mX12_integer, n + 2, 1, TX12, 53, rfl, by omega, kX12_325, WX12_integer, rfl, CX12_integer g (n)⟩, (fun _ h => absurd h List.not_mem_nil)⟩)⟩)⟩)⟩) (fun _ h => absurd h List.not_mem_nil) [28] 10 _ _ _ _ ?_
    simp (maxSteps := 1000000) [↓Bool.cond_eq_ite, -Prod.forall, -Prod.exists, -Prod.mk.injEq, jvk, tX12_readPlan, jtb, jol, jst, jlk, jcmp, jbin, jfl, fX12, jc2, lX12, jcat, jel, lv_args, Value.category, jins, jsrt, jins2, jble, jblt, jf3, List.filter_cons, List.filter_nil, G_m, oX12_check, oX12_advance, oX12_nameHere, oX12_integer, joR, joRI, joRII, -Int32.not_le, -Int32.not_lt, -Int64.not_le, -Int64.not_lt, i3lt, i6lt, r1, hf]
    try simp (disch := omega) [-Prod.forall, -Prod.exists, -Prod.mk.injEq, -Int32.not_le, -Int32.not_lt, -Int64.not_le, -Int64.not_lt, i3lt, i6lt, r1, hf]
    intro a3
    refine CPn_f g n r1 (by rw [eρ]; exact hz) hf (hp _ _ ⟨rfl, by rw [eρ]; exact jfr.rfl.up _ rfl, r1, by rw [eρ]; exact hz, fun t μ ht hμ => ?_⟩)
    rw [uniq t ht]
    unfold pPlan
    rw [(rdA_n hμ).2.2.1, if_pos cL, eρ]
    exact ⟨rfl, i11.2.2.2.2, e36⟩
  · have cL' : ¬ (20 : Int32) ≤ nI (pn σ.1) := nI_ge (b := 20) (by omega) (by decide)
    obtain ⟨s1, es1⟩ : ∃ s1, s1 = nx (tB σ) (tL σ) s := ⟨_, rfl⟩
    refine jCon.ofP (by decide +kernel) (by simp [lg_sl, Value.category]) (fun post hp => ?_)
    refine jvk_ok TX12_readPlan (V := [(309, 3, 12, oX12_check), (313, 1, 12, oX12_advance), (322, 1, 12, oX12_nameHere), (325, 2, 12, oX12_integer)]) (S := []) (List.forall_mem_cons.mpr ⟨⟨mX12_check, n + 0, 2, TX12, 53, rfl, by omega, kX12_309, WX12_check, rfl, CX12_check g (n)⟩, (List.forall_mem_cons.mpr ⟨⟨mX12_advance, n + 1, 0, TX12, 53, rfl, by omega, kX12_313, WX12_advance, rfl, CX12_advance g (n)⟩, (List.forall_mem_cons.mpr ⟨⟨mX12_nameHere, n + 1, 0, TX12, 53, rfl, by omega, kX12_322, WX12_nameHere, rfl, CX12_nameHere g (n)⟩, (List.forall_mem_cons.mpr ⟨⟨mX12_integer, n + 2, 1, TX12, 53, rfl, by omega, kX12_325, WX12_integer, rfl, CX12_integer g (n)⟩, (fun _ h => absurd h List.not_mem_nil)⟩)⟩)⟩)⟩) (fun _ h => absurd h List.not_mem_nil) [20] 40 _ _ _ _ ?_
    simp (maxSteps := 1000000) [↓Bool.cond_eq_ite, -Prod.forall, -Prod.exists, -Prod.mk.injEq, jvk, tX12_readPlan, jtb, jol, jst, jlk, jcmp, jbin, jfl, fX12, jc2, lX12, jcat, jel, lv_args, Value.category, jins, jsrt, jins2, jble, jblt, jf3, List.filter_cons, List.filter_nil, G_m, oX12_check, oX12_advance, oX12_nameHere, oX12_integer, joR, joRI, joRII, -Int32.not_le, -Int32.not_lt, -Int64.not_le, -Int64.not_lt, i3lt, i6lt, hL4, cL', f0, jup_1]
    try simp (disch := omega) [-Prod.forall, -Prod.exists, -Prod.mk.injEq, -Int32.not_le, -Int32.not_lt, -Int64.not_le, -Int64.not_lt, i3lt, i6lt, hL4, cL', f0, jup_1]
    refine jvk_ok TX12_readPlan (V := [(309, 3, 12, oX12_check), (313, 1, 12, oX12_advance), (322, 1, 12, oX12_nameHere), (325, 2, 12, oX12_integer)]) (S := []) (List.forall_mem_cons.mpr ⟨⟨mX12_check, n + 0, 2, TX12, 53, rfl, by omega, kX12_309, WX12_check, rfl, CX12_check g (n)⟩, (List.forall_mem_cons.mpr ⟨⟨mX12_advance, n + 1, 0, TX12, 53, rfl, by omega, kX12_313, WX12_advance, rfl, CX12_advance g (n)⟩, (List.forall_mem_cons.mpr ⟨⟨mX12_nameHere, n + 1, 0, TX12, 53, rfl, by omega, kX12_322, WX12_nameHere, rfl, CX12_nameHere g (n)⟩, (List.forall_mem_cons.mpr ⟨⟨mX12_integer, n + 2, 1, TX12, 53, rfl, by omega, kX12_325, WX12_integer, rfl, CX12_integer g (n)⟩, (fun _ h => absurd h List.not_mem_nil)⟩)⟩)⟩)⟩) (fun _ h => absurd h List.not_mem_nil) [24] 10 _ _ _ _ ?_
    simp (maxSteps := 1000000) [↓Bool.cond_eq_ite, -Prod.forall, -Prod.exists, -Prod.mk.injEq, jvk, tX12_readPlan, jtb, jol, jst, jlk, jcmp, jbin, jfl, fX12, jc2, lX12, jcat, jel, lv_args, Value.category, jins, jsrt, jins2, jble, jblt, jf3, List.filter_cons, List.filter_nil, G_m, oX12_check, oX12_advance, oX12_nameHere, oX12_integer, joR, joRI, joRII, -Int32.not_le, -Int32.not_lt, -Int64.not_le, -Int64.not_lt, i3lt, i6lt, h]
    try simp (disch := omega) [-Prod.forall, -Prod.exists, -Prod.mk.injEq, -Int32.not_le, -Int32.not_lt, -Int64.not_le, -Int64.not_lt, i3lt, i6lt, h]
    intro v1 τ hv1 a1 a2
    subst hv1
    obtain ⟨b1, b2, b3⟩ := a2 f0
    rw [tk_nx h hs, ← es1] at b3
    obtain ⟨g1, g2⟩ := tk_fr b1
    have w1 : jfr aIn bTk σ τ := b1.weak (fun a j q => in_Tk a j q) (fun _ q => q)
    have zt : rSz τ := rSz_fr hz w1 rfl rfl rfl
    have t0 := b3.2.1
    have hpre : ∃ s, tk τ s := ⟨s1, b3⟩
    have ePe : pe τ.1 = pe σ.1 := by unfold pe; rw [w1.2.2 322 44 rfl]
    refine jvk_ok TX12_readPlan (V := [(309, 3, 12, oX12_check), (313, 1, 12, oX12_advance), (322, 1, 12, oX12_nameHere), (325, 2, 12, oX12_integer)]) (S := []) (List.forall_mem_cons.mpr ⟨⟨mX12_check, n + 0, 2, TX12, 53, rfl, by omega, kX12_309, WX12_check, rfl, CX12_check g (n)⟩, (List.forall_mem_cons.mpr ⟨⟨mX12_advance, n + 1, 0, TX12, 53, rfl, by omega, kX12_313, WX12_advance, rfl, CX12_advance g (n)⟩, (List.forall_mem_cons.mpr ⟨⟨mX12_nameHere, n + 1, 0, TX12, 53, rfl, by omega, kX12_322, WX12_nameHere, rfl, CX12_nameHere g (n)⟩, (List.forall_mem_cons.mpr ⟨⟨mX12_integer, n + 2, 1, TX12, 53, rfl, by omega, kX12_325, WX12_integer, rfl, CX12_integer g (n)⟩, (fun _ h => absurd h List.not_mem_nil)⟩)⟩)⟩)⟩) (fun _ h => absurd h List.not_mem_nil) [28] 10 _ _ _ _ ?_
    simp (maxSteps := 1000000) [↓Bool.cond_eq_ite, -Prod.forall, -Prod.exists, -Prod.mk.injEq, jvk, tX12_readPlan, jtb, jol, jst, jlk, jcmp, jbin, jfl, fX12, jc2, lX12, jcat, jel, lv_args, Value.category, jins, jsrt, jins2, jble, jblt, jf3, List.filter_cons, List.filter_nil, G_m, oX12_check, oX12_advance, oX12_nameHere, oX12_integer, joR, joRI, joRII, -Int32.not_le, -Int32.not_lt, -Int64.not_le, -Int64.not_lt, i3lt, i6lt, b2, t0, hpre]
    try simp (disch := omega) [-Prod.forall, -Prod.exists, -Prod.mk.injEq, -Int32.not_le, -Int32.not_lt, -Int64.not_le, -Int64.not_lt, i3lt, i6lt, b2, t0, hpre]
    intro v2 τ2 hv2 c1
    subst hv2
    obtain ⟨c3, c4⟩ := c1 s1 b3
    rw [g1, g2] at c3 c4
    by_cases hi : isN (tB σ) (tL σ) s1 = true
    · have e2 := c3 hi
      subst e2
      have elet := tk_let b3 (by rw [g1, g2]; exact hi)
      rw [g1, g2] at elet
      obtain ⟨q, eq⟩ : ∃ q, q = lm (fun p => decide (σ.1 349 p = nI (nm (tB σ) (tL σ) s1))) (pe σ.1) := ⟨_, rfl⟩
      have elm : lm (fun p => decide (τ2.1 349 p = τ2.1 322 40)) (pe τ2.1) = q := by
        rw [eq, ePe, elet]
        have : (fun p => decide (τ2.1 349 p = nI (nm (tB σ) (tL σ) s1))) = fun p => decide (σ.1 349 p = nI (nm (tB σ) (tL σ) s1)) := by
          funext p
          rw [w1.2.2 349 p rfl]
        rw [this]
      have emu : ∀ μ, rdA σ μ → lm (fun p => decide (μ 349 p = nI (nm (tB σ) (tL σ) s1))) (pe μ) = q := fun μ hμ => by
        rw [eq, (rdA_n hμ).2.1]
        have : (fun p => decide (μ 349 p = nI (nm (tB σ) (tL σ) s1))) = fun p => decide (σ.1 349 p = nI (nm (tB σ) (tL σ) s1)) := by
          funext p
          rw [hμ 349 p rfl]
        rw [this]
      have k0 := CPn_l g n zt (post := post) (by
        rw [elm]
        rcases lm_rng (p := fun p => decide (σ.1 349 p = nI (nm (tB σ) (tL σ) s1))) (pe σ.1) with hq | ⟨j, hj, -, hq⟩
        · rw [← eq] at hq
          subst hq
          have n1 : (-1 : Int32) < 0 := by decide
          have n2 : ¬ (0 : Int32) ≤ -1 := not_m1
          have k1 := CPn_e g n (σ := jup τ2 322 41 (-13)) (post := post) b2 (by rw [jup_1, if_pos ⟨rfl, rfl⟩]; decide) (hp _ _ ⟨rfl, (w1.weak (fun a j q => rd_In a j q) (fun _ q => q)).up _ rfl, b2, up41 _ _ zt, fun t μ ht hμ => by
            rw [uniq t ht]
            unfold pPlan
            rw [(rdA_n hμ).2.2.1, if_neg cL, ← es1, if_neg (fun z => z hi), emu μ hμ, if_pos rfl]
            exact ⟨by rw [jup_1, if_pos ⟨rfl, rfl⟩], i11.2.2.1, by rw [jup_1, if_neg (by decide)]; exact b3.2.2.1⟩⟩) [(1, .int (-1))]
          refine jvk_ok TX12_readPlan (V := [(309, 3, 12, oX12_check), (313, 1, 12, oX12_advance), (322, 1, 12, oX12_nameHere), (325, 2, 12, oX12_integer)]) (S := []) (List.forall_mem_cons.mpr ⟨⟨mX12_check, n + 0, 2, TX12, 53, rfl, by omega, kX12_309, WX12_check, rfl, CX12_check g (n)⟩, (List.forall_mem_cons.mpr ⟨⟨mX12_advance, n + 1, 0, TX12, 53, rfl, by omega, kX12_313, WX12_advance, rfl, CX12_advance g (n)⟩, (List.forall_mem_cons.mpr ⟨⟨mX12_nameHere, n + 1, 0, TX12, 53, rfl, by omega, kX12_322, WX12_nameHere, rfl, CX12_nameHere g (n)⟩, (List.forall_mem_cons.mpr ⟨⟨mX12_integer, n + 2, 1, TX12, 53, rfl, by omega, kX12_325, WX12_integer, rfl, CX12_integer g (n)⟩, (fun _ h => absurd h List.not_mem_nil)⟩)⟩)⟩)⟩) (fun _ h => absurd h List.not_mem_nil) [80] 20 _ _ _ _ ?_
          simp (maxSteps := 1000000) [↓Bool.cond_eq_ite, -Prod.forall, -Prod.exists, -Prod.mk.injEq, jvk, tX12_readPlan, jtb, jol, jst, jlk, jcmp, jbin, jfl, fX12, jc2, lX12, jcat, jel, lv_args, Value.category, jins, jsrt, jins2, jble, jblt, jf3, List.filter_cons, List.filter_nil, G_m, oX12_check, oX12_advance, oX12_nameHere, oX12_integer, joR, joRI, joRII, -Int32.not_le, -Int32.not_lt, -Int64.not_le, -Int64.not_lt, i3lt, i6lt, n1, n2, t0, i11]
          try simp (disch := omega) [-Prod.forall, -Prod.exists, -Prod.mk.injEq, -Int32.not_le, -Int32.not_lt, -Int64.not_le, -Int64.not_lt, i3lt, i6lt, n1, n2, t0, i11]
          exact k1
        · rw [← eq] at hq
          have n1 : ¬ q < 0 := by rw [hq]; exact nI_pos (by omega)
          have n2 : 0 ≤ q := by rw [hq]; exact nI_pos' (by omega)
          have n3 : ¬ q = -1 := fun z => by rw [z] at n2; exact not_m1 n2
          have h99 : ∃ hi, (99999 : Int32) = nI hi ∧ hi ≤ 99999 := ⟨99999, rfl, by decide⟩
          have h999 : ∃ hi, (999 : Int32) = nI hi ∧ hi ≤ 99999 := ⟨999, rfl, by decide⟩
          obtain ⟨s2, es2⟩ : ∃ s2, s2 = nx (tB σ) (tL σ) s1 := ⟨_, rfl⟩
          refine jvk_ok TX12_readPlan (V := [(309, 3, 12, oX12_check), (313, 1, 12, oX12_advance), (322, 1, 12, oX12_nameHere), (325, 2, 12, oX12_integer)]) (S := []) (List.forall_mem_cons.mpr ⟨⟨mX12_check, n + 0, 2, TX12, 53, rfl, by omega, kX12_309, WX12_check, rfl, CX12_check g (n)⟩, (List.forall_mem_cons.mpr ⟨⟨mX12_advance, n + 1, 0, TX12, 53, rfl, by omega, kX12_313, WX12_advance, rfl, CX12_advance g (n)⟩, (List.forall_mem_cons.mpr ⟨⟨mX12_nameHere, n + 1, 0, TX12, 53, rfl, by omega, kX12_322, WX12_nameHere, rfl, CX12_nameHere g (n)⟩, (List.forall_mem_cons.mpr ⟨⟨mX12_integer, n + 2, 1, TX12, 53, rfl, by omega, kX12_325, WX12_integer, rfl, CX12_integer g (n)⟩, (fun _ h => absurd h List.not_mem_nil)⟩)⟩)⟩)⟩) (fun _ h => absurd h List.not_mem_nil) [80] 20 _ _ _ _ ?_
          simp (maxSteps := 1000000) [↓Bool.cond_eq_ite, -Prod.forall, -Prod.exists, -Prod.mk.injEq, jvk, tX12_readPlan, jtb, jol, jst, jlk, jcmp, jbin, jfl, fX12, jc2, lX12, jcat, jel, lv_args, Value.category, jins, jsrt, jins2, jble, jblt, jf3, List.filter_cons, List.filter_nil, G_m, oX12_check, oX12_advance, oX12_nameHere, oX12_integer, joR, joRI, joRII, -Int32.not_le, -Int32.not_lt, -Int64.not_le, -Int64.not_lt, i3lt, i6lt, n1, n2, t0]
          try simp (disch := omega) [-Prod.forall, -Prod.exists, -Prod.mk.injEq, -Int32.not_le, -Int32.not_lt, -Int64.not_le, -Int64.not_lt, i3lt, i6lt, n1, n2, t0]
          refine jvk_ok TX12_readPlan (V := [(309, 3, 12, oX12_check), (313, 1, 12, oX12_advance), (322, 1, 12, oX12_nameHere), (325, 2, 12, oX12_integer)]) (S := []) (List.forall_mem_cons.mpr ⟨⟨mX12_check, n + 0, 2, TX12, 53, rfl, by omega, kX12_309, WX12_check, rfl, CX12_check g (n)⟩, (List.forall_mem_cons.mpr ⟨⟨mX12_advance, n + 1, 0, TX12, 53, rfl, by omega, kX12_313, WX12_advance, rfl, CX12_advance g (n)⟩, (List.forall_mem_cons.mpr ⟨⟨mX12_nameHere, n + 1, 0, TX12, 53, rfl, by omega, kX12_322, WX12_nameHere, rfl, CX12_nameHere g (n)⟩, (List.forall_mem_cons.mpr ⟨⟨mX12_integer, n + 2, 1, TX12, 53, rfl, by omega, kX12_325, WX12_integer, rfl, CX12_integer g (n)⟩, (fun _ h => absurd h List.not_mem_nil)⟩)⟩)⟩)⟩) (fun _ h => absurd h List.not_mem_nil) [84] 20 _ _ _ _ ?_
          simp (maxSteps := 1000000) [↓Bool.cond_eq_ite, -Prod.forall, -Prod.exists, -Prod.mk.injEq, jvk, tX12_readPlan, jtb, jol, jst, jlk, jcmp, jbin, jfl, fX12, jc2, lX12, jcat, jel, lv_args, Value.category, jins, jsrt, jins2, jble, jblt, jf3, List.filter_cons, List.filter_nil, G_m, oX12_check, oX12_advance, oX12_nameHere, oX12_integer, joR, joRI, joRII, -Int32.not_le, -Int32.not_lt, -Int64.not_le, -Int64.not_lt, i3lt, i6lt, b2, t0]
          try simp (disch := omega) [-Prod.forall, -Prod.exists, -Prod.mk.injEq, -Int32.not_le, -Int32.not_lt, -Int64.not_le, -Int64.not_lt, i3lt, i6lt, b2, t0]
          intro v3 τ3 hv3 x1 x2 x3
          subst hv3
          rw [tk_nx b2 b3, g1, g2, ← es2] at x3
          have w3 : jfr aIn bTk σ τ3 := w1.tr (x1.weak (fun a j q => in_Tk a j q) (fun _ q => q))
          obtain ⟨g3, g4⟩ := in_fr w3
          have y3 : ∃ s, tk τ3 s := ⟨_, x3⟩
          obtain ⟨s3, es3⟩ : ∃ s3, s3 = nx (tB σ) (tL σ) s2 := ⟨_, rfl⟩
          refine jvk_ok TX12_readPlan (V := [(309, 3, 12, oX12_check), (313, 1, 12, oX12_advance), (322, 1, 12, oX12_nameHere), (325, 2, 12, oX12_integer)]) (S := []) (List.forall_mem_cons.mpr ⟨⟨mX12_check, n + 0, 2, TX12, 53, rfl, by omega, kX12_309, WX12_check, rfl, CX12_check g (n)⟩, (List.forall_mem_cons.mpr ⟨⟨mX12_advance, n + 1, 0, TX12, 53, rfl, by omega, kX12_313, WX12_advance, rfl, CX12_advance g (n)⟩, (List.forall_mem_cons.mpr ⟨⟨mX12_nameHere, n + 1, 0, TX12, 53, rfl, by omega, kX12_322, WX12_nameHere, rfl, CX12_nameHere g (n)⟩, (List.forall_mem_cons.mpr ⟨⟨mX12_integer, n + 2, 1, TX12, 53, rfl, by omega, kX12_325, WX12_integer, rfl, CX12_integer g (n)⟩, (fun _ h => absurd h List.not_mem_nil)⟩)⟩)⟩)⟩) (fun _ h => absurd h List.not_mem_nil) [91] 20 _ _ _ _ ?_
          simp (maxSteps := 1000000) [↓Bool.cond_eq_ite, -Prod.forall, -Prod.exists, -Prod.mk.injEq, jvk, tX12_readPlan, jtb, jol, jst, jlk, jcmp, jbin, jfl, fX12, jc2, lX12, jcat, jel, lv_args, Value.category, jins, jsrt, jins2, jble, jblt, jf3, List.filter_cons, List.filter_nil, G_m, oX12_check, oX12_advance, oX12_nameHere, oX12_integer, joR, joRI, joRII, -Int32.not_le, -Int32.not_lt, -Int64.not_le, -Int64.not_lt, i3lt, i6lt, x2, y3, h999]
          try simp (disch := omega) [-Prod.forall, -Prod.exists, -Prod.mk.injEq, -Int32.not_le, -Int32.not_lt, -Int64.not_le, -Int64.not_lt, i3lt, i6lt, x2, y3, h999]
          intro v4 τ4 hv4 m1 m2 m3 m4
          subst hv4
          have m4 := m4 s2 x3
          rw [g3, g4] at m4
          have w4 : jfr aIn bTk σ τ4 := w3.tr m1
          rcases eM : pInt (tB σ) (tL σ) 999 s2 with e | mo
          · rw [eM] at m4
            have m4 : flt τ4 e := m4
            have hf4 : ¬ τ4.1 322 41 = 0 := by rw [m4.1]; exact m4.2.1
            refine jvk_ok TX12_readPlan (V := [(309, 3, 12, oX12_check), (313, 1, 12, oX12_advance), (322, 1, 12, oX12_nameHere), (325, 2, 12, oX12_integer)]) (S := []) (List.forall_mem_cons.mpr ⟨⟨mX12_check, n + 0, 2, TX12, 53, rfl, by omega, kX12_309, WX12_check, rfl, CX12_check g (n)⟩, (List.forall_mem_cons.mpr ⟨⟨mX12_advance, n + 1, 0, TX12, 53, rfl, by omega, kX12_313, WX12_advance, rfl, CX12_advance g (n)⟩, (List.forall_mem_cons.mpr ⟨⟨mX12_nameHere, n + 1, 0, TX12, 53, rfl, by omega, kX12_322, WX12_nameHere, rfl, CX12_nameHere g (n)⟩, (List.forall_mem_cons.mpr ⟨⟨mX12_integer, n + 2, 1, TX12, 53, rfl, by omega, kX12_325, WX12_integer, rfl, CX12_integer g (n)⟩, (fun _ h => absurd h List.not_mem_nil)⟩)⟩)⟩)⟩) (fun _ h => absurd h List.not_mem_nil) [99] 20 _ _ _ _ ?_
            simp (maxSteps := 1000000) [↓Bool.cond_eq_ite, -Prod.forall, -Prod.exists, -Prod.mk.injEq, jvk, tX12_readPlan, jtb, jol, jst, jlk, jcmp, jbin, jfl, fX12, jc2, lX12, jcat, jel, lv_args, Value.category, jins, jsrt, jins2, jble, jblt, jf3, List.filter_cons, List.filter_nil, G_m, oX12_check, oX12_advance, oX12_nameHere, oX12_integer, joR, joRI, joRII, -Int32.not_le, -Int32.not_lt, -Int64.not_le, -Int64.not_lt, i3lt, i6lt, m2, hf4, h99]
            try simp (disch := omega) [-Prod.forall, -Prod.exists, -Prod.mk.injEq, -Int32.not_le, -Int32.not_lt, -Int64.not_le, -Int64.not_lt, i3lt, i6lt, m2, hf4, h99]
            intro v5 τ5 hv5 z1 z2 z3 z4
            subst hv5 z3
            refine jvk_ok TX12_readPlan (V := [(309, 3, 12, oX12_check), (313, 1, 12, oX12_advance), (322, 1, 12, oX12_nameHere), (325, 2, 12, oX12_integer)]) (S := []) (List.forall_mem_cons.mpr ⟨⟨mX12_check, n + 0, 2, TX12, 53, rfl, by omega, kX12_309, WX12_check, rfl, CX12_check g (n)⟩, (List.forall_mem_cons.mpr ⟨⟨mX12_advance, n + 1, 0, TX12, 53, rfl, by omega, kX12_313, WX12_advance, rfl, CX12_advance g (n)⟩, (List.forall_mem_cons.mpr ⟨⟨mX12_nameHere, n + 1, 0, TX12, 53, rfl, by omega, kX12_322, WX12_nameHere, rfl, CX12_nameHere g (n)⟩, (List.forall_mem_cons.mpr ⟨⟨mX12_integer, n + 2, 1, TX12, 53, rfl, by omega, kX12_325, WX12_integer, rfl, CX12_integer g (n)⟩, (fun _ h => absurd h List.not_mem_nil)⟩)⟩)⟩)⟩) (fun _ h => absurd h List.not_mem_nil) [108] 20 _ _ _ _ ?_
            simp (maxSteps := 1000000) [↓Bool.cond_eq_ite, -Prod.forall, -Prod.exists, -Prod.mk.injEq, jvk, tX12_readPlan, jtb, jol, jst, jlk, jcmp, jbin, jfl, fX12, jc2, lX12, jcat, jel, lv_args, Value.category, jins, jsrt, jins2, jble, jblt, jf3, List.filter_cons, List.filter_nil, G_m, oX12_check, oX12_advance, oX12_nameHere, oX12_integer, joR, joRI, joRII, -Int32.not_le, -Int32.not_lt, -Int64.not_le, -Int64.not_lt, i3lt, i6lt, hf4]
            try simp (disch := omega) [-Prod.forall, -Prod.exists, -Prod.mk.injEq, -Int32.not_le, -Int32.not_lt, -Int64.not_le, -Int64.not_lt, i3lt, i6lt, hf4]
            refine hp _ _ ⟨rfl, w4.weak (fun a j q => rd_In a j q) (fun _ q => q), m2, rSz_fr hz w4 rfl rfl rfl, fun t μ ht hμ => ?_⟩
            rw [uniq t ht]
            unfold pPlan
            rw [(rdA_n hμ).2.2.1, if_neg cL, ← es1, if_neg (fun z => z hi), emu μ hμ, if_neg n3, ← es2, eM]
            exact m4
          · rw [eM] at m4
            obtain ⟨m5, m6⟩ := (m4 : τ3.1 322 38 = nI mo ∧ tk τ4 (nx (tB τ3) (tL τ3) s2))
            rw [g3, g4, ← es3] at m6
            obtain ⟨g5, g6⟩ := in_fr w4
            have y4 : ∃ s, tk τ4 s := ⟨_, m6⟩
            refine jvk_ok TX12_readPlan (V := [(309, 3, 12, oX12_check), (313, 1, 12, oX12_advance), (322, 1, 12, oX12_nameHere), (325, 2, 12, oX12_integer)]) (S := []) (List.forall_mem_cons.mpr ⟨⟨mX12_check, n + 0, 2, TX12, 53, rfl, by omega, kX12_309, WX12_check, rfl, CX12_check g (n)⟩, (List.forall_mem_cons.mpr ⟨⟨mX12_advance, n + 1, 0, TX12, 53, rfl, by omega, kX12_313, WX12_advance, rfl, CX12_advance g (n)⟩, (List.forall_mem_cons.mpr ⟨⟨mX12_nameHere, n + 1, 0, TX12, 53, rfl, by omega, kX12_322, WX12_nameHere, rfl, CX12_nameHere g (n)⟩, (List.forall_mem_cons.mpr ⟨⟨mX12_integer, n + 2, 1, TX12, 53, rfl, by omega, kX12_325, WX12_integer, rfl, CX12_integer g (n)⟩, (fun _ h => absurd h List.not_mem_nil)⟩)⟩)⟩)⟩) (fun _ h => absurd h List.not_mem_nil) [99] 20 _ _ _ _ ?_
            simp (maxSteps := 1000000) [↓Bool.cond_eq_ite, -Prod.forall, -Prod.exists, -Prod.mk.injEq, jvk, tX12_readPlan, jtb, jol, jst, jlk, jcmp, jbin, jfl, fX12, jc2, lX12, jcat, jel, lv_args, Value.category, jins, jsrt, jins2, jble, jblt, jf3, List.filter_cons, List.filter_nil, G_m, oX12_check, oX12_advance, oX12_nameHere, oX12_integer, joR, joRI, joRII, -Int32.not_le, -Int32.not_lt, -Int64.not_le, -Int64.not_lt, i3lt, i6lt, m2, y4, h99]
            try simp (disch := omega) [-Prod.forall, -Prod.exists, -Prod.mk.injEq, -Int32.not_le, -Int32.not_lt, -Int64.not_le, -Int64.not_lt, i3lt, i6lt, m2, y4, h99]
            intro v5 τ5 hv5 z1 z2 z3 z4
            subst hv5
            have z4 := z4 s3 m6
            rw [g5, g6] at z4
            have w5 : jfr aIn bTk σ τ5 := w4.tr z1
            rcases eV : pInt (tB σ) (tL σ) 99999 s3 with e | y
            · rw [eV] at z4
              have z4 : flt τ5 e := z4
              have hf5 : ¬ τ5.1 322 41 = 0 := by rw [z4.1]; exact z4.2.1
              refine jvk_ok TX12_readPlan (V := [(309, 3, 12, oX12_check), (313, 1, 12, oX12_advance), (322, 1, 12, oX12_nameHere), (325, 2, 12, oX12_integer)]) (S := []) (List.forall_mem_cons.mpr ⟨⟨mX12_check, n + 0, 2, TX12, 53, rfl, by omega, kX12_309, WX12_check, rfl, CX12_check g (n)⟩, (List.forall_mem_cons.mpr ⟨⟨mX12_advance, n + 1, 0, TX12, 53, rfl, by omega, kX12_313, WX12_advance, rfl, CX12_advance g (n)⟩, (List.forall_mem_cons.mpr ⟨⟨mX12_nameHere, n + 1, 0, TX12, 53, rfl, by omega, kX12_322, WX12_nameHere, rfl, CX12_nameHere g (n)⟩, (List.forall_mem_cons.mpr ⟨⟨mX12_integer, n + 2, 1, TX12, 53, rfl, by omega, kX12_325, WX12_integer, rfl, CX12_integer g (n)⟩, (fun _ h => absurd h List.not_mem_nil)⟩)⟩)⟩)⟩) (fun _ h => absurd h List.not_mem_nil) [108] 20 _ _ _ _ ?_
              simp (maxSteps := 1000000) [↓Bool.cond_eq_ite, -Prod.forall, -Prod.exists, -Prod.mk.injEq, jvk, tX12_readPlan, jtb, jol, jst, jlk, jcmp, jbin, jfl, fX12, jc2, lX12, jcat, jel, lv_args, Value.category, jins, jsrt, jins2, jble, jblt, jf3, List.filter_cons, List.filter_nil, G_m, oX12_check, oX12_advance, oX12_nameHere, oX12_integer, joR, joRI, joRII, -Int32.not_le, -Int32.not_lt, -Int64.not_le, -Int64.not_lt, i3lt, i6lt, hf5]
              try simp (disch := omega) [-Prod.forall, -Prod.exists, -Prod.mk.injEq, -Int32.not_le, -Int32.not_lt, -Int64.not_le, -Int64.not_lt, i3lt, i6lt, hf5]
              refine hp _ _ ⟨rfl, w5.weak (fun a j q => rd_In a j q) (fun _ q => q), z2, rSz_fr hz w5 rfl rfl rfl, fun t μ ht hμ => ?_⟩
              rw [uniq t ht]
              unfold pPlan
              rw [(rdA_n hμ).2.2.1, if_neg cL, ← es1, if_neg (fun z => z hi), emu μ hμ, if_neg n3, ← es2, eM]
              dsimp only
              rw [← es3, eV]
              exact z4
            · rw [eV] at z4
              obtain ⟨z5, z6⟩ := (z4 : τ4.1 322 38 = nI y ∧ tk τ5 (nx (tB τ4) (tL τ4) s3))
              rw [g5, g6] at z6
              have f5 := z6.2.1
              obtain ⟨K, eK⟩ : ∃ K, K = pn σ.1 := ⟨_, rfl⟩
              rw [← eK] at hL hL4 cL
              have e45 : τ5.1 322 45 = nI K := (w5.2.2 322 45 rfl).trans hL4
              have e3K : 3 * nI K = nI (3 * K) := pk_mul 3 K
              have a1 : nI (3 * K) + 1 = nI (3 * K + 1) := nI_1 _
              have a2 : nI (3 * K) + 2 = nI (3 * K + 2) := nI_add _ 2
              have j0 : jin (nI (3 * K)) 60 ∧ (nI (3 * K)).toNatClampNeg = 3 * K := ⟨jin_nI (by omega) (by decide), nI_clamp (by omega)⟩
              have j1 : jin (nI (3 * K + 1)) 60 ∧ (nI (3 * K + 1)).toNatClampNeg = 3 * K + 1 := ⟨jin_nI (by omega) (by decide), nI_clamp (by omega)⟩
              have j2 : jin (nI (3 * K + 2)) 60 ∧ (nI (3 * K + 2)).toNatClampNeg = 3 * K + 2 := ⟨jin_nI (by omega) (by decide), nI_clamp (by omega)⟩
              have aK : nI K + 1 = nI (K + 1) := nI_1 _
              refine jvk_ok TX12_readPlan (V := [(309, 3, 12, oX12_check), (313, 1, 12, oX12_advance), (322, 1, 12, oX12_nameHere), (325, 2, 12, oX12_integer)]) (S := []) (List.forall_mem_cons.mpr ⟨⟨mX12_check, n + 0, 2, TX12, 53, rfl, by omega, kX12_309, WX12_check, rfl, CX12_check g (n)⟩, (List.forall_mem_cons.mpr ⟨⟨mX12_advance, n + 1, 0, TX12, 53, rfl, by omega, kX12_313, WX12_advance, rfl, CX12_advance g (n)⟩, (List.forall_mem_cons.mpr ⟨⟨mX12_nameHere, n + 1, 0, TX12, 53, rfl, by omega, kX12_322, WX12_nameHere, rfl, CX12_nameHere g (n)⟩, (List.forall_mem_cons.mpr ⟨⟨mX12_integer, n + 2, 1, TX12, 53, rfl, by omega, kX12_325, WX12_integer, rfl, CX12_integer g (n)⟩, (fun _ h => absurd h List.not_mem_nil)⟩)⟩)⟩)⟩) (fun _ h => absurd h List.not_mem_nil) [108] 20 _ _ _ _ ?_
              simp (maxSteps := 1000000) [↓Bool.cond_eq_ite, -Prod.forall, -Prod.exists, -Prod.mk.injEq, jvk, tX12_readPlan, jtb, jol, jst, jlk, jcmp, jbin, jfl, fX12, jc2, lX12, jcat, jel, lv_args, Value.category, jins, jsrt, jins2, jble, jblt, jf3, List.filter_cons, List.filter_nil, G_m, oX12_check, oX12_advance, oX12_nameHere, oX12_integer, joR, joRI, joRII, -Int32.not_le, -Int32.not_lt, -Int64.not_le, -Int64.not_lt, i3lt, i6lt, f5]
              try simp (disch := omega) [-Prod.forall, -Prod.exists, -Prod.mk.injEq, -Int32.not_le, -Int32.not_lt, -Int64.not_le, -Int64.not_lt, i3lt, i6lt, f5]
              refine jvk_ok TX12_readPlan (V := [(309, 3, 12, oX12_check), (313, 1, 12, oX12_advance), (322, 1, 12, oX12_nameHere), (325, 2, 12, oX12_integer)]) (S := []) (List.forall_mem_cons.mpr ⟨⟨mX12_check, n + 0, 2, TX12, 53, rfl, by omega, kX12_309, WX12_check, rfl, CX12_check g (n)⟩, (List.forall_mem_cons.mpr ⟨⟨mX12_advance, n + 1, 0, TX12, 53, rfl, by omega, kX12_313, WX12_advance, rfl, CX12_advance g (n)⟩, (List.forall_mem_cons.mpr ⟨⟨mX12_nameHere, n + 1, 0, TX12, 53, rfl, by omega, kX12_322, WX12_nameHere, rfl, CX12_nameHere g (n)⟩, (List.forall_mem_cons.mpr ⟨⟨mX12_integer, n + 2, 1, TX12, 53, rfl, by omega, kX12_325, WX12_integer, rfl, CX12_integer g (n)⟩, (fun _ h => absurd h List.not_mem_nil)⟩)⟩)⟩)⟩) (fun _ h => absurd h List.not_mem_nil) [] 60 _ _ _ _ ?_
              simp (maxSteps := 1000000) [↓Bool.cond_eq_ite, -Prod.forall, -Prod.exists, -Prod.mk.injEq, jvk, tX12_readPlan, jtb, jol, jst, jlk, jcmp, jbin, jfl, fX12, jc2, lX12, jcat, jel, lv_args, Value.category, jins, jsrt, jins2, jble, jblt, jf3, List.filter_cons, List.filter_nil, G_m, oX12_check, oX12_advance, oX12_nameHere, oX12_integer, joR, joRI, joRII, -Int32.not_le, -Int32.not_lt, -Int64.not_le, -Int64.not_lt, i3lt, i6lt, e45, e3K, a1, a2, j0, j1, j2, aK, m5, z5, jup_1]
              try simp (disch := omega) [-Prod.forall, -Prod.exists, -Prod.mk.injEq, -Int32.not_le, -Int32.not_lt, -Int64.not_le, -Int64.not_lt, i3lt, i6lt, e45, e3K, a1, a2, j0, j1, j2, aK, m5, z5, jup_1]
              refine hp _ _ ⟨rfl, ((((w5.weak (fun a j q => rd_In a j q) (fun _ q => q)).up _ rfl).up _ rfl).up _ rfl).up _ rfl, z2, ?_, fun t μ ht hμ => ?_⟩
              · have sz5 : rSz τ5 := rSz_fr hz w5 rfl rfl rfl
                refine ⟨sz5.1, sz5.2.1, ?_⟩
                rw [jup_1, if_pos ⟨rfl, rfl⟩]
                exact ⟨nI_pos' (by omega), nI_le (b := 20) (by omega) (by decide)⟩
              · rw [uniq t ht]
                unfold pPlan
                rw [(rdA_n hμ).2.2.1, ← eK, if_neg cL, ← es1, if_neg (fun z => z hi), emu μ hμ, if_neg n3, ← es2, eM]
                dsimp only
                rw [← es3, eV]
                exact ⟨z6, rdA_up (rdA_up (rdA_up (rdA_up (rdA_fr hμ w5) _ _ _) _ _ _) _ _ _) _ _ _⟩)
      refine jvk_ok TX12_readPlan (V := [(309, 3, 12, oX12_check), (313, 1, 12, oX12_advance), (322, 1, 12, oX12_nameHere), (325, 2, 12, oX12_integer)]) (S := []) (List.forall_mem_cons.mpr ⟨⟨mX12_check, n + 0, 2, TX12, 53, rfl, by omega, kX12_309, WX12_check, rfl, CX12_check g (n)⟩, (List.forall_mem_cons.mpr ⟨⟨mX12_advance, n + 1, 0, TX12, 53, rfl, by omega, kX12_313, WX12_advance, rfl, CX12_advance g (n)⟩, (List.forall_mem_cons.mpr ⟨⟨mX12_nameHere, n + 1, 0, TX12, 53, rfl, by omega, kX12_322, WX12_nameHere, rfl, CX12_nameHere g (n)⟩, (List.forall_mem_cons.mpr ⟨⟨mX12_integer, n + 2, 1, TX12, 53, rfl, by omega, kX12_325, WX12_integer, rfl, CX12_integer g (n)⟩, (fun _ h => absurd h List.not_mem_nil)⟩)⟩)⟩)⟩) (fun _ h => absurd h List.not_mem_nil) [32] 10 _ _ _ _ ?_
      simp (maxSteps := 1000000) [↓Bool.cond_eq_ite, -Prod.forall, -Prod.exists, -Prod.mk.injEq, jvk, tX12_readPlan, jtb, jol, jst, jlk, jcmp, jbin, jfl, fX12, jc2, lX12, jcat, jel, lv_args, Value.category, jins, jsrt, jins2, jble, jblt, jf3, List.filter_cons, List.filter_nil, G_m, oX12_check, oX12_advance, oX12_nameHere, oX12_integer, joR, joRI, joRII, -Int32.not_le, -Int32.not_lt, -Int64.not_le, -Int64.not_lt, i3lt, i6lt]
      try simp (disch := omega) [-Prod.forall, -Prod.exists, -Prod.mk.injEq, -Int32.not_le, -Int32.not_lt, -Int64.not_le, -Int64.not_lt, i3lt, i6lt]
      exact k0
    · have e2 := c4 (by simpa using hi)
      subst e2
      refine CPn_f g n (σ := jup τ 322 41 (-11)) b2 (up41 _ _ zt) (by rw [jup_1, if_pos ⟨rfl, rfl⟩]; decide) (hp _ _ ⟨rfl, (w1.weak (fun a j q => rd_In a j q) (fun _ q => q)).up _ rfl, b2, up41 _ _ zt, fun t μ ht hμ => ?_⟩)
      rw [uniq t ht]
      unfold pPlan
      rw [(rdA_n hμ).2.2.1, if_neg cL, ← es1, if_pos hi]
      exact ⟨by rw [jup_1, if_pos ⟨rfl, rfl⟩], i11.1, by rw [jup_1, if_neg (by decide)]; exact b3.2.2.1⟩
