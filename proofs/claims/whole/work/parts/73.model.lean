/-! the reference: rooms and people of a text -/
def aRd (a j : Nat) : Bool := a == 347 || a == 348 || a == 349 || a == 350 || a == 322 && (j == 35 || j == 36 || j == 37 || j == 38 || j == 40 || j == 41 || j == 43 || j == 44 || j == 45 || j == 49)
theorem rd_In (a j : Nat) (h : aRd a j = false) : aIn a j = false := by
  unfold aRd at h
  unfold aIn
  simp only [Bool.or_eq_false_iff, Bool.and_eq_false_iff, beq_eq_false_iff_ne] at h ⊢
  omega
def rSz (σ : jM) : Prop := (0 ≤ σ.1 322 43 ∧ σ.1 322 43 ≤ 6) ∧ (0 ≤ σ.1 322 44 ∧ σ.1 322 44 ≤ 10) ∧ 0 ≤ σ.1 322 45 ∧ σ.1 322 45 ≤ 20
theorem rSz_n {σ : jM} (h : rSz σ) : (rm σ.1 ≤ 6 ∧ σ.1 322 43 = nI (rm σ.1)) ∧ (pe σ.1 ≤ 10 ∧ σ.1 322 44 = nI (pe σ.1)) ∧ pn σ.1 ≤ 20 ∧ σ.1 322 45 = nI (pn σ.1) := by
  obtain ⟨a, a1, a2, a3⟩ := nI_rng h.1.1 h.1.2 (by decide)
  obtain ⟨b, b1, b2, b3⟩ := nI_rng h.2.1.1 h.2.1.2 (by decide)
  obtain ⟨c, c1, c2, c3⟩ := nI_rng h.2.2.1 h.2.2.2 (by decide)
  unfold rm pe pn
  rw [a3, b3, c3]
  exact ⟨⟨a1, a2⟩, ⟨b1, b2⟩, c1, c2⟩
theorem rSz_fr {σ τ : jM} {A : Nat → Nat → Bool} {B : Nat → Bool} (h : rSz σ) (f : jfr A B σ τ) (h3 : A 322 43 = false) (h4 : A 322 44 = false) (h5 : A 322 45 = false) : rSz τ := by
  unfold rSz
  rw [f.2.2 322 43 h3, f.2.2 322 44 h4, f.2.2 322 45 h5]
  exact h
def aMu (a j : Nat) : Bool := a == 347 || a == 348 || a == 349 || a == 350 || a == 322 && (j == 43 || j == 44 || j == 45 || j == 49)
def rdA (τ : jM) (μ : pM) : Prop := ∀ a j, aMu a j = true → τ.1 a j = μ a j
theorem rdA_n {σ : jM} {μ : pM} (h : rdA σ μ) : rm μ = rm σ.1 ∧ pe μ = pe σ.1 ∧ pn μ = pn σ.1 ∧ μ 322 49 = σ.1 322 49 := by
  unfold rm pe pn
  rw [h 322 43 rfl, h 322 44 rfl, h 322 45 rfl, h 322 49 rfl]
  exact ⟨rfl, rfl, rfl, rfl⟩
theorem rdA_fr {σ τ : jM} {μ : pM} (h : rdA σ μ) (f : jfr aIn bTk σ τ) : rdA τ μ := fun a j q => by
  rw [← h a j q]
  refine f.2.2 a j ?_
  unfold aMu at q
  unfold aIn
  simp only [Bool.or_eq_true, Bool.and_eq_true, beq_iff_eq] at q
  simp only [Bool.and_eq_false_iff, Bool.or_eq_false_iff, beq_eq_false_iff_ne]
  omega
theorem rdA_up {τ : jM} {μ : pM} (h : rdA τ μ) (a k : Nat) (x : Int32) : rdA (jup τ a k x) (u1 μ a k x) := fun i j q => by
  rw [jup_1]
  unfold u1
  by_cases e : i = a ∧ j = k
  · rw [if_pos e, if_pos e]
  · rw [if_neg e, if_neg e]; exact h i j q
theorem rdA_to {τ : jM} {μ : pM} (h : rdA τ μ) {a k : Nat} (x : Int32) (q0 : aMu a k = false) : rdA (jup τ a k x) μ := fun i j q => by
  rw [jup_1, if_neg (fun z => by rw [z.1, z.2, q0] at q; cases q)]
  exact h i j q
theorem dup_fr {σ : jM} {μ : pM} (h : rdA σ μ) (B : Nat → Int32) (L a N s : Nat) (ha : ∀ j, aMu a j = true) : dup B L μ a N s = dup B L σ.1 a N s := by
  have : (fun r => decide (¬ μ a r = nI (nm B L s))) = fun r => decide (¬ σ.1 a r = nI (nm B L s)) := by
    funext r
    rw [h a r (ha r)]
  unfold dup
  rw [this]
def rRes (τ : jM) (r : pE ⊕ pS) : Prop := match r with
  | .inl e => flt τ e
  | .inr q => tk τ q.1 ∧ rdA τ q.2
theorem tk_nx {σ : jM} (h : rT σ) {s : Nat} (hs : tk σ s) : rn (tB σ) (tL σ) 1 (tE σ) = nx (tB σ) (tL σ) s := by
  have := hs.2.2.2.1
  have h1 := (rT_n h).1
  have h2 := (en_le (b := tB σ) hs.1).2.1
  have e : tE σ = en (tB σ) (tL σ) s := by
    unfold tE
    rw [this, nI_clamp (by omega)]
  rw [e]
  rfl
theorem i11 : ¬ (-11 : Int32) = 0 ∧ ¬ (-12 : Int32) = 0 ∧ ¬ (-13 : Int32) = 0 ∧ ¬ (-14 : Int32) = 0 ∧ ¬ (-15 : Int32) = 0 := by decide
theorem tk_let {σ : jM} {s : Nat} (hs : tk σ s) (hi : isN (tB σ) (tL σ) s = true) : σ.1 322 40 = nI (nm (tB σ) (tL σ) s) := by
  unfold isN at hi
  simp only [decide_eq_true_eq] at hi
  exact (hs.2.2.2.2.2.2.2 hi.1).1 hi.2
/-! behind an error: readRoom -/
set_option maxRecDepth 100000 in
set_option maxHeartbeats 4000000 in
theorem CNl_readRoom (g : jG) (n : Nat) {post : Option Value → jM → Prop} {σ : jM} (hz : rSz σ) (hf : ¬ σ.1 322 41 = 0) (k : post none σ) : ∀ (d i : Nat), rm σ.1 - i = d → i ≤ rm σ.1 → jW g mX12_readRoom (n + 2) post 48 [(0, .ref 322), (1, .int (nI i))] [] σ := by
  have hN := rSz_n hz
  obtain ⟨hN10, hN4⟩ := hN.1
  intro d
  induction d with
  | zero =>
    intro i hd hi
    have hle : nI (rm σ.1) ≤ nI i := nI_le (by omega) (by omega)
    refine jvk_ok TX12_readRoom (V := [(309, 3, 12, oX12_check), (313, 1, 12, oX12_advance), (322, 1, 12, oX12_nameHere)]) (S := []) (List.forall_mem_cons.mpr ⟨⟨mX12_check, n + 0, 2, TX12, 53, rfl, by omega, kX12_309, WX12_check, rfl, CX12_check g (n)⟩, (List.forall_mem_cons.mpr ⟨⟨mX12_advance, n + 1, 0, TX12, 53, rfl, by omega, kX12_313, WX12_advance, rfl, CX12_advance g (n)⟩, (List.forall_mem_cons.mpr ⟨⟨mX12_nameHere, n + 1, 0, TX12, 53, rfl, by omega, kX12_322, WX12_nameHere, rfl, CX12_nameHere g (n)⟩, (fun _ h => absurd h List.not_mem_nil)⟩)⟩)⟩) (fun _ h => absurd h List.not_mem_nil) [48] 20 _ _ _ _ ?_
    simp (maxSteps := 1000000) [↓Bool.cond_eq_ite, -Prod.forall, -Prod.exists, -Prod.mk.injEq, jvk, tX12_readRoom, jtb, jol, jst, jlk, jcmp, jbin, jfl, fX12, jc2, lX12, jcat, jel, lv_args, Value.category, jins, jsrt, jins2, jble, jblt, jf3, List.filter_cons, List.filter_nil, G_m, oX12_check, oX12_advance, oX12_nameHere, joR, joRII, -Int32.not_le, -Int32.not_lt, -Int64.not_le, -Int64.not_lt, i3lt, i6lt, hN4, hle, hf]
    try simp (disch := omega) [-Prod.forall, -Prod.exists, -Prod.mk.injEq, -Int32.not_le, -Int32.not_lt, -Int64.not_le, -Int64.not_lt, i3lt, i6lt, hN4, hle, hf]
    exact k
  | succ d ih =>
    intro i hd hi
    have hlt : ¬ nI (rm σ.1) ≤ nI i := nI_ge (by omega) (by omega)
    have hk1 : jin (nI i) 6 := jin_nI (by omega) (by decide)
    have eck : (nI i).toNatClampNeg = i := nI_clamp (by omega)
    have k1 := ih (i + 1) (by omega) (by omega)
    by_cases c : σ.1 348 i = σ.1 322 40
    · refine jvk_ok TX12_readRoom (V := [(309, 3, 12, oX12_check), (313, 1, 12, oX12_advance), (322, 1, 12, oX12_nameHere)]) (S := []) (List.forall_mem_cons.mpr ⟨⟨mX12_check, n + 0, 2, TX12, 53, rfl, by omega, kX12_309, WX12_check, rfl, CX12_check g (n)⟩, (List.forall_mem_cons.mpr ⟨⟨mX12_advance, n + 1, 0, TX12, 53, rfl, by omega, kX12_313, WX12_advance, rfl, CX12_advance g (n)⟩, (List.forall_mem_cons.mpr ⟨⟨mX12_nameHere, n + 1, 0, TX12, 53, rfl, by omega, kX12_322, WX12_nameHere, rfl, CX12_nameHere g (n)⟩, (fun _ h => absurd h List.not_mem_nil)⟩)⟩)⟩) (fun _ h => absurd h List.not_mem_nil) [48] 20 _ _ _ _ ?_
      simp (maxSteps := 1000000) [↓Bool.cond_eq_ite, -Prod.forall, -Prod.exists, -Prod.mk.injEq, jvk, tX12_readRoom, jtb, jol, jst, jlk, jcmp, jbin, jfl, fX12, jc2, lX12, jcat, jel, lv_args, Value.category, jins, jsrt, jins2, jble, jblt, jf3, List.filter_cons, List.filter_nil, G_m, oX12_check, oX12_advance, oX12_nameHere, joR, joRII, -Int32.not_le, -Int32.not_lt, -Int64.not_le, -Int64.not_lt, i3lt, i6lt, hN4, hlt, hk1, eck, c, hf, nI_1]
      try simp (disch := omega) [-Prod.forall, -Prod.exists, -Prod.mk.injEq, -Int32.not_le, -Int32.not_lt, -Int64.not_le, -Int64.not_lt, i3lt, i6lt, hN4, hlt, hk1, eck, c, hf, nI_1]
      exact k1
    · refine jvk_ok TX12_readRoom (V := [(309, 3, 12, oX12_check), (313, 1, 12, oX12_advance), (322, 1, 12, oX12_nameHere)]) (S := []) (List.forall_mem_cons.mpr ⟨⟨mX12_check, n + 0, 2, TX12, 53, rfl, by omega, kX12_309, WX12_check, rfl, CX12_check g (n)⟩, (List.forall_mem_cons.mpr ⟨⟨mX12_advance, n + 1, 0, TX12, 53, rfl, by omega, kX12_313, WX12_advance, rfl, CX12_advance g (n)⟩, (List.forall_mem_cons.mpr ⟨⟨mX12_nameHere, n + 1, 0, TX12, 53, rfl, by omega, kX12_322, WX12_nameHere, rfl, CX12_nameHere g (n)⟩, (fun _ h => absurd h List.not_mem_nil)⟩)⟩)⟩) (fun _ h => absurd h List.not_mem_nil) [48] 20 _ _ _ _ ?_
      simp (maxSteps := 1000000) [↓Bool.cond_eq_ite, -Prod.forall, -Prod.exists, -Prod.mk.injEq, jvk, tX12_readRoom, jtb, jol, jst, jlk, jcmp, jbin, jfl, fX12, jc2, lX12, jcat, jel, lv_args, Value.category, jins, jsrt, jins2, jble, jblt, jf3, List.filter_cons, List.filter_nil, G_m, oX12_check, oX12_advance, oX12_nameHere, joR, joRII, -Int32.not_le, -Int32.not_lt, -Int64.not_le, -Int64.not_lt, i3lt, i6lt, hN4, hlt, hk1, eck, c, hf, nI_1]
      try simp (disch := omega) [-Prod.forall, -Prod.exists, -Prod.mk.injEq, -Int32.not_le, -Int32.not_lt, -Int64.not_le, -Int64.not_lt, i3lt, i6lt, hN4, hlt, hk1, eck, c, hf, nI_1]
      exact k1
set_option maxRecDepth 100000 in
set_option maxHeartbeats 4000000 in
theorem CNf_readRoom (g : jG) (n : Nat) {post : Option Value → jM → Prop} {σ : jM} (h : rT σ) (hz : rSz σ) (hf : ¬ σ.1 322 41 = 0) (k : post none σ) : jW g mX12_readRoom (n + 2) post 38 [(0, .ref 322)] [] σ := by
  have k0 := CNl_readRoom g n hz hf k _ 0 rfl (Nat.zero_le _)
  rw [nI_0] at k0
  refine jvk_ok TX12_readRoom (V := [(309, 3, 12, oX12_check), (313, 1, 12, oX12_advance), (322, 1, 12, oX12_nameHere)]) (S := []) (List.forall_mem_cons.mpr ⟨⟨mX12_check, n + 0, 2, TX12, 53, rfl, by omega, kX12_309, WX12_check, rfl, CX12_check g (n)⟩, (List.forall_mem_cons.mpr ⟨⟨mX12_advance, n + 1, 0, TX12, 53, rfl, by omega, kX12_313, WX12_advance, rfl, CX12_advance g (n)⟩, (List.forall_mem_cons.mpr ⟨⟨mX12_nameHere, n + 1, 0, TX12, 53, rfl, by omega, kX12_322, WX12_nameHere, rfl, CX12_nameHere g (n)⟩, (fun _ h => absurd h List.not_mem_nil)⟩)⟩)⟩) (fun _ h => absurd h List.not_mem_nil) [42, 46, 48] 10 _ _ _ _ ?_
  simp (maxSteps := 1000000) [↓Bool.cond_eq_ite, -Prod.forall, -Prod.exists, -Prod.mk.injEq, jvk, tX12_readRoom, jtb, jol, jst, jlk, jcmp, jbin, jfl, fX12, jc2, lX12, jcat, jel, lv_args, Value.category, jins, jsrt, jins2, jble, jblt, jf3, List.filter_cons, List.filter_nil, G_m, oX12_check, oX12_advance, oX12_nameHere, joR, joRII, -Int32.not_le, -Int32.not_lt, -Int64.not_le, -Int64.not_lt, i3lt, i6lt, h, hf]
  try simp (disch := omega) [-Prod.forall, -Prod.exists, -Prod.mk.injEq, -Int32.not_le, -Int32.not_lt, -Int64.not_le, -Int64.not_lt, i3lt, i6lt, h, hf]
  refine jvk_ok TX12_readRoom (V := [(309, 3, 12, oX12_check), (313, 1, 12, oX12_advance), (322, 1, 12, oX12_nameHere)]) (S := []) (List.forall_mem_cons.mpr ⟨⟨mX12_check, n + 0, 2, TX12, 53, rfl, by omega, kX12_309, WX12_check, rfl, CX12_check g (n)⟩, (List.forall_mem_cons.mpr ⟨⟨mX12_advance, n + 1, 0, TX12, 53, rfl, by omega, kX12_313, WX12_advance, rfl, CX12_advance g (n)⟩, (List.forall_mem_cons.mpr ⟨⟨mX12_nameHere, n + 1, 0, TX12, 53, rfl, by omega, kX12_322, WX12_nameHere, rfl, CX12_nameHere g (n)⟩, (fun _ h => absurd h List.not_mem_nil)⟩)⟩)⟩) (fun _ h => absurd h List.not_mem_nil) [46, 48] 10 _ _ _ _ ?_
  simp (maxSteps := 1000000) [↓Bool.cond_eq_ite, -Prod.forall, -Prod.exists, -Prod.mk.injEq, jvk, tX12_readRoom, jtb, jol, jst, jlk, jcmp, jbin, jfl, fX12, jc2, lX12, jcat, jel, lv_args, Value.category, jins, jsrt, jins2, jble, jblt, jf3, List.filter_cons, List.filter_nil, G_m, oX12_check, oX12_advance, oX12_nameHere, joR, joRII, -Int32.not_le, -Int32.not_lt, -Int64.not_le, -Int64.not_lt, i3lt, i6lt, h, hf]
  try simp (disch := omega) [-Prod.forall, -Prod.exists, -Prod.mk.injEq, -Int32.not_le, -Int32.not_lt, -Int64.not_le, -Int64.not_lt, i3lt, i6lt, h, hf]
  intro a3
  refine jvk_ok TX12_readRoom (V := [(309, 3, 12, oX12_check), (313, 1, 12, oX12_advance), (322, 1, 12, oX12_nameHere)]) (S := []) (List.forall_mem_cons.mpr ⟨⟨mX12_check, n + 0, 2, TX12, 53, rfl, by omega, kX12_309, WX12_check, rfl, CX12_check g (n)⟩, (List.forall_mem_cons.mpr ⟨⟨mX12_advance, n + 1, 0, TX12, 53, rfl, by omega, kX12_313, WX12_advance, rfl, CX12_advance g (n)⟩, (List.forall_mem_cons.mpr ⟨⟨mX12_nameHere, n + 1, 0, TX12, 53, rfl, by omega, kX12_322, WX12_nameHere, rfl, CX12_nameHere g (n)⟩, (fun _ h => absurd h List.not_mem_nil)⟩)⟩)⟩) (fun _ h => absurd h List.not_mem_nil) [48] 10 _ _ _ _ ?_
  simp (maxSteps := 1000000) [↓Bool.cond_eq_ite, -Prod.forall, -Prod.exists, -Prod.mk.injEq, jvk, tX12_readRoom, jtb, jol, jst, jlk, jcmp, jbin, jfl, fX12, jc2, lX12, jcat, jel, lv_args, Value.category, jins, jsrt, jins2, jble, jblt, jf3, List.filter_cons, List.filter_nil, G_m, oX12_check, oX12_advance, oX12_nameHere, joR, joRII, -Int32.not_le, -Int32.not_lt, -Int64.not_le, -Int64.not_lt, i3lt, i6lt]
  try simp (disch := omega) [-Prod.forall, -Prod.exists, -Prod.mk.injEq, -Int32.not_le, -Int32.not_lt, -Int64.not_le, -Int64.not_lt, i3lt, i6lt]
  exact k0
set_option maxRecDepth 100000 in
set_option maxHeartbeats 4000000 in
theorem CNm_readRoom (g : jG) (n : Nat) {post : Option Value → jM → Prop} {σ : jM} (h : rT σ) (hz : rSz σ) {s : Nat} (hs : tk σ s)
    (kf : ∀ τ e, jfr aIn bTk σ τ → rT τ → flt τ e → ((¬ isN (tB σ) (tL σ) (nx (tB σ) (tL σ) s) = true ∧ e = (-11, nx (tB σ) (tL σ) s)) ∨ (isN (tB σ) (tL σ) (nx (tB σ) (tL σ) s) = true ∧ dup (tB σ) (tL σ) σ.1 348 (rm σ.1) (nx (tB σ) (tL σ) s) = true ∧ e = (-14, nx (tB σ) (tL σ) s))) → post none τ)
    (ky : ∀ τ, jfr aIn bTk σ τ → rT τ → tk τ (nx (tB σ) (tL σ) s) → isN (tB σ) (tL σ) (nx (tB σ) (tL σ) s) = true → dup (tB σ) (tL σ) σ.1 348 (rm σ.1) (nx (tB σ) (tL σ) s) = false → jW g mX12_readRoom (n + 2) post 94 [(0, .ref 322)] [] τ) :
    jW g mX12_readRoom (n + 2) post 38 [(0, .ref 322)] [] σ := by
  have f0 := hs.2.1
  obtain ⟨s1, es1⟩ : ∃ s1, s1 = nx (tB σ) (tL σ) s := ⟨_, rfl⟩
  rw [← es1] at kf ky
  refine jvk_ok TX12_readRoom (V := [(309, 3, 12, oX12_check), (313, 1, 12, oX12_advance), (322, 1, 12, oX12_nameHere)]) (S := []) (List.forall_mem_cons.mpr ⟨⟨mX12_check, n + 0, 2, TX12, 53, rfl, by omega, kX12_309, WX12_check, rfl, CX12_check g (n)⟩, (List.forall_mem_cons.mpr ⟨⟨mX12_advance, n + 1, 0, TX12, 53, rfl, by omega, kX12_313, WX12_advance, rfl, CX12_advance g (n)⟩, (List.forall_mem_cons.mpr ⟨⟨mX12_nameHere, n + 1, 0, TX12, 53, rfl, by omega, kX12_322, WX12_nameHere, rfl, CX12_nameHere g (n)⟩, (fun _ h => absurd h List.not_mem_nil)⟩)⟩)⟩) (fun _ h => absurd h List.not_mem_nil) [42, 46, 48] 10 _ _ _ _ ?_
  simp (maxSteps := 1000000) [↓Bool.cond_eq_ite, -Prod.forall, -Prod.exists, -Prod.mk.injEq, jvk, tX12_readRoom, jtb, jol, jst, jlk, jcmp, jbin, jfl, fX12, jc2, lX12, jcat, jel, lv_args, Value.category, jins, jsrt, jins2, jble, jblt, jf3, List.filter_cons, List.filter_nil, G_m, oX12_check, oX12_advance, oX12_nameHere, joR, joRII, -Int32.not_le, -Int32.not_lt, -Int64.not_le, -Int64.not_lt, i3lt, i6lt, h]
  try simp (disch := omega) [-Prod.forall, -Prod.exists, -Prod.mk.injEq, -Int32.not_le, -Int32.not_lt, -Int64.not_le, -Int64.not_lt, i3lt, i6lt, h]
  intro v1 τ hv1 a1 a2
  subst hv1
  obtain ⟨b1, b2, b3⟩ := a2 f0
  rw [tk_nx h hs, ← es1] at b3
  obtain ⟨g1, g2⟩ := tk_fr b1
  have w1 : jfr aIn bTk σ τ := b1.weak (fun a j q => in_Tk a j q) (fun _ q => q)
  have zt : rSz τ := rSz_fr hz w1 rfl rfl rfl
  have t0 := b3.2.1
  have hpre : ∃ s, tk τ s := ⟨s1, b3⟩
  obtain ⟨hN10, hN4⟩ := (rSz_n hz).1
  have e4 : τ.1 322 43 = nI (rm σ.1) := (w1.2.2 322 43 rfl).trans hN4
  have eC : rm τ.1 = rm σ.1 := by unfold rm; rw [e4, hN4]
  refine jvk_ok TX12_readRoom (V := [(309, 3, 12, oX12_check), (313, 1, 12, oX12_advance), (322, 1, 12, oX12_nameHere)]) (S := []) (List.forall_mem_cons.mpr ⟨⟨mX12_check, n + 0, 2, TX12, 53, rfl, by omega, kX12_309, WX12_check, rfl, CX12_check g (n)⟩, (List.forall_mem_cons.mpr ⟨⟨mX12_advance, n + 1, 0, TX12, 53, rfl, by omega, kX12_313, WX12_advance, rfl, CX12_advance g (n)⟩, (List.forall_mem_cons.mpr ⟨⟨mX12_nameHere, n + 1, 0, TX12, 53, rfl, by omega, kX12_322, WX12_nameHere, rfl, CX12_nameHere g (n)⟩, (fun _ h => absurd h List.not_mem_nil)⟩)⟩)⟩) (fun _ h => absurd h List.not_mem_nil) [46, 48] 10 _ _ _ _ ?_
  simp (maxSteps := 1000000) [↓Bool.cond_eq_ite, -Prod.forall, -Prod.exists, -Prod.mk.injEq, jvk, tX12_readRoom, jtb, jol, jst, jlk, jcmp, jbin, jfl, fX12, jc2, lX12, jcat, jel, lv_args, Value.category, jins, jsrt, jins2, jble, jblt, jf3, List.filter_cons, List.filter_nil, G_m, oX12_check, oX12_advance, oX12_nameHere, joR, joRII, -Int32.not_le, -Int32.not_lt, -Int64.not_le, -Int64.not_lt, i3lt, i6lt, b2, t0, hpre]
  try simp (disch := omega) [-Prod.forall, -Prod.exists, -Prod.mk.injEq, -Int32.not_le, -Int32.not_lt, -Int64.not_le, -Int64.not_lt, i3lt, i6lt, b2, t0, hpre]
  intro v2 τ2 hv2 c1
  subst hv2
  obtain ⟨c3, c4⟩ := c1 s1 b3
  rw [g1, g2] at c3 c4
  refine jvk_ok TX12_readRoom (V := [(309, 3, 12, oX12_check), (313, 1, 12, oX12_advance), (322, 1, 12, oX12_nameHere)]) (S := []) (List.forall_mem_cons.mpr ⟨⟨mX12_check, n + 0, 2, TX12, 53, rfl, by omega, kX12_309, WX12_check, rfl, CX12_check g (n)⟩, (List.forall_mem_cons.mpr ⟨⟨mX12_advance, n + 1, 0, TX12, 53, rfl, by omega, kX12_313, WX12_advance, rfl, CX12_advance g (n)⟩, (List.forall_mem_cons.mpr ⟨⟨mX12_nameHere, n + 1, 0, TX12, 53, rfl, by omega, kX12_322, WX12_nameHere, rfl, CX12_nameHere g (n)⟩, (fun _ h => absurd h List.not_mem_nil)⟩)⟩)⟩) (fun _ h => absurd h List.not_mem_nil) [48] 10 _ _ _ _ ?_
  simp (maxSteps := 1000000) [↓Bool.cond_eq_ite, -Prod.forall, -Prod.exists, -Prod.mk.injEq, jvk, tX12_readRoom, jtb, jol, jst, jlk, jcmp, jbin, jfl, fX12, jc2, lX12, jcat, jel, lv_args, Value.category, jins, jsrt, jins2, jble, jblt, jf3, List.filter_cons, List.filter_nil, G_m, oX12_check, oX12_advance, oX12_nameHere, joR, joRII, -Int32.not_le, -Int32.not_lt, -Int64.not_le, -Int64.not_lt, i3lt, i6lt]
  try simp (disch := omega) [-Prod.forall, -Prod.exists, -Prod.mk.injEq, -Int32.not_le, -Int32.not_lt, -Int64.not_le, -Int64.not_lt, i3lt, i6lt]
  by_cases hi : isN (tB σ) (tL σ) s1 = true
  · have e2 := c3 hi
    subst e2
    have elet := tk_let b3 (by rw [g1, g2]; exact hi)
    rw [g1, g2] at elet
    have key : ∀ (d i : Nat), rm σ.1 - i = d → i ≤ rm σ.1 → (∀ r, r < i → ¬ σ.1 348 r = nI (nm (tB σ) (tL σ) s1)) → jW g mX12_readRoom (n + 2) post 48 [(0, .ref 322), (1, .int (nI i))] [] τ2 := by
      intro d
      induction d with
      | zero =>
        intro i hd hi2 hno
        have hle : nI (rm σ.1) ≤ nI i := nI_le (by omega) (by omega)
        have k1 := ky τ2 w1 b2 b3 hi (by
          unfold dup
          rw [(al_iff _).mpr (fun j hj => by simpa using hno j (by omega))]
          rfl)
        refine jvk_ok TX12_readRoom (V := [(309, 3, 12, oX12_check), (313, 1, 12, oX12_advance), (322, 1, 12, oX12_nameHere)]) (S := []) (List.forall_mem_cons.mpr ⟨⟨mX12_check, n + 0, 2, TX12, 53, rfl, by omega, kX12_309, WX12_check, rfl, CX12_check g (n)⟩, (List.forall_mem_cons.mpr ⟨⟨mX12_advance, n + 1, 0, TX12, 53, rfl, by omega, kX12_313, WX12_advance, rfl, CX12_advance g (n)⟩, (List.forall_mem_cons.mpr ⟨⟨mX12_nameHere, n + 1, 0, TX12, 53, rfl, by omega, kX12_322, WX12_nameHere, rfl, CX12_nameHere g (n)⟩, (fun _ h => absurd h List.not_mem_nil)⟩)⟩)⟩) (fun _ h => absurd h List.not_mem_nil) [48, 94] 20 _ _ _ _ ?_
        simp (maxSteps := 1000000) [↓Bool.cond_eq_ite, -Prod.forall, -Prod.exists, -Prod.mk.injEq, jvk, tX12_readRoom, jtb, jol, jst, jlk, jcmp, jbin, jfl, fX12, jc2, lX12, jcat, jel, lv_args, Value.category, jins, jsrt, jins2, jble, jblt, jf3, List.filter_cons, List.filter_nil, G_m, oX12_check, oX12_advance, oX12_nameHere, joR, joRII, -Int32.not_le, -Int32.not_lt, -Int64.not_le, -Int64.not_lt, i3lt, i6lt, e4, hle, t0]
        try simp (disch := omega) [-Prod.forall, -Prod.exists, -Prod.mk.injEq, -Int32.not_le, -Int32.not_lt, -Int64.not_le, -Int64.not_lt, i3lt, i6lt, e4, hle, t0]
        exact jW.mono k1 (by simp)
      | succ d ih =>
        intro i hd hi2 hno
        have hlt : ¬ nI (rm σ.1) ≤ nI i := nI_ge (by omega) (by omega)
        have hk1 : jin (nI i) 6 := jin_nI (by omega) (by decide)
        have eck : (nI i).toNatClampNeg = i := nI_clamp (by omega)
        have eR : τ2.1 348 i = σ.1 348 i := w1.2.2 348 i rfl
        by_cases c : σ.1 348 i = nI (nm (tB σ) (tL σ) s1)
        · have k1 := CNl_readRoom g n (σ := jup τ2 322 41 (-14)) (post := post) (rSz_fr zt (jfr.rfl.up (A := aIn) (B := bTk) _ rfl) rfl rfl rfl) (by rw [jup_1, if_pos ⟨rfl, rfl⟩]; decide) (kf _ (-14, s1) (w1.up _ rfl) b2 ⟨by rw [jup_1, if_pos ⟨rfl, rfl⟩], i11.2.2.2.1, by rw [jup_1, if_neg (by decide)]; exact b3.2.2.1⟩ (Or.inr ⟨hi, by
            unfold dup
            rw [al_no (k := i) (by omega) (by simp [c])]
            rfl, rfl⟩)) _ (i + 1) rfl (by
            have : rm (jup τ2 322 41 (-14)).1 = rm τ2.1 := rfl
            rw [this, eC]; omega)
          refine jvk_ok TX12_readRoom (V := [(309, 3, 12, oX12_check), (313, 1, 12, oX12_advance), (322, 1, 12, oX12_nameHere)]) (S := []) (List.forall_mem_cons.mpr ⟨⟨mX12_check, n + 0, 2, TX12, 53, rfl, by omega, kX12_309, WX12_check, rfl, CX12_check g (n)⟩, (List.forall_mem_cons.mpr ⟨⟨mX12_advance, n + 1, 0, TX12, 53, rfl, by omega, kX12_313, WX12_advance, rfl, CX12_advance g (n)⟩, (List.forall_mem_cons.mpr ⟨⟨mX12_nameHere, n + 1, 0, TX12, 53, rfl, by omega, kX12_322, WX12_nameHere, rfl, CX12_nameHere g (n)⟩, (fun _ h => absurd h List.not_mem_nil)⟩)⟩)⟩) (fun _ h => absurd h List.not_mem_nil) [48, 94] 20 _ _ _ _ ?_
          simp (maxSteps := 1000000) [↓Bool.cond_eq_ite, -Prod.forall, -Prod.exists, -Prod.mk.injEq, jvk, tX12_readRoom, jtb, jol, jst, jlk, jcmp, jbin, jfl, fX12, jc2, lX12, jcat, jel, lv_args, Value.category, jins, jsrt, jins2, jble, jblt, jf3, List.filter_cons, List.filter_nil, G_m, oX12_check, oX12_advance, oX12_nameHere, joR, joRII, -Int32.not_le, -Int32.not_lt, -Int64.not_le, -Int64.not_lt, i3lt, i6lt, e4, hlt, hk1, eck, eR, elet, c, t0, i11, nI_1]
          try simp (disch := omega) [-Prod.forall, -Prod.exists, -Prod.mk.injEq, -Int32.not_le, -Int32.not_lt, -Int64.not_le, -Int64.not_lt, i3lt, i6lt, e4, hlt, hk1, eck, eR, elet, c, t0, i11, nI_1]
          exact k1
        · have k1 := ih (i + 1) (by omega) (by omega) (fun r hr => by
            by_cases e : r = i
            · subst e; exact c
            · exact hno r (by omega))
          refine jvk_ok TX12_readRoom (V := [(309, 3, 12, oX12_check), (313, 1, 12, oX12_advance), (322, 1, 12, oX12_nameHere)]) (S := []) (List.forall_mem_cons.mpr ⟨⟨mX12_check, n + 0, 2, TX12, 53, rfl, by omega, kX12_309, WX12_check, rfl, CX12_check g (n)⟩, (List.forall_mem_cons.mpr ⟨⟨mX12_advance, n + 1, 0, TX12, 53, rfl, by omega, kX12_313, WX12_advance, rfl, CX12_advance g (n)⟩, (List.forall_mem_cons.mpr ⟨⟨mX12_nameHere, n + 1, 0, TX12, 53, rfl, by omega, kX12_322, WX12_nameHere, rfl, CX12_nameHere g (n)⟩, (fun _ h => absurd h List.not_mem_nil)⟩)⟩)⟩) (fun _ h => absurd h List.not_mem_nil) [48, 94] 20 _ _ _ _ ?_
          simp (maxSteps := 1000000) [↓Bool.cond_eq_ite, -Prod.forall, -Prod.exists, -Prod.mk.injEq, jvk, tX12_readRoom, jtb, jol, jst, jlk, jcmp, jbin, jfl, fX12, jc2, lX12, jcat, jel, lv_args, Value.category, jins, jsrt, jins2, jble, jblt, jf3, List.filter_cons, List.filter_nil, G_m, oX12_check, oX12_advance, oX12_nameHere, joR, joRII, -Int32.not_le, -Int32.not_lt, -Int64.not_le, -Int64.not_lt, i3lt, i6lt, e4, hlt, hk1, eck, eR, elet, c, t0, nI_1]
          try simp (disch := omega) [-Prod.forall, -Prod.exists, -Prod.mk.injEq, -Int32.not_le, -Int32.not_lt, -Int64.not_le, -Int64.not_lt, i3lt, i6lt, e4, hlt, hk1, eck, eR, elet, c, t0, nI_1]
          exact k1
    have k0 := key _ 0 rfl (Nat.zero_le _) (fun r hr => by omega)
    rw [nI_0] at k0
    exact k0
  · have e2 := c4 (by simpa using hi)
    subst e2
    have k1 := CNl_readRoom g n (σ := jup τ 322 41 (-11)) (post := post) (rSz_fr zt (jfr.rfl.up (A := aIn) (B := bTk) _ rfl) rfl rfl rfl) (by rw [jup_1, if_pos ⟨rfl, rfl⟩]; decide) (kf _ (-11, s1) (w1.up _ rfl) b2 ⟨by rw [jup_1, if_pos ⟨rfl, rfl⟩], i11.1, by rw [jup_1, if_neg (by decide)]; exact b3.2.2.1⟩ (Or.inl ⟨hi, rfl⟩)) _ 0 rfl (Nat.zero_le _)
    rw [nI_0] at k1
    exact k1
def oX12_readRoom : jO := joR fun a σ => (a = 322 ∧ rT σ ∧ rSz σ ∧ ∃ s, tk σ s, fun v τ => v = none ∧ jfr aRd bTk σ τ ∧ rT τ ∧ rSz τ ∧ ∀ s μ, tk σ s → rdA σ μ → rRes τ (pRoom (tB σ) (tL σ) s μ))
set_option maxRecDepth 100000 in
set_option maxHeartbeats 4000000 in
theorem CX12_readRoom (g : jG) (n : Nat) : jOk g (n + 2) mX12_readRoom oX12_readRoom := by
  refine joR_ok ?_
  rintro _ σ ⟨rfl, h, hz, s, hs⟩
  obtain ⟨⟨hR, hR4⟩, ⟨hP, hP4⟩, -, -⟩ := rSz_n hz
  have h9 := (rT_n h).1
  have f0 := hs.2.1
  have uniq : ∀ t, tk σ t → t = s := fun t ht => tk_inj ht hs h9
  have e36 := hs.2.2.1
  by_cases cP : 0 < pe σ.1
  · have cP' : ¬ nI (pe σ.1) = 0 := nI_ne0 cP (by omega)
    have k1 : ∀ post : Option Value → jM → Prop, post none (jup σ 322 41 (-11)) → jW g mX12_readRoom (n + 2) post 38 [(0, .ref 322)] [] (jup σ 322 41 (-11)) := fun post k => CNf_readRoom g n (σ := jup σ 322 41 (-11)) h (rSz_fr hz (jfr.rfl.up (A := aIn) (B := bTk) _ rfl) rfl rfl rfl) (by rw [jup_1, if_pos ⟨rfl, rfl⟩]; decide) k
    refine jCon.ofP (by decide +kernel) (by simp [lg_sl, Value.category]) (fun post hp => ?_)
    refine jvk_ok TX12_readRoom (V := [(309, 3, 12, oX12_check), (313, 1, 12, oX12_advance), (322, 1, 12, oX12_nameHere)]) (S := []) (List.forall_mem_cons.mpr ⟨⟨mX12_check, n + 0, 2, TX12, 53, rfl, by omega, kX12_309, WX12_check, rfl, CX12_check g (n)⟩, (List.forall_mem_cons.mpr ⟨⟨mX12_advance, n + 1, 0, TX12, 53, rfl, by omega, kX12_313, WX12_advance, rfl, CX12_advance g (n)⟩, (List.forall_mem_cons.mpr ⟨⟨mX12_nameHere, n + 1, 0, TX12, 53, rfl, by omega, kX12_322, WX12_nameHere, rfl, CX12_nameHere g (n)⟩, (fun _ h => absurd h List.not_mem_nil)⟩)⟩)⟩) (fun _ h => absurd h List.not_mem_nil) [38] 40 _ _ _ _ ?_
    simp (maxSteps := 1000000) [↓Bool.cond_eq_ite, -Prod.forall, -Prod.exists, -Prod.mk.injEq, jvk, tX12_readRoom, jtb, jol, jst, jlk, jcmp, jbin, jfl, fX12, jc2, lX12, jcat, jel, lv_args, Value.category, jins, jsrt, jins2, jble, jblt, jf3, List.filter_cons, List.filter_nil, G_m, oX12_check, oX12_advance, oX12_nameHere, joR, joRII, -Int32.not_le, -Int32.not_lt, -Int64.not_le, -Int64.not_lt, i3lt, i6lt, hP4, cP', f0, i11, jup_1]
    try simp (disch := omega) [-Prod.forall, -Prod.exists, -Prod.mk.injEq, -Int32.not_le, -Int32.not_lt, -Int64.not_le, -Int64.not_lt, i3lt, i6lt, hP4, cP', f0, i11, jup_1]
    refine k1 _ (hp _ _ ⟨rfl, jfr.rfl.up _ rfl, h, rSz_fr hz (jfr.rfl.up (A := aIn) (B := bTk) _ rfl) rfl rfl rfl, fun t μ ht hμ => ?_⟩)
    rw [uniq t ht]
    unfold pRoom
    rw [(rdA_n hμ).2.1, if_pos cP]
    exact ⟨by rw [jup_1, if_pos ⟨rfl, rfl⟩], i11.1, by rw [jup_1, if_neg (by decide)]; exact e36⟩
  · have cP' : nI (pe σ.1) = 0 := by rw [show pe σ.1 = 0 by omega]; exact nI_0
    by_cases cR : 6 ≤ rm σ.1
    · have cR' : (6 : Int32) ≤ nI (rm σ.1) := nI_le (a := 6) cR (by omega)
      have k1 : ∀ post : Option Value → jM → Prop, post none (jup σ 322 41 (-15)) → jW g mX12_readRoom (n + 2) post 38 [(0, .ref 322)] [] (jup σ 322 41 (-15)) := fun post k => CNf_readRoom g n (σ := jup σ 322 41 (-15)) h (rSz_fr hz (jfr.rfl.up (A := aIn) (B := bTk) _ rfl) rfl rfl rfl) (by rw [jup_1, if_pos ⟨rfl, rfl⟩]; decide) k
      refine jCon.ofP (by decide +kernel) (by simp [lg_sl, Value.category]) (fun post hp => ?_)
      refine jvk_ok TX12_readRoom (V := [(309, 3, 12, oX12_check), (313, 1, 12, oX12_advance), (322, 1, 12, oX12_nameHere)]) (S := []) (List.forall_mem_cons.mpr ⟨⟨mX12_check, n + 0, 2, TX12, 53, rfl, by omega, kX12_309, WX12_check, rfl, CX12_check g (n)⟩, (List.forall_mem_cons.mpr ⟨⟨mX12_advance, n + 1, 0, TX12, 53, rfl, by omega, kX12_313, WX12_advance, rfl, CX12_advance g (n)⟩, (List.forall_mem_cons.mpr ⟨⟨mX12_nameHere, n + 1, 0, TX12, 53, rfl, by omega, kX12_322, WX12_nameHere, rfl, CX12_nameHere g (n)⟩, (fun _ h => absurd h List.not_mem_nil)⟩)⟩)⟩) (fun _ h => absurd h List.not_mem_nil) [38] 40 _ _ _ _ ?_
      simp (maxSteps := 1000000) [↓Bool.cond_eq_ite, -Prod.forall, -Prod.exists, -Prod.mk.injEq, jvk, tX12_readRoom, jtb, jol, jst, jlk, jcmp, jbin, jfl, fX12, jc2, lX12, jcat, jel, lv_args, Value.category, jins, jsrt, jins2, jble, jblt, jf3, List.filter_cons, List.filter_nil, G_m, oX12_check, oX12_advance, oX12_nameHere, joR, joRII, -Int32.not_le, -Int32.not_lt, -Int64.not_le, -Int64.not_lt, i3lt, i6lt, hP4, cP', hR4, cR', f0, i11, jup_1]
      try simp (disch := omega) [-Prod.forall, -Prod.exists, -Prod.mk.injEq, -Int32.not_le, -Int32.not_lt, -Int64.not_le, -Int64.not_lt, i3lt, i6lt, hP4, cP', hR4, cR', f0, i11, jup_1]
      refine k1 _ (hp _ _ ⟨rfl, jfr.rfl.up _ rfl, h, rSz_fr hz (jfr.rfl.up (A := aIn) (B := bTk) _ rfl) rfl rfl rfl, fun t μ ht hμ => ?_⟩)
      rw [uniq t ht]
      unfold pRoom
      rw [(rdA_n hμ).2.1, if_neg cP, (rdA_n hμ).1, if_pos cR]
      exact ⟨by rw [jup_1, if_pos ⟨rfl, rfl⟩], i11.2.2.2.2, by rw [jup_1, if_neg (by decide)]; exact e36⟩
    · have cR' : ¬ (6 : Int32) ≤ nI (rm σ.1) := nI_ge (b := 6) (by omega) (by decide)
      refine jCon.ofP (by decide +kernel) (by simp [lg_sl, Value.category]) (fun post hp => ?_)
      refine jvk_ok TX12_readRoom (V := [(309, 3, 12, oX12_check), (313, 1, 12, oX12_advance), (322, 1, 12, oX12_nameHere)]) (S := []) (List.forall_mem_cons.mpr ⟨⟨mX12_check, n + 0, 2, TX12, 53, rfl, by omega, kX12_309, WX12_check, rfl, CX12_check g (n)⟩, (List.forall_mem_cons.mpr ⟨⟨mX12_advance, n + 1, 0, TX12, 53, rfl, by omega, kX12_313, WX12_advance, rfl, CX12_advance g (n)⟩, (List.forall_mem_cons.mpr ⟨⟨mX12_nameHere, n + 1, 0, TX12, 53, rfl, by omega, kX12_322, WX12_nameHere, rfl, CX12_nameHere g (n)⟩, (fun _ h => absurd h List.not_mem_nil)⟩)⟩)⟩) (fun _ h => absurd h List.not_mem_nil) [38] 40 _ _ _ _ ?_
      simp (maxSteps := 1000000) [↓Bool.cond_eq_ite, -Prod.forall, -Prod.exists, -Prod.mk.injEq, jvk, tX12_readRoom, jtb, jol, jst, jlk, jcmp, jbin, jfl, fX12, jc2, lX12, jcat, jel, lv_args, Value.category, jins, jsrt, jins2, jble, jblt, jf3, List.filter_cons, List.filter_nil, G_m, oX12_check, oX12_advance, oX12_nameHere, joR, joRII, -Int32.not_le, -Int32.not_lt, -Int64.not_le, -Int64.not_lt, i3lt, i6lt, hP4, cP', hR4, cR', f0, jup_1]
      try simp (disch := omega) [-Prod.forall, -Prod.exists, -Prod.mk.injEq, -Int32.not_le, -Int32.not_lt, -Int64.not_le, -Int64.not_lt, i3lt, i6lt, hP4, cP', hR4, cR', f0, jup_1]
      refine CNm_readRoom g n h hz hs (fun τ e f hr hfl he => hp _ _ ⟨rfl, f.weak (fun a j q => rd_In a j q) (fun _ q => q), hr, rSz_fr hz f rfl rfl rfl, fun t μ ht hμ => ?_⟩) (fun τ f hr ht1 hi hd => ?_)
      · rw [uniq t ht]
        unfold pRoom
        rw [(rdA_n hμ).2.1, if_neg cP, (rdA_n hμ).1, if_neg cR, dup_fr hμ _ _ _ _ _ (fun _ => rfl)]
        rcases he with ⟨e1, e2⟩ | ⟨e1, e2, e3⟩
        · rw [if_pos e1, ← e2]; exact hfl
        · rw [if_neg (fun z => z e1), if_pos e2, ← e3]; exact hfl
      · obtain ⟨g1, g2⟩ := in_fr f
        obtain ⟨s1, es1⟩ : ∃ s1, s1 = nx (tB σ) (tL σ) s := ⟨_, rfl⟩
        rw [← es1] at ht1 hi hd
        have elet := tk_let ht1 (by rw [g1, g2]; exact hi)
        rw [g1, g2] at elet
        have e43 : τ.1 322 43 = nI (rm σ.1) := (f.2.2 322 43 rfl).trans hR4
        have jr : jin (nI (rm σ.1)) 6 := jin_nI (by omega) (by decide)
        have er : (nI (rm σ.1)).toNatClampNeg = rm σ.1 := nI_clamp (by omega)
        obtain ⟨ρ, eρ⟩ : ∃ ρ, ρ = jup (jup τ 348 (rm σ.1) (nI (nm (tB σ) (tL σ) s1))) 322 43 (nI (rm σ.1 + 1)) := ⟨_, rfl⟩
        have tρ : tk ρ s1 := by rw [eρ]; exact ht1
        have rρ : rT ρ := by rw [eρ]; exact hr
        have fρ : ρ.1 322 41 = 0 := tρ.2.1
        have n1 : nI (rm σ.1) + 1 = nI (rm σ.1 + 1) := nI_1 _
        refine jvk_ok TX12_readRoom (V := [(309, 3, 12, oX12_check), (313, 1, 12, oX12_advance), (322, 1, 12, oX12_nameHere)]) (S := []) (List.forall_mem_cons.mpr ⟨⟨mX12_check, n + 0, 2, TX12, 53, rfl, by omega, kX12_309, WX12_check, rfl, CX12_check g (n)⟩, (List.forall_mem_cons.mpr ⟨⟨mX12_advance, n + 1, 0, TX12, 53, rfl, by omega, kX12_313, WX12_advance, rfl, CX12_advance g (n)⟩, (List.forall_mem_cons.mpr ⟨⟨mX12_nameHere, n + 1, 0, TX12, 53, rfl, by omega, kX12_322, WX12_nameHere, rfl, CX12_nameHere g (n)⟩, (fun _ h => absurd h List.not_mem_nil)⟩)⟩)⟩) (fun _ h => absurd h List.not_mem_nil) [117] 40 _ _ _ _ ?_
        simp (maxSteps := 1000000) [↓Bool.cond_eq_ite, -Prod.forall, -Prod.exists, -Prod.mk.injEq, jvk, tX12_readRoom, jtb, jol, jst, jlk, jcmp, jbin, jfl, fX12, jc2, lX12, jcat, jel, lv_args, Value.category, jins, jsrt, jins2, jble, jblt, jf3, List.filter_cons, List.filter_nil, G_m, oX12_check, oX12_advance, oX12_nameHere, joR, joRII, -Int32.not_le, -Int32.not_lt, -Int64.not_le, -Int64.not_lt, i3lt, i6lt, e43, jr, er, elet, n1, jup_1]
        try simp (disch := omega) [-Prod.forall, -Prod.exists, -Prod.mk.injEq, -Int32.not_le, -Int32.not_lt, -Int64.not_le, -Int64.not_lt, i3lt, i6lt, e43, jr, er, elet, n1, jup_1]
        rw [← eρ]
        have gρ : tB ρ = tB σ ∧ tL ρ = tL σ := by rw [eρ]; exact ⟨g1, g2⟩
        refine jvk_ok TX12_readRoom (V := [(309, 3, 12, oX12_check), (313, 1, 12, oX12_advance), (322, 1, 12, oX12_nameHere)]) (S := []) (List.forall_mem_cons.mpr ⟨⟨mX12_check, n + 0, 2, TX12, 53, rfl, by omega, kX12_309, WX12_check, rfl, CX12_check g (n)⟩, (List.forall_mem_cons.mpr ⟨⟨mX12_advance, n + 1, 0, TX12, 53, rfl, by omega, kX12_313, WX12_advance, rfl, CX12_advance g (n)⟩, (List.forall_mem_cons.mpr ⟨⟨mX12_nameHere, n + 1, 0, TX12, 53, rfl, by omega, kX12_322, WX12_nameHere, rfl, CX12_nameHere g (n)⟩, (fun _ h => absurd h List.not_mem_nil)⟩)⟩)⟩) (fun _ h => absurd h List.not_mem_nil) [121] 40 _ _ _ _ ?_
        simp (maxSteps := 1000000) [↓Bool.cond_eq_ite, -Prod.forall, -Prod.exists, -Prod.mk.injEq, jvk, tX12_readRoom, jtb, jol, jst, jlk, jcmp, jbin, jfl, fX12, jc2, lX12, jcat, jel, lv_args, Value.category, jins, jsrt, jins2, jble, jblt, jf3, List.filter_cons, List.filter_nil, G_m, oX12_check, oX12_advance, oX12_nameHere, joR, joRII, -Int32.not_le, -Int32.not_lt, -Int64.not_le, -Int64.not_lt, i3lt, i6lt, rρ]
        try simp (disch := omega) [-Prod.forall, -Prod.exists, -Prod.mk.injEq, -Int32.not_le, -Int32.not_lt, -Int64.not_le, -Int64.not_lt, i3lt, i6lt, rρ]
        intro v1 τ1 hv1 a1 a2
        subst hv1
        obtain ⟨b1, b2, b3⟩ := a2 fρ
        rw [tk_nx rρ tρ, gρ.1, gρ.2] at b3
        have w1 : jfr aIn bTk ρ τ1 := b1.weak (fun a j q => in_Tk a j q) (fun _ q => q)
        have fr : jfr aRd bTk σ ρ := by rw [eρ]; exact ((f.weak (fun a j q => rd_In a j q) (fun _ q => q)).up _ rfl).up _ rfl
        refine jvk_ok TX12_readRoom (V := [(309, 3, 12, oX12_check), (313, 1, 12, oX12_advance), (322, 1, 12, oX12_nameHere)]) (S := []) (List.forall_mem_cons.mpr ⟨⟨mX12_check, n + 0, 2, TX12, 53, rfl, by omega, kX12_309, WX12_check, rfl, CX12_check g (n)⟩, (List.forall_mem_cons.mpr ⟨⟨mX12_advance, n + 1, 0, TX12, 53, rfl, by omega, kX12_313, WX12_advance, rfl, CX12_advance g (n)⟩, (List.forall_mem_cons.mpr ⟨⟨mX12_nameHere, n + 1, 0, TX12, 53, rfl, by omega, kX12_322, WX12_nameHere, rfl, CX12_nameHere g (n)⟩, (fun _ h => absurd h List.not_mem_nil)⟩)⟩)⟩) (fun _ h => absurd h List.not_mem_nil) [] 10 _ _ _ _ ?_
        simp (maxSteps := 1000000) [↓Bool.cond_eq_ite, -Prod.forall, -Prod.exists, -Prod.mk.injEq, jvk, tX12_readRoom, jtb, jol, jst, jlk, jcmp, jbin, jfl, fX12, jc2, lX12, jcat, jel, lv_args, Value.category, jins, jsrt, jins2, jble, jblt, jf3, List.filter_cons, List.filter_nil, G_m, oX12_check, oX12_advance, oX12_nameHere, joR, joRII, -Int32.not_le, -Int32.not_lt, -Int64.not_le, -Int64.not_lt, i3lt, i6lt]
        try simp (disch := omega) [-Prod.forall, -Prod.exists, -Prod.mk.injEq, -Int32.not_le, -Int32.not_lt, -Int64.not_le, -Int64.not_lt, i3lt, i6lt]
        refine hp _ _ ⟨rfl, fr.tr (w1.weak (fun a j q => rd_In a j q) (fun _ q => q)), b2, rSz_fr (σ := ρ) ?_ w1 rfl rfl rfl, fun t μ ht hμ => ?_⟩
        · rw [eρ]
          refine ⟨?_, ?_, ?_⟩
          · rw [jup_1, if_pos ⟨rfl, rfl⟩]
            exact ⟨nI_pos' (by omega), nI_le (b := 6) (by omega) (by decide)⟩
          · rw [jup_1, if_neg (by decide), jup_1, if_neg (by omega), f.2.2 322 44 rfl]; exact hz.2.1
          · rw [jup_1, if_neg (by decide), jup_1, if_neg (by omega), f.2.2 322 45 rfl]; exact hz.2.2
        · rw [uniq t ht]
          unfold pRoom
          rw [(rdA_n hμ).2.1, if_neg cP, (rdA_n hμ).1, if_neg cR, dup_fr hμ _ _ _ _ _ (fun _ => rfl), ← es1, if_neg (fun z => z hi), if_neg (by rw [hd]; decide)]
          refine ⟨b3, rdA_fr ?_ w1⟩
          rw [eρ]
          exact rdA_up (rdA_up (rdA_fr hμ f) _ _ _) _ _ _
