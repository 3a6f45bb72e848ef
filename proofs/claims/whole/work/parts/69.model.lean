/-! the reference: the division, written -/
/-- payments are not too great -/
def dPy (f : Nat → Int32) : Prop := ∀ p, p < 10 → -100000000 ≤ f (8 + 20 * p + 3) ∧ f (8 + 20 * p + 3) ≤ 100000000
theorem dPy_z {f : Nat → Int32} (h : dPy f) {p : Nat} (hp : p < 10) : ∃ z, f (8 + 20 * p + 3) = iI z ∧ -1000000000 < z ∧ z < 1000000000 := by
  obtain ⟨h1, h2⟩ := h p hp
  rw [Int32.le_iff_toInt_le] at h1 h2
  have e1 : (-100000000 : Int32).toInt = -100000000 := by decide
  have e2 : (100000000 : Int32).toInt = 100000000 := by decide
  exact ⟨(f (8 + 20 * p + 3)).toInt, (iI_of _).symm, by omega, by omega⟩
/-- a person's line -/
def lnL (σ : jM) (p : Nat) : List Int32 := nmL (σ.1 326 p) 6 ++ ([58] ++ (nmL (σ.1 325 (mD σ p 2).toNatClampNeg) 6 ++ ([32] ++ nbL (mD σ p 3).toInt)))
def wrL (σ : jM) : Nat → List Int32
  | 0 => []
  | p + 1 => wrL σ p ++ (if 0 ≤ mD σ p 2 then ((if (wrL σ p).length = 0 then [] else [59]) ++ lnL σ p) else [])
theorem lnL_len (σ : jM) (p : Nat) : (lnL σ p).length ≤ 25 := by
  have := nmL_len (σ.1 326 p) 6
  have := nmL_len (σ.1 325 (mD σ p 2).toNatClampNeg) 6
  have := nbL_len (mD σ p 3).toInt
  unfold lnL
  simp only [List.length_append, List.length_cons, List.length_nil]
  omega
theorem wrL_len (σ : jM) : ∀ p, (wrL σ p).length ≤ 26 * p
  | 0 => Nat.le_refl _
  | p + 1 => by
    have := wrL_len σ p
    have := lnL_len σ p
    simp only [wrL, List.length_append]
    split
    · split <;> simp <;> omega
    · simp; omega
def oX12_write : jO := joR fun a σ => (a = 322 ∧ mOK σ ∧ dRm (σ.1 323) ∧ dPy (σ.1 323), fun v τ => v = some (.int (nI (wrL σ (mN σ)).length)) ∧ τ = uM (jup (jup σ 322 11 0) 322 52 0) 0 (wrL σ (mN σ)))
set_option maxRecDepth 100000 in
set_option maxHeartbeats 4000000 in
theorem CWr_line (g : jG) (n : Nat) {post : Option Value → jM → Prop} {σ τ : jM} {p s : Nat} (hp : p < 10) (hs : s ≤ 300) (e52 : τ.1 322 52 = nI s) (e323 : τ.1 323 = σ.1 323) (e326 : τ.1 326 = σ.1 326) (e325 : τ.1 325 = σ.1 325) (hr : jin (mD σ p 2) 6) (hz : ∃ z, mD σ p 3 = iI z ∧ -1000000000 < z ∧ z < 1000000000)
    (k : jW g mX12_write (n + 3) post 91 [(0, .ref 322), (1, .int (nI p))] [] (uM τ s (lnL σ p))) : jW g mX12_write (n + 3) post 44 [(0, .ref 322), (1, .int (nI p))] [] τ := by
  have hk1 : jin (nI p) 10 := jin_nI (by omega) (by decide)
  have eck : (nI p).toNatClampNeg = p := nI_clamp (by omega)
  have l1 := nmL_len (σ.1 326 p) 6
  have l2 := nmL_len (σ.1 325 (mD σ p 2).toNatClampNeg) 6
  have oo : ∀ (s : Nat) (L : List Int32) (ρ : jM) (a j : Nat), a ≠ 351 → a ≠ 322 → (uM ρ s L).1 a j = ρ.1 a j := fun s L ρ a j h1 h2 => by
    rw [ouS_1, if_neg (fun z => h1 z.1), if_neg (fun z => h2 z.1)]
  unfold lnL at k
  rw [← uM_app, ← uM_app, ← uM_app, ← uM_app] at k
  obtain ⟨τ1, e1⟩ : ∃ τ1, τ1 = uM τ s (nmL (σ.1 326 p) 6) := ⟨_, rfl⟩
  rw [← e1] at k
  obtain ⟨s1, es1⟩ : ∃ s1, s1 = s + (nmL (σ.1 326 p) 6).length := ⟨_, rfl⟩
  rw [← es1] at k
  obtain ⟨τ2, e2⟩ : ∃ τ2, τ2 = uM τ1 s1 [58] := ⟨_, rfl⟩
  rw [← e2] at k
  obtain ⟨s2, es2⟩ : ∃ s2, s2 = s1 + ([58] : List Int32).length := ⟨_, rfl⟩
  rw [← es2] at k
  obtain ⟨τ3, e3⟩ : ∃ τ3, τ3 = uM τ2 s2 (nmL (σ.1 325 (mD σ p 2).toNatClampNeg) 6) := ⟨_, rfl⟩
  rw [← e3] at k
  obtain ⟨s3, es3⟩ : ∃ s3, s3 = s2 + (nmL (σ.1 325 (mD σ p 2).toNatClampNeg) 6).length := ⟨_, rfl⟩
  rw [← es3] at k
  obtain ⟨τ4, e4⟩ : ∃ τ4, τ4 = uM τ3 s3 [32] := ⟨_, rfl⟩
  rw [← e4] at k
  obtain ⟨s4, es4⟩ : ∃ s4, s4 = s3 + ([32] : List Int32).length := ⟨_, rfl⟩
  rw [← es4] at k
  simp only [List.length_cons, List.length_nil] at es2 es4
  have f1 : τ1.1 322 52 = nI s1 := by rw [e1, uM_52, es1]
  have f2 : τ2.1 322 52 = nI s2 := by rw [e2, uM_52, es2]; rfl
  have f3 : τ3.1 322 52 = nI s3 := by rw [e3, uM_52, es3]
  have f4 : τ4.1 322 52 = nI s4 := by rw [e4, uM_52, es4]; rfl
  have p0 : ∃ q, nI s = nI q ∧ q ≤ 394 := ⟨s, rfl, by omega⟩
  have p1 : ∃ q, nI s1 = nI q ∧ q < 400 := ⟨s1, rfl, by omega⟩
  have p2 : ∃ q, nI s2 = nI q ∧ q ≤ 394 := ⟨s2, rfl, by omega⟩
  have p3 : ∃ q, nI s3 = nI q ∧ q < 400 := ⟨s3, rfl, by omega⟩
  have p4 : ∃ q, nI s4 = nI q ∧ q ≤ 380 := ⟨s4, rfl, by omega⟩
  have c0 : (nI s).toNatClampNeg = s := nI_clamp (by omega)
  have c1 : (nI s1).toNatClampNeg = s1 := nI_clamp (by omega)
  have c2 : (nI s2).toNatClampNeg = s2 := nI_clamp (by omega)
  have c3 : (nI s3).toNatClampNeg = s3 := nI_clamp (by omega)
  have c4 : (nI s4).toNatClampNeg = s4 := nI_clamp (by omega)
  have g2 : ∀ a j, a ≠ 351 → a ≠ 322 → τ2.1 a j = τ.1 a j := fun a j h1 h2 => by rw [e2, oo _ _ _ _ _ h1 h2, e1, oo _ _ _ _ _ h1 h2]
  have g4 : ∀ a j, a ≠ 351 → a ≠ 322 → τ4.1 a j = τ.1 a j := fun a j h1 h2 => by rw [e4, oo _ _ _ _ _ h1 h2, e3, oo _ _ _ _ _ h1 h2, g2 a j h1 h2]
  have m2 : mD τ2 p 2 = mD σ p 2 := by unfold mD; rw [g2 323 _ (by decide) (by decide), e323]
  have m4 : mD τ4 p 3 = mD σ p 3 := by unfold mD; rw [g4 323 _ (by decide) (by decide), e323]
  have r0 : τ.1 326 p = σ.1 326 p := by rw [e326]
  have r2 : τ2.1 325 (mD σ p 2).toNatClampNeg = σ.1 325 (mD σ p 2).toNatClampNeg := by rw [g2 325 _ (by decide) (by decide), e325]
  refine jvk_ok TX12_write (V := [(229, 2, 12, oX12_hasRoom), (390, 2, 12, oX12_lay), (393, 2, 12, oX12_layName), (128, 3, 12, oX12_of), (396, 2, 12, oX12_layNumber)]) (S := []) (List.forall_mem_cons.mpr ⟨⟨mX12_hasRoom, n + 2, 1, TX12, 53, rfl, by omega, kX12_229, WX12_hasRoom, rfl, CX12_hasRoom g (n)⟩, (List.forall_mem_cons.mpr ⟨⟨mX12_lay, n + 0, 1, TX12, 53, rfl, by omega, kX12_390, WX12_lay, rfl, CX12_lay g (n)⟩, (List.forall_mem_cons.mpr ⟨⟨mX12_layName, n + 1, 1, TX12, 53, rfl, by omega, kX12_393, WX12_layName, rfl, CX12_layName g (n)⟩, (List.forall_mem_cons.mpr ⟨⟨mX12_of, n + 1, 2, TX12, 53, rfl, by omega, kX12_128, WX12_of, rfl, CX12_of g (n)⟩, (List.forall_mem_cons.mpr ⟨⟨mX12_layNumber, n + 1, 1, TX12, 53, rfl, by omega, kX12_396, WX12_layNumber, rfl, CX12_layNumber g (n)⟩, (fun _ h => absurd h List.not_mem_nil)⟩)⟩)⟩)⟩)⟩) (fun _ h => absurd h List.not_mem_nil) [54] 30 _ _ _ _ ?_
  simp (maxSteps := 1000000) [↓Bool.cond_eq_ite, -Prod.forall, -Prod.exists, -Prod.mk.injEq, jvk, tX12_write, jtb, jol, jst, jlk, jcmp, jbin, jfl, fX12, jc2, lX12, jcat, jel, lv_args, Value.category, jins, jsrt, jins2, jble, jblt, jf3, List.filter_cons, List.filter_nil, G_m, oX12_hasRoom, oX12_lay, oX12_layName, oX12_of, oX12_layNumber, joRI, joRII, -Int32.not_le, -Int32.not_lt, -Int64.not_le, -Int64.not_lt, i3lt, i6lt, hk1, eck, r0, e52, p0, c0]
  try simp (disch := omega) [-Prod.forall, -Prod.exists, -Prod.mk.injEq, -Int32.not_le, -Int32.not_lt, -Int64.not_le, -Int64.not_lt, i3lt, i6lt, hk1, eck, r0, e52, p0, c0]
  rw [← e1]
  refine jvk_ok TX12_write (V := [(229, 2, 12, oX12_hasRoom), (390, 2, 12, oX12_lay), (393, 2, 12, oX12_layName), (128, 3, 12, oX12_of), (396, 2, 12, oX12_layNumber)]) (S := []) (List.forall_mem_cons.mpr ⟨⟨mX12_hasRoom, n + 2, 1, TX12, 53, rfl, by omega, kX12_229, WX12_hasRoom, rfl, CX12_hasRoom g (n)⟩, (List.forall_mem_cons.mpr ⟨⟨mX12_lay, n + 0, 1, TX12, 53, rfl, by omega, kX12_390, WX12_lay, rfl, CX12_lay g (n)⟩, (List.forall_mem_cons.mpr ⟨⟨mX12_layName, n + 1, 1, TX12, 53, rfl, by omega, kX12_393, WX12_layName, rfl, CX12_layName g (n)⟩, (List.forall_mem_cons.mpr ⟨⟨mX12_of, n + 1, 2, TX12, 53, rfl, by omega, kX12_128, WX12_of, rfl, CX12_of g (n)⟩, (List.forall_mem_cons.mpr ⟨⟨mX12_layNumber, n + 1, 1, TX12, 53, rfl, by omega, kX12_396, WX12_layNumber, rfl, CX12_layNumber g (n)⟩, (fun _ h => absurd h List.not_mem_nil)⟩)⟩)⟩)⟩)⟩) (fun _ h => absurd h List.not_mem_nil) [60] 30 _ _ _ _ ?_
  simp (maxSteps := 1000000) [↓Bool.cond_eq_ite, -Prod.forall, -Prod.exists, -Prod.mk.injEq, jvk, tX12_write, jtb, jol, jst, jlk, jcmp, jbin, jfl, fX12, jc2, lX12, jcat, jel, lv_args, Value.category, jins, jsrt, jins2, jble, jblt, jf3, List.filter_cons, List.filter_nil, G_m, oX12_hasRoom, oX12_lay, oX12_layName, oX12_of, oX12_layNumber, joRI, joRII, -Int32.not_le, -Int32.not_lt, -Int64.not_le, -Int64.not_lt, i3lt, i6lt, f1, p1, c1]
  try simp (disch := omega) [-Prod.forall, -Prod.exists, -Prod.mk.injEq, -Int32.not_le, -Int32.not_lt, -Int64.not_le, -Int64.not_lt, i3lt, i6lt, f1, p1, c1]
  rw [← e2]
  refine jvk_ok TX12_write (V := [(229, 2, 12, oX12_hasRoom), (390, 2, 12, oX12_lay), (393, 2, 12, oX12_layName), (128, 3, 12, oX12_of), (396, 2, 12, oX12_layNumber)]) (S := []) (List.forall_mem_cons.mpr ⟨⟨mX12_hasRoom, n + 2, 1, TX12, 53, rfl, by omega, kX12_229, WX12_hasRoom, rfl, CX12_hasRoom g (n)⟩, (List.forall_mem_cons.mpr ⟨⟨mX12_lay, n + 0, 1, TX12, 53, rfl, by omega, kX12_390, WX12_lay, rfl, CX12_lay g (n)⟩, (List.forall_mem_cons.mpr ⟨⟨mX12_layName, n + 1, 1, TX12, 53, rfl, by omega, kX12_393, WX12_layName, rfl, CX12_layName g (n)⟩, (List.forall_mem_cons.mpr ⟨⟨mX12_of, n + 1, 2, TX12, 53, rfl, by omega, kX12_128, WX12_of, rfl, CX12_of g (n)⟩, (List.forall_mem_cons.mpr ⟨⟨mX12_layNumber, n + 1, 1, TX12, 53, rfl, by omega, kX12_396, WX12_layNumber, rfl, CX12_layNumber g (n)⟩, (fun _ h => absurd h List.not_mem_nil)⟩)⟩)⟩)⟩)⟩) (fun _ h => absurd h List.not_mem_nil) [75] 30 _ _ _ _ ?_
  simp (maxSteps := 1000000) [↓Bool.cond_eq_ite, -Prod.forall, -Prod.exists, -Prod.mk.injEq, jvk, tX12_write, jtb, jol, jst, jlk, jcmp, jbin, jfl, fX12, jc2, lX12, jcat, jel, lv_args, Value.category, jins, jsrt, jins2, jble, jblt, jf3, List.filter_cons, List.filter_nil, G_m, oX12_hasRoom, oX12_lay, oX12_layName, oX12_of, oX12_layNumber, joRI, joRII, -Int32.not_le, -Int32.not_lt, -Int64.not_le, -Int64.not_lt, i3lt, i6lt, hk1, eck, m2, hr, r2, f2, p2, c2, jin_c, tn_c]
  try simp (disch := omega) [-Prod.forall, -Prod.exists, -Prod.mk.injEq, -Int32.not_le, -Int32.not_lt, -Int64.not_le, -Int64.not_lt, i3lt, i6lt, hk1, eck, m2, hr, r2, f2, p2, c2, jin_c, tn_c]
  rw [← e3]
  refine jvk_ok TX12_write (V := [(229, 2, 12, oX12_hasRoom), (390, 2, 12, oX12_lay), (393, 2, 12, oX12_layName), (128, 3, 12, oX12_of), (396, 2, 12, oX12_layNumber)]) (S := []) (List.forall_mem_cons.mpr ⟨⟨mX12_hasRoom, n + 2, 1, TX12, 53, rfl, by omega, kX12_229, WX12_hasRoom, rfl, CX12_hasRoom g (n)⟩, (List.forall_mem_cons.mpr ⟨⟨mX12_lay, n + 0, 1, TX12, 53, rfl, by omega, kX12_390, WX12_lay, rfl, CX12_lay g (n)⟩, (List.forall_mem_cons.mpr ⟨⟨mX12_layName, n + 1, 1, TX12, 53, rfl, by omega, kX12_393, WX12_layName, rfl, CX12_layName g (n)⟩, (List.forall_mem_cons.mpr ⟨⟨mX12_of, n + 1, 2, TX12, 53, rfl, by omega, kX12_128, WX12_of, rfl, CX12_of g (n)⟩, (List.forall_mem_cons.mpr ⟨⟨mX12_layNumber, n + 1, 1, TX12, 53, rfl, by omega, kX12_396, WX12_layNumber, rfl, CX12_layNumber g (n)⟩, (fun _ h => absurd h List.not_mem_nil)⟩)⟩)⟩)⟩)⟩) (fun _ h => absurd h List.not_mem_nil) [81] 30 _ _ _ _ ?_
  simp (maxSteps := 1000000) [↓Bool.cond_eq_ite, -Prod.forall, -Prod.exists, -Prod.mk.injEq, jvk, tX12_write, jtb, jol, jst, jlk, jcmp, jbin, jfl, fX12, jc2, lX12, jcat, jel, lv_args, Value.category, jins, jsrt, jins2, jble, jblt, jf3, List.filter_cons, List.filter_nil, G_m, oX12_hasRoom, oX12_lay, oX12_layName, oX12_of, oX12_layNumber, joRI, joRII, -Int32.not_le, -Int32.not_lt, -Int64.not_le, -Int64.not_lt, i3lt, i6lt, f3, p3, c3]
  try simp (disch := omega) [-Prod.forall, -Prod.exists, -Prod.mk.injEq, -Int32.not_le, -Int32.not_lt, -Int64.not_le, -Int64.not_lt, i3lt, i6lt, f3, p3, c3]
  rw [← e4]
  refine jvk_ok TX12_write (V := [(229, 2, 12, oX12_hasRoom), (390, 2, 12, oX12_lay), (393, 2, 12, oX12_layName), (128, 3, 12, oX12_of), (396, 2, 12, oX12_layNumber)]) (S := []) (List.forall_mem_cons.mpr ⟨⟨mX12_hasRoom, n + 2, 1, TX12, 53, rfl, by omega, kX12_229, WX12_hasRoom, rfl, CX12_hasRoom g (n)⟩, (List.forall_mem_cons.mpr ⟨⟨mX12_lay, n + 0, 1, TX12, 53, rfl, by omega, kX12_390, WX12_lay, rfl, CX12_lay g (n)⟩, (List.forall_mem_cons.mpr ⟨⟨mX12_layName, n + 1, 1, TX12, 53, rfl, by omega, kX12_393, WX12_layName, rfl, CX12_layName g (n)⟩, (List.forall_mem_cons.mpr ⟨⟨mX12_of, n + 1, 2, TX12, 53, rfl, by omega, kX12_128, WX12_of, rfl, CX12_of g (n)⟩, (List.forall_mem_cons.mpr ⟨⟨mX12_layNumber, n + 1, 1, TX12, 53, rfl, by omega, kX12_396, WX12_layNumber, rfl, CX12_layNumber g (n)⟩, (fun _ h => absurd h List.not_mem_nil)⟩)⟩)⟩)⟩)⟩) (fun _ h => absurd h List.not_mem_nil) [91] 30 _ _ _ _ ?_
  simp (maxSteps := 1000000) [↓Bool.cond_eq_ite, -Prod.forall, -Prod.exists, -Prod.mk.injEq, jvk, tX12_write, jtb, jol, jst, jlk, jcmp, jbin, jfl, fX12, jc2, lX12, jcat, jel, lv_args, Value.category, jins, jsrt, jins2, jble, jblt, jf3, List.filter_cons, List.filter_nil, G_m, oX12_hasRoom, oX12_lay, oX12_layName, oX12_of, oX12_layNumber, joRI, joRII, -Int32.not_le, -Int32.not_lt, -Int64.not_le, -Int64.not_lt, i3lt, i6lt, hk1, eck, m4, hz, f4, p4, c4, jin_c, tn_c]
  try simp (disch := omega) [-Prod.forall, -Prod.exists, -Prod.mk.injEq, -Int32.not_le, -Int32.not_lt, -Int64.not_le, -Int64.not_lt, i3lt, i6lt, hk1, eck, m4, hz, f4, p4, c4, jin_c, tn_c]
  exact k
set_option maxRecDepth 100000 in
set_option maxHeartbeats 4000000 in
theorem CX12_write (g : jG) (n : Nat) : jOk g (n + 3) mX12_write oX12_write := by
  refine joR_ok ?_
  rintro _ σ ⟨rfl, hok, hr, hy⟩
  obtain ⟨hN10, hN4⟩ := mN_le hok
  refine jCon.ofP (by decide +kernel) (by simp [lg_sl, Value.category]) (fun post hp => ?_)
  refine jvk_ok TX12_write (V := [(229, 2, 12, oX12_hasRoom), (390, 2, 12, oX12_lay), (393, 2, 12, oX12_layName), (128, 3, 12, oX12_of), (396, 2, 12, oX12_layNumber)]) (S := []) (List.forall_mem_cons.mpr ⟨⟨mX12_hasRoom, n + 2, 1, TX12, 53, rfl, by omega, kX12_229, WX12_hasRoom, rfl, CX12_hasRoom g (n)⟩, (List.forall_mem_cons.mpr ⟨⟨mX12_lay, n + 0, 1, TX12, 53, rfl, by omega, kX12_390, WX12_lay, rfl, CX12_lay g (n)⟩, (List.forall_mem_cons.mpr ⟨⟨mX12_layName, n + 1, 1, TX12, 53, rfl, by omega, kX12_393, WX12_layName, rfl, CX12_layName g (n)⟩, (List.forall_mem_cons.mpr ⟨⟨mX12_of, n + 1, 2, TX12, 53, rfl, by omega, kX12_128, WX12_of, rfl, CX12_of g (n)⟩, (List.forall_mem_cons.mpr ⟨⟨mX12_layNumber, n + 1, 1, TX12, 53, rfl, by omega, kX12_396, WX12_layNumber, rfl, CX12_layNumber g (n)⟩, (fun _ h => absurd h List.not_mem_nil)⟩)⟩)⟩)⟩)⟩) (fun _ h => absurd h List.not_mem_nil) [12] 20 _ _ _ _ ?_
  simp (maxSteps := 1000000) [↓Bool.cond_eq_ite, -Prod.forall, -Prod.exists, -Prod.mk.injEq, jvk, tX12_write, jtb, jol, jst, jlk, jcmp, jbin, jfl, fX12, jc2, lX12, jcat, jel, lv_args, Value.category, jins, jsrt, jins2, jble, jblt, jf3, List.filter_cons, List.filter_nil, G_m, oX12_hasRoom, oX12_lay, oX12_layName, oX12_of, oX12_layNumber, joRI, joRII, -Int32.not_le, -Int32.not_lt, -Int64.not_le, -Int64.not_lt, i3lt, i6lt]
  try simp (disch := omega) [-Prod.forall, -Prod.exists, -Prod.mk.injEq, -Int32.not_le, -Int32.not_lt, -Int64.not_le, -Int64.not_lt, i3lt, i6lt]
  obtain ⟨σ0, e0⟩ : ∃ σ0, σ0 = jup (jup σ 322 11 0) 322 52 0 := ⟨_, rfl⟩
  rw [← e0] at hp ⊢
  have oo : ∀ (s : Nat) (L : List Int32) (ρ : jM) (a j : Nat), a ≠ 351 → ¬ (a = 322 ∧ j = 52) → (uM ρ s L).1 a j = ρ.1 a j := fun s L ρ a j h1 h2 => by
    rw [ouS_1, if_neg (fun z => h1 z.1), if_neg h2]
  have o0 : ∀ a j, a ≠ 322 → σ0.1 a j = σ.1 a j := fun a j h => by rw [e0, jup_1, if_neg (fun z => h z.1), jup_1, if_neg (fun z => h z.1)]
  have key := jloop (P := fun p => jW g mX12_write (n + 3) post 12 [(0, .ref 322), (1, .int (nI p))] [] (uM σ0 0 (wrL σ p))) (N := mN σ) (by
    have hl := wrL_len σ (mN σ)
    obtain ⟨ρ, eρ⟩ : ∃ ρ, ρ = uM σ0 0 (wrL σ (mN σ)) := ⟨_, rfl⟩
    rw [← eρ] at hp ⊢
    have e4 : ρ.1 322 4 = nI (mN σ) := by rw [eρ, oo _ _ _ _ _ (by decide) (by decide), e0]; exact hN4
    have e52 : ρ.1 322 52 = nI (wrL σ (mN σ)).length := by rw [eρ, uM_52, Nat.zero_add]
    have hle : nI (mN σ) ≤ nI (mN σ) := nI_le (Nat.le_refl _) (by omega)
    refine jvk_ok TX12_write (V := [(229, 2, 12, oX12_hasRoom), (390, 2, 12, oX12_lay), (393, 2, 12, oX12_layName), (128, 3, 12, oX12_of), (396, 2, 12, oX12_layNumber)]) (S := []) (List.forall_mem_cons.mpr ⟨⟨mX12_hasRoom, n + 2, 1, TX12, 53, rfl, by omega, kX12_229, WX12_hasRoom, rfl, CX12_hasRoom g (n)⟩, (List.forall_mem_cons.mpr ⟨⟨mX12_lay, n + 0, 1, TX12, 53, rfl, by omega, kX12_390, WX12_lay, rfl, CX12_lay g (n)⟩, (List.forall_mem_cons.mpr ⟨⟨mX12_layName, n + 1, 1, TX12, 53, rfl, by omega, kX12_393, WX12_layName, rfl, CX12_layName g (n)⟩, (List.forall_mem_cons.mpr ⟨⟨mX12_of, n + 1, 2, TX12, 53, rfl, by omega, kX12_128, WX12_of, rfl, CX12_of g (n)⟩, (List.forall_mem_cons.mpr ⟨⟨mX12_layNumber, n + 1, 1, TX12, 53, rfl, by omega, kX12_396, WX12_layNumber, rfl, CX12_layNumber g (n)⟩, (fun _ h => absurd h List.not_mem_nil)⟩)⟩)⟩)⟩)⟩) (fun _ h => absurd h List.not_mem_nil) [12] 20 _ _ _ _ ?_
    simp (maxSteps := 1000000) [↓Bool.cond_eq_ite, -Prod.forall, -Prod.exists, -Prod.mk.injEq, jvk, tX12_write, jtb, jol, jst, jlk, jcmp, jbin, jfl, fX12, jc2, lX12, jcat, jel, lv_args, Value.category, jins, jsrt, jins2, jble, jblt, jf3, List.filter_cons, List.filter_nil, G_m, oX12_hasRoom, oX12_lay, oX12_layName, oX12_of, oX12_layNumber, joRI, joRII, -Int32.not_le, -Int32.not_lt, -Int64.not_le, -Int64.not_lt, i3lt, i6lt, e4, e52, hle]
    try simp (disch := omega) [-Prod.forall, -Prod.exists, -Prod.mk.injEq, -Int32.not_le, -Int32.not_lt, -Int64.not_le, -Int64.not_lt, i3lt, i6lt, e4, e52, hle]
    exact hp _ _ ⟨rfl, rfl⟩) (fun p hpN ih => by
    have hl := wrL_len σ p
    obtain ⟨ρ, eρ⟩ : ∃ ρ, ρ = uM σ0 0 (wrL σ p) := ⟨_, rfl⟩
    have hlt : ¬ nI (mN σ) ≤ nI p := nI_ge hpN (by omega)
    have hk1 : jin (nI p) 10 := jin_nI (by omega) (by decide)
    have eck : (nI p).toNatClampNeg = p := nI_clamp (by omega)
    have e4 : ρ.1 322 4 = nI (mN σ) := by rw [eρ, oo _ _ _ _ _ (by decide) (by decide), e0]; exact hN4
    have e52 : ρ.1 322 52 = nI (wrL σ p).length := by rw [eρ, uM_52, Nat.zero_add]
    have eo : ∀ a j, a ≠ 351 → a ≠ 322 → ρ.1 a j = σ.1 a j := fun a j h1 h2 => by rw [eρ, oo _ _ _ _ _ h1 (fun z => h2 z.1), o0 _ _ h2]
    have emD : mD ρ p 2 = mD σ p 2 := eo _ _ (by decide) (by decide)
    simp only [wrL] at ih
    by_cases h0 : 0 ≤ mD σ p 2
    · rw [if_pos h0] at ih
      have hrm : jin (mD σ p 2) 6 := hr p (by omega) h0
      have hz := dPy_z hy (p := p) (by omega)
      by_cases hE : (wrL σ p).length = 0
      · rw [if_pos hE, List.nil_append, ← uM_app, ← eρ, Nat.zero_add] at ih
        have c0 : nI (wrL σ p).length ≤ 0 := by rw [hE]; decide
        have k1 := CWr_line g n (post := post) (σ := σ) (τ := ρ) (p := p) (s := (wrL σ p).length) (by omega) (by omega) e52 (funext fun j => eo 323 j (by decide) (by decide)) (funext fun j => eo 326 j (by decide) (by decide)) (funext fun j => eo 325 j (by decide) (by decide)) hrm hz (by
          refine jvk_ok TX12_write (V := [(229, 2, 12, oX12_hasRoom), (390, 2, 12, oX12_lay), (393, 2, 12, oX12_layName), (128, 3, 12, oX12_of), (396, 2, 12, oX12_layNumber)]) (S := []) (List.forall_mem_cons.mpr ⟨⟨mX12_hasRoom, n + 2, 1, TX12, 53, rfl, by omega, kX12_229, WX12_hasRoom, rfl, CX12_hasRoom g (n)⟩, (List.forall_mem_cons.mpr ⟨⟨mX12_lay, n + 0, 1, TX12, 53, rfl, by omega, kX12_390, WX12_lay, rfl, CX12_lay g (n)⟩, (List.forall_mem_cons.mpr ⟨⟨mX12_layName, n + 1, 1, TX12, 53, rfl, by omega, kX12_393, WX12_layName, rfl, CX12_layName g (n)⟩, (List.forall_mem_cons.mpr ⟨⟨mX12_of, n + 1, 2, TX12, 53, rfl, by omega, kX12_128, WX12_of, rfl, CX12_of g (n)⟩, (List.forall_mem_cons.mpr ⟨⟨mX12_layNumber, n + 1, 1, TX12, 53, rfl, by omega, kX12_396, WX12_layNumber, rfl, CX12_layNumber g (n)⟩, (fun _ h => absurd h List.not_mem_nil)⟩)⟩)⟩)⟩)⟩) (fun _ h => absurd h List.not_mem_nil) [12] 20 _ _ _ _ ?_
          simp (maxSteps := 1000000) [↓Bool.cond_eq_ite, -Prod.forall, -Prod.exists, -Prod.mk.injEq, jvk, tX12_write, jtb, jol, jst, jlk, jcmp, jbin, jfl, fX12, jc2, lX12, jcat, jel, lv_args, Value.category, jins, jsrt, jins2, jble, jblt, jf3, List.filter_cons, List.filter_nil, G_m, oX12_hasRoom, oX12_lay, oX12_layName, oX12_of, oX12_layNumber, joRI, joRII, -Int32.not_le, -Int32.not_lt, -Int64.not_le, -Int64.not_lt, i3lt, i6lt, nI_1]
          try simp (disch := omega) [-Prod.forall, -Prod.exists, -Prod.mk.injEq, -Int32.not_le, -Int32.not_lt, -Int64.not_le, -Int64.not_lt, i3lt, i6lt, nI_1]
          exact ih)
        rw [← eρ]
        refine jvk_ok TX12_write (V := [(229, 2, 12, oX12_hasRoom), (390, 2, 12, oX12_lay), (393, 2, 12, oX12_layName), (128, 3, 12, oX12_of), (396, 2, 12, oX12_layNumber)]) (S := []) (List.forall_mem_cons.mpr ⟨⟨mX12_hasRoom, n + 2, 1, TX12, 53, rfl, by omega, kX12_229, WX12_hasRoom, rfl, CX12_hasRoom g (n)⟩, (List.forall_mem_cons.mpr ⟨⟨mX12_lay, n + 0, 1, TX12, 53, rfl, by omega, kX12_390, WX12_lay, rfl, CX12_lay g (n)⟩, (List.forall_mem_cons.mpr ⟨⟨mX12_layName, n + 1, 1, TX12, 53, rfl, by omega, kX12_393, WX12_layName, rfl, CX12_layName g (n)⟩, (List.forall_mem_cons.mpr ⟨⟨mX12_of, n + 1, 2, TX12, 53, rfl, by omega, kX12_128, WX12_of, rfl, CX12_of g (n)⟩, (List.forall_mem_cons.mpr ⟨⟨mX12_layNumber, n + 1, 1, TX12, 53, rfl, by omega, kX12_396, WX12_layNumber, rfl, CX12_layNumber g (n)⟩, (fun _ h => absurd h List.not_mem_nil)⟩)⟩)⟩)⟩)⟩) (fun _ h => absurd h List.not_mem_nil) [12, 44] 20 _ _ _ _ ?_
        simp (maxSteps := 1000000) [↓Bool.cond_eq_ite, -Prod.forall, -Prod.exists, -Prod.mk.injEq, jvk, tX12_write, jtb, jol, jst, jlk, jcmp, jbin, jfl, fX12, jc2, lX12, jcat, jel, lv_args, Value.category, jins, jsrt, jins2, jble, jblt, jf3, List.filter_cons, List.filter_nil, G_m, oX12_hasRoom, oX12_lay, oX12_layName, oX12_of, oX12_layNumber, joRI, joRII, -Int32.not_le, -Int32.not_lt, -Int64.not_le, -Int64.not_lt, i3lt, i6lt, e4, hlt, hk1, eck, emD, h0, e52, c0]
        try simp (disch := omega) [-Prod.forall, -Prod.exists, -Prod.mk.injEq, -Int32.not_le, -Int32.not_lt, -Int64.not_le, -Int64.not_lt, i3lt, i6lt, e4, hlt, hk1, eck, emD, h0, e52, c0]
        exact k1
      · rw [if_neg hE, ← uM_app, ← eρ, Nat.zero_add, ← uM_app] at ih
        have c0 : ¬ nI (wrL σ p).length ≤ 0 := nI_nle (by omega) (by omega)
        have hpre : ∃ q, nI (wrL σ p).length = nI q ∧ q < 400 := ⟨_, rfl, by omega⟩
        have ecl : (nI (wrL σ p).length).toNatClampNeg = (wrL σ p).length := nI_clamp (by omega)
        have eo2 : ∀ a j, a ≠ 351 → a ≠ 322 → (uM ρ (wrL σ p).length [59]).1 a j = σ.1 a j := fun a j h1 h2 => by rw [oo _ _ _ _ _ h1 (fun z => h2 z.1), eo _ _ h1 h2]
        have k1 := CWr_line g n (post := post) (σ := σ) (τ := uM ρ (wrL σ p).length [59]) (p := p) (s := (wrL σ p).length + ([59] : List Int32).length) (by omega) (by simp; omega) (uM_52 _ _ _) (funext fun j => eo2 323 j (by decide) (by decide)) (funext fun j => eo2 326 j (by decide) (by decide)) (funext fun j => eo2 325 j (by decide) (by decide)) hrm hz (by
          refine jvk_ok TX12_write (V := [(229, 2, 12, oX12_hasRoom), (390, 2, 12, oX12_lay), (393, 2, 12, oX12_layName), (128, 3, 12, oX12_of), (396, 2, 12, oX12_layNumber)]) (S := []) (List.forall_mem_cons.mpr ⟨⟨mX12_hasRoom, n + 2, 1, TX12, 53, rfl, by omega, kX12_229, WX12_hasRoom, rfl, CX12_hasRoom g (n)⟩, (List.forall_mem_cons.mpr ⟨⟨mX12_lay, n + 0, 1, TX12, 53, rfl, by omega, kX12_390, WX12_lay, rfl, CX12_lay g (n)⟩, (List.forall_mem_cons.mpr ⟨⟨mX12_layName, n + 1, 1, TX12, 53, rfl, by omega, kX12_393, WX12_layName, rfl, CX12_layName g (n)⟩, (List.forall_mem_cons.mpr ⟨⟨mX12_of, n + 1, 2, TX12, 53, rfl, by omega, kX12_128, WX12_of, rfl, CX12_of g (n)⟩, (List.forall_mem_cons.mpr ⟨⟨mX12_layNumber, n + 1, 1, TX12, 53, rfl, by omega, kX12_396, WX12_layNumber, rfl, CX12_layNumber g (n)⟩, (fun _ h => absurd h List.not_mem_nil)⟩)⟩)⟩)⟩)⟩) (fun _ h => absurd h List.not_mem_nil) [12] 20 _ _ _ _ ?_
          simp (maxSteps := 1000000) [↓Bool.cond_eq_ite, -Prod.forall, -Prod.exists, -Prod.mk.injEq, jvk, tX12_write, jtb, jol, jst, jlk, jcmp, jbin, jfl, fX12, jc2, lX12, jcat, jel, lv_args, Value.category, jins, jsrt, jins2, jble, jblt, jf3, List.filter_cons, List.filter_nil, G_m, oX12_hasRoom, oX12_lay, oX12_layName, oX12_of, oX12_layNumber, joRI, joRII, -Int32.not_le, -Int32.not_lt, -Int64.not_le, -Int64.not_lt, i3lt, i6lt, nI_1]
          try simp (disch := omega) [-Prod.forall, -Prod.exists, -Prod.mk.injEq, -Int32.not_le, -Int32.not_lt, -Int64.not_le, -Int64.not_lt, i3lt, i6lt, nI_1]
          exact ih)
        rw [← eρ]
        refine jvk_ok TX12_write (V := [(229, 2, 12, oX12_hasRoom), (390, 2, 12, oX12_lay), (393, 2, 12, oX12_layName), (128, 3, 12, oX12_of), (396, 2, 12, oX12_layNumber)]) (S := []) (List.forall_mem_cons.mpr ⟨⟨mX12_hasRoom, n + 2, 1, TX12, 53, rfl, by omega, kX12_229, WX12_hasRoom, rfl, CX12_hasRoom g (n)⟩, (List.forall_mem_cons.mpr ⟨⟨mX12_lay, n + 0, 1, TX12, 53, rfl, by omega, kX12_390, WX12_lay, rfl, CX12_lay g (n)⟩, (List.forall_mem_cons.mpr ⟨⟨mX12_layName, n + 1, 1, TX12, 53, rfl, by omega, kX12_393, WX12_layName, rfl, CX12_layName g (n)⟩, (List.forall_mem_cons.mpr ⟨⟨mX12_of, n + 1, 2, TX12, 53, rfl, by omega, kX12_128, WX12_of, rfl, CX12_of g (n)⟩, (List.forall_mem_cons.mpr ⟨⟨mX12_layNumber, n + 1, 1, TX12, 53, rfl, by omega, kX12_396, WX12_layNumber, rfl, CX12_layNumber g (n)⟩, (fun _ h => absurd h List.not_mem_nil)⟩)⟩)⟩)⟩)⟩) (fun _ h => absurd h List.not_mem_nil) [12, 44] 20 _ _ _ _ ?_
        simp (maxSteps := 1000000) [↓Bool.cond_eq_ite, -Prod.forall, -Prod.exists, -Prod.mk.injEq, jvk, tX12_write, jtb, jol, jst, jlk, jcmp, jbin, jfl, fX12, jc2, lX12, jcat, jel, lv_args, Value.category, jins, jsrt, jins2, jble, jblt, jf3, List.filter_cons, List.filter_nil, G_m, oX12_hasRoom, oX12_lay, oX12_layName, oX12_of, oX12_layNumber, joRI, joRII, -Int32.not_le, -Int32.not_lt, -Int64.not_le, -Int64.not_lt, i3lt, i6lt, e4, hlt, hk1, eck, emD, h0, e52, c0, hpre, ecl]
        try simp (disch := omega) [-Prod.forall, -Prod.exists, -Prod.mk.injEq, -Int32.not_le, -Int32.not_lt, -Int64.not_le, -Int64.not_lt, i3lt, i6lt, e4, hlt, hk1, eck, emD, h0, e52, c0, hpre, ecl]
        exact k1
    · rw [if_neg h0, List.append_nil, ← eρ] at ih
      rw [← eρ]
      refine jvk_ok TX12_write (V := [(229, 2, 12, oX12_hasRoom), (390, 2, 12, oX12_lay), (393, 2, 12, oX12_layName), (128, 3, 12, oX12_of), (396, 2, 12, oX12_layNumber)]) (S := []) (List.forall_mem_cons.mpr ⟨⟨mX12_hasRoom, n + 2, 1, TX12, 53, rfl, by omega, kX12_229, WX12_hasRoom, rfl, CX12_hasRoom g (n)⟩, (List.forall_mem_cons.mpr ⟨⟨mX12_lay, n + 0, 1, TX12, 53, rfl, by omega, kX12_390, WX12_lay, rfl, CX12_lay g (n)⟩, (List.forall_mem_cons.mpr ⟨⟨mX12_layName, n + 1, 1, TX12, 53, rfl, by omega, kX12_393, WX12_layName, rfl, CX12_layName g (n)⟩, (List.forall_mem_cons.mpr ⟨⟨mX12_of, n + 1, 2, TX12, 53, rfl, by omega, kX12_128, WX12_of, rfl, CX12_of g (n)⟩, (List.forall_mem_cons.mpr ⟨⟨mX12_layNumber, n + 1, 1, TX12, 53, rfl, by omega, kX12_396, WX12_layNumber, rfl, CX12_layNumber g (n)⟩, (fun _ h => absurd h List.not_mem_nil)⟩)⟩)⟩)⟩)⟩) (fun _ h => absurd h List.not_mem_nil) [12] 20 _ _ _ _ ?_
      simp (maxSteps := 1000000) [↓Bool.cond_eq_ite, -Prod.forall, -Prod.exists, -Prod.mk.injEq, jvk, tX12_write, jtb, jol, jst, jlk, jcmp, jbin, jfl, fX12, jc2, lX12, jcat, jel, lv_args, Value.category, jins, jsrt, jins2, jble, jblt, jf3, List.filter_cons, List.filter_nil, G_m, oX12_hasRoom, oX12_lay, oX12_layName, oX12_of, oX12_layNumber, joRI, joRII, -Int32.not_le, -Int32.not_lt, -Int64.not_le, -Int64.not_lt, i3lt, i6lt, e4, hlt, hk1, eck, emD, h0, nI_1]
      try simp (disch := omega) [-Prod.forall, -Prod.exists, -Prod.mk.injEq, -Int32.not_le, -Int32.not_lt, -Int64.not_le, -Int64.not_lt, i3lt, i6lt, e4, hlt, hk1, eck, emD, h0, nI_1]
      exact ih)
  have e1 : uM σ0 0 (wrL σ 0) = σ0 := ouS_nil _ _ _ _ _ (by rw [e0]; simp [jup_1, nI_0])
  rw [nI_0, e1] at key
  exact key
def oOK (σ : jM) : Prop := 0 ≤ σ.1 322 52 ∧ σ.1 322 52 ≤ 400
def oX12_outputAt : jO := joRI fun a x σ => (a = 322 ∧ oOK σ, fun v τ => v = some (.int (if mIn x 0 (σ.1 322 52 - 1) = true then σ.1 351 x.toNatClampNeg else -1)) ∧ τ = jup σ 322 11 0)
set_option maxRecDepth 100000 in
set_option maxHeartbeats 4000000 in
theorem CX12_outputAt (g : jG) (n : Nat) : jOk g (n + 1) mX12_outputAt oX12_outputAt := by
  refine joRI_ok ?_
  rintro _ x σ ⟨rfl, ho⟩
  obtain ⟨s, h1, h2, h3⟩ := nI_rng ho.1 ho.2 (by decide)
  by_cases h : mIn x 0 (σ.1 322 52 - 1) = true
  · have hx := mIn_jin h2 (by omega) h
    have hx4 : jin x 400 := jin_le hx h1
    refine jCon.ofP (by decide +kernel) (by simp [lg_sl, Value.category]) (fun post hp => ?_)
    refine jvk_ok TX12_outputAt (V := []) (S := [(117, 3, 0, oX12_inRange)]) (fun _ h => absurd h List.not_mem_nil) (List.forall_mem_cons.mpr ⟨⟨mX12_inRange, n + 0, by omega, Or.inl kX12_117, WX12_inRange, CX12_inRange g (n)⟩, (fun _ h => absurd h List.not_mem_nil)⟩) [] 30 _ _ _ _ ?_
    simp (maxSteps := 1000000) [↓Bool.cond_eq_ite, -Prod.forall, -Prod.exists, -Prod.mk.injEq, jvk, tX12_outputAt, jtb, jol, jst, jlk, jcmp, jbin, jfl, fX12, jc2, lX12, jcat, jel, lv_args, Value.category, jins, jsrt, jins2, jble, jblt, jf3, List.filter_cons, List.filter_nil, G_m, oX12_inRange, joIII, -Int32.not_le, -Int32.not_lt, -Int64.not_le, -Int64.not_lt, i3lt, i6lt, jup_1, h, hx4]
    try simp (disch := omega) [-Prod.forall, -Prod.exists, -Prod.mk.injEq, -Int32.not_le, -Int32.not_lt, -Int64.not_le, -Int64.not_lt, i3lt, i6lt, jup_1, h, hx4]
    exact hp _ _ ⟨by rw [if_pos h], rfl⟩
  · refine jCon.ofP (by decide +kernel) (by simp [lg_sl, Value.category]) (fun post hp => ?_)
    refine jvk_ok TX12_outputAt (V := []) (S := [(117, 3, 0, oX12_inRange)]) (fun _ h => absurd h List.not_mem_nil) (List.forall_mem_cons.mpr ⟨⟨mX12_inRange, n + 0, by omega, Or.inl kX12_117, WX12_inRange, CX12_inRange g (n)⟩, (fun _ h => absurd h List.not_mem_nil)⟩) [] 30 _ _ _ _ ?_
    simp (maxSteps := 1000000) [↓Bool.cond_eq_ite, -Prod.forall, -Prod.exists, -Prod.mk.injEq, jvk, tX12_outputAt, jtb, jol, jst, jlk, jcmp, jbin, jfl, fX12, jc2, lX12, jcat, jel, lv_args, Value.category, jins, jsrt, jins2, jble, jblt, jf3, List.filter_cons, List.filter_nil, G_m, oX12_inRange, joIII, -Int32.not_le, -Int32.not_lt, -Int64.not_le, -Int64.not_lt, i3lt, i6lt, jup_1, h]
    try simp (disch := omega) [-Prod.forall, -Prod.exists, -Prod.mk.injEq, -Int32.not_le, -Int32.not_lt, -Int64.not_le, -Int64.not_lt, i3lt, i6lt, jup_1, h]
    exact hp _ _ ⟨by rw [if_neg h], rfl⟩
