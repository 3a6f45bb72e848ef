/-! Loader.read, load -/
def lInit (μ : pM) : Prop := (μ 322 43 = 0 ∧ μ 322 44 = 0 ∧ μ 322 45 = 0 ∧ μ 322 49 = 0) ∧ ∀ k, k < 5 → μ 347 k = if k = 0 then 2 else 0
/-- the rest of the flat is empty -/
def lFlE (τ : jM) : Prop := (∀ j, 4 ≤ j → j < 7 → τ.1 4 j = 0) ∧ ∀ k, k = 2 ∨ 15 ≤ k ∧ k ≤ 19 → ∀ j, j < fLn k → τ.1 (4 + k) j = emV k j
theorem lFlE_fr {σ τ : jM} (h : lFlE σ) (f : jfr aLq b0 σ τ) : lFlE τ := by
  have ff : ∀ a j, a = 4 ∧ 4 ≤ j ∨ a = 6 ∨ 19 ≤ a ∧ a ≤ 23 → τ.1 a j = σ.1 a j := fun a j q => f.2.2 a j (by
    unfold aLq aLn aTo
    rw [jble, jble, jble, jble, jble]
    simp only [Bool.or_eq_false_iff, Bool.and_eq_false_iff, beq_eq_false_iff_ne, decide_eq_false_iff_not]
    omega)
  refine ⟨fun j h4 h7 => ?_, fun k hk j hj => ?_⟩
  · rw [ff 4 j (by omega)]; exact h.1 j h4 h7
  · rw [ff (4 + k) j (by omega)]; exact h.2 k hk j hj
theorem lR_init {σ : jM} {μ : pM} (hμ : lInit μ) (h4 : ∀ j, j < 4 → σ.1 4 j = 0) (h5 : ∀ k, k < 3 → σ.1 5 k = if k = 0 then 2 else 0) (h24 : σ.1 24 5 = 0) (h1 : σ.1 1 3 = 0 ∧ σ.1 1 4 = 0) (h30 : ∀ k, k < 3 → σ.1 30 k = 0) : lR σ μ := by
  obtain ⟨⟨m1, m2, m3, m4⟩, mk⟩ := hμ
  have r : rm μ = 0 := by unfold rm; rw [m1]; rfl
  have p : pe μ = 0 := by unfold pe; rw [m2]; rfl
  have q : pn μ = 0 := by unfold pn; rw [m3]; rfl
  have gg : ∀ k, k < 31 → gv μ k = false := fun k hk => by
    rw [gv_bit μ hk, m4]
    simp
  unfold lR lRN lA lC lPl
  rw [r, p, q]
  refine ⟨⟨by omega, by omega, m1, h4 0 (by omega), m2, h4 1 (by omega), fun j hj => by omega, fun j hj => by omega, fun i j _ hj => by omega, fun i hi => by omega, fun i j hi _ => by omega, fun i j _ hj => by omega⟩, fun k hk => ?_, by omega, m3, h24, id, fun i hi => by omega, fun i j _ hj => by omega⟩
  rw [mk k hk, gg k (by omega)]
  unfold vC gC
  by_cases c : k < 3
  · rw [if_pos c, if_pos c]
    exact ⟨h5 k c, fun _ => rfl, fun _ => h30 k c⟩
  · rw [if_neg c, if_neg c, if_neg (by omega)]
    rcases (by omega : k = 3 ∨ k = 4) with rfl | rfl
    · exact ⟨h4 2 (by omega), fun _ => rfl, fun _ => h1.1⟩
    · exact ⟨h4 3 (by omega), fun _ => rfl, fun _ => h1.2⟩
def aRL (a _j : Nat) : Bool := Nat.ble 1 a && Nat.ble a 2 || Nat.ble 4 a && Nat.ble a 30
theorem rl_of {a j : Nat} (h : aRL a j = false) : ¬ (1 ≤ a ∧ a ≤ 2) ∧ ¬ (4 ≤ a ∧ a ≤ 30) := by
  unfold aRL at h
  rw [jble, jble, jble, jble] at h
  simp only [Bool.or_eq_false_iff, Bool.and_eq_false_iff, decide_eq_false_iff_not] at h
  omega
theorem rl_lw {a j : Nat} (h : aRL a j = false) : aLq a j = false := by
  have := rl_of h
  unfold aLq aLn aTo
  rw [jble, jble, jble, jble, jble]
  simp only [Bool.or_eq_false_iff, Bool.and_eq_false_iff, beq_eq_false_iff_ne, decide_eq_false_iff_not]
  omega
theorem rl_fl {a j : Nat} (h : aRL a j = false) : aFl 4 a j = false := by
  have := rl_of h
  unfold aFl
  rw [jble, jble]
  simp only [Bool.and_eq_false_iff, decide_eq_false_iff_not]
  omega
theorem rl_tp {a j : Nat} (h : aRL a j = false) : aTp a j = false := by
  have := rl_of h
  unfold aTp
  simp only [Bool.and_eq_false_iff, beq_eq_false_iff_ne]
  omega
def rdP (v : Option Value) (τ : jM) : pE ⊕ (Nat × pM) → Prop
  | .inl e => v = some (.int e.1) ∧ e.1 < 0 ∧ τ.1 1 9 = nI e.2
  | .inr q => v = some (.int (nI q.1)) ∧ τ.1 1 9 = -1 ∧ lR τ q.2 ∧ lFlE τ ∧ q.1 ≤ 900
theorem pText_c {b : Nat → Int32} {m : Nat} : ∀ (f c s : Nat) (μ : pM) (q : Nat × pM), c ≤ s → s ≤ m → pText b m f c s μ = .inr q → q.1 ≤ m
  | 0, c, s, μ, q, h1, h2, h => by
    simp only [pText] at h
    cases h
    show c ≤ m
    omega
  | f + 1, c, s, μ, q, h1, h2, h => by
    simp only [pText] at h
    by_cases k0 : kn b m s = 0
    · rw [if_pos k0] at h
      cases h
      show c ≤ m
      omega
    · rw [if_neg k0] at h
      rcases e : pStmt b m s μ with e' | ⟨s', μ'⟩
      · rw [e] at h
        cases h
      · rw [e] at h
        have g := pStmt_gt h2 e
        exact pText_c f (c + 1) s' μ' q (by have := g.1; omega) g.2 h
def oX4_read : jO := joRI fun a x σ => (a = 1 ∧ ∃ m h, x = nI m ∧ σ.1 2 1 = nI h ∧ m ≤ h ∧ h ≤ 900, fun v τ => jfr aRL b0 σ τ ∧ ∀ μ, lInit μ → rdP v τ (pLoad (σ.1 3) x.toNatClampNeg μ))
set_option maxRecDepth 100000 in
set_option maxHeartbeats 4000000 in
theorem CX4_read (g : jG) (n : Nat) (hE : jEs g) : jOk g (n + 9) mX4_read oX4_read := by
  refine joRI_ok ?_
  rintro _ _ σ ⟨rfl, m, h, rfl, hh, hmh, hh9⟩
  have ecm : (nI m).toNatClampNeg = m := nI_clamp (by omega)
  refine jCon.ofP (by decide +kernel) (by simp [lg_sl, Value.category]) (fun post hp => ?_)
  refine jvk_ok TX4_read (V := [(56, 1, 2, oX2_empty), (62, 2, 10, oX10_open), (69, 1, 4, oX4_readStatement), (73, 1, 4, oX4_readSemicolon)]) (S := []) (List.forall_mem_cons.mpr ⟨⟨mX2_empty, n + 1, 0, TX2, 16, rfl, by omega, kX4_56, WX2_empty, rfl, CX2_empty g (n)⟩, (List.forall_mem_cons.mpr ⟨⟨mX10_open, n + 2, 1, TX10, 6, rfl, by omega, kX4_62, WX10_open, rfl, CX10_open g (n)⟩, (List.forall_mem_cons.mpr ⟨⟨mX4_readStatement, n + 8, 0, TX4, 10, rfl, by omega, kX4_69, WX4_readStatement, rfl, CX4_readStatement g (n) hE⟩, (List.forall_mem_cons.mpr ⟨⟨mX4_readSemicolon, n + 2, 0, TX4, 10, rfl, by omega, kX4_73, WX4_readSemicolon, rfl, CX4_readSemicolon g (n)⟩, (fun _ h => absurd h List.not_mem_nil)⟩)⟩)⟩)⟩) (fun _ h => absurd h List.not_mem_nil) [7] 20 _ _ _ _ ?_
  simp (maxSteps := 1000000) [↓Bool.cond_eq_ite, -Prod.forall, -Prod.exists, -Prod.mk.injEq, jvk, tX4_read, jtb, jol, jst, jlk, jcmp, jbin, jfl, fX4, jc2, lX4, jcat, jel, lv_args, Value.category, jins, jsrt, jins2, jble, jblt, jf3, List.filter_cons, List.filter_nil, G_loader, G_lflat, G_lroster, oX2_empty, oX10_open, oX4_readStatement, oX4_readSemicolon, joR, joRI, -Int32.not_le, -Int32.not_lt, -Int64.not_le, -Int64.not_lt, i3lt, i6lt]
  try simp (disch := omega) [-Prod.forall, -Prod.exists, -Prod.mk.injEq, -Int32.not_le, -Int32.not_lt, -Int64.not_le, -Int64.not_lt, i3lt, i6lt]
  rw [ecm] at hp
  intro v1 τ1 hv1 C
  subst hv1
  obtain ⟨f1, c4, ck⟩ := C
  obtain ⟨ρ0, e0⟩ : ∃ ρ0, ρ0 = jup (jup (jup τ1 24 5 0) 1 3 0) 1 4 0 := ⟨_, rfl⟩
  have E0 : ∀ a j, ¬ (a = 24 ∧ j = 5) → ¬ (a = 1 ∧ (j = 3 ∨ j = 4)) → ρ0.1 a j = τ1.1 a j := fun a j h1 h2 => by
    rw [e0, jup_1, if_neg (by omega), jup_1, if_neg (by omega), jup_1, if_neg h1]
  have w0 : jfr aRL b0 σ ρ0 := by
    rw [e0]
    exact (((f1.weak (fun a j q => rl_fl q) (fun _ q => q)).up _ rfl).up _ rfl).up _ rfl
  have key := jloop (P := fun k => ∀ τ : jM, jfr (fun a j => a == 30 && Nat.ble j 2) b0 ρ0 τ → (∀ i, i < k → τ.1 30 i = 0) → jW g mX4_read (n + 9) post 27 [(0, .ref 1), (1, .int (nI m)), (2, .int (nI k))] [] τ) (N := 3) (fun τ f h30 => by
    have hle : (3 : Int32) ≤ nI 3 := by decide
    obtain ⟨ρ, eρ⟩ : ∃ ρ, ρ = jup (jup τ 1 8 0) 1 9 (-1) := ⟨_, rfl⟩
    have Fτ : ∀ a j, ¬ a = 30 → τ.1 a j = ρ0.1 a j := fun a j h => f.2.2 a j (by
      simp only [Bool.and_eq_false_iff, beq_eq_false_iff_ne]
      exact Or.inl h)
    have Fρ : ∀ a j, ¬ (a = 1 ∧ (j = 8 ∨ j = 9)) → ρ.1 a j = τ.1 a j := fun a j h => by
      rw [eρ, jup_1, if_neg (by omega), jup_1, if_neg (by omega)]
    have r9 : ρ.1 1 9 = -1 := by rw [eρ, jup_s]
    have wρ : jfr aRL b0 σ ρ := by
      rw [eρ]
      exact ((w0.tr (f.weak (fun a j q => by
        have := rl_of q
        simp only [Bool.and_eq_false_iff, beq_eq_false_iff_ne]
        omega) (fun _ q => q))).up _ rfl).up _ rfl
    have r3 : ρ.1 3 = σ.1 3 := funext fun j => wρ.2.2 3 j rfl
    have r21 : ρ.1 2 1 = nI h := by
      rw [Fρ 2 1 (by omega), Fτ 2 1 (by omega), E0 2 1 (by omega) (by omega), f1.2.2 2 1 (by
        unfold aFl
        rfl)]
      exact hh
    have hop : ∃ m' h', nI m = nI m' ∧ ρ.1 2 1 = nI h' ∧ m' ≤ h' ∧ h' ≤ 900 := ⟨m, h, rfl, r21, hmh, hh9⟩
    refine jvk_ok TX4_read (V := [(56, 1, 2, oX2_empty), (62, 2, 10, oX10_open), (69, 1, 4, oX4_readStatement), (73, 1, 4, oX4_readSemicolon)]) (S := []) (List.forall_mem_cons.mpr ⟨⟨mX2_empty, n + 1, 0, TX2, 16, rfl, by omega, kX4_56, WX2_empty, rfl, CX2_empty g (n)⟩, (List.forall_mem_cons.mpr ⟨⟨mX10_open, n + 2, 1, TX10, 6, rfl, by omega, kX4_62, WX10_open, rfl, CX10_open g (n)⟩, (List.forall_mem_cons.mpr ⟨⟨mX4_readStatement, n + 8, 0, TX4, 10, rfl, by omega, kX4_69, WX4_readStatement, rfl, CX4_readStatement g (n) hE⟩, (List.forall_mem_cons.mpr ⟨⟨mX4_readSemicolon, n + 2, 0, TX4, 10, rfl, by omega, kX4_73, WX4_readSemicolon, rfl, CX4_readSemicolon g (n)⟩, (fun _ h => absurd h List.not_mem_nil)⟩)⟩)⟩)⟩) (fun _ h => absurd h List.not_mem_nil) [59] 40 _ _ _ _ ?_
    simp (maxSteps := 1000000) [↓Bool.cond_eq_ite, -Prod.forall, -Prod.exists, -Prod.mk.injEq, jvk, tX4_read, jtb, jol, jst, jlk, jcmp, jbin, jfl, fX4, jc2, lX4, jcat, jel, lv_args, Value.category, jins, jsrt, jins2, jble, jblt, jf3, List.filter_cons, List.filter_nil, G_loader, G_lflat, G_lroster, oX2_empty, oX10_open, oX4_readStatement, oX4_readSemicolon, joR, joRI, -Int32.not_le, -Int32.not_lt, -Int64.not_le, -Int64.not_lt, i3lt, i6lt, hle]
    try simp (disch := omega) [-Prod.forall, -Prod.exists, -Prod.mk.injEq, -Int32.not_le, -Int32.not_lt, -Int64.not_le, -Int64.not_lt, i3lt, i6lt, hle]
    rw [← eρ]
    refine jvk_ok TX4_read (V := [(56, 1, 2, oX2_empty), (62, 2, 10, oX10_open), (69, 1, 4, oX4_readStatement), (73, 1, 4, oX4_readSemicolon)]) (S := []) (List.forall_mem_cons.mpr ⟨⟨mX2_empty, n + 1, 0, TX2, 16, rfl, by omega, kX4_56, WX2_empty, rfl, CX2_empty g (n)⟩, (List.forall_mem_cons.mpr ⟨⟨mX10_open, n + 2, 1, TX10, 6, rfl, by omega, kX4_62, WX10_open, rfl, CX10_open g (n)⟩, (List.forall_mem_cons.mpr ⟨⟨mX4_readStatement, n + 8, 0, TX4, 10, rfl, by omega, kX4_69, WX4_readStatement, rfl, CX4_readStatement g (n) hE⟩, (List.forall_mem_cons.mpr ⟨⟨mX4_readSemicolon, n + 2, 0, TX4, 10, rfl, by omega, kX4_73, WX4_readSemicolon, rfl, CX4_readSemicolon g (n)⟩, (fun _ h => absurd h List.not_mem_nil)⟩)⟩)⟩)⟩) (fun _ h => absurd h List.not_mem_nil) [63] 20 _ _ _ _ ?_
    simp (maxSteps := 1000000) [↓Bool.cond_eq_ite, -Prod.forall, -Prod.exists, -Prod.mk.injEq, jvk, tX4_read, jtb, jol, jst, jlk, jcmp, jbin, jfl, fX4, jc2, lX4, jcat, jel, lv_args, Value.category, jins, jsrt, jins2, jble, jblt, jf3, List.filter_cons, List.filter_nil, G_loader, G_lflat, G_lroster, oX2_empty, oX10_open, oX4_readStatement, oX4_readSemicolon, joR, joRI, -Int32.not_le, -Int32.not_lt, -Int64.not_le, -Int64.not_lt, i3lt, i6lt]
    try simp (disch := omega) [-Prod.forall, -Prod.exists, -Prod.mk.injEq, -Int32.not_le, -Int32.not_lt, -Int64.not_le, -Int64.not_lt, i3lt, i6lt]
    refine ⟨⟨m, rfl, h, r21, hmh, hh9⟩, ?_⟩
    intro v2 τ2 hv2 f2 t1 t2 t3
    subst hv2
    rw [ecm] at t2 t3
    rw [r3] at t3
    have g3 : τ2.1 3 = σ.1 3 := (funext fun j => f2.2.2 3 j rfl : τ2.1 3 = ρ.1 3).trans r3
    have F2 : ∀ a j, ¬ a = 2 → τ2.1 a j = ρ.1 a j := fun a j h => f2.2.2 a j (by
      unfold aTp
      simp only [Bool.and_eq_false_iff, beq_eq_false_iff_ne]
      exact Or.inl h)
    have w2 : jfr aRL b0 σ τ2 := wρ.tr (f2.weak (fun a j q => rl_tp q) (fun _ q => q))
    have cell : ∀ a j, ¬ a = 2 → ¬ a = 30 → ¬ (a = 24 ∧ j = 5) → ¬ (a = 1 ∧ (j = 3 ∨ j = 4 ∨ j = 8 ∨ j = 9)) → τ2.1 a j = τ1.1 a j := fun a j h1 h2 h3 h4 => by
      rw [F2 a j h1, Fρ a j (by omega), Fτ a j h2, E0 a j h3 (by omega)]
    have hE0 : lFlE τ2 := ⟨fun j h4 h7 => by
      rw [cell 4 j (by omega) (by omega) (by omega) (by omega)]
      exact c4 j h7, fun k hk j hj => by
      rw [cell (4 + k) j (by omega) (by omega) (by omega) (by omega)]
      exact ck k trivial (by omega) (by omega) (by omega) j hj⟩
    have hI : ∀ μ, lInit μ → lR τ2 μ := fun μ hμ => lR_init hμ (fun j hj => by
      rw [cell 4 j (by omega) (by omega) (by omega) (by omega)]
      exact c4 j (by omega)) (fun k hk => by
      rw [cell 5 k (by omega) (by omega) (by omega) (by omega)]
      have := ck 1 trivial (by omega) (by omega) (by omega) k hk
      unfold emV at this
      rw [if_pos rfl] at this
      exact this) (by
      rw [F2 24 5 (by omega), Fρ 24 5 (by omega), Fτ 24 5 (by omega), e0]
      rfl) ⟨by
      rw [F2 1 3 (by omega), Fρ 1 3 (by omega), Fτ 1 3 (by omega), e0]
      rfl, by
      rw [F2 1 4 (by omega), Fρ 1 4 (by omega), Fτ 1 4 (by omega), e0]
      rfl⟩ (fun k hk => by
      rw [F2 30 k (by omega), Fρ 30 k (by omega)]
      exact h30 k hk)
    have rn1 := rn_le (b := σ.1 3) (len := m) (k := 1) (p := 0) (by omega)
    have hM : ∃ μ, lR τ2 μ := ⟨mu1 σ, hI _ ⟨⟨rfl, rfl, rfl, rfl⟩, fun k hk => by
      rcases (by omega : k = 0 ∨ k = 1 ∨ k = 2 ∨ k = 3 ∨ k = 4) with rfl | rfl | rfl | rfl | rfl <;> rfl⟩⟩
    have k1 := CRd_loop g n hE (post := post) (B := σ.1 3) (m := m) (by omega) (m + 1) 0 (rn (σ.1 3) m 1 0) τ2 (by omega) (by omega) g3 t2 t1 t3 hM ((F2 1 9 (by omega)).trans r9) (fun v ω fω q => hp v ω ⟨w2.tr (fω.weak (fun a j z => rl_lw z) (fun _ z => z)), fun μ hμ => by
      have r := q μ (hI μ hμ)
      unfold pLoad
      rcases e : pText (σ.1 3) m (m + 1) 0 (rn (σ.1 3) m 1 0) μ with e' | q'
      · rw [e] at r
        exact ⟨r.1, pText_er _ _ _ _ e, r.2⟩
      · rw [e] at r
        exact ⟨r.1, r.2.1, r.2.2, lFlE_fr hE0 fω, by have := pText_c _ _ _ _ _ (by omega) rn1.2 e; omega⟩⟩)
    rw [nI_0] at k1
    refine jvk_ok TX4_read (V := [(56, 1, 2, oX2_empty), (62, 2, 10, oX10_open), (69, 1, 4, oX4_readStatement), (73, 1, 4, oX4_readSemicolon)]) (S := []) (List.forall_mem_cons.mpr ⟨⟨mX2_empty, n + 1, 0, TX2, 16, rfl, by omega, kX4_56, WX2_empty, rfl, CX2_empty g (n)⟩, (List.forall_mem_cons.mpr ⟨⟨mX10_open, n + 2, 1, TX10, 6, rfl, by omega, kX4_62, WX10_open, rfl, CX10_open g (n)⟩, (List.forall_mem_cons.mpr ⟨⟨mX4_readStatement, n + 8, 0, TX4, 10, rfl, by omega, kX4_69, WX4_readStatement, rfl, CX4_readStatement g (n) hE⟩, (List.forall_mem_cons.mpr ⟨⟨mX4_readSemicolon, n + 2, 0, TX4, 10, rfl, by omega, kX4_73, WX4_readSemicolon, rfl, CX4_readSemicolon g (n)⟩, (fun _ h => absurd h List.not_mem_nil)⟩)⟩)⟩)⟩) (fun _ h => absurd h List.not_mem_nil) [65] 20 _ _ _ _ ?_
    simp (maxSteps := 1000000) [↓Bool.cond_eq_ite, -Prod.forall, -Prod.exists, -Prod.mk.injEq, jvk, tX4_read, jtb, jol, jst, jlk, jcmp, jbin, jfl, fX4, jc2, lX4, jcat, jel, lv_args, Value.category, jins, jsrt, jins2, jble, jblt, jf3, List.filter_cons, List.filter_nil, G_loader, G_lflat, G_lroster, oX2_empty, oX10_open, oX4_readStatement, oX4_readSemicolon, joR, joRI, -Int32.not_le, -Int32.not_lt, -Int64.not_le, -Int64.not_lt, i3lt, i6lt]
    try simp (disch := omega) [-Prod.forall, -Prod.exists, -Prod.mk.injEq, -Int32.not_le, -Int32.not_lt, -Int64.not_le, -Int64.not_lt, i3lt, i6lt]
    exact k1) (fun k hk ih τ f h30 => by
    have hlt : ¬ (3 : Int32) ≤ nI k := nI_ge (b := 3) hk (by decide)
    have jk : jin (nI k) 3 := jin_nI hk (by decide)
    have eck : (nI k).toNatClampNeg = k := nI_clamp (by omega)
    have k1 := ih (jup τ 30 k 0) (f.up _ (by simp [jble]; omega)) (fun i hi => by
      rw [jup_1]
      by_cases e : i = k
      · rw [if_pos ⟨rfl, e⟩]
      · rw [if_neg (fun z => e z.2)]; exact h30 i (by omega))
    refine jvk_ok TX4_read (V := [(56, 1, 2, oX2_empty), (62, 2, 10, oX10_open), (69, 1, 4, oX4_readStatement), (73, 1, 4, oX4_readSemicolon)]) (S := []) (List.forall_mem_cons.mpr ⟨⟨mX2_empty, n + 1, 0, TX2, 16, rfl, by omega, kX4_56, WX2_empty, rfl, CX2_empty g (n)⟩, (List.forall_mem_cons.mpr ⟨⟨mX10_open, n + 2, 1, TX10, 6, rfl, by omega, kX4_62, WX10_open, rfl, CX10_open g (n)⟩, (List.forall_mem_cons.mpr ⟨⟨mX4_readStatement, n + 8, 0, TX4, 10, rfl, by omega, kX4_69, WX4_readStatement, rfl, CX4_readStatement g (n) hE⟩, (List.forall_mem_cons.mpr ⟨⟨mX4_readSemicolon, n + 2, 0, TX4, 10, rfl, by omega, kX4_73, WX4_readSemicolon, rfl, CX4_readSemicolon g (n)⟩, (fun _ h => absurd h List.not_mem_nil)⟩)⟩)⟩)⟩) (fun _ h => absurd h List.not_mem_nil) [27] 40 _ _ _ _ ?_
    simp (maxSteps := 1000000) [↓Bool.cond_eq_ite, -Prod.forall, -Prod.exists, -Prod.mk.injEq, jvk, tX4_read, jtb, jol, jst, jlk, jcmp, jbin, jfl, fX4, jc2, lX4, jcat, jel, lv_args, Value.category, jins, jsrt, jins2, jble, jblt, jf3, List.filter_cons, List.filter_nil, G_loader, G_lflat, G_lroster, oX2_empty, oX10_open, oX4_readStatement, oX4_readSemicolon, joR, joRI, -Int32.not_le, -Int32.not_lt, -Int64.not_le, -Int64.not_lt, i3lt, i6lt, hlt, jk, eck, nI_1]
    try simp (disch := omega) [-Prod.forall, -Prod.exists, -Prod.mk.injEq, -Int32.not_le, -Int32.not_lt, -Int64.not_le, -Int64.not_lt, i3lt, i6lt, hlt, jk, eck, nI_1]
    exact k1)
  have k0 := key ρ0 jfr.rfl (fun i hi => by omega)
  rw [nI_0, e0] at k0
  refine jvk_ok TX4_read (V := [(56, 1, 2, oX2_empty), (62, 2, 10, oX10_open), (69, 1, 4, oX4_readStatement), (73, 1, 4, oX4_readSemicolon)]) (S := []) (List.forall_mem_cons.mpr ⟨⟨mX2_empty, n + 1, 0, TX2, 16, rfl, by omega, kX4_56, WX2_empty, rfl, CX2_empty g (n)⟩, (List.forall_mem_cons.mpr ⟨⟨mX10_open, n + 2, 1, TX10, 6, rfl, by omega, kX4_62, WX10_open, rfl, CX10_open g (n)⟩, (List.forall_mem_cons.mpr ⟨⟨mX4_readStatement, n + 8, 0, TX4, 10, rfl, by omega, kX4_69, WX4_readStatement, rfl, CX4_readStatement g (n) hE⟩, (List.forall_mem_cons.mpr ⟨⟨mX4_readSemicolon, n + 2, 0, TX4, 10, rfl, by omega, kX4_73, WX4_readSemicolon, rfl, CX4_readSemicolon g (n)⟩, (fun _ h => absurd h List.not_mem_nil)⟩)⟩)⟩)⟩) (fun _ h => absurd h List.not_mem_nil) [27] 40 _ _ _ _ ?_
  simp (maxSteps := 1000000) [↓Bool.cond_eq_ite, -Prod.forall, -Prod.exists, -Prod.mk.injEq, jvk, tX4_read, jtb, jol, jst, jlk, jcmp, jbin, jfl, fX4, jc2, lX4, jcat, jel, lv_args, Value.category, jins, jsrt, jins2, jble, jblt, jf3, List.filter_cons, List.filter_nil, G_loader, G_lflat, G_lroster, oX2_empty, oX10_open, oX4_readStatement, oX4_readSemicolon, joR, joRI, -Int32.not_le, -Int32.not_lt, -Int64.not_le, -Int64.not_lt, i3lt, i6lt]
  try simp (disch := omega) [-Prod.forall, -Prod.exists, -Prod.mk.injEq, -Int32.not_le, -Int32.not_lt, -Int64.not_le, -Int64.not_lt, i3lt, i6lt]
  exact k0
