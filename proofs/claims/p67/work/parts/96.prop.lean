/-! Proposal: make -/
def aMk (a j : Nat) : Bool := (259).ble a && a.ble 279
def bMk (a : Nat) : Bool := a == 281
theorem aMk_o {a j : Nat} (h : aMk a j = false) : a < 259 ∨ 279 < a := by
  unfold aMk at h
  simp only [jble, Bool.and_eq_false_iff, decide_eq_false_iff_not] at h
  omega
theorem aMk_i {a j : Nat} (h1 : 259 ≤ a) (h2 : a ≤ 279) : aMk a j = true := by
  unfold aMk
  simp only [jble, Bool.and_eq_true, decide_eq_true_eq]
  exact ⟨h1, h2⟩
def flL (σ : jM) : Nat := (σ.1 37 2).toNatClampNeg
def flS (σ : jM) : Nat := (σ.1 38 1).toNatClampNeg
/-- the proposal that was made for the flat -/
def prMd (σ τ : jM) (a : Nat × Nat × (Nat → Nat)) : Prop := prH τ ∧ prA τ = a.2.2 ∧ τ.1 259 5 = σ.1 37 2 ∧ ∀ i, i < flM σ → τ.1 275 i = flI σ i ∧ τ.1 274 i = iI (bsI (flW σ) a.2.2 (flM σ) (σ.1 38 0) i) ∧ τ.1 277 i = iI (prC (flL σ - iPt (flL σ) (flS σ) : Nat) (flM σ) (ivI τ 274) i) ∧ τ.1 278 i = spS (iPt (flL σ) (flS σ)) (wtN τ 275) (flM σ) i ∧ τ.1 279 i = tuS (flL σ - iPt (flL σ) (flS σ) : Nat) (prC (flL σ - iPt (flL σ) (flS σ) : Nat) (flM σ) (ivI τ 274)) (flM σ) i + spS (iPt (flL σ) (flS σ)) (wtN τ 275) (flM σ) i ∧ τ.1 272 i = iI (gLo (flW σ) a.2.2 (flM σ) i) ∧ τ.1 273 i = iI (- gHi (flW σ) a.2.2 (flM σ) i)
def prMk (σ τ : jM) : Prop := jfr aMk bMk σ τ ∧ cOK τ 260 ∧ cM τ 260 = flM σ ∧ cR τ 260 = fRm σ ∧ cWr τ 260 = flW σ ∧ (∀ p, p < fN σ → liv σ p = true → τ.1 261 (cn (liv σ) p) = nI p) ∧ exV τ = (flC σ).isSome ∧ ∀ a, flC σ = some a → τ.1 270 0 = nI a.1 ∧ τ.1 271 0 = nI a.2.1 ∧ prMd σ τ a
def oX6_make : jO := joRR fun a f σ => (a = 259 ∧ f = 37 ∧ flOK σ, fun v τ => v = none ∧ prMk σ τ)
theorem basV_I {σ : jM} {x : Int32} {k : Nat} {W : Nat → Nat → Option Nat} {A : Nat → Nat} {m : Nat} (h1 : σ.1 272 k = iI (gLo W A m k)) (h2 : σ.1 273 k = iI (- gHi W A m k)) (b1 : 0 ≤ gLo W A m k ∧ gLo W A m k ≤ 5999400) (b2 : 0 ≤ gHi W A m k ∧ gHi W A m k ≤ 5999400) : basV σ x k = iI (bsI W A m x k) ∧ -10000000 ≤ bsI W A m x k ∧ bsI W A m x k ≤ 10000000 := by
  unfold basV bsI
  rw [h1, h2]
  generalize gLo W A m k = lo at *
  generalize gHi W A m k = hi at *
  by_cases c0 : x = 0
  · rw [if_pos c0, if_pos c0]
    exact ⟨rfl, by omega, by omega⟩
  · rw [if_neg c0, if_neg c0]
    by_cases c1 : x = 1
    · rw [if_pos c1, if_pos c1]
      exact ⟨rfl, by omega, by omega⟩
    · rw [if_neg c1, if_neg c1]
      have hn : ((lo - hi).tdiv 2).natAbs ≤ (lo - hi).natAbs := Int.natAbs_tdiv_le_natAbs _ _
      refine ⟨?_, by omega, by omega⟩
      have e2 : (2 : Int32) = iI 2 := by decide
      rw [iI_add, show lo + - hi = lo - hi by omega, e2]
      exact iI_tdiv ⟨by omega, by omega⟩ ⟨by omega, by omega⟩
set_option maxRecDepth 100000 in
set_option maxHeartbeats 4000000 in
theorem CMk_end (g : jG) (n : Nat) {post : Option Value → jM → Prop} {σ τ2 ρ : jM} {a : Nat × Nat × (Nat → Nat)} (hfl0 : flOK σ) (hm0 : 0 < flM σ) (ok2 : cOK τ2 260) (eM2 : cM τ2 260 = flM σ) (eR2 : cR τ2 260 = fRm σ) (eW2 : cWr τ2 260 = flW σ) (hH : prH τ2) (hA2 : prA τ2 = a.2.2) (hflC : flC σ = some a) (e270 : τ2.1 270 0 = qs (cD τ2 260 0) ∧ τ2.1 271 0 = qc (cD τ2 260 0)) (ha : cD τ2 260 0 = some a) (hper : ∀ p, p < fN σ → liv σ p = true → τ2.1 261 (cn (liv σ) p) = nI p) (hexV : ∀ ρ : jM, (∀ c, 260 ≤ c → c ≤ 271 → ρ.1 c = τ2.1 c) → exV ρ = (flC σ).isSome) (hp : ∀ (v : Option Value) (τ : jM), v = none ∧ prMk σ τ → post v τ)
    (f : jfr aMk bMk σ ρ) (hsame : ∀ c, 260 ≤ c → c ≤ 271 → ρ.1 c = τ2.1 c) (hls : ρ.1 259 5 = σ.1 37 2) (hI : ∀ i, i < flM σ → ρ.1 275 i = flI σ i) (e4 : ρ.1 260 0 = nI (flM σ)) : jW g mX6_make (n + 4) post 33 [(0, .ref 259), (1, .ref 37), (2, .int (nI (flM σ)))] [] ρ := by
  obtain ⟨hok, hm6, hv, hinc, hlease, hshare⟩ := hfl0
  have hle : nI (flM σ) ≤ nI (flM σ) := nI_le (Nat.le_refl _) (by omega)
  obtain ⟨h3, s1, s2, s3, s4, s5, s6, s7⟩ := prH_same hH hsame
  refine jvk_ok TX6_make (V := [(45, 2, 1, oX1_take), (49, 1, 1, oX1_solve), (52, 1, 6, oX6_exists), (65, 2, 2, oX2_isPerson), (70, 1, 6, oX6_findLows), (73, 1, 6, oX6_findHighs), (79, 2, 6, oX6_setBases), (83, 6, 0, oX0_make)]) (S := []) (List.forall_mem_cons.mpr ⟨⟨mX1_take, n + 2, 1, TX1, 7, rfl, by omega, kX6_45, WX1_take, rfl, CX1_take g (n)⟩, (List.forall_mem_cons.mpr ⟨⟨mX1_solve, n + 2, 0, TX1, 7, rfl, by omega, kX6_49, WX1_solve, rfl, CX1_solve g (n)⟩, (List.forall_mem_cons.mpr ⟨⟨mX6_exists, n + 1, 0, TX6, 8, rfl, by omega, kX6_52, WX6_exists, rfl, CX6_exists g (n)⟩, (List.forall_mem_cons.mpr ⟨⟨mX2_isPerson, n + 0, 1, TX2, 16, rfl, by omega, kX6_65, WX2_isPerson, rfl, CX2_isPerson g (n)⟩, (List.forall_mem_cons.mpr ⟨⟨mX6_findLows, n + 3, 0, TX6, 8, rfl, by omega, kX6_70, WX6_findLows, rfl, CX6_findLows g (n)⟩, (List.forall_mem_cons.mpr ⟨⟨mX6_findHighs, n + 3, 0, TX6, 8, rfl, by omega, kX6_73, WX6_findHighs, rfl, CX6_findHighs g (n)⟩, (List.forall_mem_cons.mpr ⟨⟨mX6_setBases, n + 0, 1, TX6, 8, rfl, by omega, kX6_79, WX6_setBases, rfl, CX6_setBases g (n)⟩, (List.forall_mem_cons.mpr ⟨⟨mX0_make, n + 2, 5, TX0, 4, rfl, by omega, kX6_83, WX0_make, rfl, CX0_make g (n)⟩, (fun _ h => absurd h List.not_mem_nil)⟩)⟩)⟩)⟩)⟩)⟩)⟩)⟩) (fun _ h => absurd h List.not_mem_nil) [33, 88] 20 _ _ _ _ ?_
  simp (maxSteps := 1000000) [↓Bool.cond_eq_ite, -Prod.forall, -Prod.exists, -Prod.mk.injEq, jvk, tX6_make, jtb, jol, jst, jlk, jcmp, jbin, jfl, fX6, jc2, lX6, jcat, jel, lv_args, Value.category, jins, jsrt, jins2, jble, jblt, jf3, List.filter_cons, List.filter_nil, G_prop, G_choice, G_flat, oX1_take, oX1_solve, oX6_exists, oX2_isPerson, oX6_findLows, oX6_findHighs, oX6_setBases, oX0_make, joR, joRI, joRIRRII, joRR, -Int32.not_le, -Int32.not_lt, -Int64.not_le, -Int64.not_lt, i3lt, i6lt, e4, hle, h3]
  try simp (disch := omega) [-Prod.forall, -Prod.exists, -Prod.mk.injEq, -Int32.not_le, -Int32.not_lt, -Int64.not_le, -Int64.not_lt, i3lt, i6lt, e4, hle, h3]
  intro v4 τ4 hv4 fr4 h4
  subst hv4
  obtain ⟨h4H, t1, t2, t3, t4, t5, t6, t7⟩ := prH_same h3 (aRow_same (by omega) fr4)
  refine jvk_ok TX6_make (V := [(45, 2, 1, oX1_take), (49, 1, 1, oX1_solve), (52, 1, 6, oX6_exists), (65, 2, 2, oX2_isPerson), (70, 1, 6, oX6_findLows), (73, 1, 6, oX6_findHighs), (79, 2, 6, oX6_setBases), (83, 6, 0, oX0_make)]) (S := []) (List.forall_mem_cons.mpr ⟨⟨mX1_take, n + 2, 1, TX1, 7, rfl, by omega, kX6_45, WX1_take, rfl, CX1_take g (n)⟩, (List.forall_mem_cons.mpr ⟨⟨mX1_solve, n + 2, 0, TX1, 7, rfl, by omega, kX6_49, WX1_solve, rfl, CX1_solve g (n)⟩, (List.forall_mem_cons.mpr ⟨⟨mX6_exists, n + 1, 0, TX6, 8, rfl, by omega, kX6_52, WX6_exists, rfl, CX6_exists g (n)⟩, (List.forall_mem_cons.mpr ⟨⟨mX2_isPerson, n + 0, 1, TX2, 16, rfl, by omega, kX6_65, WX2_isPerson, rfl, CX2_isPerson g (n)⟩, (List.forall_mem_cons.mpr ⟨⟨mX6_findLows, n + 3, 0, TX6, 8, rfl, by omega, kX6_70, WX6_findLows, rfl, CX6_findLows g (n)⟩, (List.forall_mem_cons.mpr ⟨⟨mX6_findHighs, n + 3, 0, TX6, 8, rfl, by omega, kX6_73, WX6_findHighs, rfl, CX6_findHighs g (n)⟩, (List.forall_mem_cons.mpr ⟨⟨mX6_setBases, n + 0, 1, TX6, 8, rfl, by omega, kX6_79, WX6_setBases, rfl, CX6_setBases g (n)⟩, (List.forall_mem_cons.mpr ⟨⟨mX0_make, n + 2, 5, TX0, 4, rfl, by omega, kX6_83, WX0_make, rfl, CX0_make g (n)⟩, (fun _ h => absurd h List.not_mem_nil)⟩)⟩)⟩)⟩)⟩)⟩)⟩)⟩) (fun _ h => absurd h List.not_mem_nil) [92] 20 _ _ _ _ ?_
  simp (maxSteps := 1000000) [↓Bool.cond_eq_ite, -Prod.forall, -Prod.exists, -Prod.mk.injEq, jvk, tX6_make, jtb, jol, jst, jlk, jcmp, jbin, jfl, fX6, jc2, lX6, jcat, jel, lv_args, Value.category, jins, jsrt, jins2, jble, jblt, jf3, List.filter_cons, List.filter_nil, G_prop, G_choice, G_flat, oX1_take, oX1_solve, oX6_exists, oX2_isPerson, oX6_findLows, oX6_findHighs, oX6_setBases, oX0_make, joR, joRI, joRIRRII, joRR, -Int32.not_le, -Int32.not_lt, -Int64.not_le, -Int64.not_lt, i3lt, i6lt, h4H]
  try simp (disch := omega) [-Prod.forall, -Prod.exists, -Prod.mk.injEq, -Int32.not_le, -Int32.not_lt, -Int64.not_le, -Int64.not_lt, i3lt, i6lt, h4H]
  intro v5 τ5 hv5 fr5 h5
  subst hv5
  obtain ⟨h5H, u1, u2, u3, u4, u5, u6, u7⟩ := prH_same h4H (aRow_same (by omega) fr5)
  have ok5 := h5H.1
  have x38 : ∀ b j, b ≤ 258 → τ5.1 b j = σ.1 b j := fun b j hb => by
    rw [fr5.2.2 b j (by unfold aRow; simp; omega), fr4.2.2 b j (by unfold aRow; simp; omega)]
    exact f.2.2 b j (by
      unfold aMk
      simp only [jble, Bool.and_eq_false_iff, decide_eq_false_iff_not]
      omega)
  have m38 : τ5.1 38 0 = σ.1 38 0 := x38 38 0 (by omega)
  have j03 : jin 0 3 := jin_nI (k := 0) (by decide) (by decide)
  have j13 : jin 1 3 := jin_nI (k := 1) (by decide) (by decide)
  have t00 : (0 : Int32).toNatClampNeg = 0 := by decide
  have t11 : (1 : Int32).toNatClampNeg = 1 := by decide
  refine jvk_ok TX6_make (V := [(45, 2, 1, oX1_take), (49, 1, 1, oX1_solve), (52, 1, 6, oX6_exists), (65, 2, 2, oX2_isPerson), (70, 1, 6, oX6_findLows), (73, 1, 6, oX6_findHighs), (79, 2, 6, oX6_setBases), (83, 6, 0, oX0_make)]) (S := []) (List.forall_mem_cons.mpr ⟨⟨mX1_take, n + 2, 1, TX1, 7, rfl, by omega, kX6_45, WX1_take, rfl, CX1_take g (n)⟩, (List.forall_mem_cons.mpr ⟨⟨mX1_solve, n + 2, 0, TX1, 7, rfl, by omega, kX6_49, WX1_solve, rfl, CX1_solve g (n)⟩, (List.forall_mem_cons.mpr ⟨⟨mX6_exists, n + 1, 0, TX6, 8, rfl, by omega, kX6_52, WX6_exists, rfl, CX6_exists g (n)⟩, (List.forall_mem_cons.mpr ⟨⟨mX2_isPerson, n + 0, 1, TX2, 16, rfl, by omega, kX6_65, WX2_isPerson, rfl, CX2_isPerson g (n)⟩, (List.forall_mem_cons.mpr ⟨⟨mX6_findLows, n + 3, 0, TX6, 8, rfl, by omega, kX6_70, WX6_findLows, rfl, CX6_findLows g (n)⟩, (List.forall_mem_cons.mpr ⟨⟨mX6_findHighs, n + 3, 0, TX6, 8, rfl, by omega, kX6_73, WX6_findHighs, rfl, CX6_findHighs g (n)⟩, (List.forall_mem_cons.mpr ⟨⟨mX6_setBases, n + 0, 1, TX6, 8, rfl, by omega, kX6_79, WX6_setBases, rfl, CX6_setBases g (n)⟩, (List.forall_mem_cons.mpr ⟨⟨mX0_make, n + 2, 5, TX0, 4, rfl, by omega, kX6_83, WX0_make, rfl, CX0_make g (n)⟩, (fun _ h => absurd h List.not_mem_nil)⟩)⟩)⟩)⟩)⟩)⟩)⟩)⟩) (fun _ h => absurd h List.not_mem_nil) [102] 20 _ _ _ _ ?_
  simp (maxSteps := 1000000) [↓Bool.cond_eq_ite, -Prod.forall, -Prod.exists, -Prod.mk.injEq, jvk, tX6_make, jtb, jol, jst, jlk, jcmp, jbin, jfl, fX6, jc2, lX6, jcat, jel, lv_args, Value.category, jins, jsrt, jins2, jble, jblt, jf3, List.filter_cons, List.filter_nil, G_prop, G_choice, G_flat, oX1_take, oX1_solve, oX6_exists, oX2_isPerson, oX6_findLows, oX6_findHighs, oX6_setBases, oX0_make, joR, joRI, joRIRRII, joRR, -Int32.not_le, -Int32.not_lt, -Int64.not_le, -Int64.not_lt, i3lt, i6lt, ok5, m38, j03, t00]
  try simp (disch := omega) [-Prod.forall, -Prod.exists, -Prod.mk.injEq, -Int32.not_le, -Int32.not_lt, -Int64.not_le, -Int64.not_lt, i3lt, i6lt, ok5, m38, j03, t00]
  intro v6 τ6 hv6 fr6 h6
  subst hv6
  obtain ⟨h6H, w1, w2, w3, w4, w5, w6, w7⟩ := prH_same h5H (aRow_same (by omega) fr6)
  have M6 : cM τ6 260 = flM σ := by rw [w1, u1, t1, s1]; exact eM2
  have A6 : prA τ6 = a.2.2 := by rw [w3, u3, t3, s3]; exact hA2
  have W6 : cWr τ6 260 = flW σ := by rw [w2, u2, t2, s2]; exact eW2
  -- the bases
  have elo : prLo τ2 = gLo (flW σ) a.2.2 (flM σ) := by unfold prLo; rw [eW2, hA2, eM2]
  have ehi : prHi τ2 = gHi (flW σ) a.2.2 (flM σ) := by unfold prHi; rw [eW2, hA2, eM2]
  have v272 : ∀ k, k < flM σ → τ5.1 272 k = iI (gLo (flW σ) a.2.2 (flM σ) k) := fun k hk => by
    rw [fr5.2.2 272 k rfl, h4 k (by rw [s1, eM2]; exact hk), s4, elo]
  have v273 : ∀ k, k < flM σ → τ5.1 273 k = iI (- gHi (flW σ) a.2.2 (flM σ) k) := fun k hk => by
    rw [h5 k (by rw [t1, s1, eM2]; exact hk), t5, s5, ehi]
  have hb : ∀ k, k < flM σ → τ6.1 274 k = iI (bsI (flW σ) a.2.2 (flM σ) (σ.1 38 0) k) ∧ -10000000 ≤ bsI (flW σ) a.2.2 (flM σ) (σ.1 38 0) k ∧ bsI (flW σ) a.2.2 (flM σ) (σ.1 38 0) k ≤ 10000000 := fun k hk => by
    have bd := pr_bd hH (k := k) (by rw [eM2]; exact hk)
    have v274 := h6 k (by rw [u1, t1, s1, eM2]; exact hk)
    rw [v274]
    exact basV_I (v272 k hk) (v273 k hk) (by rw [← elo]; exact ⟨bd.2.2.1, bd.1⟩) (by rw [← ehi]; exact ⟨bd.2.2.2, bd.2.1⟩)
  have iv : ∀ k, k < flM σ → ivI τ6 274 k = bsI (flW σ) a.2.2 (flM σ) (σ.1 38 0) k := fun k hk => by
    have := hb k hk
    unfold ivI
    rw [this.1, iI_toInt ⟨by omega, by omega⟩]
  have r275 : ∀ k, k < flM σ → τ6.1 275 k = flI σ k := fun k hk => by
    rw [fr6.2.2 275 k rfl, fr5.2.2 275 k rfl, fr4.2.2 275 k rfl]
    exact hI k hk
  have inc0 : ∀ k, k < flM σ → 0 ≤ τ6.1 275 k := fun k hk => by
    rw [r275 k hk]
    exact hinc _ (qpl_is (p := liv σ) (N := fN σ) hk).2.1
  have l259 : τ6.1 259 5 = σ.1 37 2 := by
    rw [fr6.2.2 259 5 rfl, fr5.2.2 259 5 rfl, fr4.2.2 259 5 rfl]
    exact hls
  obtain ⟨L, L1, L2, L3⟩ := nI_rng hlease.1 hlease.2 (by decide)
  obtain ⟨S, S1, S2, S3⟩ := nI_rng hshare.1 hshare.2 (by decide)
  have eL : flL σ = L := L3
  have eS : flS σ = S := S3
  have m381 : τ6.1 38 1 = nI S := by
    rw [fr6.2.2 38 1 rfl, x38 38 1 (by omega)]
    exact S2
  have l259' : τ6.1 259 5 = nI L := l259.trans L2
  have e46 : τ6.1 260 0 = nI (flM σ) := by
    rw [← M6]
    exact (cOK_n h6H.1).2.1
  have hBl := blF_of (b := 276) (Or.inl rfl)
  have a274 : arF 274 := ⟨by decide +kernel, by decide +kernel⟩
  have a275 : arF 275 := ⟨by decide +kernel, by decide +kernel⟩
  have pre : preM τ6 274 275 (nI (flM σ)) (nI L) (nI S) := ⟨flM σ, L, S, rfl, hm0, hm6, rfl, L1, rfl, S1, fun i hi => by
    rw [iv i hi]
    exact ⟨(hb i hi).2.1, (hb i hi).2.2, bsI_dvd _ _ _ _ _⟩, inc0⟩
  refine jvk_ok TX6_make (V := [(45, 2, 1, oX1_take), (49, 1, 1, oX1_solve), (52, 1, 6, oX6_exists), (65, 2, 2, oX2_isPerson), (70, 1, 6, oX6_findLows), (73, 1, 6, oX6_findHighs), (79, 2, 6, oX6_setBases), (83, 6, 0, oX0_make)]) (S := []) (List.forall_mem_cons.mpr ⟨⟨mX1_take, n + 2, 1, TX1, 7, rfl, by omega, kX6_45, WX1_take, rfl, CX1_take g (n)⟩, (List.forall_mem_cons.mpr ⟨⟨mX1_solve, n + 2, 0, TX1, 7, rfl, by omega, kX6_49, WX1_solve, rfl, CX1_solve g (n)⟩, (List.forall_mem_cons.mpr ⟨⟨mX6_exists, n + 1, 0, TX6, 8, rfl, by omega, kX6_52, WX6_exists, rfl, CX6_exists g (n)⟩, (List.forall_mem_cons.mpr ⟨⟨mX2_isPerson, n + 0, 1, TX2, 16, rfl, by omega, kX6_65, WX2_isPerson, rfl, CX2_isPerson g (n)⟩, (List.forall_mem_cons.mpr ⟨⟨mX6_findLows, n + 3, 0, TX6, 8, rfl, by omega, kX6_70, WX6_findLows, rfl, CX6_findLows g (n)⟩, (List.forall_mem_cons.mpr ⟨⟨mX6_findHighs, n + 3, 0, TX6, 8, rfl, by omega, kX6_73, WX6_findHighs, rfl, CX6_findHighs g (n)⟩, (List.forall_mem_cons.mpr ⟨⟨mX6_setBases, n + 0, 1, TX6, 8, rfl, by omega, kX6_79, WX6_setBases, rfl, CX6_setBases g (n)⟩, (List.forall_mem_cons.mpr ⟨⟨mX0_make, n + 2, 5, TX0, 4, rfl, by omega, kX6_83, WX0_make, rfl, CX0_make g (n)⟩, (fun _ h => absurd h List.not_mem_nil)⟩)⟩)⟩)⟩)⟩)⟩)⟩)⟩) (fun _ h => absurd h List.not_mem_nil) [134] 40 _ _ _ _ ?_
  simp (maxSteps := 1000000) [↓Bool.cond_eq_ite, -Prod.forall, -Prod.exists, -Prod.mk.injEq, jvk, tX6_make, jtb, jol, jst, jlk, jcmp, jbin, jfl, fX6, jc2, lX6, jcat, jel, lv_args, Value.category, jins, jsrt, jins2, jble, jblt, jf3, List.filter_cons, List.filter_nil, G_prop, G_choice, G_flat, oX1_take, oX1_solve, oX6_exists, oX2_isPerson, oX6_findLows, oX6_findHighs, oX6_setBases, oX0_make, joR, joRI, joRIRRII, joRR, -Int32.not_le, -Int32.not_lt, -Int64.not_le, -Int64.not_lt, i3lt, i6lt, e46, l259', m381, hBl, a274, a275, pre, j13, t11]
  try simp (disch := omega) [-Prod.forall, -Prod.exists, -Prod.mk.injEq, -Int32.not_le, -Int32.not_lt, -Int64.not_le, -Int64.not_lt, i3lt, i6lt, e46, l259', m381, hBl, a274, a275, pre, j13, t11]
  intro v7 τ7 hv7 fr7 h7
  subst hv7
  rw [nI_clamp (by omega : flM σ < 2147483648), nI_clamp (by omega : L < 2147483648), nI_clamp (by omega : S < 2147483648)] at h7
  have same7 : ∀ c, 260 ≤ c → c ≤ 271 → τ7.1 c = τ6.1 c := fun c q1 q2 => funext fun j => fr7.2.2 c j (aBl_f (by omega))
  obtain ⟨h7H, y1, y2, y3, y4, y5, y6, y7⟩ := prH_same h6H same7
  have i7 : ivI τ7 274 = ivI τ6 274 := by
    funext k
    unfold ivI
    rw [fr7.2.2 274 k (aBl_f (by omega))]
  have wt7 : wtN τ7 275 = wtN τ6 275 := by
    funext k
    unfold wtN
    rw [fr7.2.2 275 k (aBl_f (by omega))]
  have all7 : ∀ c, 260 ≤ c → c ≤ 271 → τ7.1 c = τ2.1 c := fun c q1 q2 => by
    rw [same7 c q1 q2]
    have z6 := aRow_same (r := 274) (by omega) fr6 c q1 q2
    have z5 := aRow_same (r := 273) (by omega) fr5 c q1 q2
    have z4 := aRow_same (r := 272) (by omega) fr4 c q1 q2
    rw [z6, z5, z4]
    exact hsame c q1 q2
  refine jvk_ok TX6_make (V := [(45, 2, 1, oX1_take), (49, 1, 1, oX1_solve), (52, 1, 6, oX6_exists), (65, 2, 2, oX2_isPerson), (70, 1, 6, oX6_findLows), (73, 1, 6, oX6_findHighs), (79, 2, 6, oX6_setBases), (83, 6, 0, oX0_make)]) (S := []) (List.forall_mem_cons.mpr ⟨⟨mX1_take, n + 2, 1, TX1, 7, rfl, by omega, kX6_45, WX1_take, rfl, CX1_take g (n)⟩, (List.forall_mem_cons.mpr ⟨⟨mX1_solve, n + 2, 0, TX1, 7, rfl, by omega, kX6_49, WX1_solve, rfl, CX1_solve g (n)⟩, (List.forall_mem_cons.mpr ⟨⟨mX6_exists, n + 1, 0, TX6, 8, rfl, by omega, kX6_52, WX6_exists, rfl, CX6_exists g (n)⟩, (List.forall_mem_cons.mpr ⟨⟨mX2_isPerson, n + 0, 1, TX2, 16, rfl, by omega, kX6_65, WX2_isPerson, rfl, CX2_isPerson g (n)⟩, (List.forall_mem_cons.mpr ⟨⟨mX6_findLows, n + 3, 0, TX6, 8, rfl, by omega, kX6_70, WX6_findLows, rfl, CX6_findLows g (n)⟩, (List.forall_mem_cons.mpr ⟨⟨mX6_findHighs, n + 3, 0, TX6, 8, rfl, by omega, kX6_73, WX6_findHighs, rfl, CX6_findHighs g (n)⟩, (List.forall_mem_cons.mpr ⟨⟨mX6_setBases, n + 0, 1, TX6, 8, rfl, by omega, kX6_79, WX6_setBases, rfl, CX6_setBases g (n)⟩, (List.forall_mem_cons.mpr ⟨⟨mX0_make, n + 2, 5, TX0, 4, rfl, by omega, kX6_83, WX0_make, rfl, CX0_make g (n)⟩, (fun _ h => absurd h List.not_mem_nil)⟩)⟩)⟩)⟩)⟩)⟩)⟩)⟩) (fun _ h => absurd h List.not_mem_nil) [] 10 _ _ _ _ ?_
  simp (maxSteps := 1000000) [↓Bool.cond_eq_ite, -Prod.forall, -Prod.exists, -Prod.mk.injEq, jvk, tX6_make, jtb, jol, jst, jlk, jcmp, jbin, jfl, fX6, jc2, lX6, jcat, jel, lv_args, Value.category, jins, jsrt, jins2, jble, jblt, jf3, List.filter_cons, List.filter_nil, G_prop, G_choice, G_flat, oX1_take, oX1_solve, oX6_exists, oX2_isPerson, oX6_findLows, oX6_findHighs, oX6_setBases, oX0_make, joR, joRI, joRIRRII, joRR, -Int32.not_le, -Int32.not_lt, -Int64.not_le, -Int64.not_lt, i3lt, i6lt]
  try simp (disch := omega) [-Prod.forall, -Prod.exists, -Prod.mk.injEq, -Int32.not_le, -Int32.not_lt, -Int64.not_le, -Int64.not_lt, i3lt, i6lt]
  refine hp _ _ ⟨rfl, ?_, h7H.1, by rw [y1]; exact M6, by rw [(prH_fr all7).2.1]; exact eR2, by rw [y2]; exact W6, fun p q1 q2 => by rw [all7 261 (by omega) (by omega)]; exact hper p q1 q2, hexV τ7 all7, fun a' ha' => ?_⟩
  · refine ⟨((((fr7.1.trans fr6.1).trans fr5.1).trans fr4.1).trans f.1), fun b j q => ?_, fun b j q => ?_⟩
    · rw [fr7.2.1 b j (by unfold bMk at q; unfold gvB; exact q), fr6.2.1 b j rfl, fr5.2.1 b j rfl, fr4.2.1 b j rfl]
      exact f.2.1 b j q
    · have z := aMk_o q
      rw [fr7.2.2 b j (aBl_f (by omega)), fr6.2.2 b j (by unfold aRow; simp; omega), fr5.2.2 b j (by unfold aRow; simp; omega), fr4.2.2 b j (by unfold aRow; simp; omega)]
      exact f.2.2 b j q
  · rw [hflC] at ha'
    cases ha'
    refine ⟨?_, ?_, h7H, by rw [y3]; exact A6, ?_, fun i hi => ?_⟩
    · rw [all7 270 (by omega) (by omega), e270.1, ha]; rfl
    · rw [all7 271 (by omega) (by omega), e270.2, ha]; rfl
    · rw [fr7.2.2 259 5 (aBl_f (by omega))]; exact l259
    · obtain ⟨k1, k2, k3⟩ := h7 i hi
      rw [eL, eS, i7, wt7]
      refine ⟨?_, ?_, k1, k2, k3, ?_, ?_⟩
      · rw [fr7.2.2 275 i (aBl_f (by omega))]; exact r275 i hi
      · rw [fr7.2.2 274 i (aBl_f (by omega))]; exact (hb i hi).1
      · rw [fr7.2.2 272 i (aBl_f (by omega)), fr6.2.2 272 i rfl]; exact v272 i hi
      · rw [fr7.2.2 273 i (aBl_f (by omega)), fr6.2.2 273 i rfl]; exact v273 i hi
set_option maxRecDepth 100000 in
set_option maxHeartbeats 4000000 in
theorem CX6_make (g : jG) (n : Nat) : jOk g (n + 4) mX6_make oX6_make := by
  refine joRR_ok ?_
  rintro _ _ σ ⟨rfl, rfl, hfl⟩
  have hF := chF_of (b := 260) (Or.inl rfl)
  have hfl0 := hfl
  obtain ⟨hok, hm6, hv, hinc, hlease, hshare⟩ := hfl
  obtain ⟨⟨n10, eN⟩, r6, eR⟩ := fOK_n hok
  have hcn : cn (liv σ) (fN σ) ≤ 6 := hm6
  refine jCon.ofP (by decide +kernel) (by simp [lg_sl, Value.category]) (fun post hp => ?_)
  refine jvk_ok TX6_make (V := [(45, 2, 1, oX1_take), (49, 1, 1, oX1_solve), (52, 1, 6, oX6_exists), (65, 2, 2, oX2_isPerson), (70, 1, 6, oX6_findLows), (73, 1, 6, oX6_findHighs), (79, 2, 6, oX6_setBases), (83, 6, 0, oX0_make)]) (S := []) (List.forall_mem_cons.mpr ⟨⟨mX1_take, n + 2, 1, TX1, 7, rfl, by omega, kX6_45, WX1_take, rfl, CX1_take g (n)⟩, (List.forall_mem_cons.mpr ⟨⟨mX1_solve, n + 2, 0, TX1, 7, rfl, by omega, kX6_49, WX1_solve, rfl, CX1_solve g (n)⟩, (List.forall_mem_cons.mpr ⟨⟨mX6_exists, n + 1, 0, TX6, 8, rfl, by omega, kX6_52, WX6_exists, rfl, CX6_exists g (n)⟩, (List.forall_mem_cons.mpr ⟨⟨mX2_isPerson, n + 0, 1, TX2, 16, rfl, by omega, kX6_65, WX2_isPerson, rfl, CX2_isPerson g (n)⟩, (List.forall_mem_cons.mpr ⟨⟨mX6_findLows, n + 3, 0, TX6, 8, rfl, by omega, kX6_70, WX6_findLows, rfl, CX6_findLows g (n)⟩, (List.forall_mem_cons.mpr ⟨⟨mX6_findHighs, n + 3, 0, TX6, 8, rfl, by omega, kX6_73, WX6_findHighs, rfl, CX6_findHighs g (n)⟩, (List.forall_mem_cons.mpr ⟨⟨mX6_setBases, n + 0, 1, TX6, 8, rfl, by omega, kX6_79, WX6_setBases, rfl, CX6_setBases g (n)⟩, (List.forall_mem_cons.mpr ⟨⟨mX0_make, n + 2, 5, TX0, 4, rfl, by omega, kX6_83, WX0_make, rfl, CX0_make g (n)⟩, (fun _ h => absurd h List.not_mem_nil)⟩)⟩)⟩)⟩)⟩)⟩)⟩)⟩) (fun _ h => absurd h List.not_mem_nil) [8] 20 _ _ _ _ ?_
  simp (maxSteps := 1000000) [↓Bool.cond_eq_ite, -Prod.forall, -Prod.exists, -Prod.mk.injEq, jvk, tX6_make, jtb, jol, jst, jlk, jcmp, jbin, jfl, fX6, jc2, lX6, jcat, jel, lv_args, Value.category, jins, jsrt, jins2, jble, jblt, jf3, List.filter_cons, List.filter_nil, G_prop, G_choice, G_flat, oX1_take, oX1_solve, oX6_exists, oX2_isPerson, oX6_findLows, oX6_findHighs, oX6_setBases, oX0_make, joR, joRI, joRIRRII, joRR, -Int32.not_le, -Int32.not_lt, -Int64.not_le, -Int64.not_lt, i3lt, i6lt, hok, hcn]
  try simp (disch := omega) [-Prod.forall, -Prod.exists, -Prod.mk.injEq, -Int32.not_le, -Int32.not_lt, -Int64.not_le, -Int64.not_lt, i3lt, i6lt, hok, hcn]
  intro v1 τ1 hv1 fr1 h0 h1 ht
  subst hv1
  obtain ⟨eM1, eR1, ok1, eW1, cV1⟩ := take_C hfl0 (τ := τ1) (b := 260) h0 h1 ht
  refine jvk_ok TX6_make (V := [(45, 2, 1, oX1_take), (49, 1, 1, oX1_solve), (52, 1, 6, oX6_exists), (65, 2, 2, oX2_isPerson), (70, 1, 6, oX6_findLows), (73, 1, 6, oX6_findHighs), (79, 2, 6, oX6_setBases), (83, 6, 0, oX0_make)]) (S := []) (List.forall_mem_cons.mpr ⟨⟨mX1_take, n + 2, 1, TX1, 7, rfl, by omega, kX6_45, WX1_take, rfl, CX1_take g (n)⟩, (List.forall_mem_cons.mpr ⟨⟨mX1_solve, n + 2, 0, TX1, 7, rfl, by omega, kX6_49, WX1_solve, rfl, CX1_solve g (n)⟩, (List.forall_mem_cons.mpr ⟨⟨mX6_exists, n + 1, 0, TX6, 8, rfl, by omega, kX6_52, WX6_exists, rfl, CX6_exists g (n)⟩, (List.forall_mem_cons.mpr ⟨⟨mX2_isPerson, n + 0, 1, TX2, 16, rfl, by omega, kX6_65, WX2_isPerson, rfl, CX2_isPerson g (n)⟩, (List.forall_mem_cons.mpr ⟨⟨mX6_findLows, n + 3, 0, TX6, 8, rfl, by omega, kX6_70, WX6_findLows, rfl, CX6_findLows g (n)⟩, (List.forall_mem_cons.mpr ⟨⟨mX6_findHighs, n + 3, 0, TX6, 8, rfl, by omega, kX6_73, WX6_findHighs, rfl, CX6_findHighs g (n)⟩, (List.forall_mem_cons.mpr ⟨⟨mX6_setBases, n + 0, 1, TX6, 8, rfl, by omega, kX6_79, WX6_setBases, rfl, CX6_setBases g (n)⟩, (List.forall_mem_cons.mpr ⟨⟨mX0_make, n + 2, 5, TX0, 4, rfl, by omega, kX6_83, WX0_make, rfl, CX0_make g (n)⟩, (fun _ h => absurd h List.not_mem_nil)⟩)⟩)⟩)⟩)⟩)⟩)⟩)⟩) (fun _ h => absurd h List.not_mem_nil) [15] 20 _ _ _ _ ?_
  simp (maxSteps := 1000000) [↓Bool.cond_eq_ite, -Prod.forall, -Prod.exists, -Prod.mk.injEq, jvk, tX6_make, jtb, jol, jst, jlk, jcmp, jbin, jfl, fX6, jc2, lX6, jcat, jel, lv_args, Value.category, jins, jsrt, jins2, jble, jblt, jf3, List.filter_cons, List.filter_nil, G_prop, G_choice, G_flat, oX1_take, oX1_solve, oX6_exists, oX2_isPerson, oX6_findLows, oX6_findHighs, oX6_setBases, oX0_make, joR, joRI, joRIRRII, joRR, -Int32.not_le, -Int32.not_lt, -Int64.not_le, -Int64.not_lt, i3lt, i6lt, hF, ok1]
  try simp (disch := omega) [-Prod.forall, -Prod.exists, -Prod.mk.injEq, -Int32.not_le, -Int32.not_lt, -Int64.not_le, -Int64.not_lt, i3lt, i6lt, hF, ok1]
  intro v2 τ2 hv2 fr2 hl h9
  subst hv2
  have ok2 := so_OK ok1 fr2
  have eM2 : cM τ2 260 = flM σ := (so_M fr2).1.trans eM1
  have eR2 : cR τ2 260 = fRm σ := (so_M fr2).2.trans eR1
  have eW2 : cWr τ2 260 = flW σ := (so_W ok1 fr2).trans eW1
  have eD2 : cD τ2 260 0 = qT (flW σ) (fRm σ) (flM σ) 0 0 := by rw [cD_0, eM2, eR2, eW2]
  have eD1 : cD τ1 260 0 = cD τ2 260 0 := by rw [(so_D ok1 fr2).1]
  have e270 : τ2.1 270 0 = qs (cD τ2 260 0) ∧ τ2.1 271 0 = qc (cD τ2 260 0) := hl 0 (Nat.le_refl _) (Nat.pow_pos (by decide))
  have fr12 : jfr aMk bMk σ τ2 := ⟨fr2.1.trans fr1.1, fun a j _ => (fr2.2.1 a j rfl).trans (fr1.2.1 a j rfl), fun a j q => by
    have := aMk_o q
    exact (fr2.2.2 a j (aSo_f (by omega) (by omega) (by omega))).trans (fr1.2.2 a j (aTa_f (by omega) (by omega) (by omega)))⟩
  have hper : ∀ p, p < fN σ → liv σ p = true → τ2.1 261 (cn (liv σ) p) = nI p := fun p h1 h2 => (fr2.2.2 261 _ (aSo_f (by omega) (by omega) (by omega))).trans (ht p h1 h2).1
  have hexV : ∀ ρ : jM, (∀ c, 260 ≤ c → c ≤ 271 → ρ.1 c = τ2.1 c) → exV ρ = (flC σ).isSome := fun ρ e => by
    have eMρ : cM ρ 260 = flM σ := (prH_fr e).1.trans eM2
    unfold exV flC
    rw [eMρ, e 270 (by omega) (by omega), e270.1, eD2]
    by_cases z : flM σ = 0
    · rw [if_pos z, z]; rfl
    · rw [if_neg z]
      rcases eq : qT (flW σ) (fRm σ) (flM σ) 0 0 with _ | a
      · simp [qs]
      · have hb := cD_bd ok2 (eD2.trans eq)
        have hn : ¬ nI a.1 = -1 := fun w => (nI_m1 (by omega)).mp w
        have hq : qs (some a) = nI a.1 := rfl
        rw [hq]
        simp [hn]
        omega
  refine jvk_ok TX6_make (V := [(45, 2, 1, oX1_take), (49, 1, 1, oX1_solve), (52, 1, 6, oX6_exists), (65, 2, 2, oX2_isPerson), (70, 1, 6, oX6_findLows), (73, 1, 6, oX6_findHighs), (79, 2, 6, oX6_setBases), (83, 6, 0, oX0_make)]) (S := []) (List.forall_mem_cons.mpr ⟨⟨mX1_take, n + 2, 1, TX1, 7, rfl, by omega, kX6_45, WX1_take, rfl, CX1_take g (n)⟩, (List.forall_mem_cons.mpr ⟨⟨mX1_solve, n + 2, 0, TX1, 7, rfl, by omega, kX6_49, WX1_solve, rfl, CX1_solve g (n)⟩, (List.forall_mem_cons.mpr ⟨⟨mX6_exists, n + 1, 0, TX6, 8, rfl, by omega, kX6_52, WX6_exists, rfl, CX6_exists g (n)⟩, (List.forall_mem_cons.mpr ⟨⟨mX2_isPerson, n + 0, 1, TX2, 16, rfl, by omega, kX6_65, WX2_isPerson, rfl, CX2_isPerson g (n)⟩, (List.forall_mem_cons.mpr ⟨⟨mX6_findLows, n + 3, 0, TX6, 8, rfl, by omega, kX6_70, WX6_findLows, rfl, CX6_findLows g (n)⟩, (List.forall_mem_cons.mpr ⟨⟨mX6_findHighs, n + 3, 0, TX6, 8, rfl, by omega, kX6_73, WX6_findHighs, rfl, CX6_findHighs g (n)⟩, (List.forall_mem_cons.mpr ⟨⟨mX6_setBases, n + 0, 1, TX6, 8, rfl, by omega, kX6_79, WX6_setBases, rfl, CX6_setBases g (n)⟩, (List.forall_mem_cons.mpr ⟨⟨mX0_make, n + 2, 5, TX0, 4, rfl, by omega, kX6_83, WX0_make, rfl, CX0_make g (n)⟩, (fun _ h => absurd h List.not_mem_nil)⟩)⟩)⟩)⟩)⟩)⟩)⟩)⟩) (fun _ h => absurd h List.not_mem_nil) [19] 20 _ _ _ _ ?_
  simp (maxSteps := 1000000) [↓Bool.cond_eq_ite, -Prod.forall, -Prod.exists, -Prod.mk.injEq, jvk, tX6_make, jtb, jol, jst, jlk, jcmp, jbin, jfl, fX6, jc2, lX6, jcat, jel, lv_args, Value.category, jins, jsrt, jins2, jble, jblt, jf3, List.filter_cons, List.filter_nil, G_prop, G_choice, G_flat, oX1_take, oX1_solve, oX6_exists, oX2_isPerson, oX6_findLows, oX6_findHighs, oX6_setBases, oX0_make, joR, joRI, joRIRRII, joRR, -Int32.not_le, -Int32.not_lt, -Int64.not_le, -Int64.not_lt, i3lt, i6lt, ok2]
  try simp (disch := omega) [-Prod.forall, -Prod.exists, -Prod.mk.injEq, -Int32.not_le, -Int32.not_lt, -Int64.not_le, -Int64.not_lt, i3lt, i6lt, ok2]
  by_cases c : 0 < cM τ2 260 ∧ ¬ τ2.1 270 0 = -1
  · -- the choice is there
    have hi : (if 0 < cM τ2 260 ∧ ¬ τ2.1 270 0 = -1 then (1 : Int32) else 0) = 1 := if_pos c
    rw [hi]
    obtain ⟨a, ha⟩ : ∃ a, cD τ2 260 0 = some a := by
      rcases e : cD τ2 260 0 with _ | a
      · rw [e] at e270
        exact absurd e270.1 c.2
      · exact ⟨a, rfl⟩
    have hm0 : 0 < flM σ := by rw [← eM2]; exact c.1
    have hflC : flC σ = some a := by
      unfold flC
      rw [if_neg (by omega), ← eD2]
      exact ha
    have cV2 : cV τ2 260 := by
      unfold cV at cV1 ⊢
      rw [eW2, ← eW1]
      exact cV1
    have hH : prH τ2 := ⟨ok2, cV2, c.1, a, ha, by rw [e270.1, ha]; rfl, fun j hj => by
      have hj6 : j < 6 := by rw [eM2] at hj; omega
      have := h9 j hj6
      unfold cRm at this
      rw [eD1, ha, eM1, ← eM2] at this
      dsimp only at this
      rw [if_pos hj] at this
      exact this⟩
    have hA2 : prA τ2 = a.2.2 := by unfold prA; rw [ha]
    have eq31 : ∀ b j, b ≤ 258 → τ2.1 b j = σ.1 b j := fun b j hb => fr12.2.2 b j (by
      unfold aMk
      simp only [jble, Bool.and_eq_false_iff, decide_eq_false_iff_not]
      omega)
    -- incomes
    have loop := jloop (P := fun k => ∀ ρ : jM, jfr aMk bMk σ ρ → (∀ c, 260 ≤ c → c ≤ 271 → ρ.1 c = τ2.1 c) → ρ.1 259 5 = σ.1 37 2 → (∀ i, i < k → ρ.1 275 i = flI σ i) → jW g mX6_make (n + 4) post 33 [(0, .ref 259), (1, .ref 37), (2, .int (nI k))] [] ρ) (N := flM σ) (fun ρ f hsame hls hI => by
      have e4 : ρ.1 260 0 = nI (flM σ) := by
        rw [hsame 260 (by omega) (by omega), ← eM2]
        exact (cOK_n ok2).2.1
      have hle : nI (flM σ) ≤ nI (flM σ) := nI_le (Nat.le_refl _) (by omega)
      obtain ⟨h3, s1, s2, s3, s4, s5, s6, s7⟩ := prH_same hH hsame
      exact CMk_end g n hfl0 hm0 ok2 eM2 eR2 eW2 hH hA2 hflC e270 ha hper hexV hp f hsame hls hI e4) (fun k hk ih ρ f hsame hls hI => by
      have e4 : ρ.1 260 0 = nI (flM σ) := by
        rw [hsame 260 (by omega) (by omega), ← eM2]
        exact (cOK_n ok2).2.1
      have hlt : ¬ nI (flM σ) ≤ nI k := nI_ge hk (by omega)
      have jk : jin (nI k) 6 := jin_nI (by omega) (by decide)
      have eck : (nI k).toNatClampNeg = k := nI_clamp (by omega)
      obtain ⟨q1, q2, q3⟩ := qpl_is (p := liv σ) (N := fN σ) hk
      obtain ⟨p, ep⟩ : ∃ p, p = qpl (liv σ) (fN σ) k := ⟨_, rfl⟩
      rw [← ep] at q1 q2 q3
      have e261 : ρ.1 261 k = nI p := by
        rw [hsame 261 (by omega) (by omega)]
        have := hper p q2 q1
        rw [q3] at this
        exact this
      have old : ∀ b j, b ≤ 258 → ρ.1 b j = σ.1 b j := fun b j hb => f.2.2 b j (by
        unfold aMk
        simp only [jble, Bool.and_eq_false_iff, decide_eq_false_iff_not]
        omega)
      have hfP : fP ρ (nI p) = true := by
        have := fP_nI hok q2
        unfold fP at this ⊢
        rw [old 37 1 (by omega)]
        exact this
      have jp : jin (nI p) 10 := jin_nI (by omega) (by decide)
      have ecp : (nI p).toNatClampNeg = p := nI_clamp (by omega)
      have e40 : ρ.1 40 p = flI σ k := by
        rw [old 40 p (by omega), ep]
        rfl
      have k1 := ih (jup ρ 275 k (flI σ k)) (f.up _ (aMk_i (by omega) (by omega))) (fun c q1 q2 => by
        rw [← hsame c q1 q2]
        exact funext fun j => by rw [jup_1, if_neg (by omega)]) (by rw [jup_1, if_neg (by omega)]; exact hls) (fun i hi => by
        rw [jup_1]
        by_cases z : i = k
        · rw [if_pos ⟨rfl, z⟩, z]
        · rw [if_neg (fun w => z w.2)]; exact hI i (by omega))
      refine jvk_ok TX6_make (V := [(45, 2, 1, oX1_take), (49, 1, 1, oX1_solve), (52, 1, 6, oX6_exists), (65, 2, 2, oX2_isPerson), (70, 1, 6, oX6_findLows), (73, 1, 6, oX6_findHighs), (79, 2, 6, oX6_setBases), (83, 6, 0, oX0_make)]) (S := []) (List.forall_mem_cons.mpr ⟨⟨mX1_take, n + 2, 1, TX1, 7, rfl, by omega, kX6_45, WX1_take, rfl, CX1_take g (n)⟩, (List.forall_mem_cons.mpr ⟨⟨mX1_solve, n + 2, 0, TX1, 7, rfl, by omega, kX6_49, WX1_solve, rfl, CX1_solve g (n)⟩, (List.forall_mem_cons.mpr ⟨⟨mX6_exists, n + 1, 0, TX6, 8, rfl, by omega, kX6_52, WX6_exists, rfl, CX6_exists g (n)⟩, (List.forall_mem_cons.mpr ⟨⟨mX2_isPerson, n + 0, 1, TX2, 16, rfl, by omega, kX6_65, WX2_isPerson, rfl, CX2_isPerson g (n)⟩, (List.forall_mem_cons.mpr ⟨⟨mX6_findLows, n + 3, 0, TX6, 8, rfl, by omega, kX6_70, WX6_findLows, rfl, CX6_findLows g (n)⟩, (List.forall_mem_cons.mpr ⟨⟨mX6_findHighs, n + 3, 0, TX6, 8, rfl, by omega, kX6_73, WX6_findHighs, rfl, CX6_findHighs g (n)⟩, (List.forall_mem_cons.mpr ⟨⟨mX6_setBases, n + 0, 1, TX6, 8, rfl, by omega, kX6_79, WX6_setBases, rfl, CX6_setBases g (n)⟩, (List.forall_mem_cons.mpr ⟨⟨mX0_make, n + 2, 5, TX0, 4, rfl, by omega, kX6_83, WX0_make, rfl, CX0_make g (n)⟩, (fun _ h => absurd h List.not_mem_nil)⟩)⟩)⟩)⟩)⟩)⟩)⟩)⟩) (fun _ h => absurd h List.not_mem_nil) [64] 40 _ _ _ _ ?_
      simp (maxSteps := 1000000) [↓Bool.cond_eq_ite, -Prod.forall, -Prod.exists, -Prod.mk.injEq, jvk, tX6_make, jtb, jol, jst, jlk, jcmp, jbin, jfl, fX6, jc2, lX6, jcat, jel, lv_args, Value.category, jins, jsrt, jins2, jble, jblt, jf3, List.filter_cons, List.filter_nil, G_prop, G_choice, G_flat, oX1_take, oX1_solve, oX6_exists, oX2_isPerson, oX6_findLows, oX6_findHighs, oX6_setBases, oX0_make, joR, joRI, joRIRRII, joRR, -Int32.not_le, -Int32.not_lt, -Int64.not_le, -Int64.not_lt, i3lt, i6lt, e4, hlt, jk, eck, e261]
      try simp (disch := omega) [-Prod.forall, -Prod.exists, -Prod.mk.injEq, -Int32.not_le, -Int32.not_lt, -Int64.not_le, -Int64.not_lt, i3lt, i6lt, e4, hlt, jk, eck, e261]
      refine jvk_ok TX6_make (V := [(45, 2, 1, oX1_take), (49, 1, 1, oX1_solve), (52, 1, 6, oX6_exists), (65, 2, 2, oX2_isPerson), (70, 1, 6, oX6_findLows), (73, 1, 6, oX6_findHighs), (79, 2, 6, oX6_setBases), (83, 6, 0, oX0_make)]) (S := []) (List.forall_mem_cons.mpr ⟨⟨mX1_take, n + 2, 1, TX1, 7, rfl, by omega, kX6_45, WX1_take, rfl, CX1_take g (n)⟩, (List.forall_mem_cons.mpr ⟨⟨mX1_solve, n + 2, 0, TX1, 7, rfl, by omega, kX6_49, WX1_solve, rfl, CX1_solve g (n)⟩, (List.forall_mem_cons.mpr ⟨⟨mX6_exists, n + 1, 0, TX6, 8, rfl, by omega, kX6_52, WX6_exists, rfl, CX6_exists g (n)⟩, (List.forall_mem_cons.mpr ⟨⟨mX2_isPerson, n + 0, 1, TX2, 16, rfl, by omega, kX6_65, WX2_isPerson, rfl, CX2_isPerson g (n)⟩, (List.forall_mem_cons.mpr ⟨⟨mX6_findLows, n + 3, 0, TX6, 8, rfl, by omega, kX6_70, WX6_findLows, rfl, CX6_findLows g (n)⟩, (List.forall_mem_cons.mpr ⟨⟨mX6_findHighs, n + 3, 0, TX6, 8, rfl, by omega, kX6_73, WX6_findHighs, rfl, CX6_findHighs g (n)⟩, (List.forall_mem_cons.mpr ⟨⟨mX6_setBases, n + 0, 1, TX6, 8, rfl, by omega, kX6_79, WX6_setBases, rfl, CX6_setBases g (n)⟩, (List.forall_mem_cons.mpr ⟨⟨mX0_make, n + 2, 5, TX0, 4, rfl, by omega, kX6_83, WX0_make, rfl, CX0_make g (n)⟩, (fun _ h => absurd h List.not_mem_nil)⟩)⟩)⟩)⟩)⟩)⟩)⟩)⟩) (fun _ h => absurd h List.not_mem_nil) [33] 40 _ _ _ _ ?_
      simp (maxSteps := 1000000) [↓Bool.cond_eq_ite, -Prod.forall, -Prod.exists, -Prod.mk.injEq, jvk, tX6_make, jtb, jol, jst, jlk, jcmp, jbin, jfl, fX6, jc2, lX6, jcat, jel, lv_args, Value.category, jins, jsrt, jins2, jble, jblt, jf3, List.filter_cons, List.filter_nil, G_prop, G_choice, G_flat, oX1_take, oX1_solve, oX6_exists, oX2_isPerson, oX6_findLows, oX6_findHighs, oX6_setBases, oX0_make, joR, joRI, joRIRRII, joRR, -Int32.not_le, -Int32.not_lt, -Int64.not_le, -Int64.not_lt, i3lt, i6lt, hfP, jk, eck, jp, ecp, e40, nI_1]
      try simp (disch := omega) [-Prod.forall, -Prod.exists, -Prod.mk.injEq, -Int32.not_le, -Int32.not_lt, -Int64.not_le, -Int64.not_lt, i3lt, i6lt, hfP, jk, eck, jp, ecp, e40, nI_1]
      exact jW.mono k1 (by simp))
    have e37 : τ2.1 37 2 = σ.1 37 2 := eq31 37 2 (by omega)
    have k0 := loop (jup τ2 259 5 (σ.1 37 2)) (fr12.up _ (aMk_i (by omega) (by omega))) (fun c q1 q2 => funext fun j => by rw [jup_1, if_neg (by omega)]) (by rw [jup_1, if_pos ⟨rfl, rfl⟩]) (fun i hi => by omega)
    rw [nI_0] at k0
    refine jvk_ok TX6_make (V := [(45, 2, 1, oX1_take), (49, 1, 1, oX1_solve), (52, 1, 6, oX6_exists), (65, 2, 2, oX2_isPerson), (70, 1, 6, oX6_findLows), (73, 1, 6, oX6_findHighs), (79, 2, 6, oX6_setBases), (83, 6, 0, oX0_make)]) (S := []) (List.forall_mem_cons.mpr ⟨⟨mX1_take, n + 2, 1, TX1, 7, rfl, by omega, kX6_45, WX1_take, rfl, CX1_take g (n)⟩, (List.forall_mem_cons.mpr ⟨⟨mX1_solve, n + 2, 0, TX1, 7, rfl, by omega, kX6_49, WX1_solve, rfl, CX1_solve g (n)⟩, (List.forall_mem_cons.mpr ⟨⟨mX6_exists, n + 1, 0, TX6, 8, rfl, by omega, kX6_52, WX6_exists, rfl, CX6_exists g (n)⟩, (List.forall_mem_cons.mpr ⟨⟨mX2_isPerson, n + 0, 1, TX2, 16, rfl, by omega, kX6_65, WX2_isPerson, rfl, CX2_isPerson g (n)⟩, (List.forall_mem_cons.mpr ⟨⟨mX6_findLows, n + 3, 0, TX6, 8, rfl, by omega, kX6_70, WX6_findLows, rfl, CX6_findLows g (n)⟩, (List.forall_mem_cons.mpr ⟨⟨mX6_findHighs, n + 3, 0, TX6, 8, rfl, by omega, kX6_73, WX6_findHighs, rfl, CX6_findHighs g (n)⟩, (List.forall_mem_cons.mpr ⟨⟨mX6_setBases, n + 0, 1, TX6, 8, rfl, by omega, kX6_79, WX6_setBases, rfl, CX6_setBases g (n)⟩, (List.forall_mem_cons.mpr ⟨⟨mX0_make, n + 2, 5, TX0, 4, rfl, by omega, kX6_83, WX0_make, rfl, CX0_make g (n)⟩, (fun _ h => absurd h List.not_mem_nil)⟩)⟩)⟩)⟩)⟩)⟩)⟩)⟩) (fun _ h => absurd h List.not_mem_nil) [33] 20 _ _ _ _ ?_
    simp (maxSteps := 1000000) [↓Bool.cond_eq_ite, -Prod.forall, -Prod.exists, -Prod.mk.injEq, jvk, tX6_make, jtb, jol, jst, jlk, jcmp, jbin, jfl, fX6, jc2, lX6, jcat, jel, lv_args, Value.category, jins, jsrt, jins2, jble, jblt, jf3, List.filter_cons, List.filter_nil, G_prop, G_choice, G_flat, oX1_take, oX1_solve, oX6_exists, oX2_isPerson, oX6_findLows, oX6_findHighs, oX6_setBases, oX0_make, joR, joRI, joRIRRII, joRR, -Int32.not_le, -Int32.not_lt, -Int64.not_le, -Int64.not_lt, i3lt, i6lt, e37]
    try simp (disch := omega) [-Prod.forall, -Prod.exists, -Prod.mk.injEq, -Int32.not_le, -Int32.not_lt, -Int64.not_le, -Int64.not_lt, i3lt, i6lt, e37]
    exact k0
  · have hi : (if 0 < cM τ2 260 ∧ ¬ τ2.1 270 0 = -1 then (1 : Int32) else 0) = 0 := if_neg c
    rw [hi]
    have hnone : flC σ = none := by
      unfold flC
      by_cases z : flM σ = 0
      · rw [if_pos z]
      · rw [if_neg z, ← eD2]
        rcases e : cD τ2 260 0 with _ | a
        · rfl
        · have hb := cD_bd ok2 e
          have h270 : τ2.1 270 0 = nI a.1 := by rw [e270.1, e]; rfl
          exact absurd ⟨by omega, by rw [h270]; exact fun w => (nI_m1 (by omega)).mp w⟩ c
    refine jvk_ok TX6_make (V := [(45, 2, 1, oX1_take), (49, 1, 1, oX1_solve), (52, 1, 6, oX6_exists), (65, 2, 2, oX2_isPerson), (70, 1, 6, oX6_findLows), (73, 1, 6, oX6_findHighs), (79, 2, 6, oX6_setBases), (83, 6, 0, oX0_make)]) (S := []) (List.forall_mem_cons.mpr ⟨⟨mX1_take, n + 2, 1, TX1, 7, rfl, by omega, kX6_45, WX1_take, rfl, CX1_take g (n)⟩, (List.forall_mem_cons.mpr ⟨⟨mX1_solve, n + 2, 0, TX1, 7, rfl, by omega, kX6_49, WX1_solve, rfl, CX1_solve g (n)⟩, (List.forall_mem_cons.mpr ⟨⟨mX6_exists, n + 1, 0, TX6, 8, rfl, by omega, kX6_52, WX6_exists, rfl, CX6_exists g (n)⟩, (List.forall_mem_cons.mpr ⟨⟨mX2_isPerson, n + 0, 1, TX2, 16, rfl, by omega, kX6_65, WX2_isPerson, rfl, CX2_isPerson g (n)⟩, (List.forall_mem_cons.mpr ⟨⟨mX6_findLows, n + 3, 0, TX6, 8, rfl, by omega, kX6_70, WX6_findLows, rfl, CX6_findLows g (n)⟩, (List.forall_mem_cons.mpr ⟨⟨mX6_findHighs, n + 3, 0, TX6, 8, rfl, by omega, kX6_73, WX6_findHighs, rfl, CX6_findHighs g (n)⟩, (List.forall_mem_cons.mpr ⟨⟨mX6_setBases, n + 0, 1, TX6, 8, rfl, by omega, kX6_79, WX6_setBases, rfl, CX6_setBases g (n)⟩, (List.forall_mem_cons.mpr ⟨⟨mX0_make, n + 2, 5, TX0, 4, rfl, by omega, kX6_83, WX0_make, rfl, CX0_make g (n)⟩, (fun _ h => absurd h List.not_mem_nil)⟩)⟩)⟩)⟩)⟩)⟩)⟩)⟩) (fun _ h => absurd h List.not_mem_nil) [] 10 _ _ _ _ ?_
    simp (maxSteps := 1000000) [↓Bool.cond_eq_ite, -Prod.forall, -Prod.exists, -Prod.mk.injEq, jvk, tX6_make, jtb, jol, jst, jlk, jcmp, jbin, jfl, fX6, jc2, lX6, jcat, jel, lv_args, Value.category, jins, jsrt, jins2, jble, jblt, jf3, List.filter_cons, List.filter_nil, G_prop, G_choice, G_flat, oX1_take, oX1_solve, oX6_exists, oX2_isPerson, oX6_findLows, oX6_findHighs, oX6_setBases, oX0_make, joR, joRI, joRIRRII, joRR, -Int32.not_le, -Int32.not_lt, -Int64.not_le, -Int64.not_lt, i3lt, i6lt]
    try simp (disch := omega) [-Prod.forall, -Prod.exists, -Prod.mk.injEq, -Int32.not_le, -Int32.not_lt, -Int64.not_le, -Int64.not_lt, i3lt, i6lt]
    exact hp _ _ ⟨rfl, fr12, ok2, eM2, eR2, eW2, hper, hexV τ2 (fun _ _ _ => rfl), fun a ha => by rw [hnone] at ha; cases ha⟩
