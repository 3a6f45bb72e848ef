/-! Choice: solvedWith, leastWorth -/
theorem qT_lt {W : Nat → Nat → Option Nat} {R : Nat} : ∀ (d j t : Nat) (a : Nat × Nat × (Nat → Nat)), qT W R d j t = some a → ∀ i, j ≤ i → i < j + d → a.2.2 i < R
  | 0, j, t, a, _, i, h1, h2 => by omega
  | d + 1, j, t, a, h, i, h1, h2 => by
    rw [qT_F] at h
    obtain ⟨q, b, hq, hb, -, hb2, -, -⟩ := qR_first R a h
    rw [← hb2]
    unfold qFr at hb
    rcases eW : W j q with _ | v
    · rw [eW] at hb; cases hb
    · rw [eW] at hb
      dsimp only at hb
      by_cases c : t.testBit q = true
      · rw [if_pos c] at hb; cases hb
      · rw [if_neg c] at hb
        rcases e : qT W R d (j + 1) (t ||| 1 <<< q) with _ | x
        · rw [e] at hb; cases hb
        · rw [e] at hb
          cases hb
          dsimp only
          by_cases z : i = j
          · rw [if_pos z]; exact hq
          · rw [if_neg z]; exact qT_lt d (j + 1) _ x e i (by omega) (by omega)
theorem ff_is {p : Nat → Bool} : ∀ (d k h : Nat), h < d → p (k + h) = true → (∀ q, q < h → ¬ p (k + q) = true) → ff p d k = nI (k + h)
  | 0, _, _, h, _, _ => by omega
  | d + 1, k, 0, _, hp, _ => by
    rw [Nat.add_zero] at hp
    simp only [ff]
    rw [if_pos hp]
    rfl
  | d + 1, k, h + 1, hd, hp, hn => by
    simp only [ff]
    have h0 := hn 0 (by omega)
    rw [Nat.add_zero] at h0
    rw [if_neg h0]
    rw [ff_is d (k + 1) h (by omega) (by rw [show k + 1 + h = k + (h + 1) by omega]; exact hp) (fun q hq => by rw [show k + 1 + q = k + (q + 1) by omega]; exact hn (q + 1) (by omega))]
    rw [show k + 1 + h = k + (h + 1) by omega]
theorem ff_not {p : Nat → Bool} (d k : Nat) (h : ∀ q, k ≤ q → q < k + d → ¬ p q = true) : ff p d k = -1 := by
  rcases ff_rng (p := p) d k with e | ⟨j, h1, h2, h3, -⟩
  · exact e
  · exact absurd h3 (h j h1 h2)
def oZ (z : Int32) : Option Nat := if z = -1 then none else some z.toNatClampNeg
theorem set_C {σ : jM} {b i r : Nat} {z : Int32} (h : cOK σ b) (hi : i < cM σ b) (hr : r < cR σ b) (hz : z = -1 ∨ 0 ≤ z ∧ z ≤ 1000000) : cM (jup σ (b + 3 + i) r z) b = cM σ b ∧ cR (jup σ (b + 3 + i) r z) b = cR σ b ∧ cOK (jup σ (b + 3 + i) r z) b ∧ cWr (jup σ (b + 3 + i) r z) b = wEnt (cWr σ b) i r (oZ z) := by
  have e0 : (jup σ (b + 3 + i) r z).1 b = σ.1 b := funext fun j => by rw [jup_1, if_neg (by omega)]
  have eM : cM (jup σ (b + 3 + i) r z) b = cM σ b := by unfold cM; rw [e0]
  have eR : cR (jup σ (b + 3 + i) r z) b = cR σ b := by unfold cR; rw [e0]
  refine ⟨eM, eR, ?_, ?_⟩
  · unfold cOK at h ⊢
    rw [e0, eM, eR]
    refine ⟨h.1, h.2.1, fun k hk q hq => ?_⟩
    rw [jup_1]
    by_cases c : k = i ∧ q = r
    · rw [if_pos ⟨by omega, c.2⟩]; exact hz
    · rw [if_neg (fun w => c ⟨by omega, w.2⟩)]; exact h.2.2 k hk q hq
  · funext k q
    have eC : cWr (jup σ (b + 3 + i) r z) b k q = if k < cM σ b ∧ q < cR σ b then cW (jup σ (b + 3 + i) r z) b k q else none := by unfold cWr; rw [eM, eR]
    have eS : cWr σ b k q = if k < cM σ b ∧ q < cR σ b then cW σ b k q else none := rfl
    rw [eC]
    unfold wEnt
    by_cases c : k = i ∧ q = r
    · have d : k < cM σ b ∧ q < cR σ b := ⟨by omega, by omega⟩
      have ev : (jup σ (b + 3 + i) r z).1 (b + 3 + k) q = z := by rw [jup_1, if_pos ⟨by omega, c.2⟩]
      rw [if_pos d, if_pos c]
      unfold cW oZ
      rw [ev]
    · rw [if_neg c, eS]
      by_cases d : k < cM σ b ∧ q < cR σ b
      · have ev : (jup σ (b + 3 + i) r z).1 (b + 3 + k) q = σ.1 (b + 3 + k) q := by rw [jup_1, if_neg (fun w => c ⟨by omega, w.2⟩)]
        rw [if_pos d, if_pos d]
        unfold cW
        rw [ev]
      · rw [if_neg d, if_neg d]
def oV : Option Nat → Int32
  | none => -1
  | some t => nI t
def preV (σ : jM) (b : Nat) (x y : Int32) : Prop := ∃ i r, x = nI i ∧ y = nI r ∧ i < cM σ b ∧ r < cR σ b
def setW (σ : jM) (b : Nat) (x y z : Int32) : jM := jup σ (b + 3 + x.toNatClampNeg) y.toNatClampNeg z
def oX1_solvedWith : jO := joRIII fun b x y z σ => (chF b ∧ cOK σ b ∧ preV σ b x y ∧ (z = -1 ∨ 0 ≤ z ∧ z ≤ 1000000), fun v τ => v = some (.int (qs (cD (setW σ b x y z) b 0))) ∧ jfr (aSo b) b0 (setW σ b x y z) τ ∧ ∀ j, j < 6 → τ.1 (b + 9) j = cRm (setW σ b x y z) b j)
set_option maxRecDepth 100000 in
set_option maxHeartbeats 4000000 in
theorem CX1_solvedWith (g : jG) (n : Nat) : jOk g (n + 3) mX1_solvedWith oX1_solvedWith := by
  refine joRIII_ok ?_
  rintro b _ _ z σ ⟨hF, hok, ⟨i, r, rfl, rfl, hi, hr⟩, hz⟩
  obtain ⟨m6, -, r6, -⟩ := cOK_n hok
  have hF0 := hF
  obtain ⟨f0, -, -, -, -, f5, f6, -, -, f9, f10, -, -, -, -, f15, f16, f17, f18, -, -, f21, f22, -, -⟩ := hF
  obtain ⟨g1, g2⟩ := f18 i (by omega)
  have ji : jin (nI i) 6 := jin_nI (by omega) (by decide)
  have jr : jin (nI r) 6 := jin_nI (by omega) (by decide)
  have eci : (nI i).toNatClampNeg = i := nI_clamp (by omega)
  have ecr : (nI r).toNatClampNeg = r := nI_clamp (by omega)
  obtain ⟨ρ, eρ⟩ : ∃ ρ, ρ = setW σ b (nI i) (nI r) z := ⟨_, rfl⟩
  have eρ2 : jup σ (b + 3 + i) r z = ρ := by rw [eρ]; unfold setW; rw [eci, ecr]
  have hokρ : cOK ρ b := by rw [← eρ2]; exact (set_C hok hi hr hz).2.2.1
  refine jCon.ofP (by decide +kernel) (by simp [lg_sl, Value.category]) (fun post hp => ?_)
  refine jvk_ok TX1_solvedWith (V := [(82, 1, 1, oX1_solve)]) (S := []) (List.forall_mem_cons.mpr ⟨⟨mX1_solve, n + 2, 0, TX1, 7, rfl, by omega, kX1_82, WX1_solve, rfl, CX1_solve g (n)⟩, (fun _ h => absurd h List.not_mem_nil)⟩) (fun _ h => absurd h List.not_mem_nil) [9] 40 _ _ _ _ ?_
  simp (maxSteps := 1000000) [↓Bool.cond_eq_ite, -Prod.forall, -Prod.exists, -Prod.mk.injEq, jvk, tX1_solvedWith, jtb, jol, jst, jlk, jcmp, jbin, jfl, fX1, jc2, lX1, jcat, jel, lv_args, Value.category, jins, jsrt, jins2, jble, jblt, jf3, List.filter_cons, List.filter_nil, G_choice, G_tchoice, G_flat, oX1_solve, joR, -Int32.not_le, -Int32.not_lt, -Int64.not_le, -Int64.not_lt, i3lt, i6lt, f0, f5, f6, f15, f16, f17, g1, g2, ji, jr, eci, ecr]
  try simp (disch := omega) [-Prod.forall, -Prod.exists, -Prod.mk.injEq, -Int32.not_le, -Int32.not_lt, -Int64.not_le, -Int64.not_lt, i3lt, i6lt, f0, f5, f6, f15, f16, f17, g1, g2, ji, jr, eci, ecr]
  rw [← eρ] at hp
  rw [eρ2]
  refine jvk_ok TX1_solvedWith (V := [(82, 1, 1, oX1_solve)]) (S := []) (List.forall_mem_cons.mpr ⟨⟨mX1_solve, n + 2, 0, TX1, 7, rfl, by omega, kX1_82, WX1_solve, rfl, CX1_solve g (n)⟩, (fun _ h => absurd h List.not_mem_nil)⟩) (fun _ h => absurd h List.not_mem_nil) [13] 20 _ _ _ _ ?_
  simp (maxSteps := 1000000) [↓Bool.cond_eq_ite, -Prod.forall, -Prod.exists, -Prod.mk.injEq, jvk, tX1_solvedWith, jtb, jol, jst, jlk, jcmp, jbin, jfl, fX1, jc2, lX1, jcat, jel, lv_args, Value.category, jins, jsrt, jins2, jble, jblt, jf3, List.filter_cons, List.filter_nil, G_choice, G_tchoice, G_flat, oX1_solve, joR, -Int32.not_le, -Int32.not_lt, -Int64.not_le, -Int64.not_lt, i3lt, i6lt, f0, hF0, hokρ]
  try simp (disch := omega) [-Prod.forall, -Prod.exists, -Prod.mk.injEq, -Int32.not_le, -Int32.not_lt, -Int64.not_le, -Int64.not_lt, i3lt, i6lt, f0, hF0, hokρ]
  intro v1 τ hv1 fr hl h9
  subst hv1
  have e10 : τ.1 (b + 10) 0 = qs (cD ρ b 0) := by
    have := (hl 0 (Nat.le_refl _) (Nat.pow_pos (by decide))).1
    rw [this, (so_D hokρ fr).1]
  have j0 : jin 0 64 := jin_nI (k := 0) (by decide) (by decide)
  have t0 : (0 : Int32).toNatClampNeg = 0 := by decide
  refine jvk_ok TX1_solvedWith (V := [(82, 1, 1, oX1_solve)]) (S := []) (List.forall_mem_cons.mpr ⟨⟨mX1_solve, n + 2, 0, TX1, 7, rfl, by omega, kX1_82, WX1_solve, rfl, CX1_solve g (n)⟩, (fun _ h => absurd h List.not_mem_nil)⟩) (fun _ h => absurd h List.not_mem_nil) [] 20 _ _ _ _ ?_
  simp (maxSteps := 1000000) [↓Bool.cond_eq_ite, -Prod.forall, -Prod.exists, -Prod.mk.injEq, jvk, tX1_solvedWith, jtb, jol, jst, jlk, jcmp, jbin, jfl, fX1, jc2, lX1, jcat, jel, lv_args, Value.category, jins, jsrt, jins2, jble, jblt, jf3, List.filter_cons, List.filter_nil, G_choice, G_tchoice, G_flat, oX1_solve, joR, -Int32.not_le, -Int32.not_lt, -Int64.not_le, -Int64.not_lt, i3lt, i6lt, f0, f9, f10, f21, f22, e10, j0, t0]
  try simp (disch := omega) [-Prod.forall, -Prod.exists, -Prod.mk.injEq, -Int32.not_le, -Int32.not_lt, -Int64.not_le, -Int64.not_lt, i3lt, i6lt, f0, f9, f10, f21, f22, e10, j0, t0]
  exact hp _ _ ⟨rfl, fr, h9⟩
def aLw (b i r a j : Nat) : Bool := aSo b a j || a == b + 3 + i && j == r
/-- the values are those of a flat -/
def cV (σ : jM) (b : Nat) : Prop := ∀ i r v, cWr σ b i r = some v → v ≤ 9999
noncomputable def gP (σ : jM) (b i r : Nat) : Nat → Bool := fun h => @decide (getsR (cWr σ b) (cR σ b) (cM σ b) i r h) (Classical.propDecidable _)
theorem gP_iff {σ : jM} {b i r h : Nat} : gP σ b i r h = true ↔ getsR (cWr σ b) (cR σ b) (cM σ b) i r h := by
  unfold gP
  exact @decide_eq_true_iff _ (Classical.propDecidable _)
/-- the same but for one value -/
def sameB (b i r : Nat) (σ τ : jM) : Prop := jfr (aLw b i r) b0 σ τ
theorem same_C {σ τ : jM} {b i r : Nat} (h : cOK σ b) (hi : i < cM σ b) (hr : r < cR σ b) (s : sameB b i r σ τ) (hz0 : τ.1 (b + 3 + i) r = -1 ∨ 0 ≤ τ.1 (b + 3 + i) r ∧ τ.1 (b + 3 + i) r ≤ 1000000) : cM τ b = cM σ b ∧ cR τ b = cR σ b ∧ cOK τ b ∧ ∀ o, wEnt (cWr τ b) i r o = wEnt (cWr σ b) i r o := by
  obtain ⟨m6, -, -, -⟩ := cOK_n h
  have e0 : τ.1 b = σ.1 b := funext fun j => s.2.2 _ _ (by unfold aLw aSo; simp; omega)
  have eM : cM τ b = cM σ b := by unfold cM; rw [e0]
  have eR : cR τ b = cR σ b := by unfold cR; rw [e0]
  have eW : ∀ k q, k < 6 → ¬ (k = i ∧ q = r) → τ.1 (b + 3 + k) q = σ.1 (b + 3 + k) q := fun k q hk hc => s.2.2 _ _ (by
    unfold aLw aSo
    simp only [Bool.or_eq_false_iff, Bool.and_eq_false_iff, beq_eq_false_iff_ne]
    omega)
  refine ⟨eM, eR, ?_, fun o => ?_⟩
  · unfold cOK at h ⊢
    rw [e0, eM, eR]
    refine ⟨h.1, h.2.1, fun k hk q hq => ?_⟩
    by_cases c : k = i ∧ q = r
    · rw [c.1, c.2]; exact hz0
    · rw [eW k q (by omega) c]; exact h.2.2 k hk q hq
  · funext k q
    unfold wEnt
    by_cases c : k = i ∧ q = r
    · rw [if_pos c, if_pos c]
    · rw [if_neg c, if_neg c]
      unfold cWr
      rw [eM, eR]
      by_cases d : k < cM σ b ∧ q < cR σ b
      · rw [if_pos d, if_pos d]
        unfold cW
        rw [eW k q (by omega) c]
      · rw [if_neg d, if_neg d]
theorem wEnt_set {W : Nat → Nat → Option Nat} {i r : Nat} {o o' : Option Nat} : wEnt (wEnt W i r o) i r o' = wEnt W i r o' := by
  funext k q
  unfold wEnt
  by_cases c : k = i ∧ q = r
  · rw [if_pos c, if_pos c]
  · rw [if_neg c, if_neg c, if_neg c]
theorem cD_0 (σ : jM) (b : Nat) : cD σ b 0 = qT (cWr σ b) (cR σ b) (cM σ b) 0 0 := by
  have e : pop 0 = 0 := by decide
  unfold cD dpv
  rw [e, if_pos (Nat.zero_le _), Nat.sub_zero]
def oX1_leastWorth : jO := joRII fun b x y σ => (chF b ∧ cOK σ b ∧ cV σ b ∧ preV σ b x y, fun v τ => v = some (.int (ff (gP σ b x.toNatClampNeg y.toNatClampNeg) 10000 0)) ∧ jfr (aLw b x.toNatClampNeg y.toNatClampNeg) b0 σ τ)
set_option maxRecDepth 100000 in
set_option maxHeartbeats 4000000 in
theorem CX1_leastWorth (g : jG) (n : Nat) : jOk g (n + 4) mX1_leastWorth oX1_leastWorth := by
  refine joRII_ok ?_
  rintro b _ _ σ ⟨hF, hok, hV, i, r, rfl, rfl, hi, hr⟩
  obtain ⟨m6, -, r6, -⟩ := cOK_n hok
  have hF0 := hF
  obtain ⟨f0, -, -, -, -, -, -, f7, f8, -, -, -, -, -, -, -, -, -, -, f19, f20, -, -, -, -⟩ := hF
  have ji : jin (nI i) 6 := jin_nI (by omega) (by decide)
  have eci : (nI i).toNatClampNeg = i := nI_clamp (by omega)
  have ecr : (nI r).toNatClampNeg = r := nI_clamp (by omega)
  obtain ⟨gC, eg⟩ : ∃ gC : Option Nat → qC, gC = fun o => qT (wEnt (cWr σ b) i r o) (cR σ b) (cM σ b) 0 0 := ⟨_, rfl⟩
  obtain ⟨oA, oB, hE⟩ := ent_T (W := cWr σ b) (R := cR σ b) (i := i) (r := r) (cM σ b) 0 0 (Nat.zero_le _) (by omega)
  have hE : ∀ o, entP o i r (gC o) oA oB := fun o => by rw [eg]; exact hE o
  have gets : ∀ h, gP σ b i r h = true ↔ ∃ a, gC (some h) = some a ∧ a.2.2 i = r := fun h => by rw [gP_iff, eg]; exact Iff.rfl
  -- one solution
  have one : ∀ (τ : jM) (z : Int32), sameB b i r σ τ → (τ.1 (b + 3 + i) r = -1 ∨ 0 ≤ τ.1 (b + 3 + i) r ∧ τ.1 (b + 3 + i) r ≤ 1000000) → (z = -1 ∨ 0 ≤ z ∧ z ≤ 1000000) → cD (setW τ b (nI i) (nI r) z) b 0 = gC (oZ z) ∧ ∀ μ : jM, jfr (aSo b) b0 (setW τ b (nI i) (nI r) z) μ → sameB b i r σ μ ∧ μ.1 (b + 3 + i) r = z := fun τ z s h0 hz => by
    obtain ⟨s1, s2, s3, s4⟩ := same_C hok hi hr s h0
    obtain ⟨t1, t2, t3, t4⟩ := set_C s3 (by rw [s1]; exact hi) (by rw [s2]; exact hr) hz
    have eW : setW τ b (nI i) (nI r) z = jup τ (b + 3 + i) r z := by unfold setW; rw [eci, ecr]
    rw [eW]
    refine ⟨?_, fun μ fμ => ⟨⟨fμ.1.trans s.1, fun a j q => (fμ.2.1 a j q).trans (s.2.1 a j q), fun a j q => ?_⟩, ?_⟩⟩
    · rw [cD_0, t1, t2, t4, s1, s2, s4, eg]
    · have q0 := q
      unfold aLw at q0
      simp only [Bool.or_eq_false_iff, Bool.and_eq_false_iff, beq_eq_false_iff_ne] at q0
      rw [fμ.2.2 a j q0.1, jup_1, if_neg (by omega)]
      exact s.2.2 a j q
    · rw [fμ.2.2 _ _ (aSo_f (by omega) (by omega) (by omega)), jup_1, if_pos ⟨rfl, rfl⟩]
  have start : σ.1 (b + 3 + i) r = -1 ∨ 0 ≤ σ.1 (b + 3 + i) r ∧ σ.1 (b + 3 + i) r ≤ 1000000 := hok.2.2 i hi r hr
  have pre : ∀ τ : jM, sameB b i r σ τ → (τ.1 (b + 3 + i) r = -1 ∨ 0 ≤ τ.1 (b + 3 + i) r ∧ τ.1 (b + 3 + i) r ≤ 1000000) → cOK τ b ∧ preV τ b (nI i) (nI r) := fun τ s h0 => by
    obtain ⟨s1, s2, s3, -⟩ := same_C hok hi hr s h0
    exact ⟨s3, i, r, rfl, rfl, by rw [s1]; exact hi, by rw [s2]; exact hr⟩
  have zm : ((-1 : Int32) = -1 ∨ (0 : Int32) ≤ -1 ∧ (-1 : Int32) ≤ 1000000) := Or.inl rfl
  have zM : ((1000000 : Int32) = -1 ∨ (0 : Int32) ≤ 1000000 ∧ (1000000 : Int32) ≤ 1000000) := Or.inr (by decide)
  -- bounds
  have bdB : ∀ s, oB = some s → s ≤ 59994 := fun s hs => by
    rcases e : gC none with _ | c
    · rw [((hE none).1 e).1] at hs; cases hs
    · have h1 := ((hE none).2 c e).1
      rcases h1 with ⟨-, s', v', -, h2, -⟩ | ⟨-, h2⟩
      · cases h2
      · rw [h2] at hs
        cases hs
        rw [eg] at e
        have := qT_bd (V := 9999) r6 (fun k q v hv => by
          unfold wEnt at hv
          by_cases d : k = i ∧ q = r
          · rw [if_pos d] at hv; cases hv
          · rw [if_neg d] at hv; exact hV k q v hv) _ _ _ c e
        have h3 : 9999 * cM σ b ≤ 9999 * 6 := Nat.mul_le_mul_left _ m6
        omega
  have bdA : ∀ s, oA = some s → s ≤ 6000000 := fun s hs => by
    rcases e : gC (some 0) with _ | c
    · rcases ((hE (some 0)).1 e).2 with z | z
      · rw [hs] at z; cases z
      · cases z
    · have h1 := ((hE (some 0)).2 c e).2.1 s 0 hs rfl
      rw [eg] at e
      have := qT_bd (V := 1000000) r6 (fun k q v hv => by
        unfold wEnt at hv
        by_cases d : k = i ∧ q = r
        · rw [if_pos d] at hv; cases hv; omega
        · rw [if_neg d] at hv; have := hV k q v hv; omega) _ _ _ c e
      have h3 : 1000000 * cM σ b ≤ 1000000 * 6 := Nat.mul_le_mul_left _ m6
      omega
  have eNone : qs (gC none) = oV oB := by
    rcases e : gC none with _ | c
    · rw [((hE none).1 e).1]; rfl
    · rcases ((hE none).2 c e).1 with ⟨-, s', v', -, h2, -⟩ | ⟨-, h2⟩
      · cases h2
      · rw [h2]; rfl
  have oz1 : oZ (-1) = none := by decide
  have ozM : oZ 1000000 = some 1000000 := by decide
  refine jCon.ofP (by decide +kernel) (by simp [lg_sl, Value.category]) (fun post hp => ?_)
  refine jvk_ok TX1_leastWorth (V := [(78, 4, 1, oX1_solvedWith)]) (S := []) (List.forall_mem_cons.mpr ⟨⟨mX1_solvedWith, n + 3, 3, TX1, 7, rfl, by omega, kX1_78, WX1_solvedWith, rfl, CX1_solvedWith g (n)⟩, (fun _ h => absurd h List.not_mem_nil)⟩) (fun _ h => absurd h List.not_mem_nil) [4] 20 _ _ _ _ ?_
  simp (maxSteps := 1000000) [↓Bool.cond_eq_ite, -Prod.forall, -Prod.exists, -Prod.mk.injEq, jvk, tX1_leastWorth, jtb, jol, jst, jlk, jcmp, jbin, jfl, fX1, jc2, lX1, jcat, jel, lv_args, Value.category, jins, jsrt, jins2, jble, jblt, jf3, List.filter_cons, List.filter_nil, G_choice, G_tchoice, G_flat, oX1_solvedWith, joRIII, -Int32.not_le, -Int32.not_lt, -Int64.not_le, -Int64.not_lt, i3lt, i6lt, ji]
  try simp (disch := omega) [-Prod.forall, -Prod.exists, -Prod.mk.injEq, -Int32.not_le, -Int32.not_lt, -Int64.not_le, -Int64.not_lt, i3lt, i6lt, ji]
  rw [eci, ecr] at hp
  obtain ⟨q1, q2⟩ := pre σ jfr.rfl start
  refine jvk_ok TX1_leastWorth (V := [(78, 4, 1, oX1_solvedWith)]) (S := []) (List.forall_mem_cons.mpr ⟨⟨mX1_solvedWith, n + 3, 3, TX1, 7, rfl, by omega, kX1_78, WX1_solvedWith, rfl, CX1_solvedWith g (n)⟩, (fun _ h => absurd h List.not_mem_nil)⟩) (fun _ h => absurd h List.not_mem_nil) [7] 20 _ _ _ _ ?_
  simp (maxSteps := 1000000) [↓Bool.cond_eq_ite, -Prod.forall, -Prod.exists, -Prod.mk.injEq, jvk, tX1_leastWorth, jtb, jol, jst, jlk, jcmp, jbin, jfl, fX1, jc2, lX1, jcat, jel, lv_args, Value.category, jins, jsrt, jins2, jble, jblt, jf3, List.filter_cons, List.filter_nil, G_choice, G_tchoice, G_flat, oX1_solvedWith, joRIII, -Int32.not_le, -Int32.not_lt, -Int64.not_le, -Int64.not_lt, i3lt, i6lt, f0, hF0, q1, q2, zm]
  try simp (disch := omega) [-Prod.forall, -Prod.exists, -Prod.mk.injEq, -Int32.not_le, -Int32.not_lt, -Int64.not_le, -Int64.not_lt, i3lt, i6lt, f0, hF0, q1, q2, zm]
  intro v1 τ1 hv1 fr1 _
  obtain ⟨d1, d2⟩ := one σ (-1) jfr.rfl start zm
  obtain ⟨s1, w1⟩ := d2 τ1 fr1
  rw [d1, oz1] at hv1
  subst hv1
  obtain ⟨p1, p2⟩ := pre τ1 s1 (by rw [w1]; exact zm)
  obtain ⟨x1, ex1⟩ : ∃ x1, x1 = qs (gC none) := ⟨_, rfl⟩
  rw [← ex1]
  refine jvk_ok TX1_leastWorth (V := [(78, 4, 1, oX1_solvedWith)]) (S := []) (List.forall_mem_cons.mpr ⟨⟨mX1_solvedWith, n + 3, 3, TX1, 7, rfl, by omega, kX1_78, WX1_solvedWith, rfl, CX1_solvedWith g (n)⟩, (fun _ h => absurd h List.not_mem_nil)⟩) (fun _ h => absurd h List.not_mem_nil) [16] 20 _ _ _ _ ?_
  simp (maxSteps := 1000000) [↓Bool.cond_eq_ite, -Prod.forall, -Prod.exists, -Prod.mk.injEq, jvk, tX1_leastWorth, jtb, jol, jst, jlk, jcmp, jbin, jfl, fX1, jc2, lX1, jcat, jel, lv_args, Value.category, jins, jsrt, jins2, jble, jblt, jf3, List.filter_cons, List.filter_nil, G_choice, G_tchoice, G_flat, oX1_solvedWith, joRIII, -Int32.not_le, -Int32.not_lt, -Int64.not_le, -Int64.not_lt, i3lt, i6lt, f0, hF0, p1, p2, zM]
  try simp (disch := omega) [-Prod.forall, -Prod.exists, -Prod.mk.injEq, -Int32.not_le, -Int32.not_lt, -Int64.not_le, -Int64.not_lt, i3lt, i6lt, f0, hF0, p1, p2, zM]
  intro v2 τ2 hv2 fr2 _
  obtain ⟨d3, d4⟩ := one τ1 1000000 s1 (by rw [w1]; exact zm) zM
  obtain ⟨s2, w2⟩ := d4 τ2 fr2
  rw [d3, ozM] at hv2
  subst hv2
  obtain ⟨p3, p4⟩ := pre τ2 s2 (by rw [w2]; exact zM)
  have never : oA = none → ff (gP σ b i r) 10000 0 = -1 := fun hn => ff_not _ _ (fun h _ _ hh => by
    obtain ⟨a, ha, har⟩ := (gets h).mp hh
    rcases ((hE (some h)).2 a ha).1 with ⟨-, s, v, z, -⟩ | ⟨z, -⟩
    · rw [hn] at z; cases z
    · exact z har)
  rcases eM : gC (some 1000000) with _ | a
  · have hn : oA = none := by
      rcases ((hE (some 1000000)).1 eM).2 with z | z
      · exact z
      · cases z
    have eq : qs (none : qC) - 1000000 = -1000001 := by decide
    have c0 : ¬ (0 : Int32) ≤ -1000001 := by decide
    refine jvk_ok TX1_leastWorth (V := [(78, 4, 1, oX1_solvedWith)]) (S := []) (List.forall_mem_cons.mpr ⟨⟨mX1_solvedWith, n + 3, 3, TX1, 7, rfl, by omega, kX1_78, WX1_solvedWith, rfl, CX1_solvedWith g (n)⟩, (fun _ h => absurd h List.not_mem_nil)⟩) (fun _ h => absurd h List.not_mem_nil) [] 20 _ _ _ _ ?_
    simp (maxSteps := 1000000) [↓Bool.cond_eq_ite, -Prod.forall, -Prod.exists, -Prod.mk.injEq, jvk, tX1_leastWorth, jtb, jol, jst, jlk, jcmp, jbin, jfl, fX1, jc2, lX1, jcat, jel, lv_args, Value.category, jins, jsrt, jins2, jble, jblt, jf3, List.filter_cons, List.filter_nil, G_choice, G_tchoice, G_flat, oX1_solvedWith, joRIII, -Int32.not_le, -Int32.not_lt, -Int64.not_le, -Int64.not_lt, i3lt, i6lt, eq, c0]
    try simp (disch := omega) [-Prod.forall, -Prod.exists, -Prod.mk.injEq, -Int32.not_le, -Int32.not_lt, -Int64.not_le, -Int64.not_lt, i3lt, i6lt, eq, c0]
    exact hp _ _ ⟨by rw [never hn], s2⟩
  · have h1 := (hE (some 1000000)).2 a eM
    rcases h1.1 with ⟨-, s, v, hs, hv, hsum⟩ | ⟨-, hB⟩
    · cases hv
      have hs6 := bdA s hs
      have eq : qs (some a) - 1000000 = nI s := by
        have := pk_sub (a := a.1) (b := 1000000) (by omega)
        rw [show a.1 - 1000000 = s by omega] at this
        exact this
      have c0 : 0 ≤ nI s := nI_pos' (by omega)
      -- with a value: who gets it
      have some_g : ∀ h, ∃ c, gC (some h) = some c := fun h => by
        rcases e : gC (some h) with _ | c
        · rcases ((hE (some h)).1 e).2 with z | z
          · rw [hs] at z; cases z
          · cases z
        · exact ⟨c, rfl⟩
      have yes : ∀ h, (∀ t, oB = some t → t < s + h) → gP σ b i r h = true := fun h hh => by
        obtain ⟨c, hc⟩ := some_g h
        refine (gets h).mpr ⟨c, hc, ?_⟩
        have k1 := (hE (some h)).2 c hc
        rcases k1.1 with ⟨k2, -⟩ | ⟨-, k2⟩
        · exact k2
        · have := hh c.1 k2
          have := k1.2.1 s h hs rfl
          omega
      have no : ∀ h t, oB = some t → s + h < t → ¬ gP σ b i r h = true := fun h t ht hh hg => by
        obtain ⟨c, hc, hcr⟩ := (gets h).mp hg
        have k1 := (hE (some h)).2 c hc
        rcases k1.1 with ⟨-, s', v', k2, k3, k4⟩ | ⟨k2, -⟩
        · rw [hs] at k2
          cases k2
          cases k3
          have := k1.2.2 t ht
          omega
        · exact k2 hcr
      rcases eB : oB with _ | t
      · rw [eB] at eNone
        have eNone : qs (gC none) = -1 := eNone
        have e1 : x1 = -1 := ex1.trans eNone
        have hf : ff (gP σ b i r) 10000 0 = 0 := by
          have := ff_is (p := gP σ b i r) 10000 0 0 (by decide) (yes 0 (fun t ht => by rw [eB] at ht; cases ht)) (fun q hq => by omega)
          exact this
        refine jvk_ok TX1_leastWorth (V := [(78, 4, 1, oX1_solvedWith)]) (S := []) (List.forall_mem_cons.mpr ⟨⟨mX1_solvedWith, n + 3, 3, TX1, 7, rfl, by omega, kX1_78, WX1_solvedWith, rfl, CX1_solvedWith g (n)⟩, (fun _ h => absurd h List.not_mem_nil)⟩) (fun _ h => absurd h List.not_mem_nil) [] 30 _ _ _ _ ?_
        simp (maxSteps := 1000000) [↓Bool.cond_eq_ite, -Prod.forall, -Prod.exists, -Prod.mk.injEq, jvk, tX1_leastWorth, jtb, jol, jst, jlk, jcmp, jbin, jfl, fX1, jc2, lX1, jcat, jel, lv_args, Value.category, jins, jsrt, jins2, jble, jblt, jf3, List.filter_cons, List.filter_nil, G_choice, G_tchoice, G_flat, oX1_solvedWith, joRIII, -Int32.not_le, -Int32.not_lt, -Int64.not_le, -Int64.not_lt, i3lt, i6lt, eq, c0, e1]
        try simp (disch := omega) [-Prod.forall, -Prod.exists, -Prod.mk.injEq, -Int32.not_le, -Int32.not_lt, -Int64.not_le, -Int64.not_lt, i3lt, i6lt, eq, c0, e1]
        exact hp _ _ ⟨by rw [hf], s2⟩
      · rw [eB] at eNone
        have ht6 := bdB t eB
        have eNone : qs (gC none) = nI t := eNone
        have e1 : x1 = nI t := ex1.trans eNone
        have n1 : ¬ nI t = -1 := fun z => (nI_m1 (by omega)).mp z
        by_cases c1 : s ≤ t
        · have c1' : nI s ≤ nI t := nI_le c1 (by omega)
          have e2 : nI t - nI s = nI (t - s) := pk_sub c1
          by_cases c2 : t - s ≤ 9999
          · have c2' : nI (t - s) ≤ 9999 := nI_le (b := 9999) c2 (by decide)
            have zE : (nI (t - s) = -1 ∨ 0 ≤ nI (t - s) ∧ nI (t - s) ≤ 1000000) := Or.inr ⟨nI_pos' (by omega), nI_le (b := 1000000) (by omega) (by decide)⟩
            have ozE : oZ (nI (t - s)) = some (t - s) := by
              unfold oZ
              rw [if_neg (fun z => (nI_m1 (by omega)).mp z), nI_clamp (by omega)]
            refine jvk_ok TX1_leastWorth (V := [(78, 4, 1, oX1_solvedWith)]) (S := []) (List.forall_mem_cons.mpr ⟨⟨mX1_solvedWith, n + 3, 3, TX1, 7, rfl, by omega, kX1_78, WX1_solvedWith, rfl, CX1_solvedWith g (n)⟩, (fun _ h => absurd h List.not_mem_nil)⟩) (fun _ h => absurd h List.not_mem_nil) [65] 40 _ _ _ _ ?_
            simp (maxSteps := 1000000) [↓Bool.cond_eq_ite, -Prod.forall, -Prod.exists, -Prod.mk.injEq, jvk, tX1_leastWorth, jtb, jol, jst, jlk, jcmp, jbin, jfl, fX1, jc2, lX1, jcat, jel, lv_args, Value.category, jins, jsrt, jins2, jble, jblt, jf3, List.filter_cons, List.filter_nil, G_choice, G_tchoice, G_flat, oX1_solvedWith, joRIII, -Int32.not_le, -Int32.not_lt, -Int64.not_le, -Int64.not_lt, i3lt, i6lt, eq, c0, e1, n1, c1', e2, c2', f0, hF0, p3, p4, zE]
            try simp (disch := omega) [-Prod.forall, -Prod.exists, -Prod.mk.injEq, -Int32.not_le, -Int32.not_lt, -Int64.not_le, -Int64.not_lt, i3lt, i6lt, eq, c0, e1, n1, c1', e2, c2', f0, hF0, p3, p4, zE]
            intro v3 τ3 hv3 fr3 h9
            obtain ⟨d5, d6⟩ := one τ2 (nI (t - s)) s2 (by rw [w2]; exact zM) zE
            obtain ⟨s3, w3⟩ := d6 τ3 fr3
            subst hv3
            obtain ⟨c, hc⟩ := some_g (t - s)
            have hci : c.2.2 i < cR σ b := by
              rw [eg] at hc
              exact qT_lt _ _ _ c hc i (Nat.zero_le _) (by omega)
            obtain ⟨s4, s5, -, -⟩ := same_C hok hi hr s2 (by rw [w2]; exact zM)
            have eM2 : cM (setW τ2 b (nI i) (nI r) (nI (t - s))) b = cM σ b := by
              rw [← s4]
              unfold setW cM
              rw [jup_1, if_neg (by omega)]
            have e9 : τ3.1 (b + 9) i = nI (c.2.2 i) := by
              rw [h9 i (by omega)]
              unfold cRm
              rw [d5, ozE, hc, eM2]
              exact if_pos hi
            by_cases c3 : c.2.2 i = r
            · have c3' : nI (c.2.2 i) = nI r := by rw [c3]
              have hf : ff (gP σ b i r) 10000 0 = nI (t - s) := by
                have := ff_is (p := gP σ b i r) 10000 0 (t - s) (by omega) (by rw [Nat.zero_add]; exact (gets _).mpr ⟨c, hc, c3⟩) (fun q hq => by rw [Nat.zero_add]; exact no q t eB (by omega))
                rw [Nat.zero_add] at this
                exact this
              refine jvk_ok TX1_leastWorth (V := [(78, 4, 1, oX1_solvedWith)]) (S := []) (List.forall_mem_cons.mpr ⟨⟨mX1_solvedWith, n + 3, 3, TX1, 7, rfl, by omega, kX1_78, WX1_solvedWith, rfl, CX1_solvedWith g (n)⟩, (fun _ h => absurd h List.not_mem_nil)⟩) (fun _ h => absurd h List.not_mem_nil) [] 30 _ _ _ _ ?_
              simp (maxSteps := 1000000) [↓Bool.cond_eq_ite, -Prod.forall, -Prod.exists, -Prod.mk.injEq, jvk, tX1_leastWorth, jtb, jol, jst, jlk, jcmp, jbin, jfl, fX1, jc2, lX1, jcat, jel, lv_args, Value.category, jins, jsrt, jins2, jble, jblt, jf3, List.filter_cons, List.filter_nil, G_choice, G_tchoice, G_flat, oX1_solvedWith, joRIII, -Int32.not_le, -Int32.not_lt, -Int64.not_le, -Int64.not_lt, i3lt, i6lt, f0, f7, f8, f19, f20, ji, eci, e9, c3']
              try simp (disch := omega) [-Prod.forall, -Prod.exists, -Prod.mk.injEq, -Int32.not_le, -Int32.not_lt, -Int64.not_le, -Int64.not_lt, i3lt, i6lt, f0, f7, f8, f19, f20, ji, eci, e9, c3']
              exact hp _ _ ⟨by rw [hf], s3⟩
            · have c3' : ¬ nI (c.2.2 i) = nI r := fun z => c3 ((nI_eq (by omega) (by omega)).mp z)
              have notE : ¬ gP σ b i r (t - s) = true := fun hg => by
                obtain ⟨c2, hc2, hcr⟩ := (gets _).mp hg
                rw [hc] at hc2
                cases hc2
                exact c3 hcr
              by_cases c4 : t - s < 9999
              · have c4' : ¬ (9999 : Int32) ≤ nI (t - s) := nI_ge (b := 9999) c4 (by decide)
                have hf : ff (gP σ b i r) 10000 0 = nI (t - s + 1) := by
                  have := ff_is (p := gP σ b i r) 10000 0 (t - s + 1) (by omega) (by rw [Nat.zero_add]; exact yes _ (fun t' ht' => by rw [eB] at ht'; cases ht'; omega)) (fun q hq => by
                    rw [Nat.zero_add]
                    by_cases z : q = t - s
                    · rw [z]; exact notE
                    · exact no q t eB (by omega))
                  rw [Nat.zero_add] at this
                  exact this
                refine jvk_ok TX1_leastWorth (V := [(78, 4, 1, oX1_solvedWith)]) (S := []) (List.forall_mem_cons.mpr ⟨⟨mX1_solvedWith, n + 3, 3, TX1, 7, rfl, by omega, kX1_78, WX1_solvedWith, rfl, CX1_solvedWith g (n)⟩, (fun _ h => absurd h List.not_mem_nil)⟩) (fun _ h => absurd h List.not_mem_nil) [] 30 _ _ _ _ ?_
                simp (maxSteps := 1000000) [↓Bool.cond_eq_ite, -Prod.forall, -Prod.exists, -Prod.mk.injEq, jvk, tX1_leastWorth, jtb, jol, jst, jlk, jcmp, jbin, jfl, fX1, jc2, lX1, jcat, jel, lv_args, Value.category, jins, jsrt, jins2, jble, jblt, jf3, List.filter_cons, List.filter_nil, G_choice, G_tchoice, G_flat, oX1_solvedWith, joRIII, -Int32.not_le, -Int32.not_lt, -Int64.not_le, -Int64.not_lt, i3lt, i6lt, f0, f7, f8, f19, f20, ji, eci, e9, c3', c4', nI_1]
                try simp (disch := omega) [-Prod.forall, -Prod.exists, -Prod.mk.injEq, -Int32.not_le, -Int32.not_lt, -Int64.not_le, -Int64.not_lt, i3lt, i6lt, f0, f7, f8, f19, f20, ji, eci, e9, c3', c4', nI_1]
                exact hp _ _ ⟨by rw [hf], s3⟩
              · have c4' : (9999 : Int32) ≤ nI (t - s) := nI_le (a := 9999) (by omega) (by omega)
                have hf : ff (gP σ b i r) 10000 0 = -1 := ff_not _ _ (fun q _ hq => by
                  by_cases z : q = t - s
                  · rw [z]; exact notE
                  · exact no q t eB (by omega))
                refine jvk_ok TX1_leastWorth (V := [(78, 4, 1, oX1_solvedWith)]) (S := []) (List.forall_mem_cons.mpr ⟨⟨mX1_solvedWith, n + 3, 3, TX1, 7, rfl, by omega, kX1_78, WX1_solvedWith, rfl, CX1_solvedWith g (n)⟩, (fun _ h => absurd h List.not_mem_nil)⟩) (fun _ h => absurd h List.not_mem_nil) [] 30 _ _ _ _ ?_
                simp (maxSteps := 1000000) [↓Bool.cond_eq_ite, -Prod.forall, -Prod.exists, -Prod.mk.injEq, jvk, tX1_leastWorth, jtb, jol, jst, jlk, jcmp, jbin, jfl, fX1, jc2, lX1, jcat, jel, lv_args, Value.category, jins, jsrt, jins2, jble, jblt, jf3, List.filter_cons, List.filter_nil, G_choice, G_tchoice, G_flat, oX1_solvedWith, joRIII, -Int32.not_le, -Int32.not_lt, -Int64.not_le, -Int64.not_lt, i3lt, i6lt, f0, f7, f8, f19, f20, ji, eci, e9, c3', c4']
                try simp (disch := omega) [-Prod.forall, -Prod.exists, -Prod.mk.injEq, -Int32.not_le, -Int32.not_lt, -Int64.not_le, -Int64.not_lt, i3lt, i6lt, f0, f7, f8, f19, f20, ji, eci, e9, c3', c4']
                exact hp _ _ ⟨by rw [hf], s3⟩
          · have c2' : ¬ nI (t - s) ≤ 9999 := nI_ge (a := 9999) (by omega) (by omega)
            have hf : ff (gP σ b i r) 10000 0 = -1 := ff_not _ _ (fun q _ hq => no q t eB (by omega))
            refine jvk_ok TX1_leastWorth (V := [(78, 4, 1, oX1_solvedWith)]) (S := []) (List.forall_mem_cons.mpr ⟨⟨mX1_solvedWith, n + 3, 3, TX1, 7, rfl, by omega, kX1_78, WX1_solvedWith, rfl, CX1_solvedWith g (n)⟩, (fun _ h => absurd h List.not_mem_nil)⟩) (fun _ h => absurd h List.not_mem_nil) [] 40 _ _ _ _ ?_
            simp (maxSteps := 1000000) [↓Bool.cond_eq_ite, -Prod.forall, -Prod.exists, -Prod.mk.injEq, jvk, tX1_leastWorth, jtb, jol, jst, jlk, jcmp, jbin, jfl, fX1, jc2, lX1, jcat, jel, lv_args, Value.category, jins, jsrt, jins2, jble, jblt, jf3, List.filter_cons, List.filter_nil, G_choice, G_tchoice, G_flat, oX1_solvedWith, joRIII, -Int32.not_le, -Int32.not_lt, -Int64.not_le, -Int64.not_lt, i3lt, i6lt, eq, c0, e1, n1, c1', e2, c2']
            try simp (disch := omega) [-Prod.forall, -Prod.exists, -Prod.mk.injEq, -Int32.not_le, -Int32.not_lt, -Int64.not_le, -Int64.not_lt, i3lt, i6lt, eq, c0, e1, n1, c1', e2, c2']
            exact hp _ _ ⟨by rw [hf], s2⟩
        · have c1' : ¬ nI s ≤ nI t := nI_ge (by omega) (by omega)
          have hf : ff (gP σ b i r) 10000 0 = 0 := by
            have := ff_is (p := gP σ b i r) 10000 0 0 (by decide) (yes 0 (fun t' ht' => by rw [eB] at ht'; cases ht'; omega)) (fun q hq => by omega)
            exact this
          refine jvk_ok TX1_leastWorth (V := [(78, 4, 1, oX1_solvedWith)]) (S := []) (List.forall_mem_cons.mpr ⟨⟨mX1_solvedWith, n + 3, 3, TX1, 7, rfl, by omega, kX1_78, WX1_solvedWith, rfl, CX1_solvedWith g (n)⟩, (fun _ h => absurd h List.not_mem_nil)⟩) (fun _ h => absurd h List.not_mem_nil) [] 30 _ _ _ _ ?_
          simp (maxSteps := 1000000) [↓Bool.cond_eq_ite, -Prod.forall, -Prod.exists, -Prod.mk.injEq, jvk, tX1_leastWorth, jtb, jol, jst, jlk, jcmp, jbin, jfl, fX1, jc2, lX1, jcat, jel, lv_args, Value.category, jins, jsrt, jins2, jble, jblt, jf3, List.filter_cons, List.filter_nil, G_choice, G_tchoice, G_flat, oX1_solvedWith, joRIII, -Int32.not_le, -Int32.not_lt, -Int64.not_le, -Int64.not_lt, i3lt, i6lt, eq, c0, e1, n1, c1']
          try simp (disch := omega) [-Prod.forall, -Prod.exists, -Prod.mk.injEq, -Int32.not_le, -Int32.not_lt, -Int64.not_le, -Int64.not_lt, i3lt, i6lt, eq, c0, e1, n1, c1']
          exact hp _ _ ⟨by rw [hf], s2⟩
    · have ha6 := bdB a.1 hB
      have hn : oA = none := by
        rcases e : oA with _ | s
        · rfl
        · have := h1.2.1 s 1000000 e rfl
          omega
      have eq : qs (some a) - 1000000 = iI ((a.1 : Int) - 1000000) := iI_sub (a.1 : Int) 1000000
      have c0 : ¬ 0 ≤ iI ((a.1 : Int) - 1000000) := fun z => by
        rw [Int32.le_iff_toInt_le, iI_toInt ⟨by omega, by omega⟩] at z
        have : ((0 : Int32)).toInt = 0 := by decide
        omega
      refine jvk_ok TX1_leastWorth (V := [(78, 4, 1, oX1_solvedWith)]) (S := []) (List.forall_mem_cons.mpr ⟨⟨mX1_solvedWith, n + 3, 3, TX1, 7, rfl, by omega, kX1_78, WX1_solvedWith, rfl, CX1_solvedWith g (n)⟩, (fun _ h => absurd h List.not_mem_nil)⟩) (fun _ h => absurd h List.not_mem_nil) [] 20 _ _ _ _ ?_
      simp (maxSteps := 1000000) [↓Bool.cond_eq_ite, -Prod.forall, -Prod.exists, -Prod.mk.injEq, jvk, tX1_leastWorth, jtb, jol, jst, jlk, jcmp, jbin, jfl, fX1, jc2, lX1, jcat, jel, lv_args, Value.category, jins, jsrt, jins2, jble, jblt, jf3, List.filter_cons, List.filter_nil, G_choice, G_tchoice, G_flat, oX1_solvedWith, joRIII, -Int32.not_le, -Int32.not_lt, -Int64.not_le, -Int64.not_lt, i3lt, i6lt, eq, c0]
      try simp (disch := omega) [-Prod.forall, -Prod.exists, -Prod.mk.injEq, -Int32.not_le, -Int32.not_lt, -Int64.not_le, -Int64.not_lt, i3lt, i6lt, eq, c0]
      exact hp _ _ ⟨by rw [never hn], s2⟩
