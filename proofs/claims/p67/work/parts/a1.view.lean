/-! what the proposal says of the flat -/
/-- what a proposal is made of is the same -/
def flE (σ τ : jM) : Prop := (∀ j, j < 3 → τ.1 37 j = σ.1 37 j) ∧ ∀ c, 38 ≤ c → c ≤ 51 → τ.1 c = σ.1 c
theorem flE_of {σ τ : jM} (h : ∀ c, 37 ≤ c → c ≤ 56 → τ.1 c = σ.1 c) : flE σ τ := ⟨fun j _ => by rw [h 37 (by omega) (by omega)], fun c h1 h2 => h c (by omega) (by omega)⟩
theorem fl_sameE {σ τ : jM} (hok : fOK σ) (h : flE σ τ) : (fN τ = fN σ ∧ liv τ = liv σ ∧ flM τ = flM σ ∧ fRm τ = fRm σ) ∧ flW τ = flW σ ∧ flC τ = flC σ ∧ flI τ = flI σ ∧ flL τ = flL σ ∧ flS τ = flS σ := by
  have e38 := h.2 38 (by omega) (by omega)
  have e39 := h.2 39 (by omega) (by omega)
  have e40 := h.2 40 (by omega) (by omega)
  have n10 := (fOK_n hok).1.1
  have a1 : fN τ = fN σ := by unfold fN; rw [h.1 1 (by omega)]
  have a2 : liv τ = liv σ := by unfold liv; rw [e39]
  have a3 : flM τ = flM σ := by unfold flM; rw [a1, a2]
  have a4 : fRm τ = fRm σ := by unfold fRm; rw [h.1 0 (by omega)]
  have a5 : flW τ = flW σ := by
    funext i r
    unfold flW
    rw [a3, a4, a2, a1]
    by_cases c : i < flM σ ∧ r < fRm σ
    · have := (qpl_is (p := liv σ) (N := fN σ) c.1).2.1
      rw [if_pos c, if_pos c, h.2 (42 + qpl (liv σ) (fN σ) i) (by omega) (by omega)]
    · rw [if_neg c, if_neg c]
  refine ⟨⟨a1, a2, a3, a4⟩, a5, ?_, ?_, ?_, ?_⟩
  · unfold flC; rw [a3, a5, a4]
  · funext i; unfold flI; rw [e40, a2, a1]
  · unfold flL; rw [h.1 2 (by omega)]
  · unfold flS; rw [e38]
theorem fl_same {σ τ : jM} (hok : fOK σ) (h : ∀ c, 37 ≤ c → c ≤ 56 → τ.1 c = σ.1 c) : (fN τ = fN σ ∧ liv τ = liv σ ∧ flM τ = flM σ ∧ fRm τ = fRm σ) ∧ flW τ = flW σ ∧ flC τ = flC σ ∧ flI τ = flI σ ∧ flL τ = flL σ ∧ flS τ = flS σ := fl_sameE hok (flE_of h)
theorem fOK_sameE {σ τ : jM} (h : fOK σ) (e : flE σ τ) : fOK τ := by
  unfold fOK
  rw [e.1 0 (by omega), e.1 1 (by omega)]
  exact h
theorem flOK_sameE {σ τ : jM} (hf : flOK σ) (h : flE σ τ) : flOK τ := by
  obtain ⟨hok, hm, hv, hi, hl, hs⟩ := hf
  obtain ⟨⟨a1, a2, a3, a4⟩, -⟩ := fl_sameE hok h
  have n10 := (fOK_n hok).1.1
  refine ⟨fOK_sameE hok h, ?_⟩
  rw [h.1 2 (by omega), h.2 38 (by omega) (by omega), h.2 40 (by omega) (by omega), a3, a1, a4]
  exact ⟨hm, fun p hp r hr => by rw [h.2 (42 + p) (by omega) (by omega)]; exact hv p hp r hr, hi, hl, hs⟩
theorem flOK_same {σ τ : jM} (hf : flOK σ) (h : ∀ c, 37 ≤ c → c ≤ 56 → τ.1 c = σ.1 c) : flOK τ := flOK_sameE hf (flE_of h)
/-- the proposal that stands is the flat's -/
def prOK (τ : jM) : Prop := τ.1 0 5 = 1 ∧ prMk τ τ
def prIv (σ : jM) : Prop := σ.1 0 5 = 0 ∨ prOK σ
theorem prMk_self {σ τ : jM} (hf : flOK σ) (h : prMk σ τ) : prMk τ τ := by
  obtain ⟨f, h1, h2, h3, h4, h5, h6, h7⟩ := h
  obtain ⟨⟨a1, a2, a3, a4⟩, a5, a6, a7, a8, a9⟩ := fl_same hf.1 (τ := τ) (fun c q1 q2 => funext fun j => f.2.2 c j (by
    unfold aMk
    simp only [jble, Bool.and_eq_false_iff, decide_eq_false_iff_not]
    omega))
  have e37 : τ.1 37 2 = σ.1 37 2 := f.2.2 37 2 rfl
  have e38 : τ.1 38 0 = σ.1 38 0 := f.2.2 38 0 rfl
  unfold prMk prMd
  rw [a1, a2, a3, a4, a5, a6, a7, a8, a9, e37, e38]
  exact ⟨jfr.rfl, h1, h2, h3, h4, h5, h6, h7⟩
theorem prMk_ofE {σ τ : jM} (hf : flOK σ) (h : prMk σ σ) (e1 : flE σ τ) (e2 : ∀ c, 259 ≤ c → c ≤ 279 → τ.1 c = σ.1 c) : prMk τ τ := by
  obtain ⟨f, h1, h2, h3, h4, h5, h6, h7⟩ := h
  obtain ⟨⟨a1, a2, a3, a4⟩, a5, a6, a7, a8, a9⟩ := fl_sameE hf.1 e1
  have e37 : τ.1 37 2 = σ.1 37 2 := e1.1 2 (by omega)
  have e38 : τ.1 38 0 = σ.1 38 0 := by rw [e1.2 38 (by omega) (by omega)]
  have same : ∀ c, 260 ≤ c → c ≤ 271 → τ.1 c = σ.1 c := fun c q1 q2 => e2 c (by omega) (by omega)
  obtain ⟨b1, b2, b3⟩ := prH_fr same
  obtain ⟨b4, b5⟩ := b3 h1
  have ei : ivI τ 274 = ivI σ 274 := by funext k; unfold ivI; rw [e2 274 (by omega) (by omega)]
  have ew : wtN τ 275 = wtN σ 275 := by funext k; unfold wtN; rw [e2 275 (by omega) (by omega)]
  have ex : exV τ = exV σ := by unfold exV; rw [b1, e2 270 (by omega) (by omega)]
  refine ⟨jfr.rfl, b4, ?_, ?_, ?_, ?_, ?_, fun a ha => ?_⟩
  · rw [b1, a3]; exact h2
  · rw [b2, a4]; exact h3
  · rw [b5, a5]; exact h4
  · rw [a1, a2, e2 261 (by omega) (by omega)]; exact h5
  · rw [ex, a6]; exact h6
  · rw [a6] at ha
    obtain ⟨k1, k2, k3, k4, k5, k6⟩ := h7 a ha
    obtain ⟨c1, -, -, c4, -⟩ := prH_same k3 same
    unfold prMd
    rw [e2 270 (by omega) (by omega), e2 271 (by omega) (by omega), e2 259 (by omega) (by omega), a3, a5, a7, a8, a9, e37, e38, ei, ew, c4, e2 275 (by omega) (by omega), e2 274 (by omega) (by omega), e2 277 (by omega) (by omega), e2 278 (by omega) (by omega), e2 279 (by omega) (by omega), e2 272 (by omega) (by omega), e2 273 (by omega) (by omega)]
    exact ⟨k1, k2, c1, k4, k5, k6⟩
theorem prMk_of {σ τ : jM} (hf : flOK σ) (h : prMk σ σ) (e1 : ∀ c, 37 ≤ c → c ≤ 56 → τ.1 c = σ.1 c) (e2 : ∀ c, 259 ≤ c → c ≤ 279 → τ.1 c = σ.1 c) : prMk τ τ := prMk_ofE hf h (flE_of e1) e2
theorem prOK_of {σ τ : jM} (hf : flOK σ) (h : prOK σ) (e0 : τ.1 0 5 = 1) (e1 : ∀ c, 37 ≤ c → c ≤ 56 → τ.1 c = σ.1 c) (e2 : ∀ c, 259 ≤ c → c ≤ 279 → τ.1 c = σ.1 c) : prOK τ := ⟨e0, prMk_of hf h.2 e1 e2⟩
/-- what is told of a place, by the flat alone -/
def flPp (σ : jM) (s : Nat) : Nat := flL σ - iPt (flL σ) s
def flBs (σ : jM) (A : Nat → Nat) (i : Nat) : Int := bsI (flW σ) A (flM σ) (σ.1 38 0) i
def flPr (σ : jM) (A : Nat → Nat) (s i : Nat) : Int := prC (flPp σ s : Nat) (flM σ) (flBs σ A) i
def flSh (σ : jM) (s i : Nat) : Int32 := spS (iPt (flL σ) s) (fun i => (flI σ i).toNatClampNeg) (flM σ) i
def flPy (σ : jM) (A : Nat → Nat) (s i : Nat) : Int32 := tuS (flPp σ s : Nat) (flPr σ A s) (flM σ) i + flSh σ s i
theorem prC_cg {P : Int} {m : Nat} {f h : Nat → Int} (e : ∀ i, i < m → f i = h i) {i : Nat} (hi : i < m) : prC P m f i = prC P m h i := by
  unfold prC
  rw [e i hi, sI_congr m e]
/-- the place of a person -/
theorem pr_pl {τ : jM} (hf : flOK τ) (h : prOK τ) {p : Nat} (hp : p < fN τ) : plP τ (nI p) = if (flC τ).isSome = true ∧ liv τ p = true then nI (cn (liv τ) p) else -1 := by
  obtain ⟨-, f, h1, h2, h3, h4, h5, h6, h7⟩ := h
  have n10 := (fOK_n hf.1).1.1
  have row : ∀ i, i < flM τ → τ.1 261 i = nI (qpl (liv τ) (fN τ) i) ∧ qpl (liv τ) (fN τ) i < fN τ ∧ liv τ (qpl (liv τ) (fN τ) i) = true ∧ cn (liv τ) (qpl (liv τ) (fN τ) i) = i := fun i hi => by
    obtain ⟨q1, q2, q3⟩ := qpl_is (p := liv τ) (N := fN τ) hi
    have := h5 _ q2 q1
    rw [q3] at this
    exact ⟨this, q2, q1, q3⟩
  unfold plP
  rw [h6, h2]
  by_cases c : (flC τ).isSome = true
  · rw [if_pos c]
    by_cases l : liv τ p = true
    · rw [if_pos ⟨c, l⟩]
      have hcl : cn (liv τ) p < flM τ := cn_lt l hp
      have := ff_is (p := fun k => decide (τ.1 261 k = nI p)) (flM τ) 0 (cn (liv τ) p) hcl (by
        rw [Nat.zero_add, decide_eq_true_eq]
        exact h5 p hp l) (fun q hq => by
        rw [Nat.zero_add, decide_eq_true_eq]
        intro z
        obtain ⟨r1, r2, r3, r4⟩ := row q (by omega)
        rw [r1] at z
        have := (nI_eq (by omega) (by omega)).mp z
        rw [this] at r4
        omega)
      rw [Nat.zero_add] at this
      exact this
    · rw [if_neg (fun z => l z.2)]
      refine ff_not _ _ (fun q _ hq => ?_)
      rw [decide_eq_true_eq]
      intro z
      obtain ⟨r1, r2, r3, r4⟩ := row q (by omega)
      rw [r1] at z
      have := (nI_eq (by omega) (by omega)).mp z
      rw [this] at r3
      exact l r3
  · rw [if_neg c, if_neg (fun z => c z.1)]
/-- the numbers of a place -/
theorem pr_at {τ : jM} (h : prOK τ) {a : Nat × Nat × (Nat → Nat)} (ha : flC τ = some a) : 0 < flM τ ∧ τ.1 270 0 = nI a.1 ∧ τ.1 271 0 = nI a.2.1 ∧ τ.1 259 5 = τ.1 37 2 ∧ ∀ i, i < flM τ → τ.1 269 i = nI (a.2.2 i) ∧ a.2.2 i < fRm τ ∧ (flW τ i (a.2.2 i)).isSome = true ∧ τ.1 272 i = iI (gLo (flW τ) a.2.2 (flM τ) i) ∧ τ.1 273 i = iI (- gHi (flW τ) a.2.2 (flM τ) i) ∧ τ.1 274 i = iI (flBs τ a.2.2 i) ∧ τ.1 275 i = flI τ i ∧ τ.1 277 i = iI (flPr τ a.2.2 (flS τ) i) ∧ τ.1 278 i = flSh τ (flS τ) i ∧ τ.1 279 i = flPy τ a.2.2 (flS τ) i ∧ (0 ≤ gLo (flW τ) a.2.2 (flM τ) i ∧ gLo (flW τ) a.2.2 (flM τ) i ≤ 5999400) ∧ (0 ≤ gHi (flW τ) a.2.2 (flM τ) i ∧ gHi (flW τ) a.2.2 (flM τ) i ≤ 5999400) ∧ -10000000 ≤ flBs τ a.2.2 i ∧ flBs τ a.2.2 i ≤ 10000000 := by
  obtain ⟨-, f, h1, h2, h3, h4, h5, h6, h7⟩ := h
  obtain ⟨k1, k2, k3, k4, k5, k6⟩ := h7 a ha
  obtain ⟨w1, w2, w3, -, -⟩ := prH_all k3
  rw [h2, k4] at w1
  have bd : ∀ i, i < flM τ → (0 ≤ gLo (flW τ) a.2.2 (flM τ) i ∧ gLo (flW τ) a.2.2 (flM τ) i ≤ 5999400) ∧ 0 ≤ gHi (flW τ) a.2.2 (flM τ) i ∧ gHi (flW τ) a.2.2 (flM τ) i ≤ 5999400 := fun i hi => by
    have b := pr_bd k3 (k := i) (by rw [h2]; exact hi)
    unfold prLo prHi at b
    rw [h4, k4, h2] at b
    exact ⟨⟨b.2.2.1, b.1⟩, b.2.2.2, b.2.1⟩
  have bs : ∀ i, i < flM τ → τ.1 274 i = iI (flBs τ a.2.2 i) ∧ -10000000 ≤ flBs τ a.2.2 i ∧ flBs τ a.2.2 i ≤ 10000000 := fun i hi => by
    obtain ⟨m1, m2, -, -, -, m6, m7⟩ := k6 i hi
    have := basV_I (x := τ.1 38 0) m6 m7 (bd i hi).1 (bd i hi).2
    exact ⟨m2, this.2.1, this.2.2⟩
  have ei : ∀ i, i < flM τ → ivI τ 274 i = flBs τ a.2.2 i := fun i hi => by
    obtain ⟨b1, b2, b3⟩ := bs i hi
    unfold ivI
    rw [b1, iI_toInt ⟨by omega, by omega⟩]
  have ew : ∀ i, i < flM τ → wtN τ 275 i = (flI τ i).toNatClampNeg := fun i hi => by
    unfold wtN
    rw [(k6 i hi).1]
  have ep : ∀ i, i < flM τ → prC (flL τ - iPt (flL τ) (flS τ) : Nat) (flM τ) (ivI τ 274) i = flPr τ a.2.2 (flS τ) i := fun i hi => prC_cg ei hi
  refine ⟨by rw [← h2]; exact k3.2.2.1, k1, k2, k5, fun i hi => ?_⟩
  obtain ⟨m1, m2, m3, m4, m5, m6, m7⟩ := k6 i hi
  obtain ⟨v1, v2, v3⟩ := w1 i hi
  have es : spS (iPt (flL τ) (flS τ)) (wtN τ 275) (flM τ) i = flSh τ (flS τ) i := spS_congr ew i hi
  refine ⟨v3, by rw [← h3]; exact v1, by rw [← h4]; exact v2, m6, m7, m2, m1, by rw [m3, ep i hi], by rw [m4, es], ?_, (bd i hi).1, (bd i hi).2, (bs i hi).2.1, (bs i hi).2.2⟩
  rw [m5, es]
  unfold flPy
  rw [tuS_congr ep i hi]
  rfl
theorem pr_ex {τ : jM} (h : prOK τ) : exV τ = (flC τ).isSome ∧ cOK τ 260 ∧ cM τ 260 = flM τ := ⟨h.2.2.2.2.2.2.2.1, h.2.2.1, h.2.2.2.1⟩
/-- the room of a person in the proposal, its payment -/
def clR (σ : jM) (p : Nat) : Int32 := qch (flC σ) (liv σ) (fN σ) p
def clY (σ : jM) (p : Nat) : Int32 := match flC σ with
  | none => 0
  | some a => if liv σ p = true then flPy σ a.2.2 (flS σ) (cn (liv σ) p) else 0
theorem pr_room {τ : jM} (hf : flOK τ) (h : prOK τ) {p : Nat} (hp : p < fN τ) : (if plP τ (nI p) = -1 then -1 else τ.1 269 (plP τ (nI p)).toNatClampNeg) = clR τ p ∧ (if plP τ (nI p) = -1 then 0 else τ.1 279 (plP τ (nI p)).toNatClampNeg) = clY τ p := by
  have n10 := (fOK_n hf.1).1.1
  rw [pr_pl hf h hp]
  unfold clR clY
  rcases e : flC τ with _ | a
  · have e0 : (if (none : qC).isSome = true ∧ liv τ p = true then nI (cn (liv τ) p) else (-1 : Int32)) = -1 := if_neg (by simp)
    rw [e0]
    exact ⟨(if_pos rfl).trans rfl, (if_pos rfl).trans rfl⟩
  · have k := pr_at h e
    by_cases l : liv τ p = true
    · have hcl : cn (liv τ) p < flM τ := cn_lt l hp
      have hc := cn_le (liv τ) p
      have e0 : (if (some a : qC).isSome = true ∧ liv τ p = true then nI (cn (liv τ) p) else (-1 : Int32)) = nI (cn (liv τ) p) := if_pos ⟨rfl, l⟩
      rw [e0, if_neg (fun z => (nI_m1 (by omega)).mp z), if_neg (fun z => (nI_m1 (by omega)).mp z), nI_clamp (by omega)]
      have := k.2.2.2.2 _ hcl
      refine ⟨?_, ?_⟩
      · rw [this.1]
        show _ = if liv τ p = true ∧ p < fN τ then nI (a.2.2 (cn (liv τ) p)) else -1
        rw [if_pos ⟨l, hp⟩]
      · rw [this.2.2.2.2.2.2.2.2.2.1]
        exact (if_pos l).symm
    · have e0 : (if (some a : qC).isSome = true ∧ liv τ p = true then nI (cn (liv τ) p) else (-1 : Int32)) = -1 := if_neg (fun z => l z.2)
      rw [e0, if_pos rfl, if_pos rfl]
      refine ⟨?_, (if_neg l).symm⟩
      show _ = if liv τ p = true ∧ p < fN τ then nI (a.2.2 (cn (liv τ) p)) else -1
      rw [if_neg (fun z => l z.1)]
