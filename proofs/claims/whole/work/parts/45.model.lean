/-! the reference tries all choices of rooms -/
def jfr (A : Nat → Nat → Bool) (B : Nat → Bool) (σ τ : jM) : Prop := τ.2.2 = σ.2.2 ∧ (∀ a j, B a = false → τ.2.1 a j = σ.2.1 a j) ∧ ∀ a j, A a j = false → τ.1 a j = σ.1 a j
theorem jfr.rfl {A : Nat → Nat → Bool} {B : Nat → Bool} {σ : jM} : jfr A B σ σ := ⟨Eq.refl _, fun _ _ _ => Eq.refl _, fun _ _ _ => Eq.refl _⟩
theorem jfr.trans {A A' A'' : Nat → Nat → Bool} {B B' B'' : Nat → Bool} {σ τ ρ : jM} (h : jfr A B σ τ) (h2 : jfr A' B' τ ρ) (hA : ∀ a j, A'' a j = false → A a j = false ∧ A' a j = false) (hB : ∀ a, B'' a = false → B a = false ∧ B' a = false) : jfr A'' B'' σ ρ :=
  ⟨h2.1.trans h.1, fun a j q => (h2.2.1 a j (hB a q).2).trans (h.2.1 a j (hB a q).1), fun a j q => (h2.2.2 a j (hA a j q).2).trans (h.2.2 a j (hA a j q).1)⟩
theorem jfr.tr {A : Nat → Nat → Bool} {B : Nat → Bool} {σ τ ρ : jM} (h : jfr A B σ τ) (h2 : jfr A B τ ρ) : jfr A B σ ρ := h.trans h2 (fun _ _ q => ⟨q, q⟩) (fun _ q => ⟨q, q⟩)
theorem jfr.up {A : Nat → Nat → Bool} {B : Nat → Bool} {σ τ : jM} (h : jfr A B σ τ) {a j : Nat} (x : Int32) (hA : A a j = true) : jfr A B σ (jup τ a j x) :=
  ⟨h.1, h.2.1, fun b i q => by
    rw [jup_1, if_neg (by rintro ⟨rfl, rfl⟩; rw [hA] at q; cases q)]
    exact h.2.2 b i q⟩
theorem jfr.upL {A : Nat → Nat → Bool} {B : Nat → Bool} {σ τ : jM} (h : jfr A B σ τ) {a j : Nat} (x : Int64) (hB : B a = true) : jfr A B σ (jupL τ a j x) :=
  ⟨h.1, fun b i q => by
    rw [jupL_2, if_neg (by rintro ⟨rfl, rfl⟩; rw [hB] at q; cases q)]
    exact h.2.1 b i q, h.2.2⟩
theorem jfr.weak {A A' : Nat → Nat → Bool} {B B' : Nat → Bool} {σ τ : jM} (h : jfr A B σ τ) (hA : ∀ a j, A' a j = false → A a j = false) (hB : ∀ a, B' a = false → B a = false) : jfr A' B' σ τ :=
  ⟨h.1, fun a j q => h.2.1 a j (hB a q), fun a j q => h.2.2 a j (hA a j q)⟩
def b0 (_ : Nat) : Bool := false
def qch (acc : qC) (l : Nat → Bool) (N q : Nat) : Int32 := match acc with
  | none => -1
  | some a => if l q = true ∧ q < N then nI (a.2.2 (cn l q)) else -1
def qs (acc : qC) : Int32 := match acc with
  | none => -1
  | some a => nI a.1
def qc (acc : qC) : Int32 := match acc with
  | none => 0
  | some a => nI a.2.1
/-- the best choice so far -/
def accOK (σ : jM) (acc : qC) : Prop := σ.1 322 14 = qs acc ∧ σ.1 322 15 = qc acc ∧ (∀ q, q < 10 → σ.1 330 q = qch acc (dL (σ.1 323)) (mN σ) q) ∧ ∀ a, acc = some a → a.1 ≤ 100000
/-- the rooms tried for those below p -/
def triOK (σ : jM) (p : Nat) (h : Nat → Nat) : Prop := ∀ q, q < 10 → σ.1 331 q = if q < p ∧ dL (σ.1 323) q = true then nI (h (cn (dL (σ.1 323)) q)) else -1
def mRo (σ : jM) : Nat := (σ.1 322 3).toNatClampNeg
def aTr (a j : Nat) : Bool := a == 330 || a == 331 || a == 322 && (j == 14 || j == 15)
def zTr (σ : jM) (d p t s : Nat) (h : Nat → Nat) (acc : qC) : Prop := mOK σ ∧ dOK (σ.1 323) ∧ p ≤ mN σ ∧ mN σ ≤ p + d ∧ t < 64 ∧ s ≤ 10000 * p ∧ triOK σ p h ∧ accOK σ acc
def eTr (σ : jM) (p t s : Nat) (h : Nat → Nat) : qC := qP s (cn (dL (σ.1 323)) p) h (qT (dW (σ.1 323) (mN σ)) (mRo σ) (cn (dL (σ.1 323)) (mN σ) - cn (dL (σ.1 323)) p) (cn (dL (σ.1 323)) p) t)
def pTr (σ τ : jM) (p t s : Nat) (h : Nat → Nat) (acc : qC) : Prop := jfr aTr b0 σ τ ∧ (∀ j, j < 10 → τ.1 331 j = σ.1 331 j) ∧ accOK τ (qB acc (eTr σ p t s h))
def oTr (d p t s : Nat) (h : Nat → Nat) (acc : qC) : jO := joRIII fun a x y z σ => (a = 322 ∧ x = nI p ∧ y = nI t ∧ z = nI s ∧ zTr σ d p t s h acc, fun v τ => v = none ∧ pTr σ τ p t s h acc)
theorem accOK_fr {σ τ : jM} {A : Nat → Nat → Bool} {B : Nat → Bool} {acc : qC} (h : accOK σ acc) (f : jfr A B σ τ) (hA : ∀ j, A 323 j = false) (h1 : A 322 4 = false) (h14 : A 322 14 = false) (h15 : A 322 15 = false) (h330 : ∀ q, q < 10 → τ.1 330 q = σ.1 330 q) : accOK τ acc := by
  have e : τ.1 323 = σ.1 323 := funext fun j => f.2.2 _ _ (hA j)
  unfold accOK mN at h ⊢
  rw [e, f.2.2 _ _ h1, f.2.2 _ _ h14, f.2.2 _ _ h15]
  exact ⟨h.1, h.2.1, fun q hq => (h330 q hq).trans (h.2.2.1 q hq), h.2.2.2⟩

set_option maxRecDepth 100000 in
set_option maxHeartbeats 4000000 in
theorem CTr_leaf (g : jG) (n lv : Nat) (hlv : n + 3 ≤ lv) {post : Option Value → jM → Prop} (σ : jM) (p t s : Nat) (h : Nat → Nat) (acc : qC) (d : Nat) (hz : zTr σ d p t s h acc) (L : List (Nat × Value)) (hsk : ∀ q, p ≤ q → q < mN σ → dL (σ.1 323) q = false)
    (hp : ∀ τ, pTr σ τ p t s h acc → post none τ) : jW g mX12_tries lv post 36 [(0, .ref 322), (3, .int (nI s))] [] σ := by
  obtain ⟨hok, hd, hpN, hNd, ht, hs, htr, hacc⟩ := hz
  obtain ⟨N, hN, hN1, hN2⟩ := nI_rng hok.1.1 hok.1.2 (by decide)
  have eN : mN σ = N := hN2
  have ecn : cn (dL (σ.1 323)) (mN σ) = cn (dL (σ.1 323)) p := cn_skip hpN hsk
  have eE : eTr σ p t s h = some (s, 1, fun j => if j < cn (dL (σ.1 323)) p then h j else 0) := by
    unfold eTr
    rw [ecn, Nat.sub_self]
    simp [qT, qP]
  have key : ∀ σ1 : jM, jfr (fun a j => a == 322 && (j == 14 || j == 15)) b0 σ σ1 → σ1.1 322 14 = nI s → σ1.1 322 15 = qc (qB acc (eTr σ p t s h)) → qs (qB acc (eTr σ p t s h)) = nI s → (∀ q, q < 10 → qch (qB acc (eTr σ p t s h)) (dL (σ.1 323)) (mN σ) q = σ.1 331 q) → (∀ a, qB acc (eTr σ p t s h) = some a → a.1 ≤ 100000) → jW g mX12_tries lv post 87 [(0, .ref 322)] [] σ1 := by
    intro σ1 f1 e14 e15 eqs eq bnd
    have f330 : ∀ j, σ1.1 330 j = σ.1 330 j := fun j => f1.2.2 330 j rfl
    have f331 : ∀ j, σ1.1 331 j = σ.1 331 j := fun j => f1.2.2 331 j rfl
    refine jvk_ok TX12_tries (V := [(131, 2, 12, oX12_isLiving), (148, 3, 12, oX12_isRefused), (145, 3, 12, oX12_value)]) (S := []) (List.forall_mem_cons.mpr ⟨⟨mX12_isLiving, n + 2, 1, TX12, 53, rfl, by omega, kX12_131, WX12_isLiving, rfl, CX12_isLiving g (n)⟩, (List.forall_mem_cons.mpr ⟨⟨mX12_isRefused, n + 2, 2, TX12, 53, rfl, by omega, kX12_148, WX12_isRefused, rfl, CX12_isRefused g (n)⟩, (List.forall_mem_cons.mpr ⟨⟨mX12_value, n + 2, 2, TX12, 53, rfl, by omega, kX12_145, WX12_value, rfl, CX12_value g (n)⟩, (fun _ h => absurd h List.not_mem_nil)⟩)⟩)⟩) (fun _ h => absurd h List.not_mem_nil) [90] 20 _ _ _ _ ?_
    simp (maxSteps := 1000000) [↓Bool.cond_eq_ite, -Prod.forall, -Prod.exists, -Prod.mk.injEq, jvk, tX12_tries, jtb, jol, jst, jlk, jcmp, jbin, jfl, fX12, jc2, lX12, jcat, jel, lv_args, Value.category, jins, jsrt, jins2, jble, jblt, jf3, List.filter_cons, List.filter_nil, G_m, oX12_isLiving, oX12_isRefused, oX12_value, joRI, joRII]
    have key := jloop (P := fun k => ∀ σ2 : jM, jfr (fun a j => a == 330 && decide (j < 10)) b0 σ1 σ2 → (∀ q, q < k → σ2.1 330 q = σ.1 331 q) → jW g mX12_tries lv post 90 [(0, .ref 322), (5, .int (nI k))] [] σ2) (N := 10) (fun σ2 f2 hq => by
      refine jvk_ok TX12_tries (V := [(131, 2, 12, oX12_isLiving), (148, 3, 12, oX12_isRefused), (145, 3, 12, oX12_value)]) (S := []) (List.forall_mem_cons.mpr ⟨⟨mX12_isLiving, n + 2, 1, TX12, 53, rfl, by omega, kX12_131, WX12_isLiving, rfl, CX12_isLiving g (n)⟩, (List.forall_mem_cons.mpr ⟨⟨mX12_isRefused, n + 2, 2, TX12, 53, rfl, by omega, kX12_148, WX12_isRefused, rfl, CX12_isRefused g (n)⟩, (List.forall_mem_cons.mpr ⟨⟨mX12_value, n + 2, 2, TX12, 53, rfl, by omega, kX12_145, WX12_value, rfl, CX12_value g (n)⟩, (fun _ h => absurd h List.not_mem_nil)⟩)⟩)⟩) (fun _ h => absurd h List.not_mem_nil) [90] 20 _ _ _ _ ?_
      simp (maxSteps := 1000000) [↓Bool.cond_eq_ite, -Prod.forall, -Prod.exists, -Prod.mk.injEq, jvk, tX12_tries, jtb, jol, jst, jlk, jcmp, jbin, jfl, fX12, jc2, lX12, jcat, jel, lv_args, Value.category, jins, jsrt, jins2, jble, jblt, jf3, List.filter_cons, List.filter_nil, G_m, oX12_isLiving, oX12_isRefused, oX12_value, joRI, joRII, nI_1]
      try simp (disch := omega) [nI_1, nI_clamp, nI_leI, nI_ltI, nI_eq, nI_m1, NL_0, NL_1, NL_2, NL_3, NL_5, NL_6, NL_9, NL_10, NL_11, NL_12, NL_20, NL_24, NL_25, NL_60, NL_64, NL_90, NL_100, NL_120, NL_900, NL_999, NL_9999, NL_99999, NL_1000000, NL_208, NL_2080, NL_10000]
      refine hp _ ⟨?_, fun j hj => (f2.2.2 331 j rfl).trans (f331 j), ?_, ?_, ?_, bnd⟩
      · exact f1.trans f2 (fun a j q => by
          simp only [aTr, Bool.or_eq_false_iff, Bool.and_eq_false_iff] at q
          grind) (fun a q => ⟨rfl, rfl⟩)
      · rw [f2.2.2 322 14 rfl, e14, eqs]
      · rw [f2.2.2 322 15 rfl, e15]
      · intro q hq1
        have e1 : σ2.1 323 = σ.1 323 := funext fun j => (f2.2.2 323 j rfl).trans (f1.2.2 323 j rfl)
        have e2 : mN σ2 = mN σ := by unfold mN; rw [f2.2.2 322 4 rfl, f1.2.2 322 4 rfl]
        rw [hq q hq1, e1, e2, eq q hq1]) (fun k hk ih σ2 f2 hq => by
      refine jvk_ok TX12_tries (V := [(131, 2, 12, oX12_isLiving), (148, 3, 12, oX12_isRefused), (145, 3, 12, oX12_value)]) (S := []) (List.forall_mem_cons.mpr ⟨⟨mX12_isLiving, n + 2, 1, TX12, 53, rfl, by omega, kX12_131, WX12_isLiving, rfl, CX12_isLiving g (n)⟩, (List.forall_mem_cons.mpr ⟨⟨mX12_isRefused, n + 2, 2, TX12, 53, rfl, by omega, kX12_148, WX12_isRefused, rfl, CX12_isRefused g (n)⟩, (List.forall_mem_cons.mpr ⟨⟨mX12_value, n + 2, 2, TX12, 53, rfl, by omega, kX12_145, WX12_value, rfl, CX12_value g (n)⟩, (fun _ h => absurd h List.not_mem_nil)⟩)⟩)⟩) (fun _ h => absurd h List.not_mem_nil) [90] 20 _ _ _ _ ?_
      simp (maxSteps := 1000000) [↓Bool.cond_eq_ite, -Prod.forall, -Prod.exists, -Prod.mk.injEq, jvk, tX12_tries, jtb, jol, jst, jlk, jcmp, jbin, jfl, fX12, jc2, lX12, jcat, jel, lv_args, Value.category, jins, jsrt, jins2, jble, jblt, jf3, List.filter_cons, List.filter_nil, G_m, oX12_isLiving, oX12_isRefused, oX12_value, joRI, joRII, nI_1]
      try simp (disch := omega) [nI_1, nI_clamp, nI_leI, nI_ltI, nI_eq, nI_m1, NL_0, NL_1, NL_2, NL_3, NL_5, NL_6, NL_9, NL_10, NL_11, NL_12, NL_20, NL_24, NL_25, NL_60, NL_64, NL_90, NL_100, NL_120, NL_900, NL_999, NL_9999, NL_99999, NL_1000000, NL_208, NL_2080, NL_10000]
      refine ⟨fun h => by omega, fun _ => ⟨jin_nI (by omega) (by omega), ?_⟩⟩
      refine ih _ (f2.up _ (by simp [hk])) (fun q hq2 => ?_)
      rw [jup_1, f2.2.2 331 k rfl, f331]
      by_cases e : q = k
      · subst e; simp
      · rw [if_neg (by simp [e])]
        exact hq q (by omega))
    simpa [nI_0] using key σ1 jfr.rfl (fun q hq => by omega)
  have htq : ∀ q, q < 10 → qch (eTr σ p t s h) (dL (σ.1 323)) (mN σ) q = σ.1 331 q := by
    intro q hq
    rw [htr q hq, eE, qch]
    by_cases e1 : dL (σ.1 323) q = true
    · by_cases e2 : q < p
      · have := cn_lt e1 e2
        simp only [e1, e2, true_and, and_self, if_true]
        rw [if_pos (by omega), if_pos this]
      · by_cases e3 : q < mN σ
        · have := hsk q (by omega) e3
          rw [e1] at this; cases this
        · simp [e1, e2, e3]
    · simp [e1]
  have keep : ∀ σ1 : jM, jfr (fun a j => a == 322 && (j == 14 || j == 15)) b0 σ σ1 → σ1.1 322 14 = qs (qB acc (eTr σ p t s h)) → σ1.1 322 15 = qc (qB acc (eTr σ p t s h)) → (∀ q, q < 10 → qch (qB acc (eTr σ p t s h)) (dL (σ.1 323)) (mN σ) q = σ.1 330 q) → (∀ a, qB acc (eTr σ p t s h) = some a → a.1 ≤ 100000) → post none σ1 := by
    intro σ1 f1 e14 e15 eq bnd
    have e1 : σ1.1 323 = σ.1 323 := funext fun j => f1.2.2 323 j rfl
    have e2 : mN σ1 = mN σ := by unfold mN; rw [f1.2.2 322 4 rfl]
    refine hp _ ⟨f1.weak (fun a j q => by simp only [aTr] at q; grind) (fun _ q => q), fun j _ => f1.2.2 331 j rfl, e14, e15, fun q hq => ?_, bnd⟩
    rw [e1, e2, f1.2.2 330 q rfl, eq q hq]
  obtain ⟨a14, a15, a330, abd⟩ := hacc
  have up1 : ∀ x y : Int32, jfr (fun a j => a == 322 && (j == 14 || j == 15)) b0 σ (jup (jup σ 322 15 x) 322 14 y) := fun x y => (jfr.rfl.up _ rfl).up _ rfl
  have up2 : ∀ x : Int32, jfr (fun a j => a == 322 && (j == 14 || j == 15)) b0 σ (jup σ 322 15 x) := fun x => jfr.rfl.up _ rfl
  rcases acc with _ | a
  · have a14' : σ.1 322 14 = -1 := a14
    have h1 : ¬ nI s = -1 := fun q => (nI_m1 (by omega)).mp q
    have h2 : (-1 : Int32) < nI s := by
      rw [Int32.lt_iff_toInt_lt, nI_toInt (by omega)]
      have : (-1 : Int32).toInt = -1 := by decide
      omega
    have h3 : ¬ nI s ≤ -1 := by grind
    refine jvk_ok TX12_tries (V := [(131, 2, 12, oX12_isLiving), (148, 3, 12, oX12_isRefused), (145, 3, 12, oX12_value)]) (S := []) (List.forall_mem_cons.mpr ⟨⟨mX12_isLiving, n + 2, 1, TX12, 53, rfl, by omega, kX12_131, WX12_isLiving, rfl, CX12_isLiving g (n)⟩, (List.forall_mem_cons.mpr ⟨⟨mX12_isRefused, n + 2, 2, TX12, 53, rfl, by omega, kX12_148, WX12_isRefused, rfl, CX12_isRefused g (n)⟩, (List.forall_mem_cons.mpr ⟨⟨mX12_value, n + 2, 2, TX12, 53, rfl, by omega, kX12_145, WX12_value, rfl, CX12_value g (n)⟩, (fun _ h => absurd h List.not_mem_nil)⟩)⟩)⟩) (fun _ h => absurd h List.not_mem_nil) [87] 40 _ _ _ _ ?_
    simp (maxSteps := 1000000) [↓Bool.cond_eq_ite, -Prod.forall, -Prod.exists, -Prod.mk.injEq, jvk, tX12_tries, jtb, jol, jst, jlk, jcmp, jbin, jfl, fX12, jc2, lX12, jcat, jel, lv_args, Value.category, jins, jsrt, jins2, jble, jblt, jf3, List.filter_cons, List.filter_nil, G_m, oX12_isLiving, oX12_isRefused, oX12_value, joRI, joRII, a14', h1, h2, h3, jup_1]
    try simp (disch := omega) [a14', h1, h2, h3, jup_1]
    exact jW.mono (key (jup (jup σ 322 15 1) 322 14 (nI s)) (up1 1 (nI s)) (by simp [jup_1]) (by rw [eE]; simp [jup_1, qB, qc]; rfl) (by rw [eE]; rfl) (fun q hq => htq q hq) (fun b hb => by rw [eE] at hb; cases hb; dsimp only; omega)) (by simp)
  · have ab := abd a rfl
    have a14' : σ.1 322 14 = nI a.1 := a14
    have a15' : σ.1 322 15 = nI a.2.1 := a15
    by_cases c1 : a.1 < s
    · have h1 : ¬ nI s = nI a.1 := fun q => by have := (nI_eq (by omega) (by omega)).mp q; omega
      have h2 : nI a.1 < nI s := (nI_ltI (by omega) (by omega)).mpr c1
      have h3 : ¬ nI s ≤ nI a.1 := fun q => by have := (nI_leI (by omega) (by omega)).mp q; omega
      have eB : qB (some a) (eTr σ p t s h) = eTr σ p t s h := by rw [eE]; simp [qB, c1]
      refine jvk_ok TX12_tries (V := [(131, 2, 12, oX12_isLiving), (148, 3, 12, oX12_isRefused), (145, 3, 12, oX12_value)]) (S := []) (List.forall_mem_cons.mpr ⟨⟨mX12_isLiving, n + 2, 1, TX12, 53, rfl, by omega, kX12_131, WX12_isLiving, rfl, CX12_isLiving g (n)⟩, (List.forall_mem_cons.mpr ⟨⟨mX12_isRefused, n + 2, 2, TX12, 53, rfl, by omega, kX12_148, WX12_isRefused, rfl, CX12_isRefused g (n)⟩, (List.forall_mem_cons.mpr ⟨⟨mX12_value, n + 2, 2, TX12, 53, rfl, by omega, kX12_145, WX12_value, rfl, CX12_value g (n)⟩, (fun _ h => absurd h List.not_mem_nil)⟩)⟩)⟩) (fun _ h => absurd h List.not_mem_nil) [87] 40 _ _ _ _ ?_
      simp (maxSteps := 1000000) [↓Bool.cond_eq_ite, -Prod.forall, -Prod.exists, -Prod.mk.injEq, jvk, tX12_tries, jtb, jol, jst, jlk, jcmp, jbin, jfl, fX12, jc2, lX12, jcat, jel, lv_args, Value.category, jins, jsrt, jins2, jble, jblt, jf3, List.filter_cons, List.filter_nil, G_m, oX12_isLiving, oX12_isRefused, oX12_value, joRI, joRII, a14', h1, h2, h3, jup_1]
      try simp (disch := omega) [a14', h1, h2, h3, jup_1]
      exact jW.mono (key (jup (jup σ 322 15 1) 322 14 (nI s)) (up1 1 (nI s)) (by simp [jup_1]) (by rw [eB, eE]; simp [jup_1, qc]; rfl) (by rw [eB, eE]; rfl) (fun q hq => by rw [eB]; exact htq q hq) (fun b hb => by rw [eB, eE] at hb; cases hb; dsimp only; omega)) (by simp)
    · by_cases c2 : a.1 = s
      · have h1 : nI s = nI a.1 := by rw [c2]
        have eB : qB (some a) (eTr σ p t s h) = some (a.1, a.2.1 + 1, a.2.2) := by rw [eE]; simp [qB, c2]
        refine jvk_ok TX12_tries (V := [(131, 2, 12, oX12_isLiving), (148, 3, 12, oX12_isRefused), (145, 3, 12, oX12_value)]) (S := []) (List.forall_mem_cons.mpr ⟨⟨mX12_isLiving, n + 2, 1, TX12, 53, rfl, by omega, kX12_131, WX12_isLiving, rfl, CX12_isLiving g (n)⟩, (List.forall_mem_cons.mpr ⟨⟨mX12_isRefused, n + 2, 2, TX12, 53, rfl, by omega, kX12_148, WX12_isRefused, rfl, CX12_isRefused g (n)⟩, (List.forall_mem_cons.mpr ⟨⟨mX12_value, n + 2, 2, TX12, 53, rfl, by omega, kX12_145, WX12_value, rfl, CX12_value g (n)⟩, (fun _ h => absurd h List.not_mem_nil)⟩)⟩)⟩) (fun _ h => absurd h List.not_mem_nil) [87] 40 _ _ _ _ ?_
        simp (maxSteps := 1000000) [↓Bool.cond_eq_ite, -Prod.forall, -Prod.exists, -Prod.mk.injEq, jvk, tX12_tries, jtb, jol, jst, jlk, jcmp, jbin, jfl, fX12, jc2, lX12, jcat, jel, lv_args, Value.category, jins, jsrt, jins2, jble, jblt, jf3, List.filter_cons, List.filter_nil, G_m, oX12_isLiving, oX12_isRefused, oX12_value, joRI, joRII, a14', h1, a15', jup_1]
        try simp (disch := omega) [a14', h1, a15', jup_1]
        exact keep _ (up2 _) (by rw [eB]; simp [jup_1, a14', qs]) (by rw [eB]; simp [jup_1, qc, ← nI_1]) (fun q hq => by rw [eB, a330 q hq]; rfl) (fun b hb => by rw [eB] at hb; cases hb; exact ab)
      · have h1 : ¬ nI s = nI a.1 := fun q => by have := (nI_eq (by omega) (by omega)).mp q; omega
        have h2 : ¬ nI a.1 < nI s := fun q => by have := (nI_ltI (by omega) (by omega)).mp q; omega
        have h3 : nI s ≤ nI a.1 := (nI_leI (by omega) (by omega)).mpr (by omega)
        have eB : qB (some a) (eTr σ p t s h) = some a := by rw [eE]; simp [qB, c1, c2]
        refine jvk_ok TX12_tries (V := [(131, 2, 12, oX12_isLiving), (148, 3, 12, oX12_isRefused), (145, 3, 12, oX12_value)]) (S := []) (List.forall_mem_cons.mpr ⟨⟨mX12_isLiving, n + 2, 1, TX12, 53, rfl, by omega, kX12_131, WX12_isLiving, rfl, CX12_isLiving g (n)⟩, (List.forall_mem_cons.mpr ⟨⟨mX12_isRefused, n + 2, 2, TX12, 53, rfl, by omega, kX12_148, WX12_isRefused, rfl, CX12_isRefused g (n)⟩, (List.forall_mem_cons.mpr ⟨⟨mX12_value, n + 2, 2, TX12, 53, rfl, by omega, kX12_145, WX12_value, rfl, CX12_value g (n)⟩, (fun _ h => absurd h List.not_mem_nil)⟩)⟩)⟩) (fun _ h => absurd h List.not_mem_nil) [87] 40 _ _ _ _ ?_
        simp (maxSteps := 1000000) [↓Bool.cond_eq_ite, -Prod.forall, -Prod.exists, -Prod.mk.injEq, jvk, tX12_tries, jtb, jol, jst, jlk, jcmp, jbin, jfl, fX12, jc2, lX12, jcat, jel, lv_args, Value.category, jins, jsrt, jins2, jble, jblt, jf3, List.filter_cons, List.filter_nil, G_m, oX12_isLiving, oX12_isRefused, oX12_value, joRI, joRII, a14', h1, h2, h3, a15', jup_1]
        try simp (disch := omega) [a14', h1, h2, h3, a15', jup_1]
        exact keep _ (up2 _) (by rw [eB]; simp [jup_1, a14', qs]) (by rw [eB]; simp [jup_1, qc]) (fun q hq => by rw [eB, a330 q hq]) (fun b hb => by rw [eB] at hb; cases hb; exact ab)
def fTr (σ : jM) (d i t : Nat) : Nat → qC := fun r => match dW (σ.1 323) (mN σ) i r with
  | none => none
  | some v => if t.testBit r then none else qS v i r (qT (dW (σ.1 323) (mN σ)) (mRo σ) d (i + 1) (t ||| 1 <<< r))
set_option maxRecDepth 100000 in
set_option maxHeartbeats 4000000 in
theorem CTr_step (g : jG) (n d : Nat) (IH : ∀ d', d = d' + 1 → ∀ p t s h acc, jOk g (n + 3 + d') mX12_tries (oTr d' p t s h acc)) (p t s : Nat) (h : Nat → Nat) (acc : qC) : jOk g (n + 3 + d) mX12_tries (oTr d p t s h acc) := by
  refine joRIII_ok ?_
  rintro _ _ _ _ σ ⟨rfl, rfl, rfl, rfl, hz⟩
  have hz0 := hz
  obtain ⟨hok, hd, hpN, hNd, ht, hs, htr, hacc⟩ := hz
  obtain ⟨N, hN, hN1, hN2⟩ := nI_rng hok.1.1 hok.1.2 (by decide)
  obtain ⟨R, hR, hR1, hR2⟩ := nI_rng hok.2.1.1 hok.2.1.2 (by decide)
  have eN : mN σ = N := hN2
  have eR : mRo σ = R := hR2
  rw [eN] at hpN hNd
  refine jCon.ofP (by decide +kernel) (by simp [lg_sl, Value.category]) (fun post hp => ?_)
  have hp' : ∀ τ, pTr σ τ p t s h acc → post none τ := fun τ q => hp none τ ⟨rfl, q⟩
  refine jvk_ok TX12_tries (V := [(131, 2, 12, oX12_isLiving), (148, 3, 12, oX12_isRefused), (145, 3, 12, oX12_value)]) (S := []) (List.forall_mem_cons.mpr ⟨⟨mX12_isLiving, n + 2, 1, TX12, 53, rfl, by omega, kX12_131, WX12_isLiving, rfl, CX12_isLiving g (n)⟩, (List.forall_mem_cons.mpr ⟨⟨mX12_isRefused, n + 2, 2, TX12, 53, rfl, by omega, kX12_148, WX12_isRefused, rfl, CX12_isRefused g (n)⟩, (List.forall_mem_cons.mpr ⟨⟨mX12_value, n + 2, 2, TX12, 53, rfl, by omega, kX12_145, WX12_value, rfl, CX12_value g (n)⟩, (fun _ h => absurd h List.not_mem_nil)⟩)⟩)⟩) (fun _ h => absurd h List.not_mem_nil) [3] 5 _ _ _ _ ?_
  simp (maxSteps := 1000000) [↓Bool.cond_eq_ite, -Prod.forall, -Prod.exists, -Prod.mk.injEq, jvk, tX12_tries, jtb, jol, jst, jlk, jcmp, jbin, jfl, fX12, jc2, lX12, jcat, jel, lv_args, Value.category, jins, jsrt, jins2, jble, jblt, jf3, List.filter_cons, List.filter_nil, G_m, oX12_isLiving, oX12_isRefused, oX12_value, joRI, joRII]
  refine jloopF (P := fun k => (∀ q, p ≤ q → q < k → dL (σ.1 323) q = false) → jW g mX12_tries (n + 3 + d) post 3 [(0, .ref 322), (1, .int (nI p)), (2, .int (nI t)), (3, .int (nI s)), (4, .int (nI k))] [] σ) (N := N) (i := p) hpN (fun hsk => ?_) (fun k hpk hk ih hsk => ?_) (fun q h1 h2 => by omega)
  · refine jvk_ok TX12_tries (V := [(131, 2, 12, oX12_isLiving), (148, 3, 12, oX12_isRefused), (145, 3, 12, oX12_value)]) (S := []) (List.forall_mem_cons.mpr ⟨⟨mX12_isLiving, n + 2, 1, TX12, 53, rfl, by omega, kX12_131, WX12_isLiving, rfl, CX12_isLiving g (n)⟩, (List.forall_mem_cons.mpr ⟨⟨mX12_isRefused, n + 2, 2, TX12, 53, rfl, by omega, kX12_148, WX12_isRefused, rfl, CX12_isRefused g (n)⟩, (List.forall_mem_cons.mpr ⟨⟨mX12_value, n + 2, 2, TX12, 53, rfl, by omega, kX12_145, WX12_value, rfl, CX12_value g (n)⟩, (fun _ h => absurd h List.not_mem_nil)⟩)⟩)⟩) (fun _ h => absurd h List.not_mem_nil) [3, 36, 121] 20 _ _ _ _ ?_
    simp (maxSteps := 1000000) [↓Bool.cond_eq_ite, -Prod.forall, -Prod.exists, -Prod.mk.injEq, jvk, tX12_tries, jtb, jol, jst, jlk, jcmp, jbin, jfl, fX12, jc2, lX12, jcat, jel, lv_args, Value.category, jins, jsrt, jins2, jble, jblt, jf3, List.filter_cons, List.filter_nil, G_m, oX12_isLiving, oX12_isRefused, oX12_value, joRI, joRII, nI_1, hN1]
    try simp (disch := omega) [nI_1, nI_clamp, nI_leI, nI_ltI, nI_eq, nI_m1, NL_0, NL_1, NL_2, NL_3, NL_5, NL_6, NL_9, NL_10, NL_11, NL_12, NL_20, NL_24, NL_25, NL_60, NL_64, NL_90, NL_100, NL_120, NL_900, NL_999, NL_9999, NL_99999, NL_1000000, NL_208, NL_2080, NL_10000, hN1]
    refine jW.mono (CTr_leaf g n _ (by omega) σ p t s h acc d hz0 [] (by rw [eN]; exact hsk) hp') ?_
    simp
  · have hk10 : k < 10 := by omega
    by_cases hl : dL (σ.1 323) k = true
    · have hl' : mD σ k 0 = 1 := by simpa [dL, mD] using hl
      refine jvk_ok TX12_tries (V := [(131, 2, 12, oX12_isLiving), (148, 3, 12, oX12_isRefused), (145, 3, 12, oX12_value)]) (S := []) (List.forall_mem_cons.mpr ⟨⟨mX12_isLiving, n + 2, 1, TX12, 53, rfl, by omega, kX12_131, WX12_isLiving, rfl, CX12_isLiving g (n)⟩, (List.forall_mem_cons.mpr ⟨⟨mX12_isRefused, n + 2, 2, TX12, 53, rfl, by omega, kX12_148, WX12_isRefused, rfl, CX12_isRefused g (n)⟩, (List.forall_mem_cons.mpr ⟨⟨mX12_value, n + 2, 2, TX12, 53, rfl, by omega, kX12_145, WX12_value, rfl, CX12_value g (n)⟩, (fun _ h => absurd h List.not_mem_nil)⟩)⟩)⟩) (fun _ h => absurd h List.not_mem_nil) [3, 36, 121] 20 _ _ _ _ ?_
      simp (maxSteps := 1000000) [↓Bool.cond_eq_ite, -Prod.forall, -Prod.exists, -Prod.mk.injEq, jvk, tX12_tries, jtb, jol, jst, jlk, jcmp, jbin, jfl, fX12, jc2, lX12, jcat, jel, lv_args, Value.category, jins, jsrt, jins2, jble, jblt, jf3, List.filter_cons, List.filter_nil, G_m, oX12_isLiving, oX12_isRefused, oX12_value, joRI, joRII, nI_1, hN1, hl']
      try simp (disch := omega) [nI_1, nI_clamp, nI_leI, nI_ltI, nI_eq, nI_m1, NL_0, NL_1, NL_2, NL_3, NL_5, NL_6, NL_9, NL_10, NL_11, NL_12, NL_20, NL_24, NL_25, NL_60, NL_64, NL_90, NL_100, NL_120, NL_900, NL_999, NL_9999, NL_99999, NL_1000000, NL_208, NL_2080, NL_10000, hN1, hl']
      refine ⟨by omega, fun _ => ⟨jin_nI hk10 (by decide), ?_⟩⟩
      have ei : cn (dL (σ.1 323)) k = cn (dL (σ.1 323)) p := cn_skip hpk hsk
      have hlt := cn_lt hl hk
      have hpl := qpl_cn hl hk
      have key := jloop (P := fun r => ∀ σ2 : jM, jfr aTr b0 σ σ2 → (∀ j, j < 10 → j ≠ k → σ2.1 331 j = σ.1 331 j) → accOK σ2 (qB acc (qP s (cn (dL (σ.1 323)) p) h (qR (fTr σ (cn (dL (σ.1 323)) N - cn (dL (σ.1 323)) p - 1) (cn (dL (σ.1 323)) p) t) r))) → jW g mX12_tries (n + 3 + d) post 121 [(0, .ref 322), (2, .int (nI t)), (3, .int (nI s)), (4, .int (nI k)), (5, .int (nI r))] [] σ2) (N := R) (fun σ2 f2 h331 hac => by
        have e3 : σ2.1 322 3 = nI R := (f2.2.2 322 3 rfl).trans hR1
        refine jvk_ok TX12_tries (V := [(131, 2, 12, oX12_isLiving), (148, 3, 12, oX12_isRefused), (145, 3, 12, oX12_value)]) (S := []) (List.forall_mem_cons.mpr ⟨⟨mX12_isLiving, n + 2, 1, TX12, 53, rfl, by omega, kX12_131, WX12_isLiving, rfl, CX12_isLiving g (n)⟩, (List.forall_mem_cons.mpr ⟨⟨mX12_isRefused, n + 2, 2, TX12, 53, rfl, by omega, kX12_148, WX12_isRefused, rfl, CX12_isRefused g (n)⟩, (List.forall_mem_cons.mpr ⟨⟨mX12_value, n + 2, 2, TX12, 53, rfl, by omega, kX12_145, WX12_value, rfl, CX12_value g (n)⟩, (fun _ h => absurd h List.not_mem_nil)⟩)⟩)⟩) (fun _ h => absurd h List.not_mem_nil) [121] 20 _ _ _ _ ?_
        simp (maxSteps := 1000000) [↓Bool.cond_eq_ite, -Prod.forall, -Prod.exists, -Prod.mk.injEq, jvk, tX12_tries, jtb, jol, jst, jlk, jcmp, jbin, jfl, fX12, jc2, lX12, jcat, jel, lv_args, Value.category, jins, jsrt, jins2, jble, jblt, jf3, List.filter_cons, List.filter_nil, G_m, oX12_isLiving, oX12_isRefused, oX12_value, joRI, joRII, nI_1, e3]
        try simp (disch := omega) [nI_1, nI_clamp, nI_leI, nI_ltI, nI_eq, nI_m1, NL_0, NL_1, NL_2, NL_3, NL_5, NL_6, NL_9, NL_10, NL_11, NL_12, NL_20, NL_24, NL_25, NL_60, NL_64, NL_90, NL_100, NL_120, NL_900, NL_999, NL_9999, NL_99999, NL_1000000, NL_208, NL_2080, NL_10000, e3]
        refine ⟨jin_nI hk10 (by decide), hp' _ ⟨f2.up _ (by rfl), ?_, ?_⟩⟩
        · intro j hj
          rw [jup_1]
          by_cases e : j = k
          · subst e
            rw [if_pos ⟨rfl, rfl⟩, htr j hj, if_neg (by omega)]
          · rw [if_neg (by simp [e]), h331 j hj e]
        · have e5 : eTr σ p t s h = qP s (cn (dL (σ.1 323)) p) h (qR (fTr σ (cn (dL (σ.1 323)) N - cn (dL (σ.1 323)) p - 1) (cn (dL (σ.1 323)) p) t) R) := by
            unfold eTr
            rw [eN, eR]
            obtain ⟨m, hm⟩ : ∃ m, cn (dL (σ.1 323)) N - cn (dL (σ.1 323)) p = m + 1 := ⟨cn (dL (σ.1 323)) N - cn (dL (σ.1 323)) p - 1, by omega⟩
            rw [hm, Nat.add_sub_cancel]
            unfold fTr
            rw [eN, eR]
            rfl
          rw [e5]
          exact accOK_fr hac (A := fun a j => a == 331) (B := b0) (jfr.rfl.up _ rfl) (fun _ => rfl) rfl rfl rfl (fun q hq => by rw [jup_1, if_neg (by simp)])) (fun r hr ih2 σ2 f2 h331 hac => by
        have e3 : σ2.1 322 3 = nI R := (f2.2.2 322 3 rfl).trans hR1
        have e4 : σ2.1 322 4 = σ.1 322 4 := f2.2.2 322 4 rfl
        have e5 : σ2.1 322 5 = σ.1 322 5 := f2.2.2 322 5 rfl
        have e323 : σ2.1 323 = σ.1 323 := funext fun j => f2.2.2 323 j rfl
        have emD : ∀ x w, mD σ2 x w = mD σ x w := fun x w => by unfold mD; rw [e323]
        have hr6 : r < 6 := by omega
        obtain ⟨b1, b2, b3⟩ := bit_t ht hr6
        have eW : dW (σ.1 323) (mN σ) (cn (dL (σ.1 323)) p) r = if mD σ k (13 + r) = 1 then none else some (mD σ k (7 + r)).toNatClampNeg := by
          unfold dW
          rw [eN, ← ei, hpl]
          rfl
        have hnone : fTr σ (cn (dL (σ.1 323)) N - cn (dL (σ.1 323)) p - 1) (cn (dL (σ.1 323)) p) t r = none → jW g mX12_tries (n + 3 + d) post 121 [(0, .ref 322), (2, .int (nI t)), (3, .int (nI s)), (4, .int (nI k)), (5, .int (nI (r + 1)))] [] σ2 := fun hn => ih2 σ2 f2 h331 (by
          rw [show qR (fTr σ (cn (dL (σ.1 323)) N - cn (dL (σ.1 323)) p - 1) (cn (dL (σ.1 323)) p) t) (r + 1) = qB (qR (fTr σ (cn (dL (σ.1 323)) N - cn (dL (σ.1 323)) p - 1) (cn (dL (σ.1 323)) p) t) r) (fTr σ (cn (dL (σ.1 323)) N - cn (dL (σ.1 323)) p - 1) (cn (dL (σ.1 323)) p) t r) from rfl, hn, qB_none]
          exact hac)
        by_cases hb : t.testBit r = true
        · refine jvk_ok TX12_tries (V := [(131, 2, 12, oX12_isLiving), (148, 3, 12, oX12_isRefused), (145, 3, 12, oX12_value)]) (S := []) (List.forall_mem_cons.mpr ⟨⟨mX12_isLiving, n + 2, 1, TX12, 53, rfl, by omega, kX12_131, WX12_isLiving, rfl, CX12_isLiving g (n)⟩, (List.forall_mem_cons.mpr ⟨⟨mX12_isRefused, n + 2, 2, TX12, 53, rfl, by omega, kX12_148, WX12_isRefused, rfl, CX12_isRefused g (n)⟩, (List.forall_mem_cons.mpr ⟨⟨mX12_value, n + 2, 2, TX12, 53, rfl, by omega, kX12_145, WX12_value, rfl, CX12_value g (n)⟩, (fun _ h => absurd h List.not_mem_nil)⟩)⟩)⟩) (fun _ h => absurd h List.not_mem_nil) [121] 40 _ _ _ _ ?_
          simp (maxSteps := 1000000) [↓Bool.cond_eq_ite, -Prod.forall, -Prod.exists, -Prod.mk.injEq, jvk, tX12_tries, jtb, jol, jst, jlk, jcmp, jbin, jfl, fX12, jc2, lX12, jcat, jel, lv_args, Value.category, jins, jsrt, jins2, jble, jblt, jf3, List.filter_cons, List.filter_nil, G_m, oX12_isLiving, oX12_isRefused, oX12_value, joRI, joRII, nI_1, e3, b1, hb]
          try simp (disch := omega) [nI_1, nI_clamp, nI_leI, nI_ltI, nI_eq, nI_m1, NL_0, NL_1, NL_2, NL_3, NL_5, NL_6, NL_9, NL_10, NL_11, NL_12, NL_20, NL_24, NL_25, NL_60, NL_64, NL_90, NL_100, NL_120, NL_900, NL_999, NL_9999, NL_99999, NL_1000000, NL_208, NL_2080, NL_10000, e3, b1, hb]
          refine ⟨fun q => by omega, fun _ => hnone ?_⟩
          unfold fTr
          rw [hb]
          split <;> simp
        · by_cases hrf : mD σ k (13 + r) = 1
          · refine jvk_ok TX12_tries (V := [(131, 2, 12, oX12_isLiving), (148, 3, 12, oX12_isRefused), (145, 3, 12, oX12_value)]) (S := []) (List.forall_mem_cons.mpr ⟨⟨mX12_isLiving, n + 2, 1, TX12, 53, rfl, by omega, kX12_131, WX12_isLiving, rfl, CX12_isLiving g (n)⟩, (List.forall_mem_cons.mpr ⟨⟨mX12_isRefused, n + 2, 2, TX12, 53, rfl, by omega, kX12_148, WX12_isRefused, rfl, CX12_isRefused g (n)⟩, (List.forall_mem_cons.mpr ⟨⟨mX12_value, n + 2, 2, TX12, 53, rfl, by omega, kX12_145, WX12_value, rfl, CX12_value g (n)⟩, (fun _ h => absurd h List.not_mem_nil)⟩)⟩)⟩) (fun _ h => absurd h List.not_mem_nil) [121] 40 _ _ _ _ ?_
            simp (maxSteps := 1000000) [↓Bool.cond_eq_ite, -Prod.forall, -Prod.exists, -Prod.mk.injEq, jvk, tX12_tries, jtb, jol, jst, jlk, jcmp, jbin, jfl, fX12, jc2, lX12, jcat, jel, lv_args, Value.category, jins, jsrt, jins2, jble, jblt, jf3, List.filter_cons, List.filter_nil, G_m, oX12_isLiving, oX12_isRefused, oX12_value, joRI, joRII, nI_1, e3, b1, hb, emD, hrf]
            try simp (disch := omega) [nI_1, nI_clamp, nI_leI, nI_ltI, nI_eq, nI_m1, NL_0, NL_1, NL_2, NL_3, NL_5, NL_6, NL_9, NL_10, NL_11, NL_12, NL_20, NL_24, NL_25, NL_60, NL_64, NL_90, NL_100, NL_120, NL_900, NL_999, NL_9999, NL_99999, NL_1000000, NL_208, NL_2080, NL_10000, e3, b1, hb, emD, hrf]
            refine ⟨fun q => by omega, fun _ => ⟨⟨jin_nI hk10 (by decide), jin_nI hr6 (by decide)⟩, hnone ?_⟩⟩
            unfold fTr
            rw [eW, if_pos hrf]
          · obtain ⟨v, hv, hv1, hv2⟩ := nI_rng (hd k hk10 r hr6).1 (hd k hk10 r hr6).2 (by decide)
            have hv1' : mD σ k (7 + r) = nI v := hv1
            have eF : fTr σ (cn (dL (σ.1 323)) N - cn (dL (σ.1 323)) p - 1) (cn (dL (σ.1 323)) p) t r = qS v (cn (dL (σ.1 323)) p) r (qT (dW (σ.1 323) (mN σ)) (mRo σ) (cn (dL (σ.1 323)) N - cn (dL (σ.1 323)) p - 1) (cn (dL (σ.1 323)) p + 1) (t ||| 1 <<< r)) := by
              unfold fTr
              rw [eW, if_neg hrf, hv1', nI_clamp (by omega)]
              simp [hb]
            obtain ⟨d', rfl⟩ : ∃ d', d = d' + 1 := ⟨d - 1, by omega⟩
            have eN2 : mN σ2 = N := by unfold mN; rw [e4]; exact hN2
            have eR2 : mRo σ2 = R := by unfold mRo; rw [e3]; exact nI_clamp (by omega)
            obtain ⟨hh, ehh⟩ : ∃ hh : Nat → Nat, hh = (fun j => if j = cn (dL (σ.1 323)) p then r else h j) := ⟨_, rfl⟩
            obtain ⟨ac2, eac⟩ : ∃ ac2, ac2 = qB acc (qP s (cn (dL (σ.1 323)) p) h (qR (fTr σ (cn (dL (σ.1 323)) N - cn (dL (σ.1 323)) p - 1) (cn (dL (σ.1 323)) p) t) r)) := ⟨_, rfl⟩
            rw [← eac] at hac
            have hz2 : zTr (jup σ2 331 k (nI r)) d' (k + 1) (t ||| 1 <<< r) (s + v) hh ac2 := by
              refine ⟨mOK_of hok (f2.2.2 322 3 rfl) e4 e5, ?_, ?_, ?_, b3, by omega, ?_, ?_⟩
              · show dOK (σ2.1 323)
                rw [e323]; exact hd
              · show k + 1 ≤ mN σ2
                omega
              · show mN σ2 ≤ k + 1 + d'
                omega
              · intro q hq
                show (if 331 = 331 ∧ q = k then nI r else σ2.1 331 q) = if q < k + 1 ∧ dL (σ2.1 323) q = true then nI (hh (cn (dL (σ2.1 323)) q)) else -1
                rw [e323, ehh]
                by_cases e : q = k
                · subst e
                  simp [hl, ei]
                · rw [if_neg (by simp [e]), h331 q hq e, htr q hq]
                  by_cases e6 : dL (σ.1 323) q = true
                  · by_cases e7 : q < p
                    · have := cn_lt e6 e7
                      rw [if_pos ⟨e7, e6⟩, if_pos ⟨by omega, e6⟩]
                      dsimp only
                      rw [if_neg (by omega)]
                    · by_cases e8 : q < k
                      · have := hsk q (by omega) e8
                        rw [e6] at this; cases this
                      · rw [if_neg (by omega), if_neg (by omega)]
                  · simp [e6]
              · exact accOK_fr hac (A := fun a j => a == 331) (B := b0) (jfr.rfl.up _ rfl) (fun _ => rfl) rfl rfl rfl (fun q hq => by rw [jup_1, if_neg (by simp)])
            have emD2 : ∀ x w, mD (jup σ2 331 k (nI r)) x w = mD σ x w := fun x w => emD x w
            refine jvk_ok TX12_tries (V := [(131, 2, 12, oX12_isLiving), (148, 3, 12, oX12_isRefused), (145, 3, 12, oX12_value), (175, 4, 12, oTr d' (k+1) (t|||1<<<r) (s+v) hh ac2)]) (S := []) (List.forall_mem_cons.mpr ⟨⟨mX12_isLiving, n + 2, 1, TX12, 53, rfl, by omega, kX12_131, WX12_isLiving, rfl, CX12_isLiving g (n)⟩, (List.forall_mem_cons.mpr ⟨⟨mX12_isRefused, n + 2, 2, TX12, 53, rfl, by omega, kX12_148, WX12_isRefused, rfl, CX12_isRefused g (n)⟩, (List.forall_mem_cons.mpr ⟨⟨mX12_value, n + 2, 2, TX12, 53, rfl, by omega, kX12_145, WX12_value, rfl, CX12_value g (n)⟩, (List.forall_mem_cons.mpr ⟨⟨mX12_tries, n+3+d', 3, TX12, 53, rfl, by omega, kX12_175, WX12_tries, rfl, IH d' rfl (k+1) (t|||1<<<r) (s+v) hh ac2⟩, (fun _ h => absurd h List.not_mem_nil)⟩)⟩)⟩)⟩) (fun _ h => absurd h List.not_mem_nil) [121] 40 _ _ _ _ ?_
            simp (maxSteps := 1000000) [↓Bool.cond_eq_ite, -Prod.forall, -Prod.exists, -Prod.mk.injEq, jvk, tX12_tries, jtb, jol, jst, jlk, jcmp, jbin, jfl, fX12, jc2, lX12, jcat, jel, lv_args, Value.category, jins, jsrt, jins2, jble, jblt, jf3, List.filter_cons, List.filter_nil, G_m, oX12_isLiving, oX12_isRefused, oX12_value, oTr, joRI, joRII, nI_1, e3, b1, b2, hb, emD, emD2, hrf, hv1', hz2, joRIII]
            try simp (disch := omega) [-Prod.forall, -Prod.exists, -Prod.mk.injEq, nI_1, nI_clamp, nI_leI, nI_ltI, nI_eq, nI_m1, NL_0, NL_1, NL_2, NL_3, NL_5, NL_6, NL_9, NL_10, NL_11, NL_12, NL_20, NL_24, NL_25, NL_60, NL_64, NL_90, NL_100, NL_120, NL_900, NL_999, NL_9999, NL_99999, NL_1000000, NL_208, NL_2080, NL_10000, e3, b1, b2, hb, emD, emD2, hrf, hv1', hz2, nI_add, joRIII]
            refine ⟨fun q => by omega, fun _ => ⟨⟨jin_nI hk10 (by decide), jin_nI hr6 (by decide)⟩, jin_nI hk10 (by decide), ⟨jin_nI hk10 (by decide), jin_nI hr6 (by decide)⟩, fun v1 τ hv1 hτ => ?_⟩⟩
            subst hv1
            refine ih2 τ ((f2.up _ rfl).tr hτ.1) (fun j hj hjk => ?_) ?_
            · rw [hτ.2.1 j hj, jup_1, if_neg (by simp [hjk])]
              exact h331 j hj hjk
            · have e9 : cn (dL (σ.1 323)) (k + 1) = cn (dL (σ.1 323)) p + 1 := by simp only [cn, hl, ei]; simp
              have e10 : eTr (jup σ2 331 k (nI r)) (k + 1) (t ||| 1 <<< r) (s + v) hh = qP s (cn (dL (σ.1 323)) p) h (fTr σ (cn (dL (σ.1 323)) N - cn (dL (σ.1 323)) p - 1) (cn (dL (σ.1 323)) p) t r) := by
                rw [eF, qP_S]
                unfold eTr
                rw [show (jup σ2 331 k (nI r)).1 323 = σ2.1 323 from rfl, show mN (jup σ2 331 k (nI r)) = mN σ2 from rfl, show mRo (jup σ2 331 k (nI r)) = mRo σ2 from rfl, e323, eN2, eR2, eN, eR, e9, ehh, show cn (dL (σ.1 323)) N - (cn (dL (σ.1 323)) p + 1) = cn (dL (σ.1 323)) N - cn (dL (σ.1 323)) p - 1 by omega]
              have hτ3 := hτ.2.2
              rw [e10, eac, qB_assoc, ← qP_B] at hτ3
              exact hτ3)
      have k0 := key σ jfr.rfl (fun _ _ _ => rfl) (by
        show accOK σ (qB acc none)
        rw [qB_none]
        exact hacc)
      rw [nI_0] at k0
      refine ⟨fun _ => ?_, fun e => by omega⟩
      refine jW.mono k0 ?_
      simp
    · have hl' : ¬ mD σ k 0 = 1 := by simpa [dL, mD] using hl
      refine jvk_ok TX12_tries (V := [(131, 2, 12, oX12_isLiving), (148, 3, 12, oX12_isRefused), (145, 3, 12, oX12_value)]) (S := []) (List.forall_mem_cons.mpr ⟨⟨mX12_isLiving, n + 2, 1, TX12, 53, rfl, by omega, kX12_131, WX12_isLiving, rfl, CX12_isLiving g (n)⟩, (List.forall_mem_cons.mpr ⟨⟨mX12_isRefused, n + 2, 2, TX12, 53, rfl, by omega, kX12_148, WX12_isRefused, rfl, CX12_isRefused g (n)⟩, (List.forall_mem_cons.mpr ⟨⟨mX12_value, n + 2, 2, TX12, 53, rfl, by omega, kX12_145, WX12_value, rfl, CX12_value g (n)⟩, (fun _ h => absurd h List.not_mem_nil)⟩)⟩)⟩) (fun _ h => absurd h List.not_mem_nil) [3, 36, 121] 20 _ _ _ _ ?_
      simp (maxSteps := 1000000) [↓Bool.cond_eq_ite, -Prod.forall, -Prod.exists, -Prod.mk.injEq, jvk, tX12_tries, jtb, jol, jst, jlk, jcmp, jbin, jfl, fX12, jc2, lX12, jcat, jel, lv_args, Value.category, jins, jsrt, jins2, jble, jblt, jf3, List.filter_cons, List.filter_nil, G_m, oX12_isLiving, oX12_isRefused, oX12_value, joRI, joRII, nI_1, hN1, hl']
      try simp (disch := omega) [nI_1, nI_clamp, nI_leI, nI_ltI, nI_eq, nI_m1, NL_0, NL_1, NL_2, NL_3, NL_5, NL_6, NL_9, NL_10, NL_11, NL_12, NL_20, NL_24, NL_25, NL_60, NL_64, NL_90, NL_100, NL_120, NL_900, NL_999, NL_9999, NL_99999, NL_1000000, NL_208, NL_2080, NL_10000, hN1, hl']
      refine ⟨by omega, fun _ => ⟨jin_nI hk10 (by decide), ih (fun q h1 h2 => ?_)⟩⟩
      by_cases e : q = k
      · subst e; simpa using hl
      · exact hsk q h1 (by omega)
set_option maxRecDepth 100000 in
set_option maxHeartbeats 4000000 in
theorem CTr (g : jG) (n : Nat) : ∀ (d p t s : Nat) (h : Nat → Nat) (acc : qC), jOk g (n + 3 + d) mX12_tries (oTr d p t s h acc)
  | 0 => CTr_step g n 0 (fun d' h => by omega)
  | d + 1 => CTr_step g n (d + 1) (fun d' h => by
    obtain rfl : d = d' := by omega
    exact CTr g n d)
