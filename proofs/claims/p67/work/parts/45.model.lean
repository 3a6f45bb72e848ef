/-! the reference tries all choices of rooms -/
def jfr (A : Nat → Nat → Bool) (B : Nat → Bool) (σ τ : jM) : Prop := τ.2.2 = σ.2.2 ∧ (∀ a j, B a = false → τ.2.1 a j = σ.2.1 a j) ∧ ∀ a j, A a j = false → τ.1 a j = σ.1 a j
theorem jfr.rfl {A : Nat → Nat → Bool} {B : Nat → Bool} {σ : jM} : jfr A B σ σ := ⟨Eq.refl _, fun _ _ _ => Eq.refl _, fun _ _ _ => Eq.refl _⟩
theorem jfr.trans {A A' A'' : Nat → Nat → Bool} {B B' B'' : Nat → Bool} {σ τ ρ : jM} (h : jfr A B σ τ) (h2 : jfr A' B' τ ρ) (hA : ∀ a j, A'' a j = false → A a j = false ∧ A' a j = false) (hB : ∀ a, B'' a = false → B a = false ∧ B' a = false) : jfr A'' B'' σ ρ :=
  ⟨h2.1.trans h.1, fun a j q => (h2.2.1 a j (hB a q).2).trans (h.2.1 a j (hB a q).1), fun a j q => (h2.2.2 a j (hA a j q).2).trans (h.2.2 a j (hA a j q).1)⟩
theorem jfr.tr {A : Nat → Nat → Bool} {B : Nat → Bool} {σ τ ρ : jM} (h : jfr A B σ τ) (h2 : jfr A B τ ρ) : jfr A B σ ρ := h.trans h2 (fun _ _ q => ⟨q, q⟩) (fun _ q => ⟨q, q⟩)
theorem jfr.up {A : Nat → Nat → Bool} {B : Nat → Bool} {σ τ : jM} (h : jfr A B σ τ) {a j : Nat} (x : Int32) (hA : A a j = true) : jfr A B σ (jup τ a j x) :=
  ⟨h.1, h.2.1, fun b i q => by
    rw [jup_1, if_neg (by rintro ⟨rfl, rfl⟩; rw [hA] at q; cases q)]
    exact h.2.2 b i q⟩
theorem jfr.upL {A : Nat → Nat → Bool} {B : Nat → Bool} {σ τ : jM} (h : jfr A B σ τ) {a j : Nat} (x : Int64) (hB : B a = true) : jfr A B σ (jupL τ a j x) :=
  ⟨h.1, fun b i q => by
    rw [jupL_2, if_neg (by rintro ⟨rfl, rfl⟩; rw [hB] at q; cases q)]
    exact h.2.1 b i q, h.2.2⟩
theorem jfr.weak {A A' : Nat → Nat → Bool} {B B' : Nat → Bool} {σ τ : jM} (h : jfr A B σ τ) (hA : ∀ a j, A' a j = false → A a j = false) (hB : ∀ a, B' a = false → B a = false) : jfr A' B' σ τ :=
  ⟨h.1, fun a j q => h.2.1 a j (hB a q), fun a j q => h.2.2 a j (hA a j q)⟩
def b0 (_ : Nat) : Bool := false
def qch (acc : qC) (l : Nat → Bool) (N q : Nat) : Int32 := match acc with
  | none => -1
  | some a => if l q = true ∧ q < N then nI (a.2.2 (cn l q)) else -1
def qs (acc : qC) : Int32 := match acc with
  | none => -1
  | some a => nI a.1
def qc (acc : qC) : Int32 := match acc with
  | none => 0
  | some a => nI a.2.1
/-- the best choice so far -/
def accOK (σ : jM) (acc : qC) : Prop := σ.1 322 14 = qs acc ∧ σ.1 322 15 = qc acc ∧ (∀ q, q < 10 → σ.1 330 q = qch acc (dL (σ.1 323)) (mN σ) q) ∧ ∀ a, acc = some a → a.1 ≤ 100000
def mRo (σ : jM) : Nat := (σ.1 322 3).toNatClampNeg
