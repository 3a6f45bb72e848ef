/-! the law's extremes: how far one is from another -/
/-- the same but for some cells -/
def Dfr (P : Nat → Prop) (σ τ : dM) : Prop := DS τ = DS σ ∧ ∀ k, P k → DI τ k = DI σ k ∧ DL τ k = DL σ k ∧ DR τ k = DR σ k ∧ DN τ k = DN σ k ∧ DA τ k = DA σ k
theorem Dfr.rfl9 {P : Nat → Prop} {σ : dM} : Dfr P σ σ := ⟨rfl, fun _ _ => ⟨rfl, rfl, rfl, rfl, rfl⟩⟩
theorem Dfr.tr {P : Nat → Prop} {σ τ ρ : dM} (h : Dfr P σ τ) (h2 : Dfr P τ ρ) : Dfr P σ ρ := ⟨h2.1.trans h.1, fun k hk => ⟨(h2.2 k hk).1.trans (h.2 k hk).1, (h2.2 k hk).2.1.trans (h.2 k hk).2.1, (h2.2 k hk).2.2.1.trans (h.2 k hk).2.2.1, (h2.2 k hk).2.2.2.1.trans (h.2 k hk).2.2.2.1, (h2.2 k hk).2.2.2.2.trans (h.2 k hk).2.2.2.2⟩⟩
theorem Dfr.weak {P Q : Nat → Prop} {σ τ : dM} (h : Dfr P σ τ) (hq : ∀ k, Q k → P k) : Dfr Q σ τ := ⟨h.1, fun k hk => h.2 k (hq k hk)⟩
/-- the desk's own cells -/
def dkI (k : Nat) : Prop := k = 1000 ∨ (1100 ≤ k ∧ k ≤ 1104) ∨ (1110 ≤ k ∧ k ≤ 1114) ∨ (1200 ≤ k ∧ k ≤ 1204) ∨ k = 1300 ∨ k = 1400 ∨ k = 1500 ∨ k = 1900
theorem dk_fr {P : Nat → Prop} {σ τ : dM} {N M : Nat} (hP : ∀ k, dkI k → P k) (f : Dfr P σ τ) (h : dk σ N M) : dk τ N M := by
  have hN := h.1.1.2
  have g : ∀ k, dkI k → DI τ k = DI σ k ∧ DL τ k = DL σ k ∧ DR τ k = DR σ k ∧ DN τ k = DN σ k ∧ DA τ k = DA σ k := fun k hk => f.2 k (hP k hk)
  have z0 := g 1000 (by unfold dkI; omega)
  have z1 := g 1100 (by unfold dkI; omega)
  have z2 := g 1101 (by unfold dkI; omega)
  have z3 := g 1102 (by unfold dkI; omega)
  have z4 := g 1103 (by unfold dkI; omega)
  have z5 := g 1104 (by unfold dkI; omega)
  have z6 := g 1300 (by unfold dkI; omega)
  have z7 := g 1400 (by unfold dkI; omega)
  have z8 := g 1500 (by unfold dkI; omega)
  have z9 := g 1900 (by unfold dkI; omega)
  obtain ⟨h1, h2, h3, h4, h5, h6⟩ := h
  refine ⟨h1, ?_, ?_, ?_, ?_, fun p hp => ?_⟩
  · rw [z0.1]; exact h2
  · rw [z0.2.2.2.2, z1.2.2.2.2, z2.2.2.2.2, z3.2.2.2.2, z4.2.2.2.2, z5.2.2.2.2, z6.2.2.2.2, z7.2.2.2.2, z8.2.2.2.2, z9.2.2.2.2]; exact h3
  · rw [z0.2.2.1]; exact h4
  · rw [z1.2.2.2.1, z2.2.2.2.1, z3.2.2.2.1, z4.2.2.2.1, z5.2.2.2.1, z6.2.2.2.1, z7.2.2.2.1, z8.2.2.2.1]; exact h5
  · have v := g (1110 + p) (by unfold dkI; omega)
    have r := g (1200 + p) (by unfold dkI; omega)
    rw [z7.2.2.1, z8.2.2.1, v.2.2.2.2, v.2.2.2.1, r.2.2.2.2, r.2.2.2.1, r.1]
    exact h6 p hp
/-- n rows from b on by F -/
def DmF (σ : dM) (b N : Nat) (F : Nat → Nat → Int32) : dM := (σ.1, fun i j => if b ≤ i ∧ i < b + N then F (i - b) j else σ.2.1 i j, σ.2.2)
theorem DmF_I (σ : dM) (b N : Nat) (F : Nat → Nat → Int32) (i j : Nat) : DI (DmF σ b N F) i j = if b ≤ i ∧ i < b + N then F (i - b) j else DI σ i j := rfl
theorem DmF_at {σ : dM} {b N p : Nat} {F : Nat → Nat → Int32} (h : p < N) (j : Nat) : DI (DmF σ b N F) (b + p) j = F p j := by
  rw [DmF_I, if_pos ⟨by omega, by omega⟩, Nat.add_sub_cancel_left]
theorem DmF_fr {σ : dM} {b N : Nat} {F : Nat → Nat → Int32} : Dfr (fun k => ¬ (b ≤ k ∧ k < b + N)) σ (DmF σ b N F) := ⟨rfl, fun k hk => ⟨funext fun j => by rw [DmF_I, if_neg hk], rfl, rfl, rfl, rfl⟩⟩
theorem DmF_up {σ : dM} {b N p q : Nat} {F : Nat → Nat → Int32} {x : Int32} (h : p < N) : DuI (DmF σ b N F) (b + p) q x = DmF σ b N (fun i j => if i = p ∧ j = q then x else F i j) := by
  refine Prod.ext rfl (Prod.ext (funext fun i => funext fun j => ?_) rfl)
  show (if i = b + p ∧ j = q then x else if b ≤ i ∧ i < b + N then F (i - b) j else DI σ i j) = if b ≤ i ∧ i < b + N then (if i - b = p ∧ j = q then x else F (i - b) j) else DI σ i j
  by_cases c : b ≤ i ∧ i < b + N
  · rw [if_pos c, if_pos c]
    by_cases d : i = b + p ∧ j = q
    · rw [if_pos d, if_pos ⟨by omega, d.2⟩]
    · rw [if_neg d, if_neg (fun z => d ⟨by omega, z.2⟩)]
  · rw [if_neg c, if_neg c, if_neg (fun z => c ⟨by omega, by omega⟩)]
theorem Dmn_fr {σ : dM} {a b n m : Nat} : Dfr (fun k => ¬ Dnew2 a b n k) σ (Dmn σ a b n m) := ⟨rfl, fun k hk => by
  have h1 : ¬ (k = a ∨ (b ≤ k ∧ k < b + n)) := hk
  have h2 : ¬ k = a := fun z => h1 (Or.inl z)
  have h3 : ¬ (b ≤ k ∧ k < b + n) := fun z => h1 (Or.inr z)
  refine ⟨funext fun j => ?_, funext fun j => ?_, funext fun j => ?_, ?_, ?_⟩
  · rw [Dmn_I, if_neg h1]
  · rw [Dmn_L, if_neg h1]
  · rw [Dmn_R, if_neg h2, if_neg h3]
  · rw [Dmn_N, if_neg h2, if_neg h3]
  · rw [Dmn_A, if_neg h1]⟩
/-- the start: how much p would rather have q's room -/
def fr0 (σ : dM) (p q : Nat) : Int32 := if p = q then 0 else if DI σ 1107 p < 0 then (-1000000000) else if DI σ 1107 q < 0 then (-1000000000) else if DI σ (1200 + p) (bR σ q) = 0 then gpD σ p q else (-1000000000)
def fr1 (σ : dM) (N p q i j : Nat) : Int32 := if (i < p ∧ j < N) ∨ (i = p ∧ j < q) then fr0 σ i j else 0
def fwS (k p q : Nat) (F : Nat → Nat → Int32) : Nat → Nat → Int32 := if F p k ≤ (-1000000000) then F else if F k q ≤ (-1000000000) then F else fun i j => if i = p ∧ j = q then (if F p k + F k q ≤ F p q then F p q else F p k + F k q) else F i j
def fwQ (k p : Nat) (F : Nat → Nat → Int32) : Nat → Nat → Nat → Int32
  | 0 => F
  | q + 1 => fwS k p q (fwQ k p F q)
def fwP (N k : Nat) (F : Nat → Nat → Int32) : Nat → Nat → Nat → Int32
  | 0 => F
  | p + 1 => fwQ k p (fwP N k F p) N
def fwK (N : Nat) (F : Nat → Nat → Int32) : Nat → Nat → Nat → Int32
  | 0 => F
  | k + 1 => fwP N k (fwK N F k) N
/-- one place of the row: the least price (hi = 0), or the greatest one below 0 -/
def exQ (hi : Int32) (F : Nat → Nat → Int32) (p : Nat) : Nat → Int32
  | 0 => 0
  | q + 1 => if hi = 0 then
      (if (if F q p ≤ (-1000000000) then 0 else F q p) ≤ exQ hi F p q then exQ hi F p q else (if F q p ≤ (-1000000000) then 0 else F q p))
    else (if exQ hi F p q ≤ -(if (if F p q ≤ (-1000000000) then 0 else F p q) ≤ (-1000000000) then (-1000000000) else (if F p q ≤ (-1000000000) then 0 else F p q)) then exQ hi F p q else -(if (if F p q ≤ (-1000000000) then 0 else F p q) ≤ (-1000000000) then (-1000000000) else (if F p q ≤ (-1000000000) then 0 else F p q)))
def exF (σ : dM) (N : Nat) : Nat → Nat → Int32 := fwK N (fr1 σ N N 0) N
def exRow (σ : dM) (hi : Int32) (N : Nat) : Nat → Int32 := fillI (fun p => exQ hi (exF σ N) p N) N
def dkBr (σ : dM) (N M : Nat) : Prop := ∀ p, p < N → ¬ DI σ 1107 p < 0 → jin (DI σ 1107 p) M
def prEx (σ : dM) (x : Int32) (ρ : Nat) : Prop := ∃ N M, dk σ N M ∧ dkB σ N ∧ dkBr σ N M ∧ (1120 ≤ ρ ∧ ρ ≤ 1139) ∧ (x = 0 ∨ x = 1) ∧ DA σ 1401 = false ∧ (∀ i, i < 5 → DA σ (1115 + i) = false) ∧ DA σ ρ = false
def dX12_extremes (ρ : Nat) : dO := doRI fun a x σ => (a = 1000 ∧ prEx σ x ρ, fun v τ => v = some (.ref ρ) ∧ τ = DrI (Dnw σ ρ (DI σ 1000 2).toNatClampNeg) ρ (exRow σ x (DI σ 1000 2).toNatClampNeg))
/-- what the walk of extremes stands on -/
def exC (σ τ : dM) (N M : Nat) : Prop := (dk τ N M ∧ dkB τ N ∧ dkBr τ N M) ∧ (∀ p q, p < N → fr0 τ p q = fr0 σ p q) ∧ (DA τ 1401 = true ∧ DN τ 1401 = N) ∧ ∀ p, p < N → DR τ 1401 p = some (1115 + p) ∧ DA τ (1115 + p) = true ∧ DN τ (1115 + p) = N ∧ darr (1115 + p) 1 0 = true
theorem exC_F {σ τ : dM} {N M : Nat} (h : exC σ τ N M) (hN : N ≤ 5) (F : Nat → Nat → Int32) : exC σ (DmF τ 1115 N F) N M := by
  obtain ⟨⟨h1, h2, h3⟩, h4, h5, h6⟩ := h
  have f : Dfr (fun k => ¬ (1115 ≤ k ∧ k < 1115 + N)) τ (DmF τ 1115 N F) := DmF_fr
  have e7 : DI (DmF τ 1115 N F) 1107 = DI τ 1107 := (f.2 1107 (by omega)).1
  refine ⟨⟨dk_fr (fun k hk => by unfold dkI at hk; omega) f h1, h2, fun p hp hb => ?_⟩, fun p q hp => ?_, h5, h6⟩
  · rw [e7] at hb ⊢
    exact h3 p hp hb
  · rw [← h4 p q hp]
    unfold fr0 gpD bR
    rw [e7, (f.2 (1200 + p) (by omega)).1, (f.2 (1110 + p) (by omega)).1]
