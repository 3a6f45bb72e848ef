/-! choices of rooms, by places: the sum, how many, the room of each place -/
abbrev qC : Type := Option (Nat × Nat × (Nat → Nat))
/-- the better one: the first of two with one sum, with the number of both -/
def qB (a b : qC) : qC := match a, b with
  | none, b => b
  | some a, none => some a
  | some a, some b => if a.1 < b.1 then some b else if a.1 = b.1 then some (a.1, a.2.1 + b.2.1, a.2.2) else some a
/-- a place ahead gets a room that is worth v -/
def qS (v i r : Nat) (a : qC) : qC := match a with
  | none => none
  | some a => some (a.1 + v, a.2.1, fun j => if j = i then r else a.2.2 j)
/-- the places below i have their rooms by h, worth s -/
def qP (s i : Nat) (h : Nat → Nat) (a : qC) : qC := match a with
  | none => none
  | some a => some (a.1 + s, a.2.1, fun j => if j < i then h j else a.2.2 j)
def qR (f : Nat → qC) : Nat → qC
  | 0 => none
  | r + 1 => qB (qR f r) (f r)
/-- the best choice of d places from i on, where the rooms of t are taken -/
def qT (W : Nat → Nat → Option Nat) (R : Nat) : Nat → Nat → Nat → qC
  | 0, _, _ => some (0, 1, fun _ => 0)
  | d + 1, i, t => qR (fun r => match W i r with
    | none => none
    | some v => if t.testBit r then none else qS v i r (qT W R d (i + 1) (t ||| 1 <<< r))) R
theorem qB_none (a : qC) : qB a none = a := by rcases a with _ | a <;> rfl
theorem qB_some (a b : Nat × Nat × (Nat → Nat)) : qB (some a) (some b) = if a.1 < b.1 then some b else if a.1 = b.1 then some (a.1, a.2.1 + b.2.1, a.2.2) else some a := rfl
theorem qB_assoc (a b c : qC) : qB (qB a b) c = qB a (qB b c) := by
  rcases a with _ | a
  · simp [qB]
  rcases b with _ | b
  · simp [qB]
  rcases c with _ | c
  · rw [qB_none, qB_none]
  rw [qB_some, qB_some]
  by_cases h1 : a.1 < b.1
  · rw [if_pos h1]
    by_cases h3 : b.1 < c.1
    · rw [if_pos h3, qB_some, qB_some, if_pos h3, if_pos (by omega)]
    · rw [if_neg h3]
      by_cases h4 : b.1 = c.1
      · rw [if_pos h4, qB_some, qB_some, if_neg h3, if_pos h4, if_pos (by exact h1)]
      · rw [if_neg h4, qB_some, qB_some, if_neg h3, if_neg h4, if_pos h1]
  · rw [if_neg h1]
    by_cases h2 : a.1 = b.1
    · rw [if_pos h2, qB_some]
      by_cases h3 : b.1 < c.1
      · rw [if_pos h3, qB_some, if_pos (by dsimp only; omega), if_pos (by omega)]
      · rw [if_neg h3]
        by_cases h4 : b.1 = c.1
        · rw [if_pos h4, qB_some, if_neg (by dsimp only; omega), if_pos (by dsimp only; omega), if_neg h1, if_pos (by exact h2)]
          simp only [Nat.add_assoc]
        · rw [if_neg h4, qB_some, if_neg (by dsimp only; omega), if_neg (by dsimp only; omega), if_neg h1, if_pos h2]
    · rw [if_neg h2, qB_some]
      by_cases h3 : b.1 < c.1
      · rw [if_pos h3, qB_some]
      · rw [if_neg h3]
        by_cases h4 : b.1 = c.1
        · rw [if_pos h4, qB_some, if_neg (by omega), if_neg (by omega), if_neg (by exact h1), if_neg (by exact h2)]
        · rw [if_neg h4, qB_some, if_neg (by omega), if_neg (by omega), if_neg h1, if_neg h2]
theorem qP_B (s i : Nat) (h : Nat → Nat) (a b : qC) : qP s i h (qB a b) = qB (qP s i h a) (qP s i h b) := by
  rcases a with _ | a
  · rfl
  rcases b with _ | b
  · rfl
  simp only [qB, qP]
  by_cases h1 : a.1 < b.1
  · simp [h1]
  · by_cases h2 : a.1 = b.1
    · simp [h2]
    · simp [h1, h2]
theorem qP_S (s i v r : Nat) (h : Nat → Nat) (a : qC) : qP s i h (qS v i r a) = qP (s + v) (i + 1) (fun j => if j = i then r else h j) a := by
  rcases a with _ | a
  · rfl
  simp only [qP, qS, Option.some.injEq, Prod.mk.injEq]
  refine ⟨by omega, trivial, ?_⟩
  funext j
  grind
theorem cn_lt {p : Nat → Bool} {k : Nat} (hk : p k = true) : ∀ {N : Nat}, k < N → cn p k < cn p N
  | 0, h => by omega
  | N + 1, h => by
    by_cases e : k = N
    · subst e
      simp [cn, hk]
    · have := cn_lt hk (N := N) (by omega)
      simp only [cn]
      omega
theorem cn_mono (p : Nat → Bool) {k : Nat} : ∀ {N : Nat}, k ≤ N → cn p k ≤ cn p N
  | 0, h => by rw [Nat.le_zero.mp h]; exact Nat.le_refl _
  | N + 1, h => by
    by_cases e : k = N + 1
    · subst e; exact Nat.le_refl _
    · have := cn_mono p (k := k) (N := N) (by omega)
      simp only [cn]
      omega
theorem cn_skip {p : Nat → Bool} {k : Nat} : ∀ {N : Nat}, k ≤ N → (∀ q, k ≤ q → q < N → p q = false) → cn p N = cn p k
  | 0, h, _ => by rw [Nat.le_zero.mp h]
  | N + 1, h, hs => by
    by_cases e : k = N + 1
    · subst e; rfl
    · simp only [cn]
      rw [cn_skip (N := N) (by omega) (fun q h1 h2 => hs q h1 (by omega)), hs N (by omega) (by omega)]
      rfl
/-- the person at a place -/
def qpl (p : Nat → Bool) : Nat → Nat → Nat
  | 0, _ => 0
  | n + 1, i => if p n = true ∧ cn p n = i then n else qpl p n i
theorem qpl_cn {p : Nat → Bool} {k : Nat} (hk : p k = true) : ∀ {N : Nat}, k < N → qpl p N (cn p k) = k
  | 0, h => by omega
  | N + 1, h => by
    simp only [qpl]
    by_cases e : k = N
    · subst e
      rw [if_pos ⟨hk, rfl⟩]
    · have h1 : k < N := by omega
      have := cn_lt hk h1
      rw [if_neg (by omega), qpl_cn hk h1]
/-! what a row of numbers says -/
def dL (f : Nat → Int32) (p : Nat) : Bool := decide (f (8 + 20 * p + 0) = 1)
def dW (f : Nat → Int32) (N i r : Nat) : Option Nat := if f (8 + 20 * qpl (dL f) N i + (13 + r)) = 1 then none else some (f (8 + 20 * qpl (dL f) N i + (7 + r))).toNatClampNeg
def dOK (f : Nat → Int32) : Prop := ∀ p, p < 10 → ∀ r, r < 6 → 0 ≤ f (8 + 20 * p + (7 + r)) ∧ f (8 + 20 * p + (7 + r)) ≤ 9999
theorem bit_t {t r : Nat} (ht : t < 64) (hr : r < 6) : ((nI t >>> (nI r &&& 31)) &&& 1 = 1 ↔ t.testBit r = true) ∧ nI t ||| (1 <<< (nI r &&& 31)) = nI (t ||| 1 <<< r) ∧ t ||| 1 <<< r < 64 := by
  have h : ∀ t : Fin 64, ∀ r : Fin 6, ((nI t.val >>> (nI r.val &&& 31)) &&& 1 = 1 ↔ t.val.testBit r.val = true) ∧ nI t.val ||| (1 <<< (nI r.val &&& 31)) = nI (t.val ||| 1 <<< r.val) ∧ t.val ||| 1 <<< r.val < 64 := by decide +kernel
  exact h ⟨t, ht⟩ ⟨r, hr⟩
