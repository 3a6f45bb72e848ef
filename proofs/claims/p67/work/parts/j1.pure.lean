/-! choices of rooms: the best of all, whatever the order in which they are tried: the greatest sum, how often, the least number of it -/
abbrev zC : Type := Option (Nat × Nat × Nat)
def zB (a b : zC) : zC := match a, b with
  | none, b => b
  | some a, none => some a
  | some a, some b => if a.1 < b.1 then some b else if b.1 < a.1 then some a else some (a.1, a.2.1 + b.2.1, min a.2.2 b.2.2)
theorem zB_n (a : zC) : zB a none = a := by rcases a with _ | a <;> rfl
theorem zB_0 (a : zC) : zB none a = a := by rcases a with _ | a <;> rfl
theorem zB_s (a b : Nat × Nat × Nat) : zB (some a) (some b) = if a.1 < b.1 then some b else if b.1 < a.1 then some a else some (a.1, a.2.1 + b.2.1, min a.2.2 b.2.2) := rfl
theorem zB_comm (a b : zC) : zB a b = zB b a := by
  rcases a with _ | ⟨a1, a2, a3⟩
  · rw [zB_n, zB_0]
  rcases b with _ | ⟨b1, b2, b3⟩
  · rw [zB_n, zB_0]
  rw [zB_s, zB_s]
  dsimp only
  rcases Nat.lt_trichotomy a1 b1 with h | h | h
  · rw [if_pos h, if_neg (by omega), if_pos h]
  · subst h
    rw [if_neg (by omega), if_neg (by omega), if_neg (by omega), if_neg (by omega), Nat.add_comm, Nat.min_comm]
  · rw [if_neg (by omega), if_pos h, if_pos h]
theorem zB_assoc (a b c : zC) : zB (zB a b) c = zB a (zB b c) := by
  rcases a with _ | ⟨a1, a2, a3⟩
  · rw [zB_0, zB_0]
  rcases b with _ | ⟨b1, b2, b3⟩
  · rw [zB_n, zB_0]
  rcases c with _ | ⟨c1, c2, c3⟩
  · rw [zB_n, zB_n]
  rw [zB_s, zB_s]
  dsimp only
  rcases Nat.lt_trichotomy a1 b1 with h | h | h
  · rw [if_pos h]
    rcases Nat.lt_trichotomy b1 c1 with k | k | k
    · rw [zB_s, if_pos k, zB_s, if_pos (by exact Nat.lt_trans h k)]
    · subst k
      rw [zB_s, if_neg (by omega), if_neg (by omega), zB_s, if_pos (by exact h)]
    · rw [zB_s, if_neg (by dsimp only; omega), if_pos (by exact k), zB_s, if_pos (by exact h)]
  · subst h
    rw [if_neg (by omega), if_neg (by omega)]
    rcases Nat.lt_trichotomy a1 c1 with k | k | k
    · rw [zB_s, if_pos (by exact k), if_pos k, zB_s, if_pos (by exact k)]
    · subst k
      rw [zB_s, if_neg (by exact Nat.lt_irrefl _), if_neg (by exact Nat.lt_irrefl _), if_neg (by omega), if_neg (by omega), zB_s, if_neg (by exact Nat.lt_irrefl _), if_neg (by exact Nat.lt_irrefl _)]
      dsimp only
      rw [Nat.add_assoc, Nat.min_assoc]
    · rw [zB_s, if_neg (by dsimp only; omega), if_pos (by exact k), if_neg (by omega), if_pos k, zB_s, if_neg (by exact Nat.lt_irrefl _), if_neg (by exact Nat.lt_irrefl _)]
  · rw [if_neg (by omega), if_pos h]
    rcases Nat.lt_trichotomy b1 c1 with k | k | k
    · rw [if_pos k]
    · subst k
      rw [if_neg (by omega), if_neg (by omega), zB_s, if_neg (by dsimp only; omega), if_pos (by exact h), zB_s, if_neg (by dsimp only; omega), if_pos (by exact h)]
    · rw [if_neg (by omega), if_pos k, zB_s, if_neg (by dsimp only; omega), if_pos (by dsimp only; omega), zB_s, if_neg (by dsimp only; omega), if_pos (by exact h)]
def zS (s c : Nat) : zC → zC
  | none => none
  | some a => some (a.1 + s, a.2.1, a.2.2 + c)
theorem zS_sh (s c s' c' : Nat) (a : zC) : zS s c (zS s' c' a) = zS (s' + s) (c' + c) a := by
  rcases a with _ | a
  · rfl
  · show some (a.1 + s' + s, a.2.1, a.2.2 + c' + c) = some (a.1 + (s' + s), a.2.1, a.2.2 + (c' + c))
    rw [Nat.add_assoc, Nat.add_assoc]
theorem zS_B (s c : Nat) (a b : zC) : zS s c (zB a b) = zB (zS s c a) (zS s c b) := by
  rcases a with _ | ⟨a1, a2, a3⟩
  · rfl
  rcases b with _ | ⟨b1, b2, b3⟩
  · rfl
  show zS s c (zB (some (a1, a2, a3)) (some (b1, b2, b3))) = zB (some (a1 + s, a2, a3 + c)) (some (b1 + s, b2, b3 + c))
  rw [zB_s, zB_s]
  dsimp only
  rcases Nat.lt_trichotomy a1 b1 with h | h | h
  · rw [if_pos h, if_pos (by omega)]
    rfl
  · subst h
    rw [if_neg (by omega), if_neg (by omega), if_neg (by omega), if_neg (by omega)]
    show some (a1 + s, a2 + b2, min a3 b3 + c) = _
    rw [show min a3 b3 + c = min (a3 + c) (b3 + c) by omega]
  · rw [if_neg (by omega), if_pos h, if_neg (by omega), if_pos (by omega)]
    rfl
def zR (f : Nat → zC) : Nat → zC
  | 0 => none
  | r + 1 => zB (zR f r) (f r)
theorem zR_cg {f g : Nat → zC} : ∀ (n : Nat), (∀ r, r < n → f r = g r) → zR f n = zR g n
  | 0, _ => rfl
  | n + 1, h => by
    simp only [zR]
    rw [zR_cg n (fun r hr => h r (by omega)), h n (by omega)]
theorem zR_none : ∀ n, zR (fun _ => none) n = none
  | 0 => rfl
  | n + 1 => by
    simp only [zR]
    rw [zR_none n]
    rfl
theorem zR_sh (s c : Nat) (f : Nat → zC) : ∀ n, zS s c (zR f n) = zR (fun r => zS s c (f r)) n
  | 0 => rfl
  | n + 1 => by
    simp only [zR]
    rw [zS_B, zR_sh s c f n]
theorem zR_B (f g : Nat → zC) : ∀ n, zR (fun r => zB (f r) (g r)) n = zB (zR f n) (zR g n)
  | 0 => rfl
  | n + 1 => by
    simp only [zR]
    rw [zR_B f g n, zB_assoc, zB_assoc, ← zB_assoc (zR g n), zB_comm (zR g n) (f n), zB_assoc]
theorem zR_swap (F : Nat → Nat → zC) (m : Nat) : ∀ n, zR (fun r => zR (fun q => F r q) m) n = zR (fun q => zR (fun r => F r q) n) m
  | 0 => (zR_none m).symm
  | n + 1 => by
    simp only [zR]
    rw [zR_swap F m n, ← zR_B]
/-- the persons of a list get rooms that are free of t -/
def zT (ok : Nat → Nat → Option Nat) (w : Nat → Nat) (R : Nat) : List Nat → Nat → zC
  | [], _ => some (0, 1, 0)
  | i :: l, t => zR (fun r => match ok i r with
    | none => none
    | some v => if t.testBit r then none else zS v ((r + 1) * w i) (zT ok w R l (t ||| 1 <<< r))) R
theorem tb_or9 (t r k : Nat) : (t ||| 1 <<< r).testBit k = (t.testBit k || decide (r = k)) := by
  rw [Nat.testBit_or, Nat.shiftLeft_eq, Nat.one_mul, Nat.testBit_two_pow]
def zG (ok : Nat → Nat → Option Nat) (w : Nat → Nat) (X : Nat → zC) (t i j r q : Nat) : zC := match ok i r with
  | none => none
  | some v => match ok j q with
    | none => none
    | some u => if t.testBit r = true ∨ t.testBit q = true ∨ r = q then none else zS (v + u) ((r + 1) * w i + (q + 1) * w j) (X (t ||| 1 <<< r ||| 1 <<< q))
theorem zT_2 (ok : Nat → Nat → Option Nat) (w : Nat → Nat) (R i j : Nat) (l : List Nat) (t : Nat) : zT ok w R (i :: j :: l) t = zR (fun r => zR (fun q => zG ok w (zT ok w R l) t i j r q) R) R := by
  refine zR_cg R (fun r _ => ?_)
  cases e : ok i r with
  | none =>
    dsimp only
    rw [← zR_none R]
    refine zR_cg R (fun q _ => ?_)
    unfold zG
    rw [e]
  | some v =>
    dsimp only
    by_cases h : t.testBit r = true
    · rw [if_pos h, ← zR_none R]
      refine zR_cg R (fun q _ => ?_)
      unfold zG
      rw [e]
      dsimp only
      split
      · rfl
      · rw [if_pos (Or.inl h)]
    · rw [if_neg h]
      simp only [zT]
      rw [zR_sh]
      refine zR_cg R (fun q _ => ?_)
      unfold zG
      rw [e]
      dsimp only
      cases e2 : ok j q with
      | none => rfl
      | some u =>
        dsimp only
        rw [tb_or9]
        by_cases h2 : t.testBit q = true ∨ r = q
        · rw [if_pos (by simpa using h2), if_pos (Or.inr h2)]
          rfl
        · rw [if_neg (by simpa using h2), if_neg (fun z => z.elim h h2), zS_sh, Nat.add_comm u v, Nat.add_comm ((q + 1) * w j)]
theorem zT_swap (ok : Nat → Nat → Option Nat) (w : Nat → Nat) (R i j : Nat) (l : List Nat) (t : Nat) : zT ok w R (i :: j :: l) t = zT ok w R (j :: i :: l) t := by
  rw [zT_2, zT_2, zR_swap]
  refine zR_cg R (fun q _ => zR_cg R (fun r _ => ?_))
  unfold zG
  cases ok i r with
  | none => cases ok j q <;> rfl
  | some v =>
    cases ok j q with
    | none => rfl
    | some u =>
      dsimp only
      by_cases h : t.testBit r = true ∨ t.testBit q = true ∨ r = q
      · rw [if_pos h, if_pos (by rcases h with h | h | h; exact Or.inr (Or.inl h); exact Or.inl h; exact Or.inr (Or.inr h.symm))]
      · rw [if_neg h, if_neg (fun z => h (by rcases z with z | z | z; exact Or.inr (Or.inl z); exact Or.inl z; exact Or.inr (Or.inr z.symm)))]
        rw [Nat.add_comm v u, Nat.add_comm ((r + 1) * w i), Nat.or_assoc, Nat.or_comm (1 <<< r), ← Nat.or_assoc]
theorem zT_perm (ok : Nat → Nat → Option Nat) (w : Nat → Nat) (R : Nat) {l l' : List Nat} (h : l.Perm l') : ∀ t, zT ok w R l t = zT ok w R l' t := by
  induction h with
  | nil => intro t; rfl
  | cons x _ ih =>
    intro t
    refine zR_cg R (fun r _ => ?_)
    cases ok x r with
    | none => rfl
    | some v =>
      dsimp only
      rw [ih]
  | swap x y l => intro t; exact zT_swap ok w R y x l t
  | trans _ _ i1 i2 => intro t; rw [i1, i2]
/-! numbers of eight: a row of digits, the first one the greatest -/
def cod (h : Nat → Nat) : Nat → Nat
  | 0 => 0
  | k + 1 => 8 * cod h k + h k
theorem cod_cg {h h' : Nat → Nat} : ∀ (n : Nat), (∀ j, j < n → h j = h' j) → cod h n = cod h' n
  | 0, _ => rfl
  | n + 1, e => by
    simp only [cod]
    rw [cod_cg n (fun j hj => e j (by omega)), e n (by omega)]
theorem cod_up {h : Nat → Nat} {p x : Nat} (h0 : h p = 0) : ∀ (n : Nat), p < n → cod (fun j => if j = p then x else h j) n = cod h n + x * 8 ^ (n - 1 - p)
  | 0, hp => by omega
  | n + 1, hp => by
    simp only [cod]
    by_cases e : n = p
    · subst e
      rw [if_pos rfl, h0, cod_cg n (fun j hj => if_neg (by omega)), show n + 1 - 1 - n = 0 by omega]
      omega
    · rw [if_neg e, cod_up h0 n (by omega), show n + 1 - 1 - p = (n - 1 - p) + 1 by omega, Nat.pow_succ, ← Nat.mul_assoc x]
      omega
theorem cod_lt {h h' : Nat → Nat} {p : Nat} (e : ∀ j, j < p → h j = h' j) (hp : h p < h' p) : ∀ (n : Nat), p < n → (∀ j, j < n → h j < 8) → cod h n < cod h' n
  | 0, q, _ => by omega
  | n + 1, q, d => by
    simp only [cod]
    by_cases c : n = p
    · subst c
      rw [cod_cg n e]
      omega
    · have := cod_lt e hp n (by omega) (fun j hj => d j (by omega))
      have := d n (by omega)
      omega
theorem cod_inj {h h' : Nat → Nat} : ∀ (n : Nat), (∀ j, j < n → h j < 8 ∧ h' j < 8) → cod h n = cod h' n → ∀ j, j < n → h j = h' j
  | 0, _, _, j, hj => by omega
  | n + 1, d, e, j, hj => by
    simp only [cod] at e
    have := d n (by omega)
    by_cases c : j = n
    · subst c; omega
    · exact cod_inj n (fun j hj => d j (by omega)) (by omega) j (by omega)
