/-! tokens of a text -/
theorem nI_or (a b : Nat) : nI a ||| nI b = nI (a ||| b) := by
  apply Int32.toBitVec_inj.1
  show BitVec.ofNat 32 a ||| BitVec.ofNat 32 b = BitVec.ofNat 32 (a ||| b)
  apply BitVec.eq_of_getLsbD_eq
  intro i hi
  simp [hi]
theorem nI_orS {a k : Nat} (b : Nat) (h : a < 2 ^ k) : nI (2 ^ k * b) ||| nI a = nI (2 ^ k * b + a) := by rw [nI_or, Nat.two_pow_add_eq_or_of_lt h]
/-- the kind of the sign at a place: 0 behind the text, 1 blank, 2 letter, 3 digit, 4 semicolon, 5 other -/
def kn (b : Nat → Int32) (len p : Nat) : Nat := if p < len then (if 97 ≤ b p ∧ b p ≤ 122 then 2 else if 48 ≤ b p ∧ b p ≤ 57 then 3 else if b p = 59 then 4 else if b p = 32 ∨ b p = 10 then 1 else 5) else 0
theorem kn_0 {b : Nat → Int32} {len p : Nat} : kn b len p = 0 ↔ len ≤ p := by
  unfold kn
  by_cases h : p < len
  · rw [if_pos h]
    refine ⟨fun z => ?_, fun z => by omega⟩
    split at z
    · cases z
    · split at z
      · cases z
      · split at z
        · cases z
        · split at z <;> cases z
  · rw [if_neg h]
    exact ⟨fun _ => by omega, fun _ => rfl⟩
theorem kn_2 {b : Nat → Int32} {len p : Nat} (hp : p < len) : kn b len p = 2 ↔ 97 ≤ b p ∧ b p ≤ 122 := by
  unfold kn
  rw [if_pos hp]
  by_cases h : 97 ≤ b p ∧ b p ≤ 122
  · rw [if_pos h]; exact ⟨fun _ => h, fun _ => rfl⟩
  · rw [if_neg h]
    refine ⟨fun z => ?_, fun z => absurd z h⟩
    split at z
    · cases z
    · split at z
      · cases z
      · split at z <;> cases z
theorem kn_3 {b : Nat → Int32} {len p : Nat} (hp : p < len) : kn b len p = 3 ↔ 48 ≤ b p ∧ b p ≤ 57 := by
  unfold kn
  rw [if_pos hp]
  by_cases h : 97 ≤ b p ∧ b p ≤ 122
  · rw [if_pos h]; exact ⟨fun z => (by cases z), fun z => by grind⟩
  · rw [if_neg h]
    by_cases h2 : 48 ≤ b p ∧ b p ≤ 57
    · rw [if_pos h2]; exact ⟨fun _ => h2, fun _ => rfl⟩
    · rw [if_neg h2]
      refine ⟨fun z => ?_, fun z => absurd z h2⟩
      split at z
      · cases z
      · split at z <;> cases z
/-- where a run of one kind ends -/
def rk (b : Nat → Int32) (len k : Nat) : Nat → Nat → Nat
  | 0, p => p
  | f + 1, p => if kn b len p = k then rk b len k f (p + 1) else p
def rn (b : Nat → Int32) (len k p : Nat) : Nat := rk b len k (len - p) p
section TK
variable {b : Nat → Int32} {len : Nat}
theorem rn_step {k p : Nat} (hk : 0 < k) (h : kn b len p = k) : rn b len k p = rn b len k (p + 1) := by
  have hp : p < len := by
    by_cases q : p < len
    · exact q
    · have := (kn_0 (b := b)).mpr (show len ≤ p by omega)
      omega
  unfold rn
  rw [show len - p = (len - (p + 1)) + 1 by omega]
  simp only [rk]
  rw [if_pos h]
theorem rn_stop {k p : Nat} (h : ¬ kn b len p = k) : rn b len k p = p := by
  unfold rn
  rcases e : len - p with _ | d
  · rfl
  · simp only [rk]
    rw [if_neg h]
theorem rk_le (k : Nat) : ∀ (f p : Nat), p + f ≤ len → p ≤ rk b len k f p ∧ rk b len k f p ≤ p + f
  | 0, p, _ => ⟨Nat.le_refl _, Nat.le_refl _⟩
  | f + 1, p, h => by
    simp only [rk]
    split
    · have := rk_le k f (p + 1) (by omega)
      omega
    · omega
theorem rn_le {k p : Nat} (h : p ≤ len) : p ≤ rn b len k p ∧ rn b len k p ≤ len := by
  have := rk_le (b := b) (len := len) k (len - p) p (by omega)
  unfold rn
  omega
theorem rk_in (k : Nat) : ∀ (f p q : Nat), p ≤ q → q < rk b len k f p → kn b len q = k
  | 0, p, q, h1, h2 => by simp only [rk] at h2; omega
  | f + 1, p, q, h1, h2 => by
    simp only [rk] at h2
    split at h2
    · rename_i h
      by_cases e : q = p
      · subst e; exact h
      · exact rk_in k f (p + 1) q (by omega) h2
    · omega
theorem rn_in {k p q : Nat} (h1 : p ≤ q) (h2 : q < rn b len k p) : kn b len q = k := rk_in k _ p q h1 h2
theorem rn_end {k : Nat} (hk : 0 < k) : ∀ (f p : Nat), len - p ≤ f → ¬ kn b len (rn b len k p) = k
  | 0, p, h => by
    have e : rn b len k p = p := by
      unfold rn
      rw [show len - p = 0 by omega]
      rfl
    rw [e]
    have := (kn_0 (b := b)).mpr (show len ≤ p by omega)
    omega
  | f + 1, p, h => by
    by_cases e : kn b len p = k
    · rw [rn_step hk e]
      have hp : p < len := by
        by_cases q : p < len
        · exact q
        · have := (kn_0 (b := b)).mpr (show len ≤ p by omega)
          omega
      exact rn_end hk f (p + 1) (by omega)
    · rw [rn_stop e]; exact e
end TK
/-- where the token that starts at s ends -/
def en (b : Nat → Int32) (len s : Nat) : Nat := if kn b len s = 2 ∨ kn b len s = 3 then rn b len (kn b len s) (s + 1) else min (s + 1) len
/-- where the next token starts -/
def nx (b : Nat → Int32) (len s : Nat) : Nat := rn b len 1 (en b len s)
theorem en_le {b : Nat → Int32} {len s : Nat} (h : s ≤ len) : s ≤ en b len s ∧ en b len s ≤ len ∧ (s < len → s < en b len s) := by
  unfold en
  by_cases h1 : kn b len s = 2 ∨ kn b len s = 3
  · rw [if_pos h1]
    have hs : s < len := by
      by_cases q : s < len
      · exact q
      · have := (kn_0 (b := b)).mpr (show len ≤ s by omega)
        omega
    have := rn_le (b := b) (len := len) (k := kn b len s) (p := s + 1) (by omega)
    omega
  · rw [if_neg h1]
    omega
theorem nx_le {b : Nat → Int32} {len s : Nat} (h : s ≤ len) : s ≤ nx b len s ∧ nx b len s ≤ len ∧ (s < len → s < nx b len s) ∧ ¬ kn b len (nx b len s) = 1 := by
  have h1 := en_le (b := b) h
  have h2 := rn_le (b := b) (k := 1) h1.2.1
  have h3 := rn_end (b := b) (len := len) (k := 1) (by decide) _ (en b len s) (Nat.le_refl _)
  unfold nx
  refine ⟨by omega, by omega, fun q => ?_, h3⟩
  have := h1.2.2 q
  omega
/-- a letter's number, a digit's -/
def cl (b : Nat → Int32) (p : Nat) : Nat := (b p).toNatClampNeg - 96
def cd (b : Nat → Int32) (p : Nat) : Nat := (b p).toNatClampNeg - 48
theorem cl_ok {b : Nat → Int32} {len p : Nat} (h : kn b len p = 2) : p < len ∧ 1 ≤ cl b p ∧ cl b p ≤ 26 ∧ b p = nI (96 + cl b p) := by
  have hp : p < len := by
    by_cases q : p < len
    · exact q
    · have := (kn_0 (b := b)).mpr (show len ≤ p by omega)
      omega
  obtain ⟨h1, h2⟩ := (kn_2 hp).mp h
  obtain ⟨k, k1, k2, k3⟩ := nI_rng (x := b p) (by grind) h2 (by decide)
  rw [k2] at h1
  have h3 : 97 ≤ k := (nI_leI (a := 97) (by decide) (by omega)).mp h1
  unfold cl
  rw [k3, k2, show 96 + (k - 96) = k by omega]
  exact ⟨hp, by omega, by omega, rfl⟩
theorem cd_ok {b : Nat → Int32} {len p : Nat} (h : kn b len p = 3) : p < len ∧ cd b p ≤ 9 ∧ b p = nI (48 + cd b p) := by
  have hp : p < len := by
    by_cases q : p < len
    · exact q
    · have := (kn_0 (b := b)).mpr (show len ≤ p by omega)
      omega
  obtain ⟨h1, h2⟩ := (kn_3 hp).mp h
  obtain ⟨k, k1, k2, k3⟩ := nI_rng (x := b p) (by grind) h2 (by decide)
  rw [k2] at h1
  have h3 : 48 ≤ k := (nI_leI (a := 48) (by decide) (by omega)).mp h1
  unfold cd
  rw [k3, k2, show 48 + (k - 48) = k by omega]
  exact ⟨hp, by omega, rfl⟩
/-- the letters of a name, six groups of five bits -/
def nmN (b : Nat → Int32) (s e : Nat) : Nat → Nat
  | 0 => 0
  | i + 1 => nmN b s e i * 32 + (if s + i < e then cl b (s + i) else 0)
def nm (b : Nat → Int32) (len s : Nat) : Nat := nmN b s (en b len s) 6
theorem nmN_lt {b : Nat → Int32} {s e : Nat} (h : ∀ i, s + i < e → cl b (s + i) < 32) : ∀ m, nmN b s e m < 2 ^ (5 * m)
  | 0 => by simp [nmN]
  | m + 1 => by
    have ih := nmN_lt h m
    simp only [nmN]
    rw [Nat.mul_add, Nat.pow_add]
    have h2 : (if s + m < e then cl b (s + m) else 0) < 32 := by
      by_cases q : s + m < e
      · rw [if_pos q]; exact h m q
      · rw [if_neg q]; decide
    have h3 : (2 : Nat) ^ (5 * 1) = 32 := by decide
    rw [h3]
    omega
/-- the number that digits stand for, a million for all that are greater -/
def nuN (b : Nat → Int32) (s : Nat) : Nat → Nat
  | 0 => 0
  | i + 1 => min (10 * nuN b s i + cd b (s + i)) 1000000
def nu (b : Nat → Int32) (len s : Nat) : Nat := nuN b s (en b len s - s)
theorem nuN_le (b : Nat → Int32) (s : Nat) : ∀ i, nuN b s i ≤ 1000000
  | 0 => Nat.zero_le _
  | i + 1 => by simp only [nuN]; omega
/-- the letters in base 32 -/
def hN (c : Nat → Nat) : Nat → Nat
  | 0 => 0
  | m + 1 => 32 * hN c m + c m
/-- the word's number: none for a word of more than twelve letters -/
def wh (b : Nat → Int32) (s m : Nat) : Int64 := if m ≤ 12 then lN (hN (fun i => cl b (s + i)) m) else -1
/-- whether the token at s is a word -/
def isW (b : Nat → Int32) (len s : Nat) (l : List Nat) : Bool := decide (kn b len s = 2 ∧ en b len s - s = l.length) && al (fun i => decide (cl b (s + i) = l.getD i 0)) l.length
def hL (l : List Nat) : Nat := hN (fun i => l.getD i 0) l.length
theorem en_cl {b : Nat → Int32} {len s : Nat} (h : kn b len s = 2) {i : Nat} (hi : i < en b len s - s) : kn b len (s + i) = 2 := by
  rcases i with _ | i
  · exact h
  · unfold en at hi
    rw [if_pos (Or.inl h), h] at hi
    exact rn_in (k := 2) (p := s + 1) (by omega) (by omega)
theorem en_cd {b : Nat → Int32} {len s : Nat} (h : kn b len s = 3) {i : Nat} (hi : i < en b len s - s) : kn b len (s + i) = 3 := by
  rcases i with _ | i
  · exact h
  · unfold en at hi
    rw [if_pos (Or.inr h), h] at hi
    exact rn_in (k := 3) (p := s + 1) (by omega) (by omega)
/-- whether the token at s is a name -/
def isN (b : Nat → Int32) (len s : Nat) : Bool := decide (kn b len s = 2 ∧ en b len s ≤ s + 6)
theorem nm_lt {b : Nat → Int32} {len s : Nat} (h : kn b len s = 2) : nm b len s < 1073741824 := by
  have := nmN_lt (b := b) (s := s) (e := en b len s) (fun i hi => by
    have := cl_ok (en_cl (i := i) h (by omega))
    omega) 6
  unfold nm
  have h3 : (2 : Nat) ^ (5 * 6) = 1073741824 := by decide
  omega
/-! the words -/
def wRoom : List Nat := [18, 15, 15, 13]
def wPerson : List Nat := [16, 5, 18, 19, 15, 14]
def wNo : List Nat := [14, 15]
def wLease : List Nat := [12, 5, 1, 19, 5]
def wDeposit : List Nat := [4, 5, 16, 15, 19, 9, 20]
def wPlan : List Nat := [16, 12, 1, 14]
def wSet : List Nat := [19, 5, 20]
def wMethod : List Nat := [13, 5, 20, 8, 15, 4]
def wLow : List Nat := [12, 15, 23]
def wHigh : List Nat := [8, 9, 7, 8]
def wMiddle : List Nat := [13, 9, 4, 4, 12, 5]
def wShare : List Nat := [19, 8, 1, 18, 5]
def wAuto : List Nat := [1, 21, 20, 15]
/-! the parser: the token that is next and what was read; or an error and its place -/
abbrev pM : Type := Nat → Nat → Int32
abbrev pE : Type := Int32 × Nat
abbrev pS : Type := Nat × pM
def u1 (μ : pM) (a k : Nat) (x : Int32) : pM := fun i j => if i = a ∧ j = k then x else μ i j
def rm (μ : pM) : Nat := (μ 322 43).toNatClampNeg
def pe (μ : pM) : Nat := (μ 322 44).toNatClampNeg
def pn (μ : pM) : Nat := (μ 322 45).toNatClampNeg
def gv (μ : pM) (k : Nat) : Bool := decide (¬ (μ 322 49 >>> (nI k &&& 31)) &&& 1 = 0)
def gvS (μ : pM) (k : Nat) : pM := u1 μ 322 49 (μ 322 49 ||| (1 <<< (nI k &&& 31)))
/-- the last that has p -/
def lm (p : Nat → Bool) : Nat → Int32
  | 0 => -1
  | k + 1 => if p k = true then nI k else lm p k
theorem lm_rng {p : Nat → Bool} : ∀ N, lm p N = -1 ∨ ∃ k, k < N ∧ p k = true ∧ lm p N = nI k
  | 0 => Or.inl rfl
  | N + 1 => by
    simp only [lm]
    by_cases h : p N = true
    · rw [if_pos h]; exact Or.inr ⟨N, by omega, h, rfl⟩
    · rw [if_neg h]
      rcases lm_rng (p := p) N with h1 | ⟨k, h1, h2, h3⟩
      · exact Or.inl h1
      · exact Or.inr ⟨k, by omega, h2, h3⟩
section PR
variable (b : Nat → Int32) (len : Nat)
def pInt (hi s : Nat) : pE ⊕ Nat := if ¬ kn b len s = 3 then .inl (-11, s) else if hi < nu b len s then .inl (-12, s) else .inr (nu b len s)
def dup (μ : pM) (a N s : Nat) : Bool := !(al (fun r => decide (¬ μ a r = nI (nm b len s))) N)
def pRoom (s : Nat) (μ : pM) : pE ⊕ pS :=
  if 0 < pe μ then .inl (-11, s) else if 6 ≤ rm μ then .inl (-15, s)
  else if ¬ isN b len (nx b len s) = true then .inl (-11, nx b len s)
  else if dup b len μ 348 (rm μ) (nx b len s) = true then .inl (-14, nx b len s)
  else .inr (nx b len (nx b len s), u1 (u1 μ 348 (rm μ) (nI (nm b len (nx b len s)))) 322 43 (nI (rm μ + 1)))
def pVals (P : Nat) : Nat → Nat → Nat → pM → pE ⊕ pS
  | 0, _, s, μ => .inr (s, μ)
  | d + 1, r, s, μ => if isW b len s wNo = true then pVals P d (r + 1) (nx b len s) (u1 μ 347 (8 + 20 * P + (13 + r)) 1)
    else match pInt b len 9999 s with
      | .inl e => .inl e
      | .inr v => pVals P d (r + 1) (nx b len s) (u1 (u1 μ 347 (8 + 20 * P + (13 + r)) 0) 347 (8 + 20 * P + (7 + r)) (nI v))
def pPers (s : Nat) (μ : pM) : pE ⊕ pS :=
  if 10 ≤ pe μ then .inl (-15, s)
  else if ¬ isN b len (nx b len s) = true then .inl (-11, nx b len s)
  else if dup b len μ 349 (pe μ) (nx b len s) = true then .inl (-14, nx b len s)
  else match pInt b len 99999 (nx b len (nx b len s)) with
    | .inl e => .inl e
    | .inr v => match pVals b len (pe μ) (rm μ) 0 (nx b len (nx b len (nx b len s))) (u1 (u1 μ 349 (pe μ) (nI (nm b len (nx b len s)))) 347 (8 + 20 * pe μ + 1) (nI v)) with
      | .inl e => .inl e
      | .inr (s', μ') => .inr (s', u1 μ' 322 44 (nI (pe μ + 1)))
def pOnce (k place s : Nat) (μ : pM) : pE ⊕ pS :=
  if gv μ k = true then .inl (-14, s)
  else match pInt b len 99999 (nx b len s) with
    | .inl e => .inl e
    | .inr v => .inr (nx b len (nx b len s), u1 (gvS μ k) 347 place (nI v))
def pPlan (s : Nat) (μ : pM) : pE ⊕ pS :=
  if 20 ≤ pn μ then .inl (-15, s)
  else if ¬ isN b len (nx b len s) = true then .inl (-11, nx b len s)
  else if lm (fun p => decide (μ 349 p = nI (nm b len (nx b len s)))) (pe μ) = -1 then .inl (-13, nx b len s)
  else match pInt b len 999 (nx b len (nx b len s)) with
    | .inl e => .inl e
    | .inr m => match pInt b len 99999 (nx b len (nx b len (nx b len s))) with
      | .inl e => .inl e
      | .inr v => .inr (nx b len (nx b len (nx b len (nx b len s))), u1 (u1 (u1 (u1 μ 350 (3 * pn μ) (lm (fun p => decide (μ 349 p = nI (nm b len (nx b len s)))) (pe μ))) 350 (3 * pn μ + 1) (nI m)) 350 (3 * pn μ + 2) (nI v)) 322 45 (nI (pn μ + 1)))
def pWhich (s : Nat) : Nat := if isW b len s wMethod = true then 0 else if isW b len s wShare = true then 1 else if isW b len s wAuto = true then 2 else 3
def pMeth (s : Nat) : Nat := if isW b len s wLow = true then 0 else if isW b len s wHigh = true then 1 else if isW b len s wMiddle = true then 2 else 3
def pSet (s : Nat) (μ : pM) : pE ⊕ pS :=
  if pWhich b len (nx b len s) = 3 then .inl (-11, nx b len s)
  else if gv μ (pWhich b len (nx b len s)) = true then .inl (-14, nx b len s)
  else if pWhich b len (nx b len s) = 0 then (if pMeth b len (nx b len (nx b len s)) = 3 then .inl (-11, nx b len (nx b len s)) else .inr (nx b len (nx b len (nx b len s)), u1 (gvS μ 0) 347 0 (nI (pMeth b len (nx b len (nx b len s))))))
  else match pInt b len (if pWhich b len (nx b len s) = 1 then 100 else 1) (nx b len (nx b len s)) with
    | .inl e => .inl e
    | .inr v => .inr (nx b len (nx b len (nx b len s)), u1 (gvS μ (pWhich b len (nx b len s))) 347 (pWhich b len (nx b len s)) (nI v))
def pStmt (s : Nat) (μ : pM) : pE ⊕ pS :=
  match (if isW b len s wRoom = true then pRoom b len s μ else if isW b len s wPerson = true then pPers b len s μ else if isW b len s wLease = true then pOnce b len 3 3 s μ else if isW b len s wDeposit = true then pOnce b len 4 4 s μ else if isW b len s wPlan = true then pPlan b len s μ else if isW b len s wSet = true then pSet b len s μ else .inl (-11, s)) with
  | .inl e => .inl e
  | .inr (s', μ') => if kn b len s' = 4 then .inr (nx b len s', μ') else .inl (-11, s')
def pText : Nat → Nat → Nat → pM → pE ⊕ (Nat × pM)
  | 0, c, _, μ => .inr (c, μ)
  | f + 1, c, s, μ => if kn b len s = 0 then .inr (c, μ) else match pStmt b len s μ with
    | .inl e => .inl e
    | .inr (s', μ') => pText f (c + 1) s' μ'
end PR
/-! every step goes on in the text -/
