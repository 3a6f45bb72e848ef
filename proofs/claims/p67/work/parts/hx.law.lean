/-! the law's choose: what it is to do -/
abbrev chT : Type := Int32 × Int32 × Option (Nat → Int32) × (Nat → Int32)
def chB (σ : dM) (N : Nat) : Option (Nat → Int32) → dM
  | none => σ
  | some f => DuR (DrI (Dnw σ 1107 N) 1107 f) 1000 21 (some 1107)
/-- the desk while it chooses: the greatest sum, how often, the best, the one at hand -/
def chM (σ : dM) (N : Nat) (s : chT) : dM := DrI (DuI (DuI (chB σ N s.2.2.1) 1000 22 s.1) 1000 23 s.2.1) 1106 s.2.2.2
def chG (τ : dM) : chT := (DI τ 1000 22, DI τ 1000 23, (match DR τ 1000 21 with | none => none | some _ => some (DI τ 1107)), DI τ 1106)
/-- what the desk is before -/
def chO (σ : dM) (N M : Nat) : Prop := dk σ N M ∧ Dcl0 σ ∧ DA σ 1107 = false ∧ DA σ 1109 = false ∧ DR σ 1000 21 = none ∧ DR σ 1000 20 = some 1106 ∧ DA σ 1106 = true ∧ DN σ 1106 = N
def chU (p : Nat) (x : Int32) (s : chT) : chT := (s.1, s.2.1, s.2.2.1, fun j => if j = p then x else s.2.2.2 j)
/-- a choice is whole -/
def chE (N : Nat) (its : Int32) (s : chT) : chT :=
  if its < s.1 then s else
    let C : Int32 := if s.1 < its then 1 else s.2.1 + 1
    (its, C, (match s.2.2.1 with
      | none => some s.2.2.2
      | some f => if C = 1 then some s.2.2.2 else if lxl s.2.2.2 f N 0 = true then some s.2.2.2 else some f), s.2.2.2)
def chR (f : Nat → chT → chT) : Nat → chT → chT
  | 0, s => s
  | k + 1, s => chR f k (f k s)
def chFo (σ : dM) (N M : Nat) : Nat → Int32 → Int32 → chT → chT
  | 0, _, its, s => chE N its s
  | p + 1, t, its, s => if DI σ 1100 p = 1 then chR (fun r s => if (t >>> (nI r &&& 31)) &&& 1 = 1 then s else if DI σ (1200 + p) r = 0 then chFo σ N M p (t ||| (1 <<< (nI r &&& 31))) (its + DI σ (1110 + p) r) (chU p (nI r) s) else s) M (chU p (-1) s) else chFo σ N M p t its (chU p (-1) s)
section CHM
variable {σ : dM} {N M : Nat} {s : chT}
theorem chM_I {k j : Nat} (h1 : k ≠ 1106) (h2 : k ≠ 1107) (h3 : ¬ (k = 1000 ∧ (j = 22 ∨ j = 23))) : DI (chM σ N s) k j = DI σ k j := by
  obtain ⟨S, C, b, c⟩ := s
  unfold chM
  rw [DrI_I, if_neg h1, DuI_I, if_neg (fun z => h3 ⟨z.1, Or.inr z.2⟩), DuI_I, if_neg (fun z => h3 ⟨z.1, Or.inl z.2⟩)]
  cases b with
  | none => rfl
  | some f =>
    unfold chB
    rw [DuR_I, DrI_I, if_neg h2, Dnw_I, if_neg h2]
theorem chM_L {k j : Nat} (h2 : k ≠ 1107) : DL (chM σ N s) k j = DL σ k j := by
  obtain ⟨S, C, b, c⟩ := s
  unfold chM
  rw [DrI_L, DuI_L, DuI_L]
  cases b with
  | none => rfl
  | some f =>
    unfold chB
    rw [DuR_L, DrI_L, Dnw_L, if_neg h2]
theorem chM_R {k j : Nat} (h2 : k ≠ 1107) (h3 : ¬ (k = 1000 ∧ j = 21)) : DR (chM σ N s) k j = DR σ k j := by
  obtain ⟨S, C, b, c⟩ := s
  unfold chM
  rw [DrI_R, DuI_R, DuI_R]
  cases b with
  | none => rfl
  | some f =>
    unfold chB
    rw [DuR_R, if_neg h3, DrI_R, Dnw_R, if_neg h2]
theorem chM_N {k : Nat} (h2 : k ≠ 1107) : DN (chM σ N s) k = DN σ k := by
  obtain ⟨S, C, b, c⟩ := s
  unfold chM
  rw [DrI_N, DuI_N, DuI_N]
  cases b with
  | none => rfl
  | some f =>
    unfold chB
    rw [DuR_N, DrI_N, Dnw_N, if_neg h2]
theorem chM_A {k : Nat} (h2 : k ≠ 1107) : DA (chM σ N s) k = DA σ k := by
  obtain ⟨S, C, b, c⟩ := s
  unfold chM
  rw [DrI_A, DuI_A, DuI_A]
  cases b with
  | none => rfl
  | some f =>
    unfold chB
    rw [DuR_A, DrI_A, Dnw_A, if_neg h2]
theorem chM_v : DI (chM σ N s) 1000 22 = s.1 ∧ DI (chM σ N s) 1000 23 = s.2.1 ∧ DI (chM σ N s) 1106 = s.2.2.2 := by
  unfold chM
  refine ⟨?_, ?_, funext fun j => ?_⟩
  · rw [DrI_I, if_neg (by decide), DuI_I, if_neg (by decide), DuI_I, if_pos ⟨rfl, rfl⟩]
  · rw [DrI_I, if_neg (by decide), DuI_I, if_pos ⟨rfl, rfl⟩]
  · rw [DrI_I, if_pos rfl]
theorem chM_n {S C : Int32} {c : Nat → Int32} (h : chO σ N M) : DR (chM σ N (S, C, none, c)) 1000 21 = none := h.2.2.2.2.1
theorem chM_s {S C : Int32} {c f : Nat → Int32} : DR (chM σ N (S, C, some f, c)) 1000 21 = some 1107 ∧ DA (chM σ N (S, C, some f, c)) 1107 = true ∧ DN (chM σ N (S, C, some f, c)) 1107 = N ∧ DI (chM σ N (S, C, some f, c)) 1107 = f := by
  unfold chM chB
  refine ⟨?_, ?_, ?_, funext fun j => ?_⟩
  · rw [DrI_R, DuI_R, DuI_R, DuR_R, if_pos ⟨rfl, rfl⟩]
  · rw [DrI_A, DuI_A, DuI_A, DuR_A, DrI_A, Dnw_A, if_pos rfl]
  · rw [DrI_N, DuI_N, DuI_N, DuR_N, DrI_N, Dnw_N, if_pos rfl]
  · rw [DrI_I, if_neg (by decide), DuI_I, if_neg (fun z => absurd z.1 (by decide)), DuI_I, if_neg (fun z => absurd z.1 (by decide)), DuR_I, DrI_I, if_pos rfl]
theorem chG_M (h : chO σ N M) : chG (chM σ N s) = s := by
  obtain ⟨S, C, b, c⟩ := s
  obtain ⟨v1, v2, v3⟩ := chM_v (σ := σ) (N := N) (s := (S, C, b, c))
  unfold chG
  rw [v1, v2, v3]
  cases b with
  | none => rw [chM_n h]
  | some f =>
    obtain ⟨w1, w2, w3, w4⟩ := chM_s (σ := σ) (N := N) (S := S) (C := C) (c := c) (f := f)
    rw [w1, w4]
theorem chM_k (h : chO σ N M) : dk (chM σ N s) N M := by
  obtain ⟨k1, k2, k3, k4, k5, k6⟩ := h.1
  have hN := k1.1.2
  refine ⟨k1, ?_, ?_, ?_, ?_, fun p hp => ?_⟩
  · rw [chM_I (by decide) (by decide) (by decide), chM_I (by decide) (by decide) (by decide)]; exact k2
  · simp only [chM_A (σ := σ) (N := N) (s := s) (show (1000 : Nat) ≠ 1107 by decide), chM_A (σ := σ) (N := N) (s := s) (show (1100 : Nat) ≠ 1107 by decide), chM_A (σ := σ) (N := N) (s := s) (show (1101 : Nat) ≠ 1107 by decide), chM_A (σ := σ) (N := N) (s := s) (show (1102 : Nat) ≠ 1107 by decide), chM_A (σ := σ) (N := N) (s := s) (show (1103 : Nat) ≠ 1107 by decide), chM_A (σ := σ) (N := N) (s := s) (show (1104 : Nat) ≠ 1107 by decide), chM_A (σ := σ) (N := N) (s := s) (show (1300 : Nat) ≠ 1107 by decide), chM_A (σ := σ) (N := N) (s := s) (show (1400 : Nat) ≠ 1107 by decide), chM_A (σ := σ) (N := N) (s := s) (show (1500 : Nat) ≠ 1107 by decide), chM_A (σ := σ) (N := N) (s := s) (show (1900 : Nat) ≠ 1107 by decide)]
    exact k3
  · have e : ∀ j, j ≠ 21 → DR (chM σ N s) 1000 j = DR σ 1000 j := fun j hj => chM_R (by decide) (fun z => hj z.2)
    rw [e 0 (by decide), e 3 (by decide), e 4 (by decide), e 5 (by decide), e 6 (by decide), e 7 (by decide), e 8 (by decide), e 9 (by decide), e 10 (by decide), e 11 (by decide)]
    exact k4
  · have e : ∀ k, k ≠ 1107 → DN (chM σ N s) k = DN σ k := fun k hk => chM_N hk
    rw [e 1100 (by decide), e 1101 (by decide), e 1102 (by decide), e 1103 (by decide), e 1104 (by decide), e 1300 (by decide), e 1400 (by decide), e 1500 (by decide)]
    exact k5
  · rw [chM_R (k := 1400) (by decide) (by omega), chM_A (k := 1110 + p) (by omega), chM_N (k := 1110 + p) (by omega), chM_R (k := 1500) (by decide) (by omega), chM_A (k := 1200 + p) (by omega), chM_N (k := 1200 + p) (by omega)]
    refine ⟨(k6 p hp).1, (k6 p hp).2.1, fun r => ?_⟩
    rw [chM_I (by omega) (by omega) (by omega)]
    exact (k6 p hp).2.2 r
theorem chM_C (h : chO σ N M) : dkC (chM σ N s) N := by
  unfold dkC
  rw [chM_R (by decide) (by decide), chM_A (by decide), chM_N (by decide)]
  exact h.2.2.2.2.2
/-- a place of the one at hand -/
theorem chM_U {p : Nat} {x : Int32} : DuI (chM σ N s) 1106 p x = chM σ N (chU p x s) := by
  unfold chM
  rw [DuI_rI]
  rfl
end CHM
