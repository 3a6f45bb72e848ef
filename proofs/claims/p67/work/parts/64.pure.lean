/-! transfers: who must pay the most pays the one who gets the most -/
def tP (d : Nat → Int) : Nat → Nat
  | 0 => 0
  | k + 1 => if d (tP d k) < d (k + 1) then k + 1 else tP d k
def tG (d : Nat → Int) : Nat → Nat
  | 0 => 0
  | k + 1 => if d (k + 1) < d (tG d k) then k + 1 else tG d k
theorem tP_ok (d : Nat → Int) : ∀ k, tP d k ≤ k ∧ ∀ j, j ≤ k → d j ≤ d (tP d k)
  | 0 => ⟨Nat.le_refl _, fun j h => by rw [Nat.le_zero.mp h]; exact Int.le_refl _⟩
  | k + 1 => by
    obtain ⟨h1, h2⟩ := tP_ok d k
    simp only [tP]
    by_cases h : d (tP d k) < d (k + 1)
    · rw [if_pos h]
      refine ⟨Nat.le_refl _, fun j hj => ?_⟩
      by_cases e : j = k + 1
      · subst e; exact Int.le_refl _
      · have := h2 j (by omega); omega
    · rw [if_neg h]
      refine ⟨by omega, fun j hj => ?_⟩
      by_cases e : j = k + 1
      · subst e; omega
      · exact h2 j (by omega)
theorem tG_ok (d : Nat → Int) : ∀ k, tG d k ≤ k ∧ ∀ j, j ≤ k → d (tG d k) ≤ d j
  | 0 => ⟨Nat.le_refl _, fun j h => by rw [Nat.le_zero.mp h]; exact Int.le_refl _⟩
  | k + 1 => by
    obtain ⟨h1, h2⟩ := tG_ok d k
    simp only [tG]
    by_cases h : d (k + 1) < d (tG d k)
    · rw [if_pos h]
      refine ⟨Nat.le_refl _, fun j hj => ?_⟩
      by_cases e : j = k + 1
      · subst e; exact Int.le_refl _
      · have := h2 j (by omega); omega
    · rw [if_neg h]
      refine ⟨by omega, fun j hj => ?_⟩
      by_cases e : j = k + 1
      · subst e; omega
      · exact h2 j (by omega)
def tA (d : Nat → Int) : Int := if d (tP d 10) < - d (tG d 10) then d (tP d 10) else - d (tG d 10)
def tS (d : Nat → Int) : Nat → Int := fun i => if i = tG d 10 then d (tG d 10) + tA d else if i = tP d 10 then d (tP d 10) - tA d else d i
abbrev trT : Type := Nat × Nat × Int
def trL : Nat → (Nat → Int) → List trT
  | 0, _ => []
  | f + 1, d => if 0 < d (tP d 10) then (tP d 10, tG d 10, tA d) :: trL f (tS d) else []
def nz (d : Nat → Int) : Nat := cn (fun i => decide (d i ≠ 0)) 11
/-- the sums are equal, nothing is too great -/
def okD (d : Nat → Int) : Prop := sI d 11 = 0 ∧ ∀ i, i < 11 → -10000000 ≤ d i ∧ d i ≤ 10000000
theorem cn_le_of {p q : Nat → Bool} : ∀ n, (∀ i, i < n → p i = true → q i = true) → cn p n ≤ cn q n
  | 0, _ => Nat.le_refl _
  | n + 1, h => by
    have := cn_le_of n (fun i hi => h i (by omega))
    simp only [cn]
    by_cases e : p n = true
    · rw [if_pos e, if_pos (h n (by omega) e)]; omega
    · rw [if_neg e]; omega
theorem cn_lt_of {p q : Nat → Bool} {i0 : Nat} : ∀ n, (∀ i, i < n → p i = true → q i = true) → i0 < n → q i0 = true → ¬ p i0 = true → cn p n < cn q n
  | 0, _, h, _, _ => by omega
  | n + 1, h, hi, hq, hp => by
    simp only [cn]
    by_cases e : i0 = n
    · subst e
      have := cn_le_of i0 (fun i hi => h i (by omega))
      rw [if_neg hp, if_pos hq]; omega
    · have := cn_lt_of n (fun i hi => h i (by omega)) (by omega) hq hp
      by_cases e2 : p n = true
      · rw [if_pos e2, if_pos (h n (by omega) e2)]; omega
      · rw [if_neg e2]; omega
theorem sI_pos {f : Nat → Int} {x : Nat} : ∀ n, (∀ i, i < n → 0 ≤ f i) → x < n → 0 < f x → 0 < sI f n
  | 0, _, h, _ => by omega
  | n + 1, h, hx, hf => by
    simp only [sI]
    have nn : ∀ m, m ≤ n → 0 ≤ sI f m := by
      intro m
      induction m with
      | zero => intro _; exact Int.le_refl _
      | succ m ih =>
        intro hm
        have := ih (by omega)
        have := h m (by omega)
        simp only [sI]
        omega
    by_cases e : x = n
    · subst e
      have := nn x (Nat.le_refl _)
      omega
    · have := sI_pos n (fun i hi => h i (by omega)) (by omega) hf
      have := h n (by omega)
      omega
theorem tr_pg {d : Nat → Int} (h : okD d) (hp : 0 < d (tP d 10)) : d (tG d 10) < 0 ∧ tP d 10 ≠ tG d 10 ∧ tP d 10 < 11 ∧ tG d 10 < 11 ∧ 0 < tA d ∧ tA d ≤ d (tP d 10) ∧ tA d ≤ - d (tG d 10) ∧ (tA d = d (tP d 10) ∨ tA d = - d (tG d 10)) := by
  obtain ⟨p1, p2⟩ := tP_ok d 10
  obtain ⟨g1, g2⟩ := tG_ok d 10
  have hg : d (tG d 10) < 0 := by
    by_cases hn : d (tG d 10) < 0
    · exact hn
    · have := sI_pos (f := d) (x := tP d 10) 11 (fun i hi => by have := g2 i (by omega); omega) (by omega) hp
      have := h.1
      omega
  have hne : tP d 10 ≠ tG d 10 := fun z => by rw [z] at hp; omega
  refine ⟨hg, hne, by omega, by omega, ?_⟩
  unfold tA
  split <;> omega
theorem tS_ok {d : Nat → Int} (h : okD d) (hp : 0 < d (tP d 10)) : okD (tS d) ∧ nz (tS d) < nz d := by
  obtain ⟨a1, a2, a3, a4, a5, a6, a7, a8⟩ := tr_pg h hp
  have bp := h.2 _ a3
  have bg := h.2 _ a4
  have eP : tS d (tP d 10) = d (tP d 10) - tA d := by unfold tS; rw [if_neg a2, if_pos rfl]
  have eG : tS d (tG d 10) = d (tG d 10) + tA d := by unfold tS; rw [if_pos rfl]
  have eo : ∀ i, i ≠ tP d 10 → i ≠ tG d 10 → tS d i = d i := fun i h1 h2 => by unfold tS; rw [if_neg h2, if_neg h1]
  refine ⟨⟨?_, fun i hi => ?_⟩, ?_⟩
  · have s1 := sI_upd (f := tS d) (h := fun i => if i = tG d 10 then tS d i else d i) (x := tP d 10) 11 a3 (fun j hj hne => by
      try dsimp only
      by_cases e : j = tG d 10
      · rw [if_pos e]
      · rw [if_neg e]; exact eo j hne e)
    have s2 := sI_upd (f := fun i => if i = tG d 10 then tS d i else d i) (h := d) (x := tG d 10) 11 a4 (fun j hj hne => by
      try dsimp only
      rw [if_neg hne])
    try dsimp only at s1 s2
    rw [if_neg a2] at s1
    rw [if_pos rfl] at s2
    have := h.1
    omega
  · by_cases e1 : i = tP d 10
    · subst e1; rw [eP]; omega
    · by_cases e2 : i = tG d 10
      · rw [e2, eG]; omega
      · rw [eo i e1 e2]; exact h.2 i hi
  · have sub : ∀ i, i < 11 → decide (tS d i ≠ 0) = true → decide (d i ≠ 0) = true := fun i hi hh => by
      simp only [decide_eq_true_eq] at hh ⊢
      by_cases e1 : i = tP d 10
      · rw [e1]; omega
      · by_cases e2 : i = tG d 10
        · rw [e2]; omega
        · rw [eo i e1 e2] at hh; exact hh
    rcases a8 with e | e
    · exact cn_lt_of (i0 := tP d 10) 11 sub a3 (by simp only [decide_eq_true_eq]; omega) (by simp only [decide_eq_true_eq]; omega)
    · exact cn_lt_of (i0 := tG d 10) 11 sub a4 (by simp only [decide_eq_true_eq]; omega) (by simp only [decide_eq_true_eq]; omega)
theorem nz_two {d : Nat → Int} (h : okD d) (hp : 0 < d (tP d 10)) : 0 < nz d := by
  have := (tS_ok h hp).2
  omega
theorem trL_no {d : Nat → Int} (h : ¬ 0 < d (tP d 10)) (f : Nat) : trL f d = [] := by
  cases f with
  | zero => rfl
  | succ f => simp only [trL]; rw [if_neg h]
theorem trL_len : ∀ (f : Nat) (d : Nat → Int), okD d → (trL f d).length ≤ nz d
  | 0, _, _ => Nat.zero_le _
  | f + 1, d, h => by
    simp only [trL]
    by_cases hp : 0 < d (tP d 10)
    · rw [if_pos hp]
      obtain ⟨h1, h2⟩ := tS_ok h hp
      have := trL_len f (tS d) h1
      simp only [List.length_cons]
      omega
    · rw [if_neg hp]; exact Nat.zero_le _
/-- what hands are added -/
theorem hoS_bd {m : Nat} : ∀ (n : Nat) (r : Nat → Int) (s : Nat → Int32) (i : Nat), ∃ k, k ≤ n ∧ hoS m n r s i = s i + nI k
  | 0, _, s, i => ⟨0, Nat.le_refl _, by rw [nI_0]; simp [hoS]⟩
  | n + 1, r, s, i => by
    simp only [hoS]
    rcases hoB r m with _ | b
    · exact ⟨0, Nat.zero_le _, by rw [nI_0]; simp⟩
    · obtain ⟨k, h1, h2⟩ := hoS_bd n (hoU r b) (hoA s b) i
      try dsimp only
      rw [h2]
      by_cases e : i = b
      · refine ⟨k + 1, by omega, ?_⟩
        rw [hoA, if_pos e, ← nI_1]
        rw [Int32.add_assoc, Int32.add_comm 1 (nI k)]
      · exact ⟨k, by omega, by rw [hoA, if_neg e]⟩
theorem spS_bd {A : Nat} (hA : A ≤ 99999) (w : Nat → Nat) {m i : Nat} (hi : i < m) (hm : m ≤ 10) : ∃ k, k ≤ 100009 ∧ spS A w m i = nI k := by
  obtain ⟨s1, s2, s3⟩ := sp_le A w (m := m) (by omega)
  obtain ⟨k, h1, h2⟩ := hoS_bd (m := m) (spL A w m) (fun i => (spR A w m i : Int)) (fun i => nI (spP A w m i)) i
  have h3 : smN (spP A w m) (i + 1) ≤ smN (spP A w m) m := smN_part (by omega)
  simp only [smN] at h3
  refine ⟨spP A w m i + k, by omega, ?_⟩
  show hoS m (spL A w m) _ _ i = _
  rw [h2, nI_add]
