/-! the law's extremes are the least and the greatest prices without envy -/
theorem exQ_0 {N : Nat} {F : Nat → Nat → Int32} {p : Nat} : ∀ (n : Nat), n ≤ N → (0 ≤ (exQ 0 F p n).toInt) ∧ (∀ q, q < n → fiN (F q p) → (F q p).toInt ≤ (exQ 0 F p n).toInt) ∧ ((exQ 0 F p n).toInt = 0 ∨ ∃ q, q < n ∧ fiN (F q p) ∧ (exQ 0 F p n).toInt = (F q p).toInt)
  | 0, _ => ⟨by show (0 : Int) ≤ (0 : Int32).toInt; decide, fun q hq => by omega, Or.inl (by show (0 : Int32).toInt = 0; decide)⟩
  | n + 1, hn => by
    obtain ⟨h1, h2, h3⟩ := exQ_0 (N := N) (F := F) (p := p) n (by omega)
    have e : exQ 0 F p (n + 1) = if (if F n p ≤ (-1000000000) then 0 else F n p) ≤ exQ 0 F p n then exQ 0 F p n else (if F n p ≤ (-1000000000) then 0 else F n p) := if_pos rfl
    rw [e]
    by_cases c : F n p ≤ -1000000000
    · rw [if_pos c, if_pos (by rw [Int32.le_iff_toInt_le, Int32.toInt_zero]; exact h1)]
      refine ⟨h1, fun q hq hf => ?_, ?_⟩
      · by_cases d : q = n
        · subst d; exact absurd c hf
        · exact h2 q (by omega) hf
      · rcases h3 with h3 | ⟨q, h4, h5, h6⟩
        · exact Or.inl h3
        · exact Or.inr ⟨q, by omega, h5, h6⟩
    · rw [if_neg c]
      by_cases d : F n p ≤ exQ 0 F p n
      · rw [if_pos d]
        rw [Int32.le_iff_toInt_le] at d
        refine ⟨h1, fun q hq hf => ?_, ?_⟩
        · by_cases d2 : q = n
          · subst d2; exact d
          · exact h2 q (by omega) hf
        · rcases h3 with h3 | ⟨q, h4, h5, h6⟩
          · exact Or.inl h3
          · exact Or.inr ⟨q, by omega, h5, h6⟩
      · rw [if_neg d]
        rw [Int32.le_iff_toInt_le] at d
        refine ⟨by omega, fun q hq hf => ?_, Or.inr ⟨n, by omega, c, rfl⟩⟩
        by_cases d2 : q = n
        · subst d2; exact Int.le_refl _
        · have := h2 q (by omega) hf
          omega
theorem neg_i {x : Int32} (h : -1000000000 < x.toInt) : (-x).toInt = -x.toInt := by
  have h2 := Int32.toInt_lt x
  rw [Int32.toInt_neg, Int.bmod_eq_of_le (by omega) (by omega)]
theorem exQ_1 {N : Nat} {F : Nat → Nat → Int32} {p : Nat} : ∀ (n : Nat), n ≤ N → ((exQ 1 F p n).toInt ≤ 0) ∧ (∀ q, q < n → fiN (F p q) → (F p q).toInt ≤ -(exQ 1 F p n).toInt) ∧ ((exQ 1 F p n).toInt = 0 ∨ ∃ q, q < n ∧ fiN (F p q) ∧ (exQ 1 F p n).toInt = -(F p q).toInt)
  | 0, _ => ⟨by show (0 : Int32).toInt ≤ (0 : Int); decide, fun q hq => by omega, Or.inl (by show (0 : Int32).toInt = 0; decide)⟩
  | n + 1, hn => by
    obtain ⟨h1, h2, h3⟩ := exQ_1 (N := N) (F := F) (p := p) n (by omega)
    have e : exQ 1 F p (n + 1) = (if exQ 1 F p n ≤ -(if (if F p n ≤ (-1000000000) then 0 else F p n) ≤ (-1000000000) then (-1000000000) else (if F p n ≤ (-1000000000) then 0 else F p n)) then exQ 1 F p n else -(if (if F p n ≤ (-1000000000) then 0 else F p n) ≤ (-1000000000) then (-1000000000) else (if F p n ≤ (-1000000000) then 0 else F p n))) := if_neg (by decide)
    rw [e]
    by_cases c : F p n ≤ -1000000000
    · have e2 : (if (if F p n ≤ (-1000000000) then (0 : Int32) else F p n) ≤ (-1000000000) then (-1000000000) else (if F p n ≤ (-1000000000) then 0 else F p n)) = 0 := by
        rw [if_pos c, if_neg (by decide)]
      rw [e2, if_pos (by rw [Int32.le_iff_toInt_le, show (-(0 : Int32)).toInt = 0 by decide]; exact h1)]
      refine ⟨h1, fun q hq hf => ?_, ?_⟩
      · by_cases d : q = n
        · subst d; exact absurd c hf
        · exact h2 q (by omega) hf
      · rcases h3 with h3 | ⟨q, h4, h5, h6⟩
        · exact Or.inl h3
        · exact Or.inr ⟨q, by omega, h5, h6⟩
    · have e2 : (if (if F p n ≤ (-1000000000) then (0 : Int32) else F p n) ≤ (-1000000000) then (-1000000000) else (if F p n ≤ (-1000000000) then 0 else F p n)) = F p n := by
        rw [if_neg c, if_neg c]
      have en := neg_i (fiN_i.mp c)
      rw [e2]
      by_cases d : exQ 1 F p n ≤ -F p n
      · rw [if_pos d]
        rw [Int32.le_iff_toInt_le, en] at d
        refine ⟨h1, fun q hq hf => ?_, ?_⟩
        · by_cases d2 : q = n
          · subst d2; omega
          · exact h2 q (by omega) hf
        · rcases h3 with h3 | ⟨q, h4, h5, h6⟩
          · exact Or.inl h3
          · exact Or.inr ⟨q, by omega, h5, h6⟩
      · rw [if_neg d]
        rw [Int32.le_iff_toInt_le, en] at d
        refine ⟨by omega, fun q hq hf => ?_, Or.inr ⟨n, by omega, c, en⟩⟩
        by_cases d2 : q = n
        · subst d2; omega
        · have := h2 q (by omega) hf
          omega
section EX
variable {N : Nat} {F : Nat → Nat → Int32} {E : Nat → Nat → Prop} {w : Nat → Nat → Int} {l : Nat → Prop} {X Y : Nat → Int} {B : Int}
theorem fw_lo (h : fwI N F E w l X Y N B) (hX : ∀ p, p < N → 0 ≤ X p) {p : Nat} (hp : p < N) : 0 ≤ (exQ 0 F p N).toInt ∧ (exQ 0 F p N).toInt ≤ X p ∧ (¬ l p → F p p = 0 → (exQ 0 F p N).toInt = 0) ∧ ∀ q, q < N → E p q → (exQ 0 F p N).toInt + w p q ≤ (exQ 0 F q N).toInt := by
  obtain ⟨h1, h2, h3⟩ := exQ_0 (N := N) (F := F) (p := p) N (Nat.le_refl _)
  obtain ⟨k1, k2, k3, k4, k5, k6⟩ := h
  refine ⟨h1, ?_, fun nl z => ?_, fun q hq he => ?_⟩
  · rcases h3 with h3 | ⟨q, h4, h5, h6⟩
    · have := hX p hp
      omega
    · have := (k4 q p h4 hp h5).1
      have := hX q h4
      omega
  · rcases h3 with h3 | ⟨q, h4, h5, h6⟩
    · exact h3
    · rcases k5 q p h4 hp h5 with e | e
      · subst e
        rw [h6, z]; rfl
      · exact absurd e.2 nl
  · obtain ⟨g1, g2, -⟩ := exQ_0 (N := N) (F := F) (p := q) N (Nat.le_refl _)
    obtain ⟨e1, e2⟩ := k3 p q hp hq he
    rcases h3 with h3 | ⟨r, h4, h5, h6⟩
    · have := g2 p hp e1
      omega
    · obtain ⟨m1, m2⟩ := k6 p r q hp h4 hq h5 e1
      have := g2 r h4 m1
      omega
theorem fw_hi (h : fwI N F E w l X Y N B) (hY : ∀ p, p < N → 0 ≤ Y p) {p : Nat} (hp : p < N) : (exQ 1 F p N).toInt ≤ 0 ∧ -(exQ 1 F p N).toInt ≤ Y p ∧ (¬ l p → F p p = 0 → (exQ 1 F p N).toInt = 0) ∧ ∀ q, q < N → E q p → -(exQ 1 F p N).toInt + w q p ≤ -(exQ 1 F q N).toInt := by
  obtain ⟨h1, h2, h3⟩ := exQ_1 (N := N) (F := F) (p := p) N (Nat.le_refl _)
  obtain ⟨k1, k2, k3, k4, k5, k6⟩ := h
  refine ⟨h1, ?_, fun nl z => ?_, fun q hq he => ?_⟩
  · rcases h3 with h3 | ⟨q, h4, h5, h6⟩
    · have := hY p hp
      omega
    · have := (k4 p q hp h4 h5).2
      have := hY q h4
      omega
  · rcases h3 with h3 | ⟨q, h4, h5, h6⟩
    · exact h3
    · rcases k5 p q hp h4 h5 with e | e
      · subst e
        rw [h6, z]; rfl
      · exact absurd e.1 nl
  · obtain ⟨g1, g2, -⟩ := exQ_1 (N := N) (F := F) (p := q) N (Nat.le_refl _)
    obtain ⟨e1, e2⟩ := k3 q p hq hp he
    rcases h3 with h3 | ⟨r, h4, h5, h6⟩
    · have := g2 p hp e1
      omega
    · obtain ⟨m1, m2⟩ := k6 p q r hp hq h4 e1 h5
      have := g2 r h4 m1
      omega
end EX
