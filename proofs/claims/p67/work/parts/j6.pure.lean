/-! the law's extremes: the longest ways, all at once -/
def fiN (x : Int32) : Prop := ¬ x ≤ -1000000000
theorem fiN_i {x : Int32} : fiN x ↔ -1000000000 < x.toInt := by
  unfold fiN
  rw [Int32.le_iff_toInt_le, show (-1000000000 : Int32).toInt = -1000000000 by decide]
  omega
def fwM (k : Nat) (F : Nat → Nat → Int32) (i j : Nat) : Int32 := if F i k ≤ (-1000000000) then F i j else if F k j ≤ (-1000000000) then F i j else if F i k + F k j ≤ F i j then F i j else F i k + F k j
theorem fwM_c {k : Nat} {F : Nat → Nat → Int32} (h : F k k = 0) (i : Nat) : fwM k F i k = F i k := by
  unfold fwM
  by_cases c : F i k ≤ -1000000000
  · rw [if_pos c]
  · rw [if_neg c, h, if_neg (by decide), Int32.add_zero, if_pos (Int32.le_refl _)]
theorem fwM_r {k : Nat} {F : Nat → Nat → Int32} (h : F k k = 0) (j : Nat) : fwM k F k j = F k j := by
  unfold fwM
  by_cases c : F k j ≤ -1000000000
  · rw [h, if_neg (by decide), if_pos c]
  · rw [h, if_neg (by decide), if_neg c, Int32.zero_add, if_pos (Int32.le_refl _)]
theorem fwQ_M {k p : Nat} {F : Nat → Nat → Int32} (h : F k k = 0) : ∀ (q i j : Nat), fwQ k p F q i j = if i = p ∧ j < q then fwM k F p j else F i j
  | 0, i, j => by rw [if_neg (by omega)]; rfl
  | q + 1, i, j => by
    have ih := fwQ_M (p := p) h q
    show fwS k p q (fwQ k p F q) i j = _
    have e1 : fwQ k p F q p k = F p k := by
      rw [ih]
      split
      · exact fwM_c h p
      · rfl
    have e2 : fwQ k p F q k q = F k q := by rw [ih, if_neg (by omega)]
    have e3 : fwQ k p F q p q = F p q := by rw [ih, if_neg (by omega)]
    have eM : fwM k F p q = if F p k ≤ (-1000000000) then F p q else if F k q ≤ (-1000000000) then F p q else if F p k + F k q ≤ F p q then F p q else F p k + F k q := rfl
    unfold fwS
    rw [e1, e2, e3]
    by_cases c : i = p ∧ j = q
    · rw [c.1, c.2]
      have e8 : (if p = p ∧ q < q + 1 then fwM k F p q else F p q) = fwM k F p q := if_pos ⟨rfl, by omega⟩
      rw [e8, eM]
      by_cases c1 : F p k ≤ -1000000000
      · rw [if_pos c1, if_pos c1, e3]
      · rw [if_neg c1, if_neg c1]
        by_cases c2 : F k q ≤ -1000000000
        · rw [if_pos c2, if_pos c2, e3]
        · rw [if_neg c2, if_neg c2]
          show (if p = p ∧ q = q then _ else _) = _
          rw [if_pos ⟨rfl, rfl⟩]
    · have e9 : (if F p k ≤ -1000000000 then fwQ k p F q else if F k q ≤ -1000000000 then fwQ k p F q else fun i j => if i = p ∧ j = q then (if F p k + F k q ≤ F p q then F p q else F p k + F k q) else fwQ k p F q i j) i j = fwQ k p F q i j := by
        split
        · rfl
        · split
          · rfl
          · show (if i = p ∧ j = q then _ else _) = _
            rw [if_neg c]
      rw [e9, ih]
      by_cases d : i = p ∧ j < q
      · rw [if_pos d, if_pos ⟨d.1, by omega⟩]
      · rw [if_neg d, if_neg (fun z => d ⟨z.1, by omega⟩)]
theorem fwP_M {N k : Nat} {F : Nat → Nat → Int32} (hk : k < N) (h : F k k = 0) : ∀ (p i j : Nat), fwP N k F p i j = if i < p ∧ j < N then fwM k F i j else F i j
  | 0, i, j => by rw [if_neg (by omega)]; rfl
  | p + 1, i, j => by
    have ih := fwP_M hk h p
    have e0 : fwP N k F p k k = 0 := by
      rw [ih]
      split
      · rw [fwM_c h, h]
      · exact h
    show fwQ k p (fwP N k F p) N i j = _
    rw [fwQ_M e0, ih]
    by_cases c : i = p ∧ j < N
    · rw [if_pos c, if_pos ⟨by omega, c.2⟩, c.1]
      have e1 : fwP N k F p p k = F p k := by rw [ih, if_neg (by omega)]
      have e2 : fwP N k F p k j = F k j := by
        rw [ih]
        split
        · exact fwM_r h j
        · rfl
      have e3 : fwP N k F p p j = F p j := by rw [ih, if_neg (by omega)]
      unfold fwM
      rw [e1, e2, e3]
    · rw [if_neg c]
      by_cases d : i < p ∧ j < N
      · rw [if_pos d, if_pos ⟨by omega, d.2⟩]
      · rw [if_neg d, if_neg (by omega)]
/-- what holds of the ways by the first k -/
def fwI (N : Nat) (F : Nat → Nat → Int32) (E : Nat → Nat → Prop) (w : Nat → Nat → Int) (l : Nat → Prop) (X Y : Nat → Int) (k : Nat) (B : Int) : Prop :=
  (∀ i j, i < N → j < N → F i j = -1000000000 ∨ (-B ≤ (F i j).toInt ∧ (F i j).toInt ≤ B)) ∧
  (∀ i, i < N → 0 ≤ (F i i).toInt) ∧
  (∀ i j, i < N → j < N → E i j → fiN (F i j) ∧ w i j ≤ (F i j).toInt) ∧
  (∀ i j, i < N → j < N → fiN (F i j) → X i + (F i j).toInt ≤ X j ∧ Y j + (F i j).toInt ≤ Y i) ∧
  (∀ i j, i < N → j < N → fiN (F i j) → i = j ∨ (l i ∧ l j)) ∧
  ∀ c i j, c < k → i < N → j < N → fiN (F i c) → fiN (F c j) → fiN (F i j) ∧ (F i c).toInt + (F c j).toInt ≤ (F i j).toInt
section FW
variable {N k : Nat} {F : Nat → Nat → Int32} {E : Nat → Nat → Prop} {w : Nat → Nat → Int} {l : Nat → Prop} {X Y : Nat → Int} {B : Int}
theorem fwI_0 (h : fwI N F E w l X Y k B) (hB : B ≤ 100000000) {i : Nat} (hi : i < N) : F i i = 0 := by
  have h1 := h.2.1 i hi
  have h2 := (h.2.2.2.1 i i hi hi (fiN_i.mpr (by omega))).1
  refine Int32.toInt_inj.mp ?_
  rw [Int32.toInt_zero]
  omega
theorem fwM_s (h : fwI N F E w l X Y k B) (hB : B ≤ 100000000) (hk : k < N) {i j : Nat} (hi : i < N) (hj : j < N) : (fwM k F i j = F i j ∧ (fiN (F i k) → fiN (F k j) → fiN (F i j) ∧ (F i k).toInt + (F k j).toInt ≤ (F i j).toInt)) ∨ (fiN (F i k) ∧ fiN (F k j) ∧ (fwM k F i j).toInt = (F i k).toInt + (F k j).toInt ∧ (F i j).toInt < (fwM k F i j).toInt) := by
  unfold fwM
  by_cases c1 : F i k ≤ -1000000000
  · rw [if_pos c1]
    exact Or.inl ⟨rfl, fun z => absurd c1 z⟩
  · rw [if_neg c1]
    by_cases c2 : F k j ≤ -1000000000
    · rw [if_pos c2]
      exact Or.inl ⟨rfl, fun _ z => absurd c2 z⟩
    · rw [if_neg c2]
      have b1 := (h.1 i k hi hk).resolve_left (fun z => c1 (by rw [z]; exact Int32.le_refl _))
      have b2 := (h.1 k j hk hj).resolve_left (fun z => c2 (by rw [z]; exact Int32.le_refl _))
      have es : (F i k + F k j).toInt = (F i k).toInt + (F k j).toInt := by
        rw [Int32.toInt_add, Int.bmod_eq_of_le (by omega) (by omega)]
      by_cases c3 : F i k + F k j ≤ F i j
      · rw [if_pos c3]
        rw [Int32.le_iff_toInt_le, es] at c3
        refine Or.inl ⟨rfl, fun _ _ => ⟨fiN_i.mpr (by omega), c3⟩⟩
      · rw [if_neg c3]
        rw [Int32.le_iff_toInt_le, es] at c3
        exact Or.inr ⟨c1, c2, es, by rw [es]; omega⟩
theorem fwI_s (h : fwI N F E w l X Y k B) (hB : B ≤ 100000000) (hB0 : 0 ≤ B) (hk : k < N) : fwI N (fwP N k F N) E w l X Y (k + 1) (2 * B) := by
  have h0 := fwI_0 h hB hk
  have e : ∀ i j, i < N → j < N → fwP N k F N i j = fwM k F i j := fun i j hi hj => by rw [fwP_M hk h0, if_pos ⟨hi, hj⟩]
  obtain ⟨k1, k2, k3, k4, k5, k6⟩ := id h
  have bd : ∀ i j, i < N → j < N → fiN (F i j) → -B ≤ (F i j).toInt ∧ (F i j).toInt ≤ B := fun i j hi hj q => (k1 i j hi hj).resolve_left (fun z => q (by rw [z]; exact Int32.le_refl _))
  -- the new ways are no shorter
  have up : ∀ i j, i < N → j < N → fiN (F i j) → fiN (fwM k F i j) ∧ (F i j).toInt ≤ (fwM k F i j).toInt := fun i j hi hj q => by
    rw [fiN_i] at q
    rcases fwM_s h hB hk hi hj with ⟨a, -⟩ | ⟨-, -, a, b⟩
    · rw [a]; exact ⟨fiN_i.mpr q, Int.le_refl _⟩
    · exact ⟨fiN_i.mpr (by omega), by omega⟩
  have via : ∀ i j, i < N → j < N → fiN (F i k) → fiN (F k j) → fiN (fwM k F i j) ∧ (F i k).toInt + (F k j).toInt ≤ (fwM k F i j).toInt := fun i j hi hj q1 q2 => by
    have b1 := bd i k hi hk q1
    have b2 := bd k j hk hj q2
    rcases fwM_s h hB hk hi hj with ⟨a, b⟩ | ⟨-, -, a, b⟩
    · rw [a]; exact b q1 q2
    · exact ⟨fiN_i.mpr (by omega), by omega⟩
  refine ⟨fun i j hi hj => ?_, fun i hi => ?_, fun i j hi hj q => ?_, fun i j hi hj q => ?_, fun i j hi hj q => ?_, fun c i j hc hi hj q1 q2 => ?_⟩
  · rw [e i j hi hj]
    rcases fwM_s h hB hk hi hj with ⟨a, -⟩ | ⟨q1, q2, a, b⟩
    · rw [a]
      rcases k1 i j hi hj with z | z
      · exact Or.inl z
      · exact Or.inr (by omega)
    · have b1 := bd i k hi hk q1
      have b2 := bd k j hk hj q2
      exact Or.inr (by omega)
  · rw [e i i hi hi]
    have := k2 i hi
    have := (up i i hi hi (fiN_i.mpr (by omega))).2
    omega
  · rw [e i j hi hj]
    obtain ⟨a, b⟩ := k3 i j hi hj q
    obtain ⟨a2, b2⟩ := up i j hi hj a
    exact ⟨a2, by omega⟩
  · rw [e i j hi hj] at q ⊢
    rcases fwM_s h hB hk hi hj with ⟨a, -⟩ | ⟨q1, q2, a, b⟩
    · rw [a] at q ⊢; exact k4 i j hi hj q
    · have z1 := k4 i k hi hk q1
      have z2 := k4 k j hk hj q2
      rw [a]
      omega
  · rw [e i j hi hj] at q
    rcases fwM_s h hB hk hi hj with ⟨a, -⟩ | ⟨q1, q2, a, b⟩
    · rw [a] at q; exact k5 i j hi hj q
    · rcases k5 i k hi hk q1 with z1 | z1
      · subst z1
        exact k5 i j hi hj q2
      · rcases k5 k j hk hj q2 with z2 | z2
        · subst z2
          exact Or.inr z1
        · exact Or.inr ⟨z1.1, z2.2⟩
  · have hcN : c < N := by omega
    rw [e i c hi hcN] at q1 ⊢
    rw [e c j hcN hj] at q2 ⊢
    rw [e i j hi hj]
    by_cases ck : c = k
    · subst ck
      rw [fwM_c h0] at q1 ⊢
      rw [fwM_r h0] at q2 ⊢
      exact via i j hi hj q1 q2
    · have hck : c < k := by omega
      rcases fwM_s h hB hk hi hcN with ⟨a, -⟩ | ⟨r1, r2, a, -⟩
      · rw [a] at q1 ⊢
        rcases fwM_s h hB hk hcN hj with ⟨b, -⟩ | ⟨s1, s2, b, -⟩
        · rw [b] at q2 ⊢
          obtain ⟨u1, u2⟩ := k6 c i j hck hi hj q1 q2
          obtain ⟨u3, u4⟩ := up i j hi hj u1
          exact ⟨u3, by omega⟩
        · rw [b]
          obtain ⟨u1, u2⟩ := k6 c i k hck hi hk q1 s1
          obtain ⟨u3, u4⟩ := via i j hi hj u1 s2
          exact ⟨u3, by omega⟩
      · rcases fwM_s h hB hk hcN hj with ⟨b, -⟩ | ⟨s1, s2, b, -⟩
        · rw [b] at q2 ⊢
          rw [a]
          obtain ⟨u1, u2⟩ := k6 c k j hck hk hj r2 q2
          obtain ⟨u3, u4⟩ := via i j hi hj r1 u1
          exact ⟨u3, by omega⟩
        · rw [a, b]
          obtain ⟨u1, u2⟩ := k6 c k k hck hk hk r2 s1
          obtain ⟨u3, u4⟩ := via i j hi hj r1 s2
          rw [h0, Int32.toInt_zero] at u2
          exact ⟨u3, by omega⟩
theorem fwI_K (hN : N ≤ 5) (hB : B ≤ 2000000) (hB0 : 0 ≤ B) (h : fwI N F E w l X Y 0 B) : ∀ k, k ≤ N → fwI N (fwK N F k) E w l X Y k (B * 2 ^ k)
  | 0, _ => by rw [Int.pow_zero, Int.mul_one]; exact h
  | k + 1, hk => by
    have h2 : B * 2 ^ k ≤ 2000000 * 32 := by
      have h3 : (2 : Int) ^ k ≤ 32 := by
        have : k = 0 ∨ k = 1 ∨ k = 2 ∨ k = 3 ∨ k = 4 := by omega
        rcases this with rfl | rfl | rfl | rfl | rfl <;> decide
      have h4 : (0 : Int) ≤ 2 ^ k := Int.pow_nonneg (by decide)
      exact Int.mul_le_mul hB h3 h4 (by decide)
    have h5 : 0 ≤ B * 2 ^ k := Int.mul_nonneg hB0 (Int.pow_nonneg (by decide))
    have := fwI_s (fwI_K hN hB hB0 h k (by omega)) (by omega) h5 (by omega)
    rw [show B * 2 ^ (k + 1) = 2 * (B * 2 ^ k) by rw [Int.pow_succ]; rw [← Int.mul_assoc, Int.mul_comm]]
    exact this
end FW
