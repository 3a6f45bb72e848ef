/-! choices by sets of rooms that are taken -/
def pop (t : Nat) : Nat := cn (fun i => t.testBit i) 6
theorem pop_bc {t : Nat} (h : t < 64) : bc (nI t) = nI (pop t) ∧ pop t ≤ 6 := by
  have key : ∀ t : Fin 64, bc (nI t.val) = nI (pop t.val) ∧ pop t.val ≤ 6 := by decide +kernel
  exact key ⟨t, h⟩
theorem pop_or {t r : Nat} (h : t < 64) (hr : r < 6) (hb : ¬ t.testBit r = true) : pop (t ||| 1 <<< r) = pop t + 1 := by
  have key : ∀ t : Fin 64, ∀ r : Fin 6, ¬ t.val.testBit r.val = true → pop (t.val ||| 1 <<< r.val) = pop t.val + 1 := by decide +kernel
  exact key ⟨t, h⟩ ⟨r, hr⟩ hb
theorem or_bit {t r R : Nat} (hR : R ≤ 6) (h : t < 2 ^ R) (hr : r < R) : (t ||| 1 <<< r = t ↔ t.testBit r = true) ∧ t ||| 1 <<< r < 2 ^ R ∧ t ≤ t ||| 1 <<< r := by
  have key : ∀ R : Fin 7, ∀ t : Fin 64, t.val < 2 ^ R.val → ∀ r : Fin 6, r.val < R.val → (t.val ||| 1 <<< r.val = t.val ↔ t.val.testBit r.val = true) ∧ t.val ||| 1 <<< r.val < 2 ^ R.val ∧ t.val ≤ t.val ||| 1 <<< r.val := by decide +kernel
  have h6 : 2 ^ R ≤ 2 ^ 6 := Nat.pow_le_pow_right (by decide) hR
  exact key ⟨R, by omega⟩ ⟨t, by omega⟩ h ⟨r, by omega⟩ hr
/-- what is best behind the rooms t -/
def dpv (W : Nat → Nat → Option Nat) (R m t : Nat) : qC := if pop t ≤ m then qT W R (m - pop t) (pop t) t else none
/-- what is best if the next one gets the room r -/
def dpT (W : Nat → Nat → Option Nat) (R m i t r : Nat) : qC := match W i r with
  | none => none
  | some v => if t.testBit r then none else qS v i r (qT W R (m - i - 1) (i + 1) (t ||| 1 <<< r))
theorem qT_step {W : Nat → Nat → Option Nat} {R m i t : Nat} (h : i < m) : qT W R (m - i) i t = qR (dpT W R m i t) R := by
  obtain ⟨d, hd⟩ : ∃ d, m - i = d + 1 := ⟨m - i - 1, by omega⟩
  rw [hd]
  simp only [qT]
  congr 1
  funext r
  unfold dpT
  rw [show m - i - 1 = d by omega]
  cases W i r <;> rfl
theorem qR_bd {f : Nat → qC} {V C : Nat} : ∀ r, (∀ q, q < r → ∀ a, f q = some a → a.1 ≤ V ∧ a.2.1 ≤ C ∧ 0 < a.2.1) → ∀ a, qR f r = some a → a.1 ≤ V ∧ a.2.1 ≤ C * r ∧ 0 < a.2.1
  | 0, _, a, h => by cases h
  | r + 1, hf, a, h => by
    simp only [qR] at h
    rcases e1 : qR f r with _ | x
    · rw [e1] at h
      have e : f r = some a := h
      have := hf r (by omega) a e
      have h2 : C ≤ C * (r + 1) := by rw [Nat.mul_add]; omega
      omega
    · have ih := qR_bd r (fun q hq => hf q (by omega)) x e1
      rw [e1] at h
      rcases e2 : f r with _ | y
      · rw [e2, qB_none] at h
        cases h
        have h2 : C * (r + 1) = C * r + C := by rw [Nat.mul_add, Nat.mul_one]
        omega
      · have hy := hf r (by omega) y e2
        rw [e2, qB_some] at h
        have h2 : C * (r + 1) = C * r + C := by rw [Nat.mul_add, Nat.mul_one]
        split at h
        · cases h; omega
        · split at h
          · cases h; dsimp only; omega
          · cases h; omega
theorem qT_bd {W : Nat → Nat → Option Nat} {R V : Nat} (hR : R ≤ 6) (hW : ∀ i r v, W i r = some v → v ≤ V) : ∀ (d i t : Nat) (a : Nat × Nat × (Nat → Nat)), qT W R d i t = some a → a.1 ≤ V * d ∧ a.2.1 ≤ 6 ^ d ∧ 0 < a.2.1
  | 0, _, _, a, h => by
    simp only [qT] at h
    cases h
    simp
  | d + 1, i, t, a, h => by
    simp only [qT] at h
    have := qR_bd (V := V * (d + 1)) (C := 6 ^ d) R (fun q hq b hb => by
      rcases eW : W i q with _ | v
      · rw [eW] at hb; cases hb
      · rw [eW] at hb
        dsimp only at hb
        split at hb
        · cases hb
        · rcases e1 : qT W R d (i + 1) (t ||| 1 <<< q) with _ | x
          · rw [e1] at hb; cases hb
          · have ih := qT_bd hR hW d (i + 1) _ x e1
            have hv := hW i q v eW
            rw [e1] at hb
            cases hb
            dsimp only
            rw [Nat.mul_add]
            omega) a h
    refine ⟨this.1, ?_, this.2.2⟩
    have h2 : 6 ^ d * R ≤ 6 ^ d * 6 := Nat.mul_le_mul_left _ hR
    have h3 : 6 ^ (d + 1) = 6 ^ d * 6 := Nat.pow_succ ..
    omega
/-- the first room that reaches the best -/
theorem qR_first {f : Nat → qC} : ∀ (R : Nat) (a : Nat × Nat × (Nat → Nat)), qR f R = some a → ∃ r b, r < R ∧ f r = some b ∧ b.1 = a.1 ∧ b.2.2 = a.2.2 ∧ (∀ q, q < r → ∀ c, f q = some c → c.1 < a.1) ∧ ∀ q, q < R → ∀ c, f q = some c → c.1 ≤ a.1
  | 0, a, h => by cases h
  | R + 1, a, h => by
    simp only [qR] at h
    rcases e1 : qR f R with _ | x
    · rw [e1] at h
      have e : f R = some a := h
      have none_all : ∀ q, q < R → f q = none := fun q hq => by
        rcases e2 : f q with _ | c
        · rfl
        · exfalso
          have aux : ∀ r, q < r → qR f r ≠ none := by
            intro r
            induction r with
            | zero => intro h; omega
            | succ r ih =>
              intro hr hn
              simp only [qR] at hn
              by_cases z : q = r
              · subst z
                rw [e2] at hn
                rcases e3 : qR f q with _ | w
                · rw [e3] at hn; cases hn
                · rw [e3, qB_some] at hn
                  split at hn
                  · cases hn
                  · split at hn <;> cases hn
              · rcases e3 : qR f r with _ | w
                · exact ih (by omega) e3
                · rw [e3] at hn
                  rcases e4 : f r with _ | u
                  · rw [e4, qB_none] at hn; cases hn
                  · rw [e4, qB_some] at hn
                    split at hn
                    · cases hn
                    · split at hn <;> cases hn
          exact aux R hq e1
      refine ⟨R, a, by omega, e, rfl, rfl, fun q hq c hc => ?_, fun q hq c hc => ?_⟩
      · rw [none_all q hq] at hc; cases hc
      · by_cases z : q = R
        · subst z; rw [e] at hc; cases hc; exact Nat.le_refl _
        · rw [none_all q (by omega)] at hc; cases hc
    · obtain ⟨r, b, h1, h2, h3, h4, h5, h6⟩ := qR_first R x e1
      rw [e1] at h
      rcases e2 : f R with _ | y
      · rw [e2, qB_none] at h
        cases h
        refine ⟨r, b, by omega, h2, h3, h4, h5, fun q hq c hc => ?_⟩
        by_cases z : q = R
        · subst z; rw [e2] at hc; cases hc
        · exact h6 q (by omega) c hc
      · rw [e2, qB_some] at h
        by_cases c1 : x.1 < y.1
        · rw [if_pos c1] at h
          cases h
          refine ⟨R, a, by omega, e2, rfl, rfl, fun q hq c hc => ?_, fun q hq c hc => ?_⟩
          · have := h6 q hq c hc; omega
          · by_cases z : q = R
            · subst z; rw [e2] at hc; cases hc; exact Nat.le_refl _
            · have := h6 q (by omega) c hc; omega
        · rw [if_neg c1] at h
          by_cases c2 : x.1 = y.1
          · rw [if_pos c2] at h
            cases h
            refine ⟨r, b, by omega, h2, h3, h4, h5, fun q hq c hc => ?_⟩
            by_cases z : q = R
            · subst z; rw [e2] at hc; cases hc; dsimp only; omega
            · exact h6 q (by omega) c hc
          · rw [if_neg c2] at h
            cases h
            refine ⟨r, b, by omega, h2, h3, h4, h5, fun q hq c hc => ?_⟩
            by_cases z : q = R
            · subst z; rw [e2] at hc; cases hc; omega
            · exact h6 q (by omega) c hc
theorem qR_none {f : Nat → qC} : ∀ (R : Nat), qR f R = none → ∀ q, q < R → f q = none
  | 0, _, q, h => by omega
  | R + 1, h, q, hq => by
    simp only [qR] at h
    rcases e1 : qR f R with _ | x
    · rw [e1] at h
      have e : f R = none := h
      by_cases z : q = R
      · subst z; exact e
      · exact qR_none R e1 q (by omega)
    · rw [e1] at h
      rcases e2 : f R with _ | y
      · rw [e2, qB_none] at h; cases h
      · rw [e2, qB_some] at h
        split at h
        · cases h
        · split at h <;> cases h
/-- the sets along the best choice -/
def pth (h : Nat → Nat) : Nat → Nat
  | 0 => 0
  | i + 1 => pth h i ||| 1 <<< h i
