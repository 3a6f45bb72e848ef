/-! Choice: solvedWith, leastWorth -/
theorem ff_is {p : Nat → Bool} : ∀ (d k h : Nat), h < d → p (k + h) = true → (∀ q, q < h → ¬ p (k + q) = true) → ff p d k = nI (k + h)
  | 0, _, _, h, _, _ => by omega
  | d + 1, k, 0, _, hp, _ => by
    rw [Nat.add_zero] at hp
    simp only [ff]
    rw [if_pos hp]
    rfl
  | d + 1, k, h + 1, hd, hp, hn => by
    simp only [ff]
    have h0 := hn 0 (by omega)
    rw [Nat.add_zero] at h0
    rw [if_neg h0]
    rw [ff_is d (k + 1) h (by omega) (by rw [show k + 1 + h = k + (h + 1) by omega]; exact hp) (fun q hq => by rw [show k + 1 + q = k + (q + 1) by omega]; exact hn (q + 1) (by omega))]
    rw [show k + 1 + h = k + (h + 1) by omega]
theorem ff_not {p : Nat → Bool} (d k : Nat) (h : ∀ q, k ≤ q → q < k + d → ¬ p q = true) : ff p d k = -1 := by
  rcases ff_rng (p := p) d k with e | ⟨j, h1, h2, h3, -⟩
  · exact e
  · exact absurd h3 (h j h1 h2)
def oV : Option Nat → Int32
  | none => -1
  | some t => nI t
/-- the values are those of a flat -/
def cV (σ : jM) (b : Nat) : Prop := ∀ i r v, cWr σ b i r = some v → v ≤ 9999
theorem cD_0 (σ : jM) (b : Nat) : cD σ b 0 = qT (cWr σ b) (cR σ b) (cM σ b) 0 0 := by
  have e : pop 0 = 0 := by decide
  unfold cD dpv
  rw [e, if_pos (Nat.zero_le _), Nat.sub_zero]
