/-! the desk, newborn: it says what the law holds between its steps -/
/-- the row of the class behind the load -/
def lwF (ys : Nat → Int32) (M N a b : Nat) (j : Nat) : Int32 :=
  if j = 0 then 2 else if j = 3 then nI a else if j = 4 then nI b
  else if 8 ≤ j then
    (if (j - 8) % 20 = 2 then -1
     else if (j - 8) / 20 < N then
       (if (j - 8) % 20 = 1 then nI (icX (ys ((j - 8) / 20)))
        else if 7 ≤ (j - 8) % 20 ∧ (j - 8) % 20 < 7 + M then nI (vzX (ys ((j - 8) / 20)) ((j - 8) % 20 - 7))
        else if 13 ≤ (j - 8) % 20 ∧ (j - 8) % 20 < 13 + M then (if rzX (ys ((j - 8) / 20)) ((j - 8) % 20 - 13) = true then 1 else 0)
        else 0)
     else 0)
  else 0
section LWF
variable {ys : Nat → Int32} {M N a b : Nat}
theorem lwF_at {p w : Nat} (hw : w < 20) : lwF ys M N a b (8 + 20 * p + w) = if w = 2 then -1 else if p < N then (if w = 1 then nI (icX (ys p)) else if 7 ≤ w ∧ w < 7 + M then nI (vzX (ys p) (w - 7)) else if 13 ≤ w ∧ w < 13 + M then (if rzX (ys p) (w - 13) = true then 1 else 0) else 0) else 0 := by
  unfold lwF
  have e1 : (8 + 20 * p + w - 8) % 20 = w := by omega
  have e2 : (8 + 20 * p + w - 8) / 20 = p := by omega
  rw [if_neg (by omega), if_neg (by omega), if_neg (by omega), if_pos (by omega), e1, e2]
theorem lwF_v {p r : Nat} (hp : p < N) (hr : r < M) (hM : M ≤ 4) : lwF ys M N a b (8 + 20 * p + (7 + r)) = nI (vzX (ys p) r) ∧ lwF ys M N a b (8 + 20 * p + (13 + r)) = if rzX (ys p) r = true then 1 else 0 := by
  rw [lwF_at (by omega), lwF_at (by omega), if_neg (by omega), if_pos hp, if_neg (by omega), if_pos (by omega), if_neg (by omega), if_pos hp, if_neg (by omega), if_neg (by omega), if_pos (by omega)]
  rw [show 7 + r - 7 = r by omega, show 13 + r - 13 = r by omega]
  exact ⟨rfl, rfl⟩
end LWF
theorem mO_0 {s : jM} (h : s.1 323 7 = 0) {k : Nat} (hk : k < 2) : mO s k = true := by
  unfold mO
  rw [h]
  have key : ∀ k, k < 2 → decide (((0 : Int32) >>> (nI k &&& 31)) &&& 1 = 0) = true := by decide +kernel
  exact key k hk
theorem cn_all {p : Nat → Bool} : ∀ n, (∀ k, k < n → p k = true) → cn p n = n := by
  intro n
  induction n with
  | zero => intro _; rfl
  | succ n ih =>
    intro h
    have e := ih (fun k hk => h k (by omega))
    show cn p n + _ = _
    rw [e, if_pos (h n (by omega))]
theorem rZ_born {υ : dM} {s1 : jM} {N M K a b : Nat} {ys : Nat → Int32} {x : Int32} (hd : dk υ N M) (hS : DS υ = s1) (hcl : Dcl0 υ) (hK : K ≤ 2) (hz : (∀ p, DI υ 1100 p = 0) ∧ (∀ p, DI υ 1103 p = 0) ∧ (∀ p, DL υ 1300 p = 0) ∧ ∀ p, DI υ 1104 p = 0) (h0 : DI υ 1000 12 = nI a ∧ DI υ 1000 13 = nI b ∧ DI υ 1000 14 = 2 ∧ DI υ 1000 15 = 0 ∧ DI υ 1000 16 = 0 ∧ DI υ 1000 17 = 0 ∧ DL υ 1000 18 = 0) (hf : DA υ 1106 = false ∧ DA υ 1107 = false ∧ ∀ k, tmpK k → DA υ k = false)
    (hp : inPs υ ys M N) (hal : alP2 υ K) (hpl : inPl υ x N K K) (hx : xRk s1 M N K) (hF : ∀ j, j < 208 → s1.1 323 j = lwF ys M N a b j) (hP : ∀ k, k < K → s1.1 327 k = nI (pnP x N (K - k)) ∧ s1.1 328 k = nI (pnM x (K - k)) ∧ s1.1 329 k = nI (pnI x (K - k))) : rZ υ s1 N M K 0 := by
  have hN := hd.1.1
  have hM := hd.1.2
  have row : ∀ p w, p < N → w < 20 → s1.1 323 (8 + 20 * p + w) = lwF ys M N a b (8 + 20 * p + w) := fun p w h1 h2 => hF _ (by omega)
  have r7 : s1.1 323 7 = 0 := by
    rw [hF 7 (by omega)]
    rfl
  have df : rDf υ (s1.1 323) N M := by
    refine ⟨fun p hp9 => ?_, fun p r hp9 hr9 => ?_, ?_, ?_, ?_, ?_, ?_, ?_, ?_⟩
    · obtain ⟨i1, i2, i3⟩ := hp p hp9
      refine ⟨?_, ?_, ?_, ?_, ?_, ?_⟩
      · rw [row p 0 hp9 (by omega), lwF_at (by omega), if_neg (by omega), if_pos hp9, if_neg (by omega), if_neg (by omega), if_neg (by omega)]
        exact hz.1 p
      · rw [row p 1 hp9 (by omega), lwF_at (by omega), if_neg (by omega), if_pos hp9, if_pos rfl]
        exact i1
      · rw [row p 2 hp9 (by omega), lwF_at (by omega), if_pos rfl]
        exact i2
      · rw [row p 3 hp9 (by omega), lwF_at (by omega), if_neg (by omega), if_pos hp9, if_neg (by omega), if_neg (by omega), if_neg (by omega)]
        exact hz.2.1 p
      · rw [row p 4 hp9 (by omega), lwF_at (by omega), if_neg (by omega), if_pos hp9, if_neg (by omega), if_neg (by omega), if_neg (by omega)]
        rw [hz.2.2.1 p]
        decide
      · rw [row p 5 hp9 (by omega), lwF_at (by omega), if_neg (by omega), if_pos hp9, if_neg (by omega), if_neg (by omega), if_neg (by omega)]
        exact hz.2.2.2 p
    · obtain ⟨i1, i2, i3⟩ := hp p hp9
      obtain ⟨j1, j2⟩ := i3 r hr9
      obtain ⟨v1, v2⟩ := lwF_v (ys := ys) (a := a) (b := b) hp9 hr9 hM.2
      rw [row p (7 + r) hp9 (by omega), row p (13 + r) hp9 (by omega), v1, v2]
      exact ⟨j2, j1⟩
    · rw [hF 3 (by omega)]
      exact h0.1
    · rw [hF 4 (by omega)]
      exact h0.2.1
    · rw [hF 0 (by omega)]
      exact h0.2.2.1
    · rw [hF 1 (by omega)]
      exact h0.2.2.2.1
    · rw [hF 2 (by omega)]
      exact h0.2.2.2.2.1
    · rw [hF 5 (by omega)]
      exact h0.2.2.2.2.2.1
    · rw [hF 6 (by omega)]
      exact h0.2.2.2.2.2.2
  have ce : cn (mO s1) K = K := cn_all K (fun k hk => mO_0 r7 (by omega))
  refine ⟨⟨⟨hd, hx, df⟩, ⟨M, N, K, by rw [hS]; exact ⟨hx, xQ.rfl hx⟩⟩, fun k j k1 k2 k3 => ⟨fun e => ?_, fun e => ?_⟩, hf.2.2⟩, ⟨hK, ?_, fun hK0 => ⟨?_, fun k hk => ?_, fun i hi => ?_⟩⟩, ?_, ?_⟩
  · rcases hcl k j 1106 (Dal_hi k1 k2 k3) k1 e with q | q
    · omega
    · have := Dal_A q (by omega)
      rw [hf.1] at this
      cases this
  · rcases hcl k j 1107 (Dal_hi k1 k2 k3) k1 e with q | q
    · omega
    · have := Dal_A q (by omega)
      rw [hf.2.1] at this
      cases this
  · rw [ce]
    exact hal.1.2.1
  · obtain ⟨-, -, b3, b4⟩ := hal.1
    rcases b4 with ⟨g1, -⟩ | ⟨g1, g2, g3, g4, g5⟩
    · omega
    · rw [g3] at b3
      exact ⟨b3, g4, g5⟩
  · obtain ⟨v1, v2, v3, v4, v5, v6⟩ := hpl k hk
    obtain ⟨p1, p2, p3⟩ := hP k hk
    exact ⟨v2, v3, by rw [p1]; exact v4, by rw [p2]; exact v5, by rw [p3]; exact v6⟩
  · rw [ce] at hi
    have c2 : cn (mO s1) i = i := cn_all i (fun k hk => mO_0 r7 (by omega))
    have := qpl_cn (p := mO s1) (k := i) (mO_0 r7 (by omega)) hi
    rw [c2] at this
    rw [this]
    exact (hpl i hi).1
  · have r5 : s1.1 323 5 = 0 := by
      rw [hF 5 (by omega)]
      rfl
    have r6 : s1.1 323 6 = 0 := by
      rw [hF 6 (by omega)]
      rfl
    refine ⟨r5, fun p hp9 => ?_, ?_⟩
    · have e3 : s1.1 323 (8 + 20 * p + 3) = 0 := by
        rw [row p 3 hp9 (by omega), lwF_at (by omega), if_neg (by omega), if_pos hp9, if_neg (by omega), if_neg (by omega), if_neg (by omega)]
      have e4 : s1.1 323 (8 + 20 * p + 4) = 0 := by
        rw [row p 4 hp9 (by omega), lwF_at (by omega), if_neg (by omega), if_pos hp9, if_neg (by omega), if_neg (by omega), if_neg (by omega)]
      rw [e3, e4]
      decide
    · rw [r6]
      decide
  · have r2 : s1.1 323 2 = 0 := by
      rw [hF 2 (by omega)]
      rfl
    rw [r2]
    decide
