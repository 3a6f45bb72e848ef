/-! a month's plans on the desk -/
theorem rDf_inc {σ τ : dM} {f : Nat → Int32} {N M p : Nat} {x w7 : Int32} (hN : N ≤ 5) (hM : M ≤ 4) (hp : p < N) (h : rDf σ f N M) (eI : ∀ a j, a ≠ 1900 → DI τ a j = DI (DuI σ 1101 p x) a j) (eL : DL τ = DL σ) : rDf τ (fun j => if j = 7 then w7 else fu f (8 + 20 * p + 1) x j) N M := by
  obtain ⟨h1, h2, h3⟩ := h
  have hn : ∀ w, w ≠ 7 → w ≠ 8 + 20 * p + 1 → (fun j => if j = 7 then w7 else fu f (8 + 20 * p + 1) x j) w = f w := fun w a b => by
    dsimp only
    rw [if_neg a, fu_n _ _ b]
  have eo : ∀ a j, a ≠ 1900 → ¬ (a = 1101 ∧ j = p) → DI τ a j = DI σ a j := fun a j ha hb => by rw [eI a j ha, DuI_I, if_neg hb]
  refine ⟨fun q hq => ?_, fun q r hq hr => ?_, ?_⟩
  · obtain ⟨a1, a2, a3, a4, a5, a6⟩ := h1 q hq
    rw [eo 1100 q (by omega) (by omega), eo 1102 q (by omega) (by omega), eo 1103 q (by omega) (by omega), eo 1104 q (by omega) (by omega), eL, hn _ (by omega) (by omega), hn (8 + 20 * q + 2) (by omega) (by omega), hn (8 + 20 * q + 3) (by omega) (by omega), hn (8 + 20 * q + 4) (by omega) (by omega), hn (8 + 20 * q + 5) (by omega) (by omega)]
    refine ⟨a1, ?_, a3, a4, a5, a6⟩
    rw [eI 1101 q (by omega), DuI_I]
    dsimp only
    by_cases c : q = p
    · subst c
      rw [if_pos ⟨rfl, rfl⟩, if_neg (by omega), fu_s]
    · rw [if_neg (fun z => c z.2), if_neg (by omega), fu_n _ _ (by omega)]
      exact a2
  · rw [eo (1110 + q) r (by omega) (by omega), eo (1200 + q) r (by omega) (by omega)]
    rw [hn (8 + 20 * q + (7 + r)) (by omega) (by omega), hn (8 + 20 * q + (13 + r)) (by omega) (by omega)]
    exact h2 q r hq hr
  · obtain ⟨a1, a2, a3, a4, a5, a6, a7⟩ := h3
    rw [eo 1000 12 (by omega) (by omega), eo 1000 13 (by omega) (by omega), eo 1000 14 (by omega) (by omega), eo 1000 15 (by omega) (by omega), eo 1000 16 (by omega) (by omega), eo 1000 17 (by omega) (by omega), eL, hn 3 (by omega) (by omega), hn 4 (by omega) (by omega), hn 0 (by omega) (by omega), hn 1 (by omega) (by omega), hn 2 (by omega) (by omega), hn 5 (by omega) (by omega), hn 6 (by omega) (by omega)]
    exact ⟨a1, a2, a3, a4, a5, a6, a7⟩
/-- what stands while the plans are gone through -/
def stA (σ0 σ : dM) (s : jM) (f : Nat → Int32) (N M K j : Nat) : Prop := rRw σ (psI s f j) N M ∧ rP σ (rw3 s (psI s f j)) K ∧ DS σ = DS σ0 ∧ chQ σ ∧ (∀ k, DA σ k = DA σ0 k) ∧ Dcl0 σ
theorem stA_same {σ0 σ : dM} {s : jM} {f : Nat → Int32} {N M K j : Nat} (h : stA σ0 σ s f N M K j) (e : psI s f (j + 1) = psI s f j) : stA σ0 σ s f N M K (j + 1) := by
  unfold stA
  rw [e]
  exact h
theorem stA_due {σ0 σ τ : dM} {s : jM} {f : Nat → Int32} {N M K j : Nat} (hs : xRk s M N K) (d : dG f M N) (h : stA σ0 σ s f N M K j) (hj : j < K) (b1 : mO (rw3 s (psI s f j)) j = true) (b2 : mO (rw3 s (psI s f (j + 1))) j = false) (b3 : ∀ i, i < 31 → i ≠ j → mO (rw3 s (psI s f (j + 1))) i = mO (rw3 s (psI s f j)) i)
    (e : psI s f (j + 1) = fun i => if i = 7 then psI s f j 7 ||| (1 <<< (nI j &&& 31)) else fu (psI s f j) (8 + 20 * (s.1 327 j).toNatClampNeg + 1) (s.1 329 j) i) (hm : rmA (DuI σ 1101 (s.1 327 j).toNatClampNeg (s.1 329 j)) τ (nI (cn (mO (rw3 s (psI s f j))) j))) : stA σ0 τ s f N M K (j + 1) := by
  obtain ⟨⟨hk, hf, hd⟩, ⟨hK, p1, p2⟩, hS, hQ, hA, hcl⟩ := h
  obtain ⟨m0, m00, m1, m2, m3, m4, m5, m6, m7, m8⟩ := hm
  have hN := hk.1.1.2
  have hM := hk.1.2.2
  obtain ⟨⟨p, pp1, pp2⟩, -, c1, c2⟩ := hs.2.2.1.2.2 j (by omega)
  have ep : (s.1 327 j).toNatClampNeg = p := by rw [pp2, nI_clamp (by omega)]
  rw [ep] at m0 m00 m1 m2 m3 m4 m5 m6 m7 m8 e
  have dM := dG_ps hs d (j + 1) (by omega)
  obtain ⟨r1, r2, r3⟩ := cn_rm hK hj b1 b2 (fun i hi => b3 i (by omega))
  obtain ⟨⟨q1, q2, q3⟩, q4, q5⟩ := p2 (by omega)
  have eo : ∀ a j, a ≠ 1900 → ¬ (a = 1101 ∧ j = p) → DI τ a j = DI σ a j := fun a j ha hb => by rw [m5 a j ha, DuI_I, if_neg hb]
  have cK := cn_le (mO (rw3 s (psI s f j))) K
  refine ⟨⟨dk_of hk ⟨eo _ _ (by omega) (by omega), eo _ _ (by omega) (by omega)⟩ (fun k _ => by rw [m4, DuI_A]) (fun k i hk9 _ => by rw [m7 k i (by unfold dkI at hk9; omega), DuI_R]) (fun k _ => by rw [m3, DuI_N]) (fun q hq r => eo _ _ (by omega) (by omega)), ?_, dM⟩, ⟨hK, ?_, fun _ => ⟨⟨?_, ?_, ?_⟩, fun k hk9 => ?_, fun i hi => ?_⟩⟩, ?_, ?_, fun k => ?_, m0 hcl⟩
  · rw [e]
    exact rDf_inc hN hM pp1 hf m5 m2
  · rw [m6, DuI_I, if_neg (by omega), p1, ← r1]
    have e9 : cn (mO (rw3 s (psI s f (j + 1)))) K = 0 ∨ cn (mO (rw3 s (psI s f (j + 1)))) K = 1 := by omega
    rcases e9 with e9 | e9 <;> rw [e9] <;> decide
  · rw [m7 _ _ (by omega), DuI_R]; exact q1
  · rw [m4, DuI_A]; exact q2
  · rw [m3, DuI_N]; exact q3
  · obtain ⟨u1, u2, u3, u4, u5⟩ := q4 k hk9
    rw [m4, DuI_A, m3, DuI_N, eo _ _ (by omega) (by omega), eo _ _ (by omega) (by omega), eo _ _ (by omega) (by omega)]
    exact ⟨u1, u2, u3, u4, u5⟩
  · have hi2 : i + 1 < (DI (DuI σ 1101 p (s.1 329 j)) 1900 2).toNatClampNeg := by
      rw [DuI_I, if_neg (by omega), p1, nI_clamp (by omega)]
      omega
    have l9 := cn_le (mO (rw3 s (psI s f j))) j
    rw [m8 i hi2, nI_clamp (by omega), DuI_R, r3 i (by omega)]
    refine q5 _ ?_
    split <;> omega
  · rw [m1, DuI_S]; exact hS
  · intro k i h1 h2 hA9
    rw [m4, DuI_A] at hA9
    refine ⟨fun z => ?_, fun z => ?_⟩
    · obtain ⟨j2, e2⟩ := m00 k i 1106 z
      by_cases c : k = 2000
      · have := ((hQ k j2 h1 h2 hA9).1 e2).1
        omega
      · rw [m7 k i c, DuI_R] at z
        exact (hQ k i h1 h2 hA9).1 z
    · obtain ⟨j2, e2⟩ := m00 k i 1107 z
      by_cases c : k = 2000
      · have := ((hQ k j2 h1 h2 hA9).2 e2).1
        omega
      · rw [m7 k i c, DuI_R] at z
        exact (hQ k i h1 h2 hA9).2 z
  · rw [m4, DuI_A]; exact hA k
theorem rP_al {σ : dM} {s : jM} {K : Nat} (h : rP σ s K) {k : Nat} (hk : k < cn (mO s) K) (hA : DA σ 1900 = true) : prAl σ (nI k) ∧ prRm σ (nI k) ∧ DR σ 2000 k = some (1138 + qpl (mO s) K k) := by
  obtain ⟨h1, h2, h3⟩ := h
  have l9 := cn_le (mO s) K
  obtain ⟨⟨a1, a2, a3⟩, b, c⟩ := h3 (by omega)
  refine ⟨⟨k, cn (mO s) K, _, rfl, hk, by omega, hA, h2, a1, a2, a3, c k hk⟩, ⟨k, cn (mO s) K, rfl, hk, by omega, hA, h2, a1, a2, a3, fun i hi => ⟨_, c i hi, ?_, ?_⟩⟩, c k hk⟩
  · have := (qpl_is hi).2.1
    have e : qpl (mO s) K i = 0 ∨ qpl (mO s) K i = 1 := by omega
    rcases e with e | e <;> rw [e] <;> decide +kernel
  · exact (b _ (qpl_is hi).2.1).1
theorem dk_pl {σ : dM} {N M : Nat} (h : dk σ N M) : DA σ 1000 = true ∧ DR σ 1000 11 = some 1900 ∧ DA σ 1900 = true ∧ DA σ 1101 = true ∧ DN σ 1101 = N ∧ DR σ 1000 4 = some 1101 := ⟨h.2.2.1.1, h.2.2.2.1.2.2.2.2.2.2.2.2.2, h.2.2.1.2.2.2.2.2.2.2.2.2, h.2.2.1.2.2.1, h.2.2.2.2.1.2.1, h.2.2.2.1.2.2.1⟩
