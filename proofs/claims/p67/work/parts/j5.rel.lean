/-! the desk and the class's row of numbers say the same -/
def rDf (σ : dM) (f : Nat → Int32) (N M : Nat) : Prop :=
  (∀ p, p < N → DI σ 1100 p = f (8 + 20 * p + 0) ∧ DI σ 1101 p = f (8 + 20 * p + 1) ∧ DI σ 1102 p = f (8 + 20 * p + 2) ∧ DI σ 1103 p = f (8 + 20 * p + 3) ∧ DL σ 1300 p = (f (8 + 20 * p + 4)).toInt64 ∧ DI σ 1104 p = f (8 + 20 * p + 5)) ∧
  (∀ p r, p < N → r < M → DI σ (1110 + p) r = f (8 + 20 * p + (7 + r)) ∧ DI σ (1200 + p) r = f (8 + 20 * p + (13 + r))) ∧
  DI σ 1000 12 = f 3 ∧ DI σ 1000 13 = f 4 ∧ DI σ 1000 14 = f 0 ∧ DI σ 1000 15 = f 1 ∧ DI σ 1000 16 = f 2 ∧ DI σ 1000 17 = f 5 ∧ DL σ 1000 18 = (f 6).toInt64
/-- the desk σ says what the snapshot s0 of the class says -/
def rDs (σ : dM) (s0 : jM) (N M K : Nat) : Prop := dk σ N M ∧ xRk s0 M N K ∧ rDf σ (s0.1 323) N M
theorem rDf_cg {σ τ : dM} {f : Nat → Int32} {N M : Nat} (hN : N ≤ 5) (h : rDf σ f N M) (e : ∀ k, dkI k → DI τ k = DI σ k ∧ DL τ k = DL σ k) : rDf τ f N M := by
  obtain ⟨h1, h2, h3⟩ := h
  have i0 : dkI 1000 := by unfold dkI; omega
  have i1 : dkI 1100 := by unfold dkI; omega
  have i2 : dkI 1101 := by unfold dkI; omega
  have i3 : dkI 1102 := by unfold dkI; omega
  have i4 : dkI 1103 := by unfold dkI; omega
  have i5 : dkI 1104 := by unfold dkI; omega
  have i6 : dkI 1300 := by unfold dkI; omega
  refine ⟨fun p hp => ?_, fun p r hp hr => ?_, ?_⟩
  · rw [(e _ i1).1, (e _ i2).1, (e _ i3).1, (e _ i4).1, (e _ i5).1, (e _ i6).2]
    exact h1 p hp
  · rw [(e (1110 + p) (by unfold dkI; omega)).1, (e (1200 + p) (by unfold dkI; omega)).1]
    exact h2 p r hp hr
  · rw [(e _ i0).1, (e _ i0).2]
    exact h3
section RD
variable {σ : dM} {s0 : jM} {N M K : Nat}
theorem rDs_lv (h : rDs σ s0 N M K) : (∀ p, p < N → lv σ p = xl s0 p) ∧ cn (lv σ) N = mLiv s0 ∧ mLiv s0 = cn (xl s0) N ∧ mN s0 = N ∧ mRo s0 = M := by
  have e : ∀ p, p < N → lv σ p = xl s0 p := fun p hp => by
    unfold lv xl dL
    rw [(h.2.2.1 p hp).1]
  obtain ⟨-, -, n3, n4, -⟩ := xv_n h.2.1
  have hm := xv_hm h.2.1
  exact ⟨e, by rw [hm, cn_congr N e], hm, n3, n4⟩
theorem rDs_ok (h : rDs σ s0 N M K) : okD9 σ (fun p r => dW (s0.1 323) N (cn (xl s0) p) r) N M := by
  intro p r hp hr l
  have hN := h.1.1.1.2
  have hM := h.1.1.2.2
  obtain ⟨e1, -⟩ := rDs_lv h
  rw [e1 p hp] at l
  obtain ⟨a1, a2⟩ := h.2.2.2.1 p r hp hr
  have d := h.2.1.2.1.2.1
  have d1 := d.1.1 p (by omega) r (by omega)
  have d2 := d.2.2.1 p (by omega) r (by omega)
  have eq : qpl (dL (s0.1 323)) N (cn (xl s0) p) = p := qpl_cn l hp
  dsimp only
  unfold dW
  rw [eq, a1, a2]
  obtain ⟨v, v1, v2, v3⟩ := nI_rng d1.1 d1.2 (by decide)
  refine ⟨fun z => ⟨_, if_neg (fun q => by rw [z] at q; exact absurd q (by decide)), by rw [v3]; omega, by rw [v3]; exact v2⟩, fun z => if_pos ?_⟩
  rcases d2 with d2 | d2
  · exact absurd d2 z
  · exact d2.1
theorem sfx_0 {s : chT} {N : Nat} : cod (fun p => sfx s N p) N = 0 := cod_0 N (fun p hp => by
  unfold sfx
  rw [if_neg (by omega)])
theorem zS_0 (a : zC) : zS 0 0 a = a := by rcases a with _ | a <;> rfl
/-- what proposes finds is what the reference finds -/
theorem chN_dC (h : rDs σ s0 N M K) : (chN σ N M).1 = qs (dC s0) ∧ (chN σ N M).2.1 = qc (dC s0) ∧ (dC s0 = none → (chN σ N M).2.2.1 = none) ∧ (dC s0 ≠ none → ∃ b, (chN σ N M).2.2.1 = some b ∧ ∀ p, p < N → b p = mCh s0 p) := by
  have hN := h.1.1.1.2
  have hM := h.1.1.2.2
  obtain ⟨e1, e2, e3, e4, e5⟩ := rDs_lv h
  unfold chN dC
  rw [e2]
  by_cases c : mLiv s0 = 0
  · rw [if_pos c, if_pos c]
    exact ⟨rfl, rfl, fun _ => rfl, fun z => absurd rfl z⟩
  rw [if_neg c, if_neg c]
  obtain ⟨σZ, eZ⟩ : ∃ σZ, σZ = chZ σ N := ⟨_, rfl⟩
  have vI : ∀ k j, 1001 ≤ k → k ≠ 1106 → DI σZ k j = DI σ k j := fun k j h1 h2 => by
    rw [eZ, chZ_I, if_neg (by omega), if_neg (by omega), if_neg h2]
  have elv : lv σZ = lv σ := funext fun p => by
    unfold lv
    rw [vI 1100 p (by omega) (by omega)]
  have hok : okD9 σZ (fun p r => dW (s0.1 323) N (cn (xl s0) p) r) N M := fun p r hp hr l => by
    rw [elv] at l
    rw [vI (1200 + p) r (by omega) (by omega), vI (1110 + p) r (by omega) (by omega)]
    exact rDs_ok h p r hp hr l
  obtain ⟨k1, -, k3⟩ := chFo_T hN hM hok N (Nat.le_refl _) 0 0 0 chS0 (by omega) (by omega) (by
    have : 4 ^ N ≤ 4 ^ 5 := Nat.pow_le_pow_right (by decide) hN
    omega) ⟨rfl, rfl⟩ (fun p h1 h2 => by omega)
  rw [show (nI 0) = 0 from rfl] at k1 k3
  rw [← eZ]
  rw [sfx_0, zS_0, elv] at k3
  have hl : lvD (lv σ) N = lvD (xl s0) N := by
    have : ∀ n, n ≤ N → lvD (lv σ) n = lvD (xl s0) n := fun n => by
      induction n with
      | zero => intro _; rfl
      | succ n ih =>
        intro hn
        simp only [lvD]
        rw [ih (by omega), e1 n (by omega)]
    exact this N (Nat.le_refl _)
  rw [hl, ← qT_law (W := dW (s0.1 323) N) (R := M) (N := N) (l := xl s0) (by omega), ← e3] at k3
  rw [e4, e5]
  obtain ⟨S9, eS⟩ : ∃ S9, S9 = chFo σZ N M N 0 0 chS0 := ⟨_, rfl⟩
  rw [← eS] at k1 k3 ⊢
  have k4 : chC N S9 = qPh (xl s0) N 0 (qT (dW (s0.1 323) N) M (mLiv s0) 0 0) := by
    rw [k3]
    exact zB_0 _
  obtain ⟨S, C, b, cc⟩ := S9
  rcases ea : qT (dW (s0.1 323) N) M (mLiv s0) 0 0 with _ | a
  · rw [ea] at k4
    cases b with
    | none =>
      obtain ⟨h1, h2⟩ := k1
      exact ⟨h1, h2, fun _ => rfl, fun z => absurd rfl z⟩
    | some f => cases k4
  · rw [ea] at k4
    cases b with
    | none => cases k4
    | some f =>
      obtain ⟨x, y, h1, h2, h3, h4, h5, h6⟩ := k1
      dsimp only at h1 h2 h6
      have k5 : some (S.toNatClampNeg, C.toNatClampNeg, cod (fun p => dgt (f p)) N) = some (a.1, a.2.1, cod (fun p => if xl s0 p = true ∧ 0 ≤ cn (xl s0) p then a.2.2 (cn (xl s0) p) + 1 else 0) N) := k4
      injection k5 with k5
      injection k5 with k5 k6
      injection k6 with k6 k7
      have hx : 4 ^ N ≤ 4 ^ 5 := Nat.pow_le_pow_right (by decide) hN
      rw [h1, nI_clamp (by omega)] at k5
      rw [h2, nI_clamp (by omega)] at k6
      obtain ⟨v1, -⟩ := (vA_iff (mLiv s0) 0 0).mp (qT_mem _ _ _ _ ea).1
      have hlt : ∀ p, p < N → xl s0 p = true → a.2.2 (cn (xl s0) p) < M := fun p hp l => by
        have := cn_lt l hp
        exact (v1 _ (by omega) (by omega)).1
      refine ⟨?_, ?_, fun z => (by cases z), fun _ => ⟨f, rfl, fun p hp => ?_⟩⟩
      · show S = nI a.1
        rw [h1, k5]
      · show C = nI a.2.1
        rw [h2, k6]
      · have k8 := cod_inj N (fun j hj => ⟨dgt_lt (by omega) (h6 j hj), by
          by_cases l : xl s0 j = true
          · rw [if_pos ⟨l, Nat.zero_le _⟩]
            have := hlt j hj l
            omega
          · rw [if_neg (fun z => l z.1)]
            omega⟩) k7 p hp
        unfold mCh
        have hd : dC s0 = some a := by
          unfold dC
          rw [if_neg c, e4, e5, ea]
        rw [hd, e4]
        by_cases l : xl s0 p = true
        · rw [if_pos ⟨l, Nat.zero_le _⟩] at k8
          refine dgt_inj (by omega) (h6 p hp) ?_ ?_ (M := M)
          · exact Or.inr ⟨_, hlt p hp l, if_pos ⟨l, hp⟩⟩
          · have := hlt p hp l
            rw [k8, show qch (some a) (xl s0) N p = nI (a.2.2 (cn (xl s0) p)) from if_pos ⟨l, hp⟩, dgt_r (by omega)]
        · rw [if_neg (fun z => l z.1)] at k8
          have e9 : qch (some a) (xl s0) N p = -1 := if_neg (fun z => l z.1)
          rw [e9]
          exact dgt_inj (by omega) (h6 p hp) (Or.inl rfl) (by rw [k8, dgt_n]) (M := M)
end RD
