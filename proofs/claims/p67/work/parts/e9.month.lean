/-! a month: the plans, the proposal taken over, the payments -/
theorem fu_ag {ch py f f' : Nat → Int32} {N k : Nat} {x : Int32} (hk : k < 8) (h : f' = fu f k x) : agR ch py f' N = fu (agR ch py f N) k x := by
  subst h
  funext j
  unfold fu agR
  by_cases e : j = k
  · rw [if_pos e, if_neg (fun z => by omega), if_neg (fun z => by omega)]
    exact if_pos e
  · rw [if_neg e]
    simp only [if_neg e]
/-- behind the plans, the month told already one on -/
theorem pm_1 {σ ρ1 r : jM} {f : Nat → Int32} {R N K : Nat} (h : xRk (mkS σ r f) R N K) (P : plP1 σ ρ1) (b5 : f 5 + 1 ≤ 999 ∧ 0 ≤ f 5) : xRk (mkS (jup ρ1 37 5 (f 5 + 1)) r (fu (psI r f K) 5 (f 5 + 1))) R N K := by
  obtain ⟨r6, n10⟩ := h.1.1
  obtain ⟨d1, d2, d3, d4⟩ := pl_inc h
  obtain ⟨f1, h40, h6⟩ := P
  have o : ∀ a j, a ≠ 40 → ¬ (a = 37 ∧ j = 6) → ¬ (a = 0 ∧ j = 5) → ρ1.1 a j = σ.1 a j := fun a j q1 q2 q3 => f1.2.2 a j (by
    unfold aDX aDp
    simp only [Bool.or_eq_false_iff, Bool.and_eq_false_iff, beq_eq_false_iff_ne]
    omega)
  have K20 : K ≤ 20 := h.2.2.1.1.2.2
  have po : ∀ j, j ≠ 5 → j ≠ 7 → (∀ p, j ≠ 8 + 20 * p + 1) → fu (psI r f K) 5 (f 5 + 1) j = f j := fun j j5 j7 jp => by
    rw [fu_n _ _ j5, psX_o r f j7 jp]
  have p5 : fu (psI r f K) 5 (f 5 + 1) 5 = f 5 + 1 := fu_s _ _ _
  have pb := h.2.2.1.2.2
  have pb' : ∀ k, k < K → 0 ≤ r.1 329 k ∧ r.1 329 k ≤ 99999 := fun k hk => by
    have := (pb k hk).2.2
    rw [mkS_hi (by omega) (by omega)] at this
    exact this
  have row := fl37 h.2.1.1
  rw [mkS_lo (a := 37) (by omega) (by omega), mkS_lo (a := 38) (by omega) (by omega), mkS_lo (a := 39) (by omega) (by omega), mkS_lo (a := 52) (by omega) (by omega), mkS_lo (a := 53) (by omega) (by omega), mkS_lo (a := 54) (by omega) (by omega), mkS_lo (a := 55) (by omega) (by omega), mkS_lo (a := 56) (by omega) (by omega), mkS_lo (a := 40) (by omega) (by omega), mkS_r] at row
  obtain ⟨⟨a1, a2, a3, a4, a5, a6⟩, a7, a8, a9⟩ := row
  have dg := h.2.1.2.1
  rw [mkS_r] at dg
  obtain ⟨⟨g1, g2, g3, g4, g5⟩, g6, g7, g8, g9, ga, gb⟩ := dg
  obtain ⟨m, m1, m2, -⟩ := nI_rng g6.1 g6.2 (by decide)
  have es : f 5 + 1 = nI (m + 1) := by rw [m2]; exact nI_add m 1
  have m0 : 0 ≤ f 5 + 1 := by
    rw [es]
    exact (NL_0.1 _ (by omega)).mpr (Nat.zero_le _)
  have lt : ∀ x : Int32, (x < f 5 + 1 ↔ x ≤ f 5) := fun x => by
    rw [es, m2, Int32.lt_iff_toInt_lt, Int32.le_iff_toInt_le, nI_toInt (by omega), nI_toInt (by omega)]
    omega
  have c : ∀ a j, 0 < a → a < 322 → a ≠ 40 → ¬ (a = 37 ∧ (j = 5 ∨ j = 6)) → (mkS (jup ρ1 37 5 (f 5 + 1)) r (fu (psI r f K) 5 (f 5 + 1))).1 a j = σ.1 a j := fun a j h0 h3 h4 h5 => by
    rw [mkS_lo h0 h3, jup_1, if_neg (by omega)]
    exact o a j h4 (by omega) (by omega)
  refine mk_new h (fun a h0 h1 h2 h3 => ?_) ⟨⟨?_, ?_, ?_, ?_, ?_, ?_⟩, fun j hj => ?_, fun p hp => ?_, fun p hp => ⟨?_, fun q hq => ?_⟩⟩ ⟨⟨fun p hp q hq => ?_, fun p hp => ?_, ?_, ?_, ?_⟩, ?_, fun p hp q hq => ?_, fun p hp => ?_, fun p hp => ?_, fun p hp => ?_, ?_⟩ ⟨⟨dnE σ, ?_, d2, fun i hi => ?_⟩, fun k hk => ?_⟩
  · funext j
    rw [jup_1, if_neg (by omega)]
    exact o a j (by omega) (by omega) (by omega)
  · rw [c _ _ (by omega) (by omega) (by omega) (by omega)]; exact a1
  · rw [c _ _ (by omega) (by omega) (by omega) (by omega)]; exact a2
  · rw [c _ _ (by omega) (by omega) (by omega) (by omega), po _ (by omega) (by omega) (by omega)]; exact a3
  · rw [c _ _ (by omega) (by omega) (by omega) (by omega), po _ (by omega) (by omega) (by omega)]; exact a4
  · rw [c _ _ (by omega) (by omega) (by omega) (by omega), po _ (by omega) (by omega) (by omega)]; exact a5
  · rw [mkS_lo (by omega) (by omega), jup_1, if_pos ⟨rfl, rfl⟩, p5]
  · rw [c _ _ (by omega) (by omega) (by omega) (by omega), po _ (by omega) (by omega) (by omega)]; exact a7 j hj
  · rw [c _ _ (by omega) (by omega) (by omega) (by omega), c _ _ (by omega) (by omega) (by omega) (by omega), c _ _ (by omega) (by omega) (by omega) (by omega), c _ _ (by omega) (by omega) (by omega) (by omega), c _ _ (by omega) (by omega) (by omega) (by omega), c _ _ (by omega) (by omega) (by omega) (by omega), po _ (by omega) (by omega) (by omega), po _ (by omega) (by omega) (by omega), po _ (by omega) (by omega) (by omega), po _ (by omega) (by omega) (by omega), po _ (by omega) (by omega) (by omega), po _ (by omega) (by omega) (by omega)]
    exact a8 p hp
  · rw [mkS_lo (by omega) (by omega), jup_1, if_neg (by omega), h40, d4 p hp, fu_n _ _ (by omega)]
  · unfold wR
    rw [c _ _ (by omega) (by omega) (by omega) (by omega), po _ (by omega) (by omega) (by omega), po _ (by omega) (by omega) (by omega)]
    have := (a9 p hp).2 q hq
    rw [mkS_lo (by omega) (by omega)] at this
    rw [show 37 + (5 + p) = 42 + p by omega]
    exact this
  · rw [po _ (by omega) (by omega) (by omega)]; exact g1 p hp q hq
  · rw [fu_n _ _ (by omega), psI_inc r f p K (by omega)]
    rcases @lst_is (fun i => (bt (f 7) i ∧ r.1 328 i = f 5) ∧ (r.1 327 i).toNatClampNeg = p) (fun _ => Classical.propDecidable _) (fun i => r.1 329 i) (f (8 + 20 * p + 1)) K with ⟨k, k1, k2, k3, k4⟩ | ⟨k1, k2⟩
    · rw [k4]; exact pb' k k1
    · rw [k2]; exact g2 p hp
  · rw [po _ (by omega) (by omega) (by omega)]; exact g3
  · rw [po _ (by omega) (by omega) (by omega)]; exact g4
  · rw [po _ (by omega) (by omega) (by omega)]; exact g5
  · rw [p5]
    exact ⟨m0, b5.1⟩
  · rw [po _ (by omega) (by omega) (by omega), po _ (by omega) (by omega) (by omega)]; exact g7 p hp q hq
  · rw [po _ (by omega) (by omega) (by omega), po _ (by omega) (by omega) (by omega), po _ (by omega) (by omega) (by omega)]; exact g8 p hp
  · rw [po _ (by omega) (by omega) (by omega)]; exact g9 p hp
  · rw [po _ (by omega) (by omega) (by omega)]; exact ga p hp
  · rw [cn_congr N (fun j hj => by
      unfold dL
      rw [po _ (by omega) (by omega) (by omega)] : ∀ j, j < N → dL (fu (psI r f K) 5 (f 5 + 1)) j = dL f j)]
    exact gb
  · rw [mkS_lo (by omega) (by omega), jup_1, if_neg (by omega)]
    exact h6
  ·     rw [c _ _ (by omega) (by omega) (by omega) (by omega), p5, lt, d3 i hi]
  · rw [mkS_hi (by omega) (by omega), p5]
    have pd := h.2.1.2.2.2 k hk
    rw [mkS_r, mkS_hi (a := 328) (by omega) (by omega)] at pd
    rw [lt, fu_n _ _ (show (7 : Nat) ≠ 5 by omega)]
    show bt (psI r f K 7) k ↔ _
    rw [psI_7 r f (by omega) K (by omega)]
    have pd : bt (f 7) k ↔ ¬ r.1 328 k < f 5 := pd
    rw [pd]
    constructor
    · rintro ⟨z1, z2⟩ z3
      exact z2 ⟨hk, by grind⟩
    · intro z
      exact ⟨by grind, fun w => by grind⟩
