/-! months that pass -/
theorem pm_3 {c τ r : jM} {f3 F : Nat → Int32} {R N K : Nat} (h : xRk (mkS c r f3) R N K)
    (o : ∀ a j, 0 < a → a < 322 → a ≠ 54 → a ≠ 56 → ¬ (a = 37 ∧ j = 4) → (a < 259 ∨ 299 < a) → τ.1 a j = c.1 a j) (t4 : τ.1 37 4 = c.1 37 4 + (c.1 37 2 - sm (c.1 53) 10))
    (t54 : ∀ j, τ.1 54 j = if j < N ∧ fH c (nI j) = true then c.1 54 j + c.1 53 j else c.1 54 j) (t56 : ∀ j, τ.1 56 j = if j < N ∧ fH c (nI j) = true then c.1 56 j + 1 else c.1 56 j)
    (Flo : ∀ j, j < 8 → j ≠ 6 → F j = f3 j) (F6 : F 6 = f3 6 + (f3 3 - sm (fun p => f3 (8 + 20 * p + 3)) N))
    (Fp : ∀ q w, w < 20 → F (8 + 20 * q + w) = if q < N ∧ 0 ≤ f3 (8 + 20 * q + 2) ∧ w = 6 then f3 (8 + 20 * q + 6) + 1 else if q < N ∧ 0 ≤ f3 (8 + 20 * q + 2) ∧ w = 4 then f3 (8 + 20 * q + 4) + f3 (8 + 20 * q + 3) else f3 (8 + 20 * q + w)) : xRk (mkS τ r F) R N K := by
  obtain ⟨r6, n10⟩ := h.1.1
  have row := fl37 h.2.1.1
  have hH : ∀ p, p < N → (fH c (nI p) = true ↔ 0 ≤ f3 (8 + 20 * p + 2)) := fun p hp => by
    have := (xv_H h hp).1
    have e : fH (mkS c r f3) (nI p) = fH c (nI p) := by
      unfold fH fP
      rw [mkS_lo (a := 37) (by omega) (by omega), mkS_lo (a := 52) (by omega) (by omega)]
    rw [e] at this
    unfold mD at this
    rw [mkS_r] at this
    exact this
  have hs : sm (c.1 53) 10 = sm (fun p => f3 (8 + 20 * p + 3)) N := by
    have := xv_sm h
    rw [mkS_lo (a := 53) (by omega) (by omega)] at this
    unfold mD at this
    rw [mkS_r] at this
    exact this
  rw [mkS_lo (a := 37) (by omega) (by omega), mkS_lo (a := 38) (by omega) (by omega), mkS_lo (a := 39) (by omega) (by omega), mkS_lo (a := 52) (by omega) (by omega), mkS_lo (a := 53) (by omega) (by omega), mkS_lo (a := 54) (by omega) (by omega), mkS_lo (a := 55) (by omega) (by omega), mkS_lo (a := 56) (by omega) (by omega), mkS_lo (a := 40) (by omega) (by omega), mkS_r] at row
  obtain ⟨⟨a1, a2, a3, a4, a5, a6⟩, a7, a8, a9⟩ := row
  have dg := h.2.1.2.1
  rw [mkS_r] at dg
  obtain ⟨⟨g1, g2, g3, g4, g5⟩, g6, g7, g8, g9, ga, gb⟩ := dg
  have Fo : ∀ q w, w < 20 → w ≠ 4 → w ≠ 6 → F (8 + 20 * q + w) = f3 (8 + 20 * q + w) := fun q w hw w4 w6 => by
    rw [Fp q w hw, if_neg (fun z => w6 z.2.2), if_neg (fun z => w4 z.2.2)]
  have l : ∀ a j, 0 < a → a < 322 → (mkS τ r F).1 a j = τ.1 a j := fun a j h0 h1 => by rw [mkS_lo h0 h1]
  refine mk_new h (fun a h0 h1 h2 h3 => funext fun j => o a j h0 h3 (by omega) (by omega) (by omega) h2) ⟨⟨?_, ?_, ?_, ?_, ?_, ?_⟩, fun j hj => ?_, fun p hp => ?_, fun p hp => ⟨?_, fun q hq => ?_⟩⟩ ⟨⟨fun p hp q hq => ?_, fun p hp => ?_, ?_, ?_, ?_⟩, ?_, fun p hp q hq => ?_, fun p hp => ?_, fun p hp => ?_, fun p hp => ?_, ?_⟩ ?_
  · rw [l _ _ (by omega) (by omega), o _ _ (by omega) (by omega) (by omega) (by omega) (by omega) (by omega)]; exact a1
  · rw [l _ _ (by omega) (by omega), o _ _ (by omega) (by omega) (by omega) (by omega) (by omega) (by omega)]; exact a2
  · rw [l _ _ (by omega) (by omega), o _ _ (by omega) (by omega) (by omega) (by omega) (by omega) (by omega), Flo _ (by omega) (by omega)]; exact a3
  · rw [l _ _ (by omega) (by omega), o _ _ (by omega) (by omega) (by omega) (by omega) (by omega) (by omega), Flo _ (by omega) (by omega)]; exact a4
  · rw [l _ _ (by omega) (by omega), t4, F6, hs, a5, a3]
  · rw [l _ _ (by omega) (by omega), o _ _ (by omega) (by omega) (by omega) (by omega) (by omega) (by omega), Flo _ (by omega) (by omega)]; exact a6
  · rw [l _ _ (by omega) (by omega), o _ _ (by omega) (by omega) (by omega) (by omega) (by omega) (by omega), Flo _ (by omega) (by omega)]; exact a7 j hj
  · obtain ⟨b1, b2, b3, b4, b5, b6⟩ := a8 p hp
    have hp' : (p < N ∧ fH c (nI p) = true) ↔ (p < N ∧ 0 ≤ f3 (8 + 20 * p + 2)) := ⟨fun z => ⟨z.1, (hH p z.1).mp z.2⟩, fun z => ⟨z.1, (hH p z.1).mpr z.2⟩⟩
    have F4 : F (8 + 20 * p + 4) = if p < N ∧ 0 ≤ f3 (8 + 20 * p + 2) then f3 (8 + 20 * p + 4) + f3 (8 + 20 * p + 3) else f3 (8 + 20 * p + 4) := by
      rw [Fp p 4 (by omega)]
      by_cases q : p < N ∧ 0 ≤ f3 (8 + 20 * p + 2)
      · rw [if_neg (fun z => by omega), if_pos ⟨q.1, q.2, rfl⟩, if_pos q]
      · rw [if_neg (fun z => by omega), if_neg (fun z => q ⟨z.1, z.2.1⟩), if_neg q]
    have F6' : F (8 + 20 * p + 6) = if p < N ∧ 0 ≤ f3 (8 + 20 * p + 2) then f3 (8 + 20 * p + 6) + 1 else f3 (8 + 20 * p + 6) := by
      rw [Fp p 6 (by omega)]
      by_cases q : p < N ∧ 0 ≤ f3 (8 + 20 * p + 2)
      · rw [if_pos ⟨q.1, q.2, rfl⟩, if_pos q]
      · rw [if_neg (fun z => q ⟨z.1, z.2.1⟩), if_neg (fun z => by omega), if_neg q]
    have T4 : τ.1 54 p = F (8 + 20 * p + 4) := by
      rw [t54, F4, b4, b3]
      by_cases q : p < N ∧ 0 ≤ f3 (8 + 20 * p + 2)
      · rw [if_pos (hp'.mpr q), if_pos q]
      · rw [if_neg (fun z => q (hp'.mp z)), if_neg q]
    have T6 : τ.1 56 p = F (8 + 20 * p + 6) := by
      rw [t56, F6', b6]
      by_cases q : p < N ∧ 0 ≤ f3 (8 + 20 * p + 2)
      · rw [if_pos (hp'.mpr q), if_pos q]
      · rw [if_neg (fun z => q (hp'.mp z)), if_neg q]
    refine ⟨?_, ?_, ?_, ?_, ?_, ?_⟩
    · rw [l _ _ (by omega) (by omega), o _ _ (by omega) (by omega) (by omega) (by omega) (by omega) (by omega), Fo _ _ (by omega) (by omega) (by omega)]; exact b1
    · rw [l _ _ (by omega) (by omega), o _ _ (by omega) (by omega) (by omega) (by omega) (by omega) (by omega), Fo _ _ (by omega) (by omega) (by omega)]; exact b2
    · rw [l _ _ (by omega) (by omega), o _ _ (by omega) (by omega) (by omega) (by omega) (by omega) (by omega), Fo _ _ (by omega) (by omega) (by omega)]; exact b3
    · rw [l _ _ (by omega) (by omega)]; exact T4
    · rw [l _ _ (by omega) (by omega), o _ _ (by omega) (by omega) (by omega) (by omega) (by omega) (by omega), Fo _ _ (by omega) (by omega) (by omega)]; exact b5
    · rw [l _ _ (by omega) (by omega)]; exact T6
  · rw [l _ _ (by omega) (by omega), o _ _ (by omega) (by omega) (by omega) (by omega) (by omega) (by omega), Fo _ _ (by omega) (by omega) (by omega)]; exact (a9 p hp).1
  · unfold wR
    rw [l _ _ (by omega) (by omega), o _ _ (by omega) (by omega) (by omega) (by omega) (by omega) (by omega), Fo _ _ (by omega) (by omega) (by omega), Fo _ _ (by omega) (by omega) (by omega)]
    have := (a9 p hp).2 q hq
    rw [mkS_lo (by omega) (by omega)] at this
    rw [show 37 + (5 + p) = 42 + p by omega]
    exact this
  · rw [Fo _ _ (by omega) (by omega) (by omega)]; exact g1 p hp q hq
  · rw [Fo _ _ (by omega) (by omega) (by omega)]; exact g2 p hp
  · rw [Flo _ (by omega) (by omega)]; exact g3
  · rw [Flo _ (by omega) (by omega)]; exact g4
  · rw [Flo _ (by omega) (by omega)]; exact g5
  · rw [Flo _ (by omega) (by omega)]; exact g6
  · rw [Fo _ _ (by omega) (by omega) (by omega), Fo _ _ (by omega) (by omega) (by omega)]; exact g7 p hp q hq
  · rw [Fo _ _ (by omega) (by omega) (by omega), Fo _ _ (by omega) (by omega) (by omega), Fo _ _ (by omega) (by omega) (by omega)]; exact g8 p hp
  · rw [Fo _ _ (by omega) (by omega) (by omega)]; exact g9 p hp
  · rw [Fo _ _ (by omega) (by omega) (by omega)]; exact ga p hp
  · rw [cn_congr N (fun j hj => by
      unfold dL
      rw [Fo _ _ (by omega) (by omega) (by omega)] : ∀ j, j < N → dL F j = dL f3 j)]
    exact gb
  · have pd := h.2.1.2.2
    rw [mkS_r] at pd
    obtain ⟨⟨D, d1, d2, d3⟩, d4⟩ := pd
    refine ⟨⟨D, ?_, d2, fun i hi => ?_⟩, fun k hk => ?_⟩
    · rw [l _ _ (by omega) (by omega), o _ _ (by omega) (by omega) (by omega) (by omega) (by omega) (by omega)]
      rw [mkS_lo (by omega) (by omega)] at d1
      exact d1
    · rw [l _ _ (by omega) (by omega), o _ _ (by omega) (by omega) (by omega) (by omega) (by omega) (by omega), Flo _ (by omega) (by omega)]
      have := d3 i hi
      rw [mkS_lo (by omega) (by omega)] at this
      exact this
    · rw [mkS_hi (by omega) (by omega), Flo _ (by omega) (by omega), Flo _ (by omega) (by omega)]
      have := d4 k hk
      rw [mkS_hi (by omega) (by omega)] at this
      exact this
/-- one month -/
theorem pm_step {σ τ r : jM} {f : Nat → Int32} {R N K : Nat} (h : xRk (mkS σ r f) R N K) (P : pmP σ τ) (b5 : f 5 + 1 ≤ 999 ∧ 0 ≤ f 5) : xRk (mkS τ r (pmF r f)) R N K ∧ pmF r f 5 = f 5 + 1 ∧ ∀ a, 0 < a → (a < 37 ∨ 56 < a) → (a < 259 ∨ 299 < a) → τ.1 a = σ.1 a := by
  obtain ⟨ρ1, ρ3, P1, A, e⟩ := P
  obtain ⟨n1, n2, n3, n4, n5, -⟩ := xv_n h
  obtain ⟨r6, n10⟩ := h.1.1
  have m4 : mN r = N := by
    rw [← n3]
    unfold mN
    rw [mkS_hi (a := 322) (by omega) (by omega)]
  have m5 : mPl r = K := by
    rw [← n5]
    unfold mPl
    rw [mkS_hi (a := 322) (by omega) (by omega)]
  have h1 := pm_1 h P1 b5
  obtain ⟨h2, k1, k2⟩ := pm_2 h1 A
  have p1 : ∀ a j, a ≠ 40 → ¬ (a = 37 ∧ j = 6) → ¬ (a = 0 ∧ j = 5) → ρ1.1 a j = σ.1 a j := fun a j q1 q2 q3 => P1.1.2.2 a j (by
    unfold aDX aDp
    simp only [Bool.or_eq_false_iff, Bool.and_eq_false_iff, beq_eq_false_iff_ne]
    omega)
  have s5 : σ.1 37 5 = f 5 := by
    have := (fl37 h.2.1.1).1.2.2.2.2.2
    rw [mkS_lo (by omega) (by omega), mkS_r] at this
    exact this
  have r5 : ρ3.1 37 5 = f 5 := by rw [k2, p1 37 5 (by omega) (by omega) (by omega), s5]
  have eN : fN ρ3 = N := by
    have := (xv_n h2).1
    unfold fN at this ⊢
    rw [mkS_lo (by omega) (by omega), jup_1, if_neg (by omega)] at this
    exact this
  obtain ⟨c1, c2⟩ := fCol_at ρ3 N n10
  have mo : ∀ a j, a ≠ 54 → a ≠ 56 → ¬ (a = 37 ∧ j = 4) → τ.1 a j = (jup ρ3 37 5 (f 5 + 1)).1 a j := fun a j q1 q2 q3 => by
    rw [e]
    unfold moS
    rw [r5, jup_1, jup_1 ρ3]
    by_cases z : a = 37 ∧ j = 5
    · rw [if_pos z, if_pos z]
    · rw [if_neg z, if_neg z, jup_1, if_neg q3, fCol_52 ρ3 _ a q1 q2]
  have hh : ∀ i, fH (jup ρ3 37 5 (f 5 + 1)) i = fH ρ3 i := fun i => by
    unfold fH fP
    rw [jup_1, if_neg (by omega), jup_1, if_neg (by omega)]
  have jo : ∀ a j, a ≠ 37 → (jup ρ3 37 5 (f 5 + 1)).1 a j = ρ3.1 a j := fun a j ha => by rw [jup_1, if_neg (fun z => ha z.1)]
  have g5 : paF r (psI r f K) 5 = f 5 := by
    unfold paF
    split
    · rw [agX_lo (by omega), psX_o r f (by omega) (by omega)]
    · rw [psX_o r f (by omega) (by omega)]
  have hF : xRk (mkS τ r (pmF r f)) R N K := by
    refine pm_3 (c := jup ρ3 37 5 (f 5 + 1)) (f3 := fu (paF r (psI r f K)) 5 (f 5 + 1)) h2 (fun a j h0 h3 q1 q2 q3 _ => mo a j q1 q2 q3) ?_ (fun j => ?_) (fun j => ?_) (fun j j8 j6 => ?_) ?_ (fun q w hw => ?_)
    · rw [e]
      unfold moS
      rw [jup_1, if_neg (by omega), jup_1, if_pos ⟨rfl, rfl⟩, jup_1, if_neg (by omega), jup_1, if_neg (by omega)]
      congr 2
    · rw [hh, jo 54 j (by omega), jo 53 j (by omega), e]
      unfold moS
      rw [jup_1, if_neg (by omega), jup_1, if_neg (by omega), eN, c1]
    · rw [hh, jo 56 j (by omega), e]
      unfold moS
      rw [jup_1, if_neg (by omega), jup_1, if_neg (by omega), eN, c2]
    · unfold pmF peF
      rw [m4, m5]
      by_cases q : j = 5
      · rw [if_pos q, clI_lo _ (by omega), g5, q, fu_s]
      · rw [if_neg q, if_neg j6, clI_lo _ j8, fu_n _ _ q]
    · unfold pmF peF
      rw [m4, m5]
      rw [if_neg (by omega), if_pos rfl, clI_lo _ (by omega), clI_lo _ (by omega), fu_n _ _ (by omega), fu_n _ _ (by omega)]
      congr 2
      refine sm_congr N (fun p _ => ?_)
      rw [clI_at _ (by omega), if_neg (fun z => by omega), if_neg (fun z => by omega), fu_n _ _ (by omega)]
    · unfold pmF peF
      rw [m4, m5]
      rw [if_neg (by omega), if_neg (by omega), clI_at _ hw, fu_n _ _ (show 8 + 20 * q + 2 ≠ 5 by omega), fu_n _ _ (show 8 + 20 * q + 6 ≠ 5 by omega), fu_n _ _ (show 8 + 20 * q + 4 ≠ 5 by omega), fu_n _ _ (show 8 + 20 * q + 3 ≠ 5 by omega), fu_n _ _ (show 8 + 20 * q + w ≠ 5 by omega)]
  refine ⟨hF, ?_, fun a h0 h1 h2 => ?_⟩
  · unfold pmF peF
    rw [m4, m5]
    rw [if_pos rfl, clI_lo _ (by omega), g5]
  · funext j
    rw [mo a j (by omega) (by omega) (by omega), jup_1, if_neg (by omega), k1 a h0 h1 h2, p1 a j (by omega) (by omega) (by omega)]
theorem pm_all {r ρ : jM} {f : Nat → Int32} {R N K m : Nat} (h : xRk (mkS ρ r f) R N K) (e5 : f 5 = nI m) : ∀ (k : Nat) (τ : jM), m + k ≤ 999 → pmR k ρ τ → xRk (mkS τ r (pmI r f k)) R N K ∧ pmI r f k 5 = nI (m + k) ∧ ∀ a, 0 < a → (a < 37 ∨ 56 < a) → (a < 259 ∨ 299 < a) → τ.1 a = ρ.1 a
  | 0, τ, _, hr => by
    have hr : τ = ρ := hr
    rw [hr]
    exact ⟨h, e5, fun _ _ _ _ => rfl⟩
  | k + 1, τ, hk, hr => by
    obtain ⟨μ, q1, -, q3, -⟩ := hr
    obtain ⟨i1, i2, i3⟩ := pm_all h e5 k μ (by omega) q1
    have b : pmI r f k 5 + 1 = nI (m + k + 1) := by
      rw [i2]
      exact nI_add (m + k) 1
    obtain ⟨j1, j2, j3⟩ := pm_step i1 q3 ⟨by
      rw [b, show (999 : Int32) = nI 999 from rfl]
      exact nI_le (by omega) (by decide), by
      rw [i2]
      exact (NL_0.1 _ (by omega)).mpr (Nat.zero_le _)⟩
    refine ⟨j1, ?_, fun a h0 h1 h2 => by rw [j3 a h0 h1 h2, i3 a h0 h1 h2]⟩
    show pmF r (pmI r f k) 5 = _
    rw [j2, b]
    rfl
theorem pmF_cg {r τ : jM} (e2 : ∀ j, (j = 3 ∨ j = 4 ∨ j = 5) → r.1 322 j = τ.1 322 j) (e : ∀ a, 327 ≤ a → a ≤ 329 → r.1 a = τ.1 a) (f : Nat → Int32) : pmF r f = pmF τ f := by
  have n4 : mN r = mN τ := by unfold mN; rw [e2 4 (by omega)]
  have n5 : mPl r = mPl τ := by unfold mPl; rw [e2 5 (by omega)]
  have ps : ∀ k, psI r f k = psI τ f k := fun k => by
    induction k with
    | zero => rfl
    | succ k ih =>
      show ps1 r k (psI r f k) = ps1 τ k (psI τ f k)
      rw [ih]
      funext j
      rw [ps1_at, ps1_at, e 327 (by omega) (by omega), e 328 (by omega) (by omega), e 329 (by omega) (by omega)]
  have pa : ∀ g, paF r g = paF τ g := fun g => by
    have s : sR (rw3 τ g) (rw3 r g) := ⟨funext fun j => by rw [rw3_sf, rw3_sf], by rw [rw3_of _ _ (by omega), rw3_of _ _ (by omega), e2 3 (by omega)], by rw [rw3_of _ _ (by omega), rw3_of _ _ (by omega), e2 4 (by omega)]⟩
    unfold paF
    rw [sR_C s, (sR_Ch s).1, (sR_Ch s).2, n4]
  have pe : ∀ g, peF r g = peF τ g := fun g => by
    unfold peF
    rw [n4]
  unfold pmF
  rw [ps, pa, pe, n4, n5]
theorem pmI_cg {r τ : jM} (e2 : ∀ j, (j = 3 ∨ j = 4 ∨ j = 5) → r.1 322 j = τ.1 322 j) (e : ∀ a, 327 ≤ a → a ≤ 329 → r.1 a = τ.1 a) (f : Nat → Int32) : ∀ k, pmI r f k = pmI τ f k
  | 0 => rfl
  | k + 1 => by
    show pmF r (pmI r f k) = pmF τ (pmI τ f k)
    rw [pmI_cg e2 e f k, pmF_cg e2 e]
