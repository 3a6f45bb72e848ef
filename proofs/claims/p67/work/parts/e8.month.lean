/-! a month: its plans -/
/-- class cells of one state, the reference's of another, a row of its own -/
def mkS (c r : jM) (f : Nat → Int32) : jM := (fun a j => if a = 0 then 0 else if a < 322 then c.1 a j else if a = 323 then f j else r.1 a j, r.2)
theorem mkS_lo {c r : jM} {f : Nat → Int32} {a : Nat} (h0 : 0 < a) (h : a < 322) : (mkS c r f).1 a = c.1 a := by
  funext j
  unfold mkS
  dsimp only
  rw [if_neg (by omega), if_pos h]
theorem mkS_r {c r : jM} {f : Nat → Int32} : (mkS c r f).1 323 = f := by
  funext j
  unfold mkS
  dsimp only
  rw [if_neg (by omega), if_neg (by omega), if_pos rfl]
theorem mkS_hi {c r : jM} {f : Nat → Int32} {a : Nat} (h : 322 ≤ a) (h3 : a ≠ 323) : (mkS c r f).1 a = r.1 a := by
  funext j
  unfold mkS
  dsimp only
  rw [if_neg (by omega), if_neg (by omega), if_neg h3]
theorem mkS_p {c r : jM} {f : Nat → Int32} : prIv (mkS c r f) := Or.inl rfl
theorem hisR_cg {σ υ : jM} {R N K : Nat} (hR : R ≤ 6) (hN : N ≤ 10) (e : ∀ a, 57 ≤ a → a ≤ 258 → υ.1 a = σ.1 a) (e4 : υ.1 324 = σ.1 324) (e2 : υ.1 322 2 = σ.1 322 2) (e35 : υ.1 35 = σ.1 35) (e328 : υ.1 328 = σ.1 328) (h : hisR σ R N K) : hisR υ R N K := by
  obtain ⟨h0, c0, hb, ⟨h1, h2, h3⟩, h4⟩ := h
  refine ⟨h0, c0, hb, ⟨?_, ?_, e2.trans h3⟩, fun q hq => ?_⟩
  · rw [e 57 (by omega) (by omega)]; exact h1
  · rw [e 57 (by omega) (by omega)]; exact h2
  · rw [e4]
    have := Nat.mod_lt (h0 + 10 - c0 + q) (show 0 < 10 by decide)
    exact rowR_cg hR hN (fun _ _ => rfl) (fun j _ => by rw [e _ (by omega) (by omega)]) (fun k _ _ _ j _ => by rw [e _ (by omega) (by omega)]) (fun i _ => by rw [e35]) (fun i _ => by rw [e328]) (h4 q hq)
/-- the flat and the row anew, all else as it was -/
theorem mk_new {σ τ r : jM} {f f' : Nat → Int32} {R N K : Nat} (h : xRk (mkS σ r f) R N K) (e : ∀ a, 0 < a → (a < 37 ∨ 56 < a) → (a < 259 ∨ 299 < a) → a < 322 → τ.1 a = σ.1 a) (row : flR (mkS τ r f') 37 f' R N) (d : dG f' R N) (pd : plD (mkS τ r f') 37 K f') : xRk (mkS τ r f') R N K := by
  have c : ∀ a, 0 < a → (a < 37 ∨ 56 < a) → (a < 259 ∨ 299 < a) → a ≠ 323 → (mkS τ r f').1 a = (mkS σ r f).1 a := fun a h0 h1 h2 h3 => by
    by_cases q : a < 322
    · rw [mkS_lo h0 q, mkS_lo h0 q]
      exact e a h0 h1 h2 q
    · rw [mkS_hi (by omega) h3, mkS_hi (by omega) h3]
  refine xR_new h (fun a j k => ?_) (hisR_cg h.1.1.1 h.1.1.2 (fun a a1 a2 => c a (by omega) (by omega) (by omega) (by omega)) (c 324 (by omega) (by omega) (by omega) (by omega)) (by rw [c 322 (by omega) (by omega) (by omega) (by omega)]) (c 35 (by omega) (by omega) (by omega) (by omega)) (c 328 (by omega) (by omega) (by omega) (by omega)) h.2.2.2.1) (by rw [mkS_r]; exact ⟨row, d, pd⟩) mkS_p
  obtain ⟨c1, c2, c3, c4, c5⟩ := k
  have a0 : 0 < a := by
    rcases Nat.eq_zero_or_pos a with z | z
    · subst z
      exact absurd c1 (by unfold xC; simp)
    · exact z
  have a25 : a < 259 ∨ 299 < a := by
    unfold xC at c1
    simp only [jble, Bool.or_eq_true, Bool.and_eq_true, beq_iff_eq, decide_eq_true_eq] at c1
    omega
  rw [c a a0 (by omega) a25 c3]
theorem dnK_spec (σ : jM) {K : Nat} (hK : K ≤ 1000) (e : σ.1 31 5 = nI K) : ∀ f k, k ≤ K → K ≤ k + f → k ≤ dnK σ f k ∧ dnK σ f k ≤ K ∧ (∀ i, k ≤ i → i < dnK σ f k → σ.1 35 i ≤ σ.1 37 5) ∧ (dnK σ f k < K → ¬ σ.1 35 (dnK σ f k) ≤ σ.1 37 5)
  | 0, k, h1, h2 => ⟨Nat.le_refl _, h1, fun i i1 i2 => by simp only [dnK] at i2; omega, fun i => by simp only [dnK] at i; omega⟩
  | f + 1, k, h1, h2 => by
    simp only [dnK]
    by_cases c : nI k < σ.1 31 5 ∧ σ.1 35 k ≤ σ.1 37 5
    · rw [if_pos c]
      have kl : k < K := by
        have := c.1
        rw [e, nI_ltI (by omega) (by omega)] at this
        exact this
      obtain ⟨a1, a2, a3, a4⟩ := dnK_spec σ hK e f (k + 1) kl (by omega)
      refine ⟨by omega, a2, fun i i1 i2 => ?_, a4⟩
      by_cases q : i = k
      · rw [q]; exact c.2
      · exact a3 i (by omega) i2
    · rw [if_neg c]
      refine ⟨Nat.le_refl _, h1, fun i i1 i2 => by omega, fun kl z => c ⟨?_, z⟩⟩
      rw [e, nI_ltI (by omega) (by omega)]
      exact kl
theorem dnR_lst (σ : jM) (k0 p : Nat) : ∀ d, dnR σ k0 d p = lst (fun i => fP σ (σ.1 34 (k0 + i)) = true ∧ p = (σ.1 34 (k0 + i)).toNatClampNeg) (fun i => σ.1 36 (k0 + i)) (σ.1 40 p) d
  | 0 => rfl
  | d + 1 => by
    simp only [dnR, lst]
    by_cases c : fP σ (σ.1 34 (k0 + d)) = true
    · rw [if_pos c]
      by_cases e : p = (σ.1 34 (k0 + d)).toNatClampNeg
      · rw [if_pos e, if_pos ⟨c, e⟩]
      · rw [if_neg e, if_neg (fun z => e z.2), dnR_lst σ k0 p d]
    · rw [if_neg c, if_neg (fun z => c z.1), dnR_lst σ k0 p d]
/-- the plans of a month: the same on both sides -/
theorem pl_inc {σ r : jM} {f : Nat → Int32} {R N K : Nat} (h : xRk (mkS σ r f) R N K) : dnN σ ≤ dnE σ ∧ dnE σ ≤ K ∧ (∀ i, i < K → (i < dnE σ ↔ σ.1 35 i ≤ f 5)) ∧ ∀ p, p < N → dnR σ (dnN σ) (dnE σ - dnN σ) p = psI r f K (8 + 20 * p + 1) := by
  have n10 := h.1.1.2
  obtain ⟨D, ρ, p1, p2, p3, p4, p5, p6, p7, p8, p9, p10⟩ := xv_pl h
  have pb := h.2.2.1.2.2
  have s31 : σ.1 31 5 = nI K := by rw [mkS_lo (by omega) (by omega)] at p1; exact p1
  have s6 : σ.1 37 6 = nI D := by rw [mkS_lo (by omega) (by omega)] at p2; exact p2
  have eD : dnN σ = D := by unfold dnN; rw [s6, nI_clamp (by omega)]
  have s5 : σ.1 37 5 = f 5 := by
    have := (fl37 h.2.1.1).1.2.2.2.2.2
    rw [mkS_lo (by omega) (by omega), mkS_r] at this
    exact this
  have s40 : ∀ p, p < N → σ.1 40 p = f (8 + 20 * p + 1) := fun p hp => by
    have := ((fl37 h.2.1.1).2.2.2 p hp).1
    rw [mkS_lo (by omega) (by omega), mkS_r] at this
    exact this
  have sp : ∀ i, i < K → ρ i < K ∧ σ.1 34 i = r.1 327 (ρ i) ∧ σ.1 35 i = r.1 328 (ρ i) ∧ σ.1 36 i = r.1 329 (ρ i) := fun i hi => by
    have := p5 i hi
    rw [mkS_lo (a := 34) (by omega) (by omega), mkS_lo (a := 35) (by omega) (by omega), mkS_lo (a := 36) (by omega) (by omega), mkS_hi (a := 327) (by omega) (by omega), mkS_hi (a := 328) (by omega) (by omega), mkS_hi (a := 329) (by omega) (by omega)] at this
    exact this
  rw [mkS_hi (by omega) (by omega)] at p6 p10
  rw [mkS_r] at p10
  have op : ∀ i, i < K → (bt (f 7) (ρ i) ↔ D ≤ i) := fun i hi => by
    rw [← p7 i hi]
    unfold mO
    rw [mkS_r, decide_eq_true_eq]
  have sb : ∀ k, k < K → ∃ p, p < N ∧ r.1 327 k = nI p := fun k hk => by
    have := (pb k hk).1
    rw [mkS_hi (by omega) (by omega)] at this
    exact this
  obtain ⟨q1, q2, q3, q4⟩ := dnK_spec σ (by omega) s31 (20 - D) D p3 (by omega)
  have eE : dnE σ = dnK σ (20 - D) D := by unfold dnE; rw [eD]
  rw [← eE] at q1 q2 q3 q4
  rw [s5] at q3 q4
  have spec : ∀ i, i < K → (i < dnE σ ↔ σ.1 35 i ≤ f 5) := fun i hi => by
    constructor
    · intro z
      by_cases c : i < D
      · have := (p10 i hi).mp c
        rw [← (sp i hi).2.2.1] at this
        grind
      · exact q3 i (by omega) z
    · intro z
      refine Nat.lt_of_not_le (fun w => ?_)
      have k4 := q4 (by omega)
      by_cases e : i = dnE σ
      · rw [e] at z
        exact k4 z
      · rw [(sp _ (show dnE σ < K by omega)).2.2.1] at k4
        rw [(sp i hi).2.2.1] at z
        rcases p6 (dnE σ) i (by omega) hi with t | t
        · grind
        · grind
  rw [eD]
  refine ⟨q1, q2, spec, fun p hp => ?_⟩
  rw [dnR_lst, psI_inc r f p K (by omega), s40 p hp]
  have Pc : ∀ i, i < dnE σ - D → ((fP σ (σ.1 34 (D + i)) = true ∧ p = (σ.1 34 (D + i)).toNatClampNeg) ↔ ((bt (f 7) (ρ (D + i)) ∧ r.1 328 (ρ (D + i)) = f 5) ∧ (r.1 327 (ρ (D + i))).toNatClampNeg = p)) := fun i hi => by
    obtain ⟨t1, t2, t3, t4⟩ := sp (D + i) (by omega)
    obtain ⟨pp, u1, u2⟩ := sb _ t1
    have mo : r.1 328 (ρ (D + i)) = f 5 := by
      have a := (spec (D + i) (by omega)).mp (by omega)
      have b := p10 (D + i) (by omega)
      rw [t3] at a
      have : ¬ r.1 328 (ρ (D + i)) < f 5 := fun z => by
        have := b.mpr z
        omega
      grind
    have fp : fP σ (σ.1 34 (D + i)) = true := by
      rw [t2, u2]
      have := (xv_P h (nI pp)).1.trans ((xv_P h (nI pp)).2.mpr ⟨pp, u1, rfl⟩)
      unfold fP at this ⊢
      rw [mkS_lo (by omega) (by omega)] at this
      exact this
    rw [t2]
    rw [t2] at fp
    exact ⟨fun z => ⟨⟨(op _ (by omega)).mpr (by omega), mo⟩, z.2.symm⟩, fun z => ⟨fp, z.2.symm⟩⟩
  have Pm : ∀ k, k < K → ((bt (f 7) k ∧ r.1 328 k = f 5) ∧ (r.1 327 k).toNatClampNeg = p) → ∃ i, i < dnE σ - D ∧ ρ (D + i) = k := fun k hk z => by
    obtain ⟨i, i1, i2⟩ := p9 k hk
    rw [← i2] at z
    have a := (op i i1).mp z.1.1
    have b := (spec i i1).mpr (by rw [(sp i i1).2.2.1, z.1.2]; grind)
    exact ⟨i - D, by omega, by rw [show D + (i - D) = i by omega]; exact i2⟩
  rcases @lst_is (fun i => fP σ (σ.1 34 (D + i)) = true ∧ p = (σ.1 34 (D + i)).toNatClampNeg) _ (fun i => σ.1 36 (D + i)) (f (8 + 20 * p + 1)) (dnE σ - D) with ⟨i, i1, i2, i3, i4⟩ | ⟨i1, i2⟩
  · rcases @lst_is (fun i => (bt (f 7) i ∧ r.1 328 i = f 5) ∧ (r.1 327 i).toNatClampNeg = p) (fun _ => Classical.propDecidable _) (fun i => r.1 329 i) (f (8 + 20 * p + 1)) K with ⟨k, k1, k2, k3, k4⟩ | ⟨k1, k2⟩
    · rw [i4, k4]
      obtain ⟨j, j1, j2⟩ := Pm k k1 k2
      have ij : i = j := by
        rcases Nat.lt_trichotomy i j with c | c | c
        · exact absurd ((Pc j j1).mpr (by rw [j2]; exact k2)) (i3 j c j1)
        · exact c
        · exfalso
          have w := (Pc i i1).mp i2
          rcases p6 (D + j) (D + i) (by omega) (by omega) with t | t
          · rw [w.1.2, j2, k2.1.2] at t
            grind
          · rw [j2] at t
            exact k3 _ t.2 (sp _ (by omega)).1 w
      show σ.1 36 (D + i) = r.1 329 k
      rw [ij, (sp (D + j) (by omega)).2.2.2, j2]
    · exact absurd ((Pc i i1).mp i2) (k1 _ (sp _ (by omega)).1)
  · rcases @lst_is (fun i => (bt (f 7) i ∧ r.1 328 i = f 5) ∧ (r.1 327 i).toNatClampNeg = p) (fun _ => Classical.propDecidable _) (fun i => r.1 329 i) (f (8 + 20 * p + 1)) K with ⟨k, k1, k2, k3, k4⟩ | ⟨k1, k2⟩
    · obtain ⟨j, j1, j2⟩ := Pm k k1 k2
      exact absurd ((Pc j j1).mpr (by rw [j2]; exact k2)) (i1 j j1)
    · rw [i2, k2]
