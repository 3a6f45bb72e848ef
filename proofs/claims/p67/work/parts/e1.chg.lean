/-! changes of one number -/
/-- the reference's cells are as they were -/
def mQ (σ τ : jM) : Prop := ∀ a, 322 ≤ a → τ.1 a = σ.1 a
theorem mQ.s {σ τ : jM} (q : mQ σ τ) : sR σ τ := ⟨q 323 (by omega), by rw [q 322 (by omega)], by rw [q 322 (by omega)]⟩
theorem mQ_P {σ τ : jM} (q : mQ σ τ) (x : Int32) : mP τ x = mP σ x := sR_mP q.s x
theorem mQ_R {σ τ : jM} (q : mQ σ τ) (x : Int32) : mR τ x = mR σ x := sR_mR q.s x
theorem mQ_D {σ τ : jM} (q : mQ σ τ) : mD τ = mD σ := by
  funext a b
  exact sR_D q.s a b
theorem mQ_ok {σ τ : jM} {R N K : Nat} (h : xRk σ R N K) (q : mQ σ τ) : mOK τ ∧ mH τ ∧ dI (τ.1 323) ∧ dRm (τ.1 323) ∧ dSt (τ.1 323) ∧ dPy (τ.1 323) := by
  obtain ⟨-, -, -, -, -, m6, -, m8⟩ := xv_n h
  refine ⟨?_, ?_, ?_, ?_, ?_, ?_⟩
  · unfold mOK; rw [q 322 (by omega)]; exact m6
  · unfold mH; rw [q 322 (by omega)]; exact m8
  · rw [q 323 (by omega)]; exact xv_dI h
  · rw [q 323 (by omega)]; exact xv_dRm h
  · rw [q 323 (by omega)]; exact (xv_dpO h).2.2.2
  · rw [q 323 (by omega)]; exact h.2.1.2.1.2.2.2.2.1
/-- class and reference have changed the flat alike -/
theorem xCh {σ ρ τ υ : jM} {R N K : Nat} (h : xRk σ R N K) (S : scP σ ρ) (hτ : ∀ a j, ¬ (37 ≤ a ∧ a ≤ 56) → τ.1 a j = ρ.1 a j) (hυ : ∀ a j, a ≠ 323 → υ.1 a j = (mRem (jup τ 322 11 0)).1 a j)
    (f' : Nat → Int32) (ef : ∀ j, j < 208 → υ.1 323 j = f' j) (row : flR τ 37 f' R N) (dg : dG f' R N) (p6 : τ.1 37 6 = σ.1 37 6) (f5 : f' 5 = σ.1 323 5) (f7 : f' 7 = σ.1 323 7) : xRk υ R N K := by
  obtain ⟨h0, c0, ⟨hb, cb⟩, hN, hC, -, -, h3, hO, -⟩ := xv_his h
  obtain ⟨r6, n10⟩ := h.1.1
  have q : ∀ a, 259 ≤ a → τ.1 a = σ.1 a := fun a ha => by
    rw [← sc_same hO S a (by omega) (by omega)]
    exact funext fun j => hτ a j (by omega)
  have ο : ∀ a j, a ≠ 323 → a ≠ 324 → a ≠ 322 → υ.1 a j = τ.1 a j := fun a j h1 h2 h3 => by
    rw [hυ a j h1, mRem_o _ _ _ h2 (fun z => h3 z.1), jup_1, if_neg (fun z => h3 z.1)]
  have lo : ∀ a j, a < 37 → 1 ≤ a → υ.1 a j = σ.1 a j := fun a j h1 h2 => by
    rw [ο a j (by omega) (by omega) (by omega), hτ a j (by omega), sc_same hO S a h2 (by omega)]
  have m := mRem_cg (σ := σ) (τ := jup τ 322 11 0) (by rw [jup_1, if_neg (by omega), q 322 (by omega)]) (by
    funext j
    rw [jup_1, if_neg (by omega), q 323 (by omega)]) (by
    funext j
    rw [jup_1, if_neg (by omega), q 324 (by omega)])
  have z5 : υ.1 0 5 = 0 := by
    rw [ο 0 5 (by omega) (by omega) (by omega), hτ 0 5 (by omega)]
    exact S.2.2.2.2
  refine xR_new h (fun a j c => ?_) (his_push h S (fun a j a1 a2 => ?_) (fun j => ?_) ?_ ?_ ?_) ⟨?_, dG_cg n10 ef dg, ?_⟩ (Or.inl z5)
  · obtain ⟨c1, c2, c3, c4, c5⟩ := c
    by_cases a2 : a = 322
    · subst a2
      rw [hυ 322 j (by omega), mRem_o _ _ _ (by omega) c5, jup_1]
      have : j ≠ 11 := by
        intro e
        subst e
        exact absurd c1 (by decide)
      rw [if_neg (fun z => this z.2), q 322 (by omega)]
    · have a1 : 1 ≤ a := by
        rcases Nat.eq_zero_or_pos a with e | e
        · subst e
          exact absurd c1 (by unfold xC; simp)
        · exact e
      by_cases a3 : a < 37
      · exact lo a j a3 a1
      · rw [ο a j c3 c4 a2, q a (by omega)]
  · rw [ο a j (by omega) (by omega) (by omega), hτ a j (by omega)]
  · rw [hυ 324 j (by omega), m.1 j]
  · rw [hυ 322 2 (by omega), m.2]
  · exact funext fun j => lo 35 j (by omega) (by omega)
  · funext j
    rw [ο 328 j (by omega) (by omega) (by omega), q 328 (by omega)]
  · exact flR_cg r6 n10 ef (fun j _ => ο 37 j (by omega) (by omega) (by omega)) (fun k _ _ _ j _ => ο (37 + k) j (by omega) (by omega) (by omega)) row
  · refine plD_cg (σ := σ) (b := 37) (f := fun j => if j = 5 then σ.1 323 5 else if j = 7 then σ.1 323 7 else f' j) (fun j hj => ?_) ?_ (fun i _ => lo 35 i (by omega) (by omega)) (fun i _ => ?_) ?_
    · rw [ef j hj]
      by_cases e5 : j = 5
      · rw [if_pos e5, e5]; exact f5
      · by_cases e7 : j = 7
        · rw [if_neg e5, if_pos e7, e7]; exact f7
        · rw [if_neg e5, if_neg e7]
    · rw [ο 37 6 (by omega) (by omega) (by omega)]; exact p6
    · rw [ο 328 i (by omega) (by omega) (by omega), q 328 (by omega)]
    · exact h.2.1.2.2
/-- the flat behind startChange is the flat of before -/
theorem sc_fx {σ ρ : jM} {R N K : Nat} (h : xRk σ R N K) (S : scP σ ρ) : flR ρ 37 (σ.1 323) R N ∧ (∀ a, 37 ≤ a → a ≤ 56 → ρ.1 a = σ.1 a) ∧ mQ σ ρ := by
  obtain ⟨-, -, -, -, -, -, -, -, hO, -⟩ := xv_his h
  obtain ⟨r6, n10⟩ := h.1.1
  have e : ∀ a, 37 ≤ a → a ≤ 56 → ρ.1 a = σ.1 a := fun a h1 h2 => sc_same hO S a (by omega) (by omega)
  refine ⟨flR_cg r6 n10 (fun _ _ => rfl) (fun j _ => by rw [e 37 (by omega) (by omega)]) (fun k _ _ _ j _ => by rw [e (37 + k) (by omega) (by omega)]) h.2.1.1, e, fun a ha => sc_same hO S a (by omega) (by omega)⟩
theorem mQ_up {σ ρ : jM} (q : mQ σ ρ) {a j : Nat} (x : Int32) (ha : a < 322) : mQ σ (jup ρ a j x) := fun b hb => by
  rw [← q b hb]
  funext i
  rw [jup_1, if_neg (by omega)]
/-- told, and nothing done -/
theorem xe_fin {σ υ : jM} {R N K : Nat} (h : xRk σ R N K) {v w : Option Value} {x : Int32} (hv : v = some (.int x)) (hw : w = some (.int x)) (hu : υ = jup σ 322 11 0) : (∃ x, v = some (.int x)) ∧ w = v ∧ xR υ := ⟨⟨_, hv⟩, by rw [hv, hw], R, N, K, by rw [hu]; exact (xQ_th h 0).R h⟩
theorem xc_fin {υ : jM} {R N K : Nat} (k : xRk υ R N K) {v w : Option Value} {x y : Int32} (hv : v = some (.int x)) (hw : w = some (.int y)) (e : x = y) : (∃ x, v = some (.int x)) ∧ w = v ∧ xR υ := ⟨⟨_, hv⟩, by rw [hv, hw, e], R, N, K, k⟩
theorem mIn_le {x : Int32} {y : Int32} : mIn x 0 y = true ↔ 0 ≤ x ∧ x ≤ y := by
  unfold mIn
  rw [decide_eq_true_eq]
theorem fu_5 {f : Nat → Int32} {k : Nat} {x : Int32} (h : k ≠ 5 ∧ k ≠ 7) : fu f k x 5 = f 5 ∧ fu f k x 7 = f 7 := ⟨fu_n _ _ (fun e => h.1 e.symm), fu_n _ _ (fun e => h.2 e.symm)⟩
/-- a number that only has bounds -/
theorem dG_fu {f : Nat → Int32} {R N k : Nat} {x : Int32} (hN : N ≤ 10) (d : dG f R N) (hk : k < 5 ∨ ∃ p, p < 10 ∧ k = 8 + 20 * p + 1) (di : dI (fu f k x)) : dG (fu f k x) R N := by
  obtain ⟨d1, d2, d3, d4, d5, d6, d7⟩ := d
  have o : ∀ j, j ≠ k → fu f k x j = f j := fun j hj => fu_n _ _ hj
  have n : ∀ p w, w ≠ 1 → 8 + 20 * p + w ≠ k ∨ 20 ≤ w := fun p w hw => by
    rcases hk with hk | ⟨q, hq, hk⟩ <;> omega
  refine ⟨di, ?_, fun p hp r hr => ?_, fun p hp => ?_, fun p hp => ?_, fun p hp => ?_, ?_⟩
  · rw [o 5 (by rcases hk with hk | ⟨q, hq, hk⟩ <;> omega)]; exact d2
  · rw [o _ ((n p (13 + r) (by omega)).resolve_right (by omega)), o _ ((n p (7 + r) (by omega)).resolve_right (by omega))]; exact d3 p hp r hr
  · rw [o _ ((n p 2 (by omega)).resolve_right (by omega)), o _ ((n p 3 (by omega)).resolve_right (by omega)), o _ ((n p 0 (by omega)).resolve_right (by omega))]; exact d4 p hp
  · rw [o _ ((n p 3 (by omega)).resolve_right (by omega))]; exact d5 p hp
  · rw [o _ ((n p 5 (by omega)).resolve_right (by omega))]; exact d6 p hp
  · rw [cn_congr N (fun j hj => by
      unfold dL
      rw [o _ ((n j 0 (by omega)).resolve_right (by omega))] : ∀ j, j < N → dL (fu f k x) j = dL f j)]
    exact d7
/-- bounds of a number by its place -/
theorem dI_fu {f : Nat → Int32} {k : Nat} {x : Int32} (d : dI f) (hk : (k = 0 ∨ k = 2) ∨ ((k = 3 ∨ k = 4) ∧ 0 ≤ x ∧ x ≤ 99999) ∨ (k = 1 ∧ 0 ≤ x ∧ x ≤ 100) ∨ ((∃ p, p < 10 ∧ k = 8 + 20 * p + 1) ∧ 0 ≤ x ∧ x ≤ 99999)) : dI (fu f k x) := by
  obtain ⟨d1, d2, d3, d4, d5⟩ := d
  refine ⟨fun p hp r hr => ?_, fun p hp => ?_, ?_, ?_, ?_⟩
  · rw [fu_n _ _ (by rcases hk with hk | hk | hk | ⟨⟨q, hq, hk⟩, -⟩ <;> omega)]; exact d1 p hp r hr
  · by_cases e : 8 + 20 * p + 1 = k
    · rw [e, fu_s]
      rcases hk with hk | hk | hk | ⟨-, hk⟩
      · omega
      · omega
      · omega
      · exact hk
    · rw [fu_n _ _ e]; exact d2 p hp
  · by_cases e : 3 = k
    · rw [e, fu_s]
      rcases hk with hk | hk | hk | ⟨⟨q, hq, hk⟩, -⟩
      · omega
      · exact hk.2
      · omega
      · omega
    · rw [fu_n _ _ e]; exact d3
  · by_cases e : 4 = k
    · rw [e, fu_s]
      rcases hk with hk | hk | hk | ⟨⟨q, hq, hk⟩, -⟩
      · omega
      · exact hk.2
      · omega
      · omega
    · rw [fu_n _ _ e]; exact d4
  · by_cases e : 1 = k
    · rw [e, fu_s]
      rcases hk with hk | hk | hk | ⟨⟨q, hq, hk⟩, -⟩
      · omega
      · omega
      · exact hk.2
      · omega
    · rw [fu_n _ _ e]; exact d5
/-- a change of one number, done on both sides -/
theorem xc_one {σ ρ : jM} {R N K : Nat} (h : xRk σ R N K) (S : scP σ ρ) {a j k : Nat} {x : Int32} (m : fdK a j k) (hk : k < 5 ∨ ∃ p, p < 10 ∧ k = 8 + 20 * p + 1) (di : dI (fu (σ.1 323) k x)) (ha : 37 ≤ a ∧ a ≤ 56) (h6 : ¬ (a = 37 ∧ j = 6)) : xRk (jup (mRem (jup (jup ρ a j x) 322 11 0)) 323 k x) R N K := by
  obtain ⟨s1, s2, s3⟩ := sc_fx h S
  obtain ⟨r6, n10⟩ := h.1.1
  have k57 : k ≠ 5 ∧ k ≠ 7 := by rcases hk with hk | ⟨q, hq, hk⟩ <;> omega
  refine xCh h S (τ := jup ρ a j x) (fun b i hb => by rw [jup_1, if_neg (by omega)]) (fun b i hb => by rw [jup_1, if_neg (fun z => hb z.1)]) (fu (σ.1 323) k x) (fun i hi => ?_) (flR_up s1 r6 n10 x m) (dG_fu n10 h.2.1.2.1 hk di) ?_ (fu_5 k57).1 (fu_5 k57).2
  · have e0 : (mRem (jup (jup ρ a j x) 322 11 0)).1 323 i = σ.1 323 i := by
      rw [mRem_o _ _ _ (by omega) (by omega), jup_1 (jup ρ a j x) 322 11 0 323 i, if_neg (by omega), jup_1 ρ a j x 323 i, if_neg (by omega), s3 323 (by omega)]
    rw [jup_1, e0]
    unfold fu
    by_cases e : i = k
    · rw [if_pos ⟨rfl, e⟩, if_pos e]
    · rw [if_neg (fun z => e z.2), if_neg e]
  · rw [jup_1, if_neg (by omega), s2 37 (by omega) (by omega)]
theorem xs_setLease (x : Int32) : xS oX11_setLease oM_setLease [.int x] := by
  intro σ hx
  obtain ⟨R, N, K, h⟩ := hx
  refine ⟨⟨rfl, (xv_his h).choose_spec.choose_spec.2.2.2.2.2.2.1⟩, ?_⟩
  rintro v τ (⟨c, hv, e⟩ | ⟨c, hv, ρ, S, e⟩)
  · rw [e]
    refine ⟨⟨rfl, (xv_n h).2.2.2.2.2.2.2⟩, ?_⟩
    rintro w υ ⟨hw, hu⟩
    rw [if_neg c] at hw hu
    exact xe_fin h hv hw hu
  · obtain ⟨s1, s2, s3⟩ := sc_fx h S
    have q : mQ σ τ := by
      rw [e]
      exact mQ_up s3 x (by omega)
    refine ⟨⟨rfl, (mQ_ok h q).2.1⟩, ?_⟩
    rintro w υ ⟨hw, hu⟩
    rw [if_pos c] at hw hu
    rw [q 323 (by omega)] at hw
    refine xc_fin (R := R) (N := N) (K := K) ?_ hv hw (fl37 h.2.1.1).1.2.2.1
    rw [hu, e]
    exact xc_one h S (by unfold fdK; omega) (by omega) (dI_fu (xv_dI h) (Or.inr (Or.inl ⟨by omega, mIn_le.mp c⟩))) (by omega) (by omega)
theorem xs_setSetting (x y : Int32) : xS oX11_setSetting oM_setSetting [.int x, .int y] := by
  intro σ hx
  obtain ⟨R, N, K, h⟩ := hx
  refine ⟨⟨rfl, (xv_his h).choose_spec.choose_spec.2.2.2.2.2.2.1⟩, ?_⟩
  rintro v τ (⟨c, hv, e⟩ | ⟨c, hv, ρ, S, e⟩)
  · rw [e]
    refine ⟨⟨rfl, (xv_n h).2.2.2.2.2.2.2⟩, ?_⟩
    rintro w υ ⟨hw, hu⟩
    rw [if_neg c] at hw hu
    exact xe_fin h hv hw hu
  · obtain ⟨s1, s2, s3⟩ := sc_fx h S
    have q : mQ σ τ := by
      rw [e]
      exact mQ_up s3 y (by omega)
    refine ⟨⟨rfl, (mQ_ok h q).2.1⟩, ?_⟩
    rintro w υ ⟨hw, hu⟩
    rw [if_pos c] at hw hu
    rw [q 323 (by omega)] at hw
    have x3 := mIn2_lt c.1
    refine xc_fin (R := R) (N := N) (K := K) ?_ hv hw ((fl37 h.2.1.1).2.1 _ x3)
    rw [hu, e]
    refine xc_one h S (by unfold fdK; omega) (by omega) (dI_fu (xv_dI h) ?_) (by omega) (by omega)
    by_cases x1 : x.toNatClampNeg = 1
    · have e1 : x = 1 := by
        obtain ⟨k, k1, k2, k3⟩ := nI_rng (mIn_le.mp c.1).1 (mIn_le.mp c.1).2 (by decide)
        rw [k2]
        rw [k3] at x1
        rw [x1]
        rfl
      have y1 := mIn_le.mp c.2
      rw [e1] at y1
      exact Or.inr (Or.inr (Or.inl ⟨x1, y1⟩))
    · exact Or.inl (by omega)
