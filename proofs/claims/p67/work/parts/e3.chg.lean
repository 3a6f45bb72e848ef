/-! the division taken over; rooms swapped -/
theorem agX_at {ch py f : Nat → Int32} {N p w : Nat} (hw : w < 20) : agR ch py f N (8 + 20 * p + w) = if p < N ∧ w = 2 then (if ch p < 0 then -1 else ch p) else if p < N ∧ w = 3 then (if ch p < 0 then 0 else py p) else f (8 + 20 * p + w) := by
  unfold agR
  have e1 : (8 + 20 * p + w - 8) / 20 = p := by omega
  have e2 : (8 + 20 * p + w - 8) % 20 = w := by omega
  have h2 : (8 + 20 * p + w < 8 + 20 * N ∧ 8 ≤ 8 + 20 * p + w ∧ w = 2) ↔ (p < N ∧ w = 2) := by omega
  have h3 : (8 + 20 * p + w < 8 + 20 * N ∧ 8 ≤ 8 + 20 * p + w ∧ w = 3) ↔ (p < N ∧ w = 3) := by omega
  rw [e1, e2]
  simp only [h2, h3]
theorem agX_lo {ch py f : Nat → Int32} {N j : Nat} (hj : j < 8) : agR ch py f N j = f j := by
  unfold agR
  rw [if_neg (fun z => by omega), if_neg (fun z => by omega)]
theorem agX_o {ch py f : Nat → Int32} {N p w : Nat} (hw : w < 20) (h2 : w ≠ 2) (h3 : w ≠ 3) : agR ch py f N (8 + 20 * p + w) = f (8 + 20 * p + w) := by
  rw [agX_at hw, if_neg (fun z => h2 z.2), if_neg (fun z => h3 z.2)]
theorem agS_at (ch py : Nat → Int32) (σ : jM) (k a j : Nat) : (agS ch py σ k).1 a j = if a = 52 ∧ j < k then ch j else if a = 53 ∧ j < k then py j else σ.1 a j := rfl
theorem agS_o (ch py : Nat → Int32) (σ : jM) (k : Nat) {a j : Nat} (h : a ≠ 52 ∧ a ≠ 53) : (agS ch py σ k).1 a j = σ.1 a j := by
  rw [agS_at, if_neg (fun z => h.1 z.1), if_neg (fun z => h.2 z.1)]
/-- rooms and payments by a choice -/
def agC1 (f : Nat → Int32) (R N : Nat) (ch y py : Nat → Int32) : Prop := ∀ p, p < N → (ch p = -1 ∧ y p = 0) ∨ (f (8 + 20 * p + 0) = 1 ∧ (∃ r, r < R ∧ ch p = nI r) ∧ y p = py p ∧ -100000000 ≤ py p ∧ py p ≤ 100000000)
theorem ag_ch {f : Nat → Int32} {R N : Nat} {ch y py : Nat → Int32} (hR : R ≤ 6) (c : agC1 f R N ch y py) {p : Nat} (hp : p < N) : (if ch p < 0 then -1 else ch p) = ch p ∧ (if ch p < 0 then 0 else py p) = y p := by
  rcases c p hp with ⟨c1, c2⟩ | ⟨-, ⟨r, r1, r2⟩, c3, -⟩
  · rw [c1, c2, if_pos (by decide), if_pos (by decide)]
    exact ⟨rfl, rfl⟩
  · have : ¬ ch p < 0 := by
      rw [r2]
      have := (NL_0.1 r (by omega)).mpr (Nat.zero_le r)
      grind
    rw [if_neg this, if_neg this, c3]
    exact ⟨rfl, rfl⟩
theorem ag_fl {ρ : jM} {f : Nat → Int32} {R N : Nat} {ch y py : Nat → Int32} (hR : R ≤ 6) (hN : N ≤ 10) (h : flR ρ 37 f R N) (c : agC1 f R N ch y py) : flR (agS ch y ρ N) 37 (agR ch py f N) R N := by
  obtain ⟨⟨a1, a2, a3, a4, a5, a6⟩, a7, a8, a9⟩ := h
  refine ⟨⟨?_, ?_, ?_, ?_, ?_, ?_⟩, fun i hi => ?_, fun p hp => ?_, fun p hp => ⟨?_, fun r hr => ?_⟩⟩
  · rw [agS_o _ _ _ _ (by omega)]; exact a1
  · rw [agS_o _ _ _ _ (by omega)]; exact a2
  · rw [agS_o _ _ _ _ (by omega), agX_lo (by omega)]; exact a3
  · rw [agS_o _ _ _ _ (by omega), agX_lo (by omega)]; exact a4
  · rw [agS_o _ _ _ _ (by omega), agX_lo (by omega)]; exact a5
  · rw [agS_o _ _ _ _ (by omega), agX_lo (by omega)]; exact a6
  · rw [agS_o _ _ _ _ (by omega), agX_lo (by omega)]; exact a7 i hi
  · obtain ⟨b1, b2, b3, b4, b5, b6⟩ := a8 p hp
    refine ⟨?_, ?_, ?_, ?_, ?_, ?_⟩
    · rw [agS_o _ _ _ _ (by omega), agX_o (by omega) (by omega) (by omega)]; exact b1
    · rw [agX_at (by omega), agS_at]
      by_cases hp : p < N
      · rw [if_pos ⟨rfl, hp⟩, if_pos ⟨hp, rfl⟩]; exact (ag_ch hR c hp).1.symm
      · rw [if_neg (fun z => hp z.2), if_neg (fun z => hp z.2), if_neg (fun z => hp z.1), if_neg (fun z => hp z.1)]; exact b2
    · rw [agX_at (by omega), agS_at]
      by_cases hp : p < N
      · rw [if_neg (by omega), if_pos ⟨rfl, hp⟩, if_neg (by omega), if_pos ⟨hp, rfl⟩]; exact (ag_ch hR c hp).2.symm
      · rw [if_neg (fun z => hp z.2), if_neg (fun z => hp z.2), if_neg (fun z => hp z.1), if_neg (fun z => hp z.1)]; exact b3
    · rw [agS_o _ _ _ _ (by omega), agX_o (by omega) (by omega) (by omega)]; exact b4
    · rw [agS_o _ _ _ _ (by omega), agX_o (by omega) (by omega) (by omega)]; exact b5
    · rw [agS_o _ _ _ _ (by omega), agX_o (by omega) (by omega) (by omega)]; exact b6
  · rw [agS_o _ _ _ _ (by omega), agX_o (by omega) (by omega) (by omega)]; exact (a9 p hp).1
  · unfold wR
    rw [agS_o _ _ _ _ (by omega), agX_o (by omega) (by omega) (by omega), agX_o (by omega) (by omega) (by omega)]
    exact (a9 p hp).2 r hr
theorem dG_ag {f : Nat → Int32} {R N : Nat} {ch y py : Nat → Int32} (hR : R ≤ 6) (hN : N ≤ 10) (d : dG f R N) (c : agC1 f R N ch y py) : dG (agR ch py f N) R N := by
  obtain ⟨⟨e1, e2, e3, e4, e5⟩, d2, d3, d4, d5, d6, d7⟩ := d
  refine ⟨⟨fun q hq s hs => ?_, fun q hq => ?_, ?_, ?_, ?_⟩, ?_, fun q hq s hs => ?_, fun q hq => ?_, fun q hq => ?_, fun q hq => ?_, ?_⟩
  · rw [agX_o (by omega) (by omega) (by omega)]; exact e1 q hq s hs
  · rw [agX_o (by omega) (by omega) (by omega)]; exact e2 q hq
  · rw [agX_lo (by omega)]; exact e3
  · rw [agX_lo (by omega)]; exact e4
  · rw [agX_lo (by omega)]; exact e5
  · rw [agX_lo (by omega)]; exact d2
  · rw [agX_o (by omega) (by omega) (by omega), agX_o (by omega) (by omega) (by omega)]; exact d3 q hq s hs
  · by_cases hp : q < N
    · have k := ag_ch hR c hp
      have w2 : agR ch py f N (8 + 20 * q + 2) = ch q := by rw [agX_at (by omega), if_pos ⟨hp, rfl⟩, k.1]
      have w3 : agR ch py f N (8 + 20 * q + 3) = y q := by rw [agX_at (by omega), if_neg (by omega), if_pos ⟨hp, rfl⟩, k.2]
      rw [w2, w3, agX_o (w := 0) (by omega) (by omega) (by omega)]
      rcases c q hp with ⟨c1, c2⟩ | ⟨c1, c2, -⟩
      · exact Or.inl ⟨c1, c2⟩
      · exact Or.inr ⟨hp, c1, c2⟩
    · rw [agX_at (w := 2) (by omega), if_neg (fun z => hp z.1), if_neg (fun z => hp z.1), agX_at (w := 3) (by omega), if_neg (fun z => hp z.1), if_neg (fun z => hp z.1), agX_o (w := 0) (by omega) (by omega) (by omega)]
      exact d4 q hq
  · by_cases hp : q < N
    · have k := ag_ch hR c hp
      rw [agX_at (w := 3) (by omega), if_neg (by omega), if_pos ⟨hp, rfl⟩, k.2]
      rcases c q hp with ⟨c1, c2⟩ | ⟨c1, c2, c3, c4, c5⟩
      · rw [c2]
        exact ⟨by decide, by decide⟩
      · rw [c3]
        exact ⟨c4, c5⟩
    · rw [agX_at (w := 3) (by omega), if_neg (fun z => hp z.1), if_neg (fun z => hp z.1)]
      exact d5 q hq
  · rw [agX_o (by omega) (by omega) (by omega)]; exact d6 q hq
  · rw [cn_congr N (fun j hj => by
      unfold dL
      rw [agX_o (by omega) (by omega) (by omega)] : ∀ j, j < N → dL (agR ch py f N) j = dL f j)]
    exact d7
/-- what a person is to pay has bounds -/
theorem paS_bd {σ : jM} {R N K : Nat} (h : xRk σ R N K) {a : Nat × Nat × (Nat → Nat)} (ha : dC σ = some a) {s : Nat} (hs : s ≤ 100) {i : Nat} (hi : i < mLiv σ) : -100000000 ≤ paS σ s i ∧ paS σ s i ≤ 100000000 := by
  obtain ⟨b1, -, b3, b4⟩ := xv_mPr h ha hs
  have l := (xv_liv h).2.2.2.1
  have r6 := h.1.1.1
  have bi := b1 i hi
  obtain ⟨L, h1, h2, h3, h4, h5, h6, h7, h8⟩ := ip_le (xv_dI h) hs
  have ip : ipN σ s ≤ 99999 := by
    obtain ⟨k, k1, k2, k3⟩ := nI_rng (xv_dI h).2.2.1.1 (xv_dI h).2.2.1.2 (by decide)
    unfold ipN
    rw [k3]
    have : k * s / 100 ≤ k * 100 / 100 := Nat.div_le_div_right (Nat.mul_le_mul_left _ hs)
    omega
  obtain ⟨k, k1, k2⟩ := spS_bd ip (icN σ) hi (by omega)
  obtain ⟨k', k3, k4⟩ := hoS_bd (m := mLiv σ) (lfI σ s).toNat (fun i => prI σ s i % 120) (fun i => iI (prI σ s i / 120)) i
  have e : paS σ s i = iI (prI σ s i / 120 + (k' : Int) + (k : Int)) := by
    unfold paS unS shS
    rw [k4, k2, ← iI_nat, ← iI_nat, iI_add, iI_add]
  rw [e, show (-100000000 : Int32) = iI (-100000000) from rfl, show (100000000 : Int32) = iI 100000000 from rfl, iI_le (by constructor <;> omega) (by constructor <;> omega), iI_le (by constructor <;> omega) (by constructor <;> omega)]
  omega
/-- the class's choice and the reference's -/
theorem xv_ag {σ : jM} {R N K : Nat} (h : xRk σ R N K) : agC1 (σ.1 323) R N (mCh σ) (clY σ) (mPy σ) := by
  intro p hp
  obtain ⟨y1, y2, y3⟩ := xv_Y0 h hp
  by_cases c : mCh σ p = -1
  · exact Or.inl ⟨c, y1 c⟩
  · rcases y3 with y3 | ⟨r, r1, r2, r3⟩
    · exact absurd y3 c
    · have r6 := h.1.1.1
      have c0 : 0 ≤ mCh σ p := by
        rw [r2]
        exact (NL_0.1 r (by omega)).mpr (Nat.zero_le _)
      have l : (σ.1 323) (8 + 20 * p + 0) = 1 := by
        unfold xl dL at r3
        rw [decide_eq_true_eq] at r3
        exact r3
      refine Or.inr ⟨l, ⟨r, r1, r2⟩, y2 c0, ?_⟩
      rcases e : dC σ with _ | a
      · exfalso
        apply c
        unfold mCh
        rw [e]
        rfl
      · unfold mPy
        rw [if_pos r3]
        exact paS_bd h e (xv_S h).2.1 (ck_of h hp r3).1
theorem agC1_cg {f : Nat → Int32} {R N : Nat} {ch ch' y y' py : Nat → Int32} (e : ∀ p, p < N → ch p = ch' p ∧ y p = y' p) (c : agC1 f R N ch' y' py) : agC1 f R N ch y py := fun p hp => by
  rw [(e p hp).1, (e p hp).2]
  exact c p hp
theorem agS_cg {ch ch' y y' : Nat → Int32} {σ : jM} {N : Nat} (e : ∀ p, p < N → ch p = ch' p ∧ y p = y' p) : agS ch y σ N = agS ch' y' σ N := by
  unfold agS
  congr 1
  funext a j
  by_cases c : j < N
  · rw [(e j c).1, (e j c).2]
  · rw [if_neg (fun z => c z.2), if_neg (fun z => c z.2), if_neg (fun z => c z.2), if_neg (fun z => c z.2)]
theorem rw3_of (σ : jM) (f : Nat → Int32) {a j : Nat} (h : a ≠ 323) : (rw3 σ f).1 a j = σ.1 a j := if_neg h
theorem rw3_sf (σ : jM) (f : Nat → Int32) (j : Nat) : (rw3 σ f).1 323 j = f j := by simp [rw3]
theorem xs_divide : xS oX11_divide oM_divide [] := by
  intro σ hx
  obtain ⟨R, N, K, h⟩ := hx
  refine ⟨⟨rfl, (xv_pre h).1.1, (xv_pre h).1.2, (xv_his h).choose_spec.choose_spec.2.2.2.2.2.2.1⟩, ?_⟩
  obtain ⟨n1, n2, n3, n4, -, m6, -, m8⟩ := xv_n h
  obtain ⟨r6, n10⟩ := h.1.1
  rintro v τ (⟨c, hv, cu⟩ | ⟨c, hv, ρ1, ρ2, ρ3, cu1, S, cu2, e⟩)
  · have qt := xcu cu
    have ht := qt.R h
    rw [xv_C h] at c
    refine ⟨⟨rfl, (xv_n ht).2.2.2.2.2.1, xv_dI ht, (xv_n ht).2.2.2.2.2.2.2⟩, ?_⟩
    rintro w υ (⟨g1, g2, g3, g4⟩ | ⟨g1, -⟩)
    · exact xc_fin ((xM_Q ht g3).R ht) hv g2 rfl
    · rw [sR_C qt.sR, c] at g1
      cases g1
  · have q1 := xcu cu1
    have h1 := q1.R h
    rw [xv_C h] at c
    obtain ⟨s1, s2, s3⟩ := sc_fx h1 S
    have cuo : ∀ a j, (a < 259 ∨ 279 < a) → a ≠ 0 → ρ3.1 a j = ρ2.1 a j := fun a j ha h0 => cu2.1.2.2 a j (by
      unfold aCu aMk
      simp only [jble, Bool.or_eq_false_iff, Bool.and_eq_false_iff, decide_eq_false_iff_not, beq_eq_false_iff_ne]
      omega)
    have to : ∀ a j, (a < 259 ∨ 279 < a) → a ≠ 0 → a ≠ 52 → a ≠ 53 → τ.1 a j = ρ2.1 a j := fun a j ha h0 h2 h3 => by
      rw [e, agS_o _ _ _ _ ⟨h2, h3⟩]
      exact cuo a j ha h0
    have q : mQ σ τ := fun a ha => by
      rw [show τ.1 a = ρ2.1 a from funext fun j => to a j (by omega) (by omega) (by omega) (by omega), s3 a ha]
      funext j
      refine cu1.1.2.2 a j ?_
      unfold aCu aMk
      simp only [jble, Bool.or_eq_false_iff, Bool.and_eq_false_iff, decide_eq_false_iff_not, beq_eq_false_iff_ne]
      omega
    have qk := mQ_ok h q
    refine ⟨⟨rfl, qk.1, qk.2.2.1, qk.2.1⟩, ?_⟩
    rintro w υ (⟨g1, -⟩ | ⟨g1, g2, μ, g3, g4, g5⟩)
    · rw [sR_C q.s] at g1
      exfalso
      rcases ec : dC σ with _ | a
      · exact c ec
      · rw [ec] at g1; cases g1
    · rw [(sR_Ch q.s).1, sR_N q.s, n3, q 323 (by omega)] at g2
      rw [(sR_Ch q.s).1, (sR_Ch q.s).2, sR_N q.s, n3, q 323 (by omega)] at g5
      have ag := xv_ag h
      have ag' : agC1 (σ.1 323) R N (clR σ) (clY σ) (mPy σ) := agC1_cg (fun p hp => ⟨xv_Rm h hp, rfl⟩) ag
      have e' : τ = agS (mCh σ) (clY σ) ρ3 N := by
        rw [e, n1]
        exact agS_cg (fun p hp => ⟨xv_Rm h hp, rfl⟩)
      have ua : ∀ a j, a ≠ 323 → a ≠ 324 → ¬ (a = 322 ∧ j = 2) → aSc a j = false → υ.1 a j = τ.1 a j := fun a j a1 a2 a3 a4 => by
        rw [g5, rw3_of _ _ a1, mRem_o _ _ _ a2 a3]
        exact g3.2.2 a j a4
      have ul : ∀ a, a < 322 → υ.1 a = τ.1 a := fun a ha => funext fun j => ua a j (by omega) (by omega) (by omega) (sc_lt ha)
      have r1 : ρ1.1 323 = σ.1 323 := q1.at 323 rfl rfl
      have mm := mRem_cg (σ := ρ1) (τ := μ) (by rw [g3.2.2 322 2 rfl, q 322 (by omega), q1.1 322 2 rfl]) (by
        rw [show μ.1 323 = τ.1 323 from funext fun j => g3.2.2 323 j (sc_323 j), q 323 (by omega), r1]) (by
        rw [show μ.1 324 = τ.1 324 from funext fun j => g3.2.2 324 j rfl, q 324 (by omega), q1.at 324 rfl rfl])
      have f3 : flR ρ3 37 (σ.1 323) R N := by
        rw [r1] at s1
        exact flR_cg r6 n10 (fun _ _ => rfl) (fun j _ => cuo 37 j (by omega) (by omega)) (fun k _ _ _ j _ => cuo (37 + k) j (by omega) (by omega)) s1
      have pv : prIv υ := by
        refine Or.inr ⟨?_, ?_⟩
        · rw [ul 0 (by omega), e, agS_o _ _ _ _ (by omega)]
          exact cu2.2.1.1
        · have z : ∀ a, a < 322 → a ≠ 52 → a ≠ 53 → υ.1 a = ρ3.1 a := fun a ha a2 a3 => by
            rw [ul a ha, e]
            exact funext fun j => agS_o _ _ _ _ ⟨a2, a3⟩
          exact prMk_ofE cu2.2.2 cu2.2.1.2 ⟨fun j _ => by rw [z 37 (by omega) (by omega) (by omega)], fun a a1 a2 => z a (by omega) (by omega) (by omega)⟩ (fun a a1 a2 => z a (by omega) (by omega) (by omega))
      have u35 : υ.1 35 = ρ1.1 35 := by
        rw [ul 35 (by omega)]
        funext j
        rw [to 35 j (by omega) (by omega) (by omega) (by omega), sc_same (xv_his h1).choose_spec.choose_spec.2.2.2.2.2.2.1 S 35 (by omega) (by omega)]
      have u328 : υ.1 328 = ρ1.1 328 := funext fun j => by
        rw [ua 328 j (by omega) (by omega) (by omega) rfl, q 328 (by omega), q1.at 328 rfl rfl]
      have ur : ∀ j, υ.1 323 j = agR (mCh σ) (mPy σ) (σ.1 323) N j := fun j => by
        rw [g5]
        exact rw3_sf _ _ _
      have u : xRk υ R N K := by
        refine xR_new h1 (fun a j cc => ?_) (his_push h1 S (fun a j a1 a2 => ?_) (fun j => ?_) ?_ u35 u328) ⟨?_, ?_, ?_⟩ pv
        · obtain ⟨c1, c2, c3, c4, c5⟩ := cc
          have a0 : a ≠ 0 := by
            intro z
            subst z
            exact absurd c1 (by unfold xC; simp)
          have a25 : a < 259 ∨ 279 < a := by
            have := (cu_xC c1).1
            unfold aCu aMk at this
            simp only [jble, Bool.or_eq_false_iff, Bool.and_eq_false_iff, decide_eq_false_iff_not, beq_eq_false_iff_ne] at this
            omega
          rw [ua a j c3 c4 c5 (sc_xC c1), to a j a25 a0 (by omega) (by omega), sc_same (xv_his h1).choose_spec.choose_spec.2.2.2.2.2.2.1 S a (by omega) (by omega)]
        · rw [ul a (by omega), to a j (by omega) (by omega) (by omega) (by omega)]
        · rw [g5, rw3_of _ _ (by omega)]
          exact mm.1 j
        · rw [g5, rw3_of _ _ (by omega)]
          exact mm.2
        · refine flR_cg r6 n10 (fun j _ => ur j) (fun j _ => by rw [ul 37 (by omega)]) (fun k _ _ _ j _ => by rw [ul (37 + k) (by omega)]) ?_ (σ := τ) (b := 37)
          rw [e']
          exact ag_fl r6 n10 f3 ag
        · exact dG_cg n10 (fun j _ => ur j) (dG_ag r6 n10 h.2.1.2.1 ag)
        · refine plD_cg (σ := ρ1) (b := 37) (f := fun j => if j = 5 then σ.1 323 5 else if j = 7 then σ.1 323 7 else υ.1 323 j) (fun j hj => ?_) ?_ (fun i _ => by rw [u35]) (fun i _ => by rw [u328]) ?_
          · by_cases e5 : j = 5
            · rw [if_pos e5, ur, e5, agX_lo (by omega)]
            · by_cases e7 : j = 7
              · rw [if_neg e5, if_pos e7, ur, e7, agX_lo (by omega)]
              · rw [if_neg e5, if_neg e7]
          · rw [ul 37 (by omega), to 37 6 (by omega) (by omega) (by omega) (by omega), s2 37 (by omega) (by omega)]
          · have := h1.2.1.2.2
            rw [r1] at this
            exact this
      refine xc_fin u hv g2 ?_
      rw [n1]
      congr 1
      unfold agN
      refine cn_congr N (fun p hp => ?_)
      unfold agC
      have a2 : σ.1 52 p = σ.1 323 (8 + 20 * p + 2) := ((fl37 h.2.1.1).2.2.1 p (by omega)).2.1
      rw [xv_Rm h hp, a2, Bool.eq_iff_iff, decide_eq_true_eq, decide_eq_true_eq]
      have c0 : (¬ mCh σ p = -1) ↔ 0 ≤ mCh σ p := by
        rcases (xv_Y0 h hp).2.2 with k | ⟨r, k1, k2, -⟩
        · rw [k]
          exact ⟨fun z => absurd rfl z, fun z => absurd z (by decide)⟩
        · rw [k2]
          exact ⟨fun _ => (NL_0.1 r (by omega)).mpr (Nat.zero_le _), fun _ z => (nI_m1 (by omega)).mp z⟩
      rw [c0]
