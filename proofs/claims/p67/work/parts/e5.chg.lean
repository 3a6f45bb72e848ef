/-! taken back; settled; rooms swapped -/
theorem stX_at {tg f : Nat → Int32} {N p w : Nat} (hw : w < 20) : stR tg f N (8 + 20 * p + w) = if p < N ∧ w = 5 then tg p else f (8 + 20 * p + w) := by
  unfold stR
  have e1 : (8 + 20 * p + w - 8) / 20 = p := by omega
  have e2 : (8 + 20 * p + w - 8) % 20 = w := by omega
  have h2 : (8 + 20 * p + w < 8 + 20 * N ∧ 8 ≤ 8 + 20 * p + w ∧ w = 5) ↔ (p < N ∧ w = 5) := by omega
  rw [e1, e2]
  simp only [h2]
theorem stX_lo {tg f : Nat → Int32} {N j : Nat} (hj : j < 8) : stR tg f N j = f j := by
  unfold stR
  rw [if_neg (fun z => by omega)]
theorem stX_o {tg f : Nat → Int32} {N p w : Nat} (hw : w < 20) (h5 : w ≠ 5) : stR tg f N (8 + 20 * p + w) = f (8 + 20 * p + w) := by
  rw [stX_at hw, if_neg (fun z => h5 z.2)]
theorem dG_st {f tg : Nat → Int32} {R N : Nat} (hN : N ≤ 10) (d : dG f R N) (ht : ∀ p, p < N → 0 ≤ tg p ∧ tg p ≤ 200000) : dG (stR tg f N) R N := by
  obtain ⟨⟨e1, e2, e3, e4, e5⟩, d2, d3, d4, d5, d6, d7⟩ := d
  refine ⟨⟨fun q hq s hs => ?_, fun q hq => ?_, ?_, ?_, ?_⟩, ?_, fun q hq s hs => ?_, fun q hq => ?_, fun q hq => ?_, fun q hq => ?_, ?_⟩
  · rw [stX_o (by omega) (by omega)]; exact e1 q hq s hs
  · rw [stX_o (by omega) (by omega)]; exact e2 q hq
  · rw [stX_lo (by omega)]; exact e3
  · rw [stX_lo (by omega)]; exact e4
  · rw [stX_lo (by omega)]; exact e5
  · rw [stX_lo (by omega)]; exact d2
  · rw [stX_o (by omega) (by omega), stX_o (by omega) (by omega)]; exact d3 q hq s hs
  · rw [stX_o (by omega) (by omega), stX_o (by omega) (by omega), stX_o (by omega) (by omega)]; exact d4 q hq
  · rw [stX_o (by omega) (by omega)]; exact d5 q hq
  · rw [stX_at (by omega)]
    by_cases c : q < N
    · rw [if_pos ⟨c, rfl⟩]
      exact ⟨ht q c, fun z => by omega⟩
    · rw [if_neg (fun z => c z.1)]
      exact d6 q hq
  · rw [cn_congr N (fun j hj => by
      unfold dL
      rw [stX_o (by omega) (by omega)] : ∀ j, j < N → dL (stR tg f N) j = dL f j)]
    exact d7
theorem tg_bd {σ : jM} {R N K : Nat} (h : xRk σ R N K) {p : Nat} (hp : p < N) : 0 ≤ tgS σ p ∧ tgS σ p ≤ 200000 := by
  unfold tgS
  by_cases l : xl σ p = true
  · have r6 := h.1.1.1
    have l4 := (xv_liv h).2.2.2.1
    have dp : dpN σ ≤ 99999 := by
      obtain ⟨k, k1, k2, k3⟩ := nI_rng (xv_dI h).2.2.2.1.1 (xv_dI h).2.2.2.1.2 (by decide)
      unfold dpN
      rw [k3]
      exact k1
    obtain ⟨k, k1, k2⟩ := spS_bd dp (tgW σ) (ck_of h hp l).1 (by omega)
    rw [if_pos l, k2, show (200000 : Int32) = nI 200000 from rfl]
    exact ⟨(NL_0.1 k (by omega)).mpr (Nat.zero_le _), nI_le (by omega) (by decide)⟩
  · rw [if_neg l]
    exact ⟨by decide, by decide⟩
theorem stS_at (σ ρ : jM) (a j : Nat) : (stS σ ρ).1 a j = if a = 55 ∧ j < 10 then ctS σ j else ρ.1 a j := rfl
theorem st_fl {σ ρ : jM} {f : Nat → Int32} {R N : Nat} {tg : Nat → Int32} (hR : R ≤ 6) (hN : N ≤ 10) (h : flR ρ 37 f R N) (e : ∀ p, p < 10 → ctS σ p = if p < N then tg p else f (8 + 20 * p + 5)) : flR (stS σ ρ) 37 (stR tg f N) R N := by
  have o : ∀ a j, a ≠ 55 → (stS σ ρ).1 a j = ρ.1 a j := fun a j ha => by rw [stS_at, if_neg (fun z => ha z.1)]
  obtain ⟨⟨a1, a2, a3, a4, a5, a6⟩, a7, a8, a9⟩ := h
  refine ⟨⟨?_, ?_, ?_, ?_, ?_, ?_⟩, fun i hi => ?_, fun p hp => ?_, fun p hp => ⟨?_, fun r hr => ?_⟩⟩
  · rw [o _ _ (by omega)]; exact a1
  · rw [o _ _ (by omega)]; exact a2
  · rw [o _ _ (by omega), stX_lo (by omega)]; exact a3
  · rw [o _ _ (by omega), stX_lo (by omega)]; exact a4
  · rw [o _ _ (by omega), stX_lo (by omega)]; exact a5
  · rw [o _ _ (by omega), stX_lo (by omega)]; exact a6
  · rw [o _ _ (by omega), stX_lo (by omega)]; exact a7 i hi
  · obtain ⟨b1, b2, b3, b4, b5, b6⟩ := a8 p hp
    rw [o _ _ (by omega), o _ _ (by omega), o _ _ (by omega), o _ _ (by omega), o (37 + 19) _ (by omega), stX_o (w := 0) (by omega) (by omega), stX_o (w := 2) (by omega) (by omega), stX_o (w := 3) (by omega) (by omega), stX_o (w := 4) (by omega) (by omega), stX_o (w := 6) (by omega) (by omega)]
    refine ⟨b1, b2, b3, b4, ?_, b6⟩
    rw [stS_at, if_pos ⟨rfl, hp⟩, stX_at (by omega), e p hp]
    by_cases c : p < N
    · rw [if_pos c, if_pos ⟨c, rfl⟩]
    · rw [if_neg c, if_neg (fun z => c z.1)]
  · rw [o _ _ (by omega), stX_o (by omega) (by omega)]; exact (a9 p hp).1
  · unfold wR
    rw [o _ _ (by omega), stX_o (by omega) (by omega), stX_o (by omega) (by omega)]
    exact (a9 p hp).2 r hr
theorem xs_settle : xS oX11_settle oM_settle [] := by
  intro σ hx
  obtain ⟨R, N, K, h⟩ := hx
  obtain ⟨n1, n2, n3, n4, -, m6, f7, m8⟩ := xv_n h
  obtain ⟨r6, n10⟩ := h.1.1
  obtain ⟨dp, so, m66, ds⟩ := xv_dpO h
  refine ⟨⟨rfl, f7, m66, dp, so, (xv_his h).choose_spec.choose_spec.2.2.2.2.2.2.1⟩, ?_⟩
  rintro v τ ⟨hv, ρ1, ρ2, f1, S, e⟩
  have q1 := xq_Ms h f1
  have h1 := q1.R h
  have hO1 := (xv_his h1).choose_spec.choose_spec.2.2.2.2.2.2.1
  obtain ⟨s1, s2, s3⟩ := sc_fx h1 S
  have f1o : ∀ a j, (a < 280 ∨ 319 < a) → ρ1.1 a j = σ.1 a j := fun a j ha => f1.2.2 a j (by
    unfold aMs
    simp only [jble, Bool.or_eq_false_iff, Bool.and_eq_false_iff, decide_eq_false_iff_not, beq_eq_false_iff_ne]
    omega)
  have to : ∀ a j, a ≠ 55 → τ.1 a j = ρ2.1 a j := fun a j ha => by rw [e, stS_at, if_neg (fun z => ha z.1)]
  have q : mQ σ τ := fun a ha => funext fun j => by rw [to a j (by omega), s3 a ha, f1o a j (by omega)]
  have qk := mQ_ok h q
  refine ⟨⟨rfl, qk.1, qk.2.2.1, qk.2.2.2.2.1, qk.2.1⟩, ?_⟩
  rintro w υ ⟨g2, μ, g3, g4, g5⟩
  rw [sR_trS q.s] at g2
  rw [sR_tg q.s, sR_N q.s, n3, q 323 (by omega)] at g5
  have r1 : ρ1.1 323 = σ.1 323 := funext fun j => f1o 323 j (by omega)
  have ua : ∀ a j, a ≠ 323 → a ≠ 324 → ¬ (a = 322 ∧ j = 2) → aSc a j = false → υ.1 a j = τ.1 a j := fun a j a1 a2 a3 a4 => by
    rw [g5, rw3_of _ _ a1, g3.2.2 a j a4, mRem_o _ _ _ a2 a3, jup_1]
    have : ¬ (a = 322 ∧ j = 11) := fun z => by
      rw [z.1, z.2] at a4
      exact absurd a4 (by decide)
    rw [if_neg this]
  have ul : ∀ a, a < 322 → υ.1 a = τ.1 a := fun a ha => funext fun j => ua a j (by omega) (by omega) (by omega) (sc_lt ha)
  have mm := mRem_cg (σ := ρ1) (τ := jup τ 322 11 0) (by rw [jup_1, if_neg (by omega), q 322 (by omega), f1o 322 2 (by omega)]) (by
    funext j
    rw [jup_1, if_neg (by omega), q 323 (by omega), r1]) (by
    funext j
    rw [jup_1, if_neg (by omega), q 324 (by omega), f1o 324 j (by omega)])
  have ur : ∀ j, υ.1 323 j = stR (tgS σ) (σ.1 323) N j := fun j => by
    rw [g5]
    exact rw3_sf _ _ _
  have u35 : υ.1 35 = ρ1.1 35 := by
    rw [ul 35 (by omega)]
    funext j
    rw [to 35 j (by omega), sc_same hO1 S 35 (by omega) (by omega)]
  have u328 : υ.1 328 = ρ1.1 328 := funext fun j => by
    rw [ua 328 j (by omega) (by omega) (by omega) rfl, q 328 (by omega), f1o 328 j (by omega)]
  rw [r1] at s1
  have u : xRk υ R N K := by
    refine xR_new h1 (fun a j cc => ?_) (his_push h1 S (fun a j a1 a2 => ?_) (fun j => ?_) ?_ u35 u328) ⟨?_, ?_, ?_⟩ (Or.inl ?_)
    · obtain ⟨c1, c2, c3, c4, c5⟩ := cc
      have a0 : a ≠ 0 := by
        intro z
        subst z
        exact absurd c1 (by unfold xC; simp)
      have a25 : a < 259 ∨ 279 < a := by
        have := (cu_xC c1).1
        unfold aCu aMk at this
        simp only [jble, Bool.or_eq_false_iff, Bool.and_eq_false_iff, decide_eq_false_iff_not, beq_eq_false_iff_ne] at this
        omega
      rw [ua a j c3 c4 c5 (sc_xC c1), to a j (by omega), sc_same hO1 S a (by omega) (by omega)]
    · rw [ul a (by omega), to a j (by omega)]
    · rw [g5, rw3_of _ _ (by omega), g3.2.2 324 j rfl]
      exact mm.1 j
    · rw [g5, rw3_of _ _ (by omega), g3.2.2 322 2 rfl]
      exact mm.2
    · refine flR_cg r6 n10 (fun j _ => ur j) (fun j _ => by rw [ul 37 (by omega)]) (fun k _ _ _ j _ => by rw [ul (37 + k) (by omega)]) ?_ (σ := τ) (b := 37)
      rw [e]
      refine st_fl r6 n10 s1 (fun p hp => ?_)
      by_cases c : p < N
      · rw [if_pos c]
        exact xv_ctS h c
      · rw [if_neg c, (h.2.1.2.1.2.2.2.2.2.1 p hp).2 (by omega)]
        unfold ctS
        rw [n1, if_neg (fun z => c z.1)]
    · exact dG_cg n10 (fun j _ => ur j) (dG_st n10 h.2.1.2.1 (fun p hp => tg_bd h hp))
    · refine plD_cg (σ := ρ1) (b := 37) (f := fun j => if j = 5 then σ.1 323 5 else if j = 7 then σ.1 323 7 else υ.1 323 j) (fun j hj => ?_) ?_ (fun i _ => by rw [u35]) (fun i _ => by rw [u328]) ?_
      · by_cases e5 : j = 5
        · rw [if_pos e5, ur, e5, stX_lo (by omega)]
        · by_cases e7 : j = 7
          · rw [if_neg e5, if_pos e7, ur, e7, stX_lo (by omega)]
          · rw [if_neg e5, if_neg e7]
      · rw [ul 37 (by omega), to 37 6 (by omega), s2 37 (by omega) (by omega)]
      · have := h1.2.1.2.2
        rw [r1] at this
        exact this
    · rw [ul 0 (by omega), to 0 5 (by omega)]
      exact S.2.2.2.2
  refine xc_fin u hv g2 ?_
  rw [xv_tr h]
