/-! load -/
theorem ld_o {σ τ : jM} (f : jfr aLX b0 σ τ) {a j : Nat} (h : ¬ ((1 ≤ a ∧ a ≤ 2) ∨ (4 ≤ a ∧ a ≤ 56) ∨ (a = 57 ∧ j = 2) ∨ (a = 0 ∧ j = 5))) : τ.1 a j = σ.1 a j := f.2.2 a j (by
  unfold aLX aRL
  simp only [jble, Bool.or_eq_false_iff, Bool.and_eq_false_iff, beq_eq_false_iff_ne, decide_eq_false_iff_not]
  omega)
theorem le_o {σ τ : jM} (f : jfr aRL b0 σ τ) {a j : Nat} (h : ¬ ((1 ≤ a ∧ a ≤ 2) ∨ (4 ≤ a ∧ a ≤ 30))) : τ.1 a j = σ.1 a j := f.2.2 a j (by
  unfold aRL
  simp only [jble, Bool.or_eq_false_iff, Bool.and_eq_false_iff, decide_eq_false_iff_not]
  omega)
theorem lm_o {σ τ : jM} (f : jfr aLd bTk σ τ) {a j : Nat} (h : a < 322 ∨ (323 ≤ a ∧ a < 347) ∨ 350 < a ∨ (a = 322 ∧ (j = 2 ∨ j = 3 ∨ j = 4 ∨ j = 5 ∨ j = 52))) : τ.1 a j = σ.1 a j := f.2.2 a j (by
  unfold aLd aRs aRd
  simp only [Bool.or_eq_false_iff, Bool.and_eq_false_iff, beq_eq_false_iff_ne]
  omega)
theorem lt_o {σ τ : jM} (f : jfr aTt b0 σ τ) {a j : Nat} (h : a < 322 ∨ 329 < a ∨ a = 324 ∨ (a = 322 ∧ j ≠ 2 ∧ j ≠ 3 ∧ j ≠ 4 ∧ j ≠ 5)) : τ.1 a j = σ.1 a j := f.2.2 a j (by
  unfold aTt
  simp only [Bool.or_eq_false_iff, Bool.and_eq_false_iff, beq_eq_false_iff_ne]
  omega)
theorem xs_load (x : Int32) : xS oX11_load oM_load [.int x] := by
  intro σ hx
  obtain ⟨R, N, K, h⟩ := hx
  obtain ⟨t1, ⟨n, t2, t3, t4, t5, t6⟩, t7⟩ := xv_text h
  refine ⟨⟨rfl, n, t3, t2⟩, ?_⟩
  have eI : σ.1 322 32 = σ.1 2 1 := by rw [t3, t4]
  rintro v τ (⟨c, hv, e⟩ | ⟨c, L⟩)
  · rw [e]
    refine ⟨⟨rfl, t6, t7⟩, ?_⟩
    rintro w υ (⟨g1, g2, g3⟩ | ⟨g1, -⟩)
    · exact xe_fin h hv g2 g3
    · rw [eI, c] at g1
      cases g1
  · -- where the reference's cells stand
    have fr : (∀ a j, 58 ≤ a → τ.1 a j = σ.1 a j) ∧ (∀ a j, a = 3 → τ.1 a j = σ.1 a j) := by
      obtain ⟨m1, m2⟩ := mu1_I σ
      have l := L (mu1 σ) m2
      rcases e : pLoad (σ.1 3) x.toNatClampNeg (mu1 σ) with z | z
      · rw [e] at l
        exact ⟨fun a j ha => le_o l.2.2.2.1 (by omega), fun a j ha => le_o l.2.2.2.1 (by omega)⟩
      · rw [e] at l
        exact ⟨fun a j ha => ld_o l.2.2.2.1 (by omega), fun a j ha => ld_o l.2.2.2.1 (by omega)⟩
    have q : mQ σ τ := fun a ha => funext fun j => fr.1 a j (by omega)
    have q346 : τ.1 346 = σ.1 346 := q 346 (by omega)
    have bk : bOK τ := by
      unfold bOK
      rw [q 322 (by omega)]
      exact t6
    refine ⟨⟨rfl, bk, fun j hj => by rw [q346]; exact t7 j hj⟩, ?_⟩
    rintro w υ (⟨g1, -⟩ | ⟨g1, g2⟩)
    · rw [q 322 (by omega), eI, c] at g1
      cases g1
    · obtain ⟨m1, m2⟩ := mu1_I τ
      have l := L (mu1 τ) m2
      rw [q346, ← t1] at g2
      have t3e : ∀ j, τ.1 3 j = σ.1 3 j := fun j => fr.2 3 j rfl
      rcases e : pLoad (σ.1 3) x.toNatClampNeg (mu1 τ) with z | z
      · rw [e] at l g2
        dsimp only at g2
        obtain ⟨l1, l2, l3, l4, l5⟩ := l
        obtain ⟨g3, g4, g5, g6, g7⟩ := g2
        have al : ∀ a j, (31 ≤ a ∧ a < 322) ∨ (323 ≤ a ∧ a < 347) ∨ 350 < a ∨ (a = 322 ∧ (j = 2 ∨ j = 3 ∨ j = 4 ∨ j = 5 ∨ j = 52)) ∨ a = 0 ∨ a = 3 → υ.1 a j = σ.1 a j := fun a j ha => by
          rw [lm_o g5 (by omega), le_o l4 (by omega)]
        refine xc_fin (R := R) (N := N) (K := K) (xR_tp h (fun a j ha => al a j (by unfold xF at ha; omega)) ⟨?_, ⟨0, by omega, ?_, g6⟩, fun j hj => ?_⟩ ?_ ?_ (prIv_f2 h (al 0 5 (by omega)) (fun a j ha => al a j (by omega)))) l1 g3 rfl
        · funext j
          rw [al 3 j (by omega), al 346 j (by omega), t1]
        · rw [lm_o g5 (by omega)]; exact l5
        · rw [al 346 j (by omega)]; exact t7 j hj
        · obtain ⟨s, s1, s2, s3, s4⟩ := xv_page h
          exact ⟨s, s1, (al 320 1 (by omega)).trans s2, (al 322 52 (by omega)).trans s3, fun j hj => by rw [al 321 j (by omega), al 351 j (by omega)]; exact s4 j hj⟩
        · rw [lm_o g5 (by omega), l3, g7]
      · rw [e] at l g2
        dsimp only at g2
        obtain ⟨c0, μ⟩ := z
        obtain ⟨l1, l2, l3, l4, l5, l6, l7, l8, l9, la⟩ := l
        obtain ⟨g3, ρ, g4, g5, g6, g7, g8, g9, ga⟩ := g2
        have I := pText_I _ _ _ _ _ m1 e
        dsimp only at l6 g8 I
        obtain ⟨⟨i1, i2, i3, i4, i5, -⟩, ⟨k1, k2, k3⟩, k4⟩ := I
        obtain ⟨⟨a1, a2, a3, a4, a5, a6, a7, a8, -, b1, b2, -⟩, B, C1, C2, C3, ρo, o1, o2⟩ := l6
        obtain ⟨f1, f2, f3, f4⟩ := l8
        obtain ⟨e1, e2⟩ := l7
        obtain ⟨w1, w2, w3, w4, w5, w6, w7, w8⟩ := ga
        -- the reference's cells behind takeText
        have r347 : ∀ j, ρ.1 347 j = μ 347 j := fun j => g8 347 j rfl
        have r350 : ∀ j, ρ.1 350 j = μ 350 j := fun j => g8 350 j rfl
        have r43 : ρ.1 322 43 = μ 322 43 := g8 322 43 rfl
        have r44 : ρ.1 322 44 = μ 322 44 := g8 322 44 rfl
        have r45 : ρ.1 322 45 = μ 322 45 := g8 322 45 rfl
        have em : rm ρ.1 = rm μ := by unfold rm; rw [r43]
        have ep : pe ρ.1 = pe μ := by unfold pe; rw [r44]
        have en : pn ρ.1 = pn μ := by unfold pn; rw [r45]
        rw [em] at w6
        rw [ep] at w7
        rw [en] at w8
        have uf : ∀ j, j < 208 → υ.1 323 j = μ 347 j := fun j hj => by rw [w1 j hj, r347]
        -- the class's cells
        have lo : ∀ a j, a < 322 → υ.1 a j = τ.1 a j := fun a j ha => by rw [lt_o g9 (by omega), lm_o g4 (by omega)]
        have z0 : ∀ k j, k = 2 ∨ 15 ≤ k ∧ k ≤ 19 → j < 10 → υ.1 (37 + k) j = emV k j := fun k j hk hj => by
          have : j < fLn k := by
            unfold fLn
            split
            · omega
            · split <;> omega
          rw [lo _ _ (by omega), f4 k (by omega) (by omega) (by omega) j this]
          exact e2 k hk j this
        have em15 : ∀ j, emV 15 j = -1 := fun j => by unfold emV; rw [if_neg (by omega), if_pos rfl]
        have emz : ∀ k j, k ≠ 1 → k ≠ 15 → emV k j = 0 := fun k j h1 h2 => by unfold emV; rw [if_neg h1, if_neg h2]
        have mz : ∀ p w, p < 10 → fxW w → υ.1 323 (8 + 20 * p + w) = if w = 2 then -1 else 0 := fun p w hp hw => by
          have : w < 20 := by unfold fxW at hw; omega
          rw [uf _ (by omega)]
          exact i2 p hp w hw
        have mj : ∀ j, 5 ≤ j → j < 8 → υ.1 323 j = 0 := fun j h5 h8 => by rw [uf j (by omega)]; exact i1 j h5 h8
        have bs : ∀ k, k < 5 → vC τ k = υ.1 323 k := fun k hk => by rw [uf k (by omega)]; exact (B k hk).1
        have v0 : ∀ j, j < 3 → τ.1 5 j = υ.1 323 j := fun j hj => by
          have := bs j (by omega)
          unfold vC at this
          rw [if_pos hj] at this
          exact this
        have v3 : τ.1 4 2 = υ.1 323 3 := by
          have := bs 3 (by omega)
          unfold vC at this
          rw [if_neg (by omega)] at this
          exact this
        have v4 : τ.1 4 3 = υ.1 323 4 := by
          have := bs 4 (by omega)
          unfold vC at this
          rw [if_neg (by omega)] at this
          exact this
        have dl0 : ∀ p, p < 10 → dL (υ.1 323) p = false := fun p hp => by
          unfold dL
          rw [mz p 0 hp (Or.inl rfl)]
          decide
        have pl : ∀ k, k < pn μ → υ.1 327 k = μ 350 (3 * k) ∧ υ.1 328 k = μ 350 (3 * k + 1) ∧ υ.1 329 k = μ 350 (3 * k + 2) := fun k hk => by
          obtain ⟨q1, q2, q3⟩ := w8 k hk
          rw [q1, q2, q3, r350, r350, r350]
          exact ⟨rfl, rfl, rfl⟩
        have clp : ∀ i, i < pn μ → υ.1 34 i = τ.1 27 i ∧ υ.1 35 i = τ.1 28 i ∧ υ.1 36 i = τ.1 29 i := fun i hi => by
          have r3 : i < roL 3 := by unfold roL; rw [if_neg (by omega), if_neg (by omega)]; omega
          have r4 : i < roL 4 := by unfold roL; rw [if_neg (by omega), if_neg (by omega)]; omega
          have r5 : i < roL 5 := by unfold roL; rw [if_neg (by omega), if_neg (by omega)]; omega
          rw [lo _ _ (by omega), lo _ _ (by omega), lo _ _ (by omega)]
          exact ⟨f1 3 (by omega) (by omega) i r3, f1 4 (by omega) (by omega) i r4, f1 5 (by omega) (by omega) i r5⟩
        have mon : ∀ k, k < pn μ → 0 ≤ υ.1 328 k := fun k hk => by
          rw [(pl k hk).2.1]
          exact (k4 k hk).2.1.1
        have ds : dG (υ.1 323) (rm μ) (pe μ) := by
          refine ⟨⟨fun p hp r hr => ?_, fun p hp => ?_, ?_, ?_, ?_⟩, ?_, fun p hp r hr => ?_, fun p hp => Or.inl ?_, fun p hp => ?_, fun p hp => ?_, ?_⟩
          · rw [uf _ (by omega)]; exact (i3 p hp r hr).1
          · rw [uf _ (by omega)]; exact i4 p hp
          · rw [uf _ (by omega)]; exact i5.1
          · rw [uf _ (by omega)]; exact i5.2.1
          · rw [uf _ (by omega)]; exact i5.2.2
          · rw [mj 5 (by omega) (by omega)]; exact ⟨by decide, by decide⟩
          · rw [uf _ (by omega), uf _ (by omega)]; exact (i3 p hp r hr).2
          · rw [mz p 2 hp (by unfold fxW; omega), mz p 3 hp (by unfold fxW; omega)]
            exact ⟨rfl, rfl⟩
          · rw [mz p 3 hp (by unfold fxW; omega)]; exact ⟨by decide, by decide⟩
          · rw [mz p 5 hp (by unfold fxW; omega)]; exact ⟨⟨by decide, by decide⟩, fun _ => rfl⟩
          · have : cn (dL (υ.1 323)) (pe μ) = cn (fun _ => false) (pe μ) := cn_congr _ (fun j hj => dl0 j (by omega))
            rw [this]
            have z : ∀ n, cn (fun _ => false) n = 0 := fun n => by
              induction n with
              | zero => rfl
              | succ n ih => simp [cn, ih]
            rw [z]
            omega
        have u : xRk υ (rm μ) (pe μ) (pn μ) := by
          refine ⟨⟨⟨a1, a2⟩, ⟨?_, ?_⟩, fun r hr => ?_, fun p hp => ?_⟩, ⟨⟨⟨?_, ?_, ?_, ?_, ?_, ?_⟩, fun j hj => ?_, fun p hp => ⟨?_, ?_, ?_, ?_, ?_, ?_⟩, fun p hp => ⟨?_, fun r hr => ?_⟩⟩, ds, ⟨⟨0, ?_, by omega, fun i hi => ?_⟩, fun k hk => ?_⟩⟩, ⟨⟨?_, ?_, C1⟩, ⟨ρo, fun i hi => ?_, fun i j hi hj => ?_⟩, fun k hk => ⟨?_, ?_, ?_⟩⟩, ?_, ⟨?_, ⟨0, by omega, ?_, ?_⟩, fun j hj => ?_⟩, ?_, ?_, Or.inl ?_⟩
          · rw [w2, r43]; exact a3
          · rw [w3, r44]; exact a5
          · have : r < roL 1 := by unfold roL; rw [if_pos rfl]; omega
            rw [lo _ _ (by omega), w6 r hr, show ρ.1 348 r = μ 348 r from g8 348 r rfl]
            exact (f1 1 (by omega) (by omega) r this).trans (a7 r hr)
          · have : p < roL 2 := by unfold roL; rw [if_neg (by omega), if_pos rfl]; omega
            rw [lo _ _ (by omega), w7 p hp, show ρ.1 349 p = μ 349 p from g8 349 p rfl]
            exact (f1 2 (by omega) (by omega) p this).trans (a8 p hp)
          · rw [lo _ _ (by omega), f3 0 (by omega)]; exact a4
          · rw [lo _ _ (by omega), f3 1 (by omega)]; exact a6
          · rw [lo _ _ (by omega), f3 2 (by omega)]; exact v3
          · rw [lo _ _ (by omega), f3 3 (by omega)]; exact v4
          · rw [lo _ _ (by omega), f3 4 (by omega), e1 4 (by omega) (by omega), mj 6 (by omega) (by omega)]
          · rw [lo _ _ (by omega), f3 5 (by omega), e1 5 (by omega) (by omega), mj 5 (by omega) (by omega)]
          · rw [lo _ _ (by omega), f4 1 (by omega) (by omega) (by omega) j (by unfold fLn; rw [if_pos rfl]; exact hj)]
            exact v0 j hj
          · rw [z0 2 p (by omega) hp, emz 2 p (by omega) (by omega), mz p 0 hp (by unfold fxW; omega)]; rfl
          · rw [z0 15 p (by omega) hp, em15, mz p 2 hp (by unfold fxW; omega)]; rfl
          · rw [z0 16 p (by omega) hp, emz 16 p (by omega) (by omega), mz p 3 hp (by unfold fxW; omega)]; rfl
          · rw [z0 17 p (by omega) hp, emz 17 p (by omega) (by omega), mz p 4 hp (by unfold fxW; omega)]; rfl
          · rw [z0 18 p (by omega) hp, emz 18 p (by omega) (by omega), mz p 5 hp (by unfold fxW; omega)]; rfl
          · rw [z0 19 p (by omega) hp, emz 19 p (by omega) (by omega), mz p 6 hp (by unfold fxW; omega)]; rfl
          · rw [lo _ _ (by omega), f4 3 (by omega) (by omega) (by omega) p (by unfold fLn; rw [if_neg (by omega), if_neg (by omega)]; omega), uf _ (by omega)]
            exact b1 p hp
          · rw [lo _ _ (by omega), f4 (5 + p) (by omega) (by omega) (by omega) r (by unfold fLn; rw [if_neg (by omega), if_pos (by omega)]; omega)]
            unfold wR
            rw [uf _ (by omega), uf _ (by omega), show 4 + (5 + p) = 9 + p by omega]
            exact b2 p r hp hr
          · rw [lo _ _ (by omega), f3 6 (by omega), e1 6 (by omega) (by omega)]; rfl
          · have mo := mon (ρo i) (o1 i hi).1
            have e35 : υ.1 35 i = υ.1 328 (ρo i) := by rw [(clp i hi).2.1, (o1 i hi).2.2.1, (pl _ (o1 i hi).1).2.1]
            rw [e35, mj 5 (by omega) (by omega)]
            exact ⟨fun z => by omega, fun z => by grind⟩
          · rw [mj 7 (by omega) (by omega), mj 5 (by omega) (by omega)]
            have mo := mon k hk
            have z : bt 0 k := by
              have : k < 31 := by omega
              unfold bt
              rw [gb_1 _ this]
              simp
            exact ⟨fun _ w => by grind, fun _ => z⟩
          · rw [lo _ _ (by omega), f2]; exact C3
          · rw [w4, r45]; exact C2
          · obtain ⟨q0, q1, q2, q3⟩ := o1 i hi
            obtain ⟨p1, p2, p3⟩ := clp i hi
            obtain ⟨s1, s2, s3⟩ := pl _ q0
            rw [p1, p2, p3, q1, q2, q3, s1, s2, s3]
            exact ⟨q0, rfl, rfl, rfl⟩
          · rw [(pl _ (o1 i (by omega)).1).2.1, (pl _ (o1 j hj).1).2.1]
            exact o2 i j hi hj
          · rw [(pl k hk).1]; exact (k4 k hk).1
          · rw [(pl k hk).2.1]; exact (k4 k hk).2.1
          · rw [(pl k hk).2.2]; exact (k4 k hk).2.2
          · obtain ⟨h0, c0, ⟨hb, cb⟩, hN, hC, h1, -⟩ := xv_his h
            refine ⟨h0, 0, ⟨hb, by omega⟩, ⟨?_, ?_, ?_⟩, fun k hk => by omega⟩
            · rw [lo _ _ (by omega), ld_o l4 (by omega)]; exact h1
            · rw [lo _ _ (by omega)]; exact l9
            · exact w5
          · funext j
            rw [lo _ _ (by omega), t3e, lt_o g9 (by omega), lm_o g4 (by omega), q346, t1]
          · rw [lo _ _ (by omega)]; exact l5
          · rw [lt_o g9 (by omega)]; exact g5
          · rw [lt_o g9 (by omega), lm_o g4 (by omega), q346]; exact t7 j hj
          · obtain ⟨s, s1, s2, s3, s4⟩ := xv_page h
            refine ⟨s, s1, ?_, ?_, fun j hj => ?_⟩
            · rw [lo _ _ (by omega), fr.1 _ _ (by omega)]; exact s2
            · rw [lt_o g9 (by omega), lm_o g4 (by omega), q 322 (by omega)]; exact s3
            · rw [lo _ _ (by omega), fr.1 _ _ (by omega), lt_o g9 (by omega), lm_o g4 (by omega), q 351 (by omega)]; exact s4 j hj
          · rw [lo _ _ (by omega), lt_o g9 (by omega), l3, g6]
          · rw [lo _ _ (by omega)]; exact la
        exact xc_fin u l1 g3 rfl
