/-! the law's text is read to its end -/
theorem rd_law {ys : Nat → Int32} {M N K a b : Nat} {x : Int32} (hM : 1 ≤ M ∧ M ≤ 4) (hN : 1 ≤ N ∧ N ≤ 5) (ha : a < 1800) (hb : b < 2500) (hK : K ≤ 2) : rdOk (lwD ys M N a b x K) (lwDn ys M N a b x K) (2 + M + N + K) M N K (lwF ys M N a b) (fun w k => if w = 0 then nI (pnP x N (K - k)) else if w = 1 then nI (pnM x (K - k)) else nI (pnI x (K - k))) := by
  intro T9 h μ0 hrow hin
  obtain ⟨len, el⟩ : ∃ len, len = lwDn ys M N a b x K := ⟨_, rfl⟩
  obtain ⟨u, eu⟩ : ∃ u, u = 0 + 7 * M + psN ys M N := ⟨_, rfl⟩
  obtain ⟨f, ef⟩ : ∃ f, f = lwD ys M N a b x K := ⟨_, rfl⟩
  rw [← el, ← ef] at h
  rw [← el]
  have hda := sbdg4 (v := a) (by omega)
  have hdb := sbdg4 (v := b) (by omega)
  have eC : lwCn ys M N a b = u + 6 + sb_dg a + 9 + sb_dg b + 1 := by
    rw [eu]
    rfl
  have eD : len = lwCn ys M N a b + pnN x K K := el
  have hx : tfx T9 len f := h
  have f1 : ∀ j, j < lwCn ys M N a b → f j = lwC ys M N a b j := fun j hj => by
    rw [ef]
    exact pn_lo hj
  have f2 : ∀ j, j < u → f j = lwB ys M N j := fun j hj => by
    rw [f1 j (by omega)]
    unfold lwC
    exact leT_lo (by omega)
  have f3 : ∀ j, j < 7 * M → f j = rmsT (stN 16) 0 M j := fun j hj => by
    rw [f2 j (by omega)]
    unfold lwB
    exact ps_lo (by omega)
  have pA : ∀ i, i < N → peAt f (7 * M + psN ys M i) i (ys i) M := fun i hi => by
    have e0 := ps_at (f := lwA M) (w := 0 + 7 * M) (ys := ys) (M := M) hi
    rw [Nat.zero_add] at e0
    have m := psN_mo ys M (i + 1) (N - (i + 1))
    rw [show i + 1 + (N - (i + 1)) = N by omega] at m
    have eN : psN ys M (i + 1) = psN ys M i + 7 + 1 + 1 + sb_dg (icX (ys i)) + vsN (ys i) M + 1 := rfl
    refine peAt_cg (fun j hj => ?_) e0
    rw [f2 j (by omega)]
    unfold lwB
    rw [Nat.zero_add]
  obtain ⟨l1, l2, l3, l4, l5⟩ := leT_at (f := lwB ys M N) (w := u) (a := a) (b := b)
  have fL : ∀ j, j < u + 6 + sb_dg a + 9 + sb_dg b + 1 → f j = leT (lwB ys M N) u a b j := fun j hj => by
    rw [f1 j (by omega), eu]
    rfl
  have gp : ∀ i, i < K → plAt f (lwCn ys M N a b + pnN x K i) (pnP x N (K - i)) (pnM x (K - i)) (pnI x (K - i)) := fun i hi => by
    rw [ef]
    exact pn_at hi
  have n1 : nb f len (7 * M) := by
    have b1 := (pA 0 (by omega)).1 0 (by omega)
    have b2 : f (7 * M) = stN 19 0 := b1
    refine not_blank ⟨2, by omega, ?_⟩
    rw [b2]
    decide +kernel
  have n2 : nb f len (7 * M + psN ys M N) := by
    have b1 := l1 0 (by omega)
    rw [Nat.add_zero] at b1
    refine not_blank ⟨2, by omega, ?_⟩
    rw [show 7 * M + psN ys M N = u by omega, fL u (by omega), b1]
    decide +kernel
  have n4 : nb f len (lwCn ys M N a b) := by
    by_cases c : 0 < K
    · have b1 := (gp 0 c).1 0 (by omega)
      have b2 : f (lwCn ys M N a b) = stN 24 0 := b1
      refine not_blank ⟨2, by omega, ?_⟩
      rw [b2]
      decide +kernel
    · intro z
      obtain rfl : K = 0 := by omega
      have : pnN x 0 0 = 0 := rfl
      omega
  -- lease
  obtain ⟨w1, w2⟩ := sgW (f := f) (s := u) (i := 22) (l := wLease) (fun j hj => by
    have hj : j < 6 := hj
    rw [fL _ (by omega)]
    exact l1 j hj) (by decide +kernel) (by decide +kernel)
  have d0 : f (u + 6 + sb_dg a) = 59 := by
    have b1 := l3 0 (by omega)
    rw [Nat.add_zero] at b1
    rw [fL _ (by omega), b1]
    decide +kernel
  have d1 : ∀ j, j < 7 → f (u + 6 + sb_dg a + 1 + j) = 96 + wDeposit.getD j 0 := fun j hj => by
    have b1 := l3 (1 + j) (by omega)
    rw [show u + 6 + sb_dg a + 1 + j = u + 6 + sb_dg a + (1 + j) by omega, fL _ (by omega), b1]
    have key : ∀ j, j < 7 → stN 23 (1 + j) = 96 + wDeposit.getD j 0 := by decide +kernel
    exact key j hj
  have d8 : f (u + 6 + sb_dg a + 1 + 7) = 32 := by
    have b1 := l3 8 (by omega)
    rw [show u + 6 + sb_dg a + 1 + 7 = u + 6 + sb_dg a + 8 by omega, fL _ (by omega), b1]
    decide +kernel
  have m0 : rI9 0 μ0 := ⟨hin.1, hrow, fun r hr => by omega⟩
  obtain ⟨z, ez⟩ : ∃ z, len + 1 = z + 1 + K + 1 + 1 + N + M := ⟨len - (K + 2 + N + M), by omega⟩
  obtain ⟨μ1, r1, r2⟩ := rd_rooms hx hM.2 (by omega) f3 n1 M 0 (z + 1 + K + 1 + 1 + N) μ0 (by omega) m0
  have m1 : pI9 ys M 0 μ1 := ⟨⟨r1.1.1, by rw [r1.1.2.1]; rfl, r1.1.2.2.1, r1.1.2.2.2⟩, fun j hj => by rw [lwF_0]; exact r1.2.1 j hj, fun p hp => by omega⟩
  obtain ⟨μ2, s1, s2⟩ := rd_pers hx hM hN.2 (by omega) pA n2 N 0 (z + 1 + K + 1 + 1) M μ1 (by omega) m1
  obtain ⟨t1, t2⟩ := st_once hx (s := u) (v := a) (k := 3) (n := 5) (i := 22) (l := wLease) (μ := μ2) (Or.inl ⟨rfl, rfl, rfl, rfl, rfl⟩) ⟨w1, w2⟩ (by omega) (fun i hi => by
    rw [show u + 5 + 1 + i = u + 6 + i by omega, fL _ (by omega)]
    exact l2 i hi) (by rw [show u + 5 + 1 + sb_dg a = u + 6 + sb_dg a by omega]; exact d0) (by omega) (not_blank ⟨2, by omega, by
    have b1 := d1 0 (by omega)
    rw [Nat.add_zero] at b1
    rw [show u + 5 + 1 + sb_dg a + 1 = u + 6 + sb_dg a + 1 by omega, b1]
    decide⟩) s1.1.2.2.2
  rw [if_pos rfl, show u + 5 + 1 + sb_dg a + 1 = u + 6 + sb_dg a + 1 by omega] at t2
  obtain ⟨μ3, e3⟩ : ∃ μ3, μ3 = u1 (u1 μ2 322 49 8) 347 3 (nI a) := ⟨_, rfl⟩
  rw [← e3] at t2
  obtain ⟨v1, v2⟩ := st_once hx (s := u + 6 + sb_dg a + 1) (v := b) (k := 4) (n := 7) (i := 0) (l := wDeposit) (μ := μ3) (Or.inr ⟨rfl, rfl, rfl, rfl⟩) ⟨d1, d8⟩ (by omega) (fun i hi => by
    rw [show u + 6 + sb_dg a + 1 + 7 + 1 + i = u + 6 + sb_dg a + 9 + i by omega, fL _ (by omega)]
    exact l4 i hi) (by rw [show u + 6 + sb_dg a + 1 + 7 + 1 + sb_dg b = u + 6 + sb_dg a + 9 + sb_dg b by omega, fL _ (by omega)]; exact l5) (by omega) (by rw [show u + 6 + sb_dg a + 1 + 7 + 1 + sb_dg b + 1 = lwCn ys M N a b by omega]; exact n4) (by rw [e3, u1_ne (by omega), u1_eq])
  rw [if_neg (by omega), show u + 6 + sb_dg a + 1 + 7 + 1 + sb_dg b + 1 = lwCn ys M N a b by omega] at v2
  obtain ⟨μ4, e4⟩ : ∃ μ4, μ4 = u1 (u1 μ3 322 49 24) 347 4 (nI b) := ⟨_, rfl⟩
  rw [← e4] at v2
  have q4 : ∀ p j, ¬ (p = 322 ∧ j = 49) → ¬ (p = 347 ∧ (j = 3 ∨ j = 4)) → μ4 p j = μ2 p j := fun p j y1 y2 => by
    rw [e4, e3, u1_ne (by omega), u1_ne y1, u1_ne (by omega), u1_ne y1]
  have m4 : kI9 ys M N a b x K 0 μ4 := by
    refine ⟨⟨by rw [q4 _ _ (by omega) (by omega)]; exact s1.1.1, by rw [q4 _ _ (by omega) (by omega)]; exact s1.1.2.1, by rw [q4 _ _ (by omega) (by omega)]; exact s1.1.2.2.1⟩, fun j hj => ?_, fun p hp => by rw [q4 _ _ (by omega) (by omega)]; exact s1.2.2 p hp, fun k hk => by omega⟩
    by_cases c4 : j = 4
    · rw [c4, e4, u1_eq]
      rfl
    · by_cases c3 : j = 3
      · rw [c3, e4, u1_ne (by omega), u1_ne (by omega), e3, u1_eq]
        rfl
      · rw [q4 _ _ (by omega) (by omega), s1.2.1 j hj]
        unfold lwF
        rw [if_neg c3, if_neg c3, if_neg c4, if_neg c4]
  obtain ⟨μ5, k1, k2⟩ := rd_plans hx hM.2 hN hK (by omega) gp (fun y => by omega) K 0 (z + 1) (M + N + 1 + 1) μ4 (by omega) m4
  refine ⟨μ5, ?_, ⟨k1.1.1, k1.1.2.1, k1.1.2.2⟩, ⟨by omega, by omega, by omega⟩, k1.2.1, fun k hk => ?_⟩
  · unfold pLoad
    have b0 : rn T9 len 1 0 = 0 := rn_stop (kn_nb hx (by
      have b1 := (rms_at (f := stN 16) (w := 0) (M := M) (i := 0) (by omega)).1 0 (by omega)
      have b2 : rmsT (stN 16) 0 M 0 = stN 17 0 := b1
      refine not_blank ⟨2, by omega, ?_⟩
      rw [f3 0 (by omega), b2]
      decide +kernel))
    rw [b0, ez]
    have r2 : pText T9 len (z + 1 + K + 1 + 1 + N + M) 0 0 μ0 = pText T9 len (z + 1 + K + 1 + 1 + N) M (7 * M) μ1 := r2
    rw [r2]
    have s2 : pText T9 len (z + 1 + K + 1 + 1 + N) M (7 * M) μ1 = pText T9 len (z + 1 + K + 1 + 1) (M + N) (7 * M + psN ys M N) μ2 := s2
    rw [s2, show 7 * M + psN ys M N = u by omega, pt_step t1 t2, pt_step v1 v2]
    have k2 : pText T9 len (z + 1 + K) (M + N + 1 + 1) (lwCn ys M N a b) μ4 = pText T9 len (z + 1) (M + N + 1 + 1 + K) (lwCn ys M N a b + pnN x K K) μ5 := k2
    rw [k2, ← eD]
    simp only [pText]
    rw [if_pos (kn_out (Nat.le_refl _)), show M + N + 1 + 1 + K = 2 + M + N + K by omega]
  · obtain ⟨y1, y2, y3⟩ := k1.2.2.2 k hk
    exact ⟨y1, y2, y3⟩
