/-! the law's text read, whole -/
section NL9
variable {b : Nat → Int32} {len : Nat} {f : Nat → Nat}
theorem pt_step {fu c s s' : Nat} {μ μ' : pM} (h : ¬ kn b len s = 0) (h2 : pStmt b len s μ = .inr (s', μ')) : pText b len (fu + 1) c s μ = pText b len fu (c + 1) s' μ' := by
  simp only [pText]
  rw [if_neg h, h2]
theorem nm_ne {i j : Nat} (hi : i < 26) (hj : j < 26) (h : i ≠ j) : ¬ nI (i * 33554432) = nI (j * 33554432) := fun z => by
  have := (nI_eq (a := i * 33554432) (b := j * 33554432) (by omega) (by omega)).mp z
  omega
def rI9 (i : Nat) (μ : pM) : Prop := (μ 322 43 = nI i ∧ μ 322 44 = 0 ∧ μ 322 45 = 0 ∧ μ 322 49 = 0) ∧ (∀ j, j < 208 → μ 347 j = bgR j) ∧ ∀ r, r < i → μ 348 r = nI ((97 + r - 96) * 33554432)
theorem rd_rooms (h : tfx b len f) {M : Nat} (hM : M ≤ 4) (hl : 7 * M ≤ len) (hA : ∀ j, j < 7 * M → f j = rmsT (stN 16) 0 M j) (hn : nb f len (7 * M)) : ∀ (d i fu : Nat) (μ : pM), i + d = M → rI9 i μ → ∃ μ', rI9 M μ' ∧ pText b len (fu + d) i (7 * i) μ = pText b len fu M (7 * M) μ' := by
  intro d
  induction d with
  | zero =>
    intro i fu μ hi hI
    obtain rfl : i = M := by omega
    exact ⟨μ, hI, rfl⟩
  | succ d ih =>
    intro i fu μ hi hI
    obtain ⟨⟨i1, i2, i3, i4⟩, i5, i6⟩ := id hI
    obtain ⟨a1, a2, a3⟩ := rms_at (f := stN 16) (w := 0) (M := M) (i := i) (by omega)
    rw [Nat.zero_add] at a1 a2 a3
    have rmi : rm μ = i := by
      unfold rm
      rw [i1, nI_clamp (by omega)]
    have pe0 : pe μ = 0 := by
      unfold pe
      rw [i2]
      rfl
    obtain ⟨s1, s2⟩ := st_room h (s := 7 * i) (c := 97 + i) (μ := μ) (by omega) (fun j hj => by rw [hA _ (by omega)]; exact a1 j hj) (by rw [hA _ (by omega)]; exact a2) (by omega) (by rw [hA _ (by omega)]; exact a3) (by
      by_cases c : i + 1 < M
      · obtain ⟨b1, -, -⟩ := rms_at (f := stN 16) (w := 0) (M := M) (i := i + 1) c
        rw [Nat.zero_add] at b1
        have b2 := b1 0 (by omega)
        rw [Nat.add_zero] at b2
        refine not_blank ⟨2, by omega, ?_⟩
        rw [show 7 * i + 7 = 7 * (i + 1) by omega, hA _ (by omega), b2]
        decide +kernel
      · rw [show 7 * i + 7 = 7 * M by omega]
        exact hn) pe0 (by omega) (fun r hr => by
        rw [rmi] at hr
        rw [i6 r hr]
        exact nm_ne (by omega) (by omega) (by omega))
    rw [rmi] at s2
    obtain ⟨μ', m1, m2⟩ := ih (i + 1) fu (u1 (u1 μ 348 i (nI ((97 + i - 96) * 33554432))) 322 43 (nI (i + 1))) (by omega) ⟨⟨u1_eq, by rw [u1_ne (by omega), u1_ne (by omega)]; exact i2, by rw [u1_ne (by omega), u1_ne (by omega)]; exact i3, by rw [u1_ne (by omega), u1_ne (by omega)]; exact i4⟩, fun j hj => by rw [u1_ne (by omega), u1_ne (by omega)]; exact i5 j hj, fun r hr => by
      rw [u1_ne (by omega)]
      by_cases c : r = i
      · rw [c, u1_eq]
      · rw [u1_ne (fun z => c z.2)]
        exact i6 r (by omega)⟩
    refine ⟨μ', m1, ?_⟩
    rw [show fu + (d + 1) = fu + d + 1 by omega, pt_step s1 s2, show 7 * i + 7 = 7 * (i + 1) by omega]
    exact m2
theorem lwF_0 {ys : Nat → Int32} {M j : Nat} : lwF ys M 0 0 0 j = bgR j := by
  unfold lwF bgR
  by_cases c0 : j = 0
  · rw [if_pos c0, if_pos c0]
  rw [if_neg c0, if_neg c0]
  by_cases c3 : j = 3
  · subst c3; rfl
  rw [if_neg c3]
  by_cases c4 : j = 4
  · subst c4; rfl
  rw [if_neg c4]
  by_cases c8 : 8 ≤ j
  · rw [if_pos c8]
    by_cases c2 : (j - 8) % 20 = 2
    · rw [if_pos c2, if_pos ⟨c8, c2⟩]
    · rw [if_neg c2, if_neg (by omega), if_neg (fun z => c2 z.2)]
  · rw [if_neg c8, if_neg (fun z => c8 z.1)]
theorem lwF_s {ys : Nat → Int32} {M P j : Nat} (h : ¬ (j = 8 + 20 * P + 1 ∨ ∃ r', r' < M ∧ (j = 8 + 20 * P + (7 + r') ∨ j = 8 + 20 * P + (13 + r')))) (hM : M ≤ 4) : lwF ys M (P + 1) 0 0 j = lwF ys M P 0 0 j := by
  by_cases c8 : 8 ≤ j
  · obtain ⟨p, w, hw, rfl⟩ : ∃ p w, w < 20 ∧ j = 8 + 20 * p + w := ⟨(j - 8) / 20, (j - 8) % 20, by omega, by omega⟩
    rw [lwF_at hw, lwF_at hw]
    by_cases c2 : w = 2
    · rw [if_pos c2, if_pos c2]
    · rw [if_neg c2, if_neg c2]
      by_cases cP : p < P
      · rw [if_pos cP, if_pos (by omega)]
      · rw [if_neg cP]
        by_cases ce : p = P
        · subst ce
          rw [if_pos (by omega), if_neg (fun z => h (Or.inl (by omega))), if_neg (fun z => h (Or.inr ⟨w - 7, by omega, Or.inl (by omega)⟩)), if_neg (fun z => h (Or.inr ⟨w - 13, by omega, Or.inr (by omega)⟩))]
        · rw [if_neg (by omega)]
  · unfold lwF
    rw [if_neg c8, if_neg c8]
def pI9 (ys : Nat → Int32) (M i : Nat) (μ : pM) : Prop := (μ 322 43 = nI M ∧ μ 322 44 = nI i ∧ μ 322 45 = 0 ∧ μ 322 49 = 0) ∧ (∀ j, j < 208 → μ 347 j = lwF ys M i 0 0 j) ∧ ∀ p, p < i → μ 349 p = nI ((112 + p - 96) * 33554432)
theorem rd_pers (h : tfx b len f) {ys : Nat → Int32} {M N w : Nat} (hM : 1 ≤ M ∧ M ≤ 4) (hN : N ≤ 5) (hl : w + psN ys M N ≤ len) (hA : ∀ i, i < N → peAt f (w + psN ys M i) i (ys i) M) (hn : nb f len (w + psN ys M N)) : ∀ (d i fu c : Nat) (μ : pM), i + d = N → pI9 ys M i μ → ∃ μ', pI9 ys M N μ' ∧ pText b len (fu + d) c (w + psN ys M i) μ = pText b len fu (c + d) (w + psN ys M N) μ' := by
  intro d
  induction d with
  | zero =>
    intro i fu c μ hi hI
    obtain rfl : i = N := by omega
    exact ⟨μ, hI, rfl⟩
  | succ d ih =>
    intro i fu c μ hi hI
    obtain ⟨⟨i1, i2, i3, i4⟩, i5, i6⟩ := id hI
    obtain ⟨a1, a2, a3, a4, a5, a6⟩ := hA i (by omega)
    have eN : psN ys M (i + 1) = psN ys M i + 7 + 1 + 1 + sb_dg (icX (ys i)) + vsN (ys i) M + 1 := rfl
    have hm := psN_mo ys M (i + 1) d
    rw [show i + 1 + d = N by omega] at hm
    have rmi : rm μ = M := by
      unfold rm
      rw [i1, nI_clamp (by omega)]
    have pei : pe μ = i := by
      unfold pe
      rw [i2, nI_clamp (by omega)]
    have hv := icX_lt (ys i)
    have es : w + psN ys M i + 9 + sb_dg (icX (ys i)) + vsN (ys i) M + 1 = w + psN ys M (i + 1) := by omega
    obtain ⟨s1, μ1, s2, ⟨t1, t2, t3⟩, t4, t5⟩ := st_pers h (s := w + psN ys M i) (c := 112 + i) (v := icX (ys i)) (y := ys i) (μ := μ) a1 a2 (by omega) a3 (by omega) a4 rfl a5 a6 (by omega) (by
      rw [es]
      by_cases c9 : i + 1 < N
      · have b1 := (hA (i + 1) c9).1 0 (by omega)
        rw [Nat.add_zero] at b1
        refine not_blank ⟨2, by omega, ?_⟩
        rw [b1]
        decide +kernel
      · rw [show i + 1 = N by omega]
        exact hn) hM rmi pei (by omega) (fun p hp => by
        rw [i6 p hp]
        exact nm_ne (by omega) (by omega) (by omega)) (fun r hr => by
        rw [i5 _ (by omega), lwF_at (by omega), if_neg (by omega), if_neg (by omega)])
    rw [es] at s2
    have hI2 : pI9 ys M (i + 1) μ1 := by
      refine ⟨⟨by rw [t4 _ _ (by omega) (by omega) (by omega)]; exact i1, t1, by rw [t4 _ _ (by omega) (by omega) (by omega)]; exact i3, by rw [t4 _ _ (by omega) (by omega) (by omega)]; exact i4⟩, fun j hj => ?_, fun p hp => ?_⟩
      · by_cases c1 : j = 8 + 20 * i + 1 ∨ ∃ r', r' < M ∧ (j = 8 + 20 * i + (7 + r') ∨ j = 8 + 20 * i + (13 + r'))
        · rcases c1 with rfl | ⟨r', x1, rfl | rfl⟩
          · rw [t3, lwF_at (by omega), if_neg (by omega), if_pos (by omega), if_pos rfl]
          · rw [(t5 r' x1).1, (lwF_v (by omega) x1 hM.2).1]
          · rw [(t5 r' x1).2, (lwF_v (by omega) x1 hM.2).2]
        · rw [t4 347 j (fun z => c1 z.2) (by omega) (by omega), lwF_s c1 hM.2]
          exact i5 j hj
      · by_cases c1 : p = i
        · rw [c1]
          exact t2
        · rw [t4 349 p (by omega) (fun z => c1 z.2) (by omega)]
          exact i6 p (by omega)
    obtain ⟨μ', m1, m2⟩ := ih (i + 1) fu (c + 1) μ1 (by omega) hI2
    refine ⟨μ', m1, ?_⟩
    rw [show fu + (d + 1) = fu + d + 1 by omega, pt_step s1 s2, show c + (d + 1) = c + 1 + d by omega]
    exact m2
def kI9 (ys : Nat → Int32) (M N a9 b9 : Nat) (x : Int32) (K i : Nat) (μ : pM) : Prop := (μ 322 43 = nI M ∧ μ 322 44 = nI N ∧ μ 322 45 = nI i) ∧ (∀ j, j < 208 → μ 347 j = lwF ys M N a9 b9 j) ∧ (∀ p, p < N → μ 349 p = nI ((112 + p - 96) * 33554432)) ∧ ∀ k, k < i → μ 350 (3 * k) = nI (pnP x N (K - k)) ∧ μ 350 (3 * k + 1) = nI (pnM x (K - k)) ∧ μ 350 (3 * k + 2) = nI (pnI x (K - k))
theorem rd_plans (h : tfx b len f) {ys : Nat → Int32} {M N K w a9 b9 : Nat} {x : Int32} (hM : M ≤ 4) (hN : 1 ≤ N ∧ N ≤ 5) (hK : K ≤ 2) (hl : w + pnN x K K ≤ len) (hA : ∀ i, i < K → plAt f (w + pnN x K i) (pnP x N (K - i)) (pnM x (K - i)) (pnI x (K - i))) (hn : nb f len (w + pnN x K K)) : ∀ (d i fu c : Nat) (μ : pM), i + d = K → kI9 ys M N a9 b9 x K i μ → ∃ μ', kI9 ys M N a9 b9 x K K μ' ∧ pText b len (fu + d) c (w + pnN x K i) μ = pText b len fu (c + d) (w + pnN x K K) μ' := by
  intro d
  induction d with
  | zero =>
    intro i fu c μ hi hI
    obtain rfl : i = K := by omega
    exact ⟨μ, hI, rfl⟩
  | succ d ih =>
    intro i fu c μ hi hI
    obtain ⟨⟨i1, i2, i3⟩, i5, i6, i7⟩ := id hI
    obtain ⟨a1, a2, a3, a4, a5, a6, a7⟩ := hA i (by omega)
    have eN : pnN x K (i + 1) = pnN x K i + 5 + 1 + 1 + sb_dg (pnM x (K - i)) + 1 + sb_dg (pnI x (K - i)) + 1 := rfl
    have hm := pnN_mo x K (i + 1) d
    rw [show i + 1 + d = K by omega] at hm
    have pei : pe μ = N := by
      unfold pe
      rw [i2, nI_clamp (by omega)]
    have pni : pn μ = i := by
      unfold pn
      rw [i3, nI_clamp (by omega)]
    have v1 : pnP x N (K - i) < N := md_lt _ (by omega)
    have v2 : pnM x (K - i) < 6 := md_lt _ (by omega)
    have v3 : pnI x (K - i) < 2500 := md_lt _ (by omega)
    have es : w + pnN x K i + 7 + sb_dg (pnM x (K - i)) + 1 + sb_dg (pnI x (K - i)) + 1 = w + pnN x K (i + 1) := by omega
    obtain ⟨s1, s2⟩ := st_plan h (s := w + pnN x K i) (c := 112 + pnP x N (K - i)) (m := pnM x (K - i)) (v := pnI x (K - i)) (P := pnP x N (K - i)) (N := N) (k := i) (μ := μ) a1 a2 (by omega) a3 (by omega) (by omega) a4 a5 a6 a7 (by omega) (by
      rw [es]
      by_cases c9 : i + 1 < K
      · have b1 := (hA (i + 1) c9).1 0 (by omega)
        rw [Nat.add_zero] at b1
        refine not_blank ⟨2, by omega, ?_⟩
        rw [b1]
        decide +kernel
      · rw [show i + 1 = K by omega]
        exact hn) pei pni (by omega) v1 (i6 _ v1) (fun q hq hq2 => by
        rw [i6 q hq]
        exact nm_ne (by omega) (by omega) (by omega))
    rw [es] at s2
    have hI2 : kI9 ys M N a9 b9 x K (i + 1) (u1 (u1 (u1 (u1 μ 350 (3 * i) (nI (pnP x N (K - i)))) 350 (3 * i + 1) (nI (pnM x (K - i)))) 350 (3 * i + 2) (nI (pnI x (K - i)))) 322 45 (nI (i + 1))) := by
      refine ⟨⟨by rw [u1_ne (by omega), u1_ne (by omega), u1_ne (by omega), u1_ne (by omega)]; exact i1, by rw [u1_ne (by omega), u1_ne (by omega), u1_ne (by omega), u1_ne (by omega)]; exact i2, u1_eq⟩, fun j hj => by rw [u1_ne (by omega), u1_ne (by omega), u1_ne (by omega), u1_ne (by omega)]; exact i5 j hj, fun p hp => by rw [u1_ne (by omega), u1_ne (by omega), u1_ne (by omega), u1_ne (by omega)]; exact i6 p hp, fun k hk => ?_⟩
      · by_cases c1 : k = i
        · subst c1
          refine ⟨?_, ?_, ?_⟩
          · rw [u1_ne (by omega), u1_ne (by omega), u1_ne (by omega), u1_eq]
          · rw [u1_ne (by omega), u1_ne (by omega), u1_eq]
          · rw [u1_ne (by omega), u1_eq]
        · obtain ⟨y1, y2, y3⟩ := i7 k (by omega)
          refine ⟨?_, ?_, ?_⟩
          · rw [u1_ne (by omega), u1_ne (by omega), u1_ne (by omega), u1_ne (by omega)]
            exact y1
          · rw [u1_ne (by omega), u1_ne (by omega), u1_ne (by omega), u1_ne (by omega)]
            exact y2
          · rw [u1_ne (by omega), u1_ne (by omega), u1_ne (by omega), u1_ne (by omega)]
            exact y3
    obtain ⟨μ', m1, m2⟩ := ih (i + 1) fu (c + 1) _ (by omega) hI2
    refine ⟨μ', m1, ?_⟩
    rw [show fu + (d + 1) = fu + d + 1 by omega, pt_step s1 s2, show c + (d + 1) = c + 1 + d by omega]
    exact m2
end NL9
