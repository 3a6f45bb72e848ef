/-! what the law's text says at its places -/
theorem tc_lo {f g : Nat → Nat} {n j : Nat} (h : j < n) : tcat f n g j = f j := if_pos h
theorem tc_hi {f g : Nat → Nat} {n j : Nat} : tcat f n g (n + j) = g j := by
  unfold tcat
  rw [if_neg (by omega), show n + j - n = j by omega]
theorem tc_h0 {f g : Nat → Nat} {n : Nat} : tcat f n g n = g 0 := tc_hi (j := 0)
theorem tc_00 {f g : Nat → Nat} {j : Nat} : tcat f 0 g j = g j := by
  have := tc_hi (f := f) (g := g) (n := 0) (j := j)
  rw [Nat.zero_add] at this
  exact this
theorem stN18 : stN 18 0 = 59 := by decide +kernel
theorem stN20 : stN 20 0 = 32 := by decide +kernel
section NK9
variable {f : Nat → Nat} {w : Nat}
theorem rmT_lo {i j : Nat} (h : j < w) : rmT f w i j = f j := by
  unfold rmT
  rw [tc_lo (by omega), tc_lo (by omega), tc_lo h, tc_00]
theorem rmT_at {i : Nat} : sg (rmT f w i) w 17 5 ∧ rmT f w i (w + 5) = 97 + i ∧ rmT f w i (w + 6) = 59 := by
  unfold rmT
  refine ⟨fun j hj => ?_, ?_, ?_⟩
  · rw [tc_lo (by omega), tc_lo (by omega), tc_hi]
  · rw [tc_lo (by omega), tc_h0]
  · rw [show w + 6 = w + 5 + 1 by omega, tc_h0]
    exact stN18
theorem rms_lo {j : Nat} : ∀ M, j < w → rmsT f w M j = f j := by
  intro M
  induction M with
  | zero => intro _; rfl
  | succ M ih =>
    intro h
    show rmT (rmsT f w M) (w + 7 * M) M j = _
    rw [rmT_lo (by omega)]
    exact ih h
theorem rms_st {j : Nat} : ∀ (d M : Nat), j < w + 7 * M → rmsT f w (M + d) j = rmsT f w M j := by
  intro d
  induction d with
  | zero => intro M _; rfl
  | succ d ih =>
    intro M h
    show rmT (rmsT f w (M + d)) (w + 7 * (M + d)) (M + d) j = _
    rw [rmT_lo (by omega)]
    exact ih M h
theorem rms_at {M i : Nat} (hi : i < M) : sg (rmsT f w M) (w + 7 * i) 17 5 ∧ rmsT f w M (w + 7 * i + 5) = 97 + i ∧ rmsT f w M (w + 7 * i + 6) = 59 := by
  obtain ⟨d, rfl⟩ : ∃ d, M = i + 1 + d := ⟨M - (i + 1), by omega⟩
  obtain ⟨a1, a2, a3⟩ := rmT_at (f := rmsT f w i) (w := w + 7 * i) (i := i)
  have e : ∀ j, j < w + 7 * (i + 1) → rmsT f w (i + 1 + d) j = rmT (rmsT f w i) (w + 7 * i) i j := fun j hj => rms_st d (i + 1) hj
  exact ⟨fun j hj => by rw [e _ (by omega)]; exact a1 j hj, by rw [e _ (by omega)]; exact a2, by rw [e _ (by omega)]; exact a3⟩
theorem peT_lo {p v j : Nat} (h : j < w) : peT f w p v j = f j := by
  unfold peT
  rw [tc_lo (by omega), tc_lo (by omega), tc_lo (by omega), tc_lo h, tc_00]
theorem peT_at {p v : Nat} : sg (peT f w p v) w 19 7 ∧ peT f w p v (w + 7) = 112 + p ∧ peT f w p v (w + 8) = 32 ∧ ∀ i, peT f w p v (w + 9 + i) = sb_dec v i := by
  unfold peT
  refine ⟨fun j hj => ?_, ?_, ?_, fun i => ?_⟩
  · rw [tc_lo (by omega), tc_lo (by omega), tc_lo (by omega), tc_hi]
  · rw [tc_lo (by omega), tc_lo (by omega), tc_h0]
  · rw [tc_lo (by omega), show w + 8 = w + 7 + 1 by omega, tc_h0]
    exact stN20
  · rw [show w + 9 + i = w + 7 + 1 + 1 + i by omega, tc_hi]
theorem vaT_lo {rf : Bool} {v j : Nat} (h : j < w) : vaT f w rf v j = f j := by
  unfold vaT
  rw [tc_lo h, tc_00]
theorem vaT_at {rf : Bool} {v : Nat} : vaT f w rf v w = 32 ∧ if rf = true then vaT f w rf v (w + 1) = 110 ∧ vaT f w rf v (w + 1 + 1) = 111 else ∀ k, k < sb_dg v → vaT f w rf v (w + 1 + k) = sb_dec v k := by
  unfold vaT
  cases rf with
  | true =>
    refine ⟨?_, ?_⟩
    · rw [tc_h0, if_pos rfl]
      decide +kernel
    · rw [if_pos rfl, if_pos rfl, tc_hi, show w + 1 + 1 = w + 2 by omega, tc_hi]
      decide +kernel
  | false =>
    refine ⟨?_, ?_⟩
    · rw [tc_h0, if_neg (by decide), tc_lo (by omega), tc_00]
      exact stN20
    · rw [if_neg (by decide), if_neg (by decide)]
      intro k hk
      rw [show w + 1 + k = w + (1 + k) by omega, tc_hi, tc_hi]
theorem vs_st {y : Int32} {j : Nat} : ∀ (d M : Nat), j < w + vsN y M → vsT f w y (M + d) j = vsT f w y M j := by
  intro d
  induction d with
  | zero => intro M _; rfl
  | succ d ih =>
    intro M h
    have := vsN_mo y M d
    show vaT (vsT f w y (M + d)) (w + vsN y (M + d)) (rzX y (M + d)) (vzX y (M + d)) j = _
    rw [vaT_lo (by omega)]
    exact ih M h
theorem vs_lo {y : Int32} {j M : Nat} (h : j < w) : vsT f w y M j = f j := by
  have := vs_st (f := f) (w := w) (y := y) (j := j) M 0 (by omega)
  rw [Nat.zero_add] at this
  exact this
theorem vs_at {y : Int32} {M : Nat} : vaAt (vsT f w y M) w M y := by
  intro r hr
  obtain ⟨d, rfl⟩ : ∃ d, M = r + 1 + d := ⟨M - (r + 1), by omega⟩
  have eN : vsN y (r + 1) = vsN y r + vaN (rzX y r) (vzX y r) := rfl
  have e : ∀ j, j < w + vsN y (r + 1) → vsT f w y (r + 1 + d) j = vaT (vsT f w y r) (w + vsN y r) (rzX y r) (vzX y r) j := fun j hj => vs_st d (r + 1) hj
  obtain ⟨a1, a2⟩ := vaT_at (f := vsT f w y r) (w := w + vsN y r) (rf := rzX y r) (v := vzX y r)
  have d9 := sbdg4 (v := vzX y r) (by have := vzX_lt y r; omega)
  unfold vaN at eN
  refine ⟨?_, ?_⟩
  · rw [e _ (by by_cases c : rzX y r = true; rw [if_pos c] at eN; omega; rw [if_neg c] at eN; omega)]
    exact a1
  · by_cases c : rzX y r = true
    · rw [if_pos c] at eN a2 ⊢
      rw [e _ (by omega), e _ (by omega)]
      exact a2
    · rw [if_neg c] at eN a2 ⊢
      intro k hk
      rw [e _ (by omega)]
      exact a2 k hk
theorem endT_lo {j : Nat} (h : j < w) : endT f w j = f j := by
  unfold endT
  rw [tc_lo h, tc_00]
theorem endT_at : endT f w w = 59 := by
  unfold endT
  rw [tc_h0]
  exact stN18
/-- a person stands at s -/
def peAt (f : Nat → Nat) (s p : Nat) (y : Int32) (M : Nat) : Prop := sg f s 19 7 ∧ f (s + 7) = 112 + p ∧ f (s + 8) = 32 ∧ (∀ i, i < sb_dg (icX y) → f (s + 9 + i) = sb_dec (icX y) i) ∧ vaAt f (s + 9 + sb_dg (icX y)) M y ∧ f (s + 9 + sb_dg (icX y) + vsN y M) = 59
theorem vaAt_cg {g : Nat → Nat} {w M : Nat} {y : Int32} (e : ∀ j, j < w + vsN y M → g j = f j) (h : vaAt f w M y) : vaAt g w M y := fun r hr => by
  obtain ⟨a1, a2⟩ := h r hr
  have m := vsN_mo y (r + 1) (M - (r + 1))
  rw [show r + 1 + (M - (r + 1)) = M by omega] at m
  have eN : vsN y (r + 1) = vsN y r + vaN (rzX y r) (vzX y r) := rfl
  have d9 := sbdg4 (v := vzX y r) (by have := vzX_lt y r; omega)
  unfold vaN at eN
  by_cases c : rzX y r = true
  · rw [if_pos c] at eN a2 ⊢
    rw [e _ (by omega), e _ (by omega), e _ (by omega)]
    exact ⟨a1, a2⟩
  · rw [if_neg c] at eN a2 ⊢
    rw [e _ (by omega)]
    refine ⟨a1, fun k hk => ?_⟩
    rw [e _ (by omega)]
    exact a2 k hk
theorem peAt_cg {g : Nat → Nat} {s p M : Nat} {y : Int32} (e : ∀ j, j < s + 9 + sb_dg (icX y) + vsN y M + 1 → g j = f j) (h : peAt f s p y M) : peAt g s p y M := by
  obtain ⟨a1, a2, a3, a4, a5, a6⟩ := h
  exact ⟨fun j hj => by rw [e _ (by omega)]; exact a1 j hj, by rw [e _ (by omega)]; exact a2, by rw [e _ (by omega)]; exact a3, fun i hi => by rw [e _ (by omega)]; exact a4 i hi, vaAt_cg (fun j hj => e j (by omega)) a5, by rw [e _ (by omega)]; exact a6⟩
theorem pe_one {p M : Nat} {y : Int32} : peAt (endT (vsT (peT f w p (icX y)) (w + 7 + 1 + 1 + sb_dg (icX y)) y M) (w + 7 + 1 + 1 + sb_dg (icX y) + vsN y M)) w p y M := by
  obtain ⟨a1, a2, a3, a4⟩ := peT_at (f := f) (w := w) (p := p) (v := icX y)
  have lo : ∀ j, j < w + 9 + sb_dg (icX y) → endT (vsT (peT f w p (icX y)) (w + 7 + 1 + 1 + sb_dg (icX y)) y M) (w + 7 + 1 + 1 + sb_dg (icX y) + vsN y M) j = peT f w p (icX y) j := fun j hj => by rw [endT_lo (by omega), vs_lo (by omega)]
  refine ⟨fun j hj => by rw [lo _ (by omega)]; exact a1 j hj, by rw [lo _ (by omega)]; exact a2, by rw [lo _ (by omega)]; exact a3, fun i hi => by rw [lo _ (by omega)]; exact a4 i, ?_, ?_⟩
  · rw [show w + 9 + sb_dg (icX y) = w + 7 + 1 + 1 + sb_dg (icX y) by omega]
    exact vaAt_cg (fun j hj => endT_lo (by omega)) vs_at
  · rw [show w + 9 + sb_dg (icX y) + vsN y M = w + 7 + 1 + 1 + sb_dg (icX y) + vsN y M by omega]
    exact endT_at
theorem pe_lo {p M j : Nat} {y : Int32} (h : j < w) : endT (vsT (peT f w p (icX y)) (w + 7 + 1 + 1 + sb_dg (icX y)) y M) (w + 7 + 1 + 1 + sb_dg (icX y) + vsN y M) j = f j := by
  rw [endT_lo (by omega), vs_lo (by omega), peT_lo h]
theorem ps_st {ys : Nat → Int32} {M j : Nat} : ∀ (d N : Nat), j < w + psN ys M N → psTx f w ys M (N + d) j = psTx f w ys M N j := by
  intro d
  induction d with
  | zero => intro N _; rfl
  | succ d ih =>
    intro N h
    have := psN_mo ys M N d
    rw [← ih N h]
    exact pe_lo (w := w + psN ys M (N + d)) (by omega)
theorem ps_lo {ys : Nat → Int32} {M N j : Nat} (h : j < w) : psTx f w ys M N j = f j := by
  have := ps_st (f := f) (w := w) (ys := ys) (M := M) (j := j) N 0 (by omega)
  rw [Nat.zero_add] at this
  exact this
theorem ps_at {ys : Nat → Int32} {M N i : Nat} (hi : i < N) : peAt (psTx f w ys M N) (w + psN ys M i) i (ys i) M := by
  obtain ⟨d, rfl⟩ : ∃ d, N = i + 1 + d := ⟨N - (i + 1), by omega⟩
  have eN : psN ys M (i + 1) = psN ys M i + 7 + 1 + 1 + sb_dg (icX (ys i)) + vsN (ys i) M + 1 := rfl
  refine peAt_cg (fun j hj => ps_st d (i + 1) (by omega)) ?_
  exact pe_one (f := psTx f w ys M i) (w := w + psN ys M i)
theorem leT_lo {a b j : Nat} (h : j < w) : leT f w a b j = f j := by
  unfold leT
  rw [tc_lo (by omega), tc_lo (by omega), tc_lo (by omega), tc_lo (by omega), tc_lo h, tc_00]
theorem leT_at {a b : Nat} : sg (leT f w a b) w 22 6 ∧ (∀ i, i < sb_dg a → leT f w a b (w + 6 + i) = sb_dec a i) ∧ sg (leT f w a b) (w + 6 + sb_dg a) 23 9 ∧ (∀ i, i < sb_dg b → leT f w a b (w + 6 + sb_dg a + 9 + i) = sb_dec b i) ∧ leT f w a b (w + 6 + sb_dg a + 9 + sb_dg b) = 59 := by
  unfold leT
  refine ⟨fun j hj => ?_, fun i hi => ?_, fun j hj => ?_, fun i hi => ?_, ?_⟩
  · rw [tc_lo (by omega), tc_lo (by omega), tc_lo (by omega), tc_lo (by omega), tc_hi]
  · rw [tc_lo (by omega), tc_lo (by omega), tc_lo (by omega), tc_hi]
  · rw [tc_lo (by omega), tc_lo (by omega), tc_hi]
  · rw [tc_lo (by omega), tc_hi]
  · rw [tc_h0]
    exact stN18
theorem plT_lo {p a b j : Nat} (h : j < w) : plT f w p a b j = f j := by
  unfold plT
  rw [tc_lo (by omega), tc_lo (by omega), tc_lo (by omega), tc_lo (by omega), tc_lo (by omega), tc_lo (by omega), tc_lo h, tc_00]
def plAt (f : Nat → Nat) (s p m v : Nat) : Prop := sg f s 24 5 ∧ f (s + 5) = 112 + p ∧ f (s + 6) = 32 ∧ (∀ i, i < sb_dg m → f (s + 7 + i) = sb_dec m i) ∧ f (s + 7 + sb_dg m) = 32 ∧ (∀ i, i < sb_dg v → f (s + 7 + sb_dg m + 1 + i) = sb_dec v i) ∧ f (s + 7 + sb_dg m + 1 + sb_dg v) = 59
theorem plT_at {p a b : Nat} : plAt (plT f w p a b) w p a b := by
  unfold plT plAt
  refine ⟨fun j hj => ?_, ?_, ?_, fun i hi => ?_, ?_, fun i hi => ?_, ?_⟩
  · rw [tc_lo (by omega), tc_lo (by omega), tc_lo (by omega), tc_lo (by omega), tc_lo (by omega), tc_lo (by omega), tc_hi]
  · rw [tc_lo (by omega), tc_lo (by omega), tc_lo (by omega), tc_lo (by omega), tc_lo (by omega), tc_h0]
  · rw [tc_lo (by omega), tc_lo (by omega), tc_lo (by omega), tc_lo (by omega), show w + 6 = w + 5 + 1 by omega, tc_h0]
    exact stN20
  · rw [tc_lo (by omega), tc_lo (by omega), tc_lo (by omega), show w + 7 + i = w + 5 + 1 + 1 + i by omega, tc_hi]
  · rw [tc_lo (by omega), tc_lo (by omega), show w + 7 + sb_dg a = w + 5 + 1 + 1 + sb_dg a by omega, tc_h0]
    exact stN20
  · rw [tc_lo (by omega), show w + 7 + sb_dg a + 1 + i = w + 5 + 1 + 1 + sb_dg a + 1 + i by omega, tc_hi]
  · rw [show w + 7 + sb_dg a + 1 + sb_dg b = w + 5 + 1 + 1 + sb_dg a + 1 + sb_dg b by omega, tc_h0]
    exact stN18
theorem plAt_cg {g : Nat → Nat} {s p m v : Nat} (e : ∀ j, j < s + 7 + sb_dg m + 1 + sb_dg v + 1 → g j = f j) (h : plAt f s p m v) : plAt g s p m v := by
  obtain ⟨a1, a2, a3, a4, a5, a6, a7⟩ := h
  exact ⟨fun j hj => by rw [e _ (by omega)]; exact a1 j hj, by rw [e _ (by omega)]; exact a2, by rw [e _ (by omega)]; exact a3, fun i hi => by rw [e _ (by omega)]; exact a4 i hi, by rw [e _ (by omega)]; exact a5, fun i hi => by rw [e _ (by omega)]; exact a6 i hi, by rw [e _ (by omega)]; exact a7⟩
theorem pnN_mo (x : Int32) (K a d : Nat) : pnN x K a ≤ pnN x K (a + d) := by
  induction d with
  | zero => exact Nat.le_refl _
  | succ d ih =>
    have : pnN x K (a + (d + 1)) = pnN x K (a + d) + 5 + 1 + 1 + sb_dg (pnM x (K - (a + d))) + 1 + sb_dg (pnI x (K - (a + d))) + 1 := rfl
    omega
theorem pn_st {x : Int32} {N K j : Nat} : ∀ (d c : Nat), j < w + pnN x K c → pnT f w x N K (c + d) j = pnT f w x N K c j := by
  intro d
  induction d with
  | zero => intro c _; rfl
  | succ d ih =>
    intro c h
    have := pnN_mo x K c d
    rw [← ih c h]
    exact plT_lo (w := w + pnN x K (c + d)) (by omega)
theorem pn_lo {x : Int32} {N K c j : Nat} (h : j < w) : pnT f w x N K c j = f j := by
  have := pn_st (f := f) (w := w) (x := x) (N := N) (K := K) (j := j) c 0 (by omega)
  rw [Nat.zero_add] at this
  exact this
theorem pn_at {x : Int32} {N K c i : Nat} (hi : i < c) : plAt (pnT f w x N K c) (w + pnN x K i) (pnP x N (K - i)) (pnM x (K - i)) (pnI x (K - i)) := by
  obtain ⟨d, rfl⟩ : ∃ d, c = i + 1 + d := ⟨c - (i + 1), by omega⟩
  have eN : pnN x K (i + 1) = pnN x K i + 5 + 1 + 1 + sb_dg (pnM x (K - i)) + 1 + sb_dg (pnI x (K - i)) + 1 := rfl
  refine plAt_cg (fun j hj => pn_st d (i + 1) (by omega)) ?_
  exact plT_at (f := pnT f w x N K i) (w := w + pnN x K i)
end NK9
