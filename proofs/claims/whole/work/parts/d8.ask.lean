/-! rooms in the proposal; the least value; the deposit's shares and transfers -/
theorem xv_own {σ : jM} {R N K : Nat} (h : xRk σ R N K) {a : Nat × Nat × (Nat → Nat)} (ha : dC σ = some a) {x : Int32} (hx : mR σ x = true) : (∃ k, k < mLiv σ ∧ clPl σ a.2.2 x = nI k ∧ mOw σ x = nI (xp σ k)) ∨ (clPl σ a.2.2 x = -1 ∧ mOw σ x = -1) := by
  obtain ⟨r, r1, r2⟩ := (xv_R h x).2.mp hx
  obtain ⟨-, -, n3, n4, -⟩ := xv_n h
  have r6 := h.1.1.1
  have n10 := h.1.1.2
  obtain ⟨c0, c1, c2⟩ := dC_A ha
  have l3 := (xv_liv h).2.2.1
  have m6 : mLiv σ ≤ N := by
    rw [xv_hm h]
    exact cn_le _ _
  have eq : ∀ k, k < mLiv σ → (nI (a.2.2 k) = x ↔ a.2.2 k = r) := fun k hk => by
    have := (c1 k hk).1
    rw [n4] at this
    rw [r2, nI_eq (by omega) (by omega)]
  have ow : ∀ p, p < N → (qch (dC σ) (xl σ) N p = x ↔ xl σ p = true ∧ a.2.2 (cn (xl σ) p) = r) := fun p hp => by
    rw [ha]
    unfold qch
    dsimp only
    by_cases l : xl σ p = true
    · rw [if_pos ⟨l, hp⟩, eq _ (ck_of h hp l).1]
      exact ⟨fun z => ⟨l, z⟩, fun z => z.2⟩
    · rw [if_neg (fun z => l z.1), r2]
      refine ⟨fun z => absurd ((nI_m1 (by omega)).mp z.symm) id, fun z => absurd z.1 l⟩
  by_cases ex : ∃ k, k < mLiv σ ∧ a.2.2 k = r
  · obtain ⟨k, k1, k2⟩ := ex
    obtain ⟨x1, x2, x3, x4, x5⟩ := xv_I h k1
    refine Or.inl ⟨k, k1, ?_, ?_⟩
    · unfold clPl
      rw [l3]
      have := ff_is (p := fun k => decide (nI (a.2.2 k) = x)) (mLiv σ) 0 k k1 (by
        rw [Nat.zero_add, decide_eq_true_eq]
        exact (eq k k1).mpr k2) (fun q hq z => by
        rw [Nat.zero_add, decide_eq_true_eq, eq q (by omega), ← k2] at z
        have := c2 q k (by omega) k1 z
        omega)
      rw [Nat.zero_add] at this
      exact this
    · unfold mOw
      rw [n3]
      have := ff_is (p := fun p => decide (qch (dC σ) (xl σ) N p = x)) N 0 (xp σ k) x2 (by
        rw [Nat.zero_add, decide_eq_true_eq, ow _ x2, x4]
        exact ⟨x3, k2⟩) (fun q hq z => by
        rw [Nat.zero_add, decide_eq_true_eq, ow q (by omega), ← k2] at z
        have e := c2 _ _ (ck_of h (by omega) z.1).1 k1 z.2
        rw [← x4] at e
        have := cn_inj z.1 x3 e
        omega)
      rw [Nat.zero_add] at this
      exact this
  · refine Or.inr ⟨?_, ?_⟩
    · unfold clPl
      rw [l3]
      refine ff_not _ _ (fun q _ hq => ?_)
      rw [decide_eq_true_eq, eq q (by omega)]
      exact fun z => ex ⟨q, by omega, z⟩
    · unfold mOw
      rw [n3]
      refine ff_not _ _ (fun q _ hq => ?_)
      rw [decide_eq_true_eq, ow q (by omega)]
      exact fun z => ex ⟨_, (ck_of h (by omega) z.1).1, z.2⟩
theorem sR_Ow {σ τ : jM} (s : sR σ τ) : mOw τ = mOw σ := by
  funext x
  unfold mOw
  rw [sR_C s, sR_l s, sR_N s]
theorem xt_room {oc om : jO} {x : Int32} {xs : List Value} (f : jM → (Nat → Nat) → Nat → Int32) (g : jM → Nat → Int32)
    (hf : ∀ {σ R N K}, xRk σ R N K → ∀ {a : Nat × Nat × (Nat → Nat)}, dC σ = some a → ∀ {k}, k < mLiv σ → f σ a.2.2 k = g σ (xp σ k)) (hg : ∀ {σ τ}, sR σ τ → g τ = g σ)
    (hc : ∀ σ, oc (.ref 0 :: .int x :: xs) σ = ((0 : Nat) = 0 ∧ flOK σ ∧ prIv σ ∧ fR σ x = true, fun v τ => v = some (.int (clM σ x (f σ))) ∧ cuP σ τ))
    (hm : ∀ σ, om (.ref 322 :: .int x :: xs) σ = ((322 : Nat) = 322 ∧ mOK σ ∧ dI (σ.1 323), fun v τ => v = some (.int (if mR σ x = true then (if (dC σ).isSome = true ∧ 0 ≤ mOw σ x then g σ (mOw σ x).toNatClampNeg else -2000000000) else 0)) ∧ jfr aSc bSc σ τ ∧ τ.1 322 11 = if mR σ x = true then 0 else 1)) : xTw (fun σ => mR σ x = true) xE oc om (.int x :: xs) :=
  xT_mk (x := fun σ => clM σ x (f σ)) (y := fun σ => if (dC σ).isSome = true ∧ 0 ≤ mOw σ x then g σ (mOw σ x).toNatClampNeg else -2000000000)
    (fun {σ R N K} h c => by
      rw [hc]
      exact ⟨⟨rfl, (xv_pre h).1.1, (xv_pre h).1.2, ((xv_R h x).1).trans c⟩, xcp⟩)
    (fun h => xt_e h)
    (fun {σ R N K} h => by
      rw [hm]
      exact ⟨⟨rfl, (xv_pre h).2⟩, xmt h (fun c => if_pos c)⟩)
    (fun {σ R N K} h c => by
      unfold clM
      rcases e : dC σ with _ | a
      · rw [clV_none h e]
        exact (if_neg (fun z => by simp at z)).symm
      · rw [clV_some h e]
        have n10 := h.1.1.2
        have m10 : mLiv σ ≤ N := by
          rw [xv_hm h]
          exact cn_le _ _
        rcases xv_own h e c with ⟨k, k1, k2, k3⟩ | ⟨k2, k3⟩
        · have x2 := (xv_I h k1).2.1
          have p0 : (0 : Int32) ≤ nI (xp σ k) := (NL_0.1 _ (by omega)).mpr (Nat.zero_le _)
          rw [k2, k3, if_neg (fun z => (nI_m1 (by omega)).mp z), if_pos ⟨rfl, p0⟩, nI_clamp (by omega), nI_clamp (by omega)]
          exact hf h e k1
        · rw [k2, k3, if_pos rfl]
          exact (if_neg (fun z => absurd z.2 (by decide))).symm) (fun q => by rw [sR_C q.sR, sR_Ow q.sR, hg q.sR]) (fun q => by rw [xQ_R q])
theorem xt_price (x : Int32) : xTw (fun σ => mR σ x = true) xE oX11_price oX12_price [.int x] :=
  xt_room (xs := []) (fun σ A i => iI (flPr σ A (flS σ) i)) (fun σ p => mPr σ (nI (shN σ)) p) (fun {σ R N K} h a e k hk => by
    obtain ⟨x1, x2, x3, x4, x5⟩ := xv_I h hk
    obtain ⟨s1, s2, -⟩ := xv_S h
    rw [(xv_mPr h e s2).2.1 _ (by rw [(xv_n h).2.2.1]; exact x2), if_pos x3, x4, s1, xv_Pr h e _ hk]) (fun s => by
    funext p
    rw [sR_sN s, sR_Pr s]) (fun _ => rfl) (fun _ => rfl)
theorem xt_extreme (x y : Int32) : xTw (fun σ => mR σ x = true) xE oX11_extreme oX12_extreme [.int x, .int y] :=
  xt_room (xs := [.int y]) (fun σ A i => if y = 0 then iI (gLo (flW σ) A (flM σ) i) else iI (- gHi (flW σ) A (flM σ) i)) (fun σ p => if y = 0 then mLo σ p else mHi σ p) (fun {σ R N K} h a e k hk => by
    obtain ⟨x1, x2, x3, x4, x5⟩ := xv_I h hk
    obtain ⟨e1, e2⟩ := xv_ex h e hk
    have l : dL (σ.1 323) (xp σ k) = true := x3
    have x4 : cn (dL (σ.1 323)) (xp σ k) = k := x4
    unfold mLo mHi
    rw [if_pos l, if_pos l, x4, e1, e2, xv_mA e]) (fun s => by
    funext p
    rw [sR_Lo s, sR_Hi s]) (fun _ => rfl) (fun _ => rfl)
/-! the least value -/
theorem gets_cg {W V : Nat → Nat → Option Nat} {R m i r v : Nat} (h : ∀ j q, j < m → q < R → W j q = V j q) : getsR W R m i r v ↔ getsR V R m i r v := by
  unfold getsR
  rw [qT_cg (V := wEnt V i r (some v)) m 0 0 (fun j q _ hj hq => by
    unfold wEnt
    rw [h j q (by omega) hq])]
/-- the row with a value in place of what stood there -/
def gvR (σ : jM) (p r : Nat) (v : Int32) : jM := mGv (mLr σ p r) p r v
theorem gvR_at (σ : jM) (p r : Nat) (v : Int32) (j : Nat) : (gvR σ p r v).1 323 j = if j = 8 + 20 * p + (7 + r) then v else if j = 8 + 20 * p + (13 + r) then 0 else σ.1 323 j := by
  unfold gvR mGv mLr
  rw [jup_1, jup_1]
  by_cases c : j = 8 + 20 * p + (7 + r)
  · rw [if_pos ⟨rfl, c⟩, if_pos c]
  · rw [if_neg (fun z => c z.2), if_neg c]
    by_cases d : j = 8 + 20 * p + (13 + r)
    · rw [if_pos ⟨rfl, d⟩, if_pos d]
    · rw [if_neg (fun z => d z.2), if_neg d]
theorem gvR_l {σ : jM} {p r : Nat} (hr : r < 6) (v : Int32) : xl (gvR σ p r v) = xl σ := by
  funext q
  unfold xl dL
  rw [gvR_at, if_neg (by omega), if_neg (by omega)]
theorem gvR_W {σ : jM} {N p r : Nat} {v : Nat} (hr : r < 6) (hp : p < N) (l : xl σ p = true) (hv : v < 2147483648) {i q : Nat} (hi : i < cn (xl σ) N) (hq : q < 6) : dW ((gvR σ p r (nI v)).1 323) N i q = wEnt (dW (σ.1 323) N) (cn (xl σ) p) r (some v) i q := by
  have e : qpl (dL ((gvR σ p r (nI v)).1 323)) N i = qpl (xl σ) N i := by
    show qpl (xl (gvR σ p r (nI v))) N i = _
    rw [gvR_l hr]
  have x := qpl_is (p := xl σ) (N := N) (i := i) hi
  have b1 : (gvR σ p r (nI v)).1 323 (8 + 20 * qpl (xl σ) N i + (13 + q)) = if qpl (xl σ) N i = p ∧ q = r then 0 else σ.1 323 (8 + 20 * qpl (xl σ) N i + (13 + q)) := by
    rw [gvR_at, if_neg (by omega)]
    by_cases c : qpl (xl σ) N i = p ∧ q = r
    · rw [if_pos c, if_pos (by omega)]
    · rw [if_neg c, if_neg (by omega)]
  have b2 : (gvR σ p r (nI v)).1 323 (8 + 20 * qpl (xl σ) N i + (7 + q)) = if qpl (xl σ) N i = p ∧ q = r then nI v else σ.1 323 (8 + 20 * qpl (xl σ) N i + (7 + q)) := by
    rw [gvR_at]
    by_cases c : qpl (xl σ) N i = p ∧ q = r
    · rw [if_pos c, if_pos (by omega)]
    · rw [if_neg c, if_neg (by omega), if_neg (by omega)]
  unfold dW wEnt
  rw [e, b1, b2]
  show _ = if i = cn (xl σ) p ∧ q = r then some v else if σ.1 323 (8 + 20 * qpl (xl σ) N i + (13 + q)) = 1 then none else some (σ.1 323 (8 + 20 * qpl (xl σ) N i + (7 + q))).toNatClampNeg
  have k : (qpl (xl σ) N i = p ∧ q = r) ↔ (i = cn (xl σ) p ∧ q = r) := by
    refine ⟨fun z => ⟨by rw [← z.1, x.2.2], z.2⟩, fun z => ⟨by rw [z.1]; exact qpl_cn l hp, z.2⟩⟩
  by_cases c : i = cn (xl σ) p ∧ q = r
  · have c' := k.mpr c
    simp only [if_pos c, if_pos c']
    rw [if_neg (by decide), nI_clamp hv]
  · have c' := fun z => c (k.mp z)
    simp only [if_neg c, if_neg c']
theorem mGt_iff {σ : jM} {R N K : Nat} (h : xRk σ R N K) {p r v : Nat} (hp : p < N) (hr : r < R) (hv : v ≤ 9999) (l : xl σ p = true) : mGt σ p r v ↔ getsR (flW σ) (fRm σ) (flM σ) (cn (liv σ) p) r v := by
  obtain ⟨n1, n2, n3, n4, -⟩ := xv_n h
  obtain ⟨l1, l2, l3, -⟩ := xv_liv h
  have r6 := h.1.1.1
  have n10 := h.1.1.2
  have hk := ck_of h hp l
  rw [n2, l3, l2 p (by omega)]
  rw [gets_cg (V := dW (σ.1 323) N) (fun j q hj hq => xv_W h hj hq)]
  unfold mGt
  show qch (dC (gvR σ p r (nI v))) (xl (gvR σ p r (nI v))) (mN (gvR σ p r (nI v))) p = nI r ↔ _
  have eN : mN (gvR σ p r (nI v)) = N := n3
  have eR : mRo (gvR σ p r (nI v)) = R := n4
  have eL : mLiv (gvR σ p r (nI v)) = mLiv σ := by
    show cn (xl (gvR σ p r (nI v))) (mN (gvR σ p r (nI v))) = _
    rw [eN, gvR_l (by omega), xv_hm h]
  have eC : dC (gvR σ p r (nI v)) = qT (wEnt (dW (σ.1 323) N) (cn (xl σ) p) r (some v)) R (mLiv σ) 0 0 := by
    unfold dC
    rw [eL, eN, eR, if_neg (by omega)]
    exact qT_cg _ _ _ (fun j q _ hj hq => gvR_W (by omega) hp l (by omega) (by rw [← xv_hm h]; omega) (by omega))
  rw [eC, eN, gvR_l (by omega)]
  unfold getsR
  rcases e : qT (wEnt (dW (σ.1 323) N) (cn (xl σ) p) r (some v)) R (mLiv σ) 0 0 with _ | a
  · refine ⟨fun z => absurd ((nI_m1 (by omega)).mp (Eq.symm z)) id, fun ⟨a, z, _⟩ => by cases z⟩
  · have m := (vA_iff (mLiv σ) 0 0).mp (qT_mem _ _ _ _ e).1
    have ar := (m.1 (cn (xl σ) p) (by omega) (by omega)).1
    have q : qch (some a) (xl σ) N p = nI (a.2.2 (cn (xl σ) p)) := if_pos ⟨l, hp⟩
    rw [q, nI_eq (by omega) (by omega)]
    exact ⟨fun z => ⟨a, rfl, z⟩, fun ⟨b, z, w⟩ => by cases z; exact w⟩
theorem sc_Tc {σ τ : jM} {R N K : Nat} (h : xRk σ R N K) (f : jfr aTc b0 σ τ) : xQ σ τ := by
  have k : ∀ a j, (a < 288 ∨ 299 < a) → aTc a j = false := fun a j ha => by
    unfold aTc
    simp only [jble, Bool.and_eq_false_iff, decide_eq_false_iff_not]
    omega
  refine ⟨fun a j c => f.2.2 a j (k a j ?_), prIv_fr h (fun a j ha => f.2.2 a j (k a j (by omega)))⟩
  have := cu_xC c
  unfold xC at c
  simp only [jble, Bool.or_eq_true, Bool.and_eq_true, beq_iff_eq, decide_eq_true_eq] at c
  omega
theorem xt_leastValue (x y : Int32) : xTw (fun σ => mP σ x = true ∧ mR σ y = true) xE oX11_leastValue oX12_leastValue [.int x, .int y] := by
  intro σ hx
  obtain ⟨R, N, K, h⟩ := hx
  refine ⟨fun c => ⟨⟨rfl, (xv_pre h).1.1, ((xv_P h x).1).trans c.1, ((xv_R h y).1).trans c.2⟩, ?_⟩, fun c τ e => ?_⟩
  · rintro v τ ⟨hv, f⟩
    have qt := sc_Tc h f
    have ht := qt.R h
    refine ⟨⟨rfl, (xv_n ht).2.2.2.2.2.1, (xv_dI ht).1⟩, ?_⟩
    rintro w υ ⟨fu, k⟩
    have hu := (xM_Q ht fu).R ht
    have c1 : mP τ x = true := (xQ_P qt x).trans c.1
    have c2 : mR τ y = true := (xQ_R qt y).trans c.2
    obtain ⟨p1, p2, p3⟩ := xv_p h c.1
    obtain ⟨r1, r2, r3⟩ := xv_r h c.2
    refine ⟨⟨_, hv⟩, ?_⟩
    have lv : (liv σ x.toNatClampNeg = true) ↔ mD τ x.toNatClampNeg 0 = 1 := by
      rw [(xv_liv h).1 _ p1, sR_D qt.sR]
      unfold xl dL
      rw [decide_eq_true_eq]
      exact Iff.rfl
    rcases k with ⟨k1, -⟩ | ⟨-, -, k3, k4, k5⟩ | ⟨-, -, k3, k4, hh, k5, k6, k7, k8⟩
    · exact absurd ⟨c1, c2⟩ k1
    · refine ⟨?_, k5, R, N, K, hu⟩
      rw [hv, k4]
      unfold clLv
      rw [if_neg (fun z => k3 (lv.mp z))]
    · refine ⟨?_, k4, R, N, K, hu⟩
      have l : liv σ x.toNatClampNeg = true := lv.mpr k3
      have lx : xl τ x.toNatClampNeg = true := by
        unfold xl dL
        rw [decide_eq_true_eq]
        exact k3
      have m : ∀ v, v ≤ 9999 → (mGt τ x.toNatClampNeg y.toNatClampNeg v ↔ getsR (flW σ) (fRm σ) (flM σ) (cn (liv σ) x.toNatClampNeg) y.toNatClampNeg v) := fun v hv => by
        rw [mGt_iff ht p1 r1 hv lx]
        obtain ⟨b1, b2⟩ := fl_sameE (σ := σ) (τ := τ) (xv_n h).2.2.2.2.2.2.1 (flE_of (fun c h1 h2 => funext fun j => f.2.2 c j (by
          unfold aTc
          simp only [jble, Bool.and_eq_false_iff, decide_eq_false_iff_not]
          omega)))
        rw [b1.2.1, b1.2.2.1, b1.2.2.2, b2.1]
      have hk : cn (liv σ) x.toNatClampNeg < flM σ := by
        rw [(xv_liv h).2.2.1, (xv_liv h).2.1 _ (by omega)]
        exact (ck_of h p1 (by rw [← (xv_liv h).1 _ p1]; exact l)).1
      have low : 0 < hh → ∀ q, q < hh → ¬ getsR (flW σ) (fRm σ) (flM σ) (cn (liv σ) x.toNatClampNeg) y.toNatClampNeg q := fun h0 q hq z => by
        have z2 := gets_up hk z (hh - 1) (by omega)
        exact k7 h0 ((m _ (by omega)).mpr z2)
      rw [hv, k8]
      unfold clLv
      rw [if_pos l]
      by_cases e : hh = 10000
      · rw [if_pos e, ff_not _ _ (fun q _ hq z => by
          exact low (by omega) q (by omega) (@of_decide_eq_true _ (Classical.propDecidable _) z))]
      · rw [if_neg e]
        have := ff_is (p := fun h => @decide (getsR (flW σ) (fRm σ) (flM σ) (cn (liv σ) x.toNatClampNeg) y.toNatClampNeg h) (Classical.propDecidable _)) 10000 0 hh (by omega) (by
          rw [Nat.zero_add]
          exact @decide_eq_true _ (Classical.propDecidable _) ((m _ (by omega)).mp (k6 (by omega)))) (fun q hq z => by
          rw [Nat.zero_add] at z
          exact low (by omega) q hq (@of_decide_eq_true _ (Classical.propDecidable _) z))
        rw [Nat.zero_add] at this
        rw [this]
  · have e : τ = σ := e
    rw [e]
    refine ⟨⟨rfl, (xv_n h).2.2.2.2.2.1, (xv_dI h).1⟩, ?_⟩
    rintro w υ ⟨fu, k⟩
    have hu := (xM_Q h fu).R h
    rcases k with ⟨-, k2, k3⟩ | ⟨k1, k2, -⟩ | ⟨k1, k2, -⟩
    · exact ⟨⟨_, k2⟩, k3, R, N, K, hu⟩
    · exact absurd ⟨k1, k2⟩ c
    · exact absurd ⟨k1, k2⟩ c
