/-! envy told; money; the page -/
theorem xv_dRm {σ : jM} {R N K : Nat} (h : xRk σ R N K) : dRm (σ.1 323) := by
  intro p hp h0
  rcases h.2.1.2.1.2.2.2.1 p hp with ⟨d, -⟩ | ⟨-, -, r, hr, d⟩
  · rw [d] at h0
    exact absurd h0 (by decide)
  · rw [d]
    have := h.1.1.1
    exact jin_nI (by omega) (by omega)
theorem xQ_D {σ τ : jM} (q : xQ σ τ) : mD τ = mD σ := by
  funext a b
  exact sR_D q.sR a b
theorem xQ_mM {σ τ : jM} (q : xQ σ τ) : mEnv τ = mEnv σ ∧ mKn τ = mKn σ := by
  have e : mEnv τ = mEnv σ := by
    funext a b
    unfold mEnv mM
    rw [xQ_D q]
  refine ⟨e, ?_⟩
  funext a b
  unfold mKn
  rw [xQ_D q, e]
theorem xt_envyOf (x y : Int32) : xTw (fun σ => mP σ x = true ∧ mP σ y = true) xE oX11_envyOf oX12_envyOf [.int x, .int y] :=
  xT_mk (x := fun σ => if fH σ x = true ∧ fH σ y = true then fE σ x y else -1) (y := fun σ => mKn σ x.toNatClampNeg y.toNatClampNeg)
    (fun h c => ⟨⟨rfl, ((xv_P h x).1).trans c.1, ((xv_P h y).1).trans c.2⟩, xp1 h⟩)
    (fun h => xt_e h)
    (fun {σ R N K} h => ⟨⟨rfl, (xv_n h).2.2.2.2.2.1, xv_dRm h⟩, xp3 h (mP σ x = true ∧ mP σ y = true) Iff.rfl (fun c => if_pos c)⟩)
    (fun {σ R N K} h c => by
      obtain ⟨p1, p2, -⟩ := xv_p h c.1
      obtain ⟨q1, q2, -⟩ := xv_p h c.2
      have := (xv_Ep h p1 q1).2
      rw [← p2, ← q2] at this
      exact this) (fun q => by rw [(xQ_mM q).2]) (fun q => by rw [xQ_P q, xQ_P q])
theorem xt_wouldSwap (x y : Int32) : xTw (fun σ => mP σ x = true ∧ mP σ y = true) xE oX11_wouldSwap oX12_wouldSwap [.int x, .int y] :=
  xT_mk (x := fun σ => if 0 < fE σ x y ∧ 0 < fE σ y x then 1 else 0) (y := fun σ => if 0 < mKn σ x.toNatClampNeg y.toNatClampNeg ∧ 0 < mKn σ y.toNatClampNeg x.toNatClampNeg then 1 else 0)
    (fun h c => ⟨⟨rfl, ((xv_P h x).1).trans c.1, ((xv_P h y).1).trans c.2⟩, xp1 h⟩)
    (fun h => xt_e h)
    (fun {σ R N K} h => ⟨⟨rfl, (xv_n h).2.2.2.2.2.1, xv_dRm h⟩, xp3 h (mP σ x = true ∧ mP σ y = true) Iff.rfl (fun c => by
      by_cases d : 0 < mKn σ x.toNatClampNeg y.toNatClampNeg ∧ 0 < mKn σ y.toNatClampNeg x.toNatClampNeg
      · rw [if_pos ⟨c.1, c.2, d.1, d.2⟩, if_pos d]
      · rw [if_neg (fun z => d ⟨z.2.2.1, z.2.2.2⟩), if_neg d])⟩)
    (fun {σ R N K} h c => by
      obtain ⟨p1, p2, -⟩ := xv_p h c.1
      obtain ⟨q1, q2, -⟩ := xv_p h c.2
      have a := (xv_Ep h p1 q1).1
      have b := (xv_Ep h q1 p1).1
      rw [← p2, ← q2] at a b
      by_cases d : 0 < mKn σ x.toNatClampNeg y.toNatClampNeg ∧ 0 < mKn σ y.toNatClampNeg x.toNatClampNeg
      · rw [if_pos ⟨a.mpr d.1, b.mpr d.2⟩, if_pos d]
      · rw [if_neg (fun z => d ⟨a.mp z.1, b.mp z.2⟩), if_neg d]) (fun q => by rw [(xQ_mM q).2]) (fun q => by rw [xQ_P q, xQ_P q])
theorem xv_SE {σ : jM} {R N K : Nat} (h : xRk σ R N K) : fSE σ N N = mAE σ N N := by
  unfold fSE mAE
  exact sm_congr N (fun p hp => sm_congr N (fun q hq => xv_E h hp hq))
theorem xs_totalEnvy : xS oX11_totalEnvy oX12_totalEnvy [] :=
  xS_mk (x := fun σ => fSE σ (fN σ) (fN σ)) (y := fun σ => mAE σ (mN σ) (mN σ)) (fun h => ⟨⟨rfl, (xv_n h).2.2.2.2.2.2.1⟩, xp1 h⟩) (fun h => ⟨⟨rfl, (xv_n h).2.2.2.2.2.1, xv_dRm h⟩, xp2 h⟩) (fun {σ R N K} h => by
    obtain ⟨n1, -, n3, -⟩ := xv_n h
    rw [n1, n3]
    exact xv_SE h) (fun {σ τ} q => by
    rw [sR_N q.sR]
    unfold mAE
    rw [xQ_D q, (xQ_mM q).1])
theorem xv_EB {σ : jM} {R N K : Nat} (h : xRk σ R N K) {p : Nat} (hp : p < N) : ∀ k, k ≤ N → fEB σ (nI p) k = mEB σ p k
  | 0, _ => rfl
  | k + 1, hk => by
    simp only [fEB, mEB]
    rw [xv_EB h hp k (by omega)]
    have e := (xv_Ep h (show k < N by omega) hp).1
    by_cases c : 0 < mKn σ k p
    · rw [if_pos (e.mpr c), if_pos c]
    · rw [if_neg (fun z => c (e.mp z)), if_neg c]
theorem xQ_EB {σ τ : jM} (q : xQ σ τ) (p : Nat) : ∀ k, mEB τ p k = mEB σ p k
  | 0 => rfl
  | k + 1 => by
    simp only [mEB]
    rw [xQ_EB q p k, (xQ_mM q).2]
theorem xt_enviers (x : Int32) : xTw (fun σ => mP σ x = true) xE oX11_enviers oX12_enviers [.int x] :=
  xT_mk (x := fun σ => fEB σ x (fN σ)) (y := fun σ => mEB σ x.toNatClampNeg (mN σ))
    (fun h c => ⟨⟨rfl, (xv_n h).2.2.2.2.2.2.1, ((xv_P h x).1).trans c⟩, xp1 h⟩)
    (fun h => xt_e h)
    (fun {σ R N K} h => ⟨⟨rfl, (xv_n h).2.2.2.2.2.1, xv_dRm h⟩, xp3 h (mP σ x = true) Iff.rfl (fun c => if_pos c)⟩)
    (fun {σ R N K} h c => by
      obtain ⟨p1, p2, -⟩ := xv_p h c
      obtain ⟨n1, -, n3, -⟩ := xv_n h
      rw [n1, n3]
      have := xv_EB h p1 N (Nat.le_refl _)
      rw [← p2] at this
      exact this) (fun q => by rw [sR_N q.sR, xQ_EB q]) (fun q => by rw [xQ_P q])
/-- bits of a row of truths -/
def tEb (b : Nat → Bool) : Nat → Nat
  | 0 => 0
  | k + 1 => if b k = true then tEb b k ||| 1 <<< k else tEb b k
theorem tEb_bit (b : Nat → Bool) : ∀ k i, (tEb b k).testBit i = (decide (i < k) && b i)
  | 0, i => by simp [tEb]
  | k + 1, i => by
    have ih := tEb_bit b k i
    simp only [tEb]
    by_cases c : b k = true
    · rw [if_pos c, Nat.testBit_or, ih, Nat.one_shiftLeft, Nat.testBit_two_pow]
      by_cases e : k = i
      · subst e
        simp [c]
      · have e1 : (i < k + 1) ↔ i < k := by omega
        simp [e, e1]
    · rw [if_neg c, ih]
      by_cases e : i = k
      · subst e
        simp [c]
      · have e1 : (i < k + 1) ↔ i < k := by omega
        simp [e1]
theorem tEb_lt (b : Nat → Bool) : ∀ k, tEb b k < 2 ^ k
  | 0 => by simp [tEb]
  | k + 1 => by
    have ih := tEb_lt b k
    simp only [tEb]
    have h2 : 2 ^ k < 2 ^ (k + 1) := Nat.pow_lt_pow_right (by decide) (by omega)
    by_cases c : b k = true
    · rw [if_pos c]
      refine Nat.or_lt_two_pow (by omega) ?_
      rw [Nat.one_shiftLeft]
      exact h2
    · rw [if_neg c]
      omega
theorem sh_nI {k : Nat} (h : k < 10) : (1 : Int32) <<< (nI k &&& 31) = nI (1 <<< k) := by
  have key : ∀ k : Fin 10, (1 : Int32) <<< (nI k.val &&& 31) = nI (1 <<< k.val) := by decide +kernel
  exact key ⟨k, h⟩
theorem bc_1024 {t : Nat} (h : t < 1024) : bc (nI t) = nI (cn (fun i => t.testBit i) 10) := by
  have key : ∀ t : Fin 1024, bc (nI t.val) = nI (cn (fun i => t.val.testBit i) 10) := by decide +kernel
  exact key ⟨t, h⟩
theorem fEB_t {σ : jM} {p : Int32} : ∀ k, k ≤ 10 → fEB σ p k = nI (tEb (fun j => decide (0 < fE σ (nI j) p)) k)
  | 0, _ => rfl
  | k + 1, h => by
    simp only [fEB, tEb]
    rw [fEB_t k (by omega), sh_nI (by omega), nI_or]
    by_cases c : 0 < fE σ (nI k) p
    · rw [if_pos c, if_pos (by rw [decide_eq_true_eq]; exact c)]
    · rw [if_neg c, if_neg (by rw [decide_eq_true_eq]; exact c)]
theorem xv_bc {σ : jM} {R N K : Nat} (h : xRk σ R N K) {q : Nat} (hq : q < N) : bc (fEB σ (nI q) N) = nI (mEc σ q N) := by
  have n10 := h.1.1.2
  have l := tEb_lt (fun j => decide (0 < fE σ (nI j) (nI q))) N
  have l2 : 2 ^ N ≤ 2 ^ 10 := Nat.pow_le_pow_right (by decide) n10
  rw [fEB_t N n10, bc_1024 (by omega)]
  congr 1
  unfold mEc
  have e1 : cn (fun i => (tEb (fun j => decide (0 < fE σ (nI j) (nI q))) N).testBit i) 10 = cn (fun i => (tEb (fun j => decide (0 < fE σ (nI j) (nI q))) N).testBit i) N := cn_skip n10 (fun k h1 _ => by
    rw [tEb_bit]
    simp
    omega)
  rw [e1]
  refine cn_congr N (fun j hj => ?_)
  rw [tEb_bit]
  have e := (xv_Ep h hj hq).1
  simp [hj, e]
theorem xv_Me {σ : jM} {R N K : Nat} (h : xRk σ R N K) : ∀ k, k ≤ N → (cMe σ k).1 = (mMe σ N k).1 ∧ (cMe σ k).2 = nI (mMe σ N k).2 ∧ (mMe σ N k).2 ≤ N
  | 0, _ => ⟨rfl, rfl, Nat.zero_le _⟩
  | k + 1, hk => by
    obtain ⟨i1, i2, i3⟩ := xv_Me h k (by omega)
    have n10 := h.1.1.2
    have n1 := (xv_n h).1
    have b := xv_bc h (show k < N by omega)
    have l : mEc σ k N ≤ N := cn_le _ _
    simp only [cMe, mMe]
    have e := nI_ltI (a := (mMe σ N k).2) (b := mEc σ k N) (by omega) (by omega)
    rw [n1, b, i2]
    by_cases c : (mMe σ N k).2 < mEc σ k N
    · rw [if_pos (e.mpr c), if_pos c]
      exact ⟨rfl, rfl, l⟩
    · rw [if_neg (fun z => c (e.mp z)), if_neg c]
      exact ⟨i1, i2, i3⟩
theorem xQ_Me {σ τ : jM} (q : xQ σ τ) (N : Nat) : ∀ k, mMe τ N k = mMe σ N k
  | 0 => rfl
  | k + 1 => by
    simp only [mMe]
    rw [xQ_Me q N k]
    unfold mEc
    rw [(xQ_mM q).2]
theorem xs_mostEnvied : xS oX11_mostEnvied oX12_mostEnvied [] :=
  xS_mk (x := fun σ => (cMe σ (fN σ)).1) (y := fun σ => (mMe σ (mN σ) (mN σ)).1) (fun h => ⟨⟨rfl, (xv_n h).2.2.2.2.2.2.1⟩, xp1 h⟩) (fun h => ⟨⟨rfl, (xv_n h).2.2.2.2.2.1, xv_dRm h⟩, xp2 h⟩) (fun {σ R N K} h => by
    obtain ⟨n1, -, n3, -⟩ := xv_n h
    rw [n1, n3]
    exact (xv_Me h N (Nat.le_refl _)).1) (fun {σ τ} q => by rw [sR_N q.sR, xQ_Me q])
theorem sm_tail {f : Nat → Int32} {N : Nat} : ∀ n, N ≤ n → (∀ p, N ≤ p → p < n → f p = 0) → sm f n = sm f N
  | 0, h, _ => by
    have : N = 0 := by omega
    rw [this]
  | n + 1, h, e => by
    by_cases c : N = n + 1
    · rw [c]
    · show sm f n + f n = _
      rw [e n (by omega) (by omega), Int32.add_zero]
      exact sm_tail n (by omega) (fun p h1 h2 => e p h1 (by omega))
theorem xv_sm {σ : jM} {R N K : Nat} (h : xRk σ R N K) : sm (σ.1 53) 10 = sm (fun p => mD σ p 3) N := by
  have n10 := h.1.1.2
  have e : ∀ p, p < 10 → σ.1 53 p = mD σ p 3 := fun p hp => ((fl37 h.2.1.1).2.2.1 p hp).2.2.1
  rw [sm_tail 10 n10 (fun p h1 h2 => ?_)]
  · exact sm_congr N (fun p hp => e p (by omega))
  · rw [e p h2]
    rcases h.2.1.2.1.2.2.2.1 p h2 with ⟨-, d⟩ | ⟨d, -⟩
    · exact d
    · omega
theorem xs_missing : xS oX11_missing oX12_missing [] :=
  xS_mk (x := fun σ => σ.1 37 2 - sm (σ.1 53) 10) (y := fun σ => σ.1 323 3 - sm (fun p => mD σ p 3) (mN σ)) (fun h => ⟨rfl, xp1 h⟩) (fun h => ⟨⟨rfl, (xv_n h).2.2.2.2.2.1⟩, xp2 h⟩) (fun {σ R N K} h => by
    rw [(xv_n h).2.2.1, xv_sm h, (fl37 h.2.1.1).1.2.2.1]) (fun {σ τ} q => by rw [sR_N q.sR, xQ_D q, q.at 323 rfl rfl])
/-! the page -/
theorem xv_page {σ : jM} {R N K : Nat} (h : xRk σ R N K) : ∃ s, s ≤ 162 ∧ σ.1 320 1 = nI s ∧ σ.1 322 52 = nI s ∧ ∀ j, j < s → σ.1 321 j = σ.1 351 j := h.2.2.2.2.2.1
theorem xs_outputAt (x : Int32) : xS oX11_outputAt oX12_outputAt [.int x] :=
  xS_mk (x := fun σ => if 0 ≤ x ∧ x < σ.1 320 1 then σ.1 321 x.toNatClampNeg else -1) (y := fun σ => if mIn x 0 (σ.1 322 52 - 1) = true then σ.1 351 x.toNatClampNeg else -1) (fun {σ R N K} h => ⟨⟨rfl, by
    obtain ⟨s, s1, s2, -⟩ := xv_page h
    unfold pgOK
    rw [s2]
    refine ⟨(NL_0.1 s (by omega)).mpr (Nat.zero_le _), ?_⟩
    rw [show (162 : Int32) = nI 162 from rfl]
    exact nI_le s1 (by decide)⟩, xp1 h⟩) (fun {σ R N K} h => ⟨⟨rfl, by
    obtain ⟨s, s1, -, s3, -⟩ := xv_page h
    unfold oOK
    rw [s3]
    refine ⟨(NL_0.1 s (by omega)).mpr (Nat.zero_le _), ?_⟩
    rw [show (400 : Int32) = nI 400 from rfl]
    exact nI_le (by omega) (by decide)⟩, xp2 h⟩) (fun {σ R N K} h => by
    obtain ⟨s, s1, s2, s3, s4⟩ := xv_page h
    rw [s2, s3]
    have e := mIn_lt (x := x) (n := s) (by omega)
    by_cases c : 0 ≤ x ∧ x < nI s
    · rw [if_pos c, if_pos (e.mpr c)]
      obtain ⟨k, k1, k2⟩ := (x_nI (n := s) (by omega)).mp c
      rw [k2, nI_clamp (by omega)]
      exact s4 k k1
    · rw [if_neg c, if_neg (fun z => c (e.mp z))]) (fun {σ τ} q => by
    have e : τ.1 351 = σ.1 351 := funext fun j => q.1 351 j rfl
    rw [e, q.1 322 52 rfl])
