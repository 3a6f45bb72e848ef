/-! nobody envies; the payments are the lease -/
theorem sm_hoA {s : Nat → Int32} {b : Nat} : ∀ (m : Nat), sm (hoA s b) m = sm s m + (if b < m then 1 else 0)
  | 0 => by rw [if_neg (by omega)]; rfl
  | m + 1 => by
    simp only [sm]
    rw [sm_hoA m]
    unfold hoA
    by_cases e : m = b
    · subst e
      rw [if_neg (by omega), if_pos rfl, if_pos (by omega), Int32.add_zero, Int32.add_assoc]
    · rw [if_neg e]
      by_cases d : b < m
      · rw [if_pos d, if_pos (by omega), Int32.add_assoc, Int32.add_assoc, Int32.add_comm 1]
      · rw [if_neg d, if_neg (by omega), Int32.add_zero, Int32.add_zero]
theorem sm_hoS {m : Nat} : ∀ (n : Nat) (r : Nat → Int) (s : Nat → Int32), n ≤ hoN r m → sm (hoS m n r s) m = sm s m + nI n
  | 0, _, _, _ => by
    show _ = _ + 0
    rw [Int32.add_zero]
    rfl
  | n + 1, r, s, hn => by
    simp only [hoS]
    rcases e : hoB r m with _ | b
    · have := hoN_pos e
      omega
    · obtain ⟨b1, b2⟩ := hoB_lt e
      dsimp only
      rw [sm_hoS n _ _ (by rw [(hoN_upd b2 m).1, if_pos b1]; omega), sm_hoA, if_pos b1, Int32.add_assoc, show (1 : Int32) = nI 1 from rfl, nI_add, Nat.add_comm 1 n]
theorem hoN_al9 {r : Nat → Int} : ∀ (m : Nat), (∀ i, i < m → 0 ≤ r i) → hoN r m = m
  | 0, _ => rfl
  | m + 1, h => by
    have ih := hoN_al9 m (fun i hi => h i (by omega))
    unfold hoN at ih ⊢
    simp only [cn]
    rw [ih, if_pos (by rw [decide_eq_true_eq]; exact h m (by omega))]
theorem sm_nI (f : Nat → Nat) : ∀ n, sm (fun i => nI (f i)) n = nI (smN f n)
  | 0 => rfl
  | n + 1 => by
    simp only [sm, smN]
    rw [sm_nI f n, nI_add]
theorem sm_spS {A : Nat} {w : Nat → Nat} {m : Nat} (hm : 0 < m) : sm (spS A w m) m = nI A := by
  obtain ⟨-, h2, h3⟩ := sp_le A w hm
  unfold spS
  rw [sm_hoS _ _ _ (by rw [hoN_al9 m (fun i _ => by omega)]; omega), sm_nI, nI_add]
  unfold spL
  rw [Nat.add_sub_cancel' h2]
theorem sm_add (f h : Nat → Int32) : ∀ n, sm (fun i => f i + h i) n = sm f n + sm h n
  | 0 => by show (0 : Int32) = 0 + 0; decide
  | n + 1 => by
    simp only [sm]
    rw [sm_add f h n]
    grind
section RN
variable {σ : dM} {s0 : jM} {N M K : Nat} {a : Nat × Nat × (Nat → Nat)}
/-- what all pay is the lease -/
theorem rSum (h : rDs σ s0 N M K) (ha : dC s0 = some a) (hb : rBt σ s0 N) : sm (fun p => if DI σ 1107 p < 0 then 0 else dyPay σ N N p) N = DI σ 1000 12 := by
  obtain ⟨e1, e2, e3, e4, e5⟩ := rDs_lv h
  obtain ⟨b3, -, hP⟩ := rPy h ha hb
  obtain ⟨f3, -⟩ := h.2.2.2.2
  have e : ∀ p, p < N → (if DI σ 1107 p < 0 then 0 else dyPay σ N N p) = if xl s0 p = true then paS s0 (shN s0) (cn (xl s0) p) else 0 := fun p hp => by
    rw [hP p hp]
    by_cases l : xl s0 p = true
    · rw [if_neg (fun z => (rLt h ha hb hp).mp z l)]
    · rw [if_neg l]
      split <;> rfl
  rw [sm_congr N e, sm_cn, ← e3]
  have e6 : sm (paS s0 (shN s0)) (mLiv s0) = sm (unS s0 (shN s0)) (mLiv s0) + sm (shS s0 (shN s0)) (mLiv s0) := sm_add _ _ _
  have e7 : sm (unS s0 (shN s0)) (mLiv s0) = nI (ppN s0 (shN s0)) := by
    unfold unS
    rw [sm_hoS _ _ _ (by rw [hoN_al9 _ (fun i _ => by omega)]; omega), sm_iI, ← iI_nat, ← iI_nat, iI_add]
    refine congrArg iI ?_
    rw [Int.toNat_of_nonneg b3.1]
    unfold lfI
    omega
  have e8 : sm (shS s0 (shN s0)) (mLiv s0) = nI (ipN s0 (shN s0)) := by
    unfold shS
    exact sm_spS (by omega)
  obtain ⟨L, l1, l2, l3, l4, l5, l6, l7, l8⟩ := ip_le (xv_dI h.2.1) (rSh h).2
  rw [e6, e7, e8, nI_add, l7, l8, f3, l2, Nat.sub_add_cancel l4]
theorem bI_sol (h : rDs σ s0 N M K) (ha : dC s0 = some a) {i j : Nat} (hi : i < mLiv s0) (hj : j < mLiv s0) (g : gE (dW (s0.1 323) N) a.2.2 i j = true) : bI s0 i + gG (dW (s0.1 323) N) a.2.2 i j ≤ bI s0 j := by
  obtain ⟨e1, e2, e3, e4, e5⟩ := rDs_lv h
  have hM := h.1.1.2.2
  have hqT : qT (dW (s0.1 323) N) M (mLiv s0) 0 0 = some a := by
    have := ha
    unfold dC at this
    rw [if_neg (by omega), e4, e5] at this
    exact this
  obtain ⟨-, -, -, sl, sh⟩ := qT_best (by omega) hqT
  have k1 := sl.2 i j hi hj g
  have k2 : gHi (dW (s0.1 323) N) a.2.2 (mLiv s0) j + gG (dW (s0.1 323) N) a.2.2 i j ≤ gHi (dW (s0.1 323) N) a.2.2 (mLiv s0) i := sh.2 j i hj hi g
  unfold bI
  rw [e4, xv_mA ha]
  obtain ⟨a1, a2⟩ := gLo_dvd (dW (s0.1 323) N) a.2.2 (mLiv s0) i
  obtain ⟨a3, a4⟩ := gLo_dvd (dW (s0.1 323) N) a.2.2 (mLiv s0) j
  have ev : ∀ x : Int, (2 : Int) ∣ x → x.tdiv 2 = x / 2 := fun x d => by
    rcases Int.le_total 0 x with c | c
    · exact Int.tdiv_eq_ediv_of_nonneg c
    · exact Int.tdiv_eq_ediv_of_dvd d
  split
  · omega
  · split
    · omega
    · rw [ev _ (by omega), ev _ (by omega)]
      omega
/-- a price in the law's words -/
theorem rGn (h : rDs σ s0 N M K) (ha : dC s0 = some a) (hb : rBt σ s0 N) {p q : Nat} (hp : p < N) (hq : q < N) (lp : xl s0 p = true) (lq : xl s0 q = true) (hr : DI σ (1200 + p) (bR σ q) = 0) : ∃ v : Nat, v ≤ 9999 ∧ DI σ (1110 + p) (bR σ q) = nI v ∧ (v : Int) = gF (dW (s0.1 323) N) (cn (xl s0) p) (a.2.2 (cn (xl s0) q)) ∧ 120 * DI σ (1110 + p) (bR σ q) - dpRow σ N q = iI (120 * (v : Int) - prI s0 (shN s0) (cn (xl s0) q)) ∧ -70000000 ≤ 120 * (v : Int) - prI s0 (shN s0) (cn (xl s0) q) ∧ 120 * (v : Int) - prI s0 (shN s0) (cn (xl s0) q) ≤ 70000000 := by
  obtain ⟨q1, q2, q3, q4, -⟩ := (rCh h ha hb hq).1 lq
  rw [q4] at hr ⊢
  obtain ⟨v1, v2⟩ := (rVal h hp q1 lp).2 hr
  have bd := (xv_mPr h.2.1 ha (rSh h).2).1 _ q2
  refine ⟨_, v2, v1, rfl, ?_, by omega, by omega⟩
  rw [v1, (rPr h ha hb hq).2, if_pos lq, ← iI_nat, show (120 : Int32) = iI 120 from rfl, iI_mul, iI_sub]
theorem rOwn (h : rDs σ s0 N M K) (ha : dC s0 = some a) (hb : rBt σ s0 N) {p : Nat} (hp : p < N) (lp : xl s0 p = true) : DI σ (1200 + p) (bR σ p) = 0 := by
  obtain ⟨e1, e2, e3, e4, e5⟩ := rDs_lv h
  obtain ⟨p1, p2, p3, p4, -⟩ := (rCh h ha hb hp).1 lp
  rw [p4, (rVal h hp p1 lp).1]
  have := ((dC_A ha).2.1 _ p2).2
  rw [e4] at this
  exact this
/-- nobody envies anybody -/
theorem rNoE (h : rDs σ s0 N M K) (ha : dC s0 = some a) (hb : rBt σ s0 N) {p q : Nat} (hp : p < N) (hq : q < N) (lp : xl s0 p = true) (lq : xl s0 q = true) (hr : DI σ (1200 + p) (bR σ q) = 0) : 120 * DI σ (1110 + p) (bR σ q) - dpRow σ N q ≤ 120 * DI σ (1110 + p) (bR σ p) - dpRow σ N p := by
  obtain ⟨v, v1, v2, v3, v4, v5, v6⟩ := rGn h ha hb hp hq lp lq hr
  obtain ⟨u, u1, u2, u3, u4, u5, u6⟩ := rGn h ha hb hp hp lp lp (rOwn h ha hb hp lp)
  rw [v4, u4, iI_le ⟨by omega, by omega⟩ ⟨by omega, by omega⟩]
  by_cases c : p = q
  · subst c
    rw [v3, u3]
    exact Int.le_refl _
  · obtain ⟨p1, p2, p3, p4, -⟩ := (rCh h ha hb hp).1 lp
    obtain ⟨q1, q2, q3, q4, -⟩ := (rCh h ha hb hq).1 lq
    have g : gE (dW (s0.1 323) N) a.2.2 (cn (xl s0) p) (cn (xl s0) q) = true := by
      unfold gE
      rw [q4] at hr
      rw [Bool.and_eq_true, decide_eq_true_eq]
      exact ⟨fun z => c (cn_inj lp lq z), (rVal h hp q1 lp).1.mp hr⟩
    have k := bI_sol h ha p2 q2 g
    have e : gG (dW (s0.1 323) N) a.2.2 (cn (xl s0) p) (cn (xl s0) q) = 120 * ((v : Int) - u) := by
      unfold gG gw
      rw [v3, u3]
    rw [e] at k
    unfold prI
    omega
/-- whose room it is -/
theorem rOw (h : rDs σ s0 N M K) (ha : dC s0 = some a) (hb : rBt σ s0 N) {p : Nat} (hp : p < N) (lp : xl s0 p = true) : mOw s0 (DI σ 1107 p) = nI p ∧ mR s0 (DI σ 1107 p) = true := by
  obtain ⟨e1, e2, e3, e4, e5⟩ := rDs_lv h
  obtain ⟨p1, p2, p3, p4, -⟩ := (rCh h ha hb hp).1 lp
  have hM := h.1.1.2.2
  have eR : mR s0 (DI σ 1107 p) = true := (xv_R h.2.1 _).2.mpr ⟨_, p1, p3⟩
  refine ⟨?_, eR⟩
  obtain ⟨-, d1, d2⟩ := dC_A ha
  have ow : ∀ q, q < N → (qch (dC s0) (xl s0) N q = DI σ 1107 p ↔ q = p) := fun q hq => by
    rw [ha]
    unfold qch
    dsimp only
    rw [p3]
    by_cases l : xl s0 q = true
    · rw [if_pos ⟨l, hq⟩]
      obtain ⟨q1, q2, -⟩ := (rCh h ha hb hq).1 l
      rw [nI_eq (by omega) (by omega)]
      exact ⟨fun z => cn_inj l lp (d2 _ _ q2 p2 z), fun z => by rw [z]⟩
    · rw [if_neg (fun z => l z.1)]
      exact ⟨fun z => absurd ((nI_m1 (by omega)).mp z.symm) id, fun z => absurd (by rw [z]; exact lp) l⟩
  unfold mOw
  rw [e4]
  have := ff_is (p := fun q => decide (qch (dC s0) (xl s0) N q = DI σ 1107 p)) N 0 p hp (by
    rw [Nat.zero_add, decide_eq_true_eq, ow p hp]) (fun q hq z => by
    rw [Nat.zero_add, decide_eq_true_eq, ow q (by omega)] at z
    omega)
  rw [Nat.zero_add] at this
  exact this
end RN
