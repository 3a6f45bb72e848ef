/-! the law's prices and payments are the class's -/
theorem dyF_i {v : Int} (hv : -100000000 ≤ v ∧ v ≤ 100000000) : dyF (iI v) = iI (v / 120) ∧ iI v - 120 * dyF (iI v) = iI (v % 120) := by
  have e1 : iI v / 120 = iI (v.tdiv 120) := iI_tdiv (y := 120) ⟨by omega, by omega⟩ (by decide)
  obtain ⟨t1, t2⟩ := tdiv_120 v
  have hb : -100000000 ≤ v.tdiv 120 ∧ v.tdiv 120 ≤ 100000000 := by
    by_cases c : 0 ≤ v
    · rw [t1 c]; omega
    · rw [t2 (by omega)]; omega
  have e2 : (120 : Int32) * (iI v / 120) = iI (120 * v.tdiv 120) := by
    rw [e1, show (120 : Int32) = iI 120 from rfl, iI_mul]
  have h120 : -100000120 ≤ 120 * v.tdiv 120 ∧ 120 * v.tdiv 120 ≤ 100000120 := by
    by_cases c : 0 ≤ v
    · rw [t1 c]; omega
    · rw [t2 (by omega)]; omega
  have e3 : dyF (iI v) = iI (v / 120) := by
    unfold dyF
    rw [e2, e1]
    by_cases c : 120 * v.tdiv 120 ≤ v
    · rw [if_pos ((iI_le ⟨by omega, by omega⟩ ⟨by omega, by omega⟩).mpr c)]
      refine congrArg iI ?_
      by_cases d : 0 ≤ v
      · exact t1 d
      · rw [t2 (by omega)] at c ⊢
        omega
    · rw [if_neg (fun z => c ((iI_le ⟨by omega, by omega⟩ ⟨by omega, by omega⟩).mp z)), show (1 : Int32) = iI 1 from rfl, iI_sub]
      refine congrArg iI ?_
      by_cases d : 0 ≤ v
      · rw [t1 d] at c ⊢
        omega
      · rw [t2 (by omega)] at c ⊢
        omega
  refine ⟨e3, ?_⟩
  rw [e3, show (120 : Int32) = iI 120 from rfl, iI_mul, iI_sub]
  refine congrArg iI ?_
  omega
theorem iI_64 {x : Int} (h : iB x) : (iI x).toInt64 = lI x := by
  refine Int64.toInt_inj.mp ?_
  rw [lI_toInt ⟨by omega, by omega⟩, Int32.toInt_toInt64, iI_toInt h]
section RP
variable {σ : dM} {s0 : jM} {N M K : Nat} {a : Nat × Nat × (Nat → Nat)}
theorem rLt (h : rDs σ s0 N M K) (ha : dC s0 = some a) (hb : rBt σ s0 N) {p : Nat} (hp : p < N) : DI σ 1107 p < 0 ↔ ¬ xl s0 p = true := by
  by_cases l : xl s0 p = true
  · exact ⟨fun z => absurd z ((rCh h ha hb hp).1 l).2.2.2.2, fun z => absurd l z⟩
  · exact ⟨fun _ => l, fun _ => by rw [(rCh h ha hb hp).2 l]; decide⟩
theorem rSh (h : rDs σ s0 N M K) : s0.1 323 1 = nI (shN s0) ∧ shN s0 ≤ 100 := by
  obtain ⟨-, -, -, -, d5⟩ := xv_dI h.2.1
  obtain ⟨k, k1, k2, k3⟩ := nI_rng d5.1 d5.2 (by decide)
  unfold shN
  rw [k3]
  exact ⟨k2, k1⟩
theorem rPr (h : rDs σ s0 N M K) (ha : dC s0 = some a) (hb : rBt σ s0 N) {p : Nat} (hp : p < N) : dpRow σ N p = mPr s0 (nI (shN s0)) p ∧ dpRow σ N p = if xl s0 p = true then iI (prI s0 (shN s0) (cn (xl s0) p)) else 0 := by
  obtain ⟨e1, e2, e3, e4, e5⟩ := rDs_lv h
  obtain ⟨f3, f4, f0, f1, f2, f5, f6⟩ := h.2.2.2.2
  obtain ⟨s1, s2⟩ := rSh h
  have eP : ∀ q, q < N → dpP σ N q = mBs s0 q := fun q hq => by
    unfold dpP mBs
    obtain ⟨x0, x1⟩ := rEx h ha hb hq
    by_cases l : xl s0 q = true
    · have l' : dL (s0.1 323) q = true := l
      rw [if_neg (fun z => (rLt h ha hb hq).mp z l), if_pos l', f0, x0, x1]
    · have l' : ¬ dL (s0.1 323) q = true := l
      rw [if_pos ((rLt h ha hb hq).mpr l), if_neg l']
  have eM : dpMore σ N = mMo s0 (nI (shN s0)) := by
    unfold dpMore mMo mIp
    rw [e2, e4, f3, f1, s1, sm_congr N eP]
  have e9 : dpRow σ N p = mPr s0 (nI (shN s0)) p := by
    unfold dpRow dpQ mPr
    rw [if_pos hp, eP p hp, eM]
    by_cases l : xl s0 p = true
    · have l' : dL (s0.1 323) p = true := l
      rw [if_pos ⟨hp, fun z => (rLt h ha hb hp).mp z l⟩, if_pos l']
    · have l' : ¬ dL (s0.1 323) p = true := l
      rw [if_neg (fun z => z.2 ((rLt h ha hb hp).mpr l)), if_neg l']
      unfold mBs
      rw [if_neg l']
  refine ⟨e9, ?_⟩
  rw [e9]
  exact (xv_mPr h.2.1 ha s2).2.1 p (by rw [e4]; exact hp)
theorem rDyA (h : rDs σ s0 N M K) : dyA σ = nI (ipN s0 (shN s0)) ∧ ipN s0 (shN s0) ≤ 99999 ∧ DI σ 1000 12 - dyA σ = nI (ppN s0 (shN s0)) ∧ ppN s0 (shN s0) ≤ 99999 := by
  obtain ⟨f3, f4, f0, f1, f2, f5, f6⟩ := h.2.2.2.2
  obtain ⟨s1, s2⟩ := rSh h
  obtain ⟨L, l1, l2, l3, l4, l5, l6, l7, l8⟩ := ip_le (xv_dI h.2.1) s2
  have e : dyA σ = mIp s0 (nI (shN s0)) := by
    unfold dyA mIp
    rw [f3, f1, s1]
  rw [e, f3, l5]
  rw [l5] at l6
  exact ⟨rfl, by omega, l6, by omega⟩
theorem lvI_0 {p : Nat} : lvI σ p = 0 ↔ ¬ lv σ p = true := by
  unfold lvI
  by_cases c : lv σ p = true
  · rw [if_pos c]
    exact ⟨fun z => absurd z (by decide), fun z => absurd c z⟩
  · rw [if_neg c]
    exact ⟨fun _ => c, fun _ => rfl⟩
theorem rDyR (h : rDs σ s0 N M K) (ha : dC s0 = some a) (hb : rBt σ s0 N) : ∀ k, k ≤ N → dyR σ N k = iI ((ppN s0 (shN s0) : Int) - sI (fun i => prI s0 (shN s0) i / 120) (cn (xl s0) k))
  | 0, _ => by
    show DI σ 1000 12 - dyA σ = iI ((ppN s0 (shN s0) : Int) - 0)
    rw [(rDyA h).2.2.1, Int.sub_zero]
    rfl
  | k + 1, hk => by
    obtain ⟨e1, -⟩ := rDs_lv h
    have ih := rDyR h ha hb k (by omega)
    show (if lvI σ k = 0 then dyR σ N k else dyR σ N k - dyF (dpRow σ N k)) = _
    simp only [cn]
    by_cases l : xl s0 k = true
    · rw [if_neg (fun z => lvI_0.mp z (by rw [e1 k (by omega)]; exact l)), if_pos l, ih, (rPr h ha hb (show k < N by omega)).2, if_pos l]
      have hlt : cn (xl s0) k < mLiv s0 := by rw [(rDs_lv h).2.2.1]; exact cn_lt l (by omega)
      have bd := (xv_mPr h.2.1 ha (rSh h).2).1 _ hlt
      rw [(dyF_i ⟨by omega, by omega⟩).1, iI_sub]
      refine congrArg iI ?_
      show _ = (ppN s0 (shN s0) : Int) - (sI (fun i => prI s0 (shN s0) i / 120) (cn (xl s0) k) + prI s0 (shN s0) (cn (xl s0) k) / 120)
      omega
    · rw [if_pos (lvI_0.mpr (by rw [e1 k (by omega)]; exact l)), if_neg l, ih]
      rfl
theorem rPy (h : rDs σ s0 N M K) (ha : dC s0 = some a) (hb : rBt σ s0 N) : (0 ≤ lfI s0 (shN s0) ∧ lfI s0 (shN s0) < mLiv s0) ∧ dyR σ N N = nI (lfI s0 (shN s0)).toNat ∧ ∀ p, p < N → dyPay σ N N p = if xl s0 p = true then paS s0 (shN s0) (cn (xl s0) p) else 0 := by
  obtain ⟨e1, e2, e3, e4, e5⟩ := rDs_lv h
  have hN := h.1.1.1.2
  obtain ⟨b1, -, b3⟩ := xv_mPr h.2.1 ha (rSh h).2
  have hR : dyR σ N N = nI (lfI s0 (shN s0)).toNat := by
    rw [rDyR h ha hb N (Nat.le_refl _), ← e3, ← iI_nat]
    refine congrArg iI ?_
    rw [Int.toNat_of_nonneg b3.1]
    rfl
  refine ⟨b3, hR, fun p hp => ?_⟩
  have hm5 : mLiv s0 ≤ 5 := by
    rw [e3]
    have := cn_le (xl s0) N
    omega
  have hlt : ∀ q, q < N → xl s0 q = true → cn (xl s0) q < mLiv s0 := fun q hq l => by rw [e3]; exact cn_lt l hq
  have hh : ∀ q, q < N → (dyH σ N q = 0 ↔ ¬ xl s0 q = true) := fun q hq => by
    unfold dyH
    rw [fillI_lt hq, lvI_0, e1 q hq]
  -- the remainders are none below 0
  have hNn : hoN (fun i => prI s0 (shN s0) i % 120) (cn (xl s0) N) = cn (xl s0) N := by
    unfold hoN
    have : ∀ k, cn (fun i => decide ((0 : Int) ≤ prI s0 (shN s0) i % 120)) k = k := fun k => by
      induction k with
      | zero => rfl
      | succ k ih =>
        simp only [cn]
        rw [ih, if_pos (by rw [decide_eq_true_eq]; omega)]
    exact this _
  have key := rs_ho (N := N) (row := fillI (dyRow σ N) N) (left := fillL (dyLeft σ N) N) (r := fun i => prI s0 (shN s0) i % 120) (s := fun i => iI (prI s0 (shN s0) i / 120)) hh (fun q hq l => by
    have bd := b1 _ (hlt q hq l)
    have nl : ¬ lvI σ q = 0 := fun z => lvI_0.mp z (by rw [e1 q hq]; exact l)
    obtain ⟨d1, d2⟩ := dyF_i (v := prI s0 (shN s0) (cn (xl s0) q)) ⟨by omega, by omega⟩
    rw [fillI_lt hq, fillL_lt hq]
    unfold dyRow dyLeft
    rw [if_neg nl, if_neg nl, (rPr h ha hb hq).2, if_pos l, d1]
    rw [d1] at d2
    rw [d2]
    exact ⟨rfl, iI_64 ⟨by omega, by omega⟩⟩) (fun i _ => by omega) (lfI s0 (shN s0)).toNat (by rw [hNn, ← e3]; omega)
  have eB : dyBase σ N = rsS (dyH σ N) N (lfI s0 (shN s0)).toNat (fillI (dyRow σ N) N, fillL (dyLeft σ N) N) := by
    unfold dyBase
    rw [hR, nI_clamp (by omega)]
  have eS : dyShare σ N p = if xl s0 p = true then shS s0 (shN s0) (cn (xl s0) p) else 0 := by
    unfold dyShare
    obtain ⟨a1, a2, -⟩ := rDyA h
    have wv : ∀ q, q < N → (dyW σ N q).toInt.toNat = (mD s0 q 1).toNatClampNeg ∧ (mD s0 q 1).toNatClampNeg ≤ 99999 := fun q hq => by
      unfold dyW
      rw [fillL_lt hq, (h.2.2.1 q hq).2.1]
      have i1 := (xv_dI h.2.1).2.1 q (by omega)
      obtain ⟨k, k1, k2, k3⟩ := nI_rng i1.1 i1.2 (by decide)
      unfold mD
      rw [k2, Int32.toInt_toInt64, nI_toInt (by omega), nI_clamp (by omega)]
      exact ⟨rfl, k1⟩
    rw [a1, nI_clamp (by omega), uRow_sp hN hh (fun q hq => by
      obtain ⟨w1, w2⟩ := wv q hq
      rw [w1]; omega) hp]
    by_cases l : xl s0 p = true
    · rw [if_pos l, if_pos l]
      unfold shS
      rw [← e3]
      refine spS_congr (fun i hi => ?_) _ (hlt p hp l)
      obtain ⟨x1, x2, x3⟩ := qpl_is (p := xl s0) (N := N) (i := i) (by rw [← e3]; exact hi)
      unfold icN xp
      rw [e4]
      exact (wv _ x2).1
    · rw [if_neg l, if_neg l]
  unfold dyPay
  rw [if_pos hp, eB, eS]
  by_cases l : xl s0 p = true
  · rw [if_pos l, if_pos l, (key.1 p hp l).1]
    unfold paS unS
    rw [hoS_It, e3]
  · rw [if_neg l, if_neg l, key.2.1 p hp l, fillI_lt hp]
    unfold dyRow
    rw [if_pos (lvI_0.mpr (by rw [e1 p hp]; exact l))]
    rfl
end RP
