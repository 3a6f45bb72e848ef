/-! the deposit in the law and in the class -/
section RT
variable {σ : dM} {s0 : jM} {N M K : Nat}
theorem rPay (h : rDs σ s0 N M K) {p : Nat} (hp : p < N) : DI σ 1103 p = mD s0 p 3 ∧ (mD s0 p 3).toNatClampNeg ≤ 100000000 ∧ (if DI σ 1103 p ≤ 0 then (0 : Int32) else DI σ 1103 p).toInt64 = lN (mD s0 p 3).toNatClampNeg := by
  have hN := h.1.1.1.2
  have e : DI σ 1103 p = mD s0 p 3 := (h.2.2.1 p hp).2.2.2.1
  have b := h.2.1.2.1.2.1.2.2.2.2.1 p (by omega)
  have b' : -100000000 ≤ mD s0 p 3 ∧ mD s0 p 3 ≤ 100000000 := b
  rw [Int32.le_iff_toInt_le, Int32.le_iff_toInt_le, show (-100000000 : Int32).toInt = -100000000 by decide, show (100000000 : Int32).toInt = 100000000 by decide] at b'
  have hc : ((mD s0 p 3).toNatClampNeg : Int) = if 0 ≤ (mD s0 p 3).toInt then (mD s0 p 3).toInt else 0 := by
    unfold Int32.toNatClampNeg
    split
    · omega
    · omega
  refine ⟨e, by split at hc <;> omega, ?_⟩
  rw [e]
  refine Int64.toInt_inj.mp ?_
  rw [Int32.toInt_toInt64, pk_lT (by split at hc <;> omega)]
  by_cases c : mD s0 p 3 ≤ 0
  · rw [if_pos c]
    rw [Int32.le_iff_toInt_le, Int32.toInt_zero] at c
    rw [Int32.toInt_zero]
    split at hc <;> omega
  · rw [if_neg c]
    rw [Int32.le_iff_toInt_le, Int32.toInt_zero] at c
    split at hc <;> omega
theorem rTg (h : rDs σ s0 N M K) {has : Nat → Int32} (hh : ∀ p, p < N → (has p = 0 ↔ ¬ xl s0 p = true)) {wt : Nat → Nat} (hw : ∀ p, p < N → wt p = (mD s0 p 3).toNatClampNeg) {p : Nat} (hp : p < N) : uRow (dpN s0) has wt N p = tgS s0 p := by
  obtain ⟨e1, e2, e3, e4, e5⟩ := rDs_lv h
  rw [uRow_sp h.1.1.1.2 hh (fun q hq => by rw [hw q hq]; exact (rPay h hq).2.1) hp]
  unfold tgS
  by_cases l : xl s0 p = true
  · rw [if_pos l, if_pos l, ← e3]
    refine spS_congr (fun i hi => ?_) _ (by rw [e3]; exact cn_lt l hp)
    obtain ⟨x1, x2, x3⟩ := qpl_is (p := xl s0) (N := N) (i := i) (by rw [← e3]; exact hi)
    unfold tgW xp
    rw [hw _ x2, e4]
  · rw [if_neg l, if_neg l]
theorem rDep (h : rDs σ s0 N M K) : DI σ 1000 13 = nI (dpN s0) ∧ dpN s0 ≤ 99999 := by
  obtain ⟨k, k1, k2, k3⟩ := nI_rng (xv_dI h.2.1).2.2.2.1.1 (xv_dI h.2.1).2.2.2.1.2 (by decide)
  unfold dpN
  rw [h.2.2.2.2.2.1, k3]
  exact ⟨k2, k1⟩
/-- what each owes, as the law has it after k persons -/
def duR (s0 : jM) (k j : Nat) : Int32 := if j < k then iI (duP s0 j) else if j = 10 then iI (-sI (duP s0) k) else 0
def dRow (d : Nat → Int) (j : Nat) : Int32 := if j < 11 then iI (d j) else 0
theorem duP_bd (h : rDs σ s0 N M K) (p : Nat) : (-200000 ≤ duP s0 p ∧ duP s0 p ≤ 200000) ∧ (N ≤ p → duP s0 p = 0) ∧ (p < N → iI (duP s0 p) = tgS s0 p - DI σ 1104 p) := by
  obtain ⟨-, -, -, e4, -⟩ := rDs_lv h
  unfold duP
  rw [e4]
  by_cases c : p < N
  · have hN := h.1.1.1.2
    have t := tg_bd h.2.1 c
    have s : 0 ≤ mD s0 p 5 ∧ mD s0 p 5 ≤ 200000 := (h.2.1.2.1.2.1.2.2.2.2.2.1 p (by omega)).1
    have e : DI σ 1104 p = mD s0 p 5 := (h.2.2.1 p c).2.2.2.2.2
    rw [Int32.le_iff_toInt_le, Int32.le_iff_toInt_le, Int32.toInt_zero, show (200000 : Int32).toInt = 200000 by decide] at t s
    rw [if_pos c, e]
    refine ⟨by omega, fun z => by omega, fun _ => ?_⟩
    rw [← iI_sub, iI_of, iI_of]
  · rw [if_neg c]
    exact ⟨by omega, fun _ => rfl, fun z => absurd z c⟩
theorem sI_duP (h : rDs σ s0 N M K) : ∀ k, N ≤ k → sI (duP s0) k = sI (duP s0) N
  | 0, hk => by rw [show N = 0 by omega]
  | k + 1, hk => by
    by_cases c : N = k + 1
    · rw [c]
    · show sI (duP s0) k + duP s0 k = _
      rw [sI_duP h k (by omega), (duP_bd h k).2.1 (by omega), Int.add_zero]
theorem sI_dbd (h : rDs σ s0 N M K) (k : Nat) (hk : k ≤ 10) : -2000000 ≤ sI (duP s0) k ∧ sI (duP s0) k ≤ 2000000 := by
  have := sI_bd (f := duP s0) (B := 200000) k (fun i _ => (duP_bd h i).1)
  omega
theorem duI_ok (h : rDs σ s0 N M K) : okD (duI s0) := by
  have e : ∀ i, i < 10 → duI s0 i = duP s0 i := fun i hi => if_pos hi
  have e10 : duI s0 10 = -sI (duP s0) 10 := if_neg (by omega)
  refine ⟨?_, fun i hi => ?_⟩
  · show sI (duI s0) 10 + duI s0 10 = 0
    rw [sI_congr 10 e, e10]
    omega
  · by_cases c : i < 10
    · rw [e i c]
      have := (duP_bd h i).1
      omega
    · rw [show i = 10 by omega, e10]
      have := sI_dbd h 10 (by omega)
      omega
theorem duR_N (h : rDs σ s0 N M K) (j : Nat) : duR s0 N j = dRow (duI s0) j := by
  have hN := h.1.1.1.2
  unfold duR dRow duI
  by_cases c : j < N
  · rw [if_pos c, if_pos (by omega), if_pos (by omega)]
  · rw [if_neg c]
    by_cases d : j = 10
    · rw [if_pos d, if_pos (by omega), if_neg (by omega), sI_duP h 10 (by omega)]
    · rw [if_neg d]
      by_cases e : j < 11
      · rw [if_pos e, if_pos (by omega), (duP_bd h j).2.1 (by omega)]
        rfl
      · rw [if_neg e]
theorem duR_s {k j : Nat} (hk : k < 5) : duR s0 (k + 1) j = if j = 10 then duR s0 k 10 - iI (duP s0 k) else if j = k then iI (duP s0 k) else duR s0 k j := by
  unfold duR
  by_cases c : j = 10
  · rw [if_neg (by omega), if_pos c, if_pos c, if_neg (by omega), if_pos rfl, iI_sub]
    refine congrArg iI ?_
    show -(sI (duP s0) k + duP s0 k) = _
    omega
  · rw [if_neg c]
    by_cases d : j = k
    · rw [if_pos (by omega), if_neg c, if_pos d, d]
    · rw [if_neg d]
      by_cases e : j < k
      · rw [if_pos (by omega), if_neg c, if_pos e]
      · rw [if_neg (by omega), if_neg c, if_neg e, if_neg c]
end RT
