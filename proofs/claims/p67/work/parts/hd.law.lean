/-! the law's split -/
/-- a person's weight as it counts: none for who isn't there; one each if there is none at all -/
def uWg (h : Nat → Int32) (wt : Nat → Nat) (W p : Nat) : Nat := if h p = 0 then 0 else if W = 0 then 1 else wt p
def uAll (h : Nat → Int32) (wt : Nat → Nat) (k : Nat) : Nat := smN (fun p => if h p = 0 then 0 else wt p) k
def uSum (h : Nat → Int32) (wt : Nat → Nat) (N : Nat) : Nat := smN (uWg h wt (uAll h wt N)) N
def uQ (A : Nat) (h : Nat → Int32) (wt : Nat → Nat) (N p : Nat) : Nat := A * uWg h wt (uAll h wt N) p / uSum h wt N
def uR (A : Nat) (h : Nat → Int32) (wt : Nat → Nat) (N p : Nat) : Nat := A * uWg h wt (uAll h wt N) p % uSum h wt N
def uRow (A : Nat) (h : Nat → Int32) (wt : Nat → Nat) (N : Nat) : Nat → Int32 := if cn (fun p => !decide (h p = 0)) N = 0 then fillI (fun _ => 0) N else
  (rsS h N (A - smN (uQ A h wt N) N) (fillI (fun p => nI (uQ A h wt N p)) N, fillL (fun p => lN (uR A h wt N p)) N)).1
theorem smN_cg {f h : Nat → Nat} : ∀ (n : Nat), (∀ i, i < n → f i = h i) → smN f n = smN h n
  | 0, _ => rfl
  | n + 1, e => by simp only [smN]; rw [smN_cg n (fun i hi => e i (by omega)), e n (by omega)]
theorem smN_div {A U : Nat} {w : Nat → Nat} : ∀ n, smN (fun p => A * w p / U) n * U ≤ A * smN w n
  | 0 => by simp [smN]
  | n + 1 => by
    have ih := smN_div (A := A) (U := U) (w := w) n
    have h1 := Nat.div_mul_le_self (A * w n) U
    simp only [smN]
    rw [Nat.add_mul, Nat.mul_add]
    omega
theorem smN_up {f : Nat → Nat} : ∀ {n k : Nat}, k ≤ n → smN f k ≤ smN f n
  | 0, k, h => by
    have : k = 0 := by omega
    subst this
    exact Nat.le_refl _
  | n + 1, k, h => by
    by_cases c : k = n + 1
    · rw [c]; exact Nat.le_refl _
    · have := smN_up (f := f) (show k ≤ n by omega)
      simp only [smN]
      omega
theorem smN_at {f : Nat → Nat} {n k : Nat} (h : k < n) : f k ≤ smN f n := by
  have := smN_up (f := f) (show k + 1 ≤ n by omega)
  simp only [smN] at this
  omega
theorem uQ_sum (A : Nat) (h : Nat → Int32) (wt : Nat → Nat) {N k : Nat} (hk : k ≤ N) (hU : 0 < uSum h wt N) : smN (uQ A h wt N) k ≤ A := by
  have h1 := smN_div (A := A) (U := uSum h wt N) (w := uWg h wt (uAll h wt N)) k
  have h2 : smN (uWg h wt (uAll h wt N)) k ≤ uSum h wt N := smN_up hk
  have h3 : smN (uQ A h wt N) k * uSum h wt N ≤ A * uSum h wt N := Nat.le_trans h1 (Nat.mul_le_mul_left A h2)
  exact Nat.le_of_mul_le_mul_right h3 hU
theorem uSum_pos {h : Nat → Int32} {wt : Nat → Nat} {N : Nat} (hc : ¬ cn (fun p => !decide (h p = 0)) N = 0) : 0 < uSum h wt N ∧ ∃ p, p < N ∧ ¬ h p = 0 := by
  have hex : ∃ p, p < N ∧ ¬ h p = 0 := by
    have key : ∀ n, ¬ cn (fun p => !decide (h p = 0)) n = 0 → ∃ p, p < n ∧ ¬ h p = 0 := fun n => by
      induction n with
      | zero => intro h9; exact absurd rfl h9
      | succ n ih =>
        intro h9
        by_cases c : h n = 0
        · simp only [cn] at h9
          rw [if_neg (by simp [c])] at h9
          obtain ⟨p, p1, p2⟩ := ih (by simpa using h9)
          exact ⟨p, by omega, p2⟩
        · exact ⟨n, by omega, c⟩
    exact key N hc
  refine ⟨?_, hex⟩
  obtain ⟨p, p1, p2⟩ := hex
  by_cases c : uAll h wt N = 0
  · have h1 := smN_at (f := uWg h wt (uAll h wt N)) p1
    have e : uWg h wt (uAll h wt N) p = 1 := by
      unfold uWg
      rw [if_neg p2, if_pos c]
    unfold uSum
    omega
  · have e : uSum h wt N = uAll h wt N := by
      unfold uSum
      refine smN_cg N (fun i _ => ?_)
      unfold uWg
      rw [if_neg c]
    omega
theorem uSum_eq (h : Nat → Int32) (wt : Nat → Nat) (N : Nat) : uSum h wt N = if uAll h wt N = 0 then cn (fun p => !decide (h p = 0)) N else uAll h wt N := by
  by_cases c : uAll h wt N = 0
  · rw [if_pos c]
    unfold uSum
    have key : ∀ n, smN (uWg h wt (uAll h wt N)) n = cn (fun p => !decide (h p = 0)) n := fun n => by
      induction n with
      | zero => rfl
      | succ n ih =>
        simp only [smN, cn]
        rw [ih]
        unfold uWg
        by_cases d : h n = 0
        · simp [d]
        · simp [d, c]
    exact key N
  · rw [if_neg c]
    unfold uSum
    refine smN_cg N (fun i _ => ?_)
    unfold uWg
    rw [if_neg c]
theorem fillI_z {F : Nat → Int32} {k : Nat} (h : F k = 0) : fillI F (k + 1) = fillI F k := by
  funext j
  unfold fillI
  by_cases c : j = k
  · subst c
    rw [if_pos (by omega), if_neg (by omega), h]
  · by_cases d : j < k
    · rw [if_pos (by omega), if_pos d]
    · rw [if_neg (by omega), if_neg d]
theorem fillL_z {F : Nat → Int64} {k : Nat} (h : F k = 0) : fillL F (k + 1) = fillL F k := by
  funext j
  unfold fillL
  by_cases c : j = k
  · subst c
    rw [if_pos (by omega), if_neg (by omega), h]
  · by_cases d : j < k
    · rw [if_pos (by omega), if_pos d]
    · rw [if_neg (by omega), if_neg d]
theorem rsD_fI {σ : dM} {a0 a1 k : Nat} {F : Nat → Int32} {u : Nat → Int64} {x : Int32} (h : x = F k) : DuI (rsD σ a0 a1 (fillI F k, u)) a0 k x = rsD σ a0 a1 (fillI F (k + 1), u) := by
  have := fillI_s (δ := σ) (a := a0) h
  unfold rsD
  rw [← this]
  rfl
theorem rsD_fL {σ : dM} {a0 a1 k : Nat} {f : Nat → Int32} {F : Nat → Int64} {x : Int64} (h : x = F k) : DuL (rsD σ a0 a1 (f, fillL F k)) a1 k x = rsD σ a0 a1 (f, fillL F (k + 1)) := by
  unfold rsD
  exact fillL_s h
def prSp (σ : dM) (x : Int32) (w h : Nat) : Prop := ∃ N M A, ∃ wt : Nat → Nat, dk σ N M ∧ x = nI A ∧ A ≤ 99999 ∧ (w = 1311 ∨ w = 1313) ∧ h = 1210 ∧ (DA σ w = true ∧ DN σ w = N) ∧ (DA σ h = true ∧ DN σ h = N) ∧ (∀ p, p < N → DL σ w p = lN (wt p) ∧ wt p ≤ 100000000) ∧ DA σ 1124 = false ∧ DA σ 1310 = false
/-- the result of split -/
def spRes (σ : dM) (x : Int32) (w h : Nat) : dM := DrI (Dnw σ 1124 (DI σ 1000 2).toNatClampNeg) 1124 (uRow x.toNatClampNeg (DI σ h) (fun p => (DL σ w p).toInt.toNat) (DI σ 1000 2).toNatClampNeg)
theorem Dsub_2 {σ τ : dM} {a b N : Nat} {f : Nat → Int32} (hcl : Dcl0 σ) (hab : a ≠ b) (ha : DA σ a = false) (hb : DA σ b = false) (h1 : DS τ = DS σ) (hA : DA τ a = true ∧ ∀ k, k ≠ a → k ≠ b → DA τ k = DA σ k) (hN : DN τ a = N ∧ ∀ k, k ≠ a → k ≠ b → DN τ k = DN σ k) (hI : (∀ j, DI τ a j = f j) ∧ ∀ k, k ≠ a → k ≠ b → DI τ k = DI σ k) (hL : (∀ j, DL τ a j = 0) ∧ ∀ k, k ≠ a → k ≠ b → DL τ k = DL σ k) (hR : (∀ j, DR τ a j = none) ∧ ∀ k, k ≠ a → k ≠ b → DR τ k = DR σ k) : Dsub (DrI (Dnw σ a N) a f) τ := by
  refine ⟨h1.symm, Dnw_cl hcl, fun k h1 hk => ?_⟩
  have hk' : (if k = a then true else DA σ k) = true := hk
  by_cases c : k = a
  · subst c
    refine ⟨hA.1, ?_, ?_, ?_, ?_⟩
    · funext j
      rw [DrI_I, if_pos rfl]
      exact (hI.1 j).symm
    · funext j
      rw [DrI_L, Dnw_L, if_pos rfl]
      exact (hL.1 j).symm
    · funext j
      rw [DrI_R, Dnw_R, if_pos rfl]
      exact (hR.1 j).symm
    · rw [DrI_N, Dnw_N, if_pos rfl]
      exact hN.1.symm
  · rw [if_neg c] at hk'
    have d : k ≠ b := fun z => by rw [z, hb] at hk'; cases hk'
    refine ⟨by rw [hA.2 k c d]; exact hk', ?_, ?_, ?_, ?_⟩
    · rw [hI.2 k c d]
      funext j
      rw [DrI_I, if_neg c, Dnw_I, if_neg c]
    · rw [hL.2 k c d]
      funext j
      rw [DrI_L, Dnw_L, if_neg c]
    · rw [hR.2 k c d]
      funext j
      rw [DrI_R, Dnw_R, if_neg c]
    · rw [hN.2 k c d, DrI_N, Dnw_N, if_neg c]
def dX12_split : dO := doRIRR fun a x w h σ => (a = 1000 ∧ prSp σ x w h, fun v τ => v = some (.ref 1124) ∧ τ = spRes σ x w h)
