/-! the reference: what it tells of the proposal -/
def sR (σ τ : jM) : Prop := τ.1 323 = σ.1 323 ∧ τ.1 322 3 = σ.1 322 3 ∧ τ.1 322 4 = σ.1 322 4
theorem sR_N {σ τ : jM} (h : sR σ τ) : mN τ = mN σ := by unfold mN; rw [h.2.2]
theorem sR_R {σ τ : jM} (h : sR σ τ) : mRo τ = mRo σ := by unfold mRo; rw [h.2.1]
theorem sR_Lv {σ τ : jM} (h : sR σ τ) : mLiv τ = mLiv σ := by
  show cn (dL (τ.1 323)) (mN τ) = cn (dL (σ.1 323)) (mN σ)
  rw [h.1, sR_N h]
theorem sR_D {σ τ : jM} (h : sR σ τ) (p w : Nat) : mD τ p w = mD σ p w := by unfold mD; rw [h.1]
theorem sR_l {σ τ : jM} (h : sR σ τ) : xl τ = xl σ := by unfold xl; rw [h.1]
theorem sR_p {σ τ : jM} (h : sR σ τ) : xp τ = xp σ := by funext i; unfold xp; rw [sR_N h, sR_l h]
theorem sR_C {σ τ : jM} (h : sR σ τ) : dC τ = dC σ := by unfold dC; rw [sR_Lv h, h.1, sR_N h, sR_R h]
theorem sR_A {σ τ : jM} (h : sR σ τ) : mA τ = mA σ := by unfold mA; rw [sR_C h]
theorem sR_Lo {σ τ : jM} (h : sR σ τ) : mLo τ = mLo σ := by funext p; unfold mLo; rw [h.1, sR_N h, sR_A h, sR_Lv h]
theorem sR_Hi {σ τ : jM} (h : sR σ τ) : mHi τ = mHi σ := by funext p; unfold mHi; rw [h.1, sR_N h, sR_A h, sR_Lv h]
theorem sR_Bs {σ τ : jM} (h : sR σ τ) : mBs τ = mBs σ := by funext p; unfold mBs; rw [h.1, sR_Lo h, sR_Hi h]
theorem sR_Ip {σ τ : jM} (h : sR σ τ) (x : Int32) : mIp τ x = mIp σ x := by unfold mIp; rw [h.1]
theorem sR_Mo {σ τ : jM} (h : sR σ τ) (x : Int32) : mMo τ x = mMo σ x := by unfold mMo; rw [h.1, sR_Ip h, sR_Bs h, sR_N h, sR_Lv h]
theorem sR_Pr {σ τ : jM} (h : sR σ τ) (x : Int32) : mPr τ x = mPr σ x := by funext p; unfold mPr; rw [h.1, sR_Bs h, sR_Mo h]
theorem sR_bI {σ τ : jM} (h : sR σ τ) : bI τ = bI σ := by funext i; unfold bI; rw [h.1, sR_N h, sR_A h, sR_Lv h]
theorem sR_pp {σ τ : jM} (h : sR σ τ) (n : Nat) : ppN τ n = ppN σ n := by unfold ppN; rw [h.1]
theorem sR_ip {σ τ : jM} (h : sR σ τ) (n : Nat) : ipN τ n = ipN σ n := by unfold ipN; rw [h.1]
theorem sR_mo {σ τ : jM} (h : sR σ τ) (n : Nat) : moI τ n = moI σ n := by unfold moI; rw [sR_pp h, sR_bI h, sR_Lv h]
theorem sR_pr {σ τ : jM} (h : sR σ τ) (n : Nat) : prI τ n = prI σ n := by funext i; unfold prI; rw [sR_bI h, sR_mo h]
theorem sR_lf {σ τ : jM} (h : sR σ τ) (n : Nat) : lfI τ n = lfI σ n := by unfold lfI; rw [sR_pp h, sR_pr h, sR_Lv h]
theorem sR_un {σ τ : jM} (h : sR σ τ) (n : Nat) : unS τ n = unS σ n := by unfold unS; rw [sR_lf h, sR_pr h, sR_Lv h]
theorem sR_ic {σ τ : jM} (h : sR σ τ) : icN τ = icN σ := by funext i; unfold icN; rw [sR_p h, sR_D h]
theorem sR_sh {σ τ : jM} (h : sR σ τ) (n : Nat) : shS τ n = shS σ n := by unfold shS; rw [sR_ip h, sR_ic h, sR_Lv h]
theorem sR_pa {σ τ : jM} (h : sR σ τ) (n : Nat) : paS τ n = paS σ n := by funext i; unfold paS; rw [sR_un h, sR_sh h]
theorem sR_mP {σ τ : jM} (h : sR σ τ) (x : Int32) : mP τ x = mP σ x := by unfold mP; rw [h.2.2]
theorem sR_mR {σ τ : jM} (h : sR σ τ) (x : Int32) : mR τ x = mR σ x := by unfold mR; rw [h.2.1]
/-- the scratch -/
def aSc (a j : Nat) : Bool := Nat.ble 330 a && Nat.ble a 345 || a == 322 && (j == 11 || j == 14 || j == 15 || j == 30)
def bSc (a : Nat) : Bool := a == 336 || a == 337
theorem sc_323 (j : Nat) : aSc 323 j = false := by
  unfold aSc
  simp
theorem sc_th (σ : jM) (x : Int32) : jfr aSc bSc σ (jup σ 322 11 x) := jfr.rfl.up _ rfl
def shN (σ : jM) : Nat := (σ.1 323 1).toNatClampNeg
def oM_hasProposal : jO := joR fun a σ => (a = 322 ∧ mOK σ ∧ dI (σ.1 323), fun v τ => v = some (.int (if (dC σ).isSome then 1 else 0)) ∧ jfr aSc bSc σ τ ∧ τ.1 322 11 = 0)
def oM_proposedValue : jO := joR fun a σ => (a = 322 ∧ mOK σ ∧ dI (σ.1 323), fun v τ => v = some (.int (qs (dC σ))) ∧ jfr aSc bSc σ τ ∧ τ.1 322 11 = 0)
def oM_choiceCount : jO := joR fun a σ => (a = 322 ∧ mOK σ ∧ dI (σ.1 323), fun v τ => v = some (.int (qc (dC σ))) ∧ jfr aSc bSc σ τ ∧ τ.1 322 11 = 0)
def oM_proposedRoom : jO := joRI fun a x σ => (a = 322 ∧ mOK σ ∧ dI (σ.1 323), fun v τ => v = some (.int (if mP σ x = true then qch (dC σ) (xl σ) (mN σ) x.toNatClampNeg else 0)) ∧ jfr aSc bSc σ τ ∧ τ.1 322 11 = if mP σ x = true then 0 else 1)
/-- numbers of one who lives, where there is a proposal -/
def mNo (σ : jM) (p : Int32) (v : Int32) : Int32 := if mP σ p = true then (if (dC σ).isSome = true ∧ xl σ p.toNatClampNeg = true then v else -2000000000) else 0
def oM_proposedPayment : jO := joRI fun a x σ => (a = 322 ∧ mOK σ ∧ dI (σ.1 323), fun v τ => v = some (.int (mNo σ x (paS σ (shN σ) (cn (xl σ) x.toNatClampNeg)))) ∧ jfr aSc bSc σ τ ∧ τ.1 322 11 = if mP σ x = true then 0 else 1)
