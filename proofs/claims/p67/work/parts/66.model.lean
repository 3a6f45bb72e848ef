/-! the reference: transfers told and made; plans told -/
def oM_transferCount : jO := joR fun a σ => (a = 322 ∧ mOK σ ∧ dI (σ.1 323) ∧ dSt (σ.1 323), fun v τ => v = some (.int (nI (trS σ).length)) ∧ jfr aSc bSc σ τ ∧ τ.1 322 11 = 0)
/-- a number of the transfer at a place -/
def trN (L : List trT) (i w : Int32) : Int32 := if w = 0 then nI (L.getD i.toNatClampNeg (0, 0, 0)).1 else if w = 1 then nI (L.getD i.toNatClampNeg (0, 0, 0)).2.1 else if w = 2 then iI (L.getD i.toNatClampNeg (0, 0, 0)).2.2 else -2
def oM_transfer : jO := joRII fun a x w σ => (a = 322 ∧ mOK σ ∧ dI (σ.1 323) ∧ dSt (σ.1 323), fun v τ => v = some (.int (if mIn x 0 (nI (trS σ).length - 1) = true then trN (trS σ) x w else 0)) ∧ jfr aSc bSc σ τ ∧ τ.1 322 11 = if mIn x 0 (nI (trS σ).length - 1) = true then 0 else 1)
/-- a row with all stakes at their targets, for the first k -/
def stR (tg f : Nat → Int32) (k : Nat) : Nat → Int32 := fun j => if j < 8 + 20 * k ∧ 8 ≤ j ∧ (j - 8) % 20 = 5 then tg ((j - 8) / 20) else f j
theorem sR_tg {σ τ : jM} (s : sR σ τ) : tgS τ = tgS σ := by
  funext p
  have e1 : dpN τ = dpN σ := by unfold dpN; rw [s.1]
  have e2 : tgW τ = tgW σ := by funext i; unfold tgW; rw [sR_p s, sR_D s]
  unfold tgS
  rw [sR_l s, e1, e2, sR_Lv s]
theorem sR_trS {σ τ : jM} (s : sR σ τ) : trS τ = trS σ := by
  have e : duP τ = duP σ := by funext p; unfold duP; rw [sR_N s, sR_tg s, sR_D s]
  have e2 : duI τ = duI σ := by funext p; unfold duI; rw [e]
  unfold trS
  rw [e2]
def oM_settle : jO := joR fun a σ => (a = 322 ∧ mOK σ ∧ dI (σ.1 323) ∧ dSt (σ.1 323) ∧ mH σ, fun v τ => v = some (.int (nI (trS σ).length)) ∧ ∃ ρ, jfr aSc bSc (mRem (jup σ 322 11 0)) ρ ∧ ρ.1 322 11 = 0 ∧ τ = rw3 ρ (stR (tgS σ) (σ.1 323) (mN σ)))
/-! plans that are open -/
