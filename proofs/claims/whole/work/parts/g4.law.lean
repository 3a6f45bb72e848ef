/-! the cases that may throw, put together: the call thrown or not, the reference says the same -/
theorem jfr_L {A : Nat → Nat → Bool} {B : Nat → Bool} {σ τ : jM} {y : Int64} (h : jfr A B σ τ) : jfr A B (jupL σ 352 0 y) (jupL τ 352 0 y) := by
  refine ⟨h.1, fun a j q => ?_, h.2.2⟩
  show (if a = 352 ∧ j = 0 then y else τ.2.1 a j) = if a = 352 ∧ j = 0 then y else σ.2.1 a j
  rw [h.2.1 a j q]
theorem cuP_L {σ τ : jM} {y : Int64} (h : cuP σ τ) : cuP (jupL σ 352 0 y) (jupL τ 352 0 y) :=
  ⟨jfr_L h.1, prOK_of h.2.2 h.2.1 h.2.1.1 (fun _ _ _ => rfl) (fun _ _ _ => rfl), h.2.2⟩
theorem th_plan {σ : jM} {R N K : Nat} (h : xRk σ R N K) {x : Int32} (c : ¬ mIn x 0 (nI (cn (mO σ) (mPl σ)) - 1) = true) : x < 0 ∨ σ.1 31 5 - σ.1 37 6 ≤ x := by
  obtain ⟨D, p1, p2, p3, p4, p5⟩ := xv_cO h x
  rw [p1, p2, nI_sub p3]
  by_cases z : x < 0
  · exact Or.inl z
  · refine Or.inr (Int32.not_lt.mp (fun w => c (p5.mpr ?_)))
    obtain ⟨k, k1, k2⟩ := (x_nI (n := K - D) (by omega)).mp ⟨Int32.not_lt.mp z, w⟩
    exact ⟨k, by omega, k2⟩
theorem th_transfer {σ : jM} {R N K : Nat} (h : xRk σ R N K) {x : Int32} (c : ¬ mIn x 0 (nI (trS σ).length - 1) = true) : x < 0 ∨ nI (ctr σ).length ≤ x := by
  rw [xv_tr h]
  rw [mIn_lt (tr_11 h)] at c
  by_cases z : x < 0
  · exact Or.inl z
  · exact Or.inr (Int32.not_lt.mp (fun w => c ⟨Int32.not_lt.mp z, w⟩))
theorem fEB_L (σ : jM) (x : Int32) (y : Int64) : ∀ k, fEB (jupL σ 352 0 y) x k = fEB σ x k
  | 0 => rfl
  | k + 1 => by
    unfold fEB
    rw [fEB_L σ x y k]
    rfl
/-! stateOf -/
theorem hv_stateOf (x : Int32) : ∀ σ v τ, (oX11_stateOf [.ref 0, .int x] σ).2 v τ → ∃ a : Int32, v = some (.int a) := fun σ v τ h => ⟨_, (show _ ∧ _ from h).1⟩
theorem hc_stateOf (x : Int32) : ∀ σ τ v y9, (oX11_stateOf (.ref 0 :: [.int x]) σ).2 v τ → (oX11_stateOf (.ref 0 :: [.int x]) (jupL σ 352 0 y9)).2 v (jupL τ 352 0 y9) := fun σ τ v y9 h => ⟨(show _ ∧ _ from h).1, by rw [(show _ ∧ _ from h).2]⟩
theorem hk_stateOf (x : Int32) : ∀ σ w υ, (oX12_stateOf (.ref 322 :: [.int x]) σ).2 w υ → υ.2.1 352 0 = σ.2.1 352 0 := fun σ w υ h => by rw [(show _ ∧ _ from h).2]; rfl
theorem xl_stateOf (x : Int32) : xTl (fun σ => mP σ x = true) xE oX11_stateOf oX12_stateOf [.int x] := xTl.of (xt_stateOf x) (hc_stateOf x) (fun _ _ c => c) (hk_stateOf x)
theorem ht_stateOf {g : jG} (hEx : jEx g) {x : Int32} {σ : jM} {R N K : Nat} (h : xRk σ R N K) (c : ¬ (mP σ x = true)) : ∀ n, jTh g (n + 20) mX11_stateOf [.ref 0, .int x] σ (fun τ => τ = σ) := fun n => XX11_stateOf hEx n (xv_n h).2.2.2.2.2.2.1 (fun z => c ((xv_P h _).1.symm.trans z))
theorem LC_12 {g : jG} (hEx : jEx g) {N : Nat} {xs : Nat → Int32} (hX : jScr g N xs) {T : lwT} {c0 s0 : Nat} (hc0 : c0 + 1 ≤ 601024) (hs0 : s0 + 6 ≤ 7293034) {i : Nat} (hi : i + 6 ≤ N) {σ : jM} (hR : xR σ) (k : ∀ υ, xR υ → jY g (zL T (c0 + 1) (s0 + 6)) mLw 1000 2617 (LL i) [] υ) : jY g (zL T c0 s0) mLw 1000 580 (LL i) [] σ := by
  obtain ⟨a1, a2⟩ := xl_stateOf (xs (i + 1)) σ hR
  by_cases c : mP σ (xs (i + 1)) = true
  · exact LA_12 hX hc0 hs0 hi k (a1 c).1 (a1 c).2 (hv_stateOf _)
  · obtain ⟨R, N', K, h⟩ := hR
    exact LB_12 hEx hX hc0 hs0 hi k (th := xE) (ht_stateOf hEx h c) (a2 c)
/-! incomeOf -/
theorem hv_incomeOf (x : Int32) : ∀ σ v τ, (oX11_incomeOf [.ref 0, .int x] σ).2 v τ → ∃ a : Int32, v = some (.int a) := fun σ v τ h => ⟨_, (show _ ∧ _ from h).1⟩
theorem hc_incomeOf (x : Int32) : ∀ σ τ v y9, (oX11_incomeOf (.ref 0 :: [.int x]) σ).2 v τ → (oX11_incomeOf (.ref 0 :: [.int x]) (jupL σ 352 0 y9)).2 v (jupL τ 352 0 y9) := fun σ τ v y9 h => ⟨(show _ ∧ _ from h).1, by rw [(show _ ∧ _ from h).2]⟩
theorem hk_incomeOf (x : Int32) : ∀ σ w υ, (oX12_incomeOf (.ref 322 :: [.int x]) σ).2 w υ → υ.2.1 352 0 = σ.2.1 352 0 := fun σ w υ h => by rw [(show _ ∧ _ from h).2]; rfl
theorem xl_incomeOf (x : Int32) : xTl (fun σ => mP σ x = true) xE oX11_incomeOf oX12_incomeOf [.int x] := xTl.of (xt_incomeOf x) (hc_incomeOf x) (fun _ _ c => c) (hk_incomeOf x)
theorem ht_incomeOf {g : jG} (hEx : jEx g) {x : Int32} {σ : jM} {R N K : Nat} (h : xRk σ R N K) (c : ¬ (mP σ x = true)) : ∀ n, jTh g (n + 20) mX11_incomeOf [.ref 0, .int x] σ (fun τ => τ = σ) := fun n => XX11_incomeOf hEx n (xv_n h).2.2.2.2.2.2.1 (fun z => c ((xv_P h _).1.symm.trans z))
theorem LC_13 {g : jG} (hEx : jEx g) {N : Nat} {xs : Nat → Int32} (hX : jScr g N xs) {T : lwT} {c0 s0 : Nat} (hc0 : c0 + 1 ≤ 601024) (hs0 : s0 + 6 ≤ 7293034) {i : Nat} (hi : i + 6 ≤ N) {σ : jM} (hR : xR σ) (k : ∀ υ, xR υ → jY g (zL T (c0 + 1) (s0 + 6)) mLw 1000 2617 (LL i) [] υ) : jY g (zL T c0 s0) mLw 1000 636 (LL i) [] σ := by
  obtain ⟨a1, a2⟩ := xl_incomeOf (xs (i + 1)) σ hR
  by_cases c : mP σ (xs (i + 1)) = true
  · exact LA_13 hX hc0 hs0 hi k (a1 c).1 (a1 c).2 (hv_incomeOf _)
  · obtain ⟨R, N', K, h⟩ := hR
    exact LB_13 hEx hX hc0 hs0 hi k (th := xE) (ht_incomeOf hEx h c) (a2 c)
/-! proposedRoom -/
theorem hv_proposedRoom (x : Int32) : ∀ σ v τ, (oX11_proposedRoom [.ref 0, .int x] σ).2 v τ → ∃ a : Int32, v = some (.int a) := fun σ v τ h => ⟨_, (show _ ∧ _ from h).1⟩
theorem hc_proposedRoom (x : Int32) : ∀ σ τ v y9, (oX11_proposedRoom (.ref 0 :: [.int x]) σ).2 v τ → (oX11_proposedRoom (.ref 0 :: [.int x]) (jupL σ 352 0 y9)).2 v (jupL τ 352 0 y9) := fun σ τ v y9 h => ⟨(show _ ∧ _ from h).1, cuP_L (show _ ∧ _ from h).2⟩
theorem hk_proposedRoom (x : Int32) : ∀ σ w υ, (oX12_proposedRoom (.ref 322 :: [.int x]) σ).2 w υ → υ.2.1 352 0 = σ.2.1 352 0 := fun σ w υ h => (show _ ∧ _ ∧ _ from h).2.1.2.1 352 0 rfl
theorem xl_proposedRoom (x : Int32) : xTl (fun σ => mP σ x = true) xE oX11_proposedRoom oX12_proposedRoom [.int x] := xTl.of (xt_proposedRoom x) (hc_proposedRoom x) (fun _ _ c => c) (hk_proposedRoom x)
theorem ht_proposedRoom {g : jG} (hEx : jEx g) {x : Int32} {σ : jM} {R N K : Nat} (h : xRk σ R N K) (c : ¬ (mP σ x = true)) : ∀ n, jTh g (n + 20) mX11_proposedRoom [.ref 0, .int x] σ (fun τ => τ = σ) := fun n => XX11_proposedRoom hEx n (xv_n h).2.2.2.2.2.2.1 (fun z => c ((xv_P h _).1.symm.trans z))
theorem LC_20 {g : jG} (hEx : jEx g) {N : Nat} {xs : Nat → Int32} (hX : jScr g N xs) {T : lwT} {c0 s0 : Nat} (hc0 : c0 + 1 ≤ 601024) (hs0 : s0 + 6 ≤ 7293034) {i : Nat} (hi : i + 6 ≤ N) {σ : jM} (hR : xR σ) (k : ∀ υ, xR υ → jY g (zL T (c0 + 1) (s0 + 6)) mLw 1000 2617 (LL i) [] υ) : jY g (zL T c0 s0) mLw 1000 942 (LL i) [] σ := by
  obtain ⟨a1, a2⟩ := xl_proposedRoom (xs (i + 1)) σ hR
  by_cases c : mP σ (xs (i + 1)) = true
  · exact LA_20 hX hc0 hs0 hi k (a1 c).1 (a1 c).2 (hv_proposedRoom _)
  · obtain ⟨R, N', K, h⟩ := hR
    exact LB_20 hEx hX hc0 hs0 hi k (th := xE) (ht_proposedRoom hEx h c) (a2 c)
/-! incomeShare -/
theorem hv_incomeShare (x : Int32) : ∀ σ v τ, (oX11_incomeShare [.ref 0, .int x] σ).2 v τ → ∃ a : Int32, v = some (.int a) := fun σ v τ h => ⟨_, (show _ ∧ _ from h).1⟩
theorem hc_incomeShare (x : Int32) : ∀ σ τ v y9, (oX11_incomeShare (.ref 0 :: [.int x]) σ).2 v τ → (oX11_incomeShare (.ref 0 :: [.int x]) (jupL σ 352 0 y9)).2 v (jupL τ 352 0 y9) := fun σ τ v y9 h => ⟨(show _ ∧ _ from h).1, cuP_L (show _ ∧ _ from h).2⟩
theorem hk_incomeShare (x : Int32) : ∀ σ w υ, (oX12_incomeShare (.ref 322 :: [.int x]) σ).2 w υ → υ.2.1 352 0 = σ.2.1 352 0 := fun σ w υ h => (show _ ∧ _ ∧ _ from h).2.1.2.1 352 0 rfl
theorem xl_incomeShare (x : Int32) : xTl (fun σ => mP σ x = true) xE oX11_incomeShare oX12_incomeShare [.int x] := xTl.of (xt_incomeShare x) (hc_incomeShare x) (fun _ _ c => c) (hk_incomeShare x)
theorem ht_incomeShare {g : jG} (hEx : jEx g) {x : Int32} {σ : jM} {R N K : Nat} (h : xRk σ R N K) (c : ¬ (mP σ x = true)) : ∀ n, jTh g (n + 20) mX11_incomeShare [.ref 0, .int x] σ (fun τ => τ = σ) := fun n => XX11_incomeShare hEx n (xv_n h).2.2.2.2.2.2.1 (fun z => c ((xv_P h _).1.symm.trans z))
theorem LC_26 {g : jG} (hEx : jEx g) {N : Nat} {xs : Nat → Int32} (hX : jScr g N xs) {T : lwT} {c0 s0 : Nat} (hc0 : c0 + 1 ≤ 601024) (hs0 : s0 + 6 ≤ 7293034) {i : Nat} (hi : i + 6 ≤ N) {σ : jM} (hR : xR σ) (k : ∀ υ, xR υ → jY g (zL T (c0 + 1) (s0 + 6)) mLw 1000 2617 (LL i) [] υ) : jY g (zL T c0 s0) mLw 1000 1177 (LL i) [] σ := by
  obtain ⟨a1, a2⟩ := xl_incomeShare (xs (i + 1)) σ hR
  by_cases c : mP σ (xs (i + 1)) = true
  · exact LA_26 hX hc0 hs0 hi k (a1 c).1 (a1 c).2 (hv_incomeShare _)
  · obtain ⟨R, N', K, h⟩ := hR
    exact LB_26 hEx hX hc0 hs0 hi k (th := xE) (ht_incomeShare hEx h c) (a2 c)
/-! proposedPayment -/
theorem hv_proposedPayment (x : Int32) : ∀ σ v τ, (oX11_proposedPayment [.ref 0, .int x] σ).2 v τ → ∃ a : Int32, v = some (.int a) := fun σ v τ h => ⟨_, (show _ ∧ _ from h).1⟩
theorem hc_proposedPayment (x : Int32) : ∀ σ τ v y9, (oX11_proposedPayment (.ref 0 :: [.int x]) σ).2 v τ → (oX11_proposedPayment (.ref 0 :: [.int x]) (jupL σ 352 0 y9)).2 v (jupL τ 352 0 y9) := fun σ τ v y9 h => ⟨(show _ ∧ _ from h).1, cuP_L (show _ ∧ _ from h).2⟩
theorem hk_proposedPayment (x : Int32) : ∀ σ w υ, (oX12_proposedPayment (.ref 322 :: [.int x]) σ).2 w υ → υ.2.1 352 0 = σ.2.1 352 0 := fun σ w υ h => (show _ ∧ _ ∧ _ from h).2.1.2.1 352 0 rfl
theorem xl_proposedPayment (x : Int32) : xTl (fun σ => mP σ x = true) xE oX11_proposedPayment oX12_proposedPayment [.int x] := xTl.of (xt_proposedPayment x) (hc_proposedPayment x) (fun _ _ c => c) (hk_proposedPayment x)
theorem ht_proposedPayment {g : jG} (hEx : jEx g) {x : Int32} {σ : jM} {R N K : Nat} (h : xRk σ R N K) (c : ¬ (mP σ x = true)) : ∀ n, jTh g (n + 20) mX11_proposedPayment [.ref 0, .int x] σ (fun τ => τ = σ) := fun n => XX11_proposedPayment hEx n (xv_n h).2.2.2.2.2.2.1 (fun z => c ((xv_P h _).1.symm.trans z))
theorem LC_27 {g : jG} (hEx : jEx g) {N : Nat} {xs : Nat → Int32} (hX : jScr g N xs) {T : lwT} {c0 s0 : Nat} (hc0 : c0 + 1 ≤ 601024) (hs0 : s0 + 6 ≤ 7293034) {i : Nat} (hi : i + 6 ≤ N) {σ : jM} (hR : xR σ) (k : ∀ υ, xR υ → jY g (zL T (c0 + 1) (s0 + 6)) mLw 1000 2617 (LL i) [] υ) : jY g (zL T c0 s0) mLw 1000 1233 (LL i) [] σ := by
  obtain ⟨a1, a2⟩ := xl_proposedPayment (xs (i + 1)) σ hR
  by_cases c : mP σ (xs (i + 1)) = true
  · exact LA_27 hX hc0 hs0 hi k (a1 c).1 (a1 c).2 (hv_proposedPayment _)
  · obtain ⟨R, N', K, h⟩ := hR
    exact LB_27 hEx hX hc0 hs0 hi k (th := xE) (ht_proposedPayment hEx h c) (a2 c)
/-! surplus -/
theorem hv_surplus (x : Int32) : ∀ σ v τ, (oX11_surplus [.ref 0, .int x] σ).2 v τ → ∃ a : Int32, v = some (.int a) := fun σ v τ h => ⟨_, (show _ ∧ _ from h).1⟩
theorem hc_surplus (x : Int32) : ∀ σ τ v y9, (oX11_surplus (.ref 0 :: [.int x]) σ).2 v τ → (oX11_surplus (.ref 0 :: [.int x]) (jupL σ 352 0 y9)).2 v (jupL τ 352 0 y9) := fun σ τ v y9 h => ⟨(show _ ∧ _ from h).1, cuP_L (show _ ∧ _ from h).2⟩
theorem hk_surplus (x : Int32) : ∀ σ w υ, (oX12_surplus (.ref 322 :: [.int x]) σ).2 w υ → υ.2.1 352 0 = σ.2.1 352 0 := fun σ w υ h => (show _ ∧ _ ∧ _ from h).2.1.2.1 352 0 rfl
theorem xl_surplus (x : Int32) : xTl (fun σ => mP σ x = true) xE oX11_surplus oX12_surplus [.int x] := xTl.of (xt_surplus x) (hc_surplus x) (fun _ _ c => c) (hk_surplus x)
theorem ht_surplus {g : jG} (hEx : jEx g) {x : Int32} {σ : jM} {R N K : Nat} (h : xRk σ R N K) (c : ¬ (mP σ x = true)) : ∀ n, jTh g (n + 20) mX11_surplus [.ref 0, .int x] σ (fun τ => τ = σ) := fun n => XX11_surplus hEx n (xv_n h).2.2.2.2.2.2.1 (fun z => c ((xv_P h _).1.symm.trans z))
theorem LC_28 {g : jG} (hEx : jEx g) {N : Nat} {xs : Nat → Int32} (hX : jScr g N xs) {T : lwT} {c0 s0 : Nat} (hc0 : c0 + 1 ≤ 601024) (hs0 : s0 + 6 ≤ 7293034) {i : Nat} (hi : i + 6 ≤ N) {σ : jM} (hR : xR σ) (k : ∀ υ, xR υ → jY g (zL T (c0 + 1) (s0 + 6)) mLw 1000 2617 (LL i) [] υ) : jY g (zL T c0 s0) mLw 1000 1289 (LL i) [] σ := by
  obtain ⟨a1, a2⟩ := xl_surplus (xs (i + 1)) σ hR
  by_cases c : mP σ (xs (i + 1)) = true
  · exact LA_28 hX hc0 hs0 hi k (a1 c).1 (a1 c).2 (hv_surplus _)
  · obtain ⟨R, N', K, h⟩ := hR
    exact LB_28 hEx hX hc0 hs0 hi k (th := xE) (ht_surplus hEx h c) (a2 c)
/-! roomOf -/
theorem hv_roomOf (x : Int32) : ∀ σ v τ, (oX11_roomOf [.ref 0, .int x] σ).2 v τ → ∃ a : Int32, v = some (.int a) := fun σ v τ h => ⟨_, (show _ ∧ _ from h).1⟩
theorem hc_roomOf (x : Int32) : ∀ σ τ v y9, (oX11_roomOf (.ref 0 :: [.int x]) σ).2 v τ → (oX11_roomOf (.ref 0 :: [.int x]) (jupL σ 352 0 y9)).2 v (jupL τ 352 0 y9) := fun σ τ v y9 h => ⟨(show _ ∧ _ from h).1, by rw [(show _ ∧ _ from h).2]⟩
theorem hk_roomOf (x : Int32) : ∀ σ w υ, (oX12_roomOf (.ref 322 :: [.int x]) σ).2 w υ → υ.2.1 352 0 = σ.2.1 352 0 := fun σ w υ h => by rw [(show _ ∧ _ from h).2]; rfl
theorem xl_roomOf (x : Int32) : xTl (fun σ => mP σ x = true) xE oX11_roomOf oX12_roomOf [.int x] := xTl.of (xt_roomOf x) (hc_roomOf x) (fun _ _ c => c) (hk_roomOf x)
theorem ht_roomOf {g : jG} (hEx : jEx g) {x : Int32} {σ : jM} {R N K : Nat} (h : xRk σ R N K) (c : ¬ (mP σ x = true)) : ∀ n, jTh g (n + 20) mX11_roomOf [.ref 0, .int x] σ (fun τ => τ = σ) := fun n => XX11_roomOf hEx n (xv_n h).2.2.2.2.2.2.1 (fun z => c ((xv_P h _).1.symm.trans z))
theorem LC_33 {g : jG} (hEx : jEx g) {N : Nat} {xs : Nat → Int32} (hX : jScr g N xs) {T : lwT} {c0 s0 : Nat} (hc0 : c0 + 1 ≤ 601024) (hs0 : s0 + 6 ≤ 7293034) {i : Nat} (hi : i + 6 ≤ N) {σ : jM} (hR : xR σ) (k : ∀ υ, xR υ → jY g (zL T (c0 + 1) (s0 + 6)) mLw 1000 2617 (LL i) [] υ) : jY g (zL T c0 s0) mLw 1000 1476 (LL i) [] σ := by
  obtain ⟨a1, a2⟩ := xl_roomOf (xs (i + 1)) σ hR
  by_cases c : mP σ (xs (i + 1)) = true
  · exact LA_33 hX hc0 hs0 hi k (a1 c).1 (a1 c).2 (hv_roomOf _)
  · obtain ⟨R, N', K, h⟩ := hR
    exact LB_33 hEx hX hc0 hs0 hi k (th := xE) (ht_roomOf hEx h c) (a2 c)
/-! payment -/
theorem hv_payment (x : Int32) : ∀ σ v τ, (oX11_payment [.ref 0, .int x] σ).2 v τ → ∃ a : Int32, v = some (.int a) := fun σ v τ h => ⟨_, (show _ ∧ _ from h).1⟩
theorem hc_payment (x : Int32) : ∀ σ τ v y9, (oX11_payment (.ref 0 :: [.int x]) σ).2 v τ → (oX11_payment (.ref 0 :: [.int x]) (jupL σ 352 0 y9)).2 v (jupL τ 352 0 y9) := fun σ τ v y9 h => ⟨(show _ ∧ _ from h).1, by rw [(show _ ∧ _ from h).2]⟩
theorem hk_payment (x : Int32) : ∀ σ w υ, (oX12_payment (.ref 322 :: [.int x]) σ).2 w υ → υ.2.1 352 0 = σ.2.1 352 0 := fun σ w υ h => by rw [(show _ ∧ _ from h).2]; rfl
theorem xl_payment (x : Int32) : xTl (fun σ => mP σ x = true) xE oX11_payment oX12_payment [.int x] := xTl.of (xt_payment x) (hc_payment x) (fun _ _ c => c) (hk_payment x)
theorem ht_payment {g : jG} (hEx : jEx g) {x : Int32} {σ : jM} {R N K : Nat} (h : xRk σ R N K) (c : ¬ (mP σ x = true)) : ∀ n, jTh g (n + 20) mX11_payment [.ref 0, .int x] σ (fun τ => τ = σ) := fun n => XX11_payment hEx n (xv_n h).2.2.2.2.2.2.1 (fun z => c ((xv_P h _).1.symm.trans z))
theorem LC_35 {g : jG} (hEx : jEx g) {N : Nat} {xs : Nat → Int32} (hX : jScr g N xs) {T : lwT} {c0 s0 : Nat} (hc0 : c0 + 1 ≤ 601024) (hs0 : s0 + 6 ≤ 7293034) {i : Nat} (hi : i + 6 ≤ N) {σ : jM} (hR : xR σ) (k : ∀ υ, xR υ → jY g (zL T (c0 + 1) (s0 + 6)) mLw 1000 2617 (LL i) [] υ) : jY g (zL T c0 s0) mLw 1000 1588 (LL i) [] σ := by
  obtain ⟨a1, a2⟩ := xl_payment (xs (i + 1)) σ hR
  by_cases c : mP σ (xs (i + 1)) = true
  · exact LA_35 hX hc0 hs0 hi k (a1 c).1 (a1 c).2 (hv_payment _)
  · obtain ⟨R, N', K, h⟩ := hR
    exact LB_35 hEx hX hc0 hs0 hi k (th := xE) (ht_payment hEx h c) (a2 c)
/-! enviers -/
theorem hv_enviers (x : Int32) : ∀ σ v τ, (oX11_enviers [.ref 0, .int x] σ).2 v τ → ∃ a : Int32, v = some (.int a) := fun σ v τ h => ⟨_, (show _ ∧ _ from h).1⟩
theorem hc_enviers (x : Int32) : ∀ σ τ v y9, (oX11_enviers (.ref 0 :: [.int x]) σ).2 v τ → (oX11_enviers (.ref 0 :: [.int x]) (jupL σ 352 0 y9)).2 v (jupL τ 352 0 y9) := fun σ τ v y9 h => ⟨by rw [(show _ ∧ _ from h).1]; exact congrArg (fun z => some (Value.int z)) (fEB_L σ x y9 _).symm, by rw [(show _ ∧ _ from h).2]⟩
theorem hk_enviers (x : Int32) : ∀ σ w υ, (oX12_enviers (.ref 322 :: [.int x]) σ).2 w υ → υ.2.1 352 0 = σ.2.1 352 0 := fun σ w υ h => by rw [(show _ ∧ _ from h).2]; rfl
theorem xl_enviers (x : Int32) : xTl (fun σ => mP σ x = true) xE oX11_enviers oX12_enviers [.int x] := xTl.of (xt_enviers x) (hc_enviers x) (fun _ _ c => c) (hk_enviers x)
theorem ht_enviers {g : jG} (hEx : jEx g) {x : Int32} {σ : jM} {R N K : Nat} (h : xRk σ R N K) (c : ¬ (mP σ x = true)) : ∀ n, jTh g (n + 20) mX11_enviers [.ref 0, .int x] σ (fun τ => τ = σ) := fun n => XX11_enviers hEx n (xv_n h).2.2.2.2.2.2.1 (fun z => c ((xv_P h _).1.symm.trans z))
theorem LC_39 {g : jG} (hEx : jEx g) {N : Nat} {xs : Nat → Int32} (hX : jScr g N xs) {T : lwT} {c0 s0 : Nat} (hc0 : c0 + 1 ≤ 601024) (hs0 : s0 + 6 ≤ 7293034) {i : Nat} (hi : i + 6 ≤ N) {σ : jM} (hR : xR σ) (k : ∀ υ, xR υ → jY g (zL T (c0 + 1) (s0 + 6)) mLw 1000 2617 (LL i) [] υ) : jY g (zL T c0 s0) mLw 1000 1738 (LL i) [] σ := by
  obtain ⟨a1, a2⟩ := xl_enviers (xs (i + 1)) σ hR
  by_cases c : mP σ (xs (i + 1)) = true
  · exact LA_39 hX hc0 hs0 hi k (a1 c).1 (a1 c).2 (hv_enviers _)
  · obtain ⟨R, N', K, h⟩ := hR
    exact LB_39 hEx hX hc0 hs0 hi k (th := xE) (ht_enviers hEx h c) (a2 c)
/-! target -/
theorem hv_target (x : Int32) : ∀ σ v τ, (oX11_target [.ref 0, .int x] σ).2 v τ → ∃ a : Int32, v = some (.int a) := fun σ v τ h => ⟨_, (show _ ∧ _ from h).1⟩
theorem hc_target (x : Int32) : ∀ σ τ v y9, (oX11_target (.ref 0 :: [.int x]) σ).2 v τ → (oX11_target (.ref 0 :: [.int x]) (jupL σ 352 0 y9)).2 v (jupL τ 352 0 y9) := fun σ τ v y9 h => ⟨(show _ ∧ _ from h).1, jfr_L (show _ ∧ _ from h).2⟩
theorem hk_target (x : Int32) : ∀ σ w υ, (oX12_target (.ref 322 :: [.int x]) σ).2 w υ → υ.2.1 352 0 = σ.2.1 352 0 := fun σ w υ h => (show _ ∧ _ ∧ _ from h).2.1.2.1 352 0 rfl
theorem xl_target (x : Int32) : xTl (fun σ => mP σ x = true) xE oX11_target oX12_target [.int x] := xTl.of (xt_target x) (hc_target x) (fun _ _ c => c) (hk_target x)
theorem ht_target {g : jG} (hEx : jEx g) {x : Int32} {σ : jM} {R N K : Nat} (h : xRk σ R N K) (c : ¬ (mP σ x = true)) : ∀ n, jTh g (n + 20) mX11_target [.ref 0, .int x] σ (fun τ => τ = σ) := fun n => XX11_target hEx n (xv_n h).2.2.2.2.2.2.1 (fun z => c ((xv_P h _).1.symm.trans z))
theorem LC_46 {g : jG} (hEx : jEx g) {N : Nat} {xs : Nat → Int32} (hX : jScr g N xs) {T : lwT} {c0 s0 : Nat} (hc0 : c0 + 1 ≤ 601024) (hs0 : s0 + 6 ≤ 7293034) {i : Nat} (hi : i + 6 ≤ N) {σ : jM} (hR : xR σ) (k : ∀ υ, xR υ → jY g (zL T (c0 + 1) (s0 + 6)) mLw 1000 2617 (LL i) [] υ) : jY g (zL T c0 s0) mLw 1000 2053 (LL i) [] σ := by
  obtain ⟨a1, a2⟩ := xl_target (xs (i + 1)) σ hR
  by_cases c : mP σ (xs (i + 1)) = true
  · exact LA_46 hX hc0 hs0 hi k (a1 c).1 (a1 c).2 (hv_target _)
  · obtain ⟨R, N', K, h⟩ := hR
    exact LB_46 hEx hX hc0 hs0 hi k (th := xE) (ht_target hEx h c) (a2 c)
/-! paid -/
theorem hv_paid (x y : Int32) : ∀ σ v τ, (oX11_paid [.ref 0, .int x, .int y] σ).2 v τ → ∃ a : Int32, v = some (.int a) := fun σ v τ h => ⟨_, (show _ ∧ _ from h).1⟩
theorem hc_paid (x y : Int32) : ∀ σ τ v y9, (oX11_paid (.ref 0 :: [.int x, .int y]) σ).2 v τ → (oX11_paid (.ref 0 :: [.int x, .int y]) (jupL σ 352 0 y9)).2 v (jupL τ 352 0 y9) := fun σ τ v y9 h => ⟨(show _ ∧ _ from h).1, by rw [(show _ ∧ _ from h).2]⟩
theorem hk_paid (x y : Int32) : ∀ σ w υ, (oX12_paid (.ref 322 :: [.int x, .int y]) σ).2 w υ → υ.2.1 352 0 = σ.2.1 352 0 := fun σ w υ h => by rw [(show _ ∧ _ from h).2]; rfl
theorem xl_paid (x y : Int32) : xTl (fun σ => mP σ x = true) xE oX11_paid oX12_paid [.int x, .int y] := xTl.of (xt_paid x y) (hc_paid x y) (fun _ _ c => c) (hk_paid x y)
theorem ht_paid {g : jG} (hEx : jEx g) {x y : Int32} {σ : jM} {R N K : Nat} (h : xRk σ R N K) (c : ¬ (mP σ x = true)) : ∀ n, jTh g (n + 20) mX11_paid [.ref 0, .int x, .int y] σ (fun τ => τ = σ) := fun n => XX11_paid hEx n (xv_n h).2.2.2.2.2.2.1 (fun z => c ((xv_P h _).1.symm.trans z))
theorem LC_44 {g : jG} (hEx : jEx g) {N : Nat} {xs : Nat → Int32} (hX : jScr g N xs) {T : lwT} {c0 s0 : Nat} (hc0 : c0 + 1 ≤ 601024) (hs0 : s0 + 6 ≤ 7293034) {i : Nat} (hi : i + 6 ≤ N) {σ : jM} (hR : xR σ) (k : ∀ υ, xR υ → jY g (zL T (c0 + 1) (s0 + 6)) mLw 1000 2617 (LL i) [] υ) : jY g (zL T c0 s0) mLw 1000 1972 (LL i) [] σ := by
  obtain ⟨a1, a2⟩ := xl_paid (xs (i + 1)) (xs (i + 2)) σ hR
  by_cases c : mP σ (xs (i + 1)) = true
  · exact LA_44 hX hc0 hs0 hi k (a1 c).1 (a1 c).2 (hv_paid _ _)
  · obtain ⟨R, N', K, h⟩ := hR
    exact LB_44 hEx hX hc0 hs0 hi k (th := xE) (ht_paid hEx h c) (a2 c)
/-! valueOf -/
theorem hv_valueOf (x y : Int32) : ∀ σ v τ, (oX11_valueOf [.ref 0, .int x, .int y] σ).2 v τ → ∃ a : Int32, v = some (.int a) := fun σ v τ h => ⟨_, (show _ ∧ _ from h).1⟩
theorem hc_valueOf (x y : Int32) : ∀ σ τ v y9, (oX11_valueOf (.ref 0 :: [.int x, .int y]) σ).2 v τ → (oX11_valueOf (.ref 0 :: [.int x, .int y]) (jupL σ 352 0 y9)).2 v (jupL τ 352 0 y9) := fun σ τ v y9 h => ⟨(show _ ∧ _ from h).1, by rw [(show _ ∧ _ from h).2]⟩
theorem hk_valueOf (x y : Int32) : ∀ σ w υ, (oX12_valueOf (.ref 322 :: [.int x, .int y]) σ).2 w υ → υ.2.1 352 0 = σ.2.1 352 0 := fun σ w υ h => by rw [(show _ ∧ _ from h).2]; rfl
theorem xl_valueOf (x y : Int32) : xTl (fun σ => mP σ x = true ∧ mR σ y = true) xE oX11_valueOf oX12_valueOf [.int x, .int y] := xTl.of (xt_valueOf x y) (hc_valueOf x y) (fun _ _ c => c) (hk_valueOf x y)
theorem ht_valueOf {g : jG} (hEx : jEx g) {x y : Int32} {σ : jM} {R N K : Nat} (h : xRk σ R N K) (c : ¬ (mP σ x = true ∧ mR σ y = true)) : ∀ n, jTh g (n + 20) mX11_valueOf [.ref 0, .int x, .int y] σ (fun τ => τ = σ) := by
  by_cases px : mP σ x = true
  · exact fun n => XX11_valueOf_2 hEx n (xv_n h).2.2.2.2.2.2.1 ((xv_P h x).1.trans px) (fun z => c ⟨px, (xv_R h y).1.symm.trans z⟩)
  · exact fun n => XX11_valueOf hEx n (xv_n h).2.2.2.2.2.2.1 (fun z => px ((xv_P h x).1.symm.trans z))
theorem LC_14 {g : jG} (hEx : jEx g) {N : Nat} {xs : Nat → Int32} (hX : jScr g N xs) {T : lwT} {c0 s0 : Nat} (hc0 : c0 + 1 ≤ 601024) (hs0 : s0 + 6 ≤ 7293034) {i : Nat} (hi : i + 6 ≤ N) {σ : jM} (hR : xR σ) (k : ∀ υ, xR υ → jY g (zL T (c0 + 1) (s0 + 6)) mLw 1000 2617 (LL i) [] υ) : jY g (zL T c0 s0) mLw 1000 692 (LL i) [] σ := by
  obtain ⟨a1, a2⟩ := xl_valueOf (xs (i + 1)) (xs (i + 2)) σ hR
  by_cases c : mP σ (xs (i + 1)) = true ∧ mR σ (xs (i + 2)) = true
  · exact LA_14 hX hc0 hs0 hi k (a1 c).1 (a1 c).2 (hv_valueOf _ _)
  · obtain ⟨R, N', K, h⟩ := hR
    exact LB_14 hEx hX hc0 hs0 hi k (th := xE) (ht_valueOf hEx h c) (a2 c)
/-! refuses -/
theorem hv_refuses (x y : Int32) : ∀ σ v τ, (oX11_refuses [.ref 0, .int x, .int y] σ).2 v τ → ∃ a : Int32, v = some (.int a) := fun σ v τ h => ⟨_, (show _ ∧ _ from h).1⟩
theorem hc_refuses (x y : Int32) : ∀ σ τ v y9, (oX11_refuses (.ref 0 :: [.int x, .int y]) σ).2 v τ → (oX11_refuses (.ref 0 :: [.int x, .int y]) (jupL σ 352 0 y9)).2 v (jupL τ 352 0 y9) := fun σ τ v y9 h => ⟨(show _ ∧ _ from h).1, by rw [(show _ ∧ _ from h).2]⟩
theorem hk_refuses (x y : Int32) : ∀ σ w υ, (oX12_refuses (.ref 322 :: [.int x, .int y]) σ).2 w υ → υ.2.1 352 0 = σ.2.1 352 0 := fun σ w υ h => by rw [(show _ ∧ _ from h).2]; rfl
theorem xl_refuses (x y : Int32) : xTl (fun σ => mP σ x = true ∧ mR σ y = true) xE oX11_refuses oX12_refuses [.int x, .int y] := xTl.of (xt_refuses x y) (hc_refuses x y) (fun _ _ c => c) (hk_refuses x y)
theorem ht_refuses {g : jG} (hEx : jEx g) {x y : Int32} {σ : jM} {R N K : Nat} (h : xRk σ R N K) (c : ¬ (mP σ x = true ∧ mR σ y = true)) : ∀ n, jTh g (n + 20) mX11_refuses [.ref 0, .int x, .int y] σ (fun τ => τ = σ) := by
  by_cases px : mP σ x = true
  · exact fun n => XX11_refuses_2 hEx n (xv_n h).2.2.2.2.2.2.1 ((xv_P h x).1.trans px) (fun z => c ⟨px, (xv_R h y).1.symm.trans z⟩)
  · exact fun n => XX11_refuses hEx n (xv_n h).2.2.2.2.2.2.1 (fun z => px ((xv_P h x).1.symm.trans z))
theorem LC_15 {g : jG} (hEx : jEx g) {N : Nat} {xs : Nat → Int32} (hX : jScr g N xs) {T : lwT} {c0 s0 : Nat} (hc0 : c0 + 1 ≤ 601024) (hs0 : s0 + 6 ≤ 7293034) {i : Nat} (hi : i + 6 ≤ N) {σ : jM} (hR : xR σ) (k : ∀ υ, xR υ → jY g (zL T (c0 + 1) (s0 + 6)) mLw 1000 2617 (LL i) [] υ) : jY g (zL T c0 s0) mLw 1000 760 (LL i) [] σ := by
  obtain ⟨a1, a2⟩ := xl_refuses (xs (i + 1)) (xs (i + 2)) σ hR
  by_cases c : mP σ (xs (i + 1)) = true ∧ mR σ (xs (i + 2)) = true
  · exact LA_15 hX hc0 hs0 hi k (a1 c).1 (a1 c).2 (hv_refuses _ _)
  · obtain ⟨R, N', K, h⟩ := hR
    exact LB_15 hEx hX hc0 hs0 hi k (th := xE) (ht_refuses hEx h c) (a2 c)
/-! leastValue -/
theorem hv_leastValue (x y : Int32) : ∀ σ v τ, (oX11_leastValue [.ref 0, .int x, .int y] σ).2 v τ → ∃ a : Int32, v = some (.int a) := fun σ v τ h => ⟨_, (show _ ∧ _ from h).1⟩
theorem hc_leastValue (x y : Int32) : ∀ σ τ v y9, (oX11_leastValue (.ref 0 :: [.int x, .int y]) σ).2 v τ → (oX11_leastValue (.ref 0 :: [.int x, .int y]) (jupL σ 352 0 y9)).2 v (jupL τ 352 0 y9) := fun σ τ v y9 h => ⟨(show _ ∧ _ from h).1, jfr_L (show _ ∧ _ from h).2⟩
theorem hk_leastValue (x y : Int32) : ∀ σ w υ, (oX12_leastValue (.ref 322 :: [.int x, .int y]) σ).2 w υ → υ.2.1 352 0 = σ.2.1 352 0 := fun σ w υ h => (show _ ∧ _ from h).1.2.1 352 0 rfl
theorem xl_leastValue (x y : Int32) : xTl (fun σ => mP σ x = true ∧ mR σ y = true) xE oX11_leastValue oX12_leastValue [.int x, .int y] := xTl.of (xt_leastValue x y) (hc_leastValue x y) (fun _ _ c => c) (hk_leastValue x y)
theorem ht_leastValue {g : jG} (hEx : jEx g) {x y : Int32} {σ : jM} {R N K : Nat} (h : xRk σ R N K) (c : ¬ (mP σ x = true ∧ mR σ y = true)) : ∀ n, jTh g (n + 20) mX11_leastValue [.ref 0, .int x, .int y] σ (fun τ => τ = σ) := by
  by_cases px : mP σ x = true
  · exact fun n => XX11_leastValue_2 hEx n (xv_n h).2.2.2.2.2.2.1 ((xv_P h x).1.trans px) (fun z => c ⟨px, (xv_R h y).1.symm.trans z⟩)
  · exact fun n => XX11_leastValue hEx n (xv_n h).2.2.2.2.2.2.1 (fun z => px ((xv_P h x).1.symm.trans z))
theorem LC_32 {g : jG} (hEx : jEx g) {N : Nat} {xs : Nat → Int32} (hX : jScr g N xs) {T : lwT} {c0 s0 : Nat} (hc0 : c0 + 1 ≤ 601024) (hs0 : s0 + 6 ≤ 7293034) {i : Nat} (hi : i + 6 ≤ N) {σ : jM} (hR : xR σ) (k : ∀ υ, xR υ → jY g (zL T (c0 + 1) (s0 + 6)) mLw 1000 2617 (LL i) [] υ) : jY g (zL T c0 s0) mLw 1000 1408 (LL i) [] σ := by
  obtain ⟨a1, a2⟩ := xl_leastValue (xs (i + 1)) (xs (i + 2)) σ hR
  by_cases c : mP σ (xs (i + 1)) = true ∧ mR σ (xs (i + 2)) = true
  · exact LA_32 hX hc0 hs0 hi k (a1 c).1 (a1 c).2 (hv_leastValue _ _)
  · obtain ⟨R, N', K, h⟩ := hR
    exact LB_32 hEx hX hc0 hs0 hi k (th := xE) (ht_leastValue hEx h c) (a2 c)
/-! envyOf -/
theorem hv_envyOf (x y : Int32) : ∀ σ v τ, (oX11_envyOf [.ref 0, .int x, .int y] σ).2 v τ → ∃ a : Int32, v = some (.int a) := fun σ v τ h => ⟨_, (show _ ∧ _ from h).1⟩
theorem hc_envyOf (x y : Int32) : ∀ σ τ v y9, (oX11_envyOf (.ref 0 :: [.int x, .int y]) σ).2 v τ → (oX11_envyOf (.ref 0 :: [.int x, .int y]) (jupL σ 352 0 y9)).2 v (jupL τ 352 0 y9) := fun σ τ v y9 h => ⟨(show _ ∧ _ from h).1, by rw [(show _ ∧ _ from h).2]⟩
theorem hk_envyOf (x y : Int32) : ∀ σ w υ, (oX12_envyOf (.ref 322 :: [.int x, .int y]) σ).2 w υ → υ.2.1 352 0 = σ.2.1 352 0 := fun σ w υ h => by rw [(show _ ∧ _ from h).2]; rfl
theorem xl_envyOf (x y : Int32) : xTl (fun σ => mP σ x = true ∧ mP σ y = true) xE oX11_envyOf oX12_envyOf [.int x, .int y] := xTl.of (xt_envyOf x y) (hc_envyOf x y) (fun _ _ c => c) (hk_envyOf x y)
theorem ht_envyOf {g : jG} (hEx : jEx g) {x y : Int32} {σ : jM} {R N K : Nat} (h : xRk σ R N K) (c : ¬ (mP σ x = true ∧ mP σ y = true)) : ∀ n, jTh g (n + 20) mX11_envyOf [.ref 0, .int x, .int y] σ (fun τ => τ = σ) := by
  by_cases px : mP σ x = true
  · exact fun n => XX11_envyOf_2 hEx n (xv_n h).2.2.2.2.2.2.1 ((xv_P h x).1.trans px) (fun z => c ⟨px, (xv_P h y).1.symm.trans z⟩)
  · exact fun n => XX11_envyOf hEx n (xv_n h).2.2.2.2.2.2.1 (fun z => px ((xv_P h x).1.symm.trans z))
theorem LC_37 {g : jG} (hEx : jEx g) {N : Nat} {xs : Nat → Int32} (hX : jScr g N xs) {T : lwT} {c0 s0 : Nat} (hc0 : c0 + 1 ≤ 601024) (hs0 : s0 + 6 ≤ 7293034) {i : Nat} (hi : i + 6 ≤ N) {σ : jM} (hR : xR σ) (k : ∀ υ, xR υ → jY g (zL T (c0 + 1) (s0 + 6)) mLw 1000 2617 (LL i) [] υ) : jY g (zL T c0 s0) mLw 1000 1657 (LL i) [] σ := by
  obtain ⟨a1, a2⟩ := xl_envyOf (xs (i + 1)) (xs (i + 2)) σ hR
  by_cases c : mP σ (xs (i + 1)) = true ∧ mP σ (xs (i + 2)) = true
  · exact LA_37 hX hc0 hs0 hi k (a1 c).1 (a1 c).2 (hv_envyOf _ _)
  · obtain ⟨R, N', K, h⟩ := hR
    exact LB_37 hEx hX hc0 hs0 hi k (th := xE) (ht_envyOf hEx h c) (a2 c)
/-! wouldSwap -/
theorem hv_wouldSwap (x y : Int32) : ∀ σ v τ, (oX11_wouldSwap [.ref 0, .int x, .int y] σ).2 v τ → ∃ a : Int32, v = some (.int a) := fun σ v τ h => ⟨_, (show _ ∧ _ from h).1⟩
theorem hc_wouldSwap (x y : Int32) : ∀ σ τ v y9, (oX11_wouldSwap (.ref 0 :: [.int x, .int y]) σ).2 v τ → (oX11_wouldSwap (.ref 0 :: [.int x, .int y]) (jupL σ 352 0 y9)).2 v (jupL τ 352 0 y9) := fun σ τ v y9 h => ⟨(show _ ∧ _ from h).1, by rw [(show _ ∧ _ from h).2]⟩
theorem hk_wouldSwap (x y : Int32) : ∀ σ w υ, (oX12_wouldSwap (.ref 322 :: [.int x, .int y]) σ).2 w υ → υ.2.1 352 0 = σ.2.1 352 0 := fun σ w υ h => by rw [(show _ ∧ _ from h).2]; rfl
theorem xl_wouldSwap (x y : Int32) : xTl (fun σ => mP σ x = true ∧ mP σ y = true) xE oX11_wouldSwap oX12_wouldSwap [.int x, .int y] := xTl.of (xt_wouldSwap x y) (hc_wouldSwap x y) (fun _ _ c => c) (hk_wouldSwap x y)
theorem ht_wouldSwap {g : jG} (hEx : jEx g) {x y : Int32} {σ : jM} {R N K : Nat} (h : xRk σ R N K) (c : ¬ (mP σ x = true ∧ mP σ y = true)) : ∀ n, jTh g (n + 20) mX11_wouldSwap [.ref 0, .int x, .int y] σ (fun τ => τ = σ) := by
  by_cases px : mP σ x = true
  · exact fun n => XX11_wouldSwap_2 hEx n (xv_n h).2.2.2.2.2.2.1 ((xv_P h x).1.trans px) (fun z => c ⟨px, (xv_P h y).1.symm.trans z⟩)
  · exact fun n => XX11_wouldSwap hEx n (xv_n h).2.2.2.2.2.2.1 (fun z => px ((xv_P h x).1.symm.trans z))
theorem LC_41 {g : jG} (hEx : jEx g) {N : Nat} {xs : Nat → Int32} (hX : jScr g N xs) {T : lwT} {c0 s0 : Nat} (hc0 : c0 + 1 ≤ 601024) (hs0 : s0 + 6 ≤ 7293034) {i : Nat} (hi : i + 6 ≤ N) {σ : jM} (hR : xR σ) (k : ∀ υ, xR υ → jY g (zL T (c0 + 1) (s0 + 6)) mLw 1000 2617 (LL i) [] υ) : jY g (zL T c0 s0) mLw 1000 1807 (LL i) [] σ := by
  obtain ⟨a1, a2⟩ := xl_wouldSwap (xs (i + 1)) (xs (i + 2)) σ hR
  by_cases c : mP σ (xs (i + 1)) = true ∧ mP σ (xs (i + 2)) = true
  · exact LA_41 hX hc0 hs0 hi k (a1 c).1 (a1 c).2 (hv_wouldSwap _ _)
  · obtain ⟨R, N', K, h⟩ := hR
    exact LB_41 hEx hX hc0 hs0 hi k (th := xE) (ht_wouldSwap hEx h c) (a2 c)
/-! price -/
theorem hv_price (x : Int32) : ∀ σ v τ, (oX11_price [.ref 0, .int x] σ).2 v τ → ∃ a : Int32, v = some (.int a) := fun σ v τ h => ⟨_, (show _ ∧ _ from h).1⟩
theorem hc_price (x : Int32) : ∀ σ τ v y9, (oX11_price (.ref 0 :: [.int x]) σ).2 v τ → (oX11_price (.ref 0 :: [.int x]) (jupL σ 352 0 y9)).2 v (jupL τ 352 0 y9) := fun σ τ v y9 h => ⟨(show _ ∧ _ from h).1, cuP_L (show _ ∧ _ from h).2⟩
theorem hk_price (x : Int32) : ∀ σ w υ, (oX12_price (.ref 322 :: [.int x]) σ).2 w υ → υ.2.1 352 0 = σ.2.1 352 0 := fun σ w υ h => (show _ ∧ _ ∧ _ from h).2.1.2.1 352 0 rfl
theorem xl_price (x : Int32) : xTl (fun σ => mR σ x = true) xE oX11_price oX12_price [.int x] := xTl.of (xt_price x) (hc_price x) (fun _ _ c => c) (hk_price x)
theorem ht_price {g : jG} (hEx : jEx g) {x : Int32} {σ : jM} {R N K : Nat} (h : xRk σ R N K) (c : ¬ (mR σ x = true)) : ∀ n, jTh g (n + 20) mX11_price [.ref 0, .int x] σ (fun τ => τ = σ) := fun n => XX11_price hEx n (xv_n h).2.2.2.2.2.2.1 (fun z => c ((xv_R h _).1.symm.trans z))
theorem LC_24 {g : jG} (hEx : jEx g) {N : Nat} {xs : Nat → Int32} (hX : jScr g N xs) {T : lwT} {c0 s0 : Nat} (hc0 : c0 + 1 ≤ 601024) (hs0 : s0 + 6 ≤ 7293034) {i : Nat} (hi : i + 6 ≤ N) {σ : jM} (hR : xR σ) (k : ∀ υ, xR υ → jY g (zL T (c0 + 1) (s0 + 6)) mLw 1000 2617 (LL i) [] υ) : jY g (zL T c0 s0) mLw 1000 1108 (LL i) [] σ := by
  obtain ⟨a1, a2⟩ := xl_price (xs (i + 1)) σ hR
  by_cases c : mR σ (xs (i + 1)) = true
  · exact LA_24 hX hc0 hs0 hi k (a1 c).1 (a1 c).2 (hv_price _)
  · obtain ⟨R, N', K, h⟩ := hR
    exact LB_24 hEx hX hc0 hs0 hi k (th := xE) (ht_price hEx h c) (a2 c)
/-! personIn -/
theorem hv_personIn (x : Int32) : ∀ σ v τ, (oX11_personIn [.ref 0, .int x] σ).2 v τ → ∃ a : Int32, v = some (.int a) := fun σ v τ h => ⟨_, (show _ ∧ _ from h).1⟩
theorem hc_personIn (x : Int32) : ∀ σ τ v y9, (oX11_personIn (.ref 0 :: [.int x]) σ).2 v τ → (oX11_personIn (.ref 0 :: [.int x]) (jupL σ 352 0 y9)).2 v (jupL τ 352 0 y9) := fun σ τ v y9 h => ⟨(show _ ∧ _ from h).1, by rw [(show _ ∧ _ from h).2]⟩
theorem hk_personIn (x : Int32) : ∀ σ w υ, (oX12_personIn (.ref 322 :: [.int x]) σ).2 w υ → υ.2.1 352 0 = σ.2.1 352 0 := fun σ w υ h => by rw [(show _ ∧ _ from h).2]; rfl
theorem xl_personIn (x : Int32) : xTl (fun σ => mR σ x = true) xE oX11_personIn oX12_personIn [.int x] := xTl.of (xt_personIn x) (hc_personIn x) (fun _ _ c => c) (hk_personIn x)
theorem ht_personIn {g : jG} (hEx : jEx g) {x : Int32} {σ : jM} {R N K : Nat} (h : xRk σ R N K) (c : ¬ (mR σ x = true)) : ∀ n, jTh g (n + 20) mX11_personIn [.ref 0, .int x] σ (fun τ => τ = σ) := fun n => XX11_personIn hEx n (xv_n h).2.2.2.2.2.2.1 (fun z => c ((xv_R h _).1.symm.trans z))
theorem LC_34 {g : jG} (hEx : jEx g) {N : Nat} {xs : Nat → Int32} (hX : jScr g N xs) {T : lwT} {c0 s0 : Nat} (hc0 : c0 + 1 ≤ 601024) (hs0 : s0 + 6 ≤ 7293034) {i : Nat} (hi : i + 6 ≤ N) {σ : jM} (hR : xR σ) (k : ∀ υ, xR υ → jY g (zL T (c0 + 1) (s0 + 6)) mLw 1000 2617 (LL i) [] υ) : jY g (zL T c0 s0) mLw 1000 1532 (LL i) [] σ := by
  obtain ⟨a1, a2⟩ := xl_personIn (xs (i + 1)) σ hR
  by_cases c : mR σ (xs (i + 1)) = true
  · exact LA_34 hX hc0 hs0 hi k (a1 c).1 (a1 c).2 (hv_personIn _)
  · obtain ⟨R, N', K, h⟩ := hR
    exact LB_34 hEx hX hc0 hs0 hi k (th := xE) (ht_personIn hEx h c) (a2 c)
/-! extreme -/
theorem hv_extreme (x y : Int32) : ∀ σ v τ, (oX11_extreme [.ref 0, .int x, .int y] σ).2 v τ → ∃ a : Int32, v = some (.int a) := fun σ v τ h => ⟨_, (show _ ∧ _ from h).1⟩
theorem hc_extreme (x y : Int32) : ∀ σ τ v y9, (oX11_extreme (.ref 0 :: [.int x, .int y]) σ).2 v τ → (oX11_extreme (.ref 0 :: [.int x, .int y]) (jupL σ 352 0 y9)).2 v (jupL τ 352 0 y9) := fun σ τ v y9 h => ⟨(show _ ∧ _ from h).1, cuP_L (show _ ∧ _ from h).2⟩
theorem hk_extreme (x y : Int32) : ∀ σ w υ, (oX12_extreme (.ref 322 :: [.int x, .int y]) σ).2 w υ → υ.2.1 352 0 = σ.2.1 352 0 := fun σ w υ h => (show _ ∧ _ ∧ _ from h).2.1.2.1 352 0 rfl
theorem xl_extreme (x y : Int32) : xTl (fun σ => mR σ x = true) xE oX11_extreme oX12_extreme [.int x, .int y] := xTl.of (xt_extreme x y) (hc_extreme x y) (fun _ _ c => c) (hk_extreme x y)
theorem ht_extreme {g : jG} (hEx : jEx g) {x y : Int32} {σ : jM} {R N K : Nat} (h : xRk σ R N K) (c : ¬ (mR σ x = true)) : ∀ n, jTh g (n + 20) mX11_extreme [.ref 0, .int x, .int y] σ (fun τ => τ = σ) := fun n => XX11_extreme hEx n (xv_n h).2.2.2.2.2.2.1 (fun z => c ((xv_R h _).1.symm.trans z))
theorem LC_23 {g : jG} (hEx : jEx g) {N : Nat} {xs : Nat → Int32} (hX : jScr g N xs) {T : lwT} {c0 s0 : Nat} (hc0 : c0 + 1 ≤ 601024) (hs0 : s0 + 6 ≤ 7293034) {i : Nat} (hi : i + 6 ≤ N) {σ : jM} (hR : xR σ) (k : ∀ υ, xR υ → jY g (zL T (c0 + 1) (s0 + 6)) mLw 1000 2617 (LL i) [] υ) : jY g (zL T c0 s0) mLw 1000 1024 (LL i) [] σ := by
  obtain ⟨a1, a2⟩ := xl_extreme (xs (i + 1)) (if xs (i + 2) = 0 then 0 else 1) σ hR
  by_cases c : mR σ (xs (i + 1)) = true
  · exact LA_23 hX hc0 hs0 hi k (a1 c).1 (a1 c).2 (hv_extreme _ _)
  · obtain ⟨R, N', K, h⟩ := hR
    exact LB_23 hEx hX hc0 hs0 hi k (th := xE) (ht_extreme hEx h c) (a2 c)
/-! plan -/
theorem hv_plan (x y : Int32) : ∀ σ v τ, (oX11_plan [.ref 0, .int x, .int y] σ).2 v τ → ∃ a : Int32, v = some (.int a) := fun σ v τ h => ⟨_, (show _ ∧ _ from h).1⟩
theorem hc_plan (x y : Int32) : ∀ σ τ v y9, (oX11_plan (.ref 0 :: [.int x, .int y]) σ).2 v τ → (oX11_plan (.ref 0 :: [.int x, .int y]) (jupL σ 352 0 y9)).2 v (jupL τ 352 0 y9) := fun σ τ v y9 h => ⟨(show _ ∧ _ from h).1, by rw [(show _ ∧ _ from h).2]⟩
theorem hk_plan (x y : Int32) : ∀ σ w υ, (oX12_plan (.ref 322 :: [.int x, .int y]) σ).2 w υ → υ.2.1 352 0 = σ.2.1 352 0 := fun σ w υ h => by rw [(show _ ∧ _ from h).2]; rfl
theorem xl_plan (x y : Int32) : xTl (fun σ => mIn x 0 (nI (cn (mO σ) (mPl σ)) - 1) = true) xE oX11_plan oX12_plan [.int x, .int y] := xTl.of (xt_plan x y) (hc_plan x y) (fun _ _ c => c) (hk_plan x y)
theorem ht_plan {g : jG} (hEx : jEx g) {x y : Int32} {σ : jM} {R N K : Nat} (h : xRk σ R N K) (c : ¬ (mIn x 0 (nI (cn (mO σ) (mPl σ)) - 1) = true)) : ∀ n, jTh g (n + 20) mX11_plan [.ref 0, .int x, .int y] σ (fun τ => τ = σ) := fun n => XX11_plan hEx n (th_plan h c)
theorem LC_18 {g : jG} (hEx : jEx g) {N : Nat} {xs : Nat → Int32} (hX : jScr g N xs) {T : lwT} {c0 s0 : Nat} (hc0 : c0 + 1 ≤ 601024) (hs0 : s0 + 6 ≤ 7293034) {i : Nat} (hi : i + 6 ≤ N) {σ : jM} (hR : xR σ) (k : ∀ υ, xR υ → jY g (zL T (c0 + 1) (s0 + 6)) mLw 1000 2617 (LL i) [] υ) : jY g (zL T c0 s0) mLw 1000 861 (LL i) [] σ := by
  obtain ⟨a1, a2⟩ := xl_plan (xs (i + 1)) (xs (i + 2)) σ hR
  by_cases c : mIn (xs (i + 1)) 0 (nI (cn (mO σ) (mPl σ)) - 1) = true
  · exact LA_18 hX hc0 hs0 hi k (a1 c).1 (a1 c).2 (hv_plan _ _)
  · obtain ⟨R, N', K, h⟩ := hR
    exact LB_18 hEx hX hc0 hs0 hi k (th := xE) (ht_plan hEx h c) (a2 c)
/-! transfer -/
theorem hv_transfer (x y : Int32) : ∀ σ v τ, (oX11_transfer [.ref 0, .int x, .int y] σ).2 v τ → ∃ a : Int32, v = some (.int a) := fun σ v τ h => ⟨_, (show _ ∧ _ from h).1⟩
theorem hc_transfer (x y : Int32) : ∀ σ τ v y9, (oX11_transfer (.ref 0 :: [.int x, .int y]) σ).2 v τ → (oX11_transfer (.ref 0 :: [.int x, .int y]) (jupL σ 352 0 y9)).2 v (jupL τ 352 0 y9) := fun σ τ v y9 h => ⟨(show _ ∧ _ from h).1, jfr_L (show _ ∧ _ from h).2⟩
theorem hk_transfer (x y : Int32) : ∀ σ w υ, (oX12_transfer (.ref 322 :: [.int x, .int y]) σ).2 w υ → υ.2.1 352 0 = σ.2.1 352 0 := fun σ w υ h => (show _ ∧ _ ∧ _ from h).2.1.2.1 352 0 rfl
theorem xl_transfer (x y : Int32) : xTl (fun σ => mIn x 0 (nI (trS σ).length - 1) = true) (fun σ τ => jfr aMs bAi σ τ) oX11_transfer oX12_transfer [.int x, .int y] := xTl.of (xt_transfer x y) (hc_transfer x y) (fun _ _ c => c) (hk_transfer x y)
theorem ht_transfer {g : jG} (hEx : jEx g) {x y : Int32} {σ : jM} {R N K : Nat} (h : xRk σ R N K) (c : ¬ (mIn x 0 (nI (trS σ).length - 1) = true)) : ∀ n, jTh g (n + 20) mX11_transfer [.ref 0, .int x, .int y] σ (fun τ => jfr aMs bAi σ τ) := fun n => XX11_transfer hEx n (xv_n h).2.2.2.2.2.2.1 (xv_dpO h).2.2.1 (xv_dpO h).1 (xv_dpO h).2.1 (th_transfer h c)
theorem LC_48 {g : jG} (hEx : jEx g) {N : Nat} {xs : Nat → Int32} (hX : jScr g N xs) {T : lwT} {c0 s0 : Nat} (hc0 : c0 + 1 ≤ 601024) (hs0 : s0 + 6 ≤ 7293034) {i : Nat} (hi : i + 6 ≤ N) {σ : jM} (hR : xR σ) (k : ∀ υ, xR υ → jY g (zL T (c0 + 1) (s0 + 6)) mLw 1000 2617 (LL i) [] υ) : jY g (zL T c0 s0) mLw 1000 2122 (LL i) [] σ := by
  obtain ⟨a1, a2⟩ := xl_transfer (xs (i + 1)) (xs (i + 2)) σ hR
  by_cases c : mIn (xs (i + 1)) 0 (nI (trS σ).length - 1) = true
  · exact LA_48 hX hc0 hs0 hi k (a1 c).1 (a1 c).2 (hv_transfer _ _)
  · obtain ⟨R, N', K, h⟩ := hR
    exact LB_48 hEx hX hc0 hs0 hi k (th := (fun σ τ => jfr aMs bAi σ τ)) (ht_transfer hEx h c) (a2 c)
