/-! the reference: months pass -/
/-- the plans are ones of people, with incomes in their range -/
def pOK (σ : jM) : Prop := ∀ k, k < mPl σ → jin (σ.1 327 k) 10 ∧ 0 ≤ σ.1 329 k ∧ σ.1 329 k ≤ 99999
def ps1 (σ : jM) (k : Nat) (f : Nat → Int32) : Nat → Int32 := if (f 7 >>> (nI k &&& 31)) &&& 1 = 0 ∧ σ.1 328 k = f 5 then (fun j => if j = 7 then f 7 ||| (1 <<< (nI k &&& 31)) else if j = 8 + 20 * (σ.1 327 k).toNatClampNeg + 1 then σ.1 329 k else f j) else f
def psI (σ : jM) (f : Nat → Int32) : Nat → (Nat → Int32)
  | 0 => f
  | k + 1 => ps1 σ k (psI σ f k)
def cl1 (p : Nat) (f : Nat → Int32) : Nat → Int32 := if 0 ≤ f (8 + 20 * p + 2) then (fun j => if j = 8 + 20 * p + 6 then f (8 + 20 * p + 6) + 1 else if j = 8 + 20 * p + 4 then f (8 + 20 * p + 4) + f (8 + 20 * p + 3) else f j) else f
def clI (f : Nat → Int32) : Nat → (Nat → Int32)
  | 0 => f
  | p + 1 => cl1 p (clI f p)
def paF (σ : jM) (f : Nat → Int32) : Nat → Int32 := if f 2 = 1 ∧ (dC (rw3 σ f)).isSome = true then agR (mCh (rw3 σ f)) (mPy (rw3 σ f)) f (mN σ) else f
def peF (σ : jM) (f : Nat → Int32) : Nat → Int32 := fun j => if j = 5 then f 5 + 1 else if j = 6 then f 6 + (f 3 - sm (fun p => f (8 + 20 * p + 3)) (mN σ)) else f j
/-- a row when a month has passed -/
def pmF (σ : jM) (f : Nat → Int32) : Nat → Int32 := peF σ (clI (paF σ (psI σ f (mPl σ))) (mN σ))
theorem dI_of {f f' : Nat → Int32} (h : dI f) (h1 : f' 1 = f 1) (h3 : f' 3 = f 3) (h4 : f' 4 = f 4) (hv : ∀ p r, p < 10 → r < 6 → f' (8 + 20 * p + (7 + r)) = f (8 + 20 * p + (7 + r))) (hi : ∀ p, p < 10 → 0 ≤ f' (8 + 20 * p + 1) ∧ f' (8 + 20 * p + 1) ≤ 99999) : dI f' := by
  obtain ⟨a1, a2, a3, a4, a5⟩ := h
  refine ⟨fun p hp r hr => by rw [hv p r hp hr]; exact a1 p hp r hr, hi, by rw [h3]; exact a3, by rw [h4]; exact a4, by rw [h1]; exact a5⟩
theorem ps1_o (σ : jM) (k : Nat) (f : Nat → Int32) {j : Nat} (h7 : j ≠ 7) (h1 : ∀ p, j ≠ 8 + 20 * p + 1) : ps1 σ k f j = f j := by
  unfold ps1
  split
  · dsimp only
    rw [if_neg h7, if_neg (h1 _)]
  · rfl
theorem psI_o (σ : jM) (f : Nat → Int32) {j : Nat} (h7 : j ≠ 7) (h1 : ∀ p, j ≠ 8 + 20 * p + 1) : ∀ k, psI σ f k j = f j
  | 0 => rfl
  | k + 1 => by
    simp only [psI]
    rw [ps1_o σ k _ h7 h1, psI_o σ f h7 h1 k]
theorem psI_d {σ : jM} (hp : pOK σ) {f : Nat → Int32} (h : dI f) : ∀ k, k ≤ mPl σ → dI (psI σ f k)
  | 0, _ => h
  | k + 1, hk => by
    have ih := psI_d hp h k (by omega)
    refine dI_of ih ?_ ?_ ?_ (fun p r hp hr => ?_) (fun p hp' => ?_)
    · exact ps1_o σ k _ (by omega) (fun p => by omega)
    · exact ps1_o σ k _ (by omega) (fun p => by omega)
    · exact ps1_o σ k _ (by omega) (fun p => by omega)
    · exact ps1_o σ k _ (by omega) (fun p => by omega)
    · show 0 ≤ ps1 σ k (psI σ f k) _ ∧ ps1 σ k (psI σ f k) _ ≤ 99999
      unfold ps1
      split
      · dsimp only
        rw [if_neg (by omega)]
        split
        · exact (hp k (by omega)).2
        · exact ih.2.1 p hp'
      · exact ih.2.1 p hp'
theorem agR_o (ch py f : Nat → Int32) (k : Nat) {j : Nat} (h : ∀ p, j ≠ 8 + 20 * p + 2 ∧ j ≠ 8 + 20 * p + 3) : agR ch py f k j = f j := by
  unfold agR
  have := h ((j - 8) / 20)
  rw [if_neg (by omega), if_neg (by omega)]
theorem paF_o (σ : jM) (f : Nat → Int32) {j : Nat} (h : ∀ p, j ≠ 8 + 20 * p + 2 ∧ j ≠ 8 + 20 * p + 3) : paF σ f j = f j := by
  unfold paF
  split
  · exact agR_o _ _ _ _ h
  · rfl
theorem cl1_o (p : Nat) (f : Nat → Int32) {j : Nat} (h4 : ∀ p, j ≠ 8 + 20 * p + 4 ∧ j ≠ 8 + 20 * p + 6) : cl1 p f j = f j := by
  unfold cl1
  split
  · dsimp only
    rw [if_neg (h4 p).2, if_neg (h4 p).1]
  · rfl
theorem clI_o (f : Nat → Int32) {j : Nat} (h4 : ∀ p, j ≠ 8 + 20 * p + 4 ∧ j ≠ 8 + 20 * p + 6) : ∀ k, clI f k j = f j
  | 0 => rfl
  | k + 1 => by
    simp only [clI]
    rw [cl1_o k _ h4, clI_o f h4 k]
theorem paF_d {σ : jM} {f : Nat → Int32} (h : dI f) : dI (paF σ f) := dI_of h (paF_o σ f (fun p => by omega)) (paF_o σ f (fun p => by omega)) (paF_o σ f (fun p => by omega)) (fun p r _ hr => paF_o σ f (fun q => by omega)) (fun p hp => by
  rw [paF_o σ f (fun q => by omega)]; exact h.2.1 p hp)
theorem clI_d {f : Nat → Int32} (h : dI f) (k : Nat) : dI (clI f k) := dI_of h (clI_o f (fun p => by omega) k) (clI_o f (fun p => by omega) k) (clI_o f (fun p => by omega) k) (fun p r _ hr => clI_o f (fun q => by omega) k) (fun p hp => by
  rw [clI_o f (fun q => by omega) k]; exact h.2.1 p hp)
theorem peF_o (σ : jM) (f : Nat → Int32) {j : Nat} (h5 : j ≠ 5) (h6 : j ≠ 6) : peF σ f j = f j := by
  unfold peF
  rw [if_neg h5, if_neg h6]
theorem peF_d {σ : jM} {f : Nat → Int32} (h : dI f) : dI (peF σ f) := dI_of h (peF_o σ f (by omega) (by omega)) (peF_o σ f (by omega) (by omega)) (peF_o σ f (by omega) (by omega)) (fun p r _ hr => peF_o σ f (by omega) (by omega)) (fun p hp => by
  rw [peF_o σ f (by omega) (by omega)]; exact h.2.1 p hp)
theorem pmF_d {σ : jM} (hp : pOK σ) {f : Nat → Int32} (h : dI f) : dI (pmF σ f) := peF_d (clI_d (paF_d (psI_d hp h _ (Nat.le_refl _))) _)
theorem rw3_fr {A : Nat → Nat → Bool} {B : Nat → Bool} {σ τ : jM} (h : jfr A B σ τ) (hA : ∀ j, A 323 j = false) (f : Nat → Int32) : jfr A B (rw3 σ f) (rw3 τ f) := by
  refine ⟨h.1, h.2.1, fun a j q => ?_⟩
  rw [rw3_1, rw3_1]
  by_cases e : a = 323
  · rw [if_pos e, if_pos e]
  · rw [if_neg e, if_neg e]; exact h.2.2 a j q
theorem rw3_rw3 (σ : jM) (f h : Nat → Int32) : rw3 (rw3 σ f) h = rw3 σ h := by
  unfold rw3
  congr 1
  funext i j
  by_cases e : i = 323
  · simp [e]
  · simp [e]
def oX12_passes : jO := joR fun a σ => (a = 322 ∧ mOK σ ∧ dI (σ.1 323) ∧ pOK σ, fun v τ => v = none ∧ jfr aSc bSc (rw3 σ (pmF σ (σ.1 323))) τ)
set_option maxRecDepth 100000 in
set_option maxHeartbeats 4000000 in
theorem CPs4 (g : jG) (n : Nat) {post : Option Value → jM → Prop} {σ τ : jM} (hok : mOK σ) (s3 : τ.1 322 3 = σ.1 322 3) (s4 : τ.1 322 4 = σ.1 322 4) (s5 : τ.1 322 5 = σ.1 322 5) (k : post none (rw3 τ (peF σ (clI (τ.1 323) (mN σ))))) : jW g mX12_passes (n + 16) post 100 [(0, .ref 322), (1, .int 0)] [] τ := by
  obtain ⟨hN10, hN4⟩ := mN_le hok
  have key := jloop (P := fun p => jW g mX12_passes (n + 16) post 100 [(0, .ref 322), (1, .int (nI p))] [] (rw3 τ (clI (τ.1 323) p))) (N := mN σ) (by
    have hle : nI (mN σ) ≤ nI (mN σ) := nI_le (Nat.le_refl _) (by omega)
    obtain ⟨ρ, eρ⟩ : ∃ ρ, ρ = rw3 τ (clI (τ.1 323) (mN σ)) := ⟨_, rfl⟩
    rw [← eρ]
    have e4 : ρ.1 322 4 = nI (mN σ) := by rw [eρ]; exact s4.trans hN4
    have hok2 : mOK ρ := by rw [eρ]; exact mOK_of hok s3 s4 s5
    have hok3 : ∀ x, mOK (jup ρ 323 6 x) := fun x => mOK_up hok2 6 x
    have eN : mN ρ = mN σ := by rw [eρ]; unfold mN; rw [rw3_o _ _ (by decide), s4]
    have eS : sm (fun p => mD ρ p 3) (mN σ) = sm (fun p => clI (τ.1 323) (mN σ) (8 + 20 * p + 3)) (mN σ) := by
      rw [eρ]
      unfold mD
      rw [rw3_r]
    have e6 : ρ.1 323 6 = clI (τ.1 323) (mN σ) 6 := by rw [eρ, rw3_r]
    have e3 : ρ.1 323 3 = clI (τ.1 323) (mN σ) 3 := by rw [eρ, rw3_r]
    have e5 : ρ.1 323 5 = clI (τ.1 323) (mN σ) 5 := by rw [eρ, rw3_r]
    have fin : jup (jup ρ 323 6 (clI (τ.1 323) (mN σ) 6 + (clI (τ.1 323) (mN σ) 3 - sm (fun p => clI (τ.1 323) (mN σ) (8 + 20 * p + 3)) (mN σ)))) 323 5 (clI (τ.1 323) (mN σ) 5 + 1) = rw3 τ (peF σ (clI (τ.1 323) (mN σ))) := by
      rw [eρ, rw3_up, rw3_up]
      congr 1
    rw [← fin] at k
    refine jvk_ok TX12_passes (V := [(159, 2, 12, oX12_isOpen), (217, 1, 12, oX12_laysProposal), (266, 1, 12, oX12_agrees), (229, 2, 12, oX12_hasRoom), (128, 3, 12, oX12_of), (241, 1, 12, oX12_paymentSum)]) (S := [(124, 2, 0, oX12_place)]) (List.forall_mem_cons.mpr ⟨⟨mX12_isOpen, n + 0, 1, TX12, 53, rfl, by omega, kX12_159, WX12_isOpen, rfl, CX12_isOpen g (n)⟩, (List.forall_mem_cons.mpr ⟨⟨mX12_laysProposal, n + 15, 0, TX12, 53, rfl, by omega, kX12_217, WX12_laysProposal, rfl, CX12_laysProposal g (n)⟩, (List.forall_mem_cons.mpr ⟨⟨mX12_agrees, n + 2, 0, TX12, 53, rfl, by omega, kX12_266, WX12_agrees, rfl, CX12_agrees g (n)⟩, (List.forall_mem_cons.mpr ⟨⟨mX12_hasRoom, n + 2, 1, TX12, 53, rfl, by omega, kX12_229, WX12_hasRoom, rfl, CX12_hasRoom g (n)⟩, (List.forall_mem_cons.mpr ⟨⟨mX12_of, n + 1, 2, TX12, 53, rfl, by omega, kX12_128, WX12_of, rfl, CX12_of g (n)⟩, (List.forall_mem_cons.mpr ⟨⟨mX12_paymentSum, n + 2, 0, TX12, 53, rfl, by omega, kX12_241, WX12_paymentSum, rfl, CX12_paymentSum g (n)⟩, (fun _ h => absurd h List.not_mem_nil)⟩)⟩)⟩)⟩)⟩)⟩) (List.forall_mem_cons.mpr ⟨⟨mX12_place, n + 0, by omega, Or.inl kX12_124, WX12_place, CX12_place g (n)⟩, (fun _ h => absurd h List.not_mem_nil)⟩) [100] 60 _ _ _ _ ?_
    simp (maxSteps := 1000000) [↓Bool.cond_eq_ite, -Prod.forall, -Prod.exists, -Prod.mk.injEq, jvk, tX12_passes, jtb, jol, jst, jlk, jcmp, jbin, jfl, fX12, jc2, lX12, jcat, jel, lv_args, Value.category, jins, jsrt, jins2, jble, jblt, jf3, List.filter_cons, List.filter_nil, G_m, oX12_isOpen, oX12_place, oX12_laysProposal, oX12_agrees, oX12_hasRoom, oX12_of, oX12_paymentSum, joII, joR, joRI, joRII, -Int32.not_le, -Int32.not_lt, -Int64.not_le, -Int64.not_lt, i3lt, i6lt, e4, hle, hok2, eN, eS, e6, e3, e5, jup_1, jin_d, tn_c]
    try simp (disch := omega) [-Prod.forall, -Prod.exists, -Prod.mk.injEq, -Int32.not_le, -Int32.not_lt, -Int64.not_le, -Int64.not_lt, i3lt, i6lt, e4, hle, hok2, eN, eS, e6, e3, e5, jup_1, jin_d, tn_c]
    exact k) (fun p hp ih => by
    have hlt : ¬ nI (mN σ) ≤ nI p := nI_ge hp (by omega)
    have hk1 : jin (nI p) 10 := jin_nI (by omega) (by decide)
    have eck : (nI p).toNatClampNeg = p := nI_clamp (by omega)
    simp only [clI] at ih
    obtain ⟨f, ef⟩ : ∃ f, f = clI (τ.1 323) p := ⟨_, rfl⟩
    rw [← ef] at ih ⊢
    obtain ⟨ρ, eρ⟩ : ∃ ρ, ρ = rw3 τ f := ⟨_, rfl⟩
    have e4 : ρ.1 322 4 = nI (mN σ) := by rw [eρ]; exact s4.trans hN4
    have emD : ∀ w, mD ρ p w = f (8 + 20 * p + w) := fun w => by rw [eρ]; unfold mD; rw [rw3_r]
    have er : ρ.1 323 = f := by rw [eρ, rw3_r]
    by_cases h0 : 0 ≤ f (8 + 20 * p + 2)
    · have eS : rw3 τ (cl1 p f) = jup (jup ρ 323 (8 + 20 * p + 4) (f (8 + 20 * p + 4) + f (8 + 20 * p + 3))) 323 (8 + 20 * p + 6) (f (8 + 20 * p + 6) + 1) := by
        rw [eρ, rw3_up, rw3_up]
        congr 1
        unfold cl1
        rw [if_pos h0]
      have em4 : mpl (nI p) 4 = 8 + 20 * p + 4 := by unfold mpl; rw [eck]; rfl
      have em6 : mpl (nI p) 6 = 8 + 20 * p + 6 := by unfold mpl; rw [eck]; rfl
      have h4 := jN_208 (k := 8 + 20 * p + 4) (by omega)
      have h6 := jN_208 (k := 8 + 20 * p + 6) (by omega)
      have hne : ¬ 8 + 20 * p + 6 = 8 + 20 * p + 4 := by omega
      rw [eS] at ih
      rw [← eρ]
      refine jvk_ok TX12_passes (V := [(159, 2, 12, oX12_isOpen), (217, 1, 12, oX12_laysProposal), (266, 1, 12, oX12_agrees), (229, 2, 12, oX12_hasRoom), (128, 3, 12, oX12_of), (241, 1, 12, oX12_paymentSum)]) (S := [(124, 2, 0, oX12_place)]) (List.forall_mem_cons.mpr ⟨⟨mX12_isOpen, n + 0, 1, TX12, 53, rfl, by omega, kX12_159, WX12_isOpen, rfl, CX12_isOpen g (n)⟩, (List.forall_mem_cons.mpr ⟨⟨mX12_laysProposal, n + 15, 0, TX12, 53, rfl, by omega, kX12_217, WX12_laysProposal, rfl, CX12_laysProposal g (n)⟩, (List.forall_mem_cons.mpr ⟨⟨mX12_agrees, n + 2, 0, TX12, 53, rfl, by omega, kX12_266, WX12_agrees, rfl, CX12_agrees g (n)⟩, (List.forall_mem_cons.mpr ⟨⟨mX12_hasRoom, n + 2, 1, TX12, 53, rfl, by omega, kX12_229, WX12_hasRoom, rfl, CX12_hasRoom g (n)⟩, (List.forall_mem_cons.mpr ⟨⟨mX12_of, n + 1, 2, TX12, 53, rfl, by omega, kX12_128, WX12_of, rfl, CX12_of g (n)⟩, (List.forall_mem_cons.mpr ⟨⟨mX12_paymentSum, n + 2, 0, TX12, 53, rfl, by omega, kX12_241, WX12_paymentSum, rfl, CX12_paymentSum g (n)⟩, (fun _ h => absurd h List.not_mem_nil)⟩)⟩)⟩)⟩)⟩)⟩) (List.forall_mem_cons.mpr ⟨⟨mX12_place, n + 0, by omega, Or.inl kX12_124, WX12_place, CX12_place g (n)⟩, (fun _ h => absurd h List.not_mem_nil)⟩) [100] 60 _ _ _ _ ?_
      simp (maxSteps := 1000000) [↓Bool.cond_eq_ite, -Prod.forall, -Prod.exists, -Prod.mk.injEq, jvk, tX12_passes, jtb, jol, jst, jlk, jcmp, jbin, jfl, fX12, jc2, lX12, jcat, jel, lv_args, Value.category, jins, jsrt, jins2, jble, jblt, jf3, List.filter_cons, List.filter_nil, G_m, oX12_isOpen, oX12_place, oX12_laysProposal, oX12_agrees, oX12_hasRoom, oX12_of, oX12_paymentSum, joII, joR, joRI, joRII, -Int32.not_le, -Int32.not_lt, -Int64.not_le, -Int64.not_lt, i3lt, i6lt, e4, hlt, hk1, eck, emD, er, h0, em4, em6, h4, h6, hne, jup_1, jin_c, tn_c, nI_1]
      try simp (disch := omega) [-Prod.forall, -Prod.exists, -Prod.mk.injEq, -Int32.not_le, -Int32.not_lt, -Int64.not_le, -Int64.not_lt, i3lt, i6lt, e4, hlt, hk1, eck, emD, er, h0, em4, em6, h4, h6, hne, jup_1, jin_c, tn_c, nI_1]
      exact ih
    · have eS : rw3 τ (cl1 p f) = ρ := by
        rw [eρ]
        unfold cl1
        rw [if_neg h0]
      rw [eS] at ih
      rw [← eρ]
      refine jvk_ok TX12_passes (V := [(159, 2, 12, oX12_isOpen), (217, 1, 12, oX12_laysProposal), (266, 1, 12, oX12_agrees), (229, 2, 12, oX12_hasRoom), (128, 3, 12, oX12_of), (241, 1, 12, oX12_paymentSum)]) (S := [(124, 2, 0, oX12_place)]) (List.forall_mem_cons.mpr ⟨⟨mX12_isOpen, n + 0, 1, TX12, 53, rfl, by omega, kX12_159, WX12_isOpen, rfl, CX12_isOpen g (n)⟩, (List.forall_mem_cons.mpr ⟨⟨mX12_laysProposal, n + 15, 0, TX12, 53, rfl, by omega, kX12_217, WX12_laysProposal, rfl, CX12_laysProposal g (n)⟩, (List.forall_mem_cons.mpr ⟨⟨mX12_agrees, n + 2, 0, TX12, 53, rfl, by omega, kX12_266, WX12_agrees, rfl, CX12_agrees g (n)⟩, (List.forall_mem_cons.mpr ⟨⟨mX12_hasRoom, n + 2, 1, TX12, 53, rfl, by omega, kX12_229, WX12_hasRoom, rfl, CX12_hasRoom g (n)⟩, (List.forall_mem_cons.mpr ⟨⟨mX12_of, n + 1, 2, TX12, 53, rfl, by omega, kX12_128, WX12_of, rfl, CX12_of g (n)⟩, (List.forall_mem_cons.mpr ⟨⟨mX12_paymentSum, n + 2, 0, TX12, 53, rfl, by omega, kX12_241, WX12_paymentSum, rfl, CX12_paymentSum g (n)⟩, (fun _ h => absurd h List.not_mem_nil)⟩)⟩)⟩)⟩)⟩)⟩) (List.forall_mem_cons.mpr ⟨⟨mX12_place, n + 0, by omega, Or.inl kX12_124, WX12_place, CX12_place g (n)⟩, (fun _ h => absurd h List.not_mem_nil)⟩) [100] 60 _ _ _ _ ?_
      simp (maxSteps := 1000000) [↓Bool.cond_eq_ite, -Prod.forall, -Prod.exists, -Prod.mk.injEq, jvk, tX12_passes, jtb, jol, jst, jlk, jcmp, jbin, jfl, fX12, jc2, lX12, jcat, jel, lv_args, Value.category, jins, jsrt, jins2, jble, jblt, jf3, List.filter_cons, List.filter_nil, G_m, oX12_isOpen, oX12_place, oX12_laysProposal, oX12_agrees, oX12_hasRoom, oX12_of, oX12_paymentSum, joII, joR, joRI, joRII, -Int32.not_le, -Int32.not_lt, -Int64.not_le, -Int64.not_lt, i3lt, i6lt, e4, hlt, hk1, eck, emD, h0, jin_c, tn_c, nI_1]
      try simp (disch := omega) [-Prod.forall, -Prod.exists, -Prod.mk.injEq, -Int32.not_le, -Int32.not_lt, -Int64.not_le, -Int64.not_lt, i3lt, i6lt, e4, hlt, hk1, eck, emD, h0, jin_c, tn_c, nI_1]
      exact ih)
  have e0 : rw3 τ (clI (τ.1 323) 0) = τ := rw3_self τ
  rw [nI_0, e0] at key
  exact key
set_option maxRecDepth 100000 in
set_option maxHeartbeats 4000000 in
theorem CX12_passes (g : jG) (n : Nat) : jOk g (n + 16) mX12_passes oX12_passes := by
  refine joR_ok ?_
  rintro _ σ ⟨rfl, hok, hd, hpo⟩
  obtain ⟨hN10, hN4⟩ := mN_le hok
  obtain ⟨hL20, hL5⟩ := mPl_le hok
  refine jCon.ofP (by decide +kernel) (by simp [lg_sl, Value.category]) (fun post hp => ?_)
  refine jvk_ok TX12_passes (V := [(159, 2, 12, oX12_isOpen), (217, 1, 12, oX12_laysProposal), (266, 1, 12, oX12_agrees), (229, 2, 12, oX12_hasRoom), (128, 3, 12, oX12_of), (241, 1, 12, oX12_paymentSum)]) (S := [(124, 2, 0, oX12_place)]) (List.forall_mem_cons.mpr ⟨⟨mX12_isOpen, n + 0, 1, TX12, 53, rfl, by omega, kX12_159, WX12_isOpen, rfl, CX12_isOpen g (n)⟩, (List.forall_mem_cons.mpr ⟨⟨mX12_laysProposal, n + 15, 0, TX12, 53, rfl, by omega, kX12_217, WX12_laysProposal, rfl, CX12_laysProposal g (n)⟩, (List.forall_mem_cons.mpr ⟨⟨mX12_agrees, n + 2, 0, TX12, 53, rfl, by omega, kX12_266, WX12_agrees, rfl, CX12_agrees g (n)⟩, (List.forall_mem_cons.mpr ⟨⟨mX12_hasRoom, n + 2, 1, TX12, 53, rfl, by omega, kX12_229, WX12_hasRoom, rfl, CX12_hasRoom g (n)⟩, (List.forall_mem_cons.mpr ⟨⟨mX12_of, n + 1, 2, TX12, 53, rfl, by omega, kX12_128, WX12_of, rfl, CX12_of g (n)⟩, (List.forall_mem_cons.mpr ⟨⟨mX12_paymentSum, n + 2, 0, TX12, 53, rfl, by omega, kX12_241, WX12_paymentSum, rfl, CX12_paymentSum g (n)⟩, (fun _ h => absurd h List.not_mem_nil)⟩)⟩)⟩)⟩)⟩)⟩) (List.forall_mem_cons.mpr ⟨⟨mX12_place, n + 0, by omega, Or.inl kX12_124, WX12_place, CX12_place g (n)⟩, (fun _ h => absurd h List.not_mem_nil)⟩) [2] 20 _ _ _ _ ?_
  simp (maxSteps := 1000000) [↓Bool.cond_eq_ite, -Prod.forall, -Prod.exists, -Prod.mk.injEq, jvk, tX12_passes, jtb, jol, jst, jlk, jcmp, jbin, jfl, fX12, jc2, lX12, jcat, jel, lv_args, Value.category, jins, jsrt, jins2, jble, jblt, jf3, List.filter_cons, List.filter_nil, G_m, oX12_isOpen, oX12_place, oX12_laysProposal, oX12_agrees, oX12_hasRoom, oX12_of, oX12_paymentSum, joII, joR, joRI, joRII, -Int32.not_le, -Int32.not_lt, -Int64.not_le, -Int64.not_lt, i3lt, i6lt]
  try simp (disch := omega) [-Prod.forall, -Prod.exists, -Prod.mk.injEq, -Int32.not_le, -Int32.not_lt, -Int64.not_le, -Int64.not_lt, i3lt, i6lt]
  have key := jloop (P := fun k => jW g mX12_passes (n + 16) post 2 [(0, .ref 322), (1, .int (nI k))] [] (rw3 σ (psI σ (σ.1 323) k))) (N := mPl σ) (by
    have hle : nI (mPl σ) ≤ nI (mPl σ) := nI_le (Nat.le_refl _) (by omega)
    obtain ⟨f, ef⟩ : ∃ f, f = psI σ (σ.1 323) (mPl σ) := ⟨_, rfl⟩
    have hdf : dI f := by rw [ef]; exact psI_d hpo hd _ (Nat.le_refl _)
    obtain ⟨ρ, eρ⟩ : ∃ ρ, ρ = rw3 σ f := ⟨_, rfl⟩
    rw [← ef, ← eρ]
    have er : ρ.1 323 = f := by rw [eρ, rw3_r]
    have e5 : ρ.1 322 5 = nI (mPl σ) := by rw [eρ]; exact hL5
    have hok2 : mOK ρ := by rw [eρ]; exact mOK_of hok rfl rfl rfl
    have hd2 : dI (ρ.1 323) := by rw [er]; exact hdf
    have s34 : ρ.1 322 3 = σ.1 322 3 ∧ ρ.1 322 4 = σ.1 322 4 ∧ ρ.1 322 5 = σ.1 322 5 := by rw [eρ]; exact ⟨rfl, rfl, rfl⟩
    have eN : mN ρ = mN σ := by unfold mN; rw [s34.2.1]
    have fin : ∀ τ : jM, jfr aSc bSc (rw3 σ (paF σ f)) τ → post none (rw3 τ (peF σ (clI (τ.1 323) (mN σ)))) := fun τ f1 => by
      have e323 : τ.1 323 = paF σ f := by rw [(sc_R f1).1, rw3_r]
      refine hp _ _ ⟨rfl, ?_⟩
      rw [e323]
      have := rw3_fr f1 sc_323 (pmF σ (σ.1 323))
      rw [rw3_rw3] at this
      unfold pmF at this ⊢
      rw [← ef] at this ⊢
      exact this
    by_cases h2 : f 2 = 1
    · refine jvk_ok TX12_passes (V := [(159, 2, 12, oX12_isOpen), (217, 1, 12, oX12_laysProposal), (266, 1, 12, oX12_agrees), (229, 2, 12, oX12_hasRoom), (128, 3, 12, oX12_of), (241, 1, 12, oX12_paymentSum)]) (S := [(124, 2, 0, oX12_place)]) (List.forall_mem_cons.mpr ⟨⟨mX12_isOpen, n + 0, 1, TX12, 53, rfl, by omega, kX12_159, WX12_isOpen, rfl, CX12_isOpen g (n)⟩, (List.forall_mem_cons.mpr ⟨⟨mX12_laysProposal, n + 15, 0, TX12, 53, rfl, by omega, kX12_217, WX12_laysProposal, rfl, CX12_laysProposal g (n)⟩, (List.forall_mem_cons.mpr ⟨⟨mX12_agrees, n + 2, 0, TX12, 53, rfl, by omega, kX12_266, WX12_agrees, rfl, CX12_agrees g (n)⟩, (List.forall_mem_cons.mpr ⟨⟨mX12_hasRoom, n + 2, 1, TX12, 53, rfl, by omega, kX12_229, WX12_hasRoom, rfl, CX12_hasRoom g (n)⟩, (List.forall_mem_cons.mpr ⟨⟨mX12_of, n + 1, 2, TX12, 53, rfl, by omega, kX12_128, WX12_of, rfl, CX12_of g (n)⟩, (List.forall_mem_cons.mpr ⟨⟨mX12_paymentSum, n + 2, 0, TX12, 53, rfl, by omega, kX12_241, WX12_paymentSum, rfl, CX12_paymentSum g (n)⟩, (fun _ h => absurd h List.not_mem_nil)⟩)⟩)⟩)⟩)⟩)⟩) (List.forall_mem_cons.mpr ⟨⟨mX12_place, n + 0, by omega, Or.inl kX12_124, WX12_place, CX12_place g (n)⟩, (fun _ h => absurd h List.not_mem_nil)⟩) [2, 90] 30 _ _ _ _ ?_
      simp (maxSteps := 1000000) [↓Bool.cond_eq_ite, -Prod.forall, -Prod.exists, -Prod.mk.injEq, jvk, tX12_passes, jtb, jol, jst, jlk, jcmp, jbin, jfl, fX12, jc2, lX12, jcat, jel, lv_args, Value.category, jins, jsrt, jins2, jble, jblt, jf3, List.filter_cons, List.filter_nil, G_m, oX12_isOpen, oX12_place, oX12_laysProposal, oX12_agrees, oX12_hasRoom, oX12_of, oX12_paymentSum, joII, joR, joRI, joRII, -Int32.not_le, -Int32.not_lt, -Int64.not_le, -Int64.not_lt, i3lt, i6lt, hle, e5, er, h2, hok2, hdf, jin_d, tn_c]
      try simp (disch := omega) [-Prod.forall, -Prod.exists, -Prod.mk.injEq, -Int32.not_le, -Int32.not_lt, -Int64.not_le, -Int64.not_lt, i3lt, i6lt, hle, e5, er, h2, hok2, hdf, jin_d, tn_c]
      intro v0 τ0 hv0 f0 e11 ha0 hy0
      subst hv0
      have s0 : sR ρ τ0 := sc_R f0
      have hch := ac_C ha0 s0
      have hok0 := sc_ok hok2 f0
      by_cases hs : (dC ρ).isSome = true
      · have eN0 : mN τ0 = mN σ := (sR_N s0).trans eN
        have e323 : τ0.1 323 = f := s0.1.trans er
        have eA : agR (τ0.1 330) (τ0.1 340) f (mN σ) = paF σ f := by
          unfold paF
          rw [← eρ, if_pos ⟨h2, hs⟩]
          exact agR_congr (fun p hp => ⟨hch p (by omega), fun _ => (hy0 hs p (by rw [eN]; exact hp)).2.2⟩)
        have k4 := CPs4 g n (σ := σ) (τ := rw3 τ0 (paF σ f)) hok ((rw3_o _ _ (by decide) _).trans (s0.2.1.trans s34.1)) ((rw3_o _ _ (by decide) _).trans (s0.2.2.trans s34.2.1)) ((rw3_o _ _ (by decide) _).trans ((f0.2.2 322 5 rfl).trans s34.2.2)) (fin _ (by
          have := rw3_fr f0 sc_323 (paF σ f)
          rw [eρ, rw3_rw3] at this
          exact this))
        refine jvk_ok TX12_passes (V := [(159, 2, 12, oX12_isOpen), (217, 1, 12, oX12_laysProposal), (266, 1, 12, oX12_agrees), (229, 2, 12, oX12_hasRoom), (128, 3, 12, oX12_of), (241, 1, 12, oX12_paymentSum)]) (S := [(124, 2, 0, oX12_place)]) (List.forall_mem_cons.mpr ⟨⟨mX12_isOpen, n + 0, 1, TX12, 53, rfl, by omega, kX12_159, WX12_isOpen, rfl, CX12_isOpen g (n)⟩, (List.forall_mem_cons.mpr ⟨⟨mX12_laysProposal, n + 15, 0, TX12, 53, rfl, by omega, kX12_217, WX12_laysProposal, rfl, CX12_laysProposal g (n)⟩, (List.forall_mem_cons.mpr ⟨⟨mX12_agrees, n + 2, 0, TX12, 53, rfl, by omega, kX12_266, WX12_agrees, rfl, CX12_agrees g (n)⟩, (List.forall_mem_cons.mpr ⟨⟨mX12_hasRoom, n + 2, 1, TX12, 53, rfl, by omega, kX12_229, WX12_hasRoom, rfl, CX12_hasRoom g (n)⟩, (List.forall_mem_cons.mpr ⟨⟨mX12_of, n + 1, 2, TX12, 53, rfl, by omega, kX12_128, WX12_of, rfl, CX12_of g (n)⟩, (List.forall_mem_cons.mpr ⟨⟨mX12_paymentSum, n + 2, 0, TX12, 53, rfl, by omega, kX12_241, WX12_paymentSum, rfl, CX12_paymentSum g (n)⟩, (fun _ h => absurd h List.not_mem_nil)⟩)⟩)⟩)⟩)⟩)⟩) (List.forall_mem_cons.mpr ⟨⟨mX12_place, n + 0, by omega, Or.inl kX12_124, WX12_place, CX12_place g (n)⟩, (fun _ h => absurd h List.not_mem_nil)⟩) [100] 30 _ _ _ _ ?_
        simp (maxSteps := 1000000) [↓Bool.cond_eq_ite, -Prod.forall, -Prod.exists, -Prod.mk.injEq, jvk, tX12_passes, jtb, jol, jst, jlk, jcmp, jbin, jfl, fX12, jc2, lX12, jcat, jel, lv_args, Value.category, jins, jsrt, jins2, jble, jblt, jf3, List.filter_cons, List.filter_nil, G_m, oX12_isOpen, oX12_place, oX12_laysProposal, oX12_agrees, oX12_hasRoom, oX12_of, oX12_paymentSum, joII, joR, joRI, joRII, -Int32.not_le, -Int32.not_lt, -Int64.not_le, -Int64.not_lt, i3lt, i6lt, hs, hok0, eN0, e323, eA]
        try simp (disch := omega) [-Prod.forall, -Prod.exists, -Prod.mk.injEq, -Int32.not_le, -Int32.not_lt, -Int64.not_le, -Int64.not_lt, i3lt, i6lt, hs, hok0, eN0, e323, eA]
        exact k4
      · have eA : paF σ f = f := by
          unfold paF
          rw [← eρ, if_neg (fun z => hs z.2)]
        have k4 := CPs4 g n (σ := σ) (τ := τ0) hok (s0.2.1.trans s34.1) (s0.2.2.trans s34.2.1) ((f0.2.2 322 5 rfl).trans s34.2.2) (fin _ (by rw [eA, ← eρ]; exact f0))
        refine jvk_ok TX12_passes (V := [(159, 2, 12, oX12_isOpen), (217, 1, 12, oX12_laysProposal), (266, 1, 12, oX12_agrees), (229, 2, 12, oX12_hasRoom), (128, 3, 12, oX12_of), (241, 1, 12, oX12_paymentSum)]) (S := [(124, 2, 0, oX12_place)]) (List.forall_mem_cons.mpr ⟨⟨mX12_isOpen, n + 0, 1, TX12, 53, rfl, by omega, kX12_159, WX12_isOpen, rfl, CX12_isOpen g (n)⟩, (List.forall_mem_cons.mpr ⟨⟨mX12_laysProposal, n + 15, 0, TX12, 53, rfl, by omega, kX12_217, WX12_laysProposal, rfl, CX12_laysProposal g (n)⟩, (List.forall_mem_cons.mpr ⟨⟨mX12_agrees, n + 2, 0, TX12, 53, rfl, by omega, kX12_266, WX12_agrees, rfl, CX12_agrees g (n)⟩, (List.forall_mem_cons.mpr ⟨⟨mX12_hasRoom, n + 2, 1, TX12, 53, rfl, by omega, kX12_229, WX12_hasRoom, rfl, CX12_hasRoom g (n)⟩, (List.forall_mem_cons.mpr ⟨⟨mX12_of, n + 1, 2, TX12, 53, rfl, by omega, kX12_128, WX12_of, rfl, CX12_of g (n)⟩, (List.forall_mem_cons.mpr ⟨⟨mX12_paymentSum, n + 2, 0, TX12, 53, rfl, by omega, kX12_241, WX12_paymentSum, rfl, CX12_paymentSum g (n)⟩, (fun _ h => absurd h List.not_mem_nil)⟩)⟩)⟩)⟩)⟩)⟩) (List.forall_mem_cons.mpr ⟨⟨mX12_place, n + 0, by omega, Or.inl kX12_124, WX12_place, CX12_place g (n)⟩, (fun _ h => absurd h List.not_mem_nil)⟩) [100] 30 _ _ _ _ ?_
        simp (maxSteps := 1000000) [↓Bool.cond_eq_ite, -Prod.forall, -Prod.exists, -Prod.mk.injEq, jvk, tX12_passes, jtb, jol, jst, jlk, jcmp, jbin, jfl, fX12, jc2, lX12, jcat, jel, lv_args, Value.category, jins, jsrt, jins2, jble, jblt, jf3, List.filter_cons, List.filter_nil, G_m, oX12_isOpen, oX12_place, oX12_laysProposal, oX12_agrees, oX12_hasRoom, oX12_of, oX12_paymentSum, joII, joR, joRI, joRII, -Int32.not_le, -Int32.not_lt, -Int64.not_le, -Int64.not_lt, i3lt, i6lt, hs]
        try simp (disch := omega) [-Prod.forall, -Prod.exists, -Prod.mk.injEq, -Int32.not_le, -Int32.not_lt, -Int64.not_le, -Int64.not_lt, i3lt, i6lt, hs]
        exact k4
    · have eA : paF σ f = f := by
        unfold paF
        rw [if_neg (fun z => h2 z.1)]
      have k4 := CPs4 g n (σ := σ) (τ := ρ) hok s34.1 s34.2.1 s34.2.2 (fin _ (by rw [eA, ← eρ]; exact jfr.rfl))
      refine jvk_ok TX12_passes (V := [(159, 2, 12, oX12_isOpen), (217, 1, 12, oX12_laysProposal), (266, 1, 12, oX12_agrees), (229, 2, 12, oX12_hasRoom), (128, 3, 12, oX12_of), (241, 1, 12, oX12_paymentSum)]) (S := [(124, 2, 0, oX12_place)]) (List.forall_mem_cons.mpr ⟨⟨mX12_isOpen, n + 0, 1, TX12, 53, rfl, by omega, kX12_159, WX12_isOpen, rfl, CX12_isOpen g (n)⟩, (List.forall_mem_cons.mpr ⟨⟨mX12_laysProposal, n + 15, 0, TX12, 53, rfl, by omega, kX12_217, WX12_laysProposal, rfl, CX12_laysProposal g (n)⟩, (List.forall_mem_cons.mpr ⟨⟨mX12_agrees, n + 2, 0, TX12, 53, rfl, by omega, kX12_266, WX12_agrees, rfl, CX12_agrees g (n)⟩, (List.forall_mem_cons.mpr ⟨⟨mX12_hasRoom, n + 2, 1, TX12, 53, rfl, by omega, kX12_229, WX12_hasRoom, rfl, CX12_hasRoom g (n)⟩, (List.forall_mem_cons.mpr ⟨⟨mX12_of, n + 1, 2, TX12, 53, rfl, by omega, kX12_128, WX12_of, rfl, CX12_of g (n)⟩, (List.forall_mem_cons.mpr ⟨⟨mX12_paymentSum, n + 2, 0, TX12, 53, rfl, by omega, kX12_241, WX12_paymentSum, rfl, CX12_paymentSum g (n)⟩, (fun _ h => absurd h List.not_mem_nil)⟩)⟩)⟩)⟩)⟩)⟩) (List.forall_mem_cons.mpr ⟨⟨mX12_place, n + 0, by omega, Or.inl kX12_124, WX12_place, CX12_place g (n)⟩, (fun _ h => absurd h List.not_mem_nil)⟩) [2, 100] 30 _ _ _ _ ?_
      simp (maxSteps := 1000000) [↓Bool.cond_eq_ite, -Prod.forall, -Prod.exists, -Prod.mk.injEq, jvk, tX12_passes, jtb, jol, jst, jlk, jcmp, jbin, jfl, fX12, jc2, lX12, jcat, jel, lv_args, Value.category, jins, jsrt, jins2, jble, jblt, jf3, List.filter_cons, List.filter_nil, G_m, oX12_isOpen, oX12_place, oX12_laysProposal, oX12_agrees, oX12_hasRoom, oX12_of, oX12_paymentSum, joII, joR, joRI, joRII, -Int32.not_le, -Int32.not_lt, -Int64.not_le, -Int64.not_lt, i3lt, i6lt, hle, e5, er, h2, jin_d, tn_c]
      try simp (disch := omega) [-Prod.forall, -Prod.exists, -Prod.mk.injEq, -Int32.not_le, -Int32.not_lt, -Int64.not_le, -Int64.not_lt, i3lt, i6lt, hle, e5, er, h2, jin_d, tn_c]
      exact k4) (fun k hk ih => by
    have hlt : ¬ nI (mPl σ) ≤ nI k := nI_ge hk (by omega)
    have hk1 : jin (nI k) 20 := jin_nI (by omega) (by decide)
    have eck : (nI k).toNatClampNeg = k := nI_clamp (by omega)
    obtain ⟨q1, q2, q3⟩ := hpo k hk
    simp only [psI] at ih
    obtain ⟨f, ef⟩ : ∃ f, f = psI σ (σ.1 323) k := ⟨_, rfl⟩
    rw [← ef] at ih ⊢
    obtain ⟨ρ, eρ⟩ : ∃ ρ, ρ = rw3 σ f := ⟨_, rfl⟩
    have er : ρ.1 323 = f := by rw [eρ, rw3_r]
    have e5 : ρ.1 322 5 = nI (mPl σ) := by rw [eρ]; exact hL5
    have e327 : ρ.1 327 k = σ.1 327 k := by rw [eρ]; rfl
    have e328 : ρ.1 328 k = σ.1 328 k := by rw [eρ]; rfl
    have e329 : ρ.1 329 k = σ.1 329 k := by rw [eρ]; rfl
    by_cases h1 : (f 7 >>> (nI k &&& 31)) &&& 1 = 0
    · by_cases h2 : σ.1 328 k = f 5
      · have eS : rw3 σ (ps1 σ k f) = jup (jup ρ 323 (8 + 20 * (σ.1 327 k).toNatClampNeg + 1) (σ.1 329 k)) 323 7 (f 7 ||| (1 <<< (nI k &&& 31))) := by
          rw [eρ, rw3_up, rw3_up]
          congr 1
          unfold ps1
          rw [if_pos ⟨h1, h2⟩]
        have em : mpl (σ.1 327 k) 1 = 8 + 20 * (σ.1 327 k).toNatClampNeg + 1 := rfl
        have hq := jin_lt q1
        have h4 := jN_208 (k := 8 + 20 * (σ.1 327 k).toNatClampNeg + 1) (by omega)
        have hne : ¬ 7 = 8 + 20 * (σ.1 327 k).toNatClampNeg + 1 := by omega
        have e7 : ∀ x, (jup ρ 323 (8 + 20 * (σ.1 327 k).toNatClampNeg + 1) x).1 323 7 = f 7 := fun x => by rw [jup_1, if_neg (fun z => hne z.2), er]
        rw [eS] at ih
        rw [← eρ]
        refine jvk_ok TX12_passes (V := [(159, 2, 12, oX12_isOpen), (217, 1, 12, oX12_laysProposal), (266, 1, 12, oX12_agrees), (229, 2, 12, oX12_hasRoom), (128, 3, 12, oX12_of), (241, 1, 12, oX12_paymentSum)]) (S := [(124, 2, 0, oX12_place)]) (List.forall_mem_cons.mpr ⟨⟨mX12_isOpen, n + 0, 1, TX12, 53, rfl, by omega, kX12_159, WX12_isOpen, rfl, CX12_isOpen g (n)⟩, (List.forall_mem_cons.mpr ⟨⟨mX12_laysProposal, n + 15, 0, TX12, 53, rfl, by omega, kX12_217, WX12_laysProposal, rfl, CX12_laysProposal g (n)⟩, (List.forall_mem_cons.mpr ⟨⟨mX12_agrees, n + 2, 0, TX12, 53, rfl, by omega, kX12_266, WX12_agrees, rfl, CX12_agrees g (n)⟩, (List.forall_mem_cons.mpr ⟨⟨mX12_hasRoom, n + 2, 1, TX12, 53, rfl, by omega, kX12_229, WX12_hasRoom, rfl, CX12_hasRoom g (n)⟩, (List.forall_mem_cons.mpr ⟨⟨mX12_of, n + 1, 2, TX12, 53, rfl, by omega, kX12_128, WX12_of, rfl, CX12_of g (n)⟩, (List.forall_mem_cons.mpr ⟨⟨mX12_paymentSum, n + 2, 0, TX12, 53, rfl, by omega, kX12_241, WX12_paymentSum, rfl, CX12_paymentSum g (n)⟩, (fun _ h => absurd h List.not_mem_nil)⟩)⟩)⟩)⟩)⟩)⟩) (List.forall_mem_cons.mpr ⟨⟨mX12_place, n + 0, by omega, Or.inl kX12_124, WX12_place, CX12_place g (n)⟩, (fun _ h => absurd h List.not_mem_nil)⟩) [2] 60 _ _ _ _ ?_
        simp (maxSteps := 1000000) [↓Bool.cond_eq_ite, -Prod.forall, -Prod.exists, -Prod.mk.injEq, jvk, tX12_passes, jtb, jol, jst, jlk, jcmp, jbin, jfl, fX12, jc2, lX12, jcat, jel, lv_args, Value.category, jins, jsrt, jins2, jble, jblt, jf3, List.filter_cons, List.filter_nil, G_m, oX12_isOpen, oX12_place, oX12_laysProposal, oX12_agrees, oX12_hasRoom, oX12_of, oX12_paymentSum, joII, joR, joRI, joRII, -Int32.not_le, -Int32.not_lt, -Int64.not_le, -Int64.not_lt, i3lt, i6lt, hlt, hk1, eck, e5, er, e7, e327, e328, e329, h1, h2, q1, em, h4, hne, jin_d, jin_c, tn_c, nI_1]
        try simp (disch := omega) [-Prod.forall, -Prod.exists, -Prod.mk.injEq, -Int32.not_le, -Int32.not_lt, -Int64.not_le, -Int64.not_lt, i3lt, i6lt, hlt, hk1, eck, e5, er, e7, e327, e328, e329, h1, h2, q1, em, h4, hne, jin_d, jin_c, tn_c, nI_1]
        exact ih
      · have eS : rw3 σ (ps1 σ k f) = ρ := by
          rw [eρ]
          unfold ps1
          rw [if_neg (fun z => h2 z.2)]
        rw [eS] at ih
        rw [← eρ]
        refine jvk_ok TX12_passes (V := [(159, 2, 12, oX12_isOpen), (217, 1, 12, oX12_laysProposal), (266, 1, 12, oX12_agrees), (229, 2, 12, oX12_hasRoom), (128, 3, 12, oX12_of), (241, 1, 12, oX12_paymentSum)]) (S := [(124, 2, 0, oX12_place)]) (List.forall_mem_cons.mpr ⟨⟨mX12_isOpen, n + 0, 1, TX12, 53, rfl, by omega, kX12_159, WX12_isOpen, rfl, CX12_isOpen g (n)⟩, (List.forall_mem_cons.mpr ⟨⟨mX12_laysProposal, n + 15, 0, TX12, 53, rfl, by omega, kX12_217, WX12_laysProposal, rfl, CX12_laysProposal g (n)⟩, (List.forall_mem_cons.mpr ⟨⟨mX12_agrees, n + 2, 0, TX12, 53, rfl, by omega, kX12_266, WX12_agrees, rfl, CX12_agrees g (n)⟩, (List.forall_mem_cons.mpr ⟨⟨mX12_hasRoom, n + 2, 1, TX12, 53, rfl, by omega, kX12_229, WX12_hasRoom, rfl, CX12_hasRoom g (n)⟩, (List.forall_mem_cons.mpr ⟨⟨mX12_of, n + 1, 2, TX12, 53, rfl, by omega, kX12_128, WX12_of, rfl, CX12_of g (n)⟩, (List.forall_mem_cons.mpr ⟨⟨mX12_paymentSum, n + 2, 0, TX12, 53, rfl, by omega, kX12_241, WX12_paymentSum, rfl, CX12_paymentSum g (n)⟩, (fun _ h => absurd h List.not_mem_nil)⟩)⟩)⟩)⟩)⟩)⟩) (List.forall_mem_cons.mpr ⟨⟨mX12_place, n + 0, by omega, Or.inl kX12_124, WX12_place, CX12_place g (n)⟩, (fun _ h => absurd h List.not_mem_nil)⟩) [2] 60 _ _ _ _ ?_
        simp (maxSteps := 1000000) [↓Bool.cond_eq_ite, -Prod.forall, -Prod.exists, -Prod.mk.injEq, jvk, tX12_passes, jtb, jol, jst, jlk, jcmp, jbin, jfl, fX12, jc2, lX12, jcat, jel, lv_args, Value.category, jins, jsrt, jins2, jble, jblt, jf3, List.filter_cons, List.filter_nil, G_m, oX12_isOpen, oX12_place, oX12_laysProposal, oX12_agrees, oX12_hasRoom, oX12_of, oX12_paymentSum, joII, joR, joRI, joRII, -Int32.not_le, -Int32.not_lt, -Int64.not_le, -Int64.not_lt, i3lt, i6lt, hlt, hk1, eck, e5, er, e327, e328, e329, h1, h2, jin_d, jin_c, tn_c, nI_1]
        try simp (disch := omega) [-Prod.forall, -Prod.exists, -Prod.mk.injEq, -Int32.not_le, -Int32.not_lt, -Int64.not_le, -Int64.not_lt, i3lt, i6lt, hlt, hk1, eck, e5, er, e327, e328, e329, h1, h2, jin_d, jin_c, tn_c, nI_1]
        exact ih
    · have eS : rw3 σ (ps1 σ k f) = ρ := by
        rw [eρ]
        unfold ps1
        rw [if_neg (fun z => h1 z.1)]
      rw [eS] at ih
      rw [← eρ]
      refine jvk_ok TX12_passes (V := [(159, 2, 12, oX12_isOpen), (217, 1, 12, oX12_laysProposal), (266, 1, 12, oX12_agrees), (229, 2, 12, oX12_hasRoom), (128, 3, 12, oX12_of), (241, 1, 12, oX12_paymentSum)]) (S := [(124, 2, 0, oX12_place)]) (List.forall_mem_cons.mpr ⟨⟨mX12_isOpen, n + 0, 1, TX12, 53, rfl, by omega, kX12_159, WX12_isOpen, rfl, CX12_isOpen g (n)⟩, (List.forall_mem_cons.mpr ⟨⟨mX12_laysProposal, n + 15, 0, TX12, 53, rfl, by omega, kX12_217, WX12_laysProposal, rfl, CX12_laysProposal g (n)⟩, (List.forall_mem_cons.mpr ⟨⟨mX12_agrees, n + 2, 0, TX12, 53, rfl, by omega, kX12_266, WX12_agrees, rfl, CX12_agrees g (n)⟩, (List.forall_mem_cons.mpr ⟨⟨mX12_hasRoom, n + 2, 1, TX12, 53, rfl, by omega, kX12_229, WX12_hasRoom, rfl, CX12_hasRoom g (n)⟩, (List.forall_mem_cons.mpr ⟨⟨mX12_of, n + 1, 2, TX12, 53, rfl, by omega, kX12_128, WX12_of, rfl, CX12_of g (n)⟩, (List.forall_mem_cons.mpr ⟨⟨mX12_paymentSum, n + 2, 0, TX12, 53, rfl, by omega, kX12_241, WX12_paymentSum, rfl, CX12_paymentSum g (n)⟩, (fun _ h => absurd h List.not_mem_nil)⟩)⟩)⟩)⟩)⟩)⟩) (List.forall_mem_cons.mpr ⟨⟨mX12_place, n + 0, by omega, Or.inl kX12_124, WX12_place, CX12_place g (n)⟩, (fun _ h => absurd h List.not_mem_nil)⟩) [2] 60 _ _ _ _ ?_
      simp (maxSteps := 1000000) [↓Bool.cond_eq_ite, -Prod.forall, -Prod.exists, -Prod.mk.injEq, jvk, tX12_passes, jtb, jol, jst, jlk, jcmp, jbin, jfl, fX12, jc2, lX12, jcat, jel, lv_args, Value.category, jins, jsrt, jins2, jble, jblt, jf3, List.filter_cons, List.filter_nil, G_m, oX12_isOpen, oX12_place, oX12_laysProposal, oX12_agrees, oX12_hasRoom, oX12_of, oX12_paymentSum, joII, joR, joRI, joRII, -Int32.not_le, -Int32.not_lt, -Int64.not_le, -Int64.not_lt, i3lt, i6lt, hlt, hk1, eck, e5, er, h1, jin_d, jin_c, tn_c, nI_1]
      try simp (disch := omega) [-Prod.forall, -Prod.exists, -Prod.mk.injEq, -Int32.not_le, -Int32.not_lt, -Int64.not_le, -Int64.not_lt, i3lt, i6lt, hlt, hk1, eck, e5, er, h1, jin_d, jin_c, tn_c, nI_1]
      exact ih)
  have e0 : rw3 σ (psI σ (σ.1 323) 0) = σ := rw3_self σ
  rw [nI_0, e0] at key
  exact key
/-- a row when some months have passed -/
def pmI (σ : jM) (f : Nat → Int32) : Nat → (Nat → Int32)
  | 0 => f
  | k + 1 => pmF σ (pmI σ f k)
def oX12_passMonths : jO := joRI fun a x σ => (a = 322 ∧ mOK σ ∧ dI (σ.1 323) ∧ pOK σ ∧ mH σ, fun v τ =>
  (mIn x 1 24 = false ∧ v = some (.int (-2)) ∧ τ = jup σ 322 11 0) ∨
  (mIn x 1 24 = true ∧ ¬ σ.1 323 5 + x ≤ 999 ∧ v = some (.int (-3)) ∧ τ = jup σ 322 11 0) ∨
  (mIn x 1 24 = true ∧ σ.1 323 5 + x ≤ 999 ∧ v = some (.int (pmI σ (σ.1 323) x.toNatClampNeg 5)) ∧ jfr aSc bSc (rw3 (mRem (jup σ 322 11 0)) (pmI σ (σ.1 323) x.toNatClampNeg)) τ))
theorem pmF_of {σ τ : jM} (h3 : τ.1 322 3 = σ.1 322 3) (h4 : τ.1 322 4 = σ.1 322 4) (h5 : τ.1 322 5 = σ.1 322 5) (h27 : τ.1 327 = σ.1 327) (h28 : τ.1 328 = σ.1 328) (h29 : τ.1 329 = σ.1 329) (f : Nat → Int32) : pmF τ f = pmF σ f := by
  have eN : mN τ = mN σ := by unfold mN; rw [h4]
  have eL : mPl τ = mPl σ := by unfold mPl; rw [h5]
  have eps : ∀ k, psI τ f k = psI σ f k := by
    intro k
    induction k with
    | zero => rfl
    | succ k ih => simp only [psI]; rw [ih]; unfold ps1; rw [h27, h28, h29]
  have epa : ∀ f, paF τ f = paF σ f := fun f => by
    have s : sR (rw3 σ f) (rw3 τ f) := ⟨by rw [rw3_r, rw3_r], by rw [rw3_o _ _ (by decide), rw3_o _ _ (by decide), h3], by rw [rw3_o _ _ (by decide), rw3_o _ _ (by decide), h4]⟩
    have e1 : mCh (rw3 τ f) = mCh (rw3 σ f) := by funext p; unfold mCh; rw [sR_C s, sR_l s, sR_N s]
    have esh : shN (rw3 τ f) = shN (rw3 σ f) := by unfold shN; rw [s.1]
    have e2 : mPy (rw3 τ f) = mPy (rw3 σ f) := by funext p; unfold mPy; rw [sR_l s, esh, sR_pa s]
    unfold paF
    rw [sR_C s, e1, e2, eN]
  unfold pmF peF
  rw [eL, eps, epa, eN]
set_option maxRecDepth 100000 in
set_option maxHeartbeats 4000000 in
theorem CX12_passMonths (g : jG) (n : Nat) : jOk g (n + 17) mX12_passMonths oX12_passMonths := by
  refine joRI_ok ?_
  rintro _ x σ ⟨rfl, hok, hd, hpo, hh⟩
  have hh1 : mH (jup σ 322 11 0) := hh
  by_cases h : mIn x 1 24 = true
  · by_cases h2 : σ.1 323 5 + x ≤ 999
    · obtain ⟨m, hm0, hm1⟩ : ∃ m, m ≤ 24 ∧ x = nI m := by
        simp only [mIn, decide_eq_true_eq] at h
        obtain ⟨m, hm1, hm2, -⟩ := nI_rng (x := x) (n := 24) (by grind) h.2 (by decide)
        exact ⟨m, hm1, hm2⟩
      have ecm : (nI m).toNatClampNeg = m := nI_clamp (by omega)
      subst hm1
      obtain ⟨μ, eμ⟩ : ∃ μ, μ = mRem (jup σ 322 11 0) := ⟨_, rfl⟩
      have e323 : μ.1 323 = σ.1 323 := by rw [eμ]; exact funext fun j => mRem_d _ j
      have e11 : μ.1 322 11 = 0 := by rw [eμ, mRem_f _ 11 (by decide)]; rfl
      have s3 : μ.1 322 3 = σ.1 322 3 := by rw [eμ]; exact mRem_f _ 3 (by decide)
      have s4 : μ.1 322 4 = σ.1 322 4 := by rw [eμ]; exact mRem_f _ 4 (by decide)
      have s5 : μ.1 322 5 = σ.1 322 5 := by rw [eμ]; exact mRem_f _ 5 (by decide)
      have s27 : μ.1 327 = σ.1 327 := by rw [eμ]; exact funext fun j => mRem_o _ 327 j (by decide) (by simp)
      have s28 : μ.1 328 = σ.1 328 := by rw [eμ]; exact funext fun j => mRem_o _ 328 j (by decide) (by simp)
      have s29 : μ.1 329 = σ.1 329 := by rw [eμ]; exact funext fun j => mRem_o _ 329 j (by decide) (by simp)
      refine jCon.ofP (by decide +kernel) (by simp [lg_sl, Value.category]) (fun post hp => ?_)
      refine jvk_ok TX12_passMonths (V := [(253, 1, 12, oX12_remember), (269, 1, 12, oX12_passes)]) (S := [(117, 3, 0, oX12_inRange)]) (List.forall_mem_cons.mpr ⟨⟨mX12_remember, n + 0, 0, TX12, 53, rfl, by omega, kX12_253, WX12_remember, rfl, CX12_remember g (n)⟩, (List.forall_mem_cons.mpr ⟨⟨mX12_passes, n + 16, 0, TX12, 53, rfl, by omega, kX12_269, WX12_passes, rfl, CX12_passes g (n)⟩, (fun _ h => absurd h List.not_mem_nil)⟩)⟩) (List.forall_mem_cons.mpr ⟨⟨mX12_inRange, n + 0, by omega, Or.inl kX12_117, WX12_inRange, CX12_inRange g (n)⟩, (fun _ h => absurd h List.not_mem_nil)⟩) [39] 40 _ _ _ _ ?_
      simp (maxSteps := 1000000) [↓Bool.cond_eq_ite, -Prod.forall, -Prod.exists, -Prod.mk.injEq, jvk, tX12_passMonths, jtb, jol, jst, jlk, jcmp, jbin, jfl, fX12, jc2, lX12, jcat, jel, lv_args, Value.category, jins, jsrt, jins2, jble, jblt, jf3, List.filter_cons, List.filter_nil, G_m, oX12_inRange, oX12_remember, oX12_passes, joIII, joR, -Int32.not_le, -Int32.not_lt, -Int64.not_le, -Int64.not_lt, i3lt, i6lt, h, h2, hh1, jin_d, tn_c, jup_1]
      try simp (disch := omega) [-Prod.forall, -Prod.exists, -Prod.mk.injEq, -Int32.not_le, -Int32.not_lt, -Int64.not_le, -Int64.not_lt, i3lt, i6lt, h, h2, hh1, jin_d, tn_c, jup_1]
      rw [ecm, ← eμ] at hp
      rw [← eμ]
      have key := jloop (P := fun k => ∀ τ : jM, jfr aSc bSc (rw3 μ (pmI σ (σ.1 323) k)) τ → dI (pmI σ (σ.1 323) k) → jW g mX12_passMonths (n + 17) post 41 [(0, .ref 322), (1, .int (nI m)), (2, .int (nI k))] [] τ) (N := m) (fun τ f hdk => by
        have hle : nI m ≤ nI m := nI_le (Nat.le_refl _) (by omega)
        have e5 : τ.1 323 5 = pmI σ (σ.1 323) m 5 := by rw [(sc_R f).1, rw3_r]
        refine jvk_ok TX12_passMonths (V := [(253, 1, 12, oX12_remember), (269, 1, 12, oX12_passes)]) (S := [(117, 3, 0, oX12_inRange)]) (List.forall_mem_cons.mpr ⟨⟨mX12_remember, n + 0, 0, TX12, 53, rfl, by omega, kX12_253, WX12_remember, rfl, CX12_remember g (n)⟩, (List.forall_mem_cons.mpr ⟨⟨mX12_passes, n + 16, 0, TX12, 53, rfl, by omega, kX12_269, WX12_passes, rfl, CX12_passes g (n)⟩, (fun _ h => absurd h List.not_mem_nil)⟩)⟩) (List.forall_mem_cons.mpr ⟨⟨mX12_inRange, n + 0, by omega, Or.inl kX12_117, WX12_inRange, CX12_inRange g (n)⟩, (fun _ h => absurd h List.not_mem_nil)⟩) [41] 30 _ _ _ _ ?_
        simp (maxSteps := 1000000) [↓Bool.cond_eq_ite, -Prod.forall, -Prod.exists, -Prod.mk.injEq, jvk, tX12_passMonths, jtb, jol, jst, jlk, jcmp, jbin, jfl, fX12, jc2, lX12, jcat, jel, lv_args, Value.category, jins, jsrt, jins2, jble, jblt, jf3, List.filter_cons, List.filter_nil, G_m, oX12_inRange, oX12_remember, oX12_passes, joIII, joR, -Int32.not_le, -Int32.not_lt, -Int64.not_le, -Int64.not_lt, i3lt, i6lt, hle, e5, jin_d, tn_c]
        try simp (disch := omega) [-Prod.forall, -Prod.exists, -Prod.mk.injEq, -Int32.not_le, -Int32.not_lt, -Int64.not_le, -Int64.not_lt, i3lt, i6lt, hle, e5, jin_d, tn_c]
        exact hp _ _ (Or.inr (Or.inr ⟨h, h2, rfl, f⟩))) (fun k hk ih τ f hdk => by
        have hlt : ¬ nI m ≤ nI k := nI_ge hk (by omega)
        have r323 : τ.1 323 = pmI σ (σ.1 323) k := by rw [(sc_R f).1, rw3_r]
        have t3 : τ.1 322 3 = σ.1 322 3 := (f.2.2 322 3 rfl).trans s3
        have t4 : τ.1 322 4 = σ.1 322 4 := (f.2.2 322 4 rfl).trans s4
        have t5 : τ.1 322 5 = σ.1 322 5 := (f.2.2 322 5 rfl).trans s5
        have t27 : τ.1 327 = σ.1 327 := (funext fun j => f.2.2 327 j rfl).trans s27
        have t28 : τ.1 328 = σ.1 328 := (funext fun j => f.2.2 328 j rfl).trans s28
        have t29 : τ.1 329 = σ.1 329 := (funext fun j => f.2.2 329 j rfl).trans s29
        have hok2 : mOK τ := mOK_of hok t3 t4 t5
        have hd2 : dI (τ.1 323) := by rw [r323]; exact hdk
        have hp2 : pOK τ := fun j hj => by
          rw [t27, t29]
          exact hpo j (by unfold mPl at hj ⊢; rw [← t5]; exact hj)
        refine jvk_ok TX12_passMonths (V := [(253, 1, 12, oX12_remember), (269, 1, 12, oX12_passes)]) (S := [(117, 3, 0, oX12_inRange)]) (List.forall_mem_cons.mpr ⟨⟨mX12_remember, n + 0, 0, TX12, 53, rfl, by omega, kX12_253, WX12_remember, rfl, CX12_remember g (n)⟩, (List.forall_mem_cons.mpr ⟨⟨mX12_passes, n + 16, 0, TX12, 53, rfl, by omega, kX12_269, WX12_passes, rfl, CX12_passes g (n)⟩, (fun _ h => absurd h List.not_mem_nil)⟩)⟩) (List.forall_mem_cons.mpr ⟨⟨mX12_inRange, n + 0, by omega, Or.inl kX12_117, WX12_inRange, CX12_inRange g (n)⟩, (fun _ h => absurd h List.not_mem_nil)⟩) [41, 50] 30 _ _ _ _ ?_
        simp (maxSteps := 1000000) [↓Bool.cond_eq_ite, -Prod.forall, -Prod.exists, -Prod.mk.injEq, jvk, tX12_passMonths, jtb, jol, jst, jlk, jcmp, jbin, jfl, fX12, jc2, lX12, jcat, jel, lv_args, Value.category, jins, jsrt, jins2, jble, jblt, jf3, List.filter_cons, List.filter_nil, G_m, oX12_inRange, oX12_remember, oX12_passes, joIII, joR, -Int32.not_le, -Int32.not_lt, -Int64.not_le, -Int64.not_lt, i3lt, i6lt, hlt, hok2, hd2, hp2]
        try simp (disch := omega) [-Prod.forall, -Prod.exists, -Prod.mk.injEq, -Int32.not_le, -Int32.not_lt, -Int64.not_le, -Int64.not_lt, i3lt, i6lt, hlt, hok2, hd2, hp2]
        intro v1 τ1 hv1 f1
        subst hv1
        rw [pmF_of t3 t4 t5 t27 t28 t29, r323] at f1
        have k1 := ih τ1 ((by
          have := rw3_fr f sc_323 (pmF σ (pmI σ (σ.1 323) k))
          rw [rw3_rw3] at this
          exact this : jfr aSc bSc (rw3 μ (pmI σ (σ.1 323) (k + 1))) (rw3 τ (pmF σ (pmI σ (σ.1 323) k)))).tr f1) (pmF_d hpo hdk)
        refine jvk_ok TX12_passMonths (V := [(253, 1, 12, oX12_remember), (269, 1, 12, oX12_passes)]) (S := [(117, 3, 0, oX12_inRange)]) (List.forall_mem_cons.mpr ⟨⟨mX12_remember, n + 0, 0, TX12, 53, rfl, by omega, kX12_253, WX12_remember, rfl, CX12_remember g (n)⟩, (List.forall_mem_cons.mpr ⟨⟨mX12_passes, n + 16, 0, TX12, 53, rfl, by omega, kX12_269, WX12_passes, rfl, CX12_passes g (n)⟩, (fun _ h => absurd h List.not_mem_nil)⟩)⟩) (List.forall_mem_cons.mpr ⟨⟨mX12_inRange, n + 0, by omega, Or.inl kX12_117, WX12_inRange, CX12_inRange g (n)⟩, (fun _ h => absurd h List.not_mem_nil)⟩) [41] 30 _ _ _ _ ?_
        simp (maxSteps := 1000000) [↓Bool.cond_eq_ite, -Prod.forall, -Prod.exists, -Prod.mk.injEq, jvk, tX12_passMonths, jtb, jol, jst, jlk, jcmp, jbin, jfl, fX12, jc2, lX12, jcat, jel, lv_args, Value.category, jins, jsrt, jins2, jble, jblt, jf3, List.filter_cons, List.filter_nil, G_m, oX12_inRange, oX12_remember, oX12_passes, joIII, joR, -Int32.not_le, -Int32.not_lt, -Int64.not_le, -Int64.not_lt, i3lt, i6lt, nI_1]
        try simp (disch := omega) [-Prod.forall, -Prod.exists, -Prod.mk.injEq, -Int32.not_le, -Int32.not_lt, -Int64.not_le, -Int64.not_lt, i3lt, i6lt, nI_1]
        exact k1)
      have k0 := key μ (by
        have e : rw3 μ (pmI σ (σ.1 323) 0) = μ := by
          show rw3 μ (σ.1 323) = μ
          rw [← e323, rw3_self]
        rw [e]
        exact jfr.rfl) hd
      rw [nI_0] at k0
      refine jvk_ok TX12_passMonths (V := [(253, 1, 12, oX12_remember), (269, 1, 12, oX12_passes)]) (S := [(117, 3, 0, oX12_inRange)]) (List.forall_mem_cons.mpr ⟨⟨mX12_remember, n + 0, 0, TX12, 53, rfl, by omega, kX12_253, WX12_remember, rfl, CX12_remember g (n)⟩, (List.forall_mem_cons.mpr ⟨⟨mX12_passes, n + 16, 0, TX12, 53, rfl, by omega, kX12_269, WX12_passes, rfl, CX12_passes g (n)⟩, (fun _ h => absurd h List.not_mem_nil)⟩)⟩) (List.forall_mem_cons.mpr ⟨⟨mX12_inRange, n + 0, by omega, Or.inl kX12_117, WX12_inRange, CX12_inRange g (n)⟩, (fun _ h => absurd h List.not_mem_nil)⟩) [41] 10 _ _ _ _ ?_
      simp (maxSteps := 1000000) [↓Bool.cond_eq_ite, -Prod.forall, -Prod.exists, -Prod.mk.injEq, jvk, tX12_passMonths, jtb, jol, jst, jlk, jcmp, jbin, jfl, fX12, jc2, lX12, jcat, jel, lv_args, Value.category, jins, jsrt, jins2, jble, jblt, jf3, List.filter_cons, List.filter_nil, G_m, oX12_inRange, oX12_remember, oX12_passes, joIII, joR, -Int32.not_le, -Int32.not_lt, -Int64.not_le, -Int64.not_lt, i3lt, i6lt]
      try simp (disch := omega) [-Prod.forall, -Prod.exists, -Prod.mk.injEq, -Int32.not_le, -Int32.not_lt, -Int64.not_le, -Int64.not_lt, i3lt, i6lt]
      exact k0
    · refine jCon.ofP (by decide +kernel) (by simp [lg_sl, Value.category]) (fun post hp => ?_)
      refine jvk_ok TX12_passMonths (V := [(253, 1, 12, oX12_remember), (269, 1, 12, oX12_passes)]) (S := [(117, 3, 0, oX12_inRange)]) (List.forall_mem_cons.mpr ⟨⟨mX12_remember, n + 0, 0, TX12, 53, rfl, by omega, kX12_253, WX12_remember, rfl, CX12_remember g (n)⟩, (List.forall_mem_cons.mpr ⟨⟨mX12_passes, n + 16, 0, TX12, 53, rfl, by omega, kX12_269, WX12_passes, rfl, CX12_passes g (n)⟩, (fun _ h => absurd h List.not_mem_nil)⟩)⟩) (List.forall_mem_cons.mpr ⟨⟨mX12_inRange, n + 0, by omega, Or.inl kX12_117, WX12_inRange, CX12_inRange g (n)⟩, (fun _ h => absurd h List.not_mem_nil)⟩) [] 40 _ _ _ _ ?_
      simp (maxSteps := 1000000) [↓Bool.cond_eq_ite, -Prod.forall, -Prod.exists, -Prod.mk.injEq, jvk, tX12_passMonths, jtb, jol, jst, jlk, jcmp, jbin, jfl, fX12, jc2, lX12, jcat, jel, lv_args, Value.category, jins, jsrt, jins2, jble, jblt, jf3, List.filter_cons, List.filter_nil, G_m, oX12_inRange, oX12_remember, oX12_passes, joIII, joR, -Int32.not_le, -Int32.not_lt, -Int64.not_le, -Int64.not_lt, i3lt, i6lt, h, h2, jin_d, tn_c, jup_1]
      try simp (disch := omega) [-Prod.forall, -Prod.exists, -Prod.mk.injEq, -Int32.not_le, -Int32.not_lt, -Int64.not_le, -Int64.not_lt, i3lt, i6lt, h, h2, jin_d, tn_c, jup_1]
      exact hp _ _ (Or.inr (Or.inl ⟨h, h2, rfl, rfl⟩))
  · refine jCon.ofP (by decide +kernel) (by simp [lg_sl, Value.category]) (fun post hp => ?_)
    refine jvk_ok TX12_passMonths (V := [(253, 1, 12, oX12_remember), (269, 1, 12, oX12_passes)]) (S := [(117, 3, 0, oX12_inRange)]) (List.forall_mem_cons.mpr ⟨⟨mX12_remember, n + 0, 0, TX12, 53, rfl, by omega, kX12_253, WX12_remember, rfl, CX12_remember g (n)⟩, (List.forall_mem_cons.mpr ⟨⟨mX12_passes, n + 16, 0, TX12, 53, rfl, by omega, kX12_269, WX12_passes, rfl, CX12_passes g (n)⟩, (fun _ h => absurd h List.not_mem_nil)⟩)⟩) (List.forall_mem_cons.mpr ⟨⟨mX12_inRange, n + 0, by omega, Or.inl kX12_117, WX12_inRange, CX12_inRange g (n)⟩, (fun _ h => absurd h List.not_mem_nil)⟩) [] 40 _ _ _ _ ?_
    simp (maxSteps := 1000000) [↓Bool.cond_eq_ite, -Prod.forall, -Prod.exists, -Prod.mk.injEq, jvk, tX12_passMonths, jtb, jol, jst, jlk, jcmp, jbin, jfl, fX12, jc2, lX12, jcat, jel, lv_args, Value.category, jins, jsrt, jins2, jble, jblt, jf3, List.filter_cons, List.filter_nil, G_m, oX12_inRange, oX12_remember, oX12_passes, joIII, joR, -Int32.not_le, -Int32.not_lt, -Int64.not_le, -Int64.not_lt, i3lt, i6lt, h]
    try simp (disch := omega) [-Prod.forall, -Prod.exists, -Prod.mk.injEq, -Int32.not_le, -Int32.not_lt, -Int64.not_le, -Int64.not_lt, i3lt, i6lt, h]
    exact hp _ _ (Or.inl ⟨by simpa using h, rfl, rfl⟩)
