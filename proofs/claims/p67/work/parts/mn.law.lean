/-! load, by a snapshot: when the text is read to its end, the new snapshot tells what it says -/
/-- what the reading leaves: rooms, people, plans, the row, the plans' rows -/
def ldR (μ : pM) (M N K : Nat) (F : Nat → Int32) (P : Nat → Nat → Int32) : Prop := (μ 322 43 = nI M ∧ μ 322 44 = nI N ∧ μ 322 45 = nI K) ∧ (M ≤ 6 ∧ N ≤ 10 ∧ K ≤ 20) ∧ (∀ j, j < 208 → μ 347 j = F j) ∧ ∀ k, k < K → μ 350 (3 * k) = P 0 k ∧ μ 350 (3 * k + 1) = P 1 k ∧ μ 350 (3 * k + 2) = P 2 k
/-- the reference's cells after a load -/
def ldA (τ : jM) (μ : pM) : jM := (fun a j => if aMu a j = true then μ a j else if a = 322 ∧ j = 32 then 0 else if a = 322 ∧ j = 33 then -1 else τ.1 a j, τ.2)
def ldB (τ : jM) (μ : pM) : jM := (fun a j => if a = 323 ∧ j < 208 then μ 347 j else if a = 325 then μ 348 j else if a = 326 then μ 349 j else if a = 327 then μ 350 (3 * j) else if a = 328 then μ 350 (3 * j + 1) else if a = 329 then μ 350 (3 * j + 2) else if a = 322 ∧ j = 2 then 0 else if a = 322 ∧ j = 3 then μ 322 43 else if a = 322 ∧ j = 4 then μ 322 44 else if a = 322 ∧ j = 5 then μ 322 45 else (ldA τ μ).1 a j, τ.2)
theorem aMu_f {a j : Nat} : aMu a j = false ↔ (a ≠ 347 ∧ a ≠ 348 ∧ a ≠ 349 ∧ a ≠ 350) ∧ ¬ (a = 322 ∧ (j = 43 ∨ j = 44 ∨ j = 45 ∨ j = 49)) := by
  unfold aMu
  simp only [Bool.or_eq_false_iff, Bool.and_eq_false_iff, beq_eq_false_iff_ne]
  omega
theorem aMu_t {a j : Nat} : aMu a j = true ↔ ¬ ((a ≠ 347 ∧ a ≠ 348 ∧ a ≠ 349 ∧ a ≠ 350) ∧ ¬ (a = 322 ∧ (j = 43 ∨ j = 44 ∨ j = 45 ∨ j = 49))) := by
  rw [← aMu_f]
  cases aMu a j <;> simp
theorem ldA_o {τ : jM} {μ : pM} {a j : Nat} (h : aMu a j = false) (h1 : ¬ (a = 322 ∧ j = 32)) (h2 : ¬ (a = 322 ∧ j = 33)) : (ldA τ μ).1 a j = τ.1 a j := by
  show (if aMu a j = true then μ a j else if a = 322 ∧ j = 32 then 0 else if a = 322 ∧ j = 33 then -1 else τ.1 a j) = _
  rw [h, if_neg (by decide), if_neg h1, if_neg h2]
theorem ldA_m {τ : jM} {μ : pM} {a j : Nat} (h : aMu a j = true) : (ldA τ μ).1 a j = μ a j := by
  show (if aMu a j = true then μ a j else _) = _
  rw [if_pos h]
theorem ldB_o {τ : jM} {μ : pM} {a j : Nat} (h : ¬ (a = 323 ∧ j < 208) ∧ a ≠ 325 ∧ a ≠ 326 ∧ a ≠ 327 ∧ a ≠ 328 ∧ a ≠ 329 ∧ ¬ (a = 322 ∧ j = 2) ∧ ¬ (a = 322 ∧ j = 3) ∧ ¬ (a = 322 ∧ j = 4) ∧ ¬ (a = 322 ∧ j = 5)) : (ldB τ μ).1 a j = (ldA τ μ).1 a j := by
  obtain ⟨h1, h2, h3, h4, h5, h6, h7, h8, h9, h10⟩ := h
  show (if a = 323 ∧ j < 208 then μ 347 j else if a = 325 then μ 348 j else if a = 326 then μ 349 j else if a = 327 then μ 350 (3 * j) else if a = 328 then μ 350 (3 * j + 1) else if a = 329 then μ 350 (3 * j + 2) else if a = 322 ∧ j = 2 then 0 else if a = 322 ∧ j = 3 then μ 322 43 else if a = 322 ∧ j = 4 then μ 322 44 else if a = 322 ∧ j = 5 then μ 322 45 else (ldA τ μ).1 a j) = _
  rw [if_neg h1, if_neg h2, if_neg h3, if_neg h4, if_neg h5, if_neg h6, if_neg h7, if_neg h8, if_neg h9, if_neg h10]
theorem ldB_323 {τ : jM} {μ : pM} {j : Nat} (h : j < 208) : (ldB τ μ).1 323 j = μ 347 j := by
  show (if 323 = 323 ∧ j < 208 then μ 347 j else _) = _
  rw [if_pos ⟨rfl, h⟩]
theorem ldB_pl {τ : jM} {μ : pM} : (ldB τ μ).1 327 = (fun k => μ 350 (3 * k)) ∧ (ldB τ μ).1 328 = (fun k => μ 350 (3 * k + 1)) ∧ (ldB τ μ).1 329 = (fun k => μ 350 (3 * k + 2)) := ⟨funext fun k => by simp [ldB], funext fun k => by simp [ldB], funext fun k => by simp [ldB]⟩
theorem ldB_n {τ : jM} {μ : pM} : (ldB τ μ).1 322 2 = 0 ∧ (ldB τ μ).1 322 3 = μ 322 43 ∧ (ldB τ μ).1 322 4 = μ 322 44 ∧ (ldB τ μ).1 322 5 = μ 322 45 := by simp [ldB]
theorem ld_sel {τ : jM} {w st M N K : Nat} {μ : pM} {F : Nat → Int32} {P : Nat → Nat → Int32} (hx : mIn (nI w) 0 (τ.1 322 32) = true) (hw : w < 1000) (e : pLoad (τ.1 346) w (mu1 τ) = .inr (st, μ)) (h : ldR μ M N K F P) : (oM_load [.ref 322, .int (nI w)] τ).2 (some (.int (nI st))) (ldB τ μ) := by
  obtain ⟨⟨h1, h2, h3⟩, ⟨b1, b2, b3⟩, h4, h5⟩ := h
  refine Or.inr ⟨hx, ?_⟩
  rw [nI_clamp (by omega), e]
  refine ⟨rfl, ldA τ μ, ⟨rfl, fun _ _ _ => rfl, fun a j ha => ?_⟩, ?_, ?_, ?_, fun a j ha => ldA_m ha, ⟨rfl, fun _ _ _ => rfl, fun a j ha => ?_⟩, ?_⟩
  · unfold aLd aRs aRd at ha
    simp only [Bool.or_eq_false_iff, Bool.and_eq_false_iff, beq_eq_false_iff_ne] at ha
    exact ldA_o (aMu_f.mpr (by omega)) (by omega) (by omega)
  · simp [ldA, aMu]
  · simp [ldA, aMu]
  · unfold rSz
    rw [ldA_m (by decide), ldA_m (by decide), ldA_m (by decide), h1, h2, h3]
    exact ⟨⟨(NL_0.1 M (by omega)).mpr (Nat.zero_le _), nI_le (b := 6) b1 (by omega)⟩, ⟨(NL_0.1 N (by omega)).mpr (Nat.zero_le _), nI_le (b := 10) b2 (by omega)⟩, (NL_0.1 K (by omega)).mpr (Nat.zero_le _), nI_le (b := 20) b3 (by omega)⟩
  · unfold aTt at ha
    simp only [Bool.or_eq_false_iff, Bool.and_eq_false_iff, beq_eq_false_iff_ne] at ha
    exact ldB_o (by omega)
  · obtain ⟨n1, n2, n3, n4⟩ := ldB_n (τ := τ) (μ := μ)
    obtain ⟨p1, p2, p3⟩ := ldB_pl (τ := τ) (μ := μ)
    refine ⟨fun j hj => ?_, ?_, ?_, ?_, n1, fun r hr => ?_, fun p hp => ?_, fun k hk => ⟨?_, ?_, ?_⟩⟩
    · rw [ldB_323 hj, ldA_m (aMu_t.mpr (by omega))]
    · rw [n2, ldA_m (by decide)]
    · rw [n3, ldA_m (by decide)]
    · rw [n4, ldA_m (by decide)]
    · rw [ldA_m (aMu_t.mpr (by omega))]
      simp [ldB]
    · rw [ldA_m (aMu_t.mpr (by omega))]
      simp [ldB]
    · rw [p1, ldA_m (aMu_t.mpr (by omega))]
    · rw [p2, ldA_m (aMu_t.mpr (by omega))]
    · rw [p3, ldA_m (aMu_t.mpr (by omega))]
def qX11_load (n w st M N K : Nat) (F : Nat → Int32) (P : Nat → Nat → Int32) : jO := joRI fun a x σ => (a = 0 ∧ x = nI w ∧ w ≤ n ∧ n ≤ 900 ∧ xRk σ 0 0 0 ∧ σ.1 322 32 = nI n ∧ (∀ μ0 : pM, (∀ j, j < 208 → μ0 347 j = bgR j) → lInit μ0 → ∃ μ, pLoad (σ.1 346) w μ0 = .inr (st, μ) ∧ ldR μ M N K F P), fun v τ => v = some (.int (nI st)) ∧ ∃ s1, gE9 τ s1 ∧ xRk s1 M N K ∧ (∀ j, j < 208 → s1.1 323 j = F j) ∧ ∀ k, k < K → s1.1 327 k = P 0 k ∧ s1.1 328 k = P 1 k ∧ s1.1 329 k = P 2 k)
theorem QX11_load {g : jG} (hE : jEs g) (k n w st M N K : Nat) (F : Nat → Int32) (P : Nat → Nat → Int32) : jOk g (k + 10) mX11_load (qX11_load n w st M N K F P) := by
  refine joRI_ok ?_
  rintro a x σ ⟨e0, e1, hw, hn, hx, h2, h3⟩
  subst e0
  subst e1
  obtain ⟨p1, p2⟩ := xs_load (nI w) σ ⟨0, 0, 0, hx⟩
  obtain ⟨t1, ⟨n', t2, t3, t4, -, -⟩, t7⟩ := xv_text hx
  have hmw : mIn (nI w) 0 (nI n) = true := mIn_nI (k := n) (by omega) hw
  have e32 : σ.1 322 32 = σ.1 2 1 := by rw [t3, t4]
  have row : ∀ (υ : jM) (j : Nat), j < 208 → mu1 υ 347 j = bgR j := fun υ j hj => by
    unfold mu1
    rw [if_pos ⟨rfl, hj⟩]
  refine (CX11_load g k hE [.ref 0, .int (nI w)] σ p1).imp (fun v τ hv => ?_)
  obtain ⟨o1, o2⟩ := p2 v τ hv
  rcases hv with ⟨c, -⟩ | ⟨c, Lf⟩
  · rw [← e32, h2, hmw] at c
    cases c
  · have L1 := Lf (mu1 σ) (mu1_I σ).2
    obtain ⟨μs, es, -⟩ := h3 (mu1 σ) (row σ) (mu1_I σ).2
    rw [nI_clamp (by omega), t1, es] at L1
    have mq : mQ σ τ := fun a ha => funext fun j => ld_o L1.2.2.2.1 (by omega)
    have e346 : τ.1 346 = σ.1 346 := mq 346 (by omega)
    obtain ⟨μ, e, hr⟩ := h3 (mu1 τ) (row τ) (mu1_I τ).2
    rw [← e346] at e
    have sel := ld_sel (τ := τ) (by rw [mq 322 (by omega), h2]; exact hmw) (by omega) e hr
    obtain ⟨w1, w2, R', N', K', w3⟩ := o2 _ _ sel
    obtain ⟨-, n3, n4, n5⟩ := ldB_n (τ := τ) (μ := μ)
    obtain ⟨q1, q2, q3⟩ := ldB_pl (τ := τ) (μ := μ)
    obtain ⟨⟨r1, r2, r3⟩, ⟨s1, s2, s3⟩, r4, r5⟩ := hr
    refine ⟨L1.1, ldB τ μ, fun a ha => ⟨funext fun j => ?_, rfl, rfl⟩, ?_, fun j hj => ?_, fun k hk => ?_⟩
    · rw [ldB_o (by omega), ldA_o (aMu_f.mpr (by omega)) (by omega) (by omega)]
    · obtain ⟨-, -, b3, b4, b5, -⟩ := xv_n w3
      have c3 : mN (ldB τ μ) = N := by unfold mN; rw [n4, r2, nI_clamp (by omega)]
      have c4 : mRo (ldB τ μ) = M := by unfold mRo; rw [n3, r1, nI_clamp (by omega)]
      have c5 : mPl (ldB τ μ) = K := by unfold mPl; rw [n5, r3, nI_clamp (by omega)]
      rw [b3] at c3
      rw [b4] at c4
      rw [b5] at c5
      subst c3 c4 c5
      exact w3
    · rw [ldB_323 hj, r4 j hj]
    · rw [q1, q2, q3]
      exact r5 k hk
