/-! the text that is fed, the page that is written -/
/-- all that counts but text, page and the error's place -/
def xF (a j : Nat) : Prop := (31 ≤ a ∧ a ≤ 258) ∨ (a = 322 ∧ (j = 2 ∨ j = 3 ∨ j = 4 ∨ j = 5)) ∨ (323 ≤ a ∧ a ≤ 329)
theorem xR_tp {σ υ : jM} {R N K : Nat} (h : xRk σ R N K) (f : ∀ a j, xF a j → υ.1 a j = σ.1 a j) (t : textR υ) (pg : pageR υ) (e9 : υ.1 1 9 = υ.1 322 33) (p : prIv υ) : xRk υ R N K := by
  have g : ∀ a, (31 ≤ a ∧ a ≤ 258) ∨ (323 ≤ a ∧ a ≤ 329) → υ.1 a = σ.1 a := fun a ha => funext fun j => f a j (by unfold xF; omega)
  have d : ∀ j, (j = 2 ∨ j = 3 ∨ j = 4 ∨ j = 5) → υ.1 322 j = σ.1 322 j := fun j hj => f 322 j (by unfold xF; omega)
  have row : ∀ b f, 37 ≤ b → b + 19 ≤ 258 → rowR σ b f R N K → rowR υ b f R N K := fun b f h1 h2 q =>
    rowR_cg h.1.1.1 h.1.1.2 (fun _ _ => rfl) (fun j _ => by rw [g b (by omega)]) (fun k _ _ _ j _ => by rw [g (b + k) (by omega)]) (fun i _ => by rw [g 35 (by omega)]) (fun i _ => by rw [g 328 (by omega)]) q
  obtain ⟨⟨c1, ⟨c2, c3⟩, c4, c5⟩, r, pl, ⟨h0, c0, hb, ⟨h1, h2, h3⟩, h4⟩, -, -, -, -⟩ := h
  refine ⟨⟨c1, ⟨(d 3 (by omega)).trans c2, (d 4 (by omega)).trans c3⟩, fun r hr => ?_, fun p hp => ?_⟩, ?_, ?_, ⟨h0, c0, hb, ⟨?_, ?_, (d 2 (by omega)).trans h3⟩, fun q hq => ?_⟩, t, pg, e9, p⟩
  · rw [g 32 (by omega), g 325 (by omega)]; exact c4 r hr
  · rw [g 33 (by omega), g 326 (by omega)]; exact c5 p hp
  · rw [g 323 (by omega)]; exact row 37 _ (by omega) (by omega) r
  · exact plI_cg (by rw [g 31 (by omega)]) (d 5 (by omega)) (fun a ha i _ => by rw [g a (by omega)]) pl
  · rw [g 57 (by omega)]; exact h1
  · rw [g 57 (by omega)]; exact h2
  · rw [g 324 (by omega)]
    have := Nat.mod_lt (h0 + 10 - c0 + q) (show 0 < 10 by decide)
    exact row _ _ (by omega) (by omega) (h4 q hq)
theorem prIv_f2 {σ τ : jM} {R N K : Nat} (h : xRk σ R N K) (f0 : τ.1 0 5 = σ.1 0 5) (f : ∀ a j, 37 ≤ a ∧ a < 280 → τ.1 a j = σ.1 a j) : prIv τ := by
  rcases h.2.2.2.2.2.2.2 with p | p
  · exact Or.inl (f0.trans p)
  · exact Or.inr (prOK_of (xv_flOK h) p (f0.trans p.1) (fun c h1 h2 => funext fun j => f c j (by omega)) (fun c h1 h2 => funext fun j => f c j (by omega)))
theorem by8_bd (x : Int32) (s : Nat) : -128 ≤ by8 x s ∧ by8 x s ≤ 127 := by
  unfold by8
  have h1 := Int8.le_toInt (x >>> (nI s &&& 31)).toInt8
  have h2 := Int8.toInt_lt (x >>> (nI s &&& 31)).toInt8
  rw [Int32.le_iff_toInt_le, Int32.le_iff_toInt_le, Int8.toInt_toInt32]
  have e1 : (127 : Int32).toInt = 127 := by decide
  have e2 : (-128 : Int32).toInt = -128 := by decide
  rw [e1, e2]
  have h3 : (x >>> (nI s &&& 31)).toInt8.toInt < 128 := Int.lt_of_lt_of_le h2 (by decide)
  have h4 : -128 ≤ (x >>> (nI s &&& 31)).toInt8.toInt := Int.le_trans (by decide) h1
  omega
theorem apS_o {c o k : Nat} {σ : jM} {x : Int32} {n a j : Nat} (h1 : a ≠ c) (h2 : ¬ (a = o ∧ j = k)) : (apS c o k σ x n).1 a j = σ.1 a j := by
  rw [apS_1, if_neg (fun z => h1 z.1), if_neg h2]
/-- bytes laid at the same place of two rows -/
theorem apS_two {c o k c' o' k' : Nat} {σ μ : jM} (x : Int32) (n : Nat) (hc : c ≠ o) (hc' : c' ≠ o') (h : σ.1 c = μ.1 c') : (apS c o k σ x n).1 c = (apS c' o' k' μ x n).1 c' := by
  funext j
  rw [apS_1, apS_1, h]
  by_cases q : n ≤ j ∧ j < n + 4
  · rw [if_pos ⟨rfl, q⟩, if_pos ⟨rfl, q⟩]
  · rw [if_neg (fun z => q z.2), if_neg (fun z => hc z.1), if_neg (fun z => q z.2), if_neg (fun z => hc' z.1)]
theorem apS_bd {c o k : Nat} {σ : jM} (x : Int32) (n : Nat) (hc : c ≠ o) (h : ∀ j, j < 900 → -128 ≤ σ.1 c j ∧ σ.1 c j ≤ 127) : ∀ j, j < 900 → -128 ≤ (apS c o k σ x n).1 c j ∧ (apS c o k σ x n).1 c j ≤ 127 := by
  intro j hj
  rw [apS_1]
  by_cases q : n ≤ j ∧ j < n + 4
  · rw [if_pos ⟨rfl, q⟩]
    exact by8_bd _ _
  · rw [if_neg (fun z => q z.2), if_neg (fun z => hc z.1)]
    exact h j hj
theorem fdS_o {c o k : Nat} {σ : jM} {x1 x2 x3 x4 x5 : Int32} {n a j : Nat} (h1 : a ≠ c) (h2 : ¬ (a = o ∧ j = k)) : (fdS c o k σ x1 x2 x3 x4 x5 n).1 a j = σ.1 a j := by
  unfold fdS
  rw [apS_o h1 h2, apS_o h1 h2, apS_o h1 h2, apS_o h1 h2, apS_o h1 h2]
theorem fdS_k {c o k : Nat} {σ : jM} {x1 x2 x3 x4 x5 : Int32} {n : Nat} (h1 : c ≠ o) : (fdS c o k σ x1 x2 x3 x4 x5 n).1 o k = nI (n + 20) := by
  unfold fdS
  rw [apS_1, if_neg (fun z => h1 z.1.symm), if_pos ⟨rfl, rfl⟩]
theorem xv_text {σ : jM} {R N K : Nat} (h : xRk σ R N K) : σ.1 3 = σ.1 346 ∧ (∃ n, n ≤ 900 ∧ σ.1 2 1 = nI n ∧ σ.1 322 32 = nI n ∧ bfN σ = n ∧ bOK σ) ∧ ∀ j, j < 900 → -128 ≤ σ.1 346 j ∧ σ.1 346 j ≤ 127 := by
  obtain ⟨t1, ⟨n, t2, t3, t4⟩, t5⟩ := h.2.2.2.2.1
  refine ⟨t1, ⟨n, t2, t3, t4, by unfold bfN; rw [t4, nI_clamp (by omega)], ?_⟩, t5⟩
  unfold bOK
  rw [t4]
  exact ⟨(NL_0.1 n (by omega)).mpr (Nat.zero_le _), (NL_900.2.2.1 n (by omega)).mpr t2⟩
theorem xs_feed (x1 x2 x3 x4 x5 : Int32) : xS oX11_feed oM_feed [.int x1, .int x2, .int x3, .int x4, .int x5] := by
  intro σ hx
  obtain ⟨R, N, K, h⟩ := hx
  obtain ⟨t1, ⟨n, t2, t3, t4, t5, t6⟩, t7⟩ := xv_text h
  have cl : (nI n).toNatClampNeg = n := nI_clamp (by omega)
  refine ⟨⟨rfl, n, t3, t2⟩, ?_⟩
  rintro v τ (⟨c, hv, e⟩ | ⟨c, hv, e⟩)
  · rw [t3, cl] at c
    rw [e]
    refine ⟨⟨rfl, t6⟩, ?_⟩
    rintro w υ (⟨g1, g2, g3⟩ | ⟨g1, -⟩)
    · exact xe_fin h hv g2 g3
    · rw [t5] at g1
      exact absurd g1 c
  · rw [t3, cl] at c hv e
    have q : mQ σ τ := fun a ha => funext fun j => by
      rw [e]
      exact fdS_o (by omega) (by omega)
    have b5 : bfN τ = n := by
      unfold bfN
      rw [q 322 (by omega), t4, cl]
    have bk : bOK τ := by
      unfold bOK
      rw [q 322 (by omega)]
      exact t6
    refine ⟨⟨rfl, bk⟩, ?_⟩
    rintro w υ (⟨g1, -⟩ | ⟨g1, g2, g3⟩)
    · rw [b5] at g1
      exact absurd c g1
    · rw [b5] at g2 g3
      have uo : ∀ a j, a ≠ 346 → ¬ (a = 322 ∧ j = 32) → ¬ (a = 322 ∧ j = 11) → υ.1 a j = τ.1 a j := fun a j a1 a2 a3 => by
        rw [g3, fdS_o a1 a2, jup_1, if_neg a3]
      have to : ∀ a j, a ≠ 3 → ¬ (a = 2 ∧ j = 1) → τ.1 a j = σ.1 a j := fun a j a1 a2 => by
        rw [e]
        exact fdS_o a1 a2
      have u3 : υ.1 3 = υ.1 346 := by
        rw [show υ.1 3 = τ.1 3 from funext fun j => uo 3 j (by omega) (by omega) (by omega), e, g3]
        unfold fdS
        refine apS_two _ _ (by decide) (by decide) (apS_two _ _ (by decide) (by decide) (apS_two _ _ (by decide) (by decide) (apS_two _ _ (by decide) (by decide) (apS_two _ _ (by decide) (by decide) ?_))))
        rw [t1]
        funext j
        rw [jup_1, if_neg (by omega), q 346 (by omega)]
      have ub : ∀ j, j < 900 → -128 ≤ υ.1 346 j ∧ υ.1 346 j ≤ 127 := by
        rw [g3]
        unfold fdS
        refine apS_bd _ _ (by decide) (apS_bd _ _ (by decide) (apS_bd _ _ (by decide) (apS_bd _ _ (by decide) (apS_bd _ _ (by decide) (fun j hj => ?_)))))
        rw [jup_1, if_neg (by omega), q 346 (by omega)]
        exact t7 j hj
      have al : ∀ a j, a ≠ 3 → a ≠ 346 → ¬ (a = 2 ∧ j = 1) → ¬ (a = 322 ∧ j = 32) → ¬ (a = 322 ∧ j = 11) → υ.1 a j = σ.1 a j := fun a j a1 a2 a3 a4 a5 => by rw [uo a j a2 a4 a5, to a j a1 a3]
      refine xc_fin (R := R) (N := N) (K := K) (xR_tp h (fun a j ha => al a j ?_ ?_ ?_ ?_ ?_) ⟨u3, ⟨n + 20, c, ?_, ?_⟩, ub⟩ ?_ ?_ (prIv_f2 h ?_ ?_)) hv g2 rfl
      · unfold xF at ha; omega
      · unfold xF at ha; omega
      · unfold xF at ha; omega
      · unfold xF at ha; omega
      · unfold xF at ha; omega
      · rw [uo 2 1 (by omega) (by omega) (by omega), e]
        exact fdS_k (by decide)
      · rw [g3]
        exact fdS_k (by decide)
      · obtain ⟨s, s1, s2, s3, s4⟩ := xv_page h
        refine ⟨s, s1, ?_, ?_, fun j hj => ?_⟩
        · rw [al _ _ (by omega) (by omega) (by omega) (by omega) (by omega)]; exact s2
        · rw [al _ _ (by omega) (by omega) (by omega) (by omega) (by omega)]; exact s3
        · rw [al _ _ (by omega) (by omega) (by omega) (by omega) (by omega), al _ _ (by omega) (by omega) (by omega) (by omega) (by omega)]; exact s4 j hj
      · rw [al _ _ (by omega) (by omega) (by omega) (by omega) (by omega), al _ _ (by omega) (by omega) (by omega) (by omega) (by omega)]
        exact h.2.2.2.2.2.2.1
      · exact al 0 5 (by omega) (by omega) (by omega) (by omega) (by omega)
      · exact fun a j ha => al a j (by omega) (by omega) (by omega) (by omega) (by omega)
