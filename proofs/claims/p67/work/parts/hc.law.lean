/-! the law's rest: units that are left, to the greatest remainders -/
/-- whom the next unit goes to, among the first k -/
def rsT (has : Nat → Int32) (left : Nat → Int64) : Nat → Option Nat
  | 0 => none
  | k + 1 => if has k = 0 then rsT has left k else match rsT has left k with
    | none => some k
    | some t => if left k ≤ left t then some t else some k
def rsO : Option Nat → Int32
  | none => -1
  | some t => nI t
def rsS (has : Nat → Int32) (N : Nat) : Nat → (Nat → Int32) × (Nat → Int64) → (Nat → Int32) × (Nat → Int64)
  | 0, s => s
  | m + 1, s => match rsT has (rsS has N m s).2 N with
    | none => rsS has N m s
    | some t => (fun j => if j = t then (rsS has N m s).1 t + 1 else (rsS has N m s).1 j, fun j => if j = t then -1 else (rsS has N m s).2 j)
theorem rsT_lt {has : Nat → Int32} {left : Nat → Int64} : ∀ {k t : Nat}, rsT has left k = some t → t < k ∧ ¬ has t = 0
  | 0, _, h => by cases h
  | k + 1, t, h => by
    simp only [rsT] at h
    split at h
    · have := rsT_lt h
      exact ⟨by omega, this.2⟩
    · rename_i hh
      split at h
      · cases h
        exact ⟨by omega, hh⟩
      · rename_i u e
        have := rsT_lt e
        split at h
        · cases h
          exact ⟨by omega, this.2⟩
        · cases h
          exact ⟨by omega, hh⟩
theorem rsT_some {has : Nat → Int32} {left : Nat → Int64} : ∀ {k p : Nat}, p < k → ¬ has p = 0 → ∃ t, rsT has left k = some t
  | 0, _, h, _ => by omega
  | k + 1, p, h, hp => by
    simp only [rsT]
    by_cases c : p = k
    · subst c
      rw [if_neg hp]
      cases e : rsT has left p with
      | none => exact ⟨_, rfl⟩
      | some t => dsimp only; split <;> exact ⟨_, rfl⟩
    · obtain ⟨t, ht⟩ := rsT_some (left := left) (show p < k by omega) hp
      rw [ht]
      split
      · exact ⟨_, rfl⟩
      · dsimp only; split <;> exact ⟨_, rfl⟩
theorem lgc_le (x y : Int64) : lg_cmp x y ≤ 0 ↔ x ≤ y := by
  unfold lg_cmp
  by_cases c : y < x
  · rw [if_pos c]
    exact ⟨fun h => absurd h (by decide), fun h => absurd h (Int64.not_le.mpr c)⟩
  · rw [if_neg c]
    refine ⟨fun _ => Int64.not_lt.mp c, fun _ => ?_⟩
    by_cases d : x = y
    · rw [if_pos d]; decide
    · rw [if_neg d]; decide
def prRs (σ : dM) (a0 a1 a2 : Nat) (x : Int32) : Prop := ∃ N m, N ≤ 5 ∧ (darr a0 1 0 = true ∧ darr a1 2 4 = true ∧ darr a2 1 3 = true ∧ darr a2 1 1 = false) ∧ (DA σ a0 = true ∧ DA σ a1 = true ∧ DA σ a2 = true) ∧ (DN σ a0 = N ∧ DN σ a1 = N ∧ DN σ a2 = N) ∧ x = nI m ∧ m ≤ 1000000 ∧ (0 < m → ∃ p, p < N ∧ ¬ DI σ a2 p = 0)
def rsD (σ : dM) (a0 a1 : Nat) (s : (Nat → Int32) × (Nat → Int64)) : dM := DrJ (DrI σ a0 s.1) a1 s.2
def dX12_rest : dO := doRRRI fun a0 a1 a2 x σ => (prRs σ a0 a1 a2 x, fun v τ => v = none ∧ τ = rsD σ a0 a1 (rsS (DI σ a2) (DN σ a0) x.toNatClampNeg (DI σ a0, DL σ a1)))
theorem darr_ne {a b k t k' t' : Nat} (h : darr a k t = true) (h' : darr b k' t' = true) (hn : k ≠ k' ∨ t ≠ t') : ¬ a = b := fun e => by
  subst e
  have h1 := darr_spec h
  have h2 := darr_spec h'
  omega
set_option maxRecDepth 100000 in
set_option maxHeartbeats 4000000 in
theorem EX12_rest (g : jG) (h0 n : Nat) : dOk g h0 (n + 0) 0 0 [] mX12_rest dX12_rest := by
  refine doRRRI_ok ?_
  rintro a0 a1 a2 _ σ ⟨N, m, hN, ⟨d0, d1, d2, d3⟩, ⟨A0, A1, A2⟩, ⟨N0, N1, N2⟩, rfl, hm, hex⟩
  have em : (nI m).toNatClampNeg = m := nI_clamp (by omega)
  have n02 : ¬ a2 = a0 := darr_ne d2 d0 (Or.inr (by decide))
  have n02' : ¬ a0 = a2 := darr_ne d0 d2 (Or.inr (by decide))
  refine dCon.go (by decide +kernel) (by simp [lg_sl, Value.category]) (fun z hkp hcl hz post hp hR => ?_)
  simp only [DkF] at hkp
  refine dvk_ok (nC := n + 0) DX12_rest hTyA hR (VC := []) (VD := []) (SD := []) (AL := []) (fun _ h => absurd h List.not_mem_nil) (fun _ h => absurd h List.not_mem_nil) (fun _ h => absurd h List.not_mem_nil) [3] 20 _ _ _ _ _ _ ?_
  simp (maxSteps := 1000000) [↓Bool.cond_eq_ite, -Prod.forall, -Prod.exists, -Prod.mk.injEq, dvk, tX12_rest, jtb, jol, dvl, dal, dst, jlk, jcmp, jbin, jfl, qX12, jc2, qlX12, jcat, jel, lv_args, Value.category, jins, jsrt, jins2, jble, jblt, jf3, List.filter_cons, List.filter_nil, Dlo, Dnr, DnL, Dfree, Droom, DuS_S, DuS_I, DuS_L, DuS_R, DuS_N, DuS_A, DuI_S, DuI_I, DuI_L, DuI_R, DuI_N, DuI_A, DuL_S, DuL_I, DuL_L, DuL_R, DuL_N, DuL_A, DuR_S, DuR_I, DuR_L, DuR_R, DuR_N, DuR_A, Dnw_S, Dnw_I, Dnw_L, Dnw_R, Dnw_N, Dnw_A, DrI_S, DrI_I, DrI_L, DrI_R, DrI_N, DrI_A, DrJ_S, DrJ_I, DrJ_L, DrJ_R, DrJ_N, DrJ_A, dm64, G_d, G_x0, -Int32.not_le, -Int32.not_lt, -Int64.not_le, -Int64.not_lt, i3lt, i6lt, d0, hkp, hz]
  try simp (disch := omega) [-Prod.forall, -Prod.exists, -Prod.mk.injEq, -Int32.not_le, -Int32.not_lt, -Int64.not_le, -Int64.not_lt, i3lt, i6lt, d0, hkp, hz]
  have key := jloop (P := fun i => DW g z mX12_rest 3 [(0, .ref a0), (1, .ref a1), (2, .ref a2), (3, .int (nI m)), (4, .int (nI i))] [] (rsD σ a0 a1 (rsS (DI σ a2) N i (DI σ a0, DL σ a1))) 0 0) (N := m) (by
    have hle : nI m ≤ nI m := nI_le (Nat.le_refl _) (by omega)
    refine DW.cl (fun hcl2 => ?_)
    refine dvk_ok (nC := n + 0) DX12_rest hTyA hR (VC := []) (VD := []) (SD := []) (AL := []) (fun _ h => absurd h List.not_mem_nil) (fun _ h => absurd h List.not_mem_nil) (fun _ h => absurd h List.not_mem_nil) [3] 20 _ _ _ _ _ _ ?_
    simp (maxSteps := 1000000) [↓Bool.cond_eq_ite, -Prod.forall, -Prod.exists, -Prod.mk.injEq, dvk, tX12_rest, jtb, jol, dvl, dal, dst, jlk, jcmp, jbin, jfl, qX12, jc2, qlX12, jcat, jel, lv_args, Value.category, jins, jsrt, jins2, jble, jblt, jf3, List.filter_cons, List.filter_nil, Dlo, Dnr, DnL, Dfree, Droom, DuS_S, DuS_I, DuS_L, DuS_R, DuS_N, DuS_A, DuI_S, DuI_I, DuI_L, DuI_R, DuI_N, DuI_A, DuL_S, DuL_I, DuL_L, DuL_R, DuL_N, DuL_A, DuR_S, DuR_I, DuR_L, DuR_R, DuR_N, DuR_A, Dnw_S, Dnw_I, Dnw_L, Dnw_R, Dnw_N, Dnw_A, DrI_S, DrI_I, DrI_L, DrI_R, DrI_N, DrI_A, DrJ_S, DrJ_I, DrJ_L, DrJ_R, DrJ_N, DrJ_A, dm64, G_d, G_x0, -Int32.not_le, -Int32.not_lt, -Int64.not_le, -Int64.not_lt, i3lt, i6lt, hle, hkp, hz]
    try simp (disch := omega) [-Prod.forall, -Prod.exists, -Prod.mk.injEq, -Int32.not_le, -Int32.not_lt, -Int64.not_le, -Int64.not_lt, i3lt, i6lt, hle, hkp, hz]
    exact ⟨⟨by omega, by omega⟩, _, Dsub.rfl hcl2, hp _ _ ⟨rfl, by rw [em, N0]⟩⟩) (fun i hi ih => by
    have hlt : ¬ nI m ≤ nI i := nI_ge hi (by omega)
    obtain ⟨S, eS⟩ : ∃ S, S = rsS (DI σ a2) N i (DI σ a0, DL σ a1) := ⟨_, rfl⟩
    rw [← eS]
    simp only [rsS] at ih
    rw [← eS] at ih
    have r0 : DN (rsD σ a0 a1 S) a0 = N := N0
    have r1 : DN (rsD σ a0 a1 S) a1 = N := N1
    have r2 : DN (rsD σ a0 a1 S) a2 = N := N2
    have b0 : DA (rsD σ a0 a1 S) a0 = true := A0
    have b1 : DA (rsD σ a0 a1 S) a1 = true := A1
    have b2 : DA (rsD σ a0 a1 S) a2 = true := A2
    have rI2 : ∀ j, DI (rsD σ a0 a1 S) a2 j = DI σ a2 j := fun j => by
      show (if a2 = a0 then S.1 j else DI σ a2 j) = _
      rw [if_neg n02]
    have rI0 : ∀ j, DI (rsD σ a0 a1 S) a0 j = S.1 j := fun j => by
      show (if a0 = a0 then S.1 j else DI σ a0 j) = _
      rw [if_pos rfl]
    have rL : ∀ j, DL (rsD σ a0 a1 S) a1 j = S.2 j := fun j => by
      show (if a1 = a1 then S.2 j else DL σ a1 j) = _
      rw [if_pos rfl]
    refine dvk_ok (nC := n + 0) DX12_rest hTyA hR (VC := []) (VD := []) (SD := []) (AL := []) (fun _ h => absurd h List.not_mem_nil) (fun _ h => absurd h List.not_mem_nil) (fun _ h => absurd h List.not_mem_nil) [15] 20 _ _ _ _ _ _ ?_
    simp (maxSteps := 1000000) [↓Bool.cond_eq_ite, -Prod.forall, -Prod.exists, -Prod.mk.injEq, dvk, tX12_rest, jtb, jol, dvl, dal, dst, jlk, jcmp, jbin, jfl, qX12, jc2, qlX12, jcat, jel, lv_args, Value.category, jins, jsrt, jins2, jble, jblt, jf3, List.filter_cons, List.filter_nil, Dlo, Dnr, DnL, Dfree, Droom, DuS_S, DuS_I, DuS_L, DuS_R, DuS_N, DuS_A, DuI_S, DuI_I, DuI_L, DuI_R, DuI_N, DuI_A, DuL_S, DuL_I, DuL_L, DuL_R, DuL_N, DuL_A, DuR_S, DuR_I, DuR_L, DuR_R, DuR_N, DuR_A, Dnw_S, Dnw_I, Dnw_L, Dnw_R, Dnw_N, Dnw_A, DrI_S, DrI_I, DrI_L, DrI_R, DrI_N, DrI_A, DrJ_S, DrJ_I, DrJ_L, DrJ_R, DrJ_N, DrJ_A, dm64, G_d, G_x0, -Int32.not_le, -Int32.not_lt, -Int64.not_le, -Int64.not_lt, i3lt, i6lt, hlt, hkp, hz]
    try simp (disch := omega) [-Prod.forall, -Prod.exists, -Prod.mk.injEq, -Int32.not_le, -Int32.not_lt, -Int64.not_le, -Int64.not_lt, i3lt, i6lt, hlt, hkp, hz]
    have key2 := jloop (P := fun k => DW g z mX12_rest 15 [(0, .ref a0), (1, .ref a1), (2, .ref a2), (3, .int (nI m)), (4, .int (nI i)), (5, .int (rsO (rsT (DI σ a2) S.2 k))), (6, .int (nI k))] [] (rsD σ a0 a1 S) 0 0) (N := N) (by
      have hle : nI N ≤ nI N := nI_le (Nat.le_refl _) (by omega)
      obtain ⟨p, hp1, hp2⟩ := hex (by omega)
      obtain ⟨t, ht⟩ := rsT_some (left := S.2) hp1 hp2
      have htl := (rsT_lt ht).1
      rw [ht] at ih ⊢
      dsimp only at ih
      have hj : jin (nI t) N := jinN htl (by omega)
      have ek : (nI t).toNatClampNeg = t := nI_clamp (by omega)
      have eo : rsO (some t) = nI t := rfl
      rw [eo]
      have e9 : rsD σ a0 a1 (fun j => if j = t then S.1 t + 1 else S.1 j, fun j => if j = t then -1 else S.2 j) = DuL (DuI (rsD σ a0 a1 S) a0 t (S.1 t + 1)) a1 t (-1) := by
        unfold rsD
        rw [← DuL_rJ, ← DuI_rI]
        rfl
      rw [e9, ← nI_1] at ih
      refine dvk_ok (nC := n + 0) DX12_rest hTyA hR (VC := []) (VD := []) (SD := []) (AL := []) (fun _ h => absurd h List.not_mem_nil) (fun _ h => absurd h List.not_mem_nil) (fun _ h => absurd h List.not_mem_nil) [3] 40 _ _ _ _ _ _ ?_
      simp (maxSteps := 1000000) [↓Bool.cond_eq_ite, -Prod.forall, -Prod.exists, -Prod.mk.injEq, dvk, tX12_rest, jtb, jol, dvl, dal, dst, jlk, jcmp, jbin, jfl, qX12, jc2, qlX12, jcat, jel, lv_args, Value.category, jins, jsrt, jins2, jble, jblt, jf3, List.filter_cons, List.filter_nil, Dlo, Dnr, DnL, Dfree, Droom, DuS_S, DuS_I, DuS_L, DuS_R, DuS_N, DuS_A, DuI_S, DuI_I, DuI_L, DuI_R, DuI_N, DuI_A, DuL_S, DuL_I, DuL_L, DuL_R, DuL_N, DuL_A, DuR_S, DuR_I, DuR_L, DuR_R, DuR_N, DuR_A, Dnw_S, Dnw_I, Dnw_L, Dnw_R, Dnw_N, Dnw_A, DrI_S, DrI_I, DrI_L, DrI_R, DrI_N, DrI_A, DrJ_S, DrJ_I, DrJ_L, DrJ_R, DrJ_N, DrJ_A, dm64, G_d, G_x0, -Int32.not_le, -Int32.not_lt, -Int64.not_le, -Int64.not_lt, i3lt, i6lt, hle, hkp, hz, d0, d1, d2, d3, r0, r1, r2, b0, b1, b2, hj, ek, rI0, rL]
      try simp (disch := omega) [-Prod.forall, -Prod.exists, -Prod.mk.injEq, -Int32.not_le, -Int32.not_lt, -Int64.not_le, -Int64.not_lt, i3lt, i6lt, hle, hkp, hz, d0, d1, d2, d3, r0, r1, r2, b0, b1, b2, hj, ek, rI0, rL]
      exact DW.mono ih (by simp)) (fun k hk ih2 => by
      have hlt2 : ¬ nI N ≤ nI k := nI_ge hk (by omega)
      have hj : jin (nI k) N := jinN hk (by omega)
      have ek : (nI k).toNatClampNeg = k := nI_clamp (by omega)
      simp only [rsT] at ih2
      by_cases c : DI σ a2 k = 0
      · rw [if_pos c, ← nI_1] at ih2
        refine dvk_ok (nC := n + 0) DX12_rest hTyA hR (VC := []) (VD := []) (SD := []) (AL := []) (fun _ h => absurd h List.not_mem_nil) (fun _ h => absurd h List.not_mem_nil) (fun _ h => absurd h List.not_mem_nil) [15] 40 _ _ _ _ _ _ ?_
        simp (maxSteps := 1000000) [↓Bool.cond_eq_ite, -Prod.forall, -Prod.exists, -Prod.mk.injEq, dvk, tX12_rest, jtb, jol, dvl, dal, dst, jlk, jcmp, jbin, jfl, qX12, jc2, qlX12, jcat, jel, lv_args, Value.category, jins, jsrt, jins2, jble, jblt, jf3, List.filter_cons, List.filter_nil, Dlo, Dnr, DnL, Dfree, Droom, DuS_S, DuS_I, DuS_L, DuS_R, DuS_N, DuS_A, DuI_S, DuI_I, DuI_L, DuI_R, DuI_N, DuI_A, DuL_S, DuL_I, DuL_L, DuL_R, DuL_N, DuL_A, DuR_S, DuR_I, DuR_L, DuR_R, DuR_N, DuR_A, Dnw_S, Dnw_I, Dnw_L, Dnw_R, Dnw_N, Dnw_A, DrI_S, DrI_I, DrI_L, DrI_R, DrI_N, DrI_A, DrJ_S, DrJ_I, DrJ_L, DrJ_R, DrJ_N, DrJ_A, dm64, G_d, G_x0, -Int32.not_le, -Int32.not_lt, -Int64.not_le, -Int64.not_lt, i3lt, i6lt, hlt2, hkp, hz, d0, d1, d2, d3, r0, r1, r2, b0, b1, b2, hj, ek, rI2, c]
        try simp (disch := omega) [-Prod.forall, -Prod.exists, -Prod.mk.injEq, -Int32.not_le, -Int32.not_lt, -Int64.not_le, -Int64.not_lt, i3lt, i6lt, hlt2, hkp, hz, d0, d1, d2, d3, r0, r1, r2, b0, b1, b2, hj, ek, rI2, c]
        exact ih2
      · rw [if_neg c] at ih2
        cases et : rsT (DI σ a2) S.2 k with
        | none =>
          rw [et, ← nI_1] at ih2
          have eo : rsO none = -1 := rfl
          have eo2 : rsO (some k) = nI k := rfl
          have hm1 : (-1 : Int32) < 0 := by decide
          rw [eo]
          dsimp only at ih2
          rw [eo2] at ih2
          refine dvk_ok (nC := n + 0) DX12_rest hTyA hR (VC := []) (VD := []) (SD := []) (AL := []) (fun _ h => absurd h List.not_mem_nil) (fun _ h => absurd h List.not_mem_nil) (fun _ h => absurd h List.not_mem_nil) [15] 40 _ _ _ _ _ _ ?_
          simp (maxSteps := 1000000) [↓Bool.cond_eq_ite, -Prod.forall, -Prod.exists, -Prod.mk.injEq, dvk, tX12_rest, jtb, jol, dvl, dal, dst, jlk, jcmp, jbin, jfl, qX12, jc2, qlX12, jcat, jel, lv_args, Value.category, jins, jsrt, jins2, jble, jblt, jf3, List.filter_cons, List.filter_nil, Dlo, Dnr, DnL, Dfree, Droom, DuS_S, DuS_I, DuS_L, DuS_R, DuS_N, DuS_A, DuI_S, DuI_I, DuI_L, DuI_R, DuI_N, DuI_A, DuL_S, DuL_I, DuL_L, DuL_R, DuL_N, DuL_A, DuR_S, DuR_I, DuR_L, DuR_R, DuR_N, DuR_A, Dnw_S, Dnw_I, Dnw_L, Dnw_R, Dnw_N, Dnw_A, DrI_S, DrI_I, DrI_L, DrI_R, DrI_N, DrI_A, DrJ_S, DrJ_I, DrJ_L, DrJ_R, DrJ_N, DrJ_A, dm64, G_d, G_x0, -Int32.not_le, -Int32.not_lt, -Int64.not_le, -Int64.not_lt, i3lt, i6lt, hlt2, hkp, hz, d0, d1, d2, d3, r0, r1, r2, b0, b1, b2, hj, ek, rI2, c, hm1]
          try simp (disch := omega) [-Prod.forall, -Prod.exists, -Prod.mk.injEq, -Int32.not_le, -Int32.not_lt, -Int64.not_le, -Int64.not_lt, i3lt, i6lt, hlt2, hkp, hz, d0, d1, d2, d3, r0, r1, r2, b0, b1, b2, hj, ek, rI2, c, hm1]
          exact ih2
        | some t =>
          have htl := (rsT_lt et).1
          rw [et, ← nI_1] at ih2
          have eo : rsO (some t) = nI t := rfl
          have ht0 : ¬ nI t < 0 := nI_pos (by omega)
          have hjt : jin (nI t) N := jinN (by omega) (by omega)
          have ekt : (nI t).toNatClampNeg = t := nI_clamp (by omega)
          rw [eo]
          dsimp only at ih2
          by_cases c2 : S.2 k ≤ S.2 t
          · rw [if_pos c2, eo] at ih2
            have c3 : lg_cmp (S.2 k) (S.2 t) ≤ 0 := (lgc_le _ _).mpr c2
            refine dvk_ok (nC := n + 0) DX12_rest hTyA hR (VC := []) (VD := []) (SD := []) (AL := []) (fun _ h => absurd h List.not_mem_nil) (fun _ h => absurd h List.not_mem_nil) (fun _ h => absurd h List.not_mem_nil) [15] 40 _ _ _ _ _ _ ?_
            simp (maxSteps := 1000000) [↓Bool.cond_eq_ite, -Prod.forall, -Prod.exists, -Prod.mk.injEq, dvk, tX12_rest, jtb, jol, dvl, dal, dst, jlk, jcmp, jbin, jfl, qX12, jc2, qlX12, jcat, jel, lv_args, Value.category, jins, jsrt, jins2, jble, jblt, jf3, List.filter_cons, List.filter_nil, Dlo, Dnr, DnL, Dfree, Droom, DuS_S, DuS_I, DuS_L, DuS_R, DuS_N, DuS_A, DuI_S, DuI_I, DuI_L, DuI_R, DuI_N, DuI_A, DuL_S, DuL_I, DuL_L, DuL_R, DuL_N, DuL_A, DuR_S, DuR_I, DuR_L, DuR_R, DuR_N, DuR_A, Dnw_S, Dnw_I, Dnw_L, Dnw_R, Dnw_N, Dnw_A, DrI_S, DrI_I, DrI_L, DrI_R, DrI_N, DrI_A, DrJ_S, DrJ_I, DrJ_L, DrJ_R, DrJ_N, DrJ_A, dm64, G_d, G_x0, -Int32.not_le, -Int32.not_lt, -Int64.not_le, -Int64.not_lt, i3lt, i6lt, hlt2, hkp, hz, d0, d1, d2, d3, r0, r1, r2, b0, b1, b2, hj, ek, rI2, c, ht0, hjt, ekt, rL, c3]
            try simp (disch := omega) [-Prod.forall, -Prod.exists, -Prod.mk.injEq, -Int32.not_le, -Int32.not_lt, -Int64.not_le, -Int64.not_lt, i3lt, i6lt, hlt2, hkp, hz, d0, d1, d2, d3, r0, r1, r2, b0, b1, b2, hj, ek, rI2, c, ht0, hjt, ekt, rL, c3]
            exact ih2
          · rw [if_neg c2] at ih2
            have eo2 : rsO (some k) = nI k := rfl
            rw [eo2] at ih2
            have c3 : ¬ lg_cmp (S.2 k) (S.2 t) ≤ 0 := fun z9 => c2 ((lgc_le _ _).mp z9)
            refine dvk_ok (nC := n + 0) DX12_rest hTyA hR (VC := []) (VD := []) (SD := []) (AL := []) (fun _ h => absurd h List.not_mem_nil) (fun _ h => absurd h List.not_mem_nil) (fun _ h => absurd h List.not_mem_nil) [15] 40 _ _ _ _ _ _ ?_
            simp (maxSteps := 1000000) [↓Bool.cond_eq_ite, -Prod.forall, -Prod.exists, -Prod.mk.injEq, dvk, tX12_rest, jtb, jol, dvl, dal, dst, jlk, jcmp, jbin, jfl, qX12, jc2, qlX12, jcat, jel, lv_args, Value.category, jins, jsrt, jins2, jble, jblt, jf3, List.filter_cons, List.filter_nil, Dlo, Dnr, DnL, Dfree, Droom, DuS_S, DuS_I, DuS_L, DuS_R, DuS_N, DuS_A, DuI_S, DuI_I, DuI_L, DuI_R, DuI_N, DuI_A, DuL_S, DuL_I, DuL_L, DuL_R, DuL_N, DuL_A, DuR_S, DuR_I, DuR_L, DuR_R, DuR_N, DuR_A, Dnw_S, Dnw_I, Dnw_L, Dnw_R, Dnw_N, Dnw_A, DrI_S, DrI_I, DrI_L, DrI_R, DrI_N, DrI_A, DrJ_S, DrJ_I, DrJ_L, DrJ_R, DrJ_N, DrJ_A, dm64, G_d, G_x0, -Int32.not_le, -Int32.not_lt, -Int64.not_le, -Int64.not_lt, i3lt, i6lt, hlt2, hkp, hz, d0, d1, d2, d3, r0, r1, r2, b0, b1, b2, hj, ek, rI2, c, ht0, hjt, ekt, rL, c3]
            try simp (disch := omega) [-Prod.forall, -Prod.exists, -Prod.mk.injEq, -Int32.not_le, -Int32.not_lt, -Int64.not_le, -Int64.not_lt, i3lt, i6lt, hlt2, hkp, hz, d0, d1, d2, d3, r0, r1, r2, b0, b1, b2, hj, ek, rI2, c, ht0, hjt, ekt, rL, c3]
            exact ih2)
    rw [nI_0] at key2
    exact key2)
  rw [nI_0] at key
  have e0 : rsD σ a0 a1 (rsS (DI σ a2) N 0 (DI σ a0, DL σ a1)) = σ := by
    show DrJ (DrI σ a0 (DI σ a0)) a1 (DL σ a1) = σ
    rw [DrI_self, DrJ_self]
  rw [e0] at key
  exact key
