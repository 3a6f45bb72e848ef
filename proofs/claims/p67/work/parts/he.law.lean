/-! the law's split, walked -/
theorem lgc_0 {n : Nat} (h : n < 2 ^ 63) : lg_cmp (lN n) 0 = 0 ↔ n = 0 := by
  have e0 : (0 : Int64) = lN 0 := rfl
  unfold lg_cmp
  rw [e0]
  by_cases c : n = 0
  · subst c
    simp
  · have h1 : lN 0 < lN n := (pk_lLT (by omega) h).mpr (by omega)
    rw [if_pos h1]
    simp [c]
theorem l1N : (1 : Int64) = lN 1 := rfl
theorem l0N : (0 : Int64) = lN 0 := rfl
/-- what the walk of split stands on -/
def spC (σ σ1 : dM) (w N : Nat) : Prop := (DA σ1 1000 = true ∧ DI σ1 1000 2 = nI N ∧ DA σ1 1210 = true ∧ DN σ1 1210 = N ∧ DA σ1 w = true ∧ DN σ1 w = N ∧ DA σ1 1124 = true ∧ DN σ1 1124 = N ∧ DA σ1 1310 = true ∧ DN σ1 1310 = N) ∧ (∀ j, DI σ1 1210 j = DI σ 1210 j) ∧ (∀ j, DL σ1 w j = DL σ w j) ∧ (darr w 2 4 = true ∧ ¬ w = 1310 ∧ ¬ w = 1124)
def spL3 (A w : Nat) (h : Nat → Int32) (wt : Nat → Nat) (N k : Nat) : List (Nat × Value) := [(0, .ref 1000), (1, .int (nI A)), (2, .ref w), (3, .ref 1210), (4, .ref 1124), (5, .ref 1310), (6, .long (lN (uAll h wt N))), (9, .long (lN (uSum h wt N))), (11, .int (nI (A - smN (uQ A h wt N) k))), (12, .int (nI k))]
def spS3 (σ1 : dM) (A : Nat) (h : Nat → Int32) (wt : Nat → Nat) (N k : Nat) : dM := rsD σ1 1124 1310 (fillI (fun p => nI (uQ A h wt N p)) k, fillL (fun p => lN (uR A h wt N p)) k)
set_option maxRecDepth 100000 in
set_option maxHeartbeats 4000000 in
theorem ESp_step {g : jG} {n : Nat} {z : dZ} {R : Option Value → dM → Nat → Nat → Prop} (hR : dRok g z mX12_split R) (hz : z.1.frames = n + 1 ∧ z.1.locals = 64 * (n + 1) ∧ z.1.cells = 2 ∧ z.1.slots = 10) {σ σ1 : dM} {w N A k : Nat} {wt : Nat → Nat} (C : spC σ σ1 w N) (hN5 : N ≤ 5) (hA : A ≤ 99999) (hwt : ∀ p, p < N → DL σ w p = lN (wt p) ∧ wt p ≤ 100000000)
    (hU : 0 < uSum (DI σ 1210) wt N ∧ uSum (DI σ 1210) wt N ≤ 500000005) (hW : uAll (DI σ 1210) wt N ≤ 500000000) (hk : k < N) (ih : DW g z mX12_split 126 (spL3 A w (DI σ 1210) wt N (k + 1)) [] (spS3 σ1 A (DI σ 1210) wt N (k + 1)) 2 10) : DW g z mX12_split 126 (spL3 A w (DI σ 1210) wt N k) [] (spS3 σ1 A (DI σ 1210) wt N k) 2 10 := by
  obtain ⟨g0, gh, gw, hw⟩ := C
  obtain ⟨h, eh⟩ : ∃ h, h = DI σ 1210 := ⟨_, rfl⟩
  rw [← eh] at hU hW ih ⊢
  obtain ⟨W, eW⟩ : ∃ W, W = uAll h wt N := ⟨_, rfl⟩
  obtain ⟨U, eU⟩ : ∃ U, U = uSum h wt N := ⟨_, rfl⟩
  obtain ⟨Q, eQ⟩ : ∃ Q, Q = uQ A h wt N k := ⟨_, rfl⟩
  obtain ⟨S, eS⟩ : ∃ S, S = smN (uQ A h wt N) k := ⟨_, rfl⟩
  have hSQ : S + Q ≤ A := by
    have := uQ_sum A h wt (N := N) (k := k + 1) (by omega) hU.1
    simp only [smN] at this
    omega
  have eS2 : smN (uQ A h wt N) (k + 1) = S + Q := by
    rw [eS, eQ]
    rfl
  have hlt : ¬ nI N ≤ nI k := nI_ge hk (by omega)
  have hj : jin (nI k) N := jinN hk (by omega)
  have ek : (nI k).toNatClampNeg = k := nI_clamp (by omega)
  obtain ⟨σ2, e2⟩ : ∃ σ2, σ2 = spS3 σ1 A h wt N k := ⟨_, rfl⟩
  have f0 : DA σ2 1000 = true ∧ DI σ2 1000 2 = nI N ∧ DA σ2 1210 = true ∧ DN σ2 1210 = N ∧ DA σ2 w = true ∧ DN σ2 w = N ∧ DA σ2 1124 = true ∧ DN σ2 1124 = N ∧ DA σ2 1310 = true ∧ DN σ2 1310 = N := by
    rw [e2]
    exact g0
  have fh : ∀ j, DI σ2 1210 j = h j := fun j => by rw [e2, eh]; exact gh j
  have fw : ∀ j, DL σ2 w j = DL σ w j := fun j => by
    rw [e2]
    show (if w = 1310 then _ else DL σ1 w j) = _
    rw [if_neg hw.2.1]
    exact gw j
  have eL : spL3 A w h wt N k = [(0, .ref 1000), (1, .int (nI A)), (2, .ref w), (3, .ref 1210), (4, .ref 1124), (5, .ref 1310), (6, .long (lN W)), (9, .long (lN U)), (11, .int (nI (A - S))), (12, .int (nI k))] := by
    unfold spL3
    rw [← eW, ← eU, ← eS]
  have eL2 : spL3 A w h wt N (k + 1) = [(0, .ref 1000), (1, .int (nI A)), (2, .ref w), (3, .ref 1210), (4, .ref 1124), (5, .ref 1310), (6, .long (lN W)), (9, .long (lN U)), (11, .int (nI (A - S - Q))), (12, .int (nI k + 1))] := by
    unfold spL3
    rw [← eW, ← eU, eS2, nI_1, Nat.sub_sub]
  rw [eL, ← e2]
  rw [eL2] at ih
  by_cases c : h k = 0
  · have q0 : uWg h wt (uAll h wt N) k = 0 := by unfold uWg; rw [if_pos c]
    have hQ0 : uQ A h wt N k = 0 := by unfold uQ; rw [q0]; simp
    have hR0 : uR A h wt N k = 0 := by unfold uR; rw [q0]; simp
    have e3 : spS3 σ1 A h wt N (k + 1) = σ2 := by
      rw [e2]
      unfold spS3
      rw [fillI_z (by show nI (uQ A h wt N k) = 0; rw [hQ0]; rfl), fillL_z (by show lN (uR A h wt N k) = 0; rw [hR0]; rfl)]
    rw [e3, show Q = 0 from eQ.trans hQ0, Nat.sub_zero] at ih
    refine dvk_ok (nC := n + 0) DX12_split hTyA hR (VC := []) (VD := []) (SD := [(181, 4, 0, n + 0, 0, 0, 0, [], dX12_rest)]) (AL := []) (fun _ h => absurd h List.not_mem_nil) (fun _ h => absurd h List.not_mem_nil) (List.forall_mem_cons.mpr ⟨⟨mX12_rest, by decide, Or.inl hX12_181, WX12_rest, EX12_rest g _ n⟩, (fun _ h => absurd h List.not_mem_nil)⟩) [126] 40 _ _ _ _ _ _ ?_
    simp (maxSteps := 1000000) [↓Bool.cond_eq_ite, -Prod.forall, -Prod.exists, -Prod.mk.injEq, dvk, tX12_split, jtb, jol, dvl, dal, dst, jlk, jcmp, jbin, jfl, qX12, jc2, qlX12, jcat, jel, lv_args, Value.category, jins, jsrt, jins2, jble, jblt, jf3, List.filter_cons, List.filter_nil, Dlo, Dnr, DnL, Dfree, Droom, DuS_S, DuS_I, DuS_L, DuS_R, DuS_N, DuS_A, DuI_S, DuI_I, DuI_L, DuI_R, DuI_N, DuI_A, DuL_S, DuL_I, DuL_L, DuL_R, DuL_N, DuL_A, DuR_S, DuR_I, DuR_L, DuR_R, DuR_N, DuR_A, Dnw_S, Dnw_I, Dnw_L, Dnw_R, Dnw_N, Dnw_A, DrI_S, DrI_I, DrI_L, DrI_R, DrI_N, DrI_A, DrJ_S, DrJ_I, DrJ_L, DrJ_R, DrJ_N, DrJ_A, dm64, G_d, G_x0, dX12_rest, doRRRI, -Int32.not_le, -Int32.not_lt, -Int64.not_le, -Int64.not_lt, i3lt, i6lt, f0, fh, hlt, hj, ek, c, hz]
    try simp (disch := omega) [-Prod.forall, -Prod.exists, -Prod.mk.injEq, -Int32.not_le, -Int32.not_lt, -Int64.not_le, -Int64.not_lt, i3lt, i6lt, f0, fh, hlt, hj, ek, c, hz]
    exact ih
  · have hA9 : (nI A).toInt64 = lN A := nI_l (by omega)
    have hUne : ¬ lN U = 0 := fun z9 => by
      have := (pk_lEQ (a := U) (b := 0) (by omega) (by decide)).mp z9
      omega
    have hQl : (lN Q).toInt32 = nI Q := lN_i Q
    have hQi : (nI Q).toInt64 = lN Q := nI_l (by omega)
    have hUQ : lN U * lN Q = lN (U * Q) := lN_mul U Q
    have hsub : nI (A - S) - nI Q = nI (A - S - Q) := pk_sub (by omega)
    have hX : A * uWg h wt (uAll h wt N) k ≤ 99999 * 500000005 := by
      have h1 : uWg h wt (uAll h wt N) k ≤ 500000005 := by
        have := smN_at (f := uWg h wt (uAll h wt N)) hk
        unfold uSum at hU
        omega
      exact Nat.mul_le_mul hA h1
    have e3 : spS3 σ1 A h wt N (k + 1) = DuL (DuI σ2 1124 k (nI Q)) 1310 k (lN (uR A h wt N k)) := by
      rw [e2]
      unfold spS3
      rw [rsD_fI (F := fun p => nI (uQ A h wt N p)) (by rw [eQ]), rsD_fL (F := fun p => lN (uR A h wt N p)) rfl]
    rw [e3] at ih
    by_cases cW : W = 0
    · have hc0 : lg_cmp (lN W) 0 = 0 := (lgc_0 (by omega)).mpr cW
      have q1 : uWg h wt (uAll h wt N) k = 1 := by unfold uWg; rw [if_neg c, if_pos (by rw [← eW]; exact cW)]
      have hXe : A * uWg h wt (uAll h wt N) k = A := by rw [q1, Nat.mul_one]
      have hd : lN A / lN U = lN Q := by
        rw [pk_lDiv (by omega) (by omega) (by omega), eQ]
        unfold uQ
        rw [hXe, ← eU]
      have hs : lN A - lN (U * Q) = lN (uR A h wt N k) := by
        have e9 : U * Q ≤ A := by
          rw [eQ]
          unfold uQ
          rw [hXe, ← eU]
          exact Nat.mul_div_le A U
        rw [lN_sub e9, eQ]
        unfold uQ uR
        rw [hXe, ← eU]
        congr 1
        have := Nat.div_add_mod A U
        omega
      refine dvk_ok (nC := n + 0) DX12_split hTyA hR (VC := []) (VD := []) (SD := [(181, 4, 0, n + 0, 0, 0, 0, [], dX12_rest)]) (AL := []) (fun _ h => absurd h List.not_mem_nil) (fun _ h => absurd h List.not_mem_nil) (List.forall_mem_cons.mpr ⟨⟨mX12_rest, by decide, Or.inl hX12_181, WX12_rest, EX12_rest g _ n⟩, (fun _ h => absurd h List.not_mem_nil)⟩) [126] 60 _ _ _ _ _ _ ?_
      simp (maxSteps := 1000000) [↓Bool.cond_eq_ite, -Prod.forall, -Prod.exists, -Prod.mk.injEq, dvk, tX12_split, jtb, jol, dvl, dal, dst, jlk, jcmp, jbin, jfl, qX12, jc2, qlX12, jcat, jel, lv_args, Value.category, jins, jsrt, jins2, jble, jblt, jf3, List.filter_cons, List.filter_nil, Dlo, Dnr, DnL, Dfree, Droom, DuS_S, DuS_I, DuS_L, DuS_R, DuS_N, DuS_A, DuI_S, DuI_I, DuI_L, DuI_R, DuI_N, DuI_A, DuL_S, DuL_I, DuL_L, DuL_R, DuL_N, DuL_A, DuR_S, DuR_I, DuR_L, DuR_R, DuR_N, DuR_A, Dnw_S, Dnw_I, Dnw_L, Dnw_R, Dnw_N, Dnw_A, DrI_S, DrI_I, DrI_L, DrI_R, DrI_N, DrI_A, DrJ_S, DrJ_I, DrJ_L, DrJ_R, DrJ_N, DrJ_A, dm64, G_d, G_x0, dX12_rest, doRRRI, -Int32.not_le, -Int32.not_lt, -Int64.not_le, -Int64.not_lt, i3lt, i6lt, f0, fh, fw, hlt, hj, ek, c, hz, hw, hc0, hA9, hUne, hd, hQl, hQi, hUQ, hs, hsub]
      try simp (disch := omega) [-Prod.forall, -Prod.exists, -Prod.mk.injEq, -Int32.not_le, -Int32.not_lt, -Int64.not_le, -Int64.not_lt, i3lt, i6lt, f0, fh, fw, hlt, hj, ek, c, hz, hw, hc0, hA9, hUne, hd, hQl, hQi, hUQ, hs, hsub]
      exact DW.mono ih (by simp)
    · have hc0 : ¬ lg_cmp (lN W) 0 = 0 := fun z9 => cW ((lgc_0 (by omega)).mp z9)
      have q1 : uWg h wt (uAll h wt N) k = wt k := by unfold uWg; rw [if_neg c, if_neg (by rw [← eW]; exact cW)]
      have hwk := (hwt k hk).1
      have hm : lN A * lN (wt k) = lN (A * wt k) := lN_mul A (wt k)
      rw [q1] at hX
      have hd : lN (A * wt k) / lN U = lN Q := by
        rw [pk_lDiv (by omega) (by omega) (by omega), eQ]
        unfold uQ
        rw [q1, ← eU]
      have hs : lN (A * wt k) - lN (U * Q) = lN (uR A h wt N k) := by
        have e9 : U * Q ≤ A * wt k := by
          rw [eQ]
          unfold uQ
          rw [q1, ← eU]
          exact Nat.mul_div_le _ U
        rw [lN_sub e9, eQ]
        unfold uQ uR
        rw [q1, ← eU]
        congr 1
        have := Nat.div_add_mod (A * wt k) U
        omega
      refine dvk_ok (nC := n + 0) DX12_split hTyA hR (VC := []) (VD := []) (SD := [(181, 4, 0, n + 0, 0, 0, 0, [], dX12_rest)]) (AL := []) (fun _ h => absurd h List.not_mem_nil) (fun _ h => absurd h List.not_mem_nil) (List.forall_mem_cons.mpr ⟨⟨mX12_rest, by decide, Or.inl hX12_181, WX12_rest, EX12_rest g _ n⟩, (fun _ h => absurd h List.not_mem_nil)⟩) [126] 60 _ _ _ _ _ _ ?_
      simp (maxSteps := 1000000) [↓Bool.cond_eq_ite, -Prod.forall, -Prod.exists, -Prod.mk.injEq, dvk, tX12_split, jtb, jol, dvl, dal, dst, jlk, jcmp, jbin, jfl, qX12, jc2, qlX12, jcat, jel, lv_args, Value.category, jins, jsrt, jins2, jble, jblt, jf3, List.filter_cons, List.filter_nil, Dlo, Dnr, DnL, Dfree, Droom, DuS_S, DuS_I, DuS_L, DuS_R, DuS_N, DuS_A, DuI_S, DuI_I, DuI_L, DuI_R, DuI_N, DuI_A, DuL_S, DuL_I, DuL_L, DuL_R, DuL_N, DuL_A, DuR_S, DuR_I, DuR_L, DuR_R, DuR_N, DuR_A, Dnw_S, Dnw_I, Dnw_L, Dnw_R, Dnw_N, Dnw_A, DrI_S, DrI_I, DrI_L, DrI_R, DrI_N, DrI_A, DrJ_S, DrJ_I, DrJ_L, DrJ_R, DrJ_N, DrJ_A, dm64, G_d, G_x0, dX12_rest, doRRRI, -Int32.not_le, -Int32.not_lt, -Int64.not_le, -Int64.not_lt, i3lt, i6lt, f0, fh, fw, hlt, hj, ek, c, hz, hw, hc0, hA9, hUne, hwk, hm, hd, hQl, hQi, hUQ, hs, hsub]
      try simp (disch := omega) [-Prod.forall, -Prod.exists, -Prod.mk.injEq, -Int32.not_le, -Int32.not_lt, -Int64.not_le, -Int64.not_lt, i3lt, i6lt, f0, fh, fw, hlt, hj, ek, c, hz, hw, hc0, hA9, hUne, hwk, hm, hd, hQl, hQi, hUQ, hs, hsub]
      exact DW.mono ih (by simp)
