/-! the law's allEnvy, livers -/
def dX12_allEnvy : dO := doR fun a σ => (a = 1000 ∧ prHs σ, fun v τ => v = some (.int (evA σ (DI σ 1000 2).toNatClampNeg (DI σ 1000 2).toNatClampNeg)) ∧ τ = σ)
set_option maxRecDepth 100000 in
set_option maxHeartbeats 4000000 in
theorem EX12_allEnvy (g : jG) (h0 n : Nat) : dOk g h0 (n + 2) 0 0 [] mX12_allEnvy dX12_allEnvy := by
  refine doR_ok ?_
  rintro _ σ ⟨rfl, N, M, hk, hH⟩
  have hN := hk.1.1.2
  have hf := dk_f hk
  have eN : (nI N).toNatClampNeg = N := nI_clamp (by omega)
  refine dCon.go (by decide +kernel) (by simp [lg_sl, Value.category]) (fun z hkp hcl hz post hp hR => ?_)
  simp only [DkF] at hkp
  refine dvk_ok (nC := n + 1) DX12_allEnvy hTyA hR (VC := []) (VD := [(239, 3, 12, n + 1, 0, 0, 0, [], dX12_envy)]) (SD := [(171, 2, 0, n + 0, 0, 0, 0, [], dJ9_max_7cf53)]) (AL := []) (fun _ h => absurd h List.not_mem_nil) (List.forall_mem_cons.mpr ⟨⟨mX12_envy, 2, TX12, 25, rfl, by decide, hX12_239, WX12_envy, rfl, EX12_envy g _ n⟩, (fun _ h => absurd h List.not_mem_nil)⟩) (List.forall_mem_cons.mpr ⟨⟨mJ9_max_7cf53, by decide, Or.inl hX12_171, WJ9_max_7cf53, EJ9_max_7cf53 g _ n⟩, (fun _ h => absurd h List.not_mem_nil)⟩) [4] 20 _ _ _ _ _ _ ?_
  simp (maxSteps := 1000000) [↓Bool.cond_eq_ite, -Prod.forall, -Prod.exists, -Prod.mk.injEq, dvk, tX12_allEnvy, jtb, jol, dvl, dal, dst, jlk, jcmp, jbin, jfl, qX12, jc2, qlX12, jcat, jel, lv_args, Value.category, jins, jsrt, jins2, jble, jblt, jf3, List.filter_cons, List.filter_nil, Dlo, Dnr, DnL, Dfree, Droom, DuS_S, DuS_I, DuS_L, DuS_R, DuS_N, DuS_A, DuI_S, DuI_I, DuI_L, DuI_R, DuI_N, DuI_A, DuL_S, DuL_I, DuL_L, DuL_R, DuL_N, DuL_A, DuR_S, DuR_I, DuR_L, DuR_R, DuR_N, DuR_A, Dnw_S, Dnw_I, Dnw_L, Dnw_R, Dnw_N, Dnw_A, DrI_S, DrI_I, DrI_L, DrI_R, DrI_N, DrI_A, DrJ_S, DrJ_I, DrJ_L, DrJ_R, DrJ_N, DrJ_A, dm64, G_d, G_x0, dX12_envy, dJ9_max_7cf53, doII, doRII, -Int32.not_le, -Int32.not_lt, -Int64.not_le, -Int64.not_lt, i3lt, i6lt, hf, hkp, hz]
  try simp (disch := omega) [-Prod.forall, -Prod.exists, -Prod.mk.injEq, -Int32.not_le, -Int32.not_lt, -Int64.not_le, -Int64.not_lt, i3lt, i6lt, hf, hkp, hz]
  have key := jloop (P := fun p => DW g z mX12_allEnvy 4 [(0, .ref 1000), (1, .int (evA σ N p)), (2, .int (nI p))] [] σ 0 0) (N := N) (by
    have hle : nI N ≤ nI N := nI_le (Nat.le_refl _) (by omega)
    refine dvk_ok (nC := n + 1) DX12_allEnvy hTyA hR (VC := []) (VD := [(239, 3, 12, n + 1, 0, 0, 0, [], dX12_envy)]) (SD := [(171, 2, 0, n + 0, 0, 0, 0, [], dJ9_max_7cf53)]) (AL := []) (fun _ h => absurd h List.not_mem_nil) (List.forall_mem_cons.mpr ⟨⟨mX12_envy, 2, TX12, 25, rfl, by decide, hX12_239, WX12_envy, rfl, EX12_envy g _ n⟩, (fun _ h => absurd h List.not_mem_nil)⟩) (List.forall_mem_cons.mpr ⟨⟨mJ9_max_7cf53, by decide, Or.inl hX12_171, WJ9_max_7cf53, EJ9_max_7cf53 g _ n⟩, (fun _ h => absurd h List.not_mem_nil)⟩) [4] 20 _ _ _ _ _ _ ?_
    simp (maxSteps := 1000000) [↓Bool.cond_eq_ite, -Prod.forall, -Prod.exists, -Prod.mk.injEq, dvk, tX12_allEnvy, jtb, jol, dvl, dal, dst, jlk, jcmp, jbin, jfl, qX12, jc2, qlX12, jcat, jel, lv_args, Value.category, jins, jsrt, jins2, jble, jblt, jf3, List.filter_cons, List.filter_nil, Dlo, Dnr, DnL, Dfree, Droom, DuS_S, DuS_I, DuS_L, DuS_R, DuS_N, DuS_A, DuI_S, DuI_I, DuI_L, DuI_R, DuI_N, DuI_A, DuL_S, DuL_I, DuL_L, DuL_R, DuL_N, DuL_A, DuR_S, DuR_I, DuR_L, DuR_R, DuR_N, DuR_A, Dnw_S, Dnw_I, Dnw_L, Dnw_R, Dnw_N, Dnw_A, DrI_S, DrI_I, DrI_L, DrI_R, DrI_N, DrI_A, DrJ_S, DrJ_I, DrJ_L, DrJ_R, DrJ_N, DrJ_A, dm64, G_d, G_x0, dX12_envy, dJ9_max_7cf53, doII, doRII, -Int32.not_le, -Int32.not_lt, -Int64.not_le, -Int64.not_lt, i3lt, i6lt, hf, hle, hkp, hz]
    try simp (disch := omega) [-Prod.forall, -Prod.exists, -Prod.mk.injEq, -Int32.not_le, -Int32.not_lt, -Int64.not_le, -Int64.not_lt, i3lt, i6lt, hf, hle, hkp, hz]
    exact ⟨⟨by omega, by omega⟩, σ, Dsub.rfl hcl, hp _ _ ⟨by rw [hf.1.2, eN], rfl⟩⟩) (fun p hp9 ih => by
    have hlt : ¬ nI N ≤ nI p := nI_ge hp9 (by omega)
    have ep : (nI p).toNatClampNeg = p := nI_clamp (by omega)
    refine dvk_ok (nC := n + 1) DX12_allEnvy hTyA hR (VC := []) (VD := [(239, 3, 12, n + 1, 0, 0, 0, [], dX12_envy)]) (SD := [(171, 2, 0, n + 0, 0, 0, 0, [], dJ9_max_7cf53)]) (AL := []) (fun _ h => absurd h List.not_mem_nil) (List.forall_mem_cons.mpr ⟨⟨mX12_envy, 2, TX12, 25, rfl, by decide, hX12_239, WX12_envy, rfl, EX12_envy g _ n⟩, (fun _ h => absurd h List.not_mem_nil)⟩) (List.forall_mem_cons.mpr ⟨⟨mJ9_max_7cf53, by decide, Or.inl hX12_171, WJ9_max_7cf53, EJ9_max_7cf53 g _ n⟩, (fun _ h => absurd h List.not_mem_nil)⟩) [14] 20 _ _ _ _ _ _ ?_
    simp (maxSteps := 1000000) [↓Bool.cond_eq_ite, -Prod.forall, -Prod.exists, -Prod.mk.injEq, dvk, tX12_allEnvy, jtb, jol, dvl, dal, dst, jlk, jcmp, jbin, jfl, qX12, jc2, qlX12, jcat, jel, lv_args, Value.category, jins, jsrt, jins2, jble, jblt, jf3, List.filter_cons, List.filter_nil, Dlo, Dnr, DnL, Dfree, Droom, DuS_S, DuS_I, DuS_L, DuS_R, DuS_N, DuS_A, DuI_S, DuI_I, DuI_L, DuI_R, DuI_N, DuI_A, DuL_S, DuL_I, DuL_L, DuL_R, DuL_N, DuL_A, DuR_S, DuR_I, DuR_L, DuR_R, DuR_N, DuR_A, Dnw_S, Dnw_I, Dnw_L, Dnw_R, Dnw_N, Dnw_A, DrI_S, DrI_I, DrI_L, DrI_R, DrI_N, DrI_A, DrJ_S, DrJ_I, DrJ_L, DrJ_R, DrJ_N, DrJ_A, dm64, G_d, G_x0, dX12_envy, dJ9_max_7cf53, doII, doRII, -Int32.not_le, -Int32.not_lt, -Int64.not_le, -Int64.not_lt, i3lt, i6lt, hf, hlt, hkp, hz]
    try simp (disch := omega) [-Prod.forall, -Prod.exists, -Prod.mk.injEq, -Int32.not_le, -Int32.not_lt, -Int64.not_le, -Int64.not_lt, i3lt, i6lt, hf, hlt, hkp, hz]
    have key2 := jloop (P := fun q => DW g z mX12_allEnvy 14 [(0, .ref 1000), (1, .int (evA σ N p + sm (fun q => if evD σ p q ≤ 0 then 0 else evD σ p q) q)), (2, .int (nI p)), (3, .int (nI q))] [] σ 0 0) (N := N) (by
      have hle : nI N ≤ nI N := nI_le (Nat.le_refl _) (by omega)
      have e1 : evA σ N (p + 1) = evA σ N p + sm (fun q => if evD σ p q ≤ 0 then 0 else evD σ p q) N := rfl
      rw [e1, ← nI_1] at ih
      refine dvk_ok (nC := n + 1) DX12_allEnvy hTyA hR (VC := []) (VD := [(239, 3, 12, n + 1, 0, 0, 0, [], dX12_envy)]) (SD := [(171, 2, 0, n + 0, 0, 0, 0, [], dJ9_max_7cf53)]) (AL := []) (fun _ h => absurd h List.not_mem_nil) (List.forall_mem_cons.mpr ⟨⟨mX12_envy, 2, TX12, 25, rfl, by decide, hX12_239, WX12_envy, rfl, EX12_envy g _ n⟩, (fun _ h => absurd h List.not_mem_nil)⟩) (List.forall_mem_cons.mpr ⟨⟨mJ9_max_7cf53, by decide, Or.inl hX12_171, WJ9_max_7cf53, EJ9_max_7cf53 g _ n⟩, (fun _ h => absurd h List.not_mem_nil)⟩) [4] 20 _ _ _ _ _ _ ?_
      simp (maxSteps := 1000000) [↓Bool.cond_eq_ite, -Prod.forall, -Prod.exists, -Prod.mk.injEq, dvk, tX12_allEnvy, jtb, jol, dvl, dal, dst, jlk, jcmp, jbin, jfl, qX12, jc2, qlX12, jcat, jel, lv_args, Value.category, jins, jsrt, jins2, jble, jblt, jf3, List.filter_cons, List.filter_nil, Dlo, Dnr, DnL, Dfree, Droom, DuS_S, DuS_I, DuS_L, DuS_R, DuS_N, DuS_A, DuI_S, DuI_I, DuI_L, DuI_R, DuI_N, DuI_A, DuL_S, DuL_I, DuL_L, DuL_R, DuL_N, DuL_A, DuR_S, DuR_I, DuR_L, DuR_R, DuR_N, DuR_A, Dnw_S, Dnw_I, Dnw_L, Dnw_R, Dnw_N, Dnw_A, DrI_S, DrI_I, DrI_L, DrI_R, DrI_N, DrI_A, DrJ_S, DrJ_I, DrJ_L, DrJ_R, DrJ_N, DrJ_A, dm64, G_d, G_x0, dX12_envy, dJ9_max_7cf53, doII, doRII, -Int32.not_le, -Int32.not_lt, -Int64.not_le, -Int64.not_lt, i3lt, i6lt, hf, hle, hkp, hz]
      try simp (disch := omega) [-Prod.forall, -Prod.exists, -Prod.mk.injEq, -Int32.not_le, -Int32.not_lt, -Int64.not_le, -Int64.not_lt, i3lt, i6lt, hf, hle, hkp, hz]
      exact DW.mono ih (by simp)) (fun q hq9 ih2 => by
      have hlt2 : ¬ nI N ≤ nI q := nI_ge hq9 (by omega)
      have eq : (nI q).toNatClampNeg = q := nI_clamp (by omega)
      have hpre : prEnv σ (nI p) (nI q) := ⟨N, M, p, q, hk, hH, rfl, rfl, hp9, hq9⟩
      have e1 : sm (fun q => if evD σ p q ≤ 0 then 0 else evD σ p q) (q + 1) = sm (fun q => if evD σ p q ≤ 0 then 0 else evD σ p q) q + (if evD σ p q ≤ 0 then 0 else evD σ p q) := rfl
      rw [e1, ← Int32.add_assoc, ← nI_1] at ih2
      refine dvk_ok (nC := n + 1) DX12_allEnvy hTyA hR (VC := []) (VD := [(239, 3, 12, n + 1, 0, 0, 0, [], dX12_envy)]) (SD := [(171, 2, 0, n + 0, 0, 0, 0, [], dJ9_max_7cf53)]) (AL := []) (fun _ h => absurd h List.not_mem_nil) (List.forall_mem_cons.mpr ⟨⟨mX12_envy, 2, TX12, 25, rfl, by decide, hX12_239, WX12_envy, rfl, EX12_envy g _ n⟩, (fun _ h => absurd h List.not_mem_nil)⟩) (List.forall_mem_cons.mpr ⟨⟨mJ9_max_7cf53, by decide, Or.inl hX12_171, WJ9_max_7cf53, EJ9_max_7cf53 g _ n⟩, (fun _ h => absurd h List.not_mem_nil)⟩) [14] 40 _ _ _ _ _ _ ?_
      simp (maxSteps := 1000000) [↓Bool.cond_eq_ite, -Prod.forall, -Prod.exists, -Prod.mk.injEq, dvk, tX12_allEnvy, jtb, jol, dvl, dal, dst, jlk, jcmp, jbin, jfl, qX12, jc2, qlX12, jcat, jel, lv_args, Value.category, jins, jsrt, jins2, jble, jblt, jf3, List.filter_cons, List.filter_nil, Dlo, Dnr, DnL, Dfree, Droom, DuS_S, DuS_I, DuS_L, DuS_R, DuS_N, DuS_A, DuI_S, DuI_I, DuI_L, DuI_R, DuI_N, DuI_A, DuL_S, DuL_I, DuL_L, DuL_R, DuL_N, DuL_A, DuR_S, DuR_I, DuR_L, DuR_R, DuR_N, DuR_A, Dnw_S, Dnw_I, Dnw_L, Dnw_R, Dnw_N, Dnw_A, DrI_S, DrI_I, DrI_L, DrI_R, DrI_N, DrI_A, DrJ_S, DrJ_I, DrJ_L, DrJ_R, DrJ_N, DrJ_A, dm64, G_d, G_x0, dX12_envy, dJ9_max_7cf53, doII, doRII, -Int32.not_le, -Int32.not_lt, -Int64.not_le, -Int64.not_lt, i3lt, i6lt, hf, hlt2, hkp, hz, hpre, ep, eq]
      try simp (disch := omega) [-Prod.forall, -Prod.exists, -Prod.mk.injEq, -Int32.not_le, -Int32.not_lt, -Int64.not_le, -Int64.not_lt, i3lt, i6lt, hf, hlt2, hkp, hz, hpre, ep, eq]
      exact ih2)
    rw [nI_0] at key2
    have e0 : evA σ N p + sm (fun q => if evD σ p q ≤ 0 then 0 else evD σ p q) 0 = evA σ N p := Int32.add_zero _
    rw [e0] at key2
    exact key2)
  rw [nI_0] at key
  exact key
/-- who lives, as a row of booleans -/
def lvI (σ : dM) (p : Nat) : Int32 := if lv σ p = true then 1 else 0
def livS (σ : dM) (N : Nat) : dM := DrI (Dnw σ 1210 N) 1210 (fillI (lvI σ) N)
def dX12_livers : dO := doR fun a σ => (a = 1000 ∧ prD σ ∧ DA σ 1210 = false, fun v τ => v = some (.ref 1210) ∧ τ = livS σ (DI σ 1000 2).toNatClampNeg)
set_option maxRecDepth 100000 in
set_option maxHeartbeats 4000000 in
theorem EX12_livers (g : jG) (h0 n : Nat) : dOk g h0 (n + 0) 1 5 [1210] mX12_livers dX12_livers := by
  refine doR_ok ?_
  rintro _ σ ⟨rfl, ⟨N, M, hk⟩, hA⟩
  have hN := hk.1.1.2
  have hf := dk_f hk
  have eN : (nI N).toNatClampNeg = N := nI_clamp (by omega)
  have hn0 : ¬ nI N < 0 := nI_pos (by omega)
  have hN5 : N ≤ 5 := hN
  refine dCon.go (by decide +kernel) (by simp [lg_sl, Value.category]) (fun z hkp hcl hz post hp hR => ?_)
  simp only [DkF] at hkp
  refine dvk_ok (nC := n + 0) DX12_livers hTyA hR (VC := []) (VD := []) (SD := []) (AL := [(4, 1210, 5)]) (fun _ h => absurd h List.not_mem_nil) (fun _ h => absurd h List.not_mem_nil) (fun _ h => absurd h List.not_mem_nil) [9] 20 _ _ _ _ _ _ ?_
  simp (maxSteps := 1000000) [↓Bool.cond_eq_ite, -Prod.forall, -Prod.exists, -Prod.mk.injEq, dvk, tX12_livers, jtb, jol, dvl, dal, dst, jlk, jcmp, jbin, jfl, qX12, jc2, qlX12, jcat, jel, lv_args, Value.category, jins, jsrt, jins2, jble, jblt, jf3, List.filter_cons, List.filter_nil, Dlo, Dnr, DnL, Dfree, Droom, DuS_S, DuS_I, DuS_L, DuS_R, DuS_N, DuS_A, DuI_S, DuI_I, DuI_L, DuI_R, DuI_N, DuI_A, DuL_S, DuL_I, DuL_L, DuL_R, DuL_N, DuL_A, DuR_S, DuR_I, DuR_L, DuR_R, DuR_N, DuR_A, Dnw_S, Dnw_I, Dnw_L, Dnw_R, Dnw_N, Dnw_A, DrI_S, DrI_I, DrI_L, DrI_R, DrI_N, DrI_A, DrJ_S, DrJ_I, DrJ_L, DrJ_R, DrJ_N, DrJ_A, dm64, G_d, G_x0, -Int32.not_le, -Int32.not_lt, -Int64.not_le, -Int64.not_lt, i3lt, i6lt, hf, hA, eN, hn0, hN5, hkp, hz]
  try simp (disch := omega) [-Prod.forall, -Prod.exists, -Prod.mk.injEq, -Int32.not_le, -Int32.not_lt, -Int64.not_le, -Int64.not_lt, i3lt, i6lt, hf, hA, eN, hn0, hN5, hkp, hz]
  have key := jloop (P := fun k => DW g z mX12_livers 9 [(0, .ref 1000), (1, .ref 1210), (2, .int (nI k))] [] (DrI (Dnw σ 1210 N) 1210 (fillI (lvI σ) k)) 1 5) (N := N) (by
    have hle : nI N ≤ nI N := nI_le (Nat.le_refl _) (by omega)
    refine DW.cl (fun hcl2 => ?_)
    refine dvk_ok (nC := n + 0) DX12_livers hTyA hR (VC := []) (VD := []) (SD := []) (AL := []) (fun _ h => absurd h List.not_mem_nil) (fun _ h => absurd h List.not_mem_nil) (fun _ h => absurd h List.not_mem_nil) [9] 20 _ _ _ _ _ _ ?_
    simp (maxSteps := 1000000) [↓Bool.cond_eq_ite, -Prod.forall, -Prod.exists, -Prod.mk.injEq, dvk, tX12_livers, jtb, jol, dvl, dal, dst, jlk, jcmp, jbin, jfl, qX12, jc2, qlX12, jcat, jel, lv_args, Value.category, jins, jsrt, jins2, jble, jblt, jf3, List.filter_cons, List.filter_nil, Dlo, Dnr, DnL, Dfree, Droom, DuS_S, DuS_I, DuS_L, DuS_R, DuS_N, DuS_A, DuI_S, DuI_I, DuI_L, DuI_R, DuI_N, DuI_A, DuL_S, DuL_I, DuL_L, DuL_R, DuL_N, DuL_A, DuR_S, DuR_I, DuR_L, DuR_R, DuR_N, DuR_A, Dnw_S, Dnw_I, Dnw_L, Dnw_R, Dnw_N, Dnw_A, DrI_S, DrI_I, DrI_L, DrI_R, DrI_N, DrI_A, DrJ_S, DrJ_I, DrJ_L, DrJ_R, DrJ_N, DrJ_A, dm64, G_d, G_x0, -Int32.not_le, -Int32.not_lt, -Int64.not_le, -Int64.not_lt, i3lt, i6lt, hf, hle, hkp, hz]
    try simp (disch := omega) [-Prod.forall, -Prod.exists, -Prod.mk.injEq, -Int32.not_le, -Int32.not_lt, -Int64.not_le, -Int64.not_lt, i3lt, i6lt, hf, hle, hkp, hz]
    exact ⟨⟨by omega, by omega⟩, _, Dsub.rfl hcl2, hp _ _ ⟨rfl, by rw [hf.1.2, eN]; rfl⟩⟩) (fun k hk9 ih => by
    have hlt : ¬ nI N ≤ nI k := nI_ge hk9 (by omega)
    have hj : jin (nI k) N := jinN hk9 (by omega)
    have ek : (nI k).toNatClampNeg = k := nI_clamp (by omega)
    have nb1 : vp_nar .boolean 1 = 1 := rfl
    have nb0 : vp_nar .boolean 0 = 0 := rfl
    by_cases c : DI σ 1100 k = 1
    · rw [← fillI_s (x := 1) (by unfold lvI lv; rw [if_pos (decide_eq_true c)]), ← nI_1] at ih
      refine dvk_ok (nC := n + 0) DX12_livers hTyA hR (VC := []) (VD := []) (SD := []) (AL := []) (fun _ h => absurd h List.not_mem_nil) (fun _ h => absurd h List.not_mem_nil) (fun _ h => absurd h List.not_mem_nil) [9] 40 _ _ _ _ _ _ ?_
      simp (maxSteps := 1000000) [↓Bool.cond_eq_ite, -Prod.forall, -Prod.exists, -Prod.mk.injEq, dvk, tX12_livers, jtb, jol, dvl, dal, dst, jlk, jcmp, jbin, jfl, qX12, jc2, qlX12, jcat, jel, lv_args, Value.category, jins, jsrt, jins2, jble, jblt, jf3, List.filter_cons, List.filter_nil, Dlo, Dnr, DnL, Dfree, Droom, DuS_S, DuS_I, DuS_L, DuS_R, DuS_N, DuS_A, DuI_S, DuI_I, DuI_L, DuI_R, DuI_N, DuI_A, DuL_S, DuL_I, DuL_L, DuL_R, DuL_N, DuL_A, DuR_S, DuR_I, DuR_L, DuR_R, DuR_N, DuR_A, Dnw_S, Dnw_I, Dnw_L, Dnw_R, Dnw_N, Dnw_A, DrI_S, DrI_I, DrI_L, DrI_R, DrI_N, DrI_A, DrJ_S, DrJ_I, DrJ_L, DrJ_R, DrJ_N, DrJ_A, dm64, G_d, G_x0, -Int32.not_le, -Int32.not_lt, -Int64.not_le, -Int64.not_lt, i3lt, i6lt, hf, hlt, hj, ek, c, hkp, hz, nb1]
      try simp (disch := omega) [-Prod.forall, -Prod.exists, -Prod.mk.injEq, -Int32.not_le, -Int32.not_lt, -Int64.not_le, -Int64.not_lt, i3lt, i6lt, hf, hlt, hj, ek, c, hkp, hz, nb1]
      exact ih
    · rw [← fillI_s (x := 0) (by unfold lvI lv; rw [if_neg (by simp [c])]), ← nI_1] at ih
      refine dvk_ok (nC := n + 0) DX12_livers hTyA hR (VC := []) (VD := []) (SD := []) (AL := []) (fun _ h => absurd h List.not_mem_nil) (fun _ h => absurd h List.not_mem_nil) (fun _ h => absurd h List.not_mem_nil) [9] 40 _ _ _ _ _ _ ?_
      simp (maxSteps := 1000000) [↓Bool.cond_eq_ite, -Prod.forall, -Prod.exists, -Prod.mk.injEq, dvk, tX12_livers, jtb, jol, dvl, dal, dst, jlk, jcmp, jbin, jfl, qX12, jc2, qlX12, jcat, jel, lv_args, Value.category, jins, jsrt, jins2, jble, jblt, jf3, List.filter_cons, List.filter_nil, Dlo, Dnr, DnL, Dfree, Droom, DuS_S, DuS_I, DuS_L, DuS_R, DuS_N, DuS_A, DuI_S, DuI_I, DuI_L, DuI_R, DuI_N, DuI_A, DuL_S, DuL_I, DuL_L, DuL_R, DuL_N, DuL_A, DuR_S, DuR_I, DuR_L, DuR_R, DuR_N, DuR_A, Dnw_S, Dnw_I, Dnw_L, Dnw_R, Dnw_N, Dnw_A, DrI_S, DrI_I, DrI_L, DrI_R, DrI_N, DrI_A, DrJ_S, DrJ_I, DrJ_L, DrJ_R, DrJ_N, DrJ_A, dm64, G_d, G_x0, -Int32.not_le, -Int32.not_lt, -Int64.not_le, -Int64.not_lt, i3lt, i6lt, hf, hlt, hj, ek, c, hkp, hz, nb0]
      try simp (disch := omega) [-Prod.forall, -Prod.exists, -Prod.mk.injEq, -Int32.not_le, -Int32.not_lt, -Int64.not_le, -Int64.not_lt, i3lt, i6lt, hf, hlt, hj, ek, c, hkp, hz, nb0]
      exact ih)
  rw [nI_0, ← fillI_0] at key
  exact key
