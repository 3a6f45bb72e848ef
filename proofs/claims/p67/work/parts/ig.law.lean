/-! the law's proposes, its beginning -/
set_option maxRecDepth 100000 in
set_option maxHeartbeats 4000000 in
set_option maxRecDepth 100000 in
set_option maxHeartbeats 4000000 in
theorem EPw_a {g : jG} {n : Nat} {z : dZ} {R : Option Value → dM → Nat → Nat → Prop} (hR : dRok g z mX12_proposes R) (hz : z.1.frames = n + 7 ∧ z.1.locals = 64 * (n + 7) ∧ z.1.cells = 1025 ∧ z.1.slots = 5125) {σ : dM} {N M : Nat} (hk : dk σ N M) (d8 : DA σ 1108 = false) (hkp : z.2.2.1 1108 = false)
    (ih : DW g z mX12_proposes 25 [(0, .ref 1000)] [] (DuI (DuI (DuR (DuR (Dnw σ 1108 N) 1000 20 (some 1108)) 1000 21 none) 1000 22 (-1)) 1000 23 0) 1 5) : DW g z mX12_proposes 0 [(0, .ref 1000)] [] σ 0 0 := by
  have hN := hk.1.1
  have hN5 : N ≤ 5 := hN.2
  have eN : (nI N).toNatClampNeg = N := nI_clamp (by omega)
  have hn0 : ¬ nI N < 0 := nI_pos (by omega)
  have h1 : DI σ 1000 2 = nI N := hk.2.1.2
  have h2 : DA σ 1000 = true := hk.2.2.1.1
  refine dvk_ok (nC := n + 6) DX12_proposes hTyA hR (VC := []) (VD := [(164, 1, 12, n + 0, 0, 0, 0, [], dX12_living)]) (SD := []) (AL := [(5, 1108, 5)]) (fun _ h => absurd h List.not_mem_nil) (List.forall_mem_cons.mpr ⟨⟨mX12_living, 0, TX12, 25, rfl, by decide, hX12_164, WX12_living, rfl, EX12_living g _ n⟩, (fun _ h => absurd h List.not_mem_nil)⟩) (fun _ h => absurd h List.not_mem_nil) [25] 30 _ _ _ _ _ _ ?_
  simp (maxSteps := 1000000) [↓Bool.cond_eq_ite, -Prod.forall, -Prod.exists, -Prod.mk.injEq, dvk, tX12_proposes, jtb, jol, dvl, dal, dst, jlk, jcmp, jbin, jfl, qX12, jc2, qlX12, jcat, jel, lv_args, Value.category, jins, jsrt, jins2, jble, jblt, jf3, List.filter_cons, List.filter_nil, Dlo, Dnr, DnL, Dfree, Droom, DuS_S, DuS_I, DuS_L, DuS_R, DuS_N, DuS_A, DuI_S, DuI_I, DuI_L, DuI_R, DuI_N, DuI_A, DuL_S, DuL_I, DuL_L, DuL_R, DuL_N, DuL_A, DuR_S, DuR_I, DuR_L, DuR_R, DuR_N, DuR_A, Dnw_S, Dnw_I, Dnw_L, Dnw_R, Dnw_N, Dnw_A, DrI_S, DrI_I, DrI_L, DrI_R, DrI_N, DrI_A, DrJ_S, DrJ_I, DrJ_L, DrJ_R, DrJ_N, DrJ_A, dm64, G_d, G_x0, dX12_living, doR, -Int32.not_le, -Int32.not_lt, -Int64.not_le, -Int64.not_lt, i3lt, i6lt, h1, h2, eN, hn0, hN5, d8, hkp, hz]
  try simp (disch := omega) [-Prod.forall, -Prod.exists, -Prod.mk.injEq, -Int32.not_le, -Int32.not_lt, -Int64.not_le, -Int64.not_lt, i3lt, i6lt, h1, h2, eN, hn0, hN5, d8, hkp, hz]
  exact ih
