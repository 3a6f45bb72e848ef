/-! the law's proposes, whether anybody lives there -/
set_option maxRecDepth 100000 in
set_option maxHeartbeats 4000000 in
theorem EPw_b {g : jG} {n : Nat} {z : dZ} {R : Option Value → dM → Nat → Nat → Prop} (hR : dRok g z mX12_proposes R) (hz : z.1.frames = n + 7 ∧ z.1.locals = 64 * (n + 7) ∧ z.1.cells = 1025 ∧ z.1.slots = 5125) {σ : dM} {N M : Nat} (hO : chO σ N M) (c1 : cn (lv σ) N = 0) (ih : DW g z mX12_proposes 44 [(0, .ref 1000)] [] σ 1 5) : DW g z mX12_proposes 25 [(0, .ref 1000)] [] σ 1 5 := by
  have hkZ := hO.1
  have hN5 : N ≤ 5 := hkZ.1.1.2
  have eN : (nI N).toNatClampNeg = N := nI_clamp (by omega)
  have hfZ : (DI σ 1000 2 = nI N) ∧ DA σ 1000 = true := ⟨hkZ.2.1.2, hkZ.2.2.1.1⟩
  have hpre : prD σ := ⟨N, M, hkZ⟩
  have hcn := cn_le (lv σ) N
  have hz0 : nI (cn (lv σ) N) = 0 := by rw [c1]; rfl
  have h00 : (0 : Int32) ≤ 0 := by decide
  refine dvk_ok (nC := n + 6) DX12_proposes hTyA hR (VC := []) (VD := [(164, 1, 12, n + 0, 0, 0, 0, [], dX12_living)]) (SD := []) (AL := []) (fun _ h => absurd h List.not_mem_nil) (List.forall_mem_cons.mpr ⟨⟨mX12_living, 0, TX12, 25, rfl, by decide, hX12_164, WX12_living, rfl, EX12_living g _ n⟩, (fun _ h => absurd h List.not_mem_nil)⟩) (fun _ h => absurd h List.not_mem_nil) [44] 20 _ _ _ _ _ _ ?_
  simp (maxSteps := 1000000) [↓Bool.cond_eq_ite, -Prod.forall, -Prod.exists, -Prod.mk.injEq, dvk, tX12_proposes, jtb, jol, dvl, dal, dst, jlk, jcmp, jbin, jfl, qX12, jc2, qlX12, jcat, jel, lv_args, Value.category, jins, jsrt, jins2, jble, jblt, jf3, List.filter_cons, List.filter_nil, Dlo, Dnr, DnL, Dfree, Droom, DuS_S, DuS_I, DuS_L, DuS_R, DuS_N, DuS_A, DuI_S, DuI_I, DuI_L, DuI_R, DuI_N, DuI_A, DuL_S, DuL_I, DuL_L, DuL_R, DuL_N, DuL_A, DuR_S, DuR_I, DuR_L, DuR_R, DuR_N, DuR_A, Dnw_S, Dnw_I, Dnw_L, Dnw_R, Dnw_N, Dnw_A, DrI_S, DrI_I, DrI_L, DrI_R, DrI_N, DrI_A, DrJ_S, DrJ_I, DrJ_L, DrJ_R, DrJ_N, DrJ_A, dm64, G_d, G_x0, dX12_living, doR, -Int32.not_le, -Int32.not_lt, -Int64.not_le, -Int64.not_lt, i3lt, i6lt, hfZ, hz, hpre, eN, hz0, h00]
  try simp (disch := omega) [-Prod.forall, -Prod.exists, -Prod.mk.injEq, -Int32.not_le, -Int32.not_lt, -Int64.not_le, -Int64.not_lt, i3lt, i6lt, hfZ, hz, hpre, eN, hz0, h00]
  exact ih
set_option maxRecDepth 100000 in
set_option maxHeartbeats 4000000 in
theorem EPw_c {g : jG} {n : Nat} {z : dZ} {R : Option Value → dM → Nat → Nat → Prop} (hR : dRok g z mX12_proposes R) (hz : z.1.frames = n + 7 ∧ z.1.locals = 64 * (n + 7) ∧ z.1.cells = 1025 ∧ z.1.slots = 5125) {σ : dM} {N M : Nat} (hO : chO σ N M) {K : Nat} (IH : ∀ h0, dOk g h0 (n + 6) K (5 * K) [1107, 1109] mX12_choose (dX12_choose σ N M N)) (hK : K ≤ 1024) (e0 : σ = chM σ N chS0) (hkp : z.2.2.1 1107 = false ∧ z.2.2.1 1109 = false) (c1 : ¬ cn (lv σ) N = 0) (ih : DW g z mX12_proposes 44 [(0, .ref 1000)] [] (chM σ N (chFo σ N M N 0 0 chS0)) (1 + K) (5 + 5 * K)) : DW g z mX12_proposes 25 [(0, .ref 1000)] [] σ 1 5 := by
  have hkZ := hO.1
  have hN5 : N ≤ 5 := hkZ.1.1.2
  have eN : (nI N).toNatClampNeg = N := nI_clamp (by omega)
  have hfZ : (DI σ 1000 2 = nI N) ∧ DA σ 1000 = true := ⟨hkZ.2.1.2, hkZ.2.2.1.1⟩
  have hpre : prD σ := ⟨N, M, hkZ⟩
  have hcn := cn_le (lv σ) N
  have hp1 : ¬ nI (cn (lv σ) N) ≤ 0 := fun z9 => by
    have h1 : ¬ nI (cn (lv σ) N) < 0 := nI_pos (by omega)
    have h2 : nI (cn (lv σ) N) = 0 := by grind
    exact c1 ((nI_eq (b := 0) (by omega) (by decide)).mp h2)
  have eG : chG σ = chS0 := by
    have := chG_M (s := chS0) hO
    rw [← e0] at this
    exact this
  have e4 : (σ = chM σ N chS0) = True := eq_true e0
  have hfit : 1 + K ≤ 1025 ∧ 5 + 5 * K ≤ 5125 := ⟨by omega, by omega⟩
  refine dvk_ok (nC := n + 6) DX12_proposes hTyA hR (VC := []) (VD := [(164, 1, 12, n + 0, 0, 0, 0, [], dX12_living), (160, 4, 12, n + 6, 0, K, (5*K), [1107,1109], (dX12_choose σ N M N))]) (SD := []) (AL := []) (fun _ h => absurd h List.not_mem_nil) (List.forall_mem_cons.mpr ⟨⟨mX12_living, 0, TX12, 25, rfl, by decide, hX12_164, WX12_living, rfl, EX12_living g _ n⟩, (List.forall_mem_cons.mpr ⟨⟨mX12_choose, 3, TX12, 25, rfl, by decide, hX12_160, WX12_choose, rfl, (IH _)⟩, (fun _ h => absurd h List.not_mem_nil)⟩)⟩) (fun _ h => absurd h List.not_mem_nil) [44] 40 _ _ _ _ _ _ ?_
  simp (maxSteps := 1000000) [↓Bool.cond_eq_ite, -Prod.forall, -Prod.exists, -Prod.mk.injEq, dvk, tX12_proposes, jtb, jol, dvl, dal, dst, jlk, jcmp, jbin, jfl, qX12, jc2, qlX12, jcat, jel, lv_args, Value.category, jins, jsrt, jins2, jble, jblt, jf3, List.filter_cons, List.filter_nil, Dlo, Dnr, DnL, Dfree, Droom, DuS_S, DuS_I, DuS_L, DuS_R, DuS_N, DuS_A, DuI_S, DuI_I, DuI_L, DuI_R, DuI_N, DuI_A, DuL_S, DuL_I, DuL_L, DuL_R, DuL_N, DuL_A, DuR_S, DuR_I, DuR_L, DuR_R, DuR_N, DuR_A, Dnw_S, Dnw_I, Dnw_L, Dnw_R, Dnw_N, Dnw_A, DrI_S, DrI_I, DrI_L, DrI_R, DrI_N, DrI_A, DrJ_S, DrJ_I, DrJ_L, DrJ_R, DrJ_N, DrJ_A, dm64, G_d, G_x0, dX12_living, dX12_choose, doR, doRIII, -Int32.not_le, -Int32.not_lt, -Int64.not_le, -Int64.not_lt, i3lt, i6lt, hfZ, hz, hpre, eN, hp1, hkp, hfit, eG, hO, e4]
  try simp (disch := omega) [-Prod.forall, -Prod.exists, -Prod.mk.injEq, -Int32.not_le, -Int32.not_lt, -Int64.not_le, -Int64.not_lt, i3lt, i6lt, hfZ, hz, hpre, eN, hp1, hkp, hfit, eG, hO, e4]
  exact ih
