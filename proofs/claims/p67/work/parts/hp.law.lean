/-! the law's prices, whole -/
set_option maxRecDepth 100000 in
set_option maxHeartbeats 4000000 in
theorem EPr_1 {g : jG} {n : Nat} {z : dZ} {R : Option Value → dM → Nat → Nat → Prop} (hR : dRok g z mX12_prices R) (hz : z.1.frames = n + 2 ∧ z.1.locals = 64 * (n + 2) ∧ z.1.cells = 15 ∧ z.1.slots = 75) {σ τ : dM} {N M ρ : Nat} (hk : dk σ N M) (hB : dkB σ N) (hρ : 1122 ≤ ρ ∧ ρ ≤ 1139) (C : dpC σ τ N ρ)
    (ih : DW g z mX12_prices 107 [(0, .ref 1000), (1, .ref 1120), (2, .ref 1121), (3, .ref ρ), (4, .int (sm (dpP σ N) N))] [] (DrI τ ρ (dpQ σ N 0)) 15 75) : DW g z mX12_prices 25 [(0, .ref 1000), (1, .ref 1120), (2, .ref 1121), (3, .ref ρ), (4, .int 0), (5, .int (nI 0))] [] (DrI τ ρ (fillI (dpP σ N) 0)) 15 75 := by
  have hN := hk.1.1.2
  refine jloop (P := fun p => DW g z mX12_prices 25 [(0, .ref 1000), (1, .ref 1120), (2, .ref 1121), (3, .ref ρ), (4, .int (sm (dpP σ N) p)), (5, .int (nI p))] [] (DrI τ ρ (fillI (dpP σ N) p)) 15 75) (N := N) ?_ (fun p hp9 ih1 => EPr_1s hR hz hk hB hρ C hp9 ih1)
  have hle : nI N ≤ nI N := nI_le (Nat.le_refl _) (by omega)
  rw [dpQ_0]
  have hf := dk_f (dpC_k (dpC_r C hρ.1 (dpQ σ N 0)) hρ hk)
  refine dvk_ok (nC := n + 1) DX12_prices hTyA hR (VC := []) (VD := [(164, 1, 12, n + 0, 0, 0, 0, [], dX12_living)]) (SD := []) (AL := []) (fun _ h => absurd h List.not_mem_nil) (List.forall_mem_cons.mpr ⟨⟨mX12_living, 0, TX12, 25, rfl, by decide, hX12_164, WX12_living, rfl, EX12_living g _ n⟩, (fun _ h => absurd h List.not_mem_nil)⟩) (fun _ h => absurd h List.not_mem_nil) [25, 107] 20 _ _ _ _ _ _ ?_
  simp (maxSteps := 1000000) [↓Bool.cond_eq_ite, -Prod.forall, -Prod.exists, -Prod.mk.injEq, dvk, tX12_prices, jtb, jol, dvl, dal, dst, jlk, jcmp, jbin, jfl, qX12, jc2, qlX12, jcat, jel, lv_args, Value.category, jins, jsrt, jins2, jble, jblt, jf3, List.filter_cons, List.filter_nil, Dlo, Dnr, DnL, Dfree, Droom, DuS_S, DuS_I, DuS_L, DuS_R, DuS_N, DuS_A, DuI_S, DuI_I, DuI_L, DuI_R, DuI_N, DuI_A, DuL_S, DuL_I, DuL_L, DuL_R, DuL_N, DuL_A, DuR_S, DuR_I, DuR_L, DuR_R, DuR_N, DuR_A, Dnw_S, Dnw_I, Dnw_L, Dnw_R, Dnw_N, Dnw_A, DrI_S, DrI_I, DrI_L, DrI_R, DrI_N, DrI_A, DrJ_S, DrJ_I, DrJ_L, DrJ_R, DrJ_N, DrJ_A, dm64, G_d, G_x0, dX12_living, doR, -Int32.not_le, -Int32.not_lt, -Int64.not_le, -Int64.not_lt, i3lt, i6lt, hf, hle, hz]
  try simp (disch := omega) [-Prod.forall, -Prod.exists, -Prod.mk.injEq, -Int32.not_le, -Int32.not_lt, -Int64.not_le, -Int64.not_lt, i3lt, i6lt, hf, hle, hz]
  exact DW.mono ih (by simp)
set_option maxRecDepth 100000 in
set_option maxHeartbeats 4000000 in
theorem EPr_2 {g : jG} {n : Nat} {z : dZ} {R : Option Value → dM → Nat → Nat → Prop} (hR : dRok g z mX12_prices R) (hz : z.1.frames = n + 2 ∧ z.1.locals = 64 * (n + 2) ∧ z.1.cells = 15 ∧ z.1.slots = 75) {σ τ : dM} {N M ρ : Nat} (hk : dk σ N M) (hρ : 1122 ≤ ρ ∧ ρ ≤ 1139) (C : dpC σ τ N ρ) (hn : 0 < cn (lv σ) N)
    (ih : DW g z mX12_prices 140 [(0, .ref 1000), (1, .ref 1120), (2, .ref 1121), (3, .ref ρ), (4, .int (sm (dpP σ N) N)), (5, .int (dpMore σ N)), (6, .int (nI 0))] [] (DrI τ ρ (dpQ σ N 0)) 15 75) : DW g z mX12_prices 107 [(0, .ref 1000), (1, .ref 1120), (2, .ref 1121), (3, .ref ρ), (4, .int (sm (dpP σ N) N))] [] (DrI τ ρ (dpQ σ N 0)) 15 75 := by
  have hN := hk.1.1.2
  have eN : (nI N).toNatClampNeg = N := nI_clamp (by omega)
  obtain ⟨σ4, e4⟩ : ∃ σ4, σ4 = DrI τ ρ (dpQ σ N 0) := ⟨_, rfl⟩
  have C4 : dpC σ σ4 N ρ := by rw [e4]; exact dpC_r C hρ.1 _
  have hk4 := dpC_k C4 hρ hk
  have hf := dk_f hk4
  obtain ⟨⟨a1, a2, a3, a4⟩, b1, c1⟩ := dpC_e C4 hρ.1
  have m12 := b1 12
  have m15 := b1 15
  have hpre : prD σ4 := ⟨N, M, hk4⟩
  have el : cn (lv σ4) N = cn (lv σ) N := by
    refine congrArg (fun f => cn f N) (funext fun p => ?_)
    unfold lv
    rw [c1]
  have hcl0 := cn_le (lv σ) N
  have hne : ¬ nI (cn (lv σ) N) = 0 := fun z9 => by
    have := (nI_eq (b := 0) (by omega) (by decide)).mp z9
    omega
  have n100 : ¬ (100 : Int32) = 0 := by decide
  rw [← e4] at ih ⊢
  unfold dpMore at ih
  rw [nI_0] at ih
  refine dvk_ok (nC := n + 1) DX12_prices hTyA hR (VC := []) (VD := [(164, 1, 12, n + 0, 0, 0, 0, [], dX12_living)]) (SD := []) (AL := []) (fun _ h => absurd h List.not_mem_nil) (List.forall_mem_cons.mpr ⟨⟨mX12_living, 0, TX12, 25, rfl, by decide, hX12_164, WX12_living, rfl, EX12_living g _ n⟩, (fun _ h => absurd h List.not_mem_nil)⟩) (fun _ h => absurd h List.not_mem_nil) [140] 60 _ _ _ _ _ _ ?_
  simp (maxSteps := 1000000) [↓Bool.cond_eq_ite, -Prod.forall, -Prod.exists, -Prod.mk.injEq, dvk, tX12_prices, jtb, jol, dvl, dal, dst, jlk, jcmp, jbin, jfl, qX12, jc2, qlX12, jcat, jel, lv_args, Value.category, jins, jsrt, jins2, jble, jblt, jf3, List.filter_cons, List.filter_nil, Dlo, Dnr, DnL, Dfree, Droom, DuS_S, DuS_I, DuS_L, DuS_R, DuS_N, DuS_A, DuI_S, DuI_I, DuI_L, DuI_R, DuI_N, DuI_A, DuL_S, DuL_I, DuL_L, DuL_R, DuL_N, DuL_A, DuR_S, DuR_I, DuR_L, DuR_R, DuR_N, DuR_A, Dnw_S, Dnw_I, Dnw_L, Dnw_R, Dnw_N, Dnw_A, DrI_S, DrI_I, DrI_L, DrI_R, DrI_N, DrI_A, DrJ_S, DrJ_I, DrJ_L, DrJ_R, DrJ_N, DrJ_A, dm64, G_d, G_x0, dX12_living, doR, -Int32.not_le, -Int32.not_lt, -Int64.not_le, -Int64.not_lt, i3lt, i6lt, hf, hz, m12, m15, hpre, eN, el, hne, n100]
  try simp (disch := omega) [-Prod.forall, -Prod.exists, -Prod.mk.injEq, -Int32.not_le, -Int32.not_lt, -Int64.not_le, -Int64.not_lt, i3lt, i6lt, hf, hz, m12, m15, hpre, eN, el, hne, n100]
  exact ih
set_option maxRecDepth 100000 in
set_option maxHeartbeats 4000000 in
theorem EPr_3s {g : jG} {n : Nat} {z : dZ} {R : Option Value → dM → Nat → Nat → Prop} (hR : dRok g z mX12_prices R) (hz : z.1.frames = n + 2 ∧ z.1.locals = 64 * (n + 2) ∧ z.1.cells = 15 ∧ z.1.slots = 75) {σ τ : dM} {N M ρ p : Nat} {v4 : Value} (hk : dk σ N M) (hB : dkB σ N) (hρ : 1122 ≤ ρ ∧ ρ ≤ 1139) (C : dpC σ τ N ρ) (hp : p < N)
    (ih : DW g z mX12_prices 140 [(0, .ref 1000), (3, .ref ρ), (5, .int (dpMore σ N)), (6, .int (nI (p + 1)))] [] (DrI τ ρ (dpQ σ N (p + 1))) 15 75) : DW g z mX12_prices 140 [(0, .ref 1000), (3, .ref ρ), (5, .int (dpMore σ N)), (6, .int (nI p))] [] (DrI τ ρ (dpQ σ N p)) 15 75 := by
  have hN := hk.1.1.2
  have hlt : ¬ nI N ≤ nI p := nI_ge hp (by omega)
  have hj : jin (nI p) N := jinN hp (by omega)
  have ep : (nI p).toNatClampNeg = p := nI_clamp (by omega)
  obtain ⟨σ4, e4⟩ : ∃ σ4, σ4 = DrI τ ρ (dpQ σ N p) := ⟨_, rfl⟩
  have C4 : dpC σ σ4 N ρ := by rw [e4]; exact dpC_r C hρ.1 _
  have hf := dk_f (dpC_k C4 hρ hk)
  obtain ⟨⟨a1, a2, a3, a4⟩, b1, c1⟩ := dpC_e C4 hρ.1
  obtain ⟨-, h2, h3, h4, -, -⟩ := C4
  have hB' : DR σ4 1000 21 = some 1107 ∧ DA σ4 1107 = true ∧ DN σ4 1107 = N := by
    rw [a2, a3, a4]; exact hB
  have r1 : ¬ 1000 = ρ := by omega
  have vp : DI σ4 ρ p = dpQ σ N p p := by rw [e4, DrI_I, if_pos rfl]
  by_cases k1 : DI σ 1107 p < 0
  · rw [← dpQ_n k1, ← e4, ← nI_1] at ih
    rw [← e4]
    refine dvk_ok (nC := n + 1) DX12_prices hTyA hR (VC := []) (VD := [(164, 1, 12, n + 0, 0, 0, 0, [], dX12_living)]) (SD := []) (AL := []) (fun _ h => absurd h List.not_mem_nil) (List.forall_mem_cons.mpr ⟨⟨mX12_living, 0, TX12, 25, rfl, by decide, hX12_164, WX12_living, rfl, EX12_living g _ n⟩, (fun _ h => absurd h List.not_mem_nil)⟩) (fun _ h => absurd h List.not_mem_nil) [140] 60 _ _ _ _ _ _ ?_
    simp (maxSteps := 1000000) [↓Bool.cond_eq_ite, -Prod.forall, -Prod.exists, -Prod.mk.injEq, dvk, tX12_prices, jtb, jol, dvl, dal, dst, jlk, jcmp, jbin, jfl, qX12, jc2, qlX12, jcat, jel, lv_args, Value.category, jins, jsrt, jins2, jble, jblt, jf3, List.filter_cons, List.filter_nil, Dlo, Dnr, DnL, Dfree, Droom, DuS_S, DuS_I, DuS_L, DuS_R, DuS_N, DuS_A, DuI_S, DuI_I, DuI_L, DuI_R, DuI_N, DuI_A, DuL_S, DuL_I, DuL_L, DuL_R, DuL_N, DuL_A, DuR_S, DuR_I, DuR_L, DuR_R, DuR_N, DuR_A, Dnw_S, Dnw_I, Dnw_L, Dnw_R, Dnw_N, Dnw_A, DrI_S, DrI_I, DrI_L, DrI_R, DrI_N, DrI_A, DrJ_S, DrJ_I, DrJ_L, DrJ_R, DrJ_N, DrJ_A, dm64, G_d, G_x0, dX12_living, doR, -Int32.not_le, -Int32.not_lt, -Int64.not_le, -Int64.not_lt, i3lt, i6lt, hf, hlt, hz, hj, ep, a1, hB', h4, k1, r1]
    try simp (disch := omega) [-Prod.forall, -Prod.exists, -Prod.mk.injEq, -Int32.not_le, -Int32.not_lt, -Int64.not_le, -Int64.not_lt, i3lt, i6lt, hf, hlt, hz, hj, ep, a1, hB', h4, k1, r1]
    exact ih
  · rw [← dpQ_s hp k1 rfl, ← e4, ← nI_1] at ih
    rw [← e4]
    refine dvk_ok (nC := n + 1) DX12_prices hTyA hR (VC := []) (VD := [(164, 1, 12, n + 0, 0, 0, 0, [], dX12_living)]) (SD := []) (AL := []) (fun _ h => absurd h List.not_mem_nil) (List.forall_mem_cons.mpr ⟨⟨mX12_living, 0, TX12, 25, rfl, by decide, hX12_164, WX12_living, rfl, EX12_living g _ n⟩, (fun _ h => absurd h List.not_mem_nil)⟩) (fun _ h => absurd h List.not_mem_nil) [140] 60 _ _ _ _ _ _ ?_
    simp (maxSteps := 1000000) [↓Bool.cond_eq_ite, -Prod.forall, -Prod.exists, -Prod.mk.injEq, dvk, tX12_prices, jtb, jol, dvl, dal, dst, jlk, jcmp, jbin, jfl, qX12, jc2, qlX12, jcat, jel, lv_args, Value.category, jins, jsrt, jins2, jble, jblt, jf3, List.filter_cons, List.filter_nil, Dlo, Dnr, DnL, Dfree, Droom, DuS_S, DuS_I, DuS_L, DuS_R, DuS_N, DuS_A, DuI_S, DuI_I, DuI_L, DuI_R, DuI_N, DuI_A, DuL_S, DuL_I, DuL_L, DuL_R, DuL_N, DuL_A, DuR_S, DuR_I, DuR_L, DuR_R, DuR_N, DuR_A, Dnw_S, Dnw_I, Dnw_L, Dnw_R, Dnw_N, Dnw_A, DrI_S, DrI_I, DrI_L, DrI_R, DrI_N, DrI_A, DrJ_S, DrJ_I, DrJ_L, DrJ_R, DrJ_N, DrJ_A, dm64, G_d, G_x0, dX12_living, doR, -Int32.not_le, -Int32.not_lt, -Int64.not_le, -Int64.not_lt, i3lt, i6lt, hf, hlt, hz, hj, ep, a1, hB', h4, k1, r1, vp]
    try simp (disch := omega) [-Prod.forall, -Prod.exists, -Prod.mk.injEq, -Int32.not_le, -Int32.not_lt, -Int64.not_le, -Int64.not_lt, i3lt, i6lt, hf, hlt, hz, hj, ep, a1, hB', h4, k1, r1, vp]
    exact ih
