/-! the law's proposes, whole -/
def chS0 : chT := (-1, 0, none, fun _ => 0)
def chN (σ : dM) (N M : Nat) : chT := if cn (lv σ) N = 0 then chS0 else chFo (chZ σ N) N M N 0 0 chS0
def dpZ (σ : dM) : Prop := ∃ N M, dk σ N M ∧ chQ σ ∧ DA σ 1108 = false ∧ DA σ 1109 = false
def dX12_proposes : dO := doR fun a σ => (a = 1000 ∧ dpZ σ, fun v τ => v = some (.int (if (chN σ (DI σ 1000 2).toNatClampNeg (DI σ 1000 1).toNatClampNeg).2.2.1 = none then 0 else 1)) ∧ τ = chM (chZ σ (DI σ 1000 2).toNatClampNeg) (DI σ 1000 2).toNatClampNeg (chN σ (DI σ 1000 2).toNatClampNeg (DI σ 1000 1).toNatClampNeg))
set_option maxRecDepth 100000 in
set_option maxHeartbeats 4000000 in
theorem EPw_e {g : jG} {n : Nat} {z : dZ} {post : Option Value → dM → Prop} (hR : dRok g z mX12_proposes (dRp 1025 5125 post)) (hz : z.1.frames = n + 7 ∧ z.1.locals = 64 * (n + 7) ∧ z.1.cells = 1025 ∧ z.1.slots = 5125) {σ : dM} {N M c0 s0 : Nat} (s : chT) (h : chO σ N M) (hc : c0 ≤ 1025 ∧ s0 ≤ 5125) (hp : post (some (.int (if s.2.2.1 = none then 0 else 1))) (chM σ N s)) : DW g z mX12_proposes 44 [(0, .ref 1000)] [] (chM σ N s) c0 s0 := by
  obtain ⟨S, C, b, c⟩ := s
  have hf := dk_f (chM_k (s := (S, C, b, c)) h)
  have hcl := chM_cl (s := (S, C, b, c)) h
  cases b with
  | none =>
    have w1 := chM_n (S := S) (C := C) (c := c) h
    have hp' : post (some (.int 0)) (chM σ N (S, C, none, c)) := hp
    obtain ⟨σ2, e2⟩ : ∃ σ2, σ2 = chM σ N (S, C, none, c) := ⟨_, rfl⟩
    rw [← e2] at hf hcl w1 hp' ⊢
    refine dvk_ok (nC := n + 6) DX12_proposes hTyA hR (VC := []) (VD := [(164, 1, 12, n + 0, 0, 0, 0, [], dX12_living)]) (SD := []) (AL := []) (fun _ h => absurd h List.not_mem_nil) (List.forall_mem_cons.mpr ⟨⟨mX12_living, 0, TX12, 25, rfl, by decide, hX12_164, WX12_living, rfl, EX12_living g _ n⟩, (fun _ h => absurd h List.not_mem_nil)⟩) (fun _ h => absurd h List.not_mem_nil) [] 10 _ _ _ _ _ _ ?_
    simp (maxSteps := 1000000) [↓Bool.cond_eq_ite, -Prod.forall, -Prod.exists, -Prod.mk.injEq, dvk, tX12_proposes, jtb, jol, dvl, dal, dst, jlk, jcmp, jbin, jfl, qX12, jc2, qlX12, jcat, jel, lv_args, Value.category, jins, jsrt, jins2, jble, jblt, jf3, List.filter_cons, List.filter_nil, Dlo, Dnr, DnL, Dfree, Droom, DuS_S, DuS_I, DuS_L, DuS_R, DuS_N, DuS_A, DuI_S, DuI_I, DuI_L, DuI_R, DuI_N, DuI_A, DuL_S, DuL_I, DuL_L, DuL_R, DuL_N, DuL_A, DuR_S, DuR_I, DuR_L, DuR_R, DuR_N, DuR_A, Dnw_S, Dnw_I, Dnw_L, Dnw_R, Dnw_N, Dnw_A, DrI_S, DrI_I, DrI_L, DrI_R, DrI_N, DrI_A, DrJ_S, DrJ_I, DrJ_L, DrJ_R, DrJ_N, DrJ_A, dm64, G_d, G_x0, dX12_living, doR, -Int32.not_le, -Int32.not_lt, -Int64.not_le, -Int64.not_lt, i3lt, i6lt, hf, hz, w1]
    try simp (disch := omega) [-Prod.forall, -Prod.exists, -Prod.mk.injEq, -Int32.not_le, -Int32.not_lt, -Int64.not_le, -Int64.not_lt, i3lt, i6lt, hf, hz, w1]
    exact ⟨hc, σ2, Dsub.rfl hcl, hp'⟩
  | some f =>
    obtain ⟨w1, w2, -⟩ := chM_s (σ := σ) (N := N) (S := S) (C := C) (c := c) (f := f)
    have hp' : post (some (.int 1)) (chM σ N (S, C, some f, c)) := hp
    obtain ⟨σ2, e2⟩ : ∃ σ2, σ2 = chM σ N (S, C, some f, c) := ⟨_, rfl⟩
    rw [← e2] at hf hcl w1 w2 hp' ⊢
    refine dvk_ok (nC := n + 6) DX12_proposes hTyA hR (VC := []) (VD := [(164, 1, 12, n + 0, 0, 0, 0, [], dX12_living)]) (SD := []) (AL := []) (fun _ h => absurd h List.not_mem_nil) (List.forall_mem_cons.mpr ⟨⟨mX12_living, 0, TX12, 25, rfl, by decide, hX12_164, WX12_living, rfl, EX12_living g _ n⟩, (fun _ h => absurd h List.not_mem_nil)⟩) (fun _ h => absurd h List.not_mem_nil) [] 10 _ _ _ _ _ _ ?_
    simp (maxSteps := 1000000) [↓Bool.cond_eq_ite, -Prod.forall, -Prod.exists, -Prod.mk.injEq, dvk, tX12_proposes, jtb, jol, dvl, dal, dst, jlk, jcmp, jbin, jfl, qX12, jc2, qlX12, jcat, jel, lv_args, Value.category, jins, jsrt, jins2, jble, jblt, jf3, List.filter_cons, List.filter_nil, Dlo, Dnr, DnL, Dfree, Droom, DuS_S, DuS_I, DuS_L, DuS_R, DuS_N, DuS_A, DuI_S, DuI_I, DuI_L, DuI_R, DuI_N, DuI_A, DuL_S, DuL_I, DuL_L, DuL_R, DuL_N, DuL_A, DuR_S, DuR_I, DuR_L, DuR_R, DuR_N, DuR_A, Dnw_S, Dnw_I, Dnw_L, Dnw_R, Dnw_N, Dnw_A, DrI_S, DrI_I, DrI_L, DrI_R, DrI_N, DrI_A, DrJ_S, DrJ_I, DrJ_L, DrJ_R, DrJ_N, DrJ_A, dm64, G_d, G_x0, dX12_living, doR, -Int32.not_le, -Int32.not_lt, -Int64.not_le, -Int64.not_lt, i3lt, i6lt, hf, hz, w1, w2]
    try simp (disch := omega) [-Prod.forall, -Prod.exists, -Prod.mk.injEq, -Int32.not_le, -Int32.not_lt, -Int64.not_le, -Int64.not_lt, i3lt, i6lt, hf, hz, w1, w2]
    exact ⟨hc, σ2, Dsub.rfl hcl, hp'⟩
