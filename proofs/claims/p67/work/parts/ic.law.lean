/-! the law's choose, one person who doesn't live there; all people -/
set_option maxRecDepth 100000 in
set_option maxHeartbeats 4000000 in
theorem ECh_wB {g : jG} {n K : Nat} {z : dZ} {R : Option Value → dM → Nat → Nat → Prop} (hE : dEs g) {σ : dM} {N M P : Nat} (IH : ∀ h0, dOk g h0 n K (5 * K) [1107, 1109] mX12_choose (dX12_choose σ N M P)) (hR : dRok g z mX12_choose R) (hz : z.1.frames = n + 1 ∧ z.1.locals = 64 * (n + 1) ∧ z.1.cells = 4 * K ∧ z.1.slots = 20 * K) (h : chO σ N M) (hP : P < N) (hkp : z.2.2.1 1107 = false ∧ z.2.2.1 1109 = false) {t its : Int32} {s : chT} (c1 : ¬ DI σ 1100 P = 1)
    (ih : DW g z mX12_choose 103 [(0, .ref 1000)] [] (chM σ N (chFo σ N M P t its (chU P (-1) s))) (0 + K) (0 + 5 * K)) : DW g z mX12_choose 0 [(0, .ref 1000), (1, .int (nI P)), (2, .int t), (3, .int its)] [] (chM σ N s) 0 0 := by
  have hN5 : N ≤ 5 := h.1.1.1.2
  have hx1 : ¬ nI P < 0 := nI_pos (by omega)
  have hjP : jin (nI P) N := jinN hP (by omega)
  have eP : (nI P).toNatClampNeg = P := nI_clamp (by omega)
  have hPN : P ≤ N := by omega
  have hfit : 0 + K ≤ 4 * K ∧ 0 + 5 * K ≤ 20 * K ∧ K ≤ 4 * K ∧ 5 * K ≤ 20 * K := ⟨by omega, by omega, by omega, by omega⟩
  obtain ⟨σ2, e2⟩ : ∃ σ2, σ2 = chM σ N s := ⟨_, rfl⟩
  obtain ⟨σ3, e3⟩ : ∃ σ3, σ3 = chM σ N (chU P (-1) s) := ⟨_, rfl⟩
  have hf := dk_f (show dk σ2 N M by rw [e2]; exact chM_k h)
  have hC : dkC σ2 N := by rw [e2]; exact chM_C h
  unfold dkC at hC
  have m3 : ¬ DI σ3 1100 P = 1 := by rw [e3, chM_I (by decide) (by decide) (by omega)]; exact c1
  have hf3 := dk_f (show dk σ3 N M by rw [e3]; exact chM_k h)
  have eU : DuI σ2 1106 P (-1) = σ3 := by rw [e2, e3]; exact chM_U
  have eG : chG σ3 = chU P (-1) s := by rw [e3]; exact chG_M h
  have e4 : (σ3 = chM σ N (chU P (-1) s)) = True := eq_true e3
  rw [← e2]
  refine dvk_ok (nC := n + 0) DX12_choose hTyA hR (VC := []) (VD := [(148, 1, 12, n + 0, 0, 0, 0, [], dX12_isLower), (160, 4, 12, n, 0, K, (5*K), [1107,1109], (dX12_choose σ N M P))]) (SD := []) (AL := []) (fun _ h => absurd h List.not_mem_nil) (List.forall_mem_cons.mpr ⟨⟨mX12_isLower, 0, TX12, 25, rfl, by decide, hX12_148, WX12_isLower, rfl, EX12_isLower g _ n⟩, (List.forall_mem_cons.mpr ⟨⟨mX12_choose, 3, TX12, 25, rfl, by decide, hX12_160, WX12_choose, rfl, (IH _)⟩, (fun _ h => absurd h List.not_mem_nil)⟩)⟩) (fun _ h => absurd h List.not_mem_nil) [103] 60 _ _ _ _ _ _ ?_
  simp (maxSteps := 1000000) [↓Bool.cond_eq_ite, -Prod.forall, -Prod.exists, -Prod.mk.injEq, dvk, tX12_choose, jtb, jol, dvl, dal, dst, jlk, jcmp, jbin, jfl, qX12, jc2, qlX12, jcat, jel, lv_args, Value.category, jins, jsrt, jins2, jble, jblt, jf3, List.filter_cons, List.filter_nil, Dlo, Dnr, DnL, Dfree, Droom, DuS_S, DuS_I, DuS_L, DuS_R, DuS_N, DuS_A, DuI_S, DuI_I, DuI_L, DuI_R, DuI_N, DuI_A, DuL_S, DuL_I, DuL_L, DuL_R, DuL_N, DuL_A, DuR_S, DuR_I, DuR_L, DuR_R, DuR_N, DuR_A, Dnw_S, Dnw_I, Dnw_L, Dnw_R, Dnw_N, Dnw_A, DrI_S, DrI_I, DrI_L, DrI_R, DrI_N, DrI_A, DrJ_S, DrJ_I, DrJ_L, DrJ_R, DrJ_N, DrJ_A, dm64, G_d, G_x0, dX12_isLower, dX12_choose, doR, doRIII, -Int32.not_le, -Int32.not_lt, -Int64.not_le, -Int64.not_lt, i3lt, i6lt, hx1, hf, hC, hjP, eP, eU, eG, e4, hf3, m3, hz, hkp, hfit, h, hPN]
  try simp (disch := omega) [-Prod.forall, -Prod.exists, -Prod.mk.injEq, -Int32.not_le, -Int32.not_lt, -Int64.not_le, -Int64.not_lt, i3lt, i6lt, hx1, hf, hC, hjP, eP, eU, eG, e4, hf3, m3, hz, hkp, hfit, h, hPN]
  rw [Nat.zero_add, Nat.zero_add] at ih
  exact DW.mono ih (by simp)
set_option maxRecDepth 100000 in
set_option maxHeartbeats 4000000 in
theorem ECh_sB {g : jG} {h0 n K : Nat} (hE : dEs g) {σ : dM} {N M P : Nat} (IH : ∀ h0, dOk g h0 n K (5 * K) [1107, 1109] mX12_choose (dX12_choose σ N M P)) {t its : Int32} {τ : dM} (h : chO σ N M) (hP : P < N) (hτ : τ = chM σ N (chG τ)) (c1 : ¬ DI σ 1100 P = 1) : dCon g h0 (n + 1) (4 * K) (20 * K) [1107, 1109] mX12_choose [.ref 1000, .int (nI P), .int t, .int its] τ (fun v ε => v = none ∧ ε = chM σ N (chFo σ N M (P + 1) t its (chG τ))) := by
  obtain ⟨s, es⟩ : ∃ s, s = chG τ := ⟨_, rfl⟩
  rw [← es] at hτ ⊢
  refine dCon.go (by decide +kernel) (by simp [lg_sl, Value.category]) (fun z hkp hcl hz post hp hR => ?_)
  simp only [DkF] at hkp
  have hz2 : z.1.frames = n + 1 ∧ z.1.locals = 64 * (n + 1) ∧ z.1.cells = 4 * K ∧ z.1.slots = 20 * K := hz
  show DW g z mX12_choose 0 [(0, .ref 1000), (1, .int (nI P)), (2, .int t), (3, .int its)] [] τ 0 0
  rw [hτ]
  have hfin := hp none _ ⟨rfl, rfl⟩
  rw [chFo_s, if_neg c1] at hfin
  refine ECh_wB hE IH hR hz2 h hP ⟨hkp.1, hkp.2.1⟩ c1 ?_
  refine dvk_ok (nC := n + 0) DX12_choose hTyA hR (VC := []) (VD := [(148, 1, 12, n + 0, 0, 0, 0, [], dX12_isLower)]) (SD := []) (AL := []) (fun _ h => absurd h List.not_mem_nil) (List.forall_mem_cons.mpr ⟨⟨mX12_isLower, 0, TX12, 25, rfl, by decide, hX12_148, WX12_isLower, rfl, EX12_isLower g _ n⟩, (fun _ h => absurd h List.not_mem_nil)⟩) (fun _ h => absurd h List.not_mem_nil) [] 5 _ _ _ _ _ _ ?_
  simp (maxSteps := 1000000) [↓Bool.cond_eq_ite, -Prod.forall, -Prod.exists, -Prod.mk.injEq, dvk, tX12_choose, jtb, jol, dvl, dal, dst, jlk, jcmp, jbin, jfl, qX12, jc2, qlX12, jcat, jel, lv_args, Value.category, jins, jsrt, jins2, jble, jblt, jf3, List.filter_cons, List.filter_nil, Dlo, Dnr, DnL, Dfree, Droom, DuS_S, DuS_I, DuS_L, DuS_R, DuS_N, DuS_A, DuI_S, DuI_I, DuI_L, DuI_R, DuI_N, DuI_A, DuL_S, DuL_I, DuL_L, DuL_R, DuL_N, DuL_A, DuR_S, DuR_I, DuR_L, DuR_R, DuR_N, DuR_A, Dnw_S, Dnw_I, Dnw_L, Dnw_R, Dnw_N, Dnw_A, DrI_S, DrI_I, DrI_L, DrI_R, DrI_N, DrI_A, DrJ_S, DrJ_I, DrJ_L, DrJ_R, DrJ_N, DrJ_A, dm64, G_d, G_x0, dX12_isLower, doR, -Int32.not_le, -Int32.not_lt, -Int64.not_le, -Int64.not_lt, i3lt, i6lt, hz2]
  try simp (disch := omega) [-Prod.forall, -Prod.exists, -Prod.mk.injEq, -Int32.not_le, -Int32.not_lt, -Int64.not_le, -Int64.not_lt, i3lt, i6lt, hz2]
  exact ⟨⟨by omega, by omega⟩, _, Dsub.rfl (chM_cl h), hfin⟩
set_option maxRecDepth 100000 in
set_option maxHeartbeats 4000000 in
theorem ECh_s {g : jG} {h0 n K : Nat} (hE : dEs g) {σ : dM} {N M P : Nat} (IH : ∀ h0, dOk g h0 n K (5 * K) [1107, 1109] mX12_choose (dX12_choose σ N M P)) : dOk g h0 (n + 1) (4 * K) (20 * K) [1107, 1109] mX12_choose (dX12_choose σ N M (P + 1)) := by
  refine doRIII_ok ?_
  rintro _ _ t its τ ⟨rfl, rfl, h, hP, hτ⟩
  have hx : nI (P + 1) - 1 = nI P := by rw [← nI_1]; grind
  rw [hx]
  by_cases c1 : DI σ 1100 P = 1
  · exact ECh_sA hE IH h hP hτ c1
  · exact ECh_sB hE IH h hP hτ c1
set_option maxRecDepth 100000 in
set_option maxHeartbeats 4000000 in
theorem ECh_ {g : jG} (hE : dEs g) (σ : dM) (N M : Nat) : ∀ (P h0 n : Nat), dOk g h0 (n + P + 1) (4 ^ P) (5 * 4 ^ P) [1107, 1109] mX12_choose (dX12_choose σ N M P)
  | 0, h0, n => ECh_0 g h0 n hE σ N M
  | P + 1, h0, n => by
    have h := ECh_s (h0 := h0) hE (fun h0 => ECh_ hE σ N M P h0 n)
    have e1 : 4 ^ (P + 1) = 4 * 4 ^ P := by rw [Nat.pow_succ, Nat.mul_comm]
    have e2 : 5 * (4 * 4 ^ P) = 20 * 4 ^ P := by omega
    rw [e1, e2]
    exact h
