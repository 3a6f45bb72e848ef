/-! the law's choose, one person who lives there -/
theorem chFo_s {σ : dM} {N M p : Nat} {t its : Int32} {s : chT} : chFo σ N M (p + 1) t its s = if DI σ 1100 p = 1 then chR (fun r s => if (t >>> (nI r &&& 31)) &&& 1 = 1 then s else if DI σ (1200 + p) r = 0 then chFo σ N M p (t ||| (1 <<< (nI r &&& 31))) (its + DI σ (1110 + p) r) (chU p (nI r) s) else s) M (chU p (-1) s) else chFo σ N M p t its (chU p (-1) s) := by rw [chFo]
set_option maxRecDepth 100000 in
set_option maxHeartbeats 4000000 in
theorem ECh_w {g : jG} {n K : Nat} {z : dZ} {R : Option Value → dM → Nat → Nat → Prop} (hR : dRok g z mX12_choose R) (hz : z.1.frames = n + 1 ∧ z.1.locals = 64 * (n + 1) ∧ z.1.cells = 4 * K ∧ z.1.slots = 20 * K) {σ : dM} {N M P : Nat} (h : chO σ N M) (hP : P < N) {t its : Int32} {s : chT} (c1 : DI σ 1100 P = 1)
    (ih : DW g z mX12_choose 112 [(0, .ref 1000), (1, .int (nI P)), (2, .int t), (3, .int its), (4, .int (nI M - 1))] [] (chM σ N (chU P (-1) s)) 0 0) : DW g z mX12_choose 0 [(0, .ref 1000), (1, .int (nI P)), (2, .int t), (3, .int its)] [] (chM σ N s) 0 0 := by
  have hN5 : N ≤ 5 := h.1.1.1.2
  have hx1 : ¬ nI P < 0 := nI_pos (by omega)
  have hjP : jin (nI P) N := jinN hP (by omega)
  have eP : (nI P).toNatClampNeg = P := nI_clamp (by omega)
  obtain ⟨σ2, e2⟩ : ∃ σ2, σ2 = chM σ N s := ⟨_, rfl⟩
  have hf := dk_f (show dk σ2 N M by rw [e2]; exact chM_k h)
  have hC : dkC σ2 N := by rw [e2]; exact chM_C h
  unfold dkC at hC
  have m1 : DI σ2 1100 P = 1 := by rw [e2, chM_I (by decide) (by decide) (by omega)]; exact c1
  rw [← chM_U, ← e2] at ih
  rw [← e2]
  refine dvk_ok (nC := n + 0) DX12_choose hTyA hR (VC := []) (VD := [(148, 1, 12, n + 0, 0, 0, 0, [], dX12_isLower)]) (SD := []) (AL := []) (fun _ h => absurd h List.not_mem_nil) (List.forall_mem_cons.mpr ⟨⟨mX12_isLower, 0, TX12, 25, rfl, by decide, hX12_148, WX12_isLower, rfl, EX12_isLower g _ n⟩, (fun _ h => absurd h List.not_mem_nil)⟩) (fun _ h => absurd h List.not_mem_nil) [112] 60 _ _ _ _ _ _ ?_
  simp (maxSteps := 1000000) [↓Bool.cond_eq_ite, -Prod.forall, -Prod.exists, -Prod.mk.injEq, dvk, tX12_choose, jtb, jol, dvl, dal, dst, jlk, jcmp, jbin, jfl, qX12, jc2, qlX12, jcat, jel, lv_args, Value.category, jins, jsrt, jins2, jble, jblt, jf3, List.filter_cons, List.filter_nil, Dlo, Dnr, DnL, Dfree, Droom, DuS_S, DuS_I, DuS_L, DuS_R, DuS_N, DuS_A, DuI_S, DuI_I, DuI_L, DuI_R, DuI_N, DuI_A, DuL_S, DuL_I, DuL_L, DuL_R, DuL_N, DuL_A, DuR_S, DuR_I, DuR_L, DuR_R, DuR_N, DuR_A, Dnw_S, Dnw_I, Dnw_L, Dnw_R, Dnw_N, Dnw_A, DrI_S, DrI_I, DrI_L, DrI_R, DrI_N, DrI_A, DrJ_S, DrJ_I, DrJ_L, DrJ_R, DrJ_N, DrJ_A, dm64, G_d, G_x0, dX12_isLower, doR, -Int32.not_le, -Int32.not_lt, -Int64.not_le, -Int64.not_lt, i3lt, i6lt, hx1, hf, hC, hjP, eP, m1, hz]
  try simp (disch := omega) [-Prod.forall, -Prod.exists, -Prod.mk.injEq, -Int32.not_le, -Int32.not_lt, -Int64.not_le, -Int64.not_lt, i3lt, i6lt, hx1, hf, hC, hjP, eP, m1, hz]
  exact ih
set_option maxRecDepth 100000 in
set_option maxHeartbeats 4000000 in
theorem ECh_sA {g : jG} {h0 n K : Nat} (hE : dEs g) {σ : dM} {N M P : Nat} (IH : ∀ h0, dOk g h0 n K (5 * K) [1107, 1109] mX12_choose (dX12_choose σ N M P)) {t its : Int32} {τ : dM} (h : chO σ N M) (hP : P < N) (hτ : τ = chM σ N (chG τ)) (c1 : DI σ 1100 P = 1) : dCon g h0 (n + 1) (4 * K) (20 * K) [1107, 1109] mX12_choose [.ref 1000, .int (nI P), .int t, .int its] τ (fun v ε => v = none ∧ ε = chM σ N (chFo σ N M (P + 1) t its (chG τ))) := by
  have hM4 : M ≤ 4 := h.1.1.2.2
  obtain ⟨s, es⟩ : ∃ s, s = chG τ := ⟨_, rfl⟩
  rw [← es] at hτ ⊢
  refine dCon.go (by decide +kernel) (by simp [lg_sl, Value.category]) (fun z hkp hcl hz post hp hR => ?_)
  simp only [DkF] at hkp
  have hz2 : z.1.frames = n + 1 ∧ z.1.locals = 64 * (n + 1) ∧ z.1.cells = 4 * K ∧ z.1.slots = 20 * K := hz
  show DW g z mX12_choose 0 [(0, .ref 1000), (1, .int (nI P)), (2, .int t), (3, .int its)] [] τ 0 0
  rw [hτ]
  have hfin := hp none _ ⟨rfl, rfl⟩
  rw [chFo_s, if_pos c1] at hfin
  refine ECh_w hR hz2 h hP c1 (ECh_r hE IH hR hz2 h hP ⟨hkp.1, hkp.2.1⟩ _ rfl M (Nat.le_refl _) (chU P (-1) s) 0 0 ?_ ?_ (fun c9 s9 hc9 hs9 => ?_))
  · rw [Nat.zero_add]
    exact Nat.mul_le_mul_right K hM4
  · have := Nat.mul_le_mul_right K hM4
    omega
  · refine dvk_ok (nC := n + 0) DX12_choose hTyA hR (VC := []) (VD := [(148, 1, 12, n + 0, 0, 0, 0, [], dX12_isLower)]) (SD := []) (AL := []) (fun _ h => absurd h List.not_mem_nil) (List.forall_mem_cons.mpr ⟨⟨mX12_isLower, 0, TX12, 25, rfl, by decide, hX12_148, WX12_isLower, rfl, EX12_isLower g _ n⟩, (fun _ h => absurd h List.not_mem_nil)⟩) (fun _ h => absurd h List.not_mem_nil) [] 5 _ _ _ _ _ _ ?_
    simp (maxSteps := 1000000) [↓Bool.cond_eq_ite, -Prod.forall, -Prod.exists, -Prod.mk.injEq, dvk, tX12_choose, jtb, jol, dvl, dal, dst, jlk, jcmp, jbin, jfl, qX12, jc2, qlX12, jcat, jel, lv_args, Value.category, jins, jsrt, jins2, jble, jblt, jf3, List.filter_cons, List.filter_nil, Dlo, Dnr, DnL, Dfree, Droom, DuS_S, DuS_I, DuS_L, DuS_R, DuS_N, DuS_A, DuI_S, DuI_I, DuI_L, DuI_R, DuI_N, DuI_A, DuL_S, DuL_I, DuL_L, DuL_R, DuL_N, DuL_A, DuR_S, DuR_I, DuR_L, DuR_R, DuR_N, DuR_A, Dnw_S, Dnw_I, Dnw_L, Dnw_R, Dnw_N, Dnw_A, DrI_S, DrI_I, DrI_L, DrI_R, DrI_N, DrI_A, DrJ_S, DrJ_I, DrJ_L, DrJ_R, DrJ_N, DrJ_A, dm64, G_d, G_x0, dX12_isLower, doR, -Int32.not_le, -Int32.not_lt, -Int64.not_le, -Int64.not_lt, i3lt, i6lt, hz2]
    try simp (disch := omega) [-Prod.forall, -Prod.exists, -Prod.mk.injEq, -Int32.not_le, -Int32.not_lt, -Int64.not_le, -Int64.not_lt, i3lt, i6lt, hz2]
    exact ⟨⟨hc9, hs9⟩, _, Dsub.rfl (chM_cl h), hfin⟩
