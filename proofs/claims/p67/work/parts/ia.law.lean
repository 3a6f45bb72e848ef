/-! the law's choose, one more person -/
set_option maxRecDepth 100000 in
set_option maxHeartbeats 4000000 in
theorem ECh_r {g : jG} {n K : Nat} {z : dZ} {R : Option Value → dM → Nat → Nat → Prop} (hE : dEs g) {σ : dM} {N M P : Nat} (IH : ∀ h0, dOk g h0 n K (5 * K) [1107, 1109] mX12_choose (dX12_choose σ N M P)) (hR : dRok g z mX12_choose R) (hz : z.1.frames = n + 1 ∧ z.1.locals = 64 * (n + 1) ∧ z.1.cells = 4 * K ∧ z.1.slots = 20 * K) (h : chO σ N M) (hP : P < N) (hkp : z.2.2.1 1107 = false ∧ z.2.2.1 1109 = false) {t its : Int32} (f : Nat → chT → chT)
    (ef : f = fun r s => if (t >>> (nI r &&& 31)) &&& 1 = 1 then s else if DI σ (1200 + P) r = 0 then chFo σ N M P (t ||| (1 <<< (nI r &&& 31))) (its + DI σ (1110 + P) r) (chU P (nI r) s) else s) :
    ∀ r, r ≤ M → ∀ s c0 s0, c0 + r * K ≤ 4 * K → s0 + 5 * (r * K) ≤ 20 * K → (∀ c1 s1, c1 ≤ 4 * K → s1 ≤ 20 * K → DW g z mX12_choose 180 [(0, .ref 1000)] [] (chM σ N (chR f r s)) c1 s1) → DW g z mX12_choose 112 [(0, .ref 1000), (1, .int (nI P)), (2, .int t), (3, .int its), (4, .int (nI r - 1))] [] (chM σ N s) c0 s0
  | 0, _, s, c0, s0, hc, hs, fin => by
    have k := fin c0 s0 (by omega) (by omega)
    have hx : nI 0 - 1 = (-1 : Int32) := by decide
    have hx1 : (-1 : Int32) < 0 := by decide
    have e : chR f 0 s = s := rfl
    rw [e] at k
    rw [hx]
    refine dvk_ok (nC := n + 0) DX12_choose hTyA hR (VC := []) (VD := [(148, 1, 12, n + 0, 0, 0, 0, [], dX12_isLower)]) (SD := []) (AL := []) (fun _ h => absurd h List.not_mem_nil) (List.forall_mem_cons.mpr ⟨⟨mX12_isLower, 0, TX12, 25, rfl, by decide, hX12_148, WX12_isLower, rfl, EX12_isLower g _ n⟩, (fun _ h => absurd h List.not_mem_nil)⟩) (fun _ h => absurd h List.not_mem_nil) [180] 10 _ _ _ _ _ _ ?_
    simp (maxSteps := 1000000) [↓Bool.cond_eq_ite, -Prod.forall, -Prod.exists, -Prod.mk.injEq, dvk, tX12_choose, jtb, jol, dvl, dal, dst, jlk, jcmp, jbin, jfl, qX12, jc2, qlX12, jcat, jel, lv_args, Value.category, jins, jsrt, jins2, jble, jblt, jf3, List.filter_cons, List.filter_nil, Dlo, Dnr, DnL, Dfree, Droom, DuS_S, DuS_I, DuS_L, DuS_R, DuS_N, DuS_A, DuI_S, DuI_I, DuI_L, DuI_R, DuI_N, DuI_A, DuL_S, DuL_I, DuL_L, DuL_R, DuL_N, DuL_A, DuR_S, DuR_I, DuR_L, DuR_R, DuR_N, DuR_A, Dnw_S, Dnw_I, Dnw_L, Dnw_R, Dnw_N, Dnw_A, DrI_S, DrI_I, DrI_L, DrI_R, DrI_N, DrI_A, DrJ_S, DrJ_I, DrJ_L, DrJ_R, DrJ_N, DrJ_A, dm64, G_d, G_x0, dX12_isLower, doR, -Int32.not_le, -Int32.not_lt, -Int64.not_le, -Int64.not_lt, i3lt, i6lt, hx1, hz]
    try simp (disch := omega) [-Prod.forall, -Prod.exists, -Prod.mk.injEq, -Int32.not_le, -Int32.not_lt, -Int64.not_le, -Int64.not_lt, i3lt, i6lt, hx1, hz]
    exact DW.mono k (by simp)
  | r + 1, hr, s, c0, s0, hc, hs, fin => by
    have hN5 : N ≤ 5 := h.1.1.1.2
    have hM4 : M ≤ 4 := h.1.1.2.2
    have hr1 : nI (r + 1) - 1 = nI r := by rw [← nI_1]; grind
    have hr2 : ¬ nI r < 0 := nI_pos (by omega)
    have hjP : jin (nI P) N := jinN hP (by omega)
    have hjr : jin (nI r) M := jinN (by omega) (by omega)
    have eP : (nI P).toNatClampNeg = P := nI_clamp (by omega)
    have er : (nI r).toNatClampNeg = r := nI_clamp (by omega)
    have hk := chM_k (s := s) h
    have hf := dk_f hk
    have hv := dk_v hk hP
    have hrw := dk_r hk hP
    have hC := chM_C (s := s) h
    unfold dkC at hC
    have mr : (r + 1) * K = r * K + K := Nat.succ_mul r K
    have eR : chR f (r + 1) s = chR f r (f r s) := rfl
    have em : ∀ x : Int32, x + -1 = x - 1 := fun x => by grind
    have m1 : DI (chM σ N s) (1200 + P) r = DI σ (1200 + P) r := chM_I (by omega) (by omega) (by omega)
    have m2 : DI (chM σ N s) (1110 + P) r = DI σ (1110 + P) r := chM_I (by omega) (by omega) (by omega)
    have hf1 : f r s = if (t >>> (nI r &&& 31)) &&& 1 = 1 then s else if DI σ (1200 + P) r = 0 then chFo σ N M P (t ||| (1 <<< (nI r &&& 31))) (its + DI σ (1110 + P) r) (chU P (nI r) s) else s := by rw [ef]
    rw [eR] at fin
    rw [hr1]
    by_cases c1 : (t >>> (nI r &&& 31)) &&& 1 = 1
    · rw [hf1, if_pos c1] at fin
      have ih := ECh_r hE IH hR hz h hP hkp f ef r (by omega) s c0 s0 (by omega) (by omega) fin
      obtain ⟨σ2, e2⟩ : ∃ σ2, σ2 = chM σ N s := ⟨_, rfl⟩
      rw [← e2] at ih ⊢
      refine dvk_ok (nC := n + 0) DX12_choose hTyA hR (VC := []) (VD := [(148, 1, 12, n + 0, 0, 0, 0, [], dX12_isLower)]) (SD := []) (AL := []) (fun _ h => absurd h List.not_mem_nil) (List.forall_mem_cons.mpr ⟨⟨mX12_isLower, 0, TX12, 25, rfl, by decide, hX12_148, WX12_isLower, rfl, EX12_isLower g _ n⟩, (fun _ h => absurd h List.not_mem_nil)⟩) (fun _ h => absurd h List.not_mem_nil) [112] 30 _ _ _ _ _ _ ?_
      simp (maxSteps := 1000000) [↓Bool.cond_eq_ite, -Prod.forall, -Prod.exists, -Prod.mk.injEq, dvk, tX12_choose, jtb, jol, dvl, dal, dst, jlk, jcmp, jbin, jfl, qX12, jc2, qlX12, jcat, jel, lv_args, Value.category, jins, jsrt, jins2, jble, jblt, jf3, List.filter_cons, List.filter_nil, Dlo, Dnr, DnL, Dfree, Droom, DuS_S, DuS_I, DuS_L, DuS_R, DuS_N, DuS_A, DuI_S, DuI_I, DuI_L, DuI_R, DuI_N, DuI_A, DuL_S, DuL_I, DuL_L, DuL_R, DuL_N, DuL_A, DuR_S, DuR_I, DuR_L, DuR_R, DuR_N, DuR_A, Dnw_S, Dnw_I, Dnw_L, Dnw_R, Dnw_N, Dnw_A, DrI_S, DrI_I, DrI_L, DrI_R, DrI_N, DrI_A, DrJ_S, DrJ_I, DrJ_L, DrJ_R, DrJ_N, DrJ_A, dm64, G_d, G_x0, dX12_isLower, doR, -Int32.not_le, -Int32.not_lt, -Int64.not_le, -Int64.not_lt, i3lt, i6lt, hr2, hz, c1, em]
      try simp (disch := omega) [-Prod.forall, -Prod.exists, -Prod.mk.injEq, -Int32.not_le, -Int32.not_lt, -Int64.not_le, -Int64.not_lt, i3lt, i6lt, hr2, hz, c1, em]
      exact ih
    · by_cases c2 : DI σ (1200 + P) r = 0
      · rw [hf1, if_neg c1, if_pos c2] at fin
        have ih := ECh_r hE IH hR hz h hP hkp f ef r (by omega) (chFo σ N M P (t ||| (1 <<< (nI r &&& 31))) (its + DI σ (1110 + P) r) (chU P (nI r) s)) (c0 + K) (s0 + 5 * K) (by omega) (by omega) fin
        have eU : DuI (chM σ N s) 1106 P (nI r) = chM σ N (chU P (nI r) s) := chM_U
        have eG : chG (chM σ N (chU P (nI r) s)) = chU P (nI r) s := chG_M h
        have hPN : P ≤ N := by omega
        have hfit : c0 + K ≤ 4 * K ∧ s0 + 5 * K ≤ 20 * K := ⟨by omega, by omega⟩
        obtain ⟨σ2, e2⟩ : ∃ σ2, σ2 = chM σ N s := ⟨_, rfl⟩
        obtain ⟨σ3, e3⟩ : ∃ σ3, σ3 = chM σ N (chU P (nI r) s) := ⟨_, rfl⟩
        have e4 : (σ3 = chM σ N (chU P (nI r) s)) = True := eq_true e3
        have hf3 := dk_f (show dk σ3 N M by rw [e3]; exact chM_k h)
        have hv3 := dk_v (show dk σ3 N M by rw [e3]; exact chM_k h) hP
        have m3 : DI σ3 (1110 + P) r = DI σ (1110 + P) r := by rw [e3]; exact chM_I (by omega) (by omega) (by omega)
        rw [← e2] at hf hv hrw hC m1 m2 eU ⊢
        rw [← e3] at eU eG
        refine dvk_ok (nC := n + 0) DX12_choose hTyA hR (VC := []) (VD := [(148, 1, 12, n + 0, 0, 0, 0, [], dX12_isLower), (160, 4, 12, n, 0, K, (5*K), [1107,1109], (dX12_choose σ N M P))]) (SD := []) (AL := []) (fun _ h => absurd h List.not_mem_nil) (List.forall_mem_cons.mpr ⟨⟨mX12_isLower, 0, TX12, 25, rfl, by decide, hX12_148, WX12_isLower, rfl, EX12_isLower g _ n⟩, (List.forall_mem_cons.mpr ⟨⟨mX12_choose, 3, TX12, 25, rfl, by decide, hX12_160, WX12_choose, rfl, (IH _)⟩, (fun _ h => absurd h List.not_mem_nil)⟩)⟩) (fun _ h => absurd h List.not_mem_nil) [112] 60 _ _ _ _ _ _ ?_
        simp (maxSteps := 1000000) [↓Bool.cond_eq_ite, -Prod.forall, -Prod.exists, -Prod.mk.injEq, dvk, tX12_choose, jtb, jol, dvl, dal, dst, jlk, jcmp, jbin, jfl, qX12, jc2, qlX12, jcat, jel, lv_args, Value.category, jins, jsrt, jins2, jble, jblt, jf3, List.filter_cons, List.filter_nil, Dlo, Dnr, DnL, Dfree, Droom, DuS_S, DuS_I, DuS_L, DuS_R, DuS_N, DuS_A, DuI_S, DuI_I, DuI_L, DuI_R, DuI_N, DuI_A, DuL_S, DuL_I, DuL_L, DuL_R, DuL_N, DuL_A, DuR_S, DuR_I, DuR_L, DuR_R, DuR_N, DuR_A, Dnw_S, Dnw_I, Dnw_L, Dnw_R, Dnw_N, Dnw_A, DrI_S, DrI_I, DrI_L, DrI_R, DrI_N, DrI_A, DrJ_S, DrJ_I, DrJ_L, DrJ_R, DrJ_N, DrJ_A, dm64, G_d, G_x0, dX12_isLower, dX12_choose, doR, doRIII, -Int32.not_le, -Int32.not_lt, -Int64.not_le, -Int64.not_lt, i3lt, i6lt, hr2, hz, hf, hv, hrw, hC, hjP, hjr, eP, er, m1, m2, c1, c2, em, hfit, hkp, eU, eG, h, hPN, e4, hf3, hv3, m3]
        try simp (disch := omega) [-Prod.forall, -Prod.exists, -Prod.mk.injEq, -Int32.not_le, -Int32.not_lt, -Int64.not_le, -Int64.not_lt, i3lt, i6lt, hr2, hz, hf, hv, hrw, hC, hjP, hjr, eP, er, m1, m2, c1, c2, em, hfit, hkp, eU, eG, h, hPN, e4, hf3, hv3, m3]
        exact ih
      · rw [hf1, if_neg c1, if_neg c2] at fin
        have ih := ECh_r hE IH hR hz h hP hkp f ef r (by omega) s c0 s0 (by omega) (by omega) fin
        obtain ⟨σ2, e2⟩ : ∃ σ2, σ2 = chM σ N s := ⟨_, rfl⟩
        rw [← e2] at hf hrw m1 ih ⊢
        refine dvk_ok (nC := n + 0) DX12_choose hTyA hR (VC := []) (VD := [(148, 1, 12, n + 0, 0, 0, 0, [], dX12_isLower)]) (SD := []) (AL := []) (fun _ h => absurd h List.not_mem_nil) (List.forall_mem_cons.mpr ⟨⟨mX12_isLower, 0, TX12, 25, rfl, by decide, hX12_148, WX12_isLower, rfl, EX12_isLower g _ n⟩, (fun _ h => absurd h List.not_mem_nil)⟩) (fun _ h => absurd h List.not_mem_nil) [112] 60 _ _ _ _ _ _ ?_
        simp (maxSteps := 1000000) [↓Bool.cond_eq_ite, -Prod.forall, -Prod.exists, -Prod.mk.injEq, dvk, tX12_choose, jtb, jol, dvl, dal, dst, jlk, jcmp, jbin, jfl, qX12, jc2, qlX12, jcat, jel, lv_args, Value.category, jins, jsrt, jins2, jble, jblt, jf3, List.filter_cons, List.filter_nil, Dlo, Dnr, DnL, Dfree, Droom, DuS_S, DuS_I, DuS_L, DuS_R, DuS_N, DuS_A, DuI_S, DuI_I, DuI_L, DuI_R, DuI_N, DuI_A, DuL_S, DuL_I, DuL_L, DuL_R, DuL_N, DuL_A, DuR_S, DuR_I, DuR_L, DuR_R, DuR_N, DuR_A, Dnw_S, Dnw_I, Dnw_L, Dnw_R, Dnw_N, Dnw_A, DrI_S, DrI_I, DrI_L, DrI_R, DrI_N, DrI_A, DrJ_S, DrJ_I, DrJ_L, DrJ_R, DrJ_N, DrJ_A, dm64, G_d, G_x0, dX12_isLower, doR, -Int32.not_le, -Int32.not_lt, -Int64.not_le, -Int64.not_lt, i3lt, i6lt, hr2, hz, hf, hrw, hjP, hjr, eP, er, m1, c1, c2, em]
        try simp (disch := omega) [-Prod.forall, -Prod.exists, -Prod.mk.injEq, -Int32.not_le, -Int32.not_lt, -Int64.not_le, -Int64.not_lt, i3lt, i6lt, hr2, hz, hf, hrw, hjP, hjr, eP, er, m1, c1, c2, em]
        exact ih
