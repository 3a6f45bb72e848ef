/-! the law's pass, whole -/
def prPs (σ : dM) (s : jM) (f : Nat → Int32) (N M K : Nat) : Prop := xRk s M N K ∧ rRw σ f N M ∧ rP σ (rw3 s f) K ∧ chQ σ ∧ (∀ k, tmpK k → DA σ k = false) ∧ ∃ mo, rBd f N mo ∧ mo ≤ 298
def dX12_pass (s : jM) (f : Nat → Int32) (N M K : Nat) : dO := doR fun a σ => (a = 1000 ∧ prPs σ s f N M K, fun v τ => v = none ∧ stB σ τ s (pmF s f) N M K)
theorem dyPr_5 {τ : dM} (h : dyPr τ 1126) (hA : DA τ 1125 = false) : dyPr τ 1125 := by
  obtain ⟨N, M, A, m, inc, q1, q2, q3, q4, q5, q6, q7, q8, q9⟩ := h
  exact ⟨N, M, A, m, inc, q1, q2, q3, ⟨by decide, by decide⟩, q5, q6, q7, hA, q9⟩
set_option maxRecDepth 100000 in
set_option maxHeartbeats 4000000 in
theorem EX12_pass (g : jG) (h0 n : Nat) (hE : dEs g) (s : jM) (f : Nat → Int32) (N M K : Nat) : dOk g h0 (n + 8) 1046 5230 [1125, 1123, 1120, 1121, 1401, 1115, 1116, 1117, 1118, 1119, 1210, 1311, 1124, 1310, 1312, 1108, 1106, 1107, 1109] mX12_pass (dX12_pass s f N M K) := by
  refine doR_ok ?_
  rintro _ σ ⟨rfl, hs, hR0, hP, hQ, hfree, mo, bd, hmo⟩
  have hN := hR0.1.1.1.2
  have hM := hR0.1.1.2.2
  have eN : (nI N).toNatClampNeg = N := nI_clamp (by omega)
  have eM : (nI M).toNatClampNeg = M := nI_clamp (by omega)
  refine dCon.go (by decide +kernel) (by simp [lg_sl, Value.category]) (fun z hkp hcl hz post hp hR => ?_)
  simp only [DkF] at hkp
  have hz2 : z.1.frames = n + 8 ∧ z.1.locals = 64 * (n + 8) ∧ z.1.cells = 1046 ∧ z.1.slots = 5230 := hz
  show DW g z mX12_pass 0 [(0, .ref 1000)] [] σ 0 0
  have hA0 : stA σ σ s f N M K 0 := ⟨hR0, hP, rfl, hQ, fun _ => rfl, hcl⟩
  have hfin : ∀ σ1 c0 s0, c0 ≤ 1046 ∧ s0 ≤ 5230 → stB σ σ1 s (paF s (psI s f K)) N M K → DW g z mX12_pass 87 [(0, .ref 1000)] [] σ1 c0 s0 := fun σ1 c0 s0 hc hB => by
    have h9 := stB_pm hs hR0.2.2 bd hmo hB
    exact EPs_C hE hR hz2 hB.1.1 ⟨hc, _, Dsub.rfl h9.2.2.2.2.2, hp _ _ ⟨rfl, h9⟩⟩
  have hA := EPs_A hE hR hz2 hs hR0.2.2 hA0 (fun σ1 h1 => by
    have hf := dk_f h1.1.1
    have a2 : DI σ1 1000 16 = psI s f K 2 := h1.1.2.1.2.2.2.2.2.2.1
    have eA := paF_A hs (psI s f K)
    by_cases c2 : psI s f K 2 = 1
    · have hD := rRw_D h1.1
      have hI : rI (DuS σ1 (mkA (psI s f K) M N)) (mkA (psI s f K) M N) N M 0 := ⟨hD, xG_self hD.2.1, h1.2.2.2.1, fun k hk => by rw [DuS_A, h1.2.2.2.2.1]; exact hfree k hk⟩
      have hpre : dpZ σ1 := ⟨N, M, h1.1.1, h1.2.2.2.1, by rw [h1.2.2.2.2.1]; exact hfree _ (by unfold tmpK; omega), by rw [h1.2.2.2.2.1]; exact hfree _ (by unfold tmpK; omega)⟩
      have e0 := pST_0 hI
      rw [chN_u] at e0
      obtain ⟨hI2, hcl2⟩ := pST_rI hI h1.2.2.2.2.2
      have hB9 := fun a (ha : dC (mkA (psI s f K) M N) = some a) => pST_B hI h1.2.2.2.2.2 ha
      rw [pST_u] at hI2 hcl2 hB9
      have hP2 : rP (pST σ1 N M) (rw3 s (psI s f K)) K := pST_P h1.2.1
      have hS2 : DS (pST σ1 N M) = DS σ := by
        unfold pST
        rw [chM_S]
        exact h1.2.2.1
      have hA2 : ∀ k, k ≠ 1106 → k ≠ 1107 → DA (pST σ1 N M) k = DA σ k := fun k q1 q2 => by rw [pST_A q2 q1]; exact h1.2.2.2.2.1 k
      have hD2 : rDs (pST σ1 N M) (mkA (psI s f K) M N) N M 0 := hI2.1
      have hQ2 : chQ (pST σ1 N M) := hI2.2.2.1
      have hT2 : ∀ k, tmpK k → DA (pST σ1 N M) k = false := hI2.2.2.2
      have hcl3 : Dcl0 (pST σ1 N M) := hcl2
      refine dvk_ok (nC := n + 7) DX12_pass hTyA hR (VC := []) (VD := [(268, 1, 15, n + 0, 0, 0, 0, [], dJx4a65c_size_8abf5), (294, 2, 15, n + 2, 0, 0, 0, [], dJx4a65c_get_915e3), (298, 2, 15, n + 2, 0, 0, 0, [], dJx4a65c_remove_915e3), (204, 1, 12, n + 7, 0, 1025, 5125, [1108, 1106, 1107, 1109], dX12_proposes), (304, 1, 12, n + 4, 0, 21, 105, [1125, 1123, 1120, 1121, 1401, 1115, 1116, 1117, 1118, 1119, 1210, 1311, 1124, 1310, 1312], dX12_agree)]) (SD := []) (AL := []) (fun _ h => absurd h List.not_mem_nil) (List.forall_mem_cons.mpr ⟨⟨mJx4a65c_size_8abf5, 0, TJx4a65c, 3, rfl, by decide, hX12_268, WJx4a65c_size_8abf5, rfl, EJx4a65c_size_8abf5 g _ n⟩, (List.forall_mem_cons.mpr ⟨⟨mJx4a65c_get_915e3, 1, TJx4a65c, 3, rfl, by decide, hX12_294, WJx4a65c_get_915e3, rfl, EJx4a65c_get_915e3 g _ n⟩, (List.forall_mem_cons.mpr ⟨⟨mJx4a65c_remove_915e3, 1, TJx4a65c, 3, rfl, by decide, hX12_298, WJx4a65c_remove_915e3, rfl, EJx4a65c_remove_915e3 g _ n hE⟩, (List.forall_mem_cons.mpr ⟨⟨mX12_proposes, 0, TX12, 25, rfl, by decide, hX12_204, WX12_proposes, rfl, EX12_proposes g _ n hE⟩, (List.forall_mem_cons.mpr ⟨⟨mX12_agree, 0, TX12, 25, rfl, by decide, hX12_304, WX12_agree, rfl, EX12_agree g _ n hE⟩, (fun _ h => absurd h List.not_mem_nil)⟩)⟩)⟩)⟩)⟩) (fun _ h => absurd h List.not_mem_nil) [79, 87] 20 _ _ _ _ _ _ ?_
      simp (maxSteps := 1000000) [↓Bool.cond_eq_ite, -Prod.forall, -Prod.exists, -Prod.mk.injEq, ↓jc_eq_t, ↓jc_eq_f, ↓jc_ne_t, ↓jc_ne_f, ↓jc_lt_t, ↓jc_lt_f, ↓jc_ge_t, ↓jc_ge_f, ↓jc_gt_t, ↓jc_gt_f, ↓jc_le_t, ↓jc_le_f, dvk, tX12_pass, jtb, jol, dvl, dal, dst, jlk, jcmp, jbin, jfl, qX12, jc2, qlX12, jcat, jel, lv_args, Value.category, jins, jsrt, jins2, jble, jblt, jf3, List.filter_cons, List.filter_nil, Dlo, Dnr, DnL, Dfree, Droom, DuS_S, DuS_I, DuS_L, DuS_R, DuS_N, DuS_A, DuI_S, DuI_I, DuI_L, DuI_R, DuI_N, DuI_A, DuL_S, DuL_I, DuL_L, DuL_R, DuL_N, DuL_A, DuR_S, DuR_I, DuR_L, DuR_R, DuR_N, DuR_A, Dnw_S, Dnw_I, Dnw_L, Dnw_R, Dnw_N, Dnw_A, DrI_S, DrI_I, DrI_L, DrI_R, DrI_N, DrI_A, DrJ_S, DrJ_I, DrJ_L, DrJ_R, DrJ_N, DrJ_A, dm64, G_d, G_x0, dJx4a65c_size_8abf5, dJx4a65c_get_915e3, dJx4a65c_remove_915e3, dX12_proposes, dX12_agree, doR, doRI, -Int32.not_le, -Int32.not_lt, -Int64.not_le, -Int64.not_lt, i3lt, i6lt, hf, hz2, hkp, eN, eM, a2, c2, hpre]
      try simp (disch := omega) [-Prod.forall, -Prod.exists, -Prod.mk.injEq, -Int32.not_le, -Int32.not_lt, -Int64.not_le, -Int64.not_lt, i3lt, i6lt, hf, hz2, hkp, eN, eM, a2, c2, hpre]
      rw [e0]
      obtain ⟨τ1, eτ⟩ : ∃ τ1, τ1 = pST σ1 N M := ⟨_, rfl⟩
      show DW g z mX12_pass 79 _ _ (pST σ1 N M) _ _
      have hB9' : ∀ a, dC (mkA (psI s f K) M N) = some a → dkB (pST σ1 N M) N ∧ rBt (pST σ1 N M) (mkA (psI s f K) M N) N ∧ dkBr (pST σ1 N M) N M := hB9
      clear hI2 hcl2 hB9
      rw [← eτ] at hP2 hS2 hA2 hD2 hQ2 hT2 hcl3 hB9' ⊢
      have hf1 := dk_f hD2.1
      by_cases ha0 : dC (mkA (psI s f K) M N) = none
      · have hB : stB σ τ1 s (paF s (psI s f K)) N M K := by
          rw [eA, if_neg (fun z9 => by rw [ha0] at z9; exact absurd z9.2 (by decide))]
          exact ⟨⟨hD2.1, hD2.2.2, h1.1.2.2⟩, hP2, hS2, hQ2, hA2, hcl3⟩
        rw [if_pos ha0]
        have j9 := hfin τ1 1025 5125 ⟨by omega, by omega⟩ hB
        refine dvk_ok (nC := n + 7) DX12_pass hTyA hR (VC := []) (VD := [(268, 1, 15, n + 0, 0, 0, 0, [], dJx4a65c_size_8abf5), (294, 2, 15, n + 2, 0, 0, 0, [], dJx4a65c_get_915e3), (298, 2, 15, n + 2, 0, 0, 0, [], dJx4a65c_remove_915e3), (204, 1, 12, n + 7, 0, 1025, 5125, [1108, 1106, 1107, 1109], dX12_proposes), (304, 1, 12, n + 4, 0, 21, 105, [1125, 1123, 1120, 1121, 1401, 1115, 1116, 1117, 1118, 1119, 1210, 1311, 1124, 1310, 1312], dX12_agree)]) (SD := []) (AL := []) (fun _ h => absurd h List.not_mem_nil) (List.forall_mem_cons.mpr ⟨⟨mJx4a65c_size_8abf5, 0, TJx4a65c, 3, rfl, by decide, hX12_268, WJx4a65c_size_8abf5, rfl, EJx4a65c_size_8abf5 g _ n⟩, (List.forall_mem_cons.mpr ⟨⟨mJx4a65c_get_915e3, 1, TJx4a65c, 3, rfl, by decide, hX12_294, WJx4a65c_get_915e3, rfl, EJx4a65c_get_915e3 g _ n⟩, (List.forall_mem_cons.mpr ⟨⟨mJx4a65c_remove_915e3, 1, TJx4a65c, 3, rfl, by decide, hX12_298, WJx4a65c_remove_915e3, rfl, EJx4a65c_remove_915e3 g _ n hE⟩, (List.forall_mem_cons.mpr ⟨⟨mX12_proposes, 0, TX12, 25, rfl, by decide, hX12_204, WX12_proposes, rfl, EX12_proposes g _ n hE⟩, (List.forall_mem_cons.mpr ⟨⟨mX12_agree, 0, TX12, 25, rfl, by decide, hX12_304, WX12_agree, rfl, EX12_agree g _ n hE⟩, (fun _ h => absurd h List.not_mem_nil)⟩)⟩)⟩)⟩)⟩) (fun _ h => absurd h List.not_mem_nil) [87, 82] 10 _ _ _ _ _ _ ?_
        simp (maxSteps := 1000000) [↓Bool.cond_eq_ite, -Prod.forall, -Prod.exists, -Prod.mk.injEq, ↓jc_eq_t, ↓jc_eq_f, ↓jc_ne_t, ↓jc_ne_f, ↓jc_lt_t, ↓jc_lt_f, ↓jc_ge_t, ↓jc_ge_f, ↓jc_gt_t, ↓jc_gt_f, ↓jc_le_t, ↓jc_le_f, dvk, tX12_pass, jtb, jol, dvl, dal, dst, jlk, jcmp, jbin, jfl, qX12, jc2, qlX12, jcat, jel, lv_args, Value.category, jins, jsrt, jins2, jble, jblt, jf3, List.filter_cons, List.filter_nil, Dlo, Dnr, DnL, Dfree, Droom, DuS_S, DuS_I, DuS_L, DuS_R, DuS_N, DuS_A, DuI_S, DuI_I, DuI_L, DuI_R, DuI_N, DuI_A, DuL_S, DuL_I, DuL_L, DuL_R, DuL_N, DuL_A, DuR_S, DuR_I, DuR_L, DuR_R, DuR_N, DuR_A, Dnw_S, Dnw_I, Dnw_L, Dnw_R, Dnw_N, Dnw_A, DrI_S, DrI_I, DrI_L, DrI_R, DrI_N, DrI_A, DrJ_S, DrJ_I, DrJ_L, DrJ_R, DrJ_N, DrJ_A, dm64, G_d, G_x0, dJx4a65c_size_8abf5, dJx4a65c_get_915e3, dJx4a65c_remove_915e3, dX12_proposes, dX12_agree, doR, doRI, -Int32.not_le, -Int32.not_lt, -Int64.not_le, -Int64.not_lt, i3lt, i6lt, hf1]
        try simp (disch := omega) [-Prod.forall, -Prod.exists, -Prod.mk.injEq, -Int32.not_le, -Int32.not_lt, -Int64.not_le, -Int64.not_lt, i3lt, i6lt, hf1]
        exact j9
      · obtain ⟨a, ha⟩ : ∃ a, dC (mkA (psI s f K) M N) = some a := by
          cases e : dC (mkA (psI s f K) M N) with
          | none => exact absurd e ha0
          | some a => exact ⟨a, rfl⟩
        obtain ⟨hBk, hbt, -⟩ := hB9' a ha
        have hdy := dyPr_5 (rPre hD2 ha hbt hBk (fun k hk _ => hT2 k hk) (ρ := 1126) ⟨by decide, by decide⟩ (hT2 1126 (by unfold tmpK; omega))).2.2.2 (hT2 1125 (by unfold tmpK; omega))
        have hpa := rAg hD2 ha hbt
        have dA := dG_pa hs h1.1.2.2
        have hB : stB σ (dgS τ1 τ1 N N) s (paF s (psI s f K)) N M K := by
          rw [eA, if_pos ⟨c2, by rw [ha]; rfl⟩] at dA ⊢
          refine ⟨⟨hpa.1, hpa.2, dA⟩, rP_row (f := psI s f K) (rP_cg hP2 (fun k j hk9 => ?_) (fun _ _ _ => rfl) (fun _ _ => ⟨rfl, rfl⟩)) (agX_lo (by omega)), hS2, hQ2, hA2, hcl3⟩
          rw [dgS_I, if_neg (by omega), if_neg (by omega)]
        rw [if_neg ha0]
        have j9 := hfin (dgS τ1 τ1 N N) 1046 5230 ⟨by omega, by omega⟩ hB
        refine dvk_ok (nC := n + 7) DX12_pass hTyA hR (VC := []) (VD := [(268, 1, 15, n + 0, 0, 0, 0, [], dJx4a65c_size_8abf5), (294, 2, 15, n + 2, 0, 0, 0, [], dJx4a65c_get_915e3), (298, 2, 15, n + 2, 0, 0, 0, [], dJx4a65c_remove_915e3), (204, 1, 12, n + 7, 0, 1025, 5125, [1108, 1106, 1107, 1109], dX12_proposes), (304, 1, 12, n + 4, 0, 21, 105, [1125, 1123, 1120, 1121, 1401, 1115, 1116, 1117, 1118, 1119, 1210, 1311, 1124, 1310, 1312], dX12_agree)]) (SD := []) (AL := []) (fun _ h => absurd h List.not_mem_nil) (List.forall_mem_cons.mpr ⟨⟨mJx4a65c_size_8abf5, 0, TJx4a65c, 3, rfl, by decide, hX12_268, WJx4a65c_size_8abf5, rfl, EJx4a65c_size_8abf5 g _ n⟩, (List.forall_mem_cons.mpr ⟨⟨mJx4a65c_get_915e3, 1, TJx4a65c, 3, rfl, by decide, hX12_294, WJx4a65c_get_915e3, rfl, EJx4a65c_get_915e3 g _ n⟩, (List.forall_mem_cons.mpr ⟨⟨mJx4a65c_remove_915e3, 1, TJx4a65c, 3, rfl, by decide, hX12_298, WJx4a65c_remove_915e3, rfl, EJx4a65c_remove_915e3 g _ n hE⟩, (List.forall_mem_cons.mpr ⟨⟨mX12_proposes, 0, TX12, 25, rfl, by decide, hX12_204, WX12_proposes, rfl, EX12_proposes g _ n hE⟩, (List.forall_mem_cons.mpr ⟨⟨mX12_agree, 0, TX12, 25, rfl, by decide, hX12_304, WX12_agree, rfl, EX12_agree g _ n hE⟩, (fun _ h => absurd h List.not_mem_nil)⟩)⟩)⟩)⟩)⟩) (fun _ h => absurd h List.not_mem_nil) [87] 20 _ _ _ _ _ _ ?_
        simp (maxSteps := 1000000) [↓Bool.cond_eq_ite, -Prod.forall, -Prod.exists, -Prod.mk.injEq, ↓jc_eq_t, ↓jc_eq_f, ↓jc_ne_t, ↓jc_ne_f, ↓jc_lt_t, ↓jc_lt_f, ↓jc_ge_t, ↓jc_ge_f, ↓jc_gt_t, ↓jc_gt_f, ↓jc_le_t, ↓jc_le_f, dvk, tX12_pass, jtb, jol, dvl, dal, dst, jlk, jcmp, jbin, jfl, qX12, jc2, qlX12, jcat, jel, lv_args, Value.category, jins, jsrt, jins2, jble, jblt, jf3, List.filter_cons, List.filter_nil, Dlo, Dnr, DnL, Dfree, Droom, DuS_S, DuS_I, DuS_L, DuS_R, DuS_N, DuS_A, DuI_S, DuI_I, DuI_L, DuI_R, DuI_N, DuI_A, DuL_S, DuL_I, DuL_L, DuL_R, DuL_N, DuL_A, DuR_S, DuR_I, DuR_L, DuR_R, DuR_N, DuR_A, Dnw_S, Dnw_I, Dnw_L, Dnw_R, Dnw_N, Dnw_A, DrI_S, DrI_I, DrI_L, DrI_R, DrI_N, DrI_A, DrJ_S, DrJ_I, DrJ_L, DrJ_R, DrJ_N, DrJ_A, dm64, G_d, G_x0, dJx4a65c_size_8abf5, dJx4a65c_get_915e3, dJx4a65c_remove_915e3, dX12_proposes, dX12_agree, doR, doRI, -Int32.not_le, -Int32.not_lt, -Int64.not_le, -Int64.not_lt, i3lt, i6lt, hf1, hz2, hkp, eN, eM, hdy]
        try simp (disch := omega) [-Prod.forall, -Prod.exists, -Prod.mk.injEq, -Int32.not_le, -Int32.not_lt, -Int64.not_le, -Int64.not_lt, i3lt, i6lt, hf1, hz2, hkp, eN, eM, hdy]
        exact DW.mono j9 (by simp)
    · have hB : stB σ σ1 s (paF s (psI s f K)) N M K := by
        rw [eA, if_neg (fun z9 => c2 z9.1)]
        exact ⟨h1.1, h1.2.1, h1.2.2.1, h1.2.2.2.1, fun k _ _ => h1.2.2.2.2.1 k, h1.2.2.2.2.2⟩
      have j9 := hfin σ1 0 0 ⟨by omega, by omega⟩ hB
      refine dvk_ok (nC := n + 7) DX12_pass hTyA hR (VC := []) (VD := [(268, 1, 15, n + 0, 0, 0, 0, [], dJx4a65c_size_8abf5), (294, 2, 15, n + 2, 0, 0, 0, [], dJx4a65c_get_915e3), (298, 2, 15, n + 2, 0, 0, 0, [], dJx4a65c_remove_915e3), (204, 1, 12, n + 7, 0, 1025, 5125, [1108, 1106, 1107, 1109], dX12_proposes), (304, 1, 12, n + 4, 0, 21, 105, [1125, 1123, 1120, 1121, 1401, 1115, 1116, 1117, 1118, 1119, 1210, 1311, 1124, 1310, 1312], dX12_agree)]) (SD := []) (AL := []) (fun _ h => absurd h List.not_mem_nil) (List.forall_mem_cons.mpr ⟨⟨mJx4a65c_size_8abf5, 0, TJx4a65c, 3, rfl, by decide, hX12_268, WJx4a65c_size_8abf5, rfl, EJx4a65c_size_8abf5 g _ n⟩, (List.forall_mem_cons.mpr ⟨⟨mJx4a65c_get_915e3, 1, TJx4a65c, 3, rfl, by decide, hX12_294, WJx4a65c_get_915e3, rfl, EJx4a65c_get_915e3 g _ n⟩, (List.forall_mem_cons.mpr ⟨⟨mJx4a65c_remove_915e3, 1, TJx4a65c, 3, rfl, by decide, hX12_298, WJx4a65c_remove_915e3, rfl, EJx4a65c_remove_915e3 g _ n hE⟩, (List.forall_mem_cons.mpr ⟨⟨mX12_proposes, 0, TX12, 25, rfl, by decide, hX12_204, WX12_proposes, rfl, EX12_proposes g _ n hE⟩, (List.forall_mem_cons.mpr ⟨⟨mX12_agree, 0, TX12, 25, rfl, by decide, hX12_304, WX12_agree, rfl, EX12_agree g _ n hE⟩, (fun _ h => absurd h List.not_mem_nil)⟩)⟩)⟩)⟩)⟩) (fun _ h => absurd h List.not_mem_nil) [87, 75] 20 _ _ _ _ _ _ ?_
      simp (maxSteps := 1000000) [↓Bool.cond_eq_ite, -Prod.forall, -Prod.exists, -Prod.mk.injEq, ↓jc_eq_t, ↓jc_eq_f, ↓jc_ne_t, ↓jc_ne_f, ↓jc_lt_t, ↓jc_lt_f, ↓jc_ge_t, ↓jc_ge_f, ↓jc_gt_t, ↓jc_gt_f, ↓jc_le_t, ↓jc_le_f, dvk, tX12_pass, jtb, jol, dvl, dal, dst, jlk, jcmp, jbin, jfl, qX12, jc2, qlX12, jcat, jel, lv_args, Value.category, jins, jsrt, jins2, jble, jblt, jf3, List.filter_cons, List.filter_nil, Dlo, Dnr, DnL, Dfree, Droom, DuS_S, DuS_I, DuS_L, DuS_R, DuS_N, DuS_A, DuI_S, DuI_I, DuI_L, DuI_R, DuI_N, DuI_A, DuL_S, DuL_I, DuL_L, DuL_R, DuL_N, DuL_A, DuR_S, DuR_I, DuR_L, DuR_R, DuR_N, DuR_A, Dnw_S, Dnw_I, Dnw_L, Dnw_R, Dnw_N, Dnw_A, DrI_S, DrI_I, DrI_L, DrI_R, DrI_N, DrI_A, DrJ_S, DrJ_I, DrJ_L, DrJ_R, DrJ_N, DrJ_A, dm64, G_d, G_x0, dJx4a65c_size_8abf5, dJx4a65c_get_915e3, dJx4a65c_remove_915e3, dX12_proposes, dX12_agree, doR, doRI, -Int32.not_le, -Int32.not_lt, -Int64.not_le, -Int64.not_lt, i3lt, i6lt, hf, a2, c2]
      try simp (disch := omega) [-Prod.forall, -Prod.exists, -Prod.mk.injEq, -Int32.not_le, -Int32.not_lt, -Int64.not_le, -Int64.not_lt, i3lt, i6lt, hf, a2, c2]
      exact j9)
  refine dvk_ok (nC := n + 7) DX12_pass hTyA hR (VC := []) (VD := [(268, 1, 15, n + 0, 0, 0, 0, [], dJx4a65c_size_8abf5), (294, 2, 15, n + 2, 0, 0, 0, [], dJx4a65c_get_915e3), (298, 2, 15, n + 2, 0, 0, 0, [], dJx4a65c_remove_915e3), (204, 1, 12, n + 7, 0, 1025, 5125, [1108, 1106, 1107, 1109], dX12_proposes), (304, 1, 12, n + 4, 0, 21, 105, [1125, 1123, 1120, 1121, 1401, 1115, 1116, 1117, 1118, 1119, 1210, 1311, 1124, 1310, 1312], dX12_agree)]) (SD := []) (AL := []) (fun _ h => absurd h List.not_mem_nil) (List.forall_mem_cons.mpr ⟨⟨mJx4a65c_size_8abf5, 0, TJx4a65c, 3, rfl, by decide, hX12_268, WJx4a65c_size_8abf5, rfl, EJx4a65c_size_8abf5 g _ n⟩, (List.forall_mem_cons.mpr ⟨⟨mJx4a65c_get_915e3, 1, TJx4a65c, 3, rfl, by decide, hX12_294, WJx4a65c_get_915e3, rfl, EJx4a65c_get_915e3 g _ n⟩, (List.forall_mem_cons.mpr ⟨⟨mJx4a65c_remove_915e3, 1, TJx4a65c, 3, rfl, by decide, hX12_298, WJx4a65c_remove_915e3, rfl, EJx4a65c_remove_915e3 g _ n hE⟩, (List.forall_mem_cons.mpr ⟨⟨mX12_proposes, 0, TX12, 25, rfl, by decide, hX12_204, WX12_proposes, rfl, EX12_proposes g _ n hE⟩, (List.forall_mem_cons.mpr ⟨⟨mX12_agree, 0, TX12, 25, rfl, by decide, hX12_304, WX12_agree, rfl, EX12_agree g _ n hE⟩, (fun _ h => absurd h List.not_mem_nil)⟩)⟩)⟩)⟩)⟩) (fun _ h => absurd h List.not_mem_nil) [2] 10 _ _ _ _ _ _ ?_
  simp (maxSteps := 1000000) [↓Bool.cond_eq_ite, -Prod.forall, -Prod.exists, -Prod.mk.injEq, ↓jc_eq_t, ↓jc_eq_f, ↓jc_ne_t, ↓jc_ne_f, ↓jc_lt_t, ↓jc_lt_f, ↓jc_ge_t, ↓jc_ge_f, ↓jc_gt_t, ↓jc_gt_f, ↓jc_le_t, ↓jc_le_f, dvk, tX12_pass, jtb, jol, dvl, dal, dst, jlk, jcmp, jbin, jfl, qX12, jc2, qlX12, jcat, jel, lv_args, Value.category, jins, jsrt, jins2, jble, jblt, jf3, List.filter_cons, List.filter_nil, Dlo, Dnr, DnL, Dfree, Droom, DuS_S, DuS_I, DuS_L, DuS_R, DuS_N, DuS_A, DuI_S, DuI_I, DuI_L, DuI_R, DuI_N, DuI_A, DuL_S, DuL_I, DuL_L, DuL_R, DuL_N, DuL_A, DuR_S, DuR_I, DuR_L, DuR_R, DuR_N, DuR_A, Dnw_S, Dnw_I, Dnw_L, Dnw_R, Dnw_N, Dnw_A, DrI_S, DrI_I, DrI_L, DrI_R, DrI_N, DrI_A, DrJ_S, DrJ_I, DrJ_L, DrJ_R, DrJ_N, DrJ_A, dm64, G_d, G_x0, dJx4a65c_size_8abf5, dJx4a65c_get_915e3, dJx4a65c_remove_915e3, dX12_proposes, dX12_agree, doR, doRI, -Int32.not_le, -Int32.not_lt, -Int64.not_le, -Int64.not_lt, i3lt, i6lt, hz2]
  try simp (disch := omega) [-Prod.forall, -Prod.exists, -Prod.mk.injEq, -Int32.not_le, -Int32.not_lt, -Int64.not_le, -Int64.not_lt, i3lt, i6lt, hz2]
  exact hA
