/-! a month: the plans, walked -/
theorem j3_3 : jin 0 3 ∧ jin 1 3 ∧ jin 2 3 ∧ (0 : Int32).toNatClampNeg = 0 ∧ (1 : Int32).toNatClampNeg = 1 ∧ (2 : Int32).toNatClampNeg = 2 := ⟨jinN (p := 0) (by omega) (by omega), jinN (p := 1) (by omega) (by omega), jinN (p := 2) (by omega) (by omega), by decide, by decide, by decide⟩
theorem prRm_u {σ : dM} {i : Int32} (h : prRm σ i) (p : Nat) (x : Int32) : prRm (DuI σ 1101 p x) i := by
  obtain ⟨k, c, e, hk, hc, h1, h2, h3, h4, h5, h6⟩ := h
  exact ⟨k, c, e, hk, hc, h1, by rw [DuI_I, if_neg (by omega)]; exact h2, h3, h4, h5, h6⟩
set_option maxRecDepth 100000 in
set_option maxHeartbeats 4000000 in
theorem EPs_1 {g : jG} {n : Nat} {z : dZ} {R : Option Value → dM → Nat → Nat → Prop} (hE : dEs g) (hR : dRok g z mX12_pass R) (hz : z.1.frames = n + 8 ∧ z.1.locals = 64 * (n + 8) ∧ z.1.cells = 1046 ∧ z.1.slots = 5230) {σ0 σ : dM} {s : jM} {f : Nat → Int32} {N M K j : Nat} (hs : xRk s M N K) (d : dG f M N) (hj : j < K) (h : stA σ0 σ s f N M K j)
    (ih : ∀ σ, stA σ0 σ s f N M K (j + 1) → DW g z mX12_pass 2 [(0, .ref 1000), (1, .int (nI (cn (mO (rw3 s (psI s f (j + 1)))) (j + 1))))] [] σ 0 0) : DW g z mX12_pass 2 [(0, .ref 1000), (1, .int (nI (cn (mO (rw3 s (psI s f j))) j)))] [] σ 0 0 := by
  have hK : K ≤ 2 := h.2.1.1
  have hk := h.1.1
  obtain ⟨g1, g2, g3, g4, g5, g6⟩ := dk_pl hk
  have hcut := mO_ps (s := s) (f := f) (j := j) (by omega)
  by_cases b1 : mO (rw3 s (psI s f j)) j = true
  · have hlt := cn_lt b1 hj
    have l9 := cn_le (mO (rw3 s (psI s f j))) K
    have hge : ¬ nI (cn (mO (rw3 s (psI s f j))) K) ≤ nI (cn (mO (rw3 s (psI s f j))) j) := nI_ge hlt (by omega)
    obtain ⟨a1, a2, a3⟩ := rP_al h.2.1 hlt g3
    have hsz : DI σ 1900 2 = nI (cn (mO (rw3 s (psI s f j))) K) := h.2.1.2.1
    rw [qpl_cn b1 hj] at a3
    have ek : (nI (cn (mO (rw3 s (psI s f j))) j)).toNatClampNeg = cn (mO (rw3 s (psI s f j))) j := nI_clamp (by omega)
    have hdy : darr (1138 + j) 1 0 = true := by
      have e : j = 0 ∨ j = 1 := by omega
      rcases e with e | e <;> rw [e] <;> decide +kernel
    obtain ⟨u1, u2, u3, u4, u5⟩ := (h.2.1.2.2 (by omega)).2.1 j hj
    rw [rw3_of _ _ (by omega)] at u3 u4 u5
    have e17 : DI σ 1000 17 = f 5 := by
      rw [h.1.2.1.2.2.2.2.2.2.2.1, psX_o s f (by omega) (fun p => by omega)]
    refine dvk_ok (nC := n + 7) DX12_pass hTyA hR (VC := []) (VD := [(268, 1, 15, n + 0, 0, 0, 0, [], dJx4a65c_size_8abf5), (294, 2, 15, n + 2, 0, 0, 0, [], dJx4a65c_get_915e3), (298, 2, 15, n + 2, 0, 0, 0, [], dJx4a65c_remove_915e3), (204, 1, 12, n + 7, 0, 1025, 5125, [1108, 1106, 1107, 1109], dX12_proposes), (304, 1, 12, n + 4, 0, 21, 105, [1125, 1123, 1120, 1121, 1401, 1115, 1116, 1117, 1118, 1119, 1210, 1311, 1124, 1310, 1312], dX12_agree)]) (SD := []) (AL := []) (fun _ h => absurd h List.not_mem_nil) (List.forall_mem_cons.mpr ⟨⟨mJx4a65c_size_8abf5, 0, TJx4a65c, 3, rfl, by decide, hX12_268, WJx4a65c_size_8abf5, rfl, EJx4a65c_size_8abf5 g _ n⟩, (List.forall_mem_cons.mpr ⟨⟨mJx4a65c_get_915e3, 1, TJx4a65c, 3, rfl, by decide, hX12_294, WJx4a65c_get_915e3, rfl, EJx4a65c_get_915e3 g _ n⟩, (List.forall_mem_cons.mpr ⟨⟨mJx4a65c_remove_915e3, 1, TJx4a65c, 3, rfl, by decide, hX12_298, WJx4a65c_remove_915e3, rfl, EJx4a65c_remove_915e3 g _ n hE⟩, (List.forall_mem_cons.mpr ⟨⟨mX12_proposes, 0, TX12, 25, rfl, by decide, hX12_204, WX12_proposes, rfl, EX12_proposes g _ n hE⟩, (List.forall_mem_cons.mpr ⟨⟨mX12_agree, 0, TX12, 25, rfl, by decide, hX12_304, WX12_agree, rfl, EX12_agree g _ n hE⟩, (fun _ h => absurd h List.not_mem_nil)⟩)⟩)⟩)⟩)⟩) (fun _ h => absurd h List.not_mem_nil) [21, 67] 20 _ _ _ _ _ _ ?_
    simp (maxSteps := 1000000) [↓Bool.cond_eq_ite, -Prod.forall, -Prod.exists, -Prod.mk.injEq, ↓jc_eq_t, ↓jc_eq_f, ↓jc_ne_t, ↓jc_ne_f, ↓jc_lt_t, ↓jc_lt_f, ↓jc_ge_t, ↓jc_ge_f, ↓jc_gt_t, ↓jc_gt_f, ↓jc_le_t, ↓jc_le_f, dvk, tX12_pass, jtb, jol, dvl, dal, dst, jlk, jcmp, jbin, jfl, qX12, jc2, qlX12, jcat, jel, lv_args, Value.category, jins, jsrt, jins2, jble, jblt, jf3, List.filter_cons, List.filter_nil, Dlo, Dnr, DnL, Dfree, Droom, DuS_S, DuS_I, DuS_L, DuS_R, DuS_N, DuS_A, DuI_S, DuI_I, DuI_L, DuI_R, DuI_N, DuI_A, DuL_S, DuL_I, DuL_L, DuL_R, DuL_N, DuL_A, DuR_S, DuR_I, DuR_L, DuR_R, DuR_N, DuR_A, Dnw_S, Dnw_I, Dnw_L, Dnw_R, Dnw_N, Dnw_A, DrI_S, DrI_I, DrI_L, DrI_R, DrI_N, DrI_A, DrJ_S, DrJ_I, DrJ_L, DrJ_R, DrJ_N, DrJ_A, dm64, G_d, G_x0, dJx4a65c_size_8abf5, dJx4a65c_get_915e3, dJx4a65c_remove_915e3, dX12_proposes, dX12_agree, doR, doRI, -Int32.not_le, -Int32.not_lt, -Int64.not_le, -Int64.not_lt, i3lt, i6lt, hz, g1, g2, g3, hsz, hge, a1, G_al]
    try simp (disch := omega) [-Prod.forall, -Prod.exists, -Prod.mk.injEq, -Int32.not_le, -Int32.not_lt, -Int64.not_le, -Int64.not_lt, i3lt, i6lt, hz, g1, g2, g3, hsz, hge, a1, G_al]
    rintro _ τ y hy rfl rfl
    rw [ek] at hy
    have ey := a3.symm.trans hy
    cases ey
    refine dr_castI hdy u1 (jGw_of 1335 (by decide +kernel) (by decide +kernel)) (show decode cX12_pass 21 = .ok (.checkcast 156, 3) by decide +kernel) ?_
    by_cases c : s.1 328 j = f 5
    · rcases hcut with ⟨q, -⟩ | ⟨-, -, b2, b3, e⟩
      · exact absurd ⟨b1, c⟩ q
      · obtain ⟨⟨p, pp1, pp2⟩, -, -, -⟩ := hs.2.2.1.2.2 j (by omega)
        have jp : jin (s.1 327 j) N := by
          rw [pp2]
          exact jinN pp1 (by have := hk.1.1.2; omega)
        have a4 := prRm_u a2 (s.1 327 j).toNatClampNeg (s.1 329 j)
        have u4' : DI τ (1138 + j) 1 = f 5 := u4.trans c
        have hsz2 : z.1.frames = n + 8 ∧ z.1.locals = 64 * (n + 8) ∧ z.1.cells = 1046 ∧ z.1.slots = 5230 := hz
        refine dvk_ok (nC := n + 7) DX12_pass hTyA hR (VC := []) (VD := [(268, 1, 15, n + 0, 0, 0, 0, [], dJx4a65c_size_8abf5), (294, 2, 15, n + 2, 0, 0, 0, [], dJx4a65c_get_915e3), (298, 2, 15, n + 2, 0, 0, 0, [], dJx4a65c_remove_915e3), (204, 1, 12, n + 7, 0, 1025, 5125, [1108, 1106, 1107, 1109], dX12_proposes), (304, 1, 12, n + 4, 0, 21, 105, [1125, 1123, 1120, 1121, 1401, 1115, 1116, 1117, 1118, 1119, 1210, 1311, 1124, 1310, 1312], dX12_agree)]) (SD := []) (AL := []) (fun _ h => absurd h List.not_mem_nil) (List.forall_mem_cons.mpr ⟨⟨mJx4a65c_size_8abf5, 0, TJx4a65c, 3, rfl, by decide, hX12_268, WJx4a65c_size_8abf5, rfl, EJx4a65c_size_8abf5 g _ n⟩, (List.forall_mem_cons.mpr ⟨⟨mJx4a65c_get_915e3, 1, TJx4a65c, 3, rfl, by decide, hX12_294, WJx4a65c_get_915e3, rfl, EJx4a65c_get_915e3 g _ n⟩, (List.forall_mem_cons.mpr ⟨⟨mJx4a65c_remove_915e3, 1, TJx4a65c, 3, rfl, by decide, hX12_298, WJx4a65c_remove_915e3, rfl, EJx4a65c_remove_915e3 g _ n hE⟩, (List.forall_mem_cons.mpr ⟨⟨mX12_proposes, 0, TX12, 25, rfl, by decide, hX12_204, WX12_proposes, rfl, EX12_proposes g _ n hE⟩, (List.forall_mem_cons.mpr ⟨⟨mX12_agree, 0, TX12, 25, rfl, by decide, hX12_304, WX12_agree, rfl, EX12_agree g _ n hE⟩, (fun _ h => absurd h List.not_mem_nil)⟩)⟩)⟩)⟩)⟩) (fun _ h => absurd h List.not_mem_nil) [60, 35] 30 _ _ _ _ _ _ ?_
        simp (maxSteps := 1000000) [↓Bool.cond_eq_ite, -Prod.forall, -Prod.exists, -Prod.mk.injEq, ↓jc_eq_t, ↓jc_eq_f, ↓jc_ne_t, ↓jc_ne_f, ↓jc_lt_t, ↓jc_lt_f, ↓jc_ge_t, ↓jc_ge_f, ↓jc_gt_t, ↓jc_gt_f, ↓jc_le_t, ↓jc_le_f, dvk, tX12_pass, jtb, jol, dvl, dal, dst, jlk, jcmp, jbin, jfl, qX12, jc2, qlX12, jcat, jel, lv_args, Value.category, jins, jsrt, jins2, jble, jblt, jf3, List.filter_cons, List.filter_nil, Dlo, Dnr, DnL, Dfree, Droom, DuS_S, DuS_I, DuS_L, DuS_R, DuS_N, DuS_A, DuI_S, DuI_I, DuI_L, DuI_R, DuI_N, DuI_A, DuL_S, DuL_I, DuL_L, DuL_R, DuL_N, DuL_A, DuR_S, DuR_I, DuR_L, DuR_R, DuR_N, DuR_A, Dnw_S, Dnw_I, Dnw_L, Dnw_R, Dnw_N, Dnw_A, DrI_S, DrI_I, DrI_L, DrI_R, DrI_N, DrI_A, DrJ_S, DrJ_I, DrJ_L, DrJ_R, DrJ_N, DrJ_A, dm64, G_d, G_x0, dJx4a65c_size_8abf5, dJx4a65c_get_915e3, dJx4a65c_remove_915e3, dX12_proposes, dX12_agree, doR, doRI, -Int32.not_le, -Int32.not_lt, -Int64.not_le, -Int64.not_lt, i3lt, i6lt, hz, g1, g2, g3, g4, g5, g6, hdy, u1, u2, u3, u4', u5, e17, j3_3, jp, a4, G_al]
        try simp (disch := omega) [-Prod.forall, -Prod.exists, -Prod.mk.injEq, -Int32.not_le, -Int32.not_lt, -Int64.not_le, -Int64.not_lt, i3lt, i6lt, hz, g1, g2, g3, g4, g5, g6, hdy, u1, u2, u3, u4', u5, e17, j3_3, jp, a4, G_al]
        rintro _ τ2 y2 hy2 rfl hm
        rw [ek] at hy2
        have ey := a3.symm.trans hy2
        cases ey
        have u9 : DA τ2 (1138 + j) = true := by
          rw [hm.2.2.2.2.2.1, DuI_A]
          exact u1
        refine dr_castI hdy u9 (jGw_of 1335 (by decide +kernel) (by decide +kernel)) (show decode cX12_pass 60 = .ok (.checkcast 156, 3) by decide +kernel) ?_
        have j9 := ih τ2 (stA_due hs d h hj b1 b2 b3 e hm)
        rw [(cn_rm hK hj b1 b2 (fun i hi => b3 i (by omega))).2.1] at j9
        refine dvk_ok (nC := n + 7) DX12_pass hTyA hR (VC := []) (VD := [(268, 1, 15, n + 0, 0, 0, 0, [], dJx4a65c_size_8abf5), (294, 2, 15, n + 2, 0, 0, 0, [], dJx4a65c_get_915e3), (298, 2, 15, n + 2, 0, 0, 0, [], dJx4a65c_remove_915e3), (204, 1, 12, n + 7, 0, 1025, 5125, [1108, 1106, 1107, 1109], dX12_proposes), (304, 1, 12, n + 4, 0, 21, 105, [1125, 1123, 1120, 1121, 1401, 1115, 1116, 1117, 1118, 1119, 1210, 1311, 1124, 1310, 1312], dX12_agree)]) (SD := []) (AL := []) (fun _ h => absurd h List.not_mem_nil) (List.forall_mem_cons.mpr ⟨⟨mJx4a65c_size_8abf5, 0, TJx4a65c, 3, rfl, by decide, hX12_268, WJx4a65c_size_8abf5, rfl, EJx4a65c_size_8abf5 g _ n⟩, (List.forall_mem_cons.mpr ⟨⟨mJx4a65c_get_915e3, 1, TJx4a65c, 3, rfl, by decide, hX12_294, WJx4a65c_get_915e3, rfl, EJx4a65c_get_915e3 g _ n⟩, (List.forall_mem_cons.mpr ⟨⟨mJx4a65c_remove_915e3, 1, TJx4a65c, 3, rfl, by decide, hX12_298, WJx4a65c_remove_915e3, rfl, EJx4a65c_remove_915e3 g _ n hE⟩, (List.forall_mem_cons.mpr ⟨⟨mX12_proposes, 0, TX12, 25, rfl, by decide, hX12_204, WX12_proposes, rfl, EX12_proposes g _ n hE⟩, (List.forall_mem_cons.mpr ⟨⟨mX12_agree, 0, TX12, 25, rfl, by decide, hX12_304, WX12_agree, rfl, EX12_agree g _ n hE⟩, (fun _ h => absurd h List.not_mem_nil)⟩)⟩)⟩)⟩)⟩) (fun _ h => absurd h List.not_mem_nil) [2] 10 _ _ _ _ _ _ ?_
        simp (maxSteps := 1000000) [↓Bool.cond_eq_ite, -Prod.forall, -Prod.exists, -Prod.mk.injEq, ↓jc_eq_t, ↓jc_eq_f, ↓jc_ne_t, ↓jc_ne_f, ↓jc_lt_t, ↓jc_lt_f, ↓jc_ge_t, ↓jc_ge_f, ↓jc_gt_t, ↓jc_gt_f, ↓jc_le_t, ↓jc_le_f, dvk, tX12_pass, jtb, jol, dvl, dal, dst, jlk, jcmp, jbin, jfl, qX12, jc2, qlX12, jcat, jel, lv_args, Value.category, jins, jsrt, jins2, jble, jblt, jf3, List.filter_cons, List.filter_nil, Dlo, Dnr, DnL, Dfree, Droom, DuS_S, DuS_I, DuS_L, DuS_R, DuS_N, DuS_A, DuI_S, DuI_I, DuI_L, DuI_R, DuI_N, DuI_A, DuL_S, DuL_I, DuL_L, DuL_R, DuL_N, DuL_A, DuR_S, DuR_I, DuR_L, DuR_R, DuR_N, DuR_A, Dnw_S, Dnw_I, Dnw_L, Dnw_R, Dnw_N, Dnw_A, DrI_S, DrI_I, DrI_L, DrI_R, DrI_N, DrI_A, DrJ_S, DrJ_I, DrJ_L, DrJ_R, DrJ_N, DrJ_A, dm64, G_d, G_x0, dJx4a65c_size_8abf5, dJx4a65c_get_915e3, dJx4a65c_remove_915e3, dX12_proposes, dX12_agree, doR, doRI, -Int32.not_le, -Int32.not_lt, -Int64.not_le, -Int64.not_lt, i3lt, i6lt, hz]
        try simp (disch := omega) [-Prod.forall, -Prod.exists, -Prod.mk.injEq, -Int32.not_le, -Int32.not_lt, -Int64.not_le, -Int64.not_lt, i3lt, i6lt, hz]
        exact DW.mono j9 (by simp)
    · rcases hcut with ⟨-, e⟩ | ⟨-, b, -⟩
      · have j9 := ih τ (stA_same h e)
        rw [e] at j9
        have e2 : cn (mO (rw3 s (psI s f j))) (j + 1) = cn (mO (rw3 s (psI s f j))) j + 1 := by
          show cn _ j + (if mO (rw3 s (psI s f j)) j = true then 1 else 0) = _
          rw [if_pos b1]
        rw [e2, ← nI_1] at j9
        have u4' : ¬ DI τ (1138 + j) 1 = f 5 := fun z9 => c (u4.symm.trans z9)
        refine dvk_ok (nC := n + 7) DX12_pass hTyA hR (VC := []) (VD := [(268, 1, 15, n + 0, 0, 0, 0, [], dJx4a65c_size_8abf5), (294, 2, 15, n + 2, 0, 0, 0, [], dJx4a65c_get_915e3), (298, 2, 15, n + 2, 0, 0, 0, [], dJx4a65c_remove_915e3), (204, 1, 12, n + 7, 0, 1025, 5125, [1108, 1106, 1107, 1109], dX12_proposes), (304, 1, 12, n + 4, 0, 21, 105, [1125, 1123, 1120, 1121, 1401, 1115, 1116, 1117, 1118, 1119, 1210, 1311, 1124, 1310, 1312], dX12_agree)]) (SD := []) (AL := []) (fun _ h => absurd h List.not_mem_nil) (List.forall_mem_cons.mpr ⟨⟨mJx4a65c_size_8abf5, 0, TJx4a65c, 3, rfl, by decide, hX12_268, WJx4a65c_size_8abf5, rfl, EJx4a65c_size_8abf5 g _ n⟩, (List.forall_mem_cons.mpr ⟨⟨mJx4a65c_get_915e3, 1, TJx4a65c, 3, rfl, by decide, hX12_294, WJx4a65c_get_915e3, rfl, EJx4a65c_get_915e3 g _ n⟩, (List.forall_mem_cons.mpr ⟨⟨mJx4a65c_remove_915e3, 1, TJx4a65c, 3, rfl, by decide, hX12_298, WJx4a65c_remove_915e3, rfl, EJx4a65c_remove_915e3 g _ n hE⟩, (List.forall_mem_cons.mpr ⟨⟨mX12_proposes, 0, TX12, 25, rfl, by decide, hX12_204, WX12_proposes, rfl, EX12_proposes g _ n hE⟩, (List.forall_mem_cons.mpr ⟨⟨mX12_agree, 0, TX12, 25, rfl, by decide, hX12_304, WX12_agree, rfl, EX12_agree g _ n hE⟩, (fun _ h => absurd h List.not_mem_nil)⟩)⟩)⟩)⟩)⟩) (fun _ h => absurd h List.not_mem_nil) [2, 41] 20 _ _ _ _ _ _ ?_
        simp (maxSteps := 1000000) [↓Bool.cond_eq_ite, -Prod.forall, -Prod.exists, -Prod.mk.injEq, ↓jc_eq_t, ↓jc_eq_f, ↓jc_ne_t, ↓jc_ne_f, ↓jc_lt_t, ↓jc_lt_f, ↓jc_ge_t, ↓jc_ge_f, ↓jc_gt_t, ↓jc_gt_f, ↓jc_le_t, ↓jc_le_f, dvk, tX12_pass, jtb, jol, dvl, dal, dst, jlk, jcmp, jbin, jfl, qX12, jc2, qlX12, jcat, jel, lv_args, Value.category, jins, jsrt, jins2, jble, jblt, jf3, List.filter_cons, List.filter_nil, Dlo, Dnr, DnL, Dfree, Droom, DuS_S, DuS_I, DuS_L, DuS_R, DuS_N, DuS_A, DuI_S, DuI_I, DuI_L, DuI_R, DuI_N, DuI_A, DuL_S, DuL_I, DuL_L, DuL_R, DuL_N, DuL_A, DuR_S, DuR_I, DuR_L, DuR_R, DuR_N, DuR_A, Dnw_S, Dnw_I, Dnw_L, Dnw_R, Dnw_N, Dnw_A, DrI_S, DrI_I, DrI_L, DrI_R, DrI_N, DrI_A, DrJ_S, DrJ_I, DrJ_L, DrJ_R, DrJ_N, DrJ_A, dm64, G_d, G_x0, dJx4a65c_size_8abf5, dJx4a65c_get_915e3, dJx4a65c_remove_915e3, dX12_proposes, dX12_agree, doR, doRI, -Int32.not_le, -Int32.not_lt, -Int64.not_le, -Int64.not_lt, i3lt, i6lt, hz, g1, hdy, u1, u2, u4', e17, j3_3, G_al]
        try simp (disch := omega) [-Prod.forall, -Prod.exists, -Prod.mk.injEq, -Int32.not_le, -Int32.not_lt, -Int64.not_le, -Int64.not_lt, i3lt, i6lt, hz, g1, hdy, u1, u2, u4', e17, j3_3, G_al]
        exact DW.mono j9 (by simp)
      · exact absurd b c
  · rcases hcut with ⟨-, e⟩ | ⟨b, -⟩
    · have j9 := ih σ (stA_same h e)
      rw [e] at j9
      have e2 : cn (mO (rw3 s (psI s f j))) (j + 1) = cn (mO (rw3 s (psI s f j))) j := by
        show cn _ j + (if mO (rw3 s (psI s f j)) j = true then 1 else 0) = _
        rw [if_neg b1]
        rfl
      rw [e2] at j9
      exact j9
    · exact absurd b b1
set_option maxRecDepth 100000 in
set_option maxHeartbeats 4000000 in
theorem EPs_A {g : jG} {n : Nat} {z : dZ} {R : Option Value → dM → Nat → Nat → Prop} (hE : dEs g) (hR : dRok g z mX12_pass R) (hz : z.1.frames = n + 8 ∧ z.1.locals = 64 * (n + 8) ∧ z.1.cells = 1046 ∧ z.1.slots = 5230) {σ0 σ : dM} {s : jM} {f : Nat → Int32} {N M K : Nat} (hs : xRk s M N K) (d : dG f M N) (h : stA σ0 σ s f N M K 0)
    (fin : ∀ σ, stA σ0 σ s f N M K K → DW g z mX12_pass 67 [(0, .ref 1000)] [] σ 0 0) : DW g z mX12_pass 2 [(0, .ref 1000), (1, .int 0)] [] σ 0 0 := by
  have key := jloop (P := fun j => ∀ σ, stA σ0 σ s f N M K j → DW g z mX12_pass 2 [(0, .ref 1000), (1, .int (nI (cn (mO (rw3 s (psI s f j))) j)))] [] σ 0 0) (N := K) (fun σ h => by
    have j9 := fin σ h
    obtain ⟨g1, g2, g3, g4, g5, g6⟩ := dk_pl h.1.1
    have hsz : DI σ 1900 2 = nI (cn (mO (rw3 s (psI s f K))) K) := h.2.1.2.1
    have l9 := cn_le (mO (rw3 s (psI s f K))) K
    have hK : K ≤ 2 := h.2.1.1
    have hle : nI (cn (mO (rw3 s (psI s f K))) K) ≤ nI (cn (mO (rw3 s (psI s f K))) K) := nI_le (Nat.le_refl _) (by omega)
    refine dvk_ok (nC := n + 7) DX12_pass hTyA hR (VC := []) (VD := [(268, 1, 15, n + 0, 0, 0, 0, [], dJx4a65c_size_8abf5), (294, 2, 15, n + 2, 0, 0, 0, [], dJx4a65c_get_915e3), (298, 2, 15, n + 2, 0, 0, 0, [], dJx4a65c_remove_915e3), (204, 1, 12, n + 7, 0, 1025, 5125, [1108, 1106, 1107, 1109], dX12_proposes), (304, 1, 12, n + 4, 0, 21, 105, [1125, 1123, 1120, 1121, 1401, 1115, 1116, 1117, 1118, 1119, 1210, 1311, 1124, 1310, 1312], dX12_agree)]) (SD := []) (AL := []) (fun _ h => absurd h List.not_mem_nil) (List.forall_mem_cons.mpr ⟨⟨mJx4a65c_size_8abf5, 0, TJx4a65c, 3, rfl, by decide, hX12_268, WJx4a65c_size_8abf5, rfl, EJx4a65c_size_8abf5 g _ n⟩, (List.forall_mem_cons.mpr ⟨⟨mJx4a65c_get_915e3, 1, TJx4a65c, 3, rfl, by decide, hX12_294, WJx4a65c_get_915e3, rfl, EJx4a65c_get_915e3 g _ n⟩, (List.forall_mem_cons.mpr ⟨⟨mJx4a65c_remove_915e3, 1, TJx4a65c, 3, rfl, by decide, hX12_298, WJx4a65c_remove_915e3, rfl, EJx4a65c_remove_915e3 g _ n hE⟩, (List.forall_mem_cons.mpr ⟨⟨mX12_proposes, 0, TX12, 25, rfl, by decide, hX12_204, WX12_proposes, rfl, EX12_proposes g _ n hE⟩, (List.forall_mem_cons.mpr ⟨⟨mX12_agree, 0, TX12, 25, rfl, by decide, hX12_304, WX12_agree, rfl, EX12_agree g _ n hE⟩, (fun _ h => absurd h List.not_mem_nil)⟩)⟩)⟩)⟩)⟩) (fun _ h => absurd h List.not_mem_nil) [67, 13] 10 _ _ _ _ _ _ ?_
    simp (maxSteps := 1000000) [↓Bool.cond_eq_ite, -Prod.forall, -Prod.exists, -Prod.mk.injEq, ↓jc_eq_t, ↓jc_eq_f, ↓jc_ne_t, ↓jc_ne_f, ↓jc_lt_t, ↓jc_lt_f, ↓jc_ge_t, ↓jc_ge_f, ↓jc_gt_t, ↓jc_gt_f, ↓jc_le_t, ↓jc_le_f, dvk, tX12_pass, jtb, jol, dvl, dal, dst, jlk, jcmp, jbin, jfl, qX12, jc2, qlX12, jcat, jel, lv_args, Value.category, jins, jsrt, jins2, jble, jblt, jf3, List.filter_cons, List.filter_nil, Dlo, Dnr, DnL, Dfree, Droom, DuS_S, DuS_I, DuS_L, DuS_R, DuS_N, DuS_A, DuI_S, DuI_I, DuI_L, DuI_R, DuI_N, DuI_A, DuL_S, DuL_I, DuL_L, DuL_R, DuL_N, DuL_A, DuR_S, DuR_I, DuR_L, DuR_R, DuR_N, DuR_A, Dnw_S, Dnw_I, Dnw_L, Dnw_R, Dnw_N, Dnw_A, DrI_S, DrI_I, DrI_L, DrI_R, DrI_N, DrI_A, DrJ_S, DrJ_I, DrJ_L, DrJ_R, DrJ_N, DrJ_A, dm64, G_d, G_x0, dJx4a65c_size_8abf5, dJx4a65c_get_915e3, dJx4a65c_remove_915e3, dX12_proposes, dX12_agree, doR, doRI, -Int32.not_le, -Int32.not_lt, -Int64.not_le, -Int64.not_lt, i3lt, i6lt, hz, g1, g2, g3, hsz, hle, G_al]
    try simp (disch := omega) [-Prod.forall, -Prod.exists, -Prod.mk.injEq, -Int32.not_le, -Int32.not_lt, -Int64.not_le, -Int64.not_lt, i3lt, i6lt, hz, g1, g2, g3, hsz, hle, G_al]
    exact DW.mono j9 (by simp)) (fun j hj ih σ h => EPs_1 hE hR hz hs d hj h ih)
  have := key σ h
  rw [show cn (mO (rw3 s (psI s f 0))) 0 = 0 from rfl, nI_0] at this
  exact this
