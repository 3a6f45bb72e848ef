/-! the law's does, whole -/
theorem DkF.mem {z : dZ} : ∀ {tl : List Nat}, DkF z tl → ∀ a ∈ tl, z.2.2.1 a = false
  | [], _, _, h => absurd h List.not_mem_nil
  | b :: t, h, a, ha => by
    rcases List.mem_cons.mp ha with rfl | ha
    · exact h.1
    · exact DkF.mem h.2 a ha
set_option maxRecDepth 100000 in
set_option maxHeartbeats 4000000 in
theorem EDo_k {g : jG} {n : Nat} {z : dZ} {post : Option Value → dM → Prop} (hE : dEs g) (hR : dRok g z mX12_does (dRp 3200 16000 post)) (hz : z.1.frames = n + 9 ∧ z.1.locals = 64 * (n + 9) ∧ z.1.cells = 3200 ∧ z.1.slots = 16000) (hkp : dKp z) {σ : dM} {s0 : jM} {N M K mo : Nat} (h : rZ σ s0 N M K mo) (hmo : mo ≤ 290) (hcl : Dcl0 σ) {x : Int32}
    (hp : ∀ mo' s1 τ, mo' ≤ mo + 3 → xSm s0 s1 → rZ τ s1 N M K mo' → Dcl0 τ → post (some (.int 1)) τ) : DW g z mX12_does 766 (doL x N M) [] σ 0 0 := by
  have hf := dk_f h.1.1.1
  have hm3 : md (x >>> 5) 3 < 3 := md_lt _ (by decide)
  have s5 : (5 : Int32) &&& 31 = 5 := by decide
  have e3 : (3 : Int32).toNatClampNeg = 3 := by decide
  have hm1 : (1 : Int32) + nI (md (x >>> 5) 3) = nI (md (x >>> 5) 3 + 1) := by rw [Int32.add_comm, nI_1]
  obtain ⟨m, em⟩ : ∃ m, m = md (x >>> 5) 3 + 1 := ⟨_, rfl⟩
  rw [← em] at hm1
  have b3 : m ≤ 3 := by omega
  have b1 : 1 ≤ m := by omega
  unfold doL
  generalize nI (md (x >>> 4) N) = p
  generalize nI (md (x >>> 8) N) = q
  generalize nI (md (x >>> 6) M) = r
  have key := jloop (P := fun k => ∀ τ, stK σ τ s0 N M K mo k → DW g z mX12_does 780 [(0, .ref 1000), (1, .int x), (2, .int p), (3, .int q), (4, .int r), (5, .int (nI m)), (6, .int (nI k))] [] τ (1046 * k) (5230 * k)) (N := m) (fun τ hC => by
    have hf1 := dk_f hC.1.1.1
    have hle : nI m ≤ nI m := Int32.le_refl _
    have hG : xG s0 (DS τ) := by rw [hC.1.2.2.1]; exact h.1.2.1
    have em2 : (nI m).toNatClampNeg = m := nI_clamp (by omega)
    have d1 : 1 ≤ nI m := by
      have := nI_le b1 (by omega)
      exact this
    have d2 : nI m ≤ 24 := by
      have := nI_le (a := m) (b := 24) (by omega) (by omega)
      exact this
    have d3 : s0.1 323 5 + nI m ≤ 999 := by
      rw [h.2.2.1.1, nI_add]
      have := nI_le (a := mo + m) (b := 999) (by omega) (by omega)
      exact this
    have a17 : DI τ 1000 17 = pmI s0 (s0.1 323) m 5 := hC.1.1.2.1.2.2.2.2.2.2.2.1
    have hclτ := hC.1.2.2.2.2.2
    refine dvk_ok (nC := n + 8) DX12_does_k hTyA hR (VC := [(319, 2, 11, qX11_moveIn s0), (322, 2, 11, qX11_moveOut s0), (325, 4, 11, qX11_setValue s0), (329, 4, 11, qX11_setRefusal s0), (333, 2, 11, qX11_setLease s0), (336, 3, 11, qX11_setSetting s0), (216, 1, 11, qX11_divide s0), (339, 3, 11, qX11_swapRooms s0), (345, 2, 11, qX11_passMonths s0)]) (VD := [(164, 1, 12, n + 0, 0, 0, 0, [], dX12_living), (204, 1, 12, n + 7, 0, 1025, 5125, [1108, 1106, 1107, 1109], dX12_proposes), (304, 1, 12, n + 4, 0, 21, 105, [1125, 1123, 1120, 1121, 1401, 1115, 1116, 1117, 1118, 1119, 1210, 1311, 1124, 1310, 1312], dX12_agree), (256, 1, 12, n + 2, 0, 0, 0, [], dX12_allEnvy)]) (SD := [(33, 2, 0, n + 0, 0, 0, 0, [], dL_mod)]) (AL := []) (List.forall_mem_cons.mpr ⟨⟨mX11_moveIn, n + 4, 1, TX11, 9, rfl, by omega, hX12_319, WX11_moveIn, rfl, QX11_moveIn g (n) s0⟩, (List.forall_mem_cons.mpr ⟨⟨mX11_moveOut, n + 4, 1, TX11, 9, rfl, by omega, hX12_322, WX11_moveOut, rfl, QX11_moveOut g (n) s0⟩, (List.forall_mem_cons.mpr ⟨⟨mX11_setValue, n + 4, 3, TX11, 9, rfl, by omega, hX12_325, WX11_setValue, rfl, QX11_setValue g (n) s0⟩, (List.forall_mem_cons.mpr ⟨⟨mX11_setRefusal, n + 4, 3, TX11, 9, rfl, by omega, hX12_329, WX11_setRefusal, rfl, QX11_setRefusal g (n) s0⟩, (List.forall_mem_cons.mpr ⟨⟨mX11_setLease, n + 4, 1, TX11, 9, rfl, by omega, hX12_333, WX11_setLease, rfl, QX11_setLease g (n) s0⟩, (List.forall_mem_cons.mpr ⟨⟨mX11_setSetting, n + 4, 2, TX11, 9, rfl, by omega, hX12_336, WX11_setSetting, rfl, QX11_setSetting g (n) s0⟩, (List.forall_mem_cons.mpr ⟨⟨mX11_divide, n + 6, 0, TX11, 9, rfl, by omega, hX12_216, WX11_divide, rfl, QX11_divide g (n) s0⟩, (List.forall_mem_cons.mpr ⟨⟨mX11_swapRooms, n + 5, 2, TX11, 9, rfl, by omega, hX12_339, WX11_swapRooms, rfl, QX11_swapRooms g (n) s0⟩, (List.forall_mem_cons.mpr ⟨⟨mX11_passMonths, n + 7, 1, TX11, 9, rfl, by omega, hX12_345, WX11_passMonths, rfl, QX11_passMonths g (n) s0⟩, (fun _ h => absurd h List.not_mem_nil)⟩)⟩)⟩)⟩)⟩)⟩)⟩)⟩)⟩) (List.forall_mem_cons.mpr ⟨⟨mX12_living, 0, TX12, 25, rfl, by decide, hX12_164, WX12_living, rfl, EX12_living g _ n⟩, (List.forall_mem_cons.mpr ⟨⟨mX12_proposes, 0, TX12, 25, rfl, by decide, hX12_204, WX12_proposes, rfl, EX12_proposes g _ n hE⟩, (List.forall_mem_cons.mpr ⟨⟨mX12_agree, 0, TX12, 25, rfl, by decide, hX12_304, WX12_agree, rfl, EX12_agree g _ n hE⟩, (List.forall_mem_cons.mpr ⟨⟨mX12_allEnvy, 0, TX12, 25, rfl, by decide, hX12_256, WX12_allEnvy, rfl, EX12_allEnvy g _ n⟩, (fun _ h => absurd h List.not_mem_nil)⟩)⟩)⟩)⟩) (List.forall_mem_cons.mpr ⟨⟨mL_mod, by decide, Or.inr ⟨_, hX12_33⟩, WL_mod, EL_mod g _ n⟩, (fun _ h => absurd h List.not_mem_nil)⟩) [806, 787] 20 _ _ _ _ _ _ ?_
    simp (maxSteps := 1000000) [↓Bool.cond_eq_ite, -Prod.forall, -Prod.exists, -Prod.mk.injEq, ↓jc_eq_t, ↓jc_eq_f, ↓jc_ne_t, ↓jc_ne_f, ↓jc_lt_t, ↓jc_lt_f, ↓jc_ge_t, ↓jc_ge_f, ↓jc_gt_t, ↓jc_gt_f, ↓jc_le_t, ↓jc_le_f, dvk, tX12_does_k, jtb, jol, dvl, dal, dst, jlk, jcmp, jbin, jfl, qX12, jc2, qlX12, jcat, jel, lv_args, Value.category, jins, jsrt, jins2, jble, jblt, jf3, List.filter_cons, List.filter_nil, Dlo, Dnr, DnL, Dfree, Droom, DuS_S, DuS_I, DuS_L, DuS_R, DuS_N, DuS_A, DuI_S, DuI_I, DuI_L, DuI_R, DuI_N, DuI_A, DuL_S, DuL_I, DuL_L, DuL_R, DuL_N, DuL_A, DuR_S, DuR_I, DuR_L, DuR_R, DuR_N, DuR_A, Dnw_S, Dnw_I, Dnw_L, Dnw_R, Dnw_N, Dnw_A, DrI_S, DrI_I, DrI_L, DrI_R, DrI_N, DrI_A, DrJ_S, DrJ_I, DrJ_L, DrJ_R, DrJ_N, DrJ_A, dm64, G_d, G_x0, DuS_uS, dL_mod, qX11_moveIn, dX12_living, qX11_moveOut, qX11_setValue, qX11_setRefusal, qX11_setLease, qX11_setSetting, qX11_divide, dX12_proposes, dX12_agree, qX11_swapRooms, dX12_allEnvy, qX11_passMonths, doII, doR, joR, joRI, joRII, joRIII, -Int32.not_le, -Int32.not_lt, -Int64.not_le, -Int64.not_lt, i3lt, i6lt, hf1, hz, hle, hG, em2, d1, d2, d3]
    try simp (disch := omega) [-Prod.forall, -Prod.exists, -Prod.mk.injEq, -Int32.not_le, -Int32.not_lt, -Int64.not_le, -Int64.not_lt, i3lt, i6lt, hf1, hz, hle, hG, em2, d1, d2, d3]
    refine ⟨⟨by omega, by omega⟩, ?_⟩
    rintro _ υ1 rfl ⟨s1, q1, q2, q3⟩
    refine ⟨rfl, DW.gh q1 ?_⟩
    have hz1 := rZ_C h hC q2 q3
    have r1 : 1046 * m ≤ 3200 := by omega
    have r2 : 5230 * m ≤ 16000 := by omega
    refine dvk_ok (nC := n + 8) DX12_does_k hTyA hR (VC := [(319, 2, 11, oX11_moveIn), (322, 2, 11, oX11_moveOut), (325, 4, 11, oX11_setValue), (329, 4, 11, oX11_setRefusal), (333, 2, 11, oX11_setLease), (336, 3, 11, oX11_setSetting), (216, 1, 11, oX11_divide), (339, 3, 11, oX11_swapRooms), (345, 2, 11, oX11_passMonths)]) (VD := [(164, 1, 12, n + 0, 0, 0, 0, [], dX12_living), (204, 1, 12, n + 7, 0, 1025, 5125, [1108, 1106, 1107, 1109], dX12_proposes), (304, 1, 12, n + 4, 0, 21, 105, [1125, 1123, 1120, 1121, 1401, 1115, 1116, 1117, 1118, 1119, 1210, 1311, 1124, 1310, 1312], dX12_agree), (256, 1, 12, n + 2, 0, 0, 0, [], dX12_allEnvy)]) (SD := [(33, 2, 0, n + 0, 0, 0, 0, [], dL_mod)]) (AL := []) (List.forall_mem_cons.mpr ⟨⟨mX11_moveIn, n + 4, 1, TX11, 9, rfl, by omega, hX12_319, WX11_moveIn, rfl, CX11_moveIn g (n)⟩, (List.forall_mem_cons.mpr ⟨⟨mX11_moveOut, n + 4, 1, TX11, 9, rfl, by omega, hX12_322, WX11_moveOut, rfl, CX11_moveOut g (n)⟩, (List.forall_mem_cons.mpr ⟨⟨mX11_setValue, n + 4, 3, TX11, 9, rfl, by omega, hX12_325, WX11_setValue, rfl, CX11_setValue g (n)⟩, (List.forall_mem_cons.mpr ⟨⟨mX11_setRefusal, n + 4, 3, TX11, 9, rfl, by omega, hX12_329, WX11_setRefusal, rfl, CX11_setRefusal g (n)⟩, (List.forall_mem_cons.mpr ⟨⟨mX11_setLease, n + 4, 1, TX11, 9, rfl, by omega, hX12_333, WX11_setLease, rfl, CX11_setLease g (n)⟩, (List.forall_mem_cons.mpr ⟨⟨mX11_setSetting, n + 4, 2, TX11, 9, rfl, by omega, hX12_336, WX11_setSetting, rfl, CX11_setSetting g (n)⟩, (List.forall_mem_cons.mpr ⟨⟨mX11_divide, n + 6, 0, TX11, 9, rfl, by omega, hX12_216, WX11_divide, rfl, CX11_divide g (n)⟩, (List.forall_mem_cons.mpr ⟨⟨mX11_swapRooms, n + 5, 2, TX11, 9, rfl, by omega, hX12_339, WX11_swapRooms, rfl, CX11_swapRooms g (n)⟩, (List.forall_mem_cons.mpr ⟨⟨mX11_passMonths, n + 7, 1, TX11, 9, rfl, by omega, hX12_345, WX11_passMonths, rfl, CX11_passMonths g (n)⟩, (fun _ h => absurd h List.not_mem_nil)⟩)⟩)⟩)⟩)⟩)⟩)⟩)⟩)⟩) (List.forall_mem_cons.mpr ⟨⟨mX12_living, 0, TX12, 25, rfl, by decide, hX12_164, WX12_living, rfl, EX12_living g _ n⟩, (List.forall_mem_cons.mpr ⟨⟨mX12_proposes, 0, TX12, 25, rfl, by decide, hX12_204, WX12_proposes, rfl, EX12_proposes g _ n hE⟩, (List.forall_mem_cons.mpr ⟨⟨mX12_agree, 0, TX12, 25, rfl, by decide, hX12_304, WX12_agree, rfl, EX12_agree g _ n hE⟩, (List.forall_mem_cons.mpr ⟨⟨mX12_allEnvy, 0, TX12, 25, rfl, by decide, hX12_256, WX12_allEnvy, rfl, EX12_allEnvy g _ n⟩, (fun _ h => absurd h List.not_mem_nil)⟩)⟩)⟩)⟩) (List.forall_mem_cons.mpr ⟨⟨mL_mod, by decide, Or.inr ⟨_, hX12_33⟩, WL_mod, EL_mod g _ n⟩, (fun _ h => absurd h List.not_mem_nil)⟩) [] 20 _ _ _ _ _ _ ?_
    simp (maxSteps := 1000000) [↓Bool.cond_eq_ite, -Prod.forall, -Prod.exists, -Prod.mk.injEq, ↓jc_eq_t, ↓jc_eq_f, ↓jc_ne_t, ↓jc_ne_f, ↓jc_lt_t, ↓jc_lt_f, ↓jc_ge_t, ↓jc_ge_f, ↓jc_gt_t, ↓jc_gt_f, ↓jc_le_t, ↓jc_le_f, dvk, tX12_does_k, jtb, jol, dvl, dal, dst, jlk, jcmp, jbin, jfl, qX12, jc2, qlX12, jcat, jel, lv_args, Value.category, jins, jsrt, jins2, jble, jblt, jf3, List.filter_cons, List.filter_nil, Dlo, Dnr, DnL, Dfree, Droom, DuS_S, DuS_I, DuS_L, DuS_R, DuS_N, DuS_A, DuI_S, DuI_I, DuI_L, DuI_R, DuI_N, DuI_A, DuL_S, DuL_I, DuL_L, DuL_R, DuL_N, DuL_A, DuR_S, DuR_I, DuR_L, DuR_R, DuR_N, DuR_A, Dnw_S, Dnw_I, Dnw_L, Dnw_R, Dnw_N, Dnw_A, DrI_S, DrI_I, DrI_L, DrI_R, DrI_N, DrI_A, DrJ_S, DrJ_I, DrJ_L, DrJ_R, DrJ_N, DrJ_A, dm64, G_d, G_x0, dL_mod, oX11_moveIn, dX12_living, oX11_moveOut, oX11_setValue, oX11_setRefusal, oX11_setLease, oX11_setSetting, oX11_divide, dX12_proposes, dX12_agree, oX11_swapRooms, dX12_allEnvy, oX11_passMonths, doII, doR, joR, joRI, joRII, joRIII, -Int32.not_le, -Int32.not_lt, -Int64.not_le, -Int64.not_lt, i3lt, i6lt, hf1, hz, a17]
    try simp (disch := omega) [-Prod.forall, -Prod.exists, -Prod.mk.injEq, -Int32.not_le, -Int32.not_lt, -Int64.not_le, -Int64.not_lt, i3lt, i6lt, hf1, hz, a17]
    exact ⟨⟨r1, r2⟩, _, Dsub.rfl (δ := DuS τ s1) hclτ, hp (mo + m) s1 _ (by omega) q2 hz1 hclτ⟩) (fun k hk ih τ hC => EDo_k1 hE hR hz hkp h (by omega) hC hk b3 ih)
  have j := key σ (stK_0 h hcl)
  rw [nI_0] at j
  refine dvk_ok (nC := n + 8) DX12_does_k hTyA hR (VC := [(319, 2, 11, oX11_moveIn), (322, 2, 11, oX11_moveOut), (325, 4, 11, oX11_setValue), (329, 4, 11, oX11_setRefusal), (333, 2, 11, oX11_setLease), (336, 3, 11, oX11_setSetting), (216, 1, 11, oX11_divide), (339, 3, 11, oX11_swapRooms), (345, 2, 11, oX11_passMonths)]) (VD := [(164, 1, 12, n + 0, 0, 0, 0, [], dX12_living), (204, 1, 12, n + 7, 0, 1025, 5125, [1108, 1106, 1107, 1109], dX12_proposes), (304, 1, 12, n + 4, 0, 21, 105, [1125, 1123, 1120, 1121, 1401, 1115, 1116, 1117, 1118, 1119, 1210, 1311, 1124, 1310, 1312], dX12_agree), (256, 1, 12, n + 2, 0, 0, 0, [], dX12_allEnvy)]) (SD := [(33, 2, 0, n + 0, 0, 0, 0, [], dL_mod)]) (AL := []) (List.forall_mem_cons.mpr ⟨⟨mX11_moveIn, n + 4, 1, TX11, 9, rfl, by omega, hX12_319, WX11_moveIn, rfl, CX11_moveIn g (n)⟩, (List.forall_mem_cons.mpr ⟨⟨mX11_moveOut, n + 4, 1, TX11, 9, rfl, by omega, hX12_322, WX11_moveOut, rfl, CX11_moveOut g (n)⟩, (List.forall_mem_cons.mpr ⟨⟨mX11_setValue, n + 4, 3, TX11, 9, rfl, by omega, hX12_325, WX11_setValue, rfl, CX11_setValue g (n)⟩, (List.forall_mem_cons.mpr ⟨⟨mX11_setRefusal, n + 4, 3, TX11, 9, rfl, by omega, hX12_329, WX11_setRefusal, rfl, CX11_setRefusal g (n)⟩, (List.forall_mem_cons.mpr ⟨⟨mX11_setLease, n + 4, 1, TX11, 9, rfl, by omega, hX12_333, WX11_setLease, rfl, CX11_setLease g (n)⟩, (List.forall_mem_cons.mpr ⟨⟨mX11_setSetting, n + 4, 2, TX11, 9, rfl, by omega, hX12_336, WX11_setSetting, rfl, CX11_setSetting g (n)⟩, (List.forall_mem_cons.mpr ⟨⟨mX11_divide, n + 6, 0, TX11, 9, rfl, by omega, hX12_216, WX11_divide, rfl, CX11_divide g (n)⟩, (List.forall_mem_cons.mpr ⟨⟨mX11_swapRooms, n + 5, 2, TX11, 9, rfl, by omega, hX12_339, WX11_swapRooms, rfl, CX11_swapRooms g (n)⟩, (List.forall_mem_cons.mpr ⟨⟨mX11_passMonths, n + 7, 1, TX11, 9, rfl, by omega, hX12_345, WX11_passMonths, rfl, CX11_passMonths g (n)⟩, (fun _ h => absurd h List.not_mem_nil)⟩)⟩)⟩)⟩)⟩)⟩)⟩)⟩)⟩) (List.forall_mem_cons.mpr ⟨⟨mX12_living, 0, TX12, 25, rfl, by decide, hX12_164, WX12_living, rfl, EX12_living g _ n⟩, (List.forall_mem_cons.mpr ⟨⟨mX12_proposes, 0, TX12, 25, rfl, by decide, hX12_204, WX12_proposes, rfl, EX12_proposes g _ n hE⟩, (List.forall_mem_cons.mpr ⟨⟨mX12_agree, 0, TX12, 25, rfl, by decide, hX12_304, WX12_agree, rfl, EX12_agree g _ n hE⟩, (List.forall_mem_cons.mpr ⟨⟨mX12_allEnvy, 0, TX12, 25, rfl, by decide, hX12_256, WX12_allEnvy, rfl, EX12_allEnvy g _ n⟩, (fun _ h => absurd h List.not_mem_nil)⟩)⟩)⟩)⟩) (List.forall_mem_cons.mpr ⟨⟨mL_mod, by decide, Or.inr ⟨_, hX12_33⟩, WL_mod, EL_mod g _ n⟩, (fun _ h => absurd h List.not_mem_nil)⟩) [780] 20 _ _ _ _ _ _ ?_
  simp (maxSteps := 1000000) [↓Bool.cond_eq_ite, -Prod.forall, -Prod.exists, -Prod.mk.injEq, ↓jc_eq_t, ↓jc_eq_f, ↓jc_ne_t, ↓jc_ne_f, ↓jc_lt_t, ↓jc_lt_f, ↓jc_ge_t, ↓jc_ge_f, ↓jc_gt_t, ↓jc_gt_f, ↓jc_le_t, ↓jc_le_f, dvk, tX12_does_k, jtb, jol, dvl, dal, dst, jlk, jcmp, jbin, jfl, qX12, jc2, qlX12, jcat, jel, lv_args, Value.category, jins, jsrt, jins2, jble, jblt, jf3, List.filter_cons, List.filter_nil, Dlo, Dnr, DnL, Dfree, Droom, DuS_S, DuS_I, DuS_L, DuS_R, DuS_N, DuS_A, DuI_S, DuI_I, DuI_L, DuI_R, DuI_N, DuI_A, DuL_S, DuL_I, DuL_L, DuL_R, DuL_N, DuL_A, DuR_S, DuR_I, DuR_L, DuR_R, DuR_N, DuR_A, Dnw_S, Dnw_I, Dnw_L, Dnw_R, Dnw_N, Dnw_A, DrI_S, DrI_I, DrI_L, DrI_R, DrI_N, DrI_A, DrJ_S, DrJ_I, DrJ_L, DrJ_R, DrJ_N, DrJ_A, dm64, G_d, G_x0, dL_mod, oX11_moveIn, dX12_living, oX11_moveOut, oX11_setValue, oX11_setRefusal, oX11_setLease, oX11_setSetting, oX11_divide, dX12_proposes, dX12_agree, oX11_swapRooms, dX12_allEnvy, oX11_passMonths, doII, doR, joR, joRI, joRII, joRIII, -Int32.not_le, -Int32.not_lt, -Int64.not_le, -Int64.not_lt, i3lt, i6lt, hf, hz, s5, e3, hm1]
  try simp (disch := omega) [-Prod.forall, -Prod.exists, -Prod.mk.injEq, -Int32.not_le, -Int32.not_lt, -Int64.not_le, -Int64.not_lt, i3lt, i6lt, hf, hz, s5, e3, hm1]
  exact j
def dX12_does (s0 : jM) (N M K mo : Nat) : dO := doRI fun a x σ => (a = 1000 ∧ rZ σ s0 N M K mo ∧ mo ≤ 290, fun v τ => v = some (.int 1) ∧ ∃ s1 mo', mo' ≤ mo + 3 ∧ xSm s0 s1 ∧ rZ τ s1 N M K mo')
set_option maxRecDepth 100000 in
set_option maxHeartbeats 4000000 in
theorem EX12_does (g : jG) (h0 n : Nat) (hE : dEs g) (s0 : jM) (N M K mo : Nat) : dOk g h0 (n + 9) 3200 16000 [1106, 1107, 1108, 1109, 1115, 1116, 1117, 1118, 1119, 1120, 1121, 1122, 1123, 1124, 1125, 1126, 1127, 1128, 1129, 1130, 1131, 1132, 1210, 1310, 1311, 1312, 1313, 1401] mX12_does (dX12_does s0 N M K mo) := by
  refine doRI_ok ?_
  rintro _ x σ ⟨rfl, h, hmo⟩
  refine dCon.go (by decide +kernel) (by simp [lg_sl, Value.category]) (fun z hkp hcl hz post hp hR => ?_)
  have hkp2 : dKp z := fun k hk => hkp.mem k (by
    unfold tmpK at hk
    simp only [List.mem_cons, List.not_mem_nil, or_false]
    omega)
  have hz2 : z.1.frames = n + 9 ∧ z.1.locals = 64 * (n + 9) ∧ z.1.cells = 3200 ∧ z.1.slots = 16000 := hz
  show DW g z mX12_does 0 [(0, .ref 1000), (1, .int x)] [] σ 0 0
  refine EDo_a hE hR ⟨hz2.1, hz2.2.1⟩ h.1.1.1 ?_
  have hi : md x 14 < 14 := md_lt x (by decide)
  have hp1 : ∀ s1 τ, xSm s0 s1 → rZ τ s1 N M K mo → Dcl0 τ → post (some (.int 1)) τ := fun s1 τ q1 q2 _ => hp _ _ ⟨rfl, s1, mo, by omega, q1, q2⟩
  generalize md x 14 = i at hi ⊢
  have hc : i = 0 ∨ i = 1 ∨ i = 2 ∨ i = 3 ∨ i = 4 ∨ i = 5 ∨ i = 6 ∨ i = 7 ∨ i = 8 ∨ i = 9 ∨ i = 10 ∨ i = 11 ∨ i = 12 ∨ i = 13 := by omega
  rcases hc with rfl | rfl | rfl | rfl | rfl | rfl | rfl | rfl | rfl | rfl | rfl | rfl | rfl | rfl
  · exact EDo_b hE hR hz2 h hcl hp1
  · exact EDo_b hE hR hz2 h hcl hp1
  · exact EDo_b hE hR hz2 h hcl hp1
  · exact EDo_c hE hR hz2 h hcl hp1
  · exact EDo_d hE hR hz2 h hcl hp1
  · exact EDo_e hE hR hz2 h hcl hp1
  · exact EDo_f hE hR hz2 h hcl hp1
  · exact EDo_g hE hR hz2 h hcl hp1
  · exact EDo_h hE hR hz2 h hcl hp1
  · exact EDo_i hE hR hz2 hkp2 h hcl hp1
  · exact EDo_i hE hR hz2 hkp2 h hcl hp1
  · exact EDo_j hE hR hz2 h hcl hp1
  · exact EDo_k hE hR hz2 hkp2 h hmo hcl (fun mo' s1 τ q0 q1 q2 _ => hp _ _ ⟨rfl, s1, mo', q0, q1, q2⟩)
  · exact EDo_l hE hR hz2 hkp2 h hcl hp1
