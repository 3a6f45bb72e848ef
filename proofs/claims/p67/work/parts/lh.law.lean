/-! the law's does: settles -/
theorem rBd_st {f tg : Nat → Int32} {N mo : Nat} (bd : rBd f N mo) : rBd (stR tg f N) N mo := by
  obtain ⟨b1, b2, b3⟩ := bd
  refine ⟨by rw [stX_lo (by omega)]; exact b1, fun p hp => ?_, by rw [stX_lo (by omega)]; exact b3⟩
  rw [stX_o (w := 3) (by omega) (by omega), stX_o (w := 4) (by omega) (by omega)]
  exact b2 p hp
theorem rZ_st {σ : dM} {s0 s1 : jM} {N M K mo : Nat} (h : rZ σ s0 N M K mo) (k : xSm s0 s1) (e : s1.1 323 = stR (tgS s0) (s0.1 323) N) : rZ (DuS (DrI σ 1104 (sSt σ s0 N)) s1) s1 N M K mo := by
  have o : ∀ a j, a ≠ 1104 → DI (DuS (DrI σ 1104 (sSt σ s0 N)) s1) a j = DI σ a j := fun a j ha => by rw [DuS_I, DrI_I, if_neg ha]
  have hN := h.1.1.1.1.1.2
  have hM := h.1.1.1.1.2.2
  obtain ⟨h1, h2, h3⟩ := h.1.1.2.2
  refine rZ_ch h k rfl rfl rfl rfl (fun j _ => o _ _ (by omega)) (fun a j ha => o _ _ (by omega)) (fun p hp r => by rw [o _ _ (by omega)]; exact (h.1.1.1.2.2.2.2.2 p hp).2.2 r) ?_ (by rw [e, stX_lo (by omega)]) (by rw [e]; exact rBd_st h.2.2.1) (by rw [e, stX_lo (by omega)]; exact h.2.2.2)
  rw [e]
  refine ⟨fun p hp => ?_, fun p r hp hr => ?_, ?_⟩
  · obtain ⟨a1, a2, a3, a4, a5, a6⟩ := h1 p hp
    rw [o 1100 p (by omega), o 1101 p (by omega), o 1102 p (by omega), o 1103 p (by omega), stX_o (w := 0) (by omega) (by omega), stX_o (w := 1) (by omega) (by omega), stX_o (w := 2) (by omega) (by omega), stX_o (w := 3) (by omega) (by omega), stX_o (w := 4) (by omega) (by omega), stX_at (w := 5) (by omega), if_pos ⟨hp, rfl⟩]
    refine ⟨a1, a2, a3, a4, a5, ?_⟩
    rw [DuS_I, DrI_I, if_pos rfl]
    unfold sSt
    rw [if_pos hp]
  · rw [o (1110 + p) r (by omega), o (1200 + p) r (by omega), stX_o (w := 7 + r) (by omega) (by omega), stX_o (w := 13 + r) (by omega) (by omega)]
    exact h2 p r hp hr
  · obtain ⟨a1, a2, a3, a4, a5, a6, a7⟩ := h3
    rw [o 1000 12 (by omega), o 1000 13 (by omega), o 1000 14 (by omega), o 1000 15 (by omega), o 1000 16 (by omega), o 1000 17 (by omega), stX_lo (j := 3) (by omega), stX_lo (j := 4) (by omega), stX_lo (j := 0) (by omega), stX_lo (j := 1) (by omega), stX_lo (j := 2) (by omega), stX_lo (j := 5) (by omega), stX_lo (j := 6) (by omega)]
    exact ⟨a1, a2, a3, a4, a5, a6, a7⟩
/-- the ids that may be given anew -/
def dKp (z : dZ) : Prop := ∀ k, tmpK k ∨ k = 1106 ∨ k = 1107 → z.2.2.1 k = false
set_option maxRecDepth 100000 in
set_option maxHeartbeats 4000000 in
theorem EDo_l {g : jG} {n : Nat} {z : dZ} {post : Option Value → dM → Prop} (hE : dEs g) (hR : dRok g z mX12_does (dRp 3200 16000 post)) (hz : z.1.frames = n + 9 ∧ z.1.locals = 64 * (n + 9) ∧ z.1.cells = 3200 ∧ z.1.slots = 16000) (hkp : dKp z) {σ : dM} {s0 : jM} {N M K mo : Nat} (h : rZ σ s0 N M K mo) (hcl : Dcl0 σ) {x : Int32}
    (hp : ∀ s1 τ, xSm s0 s1 → rZ τ s1 N M K mo → Dcl0 τ → post (some (.int 1)) τ) : DW g z mX12_does 819 (doL x N M) [] σ 0 0 := by
  have hf := dk_f h.1.1.1
  have hN := h.1.1.1.1.1.2
  have eN : (nI N).toNatClampNeg = N := nI_clamp (by omega)
  have k1 : z.2.2.1 1313 = false ∧ z.2.2.1 1210 = false ∧ z.2.2.1 1124 = false ∧ z.2.2.1 1310 = false ∧ z.2.2.1 1120 = false := ⟨hkp _ (by unfold tmpK; omega), hkp _ (by unfold tmpK; omega), hkp _ (by unfold tmpK; omega), hkp _ (by unfold tmpK; omega), hkp _ (by unfold tmpK; omega)⟩
  have hpre : ∃ N M K, rI σ s0 N M K := ⟨N, M, K, h.1⟩
  refine dvk_ok (nC := n + 8) DX12_does_l hTyA hR (VC := [(319, 2, 11, oX11_moveIn), (322, 2, 11, oX11_moveOut), (325, 4, 11, oX11_setValue), (329, 4, 11, oX11_setRefusal), (333, 2, 11, oX11_setLease), (336, 3, 11, oX11_setSetting), (216, 1, 11, oX11_divide), (339, 3, 11, oX11_swapRooms), (345, 2, 11, oX11_passMonths)]) (VD := [(164, 1, 12, n + 0, 0, 0, 0, [], dX12_living), (204, 1, 12, n + 7, 0, 1025, 5125, [1108, 1106, 1107, 1109], dX12_proposes), (304, 1, 12, n + 4, 0, 21, 105, [1125, 1123, 1120, 1121, 1401, 1115, 1116, 1117, 1118, 1119, 1210, 1311, 1124, 1310, 1312], dX12_agree), (256, 1, 12, n + 2, 0, 0, 0, [], dX12_allEnvy), (348, 1, 12, n + 5, 0, 5, 31, [1313, 1210, 1124, 1310, 1120], (dX12_settles s0))]) (SD := [(33, 2, 0, n + 0, 0, 0, 0, [], dL_mod)]) (AL := []) (List.forall_mem_cons.mpr ⟨⟨mX11_moveIn, n + 4, 1, TX11, 9, rfl, by omega, hX12_319, WX11_moveIn, rfl, CX11_moveIn g (n)⟩, (List.forall_mem_cons.mpr ⟨⟨mX11_moveOut, n + 4, 1, TX11, 9, rfl, by omega, hX12_322, WX11_moveOut, rfl, CX11_moveOut g (n)⟩, (List.forall_mem_cons.mpr ⟨⟨mX11_setValue, n + 4, 3, TX11, 9, rfl, by omega, hX12_325, WX11_setValue, rfl, CX11_setValue g (n)⟩, (List.forall_mem_cons.mpr ⟨⟨mX11_setRefusal, n + 4, 3, TX11, 9, rfl, by omega, hX12_329, WX11_setRefusal, rfl, CX11_setRefusal g (n)⟩, (List.forall_mem_cons.mpr ⟨⟨mX11_setLease, n + 4, 1, TX11, 9, rfl, by omega, hX12_333, WX11_setLease, rfl, CX11_setLease g (n)⟩, (List.forall_mem_cons.mpr ⟨⟨mX11_setSetting, n + 4, 2, TX11, 9, rfl, by omega, hX12_336, WX11_setSetting, rfl, CX11_setSetting g (n)⟩, (List.forall_mem_cons.mpr ⟨⟨mX11_divide, n + 6, 0, TX11, 9, rfl, by omega, hX12_216, WX11_divide, rfl, CX11_divide g (n)⟩, (List.forall_mem_cons.mpr ⟨⟨mX11_swapRooms, n + 5, 2, TX11, 9, rfl, by omega, hX12_339, WX11_swapRooms, rfl, CX11_swapRooms g (n)⟩, (List.forall_mem_cons.mpr ⟨⟨mX11_passMonths, n + 7, 1, TX11, 9, rfl, by omega, hX12_345, WX11_passMonths, rfl, CX11_passMonths g (n)⟩, (fun _ h => absurd h List.not_mem_nil)⟩)⟩)⟩)⟩)⟩)⟩)⟩)⟩)⟩) (List.forall_mem_cons.mpr ⟨⟨mX12_living, 0, TX12, 25, rfl, by decide, hX12_164, WX12_living, rfl, EX12_living g _ n⟩, (List.forall_mem_cons.mpr ⟨⟨mX12_proposes, 0, TX12, 25, rfl, by decide, hX12_204, WX12_proposes, rfl, EX12_proposes g _ n hE⟩, (List.forall_mem_cons.mpr ⟨⟨mX12_agree, 0, TX12, 25, rfl, by decide, hX12_304, WX12_agree, rfl, EX12_agree g _ n hE⟩, (List.forall_mem_cons.mpr ⟨⟨mX12_allEnvy, 0, TX12, 25, rfl, by decide, hX12_256, WX12_allEnvy, rfl, EX12_allEnvy g _ n⟩, (List.forall_mem_cons.mpr ⟨⟨mX12_settles, 0, TX12, 25, rfl, by decide, hX12_348, WX12_settles, rfl, EX12_settles g _ n hE s0⟩, (fun _ h => absurd h List.not_mem_nil)⟩)⟩)⟩)⟩)⟩) (List.forall_mem_cons.mpr ⟨⟨mL_mod, by decide, Or.inr ⟨_, hX12_33⟩, WL_mod, EL_mod g _ n⟩, (fun _ h => absurd h List.not_mem_nil)⟩) [] 10 _ _ _ _ _ _ ?_
  simp (maxSteps := 1000000) [↓Bool.cond_eq_ite, -Prod.forall, -Prod.exists, -Prod.mk.injEq, ↓jc_eq_t, ↓jc_eq_f, ↓jc_ne_t, ↓jc_ne_f, ↓jc_lt_t, ↓jc_lt_f, ↓jc_ge_t, ↓jc_ge_f, ↓jc_gt_t, ↓jc_gt_f, ↓jc_le_t, ↓jc_le_f, dvk, tX12_does_l, jtb, jol, dvl, dal, dst, jlk, jcmp, jbin, jfl, qX12, jc2, qlX12, jcat, jel, lv_args, Value.category, jins, jsrt, jins2, jble, jblt, jf3, List.filter_cons, List.filter_nil, Dlo, Dnr, DnL, Dfree, Droom, DuS_S, DuS_I, DuS_L, DuS_R, DuS_N, DuS_A, DuI_S, DuI_I, DuI_L, DuI_R, DuI_N, DuI_A, DuL_S, DuL_I, DuL_L, DuL_R, DuL_N, DuL_A, DuR_S, DuR_I, DuR_L, DuR_R, DuR_N, DuR_A, Dnw_S, Dnw_I, Dnw_L, Dnw_R, Dnw_N, Dnw_A, DrI_S, DrI_I, DrI_L, DrI_R, DrI_N, DrI_A, DrJ_S, DrJ_I, DrJ_L, DrJ_R, DrJ_N, DrJ_A, dm64, G_d, G_x0, dL_mod, oX11_moveIn, dX12_living, oX11_moveOut, oX11_setValue, oX11_setRefusal, oX11_setLease, oX11_setSetting, oX11_divide, dX12_proposes, dX12_agree, oX11_swapRooms, dX12_allEnvy, oX11_passMonths, dX12_settles, doII, doR, joR, joRI, joRII, joRIII, -Int32.not_le, -Int32.not_lt, -Int64.not_le, -Int64.not_lt, i3lt, i6lt, hf, hz, k1, eN, hpre, doL]
  try simp (disch := omega) [-Prod.forall, -Prod.exists, -Prod.mk.injEq, -Int32.not_le, -Int32.not_lt, -Int64.not_le, -Int64.not_lt, i3lt, i6lt, hf, hz, k1, eN, hpre, doL]
  rintro _ _ rfl s1 q1 q2 rfl
  exact ⟨Or.inr rfl, ⟨by omega, by omega⟩, _, Dsub.rfl (δ := DuS (DrI σ 1104 (sSt σ s0 N)) s1) hcl, hp s1 _ q1 (rZ_st h q1 q2) hcl⟩
