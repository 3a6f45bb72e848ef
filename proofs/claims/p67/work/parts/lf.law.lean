/-! the law's does: its head -/
def doT (i : Nat) : Nat := ([108, 108, 108, 187, 256, 326, 415, 458, 502, 569, 569, 604, 766] : List Nat).getD i 819
def doL (x : Int32) (N M : Nat) : List (Nat × Value) := [(0, .ref 1000), (1, .int x), (2, .int (nI (md (x >>> 4) N))), (3, .int (nI (md (x >>> 8) N))), (4, .int (nI (md (x >>> 6) M)))]
set_option maxRecDepth 100000 in
set_option maxHeartbeats 4000000 in
theorem EDo_a {g : jG} {n : Nat} {z : dZ} {R : Option Value → dM → Nat → Nat → Prop} (hE : dEs g) (hR : dRok g z mX12_does R) (hz : z.1.frames = n + 9 ∧ z.1.locals = 64 * (n + 9)) {σ : dM} {N M : Nat} (hk : dk σ N M) {x : Int32} (ih : DW g z mX12_does (doT (md x 14)) (doL x N M) [] σ 0 0) : DW g z mX12_does 0 [(0, .ref 1000), (1, .int x)] [] σ 0 0 := by
  have hf := dk_f hk
  have hN := hk.1.1
  have hM := hk.1.2
  have eN : (nI N).toNatClampNeg = N := nI_clamp (by omega)
  have eM : (nI M).toNatClampNeg = M := nI_clamp (by omega)
  have b1 : 0 < N ∧ N < 10000 := ⟨by omega, by omega⟩
  have b2 : 0 < M ∧ M < 10000 := ⟨by omega, by omega⟩
  have e14 : (14 : Int32).toNatClampNeg = 14 := by decide
  have s4 : (4 : Int32) &&& 31 = 4 := by decide
  have s8 : (8 : Int32) &&& 31 = 8 := by decide
  have s6 : (6 : Int32) &&& 31 = 6 := by decide
  have p1 : ¬ nI N ≤ 0 := fun z => by have := (NL_0.2.2.1 N (by omega)).mp z; omega
  have p2 : ¬ nI M ≤ 0 := fun z => by have := (NL_0.2.2.1 M (by omega)).mp z; omega
  refine dvk_ok (nC := n + 8) DX12_does_a hTyA hR (VC := [(319, 2, 11, oX11_moveIn), (322, 2, 11, oX11_moveOut), (325, 4, 11, oX11_setValue), (329, 4, 11, oX11_setRefusal), (333, 2, 11, oX11_setLease), (336, 3, 11, oX11_setSetting), (216, 1, 11, oX11_divide), (339, 3, 11, oX11_swapRooms), (345, 2, 11, oX11_passMonths)]) (VD := [(164, 1, 12, n + 0, 0, 0, 0, [], dX12_living), (204, 1, 12, n + 7, 0, 1025, 5125, [1108, 1106, 1107, 1109], dX12_proposes), (304, 1, 12, n + 4, 0, 21, 105, [1125, 1123, 1120, 1121, 1401, 1115, 1116, 1117, 1118, 1119, 1210, 1311, 1124, 1310, 1312], dX12_agree), (256, 1, 12, n + 2, 0, 0, 0, [], dX12_allEnvy)]) (SD := [(33, 2, 0, n + 0, 0, 0, 0, [], dL_mod)]) (AL := []) (List.forall_mem_cons.mpr ⟨⟨mX11_moveIn, n + 4, 1, TX11, 9, rfl, by omega, hX12_319, WX11_moveIn, rfl, CX11_moveIn g (n)⟩, (List.forall_mem_cons.mpr ⟨⟨mX11_moveOut, n + 4, 1, TX11, 9, rfl, by omega, hX12_322, WX11_moveOut, rfl, CX11_moveOut g (n)⟩, (List.forall_mem_cons.mpr ⟨⟨mX11_setValue, n + 4, 3, TX11, 9, rfl, by omega, hX12_325, WX11_setValue, rfl, CX11_setValue g (n)⟩, (List.forall_mem_cons.mpr ⟨⟨mX11_setRefusal, n + 4, 3, TX11, 9, rfl, by omega, hX12_329, WX11_setRefusal, rfl, CX11_setRefusal g (n)⟩, (List.forall_mem_cons.mpr ⟨⟨mX11_setLease, n + 4, 1, TX11, 9, rfl, by omega, hX12_333, WX11_setLease, rfl, CX11_setLease g (n)⟩, (List.forall_mem_cons.mpr ⟨⟨mX11_setSetting, n + 4, 2, TX11, 9, rfl, by omega, hX12_336, WX11_setSetting, rfl, CX11_setSetting g (n)⟩, (List.forall_mem_cons.mpr ⟨⟨mX11_divide, n + 6, 0, TX11, 9, rfl, by omega, hX12_216, WX11_divide, rfl, CX11_divide g (n)⟩, (List.forall_mem_cons.mpr ⟨⟨mX11_swapRooms, n + 5, 2, TX11, 9, rfl, by omega, hX12_339, WX11_swapRooms, rfl, CX11_swapRooms g (n)⟩, (List.forall_mem_cons.mpr ⟨⟨mX11_passMonths, n + 7, 1, TX11, 9, rfl, by omega, hX12_345, WX11_passMonths, rfl, CX11_passMonths g (n)⟩, (fun _ h => absurd h List.not_mem_nil)⟩)⟩)⟩)⟩)⟩)⟩)⟩)⟩)⟩) (List.forall_mem_cons.mpr ⟨⟨mX12_living, 0, TX12, 25, rfl, by decide, hX12_164, WX12_living, rfl, EX12_living g _ n⟩, (List.forall_mem_cons.mpr ⟨⟨mX12_proposes, 0, TX12, 25, rfl, by decide, hX12_204, WX12_proposes, rfl, EX12_proposes g _ n hE⟩, (List.forall_mem_cons.mpr ⟨⟨mX12_agree, 0, TX12, 25, rfl, by decide, hX12_304, WX12_agree, rfl, EX12_agree g _ n hE⟩, (List.forall_mem_cons.mpr ⟨⟨mX12_allEnvy, 0, TX12, 25, rfl, by decide, hX12_256, WX12_allEnvy, rfl, EX12_allEnvy g _ n⟩, (fun _ h => absurd h List.not_mem_nil)⟩)⟩)⟩)⟩) (List.forall_mem_cons.mpr ⟨⟨mL_mod, by decide, Or.inr ⟨_, hX12_33⟩, WL_mod, EL_mod g _ n⟩, (fun _ h => absurd h List.not_mem_nil)⟩) [42] 40 _ _ _ _ _ _ ?_
  simp (maxSteps := 1000000) [↓Bool.cond_eq_ite, -Prod.forall, -Prod.exists, -Prod.mk.injEq, ↓jc_eq_t, ↓jc_eq_f, ↓jc_ne_t, ↓jc_ne_f, ↓jc_lt_t, ↓jc_lt_f, ↓jc_ge_t, ↓jc_ge_f, ↓jc_gt_t, ↓jc_gt_f, ↓jc_le_t, ↓jc_le_f, dvk, tX12_does_a, jtb, jol, dvl, dal, dst, jlk, jcmp, jbin, jfl, qX12, jc2, qlX12, jcat, jel, lv_args, Value.category, jins, jsrt, jins2, jble, jblt, jf3, List.filter_cons, List.filter_nil, Dlo, Dnr, DnL, Dfree, Droom, DuS_S, DuS_I, DuS_L, DuS_R, DuS_N, DuS_A, DuI_S, DuI_I, DuI_L, DuI_R, DuI_N, DuI_A, DuL_S, DuL_I, DuL_L, DuL_R, DuL_N, DuL_A, DuR_S, DuR_I, DuR_L, DuR_R, DuR_N, DuR_A, Dnw_S, Dnw_I, Dnw_L, Dnw_R, Dnw_N, Dnw_A, DrI_S, DrI_I, DrI_L, DrI_R, DrI_N, DrI_A, DrJ_S, DrJ_I, DrJ_L, DrJ_R, DrJ_N, DrJ_A, dm64, G_d, G_x0, dL_mod, oX11_moveIn, dX12_living, oX11_moveOut, oX11_setValue, oX11_setRefusal, oX11_setLease, oX11_setSetting, oX11_divide, dX12_proposes, dX12_agree, oX11_swapRooms, dX12_allEnvy, oX11_passMonths, doII, doR, joR, joRI, joRII, joRIII, -Int32.not_le, -Int32.not_lt, -Int64.not_le, -Int64.not_lt, i3lt, i6lt, hf, hz, eN, eM, b1, b2, e14, s4, s8, s6, p1, p2]
  try simp (disch := omega) [-Prod.forall, -Prod.exists, -Prod.mk.injEq, -Int32.not_le, -Int32.not_lt, -Int64.not_le, -Int64.not_lt, i3lt, i6lt, hf, hz, eN, eM, b1, b2, e14, s4, s8, s6, p1, p2]
  have hd : decode mX12_does.2.1 42 = .ok (.tableswitch 777 0 12 #[66, 66, 66, 145, 214, 284, 373, 416, 460, 527, 527, 562, 724], 66) := by decide +kernel
  have hm : md x 14 < 14 := md_lt x (by decide)
  generalize md x 14 = i at ih hm ⊢
  have ti : (nI i).toInt = i := nI_toInt (by omega)
  by_cases c : i = 13
  · subst c
    exact dr_tOut (tgt := 819) hd (Or.inr (by rw [ti]; decide)) (by decide) ih
  · have h1 : ¬ (nI i).toInt < 0 := by rw [ti]; omega
    have h2 : ¬ (12 : Int) < (nI i).toInt := by rw [ti]; omega
    have hc : i = 0 ∨ i = 1 ∨ i = 2 ∨ i = 3 ∨ i = 4 ∨ i = 5 ∨ i = 6 ∨ i = 7 ∨ i = 8 ∨ i = 9 ∨ i = 10 ∨ i = 11 ∨ i = 12 := by omega
    rcases hc with rfl | rfl | rfl | rfl | rfl | rfl | rfl | rfl | rfl | rfl | rfl | rfl | rfl <;> exact dr_tIn hd h1 h2 (by rw [ti]; rfl) (by decide) ih
