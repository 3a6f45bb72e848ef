/-! the law's Desk.<init>: lease, deposit, the number of plans -/
theorem dk_w0 {σ : dM} {N M j : Nat} {x : Int32} (h : dk σ N M) (hj : 2 < j) : dk (DuI σ 1000 j x) N M := by
  have hN := h.1.1.2
  refine dk_of h ⟨by rw [DuI_I, if_neg (by omega)], by rw [DuI_I, if_neg (by omega)]⟩ (fun _ _ => rfl) (fun _ _ _ _ => rfl) (fun _ _ => rfl) (fun p hp r => by rw [DuI_I, if_neg (by omega)])
section EN2
variable {g : jG} {z : dZ} {k : Nat} {R : Option Value → dM → Nat → Nat → Prop}
theorem in_ld {N M w XN q : Nat} {f : Nat → Nat} {y3 y4 : Int32} {xs : Nat → Int32} {σ : dM} {c0 s0 : Nat} (hR : dRok g z mX12_init R) (hT : dEt g z.2.2.2.2) (hC : dEc g z.2.2.2.2 XN xs) (hkp : ixF z) (hz : k + 6 ≤ z.1.frames ∧ 64 * (k + 6) ≤ z.1.locals ∧ c0 + 10 ≤ z.1.cells ∧ s0 + 4924 ≤ z.1.slots) (hd : dk σ N M) (h : ixS σ q f w) (hw : w + 25 ≤ 300)
    (kk : ∀ τ, tfr (fun k => ¬ ixK k) (DuI (DuI σ 1000 12 (nI (md (scX XN xs 0 >>> 7) 1800))) 1000 13 (nI (md (scX XN xs 0 >>> 9) 2500))) τ → dk τ N M → ixS τ 1700 (leT f w (md (scX XN xs 0 >>> 7) 1800) (md (scX XN xs 0 >>> 9) 2500)) (w + 6 + sb_dg (md (scX XN xs 0 >>> 7) 1800) + 9 + sb_dg (md (scX XN xs 0 >>> 9) 2500) + 1) → DW g z mX12_init 610 [(0, .ref 1000), (1, .ref 380), (2, .ref 1700), (3, .int y3), (4, .int (nI (md (scX XN xs 6) 3)))] [] τ (c0 + 10) (s0 + 4924)) : DW g z mX12_init 518 [(0, .ref 1000), (1, .ref 380), (2, .ref q), (3, .int y3), (4, .int y4)] [] σ c0 s0 := by
  have hE := hT.1
  obtain ⟨n, hn⟩ : ∃ n, n + 1 ≤ z.1.frames ∧ 64 * (n + 1) ≤ z.1.locals := ⟨k, by omega, by omega⟩
  have hf := dk_f hd
  have e1 : (1800 : Int32).toNatClampNeg = 1800 := by decide
  have e2 : (2500 : Int32).toNatClampNeg = 2500 := by decide
  have e3 : (3 : Int32).toNatClampNeg = 3 := by decide
  have s7 : (7 : Int32) &&& 31 = 7 := by decide
  have s9 : (9 : Int32) &&& 31 = 9 := by decide
  have hc9 : c0 ≤ z.1.cells ∧ s0 ≤ z.1.slots := by omega
  have z0 : (0 : Int32) = nI 0 := by decide
  have z6 : (6 : Int32) = nI 6 := by decide
  obtain ⟨x0, ex0⟩ : ∃ x0, x0 = scX XN xs 0 := ⟨_, rfl⟩
  have b1 := sbdg4 (v := md (x0 >>> 7) 1800) (by have := md_lt (x0 >>> 7) (k := 1800) (by omega); omega)
  have b2 := sbdg4 (v := md (x0 >>> 9) 2500) (by have := md_lt (x0 >>> 9) (k := 2500) (by omega); omega)
  rw [← ex0] at kk
  refine dvk_ok (nC := n + 10) DX12_init_f hTyA hR (VC := [(131, 2, 11, oX11_load)]) (VD := []) (SD := [(33, 2, 0, n + 0, 0, 0, 0, [], dL_mod)]) (AL := []) (List.forall_mem_cons.mpr ⟨⟨mX11_load, n + 10, 1, TX11, 9, rfl, by omega, hX12_131, WX11_load, rfl, CX11_load g (n) hE.1⟩, (fun _ h => absurd h List.not_mem_nil)⟩) (fun _ h => absurd h List.not_mem_nil) (List.forall_mem_cons.mpr ⟨⟨mL_mod, by decide, Or.inr ⟨_, hX12_33⟩, WL_mod, EL_mod g _ n⟩, (fun _ h => absurd h List.not_mem_nil)⟩) [521] 10 _ _ _ _ _ _ ?_
  simp (maxSteps := 1000000) [↓Bool.cond_eq_ite, -Prod.forall, -Prod.exists, -Prod.mk.injEq, ↓jc_eq_t, ↓jc_eq_f, ↓jc_ne_t, ↓jc_ne_f, ↓jc_lt_t, ↓jc_lt_f, ↓jc_ge_t, ↓jc_ge_f, ↓jc_gt_t, ↓jc_gt_f, ↓jc_le_t, ↓jc_le_f, dvk, tX12_init_f, jtb, jol, dvl, dal, dst, jlk, jcmp, jbin, jfl, qX12, jc2, qlX12, jcat, jel, lv_args, Value.category, jins, jsrt, jins2, jble, jblt, jf3, List.filter_cons, List.filter_nil, Dlo, Dnr, DnL, Dfree, Droom, DuS_S, DuS_I, DuS_L, DuS_R, DuS_N, DuS_A, DuI_S, DuI_I, DuI_L, DuI_R, DuI_N, DuI_A, DuL_S, DuL_I, DuL_L, DuL_R, DuL_N, DuL_A, DuR_S, DuR_I, DuR_L, DuR_R, DuR_N, DuR_A, Dnw_S, Dnw_I, Dnw_L, Dnw_R, Dnw_N, Dnw_A, DrI_S, DrI_I, DrI_L, DrI_R, DrI_N, DrI_A, DrJ_S, DrJ_I, DrJ_L, DrJ_R, DrJ_N, DrJ_A, dm64, G_d, G_x0, dL_mod, oX11_load, doII, joRI, -Int32.not_le, -Int32.not_lt, -Int64.not_le, -Int64.not_lt, i3lt, i6lt]
  try simp (disch := omega) [-Prod.forall, -Prod.exists, -Prod.mk.injEq, -Int32.not_le, -Int32.not_lt, -Int64.not_le, -Int64.not_lt, i3lt, i6lt]
  rw [z0]
  refine dr_cellX (k := k) (idx := 27) hC ⟨by omega, by omega, by omega, by omega⟩ (by simp [Value.category]) hX12_27 (by omega) (by decide +kernel) ?_
  rw [← ex0]
  refine dvk_ok (nC := n + 10) DX12_init_f hTyA hR (VC := [(131, 2, 11, oX11_load)]) (VD := []) (SD := [(33, 2, 0, n + 0, 0, 0, 0, [], dL_mod)]) (AL := []) (List.forall_mem_cons.mpr ⟨⟨mX11_load, n + 10, 1, TX11, 9, rfl, by omega, hX12_131, WX11_load, rfl, CX11_load g (n) hE.1⟩, (fun _ h => absurd h List.not_mem_nil)⟩) (fun _ h => absurd h List.not_mem_nil) (List.forall_mem_cons.mpr ⟨⟨mL_mod, by decide, Or.inr ⟨_, hX12_33⟩, WL_mod, EL_mod g _ n⟩, (fun _ h => absurd h List.not_mem_nil)⟩) [539] 20 _ _ _ _ _ _ ?_
  simp (maxSteps := 1000000) [↓Bool.cond_eq_ite, -Prod.forall, -Prod.exists, -Prod.mk.injEq, ↓jc_eq_t, ↓jc_eq_f, ↓jc_ne_t, ↓jc_ne_f, ↓jc_lt_t, ↓jc_lt_f, ↓jc_ge_t, ↓jc_ge_f, ↓jc_gt_t, ↓jc_gt_f, ↓jc_le_t, ↓jc_le_f, dvk, tX12_init_f, jtb, jol, dvl, dal, dst, jlk, jcmp, jbin, jfl, qX12, jc2, qlX12, jcat, jel, lv_args, Value.category, jins, jsrt, jins2, jble, jblt, jf3, List.filter_cons, List.filter_nil, Dlo, Dnr, DnL, Dfree, Droom, DuS_S, DuS_I, DuS_L, DuS_R, DuS_N, DuS_A, DuI_S, DuI_I, DuI_L, DuI_R, DuI_N, DuI_A, DuL_S, DuL_I, DuL_L, DuL_R, DuL_N, DuL_A, DuR_S, DuR_I, DuR_L, DuR_R, DuR_N, DuR_A, Dnw_S, Dnw_I, Dnw_L, Dnw_R, Dnw_N, Dnw_A, DrI_S, DrI_I, DrI_L, DrI_R, DrI_N, DrI_A, DrJ_S, DrJ_I, DrJ_L, DrJ_R, DrJ_N, DrJ_A, dm64, G_d, G_x0, dL_mod, oX11_load, doII, joRI, -Int32.not_le, -Int32.not_lt, -Int64.not_le, -Int64.not_lt, i3lt, i6lt, hf, hn, hc9, s7, e1, G_d]
  try simp (disch := omega) [-Prod.forall, -Prod.exists, -Prod.mk.injEq, -Int32.not_le, -Int32.not_lt, -Int64.not_le, -Int64.not_lt, i3lt, i6lt, hf, hn, hc9, s7, e1, G_d]
  rw [z0]
  refine dr_cellX (k := k) (idx := 27) hC ⟨by omega, by omega, by omega, by omega⟩ (by simp [Value.category]) hX12_27 (by omega) (by decide +kernel) ?_
  rw [← ex0]
  refine dvk_ok (nC := n + 10) DX12_init_f hTyA hR (VC := [(131, 2, 11, oX11_load)]) (VD := []) (SD := [(33, 2, 0, n + 0, 0, 0, 0, [], dL_mod)]) (AL := []) (List.forall_mem_cons.mpr ⟨⟨mX11_load, n + 10, 1, TX11, 9, rfl, by omega, hX12_131, WX11_load, rfl, CX11_load g (n) hE.1⟩, (fun _ h => absurd h List.not_mem_nil)⟩) (fun _ h => absurd h List.not_mem_nil) (List.forall_mem_cons.mpr ⟨⟨mL_mod, by decide, Or.inr ⟨_, hX12_33⟩, WL_mod, EL_mod g _ n⟩, (fun _ h => absurd h List.not_mem_nil)⟩) [554] 20 _ _ _ _ _ _ ?_
  simp (maxSteps := 1000000) [↓Bool.cond_eq_ite, -Prod.forall, -Prod.exists, -Prod.mk.injEq, ↓jc_eq_t, ↓jc_eq_f, ↓jc_ne_t, ↓jc_ne_f, ↓jc_lt_t, ↓jc_lt_f, ↓jc_ge_t, ↓jc_ge_f, ↓jc_gt_t, ↓jc_gt_f, ↓jc_le_t, ↓jc_le_f, dvk, tX12_init_f, jtb, jol, dvl, dal, dst, jlk, jcmp, jbin, jfl, qX12, jc2, qlX12, jcat, jel, lv_args, Value.category, jins, jsrt, jins2, jble, jblt, jf3, List.filter_cons, List.filter_nil, Dlo, Dnr, DnL, Dfree, Droom, DuS_S, DuS_I, DuS_L, DuS_R, DuS_N, DuS_A, DuI_S, DuI_I, DuI_L, DuI_R, DuI_N, DuI_A, DuL_S, DuL_I, DuL_L, DuL_R, DuL_N, DuL_A, DuR_S, DuR_I, DuR_L, DuR_R, DuR_N, DuR_A, Dnw_S, Dnw_I, Dnw_L, Dnw_R, Dnw_N, Dnw_A, DrI_S, DrI_I, DrI_L, DrI_R, DrI_N, DrI_A, DrJ_S, DrJ_I, DrJ_L, DrJ_R, DrJ_N, DrJ_A, dm64, G_d, G_x0, dL_mod, oX11_load, doII, joRI, -Int32.not_le, -Int32.not_lt, -Int64.not_le, -Int64.not_lt, i3lt, i6lt, hf, hn, hc9, s9, e2, G_d]
  try simp (disch := omega) [-Prod.forall, -Prod.exists, -Prod.mk.injEq, -Int32.not_le, -Int32.not_lt, -Int64.not_le, -Int64.not_lt, i3lt, i6lt, hf, hn, hc9, s9, e2, G_d]
  obtain ⟨τ, eτ⟩ : ∃ τ, τ = DuI (DuI σ 1000 12 (nI (md (x0 >>> 7) 1800))) 1000 13 (nI (md (x0 >>> 9) 2500)) := ⟨_, rfl⟩
  have hdτ : dk τ N M := by
    rw [eτ]
    exact dk_w0 (dk_w0 hd (by omega)) (by omega)
  have fτ : tfr (fun k => k ≠ 1000) σ τ := ⟨by rw [eτ]; rfl, fun k hk => ⟨by rw [eτ]; rfl, fun _ _ _ => ⟨funext fun j => by rw [eτ, DuI_I, DuI_I, if_neg (by omega), if_neg (by omega)], by rw [eτ]; rfl, by rw [eτ]; rfl, by rw [eτ]; rfl⟩⟩⟩
  have hxτ := ixS_wr (τ := τ) (fun k hk => by omega) fτ (by rw [eτ]; rfl) (by rw [eτ]; rfl) h
  have v1 : DI τ 1000 12 = nI (md (x0 >>> 7) 1800) := by rw [eτ, DuI_I, if_neg (by omega), DuI_I, if_pos ⟨rfl, rfl⟩]
  have v2 : DI τ 1000 13 = nI (md (x0 >>> 9) 2500) := by rw [eτ, DuI_I, if_pos ⟨rfl, rfl⟩]
  rw [← eτ] at kk ⊢
  refine DW.mono (L' := [(0, .ref 1000), (1, .ref 380), (2, .ref q), (3, .int y3)]) ?_ (by simp)
  refine in_lease (k := k) hR hT ⟨by omega, by omega, by omega, by omega⟩ hkp hxτ hdτ v1 v2 (by have := md_lt (x0 >>> 7) (k := 1800) (by omega); omega) (by have := md_lt (x0 >>> 9) (k := 2500) (by omega); omega) (by omega) (fun υ t1 t2 t3 => ?_)
  have hc8 : c0 + 10 ≤ z.1.cells ∧ s0 + 4924 ≤ z.1.slots := by omega
  refine dvk_ok (nC := n + 10) DX12_init_f hTyA hR (VC := [(131, 2, 11, oX11_load)]) (VD := []) (SD := [(33, 2, 0, n + 0, 0, 0, 0, [], dL_mod)]) (AL := []) (List.forall_mem_cons.mpr ⟨⟨mX11_load, n + 10, 1, TX11, 9, rfl, by omega, hX12_131, WX11_load, rfl, CX11_load g (n) hE.1⟩, (fun _ h => absurd h List.not_mem_nil)⟩) (fun _ h => absurd h List.not_mem_nil) (List.forall_mem_cons.mpr ⟨⟨mL_mod, by decide, Or.inr ⟨_, hX12_33⟩, WL_mod, EL_mod g _ n⟩, (fun _ h => absurd h List.not_mem_nil)⟩) [601] 10 _ _ _ _ _ _ ?_
  simp (maxSteps := 1000000) [↓Bool.cond_eq_ite, -Prod.forall, -Prod.exists, -Prod.mk.injEq, ↓jc_eq_t, ↓jc_eq_f, ↓jc_ne_t, ↓jc_ne_f, ↓jc_lt_t, ↓jc_lt_f, ↓jc_ge_t, ↓jc_ge_f, ↓jc_gt_t, ↓jc_gt_f, ↓jc_le_t, ↓jc_le_f, dvk, tX12_init_f, jtb, jol, dvl, dal, dst, jlk, jcmp, jbin, jfl, qX12, jc2, qlX12, jcat, jel, lv_args, Value.category, jins, jsrt, jins2, jble, jblt, jf3, List.filter_cons, List.filter_nil, Dlo, Dnr, DnL, Dfree, Droom, DuS_S, DuS_I, DuS_L, DuS_R, DuS_N, DuS_A, DuI_S, DuI_I, DuI_L, DuI_R, DuI_N, DuI_A, DuL_S, DuL_I, DuL_L, DuL_R, DuL_N, DuL_A, DuR_S, DuR_I, DuR_L, DuR_R, DuR_N, DuR_A, Dnw_S, Dnw_I, Dnw_L, Dnw_R, Dnw_N, Dnw_A, DrI_S, DrI_I, DrI_L, DrI_R, DrI_N, DrI_A, DrJ_S, DrJ_I, DrJ_L, DrJ_R, DrJ_N, DrJ_A, dm64, G_d, G_x0, dL_mod, oX11_load, doII, joRI, -Int32.not_le, -Int32.not_lt, -Int64.not_le, -Int64.not_lt, i3lt, i6lt]
  try simp (disch := omega) [-Prod.forall, -Prod.exists, -Prod.mk.injEq, -Int32.not_le, -Int32.not_lt, -Int64.not_le, -Int64.not_lt, i3lt, i6lt]
  rw [z6]
  refine dr_cellX (k := k) (idx := 27) hC ⟨by omega, by omega, by omega, by omega⟩ (by simp [Value.category]) hX12_27 (by omega) (by decide +kernel) ?_
  refine dvk_ok (nC := n + 10) DX12_init_f hTyA hR (VC := [(131, 2, 11, oX11_load)]) (VD := []) (SD := [(33, 2, 0, n + 0, 0, 0, 0, [], dL_mod)]) (AL := []) (List.forall_mem_cons.mpr ⟨⟨mX11_load, n + 10, 1, TX11, 9, rfl, by omega, hX12_131, WX11_load, rfl, CX11_load g (n) hE.1⟩, (fun _ h => absurd h List.not_mem_nil)⟩) (fun _ h => absurd h List.not_mem_nil) (List.forall_mem_cons.mpr ⟨⟨mL_mod, by decide, Or.inr ⟨_, hX12_33⟩, WL_mod, EL_mod g _ n⟩, (fun _ h => absurd h List.not_mem_nil)⟩) [610] 10 _ _ _ _ _ _ ?_
  simp (maxSteps := 1000000) [↓Bool.cond_eq_ite, -Prod.forall, -Prod.exists, -Prod.mk.injEq, ↓jc_eq_t, ↓jc_eq_f, ↓jc_ne_t, ↓jc_ne_f, ↓jc_lt_t, ↓jc_lt_f, ↓jc_ge_t, ↓jc_ge_f, ↓jc_gt_t, ↓jc_gt_f, ↓jc_le_t, ↓jc_le_f, dvk, tX12_init_f, jtb, jol, dvl, dal, dst, jlk, jcmp, jbin, jfl, qX12, jc2, qlX12, jcat, jel, lv_args, Value.category, jins, jsrt, jins2, jble, jblt, jf3, List.filter_cons, List.filter_nil, Dlo, Dnr, DnL, Dfree, Droom, DuS_S, DuS_I, DuS_L, DuS_R, DuS_N, DuS_A, DuI_S, DuI_I, DuI_L, DuI_R, DuI_N, DuI_A, DuL_S, DuL_I, DuL_L, DuL_R, DuL_N, DuL_A, DuR_S, DuR_I, DuR_L, DuR_R, DuR_N, DuR_A, Dnw_S, Dnw_I, Dnw_L, Dnw_R, Dnw_N, Dnw_A, DrI_S, DrI_I, DrI_L, DrI_R, DrI_N, DrI_A, DrJ_S, DrJ_I, DrJ_L, DrJ_R, DrJ_N, DrJ_A, dm64, G_d, G_x0, dL_mod, oX11_load, doII, joRI, -Int32.not_le, -Int32.not_lt, -Int64.not_le, -Int64.not_lt, i3lt, i6lt, hn, hc8, e3]
  try simp (disch := omega) [-Prod.forall, -Prod.exists, -Prod.mk.injEq, -Int32.not_le, -Int32.not_lt, -Int64.not_le, -Int64.not_lt, i3lt, i6lt, hn, hc8, e3]
  exact kk υ t1 t2 t3
end EN2
