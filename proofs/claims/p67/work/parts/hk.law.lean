/-! the law's extremes, its second loop: ways over others -/
set_option maxRecDepth 100000 in
set_option maxHeartbeats 4000000 in
theorem EEx_2s {g : jG} {n : Nat} {z : dZ} {R : Option Value → dM → Nat → Nat → Prop} (hR : dRok g z mX12_extremes R) (hz : z.1.frames = n + 1 ∧ z.1.locals = 64 * (n + 1) ∧ z.1.cells = 7 ∧ z.1.slots = 35) {σ τ : dM} {N M c0 s0 k p q : Nat} {x : Int32} (C : exC σ τ N M) (hc : c0 ≤ 7 ∧ s0 ≤ 35) (hk : k < N) (hp : p < N) (hq : q < N) {F : Nat → Nat → Int32}
    (ih : DW g z mX12_extremes 147 (exL x [(4, .int (nI k)), (5, .int (nI p)), (6, .int (nI (q + 1)))]) [] (DmF τ 1115 N (fwS k p q F)) c0 s0) : DW g z mX12_extremes 147 (exL x [(4, .int (nI k)), (5, .int (nI p)), (6, .int (nI q))]) [] (DmF τ 1115 N F) c0 s0 := by
  have hN := C.1.1.1.1.2
  have hlt : ¬ nI N ≤ nI q := nI_ge hq (by omega)
  have hjk : jin (nI k) N := jinN hk (by omega)
  have hjp : jin (nI p) N := jinN hp (by omega)
  have hjq : jin (nI q) N := jinN hq (by omega)
  have ek : (nI k).toNatClampNeg = k := nI_clamp (by omega)
  have ep : (nI p).toNatClampNeg = p := nI_clamp (by omega)
  have eq : (nI q).toNatClampNeg = q := nI_clamp (by omega)
  obtain ⟨σ2, e2⟩ : ∃ σ2, σ2 = DmF τ 1115 N F := ⟨_, rfl⟩
  have C2 : exC σ σ2 N M := by rw [e2]; exact exC_F C hN _
  obtain ⟨⟨k1, k2, k3⟩, k4, k5, k6⟩ := C2
  have hf := dk_f k1
  have rp := k6 p hp
  have rk := k6 k hk
  have vpk : DI σ2 (1115 + p) k = F p k := by rw [e2]; exact DmF_at hp k
  have vpq : DI σ2 (1115 + p) q = F p q := by rw [e2]; exact DmF_at hp q
  have vkq : DI σ2 (1115 + k) q = F k q := by rw [e2]; exact DmF_at hk q
  unfold fwS at ih
  rw [← nI_1] at ih
  rw [← e2]
  unfold exL at ih ⊢
  by_cases c1 : F p k ≤ -1000000000
  · rw [if_pos c1, ← e2] at ih
    refine dvk_ok (nC := n + 0) DX12_extremes hTyA hR (VC := []) (VD := [(168, 3, 12, n + 0, 0, 0, 0, [], dX12_gap)]) (SD := [(171, 2, 0, n + 0, 0, 0, 0, [], dJ9_max_7cf53), (176, 2, 0, n + 0, 0, 0, 0, [], dJ9_min_7cf53)]) (AL := []) (fun _ h => absurd h List.not_mem_nil) (List.forall_mem_cons.mpr ⟨⟨mX12_gap, 2, TX12, 25, rfl, by decide, hX12_168, WX12_gap, rfl, EX12_gap g _ n⟩, (fun _ h => absurd h List.not_mem_nil)⟩) (List.forall_mem_cons.mpr ⟨⟨mJ9_max_7cf53, by decide, Or.inl hX12_171, WJ9_max_7cf53, EJ9_max_7cf53 g _ n⟩, (List.forall_mem_cons.mpr ⟨⟨mJ9_min_7cf53, by decide, Or.inl hX12_176, WJ9_min_7cf53, EJ9_min_7cf53 g _ n⟩, (fun _ h => absurd h List.not_mem_nil)⟩)⟩) [147] 40 _ _ _ _ _ _ ?_
    simp (maxSteps := 1000000) [↓Bool.cond_eq_ite, -Prod.forall, -Prod.exists, -Prod.mk.injEq, dvk, tX12_extremes, jtb, jol, dvl, dal, dst, jlk, jcmp, jbin, jfl, qX12, jc2, qlX12, jcat, jel, lv_args, Value.category, jins, jsrt, jins2, jble, jblt, jf3, List.filter_cons, List.filter_nil, Dlo, Dnr, DnL, Dfree, Droom, DuS_S, DuS_I, DuS_L, DuS_R, DuS_N, DuS_A, DuI_S, DuI_I, DuI_L, DuI_R, DuI_N, DuI_A, DuL_S, DuL_I, DuL_L, DuL_R, DuL_N, DuL_A, DuR_S, DuR_I, DuR_L, DuR_R, DuR_N, DuR_A, Dnw_S, Dnw_I, Dnw_L, Dnw_R, Dnw_N, Dnw_A, DrI_S, DrI_I, DrI_L, DrI_R, DrI_N, DrI_A, DrJ_S, DrJ_I, DrJ_L, DrJ_R, DrJ_N, DrJ_A, dm64, G_d, G_x0, dX12_gap, dJ9_max_7cf53, dJ9_min_7cf53, doII, doRII, -Int32.not_le, -Int32.not_lt, -Int64.not_le, -Int64.not_lt, i3lt, i6lt, hf, hlt, hz, hjk, hjp, hjq, ek, ep, eq, rp, rk, k5, vpk, vpq, vkq, c1]
    try simp (disch := omega) [-Prod.forall, -Prod.exists, -Prod.mk.injEq, -Int32.not_le, -Int32.not_lt, -Int64.not_le, -Int64.not_lt, i3lt, i6lt, hf, hlt, hz, hjk, hjp, hjq, ek, ep, eq, rp, rk, k5, vpk, vpq, vkq, c1]
    exact ih
  · rw [if_neg c1] at ih
    by_cases c2 : F k q ≤ -1000000000
    · rw [if_pos c2, ← e2] at ih
      refine dvk_ok (nC := n + 0) DX12_extremes hTyA hR (VC := []) (VD := [(168, 3, 12, n + 0, 0, 0, 0, [], dX12_gap)]) (SD := [(171, 2, 0, n + 0, 0, 0, 0, [], dJ9_max_7cf53), (176, 2, 0, n + 0, 0, 0, 0, [], dJ9_min_7cf53)]) (AL := []) (fun _ h => absurd h List.not_mem_nil) (List.forall_mem_cons.mpr ⟨⟨mX12_gap, 2, TX12, 25, rfl, by decide, hX12_168, WX12_gap, rfl, EX12_gap g _ n⟩, (fun _ h => absurd h List.not_mem_nil)⟩) (List.forall_mem_cons.mpr ⟨⟨mJ9_max_7cf53, by decide, Or.inl hX12_171, WJ9_max_7cf53, EJ9_max_7cf53 g _ n⟩, (List.forall_mem_cons.mpr ⟨⟨mJ9_min_7cf53, by decide, Or.inl hX12_176, WJ9_min_7cf53, EJ9_min_7cf53 g _ n⟩, (fun _ h => absurd h List.not_mem_nil)⟩)⟩) [147] 40 _ _ _ _ _ _ ?_
      simp (maxSteps := 1000000) [↓Bool.cond_eq_ite, -Prod.forall, -Prod.exists, -Prod.mk.injEq, dvk, tX12_extremes, jtb, jol, dvl, dal, dst, jlk, jcmp, jbin, jfl, qX12, jc2, qlX12, jcat, jel, lv_args, Value.category, jins, jsrt, jins2, jble, jblt, jf3, List.filter_cons, List.filter_nil, Dlo, Dnr, DnL, Dfree, Droom, DuS_S, DuS_I, DuS_L, DuS_R, DuS_N, DuS_A, DuI_S, DuI_I, DuI_L, DuI_R, DuI_N, DuI_A, DuL_S, DuL_I, DuL_L, DuL_R, DuL_N, DuL_A, DuR_S, DuR_I, DuR_L, DuR_R, DuR_N, DuR_A, Dnw_S, Dnw_I, Dnw_L, Dnw_R, Dnw_N, Dnw_A, DrI_S, DrI_I, DrI_L, DrI_R, DrI_N, DrI_A, DrJ_S, DrJ_I, DrJ_L, DrJ_R, DrJ_N, DrJ_A, dm64, G_d, G_x0, dX12_gap, dJ9_max_7cf53, dJ9_min_7cf53, doII, doRII, -Int32.not_le, -Int32.not_lt, -Int64.not_le, -Int64.not_lt, i3lt, i6lt, hf, hlt, hz, hjk, hjp, hjq, ek, ep, eq, rp, rk, k5, vpk, vpq, vkq, c1, c2]
      try simp (disch := omega) [-Prod.forall, -Prod.exists, -Prod.mk.injEq, -Int32.not_le, -Int32.not_lt, -Int64.not_le, -Int64.not_lt, i3lt, i6lt, hf, hlt, hz, hjk, hjp, hjq, ek, ep, eq, rp, rk, k5, vpk, vpq, vkq, c1, c2]
      exact ih
    · rw [if_neg c2, ← DmF_up hp, ← e2] at ih
      refine dvk_ok (nC := n + 0) DX12_extremes hTyA hR (VC := []) (VD := [(168, 3, 12, n + 0, 0, 0, 0, [], dX12_gap)]) (SD := [(171, 2, 0, n + 0, 0, 0, 0, [], dJ9_max_7cf53), (176, 2, 0, n + 0, 0, 0, 0, [], dJ9_min_7cf53)]) (AL := []) (fun _ h => absurd h List.not_mem_nil) (List.forall_mem_cons.mpr ⟨⟨mX12_gap, 2, TX12, 25, rfl, by decide, hX12_168, WX12_gap, rfl, EX12_gap g _ n⟩, (fun _ h => absurd h List.not_mem_nil)⟩) (List.forall_mem_cons.mpr ⟨⟨mJ9_max_7cf53, by decide, Or.inl hX12_171, WJ9_max_7cf53, EJ9_max_7cf53 g _ n⟩, (List.forall_mem_cons.mpr ⟨⟨mJ9_min_7cf53, by decide, Or.inl hX12_176, WJ9_min_7cf53, EJ9_min_7cf53 g _ n⟩, (fun _ h => absurd h List.not_mem_nil)⟩)⟩) [147] 60 _ _ _ _ _ _ ?_
      simp (maxSteps := 1000000) [↓Bool.cond_eq_ite, -Prod.forall, -Prod.exists, -Prod.mk.injEq, dvk, tX12_extremes, jtb, jol, dvl, dal, dst, jlk, jcmp, jbin, jfl, qX12, jc2, qlX12, jcat, jel, lv_args, Value.category, jins, jsrt, jins2, jble, jblt, jf3, List.filter_cons, List.filter_nil, Dlo, Dnr, DnL, Dfree, Droom, DuS_S, DuS_I, DuS_L, DuS_R, DuS_N, DuS_A, DuI_S, DuI_I, DuI_L, DuI_R, DuI_N, DuI_A, DuL_S, DuL_I, DuL_L, DuL_R, DuL_N, DuL_A, DuR_S, DuR_I, DuR_L, DuR_R, DuR_N, DuR_A, Dnw_S, Dnw_I, Dnw_L, Dnw_R, Dnw_N, Dnw_A, DrI_S, DrI_I, DrI_L, DrI_R, DrI_N, DrI_A, DrJ_S, DrJ_I, DrJ_L, DrJ_R, DrJ_N, DrJ_A, dm64, G_d, G_x0, dX12_gap, dJ9_max_7cf53, dJ9_min_7cf53, doII, doRII, -Int32.not_le, -Int32.not_lt, -Int64.not_le, -Int64.not_lt, i3lt, i6lt, hf, hlt, hz, hjk, hjp, hjq, ek, ep, eq, rp, rk, k5, vpk, vpq, vkq, c1, c2, hc]
      try simp (disch := omega) [-Prod.forall, -Prod.exists, -Prod.mk.injEq, -Int32.not_le, -Int32.not_lt, -Int64.not_le, -Int64.not_lt, i3lt, i6lt, hf, hlt, hz, hjk, hjp, hjq, ek, ep, eq, rp, rk, k5, vpk, vpq, vkq, c1, c2, hc]
      exact ih
set_option maxRecDepth 100000 in
set_option maxHeartbeats 4000000 in
theorem EEx_2 {g : jG} {n : Nat} {z : dZ} {R : Option Value → dM → Nat → Nat → Prop} (hR : dRok g z mX12_extremes R) (hz : z.1.frames = n + 1 ∧ z.1.locals = 64 * (n + 1) ∧ z.1.cells = 7 ∧ z.1.slots = 35) {σ τ : dM} {N M c0 s0 : Nat} {x : Int32} (C : exC σ τ N M) (hc : c0 ≤ 7 ∧ s0 ≤ 35) {F : Nat → Nat → Int32}
    (ih : DW g z mX12_extremes 123 (exL x [(4, .int (nI N))]) [] (DmF τ 1115 N (fwK N F N)) c0 s0) : DW g z mX12_extremes 123 (exL x [(4, .int (nI 0))]) [] (DmF τ 1115 N (fwK N F 0)) c0 s0 := by
  have hN := C.1.1.1.1.2
  have hle : nI N ≤ nI N := nI_le (Nat.le_refl _) (by omega)
  have hfs : ∀ F, (DI (DmF τ 1115 N F) 1000 1 = nI M ∧ DI (DmF τ 1115 N F) 1000 2 = nI N) ∧ DA (DmF τ 1115 N F) 1000 = true := fun F => by
    have hf := dk_f (exC_F C hN F).1.1
    exact ⟨hf.1, hf.2.1.1⟩
  refine jloop (P := fun k => DW g z mX12_extremes 123 (exL x [(4, .int (nI k))]) [] (DmF τ 1115 N (fwK N F k)) c0 s0) (N := N) ih (fun k hk9 ih1 => ?_)
  have hlt : ¬ nI N ≤ nI k := nI_ge hk9 (by omega)
  have h2 := jloop (P := fun p => DW g z mX12_extremes 135 (exL x [(4, .int (nI k)), (5, .int (nI p))]) [] (DmF τ 1115 N (fwP N k (fwK N F k) p)) c0 s0) (N := N) (by
    have hf := hfs (fwP N k (fwK N F k) N)
    rw [← nI_1] at ih1
    unfold exL at ih1 ⊢
    refine dvk_ok (nC := n + 0) DX12_extremes hTyA hR (VC := []) (VD := [(168, 3, 12, n + 0, 0, 0, 0, [], dX12_gap)]) (SD := [(171, 2, 0, n + 0, 0, 0, 0, [], dJ9_max_7cf53), (176, 2, 0, n + 0, 0, 0, 0, [], dJ9_min_7cf53)]) (AL := []) (fun _ h => absurd h List.not_mem_nil) (List.forall_mem_cons.mpr ⟨⟨mX12_gap, 2, TX12, 25, rfl, by decide, hX12_168, WX12_gap, rfl, EX12_gap g _ n⟩, (fun _ h => absurd h List.not_mem_nil)⟩) (List.forall_mem_cons.mpr ⟨⟨mJ9_max_7cf53, by decide, Or.inl hX12_171, WJ9_max_7cf53, EJ9_max_7cf53 g _ n⟩, (List.forall_mem_cons.mpr ⟨⟨mJ9_min_7cf53, by decide, Or.inl hX12_176, WJ9_min_7cf53, EJ9_min_7cf53 g _ n⟩, (fun _ h => absurd h List.not_mem_nil)⟩)⟩) [135, 123] 20 _ _ _ _ _ _ ?_
    simp (maxSteps := 1000000) [↓Bool.cond_eq_ite, -Prod.forall, -Prod.exists, -Prod.mk.injEq, dvk, tX12_extremes, jtb, jol, dvl, dal, dst, jlk, jcmp, jbin, jfl, qX12, jc2, qlX12, jcat, jel, lv_args, Value.category, jins, jsrt, jins2, jble, jblt, jf3, List.filter_cons, List.filter_nil, Dlo, Dnr, DnL, Dfree, Droom, DuS_S, DuS_I, DuS_L, DuS_R, DuS_N, DuS_A, DuI_S, DuI_I, DuI_L, DuI_R, DuI_N, DuI_A, DuL_S, DuL_I, DuL_L, DuL_R, DuL_N, DuL_A, DuR_S, DuR_I, DuR_L, DuR_R, DuR_N, DuR_A, Dnw_S, Dnw_I, Dnw_L, Dnw_R, Dnw_N, Dnw_A, DrI_S, DrI_I, DrI_L, DrI_R, DrI_N, DrI_A, DrJ_S, DrJ_I, DrJ_L, DrJ_R, DrJ_N, DrJ_A, dm64, G_d, G_x0, dX12_gap, dJ9_max_7cf53, dJ9_min_7cf53, doII, doRII, -Int32.not_le, -Int32.not_lt, -Int64.not_le, -Int64.not_lt, i3lt, i6lt, hf, hle, hz]
    try simp (disch := omega) [-Prod.forall, -Prod.exists, -Prod.mk.injEq, -Int32.not_le, -Int32.not_lt, -Int64.not_le, -Int64.not_lt, i3lt, i6lt, hf, hle, hz]
    exact DW.mono ih1 (by simp)) (fun p hp9 ih2 => by
    have hlt2 : ¬ nI N ≤ nI p := nI_ge hp9 (by omega)
    have h3 := jloop (P := fun q => DW g z mX12_extremes 147 (exL x [(4, .int (nI k)), (5, .int (nI p)), (6, .int (nI q))]) [] (DmF τ 1115 N (fwQ k p (fwP N k (fwK N F k) p) q)) c0 s0) (N := N) (by
      have hf := hfs (fwQ k p (fwP N k (fwK N F k) p) N)
      rw [← nI_1] at ih2
      unfold exL at ih2 ⊢
      refine dvk_ok (nC := n + 0) DX12_extremes hTyA hR (VC := []) (VD := [(168, 3, 12, n + 0, 0, 0, 0, [], dX12_gap)]) (SD := [(171, 2, 0, n + 0, 0, 0, 0, [], dJ9_max_7cf53), (176, 2, 0, n + 0, 0, 0, 0, [], dJ9_min_7cf53)]) (AL := []) (fun _ h => absurd h List.not_mem_nil) (List.forall_mem_cons.mpr ⟨⟨mX12_gap, 2, TX12, 25, rfl, by decide, hX12_168, WX12_gap, rfl, EX12_gap g _ n⟩, (fun _ h => absurd h List.not_mem_nil)⟩) (List.forall_mem_cons.mpr ⟨⟨mJ9_max_7cf53, by decide, Or.inl hX12_171, WJ9_max_7cf53, EJ9_max_7cf53 g _ n⟩, (List.forall_mem_cons.mpr ⟨⟨mJ9_min_7cf53, by decide, Or.inl hX12_176, WJ9_min_7cf53, EJ9_min_7cf53 g _ n⟩, (fun _ h => absurd h List.not_mem_nil)⟩)⟩) [147, 135] 20 _ _ _ _ _ _ ?_
      simp (maxSteps := 1000000) [↓Bool.cond_eq_ite, -Prod.forall, -Prod.exists, -Prod.mk.injEq, dvk, tX12_extremes, jtb, jol, dvl, dal, dst, jlk, jcmp, jbin, jfl, qX12, jc2, qlX12, jcat, jel, lv_args, Value.category, jins, jsrt, jins2, jble, jblt, jf3, List.filter_cons, List.filter_nil, Dlo, Dnr, DnL, Dfree, Droom, DuS_S, DuS_I, DuS_L, DuS_R, DuS_N, DuS_A, DuI_S, DuI_I, DuI_L, DuI_R, DuI_N, DuI_A, DuL_S, DuL_I, DuL_L, DuL_R, DuL_N, DuL_A, DuR_S, DuR_I, DuR_L, DuR_R, DuR_N, DuR_A, Dnw_S, Dnw_I, Dnw_L, Dnw_R, Dnw_N, Dnw_A, DrI_S, DrI_I, DrI_L, DrI_R, DrI_N, DrI_A, DrJ_S, DrJ_I, DrJ_L, DrJ_R, DrJ_N, DrJ_A, dm64, G_d, G_x0, dX12_gap, dJ9_max_7cf53, dJ9_min_7cf53, doII, doRII, -Int32.not_le, -Int32.not_lt, -Int64.not_le, -Int64.not_lt, i3lt, i6lt, hf, hle, hz]
      try simp (disch := omega) [-Prod.forall, -Prod.exists, -Prod.mk.injEq, -Int32.not_le, -Int32.not_lt, -Int64.not_le, -Int64.not_lt, i3lt, i6lt, hf, hle, hz]
      exact DW.mono ih2 (by simp)) (fun q hq9 ih3 => EEx_2s hR hz C hc hk9 hp9 hq9 ih3)
    have hf := hfs (fwP N k (fwK N F k) p)
    rw [nI_0] at h3
    unfold exL at h3 ⊢
    refine dvk_ok (nC := n + 0) DX12_extremes hTyA hR (VC := []) (VD := [(168, 3, 12, n + 0, 0, 0, 0, [], dX12_gap)]) (SD := [(171, 2, 0, n + 0, 0, 0, 0, [], dJ9_max_7cf53), (176, 2, 0, n + 0, 0, 0, 0, [], dJ9_min_7cf53)]) (AL := []) (fun _ h => absurd h List.not_mem_nil) (List.forall_mem_cons.mpr ⟨⟨mX12_gap, 2, TX12, 25, rfl, by decide, hX12_168, WX12_gap, rfl, EX12_gap g _ n⟩, (fun _ h => absurd h List.not_mem_nil)⟩) (List.forall_mem_cons.mpr ⟨⟨mJ9_max_7cf53, by decide, Or.inl hX12_171, WJ9_max_7cf53, EJ9_max_7cf53 g _ n⟩, (List.forall_mem_cons.mpr ⟨⟨mJ9_min_7cf53, by decide, Or.inl hX12_176, WJ9_min_7cf53, EJ9_min_7cf53 g _ n⟩, (fun _ h => absurd h List.not_mem_nil)⟩)⟩) [147] 20 _ _ _ _ _ _ ?_
    simp (maxSteps := 1000000) [↓Bool.cond_eq_ite, -Prod.forall, -Prod.exists, -Prod.mk.injEq, dvk, tX12_extremes, jtb, jol, dvl, dal, dst, jlk, jcmp, jbin, jfl, qX12, jc2, qlX12, jcat, jel, lv_args, Value.category, jins, jsrt, jins2, jble, jblt, jf3, List.filter_cons, List.filter_nil, Dlo, Dnr, DnL, Dfree, Droom, DuS_S, DuS_I, DuS_L, DuS_R, DuS_N, DuS_A, DuI_S, DuI_I, DuI_L, DuI_R, DuI_N, DuI_A, DuL_S, DuL_I, DuL_L, DuL_R, DuL_N, DuL_A, DuR_S, DuR_I, DuR_L, DuR_R, DuR_N, DuR_A, Dnw_S, Dnw_I, Dnw_L, Dnw_R, Dnw_N, Dnw_A, DrI_S, DrI_I, DrI_L, DrI_R, DrI_N, DrI_A, DrJ_S, DrJ_I, DrJ_L, DrJ_R, DrJ_N, DrJ_A, dm64, G_d, G_x0, dX12_gap, dJ9_max_7cf53, dJ9_min_7cf53, doII, doRII, -Int32.not_le, -Int32.not_lt, -Int64.not_le, -Int64.not_lt, i3lt, i6lt, hf, hlt2, hz]
    try simp (disch := omega) [-Prod.forall, -Prod.exists, -Prod.mk.injEq, -Int32.not_le, -Int32.not_lt, -Int64.not_le, -Int64.not_lt, i3lt, i6lt, hf, hlt2, hz]
    exact h3)
  have hf := hfs (fwK N F k)
  rw [nI_0] at h2
  unfold exL at h2 ⊢
  refine dvk_ok (nC := n + 0) DX12_extremes hTyA hR (VC := []) (VD := [(168, 3, 12, n + 0, 0, 0, 0, [], dX12_gap)]) (SD := [(171, 2, 0, n + 0, 0, 0, 0, [], dJ9_max_7cf53), (176, 2, 0, n + 0, 0, 0, 0, [], dJ9_min_7cf53)]) (AL := []) (fun _ h => absurd h List.not_mem_nil) (List.forall_mem_cons.mpr ⟨⟨mX12_gap, 2, TX12, 25, rfl, by decide, hX12_168, WX12_gap, rfl, EX12_gap g _ n⟩, (fun _ h => absurd h List.not_mem_nil)⟩) (List.forall_mem_cons.mpr ⟨⟨mJ9_max_7cf53, by decide, Or.inl hX12_171, WJ9_max_7cf53, EJ9_max_7cf53 g _ n⟩, (List.forall_mem_cons.mpr ⟨⟨mJ9_min_7cf53, by decide, Or.inl hX12_176, WJ9_min_7cf53, EJ9_min_7cf53 g _ n⟩, (fun _ h => absurd h List.not_mem_nil)⟩)⟩) [135] 20 _ _ _ _ _ _ ?_
  simp (maxSteps := 1000000) [↓Bool.cond_eq_ite, -Prod.forall, -Prod.exists, -Prod.mk.injEq, dvk, tX12_extremes, jtb, jol, dvl, dal, dst, jlk, jcmp, jbin, jfl, qX12, jc2, qlX12, jcat, jel, lv_args, Value.category, jins, jsrt, jins2, jble, jblt, jf3, List.filter_cons, List.filter_nil, Dlo, Dnr, DnL, Dfree, Droom, DuS_S, DuS_I, DuS_L, DuS_R, DuS_N, DuS_A, DuI_S, DuI_I, DuI_L, DuI_R, DuI_N, DuI_A, DuL_S, DuL_I, DuL_L, DuL_R, DuL_N, DuL_A, DuR_S, DuR_I, DuR_L, DuR_R, DuR_N, DuR_A, Dnw_S, Dnw_I, Dnw_L, Dnw_R, Dnw_N, Dnw_A, DrI_S, DrI_I, DrI_L, DrI_R, DrI_N, DrI_A, DrJ_S, DrJ_I, DrJ_L, DrJ_R, DrJ_N, DrJ_A, dm64, G_d, G_x0, dX12_gap, dJ9_max_7cf53, dJ9_min_7cf53, doII, doRII, -Int32.not_le, -Int32.not_lt, -Int64.not_le, -Int64.not_lt, i3lt, i6lt, hf, hlt, hz]
  try simp (disch := omega) [-Prod.forall, -Prod.exists, -Prod.mk.injEq, -Int32.not_le, -Int32.not_lt, -Int64.not_le, -Int64.not_lt, i3lt, i6lt, hf, hlt, hz]
  exact h2
