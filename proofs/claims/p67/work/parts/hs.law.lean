/-! the law's payments, its second and third loop -/
theorem DuI_2 (δ : dM) (a k : Nat) (x y : Int32) : DuI (DuI δ a k x) a k y = DuI δ a k y := by
  unfold DuI
  refine Prod.ext rfl (Prod.ext (funext fun i => funext fun j => ?_) rfl)
  show (if i = a ∧ j = k then y else if i = a ∧ j = k then x else δ.2.1 i j) = if i = a ∧ j = k then y else δ.2.1 i j
  split <;> rfl
set_option maxRecDepth 100000 in
set_option maxHeartbeats 4000000 in
theorem EPy_2s {g : jG} {n : Nat} {z : dZ} {R : Option Value → dM → Nat → Nat → Prop} (hR : dRok g z mX12_payments R) (hz : z.1.frames = n + 3 ∧ z.1.locals = 64 * (n + 3) ∧ z.1.cells = 21 ∧ z.1.slots = 105) {σ τ : dM} {N M ρ p : Nat} (hρ : 1125 ≤ ρ ∧ ρ ≤ 1139) (C : dyC σ τ N M ρ) (hp : p < N)
    (ih : DW g z mX12_payments 105 [(0, .ref 1000), (1, .ref 1123), (2, .ref 1210), (4, .ref 1124), (5, .ref ρ), (6, .ref 1312), (7, .int (dyR σ N (p + 1))), (8, .int (nI (p + 1)))] [] (dyS σ τ N ρ (p + 1)) 21 105) : DW g z mX12_payments 105 [(0, .ref 1000), (1, .ref 1123), (2, .ref 1210), (4, .ref 1124), (5, .ref ρ), (6, .ref 1312), (7, .int (dyR σ N p)), (8, .int (nI p))] [] (dyS σ τ N ρ p) 21 105 := by
  have hN := C.1.1.1.2
  have hlt : ¬ nI N ≤ nI p := nI_ge hp (by omega)
  have hj : jin (nI p) N := jinN hp (by omega)
  have ep : (nI p).toNatClampNeg = p := nI_clamp (by omega)
  obtain ⟨σ4, e4⟩ : ∃ σ4, σ4 = dyS σ τ N ρ p := ⟨_, rfl⟩
  have C4 : dyC σ σ4 N M ρ := by rw [e4]; exact dyC_r C hρ _ _
  have hf := dk_f C4.1
  obtain ⟨-, h2, h3, h4, h5⟩ := C4
  have h3p := h3.2.2 p hp
  have h3a := h3.1
  have h3n := h3.2.1
  have h2p := h2.2.2
  have h2a := h2.1
  have h2n := h2.2.1
  have r1 : ¬ 1123 = ρ := by omega
  have r2 : ¬ 1210 = ρ := by omega
  have r3 : ¬ 1312 = ρ := by omega
  have r4 : ¬ 1000 = ρ := by omega
  have n120 : ¬ (120 : Int32) = 0 := by decide
  rw [← nI_1] at ih
  by_cases c : lvI σ p = 0
  · have e9 : dyR σ N (p + 1) = dyR σ N p := by simp only [dyR]; rw [if_pos c]
    rw [e9, ← dyS_n c, ← e4] at ih
    rw [← e4]
    refine dvk_ok (nC := n + 2) DX12_payments hTyA hR (VC := []) (VD := [(196, 1, 12, n + 0, 0, 1, 5, [1210], dX12_livers), (200, 4, 12, n + 1, 0, 2, 10, [1124, 1310], dX12_split)]) (SD := [(181, 4, 0, n + 0, 0, 0, 0, [], dX12_rest)]) (AL := []) (fun _ h => absurd h List.not_mem_nil) (List.forall_mem_cons.mpr ⟨⟨mX12_livers, 0, TX12, 25, rfl, by decide, hX12_196, WX12_livers, rfl, EX12_livers g _ n⟩, (List.forall_mem_cons.mpr ⟨⟨mX12_split, 3, TX12, 25, rfl, by decide, hX12_200, WX12_split, rfl, EX12_split g _ n⟩, (fun _ h => absurd h List.not_mem_nil)⟩)⟩) (List.forall_mem_cons.mpr ⟨⟨mX12_rest, by decide, Or.inl hX12_181, WX12_rest, EX12_rest g _ n⟩, (fun _ h => absurd h List.not_mem_nil)⟩) [105] 30 _ _ _ _ _ _ ?_
    simp (maxSteps := 1000000) [↓Bool.cond_eq_ite, -Prod.forall, -Prod.exists, -Prod.mk.injEq, dvk, tX12_payments, jtb, jol, dvl, dal, dst, jlk, jcmp, jbin, jfl, qX12, jc2, qlX12, jcat, jel, lv_args, Value.category, jins, jsrt, jins2, jble, jblt, jf3, List.filter_cons, List.filter_nil, Dlo, Dnr, DnL, Dfree, Droom, DuS_S, DuS_I, DuS_L, DuS_R, DuS_N, DuS_A, DuI_S, DuI_I, DuI_L, DuI_R, DuI_N, DuI_A, DuL_S, DuL_I, DuL_L, DuL_R, DuL_N, DuL_A, DuR_S, DuR_I, DuR_L, DuR_R, DuR_N, DuR_A, Dnw_S, Dnw_I, Dnw_L, Dnw_R, Dnw_N, Dnw_A, DrI_S, DrI_I, DrI_L, DrI_R, DrI_N, DrI_A, DrJ_S, DrJ_I, DrJ_L, DrJ_R, DrJ_N, DrJ_A, dm64, G_d, G_x0, dX12_livers, dX12_split, dX12_rest, doR, doRIRR, doRRRI, -Int32.not_le, -Int32.not_lt, -Int64.not_le, -Int64.not_lt, i3lt, i6lt, hf, hlt, hz, hj, ep, h3p, h3a, h3n, c]
    try simp (disch := omega) [-Prod.forall, -Prod.exists, -Prod.mk.injEq, -Int32.not_le, -Int32.not_lt, -Int64.not_le, -Int64.not_lt, i3lt, i6lt, hf, hlt, hz, hj, ep, h3p, h3a, h3n, c]
    exact ih
  · have e9 : dyR σ N (p + 1) = dyR σ N p - dyF (dpRow σ N p) := by simp only [dyR]; rw [if_neg c]
    rw [e9, ← dyS_s (by unfold dyRow; rw [if_neg c]) (by unfold dyLeft; rw [if_neg c]), ← e4] at ih
    rw [← e4]
    by_cases d : 120 * (dpRow σ N p / 120) ≤ dpRow σ N p
    · have e8 : dyF (dpRow σ N p) = dpRow σ N p / 120 := by unfold dyF; rw [if_pos d]
      rw [e8] at ih
      refine dvk_ok (nC := n + 2) DX12_payments hTyA hR (VC := []) (VD := [(196, 1, 12, n + 0, 0, 1, 5, [1210], dX12_livers), (200, 4, 12, n + 1, 0, 2, 10, [1124, 1310], dX12_split)]) (SD := [(181, 4, 0, n + 0, 0, 0, 0, [], dX12_rest)]) (AL := []) (fun _ h => absurd h List.not_mem_nil) (List.forall_mem_cons.mpr ⟨⟨mX12_livers, 0, TX12, 25, rfl, by decide, hX12_196, WX12_livers, rfl, EX12_livers g _ n⟩, (List.forall_mem_cons.mpr ⟨⟨mX12_split, 3, TX12, 25, rfl, by decide, hX12_200, WX12_split, rfl, EX12_split g _ n⟩, (fun _ h => absurd h List.not_mem_nil)⟩)⟩) (List.forall_mem_cons.mpr ⟨⟨mX12_rest, by decide, Or.inl hX12_181, WX12_rest, EX12_rest g _ n⟩, (fun _ h => absurd h List.not_mem_nil)⟩) [105] 60 _ _ _ _ _ _ ?_
      simp (maxSteps := 1000000) [↓Bool.cond_eq_ite, -Prod.forall, -Prod.exists, -Prod.mk.injEq, dvk, tX12_payments, jtb, jol, dvl, dal, dst, jlk, jcmp, jbin, jfl, qX12, jc2, qlX12, jcat, jel, lv_args, Value.category, jins, jsrt, jins2, jble, jblt, jf3, List.filter_cons, List.filter_nil, Dlo, Dnr, DnL, Dfree, Droom, DuS_S, DuS_I, DuS_L, DuS_R, DuS_N, DuS_A, DuI_S, DuI_I, DuI_L, DuI_R, DuI_N, DuI_A, DuL_S, DuL_I, DuL_L, DuL_R, DuL_N, DuL_A, DuR_S, DuR_I, DuR_L, DuR_R, DuR_N, DuR_A, Dnw_S, Dnw_I, Dnw_L, Dnw_R, Dnw_N, Dnw_A, DrI_S, DrI_I, DrI_L, DrI_R, DrI_N, DrI_A, DrJ_S, DrJ_I, DrJ_L, DrJ_R, DrJ_N, DrJ_A, dm64, G_d, G_x0, dX12_livers, dX12_split, dX12_rest, doR, doRIRR, doRRRI, -Int32.not_le, -Int32.not_lt, -Int64.not_le, -Int64.not_lt, i3lt, i6lt, hf, hlt, hz, hj, ep, h3p, h3a, h3n, h2p, h2a, h2n, h4, h5, c, d, r1, r2, r3, r4, n120]
      try simp (disch := omega) [-Prod.forall, -Prod.exists, -Prod.mk.injEq, -Int32.not_le, -Int32.not_lt, -Int64.not_le, -Int64.not_lt, i3lt, i6lt, hf, hlt, hz, hj, ep, h3p, h3a, h3n, h2p, h2a, h2n, h4, h5, c, d, r1, r2, r3, r4, n120]
      exact ih
    · have e8 : dyF (dpRow σ N p) = dpRow σ N p / 120 - 1 := by unfold dyF; rw [if_neg d]
      rw [e8] at ih
      refine dvk_ok (nC := n + 2) DX12_payments hTyA hR (VC := []) (VD := [(196, 1, 12, n + 0, 0, 1, 5, [1210], dX12_livers), (200, 4, 12, n + 1, 0, 2, 10, [1124, 1310], dX12_split)]) (SD := [(181, 4, 0, n + 0, 0, 0, 0, [], dX12_rest)]) (AL := []) (fun _ h => absurd h List.not_mem_nil) (List.forall_mem_cons.mpr ⟨⟨mX12_livers, 0, TX12, 25, rfl, by decide, hX12_196, WX12_livers, rfl, EX12_livers g _ n⟩, (List.forall_mem_cons.mpr ⟨⟨mX12_split, 3, TX12, 25, rfl, by decide, hX12_200, WX12_split, rfl, EX12_split g _ n⟩, (fun _ h => absurd h List.not_mem_nil)⟩)⟩) (List.forall_mem_cons.mpr ⟨⟨mX12_rest, by decide, Or.inl hX12_181, WX12_rest, EX12_rest g _ n⟩, (fun _ h => absurd h List.not_mem_nil)⟩) [105] 60 _ _ _ _ _ _ ?_
      simp (maxSteps := 1000000) [↓Bool.cond_eq_ite, -Prod.forall, -Prod.exists, -Prod.mk.injEq, dvk, tX12_payments, jtb, jol, dvl, dal, dst, jlk, jcmp, jbin, jfl, qX12, jc2, qlX12, jcat, jel, lv_args, Value.category, jins, jsrt, jins2, jble, jblt, jf3, List.filter_cons, List.filter_nil, Dlo, Dnr, DnL, Dfree, Droom, DuS_S, DuS_I, DuS_L, DuS_R, DuS_N, DuS_A, DuI_S, DuI_I, DuI_L, DuI_R, DuI_N, DuI_A, DuL_S, DuL_I, DuL_L, DuL_R, DuL_N, DuL_A, DuR_S, DuR_I, DuR_L, DuR_R, DuR_N, DuR_A, Dnw_S, Dnw_I, Dnw_L, Dnw_R, Dnw_N, Dnw_A, DrI_S, DrI_I, DrI_L, DrI_R, DrI_N, DrI_A, DrJ_S, DrJ_I, DrJ_L, DrJ_R, DrJ_N, DrJ_A, dm64, G_d, G_x0, dX12_livers, dX12_split, dX12_rest, doR, doRIRR, doRRRI, -Int32.not_le, -Int32.not_lt, -Int64.not_le, -Int64.not_lt, i3lt, i6lt, hf, hlt, hz, hj, ep, h3p, h3a, h3n, h2p, h2a, h2n, h4, h5, c, d, r1, r2, r3, r4, n120, DuI_2]
      try simp (disch := omega) [-Prod.forall, -Prod.exists, -Prod.mk.injEq, -Int32.not_le, -Int32.not_lt, -Int64.not_le, -Int64.not_lt, i3lt, i6lt, hf, hlt, hz, hj, ep, h3p, h3a, h3n, h2p, h2a, h2n, h4, h5, c, d, r1, r2, r3, r4, n120, DuI_2]
      exact ih
set_option maxRecDepth 100000 in
set_option maxHeartbeats 4000000 in
theorem EPy_3 {g : jG} {n : Nat} {z : dZ} {R : Option Value → dM → Nat → Nat → Prop} (hR : dRok g z mX12_payments R) (hz : z.1.frames = n + 3 ∧ z.1.locals = 64 * (n + 3) ∧ z.1.cells = 21 ∧ z.1.slots = 105) {σ τ : dM} {N M ρ : Nat} (hρ : 1125 ≤ ρ ∧ ρ ≤ 1139) (hk : ∀ f, dk (DrI τ ρ f) N M) (h3 : DA τ 1124 = true ∧ DN τ 1124 = N) (h3s : ∀ j, j < N → DI τ 1124 j = dyShare σ N j) (h4 : DA τ ρ = true ∧ DN τ ρ = N ∧ darr ρ 1 0 = true)
    (ih : DW g z mX12_payments 236 [(5, .ref ρ)] [] (DrI τ ρ (dyPay σ N N)) 21 105) : DW g z mX12_payments 208 [(0, .ref 1000), (4, .ref 1124), (5, .ref ρ), (8, .int (nI 0))] [] (DrI τ ρ (dyPay σ N 0)) 21 105 := by
  have hN := (hk (fun _ => 0)).1.1.2
  refine jloop (P := fun p => DW g z mX12_payments 208 [(0, .ref 1000), (4, .ref 1124), (5, .ref ρ), (8, .int (nI p))] [] (DrI τ ρ (dyPay σ N p)) 21 105) (N := N) ?_ (fun p hp9 ih1 => ?_)
  · have hle : nI N ≤ nI N := nI_le (Nat.le_refl _) (by omega)
    have hf := dk_f (hk (dyPay σ N N))
    refine dvk_ok (nC := n + 2) DX12_payments hTyA hR (VC := []) (VD := [(196, 1, 12, n + 0, 0, 1, 5, [1210], dX12_livers), (200, 4, 12, n + 1, 0, 2, 10, [1124, 1310], dX12_split)]) (SD := [(181, 4, 0, n + 0, 0, 0, 0, [], dX12_rest)]) (AL := []) (fun _ h => absurd h List.not_mem_nil) (List.forall_mem_cons.mpr ⟨⟨mX12_livers, 0, TX12, 25, rfl, by decide, hX12_196, WX12_livers, rfl, EX12_livers g _ n⟩, (List.forall_mem_cons.mpr ⟨⟨mX12_split, 3, TX12, 25, rfl, by decide, hX12_200, WX12_split, rfl, EX12_split g _ n⟩, (fun _ h => absurd h List.not_mem_nil)⟩)⟩) (List.forall_mem_cons.mpr ⟨⟨mX12_rest, by decide, Or.inl hX12_181, WX12_rest, EX12_rest g _ n⟩, (fun _ h => absurd h List.not_mem_nil)⟩) [208, 236] 20 _ _ _ _ _ _ ?_
    simp (maxSteps := 1000000) [↓Bool.cond_eq_ite, -Prod.forall, -Prod.exists, -Prod.mk.injEq, dvk, tX12_payments, jtb, jol, dvl, dal, dst, jlk, jcmp, jbin, jfl, qX12, jc2, qlX12, jcat, jel, lv_args, Value.category, jins, jsrt, jins2, jble, jblt, jf3, List.filter_cons, List.filter_nil, Dlo, Dnr, DnL, Dfree, Droom, DuS_S, DuS_I, DuS_L, DuS_R, DuS_N, DuS_A, DuI_S, DuI_I, DuI_L, DuI_R, DuI_N, DuI_A, DuL_S, DuL_I, DuL_L, DuL_R, DuL_N, DuL_A, DuR_S, DuR_I, DuR_L, DuR_R, DuR_N, DuR_A, Dnw_S, Dnw_I, Dnw_L, Dnw_R, Dnw_N, Dnw_A, DrI_S, DrI_I, DrI_L, DrI_R, DrI_N, DrI_A, DrJ_S, DrJ_I, DrJ_L, DrJ_R, DrJ_N, DrJ_A, dm64, G_d, G_x0, dX12_livers, dX12_split, dX12_rest, doR, doRIRR, doRRRI, -Int32.not_le, -Int32.not_lt, -Int64.not_le, -Int64.not_lt, i3lt, i6lt, hf, hle, hz]
    try simp (disch := omega) [-Prod.forall, -Prod.exists, -Prod.mk.injEq, -Int32.not_le, -Int32.not_lt, -Int64.not_le, -Int64.not_lt, i3lt, i6lt, hf, hle, hz]
    exact DW.mono ih (by simp)
  · have hlt : ¬ nI N ≤ nI p := nI_ge hp9 (by omega)
    have hj : jin (nI p) N := jinN hp9 (by omega)
    have ep : (nI p).toNatClampNeg = p := nI_clamp (by omega)
    have hf := dk_f (hk (dyPay σ N p))
    have r2 : ¬ 1124 = ρ := by omega
    have r4 : ¬ 1000 = ρ := by omega
    have hs := h3s p hp9
    obtain ⟨σ4, e4⟩ : ∃ σ4, σ4 = DrI τ ρ (dyPay σ N p) := ⟨_, rfl⟩
    have g1 : DA σ4 1124 = true ∧ DN σ4 1124 = N ∧ DI σ4 1124 p = dyShare σ N p := by
      rw [e4]
      exact ⟨h3.1, h3.2, by rw [DrI_I, if_neg r2]; exact hs⟩
    have g2 : DA σ4 ρ = true ∧ DN σ4 ρ = N ∧ DI σ4 ρ p = dyPay σ N p p := by
      rw [e4]
      exact ⟨h4.1, h4.2.1, by rw [DrI_I, if_pos rfl]⟩
    have g3 := h4.2.2
    rw [← dyPay_s rfl, ← e4, ← nI_1] at ih1
    rw [← e4] at hf ⊢
    refine dvk_ok (nC := n + 2) DX12_payments hTyA hR (VC := []) (VD := [(196, 1, 12, n + 0, 0, 1, 5, [1210], dX12_livers), (200, 4, 12, n + 1, 0, 2, 10, [1124, 1310], dX12_split)]) (SD := [(181, 4, 0, n + 0, 0, 0, 0, [], dX12_rest)]) (AL := []) (fun _ h => absurd h List.not_mem_nil) (List.forall_mem_cons.mpr ⟨⟨mX12_livers, 0, TX12, 25, rfl, by decide, hX12_196, WX12_livers, rfl, EX12_livers g _ n⟩, (List.forall_mem_cons.mpr ⟨⟨mX12_split, 3, TX12, 25, rfl, by decide, hX12_200, WX12_split, rfl, EX12_split g _ n⟩, (fun _ h => absurd h List.not_mem_nil)⟩)⟩) (List.forall_mem_cons.mpr ⟨⟨mX12_rest, by decide, Or.inl hX12_181, WX12_rest, EX12_rest g _ n⟩, (fun _ h => absurd h List.not_mem_nil)⟩) [208] 30 _ _ _ _ _ _ ?_
    simp (maxSteps := 1000000) [↓Bool.cond_eq_ite, -Prod.forall, -Prod.exists, -Prod.mk.injEq, dvk, tX12_payments, jtb, jol, dvl, dal, dst, jlk, jcmp, jbin, jfl, qX12, jc2, qlX12, jcat, jel, lv_args, Value.category, jins, jsrt, jins2, jble, jblt, jf3, List.filter_cons, List.filter_nil, Dlo, Dnr, DnL, Dfree, Droom, DuS_S, DuS_I, DuS_L, DuS_R, DuS_N, DuS_A, DuI_S, DuI_I, DuI_L, DuI_R, DuI_N, DuI_A, DuL_S, DuL_I, DuL_L, DuL_R, DuL_N, DuL_A, DuR_S, DuR_I, DuR_L, DuR_R, DuR_N, DuR_A, Dnw_S, Dnw_I, Dnw_L, Dnw_R, Dnw_N, Dnw_A, DrI_S, DrI_I, DrI_L, DrI_R, DrI_N, DrI_A, DrJ_S, DrJ_I, DrJ_L, DrJ_R, DrJ_N, DrJ_A, dm64, G_d, G_x0, dX12_livers, dX12_split, dX12_rest, doR, doRIRR, doRRRI, -Int32.not_le, -Int32.not_lt, -Int64.not_le, -Int64.not_lt, i3lt, i6lt, hf, hlt, hz, hj, ep, g1, g2, g3, r2, r4]
    try simp (disch := omega) [-Prod.forall, -Prod.exists, -Prod.mk.injEq, -Int32.not_le, -Int32.not_lt, -Int64.not_le, -Int64.not_lt, i3lt, i6lt, hf, hlt, hz, hj, ep, g1, g2, g3, r2, r4]
    exact ih1
