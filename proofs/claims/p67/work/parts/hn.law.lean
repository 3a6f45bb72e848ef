/-! the law's extremes, from its tables on -/
set_option maxRecDepth 100000 in
set_option maxHeartbeats 4000000 in
theorem EEx_4 {g : jG} {n : Nat} {z : dZ} {R : Option Value → dM → Nat → Nat → Prop} (hR : dRok g z mX12_extremes R) (hz : z.1.frames = n + 1 ∧ z.1.locals = 64 * (n + 1) ∧ z.1.cells = 7 ∧ z.1.slots = 35) {σ σ2 : dM} {N M ρ : Nat} {x : Int32} {F : Nat → Nat → Int32} (hx : x = 0 ∨ x = 1) (hρ : 1120 ≤ ρ ∧ ρ ≤ 1139) (r3 : z.2.2.1 ρ = false) (C2 : exC σ σ2 N M) (hAρ : DA σ2 ρ = false) (hF : ∀ p, p < N → ∀ j, DI σ2 (1115 + p) j = F p j)
    (e349 : DW g z mX12_extremes 349 (exL x [(4, .ref ρ)]) [] (DrI (Dnw σ2 ρ N) ρ (fillI (fun p => exQ x F p N) N)) 7 35) : DW g z mX12_extremes 123 (exL x [(4, .int (nI N))]) [] σ2 6 30 := by
  have hN := C2.1.1.1.1
  have hN5 : N ≤ 5 := hN.2
  have eN : (nI N).toNatClampNeg = N := nI_clamp (by omega)
  have hn0 : ¬ nI N < 0 := nI_pos (by omega)
  have hdρ : darr ρ 1 0 = true := by
    have := G_rho (ρ - 1120) (by omega)
    rw [show 1120 + (ρ - 1120) = ρ by omega] at this
    exact this
  have e239 := EEx_3 hR hz hx hρ.1 hN5 (exD0 C2 hρ hdρ hF) (c0 := 7) (s0 := 35) ⟨by omega, by omega⟩ e349
  have hle : nI N ≤ nI N := nI_le (Nat.le_refl _) (by omega)
  rw [← exP_0, nI_0] at e239
  have hf2 := dk_f C2.1.1
  have r1 : ¬ 1000 = ρ := by omega
  have r2 : ¬ 1401 = ρ := by omega
  unfold exL at e239 ⊢
  refine dvk_ok (nC := n + 0) DX12_extremes hTyA hR (VC := []) (VD := [(168, 3, 12, n + 0, 0, 0, 0, [], dX12_gap)]) (SD := [(171, 2, 0, n + 0, 0, 0, 0, [], dJ9_max_7cf53), (176, 2, 0, n + 0, 0, 0, 0, [], dJ9_min_7cf53)]) (AL := [(232, ρ, 5)]) (fun _ h => absurd h List.not_mem_nil) (List.forall_mem_cons.mpr ⟨⟨mX12_gap, 2, TX12, 25, rfl, by decide, hX12_168, WX12_gap, rfl, EX12_gap g _ n⟩, (fun _ h => absurd h List.not_mem_nil)⟩) (List.forall_mem_cons.mpr ⟨⟨mJ9_max_7cf53, by decide, Or.inl hX12_171, WJ9_max_7cf53, EJ9_max_7cf53 g _ n⟩, (List.forall_mem_cons.mpr ⟨⟨mJ9_min_7cf53, by decide, Or.inl hX12_176, WJ9_min_7cf53, EJ9_min_7cf53 g _ n⟩, (fun _ h => absurd h List.not_mem_nil)⟩)⟩) [239] 20 _ _ _ _ _ _ ?_
  simp (maxSteps := 1000000) [↓Bool.cond_eq_ite, -Prod.forall, -Prod.exists, -Prod.mk.injEq, dvk, tX12_extremes, jtb, jol, dvl, dal, dst, jlk, jcmp, jbin, jfl, qX12, jc2, qlX12, jcat, jel, lv_args, Value.category, jins, jsrt, jins2, jble, jblt, jf3, List.filter_cons, List.filter_nil, Dlo, Dnr, DnL, Dfree, Droom, DuS_S, DuS_I, DuS_L, DuS_R, DuS_N, DuS_A, DuI_S, DuI_I, DuI_L, DuI_R, DuI_N, DuI_A, DuL_S, DuL_I, DuL_L, DuL_R, DuL_N, DuL_A, DuR_S, DuR_I, DuR_L, DuR_R, DuR_N, DuR_A, Dnw_S, Dnw_I, Dnw_L, Dnw_R, Dnw_N, Dnw_A, DrI_S, DrI_I, DrI_L, DrI_R, DrI_N, DrI_A, DrJ_S, DrJ_I, DrJ_L, DrJ_R, DrJ_N, DrJ_A, dm64, G_d, G_x0, dX12_gap, dJ9_max_7cf53, dJ9_min_7cf53, doII, doRII, -Int32.not_le, -Int32.not_lt, -Int64.not_le, -Int64.not_lt, i3lt, i6lt, hf2, hle, hz, hAρ, hdρ, r1, r2, r3, eN, hn0, hN5]
  try simp (disch := omega) [-Prod.forall, -Prod.exists, -Prod.mk.injEq, -Int32.not_le, -Int32.not_lt, -Int64.not_le, -Int64.not_lt, i3lt, i6lt, hf2, hle, hz, hAρ, hdρ, r1, r2, r3, eN, hn0, hN5]
  exact DW.mono e239 (by simp)
set_option maxRecDepth 100000 in
set_option maxHeartbeats 4000000 in
set_option maxRecDepth 100000 in
set_option maxHeartbeats 4000000 in
theorem EX12_extremes (g : jG) (h0 n : Nat) (hE : dEs g) (ρ : Nat) : dOk g h0 (n + 1) 7 35 [ρ, 1401, 1115, 1116, 1117, 1118, 1119] mX12_extremes (dX12_extremes ρ) := by
  refine doRI_ok ?_
  rintro _ x σ ⟨rfl, N, M, hk, hB, hBr, hρ, hx, d1, d2, d3⟩
  have hN := hk.1.1
  have hN5 : N ≤ 5 := hN.2
  have hf := dk_f hk
  have eN : (nI N).toNatClampNeg = N := nI_clamp (by omega)
  have hn0 : ¬ nI N < 0 := nI_pos (by omega)
  refine dCon.go (by decide +kernel) (by simp [lg_sl, Value.category]) (fun z hkp hcl hz post hp hR => ?_)
  simp only [DkF] at hkp
  refine dvk_ok (nC := n + 0) DX12_extremes hTyA hR (VC := []) (VD := [(168, 3, 12, n + 0, 0, 0, 0, [], dX12_gap)]) (SD := [(171, 2, 0, n + 0, 0, 0, 0, [], dJ9_max_7cf53), (176, 2, 0, n + 0, 0, 0, 0, [], dJ9_min_7cf53)]) (AL := []) (fun _ h => absurd h List.not_mem_nil) (List.forall_mem_cons.mpr ⟨⟨mX12_gap, 2, TX12, 25, rfl, by decide, hX12_168, WX12_gap, rfl, EX12_gap g _ n⟩, (fun _ h => absurd h List.not_mem_nil)⟩) (List.forall_mem_cons.mpr ⟨⟨mJ9_max_7cf53, by decide, Or.inl hX12_171, WJ9_max_7cf53, EJ9_max_7cf53 g _ n⟩, (List.forall_mem_cons.mpr ⟨⟨mJ9_min_7cf53, by decide, Or.inl hX12_176, WJ9_min_7cf53, EJ9_min_7cf53 g _ n⟩, (fun _ h => absurd h List.not_mem_nil)⟩)⟩) [8] 20 _ _ _ _ _ _ ?_
  simp (maxSteps := 1000000) [↓Bool.cond_eq_ite, -Prod.forall, -Prod.exists, -Prod.mk.injEq, dvk, tX12_extremes, jtb, jol, dvl, dal, dst, jlk, jcmp, jbin, jfl, qX12, jc2, qlX12, jcat, jel, lv_args, Value.category, jins, jsrt, jins2, jble, jblt, jf3, List.filter_cons, List.filter_nil, Dlo, Dnr, DnL, Dfree, Droom, DuS_S, DuS_I, DuS_L, DuS_R, DuS_N, DuS_A, DuI_S, DuI_I, DuI_L, DuI_R, DuI_N, DuI_A, DuL_S, DuL_I, DuL_L, DuL_R, DuL_N, DuL_A, DuR_S, DuR_I, DuR_L, DuR_R, DuR_N, DuR_A, Dnw_S, Dnw_I, Dnw_L, Dnw_R, Dnw_N, Dnw_A, DrI_S, DrI_I, DrI_L, DrI_R, DrI_N, DrI_A, DrJ_S, DrJ_I, DrJ_L, DrJ_R, DrJ_N, DrJ_A, dm64, G_d, G_x0, dX12_gap, dJ9_max_7cf53, dJ9_min_7cf53, doII, doRII, -Int32.not_le, -Int32.not_lt, -Int64.not_le, -Int64.not_lt, i3lt, i6lt, hf, hn0, hkp, hz]
  try simp (disch := omega) [-Prod.forall, -Prod.exists, -Prod.mk.injEq, -Int32.not_le, -Int32.not_lt, -Int64.not_le, -Int64.not_lt, i3lt, i6lt, hf, hn0, hkp, hz]
  have hC := exC0 hk hB hBr
  obtain ⟨τ, eτ⟩ : ∃ τ, τ = Dmn σ 1401 1115 N N := ⟨_, rfl⟩
  have fτ : Dfr (fun k => ¬ Dnew2 1401 1115 N k) σ τ := by rw [eτ]; exact Dmn_fr
  rw [← eτ] at hC
  have hτ0 : ∀ p j, p < N → DI τ (1115 + p) j = 0 := fun p j hp9 => by
    rw [eτ, Dmn_I, if_pos (Or.inr ⟨by omega, by omega⟩)]
  have fσ2 : Dfr (fun k => ¬ Dnew2 1401 1115 N k) σ (DmF τ 1115 N (exF σ N)) := fτ.tr (DmF_fr.weak (fun k hk9 => by unfold Dnew2 at hk9; omega))
  have hAρ : DA (DmF τ 1115 N (exF σ N)) ρ = false := by
    rw [(fσ2.2 ρ (by unfold Dnew2; omega)).2.2.2.2]
    exact d3
  have hsub := exEnd (ρ := ρ) (x := x) hcl fσ2 hN5 rfl d1 d2
  have hfin := hp (some (.ref ρ)) _ ⟨rfl, (by rw [hf.1.2, eN] : DrI (Dnw σ ρ N) ρ (exRow σ x N) = _)⟩
  have e349 : DW g z mX12_extremes 349 (exL x [(4, .ref ρ)]) [] (DrI (Dnw (DmF τ 1115 N (exF σ N)) ρ N) ρ (fillI (fun p => exQ x (exF σ N) p N) N)) 7 35 := by
    unfold exL
    refine dvk_ok (nC := n + 0) DX12_extremes hTyA hR (VC := []) (VD := [(168, 3, 12, n + 0, 0, 0, 0, [], dX12_gap)]) (SD := [(171, 2, 0, n + 0, 0, 0, 0, [], dJ9_max_7cf53), (176, 2, 0, n + 0, 0, 0, 0, [], dJ9_min_7cf53)]) (AL := []) (fun _ h => absurd h List.not_mem_nil) (List.forall_mem_cons.mpr ⟨⟨mX12_gap, 2, TX12, 25, rfl, by decide, hX12_168, WX12_gap, rfl, EX12_gap g _ n⟩, (fun _ h => absurd h List.not_mem_nil)⟩) (List.forall_mem_cons.mpr ⟨⟨mJ9_max_7cf53, by decide, Or.inl hX12_171, WJ9_max_7cf53, EJ9_max_7cf53 g _ n⟩, (List.forall_mem_cons.mpr ⟨⟨mJ9_min_7cf53, by decide, Or.inl hX12_176, WJ9_min_7cf53, EJ9_min_7cf53 g _ n⟩, (fun _ h => absurd h List.not_mem_nil)⟩)⟩) [] 10 _ _ _ _ _ _ ?_
    simp (maxSteps := 1000000) [↓Bool.cond_eq_ite, -Prod.forall, -Prod.exists, -Prod.mk.injEq, dvk, tX12_extremes, jtb, jol, dvl, dal, dst, jlk, jcmp, jbin, jfl, qX12, jc2, qlX12, jcat, jel, lv_args, Value.category, jins, jsrt, jins2, jble, jblt, jf3, List.filter_cons, List.filter_nil, Dlo, Dnr, DnL, Dfree, Droom, DuS_S, DuS_I, DuS_L, DuS_R, DuS_N, DuS_A, DuI_S, DuI_I, DuI_L, DuI_R, DuI_N, DuI_A, DuL_S, DuL_I, DuL_L, DuL_R, DuL_N, DuL_A, DuR_S, DuR_I, DuR_L, DuR_R, DuR_N, DuR_A, Dnw_S, Dnw_I, Dnw_L, Dnw_R, Dnw_N, Dnw_A, DrI_S, DrI_I, DrI_L, DrI_R, DrI_N, DrI_A, DrJ_S, DrJ_I, DrJ_L, DrJ_R, DrJ_N, DrJ_A, dm64, G_d, G_x0, dX12_gap, dJ9_max_7cf53, dJ9_min_7cf53, doII, doRII, -Int32.not_le, -Int32.not_lt, -Int64.not_le, -Int64.not_lt, i3lt, i6lt, hz]
    try simp (disch := omega) [-Prod.forall, -Prod.exists, -Prod.mk.injEq, -Int32.not_le, -Int32.not_lt, -Int64.not_le, -Int64.not_lt, i3lt, i6lt, hz]
    exact ⟨⟨by omega, by omega⟩, _, hsub, hfin⟩
  have e123 := EEx_2 hR hz hC (c0 := 6) (s0 := 30) ⟨by omega, by omega⟩ (EEx_4 hR hz hx hρ hkp.1 (exC_F hC hN5 _) hAρ (fun p hp9 j => DmF_at hp9 j) e349)
  have e120 : DW g z mX12_extremes 120 (exL x [(4, .int (nI N))]) [] (DmF τ 1115 N (fr1 σ N N 0)) 6 30 := by
    rw [nI_0] at e123
    unfold exL at e123 ⊢
    refine dvk_ok (nC := n + 0) DX12_extremes hTyA hR (VC := []) (VD := [(168, 3, 12, n + 0, 0, 0, 0, [], dX12_gap)]) (SD := [(171, 2, 0, n + 0, 0, 0, 0, [], dJ9_max_7cf53), (176, 2, 0, n + 0, 0, 0, 0, [], dJ9_min_7cf53)]) (AL := []) (fun _ h => absurd h List.not_mem_nil) (List.forall_mem_cons.mpr ⟨⟨mX12_gap, 2, TX12, 25, rfl, by decide, hX12_168, WX12_gap, rfl, EX12_gap g _ n⟩, (fun _ h => absurd h List.not_mem_nil)⟩) (List.forall_mem_cons.mpr ⟨⟨mJ9_max_7cf53, by decide, Or.inl hX12_171, WJ9_max_7cf53, EJ9_max_7cf53 g _ n⟩, (List.forall_mem_cons.mpr ⟨⟨mJ9_min_7cf53, by decide, Or.inl hX12_176, WJ9_min_7cf53, EJ9_min_7cf53 g _ n⟩, (fun _ h => absurd h List.not_mem_nil)⟩)⟩) [123] 10 _ _ _ _ _ _ ?_
    simp (maxSteps := 1000000) [↓Bool.cond_eq_ite, -Prod.forall, -Prod.exists, -Prod.mk.injEq, dvk, tX12_extremes, jtb, jol, dvl, dal, dst, jlk, jcmp, jbin, jfl, qX12, jc2, qlX12, jcat, jel, lv_args, Value.category, jins, jsrt, jins2, jble, jblt, jf3, List.filter_cons, List.filter_nil, Dlo, Dnr, DnL, Dfree, Droom, DuS_S, DuS_I, DuS_L, DuS_R, DuS_N, DuS_A, DuI_S, DuI_I, DuI_L, DuI_R, DuI_N, DuI_A, DuL_S, DuL_I, DuL_L, DuL_R, DuL_N, DuL_A, DuR_S, DuR_I, DuR_L, DuR_R, DuR_N, DuR_A, Dnw_S, Dnw_I, Dnw_L, Dnw_R, Dnw_N, Dnw_A, DrI_S, DrI_I, DrI_L, DrI_R, DrI_N, DrI_A, DrJ_S, DrJ_I, DrJ_L, DrJ_R, DrJ_N, DrJ_A, dm64, G_d, G_x0, dX12_gap, dJ9_max_7cf53, dJ9_min_7cf53, doII, doRII, -Int32.not_le, -Int32.not_lt, -Int64.not_le, -Int64.not_lt, i3lt, i6lt, hz]
    try simp (disch := omega) [-Prod.forall, -Prod.exists, -Prod.mk.injEq, -Int32.not_le, -Int32.not_lt, -Int64.not_le, -Int64.not_lt, i3lt, i6lt, hz]
    exact e123
  have e19 := EEx_1 (h0 := h0) (ρ := ρ) hR hz hC (c0 := 6) (s0 := 30) ⟨by omega, by omega⟩ e120
  rw [← fr1_0 hτ0, nI_0] at e19
  refine dr_mna (a := 1401) (b := 1115) (t := 0) (to := 6) (Or.inl ⟨rfl, rfl, rfl, rfl⟩) (by decide +kernel) (fun i hi => G_far i (by rw [eN] at hi; omega)) (fun k hk9 => ?_) (by omega) hE.2.1 (jGw_of 737 (by decide +kernel) (by decide +kernel)) (jGw_of 438 (by decide +kernel) (by decide +kernel)) hn0 hn0 (by omega) (by omega) (by rw [eN, hz.2.2.1]; omega) (by rw [eN, hz.2.2.2]; exact dnn N hN5) (show decode cX12_extremes 8 = .ok (.multianewarray 50 2, 4) by decide +kernel) ?_
  · rw [eN] at hk9
    rcases hk9 with rfl | ⟨h1, h2⟩
    · exact ⟨d1, hkp.2.1, by simp, by simp⟩
    · refine ⟨?_, ?_, ?_, by simp⟩
      · have := d2 (k - 1115) (by omega)
        rw [show 1115 + (k - 1115) = k by omega] at this
        exact this
      · obtain ⟨-, -, q5, q6, q7, q8, q9, -⟩ := hkp
        have : k = 1115 ∨ k = 1116 ∨ k = 1117 ∨ k = 1118 ∨ k = 1119 := by omega
        rcases this with rfl | rfl | rfl | rfl | rfl <;> assumption
      · intro h9
        have h10 : k = 1000 := by simpa using h9
        omega
  · rw [eN, ← eτ]
    refine DW.wide (c1 := 6) (s1 := 30) (by omega) (dnm N hN5) ?_
    unfold exL at e19
    refine dvk_ok (nC := n + 0) DX12_extremes hTyA hR (VC := []) (VD := [(168, 3, 12, n + 0, 0, 0, 0, [], dX12_gap)]) (SD := [(171, 2, 0, n + 0, 0, 0, 0, [], dJ9_max_7cf53), (176, 2, 0, n + 0, 0, 0, 0, [], dJ9_min_7cf53)]) (AL := []) (fun _ h => absurd h List.not_mem_nil) (List.forall_mem_cons.mpr ⟨⟨mX12_gap, 2, TX12, 25, rfl, by decide, hX12_168, WX12_gap, rfl, EX12_gap g _ n⟩, (fun _ h => absurd h List.not_mem_nil)⟩) (List.forall_mem_cons.mpr ⟨⟨mJ9_max_7cf53, by decide, Or.inl hX12_171, WJ9_max_7cf53, EJ9_max_7cf53 g _ n⟩, (List.forall_mem_cons.mpr ⟨⟨mJ9_min_7cf53, by decide, Or.inl hX12_176, WJ9_min_7cf53, EJ9_min_7cf53 g _ n⟩, (fun _ h => absurd h List.not_mem_nil)⟩)⟩) [19] 10 _ _ _ _ _ _ ?_
    simp (maxSteps := 1000000) [↓Bool.cond_eq_ite, -Prod.forall, -Prod.exists, -Prod.mk.injEq, dvk, tX12_extremes, jtb, jol, dvl, dal, dst, jlk, jcmp, jbin, jfl, qX12, jc2, qlX12, jcat, jel, lv_args, Value.category, jins, jsrt, jins2, jble, jblt, jf3, List.filter_cons, List.filter_nil, Dlo, Dnr, DnL, Dfree, Droom, DuS_S, DuS_I, DuS_L, DuS_R, DuS_N, DuS_A, DuI_S, DuI_I, DuI_L, DuI_R, DuI_N, DuI_A, DuL_S, DuL_I, DuL_L, DuL_R, DuL_N, DuL_A, DuR_S, DuR_I, DuR_L, DuR_R, DuR_N, DuR_A, Dnw_S, Dnw_I, Dnw_L, Dnw_R, Dnw_N, Dnw_A, DrI_S, DrI_I, DrI_L, DrI_R, DrI_N, DrI_A, DrJ_S, DrJ_I, DrJ_L, DrJ_R, DrJ_N, DrJ_A, dm64, G_d, G_x0, dX12_gap, dJ9_max_7cf53, dJ9_min_7cf53, doII, doRII, -Int32.not_le, -Int32.not_lt, -Int64.not_le, -Int64.not_lt, i3lt, i6lt, hz]
    try simp (disch := omega) [-Prod.forall, -Prod.exists, -Prod.mk.injEq, -Int32.not_le, -Int32.not_lt, -Int64.not_le, -Int64.not_lt, i3lt, i6lt, hz]
    exact e19
