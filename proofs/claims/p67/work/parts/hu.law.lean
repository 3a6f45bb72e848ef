/-! the law's payments, whole -/
theorem spRes_e {σ τ : dM} {N : Nat} {x : Int32} (h1 : DI τ 1000 2 = nI N) (hN : N ≤ 1000) (h2 : DI τ 1210 = dyH σ N) (h3 : DL τ 1311 = dyW σ N) (hx : x = dyA σ) : spRes τ x 1311 1210 = DrI (Dnw τ 1124 N) 1124 (dyShare σ N) := by
  unfold spRes dyShare
  rw [h1, nI_clamp (by omega), h2, h3, hx]
theorem cn_ex9 {f : Nat → Bool} : ∀ {N : Nat}, 0 < cn f N → ∃ p, p < N ∧ f p = true
  | 0, h => absurd h (Nat.lt_irrefl _)
  | N + 1, h => by
    simp only [cn] at h
    cases c : f N with
    | true => exact ⟨N, Nat.lt_succ_self _, c⟩
    | false =>
      rw [c] at h
      obtain ⟨p, h1, h2⟩ := cn_ex9 (f := f) (N := N) (by simpa using h)
      exact ⟨p, Nat.lt_succ_of_lt h1, h2⟩
set_option maxRecDepth 100000 in
set_option maxHeartbeats 4000000 in
theorem EX12_payments (g : jG) (h0 n : Nat) (hE : dEs g) (ρ : Nat) : dOk g h0 (n + 3) 21 105 [ρ, 1123, 1120, 1121, 1401, 1115, 1116, 1117, 1118, 1119, 1210, 1311, 1124, 1310, 1312] mX12_payments (dX12_payments ρ) := by
  refine doR_ok ?_
  rintro _ σ ⟨rfl, N, M, A, m, inc, hk, hB, hBr, hρ, hn, hfr, ⟨d1, d2, d3, d4, d5, d6⟩, d7, hinc, ⟨hA, hA2⟩, hm⟩
  have hN := hk.1.1
  have hN5 : N ≤ 5 := hN.2
  have hf := dk_f hk
  have eN : (nI N).toNatClampNeg = N := nI_clamp (by omega)
  have hn0 : ¬ nI N < 0 := nI_pos (by omega)
  have n100 : ¬ (100 : Int32) = 0 := by decide
  have hpre1 : dpPr σ 1123 := ⟨N, M, hk, hB, hBr, ⟨by decide, by decide⟩, hn, hfr, d1⟩
  refine dCon.go (by decide +kernel) (by simp [lg_sl, Value.category]) (fun z hkp hcl hz post hp hR => ?_)
  simp only [DkF] at hkp
  refine dvk_ok (nC := n + 2) DX12_payments hTyA hR (VC := []) (VD := [(192, 1, 12, n + 2, 0, 15, 75, [1123, 1120, 1121, 1401, 1115, 1116, 1117, 1118, 1119], (dX12_prices 1123)), (196, 1, 12, n + 0, 0, 1, 5, [1210], dX12_livers), (200, 4, 12, n + 1, 0, 2, 10, [1124, 1310], dX12_split)]) (SD := [(181, 4, 0, n + 0, 0, 0, 0, [], dX12_rest)]) (AL := []) (fun _ h => absurd h List.not_mem_nil) (List.forall_mem_cons.mpr ⟨⟨mX12_prices, 0, TX12, 25, rfl, by decide, hX12_192, WX12_prices, rfl, EX12_prices g _ n hE 1123⟩, (List.forall_mem_cons.mpr ⟨⟨mX12_livers, 0, TX12, 25, rfl, by decide, hX12_196, WX12_livers, rfl, EX12_livers g _ n⟩, (List.forall_mem_cons.mpr ⟨⟨mX12_split, 3, TX12, 25, rfl, by decide, hX12_200, WX12_split, rfl, EX12_split g _ n⟩, (fun _ h => absurd h List.not_mem_nil)⟩)⟩)⟩) (List.forall_mem_cons.mpr ⟨⟨mX12_rest, by decide, Or.inl hX12_181, WX12_rest, EX12_rest g _ n⟩, (fun _ h => absurd h List.not_mem_nil)⟩) [4] 10 _ _ _ _ _ _ ?_
  simp (maxSteps := 1000000) [↓Bool.cond_eq_ite, -Prod.forall, -Prod.exists, -Prod.mk.injEq, dvk, tX12_payments, jtb, jol, dvl, dal, dst, jlk, jcmp, jbin, jfl, qX12, jc2, qlX12, jcat, jel, lv_args, Value.category, jins, jsrt, jins2, jble, jblt, jf3, List.filter_cons, List.filter_nil, Dlo, Dnr, DnL, Dfree, Droom, DuS_S, DuS_I, DuS_L, DuS_R, DuS_N, DuS_A, DuI_S, DuI_I, DuI_L, DuI_R, DuI_N, DuI_A, DuL_S, DuL_I, DuL_L, DuL_R, DuL_N, DuL_A, DuR_S, DuR_I, DuR_L, DuR_R, DuR_N, DuR_A, Dnw_S, Dnw_I, Dnw_L, Dnw_R, Dnw_N, Dnw_A, DrI_S, DrI_I, DrI_L, DrI_R, DrI_N, DrI_A, DrJ_S, DrJ_I, DrJ_L, DrJ_R, DrJ_N, DrJ_A, dm64, G_d, G_x0, dX12_prices, dX12_livers, dX12_split, dX12_rest, doR, doRIRR, doRRRI, -Int32.not_le, -Int32.not_lt, -Int64.not_le, -Int64.not_lt, i3lt, i6lt, hf, eN, hpre1, hkp, hz]
  try simp (disch := omega) [-Prod.forall, -Prod.exists, -Prod.mk.injEq, -Int32.not_le, -Int32.not_lt, -Int64.not_le, -Int64.not_lt, i3lt, i6lt, hf, eN, hpre1, hkp, hz]
  obtain ⟨τ1, e1⟩ : ∃ τ1, τ1 = DrI (Dnw σ 1123 N) 1123 (dpRow σ N) := ⟨_, rfl⟩
  have f1 : Dfr (fun k => k ≠ 1123) σ τ1 := by rw [e1]; exact Dfr_new
  have g1 : DI τ1 1000 2 = nI N := by rw [(f1.2 1000 (by decide)).1]; exact hf.1.2
  have g2 : DA τ1 1000 = true := by rw [(f1.2 1000 (by decide)).2.2.2.2]; exact hf.2.1.1
  have p2 : prD τ1 := ⟨N, M, dk_fr (fun k hk9 => by unfold dkI at hk9; omega) f1 hk⟩
  have p3 : DA τ1 1210 = false := by rw [(f1.2 1210 (by decide)).2.2.2.2]; exact d2
  have hlv : lvI τ1 = lvI σ := by
    funext p
    unfold lvI lv
    rw [(f1.2 1100 (by decide)).1]
  have row1 : DA τ1 1123 = true ∧ DN τ1 1123 = N ∧ ∀ j, DI τ1 1123 j = dpRow σ N j := by
    rw [e1]
    exact ⟨by rw [DrI_A, Dnw_A, if_pos rfl], by rw [DrI_N, Dnw_N, if_pos rfl], fun j => by rw [DrI_I, if_pos rfl]⟩
  rw [← e1]
  refine dvk_ok (nC := n + 2) DX12_payments hTyA hR (VC := []) (VD := [(196, 1, 12, n + 0, 0, 1, 5, [1210], dX12_livers), (200, 4, 12, n + 1, 0, 2, 10, [1124, 1310], dX12_split)]) (SD := [(181, 4, 0, n + 0, 0, 0, 0, [], dX12_rest)]) (AL := []) (fun _ h => absurd h List.not_mem_nil) (List.forall_mem_cons.mpr ⟨⟨mX12_livers, 0, TX12, 25, rfl, by decide, hX12_196, WX12_livers, rfl, EX12_livers g _ n⟩, (List.forall_mem_cons.mpr ⟨⟨mX12_split, 3, TX12, 25, rfl, by decide, hX12_200, WX12_split, rfl, EX12_split g _ n⟩, (fun _ h => absurd h List.not_mem_nil)⟩)⟩) (List.forall_mem_cons.mpr ⟨⟨mX12_rest, by decide, Or.inl hX12_181, WX12_rest, EX12_rest g _ n⟩, (fun _ h => absurd h List.not_mem_nil)⟩) [9] 10 _ _ _ _ _ _ ?_
  simp (maxSteps := 1000000) [↓Bool.cond_eq_ite, -Prod.forall, -Prod.exists, -Prod.mk.injEq, dvk, tX12_payments, jtb, jol, dvl, dal, dst, jlk, jcmp, jbin, jfl, qX12, jc2, qlX12, jcat, jel, lv_args, Value.category, jins, jsrt, jins2, jble, jblt, jf3, List.filter_cons, List.filter_nil, Dlo, Dnr, DnL, Dfree, Droom, DuS_S, DuS_I, DuS_L, DuS_R, DuS_N, DuS_A, DuI_S, DuI_I, DuI_L, DuI_R, DuI_N, DuI_A, DuL_S, DuL_I, DuL_L, DuL_R, DuL_N, DuL_A, DuR_S, DuR_I, DuR_L, DuR_R, DuR_N, DuR_A, Dnw_S, Dnw_I, Dnw_L, Dnw_R, Dnw_N, Dnw_A, DrI_S, DrI_I, DrI_L, DrI_R, DrI_N, DrI_A, DrJ_S, DrJ_I, DrJ_L, DrJ_R, DrJ_N, DrJ_A, dm64, G_d, G_x0, dX12_livers, dX12_split, dX12_rest, doR, doRIRR, doRRRI, -Int32.not_le, -Int32.not_lt, -Int64.not_le, -Int64.not_lt, i3lt, i6lt, g1, g2, p2, p3, eN, hkp, hz]
  try simp (disch := omega) [-Prod.forall, -Prod.exists, -Prod.mk.injEq, -Int32.not_le, -Int32.not_lt, -Int64.not_le, -Int64.not_lt, i3lt, i6lt, g1, g2, p2, p3, eN, hkp, hz]
  have eL : livS τ1 N = DrI (Dnw τ1 1210 N) 1210 (dyH σ N) := by
    unfold livS dyH
    rw [hlv]
  rw [eL]
  obtain ⟨τ2, e2⟩ : ∃ τ2, τ2 = DrI (Dnw τ1 1210 N) 1210 (dyH σ N) := ⟨_, rfl⟩
  have f2 : Dfr (fun k => k ≠ 1123 ∧ k ≠ 1210) σ τ2 := by
    rw [e2]
    exact (f1.weak (fun k hk9 => hk9.1)).tr (Dfr_new.weak (fun k hk9 => hk9.2))
  have row2 : (DA τ2 1123 = true ∧ DN τ2 1123 = N ∧ ∀ j, DI τ2 1123 j = dpRow σ N j) ∧ (DA τ2 1210 = true ∧ DN τ2 1210 = N ∧ DI τ2 1210 = dyH σ N) := by
    rw [e2]
    refine ⟨⟨by rw [DrI_A, Dnw_A, if_neg (by decide)]; exact row1.1, by rw [DrI_N, Dnw_N, if_neg (by decide)]; exact row1.2.1, fun j => by rw [DrI_I, if_neg (by decide), Dnw_I, if_neg (by decide)]; exact row1.2.2 j⟩, by rw [DrI_A, Dnw_A, if_pos rfl], by rw [DrI_N, Dnw_N, if_pos rfl], funext fun j => by rw [DrI_I, if_pos rfl]⟩
  have g3 : DI τ2 1000 2 = nI N := by rw [(f2.2 1000 (by decide)).1]; exact hf.1.2
  have g4 : DA τ2 1000 = true := by rw [(f2.2 1000 (by decide)).2.2.2.2]; exact hf.2.1.1
  have g5 : DA τ2 1311 = false := by rw [(f2.2 1311 (by decide)).2.2.2.2]; exact d3
  rw [← e2]
  refine dvk_ok (nC := n + 2) DX12_payments hTyA hR (VC := []) (VD := [(196, 1, 12, n + 0, 0, 1, 5, [1210], dX12_livers), (200, 4, 12, n + 1, 0, 2, 10, [1124, 1310], dX12_split)]) (SD := [(181, 4, 0, n + 0, 0, 0, 0, [], dX12_rest)]) (AL := [(14, 1311, 5)]) (fun _ h => absurd h List.not_mem_nil) (List.forall_mem_cons.mpr ⟨⟨mX12_livers, 0, TX12, 25, rfl, by decide, hX12_196, WX12_livers, rfl, EX12_livers g _ n⟩, (List.forall_mem_cons.mpr ⟨⟨mX12_split, 3, TX12, 25, rfl, by decide, hX12_200, WX12_split, rfl, EX12_split g _ n⟩, (fun _ h => absurd h List.not_mem_nil)⟩)⟩) (List.forall_mem_cons.mpr ⟨⟨mX12_rest, by decide, Or.inl hX12_181, WX12_rest, EX12_rest g _ n⟩, (fun _ h => absurd h List.not_mem_nil)⟩) [20] 10 _ _ _ _ _ _ ?_
  simp (maxSteps := 1000000) [↓Bool.cond_eq_ite, -Prod.forall, -Prod.exists, -Prod.mk.injEq, dvk, tX12_payments, jtb, jol, dvl, dal, dst, jlk, jcmp, jbin, jfl, qX12, jc2, qlX12, jcat, jel, lv_args, Value.category, jins, jsrt, jins2, jble, jblt, jf3, List.filter_cons, List.filter_nil, Dlo, Dnr, DnL, Dfree, Droom, DuS_S, DuS_I, DuS_L, DuS_R, DuS_N, DuS_A, DuI_S, DuI_I, DuI_L, DuI_R, DuI_N, DuI_A, DuL_S, DuL_I, DuL_L, DuL_R, DuL_N, DuL_A, DuR_S, DuR_I, DuR_L, DuR_R, DuR_N, DuR_A, Dnw_S, Dnw_I, Dnw_L, Dnw_R, Dnw_N, Dnw_A, DrI_S, DrI_I, DrI_L, DrI_R, DrI_N, DrI_A, DrJ_S, DrJ_I, DrJ_L, DrJ_R, DrJ_N, DrJ_A, dm64, G_d, G_x0, dX12_livers, dX12_split, dX12_rest, doR, doRIRR, doRRRI, -Int32.not_le, -Int32.not_lt, -Int64.not_le, -Int64.not_lt, i3lt, i6lt, g3, g4, g5, eN, hn0, hN5, hkp, hz]
  try simp (disch := omega) [-Prod.forall, -Prod.exists, -Prod.mk.injEq, -Int32.not_le, -Int32.not_lt, -Int64.not_le, -Int64.not_lt, i3lt, i6lt, g3, g4, g5, eN, hn0, hN5, hkp, hz]
  rw [fillL_0 (fun p => (DI σ 1101 p).toInt64)]
  obtain ⟨τ3, e3⟩ : ∃ τ3, τ3 = Dnw τ2 1311 N := ⟨_, rfl⟩
  have f3 : Dfr (fun k => k ≠ 1123 ∧ k ≠ 1210 ∧ k ≠ 1311) σ τ3 := by
    rw [e3]
    exact (f2.weak (fun k hk9 => ⟨hk9.1, hk9.2.1⟩)).tr (Dfr_nw.weak (fun k hk9 => hk9.2.2))
  obtain ⟨τ4, e4⟩ : ∃ τ4, τ4 = DrJ τ3 1311 (dyW σ N) := ⟨_, rfl⟩
  have f4 : Dfr (fun k => k ≠ 1123 ∧ k ≠ 1210 ∧ k ≠ 1311) σ τ4 := by
    rw [e4]
    exact f3.tr (Dfr_rJ.weak (fun k hk9 => hk9.2.2))
  have hk3 : dk τ3 N M := dk_fr (fun k hk9 => by unfold dkI at hk9; omega) f3 hk
  have hk4 : dk τ4 N M := dk_fr (fun k hk9 => by unfold dkI at hk9; omega) f4 hk
  have a3 : DA τ3 1311 = true ∧ DN τ3 1311 = N := by
    rw [e3]
    exact ⟨by rw [Dnw_A, if_pos rfl], by rw [Dnw_N, if_pos rfl]⟩
  have row4 : (DA τ4 1123 = true ∧ DN τ4 1123 = N ∧ ∀ j, DI τ4 1123 j = dpRow σ N j) ∧ (DA τ4 1210 = true ∧ DN τ4 1210 = N ∧ DI τ4 1210 = dyH σ N) ∧ DL τ4 1311 = dyW σ N ∧ DA τ4 1311 = true ∧ DN τ4 1311 = N := by
    rw [e4, e3]
    refine ⟨⟨by rw [DrJ_A, Dnw_A, if_neg (by decide)]; exact row2.1.1, by rw [DrJ_N, Dnw_N, if_neg (by decide)]; exact row2.1.2.1, fun j => by rw [DrJ_I, Dnw_I, if_neg (by decide)]; exact row2.1.2.2 j⟩, ⟨by rw [DrJ_A, Dnw_A, if_neg (by decide)]; exact row2.2.1, by rw [DrJ_N, Dnw_N, if_neg (by decide)]; exact row2.2.2.1, funext fun j => by rw [DrJ_I, Dnw_I, if_neg (by decide)]; exact congrFun row2.2.2.2 j⟩, funext fun j => by rw [DrJ_L, if_pos rfl], by rw [DrJ_A, Dnw_A, if_pos rfl], by rw [DrJ_N, Dnw_N, if_pos rfl]⟩
  have hinc3 : ∀ p, DI τ3 1101 p = DI σ 1101 p := fun p => by rw [(f3.2 1101 (by decide)).1]
  have hz2 : z.1.frames = n + 3 ∧ z.1.locals = 64 * (n + 3) ∧ z.1.cells = 21 ∧ z.1.slots = 105 := hz
  have n0 := f4.2 1000 (by decide)
  have m12 : DI τ4 1000 12 = DI σ 1000 12 := by rw [n0.1]
  have m15 : DI τ4 1000 15 = DI σ 1000 15 := by rw [n0.1]
  have m2 : DI τ4 1000 2 = nI N := by rw [n0.1]; exact hf.1.2
  have m0 : DA τ4 1000 = true := by rw [n0.2.2.2.2]; exact hf.2.1.1
  have hA' : DI σ 1000 12 * DI σ 1000 15 / 100 = nI A := hA
  have hpre4 : prSp τ4 (nI A) 1311 1210 := ⟨N, M, A, inc, hk4, rfl, hA2, Or.inl rfl, rfl, row4.2.2.2, ⟨row4.2.1.1, row4.2.1.2.1⟩, fun p hp9 => by
    refine ⟨?_, (hinc p hp9).2⟩
    rw [row4.2.2.1]
    unfold dyW
    rw [fillL_lt hp9, (hinc p hp9).1]
    exact nI_l (by have := (hinc p hp9).2; omega), by rw [(f4.2 1124 (by decide)).2.2.2.2]; exact d4, by rw [(f4.2 1310 (by decide)).2.2.2.2]; exact d5⟩
  have hsp := spRes_e (σ := σ) m2 (by omega) row4.2.1.2.2 row4.2.2.1 hA.symm
  obtain ⟨τ5, e5⟩ : ∃ τ5, τ5 = DrI (Dnw τ4 1124 N) 1124 (dyShare σ N) := ⟨_, rfl⟩
  have f5 : Dfr (fun k => k ≠ 1123 ∧ k ≠ 1210 ∧ k ≠ 1311 ∧ k ≠ 1124) σ τ5 := by
    rw [e5]
    exact (f4.weak (fun k hk9 => ⟨hk9.1, hk9.2.1, hk9.2.2.1⟩)).tr (Dfr_new.weak (fun k hk9 => hk9.2.2.2))
  have f45 : Dfr (fun k => k ≠ 1124) τ4 τ5 := by rw [e5]; exact Dfr_new
  have b3 := f45.2 1123 (by decide)
  have b0 := f45.2 1210 (by decide)
  have k65 := EPy_4 (h0 := h0) hR hz2 hρ (dk_fr (fun k hk9 => by unfold dkI at hk9; omega) f5 hk) ⟨by rw [b3.2.2.2.2]; exact row4.1.1, by rw [b3.2.2.2.1]; exact row4.1.2.1, fun j => by rw [b3.1]; exact row4.1.2.2 j⟩ ⟨by rw [b0.2.2.2.2]; exact row4.2.1.1, by rw [b0.2.2.2.1]; exact row4.2.1.2.1, by rw [b0.1]; exact row4.2.1.2.2⟩ ⟨by rw [e5]; exact ⟨by rw [DrI_A, Dnw_A, if_pos rfl], by rw [DrI_N, Dnw_N, if_pos rfl]⟩, fun j _ => by rw [e5, DrI_I, if_pos rfl]⟩ (by rw [(f5.2 ρ (by omega)).2.2.2.2]; exact d7) (by rw [(f5.2 1312 (by decide)).2.2.2.2]; exact d6) (by rw [(f5.2 1000 (by decide)).1]) (by rw [(f5.2 1000 (by decide)).1]) ⟨hkp.1, hkp.2.2.2.2.2.2.2.2.2.2.2.2.2.2.1⟩ hm (by
    obtain ⟨p, hp9, hv⟩ := cn_ex9 hn
    exact ⟨p, hp9, by unfold lvI; rw [if_pos hv]; decide⟩) (fun τ8 f8 q1 q2 q3 => by
    have hfin := hp (some (.ref ρ)) _ ⟨rfl, (by rw [hf.1.2, eN] : DrI (Dnw σ ρ N) ρ (dyPay σ N N) = _)⟩
    have hsub : Dsub (DrI (Dnw σ ρ N) ρ (dyPay σ N N)) (DrI τ8 ρ (dyPay σ N N)) := Dsub_new (P := dyK ρ) hcl ((f5.weak (fun k hk9 => by unfold dyK at hk9; omega)).tr (f8.weak (fun k hk9 => by unfold dyK at hk9; omega))) (fun k hk9 hkρ => by
      have h9 : k = 1123 ∨ k = 1210 ∨ k = 1311 ∨ k = 1124 ∨ k = 1312 := by unfold dyK at hk9; omega
      rcases h9 with rfl | rfl | rfl | rfl | rfl <;> assumption) q1.1 q1.2 q2 q3 (fun z9 => z9.2.2.2.2.1 rfl)
    refine dvk_ok (nC := n + 2) DX12_payments hTyA hR (VC := []) (VD := [(196, 1, 12, n + 0, 0, 1, 5, [1210], dX12_livers), (200, 4, 12, n + 1, 0, 2, 10, [1124, 1310], dX12_split)]) (SD := [(181, 4, 0, n + 0, 0, 0, 0, [], dX12_rest)]) (AL := []) (fun _ h => absurd h List.not_mem_nil) (List.forall_mem_cons.mpr ⟨⟨mX12_livers, 0, TX12, 25, rfl, by decide, hX12_196, WX12_livers, rfl, EX12_livers g _ n⟩, (List.forall_mem_cons.mpr ⟨⟨mX12_split, 3, TX12, 25, rfl, by decide, hX12_200, WX12_split, rfl, EX12_split g _ n⟩, (fun _ h => absurd h List.not_mem_nil)⟩)⟩) (List.forall_mem_cons.mpr ⟨⟨mX12_rest, by decide, Or.inl hX12_181, WX12_rest, EX12_rest g _ n⟩, (fun _ h => absurd h List.not_mem_nil)⟩) [] 10 _ _ _ _ _ _ ?_
    simp (maxSteps := 1000000) [↓Bool.cond_eq_ite, -Prod.forall, -Prod.exists, -Prod.mk.injEq, dvk, tX12_payments, jtb, jol, dvl, dal, dst, jlk, jcmp, jbin, jfl, qX12, jc2, qlX12, jcat, jel, lv_args, Value.category, jins, jsrt, jins2, jble, jblt, jf3, List.filter_cons, List.filter_nil, Dlo, Dnr, DnL, Dfree, Droom, DuS_S, DuS_I, DuS_L, DuS_R, DuS_N, DuS_A, DuI_S, DuI_I, DuI_L, DuI_R, DuI_N, DuI_A, DuL_S, DuL_I, DuL_L, DuL_R, DuL_N, DuL_A, DuR_S, DuR_I, DuR_L, DuR_R, DuR_N, DuR_A, Dnw_S, Dnw_I, Dnw_L, Dnw_R, Dnw_N, Dnw_A, DrI_S, DrI_I, DrI_L, DrI_R, DrI_N, DrI_A, DrJ_S, DrJ_I, DrJ_L, DrJ_R, DrJ_N, DrJ_A, dm64, G_d, G_x0, dX12_livers, dX12_split, dX12_rest, doR, doRIRR, doRRRI, -Int32.not_le, -Int32.not_lt, -Int64.not_le, -Int64.not_lt, i3lt, i6lt, hz]
    try simp (disch := omega) [-Prod.forall, -Prod.exists, -Prod.mk.injEq, -Int32.not_le, -Int32.not_lt, -Int64.not_le, -Int64.not_lt, i3lt, i6lt, hz]
    exact ⟨⟨by omega, by omega⟩, _, hsub, hfin⟩)
  have k47 : DW g z mX12_payments 47 [(0, .ref 1000), (1, .ref 1123), (2, .ref 1210), (3, .ref 1311)] [] (DrJ τ3 1311 (dyW σ N)) 17 85 := by
    rw [e5, ← hsp] at k65
    rw [← e4]
    refine dvk_ok (nC := n + 2) DX12_payments hTyA hR (VC := []) (VD := [(196, 1, 12, n + 0, 0, 1, 5, [1210], dX12_livers), (200, 4, 12, n + 1, 0, 2, 10, [1124, 1310], dX12_split)]) (SD := [(181, 4, 0, n + 0, 0, 0, 0, [], dX12_rest)]) (AL := []) (fun _ h => absurd h List.not_mem_nil) (List.forall_mem_cons.mpr ⟨⟨mX12_livers, 0, TX12, 25, rfl, by decide, hX12_196, WX12_livers, rfl, EX12_livers g _ n⟩, (List.forall_mem_cons.mpr ⟨⟨mX12_split, 3, TX12, 25, rfl, by decide, hX12_200, WX12_split, rfl, EX12_split g _ n⟩, (fun _ h => absurd h List.not_mem_nil)⟩)⟩) (List.forall_mem_cons.mpr ⟨⟨mX12_rest, by decide, Or.inl hX12_181, WX12_rest, EX12_rest g _ n⟩, (fun _ h => absurd h List.not_mem_nil)⟩) [65] 30 _ _ _ _ _ _ ?_
    simp (maxSteps := 1000000) [↓Bool.cond_eq_ite, -Prod.forall, -Prod.exists, -Prod.mk.injEq, dvk, tX12_payments, jtb, jol, dvl, dal, dst, jlk, jcmp, jbin, jfl, qX12, jc2, qlX12, jcat, jel, lv_args, Value.category, jins, jsrt, jins2, jble, jblt, jf3, List.filter_cons, List.filter_nil, Dlo, Dnr, DnL, Dfree, Droom, DuS_S, DuS_I, DuS_L, DuS_R, DuS_N, DuS_A, DuI_S, DuI_I, DuI_L, DuI_R, DuI_N, DuI_A, DuL_S, DuL_I, DuL_L, DuL_R, DuL_N, DuL_A, DuR_S, DuR_I, DuR_L, DuR_R, DuR_N, DuR_A, Dnw_S, Dnw_I, Dnw_L, Dnw_R, Dnw_N, Dnw_A, DrI_S, DrI_I, DrI_L, DrI_R, DrI_N, DrI_A, DrJ_S, DrJ_I, DrJ_L, DrJ_R, DrJ_N, DrJ_A, dm64, G_d, G_x0, dX12_livers, dX12_split, dX12_rest, doR, doRIRR, doRRRI, -Int32.not_le, -Int32.not_lt, -Int64.not_le, -Int64.not_lt, i3lt, i6lt, m0, m12, m15, m2, hA', hpre4, hkp, hz, n100]
    try simp (disch := omega) [-Prod.forall, -Prod.exists, -Prod.mk.injEq, -Int32.not_le, -Int32.not_lt, -Int64.not_le, -Int64.not_lt, i3lt, i6lt, m0, m12, m15, m2, hA', hpre4, hkp, hz, n100]
    exact k65
  have k := EPy_1 hR hz2 hk3 a3 hinc3 k47
  rw [← e3]
  rw [nI_0] at k
  exact k
