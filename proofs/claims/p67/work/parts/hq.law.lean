/-! the law's prices, from the two rows on -/
theorem Dfr_new {σ : dM} {a n : Nat} {f : Nat → Int32} : Dfr (fun k => k ≠ a) σ (DrI (Dnw σ a n) a f) := ⟨rfl, fun k hk => ⟨funext fun j => by rw [DrI_I, if_neg hk, Dnw_I, if_neg hk], funext fun j => by rw [DrI_L, Dnw_L, if_neg hk], funext fun j => by rw [DrI_R, Dnw_R, if_neg hk], by rw [DrI_N, Dnw_N, if_neg hk], by rw [DrI_A, Dnw_A, if_neg hk]⟩⟩
/-- the desk there, if what it needs is the same -/
theorem prEx_fr {P : Nat → Prop} {σ τ : dM} {N M ρ : Nat} {x : Int32} (f : Dfr P σ τ) (hP : ∀ k, dkI k → P k) (h7 : P 1107) (hk : dk σ N M) (hB : dkB σ N) (hBr : dkBr σ N M) (hρ : 1120 ≤ ρ ∧ ρ ≤ 1139) (hx : x = 0 ∨ x = 1) (d1 : DA τ 1401 = false) (d2 : ∀ i, i < 5 → DA τ (1115 + i) = false) (d3 : DA τ ρ = false) : prEx τ x ρ := by
  have a := f.2 1107 h7
  have b := f.2 1000 (hP 1000 (by unfold dkI; omega))
  refine ⟨N, M, dk_fr hP f hk, ?_, fun p hp hb => ?_, hρ, hx, d1, d2, d3⟩
  · unfold dkB at hB ⊢
    rw [b.2.2.1, a.2.2.2.1, a.2.2.2.2]
    exact hB
  · rw [a.1] at hb ⊢
    exact hBr p hp hb
theorem Dsub_new {P : Nat → Prop} {σ τ : dM} {a n : Nat} {f : Nat → Int32} (hcl : Dcl0 σ) (h : Dfr P σ τ) (hP : ∀ k, ¬ P k → k ≠ a → DA σ k = false) (hA : DA τ a = true) (hN : DN τ a = n) (hL : ∀ j, DL τ a j = 0) (hR : ∀ j, DR τ a j = none) (hPa : ¬ P a) : Dsub (DrI (Dnw σ a n) a f) (DrI τ a f) := by
  refine Dsub_fr hcl (P := P) (h.tr ⟨rfl, fun k hk => ⟨funext fun j => by rw [DrI_I, if_neg (fun z9 => hPa (by rw [← z9]; exact hk))], rfl, rfl, rfl, rfl⟩⟩) hP hA hN (fun j => by rw [DrI_I, if_pos rfl]) hL hR
set_option maxRecDepth 100000 in
set_option maxHeartbeats 4000000 in
theorem EX12_prices (g : jG) (h0 n : Nat) (hE : dEs g) (ρ : Nat) : dOk g h0 (n + 2) 15 75 [ρ, 1120, 1121, 1401, 1115, 1116, 1117, 1118, 1119] mX12_prices (dX12_prices ρ) := by
  refine doR_ok ?_
  rintro _ σ ⟨rfl, N, M, hk, hB, hBr, hρ, hn, ⟨d1, d2, d3, d4⟩, d5⟩
  have hN := hk.1.1
  have hN5 : N ≤ 5 := hN.2
  have hf := dk_f hk
  have eN : (nI N).toNatClampNeg = N := nI_clamp (by omega)
  have hn0 : ¬ nI N < 0 := nI_pos (by omega)
  have hpre1 : prEx σ 0 1120 := ⟨N, M, hk, hB, hBr, ⟨by decide, by decide⟩, Or.inl rfl, d1, d2, d3⟩
  refine dCon.go (by decide +kernel) (by simp [lg_sl, Value.category]) (fun z hkp hcl hz post hp hR => ?_)
  simp only [DkF] at hkp
  refine dvk_ok (nC := n + 1) DX12_prices hTyA hR (VC := []) (VD := [(185, 2, 12, n + 1, 0, 7, 35, [1120, 1401, 1115, 1116, 1117, 1118, 1119], (dX12_extremes 1120)), (164, 1, 12, n + 0, 0, 0, 0, [], dX12_living)]) (SD := []) (AL := []) (fun _ h => absurd h List.not_mem_nil) (List.forall_mem_cons.mpr ⟨⟨mX12_extremes, 1, TX12, 25, rfl, by decide, hX12_185, WX12_extremes, rfl, EX12_extremes g _ n hE 1120⟩, (List.forall_mem_cons.mpr ⟨⟨mX12_living, 0, TX12, 25, rfl, by decide, hX12_164, WX12_living, rfl, EX12_living g _ n⟩, (fun _ h => absurd h List.not_mem_nil)⟩)⟩) (fun _ h => absurd h List.not_mem_nil) [5] 10 _ _ _ _ _ _ ?_
  simp (maxSteps := 1000000) [↓Bool.cond_eq_ite, -Prod.forall, -Prod.exists, -Prod.mk.injEq, dvk, tX12_prices, jtb, jol, dvl, dal, dst, jlk, jcmp, jbin, jfl, qX12, jc2, qlX12, jcat, jel, lv_args, Value.category, jins, jsrt, jins2, jble, jblt, jf3, List.filter_cons, List.filter_nil, Dlo, Dnr, DnL, Dfree, Droom, DuS_S, DuS_I, DuS_L, DuS_R, DuS_N, DuS_A, DuI_S, DuI_I, DuI_L, DuI_R, DuI_N, DuI_A, DuL_S, DuL_I, DuL_L, DuL_R, DuL_N, DuL_A, DuR_S, DuR_I, DuR_L, DuR_R, DuR_N, DuR_A, Dnw_S, Dnw_I, Dnw_L, Dnw_R, Dnw_N, Dnw_A, DrI_S, DrI_I, DrI_L, DrI_R, DrI_N, DrI_A, DrJ_S, DrJ_I, DrJ_L, DrJ_R, DrJ_N, DrJ_A, dm64, G_d, G_x0, dX12_extremes, dX12_living, doR, doRI, -Int32.not_le, -Int32.not_lt, -Int64.not_le, -Int64.not_lt, i3lt, i6lt, hf, eN, hpre1, hkp, hz]
  try simp (disch := omega) [-Prod.forall, -Prod.exists, -Prod.mk.injEq, -Int32.not_le, -Int32.not_lt, -Int64.not_le, -Int64.not_lt, i3lt, i6lt, hf, eN, hpre1, hkp, hz]
  obtain ⟨τ1, e1⟩ : ∃ τ1, τ1 = DrI (Dnw σ 1120 N) 1120 (exRow σ 0 N) := ⟨_, rfl⟩
  have f1 : Dfr (fun k => k ≠ 1120) σ τ1 := by rw [e1]; exact Dfr_new
  have hpre2 : prEx τ1 1 1121 := prEx_fr f1 (fun k hk9 => by unfold dkI at hk9; omega) (by decide) hk hB hBr ⟨by decide, by decide⟩ (Or.inr rfl) (by rw [(f1.2 1401 (by decide)).2.2.2.2]; exact d1) (fun i hi => by rw [(f1.2 (1115 + i) (by omega)).2.2.2.2]; exact d2 i hi) (by rw [(f1.2 1121 (by decide)).2.2.2.2]; exact d4)
  have g1 : DI τ1 1000 2 = nI N := by rw [(f1.2 1000 (by decide)).1]; exact hf.1.2
  have g2 : DA τ1 1000 = true := by rw [(f1.2 1000 (by decide)).2.2.2.2]; exact hf.2.1.1
  have ex1 : exRow τ1 1 N = exRow σ 1 N := exRow_cg hN5 (f1.2 1107 (by decide)).1 (fun p hp9 => (f1.2 (1200 + p) (by omega)).1) (fun p hp9 => (f1.2 (1110 + p) (by omega)).1) 1
  have row1 : (DA τ1 1120 = true ∧ DN τ1 1120 = N ∧ ∀ j, DI τ1 1120 j = exRow σ 0 N j) := by
    rw [e1]
    exact ⟨by rw [DrI_A, Dnw_A, if_pos rfl], by rw [DrI_N, Dnw_N, if_pos rfl], fun j => by rw [DrI_I, if_pos rfl]⟩
  rw [← e1]
  refine dvk_ok (nC := n + 1) DX12_prices hTyA hR (VC := []) (VD := [(185, 2, 12, n + 1, 0, 7, 35, [1121, 1401, 1115, 1116, 1117, 1118, 1119], (dX12_extremes 1121)), (164, 1, 12, n + 0, 0, 0, 0, [], dX12_living)]) (SD := []) (AL := []) (fun _ h => absurd h List.not_mem_nil) (List.forall_mem_cons.mpr ⟨⟨mX12_extremes, 1, TX12, 25, rfl, by decide, hX12_185, WX12_extremes, rfl, EX12_extremes g _ n hE 1121⟩, (List.forall_mem_cons.mpr ⟨⟨mX12_living, 0, TX12, 25, rfl, by decide, hX12_164, WX12_living, rfl, EX12_living g _ n⟩, (fun _ h => absurd h List.not_mem_nil)⟩)⟩) (fun _ h => absurd h List.not_mem_nil) [11] 10 _ _ _ _ _ _ ?_
  simp (maxSteps := 1000000) [↓Bool.cond_eq_ite, -Prod.forall, -Prod.exists, -Prod.mk.injEq, dvk, tX12_prices, jtb, jol, dvl, dal, dst, jlk, jcmp, jbin, jfl, qX12, jc2, qlX12, jcat, jel, lv_args, Value.category, jins, jsrt, jins2, jble, jblt, jf3, List.filter_cons, List.filter_nil, Dlo, Dnr, DnL, Dfree, Droom, DuS_S, DuS_I, DuS_L, DuS_R, DuS_N, DuS_A, DuI_S, DuI_I, DuI_L, DuI_R, DuI_N, DuI_A, DuL_S, DuL_I, DuL_L, DuL_R, DuL_N, DuL_A, DuR_S, DuR_I, DuR_L, DuR_R, DuR_N, DuR_A, Dnw_S, Dnw_I, Dnw_L, Dnw_R, Dnw_N, Dnw_A, DrI_S, DrI_I, DrI_L, DrI_R, DrI_N, DrI_A, DrJ_S, DrJ_I, DrJ_L, DrJ_R, DrJ_N, DrJ_A, dm64, G_d, G_x0, dX12_extremes, dX12_living, doR, doRI, -Int32.not_le, -Int32.not_lt, -Int64.not_le, -Int64.not_lt, i3lt, i6lt, g1, g2, eN, hpre2, hkp, hz]
  try simp (disch := omega) [-Prod.forall, -Prod.exists, -Prod.mk.injEq, -Int32.not_le, -Int32.not_lt, -Int64.not_le, -Int64.not_lt, i3lt, i6lt, g1, g2, eN, hpre2, hkp, hz]
  rw [ex1]
  obtain ⟨τ2, e2⟩ : ∃ τ2, τ2 = DrI (Dnw τ1 1121 N) 1121 (exRow σ 1 N) := ⟨_, rfl⟩
  have f2 : Dfr (fun k => k ≠ 1120 ∧ k ≠ 1121) σ τ2 := by
    rw [e2]
    exact (f1.weak (fun k hk9 => hk9.1)).tr (Dfr_new.weak (fun k hk9 => hk9.2))
  have row2 : (DA τ2 1120 = true ∧ DN τ2 1120 = N ∧ ∀ j, DI τ2 1120 j = exRow σ 0 N j) ∧ (DA τ2 1121 = true ∧ DN τ2 1121 = N ∧ ∀ j, DI τ2 1121 j = exRow σ 1 N j) := by
    rw [e2]
    refine ⟨⟨by rw [DrI_A, Dnw_A, if_neg (by decide)]; exact row1.1, by rw [DrI_N, Dnw_N, if_neg (by decide)]; exact row1.2.1, fun j => by rw [DrI_I, if_neg (by decide), Dnw_I, if_neg (by decide)]; exact row1.2.2 j⟩, by rw [DrI_A, Dnw_A, if_pos rfl], by rw [DrI_N, Dnw_N, if_pos rfl], fun j => by rw [DrI_I, if_pos rfl]⟩
  have g3 : DI τ2 1000 2 = nI N := by rw [(f2.2 1000 (by decide)).1]; exact hf.1.2
  have g4 : DA τ2 1000 = true := by rw [(f2.2 1000 (by decide)).2.2.2.2]; exact hf.2.1.1
  have g5 : DA τ2 ρ = false := by rw [(f2.2 ρ (by omega)).2.2.2.2]; exact d5
  have hdρ : darr ρ 1 0 = true := by
    have := G_rho (ρ - 1120) (by omega)
    rw [show 1120 + (ρ - 1120) = ρ by omega] at this
    exact this
  have r1 : ¬ 1000 = ρ := by omega
  have r2 : ¬ 1120 = ρ := by omega
  have r3 : ¬ 1121 = ρ := by omega
  rw [← e2]
  refine dvk_ok (nC := n + 1) DX12_prices hTyA hR (VC := []) (VD := [(164, 1, 12, n + 0, 0, 0, 0, [], dX12_living)]) (SD := []) (AL := [(16, ρ, 5)]) (fun _ h => absurd h List.not_mem_nil) (List.forall_mem_cons.mpr ⟨⟨mX12_living, 0, TX12, 25, rfl, by decide, hX12_164, WX12_living, rfl, EX12_living g _ n⟩, (fun _ h => absurd h List.not_mem_nil)⟩) (fun _ h => absurd h List.not_mem_nil) [25] 20 _ _ _ _ _ _ ?_
  simp (maxSteps := 1000000) [↓Bool.cond_eq_ite, -Prod.forall, -Prod.exists, -Prod.mk.injEq, dvk, tX12_prices, jtb, jol, dvl, dal, dst, jlk, jcmp, jbin, jfl, qX12, jc2, qlX12, jcat, jel, lv_args, Value.category, jins, jsrt, jins2, jble, jblt, jf3, List.filter_cons, List.filter_nil, Dlo, Dnr, DnL, Dfree, Droom, DuS_S, DuS_I, DuS_L, DuS_R, DuS_N, DuS_A, DuI_S, DuI_I, DuI_L, DuI_R, DuI_N, DuI_A, DuL_S, DuL_I, DuL_L, DuL_R, DuL_N, DuL_A, DuR_S, DuR_I, DuR_L, DuR_R, DuR_N, DuR_A, Dnw_S, Dnw_I, Dnw_L, Dnw_R, Dnw_N, Dnw_A, DrI_S, DrI_I, DrI_L, DrI_R, DrI_N, DrI_A, DrJ_S, DrJ_I, DrJ_L, DrJ_R, DrJ_N, DrJ_A, dm64, G_d, G_x0, dX12_living, doR, -Int32.not_le, -Int32.not_lt, -Int64.not_le, -Int64.not_lt, i3lt, i6lt, g3, g4, g5, eN, hn0, hN5, hkp, hz, hdρ, r1, r2, r3]
  try simp (disch := omega) [-Prod.forall, -Prod.exists, -Prod.mk.injEq, -Int32.not_le, -Int32.not_lt, -Int64.not_le, -Int64.not_lt, i3lt, i6lt, g3, g4, g5, eN, hn0, hN5, hkp, hz, hdρ, r1, r2, r3]
  have C : dpC σ (Dnw τ2 ρ N) N ρ := by
    refine ⟨(f2.weak (fun k hk9 => ⟨hk9.1, hk9.2.1⟩)).tr ⟨rfl, fun k hk9 => ⟨funext fun j => by rw [Dnw_I, if_neg hk9.2.2], funext fun j => by rw [Dnw_L, if_neg hk9.2.2], funext fun j => by rw [Dnw_R, if_neg hk9.2.2], by rw [Dnw_N, if_neg hk9.2.2], by rw [Dnw_A, if_neg hk9.2.2]⟩⟩, ⟨?_, ?_, fun j => ?_⟩, ⟨?_, ?_, fun j => ?_⟩, ⟨by rw [Dnw_A, if_pos rfl], by rw [Dnw_N, if_pos rfl], hdρ⟩, fun j => by rw [Dnw_L, if_pos rfl], fun j => by rw [Dnw_R, if_pos rfl]⟩
    · rw [Dnw_A, if_neg r2]; exact row2.1.1
    · rw [Dnw_N, if_neg r2]; exact row2.1.2.1
    · rw [Dnw_I, if_neg r2]; exact row2.1.2.2 j
    · rw [Dnw_A, if_neg r3]; exact row2.2.1
    · rw [Dnw_N, if_neg r3]; exact row2.2.2.1
    · rw [Dnw_I, if_neg r3]; exact row2.2.2.2 j
  rw [fillI_0 (dpP σ N)]
  have hfin := hp (some (.ref ρ)) _ ⟨rfl, (by rw [hf.1.2, eN] : DrI (Dnw σ ρ N) ρ (dpRow σ N) = _)⟩
  have hsub : Dsub (DrI (Dnw σ ρ N) ρ (dpRow σ N)) (DrI (Dnw τ2 ρ N) ρ (dpRow σ N)) := Dsub_new hcl C.1 (fun k hk9 hkρ => by
    have h9 : k = 1120 ∨ k = 1121 := by unfold dpK at hk9; omega
    rcases h9 with rfl | rfl
    · exact d3
    · exact d4) C.2.2.2.1.1 C.2.2.2.1.2.1 C.2.2.2.2.1 C.2.2.2.2.2 (fun z9 => z9.2.2 rfl)
  have hz2 : z.1.frames = n + 2 ∧ z.1.locals = 64 * (n + 2) ∧ z.1.cells = 15 ∧ z.1.slots = 75 := hz
  have e140 := jloop (P := fun p => DW g z mX12_prices 140 [(0, .ref 1000), (3, .ref ρ), (5, .int (dpMore σ N)), (6, .int (nI p))] [] (DrI (Dnw τ2 ρ N) ρ (dpQ σ N p)) 15 75) (N := N) (by
    have hle : nI N ≤ nI N := nI_le (Nat.le_refl _) (by omega)
    have hf2 := dk_f (dpC_k (dpC_r C hρ.1 (dpQ σ N N)) hρ hk)
    have e9 : dpQ σ N N = dpRow σ N := rfl
    rw [e9] at hf2 ⊢
    refine dvk_ok (nC := n + 1) DX12_prices hTyA hR (VC := []) (VD := [(164, 1, 12, n + 0, 0, 0, 0, [], dX12_living)]) (SD := []) (AL := []) (fun _ h => absurd h List.not_mem_nil) (List.forall_mem_cons.mpr ⟨⟨mX12_living, 0, TX12, 25, rfl, by decide, hX12_164, WX12_living, rfl, EX12_living g _ n⟩, (fun _ h => absurd h List.not_mem_nil)⟩) (fun _ h => absurd h List.not_mem_nil) [140] 20 _ _ _ _ _ _ ?_
    simp (maxSteps := 1000000) [↓Bool.cond_eq_ite, -Prod.forall, -Prod.exists, -Prod.mk.injEq, dvk, tX12_prices, jtb, jol, dvl, dal, dst, jlk, jcmp, jbin, jfl, qX12, jc2, qlX12, jcat, jel, lv_args, Value.category, jins, jsrt, jins2, jble, jblt, jf3, List.filter_cons, List.filter_nil, Dlo, Dnr, DnL, Dfree, Droom, DuS_S, DuS_I, DuS_L, DuS_R, DuS_N, DuS_A, DuI_S, DuI_I, DuI_L, DuI_R, DuI_N, DuI_A, DuL_S, DuL_I, DuL_L, DuL_R, DuL_N, DuL_A, DuR_S, DuR_I, DuR_L, DuR_R, DuR_N, DuR_A, Dnw_S, Dnw_I, Dnw_L, Dnw_R, Dnw_N, Dnw_A, DrI_S, DrI_I, DrI_L, DrI_R, DrI_N, DrI_A, DrJ_S, DrJ_I, DrJ_L, DrJ_R, DrJ_N, DrJ_A, dm64, G_d, G_x0, dX12_living, doR, -Int32.not_le, -Int32.not_lt, -Int64.not_le, -Int64.not_lt, i3lt, i6lt, hf2, hle, hz]
    try simp (disch := omega) [-Prod.forall, -Prod.exists, -Prod.mk.injEq, -Int32.not_le, -Int32.not_lt, -Int64.not_le, -Int64.not_lt, i3lt, i6lt, hf2, hle, hz]
    exact ⟨⟨by omega, by omega⟩, _, hsub, hfin⟩) (fun p hp9 ih2 => EPr_3s (v4 := .null) hR hz2 hk hB hρ C hp9 ih2)
  have k := EPr_1 hR hz2 hk hB hρ C (EPr_2 hR hz2 hk hρ C hn (DW.mono e140 (by simp)))
  rw [nI_0] at k
  exact k
