/-! the law's payments, from the shares on -/
theorem DrI_eq {τ : dM} {a : Nat} {f : Nat → Int32} (h : ∀ j, DI τ a j = f j) : DrI τ a f = τ := by
  rw [← show DI τ a = f from funext h]
  exact DrI_self τ a
theorem DrJ_eq {τ : dM} {a : Nat} {f : Nat → Int64} (h : ∀ j, DL τ a j = f j) : DrJ τ a f = τ := by
  rw [← show DL τ a = f from funext h]
  exact DrJ_self τ a
theorem Dfr_nw {σ : dM} {a n : Nat} : Dfr (fun k => k ≠ a) σ (Dnw σ a n) := ⟨rfl, fun k hk => ⟨funext fun j => by rw [Dnw_I, if_neg hk], funext fun j => by rw [Dnw_L, if_neg hk], funext fun j => by rw [Dnw_R, if_neg hk], by rw [Dnw_N, if_neg hk], by rw [Dnw_A, if_neg hk]⟩⟩
theorem Dfr_rI {σ : dM} {a : Nat} {f : Nat → Int32} : Dfr (fun k => k ≠ a) σ (DrI σ a f) := ⟨rfl, fun k hk => ⟨funext fun j => by rw [DrI_I, if_neg hk], rfl, rfl, rfl, rfl⟩⟩
theorem Dfr_rJ {σ : dM} {a : Nat} {f : Nat → Int64} : Dfr (fun k => k ≠ a) σ (DrJ σ a f) := ⟨rfl, fun k hk => ⟨rfl, funext fun j => by rw [DrJ_L, if_neg hk], rfl, rfl, rfl⟩⟩
theorem fillI_0z {F : Nat → Int32} (j : Nat) : fillI F 0 j = 0 := rfl
theorem fillL_0z {F : Nat → Int64} (j : Nat) : fillL F 0 j = 0 := rfl
set_option maxRecDepth 100000 in
set_option maxHeartbeats 4000000 in
theorem EPy_4 {g : jG} {h0 n : Nat} {z : dZ} {R : Option Value → dM → Nat → Nat → Prop} (hR : dRok g z mX12_payments R) (hz : z.1.frames = n + 3 ∧ z.1.locals = 64 * (n + 3) ∧ z.1.cells = 21 ∧ z.1.slots = 105) {σ τ : dM} {N M m ρ : Nat} (hρ : 1125 ≤ ρ ∧ ρ ≤ 1139) (hk : dk τ N M) (c1 : DA τ 1123 = true ∧ DN τ 1123 = N ∧ ∀ j, DI τ 1123 j = dpRow σ N j) (c2 : DA τ 1210 = true ∧ DN τ 1210 = N ∧ DI τ 1210 = dyH σ N) (c3 : (DA τ 1124 = true ∧ DN τ 1124 = N) ∧ ∀ j, j < N → DI τ 1124 j = dyShare σ N j)
    (dρ : DA τ ρ = false) (dl : DA τ 1312 = false) (m12 : DI τ 1000 12 = DI σ 1000 12) (m15 : DI τ 1000 15 = DI σ 1000 15) (k1 : z.2.2.1 ρ = false ∧ z.2.2.1 1312 = false) (hm : dyR σ N N = nI m ∧ m ≤ 1000000) (hex : ∃ p, p < N ∧ ¬ lvI σ p = 0)
    (ih : ∀ τ8, Dfr (fun k => k ≠ ρ ∧ k ≠ 1312) τ τ8 → (DA τ8 ρ = true ∧ DN τ8 ρ = N) → (∀ j, DL τ8 ρ j = 0) → (∀ j, DR τ8 ρ j = none) → DW g z mX12_payments 236 [(5, .ref ρ)] [] (DrI τ8 ρ (dyPay σ N N)) 21 105) : DW g z mX12_payments 65 [(0, .ref 1000), (1, .ref 1123), (2, .ref 1210), (3, .ref 1311)] [.ref 1124] τ 19 95 := by
  have hN := hk.1.1
  have hN5 : N ≤ 5 := hN.2
  have hf := dk_f hk
  have eN : (nI N).toNatClampNeg = N := nI_clamp (by omega)
  have em : (nI m).toNatClampNeg = m := nI_clamp (by omega)
  have hn0 : ¬ nI N < 0 := nI_pos (by omega)
  have n100 : ¬ (100 : Int32) = 0 := by decide
  have hdρ : darr ρ 1 0 = true := by
    have := G_rho (ρ - 1120) (by omega)
    rw [show 1120 + (ρ - 1120) = ρ by omega] at this
    exact this
  have hl4 : darr 1312 2 4 = true := by decide +kernel
  have r1 : ¬ 1000 = ρ := by omega
  have r2 : ¬ 1123 = ρ := by omega
  have r3 : ¬ 1210 = ρ := by omega
  have r4 : ¬ 1311 = ρ := by omega
  have r5 : ¬ 1124 = ρ := by omega
  have r6 : ¬ 1312 = ρ := by omega
  have r7 : ¬ ρ = 1312 := by omega
  obtain ⟨τ6, e6⟩ : ∃ τ6, τ6 = Dnw (Dnw τ ρ N) 1312 N := ⟨_, rfl⟩
  have f6 : Dfr (fun k => k ≠ ρ ∧ k ≠ 1312) τ τ6 := by
    rw [e6]
    exact (Dfr_nw.weak (fun k hk9 => hk9.1)).tr (Dfr_nw.weak (fun k hk9 => hk9.2))
  have a6 : (DA τ6 ρ = true ∧ DN τ6 ρ = N) ∧ (DA τ6 1312 = true ∧ DN τ6 1312 = N) ∧ (∀ j, DI τ6 ρ j = 0) ∧ (∀ j, DL τ6 1312 j = 0) ∧ (∀ j, DL τ6 ρ j = 0) ∧ ∀ j, DR τ6 ρ j = none := by
    rw [e6]
    refine ⟨⟨by rw [Dnw_A, if_neg r7, Dnw_A, if_pos rfl], by rw [Dnw_N, if_neg r7, Dnw_N, if_pos rfl]⟩, ⟨by rw [Dnw_A, if_pos rfl], by rw [Dnw_N, if_pos rfl]⟩, fun j => by rw [Dnw_I, if_neg r7, Dnw_I, if_pos rfl], fun j => by rw [Dnw_L, if_pos rfl], fun j => by rw [Dnw_L, if_neg r7, Dnw_L, if_pos rfl], fun j => by rw [Dnw_R, if_neg r7, Dnw_R, if_pos rfl]⟩
  have hk6 : dk τ6 N M := dk_fr (fun k hk9 => by unfold dkI at hk9; omega) f6 hk
  have C : dyC σ τ6 N M ρ := by
    have b1 := f6.2 1123 (by omega)
    have b2 := f6.2 1210 (by omega)
    refine ⟨hk6, ⟨by rw [b1.2.2.2.2]; exact c1.1, by rw [b1.2.2.2.1]; exact c1.2.1, fun j => by rw [b1.1]; exact c1.2.2 j⟩, ⟨by rw [b2.2.2.2.2]; exact c2.1, by rw [b2.2.2.2.1]; exact c2.2.1, fun j hj => by rw [b2.1, c2.2.2]; exact fillI_lt hj⟩, ⟨a6.1.1, a6.1.2, hdρ⟩, a6.2.1⟩
  have e60 : dyS σ τ6 N ρ 0 = τ6 := by
    unfold dyS
    rw [DrI_eq (fun j => by rw [fillI_0z]; exact a6.2.2.1 j)]
    exact DrJ_eq (fun j => by rw [fillL_0z]; exact a6.2.2.2.1 j)
  -- after the units that are left
  obtain ⟨τ8, e8⟩ : ∃ τ8, τ8 = DrJ τ6 1312 (dyBase σ N).2 := ⟨_, rfl⟩
  have f8 : Dfr (fun k => k ≠ ρ ∧ k ≠ 1312) τ τ8 := by
    rw [e8]
    exact f6.tr (Dfr_rJ.weak (fun k hk9 => hk9.2))
  have k8 := ih τ8 f8 (by rw [e8]; exact a6.1) (fun j => by rw [e8, DrJ_L, if_neg r7]; exact a6.2.2.2.2.1 j) (fun j => by rw [e8]; exact a6.2.2.2.2.2 j)
  have b4 := f8.2 1124 (by omega)
  have e208 := EPy_3 hR hz hρ (fun f => dk_fr (fun k hk9 => by unfold dkI at hk9; omega) (f8.tr (Dfr_rI.weak (fun k hk9 => hk9.1)) : Dfr (fun k => k ≠ ρ ∧ k ≠ 1312) τ (DrI τ8 ρ f)) hk) (by rw [b4.2.2.2.2, b4.2.2.2.1]; exact c3.1) (fun j hj => by rw [b4.1]; exact c3.2 j hj) (by rw [e8]; exact ⟨a6.1.1, a6.1.2, hdρ⟩) k8
  have hS : ∀ s, s = dyBase σ N → rsD (dyS σ τ6 N ρ N) ρ 1312 s = DrI τ8 ρ (dyPay σ N 0) := fun s hs => by
    rw [dyPay_0, hs, e8]
    refine Prod.ext rfl (Prod.ext (funext fun i => funext fun j => ?_) (Prod.ext (funext fun i => funext fun j => ?_) rfl))
    · show (if i = ρ then (dyBase σ N).1 j else if i = ρ then fillI (dyRow σ N) N j else DI τ6 i j) = if i = ρ then (dyBase σ N).1 j else DI τ6 i j
      split <;> rfl
    · show (if i = 1312 then (dyBase σ N).2 j else if i = 1312 then fillL (dyLeft σ N) N j else DL τ6 i j) = if i = 1312 then (dyBase σ N).2 j else DL τ6 i j
      split <;> rfl
  have e105 := jloop (P := fun p => DW g z mX12_payments 105 [(0, .ref 1000), (1, .ref 1123), (2, .ref 1210), (4, .ref 1124), (5, .ref ρ), (6, .ref 1312), (7, .int (dyR σ N p)), (8, .int (nI p))] [] (dyS σ τ6 N ρ p) 21 105) (N := N) (by
    have hle : nI N ≤ nI N := nI_le (Nat.le_refl _) (by omega)
    obtain ⟨σ7, e7⟩ : ∃ σ7, σ7 = dyS σ τ6 N ρ N := ⟨_, rfl⟩
    have C7 : dyC σ σ7 N M ρ := by rw [e7]; exact dyC_r C hρ _ _
    have hf7 := dk_f C7.1
    have h1210 : DI σ7 1210 = dyH σ N := by
      rw [e7]
      funext j
      show DI (DrJ (DrI τ6 ρ (fillI (dyRow σ N) N)) 1312 (fillL (dyLeft σ N) N)) 1210 j = _
      rw [DrJ_I, DrI_I, if_neg r3, (f6.2 1210 (by omega)).1, c2.2.2]
    have hρI : DI σ7 ρ = fillI (dyRow σ N) N := by
      rw [e7]
      funext j
      show DI (DrJ (DrI τ6 ρ (fillI (dyRow σ N) N)) 1312 (fillL (dyLeft σ N) N)) ρ j = _
      rw [DrJ_I, DrI_I, if_pos rfl]
    have hlL : DL σ7 1312 = fillL (dyLeft σ N) N := by
      rw [e7]
      funext j
      show DL (DrJ (DrI τ6 ρ (fillI (dyRow σ N) N)) 1312 (fillL (dyLeft σ N) N)) 1312 j = _
      rw [DrJ_L, if_pos rfl]
    obtain ⟨-, -, ⟨a2, a3, a4⟩, ⟨a5, a7, -⟩, a8, a9⟩ := C7
    have hpre : prRs σ7 ρ 1312 1210 (nI m) := ⟨N, m, hN5, ⟨hdρ, hl4, by decide +kernel, by decide +kernel⟩, ⟨a5, a8, a2⟩, ⟨a7, a9, a3⟩, rfl, hm.2, fun _ => by
      obtain ⟨p, hp9, hv⟩ := hex
      exact ⟨p, hp9, by rw [a4 p hp9]; exact hv⟩⟩
    have hb : rsS (dyH σ N) N m (fillI (dyRow σ N) N, fillL (dyLeft σ N) N) = dyBase σ N := by
      unfold dyBase
      rw [hm.1, em]
    have hS9 := hS (rsS (dyH σ N) N m (fillI (dyRow σ N) N, fillL (dyLeft σ N) N)) hb
    have hm1 := hm.1
    rw [← e7] at hS9 ⊢
    rw [← hS9, nI_0] at e208
    refine dvk_ok (nC := n + 2) DX12_payments hTyA hR (VC := []) (VD := [(196, 1, 12, n + 0, 0, 1, 5, [1210], dX12_livers), (200, 4, 12, n + 1, 0, 2, 10, [1124, 1310], dX12_split)]) (SD := [(181, 4, 0, n + 0, 0, 0, 0, [], dX12_rest)]) (AL := []) (fun _ h => absurd h List.not_mem_nil) (List.forall_mem_cons.mpr ⟨⟨mX12_livers, 0, TX12, 25, rfl, by decide, hX12_196, WX12_livers, rfl, EX12_livers g _ n⟩, (List.forall_mem_cons.mpr ⟨⟨mX12_split, 3, TX12, 25, rfl, by decide, hX12_200, WX12_split, rfl, EX12_split g _ n⟩, (fun _ h => absurd h List.not_mem_nil)⟩)⟩) (List.forall_mem_cons.mpr ⟨⟨mX12_rest, by decide, Or.inl hX12_181, WX12_rest, EX12_rest g _ n⟩, (fun _ h => absurd h List.not_mem_nil)⟩) [105, 208] 30 _ _ _ _ _ _ ?_
    simp (maxSteps := 1000000) [↓Bool.cond_eq_ite, -Prod.forall, -Prod.exists, -Prod.mk.injEq, dvk, tX12_payments, jtb, jol, dvl, dal, dst, jlk, jcmp, jbin, jfl, qX12, jc2, qlX12, jcat, jel, lv_args, Value.category, jins, jsrt, jins2, jble, jblt, jf3, List.filter_cons, List.filter_nil, Dlo, Dnr, DnL, Dfree, Droom, DuS_S, DuS_I, DuS_L, DuS_R, DuS_N, DuS_A, DuI_S, DuI_I, DuI_L, DuI_R, DuI_N, DuI_A, DuL_S, DuL_I, DuL_L, DuL_R, DuL_N, DuL_A, DuR_S, DuR_I, DuR_L, DuR_R, DuR_N, DuR_A, Dnw_S, Dnw_I, Dnw_L, Dnw_R, Dnw_N, Dnw_A, DrI_S, DrI_I, DrI_L, DrI_R, DrI_N, DrI_A, DrJ_S, DrJ_I, DrJ_L, DrJ_R, DrJ_N, DrJ_A, dm64, G_d, G_x0, dX12_livers, dX12_split, dX12_rest, doR, doRIRR, doRRRI, -Int32.not_le, -Int32.not_lt, -Int64.not_le, -Int64.not_lt, i3lt, i6lt, hf7, hle, hz, hm1, hpre, h1210, hρI, hlL, a7, em]
    try simp (disch := omega) [-Prod.forall, -Prod.exists, -Prod.mk.injEq, -Int32.not_le, -Int32.not_lt, -Int64.not_le, -Int64.not_lt, i3lt, i6lt, hf7, hle, hz, hm1, hpre, h1210, hρI, hlL, a7, em]
    exact DW.mono e208 (by simp)) (fun p hp9 ih2 => EPy_2s hR hz hρ C hp9 ih2)
  have r0 : dyR σ N 0 = DI σ 1000 12 - DI σ 1000 12 * DI σ 1000 15 / 100 := rfl
  rw [e60, e6, nI_0, r0] at e105
  refine dvk_ok (nC := n + 2) DX12_payments hTyA hR (VC := []) (VD := [(196, 1, 12, n + 0, 0, 1, 5, [1210], dX12_livers), (200, 4, 12, n + 1, 0, 2, 10, [1124, 1310], dX12_split)]) (SD := [(181, 4, 0, n + 0, 0, 0, 0, [], dX12_rest)]) (AL := [(71, ρ, 5), (79, 1312, 5)]) (fun _ h => absurd h List.not_mem_nil) (List.forall_mem_cons.mpr ⟨⟨mX12_livers, 0, TX12, 25, rfl, by decide, hX12_196, WX12_livers, rfl, EX12_livers g _ n⟩, (List.forall_mem_cons.mpr ⟨⟨mX12_split, 3, TX12, 25, rfl, by decide, hX12_200, WX12_split, rfl, EX12_split g _ n⟩, (fun _ h => absurd h List.not_mem_nil)⟩)⟩) (List.forall_mem_cons.mpr ⟨⟨mX12_rest, by decide, Or.inl hX12_181, WX12_rest, EX12_rest g _ n⟩, (fun _ h => absurd h List.not_mem_nil)⟩) [105] 40 _ _ _ _ _ _ ?_
  simp (maxSteps := 1000000) [↓Bool.cond_eq_ite, -Prod.forall, -Prod.exists, -Prod.mk.injEq, dvk, tX12_payments, jtb, jol, dvl, dal, dst, jlk, jcmp, jbin, jfl, qX12, jc2, qlX12, jcat, jel, lv_args, Value.category, jins, jsrt, jins2, jble, jblt, jf3, List.filter_cons, List.filter_nil, Dlo, Dnr, DnL, Dfree, Droom, DuS_S, DuS_I, DuS_L, DuS_R, DuS_N, DuS_A, DuI_S, DuI_I, DuI_L, DuI_R, DuI_N, DuI_A, DuL_S, DuL_I, DuL_L, DuL_R, DuL_N, DuL_A, DuR_S, DuR_I, DuR_L, DuR_R, DuR_N, DuR_A, Dnw_S, Dnw_I, Dnw_L, Dnw_R, Dnw_N, Dnw_A, DrI_S, DrI_I, DrI_L, DrI_R, DrI_N, DrI_A, DrJ_S, DrJ_I, DrJ_L, DrJ_R, DrJ_N, DrJ_A, dm64, G_d, G_x0, dX12_livers, dX12_split, dX12_rest, doR, doRIRR, doRRRI, -Int32.not_le, -Int32.not_lt, -Int64.not_le, -Int64.not_lt, i3lt, i6lt, hf, hz, k1, dρ, dl, eN, hn0, hN5, hdρ, hl4, r1, r2, r3, r4, r5, r6, r7, m12, m15, n100]
  try simp (disch := omega) [-Prod.forall, -Prod.exists, -Prod.mk.injEq, -Int32.not_le, -Int32.not_lt, -Int64.not_le, -Int64.not_lt, i3lt, i6lt, hf, hz, k1, dρ, dl, eN, hn0, hN5, hdρ, hl4, r1, r2, r3, r4, r5, r6, r7, m12, m15, n100]
  exact DW.mono e105 (by simp)
