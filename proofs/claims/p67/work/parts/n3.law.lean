/-! the law's Desk.<init>: a plan is made -/
theorem dk_ex {σ τ : dM} {N M : Nat} (h : dk σ N M) (f : tfr (fun k => dkI k ∧ k ≠ 1900) σ τ) (h9 : DA τ 1900 = true) : dk τ N M := by
  have hN := h.1.1.2
  have g : ∀ k, dkI k → k ≠ 1900 → DA σ k = true → DI τ k = DI σ k ∧ DL τ k = DL σ k ∧ DR τ k = DR σ k ∧ DN τ k = DN σ k ∧ DA τ k = DA σ k := fun k hk hk2 hA => by
    obtain ⟨a1, a2⟩ := f.2 k ⟨hk, hk2⟩
    obtain ⟨b1, b2, b3, b4⟩ := a2 (by unfold dkI at hk; omega) (by unfold dkI at hk; omega) hA
    exact ⟨b1, b2, b3, b4, a1⟩
  obtain ⟨h1, h2, h3, h4, h5, h6⟩ := h
  obtain ⟨d0, d1, d2, d3, d4, d5, d6, d7, d8, d9⟩ := id h3
  have z0 := g 1000 (by unfold dkI; omega) (by omega) d0
  have z1 := g 1100 (by unfold dkI; omega) (by omega) d1
  have z2 := g 1101 (by unfold dkI; omega) (by omega) d2
  have z3 := g 1102 (by unfold dkI; omega) (by omega) d3
  have z4 := g 1103 (by unfold dkI; omega) (by omega) d4
  have z5 := g 1104 (by unfold dkI; omega) (by omega) d5
  have z6 := g 1300 (by unfold dkI; omega) (by omega) d6
  have z7 := g 1400 (by unfold dkI; omega) (by omega) d7
  have z8 := g 1500 (by unfold dkI; omega) (by omega) d8
  refine ⟨h1, ?_, ?_, ?_, ?_, fun p hp => ?_⟩
  · rw [z0.1]; exact h2
  · rw [z0.2.2.2.2, z1.2.2.2.2, z2.2.2.2.2, z3.2.2.2.2, z4.2.2.2.2, z5.2.2.2.2, z6.2.2.2.2, z7.2.2.2.2, z8.2.2.2.2]
    exact ⟨d0, d1, d2, d3, d4, d5, d6, d7, d8, h9⟩
  · rw [z0.2.2.1]; exact h4
  · rw [z1.2.2.2.1, z2.2.2.2.1, z3.2.2.2.1, z4.2.2.2.1, z5.2.2.2.1, z6.2.2.2.1, z7.2.2.2.1, z8.2.2.2.1]; exact h5
  · obtain ⟨q1, q2, q3⟩ := h6 p hp
    have hp5 : p < 5 := Nat.lt_of_lt_of_le hp hN
    have v1 := g (1110 + p) (dkI_v p hp5).1 (by omega) q1.2.1
    have v2 := g (1200 + p) (dkI_v p hp5).2 (by omega) q2.2.1
    refine ⟨?_, ?_, ?_⟩
    · rw [z7.2.2.1, v1.2.2.2.2, v1.2.2.2.1]; exact q1
    · rw [z8.2.2.1, v2.2.2.2.2, v2.2.2.2.1]; exact q2
    · rw [v2.1]; exact q3
theorem ixS_w2 {σ τ : dM} {q w : Nat} {f : Nat → Nat} {P : Nat → Prop} (hP : ∀ k, 1600 ≤ k → k < 1900 → P k) (ft : tfr P σ τ) (hq : ∀ k j q, 1000 ≤ k → k < 2100 → DA τ k = true → DR τ k j = some q → 1600 ≤ q → q < 1900 → DA σ k = true ∧ DR σ k j = some q) (h : ixS σ q f w) : ixS τ q f w := by
  obtain ⟨b1, b2, b3, b4, b5⟩ := h
  have A : ∀ k, 1600 ≤ k → k < 1900 → DA τ k = DA σ k := fun k k1 k2 => (ft.2 k (hP k k1 k2)).1
  refine ⟨by rw [A 1700 (by omega) (by omega), A 1610 (by omega) (by omega)]; exact b1, txt_fr (P := P) ⟨hP _ (by omega) (by omega), hP _ (by omega) (by omega), hP _ (by omega) (by omega), hP _ (by omega) (by omega), hP _ (by omega) (by omega), hP _ (by omega) (by omega)⟩ ft b2, fun k j q9 k1 k2 k3 e q1 q2 => ?_, ?_, ?_⟩
  · obtain ⟨a1, a2⟩ := hq k j q9 k1 k2 k3 e q1 q2
    exact b3 k j q9 k1 k2 a1 a2 q1 q2
  · rw [A 1800 (by omega) (by omega), A 1600 (by omega) (by omega), A 1601 (by omega) (by omega)]
    exact b4
  · rw [A 1701 (by omega) (by omega), A 1611 (by omega) (by omega)]
    exact b5
/-- the plan j of the script -/
def pnP (x : Int32) (N j : Nat) : Nat := md (x >>> (nI (2 + j) &&& 31)) N
def pnM (x : Int32) (j : Nat) : Nat := md (x >>> (nI (3 + 2 * j) &&& 31)) 6
def pnI (x : Int32) (j : Nat) : Nat := md (x >>> (nI (4 + j) &&& 31)) 2500
section EN3
variable {g : jG} {z : dZ} {k : Nat} {R : Option Value → dM → Nat → Nat → Prop}
theorem in_mk {N M XN q j a : Nat} {y3 : Int32} {xs : Nat → Int32} {τ : dM} {c0 s0 : Nat} (hR : dRok g z mX12_init R) (hT : dEt g z.2.2.2.2) (hC : dEc g z.2.2.2.2 XN xs) (hz : k + 6 ≤ z.1.frames ∧ 64 * (k + 6) ≤ z.1.locals ∧ c0 ≤ z.1.cells ∧ s0 ≤ z.1.slots) (hd : dk τ N M) (hj : 1 ≤ j ∧ j ≤ 2) (ha : a = 1138 ∨ a = 1139) (hA : DA τ a = true) (hN9 : DN τ a = 3)
    (kk : DW g z mX12_init 686 [(0, .ref 1000), (1, .ref 380), (2, .ref q), (3, .int y3), (4, .int (nI j)), (5, .ref a)] [.ref 1900] (DuI (DuI (DuI τ a 0 (nI (pnP (scX XN xs 6) N j))) a 1 (nI (pnM (scX XN xs 6) j))) a 2 (nI (pnI (scX XN xs 6) j))) c0 s0) : DW g z mX12_init 618 [(0, .ref 1000), (1, .ref 380), (2, .ref q), (3, .int y3), (4, .int (nI j))] [.ref a] τ c0 s0 := by
  have hE := hT.1
  obtain ⟨n, hn⟩ : ∃ n, n + 1 ≤ z.1.frames ∧ 64 * (n + 1) ≤ z.1.locals := ⟨k, by omega, by omega⟩
  have hf := dk_f hd
  have hN := hd.1.1
  have eN : (nI N).toNatClampNeg = N := nI_clamp (by omega)
  have hM9 : 0 < N ∧ N < 10000 := by omega
  have hN0 : ¬ nI N ≤ 0 := by
    have := nI_ge (show 0 < N by omega) (by omega)
    exact this
  have ga : darr a 1 0 = true := by rcases ha with rfl | rfl <;> decide +kernel
  have na : ¬ 1000 = a := by omega
  have j0 : jin (0 : Int32) 3 ∧ jin (1 : Int32) 3 ∧ jin (2 : Int32) 3 := by unfold jin; decide
  have k0 : (0 : Int32).toNatClampNeg = 0 ∧ (1 : Int32).toNatClampNeg = 1 ∧ (2 : Int32).toNatClampNeg = 2 := by decide
  have m1 : 2 + nI j = nI (2 + j) := nI_add 2 j
  have m2 : (3 : Int32) + 2 * nI j = nI (3 + 2 * j) := (show ∀ j, j < 3 → (3 : Int32) + 2 * nI j = nI (3 + 2 * j) by decide +kernel) j (by omega)
  have m3 : 4 + nI j = nI (4 + j) := nI_add 4 j
  have e6 : (6 : Int32).toNatClampNeg = 6 := by decide
  have e2 : (2500 : Int32).toNatClampNeg = 2500 := by decide
  have z6 : (6 : Int32) = nI 6 := by decide
  have hc9 : c0 ≤ z.1.cells ∧ s0 ≤ z.1.slots := by omega
  unfold pnP pnM pnI at kk
  refine dvk_ok (nC := n + 10) DX12_init_g hTyA hR (VC := [(131, 2, 11, oX11_load)]) (VD := []) (SD := [(33, 2, 0, n + 0, 0, 0, 0, [], dL_mod)]) (AL := []) (List.forall_mem_cons.mpr ⟨⟨mX11_load, n + 10, 1, TX11, 9, rfl, by omega, hX12_131, WX11_load, rfl, CX11_load g (n) hE.1⟩, (fun _ h => absurd h List.not_mem_nil)⟩) (fun _ h => absurd h List.not_mem_nil) (List.forall_mem_cons.mpr ⟨⟨mL_mod, by decide, Or.inr ⟨_, hX12_33⟩, WL_mod, EL_mod g _ n⟩, (fun _ h => absurd h List.not_mem_nil)⟩) [621] 10 _ _ _ _ _ _ ?_
  simp (maxSteps := 1000000) [↓Bool.cond_eq_ite, -Prod.forall, -Prod.exists, -Prod.mk.injEq, ↓jc_eq_t, ↓jc_eq_f, ↓jc_ne_t, ↓jc_ne_f, ↓jc_lt_t, ↓jc_lt_f, ↓jc_ge_t, ↓jc_ge_f, ↓jc_gt_t, ↓jc_gt_f, ↓jc_le_t, ↓jc_le_f, dvk, tX12_init_g, jtb, jol, dvl, dal, dst, jlk, jcmp, jbin, jfl, qX12, jc2, qlX12, jcat, jel, lv_args, Value.category, jins, jsrt, jins2, jble, jblt, jf3, List.filter_cons, List.filter_nil, Dlo, Dnr, DnL, Dfree, Droom, DuS_S, DuS_I, DuS_L, DuS_R, DuS_N, DuS_A, DuI_S, DuI_I, DuI_L, DuI_R, DuI_N, DuI_A, DuL_S, DuL_I, DuL_L, DuL_R, DuL_N, DuL_A, DuR_S, DuR_I, DuR_L, DuR_R, DuR_N, DuR_A, Dnw_S, Dnw_I, Dnw_L, Dnw_R, Dnw_N, Dnw_A, DrI_S, DrI_I, DrI_L, DrI_R, DrI_N, DrI_A, DrJ_S, DrJ_I, DrJ_L, DrJ_R, DrJ_N, DrJ_A, dm64, G_d, G_x0, dL_mod, oX11_load, doII, joRI, -Int32.not_le, -Int32.not_lt, -Int64.not_le, -Int64.not_lt, i3lt, i6lt]
  try simp (disch := omega) [-Prod.forall, -Prod.exists, -Prod.mk.injEq, -Int32.not_le, -Int32.not_lt, -Int64.not_le, -Int64.not_lt, i3lt, i6lt]
  refine dvk_ok (nC := n + 10) DX12_init_g hTyA hR (VC := [(131, 2, 11, oX11_load)]) (VD := []) (SD := [(33, 2, 0, n + 0, 0, 0, 0, [], dL_mod)]) (AL := []) (List.forall_mem_cons.mpr ⟨⟨mX11_load, n + 10, 1, TX11, 9, rfl, by omega, hX12_131, WX11_load, rfl, CX11_load g (n) hE.1⟩, (fun _ h => absurd h List.not_mem_nil)⟩) (fun _ h => absurd h List.not_mem_nil) (List.forall_mem_cons.mpr ⟨⟨mL_mod, by decide, Or.inr ⟨_, hX12_33⟩, WL_mod, EL_mod g _ n⟩, (fun _ h => absurd h List.not_mem_nil)⟩) [623] 10 _ _ _ _ _ _ ?_
  simp (maxSteps := 1000000) [↓Bool.cond_eq_ite, -Prod.forall, -Prod.exists, -Prod.mk.injEq, ↓jc_eq_t, ↓jc_eq_f, ↓jc_ne_t, ↓jc_ne_f, ↓jc_lt_t, ↓jc_lt_f, ↓jc_ge_t, ↓jc_ge_f, ↓jc_gt_t, ↓jc_gt_f, ↓jc_le_t, ↓jc_le_f, dvk, tX12_init_g, jtb, jol, dvl, dal, dst, jlk, jcmp, jbin, jfl, qX12, jc2, qlX12, jcat, jel, lv_args, Value.category, jins, jsrt, jins2, jble, jblt, jf3, List.filter_cons, List.filter_nil, Dlo, Dnr, DnL, Dfree, Droom, DuS_S, DuS_I, DuS_L, DuS_R, DuS_N, DuS_A, DuI_S, DuI_I, DuI_L, DuI_R, DuI_N, DuI_A, DuL_S, DuL_I, DuL_L, DuL_R, DuL_N, DuL_A, DuR_S, DuR_I, DuR_L, DuR_R, DuR_N, DuR_A, Dnw_S, Dnw_I, Dnw_L, Dnw_R, Dnw_N, Dnw_A, DrI_S, DrI_I, DrI_L, DrI_R, DrI_N, DrI_A, DrJ_S, DrJ_I, DrJ_L, DrJ_R, DrJ_N, DrJ_A, dm64, G_d, G_x0, dL_mod, oX11_load, doII, joRI, -Int32.not_le, -Int32.not_lt, -Int64.not_le, -Int64.not_lt, i3lt, i6lt]
  try simp (disch := omega) [-Prod.forall, -Prod.exists, -Prod.mk.injEq, -Int32.not_le, -Int32.not_lt, -Int64.not_le, -Int64.not_lt, i3lt, i6lt]
  rw [z6]
  refine dr_cellX (k := k) (idx := 27) hC ⟨by omega, by omega, by omega, by omega⟩ (by simp [Value.category]) hX12_27 (by omega) (by decide +kernel) ?_
  refine dvk_ok (nC := n + 10) DX12_init_g hTyA hR (VC := [(131, 2, 11, oX11_load)]) (VD := []) (SD := [(33, 2, 0, n + 0, 0, 0, 0, [], dL_mod)]) (AL := []) (List.forall_mem_cons.mpr ⟨⟨mX11_load, n + 10, 1, TX11, 9, rfl, by omega, hX12_131, WX11_load, rfl, CX11_load g (n) hE.1⟩, (fun _ h => absurd h List.not_mem_nil)⟩) (fun _ h => absurd h List.not_mem_nil) (List.forall_mem_cons.mpr ⟨⟨mL_mod, by decide, Or.inr ⟨_, hX12_33⟩, WL_mod, EL_mod g _ n⟩, (fun _ h => absurd h List.not_mem_nil)⟩) [642] 20 _ _ _ _ _ _ ?_
  simp (maxSteps := 1000000) [↓Bool.cond_eq_ite, -Prod.forall, -Prod.exists, -Prod.mk.injEq, ↓jc_eq_t, ↓jc_eq_f, ↓jc_ne_t, ↓jc_ne_f, ↓jc_lt_t, ↓jc_lt_f, ↓jc_ge_t, ↓jc_ge_f, ↓jc_gt_t, ↓jc_gt_f, ↓jc_le_t, ↓jc_le_f, dvk, tX12_init_g, jtb, jol, dvl, dal, dst, jlk, jcmp, jbin, jfl, qX12, jc2, qlX12, jcat, jel, lv_args, Value.category, jins, jsrt, jins2, jble, jblt, jf3, List.filter_cons, List.filter_nil, Dlo, Dnr, DnL, Dfree, Droom, DuS_S, DuS_I, DuS_L, DuS_R, DuS_N, DuS_A, DuI_S, DuI_I, DuI_L, DuI_R, DuI_N, DuI_A, DuL_S, DuL_I, DuL_L, DuL_R, DuL_N, DuL_A, DuR_S, DuR_I, DuR_L, DuR_R, DuR_N, DuR_A, Dnw_S, Dnw_I, Dnw_L, Dnw_R, Dnw_N, Dnw_A, DrI_S, DrI_I, DrI_L, DrI_R, DrI_N, DrI_A, DrJ_S, DrJ_I, DrJ_L, DrJ_R, DrJ_N, DrJ_A, dm64, G_d, G_x0, dL_mod, oX11_load, doII, joRI, -Int32.not_le, -Int32.not_lt, -Int64.not_le, -Int64.not_lt, i3lt, i6lt, hf, hn, hc9, hM9, hN0, eN, ga, hA, hN9, na, j0, k0, m1, G_d]
  try simp (disch := omega) [-Prod.forall, -Prod.exists, -Prod.mk.injEq, -Int32.not_le, -Int32.not_lt, -Int64.not_le, -Int64.not_lt, i3lt, i6lt, hf, hn, hc9, hM9, hN0, eN, ga, hA, hN9, na, j0, k0, m1, G_d]
  refine dvk_ok (nC := n + 10) DX12_init_g hTyA hR (VC := [(131, 2, 11, oX11_load)]) (VD := []) (SD := [(33, 2, 0, n + 0, 0, 0, 0, [], dL_mod)]) (AL := []) (List.forall_mem_cons.mpr ⟨⟨mX11_load, n + 10, 1, TX11, 9, rfl, by omega, hX12_131, WX11_load, rfl, CX11_load g (n) hE.1⟩, (fun _ h => absurd h List.not_mem_nil)⟩) (fun _ h => absurd h List.not_mem_nil) (List.forall_mem_cons.mpr ⟨⟨mL_mod, by decide, Or.inr ⟨_, hX12_33⟩, WL_mod, EL_mod g _ n⟩, (fun _ h => absurd h List.not_mem_nil)⟩) [644] 10 _ _ _ _ _ _ ?_
  simp (maxSteps := 1000000) [↓Bool.cond_eq_ite, -Prod.forall, -Prod.exists, -Prod.mk.injEq, ↓jc_eq_t, ↓jc_eq_f, ↓jc_ne_t, ↓jc_ne_f, ↓jc_lt_t, ↓jc_lt_f, ↓jc_ge_t, ↓jc_ge_f, ↓jc_gt_t, ↓jc_gt_f, ↓jc_le_t, ↓jc_le_f, dvk, tX12_init_g, jtb, jol, dvl, dal, dst, jlk, jcmp, jbin, jfl, qX12, jc2, qlX12, jcat, jel, lv_args, Value.category, jins, jsrt, jins2, jble, jblt, jf3, List.filter_cons, List.filter_nil, Dlo, Dnr, DnL, Dfree, Droom, DuS_S, DuS_I, DuS_L, DuS_R, DuS_N, DuS_A, DuI_S, DuI_I, DuI_L, DuI_R, DuI_N, DuI_A, DuL_S, DuL_I, DuL_L, DuL_R, DuL_N, DuL_A, DuR_S, DuR_I, DuR_L, DuR_R, DuR_N, DuR_A, Dnw_S, Dnw_I, Dnw_L, Dnw_R, Dnw_N, Dnw_A, DrI_S, DrI_I, DrI_L, DrI_R, DrI_N, DrI_A, DrJ_S, DrJ_I, DrJ_L, DrJ_R, DrJ_N, DrJ_A, dm64, G_d, G_x0, dL_mod, oX11_load, doII, joRI, -Int32.not_le, -Int32.not_lt, -Int64.not_le, -Int64.not_lt, i3lt, i6lt]
  try simp (disch := omega) [-Prod.forall, -Prod.exists, -Prod.mk.injEq, -Int32.not_le, -Int32.not_lt, -Int64.not_le, -Int64.not_lt, i3lt, i6lt]
  rw [z6]
  refine dr_cellX (k := k) (idx := 27) hC ⟨by omega, by omega, by omega, by omega⟩ (by simp [Value.category]) hX12_27 (by omega) (by decide +kernel) ?_
  refine dvk_ok (nC := n + 10) DX12_init_g hTyA hR (VC := [(131, 2, 11, oX11_load)]) (VD := []) (SD := [(33, 2, 0, n + 0, 0, 0, 0, [], dL_mod)]) (AL := []) (List.forall_mem_cons.mpr ⟨⟨mX11_load, n + 10, 1, TX11, 9, rfl, by omega, hX12_131, WX11_load, rfl, CX11_load g (n) hE.1⟩, (fun _ h => absurd h List.not_mem_nil)⟩) (fun _ h => absurd h List.not_mem_nil) (List.forall_mem_cons.mpr ⟨⟨mL_mod, by decide, Or.inr ⟨_, hX12_33⟩, WL_mod, EL_mod g _ n⟩, (fun _ h => absurd h List.not_mem_nil)⟩) [663] 20 _ _ _ _ _ _ ?_
  simp (maxSteps := 1000000) [↓Bool.cond_eq_ite, -Prod.forall, -Prod.exists, -Prod.mk.injEq, ↓jc_eq_t, ↓jc_eq_f, ↓jc_ne_t, ↓jc_ne_f, ↓jc_lt_t, ↓jc_lt_f, ↓jc_ge_t, ↓jc_ge_f, ↓jc_gt_t, ↓jc_gt_f, ↓jc_le_t, ↓jc_le_f, dvk, tX12_init_g, jtb, jol, dvl, dal, dst, jlk, jcmp, jbin, jfl, qX12, jc2, qlX12, jcat, jel, lv_args, Value.category, jins, jsrt, jins2, jble, jblt, jf3, List.filter_cons, List.filter_nil, Dlo, Dnr, DnL, Dfree, Droom, DuS_S, DuS_I, DuS_L, DuS_R, DuS_N, DuS_A, DuI_S, DuI_I, DuI_L, DuI_R, DuI_N, DuI_A, DuL_S, DuL_I, DuL_L, DuL_R, DuL_N, DuL_A, DuR_S, DuR_I, DuR_L, DuR_R, DuR_N, DuR_A, Dnw_S, Dnw_I, Dnw_L, Dnw_R, Dnw_N, Dnw_A, DrI_S, DrI_I, DrI_L, DrI_R, DrI_N, DrI_A, DrJ_S, DrJ_I, DrJ_L, DrJ_R, DrJ_N, DrJ_A, dm64, G_d, G_x0, dL_mod, oX11_load, doII, joRI, -Int32.not_le, -Int32.not_lt, -Int64.not_le, -Int64.not_lt, i3lt, i6lt, hf, hn, hc9, e6, ga, hA, hN9, na, j0, k0, m2, G_d]
  try simp (disch := omega) [-Prod.forall, -Prod.exists, -Prod.mk.injEq, -Int32.not_le, -Int32.not_lt, -Int64.not_le, -Int64.not_lt, i3lt, i6lt, hf, hn, hc9, e6, ga, hA, hN9, na, j0, k0, m2, G_d]
  refine dvk_ok (nC := n + 10) DX12_init_g hTyA hR (VC := [(131, 2, 11, oX11_load)]) (VD := []) (SD := [(33, 2, 0, n + 0, 0, 0, 0, [], dL_mod)]) (AL := []) (List.forall_mem_cons.mpr ⟨⟨mX11_load, n + 10, 1, TX11, 9, rfl, by omega, hX12_131, WX11_load, rfl, CX11_load g (n) hE.1⟩, (fun _ h => absurd h List.not_mem_nil)⟩) (fun _ h => absurd h List.not_mem_nil) (List.forall_mem_cons.mpr ⟨⟨mL_mod, by decide, Or.inr ⟨_, hX12_33⟩, WL_mod, EL_mod g _ n⟩, (fun _ h => absurd h List.not_mem_nil)⟩) [665] 10 _ _ _ _ _ _ ?_
  simp (maxSteps := 1000000) [↓Bool.cond_eq_ite, -Prod.forall, -Prod.exists, -Prod.mk.injEq, ↓jc_eq_t, ↓jc_eq_f, ↓jc_ne_t, ↓jc_ne_f, ↓jc_lt_t, ↓jc_lt_f, ↓jc_ge_t, ↓jc_ge_f, ↓jc_gt_t, ↓jc_gt_f, ↓jc_le_t, ↓jc_le_f, dvk, tX12_init_g, jtb, jol, dvl, dal, dst, jlk, jcmp, jbin, jfl, qX12, jc2, qlX12, jcat, jel, lv_args, Value.category, jins, jsrt, jins2, jble, jblt, jf3, List.filter_cons, List.filter_nil, Dlo, Dnr, DnL, Dfree, Droom, DuS_S, DuS_I, DuS_L, DuS_R, DuS_N, DuS_A, DuI_S, DuI_I, DuI_L, DuI_R, DuI_N, DuI_A, DuL_S, DuL_I, DuL_L, DuL_R, DuL_N, DuL_A, DuR_S, DuR_I, DuR_L, DuR_R, DuR_N, DuR_A, Dnw_S, Dnw_I, Dnw_L, Dnw_R, Dnw_N, Dnw_A, DrI_S, DrI_I, DrI_L, DrI_R, DrI_N, DrI_A, DrJ_S, DrJ_I, DrJ_L, DrJ_R, DrJ_N, DrJ_A, dm64, G_d, G_x0, dL_mod, oX11_load, doII, joRI, -Int32.not_le, -Int32.not_lt, -Int64.not_le, -Int64.not_lt, i3lt, i6lt]
  try simp (disch := omega) [-Prod.forall, -Prod.exists, -Prod.mk.injEq, -Int32.not_le, -Int32.not_lt, -Int64.not_le, -Int64.not_lt, i3lt, i6lt]
  rw [z6]
  refine dr_cellX (k := k) (idx := 27) hC ⟨by omega, by omega, by omega, by omega⟩ (by simp [Value.category]) hX12_27 (by omega) (by decide +kernel) ?_
  refine dvk_ok (nC := n + 10) DX12_init_g hTyA hR (VC := [(131, 2, 11, oX11_load)]) (VD := []) (SD := [(33, 2, 0, n + 0, 0, 0, 0, [], dL_mod)]) (AL := []) (List.forall_mem_cons.mpr ⟨⟨mX11_load, n + 10, 1, TX11, 9, rfl, by omega, hX12_131, WX11_load, rfl, CX11_load g (n) hE.1⟩, (fun _ h => absurd h List.not_mem_nil)⟩) (fun _ h => absurd h List.not_mem_nil) (List.forall_mem_cons.mpr ⟨⟨mL_mod, by decide, Or.inr ⟨_, hX12_33⟩, WL_mod, EL_mod g _ n⟩, (fun _ h => absurd h List.not_mem_nil)⟩) [686] 20 _ _ _ _ _ _ ?_
  simp (maxSteps := 1000000) [↓Bool.cond_eq_ite, -Prod.forall, -Prod.exists, -Prod.mk.injEq, ↓jc_eq_t, ↓jc_eq_f, ↓jc_ne_t, ↓jc_ne_f, ↓jc_lt_t, ↓jc_lt_f, ↓jc_ge_t, ↓jc_ge_f, ↓jc_gt_t, ↓jc_gt_f, ↓jc_le_t, ↓jc_le_f, dvk, tX12_init_g, jtb, jol, dvl, dal, dst, jlk, jcmp, jbin, jfl, qX12, jc2, qlX12, jcat, jel, lv_args, Value.category, jins, jsrt, jins2, jble, jblt, jf3, List.filter_cons, List.filter_nil, Dlo, Dnr, DnL, Dfree, Droom, DuS_S, DuS_I, DuS_L, DuS_R, DuS_N, DuS_A, DuI_S, DuI_I, DuI_L, DuI_R, DuI_N, DuI_A, DuL_S, DuL_I, DuL_L, DuL_R, DuL_N, DuL_A, DuR_S, DuR_I, DuR_L, DuR_R, DuR_N, DuR_A, Dnw_S, Dnw_I, Dnw_L, Dnw_R, Dnw_N, Dnw_A, DrI_S, DrI_I, DrI_L, DrI_R, DrI_N, DrI_A, DrJ_S, DrJ_I, DrJ_L, DrJ_R, DrJ_N, DrJ_A, dm64, G_d, G_x0, dL_mod, oX11_load, doII, joRI, -Int32.not_le, -Int32.not_lt, -Int64.not_le, -Int64.not_lt, i3lt, i6lt, hf, hn, hc9, e2, ga, hA, hN9, na, j0, k0, m3, G_d]
  try simp (disch := omega) [-Prod.forall, -Prod.exists, -Prod.mk.injEq, -Int32.not_le, -Int32.not_lt, -Int64.not_le, -Int64.not_lt, i3lt, i6lt, hf, hn, hc9, e2, ga, hA, hN9, na, j0, k0, m3, G_d]
  exact kk
end EN3
