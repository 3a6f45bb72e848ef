/-! the law's settles, its contract -/
def dX12_settles (s0 : jM) : dO := doR fun a σ => (a = 1000 ∧ ∃ N M K, rI σ s0 N M K, fun v τ => v = some (.int 1) ∧ ∃ s1, xSm s0 s1 ∧ s1.1 323 = stR (tgS s0) (s0.1 323) (DI σ 1000 2).toNatClampNeg ∧ τ = DuS (DrI σ 1104 (sSt σ s0 (DI σ 1000 2).toNatClampNeg)) s1)
set_option maxRecDepth 100000 in
set_option maxHeartbeats 4000000 in
theorem ESe_t {g : jG} {n : Nat} {z : dZ} {R : Option Value → dM → Nat → Nat → Prop} (hE : dEs g) (hR : dRok g z mX12_settles R) (hz : z.1.frames = n + 5 ∧ z.1.locals = 64 * (n + 5) ∧ z.1.cells = 5 ∧ z.1.slots = 31) {τ : dM} {s0 : jM} {N M K : Nat} (h : rDs τ s0 N M K) (hW : DA τ 1120 = true ∧ DN τ 1120 = 11) {υ : jM} (hG : xG s0 υ)
    (ih : ∀ υ, xG s0 υ → ∀ F, DW g z mX12_settles 341 [(0, .ref 1000), (1, .ref 1313), (2, .ref 1124), (3, .ref 1120), (4, .int (nI (trS s0).length)), (5, .int 0)] [] (DrI (DuS τ υ) 1120 F) 5 31) : DW g z mX12_settles 119 [(0, .ref 1000), (1, .ref 1313), (2, .ref 1124), (3, .ref 1120), (4, .int (nI N))] [] (DrI (DuS τ υ) 1120 (duR s0 N)) 5 31 := by
  have hf := dk_f h.1
  have key := jloop (P := fun k => ∀ υ, xG s0 υ → DW g z mX12_settles 131 (seL (trS s0).length k []) [] (DrI (DuS τ υ) 1120 (dRow (tK (duI s0) k))) 5 31) (N := (trS s0).length) (fun υ1 g1 => by
    have hm := tr_11 h.2.1
    have hle : nI (trS s0).length ≤ nI (trS s0).length := Int32.le_refl _
    have e5 := ESe_5 hE hR hz (s0 := s0) (m := (trS s0).length) (τ := DrI (DuS τ υ1) 1120 (dRow (tK (duI s0) (trS s0).length))) hW (fun j hj => by
      rw [DrI_I, if_pos rfl]
      unfold dRow
      rw [if_pos hj]
      have := trL_end 11 (duI s0) (duI_ok h) (nz_11 _) j hj
      unfold trS
      rw [this]
      rfl) (ih υ1 g1 _)
    unfold seL at e5 ⊢
    refine dvk_ok (nC := n + 4) DX12_settles hTyA hR (VC := [(307, 2, 11, qX11_target s0), (310, 1, 11, qX11_transferCount s0), (313, 3, 11, qX11_transfer s0), (316, 1, 11, qX11_settle s0)]) (VD := [(196, 1, 12, n + 0, 0, 1, 5, [1210], dX12_livers), (200, 4, 12, n + 1, 0, 2, 10, [1124, 1310], dX12_split)]) (SD := [(171, 2, 0, n + 0, 0, 0, 0, [], dJ9_max_7cf53), (176, 2, 0, n + 0, 0, 0, 0, [], dJ9_min_7cf53)]) (AL := []) (List.forall_mem_cons.mpr ⟨⟨mX11_target, n + 3, 1, TX11, 9, rfl, by omega, hX12_307, WX11_target, rfl, QX11_target g (n) s0⟩, (List.forall_mem_cons.mpr ⟨⟨mX11_transferCount, n + 4, 0, TX11, 9, rfl, by omega, hX12_310, WX11_transferCount, rfl, QX11_transferCount g (n) s0⟩, (List.forall_mem_cons.mpr ⟨⟨mX11_transfer, n + 4, 2, TX11, 9, rfl, by omega, hX12_313, WX11_transfer, rfl, QX11_transfer g (n) s0⟩, (List.forall_mem_cons.mpr ⟨⟨mX11_settle, n + 4, 0, TX11, 9, rfl, by omega, hX12_316, WX11_settle, rfl, QX11_settle g (n) s0⟩, (fun _ h => absurd h List.not_mem_nil)⟩)⟩)⟩)⟩) (List.forall_mem_cons.mpr ⟨⟨mX12_livers, 0, TX12, 25, rfl, by decide, hX12_196, WX12_livers, rfl, EX12_livers g _ n⟩, (List.forall_mem_cons.mpr ⟨⟨mX12_split, 3, TX12, 25, rfl, by decide, hX12_200, WX12_split, rfl, EX12_split g _ n⟩, (fun _ h => absurd h List.not_mem_nil)⟩)⟩) (List.forall_mem_cons.mpr ⟨⟨mJ9_max_7cf53, by decide, Or.inl hX12_171, WJ9_max_7cf53, EJ9_max_7cf53 g _ n⟩, (List.forall_mem_cons.mpr ⟨⟨mJ9_min_7cf53, by decide, Or.inl hX12_176, WJ9_min_7cf53, EJ9_min_7cf53 g _ n⟩, (fun _ h => absurd h List.not_mem_nil)⟩)⟩) [300, 136] 10 _ _ _ _ _ _ ?_
    simp (maxSteps := 1000000) [↓Bool.cond_eq_ite, -Prod.forall, -Prod.exists, -Prod.mk.injEq, ↓jc_eq_t, ↓jc_eq_f, ↓jc_ne_t, ↓jc_ne_f, ↓jc_lt_t, ↓jc_lt_f, ↓jc_ge_t, ↓jc_ge_f, ↓jc_gt_t, ↓jc_gt_f, ↓jc_le_t, ↓jc_le_f, dvk, tX12_settles, jtb, jol, dvl, dal, dst, jlk, jcmp, jbin, jfl, qX12, jc2, qlX12, jcat, jel, lv_args, Value.category, jins, jsrt, jins2, jble, jblt, jf3, List.filter_cons, List.filter_nil, Dlo, Dnr, DnL, Dfree, Droom, DuS_S, DuS_I, DuS_L, DuS_R, DuS_N, DuS_A, DuI_S, DuI_I, DuI_L, DuI_R, DuI_N, DuI_A, DuL_S, DuL_I, DuL_L, DuL_R, DuL_N, DuL_A, DuR_S, DuR_I, DuR_L, DuR_R, DuR_N, DuR_A, Dnw_S, Dnw_I, Dnw_L, Dnw_R, Dnw_N, Dnw_A, DrI_S, DrI_I, DrI_L, DrI_R, DrI_N, DrI_A, DrJ_S, DrJ_I, DrJ_L, DrJ_R, DrJ_N, DrJ_A, dm64, G_d, G_x0, DuS_uS, dJ9_max_7cf53, dX12_livers, dX12_split, qX11_target, qX11_transferCount, qX11_transfer, dJ9_min_7cf53, qX11_settle, doII, doR, doRIRR, joR, joRI, joRII, -Int32.not_le, -Int32.not_lt, -Int64.not_le, -Int64.not_lt, i3lt, i6lt, hle, hz]
    try simp (disch := omega) [-Prod.forall, -Prod.exists, -Prod.mk.injEq, -Int32.not_le, -Int32.not_lt, -Int64.not_le, -Int64.not_lt, i3lt, i6lt, hle, hz]
    exact e5) (fun k hk ih2 υ1 g1 => ESe_3 hE hR hz h hW hk g1 ih2)
  have e0 : duR s0 N = dRow (tK (duI s0) 0) := funext fun j => duR_N h j
  rw [e0]
  refine dvk_ok (nC := n + 4) DX12_settles hTyA hR (VC := [(307, 2, 11, qX11_target s0), (310, 1, 11, qX11_transferCount s0), (313, 3, 11, qX11_transfer s0), (316, 1, 11, qX11_settle s0)]) (VD := [(196, 1, 12, n + 0, 0, 1, 5, [1210], dX12_livers), (200, 4, 12, n + 1, 0, 2, 10, [1124, 1310], dX12_split)]) (SD := [(171, 2, 0, n + 0, 0, 0, 0, [], dJ9_max_7cf53), (176, 2, 0, n + 0, 0, 0, 0, [], dJ9_min_7cf53)]) (AL := []) (List.forall_mem_cons.mpr ⟨⟨mX11_target, n + 3, 1, TX11, 9, rfl, by omega, hX12_307, WX11_target, rfl, QX11_target g (n) s0⟩, (List.forall_mem_cons.mpr ⟨⟨mX11_transferCount, n + 4, 0, TX11, 9, rfl, by omega, hX12_310, WX11_transferCount, rfl, QX11_transferCount g (n) s0⟩, (List.forall_mem_cons.mpr ⟨⟨mX11_transfer, n + 4, 2, TX11, 9, rfl, by omega, hX12_313, WX11_transfer, rfl, QX11_transfer g (n) s0⟩, (List.forall_mem_cons.mpr ⟨⟨mX11_settle, n + 4, 0, TX11, 9, rfl, by omega, hX12_316, WX11_settle, rfl, QX11_settle g (n) s0⟩, (fun _ h => absurd h List.not_mem_nil)⟩)⟩)⟩)⟩) (List.forall_mem_cons.mpr ⟨⟨mX12_livers, 0, TX12, 25, rfl, by decide, hX12_196, WX12_livers, rfl, EX12_livers g _ n⟩, (List.forall_mem_cons.mpr ⟨⟨mX12_split, 3, TX12, 25, rfl, by decide, hX12_200, WX12_split, rfl, EX12_split g _ n⟩, (fun _ h => absurd h List.not_mem_nil)⟩)⟩) (List.forall_mem_cons.mpr ⟨⟨mJ9_max_7cf53, by decide, Or.inl hX12_171, WJ9_max_7cf53, EJ9_max_7cf53 g _ n⟩, (List.forall_mem_cons.mpr ⟨⟨mJ9_min_7cf53, by decide, Or.inl hX12_176, WJ9_min_7cf53, EJ9_min_7cf53 g _ n⟩, (fun _ h => absurd h List.not_mem_nil)⟩)⟩) [126] 20 _ _ _ _ _ _ ?_
  simp (maxSteps := 1000000) [↓Bool.cond_eq_ite, -Prod.forall, -Prod.exists, -Prod.mk.injEq, ↓jc_eq_t, ↓jc_eq_f, ↓jc_ne_t, ↓jc_ne_f, ↓jc_lt_t, ↓jc_lt_f, ↓jc_ge_t, ↓jc_ge_f, ↓jc_gt_t, ↓jc_gt_f, ↓jc_le_t, ↓jc_le_f, dvk, tX12_settles, jtb, jol, dvl, dal, dst, jlk, jcmp, jbin, jfl, qX12, jc2, qlX12, jcat, jel, lv_args, Value.category, jins, jsrt, jins2, jble, jblt, jf3, List.filter_cons, List.filter_nil, Dlo, Dnr, DnL, Dfree, Droom, DuS_S, DuS_I, DuS_L, DuS_R, DuS_N, DuS_A, DuI_S, DuI_I, DuI_L, DuI_R, DuI_N, DuI_A, DuL_S, DuL_I, DuL_L, DuL_R, DuL_N, DuL_A, DuR_S, DuR_I, DuR_L, DuR_R, DuR_N, DuR_A, Dnw_S, Dnw_I, Dnw_L, Dnw_R, Dnw_N, Dnw_A, DrI_S, DrI_I, DrI_L, DrI_R, DrI_N, DrI_A, DrJ_S, DrJ_I, DrJ_L, DrJ_R, DrJ_N, DrJ_A, dm64, G_d, G_x0, DuS_uS, dJ9_max_7cf53, dX12_livers, dX12_split, qX11_target, qX11_transferCount, qX11_transfer, dJ9_min_7cf53, qX11_settle, doII, doR, doRIRR, joR, joRI, joRII, -Int32.not_le, -Int32.not_lt, -Int64.not_le, -Int64.not_lt, i3lt, i6lt, hf, hz, hG]
  try simp (disch := omega) [-Prod.forall, -Prod.exists, -Prod.mk.injEq, -Int32.not_le, -Int32.not_lt, -Int64.not_le, -Int64.not_lt, i3lt, i6lt, hf, hz, hG]
  rintro _ υ1 rfl g1
  refine ⟨rfl, ?_⟩
  have j := key υ1 g1
  unfold seL at j
  rw [nI_0] at j
  refine dvk_ok (nC := n + 4) DX12_settles hTyA hR (VC := [(307, 2, 11, qX11_target s0), (310, 1, 11, qX11_transferCount s0), (313, 3, 11, qX11_transfer s0), (316, 1, 11, qX11_settle s0)]) (VD := [(196, 1, 12, n + 0, 0, 1, 5, [1210], dX12_livers), (200, 4, 12, n + 1, 0, 2, 10, [1124, 1310], dX12_split)]) (SD := [(171, 2, 0, n + 0, 0, 0, 0, [], dJ9_max_7cf53), (176, 2, 0, n + 0, 0, 0, 0, [], dJ9_min_7cf53)]) (AL := []) (List.forall_mem_cons.mpr ⟨⟨mX11_target, n + 3, 1, TX11, 9, rfl, by omega, hX12_307, WX11_target, rfl, QX11_target g (n) s0⟩, (List.forall_mem_cons.mpr ⟨⟨mX11_transferCount, n + 4, 0, TX11, 9, rfl, by omega, hX12_310, WX11_transferCount, rfl, QX11_transferCount g (n) s0⟩, (List.forall_mem_cons.mpr ⟨⟨mX11_transfer, n + 4, 2, TX11, 9, rfl, by omega, hX12_313, WX11_transfer, rfl, QX11_transfer g (n) s0⟩, (List.forall_mem_cons.mpr ⟨⟨mX11_settle, n + 4, 0, TX11, 9, rfl, by omega, hX12_316, WX11_settle, rfl, QX11_settle g (n) s0⟩, (fun _ h => absurd h List.not_mem_nil)⟩)⟩)⟩)⟩) (List.forall_mem_cons.mpr ⟨⟨mX12_livers, 0, TX12, 25, rfl, by decide, hX12_196, WX12_livers, rfl, EX12_livers g _ n⟩, (List.forall_mem_cons.mpr ⟨⟨mX12_split, 3, TX12, 25, rfl, by decide, hX12_200, WX12_split, rfl, EX12_split g _ n⟩, (fun _ h => absurd h List.not_mem_nil)⟩)⟩) (List.forall_mem_cons.mpr ⟨⟨mJ9_max_7cf53, by decide, Or.inl hX12_171, WJ9_max_7cf53, EJ9_max_7cf53 g _ n⟩, (List.forall_mem_cons.mpr ⟨⟨mJ9_min_7cf53, by decide, Or.inl hX12_176, WJ9_min_7cf53, EJ9_min_7cf53 g _ n⟩, (fun _ h => absurd h List.not_mem_nil)⟩)⟩) [131] 20 _ _ _ _ _ _ ?_
  simp (maxSteps := 1000000) [↓Bool.cond_eq_ite, -Prod.forall, -Prod.exists, -Prod.mk.injEq, ↓jc_eq_t, ↓jc_eq_f, ↓jc_ne_t, ↓jc_ne_f, ↓jc_lt_t, ↓jc_lt_f, ↓jc_ge_t, ↓jc_ge_f, ↓jc_gt_t, ↓jc_gt_f, ↓jc_le_t, ↓jc_le_f, dvk, tX12_settles, jtb, jol, dvl, dal, dst, jlk, jcmp, jbin, jfl, qX12, jc2, qlX12, jcat, jel, lv_args, Value.category, jins, jsrt, jins2, jble, jblt, jf3, List.filter_cons, List.filter_nil, Dlo, Dnr, DnL, Dfree, Droom, DuS_S, DuS_I, DuS_L, DuS_R, DuS_N, DuS_A, DuI_S, DuI_I, DuI_L, DuI_R, DuI_N, DuI_A, DuL_S, DuL_I, DuL_L, DuL_R, DuL_N, DuL_A, DuR_S, DuR_I, DuR_L, DuR_R, DuR_N, DuR_A, Dnw_S, Dnw_I, Dnw_L, Dnw_R, Dnw_N, Dnw_A, DrI_S, DrI_I, DrI_L, DrI_R, DrI_N, DrI_A, DrJ_S, DrJ_I, DrJ_L, DrJ_R, DrJ_N, DrJ_A, dm64, G_d, G_x0, DuS_uS, dJ9_max_7cf53, dX12_livers, dX12_split, qX11_target, qX11_transferCount, qX11_transfer, dJ9_min_7cf53, qX11_settle, doII, doR, doRIRR, joR, joRI, joRII, -Int32.not_le, -Int32.not_lt, -Int64.not_le, -Int64.not_lt, i3lt, i6lt, hz]
  try simp (disch := omega) [-Prod.forall, -Prod.exists, -Prod.mk.injEq, -Int32.not_le, -Int32.not_lt, -Int64.not_le, -Int64.not_lt, i3lt, i6lt, hz]
  exact j
set_option maxRecDepth 100000 in
set_option maxHeartbeats 4000000 in
theorem EX12_settles (g : jG) (h0 n : Nat) (hE : dEs g) (s0 : jM) : dOk g h0 (n + 5) 5 31 [1313, 1210, 1124, 1310, 1120] mX12_settles (dX12_settles s0) := by
  refine doR_ok ?_
  rintro _ σ ⟨rfl, N, M, K, h⟩
  have hk := h.1.1
  have hf := dk_f hk
  have hN := hk.1.1.2
  have hN0 := hk.1.1.1
  have eN : (nI N).toNatClampNeg = N := nI_clamp (by omega)
  have hn0 : ¬ nI N < 0 := nI_pos (by omega)
  have d1 := h.2.2.2 1313 (by unfold tmpK; omega)
  have d2 := h.2.2.2 1210 (by unfold tmpK; omega)
  have d3 := h.2.2.2 1124 (by unfold tmpK; omega)
  have d4 := h.2.2.2 1310 (by unfold tmpK; omega)
  have d5 := h.2.2.2 1120 (by unfold tmpK; omega)
  refine dCon.go (by decide +kernel) (by simp [lg_sl, Value.category]) (fun z hkp hcl hz post hp hR => ?_)
  simp only [DkF] at hkp
  obtain ⟨k1, k2, k3, k4, k5, -⟩ := hkp
  have hz2 : z.1.frames = n + 5 ∧ z.1.locals = 64 * (n + 5) ∧ z.1.cells = 5 ∧ z.1.slots = 31 := hz
  show DW g z mX12_settles 0 [(0, .ref 1000)] [] σ 0 0
  obtain ⟨τ1, e1⟩ : ∃ τ1, τ1 = Dnw σ 1313 N := ⟨_, rfl⟩
  have f1 : Dfr (fun k => k ≠ 1313) σ τ1 := by rw [e1]; exact Dfr_nw
  obtain ⟨τ2, e2⟩ : ∃ τ2, τ2 = DrJ τ1 1313 (fillL (seW σ) N) := ⟨_, rfl⟩
  have f2 : Dfr (fun k => k ≠ 1313) σ τ2 := by rw [e2]; exact f1.tr Dfr_rJ
  have h2 : rDs τ2 s0 N M K := rDs_fr (fun k hk => by unfold dkI at hk; omega) f2 h.1
  obtain ⟨τ3, e3⟩ : ∃ τ3, τ3 = livS τ2 N := ⟨_, rfl⟩
  have f3 : Dfr (fun k => k ≠ 1210) τ2 τ3 := by rw [e3]; exact Dfr_new
  have h3 : rDs τ3 s0 N M K := rDs_fr (fun k hk => by unfold dkI at hk; omega) f3 h2
  have v3 : DA τ3 1210 = true ∧ DN τ3 1210 = N ∧ ∀ j, DI τ3 1210 j = fillI (lvI τ2) N j := by rw [e3]; exact new_v
  have w3 := f3.2 1313 (by omega)
  have w2 : DA τ2 1313 = true ∧ DN τ2 1313 = N ∧ ∀ j, DL τ2 1313 j = fillL (seW σ) N j := by
    rw [e2, e1]
    exact ⟨by rw [DrJ_A, Dnw_A, if_pos rfl], by rw [DrJ_N, Dnw_N, if_pos rfl], fun j => by rw [DrJ_L, if_pos rfl]⟩
  have w3' : DA τ3 1313 = true ∧ DN τ3 1313 = N ∧ ∀ p, p < N → DL τ3 1313 p = lN (mD s0 p 3).toNatClampNeg := by
    rw [w3.2.2.2.2, w3.2.2.2.1, w3.2.1]
    refine ⟨w2.1, w2.2.1, fun p hp9 => ?_⟩
    rw [w2.2.2, fillL_lt hp9]
    exact (rPay h.1 hp9).2.2
  have n3 : ∀ k, tmpK k → k ≠ 1313 → k ≠ 1210 → DA τ3 k = false := fun k q a b => by
    rw [(f3.2 k b).2.2.2.2, (f2.2 k a).2.2.2.2]
    exact h.2.2.2 k q
  obtain ⟨p1, p2⟩ := rDep h3
  have hpre : prSp τ3 (nI (dpN s0)) 1313 1210 := ⟨N, M, dpN s0, fun p => (mD s0 p 3).toNatClampNeg, h3.1, rfl, p2, Or.inr rfl, rfl, ⟨w3'.1, w3'.2.1⟩, ⟨v3.1, v3.2.1⟩, fun p hp9 => ⟨w3'.2.2 p hp9, (rPay h.1 hp9).2.1⟩, n3 1124 (by unfold tmpK; omega) (by omega) (by omega), n3 1310 (by unfold tmpK; omega) (by omega) (by omega)⟩
  have p1' : DI τ2 1000 13 = nI (dpN s0) := by rw [← (f3.2 1000 (by omega)).1]; exact p1
  have hl2 : prD τ2 := ⟨N, M, h2.1⟩
  have l2 : DA τ2 1210 = false := by rw [(f2.2 1210 (by omega)).2.2.2.2]; exact d2
  obtain ⟨τ4, e4⟩ : ∃ τ4, τ4 = spRes τ3 (nI (dpN s0)) 1313 1210 := ⟨_, rfl⟩
  have e4' : τ4 = DrI (Dnw τ3 1124 N) 1124 (uRow (dpN s0) (DI τ3 1210) (fun p => (DL τ3 1313 p).toInt.toNat) N) := by
    rw [e4]
    unfold spRes
    rw [(dk_f h3.1).1.2, eN, nI_clamp (by omega)]
  have f4 : Dfr (fun k => k ≠ 1124) τ3 τ4 := by rw [e4']; exact Dfr_new
  have h4 : rDs τ4 s0 N M K := rDs_fr (fun k hk => by unfold dkI at hk; omega) f4 h3
  have v4 : DA τ4 1124 = true ∧ DN τ4 1124 = N ∧ ∀ j, DI τ4 1124 j = uRow (dpN s0) (DI τ3 1210) (fun p => (DL τ3 1313 p).toInt.toNat) N j := by rw [e4']; exact new_v
  have t4 : ∀ p, p < N → DI τ4 1124 p = tgS s0 p := fun p hp9 => by
    rw [v4.2.2]
    refine rTg h3 (fun q hq => ?_) (fun q hq => ?_) hp9
    · rw [v3.2.2, fillI_lt hq, lvI_0, (rDs_lv h2).1 q hq]
    · rw [w3'.2.2 q hq, pk_lT (by have := (rPay h.1 hq).2.1; omega)]
      rfl
  obtain ⟨τ5, e5⟩ : ∃ τ5, τ5 = Dnw τ4 1120 11 := ⟨_, rfl⟩
  have f5 : Dfr (fun k => k ≠ 1120) τ4 τ5 := by rw [e5]; exact Dfr_nw
  have h5 : rDs τ5 s0 N M K := rDs_fr (fun k hk => by unfold dkI at hk; omega) f5 h4
  have v5 : DA τ5 1120 = true ∧ DN τ5 1120 = 11 := by rw [e5]; exact ⟨by rw [Dnw_A, if_pos rfl], by rw [Dnw_N, if_pos rfl]⟩
  have c5 := f5.2 1124 (by omega)
  have t5 : DA τ5 1124 = true ∧ DN τ5 1124 = N ∧ ∀ p, p < N → DI τ5 1124 p = tgS s0 p := ⟨by rw [c5.2.2.2.2]; exact v4.1, by rw [c5.2.2.2.1]; exact v4.2.1, fun p hp9 => by rw [c5.1]; exact t4 p hp9⟩
  have fa : Dfr (fun k => k ≠ 1313 ∧ k ≠ 1210 ∧ k ≠ 1124 ∧ k ≠ 1120) σ τ5 := (((f2.weak (fun k hk => hk.1)).tr (f3.weak (fun k hk => hk.2.1))).tr (f4.weak (fun k hk => hk.2.2.1))).tr (f5.weak (fun k hk => hk.2.2.2))
  have e1120 : DA τ4 1120 = false := by
    rw [(f4.2 1120 (by omega)).2.2.2.2]
    exact n3 1120 (by unfold tmpK; omega) (by omega) (by omega)
  have s5 : DS τ5 = DS σ := fa.1
  have eS : sSt τ5 s0 N = sSt σ s0 N := funext fun j => by
    unfold sSt
    rw [(fa.2 1104 (by omega)).1]
  have hG5 : xG s0 (DS τ5) := by rw [s5]; exact h.2.1
  have fin : ∀ υ, xG s0 υ → ∀ F, DW g z mX12_settles 341 [(0, .ref 1000), (1, .ref 1313), (2, .ref 1124), (3, .ref 1120), (4, .int (nI (trS s0).length)), (5, .int 0)] [] (DrI (DuS τ5 υ) 1120 F) 5 31 := fun υ g1 F => by
    refine ESe_4 hE hR hz2 (σ := σ) h5 t5 g1 (fun s1 => ?_) (fun s1 q1 q2 => hp _ _ ⟨rfl, s1, q1, by rw [hf.1.2, eN]; exact q2, by rw [hf.1.2, eN, eS]⟩)
    rw [eS]
    refine Dsub_cut (P := fun k => k ≠ 1313 ∧ k ≠ 1210 ∧ k ≠ 1124 ∧ k ≠ 1120) hcl ⟨rfl, fun k hk => ?_⟩ (fun k hk => ?_)
    · obtain ⟨q1, q2, q3, q4, q5⟩ := fa.2 k hk
      refine ⟨funext fun j => ?_, q2, q3, q4, q5⟩
      show (if k = 1104 then sSt σ s0 N j else if k = 1120 then F j else DI τ5 k j) = if k = 1104 then sSt σ s0 N j else DI σ k j
      rw [q1, if_neg hk.2.2.2]
    · show DA σ k = false
      exact h.2.2.2 k (by unfold tmpK; omega)
  have nx : DW g z mX12_settles 59 [(0, .ref 1000), (1, .ref 1313), (2, .ref 1124), (3, .ref 1120), (4, .int 0)] [] τ5 5 31 := by
    have k9 := ESe_2 hE hR hz2 h5 v5 t5 hG5 (fun υ g1 => ESe_t hE hR hz2 h5 v5 g1 fin)
    have e0 : DrI (DuS τ5 (DS τ5)) 1120 (duR s0 0) = τ5 := by
      show DrI τ5 1120 (duR s0 0) = τ5
      refine DrI_eq (fun j => ?_)
      have z0 : duR s0 0 j = 0 := by
        unfold duR
        rw [if_neg (Nat.not_lt_zero _)]
        split <;> rfl
      rw [z0, e5, Dnw_I, if_pos rfl]
    rw [e0] at k9
    exact k9
  have g0 := dk_f h2.1
  have g4 := dk_f h4.1
  have n11 : ¬ (11 : Int32) < 0 := by decide
  have hsp : DW g z mX12_settles 37 [(0, .ref 1000), (1, .ref 1313), (2, .int (nI N))] [] τ2 1 5 := by
    refine dvk_ok (nC := n + 4) DX12_settles hTyA hR (VC := [(307, 2, 11, oX11_target), (310, 1, 11, oX11_transferCount), (313, 3, 11, oX11_transfer), (316, 1, 11, oX11_settle)]) (VD := [(196, 1, 12, n + 0, 0, 1, 5, [1210], dX12_livers), (200, 4, 12, n + 1, 0, 2, 10, [1124, 1310], dX12_split)]) (SD := [(171, 2, 0, n + 0, 0, 0, 0, [], dJ9_max_7cf53), (176, 2, 0, n + 0, 0, 0, 0, [], dJ9_min_7cf53)]) (AL := []) (List.forall_mem_cons.mpr ⟨⟨mX11_target, n + 3, 1, TX11, 9, rfl, by omega, hX12_307, WX11_target, rfl, CX11_target g (n)⟩, (List.forall_mem_cons.mpr ⟨⟨mX11_transferCount, n + 4, 0, TX11, 9, rfl, by omega, hX12_310, WX11_transferCount, rfl, CX11_transferCount g (n)⟩, (List.forall_mem_cons.mpr ⟨⟨mX11_transfer, n + 4, 2, TX11, 9, rfl, by omega, hX12_313, WX11_transfer, rfl, CX11_transfer g (n)⟩, (List.forall_mem_cons.mpr ⟨⟨mX11_settle, n + 4, 0, TX11, 9, rfl, by omega, hX12_316, WX11_settle, rfl, CX11_settle g (n)⟩, (fun _ h => absurd h List.not_mem_nil)⟩)⟩)⟩)⟩) (List.forall_mem_cons.mpr ⟨⟨mX12_livers, 0, TX12, 25, rfl, by decide, hX12_196, WX12_livers, rfl, EX12_livers g _ n⟩, (List.forall_mem_cons.mpr ⟨⟨mX12_split, 3, TX12, 25, rfl, by decide, hX12_200, WX12_split, rfl, EX12_split g _ n⟩, (fun _ h => absurd h List.not_mem_nil)⟩)⟩) (List.forall_mem_cons.mpr ⟨⟨mJ9_max_7cf53, by decide, Or.inl hX12_171, WJ9_max_7cf53, EJ9_max_7cf53 g _ n⟩, (List.forall_mem_cons.mpr ⟨⟨mJ9_min_7cf53, by decide, Or.inl hX12_176, WJ9_min_7cf53, EJ9_min_7cf53 g _ n⟩, (fun _ h => absurd h List.not_mem_nil)⟩)⟩) [47] 20 _ _ _ _ _ _ ?_
    simp (maxSteps := 1000000) [↓Bool.cond_eq_ite, -Prod.forall, -Prod.exists, -Prod.mk.injEq, ↓jc_eq_t, ↓jc_eq_f, ↓jc_ne_t, ↓jc_ne_f, ↓jc_lt_t, ↓jc_lt_f, ↓jc_ge_t, ↓jc_ge_f, ↓jc_gt_t, ↓jc_gt_f, ↓jc_le_t, ↓jc_le_f, dvk, tX12_settles, jtb, jol, dvl, dal, dst, jlk, jcmp, jbin, jfl, qX12, jc2, qlX12, jcat, jel, lv_args, Value.category, jins, jsrt, jins2, jble, jblt, jf3, List.filter_cons, List.filter_nil, Dlo, Dnr, DnL, Dfree, Droom, DuS_S, DuS_I, DuS_L, DuS_R, DuS_N, DuS_A, DuI_S, DuI_I, DuI_L, DuI_R, DuI_N, DuI_A, DuL_S, DuL_I, DuL_L, DuL_R, DuL_N, DuL_A, DuR_S, DuR_I, DuR_L, DuR_R, DuR_N, DuR_A, Dnw_S, Dnw_I, Dnw_L, Dnw_R, Dnw_N, Dnw_A, DrI_S, DrI_I, DrI_L, DrI_R, DrI_N, DrI_A, DrJ_S, DrJ_I, DrJ_L, DrJ_R, DrJ_N, DrJ_A, dm64, G_d, G_x0, dJ9_max_7cf53, dX12_livers, dX12_split, oX11_target, oX11_transferCount, oX11_transfer, dJ9_min_7cf53, oX11_settle, doII, doR, doRIRR, joR, joRI, joRII, -Int32.not_le, -Int32.not_lt, -Int64.not_le, -Int64.not_lt, i3lt, i6lt, g0, eN, hz2, k2, l2, hl2, p1']
    try simp (disch := omega) [-Prod.forall, -Prod.exists, -Prod.mk.injEq, -Int32.not_le, -Int32.not_lt, -Int64.not_le, -Int64.not_lt, i3lt, i6lt, g0, eN, hz2, k2, l2, hl2, p1']
    rw [← e3]
    have g3 := dk_f h3.1
    refine dvk_ok (nC := n + 4) DX12_settles hTyA hR (VC := [(307, 2, 11, oX11_target), (310, 1, 11, oX11_transferCount), (313, 3, 11, oX11_transfer), (316, 1, 11, oX11_settle)]) (VD := [(196, 1, 12, n + 0, 0, 1, 5, [1210], dX12_livers), (200, 4, 12, n + 1, 0, 2, 10, [1124, 1310], dX12_split)]) (SD := [(171, 2, 0, n + 0, 0, 0, 0, [], dJ9_max_7cf53), (176, 2, 0, n + 0, 0, 0, 0, [], dJ9_min_7cf53)]) (AL := []) (List.forall_mem_cons.mpr ⟨⟨mX11_target, n + 3, 1, TX11, 9, rfl, by omega, hX12_307, WX11_target, rfl, CX11_target g (n)⟩, (List.forall_mem_cons.mpr ⟨⟨mX11_transferCount, n + 4, 0, TX11, 9, rfl, by omega, hX12_310, WX11_transferCount, rfl, CX11_transferCount g (n)⟩, (List.forall_mem_cons.mpr ⟨⟨mX11_transfer, n + 4, 2, TX11, 9, rfl, by omega, hX12_313, WX11_transfer, rfl, CX11_transfer g (n)⟩, (List.forall_mem_cons.mpr ⟨⟨mX11_settle, n + 4, 0, TX11, 9, rfl, by omega, hX12_316, WX11_settle, rfl, CX11_settle g (n)⟩, (fun _ h => absurd h List.not_mem_nil)⟩)⟩)⟩)⟩) (List.forall_mem_cons.mpr ⟨⟨mX12_livers, 0, TX12, 25, rfl, by decide, hX12_196, WX12_livers, rfl, EX12_livers g _ n⟩, (List.forall_mem_cons.mpr ⟨⟨mX12_split, 3, TX12, 25, rfl, by decide, hX12_200, WX12_split, rfl, EX12_split g _ n⟩, (fun _ h => absurd h List.not_mem_nil)⟩)⟩) (List.forall_mem_cons.mpr ⟨⟨mJ9_max_7cf53, by decide, Or.inl hX12_171, WJ9_max_7cf53, EJ9_max_7cf53 g _ n⟩, (List.forall_mem_cons.mpr ⟨⟨mJ9_min_7cf53, by decide, Or.inl hX12_176, WJ9_min_7cf53, EJ9_min_7cf53 g _ n⟩, (fun _ h => absurd h List.not_mem_nil)⟩)⟩) [50] 20 _ _ _ _ _ _ ?_
    simp (maxSteps := 1000000) [↓Bool.cond_eq_ite, -Prod.forall, -Prod.exists, -Prod.mk.injEq, ↓jc_eq_t, ↓jc_eq_f, ↓jc_ne_t, ↓jc_ne_f, ↓jc_lt_t, ↓jc_lt_f, ↓jc_ge_t, ↓jc_ge_f, ↓jc_gt_t, ↓jc_gt_f, ↓jc_le_t, ↓jc_le_f, dvk, tX12_settles, jtb, jol, dvl, dal, dst, jlk, jcmp, jbin, jfl, qX12, jc2, qlX12, jcat, jel, lv_args, Value.category, jins, jsrt, jins2, jble, jblt, jf3, List.filter_cons, List.filter_nil, Dlo, Dnr, DnL, Dfree, Droom, DuS_S, DuS_I, DuS_L, DuS_R, DuS_N, DuS_A, DuI_S, DuI_I, DuI_L, DuI_R, DuI_N, DuI_A, DuL_S, DuL_I, DuL_L, DuL_R, DuL_N, DuL_A, DuR_S, DuR_I, DuR_L, DuR_R, DuR_N, DuR_A, Dnw_S, Dnw_I, Dnw_L, Dnw_R, Dnw_N, Dnw_A, DrI_S, DrI_I, DrI_L, DrI_R, DrI_N, DrI_A, DrJ_S, DrJ_I, DrJ_L, DrJ_R, DrJ_N, DrJ_A, dm64, G_d, G_x0, dJ9_max_7cf53, dX12_livers, dX12_split, oX11_target, oX11_transferCount, oX11_transfer, dJ9_min_7cf53, oX11_settle, doII, doR, doRIRR, joR, joRI, joRII, -Int32.not_le, -Int32.not_lt, -Int64.not_le, -Int64.not_lt, i3lt, i6lt, g3, hz2, k3, k4, hpre]
    try simp (disch := omega) [-Prod.forall, -Prod.exists, -Prod.mk.injEq, -Int32.not_le, -Int32.not_lt, -Int64.not_le, -Int64.not_lt, i3lt, i6lt, g3, hz2, k3, k4, hpre]
    rw [← e4]
    refine dvk_ok (nC := n + 4) DX12_settles hTyA hR (VC := [(307, 2, 11, oX11_target), (310, 1, 11, oX11_transferCount), (313, 3, 11, oX11_transfer), (316, 1, 11, oX11_settle)]) (VD := [(196, 1, 12, n + 0, 0, 1, 5, [1210], dX12_livers), (200, 4, 12, n + 1, 0, 2, 10, [1124, 1310], dX12_split)]) (SD := [(171, 2, 0, n + 0, 0, 0, 0, [], dJ9_max_7cf53), (176, 2, 0, n + 0, 0, 0, 0, [], dJ9_min_7cf53)]) (AL := [(53, 1120, 11)]) (List.forall_mem_cons.mpr ⟨⟨mX11_target, n + 3, 1, TX11, 9, rfl, by omega, hX12_307, WX11_target, rfl, CX11_target g (n)⟩, (List.forall_mem_cons.mpr ⟨⟨mX11_transferCount, n + 4, 0, TX11, 9, rfl, by omega, hX12_310, WX11_transferCount, rfl, CX11_transferCount g (n)⟩, (List.forall_mem_cons.mpr ⟨⟨mX11_transfer, n + 4, 2, TX11, 9, rfl, by omega, hX12_313, WX11_transfer, rfl, CX11_transfer g (n)⟩, (List.forall_mem_cons.mpr ⟨⟨mX11_settle, n + 4, 0, TX11, 9, rfl, by omega, hX12_316, WX11_settle, rfl, CX11_settle g (n)⟩, (fun _ h => absurd h List.not_mem_nil)⟩)⟩)⟩)⟩) (List.forall_mem_cons.mpr ⟨⟨mX12_livers, 0, TX12, 25, rfl, by decide, hX12_196, WX12_livers, rfl, EX12_livers g _ n⟩, (List.forall_mem_cons.mpr ⟨⟨mX12_split, 3, TX12, 25, rfl, by decide, hX12_200, WX12_split, rfl, EX12_split g _ n⟩, (fun _ h => absurd h List.not_mem_nil)⟩)⟩) (List.forall_mem_cons.mpr ⟨⟨mJ9_max_7cf53, by decide, Or.inl hX12_171, WJ9_max_7cf53, EJ9_max_7cf53 g _ n⟩, (List.forall_mem_cons.mpr ⟨⟨mJ9_min_7cf53, by decide, Or.inl hX12_176, WJ9_min_7cf53, EJ9_min_7cf53 g _ n⟩, (fun _ h => absurd h List.not_mem_nil)⟩)⟩) [59] 20 _ _ _ _ _ _ ?_
    simp (maxSteps := 1000000) [↓Bool.cond_eq_ite, -Prod.forall, -Prod.exists, -Prod.mk.injEq, ↓jc_eq_t, ↓jc_eq_f, ↓jc_ne_t, ↓jc_ne_f, ↓jc_lt_t, ↓jc_lt_f, ↓jc_ge_t, ↓jc_ge_f, ↓jc_gt_t, ↓jc_gt_f, ↓jc_le_t, ↓jc_le_f, dvk, tX12_settles, jtb, jol, dvl, dal, dst, jlk, jcmp, jbin, jfl, qX12, jc2, qlX12, jcat, jel, lv_args, Value.category, jins, jsrt, jins2, jble, jblt, jf3, List.filter_cons, List.filter_nil, Dlo, Dnr, DnL, Dfree, Droom, DuS_S, DuS_I, DuS_L, DuS_R, DuS_N, DuS_A, DuI_S, DuI_I, DuI_L, DuI_R, DuI_N, DuI_A, DuL_S, DuL_I, DuL_L, DuL_R, DuL_N, DuL_A, DuR_S, DuR_I, DuR_L, DuR_R, DuR_N, DuR_A, Dnw_S, Dnw_I, Dnw_L, Dnw_R, Dnw_N, Dnw_A, DrI_S, DrI_I, DrI_L, DrI_R, DrI_N, DrI_A, DrJ_S, DrJ_I, DrJ_L, DrJ_R, DrJ_N, DrJ_A, dm64, G_d, G_x0, dJ9_max_7cf53, dX12_livers, dX12_split, oX11_target, oX11_transferCount, oX11_transfer, dJ9_min_7cf53, oX11_settle, doII, doR, doRIRR, joR, joRI, joRII, -Int32.not_le, -Int32.not_lt, -Int64.not_le, -Int64.not_lt, i3lt, i6lt, g4, hz2, k5, e1120, n11]
    try simp (disch := omega) [-Prod.forall, -Prod.exists, -Prod.mk.injEq, -Int32.not_le, -Int32.not_lt, -Int64.not_le, -Int64.not_lt, i3lt, i6lt, g4, hz2, k5, e1120, n11]
    rw [← e5]
    exact nx
  have lp := ESe_1 hE hR hz2 (s0 := s0) (σ := σ) (τ := τ1) (N := N) (M := M) (rDs_fr (fun k hk => by unfold dkI at hk; omega) f1 h.1).1 (fun j => by rw [(f1.2 1103 (by omega)).1]) (by rw [e1]; exact ⟨by rw [Dnw_A, if_pos rfl], by rw [Dnw_N, if_pos rfl]⟩) (by rw [← e2]; exact hsp)
  rw [e1, ← fillL_0] at lp
  refine dvk_ok (nC := n + 4) DX12_settles hTyA hR (VC := [(307, 2, 11, oX11_target), (310, 1, 11, oX11_transferCount), (313, 3, 11, oX11_transfer), (316, 1, 11, oX11_settle)]) (VD := [(196, 1, 12, n + 0, 0, 1, 5, [1210], dX12_livers), (200, 4, 12, n + 1, 0, 2, 10, [1124, 1310], dX12_split)]) (SD := [(171, 2, 0, n + 0, 0, 0, 0, [], dJ9_max_7cf53), (176, 2, 0, n + 0, 0, 0, 0, [], dJ9_min_7cf53)]) (AL := [(4, 1313, 5)]) (List.forall_mem_cons.mpr ⟨⟨mX11_target, n + 3, 1, TX11, 9, rfl, by omega, hX12_307, WX11_target, rfl, CX11_target g (n)⟩, (List.forall_mem_cons.mpr ⟨⟨mX11_transferCount, n + 4, 0, TX11, 9, rfl, by omega, hX12_310, WX11_transferCount, rfl, CX11_transferCount g (n)⟩, (List.forall_mem_cons.mpr ⟨⟨mX11_transfer, n + 4, 2, TX11, 9, rfl, by omega, hX12_313, WX11_transfer, rfl, CX11_transfer g (n)⟩, (List.forall_mem_cons.mpr ⟨⟨mX11_settle, n + 4, 0, TX11, 9, rfl, by omega, hX12_316, WX11_settle, rfl, CX11_settle g (n)⟩, (fun _ h => absurd h List.not_mem_nil)⟩)⟩)⟩)⟩) (List.forall_mem_cons.mpr ⟨⟨mX12_livers, 0, TX12, 25, rfl, by decide, hX12_196, WX12_livers, rfl, EX12_livers g _ n⟩, (List.forall_mem_cons.mpr ⟨⟨mX12_split, 3, TX12, 25, rfl, by decide, hX12_200, WX12_split, rfl, EX12_split g _ n⟩, (fun _ h => absurd h List.not_mem_nil)⟩)⟩) (List.forall_mem_cons.mpr ⟨⟨mJ9_max_7cf53, by decide, Or.inl hX12_171, WJ9_max_7cf53, EJ9_max_7cf53 g _ n⟩, (List.forall_mem_cons.mpr ⟨⟨mJ9_min_7cf53, by decide, Or.inl hX12_176, WJ9_min_7cf53, EJ9_min_7cf53 g _ n⟩, (fun _ h => absurd h List.not_mem_nil)⟩)⟩) [9] 20 _ _ _ _ _ _ ?_
  simp (maxSteps := 1000000) [↓Bool.cond_eq_ite, -Prod.forall, -Prod.exists, -Prod.mk.injEq, ↓jc_eq_t, ↓jc_eq_f, ↓jc_ne_t, ↓jc_ne_f, ↓jc_lt_t, ↓jc_lt_f, ↓jc_ge_t, ↓jc_ge_f, ↓jc_gt_t, ↓jc_gt_f, ↓jc_le_t, ↓jc_le_f, dvk, tX12_settles, jtb, jol, dvl, dal, dst, jlk, jcmp, jbin, jfl, qX12, jc2, qlX12, jcat, jel, lv_args, Value.category, jins, jsrt, jins2, jble, jblt, jf3, List.filter_cons, List.filter_nil, Dlo, Dnr, DnL, Dfree, Droom, DuS_S, DuS_I, DuS_L, DuS_R, DuS_N, DuS_A, DuI_S, DuI_I, DuI_L, DuI_R, DuI_N, DuI_A, DuL_S, DuL_I, DuL_L, DuL_R, DuL_N, DuL_A, DuR_S, DuR_I, DuR_L, DuR_R, DuR_N, DuR_A, Dnw_S, Dnw_I, Dnw_L, Dnw_R, Dnw_N, Dnw_A, DrI_S, DrI_I, DrI_L, DrI_R, DrI_N, DrI_A, DrJ_S, DrJ_I, DrJ_L, DrJ_R, DrJ_N, DrJ_A, dm64, G_d, G_x0, dJ9_max_7cf53, dX12_livers, dX12_split, oX11_target, oX11_transferCount, oX11_transfer, dJ9_min_7cf53, oX11_settle, doII, doR, doRIRR, joR, joRI, joRII, -Int32.not_le, -Int32.not_lt, -Int64.not_le, -Int64.not_lt, i3lt, i6lt, hf, d1, eN, hn0, hN, k1, hz2]
  try simp (disch := omega) [-Prod.forall, -Prod.exists, -Prod.mk.injEq, -Int32.not_le, -Int32.not_lt, -Int64.not_le, -Int64.not_lt, i3lt, i6lt, hf, d1, eN, hn0, hN, k1, hz2]
  exact lp
