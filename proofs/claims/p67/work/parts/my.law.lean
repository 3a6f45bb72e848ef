/-! the law's Desk.<init>: its text: a value, whole -/
section EMY
variable {g : jG} {z : dZ} {k : Nat} {R : Option Value → dM → Nat → Nat → Prop}
theorem in_yes {σ : dM} {f : Nat → Nat} {q w p r v N M c0 s0 : Nat} {y3 y5 : Int32} (hR : dRok g z mX12_init R) (hT : dEt g z.2.2.2.2) (hz : k + 6 ≤ z.1.frames ∧ 64 * (k + 6) ≤ z.1.locals ∧ c0 + 12 ≤ z.1.cells ∧ s0 + 4248 ≤ z.1.slots) (hkp : ixH z) (h : ixS σ q f w) (hG : ixG σ) (hd : dk σ N M) (hp : p < N) (hr9 : r < M) (hrf : DI σ (1200 + p) r = 0) (hv : DI σ (1110 + p) r = nI v) (hv9 : v < 10000) (hw : w + vaN false v ≤ 300)
    (kk : ∀ τ, tfr (fun k => ¬ ixK k) σ τ → dk τ N M → ixS τ 1700 (vaT f w false v) (w + vaN false v) → DW g z mX12_init 486 [(0, .ref 1000), (1, .ref 380), (2, .ref 1700), (3, .int y3), (4, .int (nI p)), (5, .int y5), (6, .int (nI r))] [] τ (c0 + 12) (s0 + 4248)) : DW g z mX12_init 422 [(0, .ref 1000), (1, .ref 380), (2, .ref q), (3, .int y3), (4, .int (nI p)), (5, .int y5), (6, .int (nI r))] [] σ c0 s0 := by
  have hE := hT.1
  have n := k
  have vn : vaN false v = 1 + sb_dg v := rfl
  have vt : vaT f w false v = tcat (tcat (fun _ => 0) 0 f) w (tcat (tcat (fun _ => 0) 0 (stN 20)) 1 (sb_dec v)) := rfl
  rw [vn] at hw kk
  rw [vt] at kk
  obtain ⟨hq, ht, hQ, hA, hB⟩ := id h
  obtain ⟨⟨hk1, hk2, hk3⟩, hk4, hk5⟩ := id hkp
  have q1 : ¬ q = 1800 ∧ ¬ q = 1600 ∧ ¬ q = 1601 ∧ ¬ q = 1701 ∧ ¬ q = 1611 ∧ ¬ q = 1610 := by omega
  have hN := hd.1.1.2
  have hM := hd.1.2.2
  have hg4 := (sbdg4 hv9).2
  refine dr_nsb (k := k) (j1 := 78) (idx := 80) hT ⟨by omega, by omega, by omega, by omega⟩ ⟨hk1.1, hk1.2.1⟩ hA hQ (by simp [DnL, q1]) (by simp [Dnr]) (by simp) (jGw_of 741 (by decide +kernel) (by decide +kernel)) hX12_80 (by decide +kernel) (by decide +kernel) (by decide +kernel) (fun τ1 h1 => ?_)
  refine dvk_ok (nC := n + 10) DX12_init_d hTyA hR (VC := [(131, 2, 11, oX11_load)]) (VD := []) (SD := [(33, 2, 0, n + 0, 0, 0, 0, [], dL_mod)]) (AL := []) (List.forall_mem_cons.mpr ⟨⟨mX11_load, n + 10, 1, TX11, 9, rfl, by omega, hX12_131, WX11_load, rfl, CX11_load g (n) hE.1⟩, (fun _ h => absurd h List.not_mem_nil)⟩) (fun _ h => absurd h List.not_mem_nil) (List.forall_mem_cons.mpr ⟨⟨mL_mod, by decide, Or.inr ⟨_, hX12_33⟩, WL_mod, EL_mod g _ n⟩, (fun _ h => absurd h List.not_mem_nil)⟩) [430] 10 _ _ _ _ _ _ ?_
  simp (maxSteps := 1000000) [↓Bool.cond_eq_ite, -Prod.forall, -Prod.exists, -Prod.mk.injEq, ↓jc_eq_t, ↓jc_eq_f, ↓jc_ne_t, ↓jc_ne_f, ↓jc_lt_t, ↓jc_lt_f, ↓jc_ge_t, ↓jc_ge_f, ↓jc_gt_t, ↓jc_gt_f, ↓jc_le_t, ↓jc_le_f, dvk, tX12_init_d, jtb, jol, dvl, dal, dst, jlk, jcmp, jbin, jfl, qX12, jc2, qlX12, jcat, jel, lv_args, Value.category, jins, jsrt, jins2, jble, jblt, jf3, List.filter_cons, List.filter_nil, Dlo, Dnr, DnL, Dfree, Droom, DuS_S, DuS_I, DuS_L, DuS_R, DuS_N, DuS_A, DuI_S, DuI_I, DuI_L, DuI_R, DuI_N, DuI_A, DuL_S, DuL_I, DuL_L, DuL_R, DuL_N, DuL_A, DuR_S, DuR_I, DuR_L, DuR_R, DuR_N, DuR_A, Dnw_S, Dnw_I, Dnw_L, Dnw_R, Dnw_N, Dnw_A, DrI_S, DrI_I, DrI_L, DrI_R, DrI_N, DrI_A, DrJ_S, DrJ_I, DrJ_L, DrJ_R, DrJ_N, DrJ_A, dm64, G_d, G_x0, dL_mod, oX11_load, doII, joRI, -Int32.not_le, -Int32.not_lt, -Int64.not_le, -Int64.not_lt, i3lt, i6lt]
  try simp (disch := omega) [-Prod.forall, -Prod.exists, -Prod.mk.injEq, -Int32.not_le, -Int32.not_lt, -Int64.not_le, -Int64.not_lt, i3lt, i6lt]
  refine dr_apS (k := k) (idx := 81) hT ⟨by omega, by omega, by omega, by omega⟩ hk1.2 (by simp [DnL, q1]) (by simp [Dnr]) (by simp) (h1 (fun _ => 0)) ht (by omega) hX12_81 (by decide +kernel) (fun τ2 h2 => ?_)
  rw [Nat.zero_add] at h2
  have hd2 : dk τ2 N M := dk_tfr (fun k hk => (dkI_x hk).2) h2.2 hd
  have hf := dk_f hd2
  have hrr := dk_r hd2 hp
  have hr0 := dk_r hd hp
  have hv2 : DI τ2 (1200 + p) r = 0 := by
    have := ((h2.2.2 (1200 + p) (by omega)).2 (by omega) (by omega) hr0.2.1).1
    rw [this]
    exact hrf
  have hv3 : DI τ2 (1110 + p) r = nI v := by
    have := ((h2.2.2 (1110 + p) (by omega)).2 (by omega) (by omega) (dk_v hd hp).2.1).1
    rw [this]
    exact hv
  have jp : jin (nI p) N := jinN hp (by omega)
  have ep : (nI p).toNatClampNeg = p := nI_clamp (by omega)
  have jr : jin (nI r) M := jinN hr9 (by omega)
  have er : (nI r).toNatClampNeg = r := nI_clamp (by omega)
  refine dvk_ok (nC := n + 10) DX12_init_d hTyA hR (VC := [(131, 2, 11, oX11_load)]) (VD := []) (SD := [(33, 2, 0, n + 0, 0, 0, 0, [], dL_mod)]) (AL := []) (List.forall_mem_cons.mpr ⟨⟨mX11_load, n + 10, 1, TX11, 9, rfl, by omega, hX12_131, WX11_load, rfl, CX11_load g (n) hE.1⟩, (fun _ h => absurd h List.not_mem_nil)⟩) (fun _ h => absurd h List.not_mem_nil) (List.forall_mem_cons.mpr ⟨⟨mL_mod, by decide, Or.inr ⟨_, hX12_33⟩, WL_mod, EL_mod g _ n⟩, (fun _ h => absurd h List.not_mem_nil)⟩) [451] 10 _ _ _ _ _ _ ?_
  simp (maxSteps := 1000000) [↓Bool.cond_eq_ite, -Prod.forall, -Prod.exists, -Prod.mk.injEq, ↓jc_eq_t, ↓jc_eq_f, ↓jc_ne_t, ↓jc_ne_f, ↓jc_lt_t, ↓jc_lt_f, ↓jc_ge_t, ↓jc_ge_f, ↓jc_gt_t, ↓jc_gt_f, ↓jc_le_t, ↓jc_le_f, dvk, tX12_init_d, jtb, jol, dvl, dal, dst, jlk, jcmp, jbin, jfl, qX12, jc2, qlX12, jcat, jel, lv_args, Value.category, jins, jsrt, jins2, jble, jblt, jf3, List.filter_cons, List.filter_nil, Dlo, Dnr, DnL, Dfree, Droom, DuS_S, DuS_I, DuS_L, DuS_R, DuS_N, DuS_A, DuI_S, DuI_I, DuI_L, DuI_R, DuI_N, DuI_A, DuL_S, DuL_I, DuL_L, DuL_R, DuL_N, DuL_A, DuR_S, DuR_I, DuR_L, DuR_R, DuR_N, DuR_A, Dnw_S, Dnw_I, Dnw_L, Dnw_R, Dnw_N, Dnw_A, DrI_S, DrI_I, DrI_L, DrI_R, DrI_N, DrI_A, DrJ_S, DrJ_I, DrJ_L, DrJ_R, DrJ_N, DrJ_A, dm64, G_d, G_x0, dL_mod, oX11_load, doII, joRI, -Int32.not_le, -Int32.not_lt, -Int64.not_le, -Int64.not_lt, i3lt, i6lt, hf, hrr, hv2, jp, ep, jr, er, G_d]
  try simp (disch := omega) [-Prod.forall, -Prod.exists, -Prod.mk.injEq, -Int32.not_le, -Int32.not_lt, -Int64.not_le, -Int64.not_lt, i3lt, i6lt, hf, hrr, hv2, jp, ep, jr, er, G_d]
  have F2 : ∀ k, k = 1701 ∨ k = 1611 → DA σ k = false → DA τ2 k = false := fun k hk e => (h2.2.2 k (by omega)).1.trans e
  refine in_yes2 (k := k) (f := tcat (fun _ => 0) 0 f) (w := w) (v := v) hR hT ⟨by omega, by omega, by omega, by omega⟩ hkp (by omega) h2.1 ⟨F2 1701 (Or.inl rfl) hB.1, F2 1611 (Or.inr rfl) hB.2⟩ hd2 hp hr9 hv3 hv9 (fun υ v1 v2 v3 v4 v5 => ?_)
  refine dr_apS (k := k) (idx := 81) (σ := υ) hT ⟨by omega, by omega, by omega, by omega⟩ hk1.2 (by simp [DnL, q1]) (by simp [Dnr]) (by simp) ⟨v2, tfr.rfl⟩ ⟨by omega, Or.inr (Or.inr (Or.inl ⟨rfl, v3⟩))⟩ (by omega) hX12_81 (by decide +kernel) (fun τ5 h5 => ?_)
  refine dr_toS (k := k) (idx := 92) hT ⟨by omega, by omega, by omega, by omega⟩ hk2 (by simp [DnL, q1]) (by simp [Dnr]) (by simp) h5 v5 hX12_92 (by decide +kernel) (fun τ6 u1 u2 u3 u4 => ?_)
  refine dvk_ok (nC := n + 10) DX12_init_d hTyA hR (VC := [(131, 2, 11, oX11_load)]) (VD := []) (SD := [(33, 2, 0, n + 0, 0, 0, 0, [], dL_mod)]) (AL := []) (List.forall_mem_cons.mpr ⟨⟨mX11_load, n + 10, 1, TX11, 9, rfl, by omega, hX12_131, WX11_load, rfl, CX11_load g (n) hE.1⟩, (fun _ h => absurd h List.not_mem_nil)⟩) (fun _ h => absurd h List.not_mem_nil) (List.forall_mem_cons.mpr ⟨⟨mL_mod, by decide, Or.inr ⟨_, hX12_33⟩, WL_mod, EL_mod g _ n⟩, (fun _ h => absurd h List.not_mem_nil)⟩) [486] 10 _ _ _ _ _ _ ?_
  simp (maxSteps := 1000000) [↓Bool.cond_eq_ite, -Prod.forall, -Prod.exists, -Prod.mk.injEq, ↓jc_eq_t, ↓jc_eq_f, ↓jc_ne_t, ↓jc_ne_f, ↓jc_lt_t, ↓jc_lt_f, ↓jc_ge_t, ↓jc_ge_f, ↓jc_gt_t, ↓jc_gt_f, ↓jc_le_t, ↓jc_le_f, dvk, tX12_init_d, jtb, jol, dvl, dal, dst, jlk, jcmp, jbin, jfl, qX12, jc2, qlX12, jcat, jel, lv_args, Value.category, jins, jsrt, jins2, jble, jblt, jf3, List.filter_cons, List.filter_nil, Dlo, Dnr, DnL, Dfree, Droom, DuS_S, DuS_I, DuS_L, DuS_R, DuS_N, DuS_A, DuI_S, DuI_I, DuI_L, DuI_R, DuI_N, DuI_A, DuL_S, DuL_I, DuL_L, DuL_R, DuL_N, DuL_A, DuR_S, DuR_I, DuR_L, DuR_R, DuR_N, DuR_A, Dnw_S, Dnw_I, Dnw_L, Dnw_R, Dnw_N, Dnw_A, DrI_S, DrI_I, DrI_L, DrI_R, DrI_N, DrI_A, DrJ_S, DrJ_I, DrJ_L, DrJ_R, DrJ_N, DrJ_A, dm64, G_d, G_x0, dL_mod, oX11_load, doII, joRI, -Int32.not_le, -Int32.not_lt, -Int64.not_le, -Int64.not_lt, i3lt, i6lt]
  try simp (disch := omega) [-Prod.forall, -Prod.exists, -Prod.mk.injEq, -Int32.not_le, -Int32.not_lt, -Int64.not_le, -Int64.not_lt, i3lt, i6lt]
  obtain ⟨x1, x2⟩ := ix_en2 hG (by omega) u1 (((h2.2.weak (fun k hk => by omega)).tr v1).tr (u2.weak (fun k hk => by omega))) u3 ⟨u4, (u2.2 1803 (by omega)).1.trans v4.1, (u2.2 1603 (by omega)).1.trans v4.2⟩
  have hs0 : (1700 = 1700 ∧ (1610 : Nat) = 1610) ∨ ((1700 : Nat) = 1702 ∧ (1610 : Nat) = 1612) := Or.inl ⟨rfl, rfl⟩
  refine DW_txMv (s := 1700) (r := 1610) hs0 u3 u1 hk3 (by simp [DnL]) (by simp [DnL, DrL, Drv]) ?_
  refine DW_dpU (txMv_ok hs0 u3 u1).2.1 ?_
  exact DW.wide (c1 := c0 + 12) (s1 := s0 + 4248) (by omega) (by omega) (kk _ x2 (dk_tfr (fun k hk => (dkI_x hk).1) x2 hd) x1)
theorem in_val {σ : dM} {f : Nat → Nat} {q w p r v N M c0 s0 : Nat} {y3 y5 : Int32} {rf : Bool} (hR : dRok g z mX12_init R) (hT : dEt g z.2.2.2.2) (hz : k + 6 ≤ z.1.frames ∧ 64 * (k + 6) ≤ z.1.locals ∧ c0 + 12 ≤ z.1.cells ∧ s0 + 4248 ≤ z.1.slots) (hkp : ixH z) (h : ixS σ q f w) (hG : ixG σ) (hd : dk σ N M) (hp : p < N) (hr9 : r < M) (hrf : DI σ (1200 + p) r = if rf = true then 1 else 0) (hv : DI σ (1110 + p) r = nI v) (hv9 : v < 10000) (hw : w + vaN rf v ≤ 300)
    (kk : ∀ τ, tfr (fun k => ¬ ixK k) σ τ → dk τ N M → ixS τ 1700 (vaT f w rf v) (w + vaN rf v) → DW g z mX12_init 486 [(0, .ref 1000), (1, .ref 380), (2, .ref 1700), (3, .int y3), (4, .int (nI p)), (5, .int y5), (6, .int (nI r))] [] τ (c0 + 12) (s0 + 4248)) : DW g z mX12_init 422 [(0, .ref 1000), (1, .ref 380), (2, .ref q), (3, .int y3), (4, .int (nI p)), (5, .int y5), (6, .int (nI r))] [] σ c0 s0 := by
  cases rf with
  | true => exact in_no (k := k) hR hT hz hkp.1 h hd hp hr9 hrf hw kk
  | false => exact in_yes (k := k) hR hT hz hkp h hG hd hp hr9 hrf hv hv9 hw kk
end EMY
