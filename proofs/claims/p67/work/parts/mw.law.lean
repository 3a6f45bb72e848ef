/-! the law's Desk.<init>: its text: a value that is refused -/
theorem sbH_fr {P : Nat → Prop} {σ τ : dM} {s r n m : Nat} {f : Nat → Nat} (hs : P s) (hr : P r) (b : 1000 ≤ s ∧ s < 2100 ∧ 1000 ≤ r ∧ r < 2100) (hf : tfr P σ τ) (h : sbH σ s r f n m) : sbH τ s r f n m := by
  obtain ⟨⟨h1, h2, h3, h4⟩, ⟨h5, h6⟩, h7, h8⟩ := h
  obtain ⟨a1, a2⟩ := hf.2 s hs
  obtain ⟨b1, b2⟩ := hf.2 r hr
  obtain ⟨a3, -, a5, -⟩ := a2 b.1 b.2.1 h1
  obtain ⟨b3, -, -, b6⟩ := b2 b.2.2.1 b.2.2.2 h5
  exact ⟨⟨a1.trans h1, by rw [a5]; exact h2, by rw [a3]; exact h3, by rw [a3]; exact h4⟩, ⟨b1.trans h5, b6.trans h6⟩, h7, txB_of h8 b3⟩
/-- what stands aside isn't there -/
def ixG (σ : dM) : Prop := (DA σ 1702 = false ∧ DA σ 1612 = false) ∧ DA σ 1803 = false ∧ DA σ 1603 = false
def ixH (z : dZ) : Prop := ixF z ∧ (z.2.2.1 1702 = false ∧ z.2.2.1 1612 = false) ∧ z.2.2.1 1803 = false ∧ z.2.2.1 1603 = false
theorem ixG_fr {σ τ : dM} (f : tfr (fun k => ¬ ixK k) σ τ) (h : ixG σ) : ixG τ := by
  have g : ∀ k, ¬ ixK k → DA σ k = false → DA τ k = false := fun k hk e => (f.2 k hk).1.trans e
  obtain ⟨⟨h1, h2⟩, h3, h4⟩ := h
  exact ⟨⟨g 1702 (by unfold ixK; omega) h1, g 1612 (by unfold ixK; omega) h2⟩, g 1803 (by unfold ixK; omega) h3, g 1603 (by unfold ixK; omega) h4⟩
def vaT (f : Nat → Nat) (w : Nat) (rf : Bool) (v : Nat) : Nat → Nat := tcat (tcat (fun _ => 0) 0 f) w (if rf = true then stN 21 else tcat (tcat (fun _ => 0) 0 (stN 20)) 1 (sb_dec v))
def vaN (rf : Bool) (v : Nat) : Nat := if rf = true then 3 else 1 + sb_dg v
section EMW
variable {g : jG} {z : dZ} {k : Nat} {R : Option Value → dM → Nat → Nat → Prop}
theorem in_no {σ : dM} {f : Nat → Nat} {q w p r v N M c0 s0 : Nat} {y3 y5 : Int32} (hR : dRok g z mX12_init R) (hT : dEt g z.2.2.2.2) (hz : k + 6 ≤ z.1.frames ∧ 64 * (k + 6) ≤ z.1.locals ∧ c0 + 12 ≤ z.1.cells ∧ s0 + 4248 ≤ z.1.slots) (hkp : ixF z) (h : ixS σ q f w) (hd : dk σ N M) (hp : p < N) (hr9 : r < M) (hrf : DI σ (1200 + p) r = 1) (hw : w + vaN true v ≤ 300)
    (kk : ∀ τ, tfr (fun k => ¬ ixK k) σ τ → dk τ N M → ixS τ 1700 (vaT f w true v) (w + vaN true v) → DW g z mX12_init 486 [(0, .ref 1000), (1, .ref 380), (2, .ref 1700), (3, .int y3), (4, .int (nI p)), (5, .int y5), (6, .int (nI r))] [] τ (c0 + 12) (s0 + 4248)) : DW g z mX12_init 422 [(0, .ref 1000), (1, .ref 380), (2, .ref q), (3, .int y3), (4, .int (nI p)), (5, .int y5), (6, .int (nI r))] [] σ c0 s0 := by
  have hE := hT.1
  have n := k
  have vn : vaN true v = 3 := rfl
  rw [vn] at hw kk
  obtain ⟨hq, ht, hQ, hA, hB⟩ := id h
  obtain ⟨hk1, hk2, hk3⟩ := hkp
  have q1 : ¬ q = 1800 ∧ ¬ q = 1600 ∧ ¬ q = 1601 ∧ ¬ q = 1701 ∧ ¬ q = 1611 ∧ ¬ q = 1610 := by omega
  have hN := hd.1.1.2
  have hM := hd.1.2.2
  refine dr_nsb (k := k) (j1 := 78) (idx := 80) hT ⟨by omega, by omega, by omega, by omega⟩ ⟨hk1.1, hk1.2.1⟩ hA hQ (by simp [DnL, q1]) (by simp [Dnr]) (by simp) (jGw_of 741 (by decide +kernel) (by decide +kernel)) hX12_80 (by decide +kernel) (by decide +kernel) (by decide +kernel) (fun τ1 h1 => ?_)
  refine dvk_ok (nC := n + 10) DX12_init_d hTyA hR (VC := [(131, 2, 11, oX11_load)]) (VD := []) (SD := [(33, 2, 0, n + 0, 0, 0, 0, [], dL_mod)]) (AL := []) (List.forall_mem_cons.mpr ⟨⟨mX11_load, n + 10, 1, TX11, 9, rfl, by omega, hX12_131, WX11_load, rfl, CX11_load g (n) hE.1⟩, (fun _ h => absurd h List.not_mem_nil)⟩) (fun _ h => absurd h List.not_mem_nil) (List.forall_mem_cons.mpr ⟨⟨mL_mod, by decide, Or.inr ⟨_, hX12_33⟩, WL_mod, EL_mod g _ n⟩, (fun _ h => absurd h List.not_mem_nil)⟩) [430] 10 _ _ _ _ _ _ ?_
  simp (maxSteps := 1000000) [↓Bool.cond_eq_ite, -Prod.forall, -Prod.exists, -Prod.mk.injEq, ↓jc_eq_t, ↓jc_eq_f, ↓jc_ne_t, ↓jc_ne_f, ↓jc_lt_t, ↓jc_lt_f, ↓jc_ge_t, ↓jc_ge_f, ↓jc_gt_t, ↓jc_gt_f, ↓jc_le_t, ↓jc_le_f, dvk, tX12_init_d, jtb, jol, dvl, dal, dst, jlk, jcmp, jbin, jfl, qX12, jc2, qlX12, jcat, jel, lv_args, Value.category, jins, jsrt, jins2, jble, jblt, jf3, List.filter_cons, List.filter_nil, Dlo, Dnr, DnL, Dfree, Droom, DuS_S, DuS_I, DuS_L, DuS_R, DuS_N, DuS_A, DuI_S, DuI_I, DuI_L, DuI_R, DuI_N, DuI_A, DuL_S, DuL_I, DuL_L, DuL_R, DuL_N, DuL_A, DuR_S, DuR_I, DuR_L, DuR_R, DuR_N, DuR_A, Dnw_S, Dnw_I, Dnw_L, Dnw_R, Dnw_N, Dnw_A, DrI_S, DrI_I, DrI_L, DrI_R, DrI_N, DrI_A, DrJ_S, DrJ_I, DrJ_L, DrJ_R, DrJ_N, DrJ_A, dm64, G_d, G_x0, dL_mod, oX11_load, doII, joRI, -Int32.not_le, -Int32.not_lt, -Int64.not_le, -Int64.not_lt, i3lt, i6lt]
  try simp (disch := omega) [-Prod.forall, -Prod.exists, -Prod.mk.injEq, -Int32.not_le, -Int32.not_lt, -Int64.not_le, -Int64.not_lt, i3lt, i6lt]
  refine dr_apS (k := k) (idx := 81) hT ⟨by omega, by omega, by omega, by omega⟩ hk1.2 (by simp [DnL, q1]) (by simp [Dnr]) (by simp) (h1 (fun _ => 0)) ht (by omega) hX12_81 (by decide +kernel) (fun τ2 h2 => ?_)
  rw [Nat.zero_add] at h2
  have hd2 : dk τ2 N M := dk_tfr (fun k hk => (dkI_x hk).2) h2.2 hd
  have hf := dk_f hd2
  have hrr := dk_r hd2 hp
  have hr0 := dk_r hd hp
  have hv2 : DI τ2 (1200 + p) r = 1 := by
    have := ((h2.2.2 (1200 + p) (by omega)).2 (by omega) (by omega) hr0.2.1).1
    rw [this]
    exact hrf
  have jp : jin (nI p) N := jinN hp (by omega)
  have ep : (nI p).toNatClampNeg = p := nI_clamp (by omega)
  have jr : jin (nI r) M := jinN hr9 (by omega)
  have er : (nI r).toNatClampNeg = r := nI_clamp (by omega)
  have c1 := c1_n0
  refine dvk_ok (nC := n + 10) DX12_init_d hTyA hR (VC := [(131, 2, 11, oX11_load)]) (VD := []) (SD := [(33, 2, 0, n + 0, 0, 0, 0, [], dL_mod)]) (AL := []) (List.forall_mem_cons.mpr ⟨⟨mX11_load, n + 10, 1, TX11, 9, rfl, by omega, hX12_131, WX11_load, rfl, CX11_load g (n) hE.1⟩, (fun _ h => absurd h List.not_mem_nil)⟩) (fun _ h => absurd h List.not_mem_nil) (List.forall_mem_cons.mpr ⟨⟨mL_mod, by decide, Or.inr ⟨_, hX12_33⟩, WL_mod, EL_mod g _ n⟩, (fun _ h => absurd h List.not_mem_nil)⟩) [446] 10 _ _ _ _ _ _ ?_
  simp (maxSteps := 1000000) [↓Bool.cond_eq_ite, -Prod.forall, -Prod.exists, -Prod.mk.injEq, ↓jc_eq_t, ↓jc_eq_f, ↓jc_ne_t, ↓jc_ne_f, ↓jc_lt_t, ↓jc_lt_f, ↓jc_ge_t, ↓jc_ge_f, ↓jc_gt_t, ↓jc_gt_f, ↓jc_le_t, ↓jc_le_f, dvk, tX12_init_d, jtb, jol, dvl, dal, dst, jlk, jcmp, jbin, jfl, qX12, jc2, qlX12, jcat, jel, lv_args, Value.category, jins, jsrt, jins2, jble, jblt, jf3, List.filter_cons, List.filter_nil, Dlo, Dnr, DnL, Dfree, Droom, DuS_S, DuS_I, DuS_L, DuS_R, DuS_N, DuS_A, DuI_S, DuI_I, DuI_L, DuI_R, DuI_N, DuI_A, DuL_S, DuL_I, DuL_L, DuL_R, DuL_N, DuL_A, DuR_S, DuR_I, DuR_L, DuR_R, DuR_N, DuR_A, Dnw_S, Dnw_I, Dnw_L, Dnw_R, Dnw_N, Dnw_A, DrI_S, DrI_I, DrI_L, DrI_R, DrI_N, DrI_A, DrJ_S, DrJ_I, DrJ_L, DrJ_R, DrJ_N, DrJ_A, dm64, G_d, G_x0, dL_mod, oX11_load, doII, joRI, -Int32.not_le, -Int32.not_lt, -Int64.not_le, -Int64.not_lt, i3lt, i6lt, hf, hrr, hv2, jp, ep, jr, er, c1, G_d]
  try simp (disch := omega) [-Prod.forall, -Prod.exists, -Prod.mk.injEq, -Int32.not_le, -Int32.not_lt, -Int64.not_le, -Int64.not_lt, i3lt, i6lt, hf, hrr, hv2, jp, ep, jr, er, c1, G_d]
  refine dr_ldcS (q := 375) (by decide) (ldc_X hT (i := 21) (by decide)) (by decide +kernel) ?_
  refine dvk_ok (nC := n + 10) DX12_init_d hTyA hR (VC := [(131, 2, 11, oX11_load)]) (VD := []) (SD := [(33, 2, 0, n + 0, 0, 0, 0, [], dL_mod)]) (AL := []) (List.forall_mem_cons.mpr ⟨⟨mX11_load, n + 10, 1, TX11, 9, rfl, by omega, hX12_131, WX11_load, rfl, CX11_load g (n) hE.1⟩, (fun _ h => absurd h List.not_mem_nil)⟩) (fun _ h => absurd h List.not_mem_nil) (List.forall_mem_cons.mpr ⟨⟨mL_mod, by decide, Or.inr ⟨_, hX12_33⟩, WL_mod, EL_mod g _ n⟩, (fun _ h => absurd h List.not_mem_nil)⟩) [479] 10 _ _ _ _ _ _ ?_
  simp (maxSteps := 1000000) [↓Bool.cond_eq_ite, -Prod.forall, -Prod.exists, -Prod.mk.injEq, ↓jc_eq_t, ↓jc_eq_f, ↓jc_ne_t, ↓jc_ne_f, ↓jc_lt_t, ↓jc_lt_f, ↓jc_ge_t, ↓jc_ge_f, ↓jc_gt_t, ↓jc_gt_f, ↓jc_le_t, ↓jc_le_f, dvk, tX12_init_d, jtb, jol, dvl, dal, dst, jlk, jcmp, jbin, jfl, qX12, jc2, qlX12, jcat, jel, lv_args, Value.category, jins, jsrt, jins2, jble, jblt, jf3, List.filter_cons, List.filter_nil, Dlo, Dnr, DnL, Dfree, Droom, DuS_S, DuS_I, DuS_L, DuS_R, DuS_N, DuS_A, DuI_S, DuI_I, DuI_L, DuI_R, DuI_N, DuI_A, DuL_S, DuL_I, DuL_L, DuL_R, DuL_N, DuL_A, DuR_S, DuR_I, DuR_L, DuR_R, DuR_N, DuR_A, Dnw_S, Dnw_I, Dnw_L, Dnw_R, Dnw_N, Dnw_A, DrI_S, DrI_I, DrI_L, DrI_R, DrI_N, DrI_A, DrJ_S, DrJ_I, DrJ_L, DrJ_R, DrJ_N, DrJ_A, dm64, G_d, G_x0, dL_mod, oX11_load, doII, joRI, -Int32.not_le, -Int32.not_lt, -Int64.not_le, -Int64.not_lt, i3lt, i6lt]
  try simp (disch := omega) [-Prod.forall, -Prod.exists, -Prod.mk.injEq, -Int32.not_le, -Int32.not_lt, -Int64.not_le, -Int64.not_lt, i3lt, i6lt]
  refine dr_apS (k := k) (idx := 81) hT ⟨by omega, by omega, by omega, by omega⟩ hk1.2 (by simp [DnL, q1]) (by simp [Dnr]) (by simp) h2 (txt_c σ (i := 21) (by decide)) (by rw [show sLn 21 = 3 by decide]; omega) hX12_81 (by decide +kernel) (fun τ5 h5 => ?_)
  rw [show sLn 21 = 3 by decide] at h5
  refine dr_toS (k := k) (idx := 92) hT ⟨by omega, by omega, by omega, by omega⟩ hk2 (by simp [DnL, q1]) (by simp [Dnr]) (by simp) h5 hB hX12_92 (by decide +kernel) (fun τ6 u1 u2 u3 u4 => ?_)
  refine dvk_ok (nC := n + 10) DX12_init_d hTyA hR (VC := [(131, 2, 11, oX11_load)]) (VD := []) (SD := [(33, 2, 0, n + 0, 0, 0, 0, [], dL_mod)]) (AL := []) (List.forall_mem_cons.mpr ⟨⟨mX11_load, n + 10, 1, TX11, 9, rfl, by omega, hX12_131, WX11_load, rfl, CX11_load g (n) hE.1⟩, (fun _ h => absurd h List.not_mem_nil)⟩) (fun _ h => absurd h List.not_mem_nil) (List.forall_mem_cons.mpr ⟨⟨mL_mod, by decide, Or.inr ⟨_, hX12_33⟩, WL_mod, EL_mod g _ n⟩, (fun _ h => absurd h List.not_mem_nil)⟩) [486] 10 _ _ _ _ _ _ ?_
  simp (maxSteps := 1000000) [↓Bool.cond_eq_ite, -Prod.forall, -Prod.exists, -Prod.mk.injEq, ↓jc_eq_t, ↓jc_eq_f, ↓jc_ne_t, ↓jc_ne_f, ↓jc_lt_t, ↓jc_lt_f, ↓jc_ge_t, ↓jc_ge_f, ↓jc_gt_t, ↓jc_gt_f, ↓jc_le_t, ↓jc_le_f, dvk, tX12_init_d, jtb, jol, dvl, dal, dst, jlk, jcmp, jbin, jfl, qX12, jc2, qlX12, jcat, jel, lv_args, Value.category, jins, jsrt, jins2, jble, jblt, jf3, List.filter_cons, List.filter_nil, Dlo, Dnr, DnL, Dfree, Droom, DuS_S, DuS_I, DuS_L, DuS_R, DuS_N, DuS_A, DuI_S, DuI_I, DuI_L, DuI_R, DuI_N, DuI_A, DuL_S, DuL_I, DuL_L, DuL_R, DuL_N, DuL_A, DuR_S, DuR_I, DuR_L, DuR_R, DuR_N, DuR_A, Dnw_S, Dnw_I, Dnw_L, Dnw_R, Dnw_N, Dnw_A, DrI_S, DrI_I, DrI_L, DrI_R, DrI_N, DrI_A, DrJ_S, DrJ_I, DrJ_L, DrJ_R, DrJ_N, DrJ_A, dm64, G_d, G_x0, dL_mod, oX11_load, doII, joRI, -Int32.not_le, -Int32.not_lt, -Int64.not_le, -Int64.not_lt, i3lt, i6lt]
  try simp (disch := omega) [-Prod.forall, -Prod.exists, -Prod.mk.injEq, -Int32.not_le, -Int32.not_lt, -Int64.not_le, -Int64.not_lt, i3lt, i6lt]
  obtain ⟨x1, x2⟩ := ix_end h (by omega) u1 u2 u3 u4
  refine DW_txMv (s := 1700) (r := 1610) (Or.inl ⟨rfl, rfl⟩) u3 u1 hk3 (by simp [DnL]) (by simp [DnL, DrL, Drv]) ?_
  exact DW.wide (c1 := c0 + 12) (s1 := s0 + 4248) (by omega) (by omega) (kk _ x2 (dk_tfr (fun k hk => (dkI_x hk).1) x2 hd) x1)
end EMW
