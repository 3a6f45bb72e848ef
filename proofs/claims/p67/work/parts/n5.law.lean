/-! the law's Desk.<init>: the plans' loop -/
def pnN (x : Int32) (K : Nat) : Nat → Nat
  | 0 => 0
  | c + 1 => pnN x K c + 5 + 1 + 1 + sb_dg (pnM x (K - c)) + 1 + sb_dg (pnI x (K - c)) + 1
def pnT (f : Nat → Nat) (w : Nat) (x : Int32) (N K : Nat) : Nat → (Nat → Nat)
  | 0 => f
  | c + 1 => plT (pnT f w x N K c) (w + pnN x K c) (pnP x N (K - c)) (pnM x (K - c)) (pnI x (K - c))
theorem pnN_le (x : Int32) (K : Nat) : ∀ c, pnN x K c ≤ 17 * c := by
  intro c
  induction c with
  | zero => exact Nat.le_refl _
  | succ c ih =>
    show pnN x K c + 5 + 1 + 1 + sb_dg (pnM x (K - c)) + 1 + sb_dg (pnI x (K - c)) + 1 ≤ _
    have a1 : pnM x (K - c) < 6 := md_lt _ (by omega)
    have a2 : pnI x (K - c) < 2500 := md_lt _ (by omega)
    have a3 := (sbdg4 (v := pnM x (K - c)) (by omega)).2
    have a4 := (sbdg4 (v := pnI x (K - c)) (by omega)).2
    omega
section EN5
variable {g : jG} {z : dZ} {k : Nat} {R : Option Value → dM → Nat → Nat → Prop}
theorem in_plans {N M XN K w S : Nat} {f : Nat → Nat} {xs : Nat → Int32} (hR : dRok g z mX12_init R) (hT : dEt g z.2.2.2.2) (hC : dEc g z.2.2.2.2 XN xs) (hkp : ixF z ∧ (z.2.2.1 1138 = false ∧ z.2.2.1 1139 = false) ∧ z.2.2.1 2000 = false) (hK : K ≤ 2) (hw : w + 34 ≤ 300) : ∀ (d c : Nat) (σ : dM) (c0 s0 : Nat), c + d = K → (k + 6 ≤ z.1.frames ∧ 64 * (k + 6) ≤ z.1.locals ∧ c0 + 14 * d ≤ z.1.cells ∧ s0 + 6337 * d ≤ z.1.slots) → dk σ N M → ixS σ 1700 (pnT f w (scX XN xs 6) N K c) (w + pnN (scX XN xs 6) K c) → alP2 σ c → inPl σ (scX XN xs 6) N K c →
    (∀ τ, tfr (fun k => ¬ ixK k ∧ k ≠ 2000 ∧ k ≠ 1900 ∧ k ≠ 1138 ∧ k ≠ 1139) σ τ → dk τ N M → ixS τ 1700 (pnT f w (scX XN xs 6) N K K) (w + pnN (scX XN xs 6) K K) → alP2 τ K → inPl τ (scX XN xs 6) N K K → DW g z mX12_init 761 [(0, .ref 1000), (1, .ref 380), (2, .ref 1700), (3, .int (nI (S + K)))] [] τ (c0 + 14 * d) (s0 + 6337 * d)) → DW g z mX12_init 610 [(0, .ref 1000), (1, .ref 380), (2, .ref 1700), (3, .int (nI (S + c))), (4, .int (nI d))] [] σ c0 s0 := by
  intro d
  have hE := hT.1
  have n := k
  induction d with
  | zero =>
    intro c σ c0 s0 h1 hz hd hx hal hpl kk
    obtain rfl : c = K := by omega
    have p1 : nI 0 ≤ 0 := by decide
    refine dvk_ok (nC := n + 10) DX12_init_g hTyA hR (VC := [(131, 2, 11, oX11_load)]) (VD := []) (SD := [(33, 2, 0, n + 0, 0, 0, 0, [], dL_mod)]) (AL := []) (List.forall_mem_cons.mpr ⟨⟨mX11_load, n + 10, 1, TX11, 9, rfl, by omega, hX12_131, WX11_load, rfl, CX11_load g (n) hE.1⟩, (fun _ h => absurd h List.not_mem_nil)⟩) (fun _ h => absurd h List.not_mem_nil) (List.forall_mem_cons.mpr ⟨⟨mL_mod, by decide, Or.inr ⟨_, hX12_33⟩, WL_mod, EL_mod g _ n⟩, (fun _ h => absurd h List.not_mem_nil)⟩) [761] 10 _ _ _ _ _ _ ?_
    simp (maxSteps := 1000000) [↓Bool.cond_eq_ite, -Prod.forall, -Prod.exists, -Prod.mk.injEq, ↓jc_eq_t, ↓jc_eq_f, ↓jc_ne_t, ↓jc_ne_f, ↓jc_lt_t, ↓jc_lt_f, ↓jc_ge_t, ↓jc_ge_f, ↓jc_gt_t, ↓jc_gt_f, ↓jc_le_t, ↓jc_le_f, dvk, tX12_init_g, jtb, jol, dvl, dal, dst, jlk, jcmp, jbin, jfl, qX12, jc2, qlX12, jcat, jel, lv_args, Value.category, jins, jsrt, jins2, jble, jblt, jf3, List.filter_cons, List.filter_nil, Dlo, Dnr, DnL, Dfree, Droom, DuS_S, DuS_I, DuS_L, DuS_R, DuS_N, DuS_A, DuI_S, DuI_I, DuI_L, DuI_R, DuI_N, DuI_A, DuL_S, DuL_I, DuL_L, DuL_R, DuL_N, DuL_A, DuR_S, DuR_I, DuR_L, DuR_R, DuR_N, DuR_A, Dnw_S, Dnw_I, Dnw_L, Dnw_R, Dnw_N, Dnw_A, DrI_S, DrI_I, DrI_L, DrI_R, DrI_N, DrI_A, DrJ_S, DrJ_I, DrJ_L, DrJ_R, DrJ_N, DrJ_A, dm64, G_d, G_x0, dL_mod, oX11_load, doII, joRI, -Int32.not_le, -Int32.not_lt, -Int64.not_le, -Int64.not_lt, i3lt, i6lt, p1]
    try simp (disch := omega) [-Prod.forall, -Prod.exists, -Prod.mk.injEq, -Int32.not_le, -Int32.not_lt, -Int64.not_le, -Int64.not_lt, i3lt, i6lt, p1]
    refine DW.mono (L' := [(0, .ref 1000), (1, .ref 380), (2, .ref 1700), (3, .int (nI (S + c)))]) ?_ (by simp)
    exact kk σ tfr.rfl hd hx hal hpl
  | succ d ih =>
    intro c σ c0 s0 h1 hz hd hx hal hpl kk
    have hN := hd.1.1
    have p1 : ¬ nI (d + 1) ≤ 0 := by
      have := nI_ge (show 0 < d + 1 by omega) (by omega)
      exact this
    have e1 : nI (S + c) + 1 = nI (S + (c + 1)) := nI_add (S + c) 1
    have e2 : nI (d + 1) + -1 = nI d := (show ∀ d, d < 2 → nI (d + 1) + -1 = nI d by decide +kernel) d (by omega)
    have hN9 := pnN_le (scX XN xs 6) K c
    have hd9 : d + 1 = K - c := by omega
    have eN : pnN (scX XN xs 6) K (c + 1) = pnN (scX XN xs 6) K c + 5 + 1 + 1 + sb_dg (pnM (scX XN xs 6) (K - c)) + 1 + sb_dg (pnI (scX XN xs 6) (K - c)) + 1 := rfl
    refine dvk_ok (nC := n + 10) DX12_init_g hTyA hR (VC := [(131, 2, 11, oX11_load)]) (VD := []) (SD := [(33, 2, 0, n + 0, 0, 0, 0, [], dL_mod)]) (AL := []) (List.forall_mem_cons.mpr ⟨⟨mX11_load, n + 10, 1, TX11, 9, rfl, by omega, hX12_131, WX11_load, rfl, CX11_load g (n) hE.1⟩, (fun _ h => absurd h List.not_mem_nil)⟩) (fun _ h => absurd h List.not_mem_nil) (List.forall_mem_cons.mpr ⟨⟨mL_mod, by decide, Or.inr ⟨_, hX12_33⟩, WL_mod, EL_mod g _ n⟩, (fun _ h => absurd h List.not_mem_nil)⟩) [615] 10 _ _ _ _ _ _ ?_
    simp (maxSteps := 1000000) [↓Bool.cond_eq_ite, -Prod.forall, -Prod.exists, -Prod.mk.injEq, ↓jc_eq_t, ↓jc_eq_f, ↓jc_ne_t, ↓jc_ne_f, ↓jc_lt_t, ↓jc_lt_f, ↓jc_ge_t, ↓jc_ge_f, ↓jc_gt_t, ↓jc_gt_f, ↓jc_le_t, ↓jc_le_f, dvk, tX12_init_g, jtb, jol, dvl, dal, dst, jlk, jcmp, jbin, jfl, qX12, jc2, qlX12, jcat, jel, lv_args, Value.category, jins, jsrt, jins2, jble, jblt, jf3, List.filter_cons, List.filter_nil, Dlo, Dnr, DnL, Dfree, Droom, DuS_S, DuS_I, DuS_L, DuS_R, DuS_N, DuS_A, DuI_S, DuI_I, DuI_L, DuI_R, DuI_N, DuI_A, DuL_S, DuL_I, DuL_L, DuL_R, DuL_N, DuL_A, DuR_S, DuR_I, DuR_L, DuR_R, DuR_N, DuR_A, Dnw_S, Dnw_I, Dnw_L, Dnw_R, Dnw_N, Dnw_A, DrI_S, DrI_I, DrI_L, DrI_R, DrI_N, DrI_A, DrJ_S, DrJ_I, DrJ_L, DrJ_R, DrJ_N, DrJ_A, dm64, G_d, G_x0, dL_mod, oX11_load, doII, joRI, -Int32.not_le, -Int32.not_lt, -Int64.not_le, -Int64.not_lt, i3lt, i6lt, p1]
    try simp (disch := omega) [-Prod.forall, -Prod.exists, -Prod.mk.injEq, -Int32.not_le, -Int32.not_lt, -Int64.not_le, -Int64.not_lt, i3lt, i6lt, p1]
    rw [hd9]
    refine in_plan1 (k := k) hR hT hC hkp ⟨by omega, by omega, by omega, by omega⟩ hd (by omega) hK hal hpl hx (by omega) (fun τ t1 t2 t3 t4 t5 => ?_)
    rw [← hd9]
    refine dvk_ok (nC := n + 10) DX12_init_g hTyA hR (VC := [(131, 2, 11, oX11_load)]) (VD := []) (SD := [(33, 2, 0, n + 0, 0, 0, 0, [], dL_mod)]) (AL := []) (List.forall_mem_cons.mpr ⟨⟨mX11_load, n + 10, 1, TX11, 9, rfl, by omega, hX12_131, WX11_load, rfl, CX11_load g (n) hE.1⟩, (fun _ h => absurd h List.not_mem_nil)⟩) (fun _ h => absurd h List.not_mem_nil) (List.forall_mem_cons.mpr ⟨⟨mL_mod, by decide, Or.inr ⟨_, hX12_33⟩, WL_mod, EL_mod g _ n⟩, (fun _ h => absurd h List.not_mem_nil)⟩) [610] 10 _ _ _ _ _ _ ?_
    simp (maxSteps := 1000000) [↓Bool.cond_eq_ite, -Prod.forall, -Prod.exists, -Prod.mk.injEq, ↓jc_eq_t, ↓jc_eq_f, ↓jc_ne_t, ↓jc_ne_f, ↓jc_lt_t, ↓jc_lt_f, ↓jc_ge_t, ↓jc_ge_f, ↓jc_gt_t, ↓jc_gt_f, ↓jc_le_t, ↓jc_le_f, dvk, tX12_init_g, jtb, jol, dvl, dal, dst, jlk, jcmp, jbin, jfl, qX12, jc2, qlX12, jcat, jel, lv_args, Value.category, jins, jsrt, jins2, jble, jblt, jf3, List.filter_cons, List.filter_nil, Dlo, Dnr, DnL, Dfree, Droom, DuS_S, DuS_I, DuS_L, DuS_R, DuS_N, DuS_A, DuI_S, DuI_I, DuI_L, DuI_R, DuI_N, DuI_A, DuL_S, DuL_I, DuL_L, DuL_R, DuL_N, DuL_A, DuR_S, DuR_I, DuR_L, DuR_R, DuR_N, DuR_A, Dnw_S, Dnw_I, Dnw_L, Dnw_R, Dnw_N, Dnw_A, DrI_S, DrI_I, DrI_L, DrI_R, DrI_N, DrI_A, DrJ_S, DrJ_I, DrJ_L, DrJ_R, DrJ_N, DrJ_A, dm64, G_d, G_x0, dL_mod, oX11_load, doII, joRI, -Int32.not_le, -Int32.not_lt, -Int64.not_le, -Int64.not_lt, i3lt, i6lt, e1, e2]
    try simp (disch := omega) [-Prod.forall, -Prod.exists, -Prod.mk.injEq, -Int32.not_le, -Int32.not_lt, -Int64.not_le, -Int64.not_lt, i3lt, i6lt, e1, e2]
    refine DW.mono (L' := [(0, .ref 1000), (1, .ref 380), (2, .ref 1700), (3, .int (nI (S + (c + 1)))), (4, .int (nI d))]) ?_ (by simp)
    refine ih (c + 1) τ (c0 + 14) (s0 + 6337) (by omega) ⟨by omega, by omega, by omega, by omega⟩ t2 (by rw [show w + pnN (scX XN xs 6) K (c + 1) = w + pnN (scX XN xs 6) K c + 5 + 1 + 1 + sb_dg (pnM (scX XN xs 6) (K - c)) + 1 + sb_dg (pnI (scX XN xs 6) (K - c)) + 1 by omega]; exact t5) t3 t4 (fun υ v1 v2 v3 v4 v5 => ?_)
    exact DW.wide (c1 := c0 + 14 * (d + 1)) (s1 := s0 + 6337 * (d + 1)) (by omega) (by omega) (kk υ ((t1.weak (fun k hk => ⟨hk.1, hk.2.1, hk.2.2.1, by omega⟩)).tr v1) v2 v3 v4 v5)
end EN5
