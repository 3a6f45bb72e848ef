/-! the law's Desk.<init>: the persons' loop -/
theorem dr_cellX {g : jG} {z : dZ} {mt : jMt} {pc idx k j XN : Nat} {L : List (Nat × Value)} {r : List Value} {σ : dM} {c0 s0 : Nat} {xs : Nat → Int32} (hC : dEc g z.2.2.2.2 XN xs) (hz : k + 1 ≤ z.1.frames ∧ 64 * (k + 1) ≤ z.1.locals ∧ c0 ≤ z.1.cells ∧ s0 ≤ z.1.slots) (hst : (r.map fun v => v.category).sum ≤ 6) (hlk : Cond.methodLinkNest mt.1.cls idx yL_cell "RentDivisionLaw" ∈ jNw) (hj : j < 100000) (d : decode mt.2.1 pc = .ok (.invokestatic idx, 3))
    (kk : DW g z mt (pc + 3) L (.int (scX XN xs j) :: r) σ c0 s0) : DW g z mt pc L (.int (nI j) :: .ref 380 :: r) σ c0 s0 := by
  refine dr_callS (idx := idx) (mt' := mL_cell) (tl := []) (n' := k) (mc := 0) (ms := 0) (as := [.ref 380, .int (nI j)]) ⟨by omega, by show 8 + (2 + 11) + 64 * k ≤ _; omega, by omega, by omega⟩ trivial d (Or.inr ⟨_, hlk⟩) WL_cell rfl rfl (by omega) (EL_cell hC k j [.ref 380, .int (nI j)] σ ⟨rfl, rfl, hj⟩) ?_
  rintro v τ ⟨rfl, rfl⟩
  exact kk
def icX (y : Int32) : Nat := if md (y >>> 2) 4 = 0 then 0 else md (y >>> 4) 3000
theorem icX_lt (y : Int32) : icX y < 3000 := by
  unfold icX
  by_cases c : md (y >>> 2) 4 = 0
  · rw [if_pos c]
    omega
  · rw [if_neg c]
    exact md_lt _ (by omega)
section EN0
variable {g : jG} {z : dZ} {k : Nat} {R : Option Value → dM → Nat → Nat → Prop}
theorem in_inc {σ : dM} {q p N M c0 s0 : Nat} {y3 y5 : Int32} (hR : dRok g z mX12_init R) (hT : dEt g z.2.2.2.2) (hz : k + 6 ≤ z.1.frames ∧ 64 * (k + 6) ≤ z.1.locals ∧ c0 ≤ z.1.cells ∧ s0 ≤ z.1.slots) (hd : dk σ N M) (hp : p < N)
    (kk : DW g z mX12_init 294 [(0, .ref 1000), (1, .ref 380), (2, .ref q), (3, .int y3), (4, .int (nI p)), (5, .int y5)] [] (DuI (DuI σ 1101 p (nI (icX y5))) 1102 p (-1)) c0 s0) : DW g z mX12_init 254 [(0, .ref 1000), (1, .ref 380), (2, .ref q), (3, .int y3), (4, .int (nI p)), (5, .int y5)] [] σ c0 s0 := by
  have hE := hT.1
  obtain ⟨n, hn⟩ : ∃ n, n + 1 ≤ z.1.frames ∧ 64 * (n + 1) ≤ z.1.locals := ⟨k, by omega, by omega⟩
  have hf := dk_f hd
  have hN := hd.1.1.2
  have e4 : (4 : Int32).toNatClampNeg = 4 := by decide
  have e3 : (3000 : Int32).toNatClampNeg = 3000 := by decide
  have ep : (nI p).toNatClampNeg = p := nI_clamp (by omega)
  have jp1 : jin (nI p) N := jinN hp (by omega)
  have s2 : (2 : Int32) &&& 31 = 2 := by decide
  have s4 : (4 : Int32) &&& 31 = 4 := by decide
  have hc9 : c0 ≤ z.1.cells ∧ s0 ≤ z.1.slots := by omega
  unfold icX at kk
  by_cases c : md (y5 >>> 2) 4 = 0
  · have c2 : nI (md (y5 >>> 2) 4) = 0 := by rw [c]; rfl
    rw [if_pos c, show nI 0 = 0 by decide] at kk
    refine dvk_ok (nC := n + 10) DX12_init_c hTyA hR (VC := [(131, 2, 11, oX11_load)]) (VD := []) (SD := [(33, 2, 0, n + 0, 0, 0, 0, [], dL_mod)]) (AL := []) (List.forall_mem_cons.mpr ⟨⟨mX11_load, n + 10, 1, TX11, 9, rfl, by omega, hX12_131, WX11_load, rfl, CX11_load g (n) hE.1⟩, (fun _ h => absurd h List.not_mem_nil)⟩) (fun _ h => absurd h List.not_mem_nil) (List.forall_mem_cons.mpr ⟨⟨mL_mod, by decide, Or.inr ⟨_, hX12_33⟩, WL_mod, EL_mod g _ n⟩, (fun _ h => absurd h List.not_mem_nil)⟩) [285] 40 _ _ _ _ _ _ ?_
    simp (maxSteps := 1000000) [↓Bool.cond_eq_ite, -Prod.forall, -Prod.exists, -Prod.mk.injEq, ↓jc_eq_t, ↓jc_eq_f, ↓jc_ne_t, ↓jc_ne_f, ↓jc_lt_t, ↓jc_lt_f, ↓jc_ge_t, ↓jc_ge_f, ↓jc_gt_t, ↓jc_gt_f, ↓jc_le_t, ↓jc_le_f, dvk, tX12_init_c, jtb, jol, dvl, dal, dst, jlk, jcmp, jbin, jfl, qX12, jc2, qlX12, jcat, jel, lv_args, Value.category, jins, jsrt, jins2, jble, jblt, jf3, List.filter_cons, List.filter_nil, Dlo, Dnr, DnL, Dfree, Droom, DuS_S, DuS_I, DuS_L, DuS_R, DuS_N, DuS_A, DuI_S, DuI_I, DuI_L, DuI_R, DuI_N, DuI_A, DuL_S, DuL_I, DuL_L, DuL_R, DuL_N, DuL_A, DuR_S, DuR_I, DuR_L, DuR_R, DuR_N, DuR_A, Dnw_S, Dnw_I, Dnw_L, Dnw_R, Dnw_N, Dnw_A, DrI_S, DrI_I, DrI_L, DrI_R, DrI_N, DrI_A, DrJ_S, DrJ_I, DrJ_L, DrJ_R, DrJ_N, DrJ_A, dm64, G_d, G_x0, dL_mod, oX11_load, doII, joRI, -Int32.not_le, -Int32.not_lt, -Int64.not_le, -Int64.not_lt, i3lt, i6lt, hf, hn, hc9, ep, jp1, s2, s4, e4, c2, G_d]
    try simp (disch := omega) [-Prod.forall, -Prod.exists, -Prod.mk.injEq, -Int32.not_le, -Int32.not_lt, -Int64.not_le, -Int64.not_lt, i3lt, i6lt, hf, hn, hc9, ep, jp1, s2, s4, e4, c2, G_d]
    refine dvk_ok (nC := n + 10) DX12_init_c hTyA hR (VC := [(131, 2, 11, oX11_load)]) (VD := []) (SD := [(33, 2, 0, n + 0, 0, 0, 0, [], dL_mod)]) (AL := []) (List.forall_mem_cons.mpr ⟨⟨mX11_load, n + 10, 1, TX11, 9, rfl, by omega, hX12_131, WX11_load, rfl, CX11_load g (n) hE.1⟩, (fun _ h => absurd h List.not_mem_nil)⟩) (fun _ h => absurd h List.not_mem_nil) (List.forall_mem_cons.mpr ⟨⟨mL_mod, by decide, Or.inr ⟨_, hX12_33⟩, WL_mod, EL_mod g _ n⟩, (fun _ h => absurd h List.not_mem_nil)⟩) [294] 40 _ _ _ _ _ _ ?_
    simp (maxSteps := 1000000) [↓Bool.cond_eq_ite, -Prod.forall, -Prod.exists, -Prod.mk.injEq, ↓jc_eq_t, ↓jc_eq_f, ↓jc_ne_t, ↓jc_ne_f, ↓jc_lt_t, ↓jc_lt_f, ↓jc_ge_t, ↓jc_ge_f, ↓jc_gt_t, ↓jc_gt_f, ↓jc_le_t, ↓jc_le_f, dvk, tX12_init_c, jtb, jol, dvl, dal, dst, jlk, jcmp, jbin, jfl, qX12, jc2, qlX12, jcat, jel, lv_args, Value.category, jins, jsrt, jins2, jble, jblt, jf3, List.filter_cons, List.filter_nil, Dlo, Dnr, DnL, Dfree, Droom, DuS_S, DuS_I, DuS_L, DuS_R, DuS_N, DuS_A, DuI_S, DuI_I, DuI_L, DuI_R, DuI_N, DuI_A, DuL_S, DuL_I, DuL_L, DuL_R, DuL_N, DuL_A, DuR_S, DuR_I, DuR_L, DuR_R, DuR_N, DuR_A, Dnw_S, Dnw_I, Dnw_L, Dnw_R, Dnw_N, Dnw_A, DrI_S, DrI_I, DrI_L, DrI_R, DrI_N, DrI_A, DrJ_S, DrJ_I, DrJ_L, DrJ_R, DrJ_N, DrJ_A, dm64, G_d, G_x0, dL_mod, oX11_load, doII, joRI, -Int32.not_le, -Int32.not_lt, -Int64.not_le, -Int64.not_lt, i3lt, i6lt, hf, hn, hc9, ep, jp1, G_d]
    try simp (disch := omega) [-Prod.forall, -Prod.exists, -Prod.mk.injEq, -Int32.not_le, -Int32.not_lt, -Int64.not_le, -Int64.not_lt, i3lt, i6lt, hf, hn, hc9, ep, jp1, G_d]
    exact kk
  · have c2 : ¬ nI (md (y5 >>> 2) 4) = 0 := by
      have h7 := md_lt (y5 >>> 2) (k := 4) (by omega)
      generalize md (y5 >>> 2) 4 = m at c h7
      have key : ∀ m, m < 4 → ¬ m = 0 → ¬ nI m = 0 := by decide +kernel
      exact key m h7 c
    rw [if_neg c] at kk
    refine dvk_ok (nC := n + 10) DX12_init_c hTyA hR (VC := [(131, 2, 11, oX11_load)]) (VD := []) (SD := [(33, 2, 0, n + 0, 0, 0, 0, [], dL_mod)]) (AL := []) (List.forall_mem_cons.mpr ⟨⟨mX11_load, n + 10, 1, TX11, 9, rfl, by omega, hX12_131, WX11_load, rfl, CX11_load g (n) hE.1⟩, (fun _ h => absurd h List.not_mem_nil)⟩) (fun _ h => absurd h List.not_mem_nil) (List.forall_mem_cons.mpr ⟨⟨mL_mod, by decide, Or.inr ⟨_, hX12_33⟩, WL_mod, EL_mod g _ n⟩, (fun _ h => absurd h List.not_mem_nil)⟩) [285] 40 _ _ _ _ _ _ ?_
    simp (maxSteps := 1000000) [↓Bool.cond_eq_ite, -Prod.forall, -Prod.exists, -Prod.mk.injEq, ↓jc_eq_t, ↓jc_eq_f, ↓jc_ne_t, ↓jc_ne_f, ↓jc_lt_t, ↓jc_lt_f, ↓jc_ge_t, ↓jc_ge_f, ↓jc_gt_t, ↓jc_gt_f, ↓jc_le_t, ↓jc_le_f, dvk, tX12_init_c, jtb, jol, dvl, dal, dst, jlk, jcmp, jbin, jfl, qX12, jc2, qlX12, jcat, jel, lv_args, Value.category, jins, jsrt, jins2, jble, jblt, jf3, List.filter_cons, List.filter_nil, Dlo, Dnr, DnL, Dfree, Droom, DuS_S, DuS_I, DuS_L, DuS_R, DuS_N, DuS_A, DuI_S, DuI_I, DuI_L, DuI_R, DuI_N, DuI_A, DuL_S, DuL_I, DuL_L, DuL_R, DuL_N, DuL_A, DuR_S, DuR_I, DuR_L, DuR_R, DuR_N, DuR_A, Dnw_S, Dnw_I, Dnw_L, Dnw_R, Dnw_N, Dnw_A, DrI_S, DrI_I, DrI_L, DrI_R, DrI_N, DrI_A, DrJ_S, DrJ_I, DrJ_L, DrJ_R, DrJ_N, DrJ_A, dm64, G_d, G_x0, dL_mod, oX11_load, doII, joRI, -Int32.not_le, -Int32.not_lt, -Int64.not_le, -Int64.not_lt, i3lt, i6lt, hf, hn, hc9, ep, jp1, s2, s4, e4, e3, c2, G_d]
    try simp (disch := omega) [-Prod.forall, -Prod.exists, -Prod.mk.injEq, -Int32.not_le, -Int32.not_lt, -Int64.not_le, -Int64.not_lt, i3lt, i6lt, hf, hn, hc9, ep, jp1, s2, s4, e4, e3, c2, G_d]
    refine dvk_ok (nC := n + 10) DX12_init_c hTyA hR (VC := [(131, 2, 11, oX11_load)]) (VD := []) (SD := [(33, 2, 0, n + 0, 0, 0, 0, [], dL_mod)]) (AL := []) (List.forall_mem_cons.mpr ⟨⟨mX11_load, n + 10, 1, TX11, 9, rfl, by omega, hX12_131, WX11_load, rfl, CX11_load g (n) hE.1⟩, (fun _ h => absurd h List.not_mem_nil)⟩) (fun _ h => absurd h List.not_mem_nil) (List.forall_mem_cons.mpr ⟨⟨mL_mod, by decide, Or.inr ⟨_, hX12_33⟩, WL_mod, EL_mod g _ n⟩, (fun _ h => absurd h List.not_mem_nil)⟩) [294] 40 _ _ _ _ _ _ ?_
    simp (maxSteps := 1000000) [↓Bool.cond_eq_ite, -Prod.forall, -Prod.exists, -Prod.mk.injEq, ↓jc_eq_t, ↓jc_eq_f, ↓jc_ne_t, ↓jc_ne_f, ↓jc_lt_t, ↓jc_lt_f, ↓jc_ge_t, ↓jc_ge_f, ↓jc_gt_t, ↓jc_gt_f, ↓jc_le_t, ↓jc_le_f, dvk, tX12_init_c, jtb, jol, dvl, dal, dst, jlk, jcmp, jbin, jfl, qX12, jc2, qlX12, jcat, jel, lv_args, Value.category, jins, jsrt, jins2, jble, jblt, jf3, List.filter_cons, List.filter_nil, Dlo, Dnr, DnL, Dfree, Droom, DuS_S, DuS_I, DuS_L, DuS_R, DuS_N, DuS_A, DuI_S, DuI_I, DuI_L, DuI_R, DuI_N, DuI_A, DuL_S, DuL_I, DuL_L, DuL_R, DuL_N, DuL_A, DuR_S, DuR_I, DuR_L, DuR_R, DuR_N, DuR_A, Dnw_S, Dnw_I, Dnw_L, Dnw_R, Dnw_N, Dnw_A, DrI_S, DrI_I, DrI_L, DrI_R, DrI_N, DrI_A, DrJ_S, DrJ_I, DrJ_L, DrJ_R, DrJ_N, DrJ_A, dm64, G_d, G_x0, dL_mod, oX11_load, doII, joRI, -Int32.not_le, -Int32.not_lt, -Int64.not_le, -Int64.not_lt, i3lt, i6lt, hf, hn, hc9, ep, jp1, G_d]
    try simp (disch := omega) [-Prod.forall, -Prod.exists, -Prod.mk.injEq, -Int32.not_le, -Int32.not_lt, -Int64.not_le, -Int64.not_lt, i3lt, i6lt, hf, hn, hc9, ep, jp1, G_d]
    exact kk
/-- the persons' text -/
def psN (ys : Nat → Int32) (M : Nat) : Nat → Nat
  | 0 => 0
  | i + 1 => psN ys M i + 7 + 1 + 1 + sb_dg (icX (ys i)) + vsN (ys i) M + 1
def psTx (f : Nat → Nat) (w : Nat) (ys : Nat → Int32) (M : Nat) : Nat → (Nat → Nat)
  | 0 => f
  | i + 1 => endT (vsT (peT (psTx f w ys M i) (w + psN ys M i) i (icX (ys i))) (w + psN ys M i + 7 + 1 + 1 + sb_dg (icX (ys i))) (ys i) M) (w + psN ys M i + 7 + 1 + 1 + sb_dg (icX (ys i)) + vsN (ys i) M)
theorem psN_mo (ys : Nat → Int32) (M a b : Nat) : psN ys M a ≤ psN ys M (a + b) := by
  induction b with
  | zero => exact Nat.le_refl _
  | succ b ih =>
    have : psN ys M (a + (b + 1)) = psN ys M (a + b) + 7 + 1 + 1 + sb_dg (icX (ys (a + b))) + vsN (ys (a + b)) M + 1 := rfl
    omega
def inPs (σ : dM) (ys : Nat → Int32) (M i : Nat) : Prop := ∀ p, p < i → DI σ 1101 p = nI (icX (ys p)) ∧ DI σ 1102 p = -1 ∧ inRow σ (ys p) p M
def inQ (k : Nat) : Prop := ¬ ixK k ∧ k ≠ 1101 ∧ k ≠ 1102 ∧ ¬ (1110 ≤ k ∧ k < 1115) ∧ ¬ (1200 ≤ k ∧ k < 1205)
theorem inRow_fr {P : Nat → Prop} {σ τ : dM} {y : Int32} {p i N M : Nat} (f : tfr P σ τ) (hP : P (1200 + p) ∧ P (1110 + p)) (hd : dk σ N M) (hp : p < N) (h : inRow σ y p i) : inRow τ y p i := fun r hr => by
  have hN := hd.1.1.2
  have a1 := ((f.2 (1200 + p) hP.1).2 (by omega) (by omega) (dk_r hd hp).2.1).1
  have a2 := ((f.2 (1110 + p) hP.2).2 (by omega) (by omega) (dk_v hd hp).2.1).1
  rw [a1, a2]
  exact h r hr
theorem inPs_fr {P : Nat → Prop} {σ τ : dM} {ys : Nat → Int32} {i N M : Nat} (f : tfr P σ τ) (hP : P 1101 ∧ P 1102 ∧ ∀ p, p < i → P (1200 + p) ∧ P (1110 + p)) (hd : dk σ N M) (hi : i ≤ N) (h : inPs σ ys M i) : inPs τ ys M i := fun p hp => by
  obtain ⟨h1, h2, h3⟩ := h p hp
  have a1 := ((f.2 1101 hP.1).2 (by omega) (by omega) hd.2.2.1.2.2.1).1
  have a2 := ((f.2 1102 hP.2.1).2 (by omega) (by omega) hd.2.2.1.2.2.2.1).1
  exact ⟨by rw [a1]; exact h1, by rw [a2]; exact h2, inRow_fr f (hP.2.2 p hp) hd (by omega) h3⟩
/-- two of the desk's rows of ints written -/
theorem ixS_wr {σ τ : dM} {q w : Nat} {f : Nat → Nat} {P : Nat → Prop} (hP : ∀ k, 1600 ≤ k → P k) (ft : tfr P σ τ) (eA : DA τ = DA σ) (eR : DR τ = DR σ) (h : ixS σ q f w) : ixS τ q f w := by
  obtain ⟨b1, b2, b3, b4, b5⟩ := h
  refine ⟨by rw [eA]; exact b1, txt_fr (P := P) ⟨hP _ (by omega), hP _ (by omega), hP _ (by omega), hP _ (by omega), hP _ (by omega), hP _ (by omega)⟩ ft b2, fun k j q9 k1 k2 k3 e => ?_, by rw [eA]; exact b4, by rw [eA]; exact b5⟩
  rw [eA] at k3
  rw [eR] at e
  exact b3 k j q9 k1 k2 k3 e
theorem ixG_A {σ τ : dM} (eA : DA τ = DA σ) (h : ixG σ) : ixG τ := by
  unfold ixG
  rw [eA]
  exact h
end EN0
