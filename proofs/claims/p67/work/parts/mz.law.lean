/-! the law's Desk.<init>: a person's values -/
def rzX (y : Int32) (r : Nat) : Bool := decide (md (y >>> (nI (3 * r + 1) &&& 31)) 7 = 0)
def vzX (y : Int32) (r : Nat) : Nat := if rzX y r = true then 0 else md (y >>> (nI (2 * r) &&& 31)) 900
theorem vzX_lt (y : Int32) (r : Nat) : vzX y r < 900 := by
  unfold vzX
  by_cases c : rzX y r = true
  · rw [if_pos c]
    omega
  · rw [if_neg c]
    exact md_lt _ (by omega)
theorem dk_wr {σ : dM} {N M p r : Nat} {b : Int32} (h : dk σ N M) (hp : p < 5) (hb : b = 0 ∨ b = 1) : dk (DuI σ (1200 + p) r b) N M := by
  obtain ⟨h1, h2, h3, h4, h5, h6⟩ := h
  refine ⟨h1, ?_, h3, h4, h5, fun q hq => ⟨(h6 q hq).1, (h6 q hq).2.1, fun j => ?_⟩⟩
  · rw [DuI_I, DuI_I, if_neg (by omega), if_neg (by omega)]
    exact h2
  · rw [DuI_I]
    by_cases c : 1200 + q = 1200 + p ∧ j = r
    · rw [if_pos c]
      exact hb
    · rw [if_neg c]
      exact (h6 q hq).2.2 j
theorem dk_wv {σ : dM} {N M a r : Nat} {b : Int32} (h : dk σ N M) (ha : a ≠ 1000 ∧ ∀ p, p < 5 → a ≠ 1200 + p) : dk (DuI σ a r b) N M := by
  have hN := h.1.1.2
  refine dk_I h (fun j => ?_) rfl rfl rfl (fun p hp j => ?_)
  · rw [DuI_I, if_neg (by omega)]
  · rw [DuI_I, if_neg (by have := ha.2 p (by omega); omega)]
section EMZ
variable {g : jG} {z : dZ} {k : Nat} {R : Option Value → dM → Nat → Nat → Prop}
theorem in_wr {σ : dM} {q p r N M c0 s0 : Nat} {y3 y5 : Int32} (hR : dRok g z mX12_init R) (hT : dEt g z.2.2.2.2) (hz : k + 6 ≤ z.1.frames ∧ 64 * (k + 6) ≤ z.1.locals ∧ c0 + 12 ≤ z.1.cells ∧ s0 + 4248 ≤ z.1.slots) (hd : dk σ N M) (hp : p < N) (hr9 : r < M)
    (kk : DW g z mX12_init 422 [(0, .ref 1000), (1, .ref 380), (2, .ref q), (3, .int y3), (4, .int (nI p)), (5, .int y5), (6, .int (nI r))] [] (DuI (DuI σ (1200 + p) r (if rzX y5 r = true then 1 else 0)) (1110 + p) r (nI (vzX y5 r))) c0 s0) : DW g z mX12_init 350 [(0, .ref 1000), (1, .ref 380), (2, .ref q), (3, .int y3), (4, .int (nI p)), (5, .int y5), (6, .int (nI r))] [] σ c0 s0 := by
  have hE := hT.1
  obtain ⟨n, hn⟩ : ∃ n, n + 1 ≤ z.1.frames ∧ 64 * (n + 1) ≤ z.1.locals := ⟨k, by omega, by omega⟩
  have hf := dk_f hd
  have hN := hd.1.1.2
  have hM := hd.1.2.2
  have hv := dk_v hd hp
  have hrr := dk_r hd hp
  have e7 : (7 : Int32).toNatClampNeg = 7 := by decide
  have e900 : (900 : Int32).toNatClampNeg = 900 := by decide
  have ep : (nI p).toNatClampNeg = p := nI_clamp (by omega)
  have er : (nI r).toNatClampNeg = r := nI_clamp (by omega)
  have jp1 : jin (nI p) N := jinN hp (by omega)
  have jr1 : jin (nI r) M := jinN hr9 (by omega)
  have nb0 : vp_nar .boolean 0 = 0 := rfl
  have nb1 : vp_nar .boolean 1 = 1 := rfl
  have m1 : (3 : Int32) * nI r + 1 = nI (3 * r + 1) := (show ∀ r, r < 4 → (3 : Int32) * nI r + 1 = nI (3 * r + 1) by decide +kernel) r (by omega)
  have m2 : (2 : Int32) * nI r = nI (2 * r) := (show ∀ r, r < 4 → (2 : Int32) * nI r = nI (2 * r) by decide +kernel) r (by omega)
  have hc9 : c0 ≤ z.1.cells ∧ s0 ≤ z.1.slots := by omega
  unfold vzX rzX at kk
  have c1 := c1_n0
  by_cases c : md (y5 >>> (nI (3 * r + 1) &&& 31)) 7 = 0
  · have c2 : nI (md (y5 >>> (nI (3 * r + 1) &&& 31)) 7) = 0 := by rw [c]; rfl
    rw [decide_eq_true c, if_pos rfl, if_pos rfl] at kk
    refine dvk_ok (nC := n + 10) DX12_init_d hTyA hR (VC := [(131, 2, 11, oX11_load)]) (VD := []) (SD := [(33, 2, 0, n + 0, 0, 0, 0, [], dL_mod)]) (AL := []) (List.forall_mem_cons.mpr ⟨⟨mX11_load, n + 10, 1, TX11, 9, rfl, by omega, hX12_131, WX11_load, rfl, CX11_load g (n) hE.1⟩, (fun _ h => absurd h List.not_mem_nil)⟩) (fun _ h => absurd h List.not_mem_nil) (List.forall_mem_cons.mpr ⟨⟨mL_mod, by decide, Or.inr ⟨_, hX12_33⟩, WL_mod, EL_mod g _ n⟩, (fun _ h => absurd h List.not_mem_nil)⟩) [381] 40 _ _ _ _ _ _ ?_
    simp (maxSteps := 1000000) [↓Bool.cond_eq_ite, -Prod.forall, -Prod.exists, -Prod.mk.injEq, ↓jc_eq_t, ↓jc_eq_f, ↓jc_ne_t, ↓jc_ne_f, ↓jc_lt_t, ↓jc_lt_f, ↓jc_ge_t, ↓jc_ge_f, ↓jc_gt_t, ↓jc_gt_f, ↓jc_le_t, ↓jc_le_f, dvk, tX12_init_d, jtb, jol, dvl, dal, dst, jlk, jcmp, jbin, jfl, qX12, jc2, qlX12, jcat, jel, lv_args, Value.category, jins, jsrt, jins2, jble, jblt, jf3, List.filter_cons, List.filter_nil, Dlo, Dnr, DnL, Dfree, Droom, DuS_S, DuS_I, DuS_L, DuS_R, DuS_N, DuS_A, DuI_S, DuI_I, DuI_L, DuI_R, DuI_N, DuI_A, DuL_S, DuL_I, DuL_L, DuL_R, DuL_N, DuL_A, DuR_S, DuR_I, DuR_L, DuR_R, DuR_N, DuR_A, Dnw_S, Dnw_I, Dnw_L, Dnw_R, Dnw_N, Dnw_A, DrI_S, DrI_I, DrI_L, DrI_R, DrI_N, DrI_A, DrJ_S, DrJ_I, DrJ_L, DrJ_R, DrJ_N, DrJ_A, dm64, G_d, G_x0, dL_mod, oX11_load, doII, joRI, -Int32.not_le, -Int32.not_lt, -Int64.not_le, -Int64.not_lt, i3lt, i6lt, hf, hn, hc9, hv, hrr, ep, er, jp1, jr1, nb0, nb1, m1, m2, e7, e900, c2, G_d]
    try simp (disch := omega) [-Prod.forall, -Prod.exists, -Prod.mk.injEq, -Int32.not_le, -Int32.not_lt, -Int64.not_le, -Int64.not_lt, i3lt, i6lt, hf, hn, hc9, hv, hrr, ep, er, jp1, jr1, nb0, nb1, m1, m2, e7, e900, c2, G_d]
    refine dvk_ok (nC := n + 10) DX12_init_d hTyA hR (VC := [(131, 2, 11, oX11_load)]) (VD := []) (SD := [(33, 2, 0, n + 0, 0, 0, 0, [], dL_mod)]) (AL := []) (List.forall_mem_cons.mpr ⟨⟨mX11_load, n + 10, 1, TX11, 9, rfl, by omega, hX12_131, WX11_load, rfl, CX11_load g (n) hE.1⟩, (fun _ h => absurd h List.not_mem_nil)⟩) (fun _ h => absurd h List.not_mem_nil) (List.forall_mem_cons.mpr ⟨⟨mL_mod, by decide, Or.inr ⟨_, hX12_33⟩, WL_mod, EL_mod g _ n⟩, (fun _ h => absurd h List.not_mem_nil)⟩) [422] 40 _ _ _ _ _ _ ?_
    simp (maxSteps := 1000000) [↓Bool.cond_eq_ite, -Prod.forall, -Prod.exists, -Prod.mk.injEq, ↓jc_eq_t, ↓jc_eq_f, ↓jc_ne_t, ↓jc_ne_f, ↓jc_lt_t, ↓jc_lt_f, ↓jc_ge_t, ↓jc_ge_f, ↓jc_gt_t, ↓jc_gt_f, ↓jc_le_t, ↓jc_le_f, dvk, tX12_init_d, jtb, jol, dvl, dal, dst, jlk, jcmp, jbin, jfl, qX12, jc2, qlX12, jcat, jel, lv_args, Value.category, jins, jsrt, jins2, jble, jblt, jf3, List.filter_cons, List.filter_nil, Dlo, Dnr, DnL, Dfree, Droom, DuS_S, DuS_I, DuS_L, DuS_R, DuS_N, DuS_A, DuI_S, DuI_I, DuI_L, DuI_R, DuI_N, DuI_A, DuL_S, DuL_I, DuL_L, DuL_R, DuL_N, DuL_A, DuR_S, DuR_I, DuR_L, DuR_R, DuR_N, DuR_A, Dnw_S, Dnw_I, Dnw_L, Dnw_R, Dnw_N, Dnw_A, DrI_S, DrI_I, DrI_L, DrI_R, DrI_N, DrI_A, DrJ_S, DrJ_I, DrJ_L, DrJ_R, DrJ_N, DrJ_A, dm64, G_d, G_x0, dL_mod, oX11_load, doII, joRI, -Int32.not_le, -Int32.not_lt, -Int64.not_le, -Int64.not_lt, i3lt, i6lt, hf, hn, hc9, hv, hrr, ep, er, jp1, jr1, nb0, nb1, m1, m2, e7, e900, c1, G_d]
    try simp (disch := omega) [-Prod.forall, -Prod.exists, -Prod.mk.injEq, -Int32.not_le, -Int32.not_lt, -Int64.not_le, -Int64.not_lt, i3lt, i6lt, hf, hn, hc9, hv, hrr, ep, er, jp1, jr1, nb0, nb1, m1, m2, e7, e900, c1, G_d]
    exact kk
  · have c2 : ¬ nI (md (y5 >>> (nI (3 * r + 1) &&& 31)) 7) = 0 := by
      have h7 := md_lt (y5 >>> (nI (3 * r + 1) &&& 31)) (k := 7) (by omega)
      generalize md (y5 >>> (nI (3 * r + 1) &&& 31)) 7 = m at c h7
      have key : ∀ m, m < 7 → ¬ m = 0 → ¬ nI m = 0 := by decide +kernel
      exact key m h7 c
    rw [decide_eq_false c, if_neg (by decide), if_neg (by decide)] at kk
    refine dvk_ok (nC := n + 10) DX12_init_d hTyA hR (VC := [(131, 2, 11, oX11_load)]) (VD := []) (SD := [(33, 2, 0, n + 0, 0, 0, 0, [], dL_mod)]) (AL := []) (List.forall_mem_cons.mpr ⟨⟨mX11_load, n + 10, 1, TX11, 9, rfl, by omega, hX12_131, WX11_load, rfl, CX11_load g (n) hE.1⟩, (fun _ h => absurd h List.not_mem_nil)⟩) (fun _ h => absurd h List.not_mem_nil) (List.forall_mem_cons.mpr ⟨⟨mL_mod, by decide, Or.inr ⟨_, hX12_33⟩, WL_mod, EL_mod g _ n⟩, (fun _ h => absurd h List.not_mem_nil)⟩) [381] 40 _ _ _ _ _ _ ?_
    simp (maxSteps := 1000000) [↓Bool.cond_eq_ite, -Prod.forall, -Prod.exists, -Prod.mk.injEq, ↓jc_eq_t, ↓jc_eq_f, ↓jc_ne_t, ↓jc_ne_f, ↓jc_lt_t, ↓jc_lt_f, ↓jc_ge_t, ↓jc_ge_f, ↓jc_gt_t, ↓jc_gt_f, ↓jc_le_t, ↓jc_le_f, dvk, tX12_init_d, jtb, jol, dvl, dal, dst, jlk, jcmp, jbin, jfl, qX12, jc2, qlX12, jcat, jel, lv_args, Value.category, jins, jsrt, jins2, jble, jblt, jf3, List.filter_cons, List.filter_nil, Dlo, Dnr, DnL, Dfree, Droom, DuS_S, DuS_I, DuS_L, DuS_R, DuS_N, DuS_A, DuI_S, DuI_I, DuI_L, DuI_R, DuI_N, DuI_A, DuL_S, DuL_I, DuL_L, DuL_R, DuL_N, DuL_A, DuR_S, DuR_I, DuR_L, DuR_R, DuR_N, DuR_A, Dnw_S, Dnw_I, Dnw_L, Dnw_R, Dnw_N, Dnw_A, DrI_S, DrI_I, DrI_L, DrI_R, DrI_N, DrI_A, DrJ_S, DrJ_I, DrJ_L, DrJ_R, DrJ_N, DrJ_A, dm64, G_d, G_x0, dL_mod, oX11_load, doII, joRI, -Int32.not_le, -Int32.not_lt, -Int64.not_le, -Int64.not_lt, i3lt, i6lt, hf, hn, hc9, hv, hrr, ep, er, jp1, jr1, nb0, nb1, m1, m2, e7, e900, c2, G_d]
    try simp (disch := omega) [-Prod.forall, -Prod.exists, -Prod.mk.injEq, -Int32.not_le, -Int32.not_lt, -Int64.not_le, -Int64.not_lt, i3lt, i6lt, hf, hn, hc9, hv, hrr, ep, er, jp1, jr1, nb0, nb1, m1, m2, e7, e900, c2, G_d]
    refine dvk_ok (nC := n + 10) DX12_init_d hTyA hR (VC := [(131, 2, 11, oX11_load)]) (VD := []) (SD := [(33, 2, 0, n + 0, 0, 0, 0, [], dL_mod)]) (AL := []) (List.forall_mem_cons.mpr ⟨⟨mX11_load, n + 10, 1, TX11, 9, rfl, by omega, hX12_131, WX11_load, rfl, CX11_load g (n) hE.1⟩, (fun _ h => absurd h List.not_mem_nil)⟩) (fun _ h => absurd h List.not_mem_nil) (List.forall_mem_cons.mpr ⟨⟨mL_mod, by decide, Or.inr ⟨_, hX12_33⟩, WL_mod, EL_mod g _ n⟩, (fun _ h => absurd h List.not_mem_nil)⟩) [422] 40 _ _ _ _ _ _ ?_
    simp (maxSteps := 1000000) [↓Bool.cond_eq_ite, -Prod.forall, -Prod.exists, -Prod.mk.injEq, ↓jc_eq_t, ↓jc_eq_f, ↓jc_ne_t, ↓jc_ne_f, ↓jc_lt_t, ↓jc_lt_f, ↓jc_ge_t, ↓jc_ge_f, ↓jc_gt_t, ↓jc_gt_f, ↓jc_le_t, ↓jc_le_f, dvk, tX12_init_d, jtb, jol, dvl, dal, dst, jlk, jcmp, jbin, jfl, qX12, jc2, qlX12, jcat, jel, lv_args, Value.category, jins, jsrt, jins2, jble, jblt, jf3, List.filter_cons, List.filter_nil, Dlo, Dnr, DnL, Dfree, Droom, DuS_S, DuS_I, DuS_L, DuS_R, DuS_N, DuS_A, DuI_S, DuI_I, DuI_L, DuI_R, DuI_N, DuI_A, DuL_S, DuL_I, DuL_L, DuL_R, DuL_N, DuL_A, DuR_S, DuR_I, DuR_L, DuR_R, DuR_N, DuR_A, Dnw_S, Dnw_I, Dnw_L, Dnw_R, Dnw_N, Dnw_A, DrI_S, DrI_I, DrI_L, DrI_R, DrI_N, DrI_A, DrJ_S, DrJ_I, DrJ_L, DrJ_R, DrJ_N, DrJ_A, dm64, G_d, G_x0, dL_mod, oX11_load, doII, joRI, -Int32.not_le, -Int32.not_lt, -Int64.not_le, -Int64.not_lt, i3lt, i6lt, hf, hn, hc9, hv, hrr, ep, er, jp1, jr1, nb0, nb1, m1, m2, e7, e900, G_d]
    try simp (disch := omega) [-Prod.forall, -Prod.exists, -Prod.mk.injEq, -Int32.not_le, -Int32.not_lt, -Int64.not_le, -Int64.not_lt, i3lt, i6lt, hf, hn, hc9, hv, hrr, ep, er, jp1, jr1, nb0, nb1, m1, m2, e7, e900, G_d]
    exact kk
/-- what a person's values say: the first i rooms -/
def inRow (σ : dM) (y : Int32) (p i : Nat) : Prop := ∀ r, r < i → DI σ (1200 + p) r = (if rzX y r = true then 1 else 0) ∧ DI σ (1110 + p) r = nI (vzX y r)
def vsN (y : Int32) : Nat → Nat
  | 0 => 0
  | i + 1 => vsN y i + vaN (rzX y i) (vzX y i)
def vsT (f : Nat → Nat) (w : Nat) (y : Int32) : Nat → (Nat → Nat)
  | 0 => f
  | i + 1 => vaT (vsT f w y i) (w + vsN y i) (rzX y i) (vzX y i)
theorem vsN_le (y : Int32) : ∀ i, vsN y i ≤ 4 * i := by
  intro i
  induction i with
  | zero => exact Nat.le_refl _
  | succ i ih =>
    show vsN y i + vaN (rzX y i) (vzX y i) ≤ _
    have h : vaN (rzX y i) (vzX y i) ≤ 4 := by
      unfold vaN
      by_cases c : rzX y i = true
      · rw [if_pos c]
        omega
      · rw [if_neg c]
        have v9 := vzX_lt y i
        by_cases c1 : vzX y i < 10
        · have := (dig_1 c1).1
          omega
        · by_cases c2 : vzX y i < 100
          · have := (dig_2 (by omega) c2).1
            omega
          · have := (dig_3 (by omega) (by omega : vzX y i < 1000)).1
            omega
    omega
/-- all but the text's names and a person's values -/
def inP (p k : Nat) : Prop := ¬ ixK k ∧ k ≠ 1200 + p ∧ k ≠ 1110 + p
theorem in_vals {N M w p : Nat} {f : Nat → Nat} {y3 y5 : Int32} (hR : dRok g z mX12_init R) (hT : dEt g z.2.2.2.2) (hkp : ixH z) (hp : p < N) : ∀ (d i : Nat) (q : Nat) (σ : dM) (c0 s0 : Nat), i + d = M → (k + 6 ≤ z.1.frames ∧ 64 * (k + 6) ≤ z.1.locals ∧ c0 + 12 * d ≤ z.1.cells ∧ s0 + 4248 * d ≤ z.1.slots) → dk σ N M → ixS σ q (vsT f w y5 i) (w + vsN y5 i) → ixG σ → inRow σ y5 p i → w + vsN y5 M ≤ 300 →
    (∀ τ q', tfr (inP p) σ τ → dk τ N M → ixS τ q' (vsT f w y5 M) (w + vsN y5 M) → inRow τ y5 p M → DW g z mX12_init 492 [(0, .ref 1000), (1, .ref 380), (2, .ref q'), (3, .int y3), (4, .int (nI p)), (5, .int y5), (6, .int (nI M))] [] τ (c0 + 12 * d) (s0 + 4248 * d)) → DW g z mX12_init 341 [(0, .ref 1000), (1, .ref 380), (2, .ref q), (3, .int y3), (4, .int (nI p)), (5, .int y5), (6, .int (nI i))] [] σ c0 s0 := by
  intro d
  have hE := hT.1
  have n := k
  induction d with
  | zero =>
    intro i q σ c0 s0 h1 hz hd hx hG hi hw kk
    obtain rfl : i = M := by omega
    have hf := dk_f hd
    have hM := hd.1.2.2
    have p1 : nI i ≤ nI i := nI_le (Nat.le_refl _) (by omega)
    refine dvk_ok (nC := n + 10) DX12_init_d hTyA hR (VC := [(131, 2, 11, oX11_load)]) (VD := []) (SD := [(33, 2, 0, n + 0, 0, 0, 0, [], dL_mod)]) (AL := []) (List.forall_mem_cons.mpr ⟨⟨mX11_load, n + 10, 1, TX11, 9, rfl, by omega, hX12_131, WX11_load, rfl, CX11_load g (n) hE.1⟩, (fun _ h => absurd h List.not_mem_nil)⟩) (fun _ h => absurd h List.not_mem_nil) (List.forall_mem_cons.mpr ⟨⟨mL_mod, by decide, Or.inr ⟨_, hX12_33⟩, WL_mod, EL_mod g _ n⟩, (fun _ h => absurd h List.not_mem_nil)⟩) [492] 10 _ _ _ _ _ _ ?_
    simp (maxSteps := 1000000) [↓Bool.cond_eq_ite, -Prod.forall, -Prod.exists, -Prod.mk.injEq, ↓jc_eq_t, ↓jc_eq_f, ↓jc_ne_t, ↓jc_ne_f, ↓jc_lt_t, ↓jc_lt_f, ↓jc_ge_t, ↓jc_ge_f, ↓jc_gt_t, ↓jc_gt_f, ↓jc_le_t, ↓jc_le_f, dvk, tX12_init_d, jtb, jol, dvl, dal, dst, jlk, jcmp, jbin, jfl, qX12, jc2, qlX12, jcat, jel, lv_args, Value.category, jins, jsrt, jins2, jble, jblt, jf3, List.filter_cons, List.filter_nil, Dlo, Dnr, DnL, Dfree, Droom, DuS_S, DuS_I, DuS_L, DuS_R, DuS_N, DuS_A, DuI_S, DuI_I, DuI_L, DuI_R, DuI_N, DuI_A, DuL_S, DuL_I, DuL_L, DuL_R, DuL_N, DuL_A, DuR_S, DuR_I, DuR_L, DuR_R, DuR_N, DuR_A, Dnw_S, Dnw_I, Dnw_L, Dnw_R, Dnw_N, Dnw_A, DrI_S, DrI_I, DrI_L, DrI_R, DrI_N, DrI_A, DrJ_S, DrJ_I, DrJ_L, DrJ_R, DrJ_N, DrJ_A, dm64, G_d, G_x0, dL_mod, oX11_load, doII, joRI, -Int32.not_le, -Int32.not_lt, -Int64.not_le, -Int64.not_lt, i3lt, i6lt, hf, p1, G_d]
    try simp (disch := omega) [-Prod.forall, -Prod.exists, -Prod.mk.injEq, -Int32.not_le, -Int32.not_lt, -Int64.not_le, -Int64.not_lt, i3lt, i6lt, hf, p1, G_d]
    exact kk σ q tfr.rfl hd hx hi
  | succ d ih =>
    intro i q σ c0 s0 h1 hz hd hx hG hi hw kk
    have hf := dk_f hd
    have hN := hd.1.1.2
    have hM := hd.1.2.2
    have p1 : ¬ nI M ≤ nI i := nI_ge (by omega) (by omega)
    have e1 : nI i + 1 = nI (i + 1) := nI_add i 1
    refine dvk_ok (nC := n + 10) DX12_init_d hTyA hR (VC := [(131, 2, 11, oX11_load)]) (VD := []) (SD := [(33, 2, 0, n + 0, 0, 0, 0, [], dL_mod)]) (AL := []) (List.forall_mem_cons.mpr ⟨⟨mX11_load, n + 10, 1, TX11, 9, rfl, by omega, hX12_131, WX11_load, rfl, CX11_load g (n) hE.1⟩, (fun _ h => absurd h List.not_mem_nil)⟩) (fun _ h => absurd h List.not_mem_nil) (List.forall_mem_cons.mpr ⟨⟨mL_mod, by decide, Or.inr ⟨_, hX12_33⟩, WL_mod, EL_mod g _ n⟩, (fun _ h => absurd h List.not_mem_nil)⟩) [350] 10 _ _ _ _ _ _ ?_
    simp (maxSteps := 1000000) [↓Bool.cond_eq_ite, -Prod.forall, -Prod.exists, -Prod.mk.injEq, ↓jc_eq_t, ↓jc_eq_f, ↓jc_ne_t, ↓jc_ne_f, ↓jc_lt_t, ↓jc_lt_f, ↓jc_ge_t, ↓jc_ge_f, ↓jc_gt_t, ↓jc_gt_f, ↓jc_le_t, ↓jc_le_f, dvk, tX12_init_d, jtb, jol, dvl, dal, dst, jlk, jcmp, jbin, jfl, qX12, jc2, qlX12, jcat, jel, lv_args, Value.category, jins, jsrt, jins2, jble, jblt, jf3, List.filter_cons, List.filter_nil, Dlo, Dnr, DnL, Dfree, Droom, DuS_S, DuS_I, DuS_L, DuS_R, DuS_N, DuS_A, DuI_S, DuI_I, DuI_L, DuI_R, DuI_N, DuI_A, DuL_S, DuL_I, DuL_L, DuL_R, DuL_N, DuL_A, DuR_S, DuR_I, DuR_L, DuR_R, DuR_N, DuR_A, Dnw_S, Dnw_I, Dnw_L, Dnw_R, Dnw_N, Dnw_A, DrI_S, DrI_I, DrI_L, DrI_R, DrI_N, DrI_A, DrJ_S, DrJ_I, DrJ_L, DrJ_R, DrJ_N, DrJ_A, dm64, G_d, G_x0, dL_mod, oX11_load, doII, joRI, -Int32.not_le, -Int32.not_lt, -Int64.not_le, -Int64.not_lt, i3lt, i6lt, hf, p1, G_d]
    try simp (disch := omega) [-Prod.forall, -Prod.exists, -Prod.mk.injEq, -Int32.not_le, -Int32.not_lt, -Int64.not_le, -Int64.not_lt, i3lt, i6lt, hf, p1, G_d]
    refine in_wr (k := k) hR hT ⟨by omega, by omega, by omega, by omega⟩ hd hp (by omega) ?_
    obtain ⟨τ, eτ⟩ : ∃ τ, τ = DuI (DuI σ (1200 + p) i (if rzX y5 i = true then 1 else 0)) (1110 + p) i (nI (vzX y5 i)) := ⟨_, rfl⟩
    have hb : (if rzX y5 i = true then (1 : Int32) else 0) = 0 ∨ (if rzX y5 i = true then (1 : Int32) else 0) = 1 := by
      by_cases c : rzX y5 i = true
      · rw [if_pos c]; exact Or.inr rfl
      · rw [if_neg c]; exact Or.inl rfl
    have hdτ : dk τ N M := by
      rw [eτ]
      exact dk_wv (dk_wr hd (by omega) hb) ⟨by omega, fun p9 hp9 => by omega⟩
    have fτ : tfr (inP p) σ τ := ⟨by rw [eτ]; rfl, fun k hk => ⟨by rw [eτ]; rfl, fun _ _ _ => ⟨funext fun j => by rw [eτ, DuI_I, DuI_I, if_neg (by unfold inP at hk; omega), if_neg (by unfold inP at hk; omega)], by rw [eτ]; rfl, by rw [eτ]; rfl, by rw [eτ]; rfl⟩⟩⟩
    have rτ : inRow τ y5 p (i + 1) := fun r hr => by
      refine ⟨?_, ?_⟩
      · rw [eτ, DuI_I, if_neg (show ¬ (1200 + p = 1110 + p ∧ r = i) by omega), DuI_I]
        by_cases c : r = i
        · rw [if_pos ⟨rfl, c⟩, c]
        · rw [if_neg (fun z => c z.2)]
          exact (hi r (by omega)).1
      · rw [eτ, DuI_I]
        by_cases c : r = i
        · rw [if_pos ⟨rfl, c⟩, c]
        · rw [if_neg (fun z => c z.2), DuI_I, if_neg (show ¬ (1110 + p = 1200 + p ∧ r = i) by omega)]
          exact (hi r (by omega)).2
    have hk0 : ∀ k, ixK k ∨ k = 1702 ∨ k = 1612 ∨ k = 1803 ∨ k = 1603 → k ≠ 1200 + p ∧ k ≠ 1110 + p := fun k hk => by unfold ixK at hk; omega
    have aA : ∀ k, DA τ k = DA σ k := fun k => by rw [eτ]; rfl
    have hGτ : ixG τ := by
      unfold ixG
      rw [aA, aA, aA, aA]
      exact hG
    have hxτ : ixS τ q (vsT f w y5 i) (w + vsN y5 i) := by
      obtain ⟨b1, b2, b3, b4, b5⟩ := hx
      refine ⟨?_, txt_fr (P := fun k => k ≠ 1200 + p ∧ k ≠ 1110 + p) (by omega) ⟨by rw [eτ]; rfl, fun k hk => ⟨by rw [eτ]; rfl, fun _ _ _ => ⟨funext fun j => by rw [eτ, DuI_I, DuI_I, if_neg (by omega), if_neg (by omega)], by rw [eτ]; rfl, by rw [eτ]; rfl, by rw [eτ]; rfl⟩⟩⟩ b2, ?_, ?_, ?_⟩
      · rw [aA, aA]
        exact b1
      · intro k j q9 k1 k2 k3 e
        rw [aA] at k3
        rw [eτ] at e
        exact b3 k j q9 k1 k2 k3 e
      · rw [aA, aA, aA]
        exact b4
      · rw [aA, aA]
        exact b5
    rw [← eτ]
    have hi1 := rτ i (by omega)
    have hmono : vsN y5 (i + 1) ≤ vsN y5 M := by
      have key : ∀ a b, vsN y5 a ≤ vsN y5 (a + b) := fun a b => by
        induction b with
        | zero => exact Nat.le_refl _
        | succ b ihb =>
          have : vsN y5 (a + (b + 1)) = vsN y5 (a + b) + vaN (rzX y5 (a + b)) (vzX y5 (a + b)) := rfl
          omega
      have := key (i + 1) d
      rw [show i + 1 + d = M by omega] at this
      exact this
    have eN : vsN y5 (i + 1) = vsN y5 i + vaN (rzX y5 i) (vzX y5 i) := rfl
    refine in_val (k := k) (rf := rzX y5 i) (v := vzX y5 i) hR hT ⟨by omega, by omega, by omega, by omega⟩ hkp hxτ hGτ hdτ hp (by omega) hi1.1 hi1.2 (by have := vzX_lt y5 i; omega) (by omega) (fun υ t1 t2 t3 => ?_)
    refine dvk_ok (nC := n + 10) DX12_init_d hTyA hR (VC := [(131, 2, 11, oX11_load)]) (VD := []) (SD := [(33, 2, 0, n + 0, 0, 0, 0, [], dL_mod)]) (AL := []) (List.forall_mem_cons.mpr ⟨⟨mX11_load, n + 10, 1, TX11, 9, rfl, by omega, hX12_131, WX11_load, rfl, CX11_load g (n) hE.1⟩, (fun _ h => absurd h List.not_mem_nil)⟩) (fun _ h => absurd h List.not_mem_nil) (List.forall_mem_cons.mpr ⟨⟨mL_mod, by decide, Or.inr ⟨_, hX12_33⟩, WL_mod, EL_mod g _ n⟩, (fun _ h => absurd h List.not_mem_nil)⟩) [341] 10 _ _ _ _ _ _ ?_
    simp (maxSteps := 1000000) [↓Bool.cond_eq_ite, -Prod.forall, -Prod.exists, -Prod.mk.injEq, ↓jc_eq_t, ↓jc_eq_f, ↓jc_ne_t, ↓jc_ne_f, ↓jc_lt_t, ↓jc_lt_f, ↓jc_ge_t, ↓jc_ge_f, ↓jc_gt_t, ↓jc_gt_f, ↓jc_le_t, ↓jc_le_f, dvk, tX12_init_d, jtb, jol, dvl, dal, dst, jlk, jcmp, jbin, jfl, qX12, jc2, qlX12, jcat, jel, lv_args, Value.category, jins, jsrt, jins2, jble, jblt, jf3, List.filter_cons, List.filter_nil, Dlo, Dnr, DnL, Dfree, Droom, DuS_S, DuS_I, DuS_L, DuS_R, DuS_N, DuS_A, DuI_S, DuI_I, DuI_L, DuI_R, DuI_N, DuI_A, DuL_S, DuL_I, DuL_L, DuL_R, DuL_N, DuL_A, DuR_S, DuR_I, DuR_L, DuR_R, DuR_N, DuR_A, Dnw_S, Dnw_I, Dnw_L, Dnw_R, Dnw_N, Dnw_A, DrI_S, DrI_I, DrI_L, DrI_R, DrI_N, DrI_A, DrJ_S, DrJ_I, DrJ_L, DrJ_R, DrJ_N, DrJ_A, dm64, G_d, G_x0, dL_mod, oX11_load, doII, joRI, -Int32.not_le, -Int32.not_lt, -Int64.not_le, -Int64.not_lt, i3lt, i6lt, e1]
    try simp (disch := omega) [-Prod.forall, -Prod.exists, -Prod.mk.injEq, -Int32.not_le, -Int32.not_lt, -Int64.not_le, -Int64.not_lt, i3lt, i6lt, e1]
    refine ih (i + 1) 1700 υ (c0 + 12) (s0 + 4248) (by omega) ⟨by omega, by omega, by omega, by omega⟩ t2 (by rw [show w + vsN y5 (i + 1) = w + vsN y5 i + vaN (rzX y5 i) (vzX y5 i) by omega]; exact t3) (ixG_fr t1 hGτ) (fun r hr => ?_) hw (fun τ9 q' v1 v2 v3 v4 => ?_)
    · have a1 := ((t1.2 (1200 + p) (by unfold ixK; omega)).2 (by omega) (by omega) (dk_r hdτ hp).2.1).1
      have a2 := ((t1.2 (1110 + p) (by unfold ixK; omega)).2 (by omega) (by omega) (dk_v hdτ hp).2.1).1
      rw [a1, a2]
      exact rτ r hr
    · exact DW.wide (c1 := c0 + 12 * (d + 1)) (s1 := s0 + 4248 * (d + 1)) (by omega) (by omega) (kk τ9 q' ((fτ.tr (t1.weak (fun k hk => hk.1))).tr v1) v2 v3 v4)
end EMZ
