/-! the law's Desk.<init>: its rows are made -/
def bdP (σ : dM) (N M : Nat) (S : Nat → Prop) : Prop := DA σ 1000 = true ∧ (DI σ 1000 1 = nI M ∧ DI σ 1000 2 = nI N) ∧ ∀ k, 1000 < k → k < 1900 → ¬ S k → DA σ k = false
theorem bdP_nw {σ : dM} {N M a f : Nat} {S : Nat → Prop} {x : Option Nat} (h : bdP σ N M S) (ha : a ≠ 1000) : bdP (DuR (Dnw σ a N) 1000 f x) N M (fun k => S k ∨ k = a) := by
  obtain ⟨h1, ⟨h2, h3⟩, h4⟩ := h
  refine ⟨?_, ⟨?_, ?_⟩, fun k k1 k2 k3 => ?_⟩
  · rw [DuR_A, Dnw_A]
    by_cases c : 1000 = a
    · rw [if_pos c]
    · rw [if_neg c]
      exact h1
  · rw [DuR_I, Dnw_I, if_neg (fun z => ha z.symm)]
    exact h2
  · rw [DuR_I, Dnw_I, if_neg (fun z => ha z.symm)]
    exact h3
  · rw [DuR_A, Dnw_A, if_neg (fun z => k3 (Or.inr z))]
    exact h4 k k1 k2 (fun z => k3 (Or.inl z))
theorem bdP_mn {σ : dM} {N M a b f : Nat} {S : Nat → Prop} {x : Option Nat} (h : bdP σ N M S) (ha : a ≠ 1000) (hb : 1000 < b) : bdP (DuR (Dmn σ a b N M) 1000 f x) N M (fun k => S k ∨ (k = a ∨ (b ≤ k ∧ k < b + N))) := by
  obtain ⟨h1, ⟨h2, h3⟩, h4⟩ := h
  have hno : ¬ (1000 = a ∨ (b ≤ 1000 ∧ 1000 < b + N)) := by omega
  refine ⟨?_, ⟨?_, ?_⟩, fun k k1 k2 k3 => ?_⟩
  · rw [DuR_A, Dmn_A, if_neg hno]
    exact h1
  · rw [DuR_I, Dmn_I, if_neg hno]
    exact h2
  · rw [DuR_I, Dmn_I, if_neg hno]
    exact h3
  · rw [DuR_A, Dmn_A, if_neg (fun z => k3 (Or.inr z))]
    exact h4 k k1 k2 (fun z => k3 (Or.inl z))
def bd2 (σ : dM) (N M : Nat) : dM := DuR (Dnw (DuR (Dnw (DuR (Dnw (DuR (Dnw (DuR (Dnw (DuR (Dmn (DuR (Dmn (DuR (Dnw (DuR (Dnw σ 1100 N) 1000 3 (some 1100)) 1101 N) 1000 4 (some 1101)) 1400 1110 N M) 1000 5 (some 1400)) 1500 1200 N M) 1000 6 (some 1500)) 1102 N) 1000 7 (some 1102)) 1103 N) 1000 8 (some 1103)) 1300 N) 1000 9 (some 1300)) 1104 N) 1000 10 (some 1104)) 1105 N) 1000 24 (some 1105)
section ENA
variable {g : jG} {z : dZ} {k : Nat} {R : Option Value → dM → Nat → Nat → Prop}
theorem in_two {N M : Nat} {σ : dM} {c0 s0 : Nat} (hR : dRok g z mX12_init R) (hT : dEt g z.2.2.2.2) (hkp : ∀ k, k ≠ 1000 → z.2.2.1 k = false) (hz : k + 6 ≤ z.1.frames ∧ 64 * (k + 6) ≤ z.1.locals ∧ c0 + 19 ≤ z.1.cells ∧ s0 + 85 ≤ z.1.slots) (hN : 1 ≤ N ∧ N ≤ 5) (hM : 1 ≤ M ∧ M ≤ 4) (hP : bdP σ N M (fun k => k = 0))
    (kk : DW g z mX12_init 165 [(0, .ref 1000), (1, .ref 380)] [] (bd2 σ N M) (c0 + 19) (s0 + 85)) : DW g z mX12_init 63 [(0, .ref 1000), (1, .ref 380)] [] σ c0 s0 := by
  have hE := hT.1
  have n := k
  have eN : (nI N).toNatClampNeg = N := nI_clamp (by omega)
  have eM : (nI M).toNatClampNeg = M := nI_clamp (by omega)
  have lN : ¬ nI N < 0 := nI_pos (by omega)
  have lM : ¬ nI M < 0 := nI_pos (by omega)
  have mN : N * M ≤ 20 := by
    have := Nat.mul_le_mul hN.2 hM.2
    omega
  have hv5 : ∀ i, i < 5 → darr (1110 + i) 1 0 = true := by decide +kernel
  have hr5 : ∀ i, i < 5 → darr (1200 + i) 1 3 = true := by decide +kernel
  unfold bd2 at kk
  obtain ⟨τ0, e0⟩ : ∃ τ0, τ0 = σ := ⟨_, rfl⟩
  rw [← e0] at hP kk ⊢
  have hA0 := hP.1
  have hI0 := hP.2.1
  refine dvk_ok (nC := n + 10) DX12_init_a hTyA hR (VC := [(131, 2, 11, oX11_load)]) (VD := []) (SD := [(33, 2, 0, n + 0, 0, 0, 0, [], dL_mod)]) (AL := []) (List.forall_mem_cons.mpr ⟨⟨mX11_load, n + 10, 1, TX11, 9, rfl, by omega, hX12_131, WX11_load, rfl, CX11_load g (n) hE.1⟩, (fun _ h => absurd h List.not_mem_nil)⟩) (fun _ h => absurd h List.not_mem_nil) (List.forall_mem_cons.mpr ⟨⟨mL_mod, by decide, Or.inr ⟨_, hX12_33⟩, WL_mod, EL_mod g _ n⟩, (fun _ h => absurd h List.not_mem_nil)⟩) [68] 10 _ _ _ _ _ _ ?_
  simp (maxSteps := 1000000) [↓Bool.cond_eq_ite, -Prod.forall, -Prod.exists, -Prod.mk.injEq, ↓jc_eq_t, ↓jc_eq_f, ↓jc_ne_t, ↓jc_ne_f, ↓jc_lt_t, ↓jc_lt_f, ↓jc_ge_t, ↓jc_ge_f, ↓jc_gt_t, ↓jc_gt_f, ↓jc_le_t, ↓jc_le_f, dvk, tX12_init_a, jtb, jol, dvl, dal, dst, jlk, jcmp, jbin, jfl, qX12, jc2, qlX12, jcat, jel, lv_args, Value.category, jins, jsrt, jins2, jble, jblt, jf3, List.filter_cons, List.filter_nil, Dlo, Dnr, DnL, Dfree, Droom, DuS_S, DuS_I, DuS_L, DuS_R, DuS_N, DuS_A, DuI_S, DuI_I, DuI_L, DuI_R, DuI_N, DuI_A, DuL_S, DuL_I, DuL_L, DuL_R, DuL_N, DuL_A, DuR_S, DuR_I, DuR_L, DuR_R, DuR_N, DuR_A, Dnw_S, Dnw_I, Dnw_L, Dnw_R, Dnw_N, Dnw_A, DrI_S, DrI_I, DrI_L, DrI_R, DrI_N, DrI_A, DrJ_S, DrJ_I, DrJ_L, DrJ_R, DrJ_N, DrJ_A, dm64, G_d, G_x0, dL_mod, oX11_load, doII, joRI, -Int32.not_le, -Int32.not_lt, -Int64.not_le, -Int64.not_lt, i3lt, i6lt, hA0, hI0, G_d]
  try simp (disch := omega) [-Prod.forall, -Prod.exists, -Prod.mk.injEq, -Int32.not_le, -Int32.not_lt, -Int64.not_le, -Int64.not_lt, i3lt, i6lt, hA0, hI0, G_d]
  refine dr_newI (atype := .int) (ti := 0) (a := 1100) (by decide +kernel) (by decide) rfl rfl (show Cond.arrayClass .int ∈ jGw from jGw_of 438 (by decide +kernel) (by decide +kernel)) (hP.2.2 1100 (by omega) (by omega) (by dsimp only; omega)) (hkp 1100 (by omega)) lN (by omega) (by omega) (by omega) (by simp [DnL]) (by simp [Dnr]) (by decide +kernel) ?_
  rw [eN]
  have hN0 : DA (Dnw τ0 1100 N) 1000 = true := by rw [Dnw_A, if_neg (by omega)]; exact hA0
  have hB0 : DA (Dnw τ0 1100 N) 1100 = true := by rw [Dnw_A, if_pos (rfl)]
  refine dr_putFr (f := 3) (C := RX12) (T := TX12) (N := 25) (ci := 12) (ty := .array .int) dcls_X12 (by decide) (show Cond.fieldLink RX12 43 RX12 "state" "[I" ∈ jGw from jGw_of 1233 (by decide +kernel) (by decide +kernel)) rfl rfl rfl rfl (by decide +kernel) rfl (by decide +kernel) hN0 (Or.inr (Dal_hi (by decide) (by decide) hB0)) (by decide +kernel) ?_
  replace hP := bdP_nw (f := 3) (x := some 1100) (a := 1100) hP (by omega)
  obtain ⟨τ1, e1⟩ : ∃ τ1, τ1 = DuR (Dnw τ0 1100 N) 1000 3 (some 1100) := ⟨_, rfl⟩
  rw [← e1] at hP kk ⊢
  have hA1 := hP.1
  have hI1 := hP.2.1
  refine dvk_ok (nC := n + 10) DX12_init_a hTyA hR (VC := [(131, 2, 11, oX11_load)]) (VD := []) (SD := [(33, 2, 0, n + 0, 0, 0, 0, [], dL_mod)]) (AL := []) (List.forall_mem_cons.mpr ⟨⟨mX11_load, n + 10, 1, TX11, 9, rfl, by omega, hX12_131, WX11_load, rfl, CX11_load g (n) hE.1⟩, (fun _ h => absurd h List.not_mem_nil)⟩) (fun _ h => absurd h List.not_mem_nil) (List.forall_mem_cons.mpr ⟨⟨mL_mod, by decide, Or.inr ⟨_, hX12_33⟩, WL_mod, EL_mod g _ n⟩, (fun _ h => absurd h List.not_mem_nil)⟩) [78] 10 _ _ _ _ _ _ ?_
  simp (maxSteps := 1000000) [↓Bool.cond_eq_ite, -Prod.forall, -Prod.exists, -Prod.mk.injEq, ↓jc_eq_t, ↓jc_eq_f, ↓jc_ne_t, ↓jc_ne_f, ↓jc_lt_t, ↓jc_lt_f, ↓jc_ge_t, ↓jc_ge_f, ↓jc_gt_t, ↓jc_gt_f, ↓jc_le_t, ↓jc_le_f, dvk, tX12_init_a, jtb, jol, dvl, dal, dst, jlk, jcmp, jbin, jfl, qX12, jc2, qlX12, jcat, jel, lv_args, Value.category, jins, jsrt, jins2, jble, jblt, jf3, List.filter_cons, List.filter_nil, Dlo, Dnr, DnL, Dfree, Droom, DuS_S, DuS_I, DuS_L, DuS_R, DuS_N, DuS_A, DuI_S, DuI_I, DuI_L, DuI_R, DuI_N, DuI_A, DuL_S, DuL_I, DuL_L, DuL_R, DuL_N, DuL_A, DuR_S, DuR_I, DuR_L, DuR_R, DuR_N, DuR_A, Dnw_S, Dnw_I, Dnw_L, Dnw_R, Dnw_N, Dnw_A, DrI_S, DrI_I, DrI_L, DrI_R, DrI_N, DrI_A, DrJ_S, DrJ_I, DrJ_L, DrJ_R, DrJ_N, DrJ_A, dm64, G_d, G_x0, dL_mod, oX11_load, doII, joRI, -Int32.not_le, -Int32.not_lt, -Int64.not_le, -Int64.not_lt, i3lt, i6lt, hA1, hI1, G_d]
  try simp (disch := omega) [-Prod.forall, -Prod.exists, -Prod.mk.injEq, -Int32.not_le, -Int32.not_lt, -Int64.not_le, -Int64.not_lt, i3lt, i6lt, hA1, hI1, G_d]
  refine dr_newI (atype := .int) (ti := 0) (a := 1101) (by decide +kernel) (by decide) rfl rfl (show Cond.arrayClass .int ∈ jGw from jGw_of 438 (by decide +kernel) (by decide +kernel)) (hP.2.2 1101 (by omega) (by omega) (by dsimp only; omega)) (hkp 1101 (by omega)) lN (by omega) (by omega) (by omega) (by simp [DnL]) (by simp [Dnr]) (by decide +kernel) ?_
  rw [eN]
  have hN1 : DA (Dnw τ1 1101 N) 1000 = true := by rw [Dnw_A, if_neg (by omega)]; exact hA1
  have hB1 : DA (Dnw τ1 1101 N) 1101 = true := by rw [Dnw_A, if_pos (rfl)]
  refine dr_putFr (f := 4) (C := RX12) (T := TX12) (N := 25) (ci := 12) (ty := .array .int) dcls_X12 (by decide) (show Cond.fieldLink RX12 47 RX12 "income" "[I" ∈ jGw from jGw_of 1234 (by decide +kernel) (by decide +kernel)) rfl rfl rfl rfl (by decide +kernel) rfl (by decide +kernel) hN1 (Or.inr (Dal_hi (by decide) (by decide) hB1)) (by decide +kernel) ?_
  replace hP := bdP_nw (f := 4) (x := some 1101) (a := 1101) hP (by omega)
  obtain ⟨τ2, e2⟩ : ∃ τ2, τ2 = DuR (Dnw τ1 1101 N) 1000 4 (some 1101) := ⟨_, rfl⟩
  rw [← e2] at hP kk ⊢
  have hA2 := hP.1
  have hI2 := hP.2.1
  refine dvk_ok (nC := n + 10) DX12_init_a hTyA hR (VC := [(131, 2, 11, oX11_load)]) (VD := []) (SD := [(33, 2, 0, n + 0, 0, 0, 0, [], dL_mod)]) (AL := []) (List.forall_mem_cons.mpr ⟨⟨mX11_load, n + 10, 1, TX11, 9, rfl, by omega, hX12_131, WX11_load, rfl, CX11_load g (n) hE.1⟩, (fun _ h => absurd h List.not_mem_nil)⟩) (fun _ h => absurd h List.not_mem_nil) (List.forall_mem_cons.mpr ⟨⟨mL_mod, by decide, Or.inr ⟨_, hX12_33⟩, WL_mod, EL_mod g _ n⟩, (fun _ h => absurd h List.not_mem_nil)⟩) [92] 10 _ _ _ _ _ _ ?_
  simp (maxSteps := 1000000) [↓Bool.cond_eq_ite, -Prod.forall, -Prod.exists, -Prod.mk.injEq, ↓jc_eq_t, ↓jc_eq_f, ↓jc_ne_t, ↓jc_ne_f, ↓jc_lt_t, ↓jc_lt_f, ↓jc_ge_t, ↓jc_ge_f, ↓jc_gt_t, ↓jc_gt_f, ↓jc_le_t, ↓jc_le_f, dvk, tX12_init_a, jtb, jol, dvl, dal, dst, jlk, jcmp, jbin, jfl, qX12, jc2, qlX12, jcat, jel, lv_args, Value.category, jins, jsrt, jins2, jble, jblt, jf3, List.filter_cons, List.filter_nil, Dlo, Dnr, DnL, Dfree, Droom, DuS_S, DuS_I, DuS_L, DuS_R, DuS_N, DuS_A, DuI_S, DuI_I, DuI_L, DuI_R, DuI_N, DuI_A, DuL_S, DuL_I, DuL_L, DuL_R, DuL_N, DuL_A, DuR_S, DuR_I, DuR_L, DuR_R, DuR_N, DuR_A, Dnw_S, Dnw_I, Dnw_L, Dnw_R, Dnw_N, Dnw_A, DrI_S, DrI_I, DrI_L, DrI_R, DrI_N, DrI_A, DrJ_S, DrJ_I, DrJ_L, DrJ_R, DrJ_N, DrJ_A, dm64, G_d, G_x0, dL_mod, oX11_load, doII, joRI, -Int32.not_le, -Int32.not_lt, -Int64.not_le, -Int64.not_lt, i3lt, i6lt, hA2, hI2, G_d]
  try simp (disch := omega) [-Prod.forall, -Prod.exists, -Prod.mk.injEq, -Int32.not_le, -Int32.not_lt, -Int64.not_le, -Int64.not_lt, i3lt, i6lt, hA2, hI2, G_d]
  refine dr_mna (index := 50) (a := 1400) (b := 1110) (t := 0) (to := 6) (ty := .int) (nm := "[[I") (by decide) (by decide +kernel) (fun i hi => hv5 i (by omega)) (fun k9 hk9 => ⟨hP.2.2 k9 (by unfold Dnew2 at hk9; omega) (by unfold Dnew2 at hk9; omega) (by unfold Dnew2 at hk9; dsimp only; omega), hkp k9 (by unfold Dnew2 at hk9; omega), fun z9 => ?_, fun z9 => ?_⟩) (by omega) hE.2.1 (show Cond.classLink RX12 50 "[[I" ∈ jGw from jGw_of 737 (by decide +kernel) (by decide +kernel)) (show Cond.arrayClass .int ∈ jGw from jGw_of 438 (by decide +kernel) (by decide +kernel)) lN lM (by omega) (by omega) (by omega) (by rw [eN, eM]; omega) (by decide +kernel) ?_
  · simp only [List.map_cons, List.map_nil, List.mem_cons, List.not_mem_nil, or_false, Value.ref.injEq] at z9
    have z8 : k9 = (1000 : Nat) ∨ k9 = (380 : Nat) := z9
    unfold Dnew2 at hk9
    omega
  · simp only [List.mem_cons, List.not_mem_nil, or_false, Value.ref.injEq] at z9
    have z8 : k9 = (1000 : Nat) := z9
    unfold Dnew2 at hk9
    omega
  rw [eN, eM]
  have hN2 : DA (Dmn τ2 1400 1110 N M) 1000 = true := by rw [Dmn_A, if_neg (by omega)]; exact hA2
  have hB2 : DA (Dmn τ2 1400 1110 N M) 1400 = true := by rw [Dmn_A, if_pos (Or.inl rfl)]
  refine dr_putFr (f := 5) (C := RX12) (T := TX12) (N := 25) (ci := 12) (ty := .array (.array .int)) dcls_X12 (by decide) (show Cond.fieldLink RX12 52 RX12 "value" "[[I" ∈ jGw from jGw_of 1235 (by decide +kernel) (by decide +kernel)) rfl rfl rfl rfl (by decide +kernel) rfl (by decide +kernel) hN2 (Or.inr (Dal_hi (by decide) (by decide) hB2)) (by decide +kernel) ?_
  replace hP := bdP_mn (f := 5) (x := some 1400) (a := 1400) (b := 1110) hP (by omega) (by omega)
  obtain ⟨τ3, e3⟩ : ∃ τ3, τ3 = DuR (Dmn τ2 1400 1110 N M) 1000 5 (some 1400) := ⟨_, rfl⟩
  rw [← e3] at hP kk ⊢
  have hA3 := hP.1
  have hI3 := hP.2.1
  refine dvk_ok (nC := n + 10) DX12_init_a hTyA hR (VC := [(131, 2, 11, oX11_load)]) (VD := []) (SD := [(33, 2, 0, n + 0, 0, 0, 0, [], dL_mod)]) (AL := []) (List.forall_mem_cons.mpr ⟨⟨mX11_load, n + 10, 1, TX11, 9, rfl, by omega, hX12_131, WX11_load, rfl, CX11_load g (n) hE.1⟩, (fun _ h => absurd h List.not_mem_nil)⟩) (fun _ h => absurd h List.not_mem_nil) (List.forall_mem_cons.mpr ⟨⟨mL_mod, by decide, Or.inr ⟨_, hX12_33⟩, WL_mod, EL_mod g _ n⟩, (fun _ h => absurd h List.not_mem_nil)⟩) [108] 10 _ _ _ _ _ _ ?_
  simp (maxSteps := 1000000) [↓Bool.cond_eq_ite, -Prod.forall, -Prod.exists, -Prod.mk.injEq, ↓jc_eq_t, ↓jc_eq_f, ↓jc_ne_t, ↓jc_ne_f, ↓jc_lt_t, ↓jc_lt_f, ↓jc_ge_t, ↓jc_ge_f, ↓jc_gt_t, ↓jc_gt_f, ↓jc_le_t, ↓jc_le_f, dvk, tX12_init_a, jtb, jol, dvl, dal, dst, jlk, jcmp, jbin, jfl, qX12, jc2, qlX12, jcat, jel, lv_args, Value.category, jins, jsrt, jins2, jble, jblt, jf3, List.filter_cons, List.filter_nil, Dlo, Dnr, DnL, Dfree, Droom, DuS_S, DuS_I, DuS_L, DuS_R, DuS_N, DuS_A, DuI_S, DuI_I, DuI_L, DuI_R, DuI_N, DuI_A, DuL_S, DuL_I, DuL_L, DuL_R, DuL_N, DuL_A, DuR_S, DuR_I, DuR_L, DuR_R, DuR_N, DuR_A, Dnw_S, Dnw_I, Dnw_L, Dnw_R, Dnw_N, Dnw_A, DrI_S, DrI_I, DrI_L, DrI_R, DrI_N, DrI_A, DrJ_S, DrJ_I, DrJ_L, DrJ_R, DrJ_N, DrJ_A, dm64, G_d, G_x0, dL_mod, oX11_load, doII, joRI, -Int32.not_le, -Int32.not_lt, -Int64.not_le, -Int64.not_lt, i3lt, i6lt, hA3, hI3, G_d]
  try simp (disch := omega) [-Prod.forall, -Prod.exists, -Prod.mk.injEq, -Int32.not_le, -Int32.not_lt, -Int64.not_le, -Int64.not_lt, i3lt, i6lt, hA3, hI3, G_d]
  refine dr_mna (index := 55) (a := 1500) (b := 1200) (t := 3) (to := 8) (ty := .boolean) (nm := "[[Z") (by decide) (by decide +kernel) (fun i hi => hr5 i (by omega)) (fun k9 hk9 => ⟨hP.2.2 k9 (by unfold Dnew2 at hk9; omega) (by unfold Dnew2 at hk9; omega) (by unfold Dnew2 at hk9; dsimp only; omega), hkp k9 (by unfold Dnew2 at hk9; omega), fun z9 => ?_, fun z9 => ?_⟩) (by omega) hE.2.2.1 (show Cond.classLink RX12 55 "[[Z" ∈ jGw from jGw_of 738 (by decide +kernel) (by decide +kernel)) (show Cond.arrayClass .boolean ∈ jGw from jGw_of 503 (by decide +kernel) (by decide +kernel)) lN lM (by omega) (by omega) (by omega) (by rw [eN, eM]; omega) (by decide +kernel) ?_
  · simp only [List.map_cons, List.map_nil, List.mem_cons, List.not_mem_nil, or_false, Value.ref.injEq] at z9
    have z8 : k9 = (1000 : Nat) ∨ k9 = (380 : Nat) := z9
    unfold Dnew2 at hk9
    omega
  · simp only [List.mem_cons, List.not_mem_nil, or_false, Value.ref.injEq] at z9
    have z8 : k9 = (1000 : Nat) := z9
    unfold Dnew2 at hk9
    omega
  rw [eN, eM]
  have hN3 : DA (Dmn τ3 1500 1200 N M) 1000 = true := by rw [Dmn_A, if_neg (by omega)]; exact hA3
  have hB3 : DA (Dmn τ3 1500 1200 N M) 1500 = true := by rw [Dmn_A, if_pos (Or.inl rfl)]
  refine dr_putFr (f := 6) (C := RX12) (T := TX12) (N := 25) (ci := 12) (ty := .array (.array .boolean)) dcls_X12 (by decide) (show Cond.fieldLink RX12 57 RX12 "refused" "[[Z" ∈ jGw from jGw_of 1236 (by decide +kernel) (by decide +kernel)) rfl rfl rfl rfl (by decide +kernel) rfl (by decide +kernel) hN3 (Or.inr (Dal_hi (by decide) (by decide) hB3)) (by decide +kernel) ?_
  replace hP := bdP_mn (f := 6) (x := some 1500) (a := 1500) (b := 1200) hP (by omega) (by omega)
  obtain ⟨τ4, e4⟩ : ∃ τ4, τ4 = DuR (Dmn τ3 1500 1200 N M) 1000 6 (some 1500) := ⟨_, rfl⟩
  rw [← e4] at hP kk ⊢
  have hA4 := hP.1
  have hI4 := hP.2.1
  refine dvk_ok (nC := n + 10) DX12_init_a hTyA hR (VC := [(131, 2, 11, oX11_load)]) (VD := []) (SD := [(33, 2, 0, n + 0, 0, 0, 0, [], dL_mod)]) (AL := []) (List.forall_mem_cons.mpr ⟨⟨mX11_load, n + 10, 1, TX11, 9, rfl, by omega, hX12_131, WX11_load, rfl, CX11_load g (n) hE.1⟩, (fun _ h => absurd h List.not_mem_nil)⟩) (fun _ h => absurd h List.not_mem_nil) (List.forall_mem_cons.mpr ⟨⟨mL_mod, by decide, Or.inr ⟨_, hX12_33⟩, WL_mod, EL_mod g _ n⟩, (fun _ h => absurd h List.not_mem_nil)⟩) [120] 10 _ _ _ _ _ _ ?_
  simp (maxSteps := 1000000) [↓Bool.cond_eq_ite, -Prod.forall, -Prod.exists, -Prod.mk.injEq, ↓jc_eq_t, ↓jc_eq_f, ↓jc_ne_t, ↓jc_ne_f, ↓jc_lt_t, ↓jc_lt_f, ↓jc_ge_t, ↓jc_ge_f, ↓jc_gt_t, ↓jc_gt_f, ↓jc_le_t, ↓jc_le_f, dvk, tX12_init_a, jtb, jol, dvl, dal, dst, jlk, jcmp, jbin, jfl, qX12, jc2, qlX12, jcat, jel, lv_args, Value.category, jins, jsrt, jins2, jble, jblt, jf3, List.filter_cons, List.filter_nil, Dlo, Dnr, DnL, Dfree, Droom, DuS_S, DuS_I, DuS_L, DuS_R, DuS_N, DuS_A, DuI_S, DuI_I, DuI_L, DuI_R, DuI_N, DuI_A, DuL_S, DuL_I, DuL_L, DuL_R, DuL_N, DuL_A, DuR_S, DuR_I, DuR_L, DuR_R, DuR_N, DuR_A, Dnw_S, Dnw_I, Dnw_L, Dnw_R, Dnw_N, Dnw_A, DrI_S, DrI_I, DrI_L, DrI_R, DrI_N, DrI_A, DrJ_S, DrJ_I, DrJ_L, DrJ_R, DrJ_N, DrJ_A, dm64, G_d, G_x0, dL_mod, oX11_load, doII, joRI, -Int32.not_le, -Int32.not_lt, -Int64.not_le, -Int64.not_lt, i3lt, i6lt, hA4, hI4, G_d]
  try simp (disch := omega) [-Prod.forall, -Prod.exists, -Prod.mk.injEq, -Int32.not_le, -Int32.not_lt, -Int64.not_le, -Int64.not_lt, i3lt, i6lt, hA4, hI4, G_d]
  refine dr_newI (atype := .int) (ti := 0) (a := 1102) (by decide +kernel) (by decide) rfl rfl (show Cond.arrayClass .int ∈ jGw from jGw_of 438 (by decide +kernel) (by decide +kernel)) (hP.2.2 1102 (by omega) (by omega) (by dsimp only; omega)) (hkp 1102 (by omega)) lN (by omega) (by omega) (by omega) (by simp [DnL]) (by simp [Dnr]) (by decide +kernel) ?_
  rw [eN]
  have hN4 : DA (Dnw τ4 1102 N) 1000 = true := by rw [Dnw_A, if_neg (by omega)]; exact hA4
  have hB4 : DA (Dnw τ4 1102 N) 1102 = true := by rw [Dnw_A, if_pos (rfl)]
  refine dr_putFr (f := 7) (C := RX12) (T := TX12) (N := 25) (ci := 12) (ty := .array .int) dcls_X12 (by decide) (show Cond.fieldLink RX12 60 RX12 "room" "[I" ∈ jGw from jGw_of 1237 (by decide +kernel) (by decide +kernel)) rfl rfl rfl rfl (by decide +kernel) rfl (by decide +kernel) hN4 (Or.inr (Dal_hi (by decide) (by decide) hB4)) (by decide +kernel) ?_
  replace hP := bdP_nw (f := 7) (x := some 1102) (a := 1102) hP (by omega)
  obtain ⟨τ5, e5⟩ : ∃ τ5, τ5 = DuR (Dnw τ4 1102 N) 1000 7 (some 1102) := ⟨_, rfl⟩
  rw [← e5] at hP kk ⊢
  have hA5 := hP.1
  have hI5 := hP.2.1
  refine dvk_ok (nC := n + 10) DX12_init_a hTyA hR (VC := [(131, 2, 11, oX11_load)]) (VD := []) (SD := [(33, 2, 0, n + 0, 0, 0, 0, [], dL_mod)]) (AL := []) (List.forall_mem_cons.mpr ⟨⟨mX11_load, n + 10, 1, TX11, 9, rfl, by omega, hX12_131, WX11_load, rfl, CX11_load g (n) hE.1⟩, (fun _ h => absurd h List.not_mem_nil)⟩) (fun _ h => absurd h List.not_mem_nil) (List.forall_mem_cons.mpr ⟨⟨mL_mod, by decide, Or.inr ⟨_, hX12_33⟩, WL_mod, EL_mod g _ n⟩, (fun _ h => absurd h List.not_mem_nil)⟩) [130] 10 _ _ _ _ _ _ ?_
  simp (maxSteps := 1000000) [↓Bool.cond_eq_ite, -Prod.forall, -Prod.exists, -Prod.mk.injEq, ↓jc_eq_t, ↓jc_eq_f, ↓jc_ne_t, ↓jc_ne_f, ↓jc_lt_t, ↓jc_lt_f, ↓jc_ge_t, ↓jc_ge_f, ↓jc_gt_t, ↓jc_gt_f, ↓jc_le_t, ↓jc_le_f, dvk, tX12_init_a, jtb, jol, dvl, dal, dst, jlk, jcmp, jbin, jfl, qX12, jc2, qlX12, jcat, jel, lv_args, Value.category, jins, jsrt, jins2, jble, jblt, jf3, List.filter_cons, List.filter_nil, Dlo, Dnr, DnL, Dfree, Droom, DuS_S, DuS_I, DuS_L, DuS_R, DuS_N, DuS_A, DuI_S, DuI_I, DuI_L, DuI_R, DuI_N, DuI_A, DuL_S, DuL_I, DuL_L, DuL_R, DuL_N, DuL_A, DuR_S, DuR_I, DuR_L, DuR_R, DuR_N, DuR_A, Dnw_S, Dnw_I, Dnw_L, Dnw_R, Dnw_N, Dnw_A, DrI_S, DrI_I, DrI_L, DrI_R, DrI_N, DrI_A, DrJ_S, DrJ_I, DrJ_L, DrJ_R, DrJ_N, DrJ_A, dm64, G_d, G_x0, dL_mod, oX11_load, doII, joRI, -Int32.not_le, -Int32.not_lt, -Int64.not_le, -Int64.not_lt, i3lt, i6lt, hA5, hI5, G_d]
  try simp (disch := omega) [-Prod.forall, -Prod.exists, -Prod.mk.injEq, -Int32.not_le, -Int32.not_lt, -Int64.not_le, -Int64.not_lt, i3lt, i6lt, hA5, hI5, G_d]
  refine dr_newI (atype := .int) (ti := 0) (a := 1103) (by decide +kernel) (by decide) rfl rfl (show Cond.arrayClass .int ∈ jGw from jGw_of 438 (by decide +kernel) (by decide +kernel)) (hP.2.2 1103 (by omega) (by omega) (by dsimp only; omega)) (hkp 1103 (by omega)) lN (by omega) (by omega) (by omega) (by simp [DnL]) (by simp [Dnr]) (by decide +kernel) ?_
  rw [eN]
  have hN5 : DA (Dnw τ5 1103 N) 1000 = true := by rw [Dnw_A, if_neg (by omega)]; exact hA5
  have hB5 : DA (Dnw τ5 1103 N) 1103 = true := by rw [Dnw_A, if_pos (rfl)]
  refine dr_putFr (f := 8) (C := RX12) (T := TX12) (N := 25) (ci := 12) (ty := .array .int) dcls_X12 (by decide) (show Cond.fieldLink RX12 63 RX12 "payment" "[I" ∈ jGw from jGw_of 1238 (by decide +kernel) (by decide +kernel)) rfl rfl rfl rfl (by decide +kernel) rfl (by decide +kernel) hN5 (Or.inr (Dal_hi (by decide) (by decide) hB5)) (by decide +kernel) ?_
  replace hP := bdP_nw (f := 8) (x := some 1103) (a := 1103) hP (by omega)
  obtain ⟨τ6, e6⟩ : ∃ τ6, τ6 = DuR (Dnw τ5 1103 N) 1000 8 (some 1103) := ⟨_, rfl⟩
  rw [← e6] at hP kk ⊢
  have hA6 := hP.1
  have hI6 := hP.2.1
  refine dvk_ok (nC := n + 10) DX12_init_a hTyA hR (VC := [(131, 2, 11, oX11_load)]) (VD := []) (SD := [(33, 2, 0, n + 0, 0, 0, 0, [], dL_mod)]) (AL := []) (List.forall_mem_cons.mpr ⟨⟨mX11_load, n + 10, 1, TX11, 9, rfl, by omega, hX12_131, WX11_load, rfl, CX11_load g (n) hE.1⟩, (fun _ h => absurd h List.not_mem_nil)⟩) (fun _ h => absurd h List.not_mem_nil) (List.forall_mem_cons.mpr ⟨⟨mL_mod, by decide, Or.inr ⟨_, hX12_33⟩, WL_mod, EL_mod g _ n⟩, (fun _ h => absurd h List.not_mem_nil)⟩) [140] 10 _ _ _ _ _ _ ?_
  simp (maxSteps := 1000000) [↓Bool.cond_eq_ite, -Prod.forall, -Prod.exists, -Prod.mk.injEq, ↓jc_eq_t, ↓jc_eq_f, ↓jc_ne_t, ↓jc_ne_f, ↓jc_lt_t, ↓jc_lt_f, ↓jc_ge_t, ↓jc_ge_f, ↓jc_gt_t, ↓jc_gt_f, ↓jc_le_t, ↓jc_le_f, dvk, tX12_init_a, jtb, jol, dvl, dal, dst, jlk, jcmp, jbin, jfl, qX12, jc2, qlX12, jcat, jel, lv_args, Value.category, jins, jsrt, jins2, jble, jblt, jf3, List.filter_cons, List.filter_nil, Dlo, Dnr, DnL, Dfree, Droom, DuS_S, DuS_I, DuS_L, DuS_R, DuS_N, DuS_A, DuI_S, DuI_I, DuI_L, DuI_R, DuI_N, DuI_A, DuL_S, DuL_I, DuL_L, DuL_R, DuL_N, DuL_A, DuR_S, DuR_I, DuR_L, DuR_R, DuR_N, DuR_A, Dnw_S, Dnw_I, Dnw_L, Dnw_R, Dnw_N, Dnw_A, DrI_S, DrI_I, DrI_L, DrI_R, DrI_N, DrI_A, DrJ_S, DrJ_I, DrJ_L, DrJ_R, DrJ_N, DrJ_A, dm64, G_d, G_x0, dL_mod, oX11_load, doII, joRI, -Int32.not_le, -Int32.not_lt, -Int64.not_le, -Int64.not_lt, i3lt, i6lt, hA6, hI6, G_d]
  try simp (disch := omega) [-Prod.forall, -Prod.exists, -Prod.mk.injEq, -Int32.not_le, -Int32.not_lt, -Int64.not_le, -Int64.not_lt, i3lt, i6lt, hA6, hI6, G_d]
  refine dr_newJ (a := 1300) (by decide +kernel) (show Cond.arrayClass .long ∈ jGw from jGw_of 577 (by decide +kernel) (by decide +kernel)) (hP.2.2 1300 (by omega) (by omega) (by dsimp only; omega)) (hkp 1300 (by omega)) lN (by omega) (by omega) (by omega) (by simp [DnL]) (by simp [Dnr]) (by decide +kernel) ?_
  rw [eN]
  have hN6 : DA (Dnw τ6 1300 N) 1000 = true := by rw [Dnw_A, if_neg (by omega)]; exact hA6
  have hB6 : DA (Dnw τ6 1300 N) 1300 = true := by rw [Dnw_A, if_pos (rfl)]
  refine dr_putFr (f := 9) (C := RX12) (T := TX12) (N := 25) (ci := 12) (ty := .array .long) dcls_X12 (by decide) (show Cond.fieldLink RX12 66 RX12 "paid" "[J" ∈ jGw from jGw_of 1239 (by decide +kernel) (by decide +kernel)) rfl rfl rfl rfl (by decide +kernel) rfl (by decide +kernel) hN6 (Or.inr (Dal_hi (by decide) (by decide) hB6)) (by decide +kernel) ?_
  replace hP := bdP_nw (f := 9) (x := some 1300) (a := 1300) hP (by omega)
  obtain ⟨τ7, e7⟩ : ∃ τ7, τ7 = DuR (Dnw τ6 1300 N) 1000 9 (some 1300) := ⟨_, rfl⟩
  rw [← e7] at hP kk ⊢
  have hA7 := hP.1
  have hI7 := hP.2.1
  refine dvk_ok (nC := n + 10) DX12_init_a hTyA hR (VC := [(131, 2, 11, oX11_load)]) (VD := []) (SD := [(33, 2, 0, n + 0, 0, 0, 0, [], dL_mod)]) (AL := []) (List.forall_mem_cons.mpr ⟨⟨mX11_load, n + 10, 1, TX11, 9, rfl, by omega, hX12_131, WX11_load, rfl, CX11_load g (n) hE.1⟩, (fun _ h => absurd h List.not_mem_nil)⟩) (fun _ h => absurd h List.not_mem_nil) (List.forall_mem_cons.mpr ⟨⟨mL_mod, by decide, Or.inr ⟨_, hX12_33⟩, WL_mod, EL_mod g _ n⟩, (fun _ h => absurd h List.not_mem_nil)⟩) [150] 10 _ _ _ _ _ _ ?_
  simp (maxSteps := 1000000) [↓Bool.cond_eq_ite, -Prod.forall, -Prod.exists, -Prod.mk.injEq, ↓jc_eq_t, ↓jc_eq_f, ↓jc_ne_t, ↓jc_ne_f, ↓jc_lt_t, ↓jc_lt_f, ↓jc_ge_t, ↓jc_ge_f, ↓jc_gt_t, ↓jc_gt_f, ↓jc_le_t, ↓jc_le_f, dvk, tX12_init_a, jtb, jol, dvl, dal, dst, jlk, jcmp, jbin, jfl, qX12, jc2, qlX12, jcat, jel, lv_args, Value.category, jins, jsrt, jins2, jble, jblt, jf3, List.filter_cons, List.filter_nil, Dlo, Dnr, DnL, Dfree, Droom, DuS_S, DuS_I, DuS_L, DuS_R, DuS_N, DuS_A, DuI_S, DuI_I, DuI_L, DuI_R, DuI_N, DuI_A, DuL_S, DuL_I, DuL_L, DuL_R, DuL_N, DuL_A, DuR_S, DuR_I, DuR_L, DuR_R, DuR_N, DuR_A, Dnw_S, Dnw_I, Dnw_L, Dnw_R, Dnw_N, Dnw_A, DrI_S, DrI_I, DrI_L, DrI_R, DrI_N, DrI_A, DrJ_S, DrJ_I, DrJ_L, DrJ_R, DrJ_N, DrJ_A, dm64, G_d, G_x0, dL_mod, oX11_load, doII, joRI, -Int32.not_le, -Int32.not_lt, -Int64.not_le, -Int64.not_lt, i3lt, i6lt, hA7, hI7, G_d]
  try simp (disch := omega) [-Prod.forall, -Prod.exists, -Prod.mk.injEq, -Int32.not_le, -Int32.not_lt, -Int64.not_le, -Int64.not_lt, i3lt, i6lt, hA7, hI7, G_d]
  refine dr_newI (atype := .int) (ti := 0) (a := 1104) (by decide +kernel) (by decide) rfl rfl (show Cond.arrayClass .int ∈ jGw from jGw_of 438 (by decide +kernel) (by decide +kernel)) (hP.2.2 1104 (by omega) (by omega) (by dsimp only; omega)) (hkp 1104 (by omega)) lN (by omega) (by omega) (by omega) (by simp [DnL]) (by simp [Dnr]) (by decide +kernel) ?_
  rw [eN]
  have hN7 : DA (Dnw τ7 1104 N) 1000 = true := by rw [Dnw_A, if_neg (by omega)]; exact hA7
  have hB7 : DA (Dnw τ7 1104 N) 1104 = true := by rw [Dnw_A, if_pos (rfl)]
  refine dr_putFr (f := 10) (C := RX12) (T := TX12) (N := 25) (ci := 12) (ty := .array .int) dcls_X12 (by decide) (show Cond.fieldLink RX12 70 RX12 "stake" "[I" ∈ jGw from jGw_of 1240 (by decide +kernel) (by decide +kernel)) rfl rfl rfl rfl (by decide +kernel) rfl (by decide +kernel) hN7 (Or.inr (Dal_hi (by decide) (by decide) hB7)) (by decide +kernel) ?_
  replace hP := bdP_nw (f := 10) (x := some 1104) (a := 1104) hP (by omega)
  obtain ⟨τ8, e8⟩ : ∃ τ8, τ8 = DuR (Dnw τ7 1104 N) 1000 10 (some 1104) := ⟨_, rfl⟩
  rw [← e8] at hP kk ⊢
  have hA8 := hP.1
  have hI8 := hP.2.1
  refine dvk_ok (nC := n + 10) DX12_init_a hTyA hR (VC := [(131, 2, 11, oX11_load)]) (VD := []) (SD := [(33, 2, 0, n + 0, 0, 0, 0, [], dL_mod)]) (AL := []) (List.forall_mem_cons.mpr ⟨⟨mX11_load, n + 10, 1, TX11, 9, rfl, by omega, hX12_131, WX11_load, rfl, CX11_load g (n) hE.1⟩, (fun _ h => absurd h List.not_mem_nil)⟩) (fun _ h => absurd h List.not_mem_nil) (List.forall_mem_cons.mpr ⟨⟨mL_mod, by decide, Or.inr ⟨_, hX12_33⟩, WL_mod, EL_mod g _ n⟩, (fun _ h => absurd h List.not_mem_nil)⟩) [160] 10 _ _ _ _ _ _ ?_
  simp (maxSteps := 1000000) [↓Bool.cond_eq_ite, -Prod.forall, -Prod.exists, -Prod.mk.injEq, ↓jc_eq_t, ↓jc_eq_f, ↓jc_ne_t, ↓jc_ne_f, ↓jc_lt_t, ↓jc_lt_f, ↓jc_ge_t, ↓jc_ge_f, ↓jc_gt_t, ↓jc_gt_f, ↓jc_le_t, ↓jc_le_f, dvk, tX12_init_a, jtb, jol, dvl, dal, dst, jlk, jcmp, jbin, jfl, qX12, jc2, qlX12, jcat, jel, lv_args, Value.category, jins, jsrt, jins2, jble, jblt, jf3, List.filter_cons, List.filter_nil, Dlo, Dnr, DnL, Dfree, Droom, DuS_S, DuS_I, DuS_L, DuS_R, DuS_N, DuS_A, DuI_S, DuI_I, DuI_L, DuI_R, DuI_N, DuI_A, DuL_S, DuL_I, DuL_L, DuL_R, DuL_N, DuL_A, DuR_S, DuR_I, DuR_L, DuR_R, DuR_N, DuR_A, Dnw_S, Dnw_I, Dnw_L, Dnw_R, Dnw_N, Dnw_A, DrI_S, DrI_I, DrI_L, DrI_R, DrI_N, DrI_A, DrJ_S, DrJ_I, DrJ_L, DrJ_R, DrJ_N, DrJ_A, dm64, G_d, G_x0, dL_mod, oX11_load, doII, joRI, -Int32.not_le, -Int32.not_lt, -Int64.not_le, -Int64.not_lt, i3lt, i6lt, hA8, hI8, G_d]
  try simp (disch := omega) [-Prod.forall, -Prod.exists, -Prod.mk.injEq, -Int32.not_le, -Int32.not_lt, -Int64.not_le, -Int64.not_lt, i3lt, i6lt, hA8, hI8, G_d]
  refine dr_newI (atype := .int) (ti := 0) (a := 1105) (by decide +kernel) (by decide) rfl rfl (show Cond.arrayClass .int ∈ jGw from jGw_of 438 (by decide +kernel) (by decide +kernel)) (hP.2.2 1105 (by omega) (by omega) (by dsimp only; omega)) (hkp 1105 (by omega)) lN (by omega) (by omega) (by omega) (by simp [DnL]) (by simp [Dnr]) (by decide +kernel) ?_
  rw [eN]
  have hN8 : DA (Dnw τ8 1105 N) 1000 = true := by rw [Dnw_A, if_neg (by omega)]; exact hA8
  have hB8 : DA (Dnw τ8 1105 N) 1105 = true := by rw [Dnw_A, if_pos (rfl)]
  refine dvk_ok (nC := n + 10) DX12_init_a hTyA hR (VC := [(131, 2, 11, oX11_load)]) (VD := []) (SD := [(33, 2, 0, n + 0, 0, 0, 0, [], dL_mod)]) (AL := []) (List.forall_mem_cons.mpr ⟨⟨mX11_load, n + 10, 1, TX11, 9, rfl, by omega, hX12_131, WX11_load, rfl, CX11_load g (n) hE.1⟩, (fun _ h => absurd h List.not_mem_nil)⟩) (fun _ h => absurd h List.not_mem_nil) (List.forall_mem_cons.mpr ⟨⟨mL_mod, by decide, Or.inr ⟨_, hX12_33⟩, WL_mod, EL_mod g _ n⟩, (fun _ h => absurd h List.not_mem_nil)⟩) [165] 10 _ _ _ _ _ _ ?_
  simp (maxSteps := 1000000) [↓Bool.cond_eq_ite, -Prod.forall, -Prod.exists, -Prod.mk.injEq, ↓jc_eq_t, ↓jc_eq_f, ↓jc_ne_t, ↓jc_ne_f, ↓jc_lt_t, ↓jc_lt_f, ↓jc_ge_t, ↓jc_ge_f, ↓jc_gt_t, ↓jc_gt_f, ↓jc_le_t, ↓jc_le_f, dvk, tX12_init_a, jtb, jol, dvl, dal, dst, jlk, jcmp, jbin, jfl, qX12, jc2, qlX12, jcat, jel, lv_args, Value.category, jins, jsrt, jins2, jble, jblt, jf3, List.filter_cons, List.filter_nil, Dlo, Dnr, DnL, Dfree, Droom, DuS_S, DuS_I, DuS_L, DuS_R, DuS_N, DuS_A, DuI_S, DuI_I, DuI_L, DuI_R, DuI_N, DuI_A, DuL_S, DuL_I, DuL_L, DuL_R, DuL_N, DuL_A, DuR_S, DuR_I, DuR_L, DuR_R, DuR_N, DuR_A, Dnw_S, Dnw_I, Dnw_L, Dnw_R, Dnw_N, Dnw_A, DrI_S, DrI_I, DrI_L, DrI_R, DrI_N, DrI_A, DrJ_S, DrJ_I, DrJ_L, DrJ_R, DrJ_N, DrJ_A, dm64, G_d, G_x0, dL_mod, oX11_load, doII, joRI, -Int32.not_le, -Int32.not_lt, -Int64.not_le, -Int64.not_lt, i3lt, i6lt, hN8, hB8, G_d]
  try simp (disch := omega) [-Prod.forall, -Prod.exists, -Prod.mk.injEq, -Int32.not_le, -Int32.not_lt, -Int64.not_le, -Int64.not_lt, i3lt, i6lt, hN8, hB8, G_d]
  replace hP := bdP_nw (f := 24) (x := some 1105) (a := 1105) hP (by omega)
  obtain ⟨τ9, e9⟩ : ∃ τ9, τ9 = DuR (Dnw τ8 1105 N) 1000 24 (some 1105) := ⟨_, rfl⟩
  rw [← e9] at hP kk ⊢
  exact DW.wide (c1 := c0 + 19) (s1 := s0 + 85) (by omega) (by omega) kk
end ENA
