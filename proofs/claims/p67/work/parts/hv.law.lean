/-! the law's agree -/
def dgR (σ : dM) (k j : Nat) : Int32 := if j < k then DI σ 1107 j else DI σ 1102 j
def dgP (σ : dM) (N k j : Nat) : Int32 := if j < k then (if DI σ 1107 j < 0 then 0 else dyPay σ N N j) else DI σ 1103 j
def dgC (σ : dM) (p : Nat) : Int32 := if DI σ 1107 p < 0 then 0 else if DI σ 1107 p = DI σ 1102 p then 0 else 1
def dgS (σ τ : dM) (N k : Nat) : dM := DrI (DrI τ 1102 (dgR σ k)) 1103 (dgP σ N k)
def dX12_agree : dO := doR fun a σ => (a = 1000 ∧ dyPr σ 1125, fun v τ => v = some (.int (sm (dgC σ) (DI σ 1000 2).toNatClampNeg)) ∧ τ = dgS σ σ (DI σ 1000 2).toNatClampNeg (DI σ 1000 2).toNatClampNeg)
theorem dgS_s {σ τ : dM} {N k : Nat} {b x : Int32} (hb : b = DI σ 1107 k) (hx : x = if DI σ 1107 k < 0 then 0 else dyPay σ N N k) : DuI (DuI (dgS σ τ N k) 1102 k b) 1103 k x = dgS σ τ N (k + 1) := by
  refine Prod.ext rfl (Prod.ext (funext fun i => funext fun j => ?_) rfl)
  show (if i = 1103 ∧ j = k then x else if i = 1102 ∧ j = k then b else if i = 1103 then dgP σ N k j else if i = 1102 then dgR σ k j else DI τ i j) = if i = 1103 then dgP σ N (k + 1) j else if i = 1102 then dgR σ (k + 1) j else DI τ i j
  by_cases c : i = 1103
  · rw [if_pos c, if_pos c]
    by_cases e : j = k
    · rw [if_pos ⟨c, e⟩, hx, e]
      unfold dgP
      rw [if_pos (Nat.lt_succ_self _)]
    · rw [if_neg (fun z => e z.2), if_neg (fun z => e z.2)]
      unfold dgP
      have h1 : j < k + 1 ↔ j < k := by omega
      simp only [h1]
  · rw [if_neg (fun z => c z.1), if_neg c, if_neg c]
    by_cases d : i = 1102
    · rw [if_pos d, if_pos d]
      by_cases e : j = k
      · rw [if_pos ⟨d, e⟩, hb, e]
        unfold dgR
        rw [if_pos (Nat.lt_succ_self _)]
      · rw [if_neg (fun z => e z.2)]
        unfold dgR
        have h1 : j < k + 1 ↔ j < k := by omega
        simp only [h1]
    · rw [if_neg (fun z => d z.1), if_neg d, if_neg d]
theorem dgS_fr {σ τ : dM} {N k : Nat} : Dfr (fun i => i ≠ 1102 ∧ i ≠ 1103) τ (dgS σ τ N k) := ⟨rfl, fun i hi => ⟨funext fun j => by
  show (if i = 1103 then dgP σ N k j else if i = 1102 then dgR σ k j else DI τ i j) = DI τ i j
  rw [if_neg hi.2, if_neg hi.1], rfl, rfl, rfl, rfl⟩⟩
/-- the desk is one still, when only its ints change -/
theorem dk_I {σ τ : dM} {N M : Nat} (h : dk σ N M) (h1 : ∀ j, DI τ 1000 j = DI σ 1000 j) (h2 : DR τ = DR σ) (h3 : DN τ = DN σ) (h4 : DA τ = DA σ) (h5 : ∀ p, p < N → ∀ r, DI τ (1200 + p) r = DI σ (1200 + p) r) : dk τ N M := by
  obtain ⟨k1, k2, k3, k4, k5, k6⟩ := h
  refine ⟨k1, by rw [h1, h1]; exact k2, by rw [h4]; exact k3, by rw [h2]; exact k4, by rw [h3]; exact k5, fun p hp => ?_⟩
  rw [h2, h3, h4]
  refine ⟨(k6 p hp).1, (k6 p hp).2.1, fun r => ?_⟩
  rw [h5 p hp]
  exact (k6 p hp).2.2 r
theorem Dsub_cut {P : Nat → Prop} {δ ε : dM} (hcl : Dcl0 δ) (h : Dfr P δ ε) (hP : ∀ k, ¬ P k → DA δ k = false) : Dsub δ ε := by
  refine ⟨h.1.symm, hcl, fun k h1 hk => ?_⟩
  have d : P k := Classical.byContradiction (fun z => by rw [hP k z] at hk; cases hk)
  obtain ⟨e1, e2, e3, e4, e5⟩ := h.2 k d
  exact ⟨by rw [e5]; exact hk, e1.symm, e2.symm, e3.symm, e4.symm⟩
set_option maxRecDepth 100000 in
set_option maxHeartbeats 4000000 in
theorem EAg_1 {g : jG} {n : Nat} {z : dZ} {R : Option Value → dM → Nat → Nat → Prop} (hR : dRok g z mX12_agree R) (hz : z.1.frames = n + 4 ∧ z.1.locals = 64 * (n + 4) ∧ z.1.cells = 21 ∧ z.1.slots = 105) {σ τ : dM} {N M p : Nat} (hk : dk τ N M) (hB : DR τ 1000 21 = some 1107 ∧ DA τ 1107 = true ∧ DN τ 1107 = N) (hI : DI τ 1107 = DI σ 1107) (hP : DA τ 1125 = true ∧ DN τ 1125 = N ∧ ∀ j, DI τ 1125 j = dyPay σ N N j) (hp : p < N)
    (ih : DW g z mX12_agree 9 [(0, .ref 1000), (1, .ref 1125), (2, .int (sm (dgC σ) (p + 1))), (3, .int (nI (p + 1)))] [] (dgS σ τ N (p + 1)) 21 105) : DW g z mX12_agree 9 [(0, .ref 1000), (1, .ref 1125), (2, .int (sm (dgC σ) p)), (3, .int (nI p))] [] (dgS σ τ N p) 21 105 := by
  have hN := hk.1.1.2
  have hlt : ¬ nI N ≤ nI p := nI_ge hp (by omega)
  have hj : jin (nI p) N := jinN hp (by omega)
  have ep : (nI p).toNatClampNeg = p := nI_clamp (by omega)
  have f4 := dgS_fr (σ := σ) (τ := τ) (N := N) (k := p)
  have v2 : DI (dgS σ τ N p) 1102 p = DI σ 1102 p := by
    show (if (1102 : Nat) = 1103 then dgP σ N p p else if (1102 : Nat) = 1102 then dgR σ p p else DI τ 1102 p) = _
    rw [if_neg (by decide), if_pos rfl]
    unfold dgR
    rw [if_neg (Nat.lt_irrefl _)]
  obtain ⟨σ4, e4⟩ : ∃ σ4, σ4 = dgS σ τ N p := ⟨_, rfl⟩
  rw [← e4] at f4 v2
  have hf : _ := dk_f (dk_I (τ := σ4) hk (fun j => by rw [(f4.2 1000 (by decide)).1]) (by rw [e4]; rfl) (by rw [e4]; rfl) (by rw [e4]; rfl) (fun q hq r => by rw [(f4.2 (1200 + q) (by omega)).1]))
  have b := f4.2 1107 (by decide)
  have c := f4.2 1125 (by decide)
  have d0 := f4.2 1000 (by decide)
  have hB' : DR σ4 1000 21 = some 1107 ∧ DA σ4 1107 = true ∧ DN σ4 1107 = N := by rw [d0.2.2.1, b.2.2.2.2, b.2.2.2.1]; exact hB
  have hI' : ∀ j, DI σ4 1107 j = DI σ 1107 j := fun j => by rw [b.1, hI]
  have hP' : DA σ4 1125 = true ∧ DN σ4 1125 = N ∧ DI σ4 1125 p = dyPay σ N N p := by rw [c.2.2.2.2, c.2.2.2.1, c.1]; exact ⟨hP.1, hP.2.1, hP.2.2 p⟩
  have e0 : sm (dgC σ) (p + 1) = sm (dgC σ) p + dgC σ p := rfl
  rw [← dgS_s rfl rfl, ← e4, ← nI_1, e0] at ih
  rw [← e4]
  by_cases c1 : DI σ 1107 p < 0
  · have e1 : dgC σ p = 0 := by unfold dgC; rw [if_pos c1]
    rw [e1, Int32.add_zero, if_pos c1] at ih
    refine dvk_ok (nC := n + 3) DX12_agree hTyA hR (VC := []) (VD := []) (SD := []) (AL := []) (fun _ h => absurd h List.not_mem_nil) (fun _ h => absurd h List.not_mem_nil) (fun _ h => absurd h List.not_mem_nil) [9] 60 _ _ _ _ _ _ ?_
    simp (maxSteps := 1000000) [↓Bool.cond_eq_ite, -Prod.forall, -Prod.exists, -Prod.mk.injEq, dvk, tX12_agree, jtb, jol, dvl, dal, dst, jlk, jcmp, jbin, jfl, qX12, jc2, qlX12, jcat, jel, lv_args, Value.category, jins, jsrt, jins2, jble, jblt, jf3, List.filter_cons, List.filter_nil, Dlo, Dnr, DnL, Dfree, Droom, DuS_S, DuS_I, DuS_L, DuS_R, DuS_N, DuS_A, DuI_S, DuI_I, DuI_L, DuI_R, DuI_N, DuI_A, DuL_S, DuL_I, DuL_L, DuL_R, DuL_N, DuL_A, DuR_S, DuR_I, DuR_L, DuR_R, DuR_N, DuR_A, Dnw_S, Dnw_I, Dnw_L, Dnw_R, Dnw_N, Dnw_A, DrI_S, DrI_I, DrI_L, DrI_R, DrI_N, DrI_A, DrJ_S, DrJ_I, DrJ_L, DrJ_R, DrJ_N, DrJ_A, dm64, G_d, G_x0, -Int32.not_le, -Int32.not_lt, -Int64.not_le, -Int64.not_lt, i3lt, i6lt, hf, hlt, hz, hj, ep, hB', hI', hP', v2, c1]
    try simp (disch := omega) [-Prod.forall, -Prod.exists, -Prod.mk.injEq, -Int32.not_le, -Int32.not_lt, -Int64.not_le, -Int64.not_lt, i3lt, i6lt, hf, hlt, hz, hj, ep, hB', hI', hP', v2, c1]
    exact ih
  · rw [if_neg c1] at ih
    by_cases c2 : DI σ 1107 p = DI σ 1102 p
    · have e1 : dgC σ p = 0 := by unfold dgC; rw [if_neg c1, if_pos c2]
      rw [e1, Int32.add_zero] at ih
      have c1' := c1
      rw [c2] at c1' ih
      refine dvk_ok (nC := n + 3) DX12_agree hTyA hR (VC := []) (VD := []) (SD := []) (AL := []) (fun _ h => absurd h List.not_mem_nil) (fun _ h => absurd h List.not_mem_nil) (fun _ h => absurd h List.not_mem_nil) [9] 60 _ _ _ _ _ _ ?_
      simp (maxSteps := 1000000) [↓Bool.cond_eq_ite, -Prod.forall, -Prod.exists, -Prod.mk.injEq, dvk, tX12_agree, jtb, jol, dvl, dal, dst, jlk, jcmp, jbin, jfl, qX12, jc2, qlX12, jcat, jel, lv_args, Value.category, jins, jsrt, jins2, jble, jblt, jf3, List.filter_cons, List.filter_nil, Dlo, Dnr, DnL, Dfree, Droom, DuS_S, DuS_I, DuS_L, DuS_R, DuS_N, DuS_A, DuI_S, DuI_I, DuI_L, DuI_R, DuI_N, DuI_A, DuL_S, DuL_I, DuL_L, DuL_R, DuL_N, DuL_A, DuR_S, DuR_I, DuR_L, DuR_R, DuR_N, DuR_A, Dnw_S, Dnw_I, Dnw_L, Dnw_R, Dnw_N, Dnw_A, DrI_S, DrI_I, DrI_L, DrI_R, DrI_N, DrI_A, DrJ_S, DrJ_I, DrJ_L, DrJ_R, DrJ_N, DrJ_A, dm64, G_d, G_x0, -Int32.not_le, -Int32.not_lt, -Int64.not_le, -Int64.not_lt, i3lt, i6lt, hf, hlt, hz, hj, ep, hB', hI', hP', v2, c1, c1', c2]
      try simp (disch := omega) [-Prod.forall, -Prod.exists, -Prod.mk.injEq, -Int32.not_le, -Int32.not_lt, -Int64.not_le, -Int64.not_lt, i3lt, i6lt, hf, hlt, hz, hj, ep, hB', hI', hP', v2, c1, c1', c2]
      exact ih
    · have e1 : dgC σ p = 1 := by unfold dgC; rw [if_neg c1, if_neg c2]
      rw [e1] at ih
      refine dvk_ok (nC := n + 3) DX12_agree hTyA hR (VC := []) (VD := []) (SD := []) (AL := []) (fun _ h => absurd h List.not_mem_nil) (fun _ h => absurd h List.not_mem_nil) (fun _ h => absurd h List.not_mem_nil) [9] 60 _ _ _ _ _ _ ?_
      simp (maxSteps := 1000000) [↓Bool.cond_eq_ite, -Prod.forall, -Prod.exists, -Prod.mk.injEq, dvk, tX12_agree, jtb, jol, dvl, dal, dst, jlk, jcmp, jbin, jfl, qX12, jc2, qlX12, jcat, jel, lv_args, Value.category, jins, jsrt, jins2, jble, jblt, jf3, List.filter_cons, List.filter_nil, Dlo, Dnr, DnL, Dfree, Droom, DuS_S, DuS_I, DuS_L, DuS_R, DuS_N, DuS_A, DuI_S, DuI_I, DuI_L, DuI_R, DuI_N, DuI_A, DuL_S, DuL_I, DuL_L, DuL_R, DuL_N, DuL_A, DuR_S, DuR_I, DuR_L, DuR_R, DuR_N, DuR_A, Dnw_S, Dnw_I, Dnw_L, Dnw_R, Dnw_N, Dnw_A, DrI_S, DrI_I, DrI_L, DrI_R, DrI_N, DrI_A, DrJ_S, DrJ_I, DrJ_L, DrJ_R, DrJ_N, DrJ_A, dm64, G_d, G_x0, -Int32.not_le, -Int32.not_lt, -Int64.not_le, -Int64.not_lt, i3lt, i6lt, hf, hlt, hz, hj, ep, hB', hI', hP', v2, c1, c2]
      try simp (disch := omega) [-Prod.forall, -Prod.exists, -Prod.mk.injEq, -Int32.not_le, -Int32.not_lt, -Int64.not_le, -Int64.not_lt, i3lt, i6lt, hf, hlt, hz, hj, ep, hB', hI', hP', v2, c1, c2]
      exact ih
set_option maxRecDepth 100000 in
set_option maxHeartbeats 4000000 in
theorem EX12_agree (g : jG) (h0 n : Nat) (hE : dEs g) : dOk g h0 (n + 4) 21 105 [1125, 1123, 1120, 1121, 1401, 1115, 1116, 1117, 1118, 1119, 1210, 1311, 1124, 1310, 1312] mX12_agree dX12_agree := by
  refine doR_ok ?_
  rintro _ σ ⟨rfl, hpre⟩
  obtain ⟨N, M, A, m, inc, hk, hB, hBr, hρ, hn, hfr, hno, d7, hrest⟩ := id hpre
  have hN := hk.1.1
  have hN5 : N ≤ 5 := hN.2
  have hf := dk_f hk
  have eN : (nI N).toNatClampNeg = N := nI_clamp (by omega)
  refine dCon.go (by decide +kernel) (by simp [lg_sl, Value.category]) (fun z hkp hcl hz post hp hR => ?_)
  simp only [DkF] at hkp
  refine dvk_ok (nC := n + 3) DX12_agree hTyA hR (VC := []) (VD := [(219, 1, 12, n + 3, 0, 21, 105, [1125, 1123, 1120, 1121, 1401, 1115, 1116, 1117, 1118, 1119, 1210, 1311, 1124, 1310, 1312], (dX12_payments 1125))]) (SD := []) (AL := []) (fun _ h => absurd h List.not_mem_nil) (List.forall_mem_cons.mpr ⟨⟨mX12_payments, 0, TX12, 25, rfl, by decide, hX12_219, WX12_payments, rfl, EX12_payments g _ n hE 1125⟩, (fun _ h => absurd h List.not_mem_nil)⟩) (fun _ h => absurd h List.not_mem_nil) [4] 10 _ _ _ _ _ _ ?_
  simp (maxSteps := 1000000) [↓Bool.cond_eq_ite, -Prod.forall, -Prod.exists, -Prod.mk.injEq, dvk, tX12_agree, jtb, jol, dvl, dal, dst, jlk, jcmp, jbin, jfl, qX12, jc2, qlX12, jcat, jel, lv_args, Value.category, jins, jsrt, jins2, jble, jblt, jf3, List.filter_cons, List.filter_nil, Dlo, Dnr, DnL, Dfree, Droom, DuS_S, DuS_I, DuS_L, DuS_R, DuS_N, DuS_A, DuI_S, DuI_I, DuI_L, DuI_R, DuI_N, DuI_A, DuL_S, DuL_I, DuL_L, DuL_R, DuL_N, DuL_A, DuR_S, DuR_I, DuR_L, DuR_R, DuR_N, DuR_A, Dnw_S, Dnw_I, Dnw_L, Dnw_R, Dnw_N, Dnw_A, DrI_S, DrI_I, DrI_L, DrI_R, DrI_N, DrI_A, DrJ_S, DrJ_I, DrJ_L, DrJ_R, DrJ_N, DrJ_A, dm64, G_d, G_x0, dX12_payments, doR, -Int32.not_le, -Int32.not_lt, -Int64.not_le, -Int64.not_lt, i3lt, i6lt, hf, eN, hpre, hkp, hz]
  try simp (disch := omega) [-Prod.forall, -Prod.exists, -Prod.mk.injEq, -Int32.not_le, -Int32.not_lt, -Int64.not_le, -Int64.not_lt, i3lt, i6lt, hf, eN, hpre, hkp, hz]
  obtain ⟨τ, e1⟩ : ∃ τ, τ = DrI (Dnw σ 1125 N) 1125 (dyPay σ N N) := ⟨_, rfl⟩
  have f1 : Dfr (fun k => k ≠ 1125) σ τ := by rw [e1]; exact Dfr_new
  have hk1 : dk τ N M := dk_fr (fun k hk9 => by unfold dkI at hk9; omega) f1 hk
  have b := f1.2 1107 (by decide)
  have d0 := f1.2 1000 (by decide)
  have hB1 : DR τ 1000 21 = some 1107 ∧ DA τ 1107 = true ∧ DN τ 1107 = N := by rw [d0.2.2.1, b.2.2.2.2, b.2.2.2.1]; exact hB
  have hP : DA τ 1125 = true ∧ DN τ 1125 = N ∧ ∀ j, DI τ 1125 j = dyPay σ N N j := by
    rw [e1]
    exact ⟨by rw [DrI_A, Dnw_A, if_pos rfl], by rw [DrI_N, Dnw_N, if_pos rfl], fun j => by rw [DrI_I, if_pos rfl]⟩
  have e0 : dgS σ τ N 0 = τ := by
    unfold dgS
    rw [DrI_eq (τ := τ) (fun j => by unfold dgR; rw [if_neg (Nat.not_lt_zero _), (f1.2 1102 (by decide)).1])]
    exact DrI_eq (fun j => by unfold dgP; rw [if_neg (Nat.not_lt_zero _), (f1.2 1103 (by decide)).1])
  have hsub : Dsub (dgS σ σ N N) (dgS σ τ N N) := by
    refine Dsub_cut (P := fun k => k ≠ 1125) hcl ⟨f1.1, fun k hk9 => ?_⟩ (fun k hk9 => ?_)
    · obtain ⟨q1, q2, q3, q4, q5⟩ := f1.2 k hk9
      refine ⟨funext fun j => ?_, q2, q3, q4, q5⟩
      show (if k = 1103 then dgP σ N N j else if k = 1102 then dgR σ N j else DI τ k j) = if k = 1103 then dgP σ N N j else if k = 1102 then dgR σ N j else DI σ k j
      rw [q1]
    · have : k = 1125 := by omega
      subst this
      exact d7
  have hfin := hp (some (.int (sm (dgC σ) N))) (dgS σ σ N N) ⟨by rw [hf.1.2, eN], by rw [hf.1.2, eN]⟩
  have hz2 : z.1.frames = n + 4 ∧ z.1.locals = 64 * (n + 4) ∧ z.1.cells = 21 ∧ z.1.slots = 105 := hz
  have key := jloop (P := fun p => DW g z mX12_agree 9 [(0, .ref 1000), (1, .ref 1125), (2, .int (sm (dgC σ) p)), (3, .int (nI p))] [] (dgS σ τ N p) 21 105) (N := N) (by
    have hle : nI N ≤ nI N := nI_le (Nat.le_refl _) (by omega)
    obtain ⟨σ4, e4⟩ : ∃ σ4, σ4 = dgS σ τ N N := ⟨_, rfl⟩
    have f4 := dgS_fr (σ := σ) (τ := τ) (N := N) (k := N)
    rw [← e4] at f4 hsub ⊢
    have hf4 := dk_f (dk_I (τ := σ4) hk1 (fun j => by rw [(f4.2 1000 (by decide)).1]) (by rw [e4]; rfl) (by rw [e4]; rfl) (by rw [e4]; rfl) (fun q hq r => by rw [(f4.2 (1200 + q) (by omega)).1]))
    refine dvk_ok (nC := n + 3) DX12_agree hTyA hR (VC := []) (VD := []) (SD := []) (AL := []) (fun _ h => absurd h List.not_mem_nil) (fun _ h => absurd h List.not_mem_nil) (fun _ h => absurd h List.not_mem_nil) [9] 20 _ _ _ _ _ _ ?_
    simp (maxSteps := 1000000) [↓Bool.cond_eq_ite, -Prod.forall, -Prod.exists, -Prod.mk.injEq, dvk, tX12_agree, jtb, jol, dvl, dal, dst, jlk, jcmp, jbin, jfl, qX12, jc2, qlX12, jcat, jel, lv_args, Value.category, jins, jsrt, jins2, jble, jblt, jf3, List.filter_cons, List.filter_nil, Dlo, Dnr, DnL, Dfree, Droom, DuS_S, DuS_I, DuS_L, DuS_R, DuS_N, DuS_A, DuI_S, DuI_I, DuI_L, DuI_R, DuI_N, DuI_A, DuL_S, DuL_I, DuL_L, DuL_R, DuL_N, DuL_A, DuR_S, DuR_I, DuR_L, DuR_R, DuR_N, DuR_A, Dnw_S, Dnw_I, Dnw_L, Dnw_R, Dnw_N, Dnw_A, DrI_S, DrI_I, DrI_L, DrI_R, DrI_N, DrI_A, DrJ_S, DrJ_I, DrJ_L, DrJ_R, DrJ_N, DrJ_A, dm64, G_d, G_x0, -Int32.not_le, -Int32.not_lt, -Int64.not_le, -Int64.not_lt, i3lt, i6lt, hf4, hle, hz]
    try simp (disch := omega) [-Prod.forall, -Prod.exists, -Prod.mk.injEq, -Int32.not_le, -Int32.not_lt, -Int64.not_le, -Int64.not_lt, i3lt, i6lt, hf4, hle, hz]
    exact ⟨⟨by omega, by omega⟩, _, hsub, hfin⟩) (fun p hp9 ih2 => EAg_1 hR hz2 hk1 hB1 b.1 hP hp9 ih2)
  rw [e0] at key
  rw [← e1]
  rw [nI_0] at key
  have s0 : sm (dgC σ) 0 = 0 := rfl
  rw [s0] at key
  refine dvk_ok (nC := n + 3) DX12_agree hTyA hR (VC := []) (VD := []) (SD := []) (AL := []) (fun _ h => absurd h List.not_mem_nil) (fun _ h => absurd h List.not_mem_nil) (fun _ h => absurd h List.not_mem_nil) [9] 10 _ _ _ _ _ _ ?_
  simp (maxSteps := 1000000) [↓Bool.cond_eq_ite, -Prod.forall, -Prod.exists, -Prod.mk.injEq, dvk, tX12_agree, jtb, jol, dvl, dal, dst, jlk, jcmp, jbin, jfl, qX12, jc2, qlX12, jcat, jel, lv_args, Value.category, jins, jsrt, jins2, jble, jblt, jf3, List.filter_cons, List.filter_nil, Dlo, Dnr, DnL, Dfree, Droom, DuS_S, DuS_I, DuS_L, DuS_R, DuS_N, DuS_A, DuI_S, DuI_I, DuI_L, DuI_R, DuI_N, DuI_A, DuL_S, DuL_I, DuL_L, DuL_R, DuL_N, DuL_A, DuR_S, DuR_I, DuR_L, DuR_R, DuR_N, DuR_A, Dnw_S, Dnw_I, Dnw_L, Dnw_R, Dnw_N, Dnw_A, DrI_S, DrI_I, DrI_L, DrI_R, DrI_N, DrI_A, DrJ_S, DrJ_I, DrJ_L, DrJ_R, DrJ_N, DrJ_A, dm64, G_d, G_x0, -Int32.not_le, -Int32.not_lt, -Int64.not_le, -Int64.not_lt, i3lt, i6lt, hz]
  try simp (disch := omega) [-Prod.forall, -Prod.exists, -Prod.mk.injEq, -Int32.not_le, -Int32.not_lt, -Int64.not_le, -Int64.not_lt, i3lt, i6lt, hz]
  exact key
