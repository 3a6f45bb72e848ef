/-! the law's split, its end and its beginning -/
theorem Dw1 {σ : dM} {N : Nat} (d1 : DA σ 1124 = false) (d2 : DA σ 1310 = false) : let σ1 := Dnw (Dnw σ 1124 N) 1310 N
    (∀ k, k ≠ 1124 → k ≠ 1310 → DA σ1 k = DA σ k) ∧ (∀ k, k ≠ 1124 → k ≠ 1310 → DN σ1 k = DN σ k) ∧ (∀ k, k ≠ 1124 → k ≠ 1310 → DI σ1 k = DI σ k) ∧ (∀ k, k ≠ 1124 → k ≠ 1310 → DL σ1 k = DL σ k) ∧ (∀ k, k ≠ 1124 → k ≠ 1310 → DR σ1 k = DR σ k) := by
  intro σ1
  refine ⟨fun k h1 h2 => ?_, fun k h1 h2 => ?_, fun k h1 h2 => funext fun j => ?_, fun k h1 h2 => funext fun j => ?_, fun k h1 h2 => funext fun j => ?_⟩
  · show (if k = 1310 then true else if k = 1124 then true else DA σ k) = DA σ k
    rw [if_neg h2, if_neg h1]
  · show (if k = 1310 then N else if k = 1124 then N else DN σ k) = DN σ k
    rw [if_neg h2, if_neg h1]
  · show (if k = 1310 then 0 else if k = 1124 then 0 else DI σ k j) = DI σ k j
    rw [if_neg h2, if_neg h1]
  · show (if k = 1310 then 0 else if k = 1124 then 0 else DL σ k j) = DL σ k j
    rw [if_neg h2, if_neg h1]
  · show (if k = 1310 then none else if k = 1124 then none else DR σ k j) = DR σ k j
    rw [if_neg h2, if_neg h1]
/-- the two new rows are forgotten but one -/
theorem Dsub_sp {σ : dM} {N : Nat} (hcl : Dcl0 σ) (d1 : DA σ 1124 = false) (d2 : DA σ 1310 = false) (s : (Nat → Int32) × (Nat → Int64)) : Dsub (DrI (Dnw σ 1124 N) 1124 s.1) (rsD (Dnw (Dnw σ 1124 N) 1310 N) 1124 1310 s) := by
  obtain ⟨a1, a2, a3, a4, a5⟩ := Dw1 (N := N) d1 d2
  refine Dsub_2 (b := 1310) hcl (by decide) d1 d2 rfl ⟨rfl, a1⟩ ⟨rfl, a2⟩ ⟨fun j => rfl, fun k h1 h2 => ?_⟩ ⟨fun j => rfl, fun k h1 h2 => ?_⟩ ⟨fun j => rfl, a5⟩
  · rw [← a3 k h1 h2]
    funext j
    show (if k = 1124 then s.1 j else DI (Dnw (Dnw σ 1124 N) 1310 N) k j) = _
    rw [if_neg h1]
  · rw [← a4 k h1 h2]
    funext j
    show (if k = 1310 then s.2 j else DL (Dnw (Dnw σ 1124 N) 1310 N) k j) = _
    rw [if_neg h2]
theorem rsD_rsD {σ : dM} {a b : Nat} {s t : (Nat → Int32) × (Nat → Int64)} : rsD (rsD σ a b s) a b t = rsD σ a b t := by
  refine Prod.ext rfl (Prod.ext (funext fun i => funext fun j => ?_) (Prod.ext (funext fun i => funext fun j => ?_) rfl))
  · show (if i = a then t.1 j else if i = a then s.1 j else σ.2.1 i j) = if i = a then t.1 j else σ.2.1 i j
    by_cases c : i = a
    · rw [if_pos c, if_pos c]
    · rw [if_neg c, if_neg c, if_neg c]
  · show (if i = b then t.2 j else if i = b then s.2 j else σ.2.2.1 i j) = if i = b then t.2 j else σ.2.2.1 i j
    by_cases c : i = b
    · rw [if_pos c, if_pos c]
    · rw [if_neg c, if_neg c, if_neg c]
set_option maxRecDepth 100000 in
set_option maxHeartbeats 4000000 in
theorem ESp_end {g : jG} {n : Nat} {z : dZ} {post : Option Value → dM → Prop} (hR : dRok g z mX12_split (dRp 2 10 post)) (hz : z.1.frames = n + 1 ∧ z.1.locals = 64 * (n + 1) ∧ z.1.cells = 2 ∧ z.1.slots = 10) {σ : dM} {w N A : Nat} {wt : Nat → Nat} (hcl : Dcl0 σ) (d1 : DA σ 1124 = false) (d2 : DA σ 1310 = false) (C : spC σ (Dnw (Dnw σ 1124 N) 1310 N) w N) (hN5 : N ≤ 5) (hA : A ≤ 99999)
    (hc : ¬ cn (fun p => !decide (DI σ 1210 p = 0)) N = 0) (hp' : ∀ τ, τ = DrI (Dnw σ 1124 N) 1124 (uRow A (DI σ 1210) wt N) → post (some (.ref 1124)) τ) : DW g z mX12_split 126 (spL3 A w (DI σ 1210) wt N N) [] (spS3 (Dnw (Dnw σ 1124 N) 1310 N) A (DI σ 1210) wt N N) 2 10 := by
  obtain ⟨g0, gh, gw, hw⟩ := C
  have hle : nI N ≤ nI N := nI_le (Nat.le_refl _) (by omega)
  obtain ⟨σ1, e1⟩ : ∃ σ1, σ1 = Dnw (Dnw σ 1124 N) 1310 N := ⟨_, rfl⟩
  obtain ⟨h, eh⟩ : ∃ h, h = DI σ 1210 := ⟨_, rfl⟩
  rw [← e1] at g0 gh gw ⊢
  rw [← eh] at hc hp' ⊢
  obtain ⟨hU, hex⟩ := uSum_pos (wt := wt) hc
  obtain ⟨σ2, e2⟩ : ∃ σ2, σ2 = spS3 σ1 A h wt N N := ⟨_, rfl⟩
  have f0 : DA σ2 1000 = true ∧ DI σ2 1000 2 = nI N ∧ DA σ2 1210 = true ∧ DN σ2 1210 = N ∧ DA σ2 w = true ∧ DN σ2 w = N ∧ DA σ2 1124 = true ∧ DN σ2 1124 = N ∧ DA σ2 1310 = true ∧ DN σ2 1310 = N := by
    rw [e2]
    exact g0
  have fh : DI σ2 1210 = h := by
    rw [e2, eh]
    exact funext gh
  obtain ⟨m, em⟩ : ∃ m, m = A - smN (uQ A h wt N) N := ⟨_, rfl⟩
  have hmA : m ≤ 99999 := by omega
  have hpre : prRs σ2 1124 1310 1210 (nI m) := ⟨N, m, hN5, ⟨by decide +kernel, by decide +kernel, by decide +kernel, by decide +kernel⟩, ⟨f0.2.2.2.2.2.2.1, f0.2.2.2.2.2.2.2.2.1, f0.2.2.1⟩, ⟨f0.2.2.2.2.2.2.2.1, f0.2.2.2.2.2.2.2.2.2, f0.2.2.2.1⟩, rfl, by omega, fun _ => by rw [fh]; exact hex⟩
  have emc : (nI m).toNatClampNeg = m := nI_clamp (by omega)
  have eS : (DI σ2 1124, DL σ2 1310) = (fillI (fun p => nI (uQ A h wt N p)) N, fillL (fun p => lN (uR A h wt N p)) N) := by
    rw [e2]
    refine Prod.ext (funext fun j => ?_) (funext fun j => ?_)
    · rfl
    · rfl
  have eL : spL3 A w h wt N N = [(0, .ref 1000), (1, .int (nI A)), (2, .ref w), (3, .ref 1210), (4, .ref 1124), (5, .ref 1310), (6, .long (lN (uAll h wt N))), (9, .long (lN (uSum h wt N))), (11, .int (nI m)), (12, .int (nI N))] := by
    unfold spL3
    rw [em]
  rw [eL, ← e2]
  refine dvk_ok (nC := n + 0) DX12_split hTyA hR (VC := []) (VD := []) (SD := [(181, 4, 0, n + 0, 0, 0, 0, [], dX12_rest)]) (AL := []) (fun _ h => absurd h List.not_mem_nil) (fun _ h => absurd h List.not_mem_nil) (List.forall_mem_cons.mpr ⟨⟨mX12_rest, by decide, Or.inl hX12_181, WX12_rest, EX12_rest g _ n⟩, (fun _ h => absurd h List.not_mem_nil)⟩) [126, 219] 20 _ _ _ _ _ _ ?_
  simp (maxSteps := 1000000) [↓Bool.cond_eq_ite, -Prod.forall, -Prod.exists, -Prod.mk.injEq, dvk, tX12_split, jtb, jol, dvl, dal, dst, jlk, jcmp, jbin, jfl, qX12, jc2, qlX12, jcat, jel, lv_args, Value.category, jins, jsrt, jins2, jble, jblt, jf3, List.filter_cons, List.filter_nil, Dlo, Dnr, DnL, Dfree, Droom, DuS_S, DuS_I, DuS_L, DuS_R, DuS_N, DuS_A, DuI_S, DuI_I, DuI_L, DuI_R, DuI_N, DuI_A, DuL_S, DuL_I, DuL_L, DuL_R, DuL_N, DuL_A, DuR_S, DuR_I, DuR_L, DuR_R, DuR_N, DuR_A, Dnw_S, Dnw_I, Dnw_L, Dnw_R, Dnw_N, Dnw_A, DrI_S, DrI_I, DrI_L, DrI_R, DrI_N, DrI_A, DrJ_S, DrJ_I, DrJ_L, DrJ_R, DrJ_N, DrJ_A, dm64, G_d, G_x0, dX12_rest, doRRRI, -Int32.not_le, -Int32.not_lt, -Int64.not_le, -Int64.not_lt, i3lt, i6lt, f0, hle, hz, hpre, emc, fh, eS]
  try simp (disch := omega) [-Prod.forall, -Prod.exists, -Prod.mk.injEq, -Int32.not_le, -Int32.not_lt, -Int64.not_le, -Int64.not_lt, i3lt, i6lt, f0, hle, hz, hpre, emc, fh, eS]
  refine DW.cl (fun hcl2 => ?_)
  have hfin : post (some (.ref 1124)) (DrI (Dnw σ 1124 N) 1124 (uRow A h wt N)) := hp' _ rfl
  have hsub : Dsub (DrI (Dnw σ 1124 N) 1124 (uRow A h wt N)) (rsD σ2 1124 1310 (rsS h N m (fillI (fun p => nI (uQ A h wt N p)) N, fillL (fun p => lN (uR A h wt N p)) N))) := by
    rw [e2, e1]
    unfold spS3
    rw [rsD_rsD]
    unfold uRow
    rw [if_neg hc, ← em]
    exact Dsub_sp hcl d1 d2 _
  refine dvk_ok (nC := n + 0) DX12_split hTyA hR (VC := []) (VD := []) (SD := [(181, 4, 0, n + 0, 0, 0, 0, [], dX12_rest)]) (AL := []) (fun _ h => absurd h List.not_mem_nil) (fun _ h => absurd h List.not_mem_nil) (List.forall_mem_cons.mpr ⟨⟨mX12_rest, by decide, Or.inl hX12_181, WX12_rest, EX12_rest g _ n⟩, (fun _ h => absurd h List.not_mem_nil)⟩) [126] 20 _ _ _ _ _ _ ?_
  simp (maxSteps := 1000000) [↓Bool.cond_eq_ite, -Prod.forall, -Prod.exists, -Prod.mk.injEq, dvk, tX12_split, jtb, jol, dvl, dal, dst, jlk, jcmp, jbin, jfl, qX12, jc2, qlX12, jcat, jel, lv_args, Value.category, jins, jsrt, jins2, jble, jblt, jf3, List.filter_cons, List.filter_nil, Dlo, Dnr, DnL, Dfree, Droom, DuS_S, DuS_I, DuS_L, DuS_R, DuS_N, DuS_A, DuI_S, DuI_I, DuI_L, DuI_R, DuI_N, DuI_A, DuL_S, DuL_I, DuL_L, DuL_R, DuL_N, DuL_A, DuR_S, DuR_I, DuR_L, DuR_R, DuR_N, DuR_A, Dnw_S, Dnw_I, Dnw_L, Dnw_R, Dnw_N, Dnw_A, DrI_S, DrI_I, DrI_L, DrI_R, DrI_N, DrI_A, DrJ_S, DrJ_I, DrJ_L, DrJ_R, DrJ_N, DrJ_A, dm64, G_d, G_x0, dX12_rest, doRRRI, -Int32.not_le, -Int32.not_lt, -Int64.not_le, -Int64.not_lt, i3lt, i6lt, f0, hle, hz]
  try simp (disch := omega) [-Prod.forall, -Prod.exists, -Prod.mk.injEq, -Int32.not_le, -Int32.not_lt, -Int64.not_le, -Int64.not_lt, i3lt, i6lt, f0, hle, hz]
  exact ⟨⟨by omega, by omega⟩, _, hsub, hfin⟩

set_option maxRecDepth 100000 in
set_option maxHeartbeats 4000000 in
theorem ESp_main {g : jG} {n : Nat} {z : dZ} {post : Option Value → dM → Prop} (hR : dRok g z mX12_split (dRp 2 10 post)) (hz : z.1.frames = n + 1 ∧ z.1.locals = 64 * (n + 1) ∧ z.1.cells = 2 ∧ z.1.slots = 10) {σ : dM} {w N A : Nat} {wt : Nat → Nat} (hcl : Dcl0 σ) (d1 : DA σ 1124 = false) (d2 : DA σ 1310 = false) (C : spC σ (Dnw (Dnw σ 1124 N) 1310 N) w N) (hN5 : N ≤ 5) (hA : A ≤ 99999) (hwt : ∀ p, p < N → DL σ w p = lN (wt p) ∧ wt p ≤ 100000000)
    (hc : ¬ cn (fun p => !decide (DI σ 1210 p = 0)) N = 0) (hp' : ∀ τ, τ = DrI (Dnw σ 1124 N) 1124 (uRow A (DI σ 1210) wt N) → post (some (.ref 1124)) τ) : DW g z mX12_split 118 [(0, .ref 1000), (1, .int (nI A)), (2, .ref w), (3, .ref 1210), (4, .ref 1124), (5, .ref 1310), (6, .long (lN (uAll (DI σ 1210) wt N)))] [.long (lN (uSum (DI σ 1210) wt N))] (Dnw (Dnw σ 1124 N) 1310 N) 2 10 := by
  have hU0 := (uSum_pos (wt := wt) hc).1
  have hUe := uSum_eq (DI σ 1210) wt N
  have hcn := cn_le (fun p => !decide (DI σ 1210 p = 0)) N
  have hWb : uAll (DI σ 1210) wt N ≤ 500000000 := by
    have := smN_le (f := fun p => if DI σ 1210 p = 0 then 0 else wt p) (B := 100000000) N (fun i hi => by
      show (if DI σ 1210 i = 0 then 0 else wt i) ≤ _
      split
      · omega
      · exact (hwt i hi).2)
    unfold uAll
    omega
  have hUb : uSum (DI σ 1210) wt N ≤ 500000005 := by
    rw [hUe]
    split <;> omega
  have key := jloop (P := fun k => DW g z mX12_split 126 (spL3 A w (DI σ 1210) wt N k) [] (spS3 (Dnw (Dnw σ 1124 N) 1310 N) A (DI σ 1210) wt N k) 2 10) (N := N) (ESp_end hR hz hcl d1 d2 C hN5 hA hc hp') (fun k hk ih => ESp_step hR hz C hN5 hA hwt ⟨hU0, hUb⟩ hWb hk ih)
  have e0 : spS3 (Dnw (Dnw σ 1124 N) 1310 N) A (DI σ 1210) wt N 0 = Dnw (Dnw σ 1124 N) 1310 N := by
    refine Prod.ext rfl (Prod.ext (funext fun i => funext fun j => ?_) (Prod.ext (funext fun i => funext fun j => ?_) rfl))
    · show (if i = 1124 then (0 : Int32) else DI (Dnw (Dnw σ 1124 N) 1310 N) i j) = DI (Dnw (Dnw σ 1124 N) 1310 N) i j
      by_cases c : i = 1124
      · rw [if_pos c, c]
        rfl
      · rw [if_neg c]
    · show (if i = 1310 then (0 : Int64) else DL (Dnw (Dnw σ 1124 N) 1310 N) i j) = DL (Dnw (Dnw σ 1124 N) 1310 N) i j
      by_cases c : i = 1310
      · rw [if_pos c, c]
        rfl
      · rw [if_neg c]
  rw [e0] at key
  refine dvk_ok (nC := n + 0) DX12_split hTyA hR (VC := []) (VD := []) (SD := [(181, 4, 0, n + 0, 0, 0, 0, [], dX12_rest)]) (AL := []) (fun _ h => absurd h List.not_mem_nil) (fun _ h => absurd h List.not_mem_nil) (List.forall_mem_cons.mpr ⟨⟨mX12_rest, by decide, Or.inl hX12_181, WX12_rest, EX12_rest g _ n⟩, (fun _ h => absurd h List.not_mem_nil)⟩) [126] 10 _ _ _ _ _ _ ?_
  simp (maxSteps := 1000000) [↓Bool.cond_eq_ite, -Prod.forall, -Prod.exists, -Prod.mk.injEq, dvk, tX12_split, jtb, jol, dvl, dal, dst, jlk, jcmp, jbin, jfl, qX12, jc2, qlX12, jcat, jel, lv_args, Value.category, jins, jsrt, jins2, jble, jblt, jf3, List.filter_cons, List.filter_nil, Dlo, Dnr, DnL, Dfree, Droom, DuS_S, DuS_I, DuS_L, DuS_R, DuS_N, DuS_A, DuI_S, DuI_I, DuI_L, DuI_R, DuI_N, DuI_A, DuL_S, DuL_I, DuL_L, DuL_R, DuL_N, DuL_A, DuR_S, DuR_I, DuR_L, DuR_R, DuR_N, DuR_A, Dnw_S, Dnw_I, Dnw_L, Dnw_R, Dnw_N, Dnw_A, DrI_S, DrI_I, DrI_L, DrI_R, DrI_N, DrI_A, DrJ_S, DrJ_I, DrJ_L, DrJ_R, DrJ_N, DrJ_A, dm64, G_d, G_x0, dX12_rest, doRRRI, -Int32.not_le, -Int32.not_lt, -Int64.not_le, -Int64.not_lt, i3lt, i6lt, hz]
  try simp (disch := omega) [-Prod.forall, -Prod.exists, -Prod.mk.injEq, -Int32.not_le, -Int32.not_lt, -Int64.not_le, -Int64.not_lt, i3lt, i6lt, hz]
  refine DW.mono key (fun q hq => ?_)
  unfold spL3 at hq
  rw [nI_0] at hq
  simpa [smN] using hq
