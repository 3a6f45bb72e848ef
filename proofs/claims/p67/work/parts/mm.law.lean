/-! the law's cell: what the script says at a place, nothing behind its end -/
def dEc (g : jG) (h0 N : Nat) (xs : Nat → Int32) : Prop := N < 100000 ∧ ∀ (U : State) (H : Heap), jE g U H → va_X (jad g 380) N xs U H ∧ jad g 380 < H.size ∧ ¬ Dge h0 (jad g 380)
def scX (N : Nat) (xs : Nat → Int32) (j : Nat) : Int32 := if j < N then xs j else 0
section EMM
variable {g : jG} {z : dZ} {mt : jMt} {pc : Nat} {L : List (Nat × Value)} {r : List Value} {σ : dM} {c0 s0 N : Nat} {xs : Nat → Int32}
theorem jrl_lo9 {da : Nat → Nat} {q : Nat} (hq : q < 1000) : jrl (Dg g da) (.ref q) = .ref (jad g q) := congrArg Value.ref (Dg_lo hq)
theorem dr_xlen (hE : dEc g z.2.2.2.2 N xs) (d : decode mt.2.1 pc = .ok (.arraylength, 1)) (k : DW g z mt (pc + 1) L (.int (nI N) :: r) σ c0 s0) : DW g z mt pc L (.ref 380 :: r) σ c0 s0 := by
  intro p e s m as below meth c H locs ls da X hD hP hS hl
  obtain ⟨h1, h2, h3⟩ := hE.2 s s.heap X.2.2.2.2.2.2.2.2.2.2.2
  have e9 : jrl (Dg g da) (.ref 380) = .ref (jad g 380) := jrl_lo9 (by decide)
  rw [List.map_cons, e9]
  exact va_slen X.1 X.2.1 h1 h2 h3 hS d (k p e s m as below meth c H locs ls da X hD hP hS hl)
theorem dr_xld {j : Nat} (hE : dEc g z.2.2.2.2 N xs) (hj : j < N) (d : decode mt.2.1 pc = .ok (.iaload, 1)) (k : DW g z mt (pc + 1) L (.int (xs j) :: r) σ c0 s0) : DW g z mt pc L (.int (nI j) :: .ref 380 :: r) σ c0 s0 := by
  intro p e s m as below meth c H locs ls da X hD hP hS hl
  obtain ⟨h1, h2, h3⟩ := hE.2 s s.heap X.2.2.2.2.2.2.2.2.2.2.2
  have e9 : jrl (Dg g da) (.ref 380) = .ref (jad g 380) := jrl_lo9 (by decide)
  have hN := hE.1
  have k9 := k p e s m as below meth c H locs ls da X hD hP hS hl
  rw [List.map_cons] at k9
  rw [List.map_cons, List.map_cons, e9]
  refine va_sld X.1 X.2.1 h1 h2 h3 hS (jin_vp (jin_nI hj (by omega))) d ?_
  rw [nI_clamp (by omega)]
  exact k9
end EMM
def dCl (N : Nat) (xs : Nat → Int32) (j : Nat) : dO := doRI fun a x σ => (a = 380 ∧ x = nI j ∧ j < 100000, fun v τ => v = some (.int (scX N xs j)) ∧ τ = σ)
set_option maxRecDepth 100000 in
set_option maxHeartbeats 4000000 in
theorem EL_cell {g : jG} {h0 N : Nat} {xs : Nat → Int32} (hE : dEc g h0 N xs) (n j : Nat) : dOk g h0 n 0 0 [] mL_cell (dCl N xs j) := by
  refine doRI_ok ?_
  rintro _ _ σ ⟨rfl, rfl, hj⟩
  refine dCon.gt (by decide +kernel) (by simp [lg_sl, Value.category]) (fun z hz0 hkp hcl hz post hp hR => ?_)
  subst hz0
  have hN := hE.1
  show DW g z mL_cell 0 [(0, .ref 380), (1, .int (nI j))] [] σ 0 0
  refine dvk_ok (nC := n + 0) DL_cell hTyA hR (VC := []) (VD := []) (SD := []) (AL := []) (fun _ h => absurd h List.not_mem_nil) (fun _ h => absurd h List.not_mem_nil) (fun _ h => absurd h List.not_mem_nil) [2] 10 _ _ _ _ _ _ ?_
  simp (maxSteps := 1000000) [↓Bool.cond_eq_ite, -Prod.forall, -Prod.exists, -Prod.mk.injEq, ↓jc_eq_t, ↓jc_eq_f, ↓jc_ne_t, ↓jc_ne_f, ↓jc_lt_t, ↓jc_lt_f, ↓jc_ge_t, ↓jc_ge_f, ↓jc_gt_t, ↓jc_gt_f, ↓jc_le_t, ↓jc_le_f, dvk, tL_cell, jtb, jol, dvl, dal, dst, jlk, jcmp, jbin, jfl, qL, jc2, qlL, jcat, jel, lv_args, Value.category, jins, jsrt, jins2, jble, jblt, jf3, List.filter_cons, List.filter_nil, Dlo, Dnr, DnL, Dfree, Droom, DuS_S, DuS_I, DuS_L, DuS_R, DuS_N, DuS_A, DuI_S, DuI_I, DuI_L, DuI_R, DuI_N, DuI_A, DuL_S, DuL_I, DuL_L, DuL_R, DuL_N, DuL_A, DuR_S, DuR_I, DuR_L, DuR_R, DuR_N, DuR_A, Dnw_S, Dnw_I, Dnw_L, Dnw_R, Dnw_N, Dnw_A, DrI_S, DrI_I, DrI_L, DrI_R, DrI_N, DrI_A, DrJ_S, DrJ_I, DrJ_L, DrJ_R, DrJ_N, DrJ_A, dm64, G_d, G_x0, -Int32.not_le, -Int32.not_lt, -Int64.not_le, -Int64.not_lt, i3lt, i6lt]
  try simp (disch := omega) [-Prod.forall, -Prod.exists, -Prod.mk.injEq, -Int32.not_le, -Int32.not_lt, -Int64.not_le, -Int64.not_lt, i3lt, i6lt]
  refine dr_xlen hE (by decide +kernel) ?_
  unfold scX at hp
  by_cases c : j < N
  · have p1 : ¬ nI N ≤ nI j := nI_ge c (by omega)
    simp only [if_pos c] at hp
    refine dvk_ok (nC := n + 0) DL_cell hTyA hR (VC := []) (VD := []) (SD := []) (AL := []) (fun _ h => absurd h List.not_mem_nil) (fun _ h => absurd h List.not_mem_nil) (fun _ h => absurd h List.not_mem_nil) [8] 10 _ _ _ _ _ _ ?_
    simp (maxSteps := 1000000) [↓Bool.cond_eq_ite, -Prod.forall, -Prod.exists, -Prod.mk.injEq, ↓jc_eq_t, ↓jc_eq_f, ↓jc_ne_t, ↓jc_ne_f, ↓jc_lt_t, ↓jc_lt_f, ↓jc_ge_t, ↓jc_ge_f, ↓jc_gt_t, ↓jc_gt_f, ↓jc_le_t, ↓jc_le_f, dvk, tL_cell, jtb, jol, dvl, dal, dst, jlk, jcmp, jbin, jfl, qL, jc2, qlL, jcat, jel, lv_args, Value.category, jins, jsrt, jins2, jble, jblt, jf3, List.filter_cons, List.filter_nil, Dlo, Dnr, DnL, Dfree, Droom, DuS_S, DuS_I, DuS_L, DuS_R, DuS_N, DuS_A, DuI_S, DuI_I, DuI_L, DuI_R, DuI_N, DuI_A, DuL_S, DuL_I, DuL_L, DuL_R, DuL_N, DuL_A, DuR_S, DuR_I, DuR_L, DuR_R, DuR_N, DuR_A, Dnw_S, Dnw_I, Dnw_L, Dnw_R, Dnw_N, Dnw_A, DrI_S, DrI_I, DrI_L, DrI_R, DrI_N, DrI_A, DrJ_S, DrJ_I, DrJ_L, DrJ_R, DrJ_N, DrJ_A, dm64, G_d, G_x0, -Int32.not_le, -Int32.not_lt, -Int64.not_le, -Int64.not_lt, i3lt, i6lt, p1]
    try simp (disch := omega) [-Prod.forall, -Prod.exists, -Prod.mk.injEq, -Int32.not_le, -Int32.not_lt, -Int64.not_le, -Int64.not_lt, i3lt, i6lt, p1]
    refine dr_xld hE c (by decide +kernel) ?_
    refine dvk_ok (nC := n + 0) DL_cell hTyA hR (VC := []) (VD := []) (SD := []) (AL := []) (fun _ h => absurd h List.not_mem_nil) (fun _ h => absurd h List.not_mem_nil) (fun _ h => absurd h List.not_mem_nil) [] 10 _ _ _ _ _ _ ?_
    simp (maxSteps := 1000000) [↓Bool.cond_eq_ite, -Prod.forall, -Prod.exists, -Prod.mk.injEq, ↓jc_eq_t, ↓jc_eq_f, ↓jc_ne_t, ↓jc_ne_f, ↓jc_lt_t, ↓jc_lt_f, ↓jc_ge_t, ↓jc_ge_f, ↓jc_gt_t, ↓jc_gt_f, ↓jc_le_t, ↓jc_le_f, dvk, tL_cell, jtb, jol, dvl, dal, dst, jlk, jcmp, jbin, jfl, qL, jc2, qlL, jcat, jel, lv_args, Value.category, jins, jsrt, jins2, jble, jblt, jf3, List.filter_cons, List.filter_nil, Dlo, Dnr, DnL, Dfree, Droom, DuS_S, DuS_I, DuS_L, DuS_R, DuS_N, DuS_A, DuI_S, DuI_I, DuI_L, DuI_R, DuI_N, DuI_A, DuL_S, DuL_I, DuL_L, DuL_R, DuL_N, DuL_A, DuR_S, DuR_I, DuR_L, DuR_R, DuR_N, DuR_A, Dnw_S, Dnw_I, Dnw_L, Dnw_R, Dnw_N, Dnw_A, DrI_S, DrI_I, DrI_L, DrI_R, DrI_N, DrI_A, DrJ_S, DrJ_I, DrJ_L, DrJ_R, DrJ_N, DrJ_A, dm64, G_d, G_x0, -Int32.not_le, -Int32.not_lt, -Int64.not_le, -Int64.not_lt, i3lt, i6lt]
    try simp (disch := omega) [-Prod.forall, -Prod.exists, -Prod.mk.injEq, -Int32.not_le, -Int32.not_lt, -Int64.not_le, -Int64.not_lt, i3lt, i6lt]
    exact ⟨⟨by omega, by omega⟩, σ, Dsub.rfl hcl, hp _ _ ⟨rfl, rfl⟩⟩
  · have p1 : nI N ≤ nI j := nI_le (by omega) (by omega)
    simp only [if_neg c] at hp
    refine dvk_ok (nC := n + 0) DL_cell hTyA hR (VC := []) (VD := []) (SD := []) (AL := []) (fun _ h => absurd h List.not_mem_nil) (fun _ h => absurd h List.not_mem_nil) (fun _ h => absurd h List.not_mem_nil) [] 10 _ _ _ _ _ _ ?_
    simp (maxSteps := 1000000) [↓Bool.cond_eq_ite, -Prod.forall, -Prod.exists, -Prod.mk.injEq, ↓jc_eq_t, ↓jc_eq_f, ↓jc_ne_t, ↓jc_ne_f, ↓jc_lt_t, ↓jc_lt_f, ↓jc_ge_t, ↓jc_ge_f, ↓jc_gt_t, ↓jc_gt_f, ↓jc_le_t, ↓jc_le_f, dvk, tL_cell, jtb, jol, dvl, dal, dst, jlk, jcmp, jbin, jfl, qL, jc2, qlL, jcat, jel, lv_args, Value.category, jins, jsrt, jins2, jble, jblt, jf3, List.filter_cons, List.filter_nil, Dlo, Dnr, DnL, Dfree, Droom, DuS_S, DuS_I, DuS_L, DuS_R, DuS_N, DuS_A, DuI_S, DuI_I, DuI_L, DuI_R, DuI_N, DuI_A, DuL_S, DuL_I, DuL_L, DuL_R, DuL_N, DuL_A, DuR_S, DuR_I, DuR_L, DuR_R, DuR_N, DuR_A, Dnw_S, Dnw_I, Dnw_L, Dnw_R, Dnw_N, Dnw_A, DrI_S, DrI_I, DrI_L, DrI_R, DrI_N, DrI_A, DrJ_S, DrJ_I, DrJ_L, DrJ_R, DrJ_N, DrJ_A, dm64, G_d, G_x0, -Int32.not_le, -Int32.not_lt, -Int64.not_le, -Int64.not_lt, i3lt, i6lt, p1]
    try simp (disch := omega) [-Prod.forall, -Prod.exists, -Prod.mk.injEq, -Int32.not_le, -Int32.not_lt, -Int64.not_le, -Int64.not_lt, i3lt, i6lt, p1]
    exact ⟨⟨by omega, by omega⟩, σ, Dsub.rfl hcl, hp _ _ ⟨rfl, rfl⟩⟩
