/-! a StringBuilder's append of a number: how many digits, the digits -/
section EMB
variable {g : jG} {h0 : Nat}
def doI (f : Int32 → dM → Prop × (Option Value → dM → Prop)) : dO := fun args σ => match args with
  | [.int i0] => f i0 σ
  | _ => (False, fun _ _ => False)
theorem doI_ok {n mc ms : Nat} {tl : List Nat} {mt : jMt} {f : Int32 → dM → Prop × (Option Value → dM → Prop)} (h : ∀ (i0 : Int32) (σ : dM), (f i0 σ).1 → dCon g h0 n mc ms tl mt [.int i0] σ (f i0 σ).2) : dOk g h0 n mc ms tl mt (doI f) := by
  intro args σ hp
  unfold doI at hp ⊢
  split at hp
  · exact h _ σ hp
  · exact hp.elim
def doIIR (f : Int32 → Int32 → Nat → dM → Prop × (Option Value → dM → Prop)) : dO := fun args σ => match args with
  | [.int i0, .int i1, .ref a2] => f i0 i1 a2 σ
  | _ => (False, fun _ _ => False)
theorem doIIR_ok {n mc ms : Nat} {tl : List Nat} {mt : jMt} {f : Int32 → Int32 → Nat → dM → Prop × (Option Value → dM → Prop)} (h : ∀ (i0 i1 : Int32) (a2 : Nat) (σ : dM), (f i0 i1 a2 σ).1 → dCon g h0 n mc ms tl mt [.int i0, .int i1, .ref a2] σ (f i0 i1 a2 σ).2) : dOk g h0 n mc ms tl mt (doIIR f) := by
  intro args σ hp
  unfold doIIR at hp ⊢
  split at hp
  · exact h _ _ _ σ hp
  · exact hp.elim
theorem ng_le {v c : Nat} (hv : v < 10000) (hc : c < 100000) : -nI v ≤ -nI c ↔ c ≤ v := sb_nle (by omega) (by omega)
def dSz (v : Nat) : dO := doI fun x σ => (x = nI v ∧ v < 10000, fun w τ => w = some (.int (nI (sb_dg v))) ∧ τ = σ)
set_option maxRecDepth 100000 in
set_option maxHeartbeats 4000000 in
theorem EJ6_stringSize (n v : Nat) : dOk g h0 n 0 0 [] mJ6_stringSize_0f7a4 (dSz v) := by
  refine doI_ok ?_
  rintro _ σ ⟨rfl, hv⟩
  have p0 : ¬ nI v < 0 := nI_pos (by omega)
  have g1 : -nI v ≤ -10 ↔ 10 ≤ v := ng_le (c := 10) hv (by omega)
  have g2 : -nI v ≤ -100 ↔ 100 ≤ v := ng_le (c := 100) hv (by omega)
  have g3 : -nI v ≤ -1000 ↔ 1000 ≤ v := ng_le (c := 1000) hv (by omega)
  have g4 : -nI v ≤ -10000 ↔ 10000 ≤ v := ng_le (c := 10000) hv (by omega)
  have m1 : (10 : Int32) * -10 = -100 := by decide
  have m2 : (10 : Int32) * -100 = -1000 := by decide
  have m3 : (10 : Int32) * -1000 = -10000 := by decide
  unfold sb_dg
  by_cases c1 : v < 10
  · have d1 : ¬ -nI v ≤ -10 := fun z => absurd (g1.mp z) (by omega)
    rw [if_pos c1]
    refine dCon.go (by decide +kernel) (by simp [lg_sl, Value.category]) (fun z hkp hcl hz post hp hR => ?_)
    simp only [DkF] at hkp
    refine dvk_ok (nC := n + 0) DJ6_stringSize_0f7a4 hTyA hR (VC := []) (VD := []) (SD := []) (AL := []) (fun _ h => absurd h List.not_mem_nil) (fun _ h => absurd h List.not_mem_nil) (fun _ h => absurd h List.not_mem_nil) [] 60 _ _ _ _ _ _ ?_
    simp (maxSteps := 1000000) [↓Bool.cond_eq_ite, -Prod.forall, -Prod.exists, -Prod.mk.injEq, ↓jc_eq_t, ↓jc_eq_f, ↓jc_ne_t, ↓jc_ne_f, ↓jc_lt_t, ↓jc_lt_f, ↓jc_ge_t, ↓jc_ge_f, ↓jc_gt_t, ↓jc_gt_f, ↓jc_le_t, ↓jc_le_f, dvk, tJ6_stringSize_0f7a4, jtb, jol, dvl, dal, dst, jlk, jcmp, jbin, jfl, qJ6, jc2, qlJ6, jcat, jel, lv_args, Value.category, jins, jsrt, jins2, jble, jblt, jf3, List.filter_cons, List.filter_nil, Dlo, Dnr, DnL, Dfree, Droom, DuS_S, DuS_I, DuS_L, DuS_R, DuS_N, DuS_A, DuI_S, DuI_I, DuI_L, DuI_R, DuI_N, DuI_A, DuL_S, DuL_I, DuL_L, DuL_R, DuL_N, DuL_A, DuR_S, DuR_I, DuR_L, DuR_R, DuR_N, DuR_A, Dnw_S, Dnw_I, Dnw_L, Dnw_R, Dnw_N, Dnw_A, DrI_S, DrI_I, DrI_L, DrI_R, DrI_N, DrI_A, DrJ_S, DrJ_I, DrJ_L, DrJ_R, DrJ_N, DrJ_A, dm64, G_d, G_x0, -Int32.not_le, -Int32.not_lt, -Int64.not_le, -Int64.not_lt, i3lt, i6lt, p0, d1, hkp, hz]
    try simp (disch := omega) [-Prod.forall, -Prod.exists, -Prod.mk.injEq, -Int32.not_le, -Int32.not_lt, -Int64.not_le, -Int64.not_lt, i3lt, i6lt, p0, d1, hkp, hz]
    exact ⟨⟨by omega, by omega⟩, σ, Dsub.rfl hcl, hp _ _ ⟨rfl, rfl⟩⟩
  · have d1 : -nI v ≤ -10 := g1.mpr (by omega)
    by_cases c2 : v < 100
    · have d2 : ¬ -nI v ≤ -100 := fun z => absurd (g2.mp z) (by omega)
      rw [if_neg c1, if_pos c2]
      refine dCon.go (by decide +kernel) (by simp [lg_sl, Value.category]) (fun z hkp hcl hz post hp hR => ?_)
      simp only [DkF] at hkp
      refine dvk_ok (nC := n + 0) DJ6_stringSize_0f7a4 hTyA hR (VC := []) (VD := []) (SD := []) (AL := []) (fun _ h => absurd h List.not_mem_nil) (fun _ h => absurd h List.not_mem_nil) (fun _ h => absurd h List.not_mem_nil) [] 60 _ _ _ _ _ _ ?_
      simp (maxSteps := 1000000) [↓Bool.cond_eq_ite, -Prod.forall, -Prod.exists, -Prod.mk.injEq, ↓jc_eq_t, ↓jc_eq_f, ↓jc_ne_t, ↓jc_ne_f, ↓jc_lt_t, ↓jc_lt_f, ↓jc_ge_t, ↓jc_ge_f, ↓jc_gt_t, ↓jc_gt_f, ↓jc_le_t, ↓jc_le_f, dvk, tJ6_stringSize_0f7a4, jtb, jol, dvl, dal, dst, jlk, jcmp, jbin, jfl, qJ6, jc2, qlJ6, jcat, jel, lv_args, Value.category, jins, jsrt, jins2, jble, jblt, jf3, List.filter_cons, List.filter_nil, Dlo, Dnr, DnL, Dfree, Droom, DuS_S, DuS_I, DuS_L, DuS_R, DuS_N, DuS_A, DuI_S, DuI_I, DuI_L, DuI_R, DuI_N, DuI_A, DuL_S, DuL_I, DuL_L, DuL_R, DuL_N, DuL_A, DuR_S, DuR_I, DuR_L, DuR_R, DuR_N, DuR_A, Dnw_S, Dnw_I, Dnw_L, Dnw_R, Dnw_N, Dnw_A, DrI_S, DrI_I, DrI_L, DrI_R, DrI_N, DrI_A, DrJ_S, DrJ_I, DrJ_L, DrJ_R, DrJ_N, DrJ_A, dm64, G_d, G_x0, -Int32.not_le, -Int32.not_lt, -Int64.not_le, -Int64.not_lt, i3lt, i6lt, p0, d1, d2, m1, hkp, hz]
      try simp (disch := omega) [-Prod.forall, -Prod.exists, -Prod.mk.injEq, -Int32.not_le, -Int32.not_lt, -Int64.not_le, -Int64.not_lt, i3lt, i6lt, p0, d1, d2, m1, hkp, hz]
      exact ⟨⟨by omega, by omega⟩, σ, Dsub.rfl hcl, hp _ _ ⟨rfl, rfl⟩⟩
    · have d2 : -nI v ≤ -100 := g2.mpr (by omega)
      by_cases c3 : v < 1000
      · have d3 : ¬ -nI v ≤ -1000 := fun z => absurd (g3.mp z) (by omega)
        rw [if_neg c1, if_neg c2, if_pos c3]
        refine dCon.go (by decide +kernel) (by simp [lg_sl, Value.category]) (fun z hkp hcl hz post hp hR => ?_)
        simp only [DkF] at hkp
        refine dvk_ok (nC := n + 0) DJ6_stringSize_0f7a4 hTyA hR (VC := []) (VD := []) (SD := []) (AL := []) (fun _ h => absurd h List.not_mem_nil) (fun _ h => absurd h List.not_mem_nil) (fun _ h => absurd h List.not_mem_nil) [] 80 _ _ _ _ _ _ ?_
        simp (maxSteps := 1000000) [↓Bool.cond_eq_ite, -Prod.forall, -Prod.exists, -Prod.mk.injEq, ↓jc_eq_t, ↓jc_eq_f, ↓jc_ne_t, ↓jc_ne_f, ↓jc_lt_t, ↓jc_lt_f, ↓jc_ge_t, ↓jc_ge_f, ↓jc_gt_t, ↓jc_gt_f, ↓jc_le_t, ↓jc_le_f, dvk, tJ6_stringSize_0f7a4, jtb, jol, dvl, dal, dst, jlk, jcmp, jbin, jfl, qJ6, jc2, qlJ6, jcat, jel, lv_args, Value.category, jins, jsrt, jins2, jble, jblt, jf3, List.filter_cons, List.filter_nil, Dlo, Dnr, DnL, Dfree, Droom, DuS_S, DuS_I, DuS_L, DuS_R, DuS_N, DuS_A, DuI_S, DuI_I, DuI_L, DuI_R, DuI_N, DuI_A, DuL_S, DuL_I, DuL_L, DuL_R, DuL_N, DuL_A, DuR_S, DuR_I, DuR_L, DuR_R, DuR_N, DuR_A, Dnw_S, Dnw_I, Dnw_L, Dnw_R, Dnw_N, Dnw_A, DrI_S, DrI_I, DrI_L, DrI_R, DrI_N, DrI_A, DrJ_S, DrJ_I, DrJ_L, DrJ_R, DrJ_N, DrJ_A, dm64, G_d, G_x0, -Int32.not_le, -Int32.not_lt, -Int64.not_le, -Int64.not_lt, i3lt, i6lt, p0, d1, d2, d3, m1, m2, hkp, hz]
        try simp (disch := omega) [-Prod.forall, -Prod.exists, -Prod.mk.injEq, -Int32.not_le, -Int32.not_lt, -Int64.not_le, -Int64.not_lt, i3lt, i6lt, p0, d1, d2, d3, m1, m2, hkp, hz]
        exact ⟨⟨by omega, by omega⟩, σ, Dsub.rfl hcl, hp _ _ ⟨rfl, rfl⟩⟩
      · have d3 : -nI v ≤ -1000 := g3.mpr (by omega)
        have d4 : ¬ -nI v ≤ -10000 := fun z => absurd (g4.mp z) (by omega)
        rw [if_neg c1, if_neg c2, if_neg c3, if_pos hv]
        refine dCon.go (by decide +kernel) (by simp [lg_sl, Value.category]) (fun z hkp hcl hz post hp hR => ?_)
        simp only [DkF] at hkp
        refine dvk_ok (nC := n + 0) DJ6_stringSize_0f7a4 hTyA hR (VC := []) (VD := []) (SD := []) (AL := []) (fun _ h => absurd h List.not_mem_nil) (fun _ h => absurd h List.not_mem_nil) (fun _ h => absurd h List.not_mem_nil) [] 99 _ _ _ _ _ _ ?_
        simp (maxSteps := 1000000) [↓Bool.cond_eq_ite, -Prod.forall, -Prod.exists, -Prod.mk.injEq, ↓jc_eq_t, ↓jc_eq_f, ↓jc_ne_t, ↓jc_ne_f, ↓jc_lt_t, ↓jc_lt_f, ↓jc_ge_t, ↓jc_ge_f, ↓jc_gt_t, ↓jc_gt_f, ↓jc_le_t, ↓jc_le_f, dvk, tJ6_stringSize_0f7a4, jtb, jol, dvl, dal, dst, jlk, jcmp, jbin, jfl, qJ6, jc2, qlJ6, jcat, jel, lv_args, Value.category, jins, jsrt, jins2, jble, jblt, jf3, List.filter_cons, List.filter_nil, Dlo, Dnr, DnL, Dfree, Droom, DuS_S, DuS_I, DuS_L, DuS_R, DuS_N, DuS_A, DuI_S, DuI_I, DuI_L, DuI_R, DuI_N, DuI_A, DuL_S, DuL_I, DuL_L, DuL_R, DuL_N, DuL_A, DuR_S, DuR_I, DuR_L, DuR_R, DuR_N, DuR_A, Dnw_S, Dnw_I, Dnw_L, Dnw_R, Dnw_N, Dnw_A, DrI_S, DrI_I, DrI_L, DrI_R, DrI_N, DrI_A, DrJ_S, DrJ_I, DrJ_L, DrJ_R, DrJ_N, DrJ_A, dm64, G_d, G_x0, -Int32.not_le, -Int32.not_lt, -Int64.not_le, -Int64.not_lt, i3lt, i6lt, p0, d1, d2, d3, d4, m1, m2, m3, hkp, hz]
        try simp (disch := omega) [-Prod.forall, -Prod.exists, -Prod.mk.injEq, -Int32.not_le, -Int32.not_lt, -Int64.not_le, -Int64.not_lt, i3lt, i6lt, p0, d1, d2, d3, d4, m1, m2, m3, hkp, hz]
        exact ⟨⟨by omega, by omega⟩, σ, Dsub.rfl hcl, hp _ _ ⟨rfl, rfl⟩⟩
theorem dig_ok : ∀ k, k < 100 → vp_nar .byte (nI (48 + k % 10)) = nI (48 + k % 10) ∧ vp_nar .byte (nI (48 + k / 10)) = nI (48 + k / 10) := by decide +kernel
/-- one digit put at the place before p: by the table of ones (503: of tens) -/
theorem dr_dig {z : dZ} {pc q : Nat} {L : List (Nat × Value)} {σ : dM} {c0 s0 p m : Nat} {x : Int32} {f : Nat → Nat} {r : Nat} (hq : q < 1000) (hZ : ∀ (U : State) (H : Heap), jE g U H → va_T .byte (jad g q) 100 (fun i => .int (nI (f i))) (Dge z.2.2.2.2) U H) (hx : x = nI r) (hr : r < 100) (hd : decode cJ6_getChars_ba4f3 pc = .ok (.baload, 1)) (hd2 : decode cJ6_getChars_ba4f3 (pc + 1) = .ok (.bastore, 1)) (hA : DA σ 1600 = true) (hN : DN σ 1600 = m) (hp : p < m) (hm : m ≤ 700) (hnar : vp_nar .byte (nI (f r)) = nI (f r))
    (k : DW g z mJ6_getChars_ba4f3 (pc + 1 + 1) L [] (DuI σ 1600 p (nI (f r))) c0 s0) : DW g z mJ6_getChars_ba4f3 pc L [.int x, .ref q, .int (nI p), .ref 1600] σ c0 s0 := by
  subst hx
  have er : (nI r).toNatClampNeg = r := nI_clamp (by omega)
  have ep : (nI p).toNatClampNeg = p := nI_clamp (by omega)
  refine dr_eba hq hZ (jin_nI hr (by omega)) hd ?_
  rw [er]
  refine dr_bast (by decide +kernel) hA (by rw [hN]; exact jin_nI hp (by omega)) hd2 ?_
  rw [ep, hnar]
  exact k
theorem dEt_d1 (hE : dEt g h0) : (∀ (U : State) (H : Heap), jE g U H → va_Z "java/lang/Integer" "DigitOnes" "[B" (jrl g (.ref 502)) (Dge h0) U H) ∧ ∀ (U : State) (H : Heap), jE g U H → va_T .byte (jad g 502) 100 (fun i => .int (nI (48 + i % 10))) (Dge h0) U H := ⟨fun U H h => (hE.2 U H h).2.1.1, fun U H h => (hE.2 U H h).2.1.2⟩
theorem dEt_d2 (hE : dEt g h0) : (∀ (U : State) (H : Heap), jE g U H → va_Z "java/lang/Integer" "DigitTens" "[B" (jrl g (.ref 503)) (Dge h0) U H) ∧ ∀ (U : State) (H : Heap), jE g U H → va_T .byte (jad g 503) 100 (fun i => .int (nI (48 + i / 10))) (Dge h0) U H := ⟨fun U H h => (hE.2 U H h).2.2.1.1, fun U H h => (hE.2 U H h).2.2.1.2⟩
/-- from 72: the last one or two digits of x -/
theorem GC_x (n : Nat) (hE : dEt g h0) {z : dZ} (hz0 : z.2.2.2.2 = h0) {R : Option Value → dM → Nat → Nat → Prop} (hR : dRok g z mJ6_getChars_ba4f3 R) {σ : dM} {c0 s0 p m x : Nat} (hA : DA σ 1600 = true) (hN : DN σ 1600 = m) (hp : p ≤ m) (hm : m ≤ 700) (hx : x < 100) (hp2 : (if x < 10 then 1 else 2) ≤ p)
    (k : R (some (.int (nI (p - if x < 10 then 1 else 2)))) (if x < 10 then DuI σ 1600 (p - 1) (nI (48 + x % 10)) else DuI (DuI σ 1600 (p - 1) (nI (48 + x % 10))) 1600 (p - 2) (nI (48 + x / 10))) c0 s0) :
    DW g z mJ6_getChars_ba4f3 72 [(0, .int (-nI x)), (2, .ref 1600), (5, .int (nI p)), (6, .int 0)] [] σ c0 s0 := by
  subst hz0
  have e1 : nI p + -1 = nI (p - 1) := sb_m1 (by split at hp2 <;> omega)
  have en : -(-nI x) = nI x := Int32.neg_neg
  obtain ⟨n1, n2⟩ := dig_ok x hx
  have l9 : -9 ≤ -nI x ↔ x ≤ 9 := sb_nle (a := 9) (by omega) (by omega)
  refine dvk_ok (nC := n + 0) DJ6_getChars_ba4f3 hTyA hR (VC := []) (VD := []) (SD := []) (AL := []) (fun _ h => absurd h List.not_mem_nil) (fun _ h => absurd h List.not_mem_nil) (fun _ h => absurd h List.not_mem_nil) [78] 10 _ _ _ _ _ _ ?_
  simp (maxSteps := 1000000) [↓Bool.cond_eq_ite, -Prod.forall, -Prod.exists, -Prod.mk.injEq, ↓jc_eq_t, ↓jc_eq_f, ↓jc_ne_t, ↓jc_ne_f, ↓jc_lt_t, ↓jc_lt_f, ↓jc_ge_t, ↓jc_ge_f, ↓jc_gt_t, ↓jc_gt_f, ↓jc_le_t, ↓jc_le_f, dvk, tJ6_getChars_ba4f3, jtb, jol, dvl, dal, dst, jlk, jcmp, jbin, jfl, qJ6, jc2, qlJ6, jcat, jel, lv_args, Value.category, jins, jsrt, jins2, jble, jblt, jf3, List.filter_cons, List.filter_nil, Dlo, Dnr, DnL, Dfree, Droom, DuS_S, DuS_I, DuS_L, DuS_R, DuS_N, DuS_A, DuI_S, DuI_I, DuI_L, DuI_R, DuI_N, DuI_A, DuL_S, DuL_I, DuL_L, DuL_R, DuL_N, DuL_A, DuR_S, DuR_I, DuR_L, DuR_R, DuR_N, DuR_A, Dnw_S, Dnw_I, Dnw_L, Dnw_R, Dnw_N, Dnw_A, DrI_S, DrI_I, DrI_L, DrI_R, DrI_N, DrI_A, DrJ_S, DrJ_I, DrJ_L, DrJ_R, DrJ_N, DrJ_A, dm64, G_d, G_x0, -Int32.not_le, -Int32.not_lt, -Int64.not_le, -Int64.not_lt, i3lt, i6lt, e1]
  try simp (disch := omega) [-Prod.forall, -Prod.exists, -Prod.mk.injEq, -Int32.not_le, -Int32.not_lt, -Int64.not_le, -Int64.not_lt, i3lt, i6lt, e1]
  refine dr_gets (idx := 83) (v := .ref 502) rfl (dEt_d1 hE).1 (show Cond.fieldLink RJ6 83 "java/lang/Integer" "DigitOnes" "[B" ∈ jGw from jGw_of 987 (by decide +kernel) (by decide +kernel)) (by decide +kernel) ?_
  refine dvk_ok (nC := n + 0) DJ6_getChars_ba4f3 hTyA hR (VC := []) (VD := []) (SD := []) (AL := []) (fun _ h => absurd h List.not_mem_nil) (fun _ h => absurd h List.not_mem_nil) (fun _ h => absurd h List.not_mem_nil) [83] 10 _ _ _ _ _ _ ?_
  simp (maxSteps := 1000000) [↓Bool.cond_eq_ite, -Prod.forall, -Prod.exists, -Prod.mk.injEq, ↓jc_eq_t, ↓jc_eq_f, ↓jc_ne_t, ↓jc_ne_f, ↓jc_lt_t, ↓jc_lt_f, ↓jc_ge_t, ↓jc_ge_f, ↓jc_gt_t, ↓jc_gt_f, ↓jc_le_t, ↓jc_le_f, dvk, tJ6_getChars_ba4f3, jtb, jol, dvl, dal, dst, jlk, jcmp, jbin, jfl, qJ6, jc2, qlJ6, jcat, jel, lv_args, Value.category, jins, jsrt, jins2, jble, jblt, jf3, List.filter_cons, List.filter_nil, Dlo, Dnr, DnL, Dfree, Droom, DuS_S, DuS_I, DuS_L, DuS_R, DuS_N, DuS_A, DuI_S, DuI_I, DuI_L, DuI_R, DuI_N, DuI_A, DuL_S, DuL_I, DuL_L, DuL_R, DuL_N, DuL_A, DuR_S, DuR_I, DuR_L, DuR_R, DuR_N, DuR_A, Dnw_S, Dnw_I, Dnw_L, Dnw_R, Dnw_N, Dnw_A, DrI_S, DrI_I, DrI_L, DrI_R, DrI_N, DrI_A, DrJ_S, DrJ_I, DrJ_L, DrJ_R, DrJ_N, DrJ_A, dm64, G_d, G_x0, -Int32.not_le, -Int32.not_lt, -Int64.not_le, -Int64.not_lt, i3lt, i6lt]
  try simp (disch := omega) [-Prod.forall, -Prod.exists, -Prod.mk.injEq, -Int32.not_le, -Int32.not_lt, -Int64.not_le, -Int64.not_lt, i3lt, i6lt]
  refine dr_dig (m := m) (f := fun i => 48 + i % 10) (by omega) (dEt_d1 hE).2 rfl hx (by decide +kernel) (by decide +kernel) hA hN (by split at hp2 <;> omega) hm n1 ?_
  by_cases c : x < 10
  · have l1 : ¬ -nI x < -9 := fun z9 => absurd ((sb_nlt (a := x) (b := 9) (by omega) (by omega)).mp z9) (by omega)
    rw [if_pos c, if_pos c] at k
    refine dvk_ok (nC := n + 0) DJ6_getChars_ba4f3 hTyA hR (VC := []) (VD := []) (SD := []) (AL := []) (fun _ h => absurd h List.not_mem_nil) (fun _ h => absurd h List.not_mem_nil) (fun _ h => absurd h List.not_mem_nil) [] 10 _ _ _ _ _ _ ?_
    simp (maxSteps := 1000000) [↓Bool.cond_eq_ite, -Prod.forall, -Prod.exists, -Prod.mk.injEq, ↓jc_eq_t, ↓jc_eq_f, ↓jc_ne_t, ↓jc_ne_f, ↓jc_lt_t, ↓jc_lt_f, ↓jc_ge_t, ↓jc_ge_f, ↓jc_gt_t, ↓jc_gt_f, ↓jc_le_t, ↓jc_le_f, dvk, tJ6_getChars_ba4f3, jtb, jol, dvl, dal, dst, jlk, jcmp, jbin, jfl, qJ6, jc2, qlJ6, jcat, jel, lv_args, Value.category, jins, jsrt, jins2, jble, jblt, jf3, List.filter_cons, List.filter_nil, Dlo, Dnr, DnL, Dfree, Droom, DuS_S, DuS_I, DuS_L, DuS_R, DuS_N, DuS_A, DuI_S, DuI_I, DuI_L, DuI_R, DuI_N, DuI_A, DuL_S, DuL_I, DuL_L, DuL_R, DuL_N, DuL_A, DuR_S, DuR_I, DuR_L, DuR_R, DuR_N, DuR_A, Dnw_S, Dnw_I, Dnw_L, Dnw_R, Dnw_N, Dnw_A, DrI_S, DrI_I, DrI_L, DrI_R, DrI_N, DrI_A, DrJ_S, DrJ_I, DrJ_L, DrJ_R, DrJ_N, DrJ_A, dm64, G_d, G_x0, -Int32.not_le, -Int32.not_lt, -Int64.not_le, -Int64.not_lt, i3lt, i6lt, l1]
    try simp (disch := omega) [-Prod.forall, -Prod.exists, -Prod.mk.injEq, -Int32.not_le, -Int32.not_lt, -Int64.not_le, -Int64.not_lt, i3lt, i6lt, l1]
    exact k
  · have l1 : -nI x < -9 := (sb_nlt (a := x) (b := 9) (by omega) (by omega)).mpr (by omega)
    rw [if_neg c, if_neg c] at k
    rw [if_neg c] at hp2
    have e2 : nI (p - 1) + -1 = nI (p - 2) := sb_m1 (by omega)
    refine dvk_ok (nC := n + 0) DJ6_getChars_ba4f3 hTyA hR (VC := []) (VD := []) (SD := []) (AL := []) (fun _ h => absurd h List.not_mem_nil) (fun _ h => absurd h List.not_mem_nil) (fun _ h => absurd h List.not_mem_nil) [97] 10 _ _ _ _ _ _ ?_
    simp (maxSteps := 1000000) [↓Bool.cond_eq_ite, -Prod.forall, -Prod.exists, -Prod.mk.injEq, ↓jc_eq_t, ↓jc_eq_f, ↓jc_ne_t, ↓jc_ne_f, ↓jc_lt_t, ↓jc_lt_f, ↓jc_ge_t, ↓jc_ge_f, ↓jc_gt_t, ↓jc_gt_f, ↓jc_le_t, ↓jc_le_f, dvk, tJ6_getChars_ba4f3, jtb, jol, dvl, dal, dst, jlk, jcmp, jbin, jfl, qJ6, jc2, qlJ6, jcat, jel, lv_args, Value.category, jins, jsrt, jins2, jble, jblt, jf3, List.filter_cons, List.filter_nil, Dlo, Dnr, DnL, Dfree, Droom, DuS_S, DuS_I, DuS_L, DuS_R, DuS_N, DuS_A, DuI_S, DuI_I, DuI_L, DuI_R, DuI_N, DuI_A, DuL_S, DuL_I, DuL_L, DuL_R, DuL_N, DuL_A, DuR_S, DuR_I, DuR_L, DuR_R, DuR_N, DuR_A, Dnw_S, Dnw_I, Dnw_L, Dnw_R, Dnw_N, Dnw_A, DrI_S, DrI_I, DrI_L, DrI_R, DrI_N, DrI_A, DrJ_S, DrJ_I, DrJ_L, DrJ_R, DrJ_N, DrJ_A, dm64, G_d, G_x0, -Int32.not_le, -Int32.not_lt, -Int64.not_le, -Int64.not_lt, i3lt, i6lt, l1, e2]
    try simp (disch := omega) [-Prod.forall, -Prod.exists, -Prod.mk.injEq, -Int32.not_le, -Int32.not_lt, -Int64.not_le, -Int64.not_lt, i3lt, i6lt, l1, e2]
    refine dr_gets (idx := 87) (v := .ref 503) rfl (dEt_d2 hE).1 (show Cond.fieldLink RJ6 87 "java/lang/Integer" "DigitTens" "[B" ∈ jGw from jGw_of 989 (by decide +kernel) (by decide +kernel)) (by decide +kernel) ?_
    refine dvk_ok (nC := n + 0) DJ6_getChars_ba4f3 hTyA hR (VC := []) (VD := []) (SD := []) (AL := []) (fun _ h => absurd h List.not_mem_nil) (fun _ h => absurd h List.not_mem_nil) (fun _ h => absurd h List.not_mem_nil) [102] 10 _ _ _ _ _ _ ?_
    simp (maxSteps := 1000000) [↓Bool.cond_eq_ite, -Prod.forall, -Prod.exists, -Prod.mk.injEq, ↓jc_eq_t, ↓jc_eq_f, ↓jc_ne_t, ↓jc_ne_f, ↓jc_lt_t, ↓jc_lt_f, ↓jc_ge_t, ↓jc_ge_f, ↓jc_gt_t, ↓jc_gt_f, ↓jc_le_t, ↓jc_le_f, dvk, tJ6_getChars_ba4f3, jtb, jol, dvl, dal, dst, jlk, jcmp, jbin, jfl, qJ6, jc2, qlJ6, jcat, jel, lv_args, Value.category, jins, jsrt, jins2, jble, jblt, jf3, List.filter_cons, List.filter_nil, Dlo, Dnr, DnL, Dfree, Droom, DuS_S, DuS_I, DuS_L, DuS_R, DuS_N, DuS_A, DuI_S, DuI_I, DuI_L, DuI_R, DuI_N, DuI_A, DuL_S, DuL_I, DuL_L, DuL_R, DuL_N, DuL_A, DuR_S, DuR_I, DuR_L, DuR_R, DuR_N, DuR_A, Dnw_S, Dnw_I, Dnw_L, Dnw_R, Dnw_N, Dnw_A, DrI_S, DrI_I, DrI_L, DrI_R, DrI_N, DrI_A, DrJ_S, DrJ_I, DrJ_L, DrJ_R, DrJ_N, DrJ_A, dm64, G_d, G_x0, -Int32.not_le, -Int32.not_lt, -Int64.not_le, -Int64.not_lt, i3lt, i6lt]
    try simp (disch := omega) [-Prod.forall, -Prod.exists, -Prod.mk.injEq, -Int32.not_le, -Int32.not_lt, -Int64.not_le, -Int64.not_lt, i3lt, i6lt]
    refine dr_dig (m := m) (f := fun i => 48 + i / 10) (by omega) (dEt_d2 hE).2 rfl hx (by decide +kernel) (by decide +kernel) hA hN (by omega) hm n2 ?_
    refine dvk_ok (nC := n + 0) DJ6_getChars_ba4f3 hTyA hR (VC := []) (VD := []) (SD := []) (AL := []) (fun _ h => absurd h List.not_mem_nil) (fun _ h => absurd h List.not_mem_nil) (fun _ h => absurd h List.not_mem_nil) [] 10 _ _ _ _ _ _ ?_
    simp (maxSteps := 1000000) [↓Bool.cond_eq_ite, -Prod.forall, -Prod.exists, -Prod.mk.injEq, ↓jc_eq_t, ↓jc_eq_f, ↓jc_ne_t, ↓jc_ne_f, ↓jc_lt_t, ↓jc_lt_f, ↓jc_ge_t, ↓jc_ge_f, ↓jc_gt_t, ↓jc_gt_f, ↓jc_le_t, ↓jc_le_f, dvk, tJ6_getChars_ba4f3, jtb, jol, dvl, dal, dst, jlk, jcmp, jbin, jfl, qJ6, jc2, qlJ6, jcat, jel, lv_args, Value.category, jins, jsrt, jins2, jble, jblt, jf3, List.filter_cons, List.filter_nil, Dlo, Dnr, DnL, Dfree, Droom, DuS_S, DuS_I, DuS_L, DuS_R, DuS_N, DuS_A, DuI_S, DuI_I, DuI_L, DuI_R, DuI_N, DuI_A, DuL_S, DuL_I, DuL_L, DuL_R, DuL_N, DuL_A, DuR_S, DuR_I, DuR_L, DuR_R, DuR_N, DuR_A, Dnw_S, Dnw_I, Dnw_L, Dnw_R, Dnw_N, Dnw_A, DrI_S, DrI_I, DrI_L, DrI_R, DrI_N, DrI_A, DrJ_S, DrJ_I, DrJ_L, DrJ_R, DrJ_N, DrJ_A, dm64, G_d, G_x0, -Int32.not_le, -Int32.not_lt, -Int64.not_le, -Int64.not_lt, i3lt, i6lt]
    try simp (disch := omega) [-Prod.forall, -Prod.exists, -Prod.mk.injEq, -Int32.not_le, -Int32.not_lt, -Int64.not_le, -Int64.not_lt, i3lt, i6lt]
    exact k
end EMB
