/-! the list of plans: made, and added to -/
section EMG
variable {g : jG} {h0 : Nat}
section DQ
variable {z : dZ} {mt : jMt} {pc : Nat} {L : List (Nat × Value)} {r : List Value} {σ : dM} {c0 s0 : Nat}
theorem dr_acmpE {q tgt : Nat} {off : Int} (d : decode mt.2.1 pc = .ok (.if_acmp .eq off, 3)) (ht : (pc : Int) + off = (tgt : Int)) (k : DW g z mt tgt L r σ c0 s0) : DW g z mt pc L (.ref q :: .ref q :: r) σ c0 s0 := by
  intro p e s m as below meth c H locs ls da X hD hP hS hl
  exact lv_acmp_eq (rx := some (Dadr g da q)) (ry := some (Dadr g da q)) X.1 X.2.1 d ht (fun _ => k p e s m as below meth c H locs ls da X hD hP hS hl) (fun h => absurd rfl h)
theorem dr_newQ {a index : Nat} {n9 : Int32} (ha : darr a 4 9 = true) (hE : ∀ (U : State) (H : Heap), jE g U H → va_AO "java/lang/Object" U) (hlk : Cond.classLink mt.1.cls index "java/lang/Object" ∈ jGw) (hA : DA σ a = false) (hkp : z.2.2.1 a = false)
    (hn : ¬ n9 < 0) (hb : n9.toNatClampNeg ≤ 10000) (hcells : c0 + 1 ≤ z.1.cells) (hslots : s0 + n9.toNatClampNeg ≤ z.1.slots) (hL : DnL a L = true) (hr : Dnr a r = true) (d : decode mt.2.1 pc = .ok (.anewarray index, 3))
    (k : DW g z mt (pc + 3) L (.ref a :: r) (Dnw σ a n9.toNatClampNeg) (c0 + 1) (s0 + n9.toNatClampNeg)) : DW g z mt pc L (.int n9 :: r) σ c0 s0 := by
  intro p e s m as below meth c H locs ls da X hD hP hS hl
  obtain ⟨h1, h2, h3, h4⟩ := darr_spec ha
  refine va_newq (C := "java/lang/Object") X.1 X.2.1 X.2.2.2.2.2.1 (X.2.2.2.2.2.2.1 _ (List.mem_cons_of_mem _ hlk)) (hE _ _ X.2.2.2.2.2.2.2.2.2.2.2) X.2.2.2.2.2.2.2.2.1 hP (DD hD.1) hS (fun q hq => Nat.le_trans X.2.2.2.2.2.2.2.1 hq) hn rfl (by omega) hcells hslots d (fun q cA H1 hK1 hP1 hD1 hS1 => ?_)
  have hcA : cA = jta g 9 := by
    have r1 := (hK1.2 (Dtys g).length (cA, .object "java/lang/Object") (by simp)).2
    have r2 := (X.2.2.2.2.2.2.2.2.1.2 9 _ (Dtys_get g (by decide))).2
    exact va_RA_inj r1 r2
  rw [hcA] at hP1 hD1
  refine DW.born h1 (Dal_no h1 hA) hkp (fun j => Dnw_al) Dnw_cl ?_ (fun j hj _ => ?_) rfl hL hr k X hD hP1 hD1 hS1 hl
  · have e7 : (fun i => (DR (Dnw σ a n9.toNatClampNeg) a i).map (Dadr g (Dup da a q))) = fun _ => none := funext fun i => by
      rw [Dnw_R, if_pos rfl]
      rfl
    rw [Dce_4 h1 h3, h4, Dnw_N, if_pos rfl]
    rw [e7]
  · refine ⟨funext fun i => ?_, funext fun i => ?_, funext fun i => ?_, ?_⟩
    · rw [Dnw_I, if_neg hj]
    · rw [Dnw_L, if_neg hj]
    · rw [Dnw_R, if_neg hj]
    · rw [Dnw_N, if_neg hj]
theorem dr_aastI {a v : Nat} {j : Int32} (ha : darr a 4 9 = true) (hA : DA σ a = true) (hv : darr v 1 0 = true) (hB : DA σ v = true) (hj : jin j (DN σ a)) (hE : ∀ (U : State) (H : Heap), jE g U H → va_Nw (.castable "[I" "java/lang/Object") U) (d : decode mt.2.1 pc = .ok (.aastore, 1)) (k : DW g z mt (pc + 1) L r (DuR σ a j.toNatClampNeg (some v)) c0 s0) : DW g z mt pc L (.ref v :: .int j :: .ref a :: r) σ c0 s0 := by
  intro p e s m as below meth c H locs ls da X hD hP hS hl
  obtain ⟨h1, h2, h3, h4⟩ := darr_spec ha
  obtain ⟨q1, q2, q3, q4⟩ := darr_spec hv
  obtain ⟨i, hi, hg⟩ := Dws_get (g := g) (da := da) (Dal_hi h1 h2 hA)
  rw [Dce_4 h1 h3, h4] at hg
  have hK := X.2.2.2.2.2.2.2.2.1
  have hc := Dws_at hP (Dal_hi q1 q2 hB)
  rw [Dce_1 q1 q3, q4] at hc
  refine vb_astq (C := "[I") X.1 X.2.1 hK hP (DD hD.1) hS i 9 hg (Dtys_get g (by decide)) ⟨_, hc, rfl, (hK.2 0 _ (Dtys_get g (by decide))).2⟩ (vb_asgC (hE _ _ X.2.2.2.2.2.2.2.2.2.2.2)) (jin_vp hj) d (fun H1 locs1 hP1 hD1 hS1 => ?_)
  have hok : Dok g z.2.2.2.2 da (DuR σ a j.toNatClampNeg (some v)) := ⟨hD.1.1, hD.1.2.1, fun x y q hx hx2 e => by
    rw [DuR_R] at e
    split at e
    · cases e; exact Or.inr (Dal_hi q1 q2 hB)
    · exact hD.1.2.2 x y q hx hx2 e⟩
  refine k p e s m as below meth c H1 locs1 ls da X ⟨hok, hD.2⟩ (Dws_set hi (fun _ => rfl) ?_ (fun q hq _ => DuR_ne hq) hP1) hS1 hl
  have e7 : (fun q => (DR (DuR σ a j.toNatClampNeg (some v)) a q).map (Dadr g da)) = va_up (fun q => (DR σ a q).map (Dadr g da)) j.toNatClampNeg (some (Dadr g da v)) := funext fun q => by
    rw [DuR_R]
    unfold va_up
    by_cases c : q = j.toNatClampNeg
    · rw [if_pos ⟨rfl, c⟩, if_pos c]
      rfl
    · rw [if_neg (fun z => c z.2), if_neg c]
  rw [Dce_4 h1 h3, h4, e7]
  rfl
end DQ
theorem dEt_AO (hE : dEt g h0) : ∀ (U : State) (H : Heap), jE g U H → va_AO "java/lang/Object" U := hE.1.2.2.2.2.2
theorem dEt_cO (hE : dEt g h0) : ∀ (U : State) (H : Heap), jE g U H → va_Nw (.castable "[I" "java/lang/Object") U := hE.1.2.2.2.2.1
theorem dEt_e0 (hE : dEt g h0) : ∀ (U : State) (H : Heap), jE g U H → va_T (.object "java/lang/Object") (jad g 504) 0 (fun _ => .null) (Dge h0) U H := fun U H h => (hE.2 U H h).2.2.2.1.2
theorem dEt_es (hE : dEt g h0) : ∀ (U : State) (H : Heap), jE g U H → va_Z "java/util/ArrayList" "DEFAULTCAPACITY_EMPTY_ELEMENTDATA" "[Ljava/lang/Object;" (jrl g (.ref 504)) (Dge h0) U H := fun U H h => (hE.2 U H h).2.2.2.1.1
def dA0 : dO := doR fun a σ => (a = 1900 ∧ DA σ 1900 = true, fun v τ => v = none ∧ τ = σ)
set_option maxRecDepth 100000 in
set_option maxHeartbeats 4000000 in
theorem EJxa_init (k : Nat) : dOk g h0 (k + 1) 0 0 [] mJxa1e45_init_da8c8 dA0 := by
  refine doR_ok ?_
  rintro _ σ ⟨rfl, hA⟩
  refine dCon.gt (by decide +kernel) (by simp [lg_sl, Value.category]) (fun z hz0 hkp hcl hz post hp hR => ?_)
  subst hz0
  have n := k
  show DW g z mJxa1e45_init_da8c8 0 [(0, .ref 1900)] [] σ 0 0
  refine dvk_ok (nC := n + 0) DJxa1e45_init_da8c8 hTyA hR (VC := []) (VD := []) (SD := []) (AL := []) (fun _ h => absurd h List.not_mem_nil) (fun _ h => absurd h List.not_mem_nil) (fun _ h => absurd h List.not_mem_nil) [1] 10 _ _ _ _ _ _ ?_
  simp (maxSteps := 1000000) [↓Bool.cond_eq_ite, -Prod.forall, -Prod.exists, -Prod.mk.injEq, ↓jc_eq_t, ↓jc_eq_f, ↓jc_ne_t, ↓jc_ne_f, ↓jc_lt_t, ↓jc_lt_f, ↓jc_ge_t, ↓jc_ge_f, ↓jc_gt_t, ↓jc_gt_f, ↓jc_le_t, ↓jc_le_f, dvk, tJxa1e45_init_da8c8, jtb, jol, dvl, dal, dst, jlk, jcmp, jbin, jfl, qJxa1e45, jc2, qlJxa1e45, jcat, jel, lv_args, Value.category, jins, jsrt, jins2, jble, jblt, jf3, List.filter_cons, List.filter_nil, Dlo, Dnr, DnL, Dfree, Droom, DuS_S, DuS_I, DuS_L, DuS_R, DuS_N, DuS_A, DuI_S, DuI_I, DuI_L, DuI_R, DuI_N, DuI_A, DuL_S, DuL_I, DuL_L, DuL_R, DuL_N, DuL_A, DuR_S, DuR_I, DuR_L, DuR_R, DuR_N, DuR_A, Dnw_S, Dnw_I, Dnw_L, Dnw_R, Dnw_N, Dnw_A, DrI_S, DrI_I, DrI_L, DrI_R, DrI_N, DrI_A, DrJ_S, DrJ_I, DrJ_L, DrJ_R, DrJ_N, DrJ_A, dm64, G_d, G_x0, -Int32.not_le, -Int32.not_lt, -Int64.not_le, -Int64.not_lt, i3lt, i6lt]
  try simp (disch := omega) [-Prod.forall, -Prod.exists, -Prod.mk.injEq, -Int32.not_le, -Int32.not_lt, -Int64.not_le, -Int64.not_lt, i3lt, i6lt]
  refine dr_objI (show Cond.methodLink RJxa1e45 1 objectInit ∈ jGw from jGw_of 715 (by decide +kernel) (by decide +kernel)) ⟨by omega, by omega⟩ (by simp) (by decide +kernel) ?_
  refine dvk_ok (nC := n + 0) DJxa1e45_init_da8c8 hTyA hR (VC := []) (VD := []) (SD := []) (AL := []) (fun _ h => absurd h List.not_mem_nil) (fun _ h => absurd h List.not_mem_nil) (fun _ h => absurd h List.not_mem_nil) [] 10 _ _ _ _ _ _ ?_
  simp (maxSteps := 1000000) [↓Bool.cond_eq_ite, -Prod.forall, -Prod.exists, -Prod.mk.injEq, ↓jc_eq_t, ↓jc_eq_f, ↓jc_ne_t, ↓jc_ne_f, ↓jc_lt_t, ↓jc_lt_f, ↓jc_ge_t, ↓jc_ge_f, ↓jc_gt_t, ↓jc_gt_f, ↓jc_le_t, ↓jc_le_f, dvk, tJxa1e45_init_da8c8, jtb, jol, dvl, dal, dst, jlk, jcmp, jbin, jfl, qJxa1e45, jc2, qlJxa1e45, jcat, jel, lv_args, Value.category, jins, jsrt, jins2, jble, jblt, jf3, List.filter_cons, List.filter_nil, Dlo, Dnr, DnL, Dfree, Droom, DuS_S, DuS_I, DuS_L, DuS_R, DuS_N, DuS_A, DuI_S, DuI_I, DuI_L, DuI_R, DuI_N, DuI_A, DuL_S, DuL_I, DuL_L, DuL_R, DuL_N, DuL_A, DuR_S, DuR_I, DuR_L, DuR_R, DuR_N, DuR_A, Dnw_S, Dnw_I, Dnw_L, Dnw_R, Dnw_N, Dnw_A, DrI_S, DrI_I, DrI_L, DrI_R, DrI_N, DrI_A, DrJ_S, DrJ_I, DrJ_L, DrJ_R, DrJ_N, DrJ_A, dm64, G_d, G_x0, -Int32.not_le, -Int32.not_lt, -Int64.not_le, -Int64.not_lt, i3lt, i6lt]
  try simp (disch := omega) [-Prod.forall, -Prod.exists, -Prod.mk.injEq, -Int32.not_le, -Int32.not_lt, -Int64.not_le, -Int64.not_lt, i3lt, i6lt]
  exact ⟨⟨by omega, by omega⟩, σ, Dsub.rfl hcl, hp _ _ ⟨rfl, rfl⟩⟩
def dA1 : dO := doR fun a σ => (a = 1900 ∧ DA σ 1900 = true, fun v τ => v = none ∧ τ = DuI σ 1900 0 0)
set_option maxRecDepth 100000 in
set_option maxHeartbeats 4000000 in
theorem EJxc_init (k : Nat) : dOk g h0 (k + 2) 0 0 [] mJxc12de_init_da8c8 dA1 := by
  refine doR_ok ?_
  rintro _ σ ⟨rfl, hA⟩
  refine dCon.gt (by decide +kernel) (by simp [lg_sl, Value.category]) (fun z hz0 hkp hcl hz post hp hR => ?_)
  subst hz0
  have n := k
  show DW g z mJxc12de_init_da8c8 0 [(0, .ref 1900)] [] σ 0 0
  refine dvk_ok (nC := n + 0) DJxc12de_init_da8c8 hTyA hR (VC := []) (VD := []) (SD := []) (AL := []) (fun _ h => absurd h List.not_mem_nil) (fun _ h => absurd h List.not_mem_nil) (fun _ h => absurd h List.not_mem_nil) [1] 10 _ _ _ _ _ _ ?_
  simp (maxSteps := 1000000) [↓Bool.cond_eq_ite, -Prod.forall, -Prod.exists, -Prod.mk.injEq, ↓jc_eq_t, ↓jc_eq_f, ↓jc_ne_t, ↓jc_ne_f, ↓jc_lt_t, ↓jc_lt_f, ↓jc_ge_t, ↓jc_ge_f, ↓jc_gt_t, ↓jc_gt_f, ↓jc_le_t, ↓jc_le_f, dvk, tJxc12de_init_da8c8, jtb, jol, dvl, dal, dst, jlk, jcmp, jbin, jfl, qJxc12de, jc2, qlJxc12de, jcat, jel, lv_args, Value.category, jins, jsrt, jins2, jble, jblt, jf3, List.filter_cons, List.filter_nil, Dlo, Dnr, DnL, Dfree, Droom, DuS_S, DuS_I, DuS_L, DuS_R, DuS_N, DuS_A, DuI_S, DuI_I, DuI_L, DuI_R, DuI_N, DuI_A, DuL_S, DuL_I, DuL_L, DuL_R, DuL_N, DuL_A, DuR_S, DuR_I, DuR_L, DuR_R, DuR_N, DuR_A, Dnw_S, Dnw_I, Dnw_L, Dnw_R, Dnw_N, Dnw_A, DrI_S, DrI_I, DrI_L, DrI_R, DrI_N, DrI_A, DrJ_S, DrJ_I, DrJ_L, DrJ_R, DrJ_N, DrJ_A, dm64, G_d, G_x0, -Int32.not_le, -Int32.not_lt, -Int64.not_le, -Int64.not_lt, i3lt, i6lt]
  try simp (disch := omega) [-Prod.forall, -Prod.exists, -Prod.mk.injEq, -Int32.not_le, -Int32.not_lt, -Int64.not_le, -Int64.not_lt, i3lt, i6lt]
  have hc := EJxa_init (g := g) (h0 := z.2.2.2.2) k [.ref 1900] σ ⟨rfl, hA⟩
  refine dr_callI (idx := 1) (mt' := mJxa1e45_init_da8c8) (tl := []) (n' := k + 1) (mc := 0) (ms := 0) (a := 1900) (as := []) ⟨by omega, by show 8 + (1 + 11) + 64 * (k + 1) ≤ _; omega, by omega, by omega⟩ trivial (by decide +kernel) hJxc12de_1 WJxa1e45_init_da8c8 rfl rfl (by simp [Value.category]) hc ?_
  rintro v τ ⟨rfl, rfl⟩
  show DW g z mJxc12de_init_da8c8 4 _ [] τ 0 0
  refine DW.cl (fun hcl9 => ?_)
  refine dvk_ok (nC := n + 0) DJxc12de_init_da8c8 hTyA hR (VC := []) (VD := []) (SD := []) (AL := []) (fun _ h => absurd h List.not_mem_nil) (fun _ h => absurd h List.not_mem_nil) (fun _ h => absurd h List.not_mem_nil) [] 10 _ _ _ _ _ _ ?_
  simp (maxSteps := 1000000) [↓Bool.cond_eq_ite, -Prod.forall, -Prod.exists, -Prod.mk.injEq, ↓jc_eq_t, ↓jc_eq_f, ↓jc_ne_t, ↓jc_ne_f, ↓jc_lt_t, ↓jc_lt_f, ↓jc_ge_t, ↓jc_ge_f, ↓jc_gt_t, ↓jc_gt_f, ↓jc_le_t, ↓jc_le_f, dvk, tJxc12de_init_da8c8, jtb, jol, dvl, dal, dst, jlk, jcmp, jbin, jfl, qJxc12de, jc2, qlJxc12de, jcat, jel, lv_args, Value.category, jins, jsrt, jins2, jble, jblt, jf3, List.filter_cons, List.filter_nil, Dlo, Dnr, DnL, Dfree, Droom, DuS_S, DuS_I, DuS_L, DuS_R, DuS_N, DuS_A, DuI_S, DuI_I, DuI_L, DuI_R, DuI_N, DuI_A, DuL_S, DuL_I, DuL_L, DuL_R, DuL_N, DuL_A, DuR_S, DuR_I, DuR_L, DuR_R, DuR_N, DuR_A, Dnw_S, Dnw_I, Dnw_L, Dnw_R, Dnw_N, Dnw_A, DrI_S, DrI_I, DrI_L, DrI_R, DrI_N, DrI_A, DrJ_S, DrJ_I, DrJ_L, DrJ_R, DrJ_N, DrJ_A, dm64, G_d, G_x0, -Int32.not_le, -Int32.not_lt, -Int64.not_le, -Int64.not_lt, i3lt, i6lt, hA, G_al]
  try simp (disch := omega) [-Prod.forall, -Prod.exists, -Prod.mk.injEq, -Int32.not_le, -Int32.not_lt, -Int64.not_le, -Int64.not_lt, i3lt, i6lt, hA, G_al]
  exact ⟨⟨by omega, by omega⟩, _, Dsub.rfl hcl9, hp _ _ ⟨rfl, rfl⟩⟩
def dA2 : dO := doR fun a σ => (a = 1900 ∧ DA σ 1900 = true, fun v τ => v = none ∧ τ = DuR (DuI σ 1900 0 0) 1900 1 (some 504))
set_option maxRecDepth 100000 in
set_option maxHeartbeats 4000000 in
theorem EJxl_init (hE : dEt g h0) (k : Nat) : dOk g h0 (k + 3) 0 0 [] mJx4a65c_init_da8c8 dA2 := by
  refine doR_ok ?_
  rintro _ σ ⟨rfl, hA⟩
  refine dCon.gt (by decide +kernel) (by simp [lg_sl, Value.category]) (fun z hz0 hkp hcl hz post hp hR => ?_)
  subst hz0
  have n := k
  show DW g z mJx4a65c_init_da8c8 0 [(0, .ref 1900)] [] σ 0 0
  refine dvk_ok (nC := n + 0) DJx4a65c_init_da8c8 hTyA hR (VC := []) (VD := []) (SD := []) (AL := []) (fun _ h => absurd h List.not_mem_nil) (fun _ h => absurd h List.not_mem_nil) (fun _ h => absurd h List.not_mem_nil) [1] 10 _ _ _ _ _ _ ?_
  simp (maxSteps := 1000000) [↓Bool.cond_eq_ite, -Prod.forall, -Prod.exists, -Prod.mk.injEq, ↓jc_eq_t, ↓jc_eq_f, ↓jc_ne_t, ↓jc_ne_f, ↓jc_lt_t, ↓jc_lt_f, ↓jc_ge_t, ↓jc_ge_f, ↓jc_gt_t, ↓jc_gt_f, ↓jc_le_t, ↓jc_le_f, dvk, tJx4a65c_init_da8c8, jtb, jol, dvl, dal, dst, jlk, jcmp, jbin, jfl, qJx4a65c, jc2, qlJx4a65c, jcat, jel, lv_args, Value.category, jins, jsrt, jins2, jble, jblt, jf3, List.filter_cons, List.filter_nil, Dlo, Dnr, DnL, Dfree, Droom, DuS_S, DuS_I, DuS_L, DuS_R, DuS_N, DuS_A, DuI_S, DuI_I, DuI_L, DuI_R, DuI_N, DuI_A, DuL_S, DuL_I, DuL_L, DuL_R, DuL_N, DuL_A, DuR_S, DuR_I, DuR_L, DuR_R, DuR_N, DuR_A, Dnw_S, Dnw_I, Dnw_L, Dnw_R, Dnw_N, Dnw_A, DrI_S, DrI_I, DrI_L, DrI_R, DrI_N, DrI_A, DrJ_S, DrJ_I, DrJ_L, DrJ_R, DrJ_N, DrJ_A, dm64, G_d, G_x0, -Int32.not_le, -Int32.not_lt, -Int64.not_le, -Int64.not_lt, i3lt, i6lt]
  try simp (disch := omega) [-Prod.forall, -Prod.exists, -Prod.mk.injEq, -Int32.not_le, -Int32.not_lt, -Int64.not_le, -Int64.not_lt, i3lt, i6lt]
  have hc := EJxc_init (g := g) (h0 := z.2.2.2.2) k [.ref 1900] σ ⟨rfl, hA⟩
  refine dr_callI (idx := 1) (mt' := mJxc12de_init_da8c8) (tl := []) (n' := k + 2) (mc := 0) (ms := 0) (a := 1900) (as := []) ⟨by omega, by show 8 + (1 + 11) + 64 * (k + 2) ≤ _; omega, by omega, by omega⟩ trivial (by decide +kernel) hJx4a65c_1 WJxc12de_init_da8c8 rfl rfl (by simp [Value.category]) hc ?_
  rintro v τ ⟨rfl, rfl⟩
  show DW g z mJx4a65c_init_da8c8 4 _ [] _ 0 0
  refine dvk_ok (nC := n + 0) DJx4a65c_init_da8c8 hTyA hR (VC := []) (VD := []) (SD := []) (AL := []) (fun _ h => absurd h List.not_mem_nil) (fun _ h => absurd h List.not_mem_nil) (fun _ h => absurd h List.not_mem_nil) [5] 10 _ _ _ _ _ _ ?_
  simp (maxSteps := 1000000) [↓Bool.cond_eq_ite, -Prod.forall, -Prod.exists, -Prod.mk.injEq, ↓jc_eq_t, ↓jc_eq_f, ↓jc_ne_t, ↓jc_ne_f, ↓jc_lt_t, ↓jc_lt_f, ↓jc_ge_t, ↓jc_ge_f, ↓jc_gt_t, ↓jc_gt_f, ↓jc_le_t, ↓jc_le_f, dvk, tJx4a65c_init_da8c8, jtb, jol, dvl, dal, dst, jlk, jcmp, jbin, jfl, qJx4a65c, jc2, qlJx4a65c, jcat, jel, lv_args, Value.category, jins, jsrt, jins2, jble, jblt, jf3, List.filter_cons, List.filter_nil, Dlo, Dnr, DnL, Dfree, Droom, DuS_S, DuS_I, DuS_L, DuS_R, DuS_N, DuS_A, DuI_S, DuI_I, DuI_L, DuI_R, DuI_N, DuI_A, DuL_S, DuL_I, DuL_L, DuL_R, DuL_N, DuL_A, DuR_S, DuR_I, DuR_L, DuR_R, DuR_N, DuR_A, Dnw_S, Dnw_I, Dnw_L, Dnw_R, Dnw_N, Dnw_A, DrI_S, DrI_I, DrI_L, DrI_R, DrI_N, DrI_A, DrJ_S, DrJ_I, DrJ_L, DrJ_R, DrJ_N, DrJ_A, dm64, G_d, G_x0, -Int32.not_le, -Int32.not_lt, -Int64.not_le, -Int64.not_lt, i3lt, i6lt]
  try simp (disch := omega) [-Prod.forall, -Prod.exists, -Prod.mk.injEq, -Int32.not_le, -Int32.not_lt, -Int64.not_le, -Int64.not_lt, i3lt, i6lt]
  refine dr_gets (idx := 39) (v := .ref 504) rfl (dEt_es hE) (jGw_of 716 (by decide +kernel) (by decide +kernel)) (by decide +kernel) ?_
  refine dr_putr qJx4a65c_9 (by decide +kernel) hA (Or.inl (by decide)) (by decide +kernel) ?_
  refine DW.cl (fun hcl9 => ?_)
  refine dvk_ok (nC := n + 0) DJx4a65c_init_da8c8 hTyA hR (VC := []) (VD := []) (SD := []) (AL := []) (fun _ h => absurd h List.not_mem_nil) (fun _ h => absurd h List.not_mem_nil) (fun _ h => absurd h List.not_mem_nil) [] 10 _ _ _ _ _ _ ?_
  simp (maxSteps := 1000000) [↓Bool.cond_eq_ite, -Prod.forall, -Prod.exists, -Prod.mk.injEq, ↓jc_eq_t, ↓jc_eq_f, ↓jc_ne_t, ↓jc_ne_f, ↓jc_lt_t, ↓jc_lt_f, ↓jc_ge_t, ↓jc_ge_f, ↓jc_gt_t, ↓jc_gt_f, ↓jc_le_t, ↓jc_le_f, dvk, tJx4a65c_init_da8c8, jtb, jol, dvl, dal, dst, jlk, jcmp, jbin, jfl, qJx4a65c, jc2, qlJx4a65c, jcat, jel, lv_args, Value.category, jins, jsrt, jins2, jble, jblt, jf3, List.filter_cons, List.filter_nil, Dlo, Dnr, DnL, Dfree, Droom, DuS_S, DuS_I, DuS_L, DuS_R, DuS_N, DuS_A, DuI_S, DuI_I, DuI_L, DuI_R, DuI_N, DuI_A, DuL_S, DuL_I, DuL_L, DuL_R, DuL_N, DuL_A, DuR_S, DuR_I, DuR_L, DuR_R, DuR_N, DuR_A, Dnw_S, Dnw_I, Dnw_L, Dnw_R, Dnw_N, Dnw_A, DrI_S, DrI_I, DrI_L, DrI_R, DrI_N, DrI_A, DrJ_S, DrJ_I, DrJ_L, DrJ_R, DrJ_N, DrJ_A, dm64, G_d, G_x0, -Int32.not_le, -Int32.not_lt, -Int64.not_le, -Int64.not_lt, i3lt, i6lt]
  try simp (disch := omega) [-Prod.forall, -Prod.exists, -Prod.mk.injEq, -Int32.not_le, -Int32.not_lt, -Int64.not_le, -Int64.not_lt, i3lt, i6lt]
  exact ⟨⟨by omega, by omega⟩, _, Dsub.rfl hcl9, hp _ _ ⟨rfl, rfl⟩⟩
/-! grow -/
def alG (σ : dM) : dM := DuR (Dnw σ 2000 10) 1900 1 (some 2000)
def dGr : dO := doRI fun a x σ => (a = 1900 ∧ x = nI 1 ∧ (DA σ 1900 = true ∧ DR σ 1900 1 = some 504) ∧ DA σ 2000 = false, fun v τ => v = some (.ref 2000) ∧ τ = alG σ)
set_option maxRecDepth 100000 in
set_option maxHeartbeats 4000000 in
theorem EJxl_growI (hE : dEt g h0) (n : Nat) : dOk g h0 (n + 1) 1 10 [2000] mJx4a65c_grow_92f84 dGr := by
  refine doRI_ok ?_
  rintro _ _ σ ⟨rfl, rfl, ⟨hA, hB⟩, hA1⟩
  refine dCon.gt (by decide +kernel) (by simp [lg_sl, Value.category]) (fun z hz0 hkp hcl hz post hp hR => ?_)
  subst hz0
  simp only [DkF] at hkp
  have c0 : nI 0 ≤ 0 := by decide
  have e10 : (10 : Int32).toNatClampNeg = 10 := by decide
  have e1 : (if nI 1 ≤ 10 then 10 else nI 1) = 10 := by decide
  show DW g z mJx4a65c_grow_92f84 0 [(0, .ref 1900), (1, .int (nI 1))] [] σ 0 0
  refine dvk_ok (nC := n + 2) DJx4a65c_grow_92f84 hTyA hR (VC := []) (VD := []) (SD := [(79, 2, 0, n + 0, 0, 0, 0, [], dJ9_max_7cf53)]) (AL := []) (fun _ h => absurd h List.not_mem_nil) (fun _ h => absurd h List.not_mem_nil) (List.forall_mem_cons.mpr ⟨⟨mJ9_max_7cf53, by decide, Or.inl hJx4a65c_79, WJ9_max_7cf53, EJ9_max_7cf53 g _ n⟩, (fun _ h => absurd h List.not_mem_nil)⟩) [4] 10 _ _ _ _ _ _ ?_
  simp (maxSteps := 1000000) [↓Bool.cond_eq_ite, -Prod.forall, -Prod.exists, -Prod.mk.injEq, ↓jc_eq_t, ↓jc_eq_f, ↓jc_ne_t, ↓jc_ne_f, ↓jc_lt_t, ↓jc_lt_f, ↓jc_ge_t, ↓jc_ge_f, ↓jc_gt_t, ↓jc_gt_f, ↓jc_le_t, ↓jc_le_f, dvk, tJx4a65c_grow_92f84, jtb, jol, dvl, dal, dst, jlk, jcmp, jbin, jfl, qJx4a65c, jc2, qlJx4a65c, jcat, jel, lv_args, Value.category, jins, jsrt, jins2, jble, jblt, jf3, List.filter_cons, List.filter_nil, Dlo, Dnr, DnL, Dfree, Droom, DuS_S, DuS_I, DuS_L, DuS_R, DuS_N, DuS_A, DuI_S, DuI_I, DuI_L, DuI_R, DuI_N, DuI_A, DuL_S, DuL_I, DuL_L, DuL_R, DuL_N, DuL_A, DuR_S, DuR_I, DuR_L, DuR_R, DuR_N, DuR_A, Dnw_S, Dnw_I, Dnw_L, Dnw_R, Dnw_N, Dnw_A, DrI_S, DrI_I, DrI_L, DrI_R, DrI_N, DrI_A, DrJ_S, DrJ_I, DrJ_L, DrJ_R, DrJ_N, DrJ_A, dm64, G_d, G_x0, dJ9_max_7cf53, doII, -Int32.not_le, -Int32.not_lt, -Int64.not_le, -Int64.not_lt, i3lt, i6lt, hA, hB, G_al]
  try simp (disch := omega) [-Prod.forall, -Prod.exists, -Prod.mk.injEq, -Int32.not_le, -Int32.not_lt, -Int64.not_le, -Int64.not_lt, i3lt, i6lt, hA, hB, G_al]
  refine dr_elen (q := 504) (by decide) (dEt_e0 hE) (by decide +kernel) ?_
  refine dvk_ok (nC := n + 2) DJx4a65c_grow_92f84 hTyA hR (VC := []) (VD := []) (SD := [(79, 2, 0, n + 0, 0, 0, 0, [], dJ9_max_7cf53)]) (AL := []) (fun _ h => absurd h List.not_mem_nil) (fun _ h => absurd h List.not_mem_nil) (List.forall_mem_cons.mpr ⟨⟨mJ9_max_7cf53, by decide, Or.inl hJx4a65c_79, WJ9_max_7cf53, EJ9_max_7cf53 g _ n⟩, (fun _ h => absurd h List.not_mem_nil)⟩) [14] 20 _ _ _ _ _ _ ?_
  simp (maxSteps := 1000000) [↓Bool.cond_eq_ite, -Prod.forall, -Prod.exists, -Prod.mk.injEq, ↓jc_eq_t, ↓jc_eq_f, ↓jc_ne_t, ↓jc_ne_f, ↓jc_lt_t, ↓jc_lt_f, ↓jc_ge_t, ↓jc_ge_f, ↓jc_gt_t, ↓jc_gt_f, ↓jc_le_t, ↓jc_le_f, dvk, tJx4a65c_grow_92f84, jtb, jol, dvl, dal, dst, jlk, jcmp, jbin, jfl, qJx4a65c, jc2, qlJx4a65c, jcat, jel, lv_args, Value.category, jins, jsrt, jins2, jble, jblt, jf3, List.filter_cons, List.filter_nil, Dlo, Dnr, DnL, Dfree, Droom, DuS_S, DuS_I, DuS_L, DuS_R, DuS_N, DuS_A, DuI_S, DuI_I, DuI_L, DuI_R, DuI_N, DuI_A, DuL_S, DuL_I, DuL_L, DuL_R, DuL_N, DuL_A, DuR_S, DuR_I, DuR_L, DuR_R, DuR_N, DuR_A, Dnw_S, Dnw_I, Dnw_L, Dnw_R, Dnw_N, Dnw_A, DrI_S, DrI_I, DrI_L, DrI_R, DrI_N, DrI_A, DrJ_S, DrJ_I, DrJ_L, DrJ_R, DrJ_N, DrJ_A, dm64, G_d, G_x0, dJ9_max_7cf53, doII, -Int32.not_le, -Int32.not_lt, -Int64.not_le, -Int64.not_lt, i3lt, i6lt, hA, hB, G_al, c0]
  try simp (disch := omega) [-Prod.forall, -Prod.exists, -Prod.mk.injEq, -Int32.not_le, -Int32.not_lt, -Int64.not_le, -Int64.not_lt, i3lt, i6lt, hA, hB, G_al, c0]
  refine dr_gets (idx := 39) (v := .ref 504) rfl (dEt_es hE) (jGw_of 716 (by decide +kernel) (by decide +kernel)) (by decide +kernel) ?_
  refine dr_acmpE (tgt := 45) (show decode cJx4a65c_grow_92f84 17 = .ok (.if_acmp .eq 28, 3) by decide +kernel) (by decide) ?_
  refine dvk_ok (nC := n + 2) DJx4a65c_grow_92f84 hTyA hR (VC := []) (VD := []) (SD := [(79, 2, 0, n + 0, 0, 0, 0, [], dJ9_max_7cf53)]) (AL := []) (fun _ h => absurd h List.not_mem_nil) (fun _ h => absurd h List.not_mem_nil) (List.forall_mem_cons.mpr ⟨⟨mJ9_max_7cf53, by decide, Or.inl hJx4a65c_79, WJ9_max_7cf53, EJ9_max_7cf53 g _ n⟩, (fun _ h => absurd h List.not_mem_nil)⟩) [52] 20 _ _ _ _ _ _ ?_
  simp (maxSteps := 1000000) [↓Bool.cond_eq_ite, -Prod.forall, -Prod.exists, -Prod.mk.injEq, ↓jc_eq_t, ↓jc_eq_f, ↓jc_ne_t, ↓jc_ne_f, ↓jc_lt_t, ↓jc_lt_f, ↓jc_ge_t, ↓jc_ge_f, ↓jc_gt_t, ↓jc_gt_f, ↓jc_le_t, ↓jc_le_f, dvk, tJx4a65c_grow_92f84, jtb, jol, dvl, dal, dst, jlk, jcmp, jbin, jfl, qJx4a65c, jc2, qlJx4a65c, jcat, jel, lv_args, Value.category, jins, jsrt, jins2, jble, jblt, jf3, List.filter_cons, List.filter_nil, Dlo, Dnr, DnL, Dfree, Droom, DuS_S, DuS_I, DuS_L, DuS_R, DuS_N, DuS_A, DuI_S, DuI_I, DuI_L, DuI_R, DuI_N, DuI_A, DuL_S, DuL_I, DuL_L, DuL_R, DuL_N, DuL_A, DuR_S, DuR_I, DuR_L, DuR_R, DuR_N, DuR_A, Dnw_S, Dnw_I, Dnw_L, Dnw_R, Dnw_N, Dnw_A, DrI_S, DrI_I, DrI_L, DrI_R, DrI_N, DrI_A, DrJ_S, DrJ_I, DrJ_L, DrJ_R, DrJ_N, DrJ_A, dm64, G_d, G_x0, dJ9_max_7cf53, doII, -Int32.not_le, -Int32.not_lt, -Int64.not_le, -Int64.not_lt, i3lt, i6lt, e1, hz]
  try simp (disch := omega) [-Prod.forall, -Prod.exists, -Prod.mk.injEq, -Int32.not_le, -Int32.not_lt, -Int64.not_le, -Int64.not_lt, i3lt, i6lt, e1, hz]
  refine dr_newQ (a := 2000) (index := 7) (by decide +kernel) (dEt_AO hE) (jGw_of 1050 (by decide +kernel) (by decide +kernel)) hA1 (by simp [hkp]) (by decide) (by decide) (by omega) (by rw [e10]; omega) (by simp [DnL]) (by simp [Dnr]) (by decide +kernel) ?_
  refine dr_dupx1 rfl rfl (by decide +kernel) ?_
  rw [e10]
  refine dr_putr qJx4a65c_9 (by decide +kernel) (by rw [Dnw_A, if_neg (by decide)]; exact hA) (Or.inr (Dal_hi (by decide) (by decide) (by rw [Dnw_A, if_pos rfl]))) (by decide +kernel) ?_
  refine DW.cl (fun hcl9 => ?_)
  refine dvk_ok (nC := n + 2) DJx4a65c_grow_92f84 hTyA hR (VC := []) (VD := []) (SD := [(79, 2, 0, n + 0, 0, 0, 0, [], dJ9_max_7cf53)]) (AL := []) (fun _ h => absurd h List.not_mem_nil) (fun _ h => absurd h List.not_mem_nil) (List.forall_mem_cons.mpr ⟨⟨mJ9_max_7cf53, by decide, Or.inl hJx4a65c_79, WJ9_max_7cf53, EJ9_max_7cf53 g _ n⟩, (fun _ h => absurd h List.not_mem_nil)⟩) [] 10 _ _ _ _ _ _ ?_
  simp (maxSteps := 1000000) [↓Bool.cond_eq_ite, -Prod.forall, -Prod.exists, -Prod.mk.injEq, ↓jc_eq_t, ↓jc_eq_f, ↓jc_ne_t, ↓jc_ne_f, ↓jc_lt_t, ↓jc_lt_f, ↓jc_ge_t, ↓jc_ge_f, ↓jc_gt_t, ↓jc_gt_f, ↓jc_le_t, ↓jc_le_f, dvk, tJx4a65c_grow_92f84, jtb, jol, dvl, dal, dst, jlk, jcmp, jbin, jfl, qJx4a65c, jc2, qlJx4a65c, jcat, jel, lv_args, Value.category, jins, jsrt, jins2, jble, jblt, jf3, List.filter_cons, List.filter_nil, Dlo, Dnr, DnL, Dfree, Droom, DuS_S, DuS_I, DuS_L, DuS_R, DuS_N, DuS_A, DuI_S, DuI_I, DuI_L, DuI_R, DuI_N, DuI_A, DuL_S, DuL_I, DuL_L, DuL_R, DuL_N, DuL_A, DuR_S, DuR_I, DuR_L, DuR_R, DuR_N, DuR_A, Dnw_S, Dnw_I, Dnw_L, Dnw_R, Dnw_N, Dnw_A, DrI_S, DrI_I, DrI_L, DrI_R, DrI_N, DrI_A, DrJ_S, DrJ_I, DrJ_L, DrJ_R, DrJ_N, DrJ_A, dm64, G_d, G_x0, dJ9_max_7cf53, doII, -Int32.not_le, -Int32.not_lt, -Int64.not_le, -Int64.not_lt, i3lt, i6lt]
  try simp (disch := omega) [-Prod.forall, -Prod.exists, -Prod.mk.injEq, -Int32.not_le, -Int32.not_lt, -Int64.not_le, -Int64.not_lt, i3lt, i6lt]
  exact ⟨⟨by omega, by omega⟩, _, Dsub.rfl hcl9, hp _ _ ⟨rfl, rfl⟩⟩
def dGr0 : dO := doR fun a σ => (a = 1900 ∧ (DA σ 1900 = true ∧ DR σ 1900 1 = some 504) ∧ DI σ 1900 2 = nI 0 ∧ DA σ 2000 = false, fun v τ => v = some (.ref 2000) ∧ τ = alG σ)
set_option maxRecDepth 100000 in
set_option maxHeartbeats 4000000 in
theorem EJxl_grow (hE : dEt g h0) (k : Nat) : dOk g h0 (k + 2) 1 10 [2000] mJx4a65c_grow_d5877 dGr0 := by
  refine doR_ok ?_
  rintro _ σ ⟨rfl, ⟨hA, hB⟩, hC, hA1⟩
  refine dCon.gt (by decide +kernel) (by simp [lg_sl, Value.category]) (fun z hz0 hkp hcl hz post hp hR => ?_)
  subst hz0
  simp only [DkF] at hkp
  have n := k
  have e1 : nI 0 + 1 = nI 1 := by decide
  have hA9 := hA
  show DW g z mJx4a65c_grow_d5877 0 [(0, .ref 1900)] [] σ 0 0
  refine dvk_ok (nC := n + 3) DJx4a65c_grow_d5877 hTyA hR (VC := []) (VD := []) (SD := []) (AL := []) (fun _ h => absurd h List.not_mem_nil) (fun _ h => absurd h List.not_mem_nil) (fun _ h => absurd h List.not_mem_nil) [7] 10 _ _ _ _ _ _ ?_
  simp (maxSteps := 1000000) [↓Bool.cond_eq_ite, -Prod.forall, -Prod.exists, -Prod.mk.injEq, ↓jc_eq_t, ↓jc_eq_f, ↓jc_ne_t, ↓jc_ne_f, ↓jc_lt_t, ↓jc_lt_f, ↓jc_ge_t, ↓jc_ge_f, ↓jc_gt_t, ↓jc_gt_f, ↓jc_le_t, ↓jc_le_f, dvk, tJx4a65c_grow_d5877, jtb, jol, dvl, dal, dst, jlk, jcmp, jbin, jfl, qJx4a65c, jc2, qlJx4a65c, jcat, jel, lv_args, Value.category, jins, jsrt, jins2, jble, jblt, jf3, List.filter_cons, List.filter_nil, Dlo, Dnr, DnL, Dfree, Droom, DuS_S, DuS_I, DuS_L, DuS_R, DuS_N, DuS_A, DuI_S, DuI_I, DuI_L, DuI_R, DuI_N, DuI_A, DuL_S, DuL_I, DuL_L, DuL_R, DuL_N, DuL_A, DuR_S, DuR_I, DuR_L, DuR_R, DuR_N, DuR_A, Dnw_S, Dnw_I, Dnw_L, Dnw_R, Dnw_N, Dnw_A, DrI_S, DrI_I, DrI_L, DrI_R, DrI_N, DrI_A, DrJ_S, DrJ_I, DrJ_L, DrJ_R, DrJ_N, DrJ_A, dm64, G_d, G_x0, -Int32.not_le, -Int32.not_lt, -Int64.not_le, -Int64.not_lt, i3lt, i6lt, hA, hC, e1, G_al]
  try simp (disch := omega) [-Prod.forall, -Prod.exists, -Prod.mk.injEq, -Int32.not_le, -Int32.not_lt, -Int64.not_le, -Int64.not_lt, i3lt, i6lt, hA, hC, e1, G_al]
  have hc := EJxl_growI (g := g) (h0 := z.2.2.2.2) hE k [.ref 1900, .int (nI 1)] σ ⟨rfl, rfl, ⟨hA, hB⟩, hA1⟩
  refine dr_callV (idx := 69) (mt' := mJx4a65c_grow_92f84) (tl := [2000]) (n' := k + 1) (mc := 1) (ms := 10) (ci := 15) (T := TJx4a65c) (N := 3) (a := 1900) (as := [.int (nI 1)]) ⟨by omega, by show 8 + (4 + 11) + 64 * (k + 1) ≤ _; omega, by omega, by omega⟩ (by simp [Dfree, DnL, Dnr, hkp]) (by decide +kernel) hJx4a65c_69 WJx4a65c_grow_92f84 rfl (by decide +kernel) hA9 rfl rfl (by simp [Value.category]) hc ?_
  rintro v τ ⟨rfl, rfl⟩
  show DW g z mJx4a65c_grow_d5877 10 _ [.ref 2000] _ 1 10
  refine DW.cl (fun hcl9 => ?_)
  refine dvk_ok (nC := n + 3) DJx4a65c_grow_d5877 hTyA hR (VC := []) (VD := []) (SD := []) (AL := []) (fun _ h => absurd h List.not_mem_nil) (fun _ h => absurd h List.not_mem_nil) (fun _ h => absurd h List.not_mem_nil) [] 10 _ _ _ _ _ _ ?_
  simp (maxSteps := 1000000) [↓Bool.cond_eq_ite, -Prod.forall, -Prod.exists, -Prod.mk.injEq, ↓jc_eq_t, ↓jc_eq_f, ↓jc_ne_t, ↓jc_ne_f, ↓jc_lt_t, ↓jc_lt_f, ↓jc_ge_t, ↓jc_ge_f, ↓jc_gt_t, ↓jc_gt_f, ↓jc_le_t, ↓jc_le_f, dvk, tJx4a65c_grow_d5877, jtb, jol, dvl, dal, dst, jlk, jcmp, jbin, jfl, qJx4a65c, jc2, qlJx4a65c, jcat, jel, lv_args, Value.category, jins, jsrt, jins2, jble, jblt, jf3, List.filter_cons, List.filter_nil, Dlo, Dnr, DnL, Dfree, Droom, DuS_S, DuS_I, DuS_L, DuS_R, DuS_N, DuS_A, DuI_S, DuI_I, DuI_L, DuI_R, DuI_N, DuI_A, DuL_S, DuL_I, DuL_L, DuL_R, DuL_N, DuL_A, DuR_S, DuR_I, DuR_L, DuR_R, DuR_N, DuR_A, Dnw_S, Dnw_I, Dnw_L, Dnw_R, Dnw_N, Dnw_A, DrI_S, DrI_I, DrI_L, DrI_R, DrI_N, DrI_A, DrJ_S, DrJ_I, DrJ_L, DrJ_R, DrJ_N, DrJ_A, dm64, G_d, G_x0, -Int32.not_le, -Int32.not_lt, -Int64.not_le, -Int64.not_lt, i3lt, i6lt]
  try simp (disch := omega) [-Prod.forall, -Prod.exists, -Prod.mk.injEq, -Int32.not_le, -Int32.not_lt, -Int64.not_le, -Int64.not_lt, i3lt, i6lt]
  exact ⟨⟨by omega, by omega⟩, _, Dsub.rfl hcl9, hp _ _ ⟨rfl, rfl⟩⟩
/-! add -/
def doRRRI9 (f : Nat → Nat → Nat → Int32 → dM → Prop × (Option Value → dM → Prop)) : dO := fun args σ => match args with
  | [.ref a0, .ref a1, .ref a2, .int i] => f a0 a1 a2 i σ
  | _ => (False, fun _ _ => False)
theorem doRRRI9_ok {n mc ms : Nat} {tl : List Nat} {mt : jMt} {f : Nat → Nat → Nat → Int32 → dM → Prop × (Option Value → dM → Prop)} (h : ∀ (a0 a1 a2 : Nat) (i : Int32) (σ : dM), (f a0 a1 a2 i σ).1 → dCon g h0 n mc ms tl mt [.ref a0, .ref a1, .ref a2, .int i] σ (f a0 a1 a2 i σ).2) : dOk g h0 n mc ms tl mt (doRRRI9 f) := by
  intro args σ hp
  unfold doRRRI9 at hp ⊢
  split at hp
  · exact h _ _ _ _ σ hp
  · exact hp.elim
/-- the list has c entries, its row is r -/
def alP (σ : dM) (c r : Nat) : Prop := DA σ 1900 = true ∧ DI σ 1900 2 = nI c ∧ DR σ 1900 1 = some r ∧ ((c = 0 ∧ r = 504 ∧ DA σ 2000 = false) ∨ (0 < c ∧ c < 10 ∧ r = 2000 ∧ DA σ 2000 = true ∧ DN σ 2000 = 10))
def alA (σ : dM) (c v : Nat) : dM := DuI (DuR (if c = 0 then alG σ else σ) 2000 c (some v)) 1900 2 (nI (c + 1))
def dAd2 (c v r : Nat) : dO := doRRRI9 fun a b q x σ => (a = 1900 ∧ b = v ∧ q = r ∧ x = nI c ∧ alP σ c r ∧ (1100 ≤ v ∧ v < 1200) ∧ darr v 1 0 = true ∧ DA σ v = true, fun w τ => w = none ∧ τ = alA σ c v)
set_option maxRecDepth 100000 in
set_option maxHeartbeats 4000000 in
theorem EJxl_add2 (hE : dEt g h0) (k c v r : Nat) : dOk g h0 (k + 3) 1 10 [2000] mJx4a65c_add_72be8 (dAd2 c v r) := by
  refine doRRRI9_ok ?_
  rintro _ v r _ σ ⟨rfl, rfl, rfl, rfl, ⟨hA, hB, hC, hP⟩, hv0, hv, hv2⟩
  refine dCon.gt (by decide +kernel) (by simp [lg_sl, Value.category]) (fun z hz0 hkp hcl hz post hp hR => ?_)
  subst hz0
  simp only [DkF] at hkp
  have n := k
  have e1 : nI c + 1 = nI (c + 1) := nI_add c 1
  show DW g z mJx4a65c_add_72be8 0 [(0, .ref 1900), (1, .ref v), (2, .ref r), (3, .int (nI c))] [] σ 0 0
  have fin : ∀ (ε : dM) (c0 s0 : Nat), c0 ≤ 1 → s0 ≤ 10 → DA ε 1900 = true → DA ε v = true → DA ε 2000 = true → DN ε 2000 = 10 → c < 10 → ε = (if c = 0 then alG σ else σ) → DW g z mJx4a65c_add_72be8 11 [(0, .ref 1900), (1, .ref v), (2, .ref 2000), (3, .int (nI c))] [] ε c0 s0 := fun ε c0 s0 x1 x2 x3 x4 x5 x6 x7 x8 => by
    have ei : (nI c).toNatClampNeg = c := nI_clamp (by omega)
    refine dvk_ok (nC := n + 4) DJx4a65c_add_72be8 hTyA hR (VC := []) (VD := []) (SD := []) (AL := []) (fun _ h => absurd h List.not_mem_nil) (fun _ h => absurd h List.not_mem_nil) (fun _ h => absurd h List.not_mem_nil) [14] 10 _ _ _ _ _ _ ?_
    simp (maxSteps := 1000000) [↓Bool.cond_eq_ite, -Prod.forall, -Prod.exists, -Prod.mk.injEq, ↓jc_eq_t, ↓jc_eq_f, ↓jc_ne_t, ↓jc_ne_f, ↓jc_lt_t, ↓jc_lt_f, ↓jc_ge_t, ↓jc_ge_f, ↓jc_gt_t, ↓jc_gt_f, ↓jc_le_t, ↓jc_le_f, dvk, tJx4a65c_add_72be8, jtb, jol, dvl, dal, dst, jlk, jcmp, jbin, jfl, qJx4a65c, jc2, qlJx4a65c, jcat, jel, lv_args, Value.category, jins, jsrt, jins2, jble, jblt, jf3, List.filter_cons, List.filter_nil, Dlo, Dnr, DnL, Dfree, Droom, DuS_S, DuS_I, DuS_L, DuS_R, DuS_N, DuS_A, DuI_S, DuI_I, DuI_L, DuI_R, DuI_N, DuI_A, DuL_S, DuL_I, DuL_L, DuL_R, DuL_N, DuL_A, DuR_S, DuR_I, DuR_L, DuR_R, DuR_N, DuR_A, Dnw_S, Dnw_I, Dnw_L, Dnw_R, Dnw_N, Dnw_A, DrI_S, DrI_I, DrI_L, DrI_R, DrI_N, DrI_A, DrJ_S, DrJ_I, DrJ_L, DrJ_R, DrJ_N, DrJ_A, dm64, G_d, G_x0, -Int32.not_le, -Int32.not_lt, -Int64.not_le, -Int64.not_lt, i3lt, i6lt]
    try simp (disch := omega) [-Prod.forall, -Prod.exists, -Prod.mk.injEq, -Int32.not_le, -Int32.not_lt, -Int64.not_le, -Int64.not_lt, i3lt, i6lt]
    refine dr_aastI (a := 2000) (v := v) (j := nI c) (by decide +kernel) x5 hv x4 (by rw [x6]; exact jinN x7 (by omega)) (dEt_cO hE) (by decide +kernel) ?_
    rw [ei]
    refine DW.cl (fun hcl9 => ?_)
    have hA7 : DA (DuR ε 2000 c (some v)) 1900 = true := x3
    refine dvk_ok (nC := n + 4) DJx4a65c_add_72be8 hTyA hR (VC := []) (VD := []) (SD := []) (AL := []) (fun _ h => absurd h List.not_mem_nil) (fun _ h => absurd h List.not_mem_nil) (fun _ h => absurd h List.not_mem_nil) [] 10 _ _ _ _ _ _ ?_
    simp (maxSteps := 1000000) [↓Bool.cond_eq_ite, -Prod.forall, -Prod.exists, -Prod.mk.injEq, ↓jc_eq_t, ↓jc_eq_f, ↓jc_ne_t, ↓jc_ne_f, ↓jc_lt_t, ↓jc_lt_f, ↓jc_ge_t, ↓jc_ge_f, ↓jc_gt_t, ↓jc_gt_f, ↓jc_le_t, ↓jc_le_f, dvk, tJx4a65c_add_72be8, jtb, jol, dvl, dal, dst, jlk, jcmp, jbin, jfl, qJx4a65c, jc2, qlJx4a65c, jcat, jel, lv_args, Value.category, jins, jsrt, jins2, jble, jblt, jf3, List.filter_cons, List.filter_nil, Dlo, Dnr, DnL, Dfree, Droom, DuS_S, DuS_I, DuS_L, DuS_R, DuS_N, DuS_A, DuI_S, DuI_I, DuI_L, DuI_R, DuI_N, DuI_A, DuL_S, DuL_I, DuL_L, DuL_R, DuL_N, DuL_A, DuR_S, DuR_I, DuR_L, DuR_R, DuR_N, DuR_A, Dnw_S, Dnw_I, Dnw_L, Dnw_R, Dnw_N, Dnw_A, DrI_S, DrI_I, DrI_L, DrI_R, DrI_N, DrI_A, DrJ_S, DrJ_I, DrJ_L, DrJ_R, DrJ_N, DrJ_A, dm64, G_d, G_x0, -Int32.not_le, -Int32.not_lt, -Int64.not_le, -Int64.not_lt, i3lt, i6lt, hA7, e1, G_al]
    try simp (disch := omega) [-Prod.forall, -Prod.exists, -Prod.mk.injEq, -Int32.not_le, -Int32.not_lt, -Int64.not_le, -Int64.not_lt, i3lt, i6lt, hA7, e1, G_al]
    refine ⟨⟨by omega, by omega⟩, _, Dsub.rfl hcl9, hp _ _ ⟨rfl, ?_⟩⟩
    rw [x8]
    rfl
  rcases hP with ⟨rfl, rfl, h1⟩ | ⟨h1, h2, rfl, h3, h4⟩
  · refine dvk_ok (nC := n + 4) DJx4a65c_add_72be8 hTyA hR (VC := []) (VD := []) (SD := []) (AL := []) (fun _ h => absurd h List.not_mem_nil) (fun _ h => absurd h List.not_mem_nil) (fun _ h => absurd h List.not_mem_nil) [2] 10 _ _ _ _ _ _ ?_
    simp (maxSteps := 1000000) [↓Bool.cond_eq_ite, -Prod.forall, -Prod.exists, -Prod.mk.injEq, ↓jc_eq_t, ↓jc_eq_f, ↓jc_ne_t, ↓jc_ne_f, ↓jc_lt_t, ↓jc_lt_f, ↓jc_ge_t, ↓jc_ge_f, ↓jc_gt_t, ↓jc_gt_f, ↓jc_le_t, ↓jc_le_f, dvk, tJx4a65c_add_72be8, jtb, jol, dvl, dal, dst, jlk, jcmp, jbin, jfl, qJx4a65c, jc2, qlJx4a65c, jcat, jel, lv_args, Value.category, jins, jsrt, jins2, jble, jblt, jf3, List.filter_cons, List.filter_nil, Dlo, Dnr, DnL, Dfree, Droom, DuS_S, DuS_I, DuS_L, DuS_R, DuS_N, DuS_A, DuI_S, DuI_I, DuI_L, DuI_R, DuI_N, DuI_A, DuL_S, DuL_I, DuL_L, DuL_R, DuL_N, DuL_A, DuR_S, DuR_I, DuR_L, DuR_R, DuR_N, DuR_A, Dnw_S, Dnw_I, Dnw_L, Dnw_R, Dnw_N, Dnw_A, DrI_S, DrI_I, DrI_L, DrI_R, DrI_N, DrI_A, DrJ_S, DrJ_I, DrJ_L, DrJ_R, DrJ_N, DrJ_A, dm64, G_d, G_x0, -Int32.not_le, -Int32.not_lt, -Int64.not_le, -Int64.not_lt, i3lt, i6lt]
    try simp (disch := omega) [-Prod.forall, -Prod.exists, -Prod.mk.injEq, -Int32.not_le, -Int32.not_lt, -Int64.not_le, -Int64.not_lt, i3lt, i6lt]
    refine dr_elen (q := 504) (by decide) (dEt_e0 hE) (by decide +kernel) ?_
    refine dvk_ok (nC := n + 4) DJx4a65c_add_72be8 hTyA hR (VC := []) (VD := []) (SD := []) (AL := []) (fun _ h => absurd h List.not_mem_nil) (fun _ h => absurd h List.not_mem_nil) (fun _ h => absurd h List.not_mem_nil) [7] 10 _ _ _ _ _ _ ?_
    simp (maxSteps := 1000000) [↓Bool.cond_eq_ite, -Prod.forall, -Prod.exists, -Prod.mk.injEq, ↓jc_eq_t, ↓jc_eq_f, ↓jc_ne_t, ↓jc_ne_f, ↓jc_lt_t, ↓jc_lt_f, ↓jc_ge_t, ↓jc_ge_f, ↓jc_gt_t, ↓jc_gt_f, ↓jc_le_t, ↓jc_le_f, dvk, tJx4a65c_add_72be8, jtb, jol, dvl, dal, dst, jlk, jcmp, jbin, jfl, qJx4a65c, jc2, qlJx4a65c, jcat, jel, lv_args, Value.category, jins, jsrt, jins2, jble, jblt, jf3, List.filter_cons, List.filter_nil, Dlo, Dnr, DnL, Dfree, Droom, DuS_S, DuS_I, DuS_L, DuS_R, DuS_N, DuS_A, DuI_S, DuI_I, DuI_L, DuI_R, DuI_N, DuI_A, DuL_S, DuL_I, DuL_L, DuL_R, DuL_N, DuL_A, DuR_S, DuR_I, DuR_L, DuR_R, DuR_N, DuR_A, Dnw_S, Dnw_I, Dnw_L, Dnw_R, Dnw_N, Dnw_A, DrI_S, DrI_I, DrI_L, DrI_R, DrI_N, DrI_A, DrJ_S, DrJ_I, DrJ_L, DrJ_R, DrJ_N, DrJ_A, dm64, G_d, G_x0, -Int32.not_le, -Int32.not_lt, -Int64.not_le, -Int64.not_lt, i3lt, i6lt]
    try simp (disch := omega) [-Prod.forall, -Prod.exists, -Prod.mk.injEq, -Int32.not_le, -Int32.not_lt, -Int64.not_le, -Int64.not_lt, i3lt, i6lt]
    have hA9 := hA
    have hc := EJxl_grow (g := g) (h0 := z.2.2.2.2) hE k [.ref 1900] σ ⟨rfl, ⟨hA, hC⟩, hB, h1⟩
    have hkp9 : z.2.2.1 2000 = false := by simp [hkp]
    have hb9 : ¬ v = 2000 := by omega
    refine dr_callV (idx := 129) (mt' := mJx4a65c_grow_d5877) (tl := [2000]) (n' := k + 2) (mc := 1) (ms := 10) (ci := 15) (T := TJx4a65c) (N := 3) (a := 1900) (as := []) ⟨by omega, by show 8 + (1 + 11) + 64 * (k + 2) ≤ _; omega, by omega, by omega⟩ (by simp [Dfree, DnL, Dnr, hkp9, hb9]) (by decide +kernel) hJx4a65c_129 WJx4a65c_grow_d5877 rfl (by decide +kernel) hA9 rfl rfl (by simp [Value.category]) hc ?_
    rintro w τ ⟨rfl, rfl⟩
    show DW g z mJx4a65c_add_72be8 10 _ [.ref 2000] _ 1 10
    refine dvk_ok (nC := n + 4) DJx4a65c_add_72be8 hTyA hR (VC := []) (VD := []) (SD := []) (AL := []) (fun _ h => absurd h List.not_mem_nil) (fun _ h => absurd h List.not_mem_nil) (fun _ h => absurd h List.not_mem_nil) [11] 10 _ _ _ _ _ _ ?_
    simp (maxSteps := 1000000) [↓Bool.cond_eq_ite, -Prod.forall, -Prod.exists, -Prod.mk.injEq, ↓jc_eq_t, ↓jc_eq_f, ↓jc_ne_t, ↓jc_ne_f, ↓jc_lt_t, ↓jc_lt_f, ↓jc_ge_t, ↓jc_ge_f, ↓jc_gt_t, ↓jc_gt_f, ↓jc_le_t, ↓jc_le_f, dvk, tJx4a65c_add_72be8, jtb, jol, dvl, dal, dst, jlk, jcmp, jbin, jfl, qJx4a65c, jc2, qlJx4a65c, jcat, jel, lv_args, Value.category, jins, jsrt, jins2, jble, jblt, jf3, List.filter_cons, List.filter_nil, Dlo, Dnr, DnL, Dfree, Droom, DuS_S, DuS_I, DuS_L, DuS_R, DuS_N, DuS_A, DuI_S, DuI_I, DuI_L, DuI_R, DuI_N, DuI_A, DuL_S, DuL_I, DuL_L, DuL_R, DuL_N, DuL_A, DuR_S, DuR_I, DuR_L, DuR_R, DuR_N, DuR_A, Dnw_S, Dnw_I, Dnw_L, Dnw_R, Dnw_N, Dnw_A, DrI_S, DrI_I, DrI_L, DrI_R, DrI_N, DrI_A, DrJ_S, DrJ_I, DrJ_L, DrJ_R, DrJ_N, DrJ_A, dm64, G_d, G_x0, -Int32.not_le, -Int32.not_lt, -Int64.not_le, -Int64.not_lt, i3lt, i6lt]
    try simp (disch := omega) [-Prod.forall, -Prod.exists, -Prod.mk.injEq, -Int32.not_le, -Int32.not_lt, -Int64.not_le, -Int64.not_lt, i3lt, i6lt]
    exact fin _ 1 10 (Nat.le_refl _) (Nat.le_refl _) (by unfold alG; rw [DuR_A, Dnw_A, if_neg (by decide)]; exact hA) (by unfold alG; rw [DuR_A, Dnw_A, if_neg hb9]; exact hv2) (by unfold alG; rw [DuR_A, Dnw_A, if_pos rfl]) (by unfold alG; rw [DuR_N, Dnw_N, if_pos rfl]) (by omega) rfl
  · have c1 : ¬ nI c = nI 10 := fun z9 => by have := (nI_eq (a := c) (b := 10) (by omega) (by omega)).mp z9; omega
    refine dvk_ok (nC := n + 4) DJx4a65c_add_72be8 hTyA hR (VC := []) (VD := []) (SD := []) (AL := []) (fun _ h => absurd h List.not_mem_nil) (fun _ h => absurd h List.not_mem_nil) (fun _ h => absurd h List.not_mem_nil) [11] 10 _ _ _ _ _ _ ?_
    simp (maxSteps := 1000000) [↓Bool.cond_eq_ite, -Prod.forall, -Prod.exists, -Prod.mk.injEq, ↓jc_eq_t, ↓jc_eq_f, ↓jc_ne_t, ↓jc_ne_f, ↓jc_lt_t, ↓jc_lt_f, ↓jc_ge_t, ↓jc_ge_f, ↓jc_gt_t, ↓jc_gt_f, ↓jc_le_t, ↓jc_le_f, dvk, tJx4a65c_add_72be8, jtb, jol, dvl, dal, dst, jlk, jcmp, jbin, jfl, qJx4a65c, jc2, qlJx4a65c, jcat, jel, lv_args, Value.category, jins, jsrt, jins2, jble, jblt, jf3, List.filter_cons, List.filter_nil, Dlo, Dnr, DnL, Dfree, Droom, DuS_S, DuS_I, DuS_L, DuS_R, DuS_N, DuS_A, DuI_S, DuI_I, DuI_L, DuI_R, DuI_N, DuI_A, DuL_S, DuL_I, DuL_L, DuL_R, DuL_N, DuL_A, DuR_S, DuR_I, DuR_L, DuR_R, DuR_N, DuR_A, Dnw_S, Dnw_I, Dnw_L, Dnw_R, Dnw_N, Dnw_A, DrI_S, DrI_I, DrI_L, DrI_R, DrI_N, DrI_A, DrJ_S, DrJ_I, DrJ_L, DrJ_R, DrJ_N, DrJ_A, dm64, G_d, G_x0, -Int32.not_le, -Int32.not_lt, -Int64.not_le, -Int64.not_lt, i3lt, i6lt, h3, h4, c1, G_al]
    try simp (disch := omega) [-Prod.forall, -Prod.exists, -Prod.mk.injEq, -Int32.not_le, -Int32.not_lt, -Int64.not_le, -Int64.not_lt, i3lt, i6lt, h3, h4, c1, G_al]
    exact fin σ 0 0 (by omega) (by omega) hA hv2 h3 h4 h2 (by rw [if_neg (by omega)])
def dAd1 (c v r : Nat) : dO := doRR fun a b σ => (a = 1900 ∧ b = v ∧ alP σ c r ∧ (1100 ≤ v ∧ v < 1200) ∧ darr v 1 0 = true ∧ DA σ v = true, fun w τ => w = some (.int 1) ∧ τ = alA (DuI σ 1900 0 (DI σ 1900 0 + 1)) c v)
set_option maxRecDepth 100000 in
set_option maxHeartbeats 4000000 in
theorem EJxl_add (hE : dEt g h0) (k c v r : Nat) : dOk g h0 (k + 4) 1 10 [2000] mJx4a65c_add_9ea2d (dAd1 c v r) := by
  refine doRR_ok ?_
  rintro _ v σ ⟨rfl, rfl, hal, hv0, hv, hv2⟩
  refine dCon.gt (by decide +kernel) (by simp [lg_sl, Value.category]) (fun z hz0 hkp hcl hz post hp hR => ?_)
  subst hz0
  simp only [DkF] at hkp
  have n := k
  obtain ⟨hA, hB, hC, hP⟩ := id hal
  show DW g z mJx4a65c_add_9ea2d 0 [(0, .ref 1900), (1, .ref v)] [] σ 0 0
  refine dvk_ok (nC := n + 5) DJx4a65c_add_9ea2d hTyA hR (VC := []) (VD := []) (SD := []) (AL := []) (fun _ h => absurd h List.not_mem_nil) (fun _ h => absurd h List.not_mem_nil) (fun _ h => absurd h List.not_mem_nil) [10] 20 _ _ _ _ _ _ ?_
  simp (maxSteps := 1000000) [↓Bool.cond_eq_ite, -Prod.forall, -Prod.exists, -Prod.mk.injEq, ↓jc_eq_t, ↓jc_eq_f, ↓jc_ne_t, ↓jc_ne_f, ↓jc_lt_t, ↓jc_lt_f, ↓jc_ge_t, ↓jc_ge_f, ↓jc_gt_t, ↓jc_gt_f, ↓jc_le_t, ↓jc_le_f, dvk, tJx4a65c_add_9ea2d, jtb, jol, dvl, dal, dst, jlk, jcmp, jbin, jfl, qJx4a65c, jc2, qlJx4a65c, jcat, jel, lv_args, Value.category, jins, jsrt, jins2, jble, jblt, jf3, List.filter_cons, List.filter_nil, Dlo, Dnr, DnL, Dfree, Droom, DuS_S, DuS_I, DuS_L, DuS_R, DuS_N, DuS_A, DuI_S, DuI_I, DuI_L, DuI_R, DuI_N, DuI_A, DuL_S, DuL_I, DuL_L, DuL_R, DuL_N, DuL_A, DuR_S, DuR_I, DuR_L, DuR_R, DuR_N, DuR_A, Dnw_S, Dnw_I, Dnw_L, Dnw_R, Dnw_N, Dnw_A, DrI_S, DrI_I, DrI_L, DrI_R, DrI_N, DrI_A, DrJ_S, DrJ_I, DrJ_L, DrJ_R, DrJ_N, DrJ_A, dm64, G_d, G_x0, -Int32.not_le, -Int32.not_lt, -Int64.not_le, -Int64.not_lt, i3lt, i6lt, hA, G_al]
  try simp (disch := omega) [-Prod.forall, -Prod.exists, -Prod.mk.injEq, -Int32.not_le, -Int32.not_lt, -Int64.not_le, -Int64.not_lt, i3lt, i6lt, hA, G_al]
  obtain ⟨ε, eε⟩ : ∃ ε, ε = DuI σ 1900 0 (DI σ 1900 0 + 1) := ⟨_, rfl⟩
  rw [← eε]
  have hA9 : DA ε 1900 = true := by rw [eε]; exact hA
  have hB9 : DI ε 1900 2 = nI c := by rw [eε, DuI_I, if_neg (by decide)]; exact hB
  have hC9 : DR ε 1900 1 = some r := by rw [eε]; exact hC
  refine dvk_ok (nC := n + 5) DJx4a65c_add_9ea2d hTyA hR (VC := []) (VD := []) (SD := []) (AL := []) (fun _ h => absurd h List.not_mem_nil) (fun _ h => absurd h List.not_mem_nil) (fun _ h => absurd h List.not_mem_nil) [20] 20 _ _ _ _ _ _ ?_
  simp (maxSteps := 1000000) [↓Bool.cond_eq_ite, -Prod.forall, -Prod.exists, -Prod.mk.injEq, ↓jc_eq_t, ↓jc_eq_f, ↓jc_ne_t, ↓jc_ne_f, ↓jc_lt_t, ↓jc_lt_f, ↓jc_ge_t, ↓jc_ge_f, ↓jc_gt_t, ↓jc_gt_f, ↓jc_le_t, ↓jc_le_f, dvk, tJx4a65c_add_9ea2d, jtb, jol, dvl, dal, dst, jlk, jcmp, jbin, jfl, qJx4a65c, jc2, qlJx4a65c, jcat, jel, lv_args, Value.category, jins, jsrt, jins2, jble, jblt, jf3, List.filter_cons, List.filter_nil, Dlo, Dnr, DnL, Dfree, Droom, DuS_S, DuS_I, DuS_L, DuS_R, DuS_N, DuS_A, DuI_S, DuI_I, DuI_L, DuI_R, DuI_N, DuI_A, DuL_S, DuL_I, DuL_L, DuL_R, DuL_N, DuL_A, DuR_S, DuR_I, DuR_L, DuR_R, DuR_N, DuR_A, Dnw_S, Dnw_I, Dnw_L, Dnw_R, Dnw_N, Dnw_A, DrI_S, DrI_I, DrI_L, DrI_R, DrI_N, DrI_A, DrJ_S, DrJ_I, DrJ_L, DrJ_R, DrJ_N, DrJ_A, dm64, G_d, G_x0, -Int32.not_le, -Int32.not_lt, -Int64.not_le, -Int64.not_lt, i3lt, i6lt, hA9, hB9, hC9, G_al]
  try simp (disch := omega) [-Prod.forall, -Prod.exists, -Prod.mk.injEq, -Int32.not_le, -Int32.not_lt, -Int64.not_le, -Int64.not_lt, i3lt, i6lt, hA9, hB9, hC9, G_al]
  have hc := EJxl_add2 (g := g) (h0 := z.2.2.2.2) hE k c v r [.ref 1900, .ref v, .ref r, .int (nI c)] ε ⟨rfl, rfl, rfl, rfl, ⟨hA9, hB9, hC9, by rw [eε]; exact hP⟩, hv0, hv, by rw [eε]; exact hv2⟩
  have hkp9 : z.2.2.1 2000 = false := by simp [hkp]
  have hb9 : ¬ v = 2000 := by omega
  refine dr_callV (idx := 131) (mt' := mJx4a65c_add_72be8) (tl := [2000]) (n' := k + 3) (mc := 1) (ms := 10) (ci := 15) (T := TJx4a65c) (N := 3) (a := 1900) (as := [.ref v, .ref r, .int (nI c)]) ⟨by omega, by show 8 + (4 + 11) + 64 * (k + 3) ≤ _; omega, by omega, by omega⟩ (by simp [Dfree, DnL, Dnr, hkp9, hb9]) (by decide +kernel) hJx4a65c_131 WJx4a65c_add_72be8 rfl (by decide +kernel) hA9 rfl rfl (by simp [Value.category]) hc ?_
  rintro w τ ⟨rfl, rfl⟩
  show DW g z mJx4a65c_add_9ea2d 23 _ [] _ 1 10
  refine DW.cl (fun hcl9 => ?_)
  refine dvk_ok (nC := n + 5) DJx4a65c_add_9ea2d hTyA hR (VC := []) (VD := []) (SD := []) (AL := []) (fun _ h => absurd h List.not_mem_nil) (fun _ h => absurd h List.not_mem_nil) (fun _ h => absurd h List.not_mem_nil) [] 10 _ _ _ _ _ _ ?_
  simp (maxSteps := 1000000) [↓Bool.cond_eq_ite, -Prod.forall, -Prod.exists, -Prod.mk.injEq, ↓jc_eq_t, ↓jc_eq_f, ↓jc_ne_t, ↓jc_ne_f, ↓jc_lt_t, ↓jc_lt_f, ↓jc_ge_t, ↓jc_ge_f, ↓jc_gt_t, ↓jc_gt_f, ↓jc_le_t, ↓jc_le_f, dvk, tJx4a65c_add_9ea2d, jtb, jol, dvl, dal, dst, jlk, jcmp, jbin, jfl, qJx4a65c, jc2, qlJx4a65c, jcat, jel, lv_args, Value.category, jins, jsrt, jins2, jble, jblt, jf3, List.filter_cons, List.filter_nil, Dlo, Dnr, DnL, Dfree, Droom, DuS_S, DuS_I, DuS_L, DuS_R, DuS_N, DuS_A, DuI_S, DuI_I, DuI_L, DuI_R, DuI_N, DuI_A, DuL_S, DuL_I, DuL_L, DuL_R, DuL_N, DuL_A, DuR_S, DuR_I, DuR_L, DuR_R, DuR_N, DuR_A, Dnw_S, Dnw_I, Dnw_L, Dnw_R, Dnw_N, Dnw_A, DrI_S, DrI_I, DrI_L, DrI_R, DrI_N, DrI_A, DrJ_S, DrJ_I, DrJ_L, DrJ_R, DrJ_N, DrJ_A, dm64, G_d, G_x0, -Int32.not_le, -Int32.not_lt, -Int64.not_le, -Int64.not_lt, i3lt, i6lt]
  try simp (disch := omega) [-Prod.forall, -Prod.exists, -Prod.mk.injEq, -Int32.not_le, -Int32.not_lt, -Int64.not_le, -Int64.not_lt, i3lt, i6lt]
  exact ⟨⟨by omega, by omega⟩, _, Dsub.rfl hcl9, hp _ _ ⟨rfl, by rw [eε]⟩⟩
end EMG
