/-! a StringBuilder that is made; a letter of a String -/
section EMF
variable {g : jG} {h0 : Nat}
section PUTG
variable {z : dZ} {mt : jMt} {pc : Nat} {L : List (Nat × Value)} {r : List Value} {σ : dM} {c0 s0 a ci : Nat} {T : u_T} {N : Nat}
/-- a number put into a field, what is put fits -/
theorem dr_putG {f j : Nat} {C : String} {x : Int32} {ty : FieldType} (hcl : dCls ci C T N) (hk : f < N) (hlk : Cond.fieldLink mt.1.cls j (T f).1 (T f).2.1 (T f).2.2.1 ∈ jGw) (hfin : (T f).2.2.2 = false) (hd9 : parseFieldDescriptor (T f).2.2.1 = some ty) (hnf : narrow ty (.int x) = .int x ∧ fits ty (.int x) = true) (ho : dobj a ci f 0 = true) (hA : DA σ a = true)
    (d : decode mt.2.1 pc = .ok (.putfield j, 3)) (k : DW g z mt (pc + 3) L r (DuI σ a f x) c0 s0) : DW g z mt pc L (.int x :: .ref a :: r) σ c0 s0 := by
  intro p e s m as below meth c H locs ls da X hD hP hS hl
  obtain ⟨q1, q2, ⟨ty0, q3⟩, q4⟩ := hcl
  obtain ⟨h1, h2, h3, h4, h5, h6⟩ := dobj_spec ho
  obtain ⟨i, hi, hg⟩ := Dws_get (g := g) (da := da) (Dal_hi h1 h2 hA)
  rw [Dce_o h1 h3, h4] at hg
  refine va_put X.1 X.2.1 X.2.2.2.2.2.2.1 (fun w hw => List.mem_cons_of_mem _ (q2 w hw)) ty0 q3 q4 X.2.2.2.2.2.1 X.2.2.2.2.2.2.2.2.1 hP (DD hD.1) hS i hg q1 f hk (X.2.2.2.2.2.2.1 _ (List.mem_cons_of_mem _ hlk)) (fun x hx => hx) hfin hd9 hnf.1 hnf.2 (by rw [Dfs_len]; exact h5) d (fun H1 locs1 hP1 hD1 hS1 => ?_)
  have hok : Dok g z.2.2.2.2 da (DuI σ a f x) := ⟨fun i j hi hj e => hD.1.1 i j hi hj e, fun i hi => hD.1.2.1 i hi, hD.1.2.2⟩
  refine k p e s m as below meth c H1 locs1 ls da X ⟨hok, hD.2⟩ (Dws_set hi (fun _ => rfl) ?_ (fun q hq _ => DuI_ne hq) hP1) hS1 hl
  have hv : Dfv g da (DuI σ a f x) a f ((Dsh a).2.2.getD f 0) = .int x := by
    rw [jtc_0 h6]
    show Value.int (DI (DuI σ a f x) a f) = _
    rw [DuI_I, if_pos ⟨rfl, rfl⟩]
  rw [Dce_o h1 h3, h4, Dfs_set (δ := σ) h5 hv (fun j hj => Dfv_uI hj)]
  rfl
end PUTG
/-- a StringBuilder that has been made: its row has 16 places -/
theorem sbN {σ : dM} (hA : DA σ 1800 = true) (hc : DI σ 1800 3 = 0) (hQ : txQ σ) : ∀ τ, τ = DuI (DuR (Dnw σ 1600 16) 1800 0 (some 1600)) 1800 1 0 → (∀ f, sbS τ f 0 16) ∧ tfr (fun k => k ≠ 1800 ∧ k ≠ 1600) σ τ ∧ txQ τ := by
  rintro τ eτ
  have eI : ∀ i j, DI τ i j = if i = 1800 ∧ j = 1 then 0 else if i = 1600 then 0 else DI σ i j := fun i j => by
    rw [eτ, DuI_I, DuR_I, Dnw_I]
  have eR : ∀ i j, DR τ i j = if i = 1800 ∧ j = 0 then some 1600 else if i = 1600 then none else DR σ i j := fun i j => by
    rw [eτ, DuI_R, DuR_R, Dnw_R]
  have eA : ∀ i, DA τ i = if i = 1600 then true else DA σ i := fun i => by
    rw [eτ, DuI_A, DuR_A, Dnw_A]
  have eN : ∀ i, DN τ i = if i = 1600 then 16 else DN σ i := fun i => by
    rw [eτ, DuI_N, DuR_N, Dnw_N]
  refine ⟨fun f => ⟨⟨by rw [eA, if_neg (by omega)]; exact hA, by rw [eR, if_pos ⟨rfl, rfl⟩], by rw [eI, if_pos ⟨rfl, rfl⟩], by rw [eI, if_neg (by omega), if_neg (by omega)]; exact hc⟩, ⟨by rw [eA, if_pos rfl], by rw [eN, if_pos rfl]⟩, ⟨by omega, by omega⟩, fun j hj => by omega, fun j => by rw [eI, if_neg (by omega), if_pos rfl]; exact bf_0⟩, ⟨by rw [eτ]; rfl, fun k hk => ⟨by rw [eA, if_neg hk.2], fun _ _ _ => ⟨funext fun j => by rw [eI, if_neg (fun z => hk.1 z.1), if_neg hk.2], ?_, funext fun j => by rw [eR, if_neg (fun z => hk.1 z.1), if_neg hk.2], by rw [eN, if_neg hk.2]⟩⟩⟩, fun k j q k1 k2 k3 e q1 q2 => ?_⟩
  · rw [eτ]
    funext j
    rw [DuI_L, DuR_L, Dnw_L, if_neg hk.2]
  · rw [eR] at e
    rw [eA] at k3
    by_cases c : k = 1800 ∧ j = 0
    · rw [if_pos c] at e
      cases e
      exact ⟨c.2, Or.inl ⟨rfl, c.1⟩⟩
    · rw [if_neg c] at e
      by_cases c2 : k = 1600
      · rw [if_pos c2] at e
        cases e
      · rw [if_neg c2] at e k3
        exact hQ k j q k1 k2 k3 e q1 q2
def sbM (σ τ : dM) : Prop := (∀ f, sbS τ f 0 16) ∧ tfr (fun k => k ≠ 1800 ∧ k ≠ 1600) σ τ ∧ txQ τ
def dIn : dO := doRI fun a x σ => (a = 1800 ∧ x = 16 ∧ DA σ 1800 = true ∧ DI σ 1800 3 = 0 ∧ txQ σ ∧ DA σ 1600 = false, fun v τ => v = none ∧ sbM σ τ)
set_option maxRecDepth 100000 in
set_option maxHeartbeats 4000000 in
theorem EJ5_init (hE : dEt g h0) (k : Nat) : dOk g h0 (k + 1) 1 16 [1600] mJ5_init_d00df dIn := by
  refine doRI_ok ?_
  rintro _ _ σ ⟨rfl, rfl, hA, hc, hQ, hA1⟩
  refine dCon.gt (by decide +kernel) (by simp [lg_sl, Value.category]) (fun z hz0 hkp hcl hz post hp hR => ?_)
  subst hz0
  simp only [DkF] at hkp
  have n := k
  have e16 : (16 : Int32).toNatClampNeg = 16 := by decide
  have p16 : ¬ (16 : Int32) < 0 := by decide
  have c1 := c1_n0
  show DW g z mJ5_init_d00df 0 [(0, .ref 1800), (1, .int 16)] [] σ 0 0
  refine dvk_ok (nC := n + 1) DJ5_init_d00df hTyA hR (VC := []) (VD := []) (SD := []) (AL := []) (fun _ h => absurd h List.not_mem_nil) (fun _ h => absurd h List.not_mem_nil) (fun _ h => absurd h List.not_mem_nil) [1] 10 _ _ _ _ _ _ ?_
  simp (maxSteps := 1000000) [↓Bool.cond_eq_ite, -Prod.forall, -Prod.exists, -Prod.mk.injEq, ↓jc_eq_t, ↓jc_eq_f, ↓jc_ne_t, ↓jc_ne_f, ↓jc_lt_t, ↓jc_lt_f, ↓jc_ge_t, ↓jc_ge_f, ↓jc_gt_t, ↓jc_gt_f, ↓jc_le_t, ↓jc_le_f, dvk, tJ5_init_d00df, jtb, jol, dvl, dal, dst, jlk, jcmp, jbin, jfl, qJ5, jc2, qlJ5, jcat, jel, lv_args, Value.category, jins, jsrt, jins2, jble, jblt, jf3, List.filter_cons, List.filter_nil, Dlo, Dnr, DnL, Dfree, Droom, DuS_S, DuS_I, DuS_L, DuS_R, DuS_N, DuS_A, DuI_S, DuI_I, DuI_L, DuI_R, DuI_N, DuI_A, DuL_S, DuL_I, DuL_L, DuL_R, DuL_N, DuL_A, DuR_S, DuR_I, DuR_L, DuR_R, DuR_N, DuR_A, Dnw_S, Dnw_I, Dnw_L, Dnw_R, Dnw_N, Dnw_A, DrI_S, DrI_I, DrI_L, DrI_R, DrI_N, DrI_A, DrJ_S, DrJ_I, DrJ_L, DrJ_R, DrJ_N, DrJ_A, dm64, G_d, G_x0, -Int32.not_le, -Int32.not_lt, -Int64.not_le, -Int64.not_lt, i3lt, i6lt]
  try simp (disch := omega) [-Prod.forall, -Prod.exists, -Prod.mk.injEq, -Int32.not_le, -Int32.not_lt, -Int64.not_le, -Int64.not_lt, i3lt, i6lt]
  refine dr_objI (show Cond.methodLink RJ5 3 objectInit ∈ jGw from jGw_of 749 (by decide +kernel) (by decide +kernel)) ⟨by omega, by omega⟩ (by simp) (by decide +kernel) ?_
  refine dr_gets (idx := 18) (v := .int 1) rfl (dEt_cs hE) (jGw_of 750 (by decide +kernel) (by decide +kernel)) (by decide +kernel) ?_
  refine dvk_ok (nC := n + 1) DJ5_init_d00df hTyA hR (VC := []) (VD := []) (SD := []) (AL := [(12, 1600, 16)]) (fun _ h => absurd h List.not_mem_nil) (fun _ h => absurd h List.not_mem_nil) (fun _ h => absurd h List.not_mem_nil) [14] 20 _ _ _ _ _ _ ?_
  simp (maxSteps := 1000000) [↓Bool.cond_eq_ite, -Prod.forall, -Prod.exists, -Prod.mk.injEq, ↓jc_eq_t, ↓jc_eq_f, ↓jc_ne_t, ↓jc_ne_f, ↓jc_lt_t, ↓jc_lt_f, ↓jc_ge_t, ↓jc_ge_f, ↓jc_gt_t, ↓jc_gt_f, ↓jc_le_t, ↓jc_le_f, dvk, tJ5_init_d00df, jtb, jol, dvl, dal, dst, jlk, jcmp, jbin, jfl, qJ5, jc2, qlJ5, jcat, jel, lv_args, Value.category, jins, jsrt, jins2, jble, jblt, jf3, List.filter_cons, List.filter_nil, Dlo, Dnr, DnL, Dfree, Droom, DuS_S, DuS_I, DuS_L, DuS_R, DuS_N, DuS_A, DuI_S, DuI_I, DuI_L, DuI_R, DuI_N, DuI_A, DuL_S, DuL_I, DuL_L, DuL_R, DuL_N, DuL_A, DuR_S, DuR_I, DuR_L, DuR_R, DuR_N, DuR_A, Dnw_S, Dnw_I, Dnw_L, Dnw_R, Dnw_N, Dnw_A, DrI_S, DrI_I, DrI_L, DrI_R, DrI_N, DrI_A, DrJ_S, DrJ_I, DrJ_L, DrJ_R, DrJ_N, DrJ_A, dm64, G_d, G_x0, -Int32.not_le, -Int32.not_lt, -Int64.not_le, -Int64.not_lt, i3lt, i6lt, e16, p16, c1, hA1, hkp, hz, G_t]
  try simp (disch := omega) [-Prod.forall, -Prod.exists, -Prod.mk.injEq, -Int32.not_le, -Int32.not_lt, -Int64.not_le, -Int64.not_lt, i3lt, i6lt, e16, p16, c1, hA1, hkp, hz, G_t]
  refine dr_putr qJ5_15 (by decide +kernel) (by rw [Dnw_A, if_neg (by decide)]; exact hA) (Or.inr (Dal_hi (by decide) (by decide) (by rw [Dnw_A, if_pos rfl]))) (by decide +kernel) ?_
  refine dvk_ok (nC := n + 1) DJ5_init_d00df hTyA hR (VC := []) (VD := []) (SD := []) (AL := []) (fun _ h => absurd h List.not_mem_nil) (fun _ h => absurd h List.not_mem_nil) (fun _ h => absurd h List.not_mem_nil) [19] 10 _ _ _ _ _ _ ?_
  simp (maxSteps := 1000000) [↓Bool.cond_eq_ite, -Prod.forall, -Prod.exists, -Prod.mk.injEq, ↓jc_eq_t, ↓jc_eq_f, ↓jc_ne_t, ↓jc_ne_f, ↓jc_lt_t, ↓jc_lt_f, ↓jc_ge_t, ↓jc_ge_f, ↓jc_gt_t, ↓jc_gt_f, ↓jc_le_t, ↓jc_le_f, dvk, tJ5_init_d00df, jtb, jol, dvl, dal, dst, jlk, jcmp, jbin, jfl, qJ5, jc2, qlJ5, jcat, jel, lv_args, Value.category, jins, jsrt, jins2, jble, jblt, jf3, List.filter_cons, List.filter_nil, Dlo, Dnr, DnL, Dfree, Droom, DuS_S, DuS_I, DuS_L, DuS_R, DuS_N, DuS_A, DuI_S, DuI_I, DuI_L, DuI_R, DuI_N, DuI_A, DuL_S, DuL_I, DuL_L, DuL_R, DuL_N, DuL_A, DuR_S, DuR_I, DuR_L, DuR_R, DuR_N, DuR_A, Dnw_S, Dnw_I, Dnw_L, Dnw_R, Dnw_N, Dnw_A, DrI_S, DrI_I, DrI_L, DrI_R, DrI_N, DrI_A, DrJ_S, DrJ_I, DrJ_L, DrJ_R, DrJ_N, DrJ_A, dm64, G_d, G_x0, -Int32.not_le, -Int32.not_lt, -Int64.not_le, -Int64.not_lt, i3lt, i6lt]
  try simp (disch := omega) [-Prod.forall, -Prod.exists, -Prod.mk.injEq, -Int32.not_le, -Int32.not_lt, -Int64.not_le, -Int64.not_lt, i3lt, i6lt]
  refine dr_putG (f := 1) (C := RJ4) (ty := .byte) dcls_J4 (by decide) (show Cond.fieldLink RJ5 22 (TJ4 1).1 (TJ4 1).2.1 (TJ4 1).2.2.1 ∈ jGw from jGw_of 760 (by decide +kernel) (by decide +kernel)) rfl rfl ⟨by decide +kernel, by decide +kernel⟩ (by decide +kernel) (by rw [DuR_A, Dnw_A, if_neg (by decide)]; exact hA) (by decide +kernel) ?_
  have fin := sbN hA hc hQ _ rfl
  refine DW.cl (fun hcl9 => ?_)
  refine dvk_ok (nC := n + 1) DJ5_init_d00df hTyA hR (VC := []) (VD := []) (SD := []) (AL := []) (fun _ h => absurd h List.not_mem_nil) (fun _ h => absurd h List.not_mem_nil) (fun _ h => absurd h List.not_mem_nil) [] 10 _ _ _ _ _ _ ?_
  simp (maxSteps := 1000000) [↓Bool.cond_eq_ite, -Prod.forall, -Prod.exists, -Prod.mk.injEq, ↓jc_eq_t, ↓jc_eq_f, ↓jc_ne_t, ↓jc_ne_f, ↓jc_lt_t, ↓jc_lt_f, ↓jc_ge_t, ↓jc_ge_f, ↓jc_gt_t, ↓jc_gt_f, ↓jc_le_t, ↓jc_le_f, dvk, tJ5_init_d00df, jtb, jol, dvl, dal, dst, jlk, jcmp, jbin, jfl, qJ5, jc2, qlJ5, jcat, jel, lv_args, Value.category, jins, jsrt, jins2, jble, jblt, jf3, List.filter_cons, List.filter_nil, Dlo, Dnr, DnL, Dfree, Droom, DuS_S, DuS_I, DuS_L, DuS_R, DuS_N, DuS_A, DuI_S, DuI_I, DuI_L, DuI_R, DuI_N, DuI_A, DuL_S, DuL_I, DuL_L, DuL_R, DuL_N, DuL_A, DuR_S, DuR_I, DuR_L, DuR_R, DuR_N, DuR_A, Dnw_S, Dnw_I, Dnw_L, Dnw_R, Dnw_N, Dnw_A, DrI_S, DrI_I, DrI_L, DrI_R, DrI_N, DrI_A, DrJ_S, DrJ_I, DrJ_L, DrJ_R, DrJ_N, DrJ_A, dm64, G_d, G_x0, -Int32.not_le, -Int32.not_lt, -Int64.not_le, -Int64.not_lt, i3lt, i6lt]
  try simp (disch := omega) [-Prod.forall, -Prod.exists, -Prod.mk.injEq, -Int32.not_le, -Int32.not_lt, -Int64.not_le, -Int64.not_lt, i3lt, i6lt]
  exact ⟨⟨by omega, by omega⟩, _, Dsub.rfl hcl9, hp _ _ ⟨rfl, fin⟩⟩
def dIo : dO := doR fun a σ => (a = 1800 ∧ DA σ 1800 = true ∧ DI σ 1800 3 = 0 ∧ txQ σ ∧ DA σ 1600 = false, fun v τ => v = none ∧ sbM σ τ)
set_option maxRecDepth 100000 in
set_option maxHeartbeats 4000000 in
theorem EJ4_init (hE : dEt g h0) (k : Nat) : dOk g h0 (k + 2) 1 16 [1600] mJ4_init_da8c8 dIo := by
  refine doR_ok ?_
  rintro _ σ ⟨rfl, hA, hc, hQ, hA1⟩
  refine dCon.gt (by decide +kernel) (by simp [lg_sl, Value.category]) (fun z hz0 hkp hcl hz post hp hR => ?_)
  subst hz0
  simp only [DkF] at hkp
  have n := k
  show DW g z mJ4_init_da8c8 0 [(0, .ref 1800)] [] σ 0 0
  refine dvk_ok (nC := n + 0) DJ4_init_da8c8 hTyA hR (VC := []) (VD := []) (SD := []) (AL := []) (fun _ h => absurd h List.not_mem_nil) (fun _ h => absurd h List.not_mem_nil) (fun _ h => absurd h List.not_mem_nil) [3] 10 _ _ _ _ _ _ ?_
  simp (maxSteps := 1000000) [↓Bool.cond_eq_ite, -Prod.forall, -Prod.exists, -Prod.mk.injEq, ↓jc_eq_t, ↓jc_eq_f, ↓jc_ne_t, ↓jc_ne_f, ↓jc_lt_t, ↓jc_lt_f, ↓jc_ge_t, ↓jc_ge_f, ↓jc_gt_t, ↓jc_gt_f, ↓jc_le_t, ↓jc_le_f, dvk, tJ4_init_da8c8, jtb, jol, dvl, dal, dst, jlk, jcmp, jbin, jfl, qJ4, jc2, qlJ4, jcat, jel, lv_args, Value.category, jins, jsrt, jins2, jble, jblt, jf3, List.filter_cons, List.filter_nil, Dlo, Dnr, DnL, Dfree, Droom, DuS_S, DuS_I, DuS_L, DuS_R, DuS_N, DuS_A, DuI_S, DuI_I, DuI_L, DuI_R, DuI_N, DuI_A, DuL_S, DuL_I, DuL_L, DuL_R, DuL_N, DuL_A, DuR_S, DuR_I, DuR_L, DuR_R, DuR_N, DuR_A, Dnw_S, Dnw_I, Dnw_L, Dnw_R, Dnw_N, Dnw_A, DrI_S, DrI_I, DrI_L, DrI_R, DrI_N, DrI_A, DrJ_S, DrJ_I, DrJ_L, DrJ_R, DrJ_N, DrJ_A, dm64, G_d, G_x0, -Int32.not_le, -Int32.not_lt, -Int64.not_le, -Int64.not_lt, i3lt, i6lt]
  try simp (disch := omega) [-Prod.forall, -Prod.exists, -Prod.mk.injEq, -Int32.not_le, -Int32.not_lt, -Int64.not_le, -Int64.not_lt, i3lt, i6lt]
  have hc := EJ5_init (g := g) (h0 := z.2.2.2.2) hE k [.ref 1800, .int 16] σ ⟨rfl, rfl, hA, hc, hQ, hA1⟩
  refine dr_callI (idx := 1) (mt' := mJ5_init_d00df) (tl := [1600]) (n' := k + 1) (mc := 1) (ms := 16) (a := 1800) (as := [.int 16]) ⟨by omega, by show 8 + (2 + 11) + 64 * (k + 1) ≤ _; omega, by omega, by omega⟩ (by simp [Dfree, DnL, Dnr, hkp]) (by decide +kernel) hJ4_1 WJ5_init_d00df rfl rfl (by simp [Value.category]) hc ?_
  rintro v τ ⟨rfl, hτ⟩
  show DW g z mJ4_init_da8c8 6 _ [] τ 1 16
  refine DW.cl (fun hcl9 => ?_)
  refine dvk_ok (nC := n + 0) DJ4_init_da8c8 hTyA hR (VC := []) (VD := []) (SD := []) (AL := []) (fun _ h => absurd h List.not_mem_nil) (fun _ h => absurd h List.not_mem_nil) (fun _ h => absurd h List.not_mem_nil) [] 10 _ _ _ _ _ _ ?_
  simp (maxSteps := 1000000) [↓Bool.cond_eq_ite, -Prod.forall, -Prod.exists, -Prod.mk.injEq, ↓jc_eq_t, ↓jc_eq_f, ↓jc_ne_t, ↓jc_ne_f, ↓jc_lt_t, ↓jc_lt_f, ↓jc_ge_t, ↓jc_ge_f, ↓jc_gt_t, ↓jc_gt_f, ↓jc_le_t, ↓jc_le_f, dvk, tJ4_init_da8c8, jtb, jol, dvl, dal, dst, jlk, jcmp, jbin, jfl, qJ4, jc2, qlJ4, jcat, jel, lv_args, Value.category, jins, jsrt, jins2, jble, jblt, jf3, List.filter_cons, List.filter_nil, Dlo, Dnr, DnL, Dfree, Droom, DuS_S, DuS_I, DuS_L, DuS_R, DuS_N, DuS_A, DuI_S, DuI_I, DuI_L, DuI_R, DuI_N, DuI_A, DuL_S, DuL_I, DuL_L, DuL_R, DuL_N, DuL_A, DuR_S, DuR_I, DuR_L, DuR_R, DuR_N, DuR_A, Dnw_S, Dnw_I, Dnw_L, Dnw_R, Dnw_N, Dnw_A, DrI_S, DrI_I, DrI_L, DrI_R, DrI_N, DrI_A, DrJ_S, DrJ_I, DrJ_L, DrJ_R, DrJ_N, DrJ_A, dm64, G_d, G_x0, -Int32.not_le, -Int32.not_lt, -Int64.not_le, -Int64.not_lt, i3lt, i6lt]
  try simp (disch := omega) [-Prod.forall, -Prod.exists, -Prod.mk.injEq, -Int32.not_le, -Int32.not_lt, -Int64.not_le, -Int64.not_lt, i3lt, i6lt]
  exact ⟨⟨by omega, by omega⟩, _, Dsub.rfl hcl9, hp _ _ ⟨rfl, hτ⟩⟩
/-! a letter -/
def dJ3r : dO := doIIR fun i c q σ => (q = 500 ∧ jin i c.toNatClampNeg, fun v τ => v = some (.int i) ∧ τ = σ)
set_option maxRecDepth 100000 in
set_option maxHeartbeats 4000000 in
theorem EJ3_chkR (n : Nat) : dOk g h0 n 0 0 [] mJ3_checkIndex_8e157 dJ3r := by
  refine doIIR_ok ?_
  rintro i c _ σ ⟨rfl, hj⟩
  obtain ⟨h0, h1⟩ := jin_i hj
  refine dCon.go (by decide +kernel) (by simp [lg_sl, Value.category]) (fun z hkp hcl hz post hp hR => ?_)
  simp only [DkF] at hkp
  refine dvk_ok (nC := n + 0) DJ3_checkIndex_8e157 hTyA hR (VC := []) (VD := []) (SD := []) (AL := []) (fun _ h => absurd h List.not_mem_nil) (fun _ h => absurd h List.not_mem_nil) (fun _ h => absurd h List.not_mem_nil) [] 10 _ _ _ _ _ _ ?_
  simp (maxSteps := 1000000) [↓Bool.cond_eq_ite, -Prod.forall, -Prod.exists, -Prod.mk.injEq, ↓jc_eq_t, ↓jc_eq_f, ↓jc_ne_t, ↓jc_ne_f, ↓jc_lt_t, ↓jc_lt_f, ↓jc_ge_t, ↓jc_ge_f, ↓jc_gt_t, ↓jc_gt_f, ↓jc_le_t, ↓jc_le_f, dvk, tJ3_checkIndex_8e157, jtb, jol, dvl, dal, dst, jlk, jcmp, jbin, jfl, qJ3, jc2, qlJ3, jcat, jel, lv_args, Value.category, jins, jsrt, jins2, jble, jblt, jf3, List.filter_cons, List.filter_nil, Dlo, Dnr, DnL, Dfree, Droom, DuS_S, DuS_I, DuS_L, DuS_R, DuS_N, DuS_A, DuI_S, DuI_I, DuI_L, DuI_R, DuI_N, DuI_A, DuL_S, DuL_I, DuL_L, DuL_R, DuL_N, DuL_A, DuR_S, DuR_I, DuR_L, DuR_R, DuR_N, DuR_A, Dnw_S, Dnw_I, Dnw_L, Dnw_R, Dnw_N, Dnw_A, DrI_S, DrI_I, DrI_L, DrI_R, DrI_N, DrI_A, DrJ_S, DrJ_I, DrJ_L, DrJ_R, DrJ_N, DrJ_A, dm64, G_d, G_x0, -Int32.not_le, -Int32.not_lt, -Int64.not_le, -Int64.not_lt, i3lt, i6lt, h0, h1, hkp, hz]
  try simp (disch := omega) [-Prod.forall, -Prod.exists, -Prod.mk.injEq, -Int32.not_le, -Int32.not_lt, -Int64.not_le, -Int64.not_lt, i3lt, i6lt, h0, h1, hkp, hz]
  exact ⟨⟨by omega, by omega⟩, σ, Dsub.rfl hcl, hp _ _ ⟨rfl, rfl⟩⟩
def dJc : dO := doII fun x y σ => (jin x y.toNatClampNeg, fun v τ => v = none ∧ τ = σ)
set_option maxRecDepth 100000 in
set_option maxHeartbeats 4000000 in
theorem EJ0_checkIndex (hE : dEt g h0) (k : Nat) : dOk g h0 (k + 1) 0 0 [] mJ0_checkIndex_df160 dJc := by
  refine doII_ok ?_
  rintro x y σ hj
  refine dCon.gt (by decide +kernel) (by simp [lg_sl, Value.category]) (fun z hz0 hkp hcl hz post hp hR => ?_)
  subst hz0
  have n := k
  show DW g z mJ0_checkIndex_df160 0 [(0, .int x), (1, .int y)] [] σ 0 0
  refine dvk_ok (nC := n + 0) DJ0_checkIndex_df160 hTyA hR (VC := []) (VD := []) (SD := [(1059, 3, 0, n + 0, 0, 0, 0, [], dJ3_checkIndex_8e157)]) (AL := []) (fun _ h => absurd h List.not_mem_nil) (fun _ h => absurd h List.not_mem_nil) (List.forall_mem_cons.mpr ⟨⟨mJ3_checkIndex_8e157, by decide, Or.inl hJ0_1059, WJ3_checkIndex_8e157, EJ3_checkIndex_8e157 g _ n⟩, (fun _ h => absurd h List.not_mem_nil)⟩) [2] 10 _ _ _ _ _ _ ?_
  simp (maxSteps := 1000000) [↓Bool.cond_eq_ite, -Prod.forall, -Prod.exists, -Prod.mk.injEq, ↓jc_eq_t, ↓jc_eq_f, ↓jc_ne_t, ↓jc_ne_f, ↓jc_lt_t, ↓jc_lt_f, ↓jc_ge_t, ↓jc_ge_f, ↓jc_gt_t, ↓jc_gt_f, ↓jc_le_t, ↓jc_le_f, dvk, tJ0_checkIndex_df160, jtb, jol, dvl, dal, dst, jlk, jcmp, jbin, jfl, qJ0, jc2, qlJ0, jcat, jel, lv_args, Value.category, jins, jsrt, jins2, jble, jblt, jf3, List.filter_cons, List.filter_nil, Dlo, Dnr, DnL, Dfree, Droom, DuS_S, DuS_I, DuS_L, DuS_R, DuS_N, DuS_A, DuI_S, DuI_I, DuI_L, DuI_R, DuI_N, DuI_A, DuL_S, DuL_I, DuL_L, DuL_R, DuL_N, DuL_A, DuR_S, DuR_I, DuR_L, DuR_R, DuR_N, DuR_A, Dnw_S, Dnw_I, Dnw_L, Dnw_R, Dnw_N, Dnw_A, DrI_S, DrI_I, DrI_L, DrI_R, DrI_N, DrI_A, DrJ_S, DrJ_I, DrJ_L, DrJ_R, DrJ_N, DrJ_A, dm64, G_d, G_x0, dJ3_checkIndex_8e157, doIIN, -Int32.not_le, -Int32.not_lt, -Int64.not_le, -Int64.not_lt, i3lt, i6lt]
  try simp (disch := omega) [-Prod.forall, -Prod.exists, -Prod.mk.injEq, -Int32.not_le, -Int32.not_lt, -Int64.not_le, -Int64.not_lt, i3lt, i6lt]
  by_cases h5 : jad g 501 = 0
  · refine dr_gets (idx := 1053) (v := .null) rfl (fun U H h => by have h9 := (hE.2 U H h).1.1.2.2.2.1; rw [if_pos h5] at h9; exact h9) (jGw_of 831 (by decide +kernel) (by decide +kernel)) (by decide +kernel) ?_
    have hc := EJ3_checkIndex_8e157 (g := g) (h0 := z.2.2.2.2) k [.int x, .int y, .null] σ hj
    refine dr_callS (idx := 1059) (mt' := mJ3_checkIndex_8e157) (tl := []) (n' := k) (mc := 0) (ms := 0) (as := [.int x, .int y, .null]) ⟨by omega, by show 8 + (3 + 11) + 64 * (k) ≤ _; omega, by omega, by omega⟩ trivial (by decide +kernel) (Or.inl hJ0_1059) WJ3_checkIndex_8e157 rfl rfl (by simp [Value.category]) hc ?_
    rintro v τ ⟨rfl, rfl⟩
    show DW g z mJ0_checkIndex_df160 8 _ [.int x] τ 0 0
    refine dvk_ok (nC := n + 0) DJ0_checkIndex_df160 hTyA hR (VC := []) (VD := []) (SD := [(1059, 3, 0, n + 0, 0, 0, 0, [], dJ3_checkIndex_8e157)]) (AL := []) (fun _ h => absurd h List.not_mem_nil) (fun _ h => absurd h List.not_mem_nil) (List.forall_mem_cons.mpr ⟨⟨mJ3_checkIndex_8e157, by decide, Or.inl hJ0_1059, WJ3_checkIndex_8e157, EJ3_checkIndex_8e157 g _ n⟩, (fun _ h => absurd h List.not_mem_nil)⟩) [] 10 _ _ _ _ _ _ ?_
    simp (maxSteps := 1000000) [↓Bool.cond_eq_ite, -Prod.forall, -Prod.exists, -Prod.mk.injEq, ↓jc_eq_t, ↓jc_eq_f, ↓jc_ne_t, ↓jc_ne_f, ↓jc_lt_t, ↓jc_lt_f, ↓jc_ge_t, ↓jc_ge_f, ↓jc_gt_t, ↓jc_gt_f, ↓jc_le_t, ↓jc_le_f, dvk, tJ0_checkIndex_df160, jtb, jol, dvl, dal, dst, jlk, jcmp, jbin, jfl, qJ0, jc2, qlJ0, jcat, jel, lv_args, Value.category, jins, jsrt, jins2, jble, jblt, jf3, List.filter_cons, List.filter_nil, Dlo, Dnr, DnL, Dfree, Droom, DuS_S, DuS_I, DuS_L, DuS_R, DuS_N, DuS_A, DuI_S, DuI_I, DuI_L, DuI_R, DuI_N, DuI_A, DuL_S, DuL_I, DuL_L, DuL_R, DuL_N, DuL_A, DuR_S, DuR_I, DuR_L, DuR_R, DuR_N, DuR_A, Dnw_S, Dnw_I, Dnw_L, Dnw_R, Dnw_N, Dnw_A, DrI_S, DrI_I, DrI_L, DrI_R, DrI_N, DrI_A, DrJ_S, DrJ_I, DrJ_L, DrJ_R, DrJ_N, DrJ_A, dm64, G_d, G_x0, dJ3_checkIndex_8e157, doIIN, -Int32.not_le, -Int32.not_lt, -Int64.not_le, -Int64.not_lt, i3lt, i6lt]
    try simp (disch := omega) [-Prod.forall, -Prod.exists, -Prod.mk.injEq, -Int32.not_le, -Int32.not_lt, -Int64.not_le, -Int64.not_lt, i3lt, i6lt]
    exact ⟨⟨by omega, by omega⟩, τ, Dsub.rfl hcl, hp _ _ ⟨rfl, rfl⟩⟩
  · refine dr_gets (idx := 1053) (v := .ref 500) rfl (fun U H h => by have h9 := (hE.2 U H h).1.1.2.2.2.1; rw [if_neg h5] at h9; exact h9) (jGw_of 831 (by decide +kernel) (by decide +kernel)) (by decide +kernel) ?_
    have hc := EJ3_chkR (g := g) (h0 := z.2.2.2.2) k [.int x, .int y, .ref 500] σ ⟨rfl, hj⟩
    refine dr_callS (idx := 1059) (mt' := mJ3_checkIndex_8e157) (tl := []) (n' := k) (mc := 0) (ms := 0) (as := [.int x, .int y, .ref 500]) ⟨by omega, by show 8 + (3 + 11) + 64 * (k) ≤ _; omega, by omega, by omega⟩ trivial (by decide +kernel) (Or.inl hJ0_1059) WJ3_checkIndex_8e157 rfl rfl (by simp [Value.category]) hc ?_
    rintro v τ ⟨rfl, rfl⟩
    show DW g z mJ0_checkIndex_df160 8 _ [.int x] τ 0 0
    refine dvk_ok (nC := n + 0) DJ0_checkIndex_df160 hTyA hR (VC := []) (VD := []) (SD := [(1059, 3, 0, n + 0, 0, 0, 0, [], dJ3_checkIndex_8e157)]) (AL := []) (fun _ h => absurd h List.not_mem_nil) (fun _ h => absurd h List.not_mem_nil) (List.forall_mem_cons.mpr ⟨⟨mJ3_checkIndex_8e157, by decide, Or.inl hJ0_1059, WJ3_checkIndex_8e157, EJ3_checkIndex_8e157 g _ n⟩, (fun _ h => absurd h List.not_mem_nil)⟩) [] 10 _ _ _ _ _ _ ?_
    simp (maxSteps := 1000000) [↓Bool.cond_eq_ite, -Prod.forall, -Prod.exists, -Prod.mk.injEq, ↓jc_eq_t, ↓jc_eq_f, ↓jc_ne_t, ↓jc_ne_f, ↓jc_lt_t, ↓jc_lt_f, ↓jc_ge_t, ↓jc_ge_f, ↓jc_gt_t, ↓jc_gt_f, ↓jc_le_t, ↓jc_le_f, dvk, tJ0_checkIndex_df160, jtb, jol, dvl, dal, dst, jlk, jcmp, jbin, jfl, qJ0, jc2, qlJ0, jcat, jel, lv_args, Value.category, jins, jsrt, jins2, jble, jblt, jf3, List.filter_cons, List.filter_nil, Dlo, Dnr, DnL, Dfree, Droom, DuS_S, DuS_I, DuS_L, DuS_R, DuS_N, DuS_A, DuI_S, DuI_I, DuI_L, DuI_R, DuI_N, DuI_A, DuL_S, DuL_I, DuL_L, DuL_R, DuL_N, DuL_A, DuR_S, DuR_I, DuR_L, DuR_R, DuR_N, DuR_A, Dnw_S, Dnw_I, Dnw_L, Dnw_R, Dnw_N, Dnw_A, DrI_S, DrI_I, DrI_L, DrI_R, DrI_N, DrI_A, DrJ_S, DrJ_I, DrJ_L, DrJ_R, DrJ_N, DrJ_A, dm64, G_d, G_x0, dJ3_checkIndex_8e157, doIIN, -Int32.not_le, -Int32.not_lt, -Int64.not_le, -Int64.not_lt, i3lt, i6lt]
    try simp (disch := omega) [-Prod.forall, -Prod.exists, -Prod.mk.injEq, -Int32.not_le, -Int32.not_lt, -Int64.not_le, -Int64.not_lt, i3lt, i6lt]
    exact ⟨⟨by omega, by omega⟩, τ, Dsub.rfl hcl, hp _ _ ⟨rfl, rfl⟩⟩
def dC1 (f : Nat → Nat) (w i : Nat) : dO := doRI fun a x σ => ((a = 1610 ∨ a = 1611 ∨ a = 1612) ∧ x = nI i ∧ i < w ∧ w ≤ 400 ∧ (DA σ a = true ∧ DN σ a = w) ∧ txB σ a f w, fun v τ => v = some (.int (nI (f i))) ∧ τ = σ)
set_option maxRecDepth 100000 in
set_option maxHeartbeats 4000000 in
theorem EJ1_charAt (hE : dEt g h0) (k : Nat) (f : Nat → Nat) (w i : Nat) : dOk g h0 (k + 2) 0 0 [] mJ1_charAt_3b067 (dC1 f w i) := by
  refine doRI_ok ?_
  rintro a _ σ ⟨ha, rfl, hi, hw, ⟨h1, h2⟩, hB⟩
  refine dCon.gt (by decide +kernel) (by simp [lg_sl, Value.category]) (fun z hz0 hkp hcl hz post hp hR => ?_)
  subst hz0
  have n := k
  have ei : (nI i).toNatClampNeg = i := nI_clamp (by omega)
  have hj : jin (nI i) w := jin_nI hi (by omega)
  have ew : (nI w).toNatClampNeg = w := nI_clamp (by omega)
  obtain ⟨hb1, hb2⟩ := hB.1 i hi
  obtain ⟨b1, b2, b3, b4, b5, b6, b7, b8⟩ := bf_t _ hb2
  have hc := EJ0_checkIndex (g := g) (h0 := z.2.2.2.2) hE k [.int (nI i), .int (nI w)] σ (by show jin (nI i) (nI w).toNatClampNeg; rw [ew]; exact hj)
  have fin : ∀ L, DW g z mJ1_charAt_3b067 14 L [.int (nI (f i))] σ 0 0 := fun L => hR (some (.int (nI (f i)))) .ireturn 14 L σ 0 0 (by decide +kernel) (Or.inr (Or.inr ⟨.char, rfl, b5⟩)) ⟨⟨Nat.le_refl _, Nat.le_refl _⟩, σ, Dsub.rfl hcl, hp _ _ ⟨rfl, rfl⟩⟩
  rcases ha with rfl | rfl | rfl
  · show DW g z mJ1_charAt_3b067 0 [(0, .ref 1610), (1, .int (nI i))] [] σ 0 0
    refine dvk_ok (nC := n + 1) DJ1_charAt_3b067 hTyA hR (VC := []) (VD := []) (SD := []) (AL := []) (fun _ h => absurd h List.not_mem_nil) (fun _ h => absurd h List.not_mem_nil) (fun _ h => absurd h List.not_mem_nil) [3] 10 _ _ _ _ _ _ ?_
    simp (maxSteps := 1000000) [↓Bool.cond_eq_ite, -Prod.forall, -Prod.exists, -Prod.mk.injEq, ↓jc_eq_t, ↓jc_eq_f, ↓jc_ne_t, ↓jc_ne_f, ↓jc_lt_t, ↓jc_lt_f, ↓jc_ge_t, ↓jc_ge_f, ↓jc_gt_t, ↓jc_gt_f, ↓jc_le_t, ↓jc_le_f, dvk, tJ1_charAt_3b067, jtb, jol, dvl, dal, dst, jlk, jcmp, jbin, jfl, qJ1, jc2, qlJ1, jcat, jel, lv_args, Value.category, jins, jsrt, jins2, jble, jblt, jf3, List.filter_cons, List.filter_nil, Dlo, Dnr, DnL, Dfree, Droom, DuS_S, DuS_I, DuS_L, DuS_R, DuS_N, DuS_A, DuI_S, DuI_I, DuI_L, DuI_R, DuI_N, DuI_A, DuL_S, DuL_I, DuL_L, DuL_R, DuL_N, DuL_A, DuR_S, DuR_I, DuR_L, DuR_R, DuR_N, DuR_A, Dnw_S, Dnw_I, Dnw_L, Dnw_R, Dnw_N, Dnw_A, DrI_S, DrI_I, DrI_L, DrI_R, DrI_N, DrI_A, DrJ_S, DrJ_I, DrJ_L, DrJ_R, DrJ_N, DrJ_A, dm64, G_d, G_x0, -Int32.not_le, -Int32.not_lt, -Int64.not_le, -Int64.not_lt, i3lt, i6lt, h1, h2, G_t]
    try simp (disch := omega) [-Prod.forall, -Prod.exists, -Prod.mk.injEq, -Int32.not_le, -Int32.not_lt, -Int64.not_le, -Int64.not_lt, i3lt, i6lt, h1, h2, G_t]
    refine dr_callS (idx := 9) (mt' := mJ0_checkIndex_df160) (tl := []) (n' := k + 1) (mc := 0) (ms := 0) (as := [.int (nI i), .int (nI w)]) ⟨by omega, by show 8 + (2 + 11) + 64 * (k + 1) ≤ _; omega, by omega, by omega⟩ trivial (by decide +kernel) (Or.inl hJ1_9) WJ0_checkIndex_df160 rfl rfl (by simp [Value.category]) hc ?_
    rintro v τ ⟨rfl, rfl⟩
    show DW g z mJ1_charAt_3b067 6 _ [] τ 0 0
    refine dvk_ok (nC := n + 1) DJ1_charAt_3b067 hTyA hR (VC := []) (VD := []) (SD := []) (AL := []) (fun _ h => absurd h List.not_mem_nil) (fun _ h => absurd h List.not_mem_nil) (fun _ h => absurd h List.not_mem_nil) [14] 10 _ _ _ _ _ _ ?_
    simp (maxSteps := 1000000) [↓Bool.cond_eq_ite, -Prod.forall, -Prod.exists, -Prod.mk.injEq, ↓jc_eq_t, ↓jc_eq_f, ↓jc_ne_t, ↓jc_ne_f, ↓jc_lt_t, ↓jc_lt_f, ↓jc_ge_t, ↓jc_ge_f, ↓jc_gt_t, ↓jc_gt_f, ↓jc_le_t, ↓jc_le_f, dvk, tJ1_charAt_3b067, jtb, jol, dvl, dal, dst, jlk, jcmp, jbin, jfl, qJ1, jc2, qlJ1, jcat, jel, lv_args, Value.category, jins, jsrt, jins2, jble, jblt, jf3, List.filter_cons, List.filter_nil, Dlo, Dnr, DnL, Dfree, Droom, DuS_S, DuS_I, DuS_L, DuS_R, DuS_N, DuS_A, DuI_S, DuI_I, DuI_L, DuI_R, DuI_N, DuI_A, DuL_S, DuL_I, DuL_L, DuL_R, DuL_N, DuL_A, DuR_S, DuR_I, DuR_L, DuR_R, DuR_N, DuR_A, Dnw_S, Dnw_I, Dnw_L, Dnw_R, Dnw_N, Dnw_A, DrI_S, DrI_I, DrI_L, DrI_R, DrI_N, DrI_A, DrJ_S, DrJ_I, DrJ_L, DrJ_R, DrJ_N, DrJ_A, dm64, G_d, G_x0, -Int32.not_le, -Int32.not_lt, -Int64.not_le, -Int64.not_lt, i3lt, i6lt, h1, h2, hj, hb1, ei, b4, b6, b7, G_t]
    try simp (disch := omega) [-Prod.forall, -Prod.exists, -Prod.mk.injEq, -Int32.not_le, -Int32.not_lt, -Int64.not_le, -Int64.not_lt, i3lt, i6lt, h1, h2, hj, hb1, ei, b4, b6, b7, G_t]
    exact fin _
  · show DW g z mJ1_charAt_3b067 0 [(0, .ref 1611), (1, .int (nI i))] [] σ 0 0
    refine dvk_ok (nC := n + 1) DJ1_charAt_3b067 hTyA hR (VC := []) (VD := []) (SD := []) (AL := []) (fun _ h => absurd h List.not_mem_nil) (fun _ h => absurd h List.not_mem_nil) (fun _ h => absurd h List.not_mem_nil) [3] 10 _ _ _ _ _ _ ?_
    simp (maxSteps := 1000000) [↓Bool.cond_eq_ite, -Prod.forall, -Prod.exists, -Prod.mk.injEq, ↓jc_eq_t, ↓jc_eq_f, ↓jc_ne_t, ↓jc_ne_f, ↓jc_lt_t, ↓jc_lt_f, ↓jc_ge_t, ↓jc_ge_f, ↓jc_gt_t, ↓jc_gt_f, ↓jc_le_t, ↓jc_le_f, dvk, tJ1_charAt_3b067, jtb, jol, dvl, dal, dst, jlk, jcmp, jbin, jfl, qJ1, jc2, qlJ1, jcat, jel, lv_args, Value.category, jins, jsrt, jins2, jble, jblt, jf3, List.filter_cons, List.filter_nil, Dlo, Dnr, DnL, Dfree, Droom, DuS_S, DuS_I, DuS_L, DuS_R, DuS_N, DuS_A, DuI_S, DuI_I, DuI_L, DuI_R, DuI_N, DuI_A, DuL_S, DuL_I, DuL_L, DuL_R, DuL_N, DuL_A, DuR_S, DuR_I, DuR_L, DuR_R, DuR_N, DuR_A, Dnw_S, Dnw_I, Dnw_L, Dnw_R, Dnw_N, Dnw_A, DrI_S, DrI_I, DrI_L, DrI_R, DrI_N, DrI_A, DrJ_S, DrJ_I, DrJ_L, DrJ_R, DrJ_N, DrJ_A, dm64, G_d, G_x0, -Int32.not_le, -Int32.not_lt, -Int64.not_le, -Int64.not_lt, i3lt, i6lt, h1, h2, G_t]
    try simp (disch := omega) [-Prod.forall, -Prod.exists, -Prod.mk.injEq, -Int32.not_le, -Int32.not_lt, -Int64.not_le, -Int64.not_lt, i3lt, i6lt, h1, h2, G_t]
    refine dr_callS (idx := 9) (mt' := mJ0_checkIndex_df160) (tl := []) (n' := k + 1) (mc := 0) (ms := 0) (as := [.int (nI i), .int (nI w)]) ⟨by omega, by show 8 + (2 + 11) + 64 * (k + 1) ≤ _; omega, by omega, by omega⟩ trivial (by decide +kernel) (Or.inl hJ1_9) WJ0_checkIndex_df160 rfl rfl (by simp [Value.category]) hc ?_
    rintro v τ ⟨rfl, rfl⟩
    show DW g z mJ1_charAt_3b067 6 _ [] τ 0 0
    refine dvk_ok (nC := n + 1) DJ1_charAt_3b067 hTyA hR (VC := []) (VD := []) (SD := []) (AL := []) (fun _ h => absurd h List.not_mem_nil) (fun _ h => absurd h List.not_mem_nil) (fun _ h => absurd h List.not_mem_nil) [14] 10 _ _ _ _ _ _ ?_
    simp (maxSteps := 1000000) [↓Bool.cond_eq_ite, -Prod.forall, -Prod.exists, -Prod.mk.injEq, ↓jc_eq_t, ↓jc_eq_f, ↓jc_ne_t, ↓jc_ne_f, ↓jc_lt_t, ↓jc_lt_f, ↓jc_ge_t, ↓jc_ge_f, ↓jc_gt_t, ↓jc_gt_f, ↓jc_le_t, ↓jc_le_f, dvk, tJ1_charAt_3b067, jtb, jol, dvl, dal, dst, jlk, jcmp, jbin, jfl, qJ1, jc2, qlJ1, jcat, jel, lv_args, Value.category, jins, jsrt, jins2, jble, jblt, jf3, List.filter_cons, List.filter_nil, Dlo, Dnr, DnL, Dfree, Droom, DuS_S, DuS_I, DuS_L, DuS_R, DuS_N, DuS_A, DuI_S, DuI_I, DuI_L, DuI_R, DuI_N, DuI_A, DuL_S, DuL_I, DuL_L, DuL_R, DuL_N, DuL_A, DuR_S, DuR_I, DuR_L, DuR_R, DuR_N, DuR_A, Dnw_S, Dnw_I, Dnw_L, Dnw_R, Dnw_N, Dnw_A, DrI_S, DrI_I, DrI_L, DrI_R, DrI_N, DrI_A, DrJ_S, DrJ_I, DrJ_L, DrJ_R, DrJ_N, DrJ_A, dm64, G_d, G_x0, -Int32.not_le, -Int32.not_lt, -Int64.not_le, -Int64.not_lt, i3lt, i6lt, h1, h2, hj, hb1, ei, b4, b6, b7, G_t]
    try simp (disch := omega) [-Prod.forall, -Prod.exists, -Prod.mk.injEq, -Int32.not_le, -Int32.not_lt, -Int64.not_le, -Int64.not_lt, i3lt, i6lt, h1, h2, hj, hb1, ei, b4, b6, b7, G_t]
    exact fin _
  · show DW g z mJ1_charAt_3b067 0 [(0, .ref 1612), (1, .int (nI i))] [] σ 0 0
    refine dvk_ok (nC := n + 1) DJ1_charAt_3b067 hTyA hR (VC := []) (VD := []) (SD := []) (AL := []) (fun _ h => absurd h List.not_mem_nil) (fun _ h => absurd h List.not_mem_nil) (fun _ h => absurd h List.not_mem_nil) [3] 10 _ _ _ _ _ _ ?_
    simp (maxSteps := 1000000) [↓Bool.cond_eq_ite, -Prod.forall, -Prod.exists, -Prod.mk.injEq, ↓jc_eq_t, ↓jc_eq_f, ↓jc_ne_t, ↓jc_ne_f, ↓jc_lt_t, ↓jc_lt_f, ↓jc_ge_t, ↓jc_ge_f, ↓jc_gt_t, ↓jc_gt_f, ↓jc_le_t, ↓jc_le_f, dvk, tJ1_charAt_3b067, jtb, jol, dvl, dal, dst, jlk, jcmp, jbin, jfl, qJ1, jc2, qlJ1, jcat, jel, lv_args, Value.category, jins, jsrt, jins2, jble, jblt, jf3, List.filter_cons, List.filter_nil, Dlo, Dnr, DnL, Dfree, Droom, DuS_S, DuS_I, DuS_L, DuS_R, DuS_N, DuS_A, DuI_S, DuI_I, DuI_L, DuI_R, DuI_N, DuI_A, DuL_S, DuL_I, DuL_L, DuL_R, DuL_N, DuL_A, DuR_S, DuR_I, DuR_L, DuR_R, DuR_N, DuR_A, Dnw_S, Dnw_I, Dnw_L, Dnw_R, Dnw_N, Dnw_A, DrI_S, DrI_I, DrI_L, DrI_R, DrI_N, DrI_A, DrJ_S, DrJ_I, DrJ_L, DrJ_R, DrJ_N, DrJ_A, dm64, G_d, G_x0, -Int32.not_le, -Int32.not_lt, -Int64.not_le, -Int64.not_lt, i3lt, i6lt, h1, h2, G_t]
    try simp (disch := omega) [-Prod.forall, -Prod.exists, -Prod.mk.injEq, -Int32.not_le, -Int32.not_lt, -Int64.not_le, -Int64.not_lt, i3lt, i6lt, h1, h2, G_t]
    refine dr_callS (idx := 9) (mt' := mJ0_checkIndex_df160) (tl := []) (n' := k + 1) (mc := 0) (ms := 0) (as := [.int (nI i), .int (nI w)]) ⟨by omega, by show 8 + (2 + 11) + 64 * (k + 1) ≤ _; omega, by omega, by omega⟩ trivial (by decide +kernel) (Or.inl hJ1_9) WJ0_checkIndex_df160 rfl rfl (by simp [Value.category]) hc ?_
    rintro v τ ⟨rfl, rfl⟩
    show DW g z mJ1_charAt_3b067 6 _ [] τ 0 0
    refine dvk_ok (nC := n + 1) DJ1_charAt_3b067 hTyA hR (VC := []) (VD := []) (SD := []) (AL := []) (fun _ h => absurd h List.not_mem_nil) (fun _ h => absurd h List.not_mem_nil) (fun _ h => absurd h List.not_mem_nil) [14] 10 _ _ _ _ _ _ ?_
    simp (maxSteps := 1000000) [↓Bool.cond_eq_ite, -Prod.forall, -Prod.exists, -Prod.mk.injEq, ↓jc_eq_t, ↓jc_eq_f, ↓jc_ne_t, ↓jc_ne_f, ↓jc_lt_t, ↓jc_lt_f, ↓jc_ge_t, ↓jc_ge_f, ↓jc_gt_t, ↓jc_gt_f, ↓jc_le_t, ↓jc_le_f, dvk, tJ1_charAt_3b067, jtb, jol, dvl, dal, dst, jlk, jcmp, jbin, jfl, qJ1, jc2, qlJ1, jcat, jel, lv_args, Value.category, jins, jsrt, jins2, jble, jblt, jf3, List.filter_cons, List.filter_nil, Dlo, Dnr, DnL, Dfree, Droom, DuS_S, DuS_I, DuS_L, DuS_R, DuS_N, DuS_A, DuI_S, DuI_I, DuI_L, DuI_R, DuI_N, DuI_A, DuL_S, DuL_I, DuL_L, DuL_R, DuL_N, DuL_A, DuR_S, DuR_I, DuR_L, DuR_R, DuR_N, DuR_A, Dnw_S, Dnw_I, Dnw_L, Dnw_R, Dnw_N, Dnw_A, DrI_S, DrI_I, DrI_L, DrI_R, DrI_N, DrI_A, DrJ_S, DrJ_I, DrJ_L, DrJ_R, DrJ_N, DrJ_A, dm64, G_d, G_x0, -Int32.not_le, -Int32.not_lt, -Int64.not_le, -Int64.not_lt, i3lt, i6lt, h1, h2, hj, hb1, ei, b4, b6, b7, G_t]
    try simp (disch := omega) [-Prod.forall, -Prod.exists, -Prod.mk.injEq, -Int32.not_le, -Int32.not_lt, -Int64.not_le, -Int64.not_lt, i3lt, i6lt, h1, h2, hj, hb1, ei, b4, b6, b7, G_t]
    exact fin _
def dIlS : dO := doR fun a σ => ((a = 1700 ∨ a = 1702) ∧ DA σ a = true ∧ DI σ a 1 = 0, fun v τ => v = some (.int 1) ∧ τ = σ)
set_option maxRecDepth 100000 in
set_option maxHeartbeats 4000000 in
theorem EJ0_isLatin1 (hE : dEt g h0) (n : Nat) : dOk g h0 n 0 0 [] mJ0_isLatin1_aae02 dIlS := by
  refine doR_ok ?_
  rintro a σ ⟨ha, h1, h2⟩
  refine dCon.gt (by decide +kernel) (by simp [lg_sl, Value.category]) (fun z hz0 hkp hcl hz post hp hR => ?_)
  subst hz0
  show DW g z mJ0_isLatin1_aae02 0 [(0, .ref a)] [] σ 0 0
  refine dr_gets (idx := 38) (v := .int 1) rfl (dEt_cs hE) (jGw_of 853 (by decide +kernel) (by decide +kernel)) (by decide +kernel) ?_
  have c1 := c1_n0
  rcases ha with rfl | rfl
  · refine dvk_ok (nC := n + 0) DJ0_isLatin1_aae02 hTyA hR (VC := []) (VD := []) (SD := []) (AL := []) (fun _ h => absurd h List.not_mem_nil) (fun _ h => absurd h List.not_mem_nil) (fun _ h => absurd h List.not_mem_nil) [] 10 _ _ _ _ _ _ ?_
    simp (maxSteps := 1000000) [↓Bool.cond_eq_ite, -Prod.forall, -Prod.exists, -Prod.mk.injEq, ↓jc_eq_t, ↓jc_eq_f, ↓jc_ne_t, ↓jc_ne_f, ↓jc_lt_t, ↓jc_lt_f, ↓jc_ge_t, ↓jc_ge_f, ↓jc_gt_t, ↓jc_gt_f, ↓jc_le_t, ↓jc_le_f, dvk, tJ0_isLatin1_aae02, jtb, jol, dvl, dal, dst, jlk, jcmp, jbin, jfl, qJ0, jc2, qlJ0, jcat, jel, lv_args, Value.category, jins, jsrt, jins2, jble, jblt, jf3, List.filter_cons, List.filter_nil, Dlo, Dnr, DnL, Dfree, Droom, DuS_S, DuS_I, DuS_L, DuS_R, DuS_N, DuS_A, DuI_S, DuI_I, DuI_L, DuI_R, DuI_N, DuI_A, DuL_S, DuL_I, DuL_L, DuL_R, DuL_N, DuL_A, DuR_S, DuR_I, DuR_L, DuR_R, DuR_N, DuR_A, Dnw_S, Dnw_I, Dnw_L, Dnw_R, Dnw_N, Dnw_A, DrI_S, DrI_I, DrI_L, DrI_R, DrI_N, DrI_A, DrJ_S, DrJ_I, DrJ_L, DrJ_R, DrJ_N, DrJ_A, dm64, G_d, G_x0, -Int32.not_le, -Int32.not_lt, -Int64.not_le, -Int64.not_lt, i3lt, i6lt, c1, h1, h2, G_t]
    try simp (disch := omega) [-Prod.forall, -Prod.exists, -Prod.mk.injEq, -Int32.not_le, -Int32.not_lt, -Int64.not_le, -Int64.not_lt, i3lt, i6lt, c1, h1, h2, G_t]
    exact ⟨⟨by omega, by omega⟩, σ, Dsub.rfl hcl, hp _ _ ⟨rfl, rfl⟩⟩
  · refine dvk_ok (nC := n + 0) DJ0_isLatin1_aae02 hTyA hR (VC := []) (VD := []) (SD := []) (AL := []) (fun _ h => absurd h List.not_mem_nil) (fun _ h => absurd h List.not_mem_nil) (fun _ h => absurd h List.not_mem_nil) [] 10 _ _ _ _ _ _ ?_
    simp (maxSteps := 1000000) [↓Bool.cond_eq_ite, -Prod.forall, -Prod.exists, -Prod.mk.injEq, ↓jc_eq_t, ↓jc_eq_f, ↓jc_ne_t, ↓jc_ne_f, ↓jc_lt_t, ↓jc_lt_f, ↓jc_ge_t, ↓jc_ge_f, ↓jc_gt_t, ↓jc_gt_f, ↓jc_le_t, ↓jc_le_f, dvk, tJ0_isLatin1_aae02, jtb, jol, dvl, dal, dst, jlk, jcmp, jbin, jfl, qJ0, jc2, qlJ0, jcat, jel, lv_args, Value.category, jins, jsrt, jins2, jble, jblt, jf3, List.filter_cons, List.filter_nil, Dlo, Dnr, DnL, Dfree, Droom, DuS_S, DuS_I, DuS_L, DuS_R, DuS_N, DuS_A, DuI_S, DuI_I, DuI_L, DuI_R, DuI_N, DuI_A, DuL_S, DuL_I, DuL_L, DuL_R, DuL_N, DuL_A, DuR_S, DuR_I, DuR_L, DuR_R, DuR_N, DuR_A, Dnw_S, Dnw_I, Dnw_L, Dnw_R, Dnw_N, Dnw_A, DrI_S, DrI_I, DrI_L, DrI_R, DrI_N, DrI_A, DrJ_S, DrJ_I, DrJ_L, DrJ_R, DrJ_N, DrJ_A, dm64, G_d, G_x0, -Int32.not_le, -Int32.not_lt, -Int64.not_le, -Int64.not_lt, i3lt, i6lt, c1, h1, h2, G_t]
    try simp (disch := omega) [-Prod.forall, -Prod.exists, -Prod.mk.injEq, -Int32.not_le, -Int32.not_lt, -Int64.not_le, -Int64.not_lt, i3lt, i6lt, c1, h1, h2, G_t]
    exact ⟨⟨by omega, by omega⟩, σ, Dsub.rfl hcl, hp _ _ ⟨rfl, rfl⟩⟩
def dCa (f : Nat → Nat) (w i : Nat) : dO := doRI fun a x σ => ((a = 1700 ∨ a = 1702) ∧ txt σ a f w ∧ x = nI i ∧ i < w, fun v τ => v = some (.int (nI (f i))) ∧ τ = σ)
set_option maxRecDepth 100000 in
set_option maxHeartbeats 4000000 in
theorem EJ0_charAt (hE : dEt g h0) (k : Nat) (f : Nat → Nat) (w i : Nat) : dOk g h0 (k + 3) 0 0 [] mJ0_charAt_5068e (dCa f w i) := by
  refine doRI_ok ?_
  rintro a _ σ ⟨ha, ht, rfl, hi⟩
  refine dCon.gt (by decide +kernel) (by simp [lg_sl, Value.category]) (fun z hz0 hkp hcl hz post hp hR => ?_)
  subst hz0
  have n := k
  have c1 := c1_n0
  obtain ⟨hw, ht⟩ := ht
  have key : tsS σ a (a - 90) f w := by
    rcases ht with ⟨rfl, h⟩ | ⟨rfl, h⟩ | ⟨rfl, h⟩ | ⟨j, hj, rfl, -⟩
    · exact h
    · exact h
    · exact h
    · omega
  obtain ⟨⟨h1, h2, h3⟩, ⟨h4, h5⟩, h6⟩ := key
  have hc := EJ0_isLatin1 (g := g) (h0 := z.2.2.2.2) hE k [.ref a] σ ⟨ha, h1, h3⟩
  have fin : ∀ L, DW g z mJ0_charAt_5068e 15 L [.int (nI (f i))] σ 0 0 := fun L => hR (some (.int (nI (f i)))) .ireturn 15 L σ 0 0 (by decide +kernel) (Or.inr (Or.inr ⟨.char, rfl, (bf_t _ (h6.1 i hi).2).2.2.2.2.1⟩)) ⟨⟨Nat.le_refl _, Nat.le_refl _⟩, σ, Dsub.rfl hcl, hp _ _ ⟨rfl, rfl⟩⟩
  rcases ha with rfl | rfl
  · have hA9 := h1
    have h9 : DR σ 1700 0 = some 1610 := h2
    have hc2 := EJ1_charAt (g := g) (h0 := z.2.2.2.2) hE k f w i [.ref 1610, .int (nI i)] σ ⟨Or.inl rfl, rfl, hi, by omega, ⟨h4, h5⟩, h6⟩
    show DW g z mJ0_charAt_5068e 0 [(0, .ref 1700), (1, .int (nI i))] [] σ 0 0
    refine dvk_ok (nC := n + 3) DJ0_charAt_5068e hTyA hR (VC := []) (VD := []) (SD := []) (AL := []) (fun _ h => absurd h List.not_mem_nil) (fun _ h => absurd h List.not_mem_nil) (fun _ h => absurd h List.not_mem_nil) [1] 10 _ _ _ _ _ _ ?_
    simp (maxSteps := 1000000) [↓Bool.cond_eq_ite, -Prod.forall, -Prod.exists, -Prod.mk.injEq, ↓jc_eq_t, ↓jc_eq_f, ↓jc_ne_t, ↓jc_ne_f, ↓jc_lt_t, ↓jc_lt_f, ↓jc_ge_t, ↓jc_ge_f, ↓jc_gt_t, ↓jc_gt_f, ↓jc_le_t, ↓jc_le_f, dvk, tJ0_charAt_5068e, jtb, jol, dvl, dal, dst, jlk, jcmp, jbin, jfl, qJ0, jc2, qlJ0, jcat, jel, lv_args, Value.category, jins, jsrt, jins2, jble, jblt, jf3, List.filter_cons, List.filter_nil, Dlo, Dnr, DnL, Dfree, Droom, DuS_S, DuS_I, DuS_L, DuS_R, DuS_N, DuS_A, DuI_S, DuI_I, DuI_L, DuI_R, DuI_N, DuI_A, DuL_S, DuL_I, DuL_L, DuL_R, DuL_N, DuL_A, DuR_S, DuR_I, DuR_L, DuR_R, DuR_N, DuR_A, Dnw_S, Dnw_I, Dnw_L, Dnw_R, Dnw_N, Dnw_A, DrI_S, DrI_I, DrI_L, DrI_R, DrI_N, DrI_A, DrJ_S, DrJ_I, DrJ_L, DrJ_R, DrJ_N, DrJ_A, dm64, G_d, G_x0, -Int32.not_le, -Int32.not_lt, -Int64.not_le, -Int64.not_lt, i3lt, i6lt]
    try simp (disch := omega) [-Prod.forall, -Prod.exists, -Prod.mk.injEq, -Int32.not_le, -Int32.not_lt, -Int64.not_le, -Int64.not_lt, i3lt, i6lt]
    refine dr_callV (idx := 492) (mt' := mJ0_isLatin1_aae02) (tl := []) (n' := k) (mc := 0) (ms := 0) (ci := 13) (T := TJ0) (N := 4) (a := 1700) (as := []) ⟨by omega, by show 8 + (1 + 11) + 64 * (k) ≤ _; omega, by omega, by omega⟩ trivial (by decide +kernel) hJ0_492 WJ0_isLatin1_aae02 rfl (by decide +kernel) hA9 rfl rfl (by simp [Value.category]) hc ?_
    rintro v τ ⟨rfl, rfl⟩
    show DW g z mJ0_charAt_5068e 4 _ [.int 1] τ 0 0
    refine dvk_ok (nC := n + 3) DJ0_charAt_5068e hTyA hR (VC := []) (VD := []) (SD := []) (AL := []) (fun _ h => absurd h List.not_mem_nil) (fun _ h => absurd h List.not_mem_nil) (fun _ h => absurd h List.not_mem_nil) [12] 10 _ _ _ _ _ _ ?_
    simp (maxSteps := 1000000) [↓Bool.cond_eq_ite, -Prod.forall, -Prod.exists, -Prod.mk.injEq, ↓jc_eq_t, ↓jc_eq_f, ↓jc_ne_t, ↓jc_ne_f, ↓jc_lt_t, ↓jc_lt_f, ↓jc_ge_t, ↓jc_ge_f, ↓jc_gt_t, ↓jc_gt_f, ↓jc_le_t, ↓jc_le_f, dvk, tJ0_charAt_5068e, jtb, jol, dvl, dal, dst, jlk, jcmp, jbin, jfl, qJ0, jc2, qlJ0, jcat, jel, lv_args, Value.category, jins, jsrt, jins2, jble, jblt, jf3, List.filter_cons, List.filter_nil, Dlo, Dnr, DnL, Dfree, Droom, DuS_S, DuS_I, DuS_L, DuS_R, DuS_N, DuS_A, DuI_S, DuI_I, DuI_L, DuI_R, DuI_N, DuI_A, DuL_S, DuL_I, DuL_L, DuL_R, DuL_N, DuL_A, DuR_S, DuR_I, DuR_L, DuR_R, DuR_N, DuR_A, Dnw_S, Dnw_I, Dnw_L, Dnw_R, Dnw_N, Dnw_A, DrI_S, DrI_I, DrI_L, DrI_R, DrI_N, DrI_A, DrJ_S, DrJ_I, DrJ_L, DrJ_R, DrJ_N, DrJ_A, dm64, G_d, G_x0, -Int32.not_le, -Int32.not_lt, -Int64.not_le, -Int64.not_lt, i3lt, i6lt, c1, h1, h9, G_t]
    try simp (disch := omega) [-Prod.forall, -Prod.exists, -Prod.mk.injEq, -Int32.not_le, -Int32.not_lt, -Int64.not_le, -Int64.not_lt, i3lt, i6lt, c1, h1, h9, G_t]
    have hc := hc2
    refine dr_callS (idx := 495) (mt' := mJ1_charAt_3b067) (tl := []) (n' := k + 2) (mc := 0) (ms := 0) (as := [.ref 1610, .int (nI i)]) ⟨by omega, by show 8 + (2 + 11) + 64 * (k + 2) ≤ _; omega, by omega, by omega⟩ trivial (by decide +kernel) (Or.inl hJ0_495) WJ1_charAt_3b067 rfl rfl (by simp [Value.category]) hc ?_
    rintro v τ9 ⟨rfl, rfl⟩
    exact fin _
  · have hA9 := h1
    have h9 : DR σ 1702 0 = some 1612 := h2
    have hc2 := EJ1_charAt (g := g) (h0 := z.2.2.2.2) hE k f w i [.ref 1612, .int (nI i)] σ ⟨Or.inr (Or.inr rfl), rfl, hi, by omega, ⟨h4, h5⟩, h6⟩
    show DW g z mJ0_charAt_5068e 0 [(0, .ref 1702), (1, .int (nI i))] [] σ 0 0
    refine dvk_ok (nC := n + 3) DJ0_charAt_5068e hTyA hR (VC := []) (VD := []) (SD := []) (AL := []) (fun _ h => absurd h List.not_mem_nil) (fun _ h => absurd h List.not_mem_nil) (fun _ h => absurd h List.not_mem_nil) [1] 10 _ _ _ _ _ _ ?_
    simp (maxSteps := 1000000) [↓Bool.cond_eq_ite, -Prod.forall, -Prod.exists, -Prod.mk.injEq, ↓jc_eq_t, ↓jc_eq_f, ↓jc_ne_t, ↓jc_ne_f, ↓jc_lt_t, ↓jc_lt_f, ↓jc_ge_t, ↓jc_ge_f, ↓jc_gt_t, ↓jc_gt_f, ↓jc_le_t, ↓jc_le_f, dvk, tJ0_charAt_5068e, jtb, jol, dvl, dal, dst, jlk, jcmp, jbin, jfl, qJ0, jc2, qlJ0, jcat, jel, lv_args, Value.category, jins, jsrt, jins2, jble, jblt, jf3, List.filter_cons, List.filter_nil, Dlo, Dnr, DnL, Dfree, Droom, DuS_S, DuS_I, DuS_L, DuS_R, DuS_N, DuS_A, DuI_S, DuI_I, DuI_L, DuI_R, DuI_N, DuI_A, DuL_S, DuL_I, DuL_L, DuL_R, DuL_N, DuL_A, DuR_S, DuR_I, DuR_L, DuR_R, DuR_N, DuR_A, Dnw_S, Dnw_I, Dnw_L, Dnw_R, Dnw_N, Dnw_A, DrI_S, DrI_I, DrI_L, DrI_R, DrI_N, DrI_A, DrJ_S, DrJ_I, DrJ_L, DrJ_R, DrJ_N, DrJ_A, dm64, G_d, G_x0, -Int32.not_le, -Int32.not_lt, -Int64.not_le, -Int64.not_lt, i3lt, i6lt]
    try simp (disch := omega) [-Prod.forall, -Prod.exists, -Prod.mk.injEq, -Int32.not_le, -Int32.not_lt, -Int64.not_le, -Int64.not_lt, i3lt, i6lt]
    refine dr_callV (idx := 492) (mt' := mJ0_isLatin1_aae02) (tl := []) (n' := k) (mc := 0) (ms := 0) (ci := 13) (T := TJ0) (N := 4) (a := 1702) (as := []) ⟨by omega, by show 8 + (1 + 11) + 64 * (k) ≤ _; omega, by omega, by omega⟩ trivial (by decide +kernel) hJ0_492 WJ0_isLatin1_aae02 rfl (by decide +kernel) hA9 rfl rfl (by simp [Value.category]) hc ?_
    rintro v τ ⟨rfl, rfl⟩
    show DW g z mJ0_charAt_5068e 4 _ [.int 1] τ 0 0
    refine dvk_ok (nC := n + 3) DJ0_charAt_5068e hTyA hR (VC := []) (VD := []) (SD := []) (AL := []) (fun _ h => absurd h List.not_mem_nil) (fun _ h => absurd h List.not_mem_nil) (fun _ h => absurd h List.not_mem_nil) [12] 10 _ _ _ _ _ _ ?_
    simp (maxSteps := 1000000) [↓Bool.cond_eq_ite, -Prod.forall, -Prod.exists, -Prod.mk.injEq, ↓jc_eq_t, ↓jc_eq_f, ↓jc_ne_t, ↓jc_ne_f, ↓jc_lt_t, ↓jc_lt_f, ↓jc_ge_t, ↓jc_ge_f, ↓jc_gt_t, ↓jc_gt_f, ↓jc_le_t, ↓jc_le_f, dvk, tJ0_charAt_5068e, jtb, jol, dvl, dal, dst, jlk, jcmp, jbin, jfl, qJ0, jc2, qlJ0, jcat, jel, lv_args, Value.category, jins, jsrt, jins2, jble, jblt, jf3, List.filter_cons, List.filter_nil, Dlo, Dnr, DnL, Dfree, Droom, DuS_S, DuS_I, DuS_L, DuS_R, DuS_N, DuS_A, DuI_S, DuI_I, DuI_L, DuI_R, DuI_N, DuI_A, DuL_S, DuL_I, DuL_L, DuL_R, DuL_N, DuL_A, DuR_S, DuR_I, DuR_L, DuR_R, DuR_N, DuR_A, Dnw_S, Dnw_I, Dnw_L, Dnw_R, Dnw_N, Dnw_A, DrI_S, DrI_I, DrI_L, DrI_R, DrI_N, DrI_A, DrJ_S, DrJ_I, DrJ_L, DrJ_R, DrJ_N, DrJ_A, dm64, G_d, G_x0, -Int32.not_le, -Int32.not_lt, -Int64.not_le, -Int64.not_lt, i3lt, i6lt, c1, h1, h9, G_t]
    try simp (disch := omega) [-Prod.forall, -Prod.exists, -Prod.mk.injEq, -Int32.not_le, -Int32.not_lt, -Int64.not_le, -Int64.not_lt, i3lt, i6lt, c1, h1, h9, G_t]
    have hc := hc2
    refine dr_callS (idx := 495) (mt' := mJ1_charAt_3b067) (tl := []) (n' := k + 2) (mc := 0) (ms := 0) (as := [.ref 1612, .int (nI i)]) ⟨by omega, by show 8 + (2 + 11) + 64 * (k + 2) ≤ _; omega, by omega, by omega⟩ trivial (by decide +kernel) (Or.inl hJ0_495) WJ1_charAt_3b067 rfl rfl (by simp [Value.category]) hc ?_
    rintro v τ9 ⟨rfl, rfl⟩
    exact fin _
end EMF
