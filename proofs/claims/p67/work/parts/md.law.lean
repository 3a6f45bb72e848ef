/-! a String out of a StringBuilder -/
section EMD
variable {g : jG} {h0 : Nat}
section PUTF
variable {z : dZ} {mt : jMt} {pc : Nat} {L : List (Nat × Value)} {r : List Value} {σ : dM} {c0 s0 a ci : Nat} {T : u_T} {N : Nat}
theorem dr_putFi {f j : Nat} {C : String} {x : Int32} {ty : FieldType} (hcl : dCls ci C T N) (hk : f < N) (hlk : Cond.fieldLink mt.1.cls j C (T f).2.1 (T f).2.2.1 ∈ jGw) (hC : (T f).1 = C) (hown : C = mt.1.cls) (hnm : mt.1.name = "<init>") (hfin : (T f).2.2.2 = true) (hd9 : parseFieldDescriptor (T f).2.2.1 = some ty) (hnf : narrow ty (.int x) = .int x ∧ fits ty (.int x) = true) (ho : dobj a ci f 0 = true) (hA : DA σ a = true)
    (d : decode mt.2.1 pc = .ok (.putfield j, 3)) (k : DW g z mt (pc + 3) L r (DuI σ a f x) c0 s0) : DW g z mt pc L (.int x :: .ref a :: r) σ c0 s0 :=
  dr_putF (tc := 0) (ε := DuI σ a f x) hcl hk hlk hC hown hnm hfin hd9 (fun _ => hnf) ho hA (fun _ => rfl) (fun h => h)
    (fun da => by rw [jtc_0 (dobj_spec ho).2.2.2.2.2]; show Value.int (DI (DuI σ a f x) a f) = _; rw [DuI_I, if_pos ⟨rfl, rfl⟩]; rfl) (fun da j hj => Dfv_uI hj) (fun da q hq => DuI_ne hq) d k
theorem dr_putFr {f j v : Nat} {C : String} {ty : FieldType} (hcl : dCls ci C T N) (hk : f < N) (hlk : Cond.fieldLink mt.1.cls j C (T f).2.1 (T f).2.2.1 ∈ jGw) (hC : (T f).1 = C) (hown : C = mt.1.cls) (hnm : mt.1.name = "<init>") (hfin : (T f).2.2.2 = true) (hd9 : parseFieldDescriptor (T f).2.2.1 = some ty) (hty : ty.isReference = true) (ho : dobj a ci f 2 = true) (hA : DA σ a = true) (hv : v < 1000 ∨ Dal σ v = true)
    (d : decode mt.2.1 pc = .ok (.putfield j, 3)) (k : DW g z mt (pc + 3) L r (DuR σ a f (some v)) c0 s0) : DW g z mt pc L (.ref v :: .ref a :: r) σ c0 s0 :=
  dr_putF (tc := 0) (ε := DuR σ a f (some v)) hcl hk hlk hC hown hnm hfin hd9 (fun _ => nf_ref hty _) ho hA (fun _ => rfl)
    (fun h x y q hx hx2 e => by
      rw [DuR_R] at e
      split at e
      · cases e; exact hv
      · exact h x y q hx hx2 e)
    (fun da => by
      obtain ⟨q, hq⟩ := jtc_2 (dobj_spec ho).2.2.2.2.2
      rw [hq]
      show Dval g da (DR (DuR σ a f (some v)) a f) = _
      rw [DuR_R, if_pos ⟨rfl, rfl⟩]
      rfl) (fun da j hj => Dfv_uR hj) (fun da q hq => DuR_ne hq) d k
end PUTF
def dGv : dO := doR fun a σ => (a = 1800 ∧ DA σ 1800 = true ∧ DR σ 1800 0 = some 1600, fun v τ => v = some (.ref 1600) ∧ τ = σ)
set_option maxRecDepth 100000 in
set_option maxHeartbeats 4000000 in
theorem EJ5_getValue (n : Nat) : dOk g h0 n 0 0 [] mJ5_getValue_6d5f1 dGv := by
  refine doR_ok ?_
  rintro _ σ ⟨rfl, h1, h2⟩
  refine dCon.go (by decide +kernel) (by simp [lg_sl, Value.category]) (fun z hkp hcl hz post hp hR => ?_)
  simp only [DkF] at hkp
  refine dvk_ok (nC := n + 0) DJ5_getValue_6d5f1 hTyA hR (VC := []) (VD := []) (SD := []) (AL := []) (fun _ h => absurd h List.not_mem_nil) (fun _ h => absurd h List.not_mem_nil) (fun _ h => absurd h List.not_mem_nil) [] 10 _ _ _ _ _ _ ?_
  simp (maxSteps := 1000000) [↓Bool.cond_eq_ite, -Prod.forall, -Prod.exists, -Prod.mk.injEq, ↓jc_eq_t, ↓jc_eq_f, ↓jc_ne_t, ↓jc_ne_f, ↓jc_lt_t, ↓jc_lt_f, ↓jc_ge_t, ↓jc_ge_f, ↓jc_gt_t, ↓jc_gt_f, ↓jc_le_t, ↓jc_le_f, dvk, tJ5_getValue_6d5f1, jtb, jol, dvl, dal, dst, jlk, jcmp, jbin, jfl, qJ5, jc2, qlJ5, jcat, jel, lv_args, Value.category, jins, jsrt, jins2, jble, jblt, jf3, List.filter_cons, List.filter_nil, Dlo, Dnr, DnL, Dfree, Droom, DuS_S, DuS_I, DuS_L, DuS_R, DuS_N, DuS_A, DuI_S, DuI_I, DuI_L, DuI_R, DuI_N, DuI_A, DuL_S, DuL_I, DuL_L, DuL_R, DuL_N, DuL_A, DuR_S, DuR_I, DuR_L, DuR_R, DuR_N, DuR_A, Dnw_S, Dnw_I, Dnw_L, Dnw_R, Dnw_N, Dnw_A, DrI_S, DrI_I, DrI_L, DrI_R, DrI_N, DrI_A, DrJ_S, DrJ_I, DrJ_L, DrJ_R, DrJ_N, DrJ_A, dm64, G_d, G_x0, -Int32.not_le, -Int32.not_lt, -Int64.not_le, -Int64.not_lt, i3lt, i6lt, h1, h2, G_t, hkp, hz]
  try simp (disch := omega) [-Prod.forall, -Prod.exists, -Prod.mk.injEq, -Int32.not_le, -Int32.not_lt, -Int64.not_le, -Int64.not_lt, i3lt, i6lt, h1, h2, G_t, hkp, hz]
  exact ⟨⟨by omega, by omega⟩, σ, Dsub.rfl hcl, hp _ _ ⟨rfl, rfl⟩⟩
def dLe (n : Nat) : dO := doR fun a σ => (a = 1800 ∧ DA σ 1800 = true ∧ DI σ 1800 3 = nI n, fun v τ => v = some (.int (nI n)) ∧ τ = σ)
set_option maxRecDepth 100000 in
set_option maxHeartbeats 4000000 in
theorem EJ5_length (k n : Nat) : dOk g h0 k 0 0 [] mJ5_length_8abf5 (dLe n) := by
  refine doR_ok ?_
  rintro _ σ ⟨rfl, h1, h2⟩
  have nk : k = k := rfl
  refine dCon.go (by decide +kernel) (by simp [lg_sl, Value.category]) (fun z hkp hcl hz post hp hR => ?_)
  simp only [DkF] at hkp
  refine dvk_ok (nC := n + 0) DJ5_length_8abf5 hTyA hR (VC := []) (VD := []) (SD := []) (AL := []) (fun _ h => absurd h List.not_mem_nil) (fun _ h => absurd h List.not_mem_nil) (fun _ h => absurd h List.not_mem_nil) [] 10 _ _ _ _ _ _ ?_
  simp (maxSteps := 1000000) [↓Bool.cond_eq_ite, -Prod.forall, -Prod.exists, -Prod.mk.injEq, ↓jc_eq_t, ↓jc_eq_f, ↓jc_ne_t, ↓jc_ne_f, ↓jc_lt_t, ↓jc_lt_f, ↓jc_ge_t, ↓jc_ge_f, ↓jc_gt_t, ↓jc_gt_f, ↓jc_le_t, ↓jc_le_f, dvk, tJ5_length_8abf5, jtb, jol, dvl, dal, dst, jlk, jcmp, jbin, jfl, qJ5, jc2, qlJ5, jcat, jel, lv_args, Value.category, jins, jsrt, jins2, jble, jblt, jf3, List.filter_cons, List.filter_nil, Dlo, Dnr, DnL, Dfree, Droom, DuS_S, DuS_I, DuS_L, DuS_R, DuS_N, DuS_A, DuI_S, DuI_I, DuI_L, DuI_R, DuI_N, DuI_A, DuL_S, DuL_I, DuL_L, DuL_R, DuL_N, DuL_A, DuR_S, DuR_I, DuR_L, DuR_R, DuR_N, DuR_A, Dnw_S, Dnw_I, Dnw_L, Dnw_R, Dnw_N, Dnw_A, DrI_S, DrI_I, DrI_L, DrI_R, DrI_N, DrI_A, DrJ_S, DrJ_I, DrJ_L, DrJ_R, DrJ_N, DrJ_A, dm64, G_d, G_x0, -Int32.not_le, -Int32.not_lt, -Int64.not_le, -Int64.not_lt, i3lt, i6lt, h1, h2, G_t, hkp, hz]
  try simp (disch := omega) [-Prod.forall, -Prod.exists, -Prod.mk.injEq, -Int32.not_le, -Int32.not_lt, -Int64.not_le, -Int64.not_lt, i3lt, i6lt, h1, h2, G_t, hkp, hz]
  exact ⟨⟨by omega, by omega⟩, σ, Dsub.rfl hcl, hp _ _ ⟨rfl, rfl⟩⟩
set_option maxRecDepth 100000 in
set_option maxHeartbeats 4000000 in
theorem EJ4_length (k n : Nat) : dOk g h0 (k + 1) 0 0 [] mJ4_length_8abf5 (dLe n) := by
  refine doR_ok ?_
  rintro _ σ ⟨rfl, h1, h2⟩
  refine dCon.gt (by decide +kernel) (by simp [lg_sl, Value.category]) (fun z hz0 hkp hcl hz post hp hR => ?_)
  subst hz0
  have hA9 : DA σ 1800 = true := h1
  show DW g z mJ4_length_8abf5 0 [(0, .ref 1800)] [] σ 0 0
  refine dvk_ok (nC := n + 0) DJ4_length_8abf5 hTyA hR (VC := []) (VD := []) (SD := []) (AL := []) (fun _ h => absurd h List.not_mem_nil) (fun _ h => absurd h List.not_mem_nil) (fun _ h => absurd h List.not_mem_nil) [1] 10 _ _ _ _ _ _ ?_
  simp (maxSteps := 1000000) [↓Bool.cond_eq_ite, -Prod.forall, -Prod.exists, -Prod.mk.injEq, ↓jc_eq_t, ↓jc_eq_f, ↓jc_ne_t, ↓jc_ne_f, ↓jc_lt_t, ↓jc_lt_f, ↓jc_ge_t, ↓jc_ge_f, ↓jc_gt_t, ↓jc_gt_f, ↓jc_le_t, ↓jc_le_f, dvk, tJ4_length_8abf5, jtb, jol, dvl, dal, dst, jlk, jcmp, jbin, jfl, qJ4, jc2, qlJ4, jcat, jel, lv_args, Value.category, jins, jsrt, jins2, jble, jblt, jf3, List.filter_cons, List.filter_nil, Dlo, Dnr, DnL, Dfree, Droom, DuS_S, DuS_I, DuS_L, DuS_R, DuS_N, DuS_A, DuI_S, DuI_I, DuI_L, DuI_R, DuI_N, DuI_A, DuL_S, DuL_I, DuL_L, DuL_R, DuL_N, DuL_A, DuR_S, DuR_I, DuR_L, DuR_R, DuR_N, DuR_A, Dnw_S, Dnw_I, Dnw_L, Dnw_R, Dnw_N, Dnw_A, DrI_S, DrI_I, DrI_L, DrI_R, DrI_N, DrI_A, DrJ_S, DrJ_I, DrJ_L, DrJ_R, DrJ_N, DrJ_A, dm64, G_d, G_x0, -Int32.not_le, -Int32.not_lt, -Int64.not_le, -Int64.not_lt, i3lt, i6lt]
  try simp (disch := omega) [-Prod.forall, -Prod.exists, -Prod.mk.injEq, -Int32.not_le, -Int32.not_lt, -Int64.not_le, -Int64.not_lt, i3lt, i6lt]
  have hc := EJ5_length (g := g) (h0 := z.2.2.2.2) k n [.ref 1800] σ ⟨rfl, h1, h2⟩
  refine dr_callSU (idx := 343) (mt' := mJ5_length_8abf5) (tl := []) (n' := k) (mc := 0) (ms := 0) (C := "java/lang/StringBuilder") (ci := 14) (T := TJ4) (N := 4) (a := 1800) (as := []) ⟨by omega, by show 8 + (1 + 11) + 64 * (k) ≤ _; omega, by omega, by omega⟩ trivial (by decide +kernel) hJ4_343 (jGw_of 932 (by decide +kernel) (by decide +kernel)) (jGw_of 771 (by decide +kernel) (by decide +kernel)) UJ5_length_8abf5 (by decide +kernel) rfl (by decide +kernel) hA9 rfl rfl (by simp [Value.category]) hc ?_
  rintro w τ ⟨rfl, rfl⟩
  show DW g z mJ4_length_8abf5 4 _ [.int (nI n)] τ 0 0
  refine dvk_ok (nC := n + 0) DJ4_length_8abf5 hTyA hR (VC := []) (VD := []) (SD := []) (AL := []) (fun _ h => absurd h List.not_mem_nil) (fun _ h => absurd h List.not_mem_nil) (fun _ h => absurd h List.not_mem_nil) [] 10 _ _ _ _ _ _ ?_
  simp (maxSteps := 1000000) [↓Bool.cond_eq_ite, -Prod.forall, -Prod.exists, -Prod.mk.injEq, ↓jc_eq_t, ↓jc_eq_f, ↓jc_ne_t, ↓jc_ne_f, ↓jc_lt_t, ↓jc_lt_f, ↓jc_ge_t, ↓jc_ge_f, ↓jc_gt_t, ↓jc_gt_f, ↓jc_le_t, ↓jc_le_f, dvk, tJ4_length_8abf5, jtb, jol, dvl, dal, dst, jlk, jcmp, jbin, jfl, qJ4, jc2, qlJ4, jcat, jel, lv_args, Value.category, jins, jsrt, jins2, jble, jblt, jf3, List.filter_cons, List.filter_nil, Dlo, Dnr, DnL, Dfree, Droom, DuS_S, DuS_I, DuS_L, DuS_R, DuS_N, DuS_A, DuI_S, DuI_I, DuI_L, DuI_R, DuI_N, DuI_A, DuL_S, DuL_I, DuL_L, DuL_R, DuL_N, DuL_A, DuR_S, DuR_I, DuR_L, DuR_R, DuR_N, DuR_A, Dnw_S, Dnw_I, Dnw_L, Dnw_R, Dnw_N, Dnw_A, DrI_S, DrI_I, DrI_L, DrI_R, DrI_N, DrI_A, DrJ_S, DrJ_I, DrJ_L, DrJ_R, DrJ_N, DrJ_A, dm64, G_d, G_x0, -Int32.not_le, -Int32.not_lt, -Int64.not_le, -Int64.not_lt, i3lt, i6lt]
  try simp (disch := omega) [-Prod.forall, -Prod.exists, -Prod.mk.injEq, -Int32.not_le, -Int32.not_lt, -Int64.not_le, -Int64.not_lt, i3lt, i6lt]
  exact ⟨⟨by omega, by omega⟩, τ, Dsub.rfl hcl, hp _ _ ⟨rfl, rfl⟩⟩
def dCk (n : Nat) : dO := doII fun x y σ => (x = 0 ∧ y = nI n ∧ n < 10000, fun v τ => v = none ∧ τ = σ)
set_option maxRecDepth 100000 in
set_option maxHeartbeats 4000000 in
theorem EJ7_checkLength (k n : Nat) : dOk g h0 k 0 0 [] mJ7_checkLength_df160 (dCk n) := by
  refine doII_ok ?_
  rintro _ _ σ ⟨rfl, rfl, hn⟩
  have p0 : ¬ nI n < 0 := nI_pos (by omega)
  refine dCon.go (by decide +kernel) (by simp [lg_sl, Value.category]) (fun z hkp hcl hz post hp hR => ?_)
  simp only [DkF] at hkp
  refine dvk_ok (nC := n + 0) DJ7_checkLength_df160 hTyA hR (VC := []) (VD := []) (SD := []) (AL := []) (fun _ h => absurd h List.not_mem_nil) (fun _ h => absurd h List.not_mem_nil) (fun _ h => absurd h List.not_mem_nil) [] 10 _ _ _ _ _ _ ?_
  simp (maxSteps := 1000000) [↓Bool.cond_eq_ite, -Prod.forall, -Prod.exists, -Prod.mk.injEq, ↓jc_eq_t, ↓jc_eq_f, ↓jc_ne_t, ↓jc_ne_f, ↓jc_lt_t, ↓jc_lt_f, ↓jc_ge_t, ↓jc_ge_f, ↓jc_gt_t, ↓jc_gt_f, ↓jc_le_t, ↓jc_le_f, dvk, tJ7_checkLength_df160, jtb, jol, dvl, dal, dst, jlk, jcmp, jbin, jfl, qJ7, jc2, qlJ7, jcat, jel, lv_args, Value.category, jins, jsrt, jins2, jble, jblt, jf3, List.filter_cons, List.filter_nil, Dlo, Dnr, DnL, Dfree, Droom, DuS_S, DuS_I, DuS_L, DuS_R, DuS_N, DuS_A, DuI_S, DuI_I, DuI_L, DuI_R, DuI_N, DuI_A, DuL_S, DuL_I, DuL_L, DuL_R, DuL_N, DuL_A, DuR_S, DuR_I, DuR_L, DuR_R, DuR_N, DuR_A, Dnw_S, Dnw_I, Dnw_L, Dnw_R, Dnw_N, Dnw_A, DrI_S, DrI_I, DrI_L, DrI_R, DrI_N, DrI_A, DrJ_S, DrJ_I, DrJ_L, DrJ_R, DrJ_N, DrJ_A, dm64, G_d, G_x0, -Int32.not_le, -Int32.not_lt, -Int64.not_le, -Int64.not_lt, i3lt, i6lt, p0, hkp, hz]
  try simp (disch := omega) [-Prod.forall, -Prod.exists, -Prod.mk.injEq, -Int32.not_le, -Int32.not_lt, -Int64.not_le, -Int64.not_lt, i3lt, i6lt, p0, hkp, hz]
  exact ⟨⟨by omega, by omega⟩, σ, Dsub.rfl hcl, hp _ _ ⟨rfl, rfl⟩⟩
/-- a new row with the builder's letters -/
def rgA (σ τ : dM) (n : Nat) : Prop := Dfr (fun k => k ≠ 1611) σ τ ∧ DA τ 1611 = true ∧ DN τ 1611 = n ∧ (∀ j, j < n → DI τ 1611 j = DI σ 1600 j) ∧ (∀ j, bf (DI τ 1611 j)) ∧ ∀ j, DR τ 1611 j = none
def dRg (n m : Nat) : dO := doRII fun a x y σ => (a = 1600 ∧ x = 0 ∧ y = nI n ∧ (DA σ 1600 = true ∧ DN σ 1600 = m ∧ n ≤ m ∧ m ≤ 700) ∧ (∀ j, bf (DI σ 1600 j)) ∧ DA σ 1611 = false, fun v τ => v = some (.ref 1611) ∧ rgA σ τ n)
set_option maxRecDepth 100000 in
set_option maxHeartbeats 4000000 in
theorem EJ7_copyOfRangeByte (n w9 m : Nat) : dOk g h0 (n + 1) 1 700 [1611] mJ7_copyOfRangeByte_39247 (dRg w9 m) := by
  refine doRII_ok ?_
  rintro _ _ _ σ ⟨rfl, rfl, rfl, ⟨hA, hN, hn, hm⟩, hb, hA1⟩
  refine dCon.gt (by decide +kernel) (by simp [lg_sl, Value.category]) (fun z hz0 hkp hcl hz post hp hR => ?_)
  subst hz0
  simp only [DkF] at hkp
  have en : (nI w9).toNatClampNeg = w9 := nI_clamp (by omega)
  have pn : ¬ nI w9 < 0 := nI_pos (by omega)
  have e0 : nI w9 - 0 = nI w9 := Int32.sub_zero _
  have e01 : nI m - 0 = nI m := Int32.sub_zero _
  have n700 : w9 ≤ 700 := by omega
  have e1 : (if nI m ≤ nI w9 then nI m else nI w9) = nI w9 := by rw [nI_min (by omega) (by omega), Nat.min_eq_right hn]
  show DW g z mJ7_copyOfRangeByte_39247 0 [(0, .ref 1600), (1, .int 0), (2, .int (nI w9))] [] σ 0 0
  refine dvk_ok (nC := n + 0) DJ7_copyOfRangeByte_39247 hTyA hR (VC := []) (VD := []) (SD := [(304, 2, 0, n + 0, 0, 0, 0, [], dJ9_min_7cf53)]) (AL := []) (fun _ h => absurd h List.not_mem_nil) (fun _ h => absurd h List.not_mem_nil) (List.forall_mem_cons.mpr ⟨⟨mJ9_min_7cf53, by decide, Or.inl hJ7_304, WJ9_min_7cf53, EJ9_min_7cf53 g _ n⟩, (fun _ h => absurd h List.not_mem_nil)⟩) [2] 10 _ _ _ _ _ _ ?_
  simp (maxSteps := 1000000) [↓Bool.cond_eq_ite, -Prod.forall, -Prod.exists, -Prod.mk.injEq, ↓jc_eq_t, ↓jc_eq_f, ↓jc_ne_t, ↓jc_ne_f, ↓jc_lt_t, ↓jc_lt_f, ↓jc_ge_t, ↓jc_ge_f, ↓jc_gt_t, ↓jc_gt_f, ↓jc_le_t, ↓jc_le_f, dvk, tJ7_copyOfRangeByte_39247, jtb, jol, dvl, dal, dst, jlk, jcmp, jbin, jfl, qJ7, jc2, qlJ7, jcat, jel, lv_args, Value.category, jins, jsrt, jins2, jble, jblt, jf3, List.filter_cons, List.filter_nil, Dlo, Dnr, DnL, Dfree, Droom, DuS_S, DuS_I, DuS_L, DuS_R, DuS_N, DuS_A, DuI_S, DuI_I, DuI_L, DuI_R, DuI_N, DuI_A, DuL_S, DuL_I, DuL_L, DuL_R, DuL_N, DuL_A, DuR_S, DuR_I, DuR_L, DuR_R, DuR_N, DuR_A, Dnw_S, Dnw_I, Dnw_L, Dnw_R, Dnw_N, Dnw_A, DrI_S, DrI_I, DrI_L, DrI_R, DrI_N, DrI_A, DrJ_S, DrJ_I, DrJ_L, DrJ_R, DrJ_N, DrJ_A, dm64, G_d, G_x0, dJ9_min_7cf53, doII, -Int32.not_le, -Int32.not_lt, -Int64.not_le, -Int64.not_lt, i3lt, i6lt]
  try simp (disch := omega) [-Prod.forall, -Prod.exists, -Prod.mk.injEq, -Int32.not_le, -Int32.not_lt, -Int64.not_le, -Int64.not_lt, i3lt, i6lt]
  have hc := EJ7_checkLength (g := g) (h0 := z.2.2.2.2) n w9 [.int 0, .int (nI w9)] σ ⟨rfl, rfl, by omega⟩
  refine dr_callS (idx := 343) (mt' := mJ7_checkLength_df160) (tl := []) (n' := n) (mc := 0) (ms := 0) (as := [.int 0, .int (nI w9)]) ⟨by omega, by show 8 + (2 + 11) + 64 * (n) ≤ _; omega, by omega, by omega⟩ trivial (by decide +kernel) (Or.inl hJ7_343) WJ7_checkLength_df160 rfl rfl (by simp [Value.category]) hc ?_
  rintro w τ ⟨rfl, rfl⟩
  show DW g z mJ7_copyOfRangeByte_39247 5 _ [] τ 0 0
  refine dvk_ok (nC := n + 0) DJ7_copyOfRangeByte_39247 hTyA hR (VC := []) (VD := []) (SD := [(304, 2, 0, n + 0, 0, 0, 0, [], dJ9_min_7cf53)]) (AL := [(10, 1611, 700)]) (fun _ h => absurd h List.not_mem_nil) (fun _ h => absurd h List.not_mem_nil) (List.forall_mem_cons.mpr ⟨⟨mJ9_min_7cf53, by decide, Or.inl hJ7_304, WJ9_min_7cf53, EJ9_min_7cf53 g _ n⟩, (fun _ h => absurd h List.not_mem_nil)⟩) [12] 20 _ _ _ _ _ _ ?_
  simp (maxSteps := 1000000) [↓Bool.cond_eq_ite, -Prod.forall, -Prod.exists, -Prod.mk.injEq, ↓jc_eq_t, ↓jc_eq_f, ↓jc_ne_t, ↓jc_ne_f, ↓jc_lt_t, ↓jc_lt_f, ↓jc_ge_t, ↓jc_ge_f, ↓jc_gt_t, ↓jc_gt_f, ↓jc_le_t, ↓jc_le_f, dvk, tJ7_copyOfRangeByte_39247, jtb, jol, dvl, dal, dst, jlk, jcmp, jbin, jfl, qJ7, jc2, qlJ7, jcat, jel, lv_args, Value.category, jins, jsrt, jins2, jble, jblt, jf3, List.filter_cons, List.filter_nil, Dlo, Dnr, DnL, Dfree, Droom, DuS_S, DuS_I, DuS_L, DuS_R, DuS_N, DuS_A, DuI_S, DuI_I, DuI_L, DuI_R, DuI_N, DuI_A, DuL_S, DuL_I, DuL_L, DuL_R, DuL_N, DuL_A, DuR_S, DuR_I, DuR_L, DuR_R, DuR_N, DuR_A, Dnw_S, Dnw_I, Dnw_L, Dnw_R, Dnw_N, Dnw_A, DrI_S, DrI_I, DrI_L, DrI_R, DrI_N, DrI_A, DrJ_S, DrJ_I, DrJ_L, DrJ_R, DrJ_N, DrJ_A, dm64, G_d, G_x0, dJ9_min_7cf53, doII, -Int32.not_le, -Int32.not_lt, -Int64.not_le, -Int64.not_lt, i3lt, i6lt, e0, en, pn, n700, hA1, hkp, hz, G_t]
  try simp (disch := omega) [-Prod.forall, -Prod.exists, -Prod.mk.injEq, -Int32.not_le, -Int32.not_lt, -Int64.not_le, -Int64.not_lt, i3lt, i6lt, e0, en, pn, n700, hA1, hkp, hz, G_t]
  refine dvk_ok (nC := n + 0) DJ7_copyOfRangeByte_39247 hTyA hR (VC := []) (VD := []) (SD := [(304, 2, 0, n + 0, 0, 0, 0, [], dJ9_min_7cf53)]) (AL := []) (fun _ h => absurd h List.not_mem_nil) (fun _ h => absurd h List.not_mem_nil) (List.forall_mem_cons.mpr ⟨⟨mJ9_min_7cf53, by decide, Or.inl hJ7_304, WJ9_min_7cf53, EJ9_min_7cf53 g _ n⟩, (fun _ h => absurd h List.not_mem_nil)⟩) [27] 40 _ _ _ _ _ _ ?_
  simp (maxSteps := 1000000) [↓Bool.cond_eq_ite, -Prod.forall, -Prod.exists, -Prod.mk.injEq, ↓jc_eq_t, ↓jc_eq_f, ↓jc_ne_t, ↓jc_ne_f, ↓jc_lt_t, ↓jc_lt_f, ↓jc_ge_t, ↓jc_ge_f, ↓jc_gt_t, ↓jc_gt_f, ↓jc_le_t, ↓jc_le_f, dvk, tJ7_copyOfRangeByte_39247, jtb, jol, dvl, dal, dst, jlk, jcmp, jbin, jfl, qJ7, jc2, qlJ7, jcat, jel, lv_args, Value.category, jins, jsrt, jins2, jble, jblt, jf3, List.filter_cons, List.filter_nil, Dlo, Dnr, DnL, Dfree, Droom, DuS_S, DuS_I, DuS_L, DuS_R, DuS_N, DuS_A, DuI_S, DuI_I, DuI_L, DuI_R, DuI_N, DuI_A, DuL_S, DuL_I, DuL_L, DuL_R, DuL_N, DuL_A, DuR_S, DuR_I, DuR_L, DuR_R, DuR_N, DuR_A, Dnw_S, Dnw_I, Dnw_L, Dnw_R, Dnw_N, Dnw_A, DrI_S, DrI_I, DrI_L, DrI_R, DrI_N, DrI_A, DrJ_S, DrJ_I, DrJ_L, DrJ_R, DrJ_N, DrJ_A, dm64, G_d, G_x0, dJ9_min_7cf53, doII, -Int32.not_le, -Int32.not_lt, -Int64.not_le, -Int64.not_lt, i3lt, i6lt, hA, hN, G_t, e0, e01, e1, hz]
  try simp (disch := omega) [-Prod.forall, -Prod.exists, -Prod.mk.injEq, -Int32.not_le, -Int32.not_lt, -Int64.not_le, -Int64.not_lt, i3lt, i6lt, hA, hN, G_t, e0, e01, e1, hz]
  refine dr_copyB (by decide) (by rw [Dnw_A, if_neg (by decide)]; exact hA) (by decide) (by rw [Dnw_A, if_pos rfl]) (by decide) (by decide) (nI_pos (by omega)) ?_ ?_ (fun i _ => ?_) (by simp) ⟨by omega, by omega⟩ (show Cond.methodLink RJ7 150 arraycopyName ∈ jGw from jGw_of 813 (by decide +kernel) (by decide +kernel)) (by decide +kernel) ?_
  · rw [Dnw_N, if_neg (by decide), en, hN]
    show 0 + w9 ≤ m
    omega
  · rw [Dnw_N, if_pos rfl, en]
    show 0 + w9 ≤ w9
    omega
  · rw [Dnw_I, if_neg (by decide)]
    exact hb _
  · rw [en]
    obtain ⟨ρ, eρ⟩ : ∃ ρ, ρ = DrI (Dnw τ 1611 w9) 1611 (va_cpy (DI (Dnw τ 1611 w9) 1600) (DI (Dnw τ 1611 w9) 1611) (0 : Int32).toNatClampNeg (0 : Int32).toNatClampNeg w9) := ⟨_, rfl⟩
    rw [← eρ]
    have eI : ∀ j, DI ρ 1611 j = va_cpy (DI τ 1600) (fun _ => 0) 0 0 w9 j := fun j => by
      rw [eρ, DrI_I, if_pos rfl]
      rfl
    have hρ : rgA τ ρ w9 := by
      refine ⟨?_, by rw [eρ, DrI_A, Dnw_A, if_pos rfl], by rw [eρ, DrI_N, Dnw_N, if_pos rfl], fun j hj => ?_, fun j => ?_, fun j => by rw [eρ, DrI_R, Dnw_R, if_pos rfl]⟩
      · rw [eρ]
        exact Dfr_nw.tr Dfr_rI
      · rw [eI, pk_cpy_in (by omega) (by omega)]
        exact congrArg (DI τ 1600) (by omega)
      · rw [eI]
        unfold va_cpy
        split
        · exact hb _
        · exact bf_0
    refine DW.cl (fun hcl9 => ?_)
    refine dvk_ok (nC := n + 0) DJ7_copyOfRangeByte_39247 hTyA hR (VC := []) (VD := []) (SD := [(304, 2, 0, n + 0, 0, 0, 0, [], dJ9_min_7cf53)]) (AL := []) (fun _ h => absurd h List.not_mem_nil) (fun _ h => absurd h List.not_mem_nil) (List.forall_mem_cons.mpr ⟨⟨mJ9_min_7cf53, by decide, Or.inl hJ7_304, WJ9_min_7cf53, EJ9_min_7cf53 g _ n⟩, (fun _ h => absurd h List.not_mem_nil)⟩) [] 40 _ _ _ _ _ _ ?_
    simp (maxSteps := 1000000) [↓Bool.cond_eq_ite, -Prod.forall, -Prod.exists, -Prod.mk.injEq, ↓jc_eq_t, ↓jc_eq_f, ↓jc_ne_t, ↓jc_ne_f, ↓jc_lt_t, ↓jc_lt_f, ↓jc_ge_t, ↓jc_ge_f, ↓jc_gt_t, ↓jc_gt_f, ↓jc_le_t, ↓jc_le_f, dvk, tJ7_copyOfRangeByte_39247, jtb, jol, dvl, dal, dst, jlk, jcmp, jbin, jfl, qJ7, jc2, qlJ7, jcat, jel, lv_args, Value.category, jins, jsrt, jins2, jble, jblt, jf3, List.filter_cons, List.filter_nil, Dlo, Dnr, DnL, Dfree, Droom, DuS_S, DuS_I, DuS_L, DuS_R, DuS_N, DuS_A, DuI_S, DuI_I, DuI_L, DuI_R, DuI_N, DuI_A, DuL_S, DuL_I, DuL_L, DuL_R, DuL_N, DuL_A, DuR_S, DuR_I, DuR_L, DuR_R, DuR_N, DuR_A, Dnw_S, Dnw_I, Dnw_L, Dnw_R, Dnw_N, Dnw_A, DrI_S, DrI_I, DrI_L, DrI_R, DrI_N, DrI_A, DrJ_S, DrJ_I, DrJ_L, DrJ_R, DrJ_N, DrJ_A, dm64, G_d, G_x0, dJ9_min_7cf53, doII, -Int32.not_le, -Int32.not_lt, -Int64.not_le, -Int64.not_lt, i3lt, i6lt]
    try simp (disch := omega) [-Prod.forall, -Prod.exists, -Prod.mk.injEq, -Int32.not_le, -Int32.not_lt, -Int64.not_le, -Int64.not_lt, i3lt, i6lt]
    exact ⟨⟨by omega, by omega⟩, _, Dsub.rfl hcl9, hp _ _ ⟨rfl, hρ⟩⟩
set_option maxRecDepth 100000 in
set_option maxHeartbeats 4000000 in
theorem EJ7_copyOfRange (hE : dEt g h0) (k n m : Nat) : dOk g h0 (k + 2) 1 700 [1611] mJ7_copyOfRange_39247 (dRg n m) := by
  refine doRII_ok ?_
  rintro _ _ _ σ ⟨rfl, rfl, rfl, ⟨hA, hN, hn, hm⟩, hb, hA1⟩
  refine dCon.gt (by decide +kernel) (by simp [lg_sl, Value.category]) (fun z hz0 hkp hcl hz post hp hR => ?_)
  subst hz0
  simp only [DkF] at hkp
  show DW g z mJ7_copyOfRange_39247 0 [(0, .ref 1600), (1, .int 0), (2, .int (nI n))] [] σ 0 0
  by_cases c : n = m
  · have c1 : nI n = nI m := by rw [c]
    refine dvk_ok (nC := n + 1) DJ7_copyOfRange_39247 hTyA hR (VC := []) (VD := []) (SD := []) (AL := []) (fun _ h => absurd h List.not_mem_nil) (fun _ h => absurd h List.not_mem_nil) (fun _ h => absurd h List.not_mem_nil) [18, 10] 20 _ _ _ _ _ _ ?_
    simp (maxSteps := 1000000) [↓Bool.cond_eq_ite, -Prod.forall, -Prod.exists, -Prod.mk.injEq, ↓jc_eq_t, ↓jc_eq_f, ↓jc_ne_t, ↓jc_ne_f, ↓jc_lt_t, ↓jc_lt_f, ↓jc_ge_t, ↓jc_ge_f, ↓jc_gt_t, ↓jc_gt_f, ↓jc_le_t, ↓jc_le_f, dvk, tJ7_copyOfRange_39247, jtb, jol, dvl, dal, dst, jlk, jcmp, jbin, jfl, qJ7, jc2, qlJ7, jcat, jel, lv_args, Value.category, jins, jsrt, jins2, jble, jblt, jf3, List.filter_cons, List.filter_nil, Dlo, Dnr, DnL, Dfree, Droom, DuS_S, DuS_I, DuS_L, DuS_R, DuS_N, DuS_A, DuI_S, DuI_I, DuI_L, DuI_R, DuI_N, DuI_A, DuL_S, DuL_I, DuL_L, DuL_R, DuL_N, DuL_A, DuR_S, DuR_I, DuR_L, DuR_R, DuR_N, DuR_A, Dnw_S, Dnw_I, Dnw_L, Dnw_R, Dnw_N, Dnw_A, DrI_S, DrI_I, DrI_L, DrI_R, DrI_N, DrI_A, DrJ_S, DrJ_I, DrJ_L, DrJ_R, DrJ_N, DrJ_A, dm64, G_d, G_x0, -Int32.not_le, -Int32.not_lt, -Int64.not_le, -Int64.not_lt, i3lt, i6lt, hA, hN, G_t, c1]
    try simp (disch := omega) [-Prod.forall, -Prod.exists, -Prod.mk.injEq, -Int32.not_le, -Int32.not_lt, -Int64.not_le, -Int64.not_lt, i3lt, i6lt, hA, hN, G_t, c1]
    refine dr_cloneB (b := 1611) (by decide) hA (by decide) hA1 (by simp [hkp]) (fun i _ => hb i) (by omega) (by rw [hN]; omega) (by simp [DnL]) (by simp [Dnr]) (by simp) ⟨by omega, by omega⟩ (fun U H h => (hE.2 U H h).2.2.2.2.1) (show Cond.methodLink RJ7 310 ⟨"[B", "clone", "()Ljava/lang/Object;"⟩ ∈ jGw from jGw_of 805 (by decide +kernel) (by decide +kernel)) (by decide +kernel) ?_
    refine dr_castB (by decide) (by rw [Dcl_A, if_pos rfl]) (show Cond.classLink RJ7 311 "[B" ∈ jGw from jGw_of 811 (by decide +kernel) (by decide +kernel)) (by decide +kernel) ?_
    have hρ : rgA σ (Dcl σ 1611 1600) n := by
      refine ⟨⟨rfl, fun i hi => ⟨funext fun j => by rw [Dcl_I, if_neg hi], funext fun j => by rw [Dcl_L, if_neg hi], funext fun j => by rw [Dcl_R, if_neg hi], by rw [Dcl_N, if_neg hi], by rw [Dcl_A, if_neg hi]⟩⟩, by rw [Dcl_A, if_pos rfl], by rw [Dcl_N, if_pos rfl, hN, c], fun j _ => by rw [Dcl_I, if_pos rfl], fun j => by rw [Dcl_I, if_pos rfl]; exact hb j, fun j => by rw [Dcl_R, if_pos rfl]⟩
    refine DW.cl (fun hcl9 => ?_)
    refine dvk_ok (nC := n + 1) DJ7_copyOfRange_39247 hTyA hR (VC := []) (VD := []) (SD := []) (AL := []) (fun _ h => absurd h List.not_mem_nil) (fun _ h => absurd h List.not_mem_nil) (fun _ h => absurd h List.not_mem_nil) [] 10 _ _ _ _ _ _ ?_
    simp (maxSteps := 1000000) [↓Bool.cond_eq_ite, -Prod.forall, -Prod.exists, -Prod.mk.injEq, ↓jc_eq_t, ↓jc_eq_f, ↓jc_ne_t, ↓jc_ne_f, ↓jc_lt_t, ↓jc_lt_f, ↓jc_ge_t, ↓jc_ge_f, ↓jc_gt_t, ↓jc_gt_f, ↓jc_le_t, ↓jc_le_f, dvk, tJ7_copyOfRange_39247, jtb, jol, dvl, dal, dst, jlk, jcmp, jbin, jfl, qJ7, jc2, qlJ7, jcat, jel, lv_args, Value.category, jins, jsrt, jins2, jble, jblt, jf3, List.filter_cons, List.filter_nil, Dlo, Dnr, DnL, Dfree, Droom, DuS_S, DuS_I, DuS_L, DuS_R, DuS_N, DuS_A, DuI_S, DuI_I, DuI_L, DuI_R, DuI_N, DuI_A, DuL_S, DuL_I, DuL_L, DuL_R, DuL_N, DuL_A, DuR_S, DuR_I, DuR_L, DuR_R, DuR_N, DuR_A, Dnw_S, Dnw_I, Dnw_L, Dnw_R, Dnw_N, Dnw_A, DrI_S, DrI_I, DrI_L, DrI_R, DrI_N, DrI_A, DrJ_S, DrJ_I, DrJ_L, DrJ_R, DrJ_N, DrJ_A, dm64, G_d, G_x0, -Int32.not_le, -Int32.not_lt, -Int64.not_le, -Int64.not_lt, i3lt, i6lt]
    try simp (disch := omega) [-Prod.forall, -Prod.exists, -Prod.mk.injEq, -Int32.not_le, -Int32.not_lt, -Int64.not_le, -Int64.not_lt, i3lt, i6lt]
    exact ⟨⟨by omega, by rw [hN]; omega⟩, _, Dsub.rfl hcl9, hp _ _ ⟨rfl, hρ⟩⟩
  · have c1 : ¬ nI n = nI m := fun z9 => c ((nI_eq (by omega) (by omega)).mp z9)
    refine dvk_ok (nC := n + 1) DJ7_copyOfRange_39247 hTyA hR (VC := []) (VD := []) (SD := []) (AL := []) (fun _ h => absurd h List.not_mem_nil) (fun _ h => absurd h List.not_mem_nil) (fun _ h => absurd h List.not_mem_nil) [13, 17] 20 _ _ _ _ _ _ ?_
    simp (maxSteps := 1000000) [↓Bool.cond_eq_ite, -Prod.forall, -Prod.exists, -Prod.mk.injEq, ↓jc_eq_t, ↓jc_eq_f, ↓jc_ne_t, ↓jc_ne_f, ↓jc_lt_t, ↓jc_lt_f, ↓jc_ge_t, ↓jc_ge_f, ↓jc_gt_t, ↓jc_gt_f, ↓jc_le_t, ↓jc_le_f, dvk, tJ7_copyOfRange_39247, jtb, jol, dvl, dal, dst, jlk, jcmp, jbin, jfl, qJ7, jc2, qlJ7, jcat, jel, lv_args, Value.category, jins, jsrt, jins2, jble, jblt, jf3, List.filter_cons, List.filter_nil, Dlo, Dnr, DnL, Dfree, Droom, DuS_S, DuS_I, DuS_L, DuS_R, DuS_N, DuS_A, DuI_S, DuI_I, DuI_L, DuI_R, DuI_N, DuI_A, DuL_S, DuL_I, DuL_L, DuL_R, DuL_N, DuL_A, DuR_S, DuR_I, DuR_L, DuR_R, DuR_N, DuR_A, Dnw_S, Dnw_I, Dnw_L, Dnw_R, Dnw_N, Dnw_A, DrI_S, DrI_I, DrI_L, DrI_R, DrI_N, DrI_A, DrJ_S, DrJ_I, DrJ_L, DrJ_R, DrJ_N, DrJ_A, dm64, G_d, G_x0, -Int32.not_le, -Int32.not_lt, -Int64.not_le, -Int64.not_lt, i3lt, i6lt, hA, hN, G_t, c1]
    try simp (disch := omega) [-Prod.forall, -Prod.exists, -Prod.mk.injEq, -Int32.not_le, -Int32.not_lt, -Int64.not_le, -Int64.not_lt, i3lt, i6lt, hA, hN, G_t, c1]
    have hc := EJ7_copyOfRangeByte (g := g) (h0 := z.2.2.2.2) k n m [.ref 1600, .int 0, .int (nI n)] σ ⟨rfl, rfl, rfl, ⟨hA, hN, hn, hm⟩, hb, hA1⟩
    refine dr_callS (idx := 339) (mt' := mJ7_copyOfRangeByte_39247) (tl := [1611]) (n' := k + 1) (mc := 1) (ms := 700) (as := [.ref 1600, .int 0, .int (nI n)]) ⟨by omega, by show 8 + (5 + 11) + 64 * (k + 1) ≤ _; omega, by omega, by omega⟩ (by simp [Dfree, DnL, Dnr, hkp]) (by decide +kernel) (Or.inl hJ7_339) WJ7_copyOfRangeByte_39247 rfl rfl (by simp [Value.category]) hc ?_
    rintro w τ ⟨rfl, hτ⟩
    show DW g z mJ7_copyOfRange_39247 16 _ [.ref 1611] τ 1 700
    refine DW.cl (fun hcl9 => ?_)
    refine dvk_ok (nC := n + 1) DJ7_copyOfRange_39247 hTyA hR (VC := []) (VD := []) (SD := []) (AL := []) (fun _ h => absurd h List.not_mem_nil) (fun _ h => absurd h List.not_mem_nil) (fun _ h => absurd h List.not_mem_nil) [] 10 _ _ _ _ _ _ ?_
    simp (maxSteps := 1000000) [↓Bool.cond_eq_ite, -Prod.forall, -Prod.exists, -Prod.mk.injEq, ↓jc_eq_t, ↓jc_eq_f, ↓jc_ne_t, ↓jc_ne_f, ↓jc_lt_t, ↓jc_lt_f, ↓jc_ge_t, ↓jc_ge_f, ↓jc_gt_t, ↓jc_gt_f, ↓jc_le_t, ↓jc_le_f, dvk, tJ7_copyOfRange_39247, jtb, jol, dvl, dal, dst, jlk, jcmp, jbin, jfl, qJ7, jc2, qlJ7, jcat, jel, lv_args, Value.category, jins, jsrt, jins2, jble, jblt, jf3, List.filter_cons, List.filter_nil, Dlo, Dnr, DnL, Dfree, Droom, DuS_S, DuS_I, DuS_L, DuS_R, DuS_N, DuS_A, DuI_S, DuI_I, DuI_L, DuI_R, DuI_N, DuI_A, DuL_S, DuL_I, DuL_L, DuL_R, DuL_N, DuL_A, DuR_S, DuR_I, DuR_L, DuR_R, DuR_N, DuR_A, Dnw_S, Dnw_I, Dnw_L, Dnw_R, Dnw_N, Dnw_A, DrI_S, DrI_I, DrI_L, DrI_R, DrI_N, DrI_A, DrJ_S, DrJ_I, DrJ_L, DrJ_R, DrJ_N, DrJ_A, dm64, G_d, G_x0, -Int32.not_le, -Int32.not_lt, -Int64.not_le, -Int64.not_lt, i3lt, i6lt]
    try simp (disch := omega) [-Prod.forall, -Prod.exists, -Prod.mk.injEq, -Int32.not_le, -Int32.not_lt, -Int64.not_le, -Int64.not_lt, i3lt, i6lt]
    exact ⟨⟨by omega, by omega⟩, _, Dsub.rfl hcl9, hp _ _ ⟨rfl, hτ⟩⟩
end EMD
