/-! a StringBuilder's row grows -/
def doIII (f : Int32 → Int32 → Int32 → dM → Prop × (Option Value → dM → Prop)) : dO := fun args σ => match args with
  | [.int i0, .int i1, .int i2] => f i0 i1 i2 σ
  | _ => (False, fun _ _ => False)
theorem doIII_ok {g : jG} {h0 n mc ms : Nat} {tl : List Nat} {mt : jMt} {f : Int32 → Int32 → Int32 → dM → Prop × (Option Value → dM → Prop)} (h : ∀ (i0 i1 i2 : Int32) (σ : dM), (f i0 i1 i2 σ).1 → dCon g h0 n mc ms tl mt [.int i0, .int i1, .int i2] σ (f i0 i1 i2 σ).2) : dOk g h0 n mc ms tl mt (doIII f) := by
  intro args σ hp
  unfold doIII at hp ⊢
  split at hp
  · exact h _ _ _ σ hp
  · exact hp.elim
theorem nI_max {d p : Nat} (hd : d < 2147483648) (hp : p < 2147483648) : (if nI p ≤ nI d then nI d else nI p) = nI (max d p) := by
  by_cases c : p ≤ d
  · rw [if_pos (nI_le c (by omega)), Nat.max_eq_left c]
  · rw [if_neg (nI_ge (by omega) (by omega)), Nat.max_eq_right (by omega)]
theorem nI_min {d p : Nat} (hd : d < 2147483648) (hp : p < 2147483648) : (if nI d ≤ nI p then nI d else nI p) = nI (min d p) := by
  by_cases c : d ≤ p
  · rw [if_pos (nI_le c (by omega)), Nat.min_eq_left c]
  · rw [if_neg (nI_ge (by omega) (by omega)), Nat.min_eq_right (by omega)]
/-- the new size of a row of m places that shall hold q -/
def ncp (q m : Nat) : Nat := m + max (q - m) (m + 2)
theorem ncp_le {q m : Nat} (h : m < q) (hq : q ≤ 300) : m < ncp q m ∧ q ≤ ncp q m ∧ ncp q m ≤ 700 := by
  unfold ncp
  omega
section EJW
variable {g : jG} {h0 : Nat}
def dNl (m d p : Nat) : dO := doIII fun x y w σ => (x = nI m ∧ y = nI d ∧ w = nI p ∧ m + max d p ≤ 100000 ∧ 0 < m + max d p, fun v τ => v = some (.int (nI (m + max d p))) ∧ τ = σ)
set_option maxRecDepth 100000 in
set_option maxHeartbeats 4000000 in
theorem EJ8_newLength (n m d p : Nat) : dOk g h0 (n + 1) 0 0 [] mJ8_newLength_cabcc (dNl m d p) := by
  refine doIII_ok ?_
  rintro _ _ _ σ ⟨rfl, rfl, rfl, hb, hb0⟩
  have hd : d < 2147483648 := by omega
  have hp9 : p < 2147483648 := by omega
  have e1 := nI_max hd hp9
  have e2 : nI m + nI (max d p) = nI (m + max d p) := nI_add _ _
  have p1 : ¬ nI (m + max d p) ≤ 0 := fun z => by have := (NL_0.2.2.1 _ (by omega)).mp z; omega
  have p2 : nI (m + max d p) ≤ 2147483639 := nI_le (a := m + max d p) (b := 2147483639) (by omega) (by omega)
  refine dCon.go (by decide +kernel) (by simp [lg_sl, Value.category]) (fun z hkp hcl hz post hp hR => ?_)
  simp only [DkF] at hkp
  refine dvk_ok (nC := n + 0) DJ8_newLength_cabcc hTyA hR (VC := []) (VD := []) (SD := [(194, 2, 0, n + 0, 0, 0, 0, [], dJ9_max_7cf53)]) (AL := []) (fun _ h => absurd h List.not_mem_nil) (fun _ h => absurd h List.not_mem_nil) (List.forall_mem_cons.mpr ⟨⟨mJ9_max_7cf53, by decide, Or.inl hJ8_194, WJ9_max_7cf53, EJ9_max_7cf53 g _ n⟩, (fun _ h => absurd h List.not_mem_nil)⟩) [7] 30 _ _ _ _ _ _ ?_
  simp (maxSteps := 1000000) [↓Bool.cond_eq_ite, -Prod.forall, -Prod.exists, -Prod.mk.injEq, ↓jc_eq_t, ↓jc_eq_f, ↓jc_ne_t, ↓jc_ne_f, ↓jc_lt_t, ↓jc_lt_f, ↓jc_ge_t, ↓jc_ge_f, ↓jc_gt_t, ↓jc_gt_f, ↓jc_le_t, ↓jc_le_f, dvk, tJ8_newLength_cabcc, jtb, jol, dvl, dal, dst, jlk, jcmp, jbin, jfl, qJ8, jc2, qlJ8, jcat, jel, lv_args, Value.category, jins, jsrt, jins2, jble, jblt, jf3, List.filter_cons, List.filter_nil, Dlo, Dnr, DnL, Dfree, Droom, DuS_S, DuS_I, DuS_L, DuS_R, DuS_N, DuS_A, DuI_S, DuI_I, DuI_L, DuI_R, DuI_N, DuI_A, DuL_S, DuL_I, DuL_L, DuL_R, DuL_N, DuL_A, DuR_S, DuR_I, DuR_L, DuR_R, DuR_N, DuR_A, Dnw_S, Dnw_I, Dnw_L, Dnw_R, Dnw_N, Dnw_A, DrI_S, DrI_I, DrI_L, DrI_R, DrI_N, DrI_A, DrJ_S, DrJ_I, DrJ_L, DrJ_R, DrJ_N, DrJ_A, dm64, G_d, G_x0, dJ9_max_7cf53, doII, -Int32.not_le, -Int32.not_lt, -Int64.not_le, -Int64.not_lt, i3lt, i6lt, hkp, hz]
  try simp (disch := omega) [-Prod.forall, -Prod.exists, -Prod.mk.injEq, -Int32.not_le, -Int32.not_lt, -Int64.not_le, -Int64.not_lt, i3lt, i6lt, hkp, hz]
  refine dvk_ok (nC := n + 0) DJ8_newLength_cabcc hTyA hR (VC := []) (VD := []) (SD := [(194, 2, 0, n + 0, 0, 0, 0, [], dJ9_max_7cf53)]) (AL := []) (fun _ h => absurd h List.not_mem_nil) (fun _ h => absurd h List.not_mem_nil) (List.forall_mem_cons.mpr ⟨⟨mJ9_max_7cf53, by decide, Or.inl hJ8_194, WJ9_max_7cf53, EJ9_max_7cf53 g _ n⟩, (fun _ h => absurd h List.not_mem_nil)⟩) [] 30 _ _ _ _ _ _ ?_
  simp (maxSteps := 1000000) [↓Bool.cond_eq_ite, -Prod.forall, -Prod.exists, -Prod.mk.injEq, ↓jc_eq_t, ↓jc_eq_f, ↓jc_ne_t, ↓jc_ne_f, ↓jc_lt_t, ↓jc_lt_f, ↓jc_ge_t, ↓jc_ge_f, ↓jc_gt_t, ↓jc_gt_f, ↓jc_le_t, ↓jc_le_f, dvk, tJ8_newLength_cabcc, jtb, jol, dvl, dal, dst, jlk, jcmp, jbin, jfl, qJ8, jc2, qlJ8, jcat, jel, lv_args, Value.category, jins, jsrt, jins2, jble, jblt, jf3, List.filter_cons, List.filter_nil, Dlo, Dnr, DnL, Dfree, Droom, DuS_S, DuS_I, DuS_L, DuS_R, DuS_N, DuS_A, DuI_S, DuI_I, DuI_L, DuI_R, DuI_N, DuI_A, DuL_S, DuL_I, DuL_L, DuL_R, DuL_N, DuL_A, DuR_S, DuR_I, DuR_L, DuR_R, DuR_N, DuR_A, Dnw_S, Dnw_I, Dnw_L, Dnw_R, Dnw_N, Dnw_A, DrI_S, DrI_I, DrI_L, DrI_R, DrI_N, DrI_A, DrJ_S, DrJ_I, DrJ_L, DrJ_R, DrJ_N, DrJ_A, dm64, G_d, G_x0, dJ9_max_7cf53, doII, -Int32.not_le, -Int32.not_lt, -Int64.not_le, -Int64.not_lt, i3lt, i6lt, hz, e1, e2, p1, p2]
  try simp (disch := omega) [-Prod.forall, -Prod.exists, -Prod.mk.injEq, -Int32.not_le, -Int32.not_lt, -Int64.not_le, -Int64.not_lt, i3lt, i6lt, hz, e1, e2, p1, p2]
  exact ⟨⟨by omega, by omega⟩, σ, Dsub.rfl hcl, hp _ _ ⟨rfl, rfl⟩⟩
/-- what a StringBuilder's growth asks -/
def sbG (σ : dM) (m : Nat) : Prop := (DA σ 1800 = true ∧ DR σ 1800 0 = some 1600 ∧ DI σ 1800 1 = 0) ∧ DA σ 1600 = true ∧ DN σ 1600 = m
def dNc (q m : Nat) : dO := doRI fun a x σ => (a = 1800 ∧ x = nI q ∧ sbG σ m ∧ m < q ∧ q ≤ 300, fun v τ => v = some (.int (nI (ncp q m))) ∧ τ = σ)
set_option maxRecDepth 100000 in
set_option maxHeartbeats 4000000 in
theorem EJ5_newCapacity (n q m : Nat) : dOk g h0 (n + 2) 0 0 [] mJ5_newCapacity_0f7a4 (dNc q m) := by
  refine doRI_ok ?_
  rintro _ _ σ ⟨rfl, rfl, ⟨h1, h2⟩, hm, hq⟩
  refine dCon.gt (by decide +kernel) (by simp [lg_sl, Value.category]) (fun z hz0 hkp hcl hz post hp hR => ?_)
  subst hz0
  have l1 := ncp_le hm hq
  have e1 : ∀ x : Int32, x >>> ((0 : Int32) &&& 31) = x := sb_shr0
  have e2 : ∀ x : Int32, x <<< ((0 : Int32) &&& 31) = x := sb_shl0
  have e3 : nI q - nI m = nI (q - m) := pk_sub (by omega)
  have e4 : nI m + 2 = nI (m + 2) := nI_add m 2
  have e5 : ¬ nI (ncp q m) = 2147483647 := fun z9 => by have := (nI_eq (a := ncp q m) (b := 2147483647) (by omega) (by omega)).mp z9; omega
  show DW g z mJ5_newCapacity_0f7a4 0 [(0, .ref 1800), (1, .int (nI q))] [] σ 0 0
  refine dvk_ok (nC := n + 1) DJ5_newCapacity_0f7a4 hTyA hR (VC := []) (VD := []) (SD := []) (AL := []) (fun _ h => absurd h List.not_mem_nil) (fun _ h => absurd h List.not_mem_nil) (fun _ h => absurd h List.not_mem_nil) [29] 40 _ _ _ _ _ _ ?_
  simp (maxSteps := 1000000) [↓Bool.cond_eq_ite, -Prod.forall, -Prod.exists, -Prod.mk.injEq, ↓jc_eq_t, ↓jc_eq_f, ↓jc_ne_t, ↓jc_ne_f, ↓jc_lt_t, ↓jc_lt_f, ↓jc_ge_t, ↓jc_ge_f, ↓jc_gt_t, ↓jc_gt_f, ↓jc_le_t, ↓jc_le_f, dvk, tJ5_newCapacity_0f7a4, jtb, jol, dvl, dal, dst, jlk, jcmp, jbin, jfl, qJ5, jc2, qlJ5, jcat, jel, lv_args, Value.category, jins, jsrt, jins2, jble, jblt, jf3, List.filter_cons, List.filter_nil, Dlo, Dnr, DnL, Dfree, Droom, DuS_S, DuS_I, DuS_L, DuS_R, DuS_N, DuS_A, DuI_S, DuI_I, DuI_L, DuI_R, DuI_N, DuI_A, DuL_S, DuL_I, DuL_L, DuL_R, DuL_N, DuL_A, DuR_S, DuR_I, DuR_L, DuR_R, DuR_N, DuR_A, Dnw_S, Dnw_I, Dnw_L, Dnw_R, Dnw_N, Dnw_A, DrI_S, DrI_I, DrI_L, DrI_R, DrI_N, DrI_A, DrJ_S, DrJ_I, DrJ_L, DrJ_R, DrJ_N, DrJ_A, dm64, G_d, G_x0, -Int32.not_le, -Int32.not_lt, -Int64.not_le, -Int64.not_lt, i3lt, i6lt, h1, h2, G_t, e2, e3, e4]
  try simp (disch := omega) [-Prod.forall, -Prod.exists, -Prod.mk.injEq, -Int32.not_le, -Int32.not_lt, -Int64.not_le, -Int64.not_lt, i3lt, i6lt, h1, h2, G_t, e2, e3, e4]
  have hc := EJ8_newLength (g := g) (h0 := z.2.2.2.2) n m (q - m) (m + 2) [.int (nI m), .int (nI (q - m)), .int (nI (m + 2))] σ ⟨rfl, rfl, rfl, by unfold ncp at l1; omega, by omega⟩
  refine dr_callS (idx := 114) (mt' := mJ8_newLength_cabcc) (tl := []) (n' := n + 1) (mc := 0) (ms := 0) (as := [.int (nI m), .int (nI (q - m)), .int (nI (m + 2))]) ⟨by omega, by show 8 + (4 + 11) + 64 * (n + 1) ≤ _; omega, by omega, by omega⟩ trivial (by decide +kernel) (Or.inl hJ5_114) WJ8_newLength_cabcc rfl rfl (by simp [Value.category]) hc ?_
  rintro v τ ⟨rfl, rfl⟩
  show DW g z mJ5_newCapacity_0f7a4 32 _ [.int (nI (ncp q m))] τ 0 0
  refine dvk_ok (nC := n + 1) DJ5_newCapacity_0f7a4 hTyA hR (VC := []) (VD := []) (SD := []) (AL := []) (fun _ h => absurd h List.not_mem_nil) (fun _ h => absurd h List.not_mem_nil) (fun _ h => absurd h List.not_mem_nil) [] 40 _ _ _ _ _ _ ?_
  simp (maxSteps := 1000000) [↓Bool.cond_eq_ite, -Prod.forall, -Prod.exists, -Prod.mk.injEq, ↓jc_eq_t, ↓jc_eq_f, ↓jc_ne_t, ↓jc_ne_f, ↓jc_lt_t, ↓jc_lt_f, ↓jc_ge_t, ↓jc_ge_f, ↓jc_gt_t, ↓jc_gt_f, ↓jc_le_t, ↓jc_le_f, dvk, tJ5_newCapacity_0f7a4, jtb, jol, dvl, dal, dst, jlk, jcmp, jbin, jfl, qJ5, jc2, qlJ5, jcat, jel, lv_args, Value.category, jins, jsrt, jins2, jble, jblt, jf3, List.filter_cons, List.filter_nil, Dlo, Dnr, DnL, Dfree, Droom, DuS_S, DuS_I, DuS_L, DuS_R, DuS_N, DuS_A, DuI_S, DuI_I, DuI_L, DuI_R, DuI_N, DuI_A, DuL_S, DuL_I, DuL_L, DuL_R, DuL_N, DuL_A, DuR_S, DuR_I, DuR_L, DuR_R, DuR_N, DuR_A, Dnw_S, Dnw_I, Dnw_L, Dnw_R, Dnw_N, Dnw_A, DrI_S, DrI_I, DrI_L, DrI_R, DrI_N, DrI_A, DrJ_S, DrJ_I, DrJ_L, DrJ_R, DrJ_N, DrJ_A, dm64, G_d, G_x0, -Int32.not_le, -Int32.not_lt, -Int64.not_le, -Int64.not_lt, i3lt, i6lt, h1, h2, G_t, e5]
  try simp (disch := omega) [-Prod.forall, -Prod.exists, -Prod.mk.injEq, -Int32.not_le, -Int32.not_lt, -Int64.not_le, -Int64.not_lt, i3lt, i6lt, h1, h2, G_t, e5]
  exact ⟨⟨by omega, by omega⟩, τ, Dsub.rfl hcl, hp _ _ ⟨rfl, rfl⟩⟩
def dCpo (c m : Nat) : dO := doRI fun a x σ => (a = 1600 ∧ x = nI c ∧ DA σ 1600 = true ∧ DN σ 1600 = m ∧ m < c ∧ c ≤ 700 ∧ (∀ j, bf (DI σ 1600 j)) ∧ DA σ 1601 = false, fun v τ => v = some (.ref 1601) ∧ τ = DrI (Dnw σ 1601 c) 1601 (va_cpy (DI σ 1600) (fun _ => 0) 0 0 m))
set_option maxRecDepth 100000 in
set_option maxHeartbeats 4000000 in
theorem EJ7_copyOf (n c m : Nat) : dOk g h0 (n + 1) 1 700 [1601] mJ7_copyOf_9075b (dCpo c m) := by
  refine doRI_ok ?_
  rintro _ _ σ ⟨rfl, rfl, hA, hN, hm, hc, hb, hA1⟩
  refine dCon.gt (by decide +kernel) (by simp [lg_sl, Value.category]) (fun z hz0 hkp hcl hz post hp hR => ?_)
  subst hz0
  simp only [DkF] at hkp
  have ne : ¬ nI c = nI m := fun z9 => by have := (nI_eq (by omega) (by omega)).mp z9; omega
  have ec : (nI c).toNatClampNeg = c := nI_clamp (by omega)
  have em : (nI m).toNatClampNeg = m := nI_clamp (by omega)
  have pc1 : ¬ nI c < 0 := nI_pos (by omega)
  have e1 : (if nI m ≤ nI c then nI m else nI c) = nI m := by rw [nI_min (by omega) (by omega), Nat.min_eq_left (by omega)]
  show DW g z mJ7_copyOf_9075b 0 [(0, .ref 1600), (1, .int (nI c))] [] σ 0 0
  refine dvk_ok (nC := n + 0) DJ7_copyOf_9075b hTyA hR (VC := []) (VD := []) (SD := [(304, 2, 0, n + 0, 0, 0, 0, [], dJ9_min_7cf53)]) (AL := [(15, 1601, 700)]) (fun _ h => absurd h List.not_mem_nil) (fun _ h => absurd h List.not_mem_nil) (List.forall_mem_cons.mpr ⟨⟨mJ9_min_7cf53, by decide, Or.inl hJ7_304, WJ9_min_7cf53, EJ9_min_7cf53 g _ n⟩, (fun _ h => absurd h List.not_mem_nil)⟩) [17] 40 _ _ _ _ _ _ ?_
  simp (maxSteps := 1000000) [↓Bool.cond_eq_ite, -Prod.forall, -Prod.exists, -Prod.mk.injEq, ↓jc_eq_t, ↓jc_eq_f, ↓jc_ne_t, ↓jc_ne_f, ↓jc_lt_t, ↓jc_lt_f, ↓jc_ge_t, ↓jc_ge_f, ↓jc_gt_t, ↓jc_gt_f, ↓jc_le_t, ↓jc_le_f, dvk, tJ7_copyOf_9075b, jtb, jol, dvl, dal, dst, jlk, jcmp, jbin, jfl, qJ7, jc2, qlJ7, jcat, jel, lv_args, Value.category, jins, jsrt, jins2, jble, jblt, jf3, List.filter_cons, List.filter_nil, Dlo, Dnr, DnL, Dfree, Droom, DuS_S, DuS_I, DuS_L, DuS_R, DuS_N, DuS_A, DuI_S, DuI_I, DuI_L, DuI_R, DuI_N, DuI_A, DuL_S, DuL_I, DuL_L, DuL_R, DuL_N, DuL_A, DuR_S, DuR_I, DuR_L, DuR_R, DuR_N, DuR_A, Dnw_S, Dnw_I, Dnw_L, Dnw_R, Dnw_N, Dnw_A, DrI_S, DrI_I, DrI_L, DrI_R, DrI_N, DrI_A, DrJ_S, DrJ_I, DrJ_L, DrJ_R, DrJ_N, DrJ_A, dm64, G_d, G_x0, dJ9_min_7cf53, doII, -Int32.not_le, -Int32.not_lt, -Int64.not_le, -Int64.not_lt, i3lt, i6lt, hA, hN, hA1, G_t, ne, ec, pc1, hc, hkp, hz]
  try simp (disch := omega) [-Prod.forall, -Prod.exists, -Prod.mk.injEq, -Int32.not_le, -Int32.not_lt, -Int64.not_le, -Int64.not_lt, i3lt, i6lt, hA, hN, hA1, G_t, ne, ec, pc1, hc, hkp, hz]
  refine dvk_ok (nC := n + 0) DJ7_copyOf_9075b hTyA hR (VC := []) (VD := []) (SD := [(304, 2, 0, n + 0, 0, 0, 0, [], dJ9_min_7cf53)]) (AL := []) (fun _ h => absurd h List.not_mem_nil) (fun _ h => absurd h List.not_mem_nil) (List.forall_mem_cons.mpr ⟨⟨mJ9_min_7cf53, by decide, Or.inl hJ7_304, WJ9_min_7cf53, EJ9_min_7cf53 g _ n⟩, (fun _ h => absurd h List.not_mem_nil)⟩) [28] 40 _ _ _ _ _ _ ?_
  simp (maxSteps := 1000000) [↓Bool.cond_eq_ite, -Prod.forall, -Prod.exists, -Prod.mk.injEq, ↓jc_eq_t, ↓jc_eq_f, ↓jc_ne_t, ↓jc_ne_f, ↓jc_lt_t, ↓jc_lt_f, ↓jc_ge_t, ↓jc_ge_f, ↓jc_gt_t, ↓jc_gt_f, ↓jc_le_t, ↓jc_le_f, dvk, tJ7_copyOf_9075b, jtb, jol, dvl, dal, dst, jlk, jcmp, jbin, jfl, qJ7, jc2, qlJ7, jcat, jel, lv_args, Value.category, jins, jsrt, jins2, jble, jblt, jf3, List.filter_cons, List.filter_nil, Dlo, Dnr, DnL, Dfree, Droom, DuS_S, DuS_I, DuS_L, DuS_R, DuS_N, DuS_A, DuI_S, DuI_I, DuI_L, DuI_R, DuI_N, DuI_A, DuL_S, DuL_I, DuL_L, DuL_R, DuL_N, DuL_A, DuR_S, DuR_I, DuR_L, DuR_R, DuR_N, DuR_A, Dnw_S, Dnw_I, Dnw_L, Dnw_R, Dnw_N, Dnw_A, DrI_S, DrI_I, DrI_L, DrI_R, DrI_N, DrI_A, DrJ_S, DrJ_I, DrJ_L, DrJ_R, DrJ_N, DrJ_A, dm64, G_d, G_x0, dJ9_min_7cf53, doII, -Int32.not_le, -Int32.not_lt, -Int64.not_le, -Int64.not_lt, i3lt, i6lt, hA, hN, G_t, e1, hz]
  try simp (disch := omega) [-Prod.forall, -Prod.exists, -Prod.mk.injEq, -Int32.not_le, -Int32.not_lt, -Int64.not_le, -Int64.not_lt, i3lt, i6lt, hA, hN, G_t, e1, hz]
  refine dr_copyB (by decide) (by rw [Dnw_A, if_neg (by decide)]; exact hA) (by decide) (by rw [Dnw_A, if_pos rfl]) (by decide) (by decide) (nI_pos (by omega)) ?_ ?_ (fun i _ => ?_) (by simp) ⟨by omega, by omega⟩ (show Cond.methodLink RJ7 150 arraycopyName ∈ jGw from jGw_of 813 (by decide +kernel) (by decide +kernel)) (by decide +kernel) ?_
  · rw [Dnw_N, if_neg (by decide), em, hN]
    show 0 + m ≤ m
    omega
  · rw [Dnw_N, if_pos rfl, em]
    show 0 + m ≤ c
    omega
  · rw [Dnw_I, if_neg (by decide)]
    exact hb _
  · have e9 : DrI (Dnw σ 1601 c) 1601 (va_cpy (DI (Dnw σ 1601 c) 1600) (DI (Dnw σ 1601 c) 1601) (0 : Int32).toNatClampNeg (0 : Int32).toNatClampNeg (nI m).toNatClampNeg) = DrI (Dnw σ 1601 c) 1601 (va_cpy (DI σ 1600) (fun _ => 0) 0 0 m) := by
      rw [em]
      rfl
    rw [e9]
    refine DW.cl (fun hcl9 => ?_)
    refine dvk_ok (nC := n + 0) DJ7_copyOf_9075b hTyA hR (VC := []) (VD := []) (SD := [(304, 2, 0, n + 0, 0, 0, 0, [], dJ9_min_7cf53)]) (AL := []) (fun _ h => absurd h List.not_mem_nil) (fun _ h => absurd h List.not_mem_nil) (List.forall_mem_cons.mpr ⟨⟨mJ9_min_7cf53, by decide, Or.inl hJ7_304, WJ9_min_7cf53, EJ9_min_7cf53 g _ n⟩, (fun _ h => absurd h List.not_mem_nil)⟩) [] 40 _ _ _ _ _ _ ?_
    simp (maxSteps := 1000000) [↓Bool.cond_eq_ite, -Prod.forall, -Prod.exists, -Prod.mk.injEq, ↓jc_eq_t, ↓jc_eq_f, ↓jc_ne_t, ↓jc_ne_f, ↓jc_lt_t, ↓jc_lt_f, ↓jc_ge_t, ↓jc_ge_f, ↓jc_gt_t, ↓jc_gt_f, ↓jc_le_t, ↓jc_le_f, dvk, tJ7_copyOf_9075b, jtb, jol, dvl, dal, dst, jlk, jcmp, jbin, jfl, qJ7, jc2, qlJ7, jcat, jel, lv_args, Value.category, jins, jsrt, jins2, jble, jblt, jf3, List.filter_cons, List.filter_nil, Dlo, Dnr, DnL, Dfree, Droom, DuS_S, DuS_I, DuS_L, DuS_R, DuS_N, DuS_A, DuI_S, DuI_I, DuI_L, DuI_R, DuI_N, DuI_A, DuL_S, DuL_I, DuL_L, DuL_R, DuL_N, DuL_A, DuR_S, DuR_I, DuR_L, DuR_R, DuR_N, DuR_A, Dnw_S, Dnw_I, Dnw_L, Dnw_R, Dnw_N, Dnw_A, DrI_S, DrI_I, DrI_L, DrI_R, DrI_N, DrI_A, DrJ_S, DrJ_I, DrJ_L, DrJ_R, DrJ_N, DrJ_A, dm64, G_d, G_x0, dJ9_min_7cf53, doII, -Int32.not_le, -Int32.not_lt, -Int64.not_le, -Int64.not_lt, i3lt, i6lt]
    try simp (disch := omega) [-Prod.forall, -Prod.exists, -Prod.mk.injEq, -Int32.not_le, -Int32.not_lt, -Int64.not_le, -Int64.not_lt, i3lt, i6lt]
    exact ⟨⟨by omega, by omega⟩, _, Dsub.rfl hcl9, hp _ _ ⟨rfl, rfl⟩⟩
end EJW
