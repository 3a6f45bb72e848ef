/-! the list of plans: get -/
set_option maxRecDepth 100000 in
set_option maxHeartbeats 4000000 in
theorem EJ3_checkIndex_8e157 (g : jG) (h0 n : Nat) : dOk g h0 (n + 0) 0 0 [] mJ3_checkIndex_8e157 dJ3_checkIndex_8e157 := by
  refine doIIN_ok ?_
  rintro i c σ hj
  obtain ⟨h0, h1⟩ := jin_i hj
  refine dCon.go (by decide +kernel) (by simp [lg_sl, Value.category]) (fun z hkp hcl hz post hp hR => ?_)
  simp only [DkF] at hkp
  refine dvk_ok (nC := n + 0) DJ3_checkIndex_8e157 hTyA hR (VC := []) (VD := []) (SD := []) (AL := []) (fun _ h => absurd h List.not_mem_nil) (fun _ h => absurd h List.not_mem_nil) (fun _ h => absurd h List.not_mem_nil) [] 10 _ _ _ _ _ _ ?_
  simp (maxSteps := 1000000) [↓Bool.cond_eq_ite, -Prod.forall, -Prod.exists, -Prod.mk.injEq, ↓jc_eq_t, ↓jc_eq_f, ↓jc_ne_t, ↓jc_ne_f, ↓jc_lt_t, ↓jc_lt_f, ↓jc_ge_t, ↓jc_ge_f, ↓jc_gt_t, ↓jc_gt_f, ↓jc_le_t, ↓jc_le_f, dvk, tJ3_checkIndex_8e157, jtb, jol, dvl, dal, dst, jlk, jcmp, jbin, jfl, qJ3, jc2, qlJ3, jcat, jel, lv_args, Value.category, jins, jsrt, jins2, jble, jblt, jf3, List.filter_cons, List.filter_nil, Dlo, Dnr, DnL, Dfree, Droom, DuS_S, DuS_I, DuS_L, DuS_R, DuS_N, DuS_A, DuI_S, DuI_I, DuI_L, DuI_R, DuI_N, DuI_A, DuL_S, DuL_I, DuL_L, DuL_R, DuL_N, DuL_A, DuR_S, DuR_I, DuR_L, DuR_R, DuR_N, DuR_A, Dnw_S, Dnw_I, Dnw_L, Dnw_R, Dnw_N, Dnw_A, DrI_S, DrI_I, DrI_L, DrI_R, DrI_N, DrI_A, DrJ_S, DrJ_I, DrJ_L, DrJ_R, DrJ_N, DrJ_A, dm64, G_d, G_x0, -Int32.not_le, -Int32.not_lt, -Int64.not_le, -Int64.not_lt, i3lt, i6lt, h0, h1, hkp, hz]
  try simp (disch := omega) [-Prod.forall, -Prod.exists, -Prod.mk.injEq, -Int32.not_le, -Int32.not_lt, -Int64.not_le, -Int64.not_lt, i3lt, i6lt, h0, h1, hkp, hz]
  exact ⟨⟨by omega, by omega⟩, σ, Dsub.rfl hcl, hp _ _ ⟨rfl, rfl⟩⟩
set_option maxRecDepth 100000 in
set_option maxHeartbeats 4000000 in
theorem EJ15_checkIndex_7cf53 (g : jG) (h0 n : Nat) : dOk g h0 (n + 1) 0 0 [] mJ15_checkIndex_7cf53 dJ15_checkIndex_7cf53 := by
  refine doII_ok ?_
  rintro i c σ hj
  refine dCon.go (by decide +kernel) (by simp [lg_sl, Value.category]) (fun z hkp hcl hz post hp hR => ?_)
  simp only [DkF] at hkp
  refine dvk_ok (nC := n + 0) DJ15_checkIndex_7cf53 hTyA hR (VC := []) (VD := []) (SD := [(105, 3, 0, n + 0, 0, 0, 0, [], dJ3_checkIndex_8e157)]) (AL := []) (fun _ h => absurd h List.not_mem_nil) (fun _ h => absurd h List.not_mem_nil) (List.forall_mem_cons.mpr ⟨⟨mJ3_checkIndex_8e157, by decide, Or.inl hJ15_105, WJ3_checkIndex_8e157, EJ3_checkIndex_8e157 g _ n⟩, (fun _ h => absurd h List.not_mem_nil)⟩) [] 10 _ _ _ _ _ _ ?_
  simp (maxSteps := 1000000) [↓Bool.cond_eq_ite, -Prod.forall, -Prod.exists, -Prod.mk.injEq, ↓jc_eq_t, ↓jc_eq_f, ↓jc_ne_t, ↓jc_ne_f, ↓jc_lt_t, ↓jc_lt_f, ↓jc_ge_t, ↓jc_ge_f, ↓jc_gt_t, ↓jc_gt_f, ↓jc_le_t, ↓jc_le_f, dvk, tJ15_checkIndex_7cf53, jtb, jol, dvl, dal, dst, jlk, jcmp, jbin, jfl, qJ15, jc2, qlJ15, jcat, jel, lv_args, Value.category, jins, jsrt, jins2, jble, jblt, jf3, List.filter_cons, List.filter_nil, Dlo, Dnr, DnL, Dfree, Droom, DuS_S, DuS_I, DuS_L, DuS_R, DuS_N, DuS_A, DuI_S, DuI_I, DuI_L, DuI_R, DuI_N, DuI_A, DuL_S, DuL_I, DuL_L, DuL_R, DuL_N, DuL_A, DuR_S, DuR_I, DuR_L, DuR_R, DuR_N, DuR_A, Dnw_S, Dnw_I, Dnw_L, Dnw_R, Dnw_N, Dnw_A, DrI_S, DrI_I, DrI_L, DrI_R, DrI_N, DrI_A, DrJ_S, DrJ_I, DrJ_L, DrJ_R, DrJ_N, DrJ_A, dm64, G_d, G_x0, dJ3_checkIndex_8e157, doIIN, -Int32.not_le, -Int32.not_lt, -Int64.not_le, -Int64.not_lt, i3lt, i6lt, hj, hkp, hz]
  try simp (disch := omega) [-Prod.forall, -Prod.exists, -Prod.mk.injEq, -Int32.not_le, -Int32.not_lt, -Int64.not_le, -Int64.not_lt, i3lt, i6lt, hj, hkp, hz]
  exact ⟨⟨by omega, by omega⟩, σ, Dsub.rfl hcl, hp _ _ ⟨rfl, rfl⟩⟩
/-- a list of c entries, k one of them -/
def prAl (σ : dM) (i : Int32) : Prop := ∃ k c y, i = nI k ∧ k < c ∧ c ≤ 10 ∧ DA σ 1900 = true ∧ DI σ 1900 2 = nI c ∧ DR σ 1900 1 = some 2000 ∧ DA σ 2000 = true ∧ DN σ 2000 = 10 ∧ DR σ 2000 k = some y
def dJx4a65c_elementData_915e3 : dO := doRI fun a i σ => (a = 1900 ∧ prAl σ i, fun v τ => (∃ y, DR σ 2000 i.toNatClampNeg = some y ∧ v = some (.ref y)) ∧ τ = σ)
def dJx4a65c_get_915e3 : dO := doRI fun a i σ => (a = 1900 ∧ prAl σ i, fun v τ => (∃ y, DR σ 2000 i.toNatClampNeg = some y ∧ v = some (.ref y)) ∧ τ = σ)
set_option maxRecDepth 100000 in
set_option maxHeartbeats 4000000 in
theorem EJx4a65c_elementData_915e3 (g : jG) (h0 n : Nat) : dOk g h0 (n + 0) 0 0 [] mJx4a65c_elementData_915e3 dJx4a65c_elementData_915e3 := by
  refine doRI_ok ?_
  rintro _ i σ ⟨rfl, k, c, y, rfl, hk, hc, h1, h2, h3, h4, h5, h6⟩
  have ek : (nI k).toNatClampNeg = k := nI_clamp (by omega)
  have jk : jin (nI k) 10 := jinN (by omega) (by omega)
  refine dCon.go (by decide +kernel) (by simp [lg_sl, Value.category]) (fun z hkp hcl hz post hp hR => ?_)
  simp only [DkF] at hkp
  refine dvk_ok (nC := n + 0) DJx4a65c_elementData_915e3 hTyA hR (VC := []) (VD := []) (SD := []) (AL := []) (fun _ h => absurd h List.not_mem_nil) (fun _ h => absurd h List.not_mem_nil) (fun _ h => absurd h List.not_mem_nil) [] 10 _ _ _ _ _ _ ?_
  simp (maxSteps := 1000000) [↓Bool.cond_eq_ite, -Prod.forall, -Prod.exists, -Prod.mk.injEq, ↓jc_eq_t, ↓jc_eq_f, ↓jc_ne_t, ↓jc_ne_f, ↓jc_lt_t, ↓jc_lt_f, ↓jc_ge_t, ↓jc_ge_f, ↓jc_gt_t, ↓jc_gt_f, ↓jc_le_t, ↓jc_le_f, dvk, tJx4a65c_elementData_915e3, jtb, jol, dvl, dal, dst, jlk, jcmp, jbin, jfl, qJx4a65c, jc2, qlJx4a65c, jcat, jel, lv_args, Value.category, jins, jsrt, jins2, jble, jblt, jf3, List.filter_cons, List.filter_nil, Dlo, Dnr, DnL, Dfree, Droom, DuS_S, DuS_I, DuS_L, DuS_R, DuS_N, DuS_A, DuI_S, DuI_I, DuI_L, DuI_R, DuI_N, DuI_A, DuL_S, DuL_I, DuL_L, DuL_R, DuL_N, DuL_A, DuR_S, DuR_I, DuR_L, DuR_R, DuR_N, DuR_A, Dnw_S, Dnw_I, Dnw_L, Dnw_R, Dnw_N, Dnw_A, DrI_S, DrI_I, DrI_L, DrI_R, DrI_N, DrI_A, DrJ_S, DrJ_I, DrJ_L, DrJ_R, DrJ_N, DrJ_A, dm64, G_d, G_x0, -Int32.not_le, -Int32.not_lt, -Int64.not_le, -Int64.not_lt, i3lt, i6lt, h1, h3, h4, h5, h6, jk, ek, G_al, hkp, hz]
  try simp (disch := omega) [-Prod.forall, -Prod.exists, -Prod.mk.injEq, -Int32.not_le, -Int32.not_lt, -Int64.not_le, -Int64.not_lt, i3lt, i6lt, h1, h3, h4, h5, h6, jk, ek, G_al, hkp, hz]
  exact ⟨⟨by omega, by omega⟩, σ, Dsub.rfl hcl, hp _ _ ⟨⟨y, by rw [ek]; exact h6, rfl⟩, rfl⟩⟩
set_option maxRecDepth 100000 in
set_option maxHeartbeats 4000000 in
theorem EJx4a65c_get_915e3 (g : jG) (h0 n : Nat) : dOk g h0 (n + 2) 0 0 [] mJx4a65c_get_915e3 dJx4a65c_get_915e3 := by
  refine doRI_ok ?_
  rintro _ i σ ⟨rfl, hpr⟩
  obtain ⟨k, c, y, rfl, hk, hc, h1, h2, h3, h4, h5, h6⟩ := id hpr
  have ek : (nI k).toNatClampNeg = k := nI_clamp (by omega)
  have jc : jin (nI k) (nI c).toNatClampNeg := by rw [nI_clamp (by omega)]; exact jinN (by omega) (by omega)
  refine dCon.go (by decide +kernel) (by simp [lg_sl, Value.category]) (fun z hkp hcl hz post hp hR => ?_)
  simp only [DkF] at hkp
  refine dvk_ok (nC := n + 1) DJx4a65c_get_915e3 hTyA hR (VC := []) (VD := [(123, 2, 15, n + 0, 0, 0, 0, [], dJx4a65c_elementData_915e3)]) (SD := [(118, 2, 0, n + 1, 0, 0, 0, [], dJ15_checkIndex_7cf53)]) (AL := []) (fun _ h => absurd h List.not_mem_nil) (List.forall_mem_cons.mpr ⟨⟨mJx4a65c_elementData_915e3, 1, TJx4a65c, 3, rfl, by decide, hJx4a65c_123, WJx4a65c_elementData_915e3, rfl, EJx4a65c_elementData_915e3 g _ n⟩, (fun _ h => absurd h List.not_mem_nil)⟩) (List.forall_mem_cons.mpr ⟨⟨mJ15_checkIndex_7cf53, by decide, Or.inl hJx4a65c_118, WJ15_checkIndex_7cf53, EJ15_checkIndex_7cf53 g _ n⟩, (fun _ h => absurd h List.not_mem_nil)⟩) [] 10 _ _ _ _ _ _ ?_
  simp (maxSteps := 1000000) [↓Bool.cond_eq_ite, -Prod.forall, -Prod.exists, -Prod.mk.injEq, ↓jc_eq_t, ↓jc_eq_f, ↓jc_ne_t, ↓jc_ne_f, ↓jc_lt_t, ↓jc_lt_f, ↓jc_ge_t, ↓jc_ge_f, ↓jc_gt_t, ↓jc_gt_f, ↓jc_le_t, ↓jc_le_f, dvk, tJx4a65c_get_915e3, jtb, jol, dvl, dal, dst, jlk, jcmp, jbin, jfl, qJx4a65c, jc2, qlJx4a65c, jcat, jel, lv_args, Value.category, jins, jsrt, jins2, jble, jblt, jf3, List.filter_cons, List.filter_nil, Dlo, Dnr, DnL, Dfree, Droom, DuS_S, DuS_I, DuS_L, DuS_R, DuS_N, DuS_A, DuI_S, DuI_I, DuI_L, DuI_R, DuI_N, DuI_A, DuL_S, DuL_I, DuL_L, DuL_R, DuL_N, DuL_A, DuR_S, DuR_I, DuR_L, DuR_R, DuR_N, DuR_A, Dnw_S, Dnw_I, Dnw_L, Dnw_R, Dnw_N, Dnw_A, DrI_S, DrI_I, DrI_L, DrI_R, DrI_N, DrI_A, DrJ_S, DrJ_I, DrJ_L, DrJ_R, DrJ_N, DrJ_A, dm64, G_d, G_x0, dJ15_checkIndex_7cf53, dJx4a65c_elementData_915e3, doII, doRI, -Int32.not_le, -Int32.not_lt, -Int64.not_le, -Int64.not_lt, i3lt, i6lt, h1, h2, jc, hpr, G_al, hkp, hz]
  try simp (disch := omega) [-Prod.forall, -Prod.exists, -Prod.mk.injEq, -Int32.not_le, -Int32.not_lt, -Int64.not_le, -Int64.not_lt, i3lt, i6lt, h1, h2, jc, hpr, G_al, hkp, hz]
  rintro _ _ y9 hy rfl rfl
  rw [ek] at hy
  have e9 := h6.symm.trans hy
  cases e9
  exact ⟨⟨by omega, by omega⟩, _, Dsub.rfl hcl, hp _ _ ⟨⟨y, by rw [ek]; exact h6, rfl⟩, rfl⟩⟩
