/-! the list of plans: remove -/
/-- a list of at most two rows of ints -/
def prRm (σ : dM) (i : Int32) : Prop := ∃ k c, i = nI k ∧ k < c ∧ c ≤ 2 ∧ DA σ 1900 = true ∧ DI σ 1900 2 = nI c ∧ DR σ 1900 1 = some 2000 ∧ DA σ 2000 = true ∧ DN σ 2000 = 10 ∧ ∀ j, j < c → ∃ y, DR σ 2000 j = some y ∧ darr y 1 0 = true ∧ DA σ y = true
/-- the place i taken out of the list -/
def rmA (σ τ : dM) (i : Int32) : Prop := (Dcl0 σ → Dcl0 τ) ∧ (∀ x j k, DR τ x j = some k → ∃ j2, DR σ x j2 = some k) ∧ DS τ = DS σ ∧ DL τ = DL σ ∧ DN τ = DN σ ∧ DA τ = DA σ ∧ (∀ a j, a ≠ 1900 → DI τ a j = DI σ a j) ∧ DI τ 1900 2 = DI σ 1900 2 - 1 ∧ (∀ a j, a ≠ 2000 → DR τ a j = DR σ a j) ∧ ∀ j, j + 1 < (DI σ 1900 2).toNatClampNeg → DR τ 2000 j = DR σ 2000 (if j < i.toNatClampNeg then j else j + 1)
def dJx4a65c_fastRemove_b59b0 : dO := doRRI fun a b i σ => (a = 1900 ∧ b = 2000 ∧ prRm σ i, fun v τ => v = none ∧ rmA σ τ i)
def dJx4a65c_remove_915e3 : dO := doRI fun a i σ => (a = 1900 ∧ prRm σ i, fun v τ => (∃ y, DR σ 2000 i.toNatClampNeg = some y ∧ v = some (.ref y)) ∧ rmA σ τ i)
theorem prRm_al {σ : dM} {i : Int32} (h : prRm σ i) : prAl σ i := by
  obtain ⟨k, c, e, hk, hc, h1, h2, h3, h4, h5, h6⟩ := h
  obtain ⟨y, y1, -⟩ := h6 k hk
  exact ⟨k, c, y, e, hk, by omega, h1, h2, h3, h4, h5, y1⟩
set_option maxRecDepth 100000 in
set_option maxHeartbeats 4000000 in
theorem EJxf_t {g : jG} {z : dZ} {R : Option Value → dM → Nat → Nat → Prop} (hR : dRok g z mJx4a65c_fastRemove_b59b0 R) {ε : dM} {i : Int32} {c : Nat} (hc : c < 2) (h1 : DA ε 1900 = true) (h4 : DA ε 2000 = true) (h5 : DN ε 2000 = 10)
    (k : R none (DuR (DuI ε 1900 2 (nI c)) 2000 c none) 0 0) : DW g z mJx4a65c_fastRemove_b59b0 34 [(0, .ref 1900), (1, .ref 2000), (2, .int i), (3, .int (nI c))] [] ε 0 0 := by
  have n := 0
  have jc : jin (nI c) 10 := jinN (by omega) (by omega)
  have ec : (nI c).toNatClampNeg = c := nI_clamp (by omega)
  refine dvk_ok (nC := n + 0) DJx4a65c_fastRemove_b59b0 hTyA hR (VC := []) (VD := []) (SD := []) (AL := []) (fun _ h => absurd h List.not_mem_nil) (fun _ h => absurd h List.not_mem_nil) (fun _ h => absurd h List.not_mem_nil) [37] 10 _ _ _ _ _ _ ?_
  simp (maxSteps := 1000000) [↓Bool.cond_eq_ite, -Prod.forall, -Prod.exists, -Prod.mk.injEq, ↓jc_eq_t, ↓jc_eq_f, ↓jc_ne_t, ↓jc_ne_f, ↓jc_lt_t, ↓jc_lt_f, ↓jc_ge_t, ↓jc_ge_f, ↓jc_gt_t, ↓jc_gt_f, ↓jc_le_t, ↓jc_le_f, dvk, tJx4a65c_fastRemove_b59b0, jtb, jol, dvl, dal, dst, jlk, jcmp, jbin, jfl, qJx4a65c, jc2, qlJx4a65c, jcat, jel, lv_args, Value.category, jins, jsrt, jins2, jble, jblt, jf3, List.filter_cons, List.filter_nil, Dlo, Dnr, DnL, Dfree, Droom, DuS_S, DuS_I, DuS_L, DuS_R, DuS_N, DuS_A, DuI_S, DuI_I, DuI_L, DuI_R, DuI_N, DuI_A, DuL_S, DuL_I, DuL_L, DuL_R, DuL_N, DuL_A, DuR_S, DuR_I, DuR_L, DuR_R, DuR_N, DuR_A, Dnw_S, Dnw_I, Dnw_L, Dnw_R, Dnw_N, Dnw_A, DrI_S, DrI_I, DrI_L, DrI_R, DrI_N, DrI_A, DrJ_S, DrJ_I, DrJ_L, DrJ_R, DrJ_N, DrJ_A, dm64, G_d, G_x0, -Int32.not_le, -Int32.not_lt, -Int64.not_le, -Int64.not_lt, i3lt, i6lt, h1, G_al]
  try simp (disch := omega) [-Prod.forall, -Prod.exists, -Prod.mk.injEq, -Int32.not_le, -Int32.not_lt, -Int64.not_le, -Int64.not_lt, i3lt, i6lt, h1, G_al]
  refine dr_dupx1 rfl rfl (by decide +kernel) ?_
  refine dvk_ok (nC := n + 0) DJx4a65c_fastRemove_b59b0 hTyA hR (VC := []) (VD := []) (SD := []) (AL := []) (fun _ h => absurd h List.not_mem_nil) (fun _ h => absurd h List.not_mem_nil) (fun _ h => absurd h List.not_mem_nil) [42] 10 _ _ _ _ _ _ ?_
  simp (maxSteps := 1000000) [↓Bool.cond_eq_ite, -Prod.forall, -Prod.exists, -Prod.mk.injEq, ↓jc_eq_t, ↓jc_eq_f, ↓jc_ne_t, ↓jc_ne_f, ↓jc_lt_t, ↓jc_lt_f, ↓jc_ge_t, ↓jc_ge_f, ↓jc_gt_t, ↓jc_gt_f, ↓jc_le_t, ↓jc_le_f, dvk, tJx4a65c_fastRemove_b59b0, jtb, jol, dvl, dal, dst, jlk, jcmp, jbin, jfl, qJx4a65c, jc2, qlJx4a65c, jcat, jel, lv_args, Value.category, jins, jsrt, jins2, jble, jblt, jf3, List.filter_cons, List.filter_nil, Dlo, Dnr, DnL, Dfree, Droom, DuS_S, DuS_I, DuS_L, DuS_R, DuS_N, DuS_A, DuI_S, DuI_I, DuI_L, DuI_R, DuI_N, DuI_A, DuL_S, DuL_I, DuL_L, DuL_R, DuL_N, DuL_A, DuR_S, DuR_I, DuR_L, DuR_R, DuR_N, DuR_A, Dnw_S, Dnw_I, Dnw_L, Dnw_R, Dnw_N, Dnw_A, DrI_S, DrI_I, DrI_L, DrI_R, DrI_N, DrI_A, DrJ_S, DrJ_I, DrJ_L, DrJ_R, DrJ_N, DrJ_A, dm64, G_d, G_x0, -Int32.not_le, -Int32.not_lt, -Int64.not_le, -Int64.not_lt, i3lt, i6lt, h1, G_al]
  try simp (disch := omega) [-Prod.forall, -Prod.exists, -Prod.mk.injEq, -Int32.not_le, -Int32.not_lt, -Int64.not_le, -Int64.not_lt, i3lt, i6lt, h1, G_al]
  refine dr_aastN G_al.2.2.2.2 (by rw [DuI_A]; exact h4) (by rw [DuI_N, h5]; exact jc) (by decide +kernel) ?_
  rw [ec]
  refine dvk_ok (nC := n + 0) DJx4a65c_fastRemove_b59b0 hTyA hR (VC := []) (VD := []) (SD := []) (AL := []) (fun _ h => absurd h List.not_mem_nil) (fun _ h => absurd h List.not_mem_nil) (fun _ h => absurd h List.not_mem_nil) [] 10 _ _ _ _ _ _ ?_
  simp (maxSteps := 1000000) [↓Bool.cond_eq_ite, -Prod.forall, -Prod.exists, -Prod.mk.injEq, ↓jc_eq_t, ↓jc_eq_f, ↓jc_ne_t, ↓jc_ne_f, ↓jc_lt_t, ↓jc_lt_f, ↓jc_ge_t, ↓jc_ge_f, ↓jc_gt_t, ↓jc_gt_f, ↓jc_le_t, ↓jc_le_f, dvk, tJx4a65c_fastRemove_b59b0, jtb, jol, dvl, dal, dst, jlk, jcmp, jbin, jfl, qJx4a65c, jc2, qlJx4a65c, jcat, jel, lv_args, Value.category, jins, jsrt, jins2, jble, jblt, jf3, List.filter_cons, List.filter_nil, Dlo, Dnr, DnL, Dfree, Droom, DuS_S, DuS_I, DuS_L, DuS_R, DuS_N, DuS_A, DuI_S, DuI_I, DuI_L, DuI_R, DuI_N, DuI_A, DuL_S, DuL_I, DuL_L, DuL_R, DuL_N, DuL_A, DuR_S, DuR_I, DuR_L, DuR_R, DuR_N, DuR_A, Dnw_S, Dnw_I, Dnw_L, Dnw_R, Dnw_N, Dnw_A, DrI_S, DrI_I, DrI_L, DrI_R, DrI_N, DrI_A, DrJ_S, DrJ_I, DrJ_L, DrJ_R, DrJ_N, DrJ_A, dm64, G_d, G_x0, -Int32.not_le, -Int32.not_lt, -Int64.not_le, -Int64.not_lt, i3lt, i6lt, h1, G_al]
  try simp (disch := omega) [-Prod.forall, -Prod.exists, -Prod.mk.injEq, -Int32.not_le, -Int32.not_lt, -Int64.not_le, -Int64.not_lt, i3lt, i6lt, h1, G_al]
  exact k
set_option maxRecDepth 100000 in
set_option maxHeartbeats 4000000 in
theorem EJx4a65c_fastRemove_b59b0 (g : jG) (h0 n : Nat) (hE : dEs g) : dOk g h0 (n + 1) 0 0 [] mJx4a65c_fastRemove_b59b0 dJx4a65c_fastRemove_b59b0 := by
  refine doRRI_ok ?_
  rintro _ _ i σ ⟨rfl, rfl, k, c, rfl, hk, hc, h1, h2, h3, h4, h5, h6⟩
  have ek : (nI k).toNatClampNeg = k := nI_clamp (by omega)
  have hcs : (c = 1 ∧ k = 0) ∨ (c = 2 ∧ k = 1) ∨ (c = 2 ∧ k = 0) := by omega
  have hrm : ∀ ε, Dcl0 σ → (∀ j, j + 1 < c → DR ε 2000 j = DR σ 2000 (if j < k then j else j + 1)) → (DS ε = DS σ ∧ DL ε = DL σ ∧ DN ε = DN σ ∧ DA ε = DA σ ∧ (∀ a j, a ≠ 1900 → DI ε a j = DI σ a j) ∧ (∀ a j, a ≠ 2000 → DR ε a j = DR σ a j) ∧ ∀ x j k, DR ε x j = some k → ∃ j2, DR σ x j2 = some k) → Dcl0 (DuR (DuI ε 1900 2 (nI (c - 1))) 2000 (c - 1) none) ∧ rmA σ (DuR (DuI ε 1900 2 (nI (c - 1))) 2000 (c - 1) none) (nI k) := fun ε hcl he ⟨q1, q2, q3, q4, q5, q6, q7⟩ => by
    have dR : ∀ x j2 k2, DR (DuR (DuI ε 1900 2 (nI (c - 1))) 2000 (c - 1) none) x j2 = some k2 → ∃ j3, DR σ x j3 = some k2 := fun x j2 k2 e => by
      rw [DuR_R] at e
      split at e
      · cases e
      · exact q7 x j2 k2 e
    have d0 : Dcl0 (DuR (DuI ε 1900 2 (nI (c - 1))) 2000 (c - 1) none) := Dcl_R9 (σ := σ) _ (fun a => by
      unfold Dal
      rw [DuR_A, DuI_A, q4]) hcl dR
    refine ⟨d0, fun _ => d0, dR, q1, q2, q3, q4, fun a j ha => ?_, ?_, fun a j ha => ?_, fun j hj => ?_⟩
    · rw [DuR_I, DuI_I, if_neg (fun z => ha z.1)]
      exact q5 a j ha
    · rw [DuR_I, DuI_I, if_pos ⟨rfl, rfl⟩, h2]
      rcases hcs with ⟨rfl, -⟩ | ⟨rfl, -⟩ | ⟨rfl, -⟩ <;> decide
    · rw [DuR_R, if_neg (fun z => ha z.1)]
      exact q6 a j ha
    · rw [h2, nI_clamp (by omega)] at hj
      rw [DuR_R, if_neg (by omega), ek]
      exact he j hj
  rcases hcs with ⟨rfl, rfl⟩ | ⟨rfl, rfl⟩ | ⟨rfl, rfl⟩
  · have e0 : nI 1 - 1 = nI 0 := by decide
    have l0 : nI 0 ≤ nI 0 := by decide
    refine dCon.go (by decide +kernel) (by simp [lg_sl, Value.category]) (fun z hkp hcl hz post hp hR => ?_)
    obtain ⟨d1, d2⟩ := hrm (DuI σ 1900 0 (DI σ 1900 0 + 1)) hcl (fun j hj => by omega) ⟨rfl, rfl, rfl, rfl, fun a j ha => by rw [DuI_I, if_neg (fun z => ha z.1)], fun a j ha => rfl, fun x j k e => ⟨j, e⟩⟩
    have hfin : dRp 0 0 post none (DuR (DuI (DuI σ 1900 0 (DI σ 1900 0 + 1)) 1900 2 (nI 0)) 2000 0 none) 0 0 := ⟨⟨by omega, by omega⟩, _, Dsub.rfl d1, hp _ _ ⟨rfl, d2⟩⟩
    have j := EJxf_t (i := nI 0) hR (c := 0) (ε := DuI σ 1900 0 (DI σ 1900 0 + 1)) (by omega) h1 h4 h5 hfin
    refine dvk_ok (nC := n + 0) DJx4a65c_fastRemove_b59b0 hTyA hR (VC := []) (VD := []) (SD := []) (AL := []) (fun _ h => absurd h List.not_mem_nil) (fun _ h => absurd h List.not_mem_nil) (fun _ h => absurd h List.not_mem_nil) [34] 30 _ _ _ _ _ _ ?_
    simp (maxSteps := 1000000) [↓Bool.cond_eq_ite, -Prod.forall, -Prod.exists, -Prod.mk.injEq, ↓jc_eq_t, ↓jc_eq_f, ↓jc_ne_t, ↓jc_ne_f, ↓jc_lt_t, ↓jc_lt_f, ↓jc_ge_t, ↓jc_ge_f, ↓jc_gt_t, ↓jc_gt_f, ↓jc_le_t, ↓jc_le_f, dvk, tJx4a65c_fastRemove_b59b0, jtb, jol, dvl, dal, dst, jlk, jcmp, jbin, jfl, qJx4a65c, jc2, qlJx4a65c, jcat, jel, lv_args, Value.category, jins, jsrt, jins2, jble, jblt, jf3, List.filter_cons, List.filter_nil, Dlo, Dnr, DnL, Dfree, Droom, DuS_S, DuS_I, DuS_L, DuS_R, DuS_N, DuS_A, DuI_S, DuI_I, DuI_L, DuI_R, DuI_N, DuI_A, DuL_S, DuL_I, DuL_L, DuL_R, DuL_N, DuL_A, DuR_S, DuR_I, DuR_L, DuR_R, DuR_N, DuR_A, Dnw_S, Dnw_I, Dnw_L, Dnw_R, Dnw_N, Dnw_A, DrI_S, DrI_I, DrI_L, DrI_R, DrI_N, DrI_A, DrJ_S, DrJ_I, DrJ_L, DrJ_R, DrJ_N, DrJ_A, dm64, G_d, G_x0, -Int32.not_le, -Int32.not_lt, -Int64.not_le, -Int64.not_lt, i3lt, i6lt, h1, h2, e0, l0, G_al]
    try simp (disch := omega) [-Prod.forall, -Prod.exists, -Prod.mk.injEq, -Int32.not_le, -Int32.not_lt, -Int64.not_le, -Int64.not_lt, i3lt, i6lt, h1, h2, e0, l0, G_al]
    exact DW.mono j (by simp)
  · have e0 : nI 2 - 1 = nI 1 := by decide
    have l0 : nI 1 ≤ nI 1 := by decide
    refine dCon.go (by decide +kernel) (by simp [lg_sl, Value.category]) (fun z hkp hcl hz post hp hR => ?_)
    obtain ⟨d1, d2⟩ := hrm (DuI σ 1900 0 (DI σ 1900 0 + 1)) hcl (fun j hj => by rw [if_pos (by omega)]; rfl) ⟨rfl, rfl, rfl, rfl, fun a j ha => by rw [DuI_I, if_neg (fun z => ha z.1)], fun a j ha => rfl, fun x j k e => ⟨j, e⟩⟩
    have hfin : dRp 0 0 post none (DuR (DuI (DuI σ 1900 0 (DI σ 1900 0 + 1)) 1900 2 (nI 1)) 2000 1 none) 0 0 := ⟨⟨by omega, by omega⟩, _, Dsub.rfl d1, hp _ _ ⟨rfl, d2⟩⟩
    have j := EJxf_t (i := nI 1) hR (c := 1) (ε := DuI σ 1900 0 (DI σ 1900 0 + 1)) (by omega) h1 h4 h5 hfin
    refine dvk_ok (nC := n + 0) DJx4a65c_fastRemove_b59b0 hTyA hR (VC := []) (VD := []) (SD := []) (AL := []) (fun _ h => absurd h List.not_mem_nil) (fun _ h => absurd h List.not_mem_nil) (fun _ h => absurd h List.not_mem_nil) [34] 30 _ _ _ _ _ _ ?_
    simp (maxSteps := 1000000) [↓Bool.cond_eq_ite, -Prod.forall, -Prod.exists, -Prod.mk.injEq, ↓jc_eq_t, ↓jc_eq_f, ↓jc_ne_t, ↓jc_ne_f, ↓jc_lt_t, ↓jc_lt_f, ↓jc_ge_t, ↓jc_ge_f, ↓jc_gt_t, ↓jc_gt_f, ↓jc_le_t, ↓jc_le_f, dvk, tJx4a65c_fastRemove_b59b0, jtb, jol, dvl, dal, dst, jlk, jcmp, jbin, jfl, qJx4a65c, jc2, qlJx4a65c, jcat, jel, lv_args, Value.category, jins, jsrt, jins2, jble, jblt, jf3, List.filter_cons, List.filter_nil, Dlo, Dnr, DnL, Dfree, Droom, DuS_S, DuS_I, DuS_L, DuS_R, DuS_N, DuS_A, DuI_S, DuI_I, DuI_L, DuI_R, DuI_N, DuI_A, DuL_S, DuL_I, DuL_L, DuL_R, DuL_N, DuL_A, DuR_S, DuR_I, DuR_L, DuR_R, DuR_N, DuR_A, Dnw_S, Dnw_I, Dnw_L, Dnw_R, Dnw_N, Dnw_A, DrI_S, DrI_I, DrI_L, DrI_R, DrI_N, DrI_A, DrJ_S, DrJ_I, DrJ_L, DrJ_R, DrJ_N, DrJ_A, dm64, G_d, G_x0, -Int32.not_le, -Int32.not_lt, -Int64.not_le, -Int64.not_lt, i3lt, i6lt, h1, h2, e0, l0, G_al]
    try simp (disch := omega) [-Prod.forall, -Prod.exists, -Prod.mk.injEq, -Int32.not_le, -Int32.not_lt, -Int64.not_le, -Int64.not_lt, i3lt, i6lt, h1, h2, e0, l0, G_al]
    exact DW.mono j (by simp)
  · have e0 : nI 2 - 1 = nI 1 := by decide
    have e3 : nI 1 - nI 0 = nI 1 := by decide
    have e4 : nI 0 + 1 = nI 1 := by decide
    have l0 : ¬ nI 1 ≤ nI 0 := by decide
    refine dCon.go (by decide +kernel) (by simp [lg_sl, Value.category]) (fun z hkp hcl hz post hp hR => ?_)
    obtain ⟨d1, d2⟩ := hrm (Dcp (DuI σ 1900 0 (DI σ 1900 0 + 1)) 2000 1 0 1) hcl (fun j hj => by
      rw [if_neg (by omega), Dcp_R, if_pos (by omega), DuI_R, show 1 + (j - 0) = j + 1 by omega]) ⟨rfl, rfl, rfl, rfl, fun a j ha => by
      show DI (DuI σ 1900 0 _) a j = _
      rw [DuI_I, if_neg (fun z => ha z.1)], fun a j ha => by rw [Dcp_R, if_neg (fun z => ha z.1)]; rfl, fun x j k e => by
      rw [Dcp_R] at e
      split at e
      · rename_i c9
        rw [c9.1]
        exact ⟨_, e⟩
      · exact ⟨j, e⟩⟩
    have hfin : dRp 0 0 post none (DuR (DuI (Dcp (DuI σ 1900 0 (DI σ 1900 0 + 1)) 2000 1 0 1) 1900 2 (nI 1)) 2000 1 none) 0 0 := ⟨⟨by omega, by omega⟩, _, Dsub.rfl d1, hp _ _ ⟨rfl, d2⟩⟩
    have j := EJxf_t (i := nI 0) hR (c := 1) (ε := Dcp (DuI σ 1900 0 (DI σ 1900 0 + 1)) 2000 1 0 1) (by omega) h1 h4 h5 hfin
    refine dvk_ok (nC := n + 0) DJx4a65c_fastRemove_b59b0 hTyA hR (VC := []) (VD := []) (SD := []) (AL := []) (fun _ h => absurd h List.not_mem_nil) (fun _ h => absurd h List.not_mem_nil) (fun _ h => absurd h List.not_mem_nil) [31] 40 _ _ _ _ _ _ ?_
    simp (maxSteps := 1000000) [↓Bool.cond_eq_ite, -Prod.forall, -Prod.exists, -Prod.mk.injEq, ↓jc_eq_t, ↓jc_eq_f, ↓jc_ne_t, ↓jc_ne_f, ↓jc_lt_t, ↓jc_lt_f, ↓jc_ge_t, ↓jc_ge_f, ↓jc_gt_t, ↓jc_gt_f, ↓jc_le_t, ↓jc_le_f, dvk, tJx4a65c_fastRemove_b59b0, jtb, jol, dvl, dal, dst, jlk, jcmp, jbin, jfl, qJx4a65c, jc2, qlJx4a65c, jcat, jel, lv_args, Value.category, jins, jsrt, jins2, jble, jblt, jf3, List.filter_cons, List.filter_nil, Dlo, Dnr, DnL, Dfree, Droom, DuS_S, DuS_I, DuS_L, DuS_R, DuS_N, DuS_A, DuI_S, DuI_I, DuI_L, DuI_R, DuI_N, DuI_A, DuL_S, DuL_I, DuL_L, DuL_R, DuL_N, DuL_A, DuR_S, DuR_I, DuR_L, DuR_R, DuR_N, DuR_A, Dnw_S, Dnw_I, Dnw_L, Dnw_R, Dnw_N, Dnw_A, DrI_S, DrI_I, DrI_L, DrI_R, DrI_N, DrI_A, DrJ_S, DrJ_I, DrJ_L, DrJ_R, DrJ_N, DrJ_A, dm64, G_d, G_x0, -Int32.not_le, -Int32.not_lt, -Int64.not_le, -Int64.not_lt, i3lt, i6lt, h1, h2, e0, e3, e4, l0, G_al]
    try simp (disch := omega) [-Prod.forall, -Prod.exists, -Prod.mk.injEq, -Int32.not_le, -Int32.not_lt, -Int64.not_le, -Int64.not_lt, i3lt, i6lt, h1, h2, e0, e3, e4, l0, G_al]
    have hf9 : 1 ≤ z.1.frames ∧ 26 ≤ z.1.locals := ⟨by omega, by omega⟩
    refine dr_copyq (idx := 112) (sp := nI 1) (dp := nI 0) (m9 := nI 1) G_al.2.2.2.2 h4 (by decide) (by decide) (by decide) (by rw [DuI_N, h5]; decide) (by rw [DuI_N, h5]; decide) (fun i9 hi9 y hy => ?_) (by decide) hf9 hE.2.2.2.2.1 (jGw_of 1651 (by decide +kernel) (by decide +kernel)) (by decide +kernel) ?_
    · have e9 : (nI 1).toNatClampNeg = 1 := by decide
      rw [e9] at hi9 hy
      rw [show 1 + i9 = 1 by omega, DuI_R] at hy
      obtain ⟨y9, y1, y2, y3⟩ := h6 1 (by omega)
      cases y1.symm.trans hy
      exact ⟨y2, y3⟩
    · exact DW.mono j (by simp)
set_option maxRecDepth 100000 in
set_option maxHeartbeats 4000000 in
theorem EJx4a65c_remove_915e3 (g : jG) (h0 n : Nat) (hE : dEs g) : dOk g h0 (n + 2) 0 0 [] mJx4a65c_remove_915e3 dJx4a65c_remove_915e3 := by
  refine doRI_ok ?_
  rintro _ i σ ⟨rfl, hpr⟩
  obtain ⟨k, c, rfl, hk, hc, h1, h2, h3, h4, h5, h6⟩ := id hpr
  have ek : (nI k).toNatClampNeg = k := nI_clamp (by omega)
  have jc : jin (nI k) (nI c).toNatClampNeg := by rw [nI_clamp (by omega)]; exact jinN (by omega) (by omega)
  have jk : jin (nI k) 10 := jinN (by omega) (by omega)
  obtain ⟨y, y1, y2, y3⟩ := h6 k hk
  refine dCon.go (by decide +kernel) (by simp [lg_sl, Value.category]) (fun z hkp hcl hz post hp hR => ?_)
  simp only [DkF] at hkp
  refine dvk_ok (nC := n + 1) DJx4a65c_remove_915e3 hTyA hR (VC := []) (VD := [(144, 3, 15, n + 1, 0, 0, 0, [], dJx4a65c_fastRemove_b59b0)]) (SD := [(118, 2, 0, n + 1, 0, 0, 0, [], dJ15_checkIndex_7cf53)]) (AL := []) (fun _ h => absurd h List.not_mem_nil) (List.forall_mem_cons.mpr ⟨⟨mJx4a65c_fastRemove_b59b0, 2, TJx4a65c, 3, rfl, by decide, hJx4a65c_144, WJx4a65c_fastRemove_b59b0, rfl, EJx4a65c_fastRemove_b59b0 g _ n hE⟩, (fun _ h => absurd h List.not_mem_nil)⟩) (List.forall_mem_cons.mpr ⟨⟨mJ15_checkIndex_7cf53, by decide, Or.inl hJx4a65c_118, WJ15_checkIndex_7cf53, EJ15_checkIndex_7cf53 g _ n⟩, (fun _ h => absurd h List.not_mem_nil)⟩) [] 20 _ _ _ _ _ _ ?_
  simp (maxSteps := 1000000) [↓Bool.cond_eq_ite, -Prod.forall, -Prod.exists, -Prod.mk.injEq, ↓jc_eq_t, ↓jc_eq_f, ↓jc_ne_t, ↓jc_ne_f, ↓jc_lt_t, ↓jc_lt_f, ↓jc_ge_t, ↓jc_ge_f, ↓jc_gt_t, ↓jc_gt_f, ↓jc_le_t, ↓jc_le_f, dvk, tJx4a65c_remove_915e3, jtb, jol, dvl, dal, dst, jlk, jcmp, jbin, jfl, qJx4a65c, jc2, qlJx4a65c, jcat, jel, lv_args, Value.category, jins, jsrt, jins2, jble, jblt, jf3, List.filter_cons, List.filter_nil, Dlo, Dnr, DnL, Dfree, Droom, DuS_S, DuS_I, DuS_L, DuS_R, DuS_N, DuS_A, DuI_S, DuI_I, DuI_L, DuI_R, DuI_N, DuI_A, DuL_S, DuL_I, DuL_L, DuL_R, DuL_N, DuL_A, DuR_S, DuR_I, DuR_L, DuR_R, DuR_N, DuR_A, Dnw_S, Dnw_I, Dnw_L, Dnw_R, Dnw_N, Dnw_A, DrI_S, DrI_I, DrI_L, DrI_R, DrI_N, DrI_A, DrJ_S, DrJ_I, DrJ_L, DrJ_R, DrJ_N, DrJ_A, dm64, G_d, G_x0, dJ15_checkIndex_7cf53, dJx4a65c_fastRemove_b59b0, doII, doRRI, -Int32.not_le, -Int32.not_lt, -Int64.not_le, -Int64.not_lt, i3lt, i6lt, h1, h2, h3, h4, h5, y1, jk, ek, jc, hpr, G_al, hkp, hz]
  try simp (disch := omega) [-Prod.forall, -Prod.exists, -Prod.mk.injEq, -Int32.not_le, -Int32.not_lt, -Int64.not_le, -Int64.not_lt, i3lt, i6lt, h1, h2, h3, h4, h5, y1, jk, ek, jc, hpr, G_al, hkp, hz]
  rintro _ τ rfl hτ
  exact ⟨⟨by omega, by omega⟩, τ, Dsub.rfl (hτ.1 hcl), hp _ _ ⟨⟨y, by rw [ek]; exact y1, rfl⟩, hτ⟩⟩
