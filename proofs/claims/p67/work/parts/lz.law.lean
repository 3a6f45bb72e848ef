/-! a StringBuilder's append of a text, whole -/
section EJZ
variable {g : jG} {h0 : Nat}
/-- what a builder's append leaves -/
def sbA (σ τ : dM) (f : Nat → Nat) (n : Nat) (s : Nat → Nat) (w : Nat) : Prop := ∃ m', sbS τ (tcat f n s) (n + w) m' ∧ tfr (fun k => k ≠ 1800 ∧ k ≠ 1600 ∧ k ≠ 1601) σ τ ∧ DA τ 1601 = false ∧ txQ τ
/-- what it asks -/
def sbQ (σ : dM) (f : Nat → Nat) (n m : Nat) : Prop := sbS σ f n m ∧ txQ σ ∧ DA σ 1601 = false
theorem txQ_I {σ τ : dM} (h : txQ σ) (hR : DR τ = DR σ) (hA : DA τ = DA σ) : txQ τ := by
  unfold txQ
  rw [hR, hA]
  exact h
/-- letters put behind a builder's text, its number still the old one -/
theorem sbP_S {σ τ : dM} {f : Nat → Nat} {n m : Nat} {s : Nat → Nat} {w : Nat} (h : sbS σ f n m) (hl : ∀ j, j < w → s j < 128) (hp : sbP σ τ n s w) (hw : n + w ≤ m) : sbS (DuI τ 1800 3 (nI (n + w))) (tcat f n s) (n + w) m ∧ tfr (fun k => k ≠ 1800 ∧ k ≠ 1600 ∧ k ≠ 1601) σ (DuI τ 1800 3 (nI (n + w))) ∧ (DR (DuI τ 1800 3 (nI (n + w))) = DR σ ∧ DA (DuI τ 1800 3 (nI (n + w))) = DA σ) := by
  obtain ⟨S, hS, rfl⟩ := hp
  obtain ⟨⟨h1, h2, h3, h4⟩, ⟨h5, h6⟩, h7, h8⟩ := h
  have e16 : ∀ j, DI (DuI (DrI σ 1600 (va_cpy S (DI σ 1600) 0 n w)) 1800 3 (nI (n + w))) 1600 j = va_cpy S (DI σ 1600) 0 n w j := fun j => by rw [DuI_I, if_neg (by omega), DrI_I, if_pos rfl]
  refine ⟨⟨⟨h1, h2, ?_, ?_⟩, ⟨h5, h6⟩, ⟨hw, h7.2⟩, fun j hj => ?_, fun j => ?_⟩, ⟨rfl, fun k hk => ⟨rfl, fun _ _ _ => ⟨funext fun j => ?_, rfl, rfl, rfl⟩⟩⟩, rfl, rfl⟩
  · rw [DuI_I, if_neg (by omega), DrI_I, if_neg (by omega)]
    exact h3
  · rw [DuI_I, if_pos ⟨rfl, rfl⟩]
  · rw [e16]
    unfold tcat
    by_cases c : j < n
    · rw [if_pos c, pk_cpy_out (by omega)]
      exact h8.1 j c
    · rw [if_neg c, pk_cpy_in (by omega) (by omega), show 0 + (j - n) = j - n by omega]
      exact ⟨(hS _ (by omega)).1, hl _ (by omega)⟩
  · rw [e16]
    by_cases c : n ≤ j ∧ j < n + w
    · rw [pk_cpy_in c.1 c.2]
      exact (hS _ (by omega)).2
    · rw [pk_cpy_out (by omega)]
      exact h8.2 _
  · rw [DuI_I, if_neg (fun z => hk.1 z.1), DrI_I, if_neg hk.2.1]
def dPs (n m : Nat) (s : Nat → Nat) (w : Nat) : dO := doRIR fun a x q σ => (a = 1800 ∧ x = nI n ∧ (DA σ 1800 = true ∧ DR σ 1800 0 = some 1600 ∧ DI σ 1800 1 = 0) ∧ (DA σ 1600 = true ∧ DN σ 1600 = m ∧ n + w ≤ m ∧ m ≤ 700) ∧ txt σ q s w, fun v τ => v = none ∧ sbP σ τ n s w)
set_option maxRecDepth 100000 in
set_option maxHeartbeats 4000000 in
theorem EJ5_putStringAt (hE : dEt g h0) (k n m : Nat) (s : Nat → Nat) (w : Nat) : dOk g h0 (k + 2) 0 0 [] mJ5_putStringAt_47b60 (dPs n m s w) := by
  refine doRIR_ok ?_
  rintro _ _ q σ ⟨rfl, rfl, ⟨h1, h2, h3⟩, hb, ht⟩
  refine dCon.gt (by decide +kernel) (by simp [lg_sl, Value.category]) (fun z hz0 hkp hcl hz post hp hR => ?_)
  subst hz0
  have hA9 : DA σ 1800 = true := h1
  show DW g z mJ5_putStringAt_47b60 0 [(0, .ref 1800), (1, .int (nI n)), (2, .ref q)] [] σ 0 0
  refine dvk_ok (nC := n + 6) DJ5_putStringAt_47b60 hTyA hR (VC := []) (VD := []) (SD := []) (AL := []) (fun _ h => absurd h List.not_mem_nil) (fun _ h => absurd h List.not_mem_nil) (fun _ h => absurd h List.not_mem_nil) [2] 10 _ _ _ _ _ _ ?_
  simp (maxSteps := 1000000) [↓Bool.cond_eq_ite, -Prod.forall, -Prod.exists, -Prod.mk.injEq, ↓jc_eq_t, ↓jc_eq_f, ↓jc_ne_t, ↓jc_ne_f, ↓jc_lt_t, ↓jc_lt_f, ↓jc_ge_t, ↓jc_ge_f, ↓jc_gt_t, ↓jc_gt_f, ↓jc_le_t, ↓jc_le_f, dvk, tJ5_putStringAt_47b60, jtb, jol, dvl, dal, dst, jlk, jcmp, jbin, jfl, qJ5, jc2, qlJ5, jcat, jel, lv_args, Value.category, jins, jsrt, jins2, jble, jblt, jf3, List.filter_cons, List.filter_nil, Dlo, Dnr, DnL, Dfree, Droom, DuS_S, DuS_I, DuS_L, DuS_R, DuS_N, DuS_A, DuI_S, DuI_I, DuI_L, DuI_R, DuI_N, DuI_A, DuL_S, DuL_I, DuL_L, DuL_R, DuL_N, DuL_A, DuR_S, DuR_I, DuR_L, DuR_R, DuR_N, DuR_A, Dnw_S, Dnw_I, Dnw_L, Dnw_R, Dnw_N, Dnw_A, DrI_S, DrI_I, DrI_L, DrI_R, DrI_N, DrI_A, DrJ_S, DrJ_I, DrJ_L, DrJ_R, DrJ_N, DrJ_A, dm64, G_d, G_x0, -Int32.not_le, -Int32.not_lt, -Int64.not_le, -Int64.not_lt, i3lt, i6lt]
  try simp (disch := omega) [-Prod.forall, -Prod.exists, -Prod.mk.injEq, -Int32.not_le, -Int32.not_lt, -Int64.not_le, -Int64.not_lt, i3lt, i6lt]
  have hc := EJ5_inflate (g := g) (h0 := z.2.2.2.2) hE k s w [.ref 1800, .ref q] σ ⟨rfl, h1, h3, ht⟩
  refine dr_callU (idx := 397) (mt' := mJ5_inflateIfNeededFor_a7421) (tl := []) (n' := k + 1) (mc := 0) (ms := 0) (C := "java/lang/StringBuilder") (x := yJ5_inflateIfNeededFor_a7421) (ci := 14) (T := TJ4) (N := 4) (a := 1800) (as := [.ref q]) ⟨by omega, by show 8 + (2 + 11) + 64 * (k + 1) ≤ _; omega, by omega, by omega⟩ trivial (by decide +kernel) hJ5_397 (jGw_of 1704 (by decide +kernel) (by decide +kernel)) (Or.inr (fun U H h => (hE.2 U H h).2.2.2.2.2 _ (by decide +kernel))) ⟨UJ5_inflateIfNeededFor_a7421.2, _, _, _, UJ5_inflateIfNeededFor_a7421.1.2.1⟩ rfl (by decide +kernel) UJ5_inflateIfNeededFor_a7421 rfl (by decide +kernel) hA9 rfl rfl (by simp [Value.category]) hc ?_
  rintro v τ ⟨rfl, rfl⟩
  show DW g z mJ5_putStringAt_47b60 5 _ [] τ 0 0
  refine dvk_ok (nC := n + 6) DJ5_putStringAt_47b60 hTyA hR (VC := []) (VD := []) (SD := []) (AL := []) (fun _ h => absurd h List.not_mem_nil) (fun _ h => absurd h List.not_mem_nil) (fun _ h => absurd h List.not_mem_nil) [15] 20 _ _ _ _ _ _ ?_
  simp (maxSteps := 1000000) [↓Bool.cond_eq_ite, -Prod.forall, -Prod.exists, -Prod.mk.injEq, ↓jc_eq_t, ↓jc_eq_f, ↓jc_ne_t, ↓jc_ne_f, ↓jc_lt_t, ↓jc_lt_f, ↓jc_ge_t, ↓jc_ge_f, ↓jc_gt_t, ↓jc_gt_f, ↓jc_le_t, ↓jc_le_f, dvk, tJ5_putStringAt_47b60, jtb, jol, dvl, dal, dst, jlk, jcmp, jbin, jfl, qJ5, jc2, qlJ5, jcat, jel, lv_args, Value.category, jins, jsrt, jins2, jble, jblt, jf3, List.filter_cons, List.filter_nil, Dlo, Dnr, DnL, Dfree, Droom, DuS_S, DuS_I, DuS_L, DuS_R, DuS_N, DuS_A, DuI_S, DuI_I, DuI_L, DuI_R, DuI_N, DuI_A, DuL_S, DuL_I, DuL_L, DuL_R, DuL_N, DuL_A, DuR_S, DuR_I, DuR_L, DuR_R, DuR_N, DuR_A, Dnw_S, Dnw_I, Dnw_L, Dnw_R, Dnw_N, Dnw_A, DrI_S, DrI_I, DrI_L, DrI_R, DrI_N, DrI_A, DrJ_S, DrJ_I, DrJ_L, DrJ_R, DrJ_N, DrJ_A, dm64, G_d, G_x0, -Int32.not_le, -Int32.not_lt, -Int64.not_le, -Int64.not_lt, i3lt, i6lt, h1, h2, h3, G_t]
  try simp (disch := omega) [-Prod.forall, -Prod.exists, -Prod.mk.injEq, -Int32.not_le, -Int32.not_lt, -Int64.not_le, -Int64.not_lt, i3lt, i6lt, h1, h2, h3, G_t]
  have hc := EJ0_getBytes (g := g) (h0 := z.2.2.2.2) hE k n m s w [.ref q, .ref 1600, .int (nI n), .int 0] τ ⟨rfl, rfl, rfl, hb, ht⟩
  refine dr_callT (idx := 399) (mt' := mJ0_getBytes_840e7) (tl := []) (n' := k + 1) (mc := 0) (ms := 0) (as := [.ref 1600, .int (nI n), .int 0]) hE ht ⟨by omega, by show 8 + (4 + 11) + 64 * (k + 1) ≤ _; omega, by omega, by omega⟩ trivial (by decide +kernel) hJ5_399 WJ0_getBytes_840e7 rfl rfl rfl (by simp) hc ?_
  rintro v υ ⟨rfl, hυ⟩
  show DW g z mJ5_putStringAt_47b60 18 _ [] υ 0 0
  refine DW.cl (fun hcl9 => ?_)
  refine dvk_ok (nC := n + 6) DJ5_putStringAt_47b60 hTyA hR (VC := []) (VD := []) (SD := []) (AL := []) (fun _ h => absurd h List.not_mem_nil) (fun _ h => absurd h List.not_mem_nil) (fun _ h => absurd h List.not_mem_nil) [] 10 _ _ _ _ _ _ ?_
  simp (maxSteps := 1000000) [↓Bool.cond_eq_ite, -Prod.forall, -Prod.exists, -Prod.mk.injEq, ↓jc_eq_t, ↓jc_eq_f, ↓jc_ne_t, ↓jc_ne_f, ↓jc_lt_t, ↓jc_lt_f, ↓jc_ge_t, ↓jc_ge_f, ↓jc_gt_t, ↓jc_gt_f, ↓jc_le_t, ↓jc_le_f, dvk, tJ5_putStringAt_47b60, jtb, jol, dvl, dal, dst, jlk, jcmp, jbin, jfl, qJ5, jc2, qlJ5, jcat, jel, lv_args, Value.category, jins, jsrt, jins2, jble, jblt, jf3, List.filter_cons, List.filter_nil, Dlo, Dnr, DnL, Dfree, Droom, DuS_S, DuS_I, DuS_L, DuS_R, DuS_N, DuS_A, DuI_S, DuI_I, DuI_L, DuI_R, DuI_N, DuI_A, DuL_S, DuL_I, DuL_L, DuL_R, DuL_N, DuL_A, DuR_S, DuR_I, DuR_L, DuR_R, DuR_N, DuR_A, Dnw_S, Dnw_I, Dnw_L, Dnw_R, Dnw_N, Dnw_A, DrI_S, DrI_I, DrI_L, DrI_R, DrI_N, DrI_A, DrJ_S, DrJ_I, DrJ_L, DrJ_R, DrJ_N, DrJ_A, dm64, G_d, G_x0, -Int32.not_le, -Int32.not_lt, -Int64.not_le, -Int64.not_lt, i3lt, i6lt]
  try simp (disch := omega) [-Prod.forall, -Prod.exists, -Prod.mk.injEq, -Int32.not_le, -Int32.not_lt, -Int64.not_le, -Int64.not_lt, i3lt, i6lt]
  exact ⟨⟨by omega, by omega⟩, _, Dsub.rfl hcl9, hp _ _ ⟨rfl, hυ⟩⟩
def dAs (f : Nat → Nat) (n m : Nat) (s : Nat → Nat) (w : Nat) : dO := doRR fun a q σ => (a = 1800 ∧ sbQ σ f n m ∧ n + w ≤ 300 ∧ txt σ q s w, fun v τ => v = some (.ref 1800) ∧ sbA σ τ f n s w)
set_option maxRecDepth 100000 in
set_option maxHeartbeats 4000000 in
theorem EJ5_appendS (hE : dEt g h0) (k : Nat) (f : Nat → Nat) (n m : Nat) (s : Nat → Nat) (w : Nat) : dOk g h0 (k + 4) 1 700 [1600, 1601] mJ5_append_cf1ce (dAs f n m s w) := by
  refine doRR_ok ?_
  rintro _ q σ ⟨rfl, ⟨hs, hQ, hA1⟩, hw, ht⟩
  refine dCon.gt (by decide +kernel) (by simp [lg_sl, Value.category]) (fun z hz0 hkp hcl hz post hp hR => ?_)
  subst hz0
  simp only [DkF] at hkp
  have hq6 : q ≠ 1600 ∧ q ≠ 1601 := by
    rcases ht.2 with ⟨rfl, -⟩ | ⟨rfl, -⟩ | ⟨rfl, -⟩ | ⟨i, hi, rfl, -⟩ <;> omega
  have hl := txt_lt ht
  obtain ⟨h1, h2, h3, h4⟩ := hs.1
  have hA9 : DA σ 1800 = true := h1
  have e1 : nI n + nI w = nI (n + w) := nI_add _ _
  show DW g z mJ5_append_cf1ce 0 [(0, .ref 1800), (1, .ref q)] [] σ 0 0
  refine dvk_ok (nC := n + 7) DJ5_append_cf1ce hTyA hR (VC := []) (VD := []) (SD := []) (AL := []) (fun _ h => absurd h List.not_mem_nil) (fun _ h => absurd h List.not_mem_nil) (fun _ h => absurd h List.not_mem_nil) [10] 10 _ _ _ _ _ _ ?_
  simp (maxSteps := 1000000) [↓Bool.cond_eq_ite, -Prod.forall, -Prod.exists, -Prod.mk.injEq, ↓jc_eq_t, ↓jc_eq_f, ↓jc_ne_t, ↓jc_ne_f, ↓jc_lt_t, ↓jc_lt_f, ↓jc_ge_t, ↓jc_ge_f, ↓jc_gt_t, ↓jc_gt_f, ↓jc_le_t, ↓jc_le_f, dvk, tJ5_append_cf1ce, jtb, jol, dvl, dal, dst, jlk, jcmp, jbin, jfl, qJ5, jc2, qlJ5, jcat, jel, lv_args, Value.category, jins, jsrt, jins2, jble, jblt, jf3, List.filter_cons, List.filter_nil, Dlo, Dnr, DnL, Dfree, Droom, DuS_S, DuS_I, DuS_L, DuS_R, DuS_N, DuS_A, DuI_S, DuI_I, DuI_L, DuI_R, DuI_N, DuI_A, DuL_S, DuL_I, DuL_L, DuL_R, DuL_N, DuL_A, DuR_S, DuR_I, DuR_L, DuR_R, DuR_N, DuR_A, Dnw_S, Dnw_I, Dnw_L, Dnw_R, Dnw_N, Dnw_A, DrI_S, DrI_I, DrI_L, DrI_R, DrI_N, DrI_A, DrJ_S, DrJ_I, DrJ_L, DrJ_R, DrJ_N, DrJ_A, dm64, G_d, G_x0, -Int32.not_le, -Int32.not_lt, -Int64.not_le, -Int64.not_lt, i3lt, i6lt]
  try simp (disch := omega) [-Prod.forall, -Prod.exists, -Prod.mk.injEq, -Int32.not_le, -Int32.not_lt, -Int64.not_le, -Int64.not_lt, i3lt, i6lt]
  have hc := EJ0_length (g := g) (h0 := z.2.2.2.2) hE k s w [.ref q] σ ht
  refine dr_callT (idx := 32) (mt' := mJ0_length_8abf5) (tl := []) (n' := k + 1) (mc := 0) (ms := 0) (as := []) hE ht ⟨by omega, by show 8 + (1 + 11) + 64 * (k + 1) ≤ _; omega, by omega, by omega⟩ trivial (by decide +kernel) hJ5_32 WJ0_length_8abf5 rfl rfl rfl (by simp) hc ?_
  rintro v τ ⟨rfl, rfl⟩
  show DW g z mJ5_append_cf1ce 13 _ [.int (nI w)] τ 0 0
  refine dvk_ok (nC := n + 7) DJ5_append_cf1ce hTyA hR (VC := []) (VD := []) (SD := []) (AL := []) (fun _ h => absurd h List.not_mem_nil) (fun _ h => absurd h List.not_mem_nil) (fun _ h => absurd h List.not_mem_nil) [21] 20 _ _ _ _ _ _ ?_
  simp (maxSteps := 1000000) [↓Bool.cond_eq_ite, -Prod.forall, -Prod.exists, -Prod.mk.injEq, ↓jc_eq_t, ↓jc_eq_f, ↓jc_ne_t, ↓jc_ne_f, ↓jc_lt_t, ↓jc_lt_f, ↓jc_ge_t, ↓jc_ge_f, ↓jc_gt_t, ↓jc_gt_f, ↓jc_le_t, ↓jc_le_f, dvk, tJ5_append_cf1ce, jtb, jol, dvl, dal, dst, jlk, jcmp, jbin, jfl, qJ5, jc2, qlJ5, jcat, jel, lv_args, Value.category, jins, jsrt, jins2, jble, jblt, jf3, List.filter_cons, List.filter_nil, Dlo, Dnr, DnL, Dfree, Droom, DuS_S, DuS_I, DuS_L, DuS_R, DuS_N, DuS_A, DuI_S, DuI_I, DuI_L, DuI_R, DuI_N, DuI_A, DuL_S, DuL_I, DuL_L, DuL_R, DuL_N, DuL_A, DuR_S, DuR_I, DuR_L, DuR_R, DuR_N, DuR_A, Dnw_S, Dnw_I, Dnw_L, Dnw_R, Dnw_N, Dnw_A, DrI_S, DrI_I, DrI_L, DrI_R, DrI_N, DrI_A, DrJ_S, DrJ_I, DrJ_L, DrJ_R, DrJ_N, DrJ_A, dm64, G_d, G_x0, -Int32.not_le, -Int32.not_lt, -Int64.not_le, -Int64.not_lt, i3lt, i6lt, h1, h4, G_t, e1]
  try simp (disch := omega) [-Prod.forall, -Prod.exists, -Prod.mk.injEq, -Int32.not_le, -Int32.not_lt, -Int64.not_le, -Int64.not_lt, i3lt, i6lt, h1, h4, G_t, e1]
  have hc := EJ5_ensureCapacityInternal (g := g) (h0 := z.2.2.2.2) hE k f n m (n + w) [.ref 1800, .int (nI (n + w))] τ ⟨rfl, rfl, hs, hw, hQ, hA1⟩
  have hq7 : ¬ q = 1600 ∧ ¬ q = 1601 := hq6
  refine dr_callU (idx := 100) (mt' := mJ5_ensureCapacityInternal_d00df) (tl := [1600, 1601]) (n' := k + 3) (mc := 1) (ms := 700) (C := "java/lang/StringBuilder") (x := yJ5_ensureCapacityInternal_d00df) (ci := 14) (T := TJ4) (N := 4) (a := 1800) (as := [.int (nI (n + w))]) ⟨by omega, by show 8 + (3 + 11) + 64 * (k + 3) ≤ _; omega, by omega, by omega⟩ (by simp [Dfree, DnL, Dnr, hkp, hq7]) (by decide +kernel) hJ5_100 (jGw_of 1701 (by decide +kernel) (by decide +kernel)) (Or.inr (fun U H h => (hE.2 U H h).2.2.2.2.2 _ (by decide +kernel))) ⟨UJ5_ensureCapacityInternal_d00df.2, _, _, _, UJ5_ensureCapacityInternal_d00df.1.2.1⟩ rfl (by decide +kernel) UJ5_ensureCapacityInternal_d00df rfl (by decide +kernel) hA9 rfl rfl (by simp) hc ?_
  rintro v υ ⟨rfl, m', r1, r2, r3, r4, r5⟩
  show DW g z mJ5_append_cf1ce 24 _ [] υ 1 700
  obtain ⟨u1, u2, u3, u4⟩ := r1.1
  have hA9 : DA υ 1800 = true := u1
  have htυ := txt_fr ⟨by omega, by omega, by omega, by omega, by omega, by omega⟩ r3 ht
  refine dvk_ok (nC := n + 7) DJ5_append_cf1ce hTyA hR (VC := []) (VD := []) (SD := []) (AL := []) (fun _ h => absurd h List.not_mem_nil) (fun _ h => absurd h List.not_mem_nil) (fun _ h => absurd h List.not_mem_nil) [30] 20 _ _ _ _ _ _ ?_
  simp (maxSteps := 1000000) [↓Bool.cond_eq_ite, -Prod.forall, -Prod.exists, -Prod.mk.injEq, ↓jc_eq_t, ↓jc_eq_f, ↓jc_ne_t, ↓jc_ne_f, ↓jc_lt_t, ↓jc_lt_f, ↓jc_ge_t, ↓jc_ge_f, ↓jc_gt_t, ↓jc_gt_f, ↓jc_le_t, ↓jc_le_f, dvk, tJ5_append_cf1ce, jtb, jol, dvl, dal, dst, jlk, jcmp, jbin, jfl, qJ5, jc2, qlJ5, jcat, jel, lv_args, Value.category, jins, jsrt, jins2, jble, jblt, jf3, List.filter_cons, List.filter_nil, Dlo, Dnr, DnL, Dfree, Droom, DuS_S, DuS_I, DuS_L, DuS_R, DuS_N, DuS_A, DuI_S, DuI_I, DuI_L, DuI_R, DuI_N, DuI_A, DuL_S, DuL_I, DuL_L, DuL_R, DuL_N, DuL_A, DuR_S, DuR_I, DuR_L, DuR_R, DuR_N, DuR_A, Dnw_S, Dnw_I, Dnw_L, Dnw_R, Dnw_N, Dnw_A, DrI_S, DrI_I, DrI_L, DrI_R, DrI_N, DrI_A, DrJ_S, DrJ_I, DrJ_L, DrJ_R, DrJ_N, DrJ_A, dm64, G_d, G_x0, -Int32.not_le, -Int32.not_lt, -Int64.not_le, -Int64.not_lt, i3lt, i6lt, u1, u4, G_t]
  try simp (disch := omega) [-Prod.forall, -Prod.exists, -Prod.mk.injEq, -Int32.not_le, -Int32.not_lt, -Int64.not_le, -Int64.not_lt, i3lt, i6lt, u1, u4, G_t]
  have hc := EJ5_putStringAt (g := g) (h0 := z.2.2.2.2) hE k n m' s w [.ref 1800, .int (nI n), .ref q] υ ⟨rfl, rfl, ⟨u1, u2, u3⟩, ⟨r1.2.1.1, r1.2.1.2, r2, r1.2.2.1.2⟩, htυ⟩
  refine dr_callU (idx := 208) (mt' := mJ5_putStringAt_47b60) (tl := []) (n' := k + 2) (mc := 0) (ms := 0) (C := "java/lang/StringBuilder") (x := yJ5_putStringAt_47b60) (ci := 14) (T := TJ4) (N := 4) (a := 1800) (as := [.int (nI n), .ref q]) ⟨by omega, by show 8 + (3 + 11) + 64 * (k + 2) ≤ _; omega, by omega, by omega⟩ trivial (by decide +kernel) hJ5_208 (jGw_of 1703 (by decide +kernel) (by decide +kernel)) (Or.inr (fun U H h => (hE.2 U H h).2.2.2.2.2 _ (by decide +kernel))) ⟨UJ5_putStringAt_47b60.2, _, _, _, UJ5_putStringAt_47b60.1.2.1⟩ rfl (by decide +kernel) UJ5_putStringAt_47b60 rfl (by decide +kernel) hA9 rfl rfl (by simp [Value.category]) hc ?_
  rintro v ρ ⟨rfl, hρ⟩
  show DW g z mJ5_append_cf1ce 33 _ [] ρ 1 700
  obtain ⟨t1, t2, t3, t4⟩ := sbP_S r1 hl hρ r2
  have v1 : DA ρ 1800 = true := by
    obtain ⟨S, -, rfl⟩ := hρ
    exact u1
  have v4 : DI ρ 1800 3 = nI n := by
    obtain ⟨S, -, rfl⟩ := hρ
    rw [DrI_I, if_neg (by omega)]
    exact u4
  refine DW.cl (fun hcl9 => ?_)
  refine dvk_ok (nC := n + 7) DJ5_append_cf1ce hTyA hR (VC := []) (VD := []) (SD := []) (AL := []) (fun _ h => absurd h List.not_mem_nil) (fun _ h => absurd h List.not_mem_nil) (fun _ h => absurd h List.not_mem_nil) [] 20 _ _ _ _ _ _ ?_
  simp (maxSteps := 1000000) [↓Bool.cond_eq_ite, -Prod.forall, -Prod.exists, -Prod.mk.injEq, ↓jc_eq_t, ↓jc_eq_f, ↓jc_ne_t, ↓jc_ne_f, ↓jc_lt_t, ↓jc_lt_f, ↓jc_ge_t, ↓jc_ge_f, ↓jc_gt_t, ↓jc_gt_f, ↓jc_le_t, ↓jc_le_f, dvk, tJ5_append_cf1ce, jtb, jol, dvl, dal, dst, jlk, jcmp, jbin, jfl, qJ5, jc2, qlJ5, jcat, jel, lv_args, Value.category, jins, jsrt, jins2, jble, jblt, jf3, List.filter_cons, List.filter_nil, Dlo, Dnr, DnL, Dfree, Droom, DuS_S, DuS_I, DuS_L, DuS_R, DuS_N, DuS_A, DuI_S, DuI_I, DuI_L, DuI_R, DuI_N, DuI_A, DuL_S, DuL_I, DuL_L, DuL_R, DuL_N, DuL_A, DuR_S, DuR_I, DuR_L, DuR_R, DuR_N, DuR_A, Dnw_S, Dnw_I, Dnw_L, Dnw_R, Dnw_N, Dnw_A, DrI_S, DrI_I, DrI_L, DrI_R, DrI_N, DrI_A, DrJ_S, DrJ_I, DrJ_L, DrJ_R, DrJ_N, DrJ_A, dm64, G_d, G_x0, -Int32.not_le, -Int32.not_lt, -Int64.not_le, -Int64.not_lt, i3lt, i6lt, v1, v4, G_t, e1]
  try simp (disch := omega) [-Prod.forall, -Prod.exists, -Prod.mk.injEq, -Int32.not_le, -Int32.not_lt, -Int64.not_le, -Int64.not_lt, i3lt, i6lt, v1, v4, G_t, e1]
  exact ⟨⟨by omega, by omega⟩, _, Dsub.rfl (δ := DuI ρ 1800 3 (nI (n + w))) hcl9, hp _ _ ⟨rfl, m', t1, r3.tr t2, by rw [t4]; exact r4, txQ_I r5 t3 t4⟩⟩
set_option maxRecDepth 100000 in
set_option maxHeartbeats 4000000 in
theorem EJ4_appendS (hE : dEt g h0) (k : Nat) (f : Nat → Nat) (n m : Nat) (s : Nat → Nat) (w : Nat) : dOk g h0 (k + 5) 1 700 [1600, 1601] mJ4_append_15ec4 (dAs f n m s w) := by
  refine doRR_ok ?_
  rintro _ q σ ⟨rfl, hs, hw, ht⟩
  refine dCon.gt (by decide +kernel) (by simp [lg_sl, Value.category]) (fun z hz0 hkp hcl hz post hp hR => ?_)
  subst hz0
  simp only [DkF] at hkp
  have hq7 : ¬ q = 1600 ∧ ¬ q = 1601 := by
    rcases ht.2 with ⟨rfl, -⟩ | ⟨rfl, -⟩ | ⟨rfl, -⟩ | ⟨i, hi, rfl, -⟩ <;> omega
  have hA9 : DA σ 1800 = true := hs.1.1.1
  show DW g z mJ4_append_15ec4 0 [(0, .ref 1800), (1, .ref q)] [] σ 0 0
  refine dvk_ok (nC := n + 8) DJ4_append_15ec4 hTyA hR (VC := []) (VD := []) (SD := []) (AL := []) (fun _ h => absurd h List.not_mem_nil) (fun _ h => absurd h List.not_mem_nil) (fun _ h => absurd h List.not_mem_nil) [2] 10 _ _ _ _ _ _ ?_
  simp (maxSteps := 1000000) [↓Bool.cond_eq_ite, -Prod.forall, -Prod.exists, -Prod.mk.injEq, ↓jc_eq_t, ↓jc_eq_f, ↓jc_ne_t, ↓jc_ne_f, ↓jc_lt_t, ↓jc_lt_f, ↓jc_ge_t, ↓jc_ge_f, ↓jc_gt_t, ↓jc_gt_f, ↓jc_le_t, ↓jc_le_f, dvk, tJ4_append_15ec4, jtb, jol, dvl, dal, dst, jlk, jcmp, jbin, jfl, qJ4, jc2, qlJ4, jcat, jel, lv_args, Value.category, jins, jsrt, jins2, jble, jblt, jf3, List.filter_cons, List.filter_nil, Dlo, Dnr, DnL, Dfree, Droom, DuS_S, DuS_I, DuS_L, DuS_R, DuS_N, DuS_A, DuI_S, DuI_I, DuI_L, DuI_R, DuI_N, DuI_A, DuL_S, DuL_I, DuL_L, DuL_R, DuL_N, DuL_A, DuR_S, DuR_I, DuR_L, DuR_R, DuR_N, DuR_A, Dnw_S, Dnw_I, Dnw_L, Dnw_R, Dnw_N, Dnw_A, DrI_S, DrI_I, DrI_L, DrI_R, DrI_N, DrI_A, DrJ_S, DrJ_I, DrJ_L, DrJ_R, DrJ_N, DrJ_A, dm64, G_d, G_x0, -Int32.not_le, -Int32.not_lt, -Int64.not_le, -Int64.not_lt, i3lt, i6lt]
  try simp (disch := omega) [-Prod.forall, -Prod.exists, -Prod.mk.injEq, -Int32.not_le, -Int32.not_lt, -Int64.not_le, -Int64.not_lt, i3lt, i6lt]
  have hc := EJ5_appendS (g := g) (h0 := z.2.2.2.2) hE k f n m s w [.ref 1800, .ref q] σ ⟨rfl, hs, hw, ht⟩
  refine dr_callSU (idx := 29) (mt' := mJ5_append_cf1ce) (tl := [1600, 1601]) (n' := k + 4) (mc := 1) (ms := 700) (C := "java/lang/StringBuilder") (ci := 14) (T := TJ4) (N := 4) (a := 1800) (as := [.ref q]) ⟨by omega, by show 8 + (3 + 11) + 64 * (k + 4) ≤ _; omega, by omega, by omega⟩ (by simp [Dfree, DnL, Dnr, hkp, hq7]) (by decide +kernel) hJ4_29 (jGw_of 1699 (by decide +kernel) (by decide +kernel)) (jGw_of 771 (by decide +kernel) (by decide +kernel)) UJ5_append_cf1ce (by decide +kernel) rfl (by decide +kernel) hA9 rfl rfl (by simp) hc ?_
  rintro v τ ⟨rfl, hτ⟩
  show DW g z mJ4_append_15ec4 5 _ [.ref 1800] τ 1 700
  refine DW.cl (fun hcl9 => ?_)
  refine dvk_ok (nC := n + 8) DJ4_append_15ec4 hTyA hR (VC := []) (VD := []) (SD := []) (AL := []) (fun _ h => absurd h List.not_mem_nil) (fun _ h => absurd h List.not_mem_nil) (fun _ h => absurd h List.not_mem_nil) [] 10 _ _ _ _ _ _ ?_
  simp (maxSteps := 1000000) [↓Bool.cond_eq_ite, -Prod.forall, -Prod.exists, -Prod.mk.injEq, ↓jc_eq_t, ↓jc_eq_f, ↓jc_ne_t, ↓jc_ne_f, ↓jc_lt_t, ↓jc_lt_f, ↓jc_ge_t, ↓jc_ge_f, ↓jc_gt_t, ↓jc_gt_f, ↓jc_le_t, ↓jc_le_f, dvk, tJ4_append_15ec4, jtb, jol, dvl, dal, dst, jlk, jcmp, jbin, jfl, qJ4, jc2, qlJ4, jcat, jel, lv_args, Value.category, jins, jsrt, jins2, jble, jblt, jf3, List.filter_cons, List.filter_nil, Dlo, Dnr, DnL, Dfree, Droom, DuS_S, DuS_I, DuS_L, DuS_R, DuS_N, DuS_A, DuI_S, DuI_I, DuI_L, DuI_R, DuI_N, DuI_A, DuL_S, DuL_I, DuL_L, DuL_R, DuL_N, DuL_A, DuR_S, DuR_I, DuR_L, DuR_R, DuR_N, DuR_A, Dnw_S, Dnw_I, Dnw_L, Dnw_R, Dnw_N, Dnw_A, DrI_S, DrI_I, DrI_L, DrI_R, DrI_N, DrI_A, DrJ_S, DrJ_I, DrJ_L, DrJ_R, DrJ_N, DrJ_A, dm64, G_d, G_x0, -Int32.not_le, -Int32.not_lt, -Int64.not_le, -Int64.not_lt, i3lt, i6lt]
  try simp (disch := omega) [-Prod.forall, -Prod.exists, -Prod.mk.injEq, -Int32.not_le, -Int32.not_lt, -Int64.not_le, -Int64.not_lt, i3lt, i6lt]
  exact ⟨⟨by omega, by omega⟩, _, Dsub.rfl hcl9, hp _ _ ⟨rfl, hτ⟩⟩
end EJZ
