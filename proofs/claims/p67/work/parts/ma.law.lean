/-! a StringBuilder's append of a letter -/
section EMA
variable {g : jG} {h0 : Nat}
theorem sbP_1 {σ : dM} {n c : Nat} (hc : c < 128) : sbP σ (DuI σ 1600 n (nI c)) n (fun _ => c) 1 := by
  refine ⟨fun _ => nI c, fun j _ => ⟨rfl, (bf_t c hc).1⟩, Prod.ext rfl (Prod.ext (funext fun i => funext fun j => ?_) rfl)⟩
  show (if i = 1600 ∧ j = n then nI c else DI σ i j) = if i = 1600 then va_cpy (fun _ => nI c) (DI σ 1600) 0 n 1 j else DI σ i j
  by_cases c1 : i = 1600
  · rw [if_pos c1]
    unfold va_cpy
    by_cases c2 : j = n
    · rw [if_pos ⟨c1, c2⟩, if_pos (by omega)]
    · rw [if_neg (fun z => c2 z.2), if_neg (by omega), c1]
  · rw [if_neg (fun z => c1 z.1), if_neg c1]
def dAc (f : Nat → Nat) (n m c : Nat) : dO := doRI fun a x σ => (a = 1800 ∧ x = nI c ∧ c < 128 ∧ sbQ σ f n m ∧ n + 1 ≤ 300, fun v τ => v = some (.ref 1800) ∧ sbA σ τ f n (fun _ => c) 1)
set_option maxRecDepth 100000 in
set_option maxHeartbeats 4000000 in
theorem EJ5_appendC (hE : dEt g h0) (k : Nat) (f : Nat → Nat) (n m c : Nat) : dOk g h0 (k + 4) 1 700 [1600, 1601] mJ5_append_3fe6f (dAc f n m c) := by
  refine doRI_ok ?_
  rintro _ _ σ ⟨rfl, rfl, hc9, ⟨hs, hQ, hA1⟩, hw⟩
  refine dCon.gt (by decide +kernel) (by simp [lg_sl, Value.category]) (fun z hz0 hkp hcl hz post hp hR => ?_)
  subst hz0
  simp only [DkF] at hkp
  obtain ⟨h1, h2, h3, h4⟩ := hs.1
  have hA9 : DA σ 1800 = true := h1
  have e1 : nI n + 1 = nI (n + 1) := nI_1 n
  show DW g z mJ5_append_3fe6f 0 [(0, .ref 1800), (1, .int (nI c))] [] σ 0 0
  refine dvk_ok (nC := n + 5) DJ5_append_3fe6f hTyA hR (VC := []) (VD := []) (SD := []) (AL := []) (fun _ h => absurd h List.not_mem_nil) (fun _ h => absurd h List.not_mem_nil) (fun _ h => absurd h List.not_mem_nil) [7] 20 _ _ _ _ _ _ ?_
  simp (maxSteps := 1000000) [↓Bool.cond_eq_ite, -Prod.forall, -Prod.exists, -Prod.mk.injEq, ↓jc_eq_t, ↓jc_eq_f, ↓jc_ne_t, ↓jc_ne_f, ↓jc_lt_t, ↓jc_lt_f, ↓jc_ge_t, ↓jc_ge_f, ↓jc_gt_t, ↓jc_gt_f, ↓jc_le_t, ↓jc_le_f, dvk, tJ5_append_3fe6f, jtb, jol, dvl, dal, dst, jlk, jcmp, jbin, jfl, qJ5, jc2, qlJ5, jcat, jel, lv_args, Value.category, jins, jsrt, jins2, jble, jblt, jf3, List.filter_cons, List.filter_nil, Dlo, Dnr, DnL, Dfree, Droom, DuS_S, DuS_I, DuS_L, DuS_R, DuS_N, DuS_A, DuI_S, DuI_I, DuI_L, DuI_R, DuI_N, DuI_A, DuL_S, DuL_I, DuL_L, DuL_R, DuL_N, DuL_A, DuR_S, DuR_I, DuR_L, DuR_R, DuR_N, DuR_A, Dnw_S, Dnw_I, Dnw_L, Dnw_R, Dnw_N, Dnw_A, DrI_S, DrI_I, DrI_L, DrI_R, DrI_N, DrI_A, DrJ_S, DrJ_I, DrJ_L, DrJ_R, DrJ_N, DrJ_A, dm64, G_d, G_x0, -Int32.not_le, -Int32.not_lt, -Int64.not_le, -Int64.not_lt, i3lt, i6lt, h1, h4, G_t, e1]
  try simp (disch := omega) [-Prod.forall, -Prod.exists, -Prod.mk.injEq, -Int32.not_le, -Int32.not_lt, -Int64.not_le, -Int64.not_lt, i3lt, i6lt, h1, h4, G_t, e1]
  have hc := EJ5_ensureCapacityInternal (g := g) (h0 := z.2.2.2.2) hE k f n m (n + 1) [.ref 1800, .int (nI (n + 1))] σ ⟨rfl, rfl, hs, hw, hQ, hA1⟩
  refine dr_callU (idx := 100) (mt' := mJ5_ensureCapacityInternal_d00df) (tl := [1600, 1601]) (n' := k + 3) (mc := 1) (ms := 700) (C := "java/lang/StringBuilder") (x := yJ5_ensureCapacityInternal_d00df) (ci := 14) (T := TJ4) (N := 4) (a := 1800) (as := [.int (nI (n + 1))]) ⟨by omega, by show 8 + (3 + 11) + 64 * (k + 3) ≤ _; omega, by omega, by omega⟩ (by simp [Dfree, DnL, Dnr, hkp]) (by decide +kernel) hJ5_100 (jGw_of 1701 (by decide +kernel) (by decide +kernel)) (Or.inr (fun U H h => (hE.2 U H h).2.2.2.2.2 _ (by decide +kernel))) ⟨UJ5_ensureCapacityInternal_d00df.2, _, _, _, UJ5_ensureCapacityInternal_d00df.1.2.1⟩ rfl (by decide +kernel) UJ5_ensureCapacityInternal_d00df rfl (by decide +kernel) hA9 rfl rfl (by simp [Value.category]) hc ?_
  rintro v υ ⟨rfl, m', r1, r2, r3, r4, r5⟩
  show DW g z mJ5_append_3fe6f 10 _ [] υ 1 700
  obtain ⟨u1, u2, u3, u4⟩ := r1.1
  obtain ⟨u5, u6⟩ := r1.2.1
  have hA9 : DA υ 1800 = true := u1
  refine dvk_ok (nC := n + 5) DJ5_append_3fe6f hTyA hR (VC := []) (VD := []) (SD := []) (AL := []) (fun _ h => absurd h List.not_mem_nil) (fun _ h => absurd h List.not_mem_nil) (fun _ h => absurd h List.not_mem_nil) [11] 20 _ _ _ _ _ _ ?_
  simp (maxSteps := 1000000) [↓Bool.cond_eq_ite, -Prod.forall, -Prod.exists, -Prod.mk.injEq, ↓jc_eq_t, ↓jc_eq_f, ↓jc_ne_t, ↓jc_ne_f, ↓jc_lt_t, ↓jc_lt_f, ↓jc_ge_t, ↓jc_ge_f, ↓jc_gt_t, ↓jc_gt_f, ↓jc_le_t, ↓jc_le_f, dvk, tJ5_append_3fe6f, jtb, jol, dvl, dal, dst, jlk, jcmp, jbin, jfl, qJ5, jc2, qlJ5, jcat, jel, lv_args, Value.category, jins, jsrt, jins2, jble, jblt, jf3, List.filter_cons, List.filter_nil, Dlo, Dnr, DnL, Dfree, Droom, DuS_S, DuS_I, DuS_L, DuS_R, DuS_N, DuS_A, DuI_S, DuI_I, DuI_L, DuI_R, DuI_N, DuI_A, DuL_S, DuL_I, DuL_L, DuL_R, DuL_N, DuL_A, DuR_S, DuR_I, DuR_L, DuR_R, DuR_N, DuR_A, Dnw_S, Dnw_I, Dnw_L, Dnw_R, Dnw_N, Dnw_A, DrI_S, DrI_I, DrI_L, DrI_R, DrI_N, DrI_A, DrJ_S, DrJ_I, DrJ_L, DrJ_R, DrJ_N, DrJ_A, dm64, G_d, G_x0, -Int32.not_le, -Int32.not_lt, -Int64.not_le, -Int64.not_lt, i3lt, i6lt]
  try simp (disch := omega) [-Prod.forall, -Prod.exists, -Prod.mk.injEq, -Int32.not_le, -Int32.not_lt, -Int64.not_le, -Int64.not_lt, i3lt, i6lt]
  have hc := EJ5_isLatin1 (g := g) (h0 := z.2.2.2.2) hE k [.ref 1800] υ ⟨rfl, u1, u3⟩
  refine dr_callU (idx := 83) (mt' := mJ5_isLatin1_aae02) (tl := []) (n' := k) (mc := 0) (ms := 0) (C := "java/lang/StringBuilder") (x := yJ5_isLatin1_aae02) (ci := 14) (T := TJ4) (N := 4) (a := 1800) (as := []) ⟨by omega, by show 8 + (1 + 11) + 64 * (k) ≤ _; omega, by omega, by omega⟩ trivial (by decide +kernel) hJ5_83 (jGw_of 816 (by decide +kernel) (by decide +kernel)) (Or.inl (jGw_of 817 (by decide +kernel) (by decide +kernel))) ⟨UJ5_isLatin1_aae02.2, _, _, _, UJ5_isLatin1_aae02.1.2.1⟩ rfl (by decide +kernel) UJ5_isLatin1_aae02 rfl (by decide +kernel) hA9 rfl rfl (by simp [Value.category]) hc ?_
  rintro v τ ⟨rfl, rfl⟩
  show DW g z mJ5_append_3fe6f 14 _ [.int 1] τ 1 700
  have c1 := c1_n0
  refine dvk_ok (nC := n + 5) DJ5_append_3fe6f hTyA hR (VC := []) (VD := []) (SD := []) (AL := []) (fun _ h => absurd h List.not_mem_nil) (fun _ h => absurd h List.not_mem_nil) (fun _ h => absurd h List.not_mem_nil) [18] 20 _ _ _ _ _ _ ?_
  simp (maxSteps := 1000000) [↓Bool.cond_eq_ite, -Prod.forall, -Prod.exists, -Prod.mk.injEq, ↓jc_eq_t, ↓jc_eq_f, ↓jc_ne_t, ↓jc_ne_f, ↓jc_lt_t, ↓jc_lt_f, ↓jc_ge_t, ↓jc_ge_f, ↓jc_gt_t, ↓jc_gt_f, ↓jc_le_t, ↓jc_le_f, dvk, tJ5_append_3fe6f, jtb, jol, dvl, dal, dst, jlk, jcmp, jbin, jfl, qJ5, jc2, qlJ5, jcat, jel, lv_args, Value.category, jins, jsrt, jins2, jble, jblt, jf3, List.filter_cons, List.filter_nil, Dlo, Dnr, DnL, Dfree, Droom, DuS_S, DuS_I, DuS_L, DuS_R, DuS_N, DuS_A, DuI_S, DuI_I, DuI_L, DuI_R, DuI_N, DuI_A, DuL_S, DuL_I, DuL_L, DuL_R, DuL_N, DuL_A, DuR_S, DuR_I, DuR_L, DuR_R, DuR_N, DuR_A, Dnw_S, Dnw_I, Dnw_L, Dnw_R, Dnw_N, Dnw_A, DrI_S, DrI_I, DrI_L, DrI_R, DrI_N, DrI_A, DrJ_S, DrJ_I, DrJ_L, DrJ_R, DrJ_N, DrJ_A, dm64, G_d, G_x0, -Int32.not_le, -Int32.not_lt, -Int64.not_le, -Int64.not_lt, i3lt, i6lt, c1]
  try simp (disch := omega) [-Prod.forall, -Prod.exists, -Prod.mk.injEq, -Int32.not_le, -Int32.not_lt, -Int64.not_le, -Int64.not_lt, i3lt, i6lt, c1]
  have hc := EJ1_canEncode (g := g) (h0 := z.2.2.2.2) k c [.int (nI c)] τ ⟨rfl, hc9⟩
  refine dr_callS (idx := 191) (mt' := mJ1_canEncode_fc78d) (tl := []) (n' := k) (mc := 0) (ms := 0) (as := [.int (nI c)]) ⟨by omega, by show 8 + (1 + 11) + 64 * (k) ≤ _; omega, by omega, by omega⟩ trivial (by decide +kernel) (Or.inl hJ5_191) WJ1_canEncode_fc78d rfl rfl (by simp [Value.category]) hc ?_
  rintro v ρ ⟨rfl, rfl⟩
  show DW g z mJ5_append_3fe6f 21 _ [.int 1] ρ 1 700
  refine dvk_ok (nC := n + 5) DJ5_append_3fe6f hTyA hR (VC := []) (VD := []) (SD := []) (AL := []) (fun _ h => absurd h List.not_mem_nil) (fun _ h => absurd h List.not_mem_nil) (fun _ h => absurd h List.not_mem_nil) [33] 20 _ _ _ _ _ _ ?_
  simp (maxSteps := 1000000) [↓Bool.cond_eq_ite, -Prod.forall, -Prod.exists, -Prod.mk.injEq, ↓jc_eq_t, ↓jc_eq_f, ↓jc_ne_t, ↓jc_ne_f, ↓jc_lt_t, ↓jc_lt_f, ↓jc_ge_t, ↓jc_ge_f, ↓jc_gt_t, ↓jc_gt_f, ↓jc_le_t, ↓jc_le_f, dvk, tJ5_append_3fe6f, jtb, jol, dvl, dal, dst, jlk, jcmp, jbin, jfl, qJ5, jc2, qlJ5, jcat, jel, lv_args, Value.category, jins, jsrt, jins2, jble, jblt, jf3, List.filter_cons, List.filter_nil, Dlo, Dnr, DnL, Dfree, Droom, DuS_S, DuS_I, DuS_L, DuS_R, DuS_N, DuS_A, DuI_S, DuI_I, DuI_L, DuI_R, DuI_N, DuI_A, DuL_S, DuL_I, DuL_L, DuL_R, DuL_N, DuL_A, DuR_S, DuR_I, DuR_L, DuR_R, DuR_N, DuR_A, Dnw_S, Dnw_I, Dnw_L, Dnw_R, Dnw_N, Dnw_A, DrI_S, DrI_I, DrI_L, DrI_R, DrI_N, DrI_A, DrJ_S, DrJ_I, DrJ_L, DrJ_R, DrJ_N, DrJ_A, dm64, G_d, G_x0, -Int32.not_le, -Int32.not_lt, -Int64.not_le, -Int64.not_lt, i3lt, i6lt, c1, u1, u2, u4, G_t]
  try simp (disch := omega) [-Prod.forall, -Prod.exists, -Prod.mk.injEq, -Int32.not_le, -Int32.not_lt, -Int64.not_le, -Int64.not_lt, i3lt, i6lt, c1, u1, u2, u4, G_t]
  refine dr_dupx1 rfl rfl (by decide +kernel) ?_
  have j1 : jin (nI n) m' := jin_nI (by omega) (by have := r1.2.2.1.2; omega)
  have en : (nI n).toNatClampNeg = n := nI_clamp (by omega)
  obtain ⟨-, b1, b2, -⟩ := bf_t c hc9
  refine DW.cl (fun hcl9 => ?_)
  obtain ⟨t1, t2, t3, t4⟩ := sbP_S r1 (fun _ _ => hc9) (sbP_1 hc9) r2
  have eS : DuI (DuI ρ 1800 3 (nI (n + 1))) 1600 n (nI c) = DuI (DuI ρ 1600 n (nI c)) 1800 3 (nI (n + 1)) := by
    refine Prod.ext rfl (Prod.ext (funext fun i => funext fun j => ?_) rfl)
    show (if i = 1600 ∧ j = n then nI c else if i = 1800 ∧ j = 3 then nI (n + 1) else DI ρ i j) = if i = 1800 ∧ j = 3 then nI (n + 1) else if i = 1600 ∧ j = n then nI c else DI ρ i j
    by_cases q1 : i = 1600 ∧ j = n
    · rw [if_pos q1, if_neg (by omega), if_pos q1]
    · rw [if_neg q1, if_neg q1]
  refine dvk_ok (nC := n + 5) DJ5_append_3fe6f hTyA hR (VC := []) (VD := []) (SD := []) (AL := []) (fun _ h => absurd h List.not_mem_nil) (fun _ h => absurd h List.not_mem_nil) (fun _ h => absurd h List.not_mem_nil) [] 20 _ _ _ _ _ _ ?_
  simp (maxSteps := 1000000) [↓Bool.cond_eq_ite, -Prod.forall, -Prod.exists, -Prod.mk.injEq, ↓jc_eq_t, ↓jc_eq_f, ↓jc_ne_t, ↓jc_ne_f, ↓jc_lt_t, ↓jc_lt_f, ↓jc_ge_t, ↓jc_ge_f, ↓jc_gt_t, ↓jc_gt_f, ↓jc_le_t, ↓jc_le_f, dvk, tJ5_append_3fe6f, jtb, jol, dvl, dal, dst, jlk, jcmp, jbin, jfl, qJ5, jc2, qlJ5, jcat, jel, lv_args, Value.category, jins, jsrt, jins2, jble, jblt, jf3, List.filter_cons, List.filter_nil, Dlo, Dnr, DnL, Dfree, Droom, DuS_S, DuS_I, DuS_L, DuS_R, DuS_N, DuS_A, DuI_S, DuI_I, DuI_L, DuI_R, DuI_N, DuI_A, DuL_S, DuL_I, DuL_L, DuL_R, DuL_N, DuL_A, DuR_S, DuR_I, DuR_L, DuR_R, DuR_N, DuR_A, Dnw_S, Dnw_I, Dnw_L, Dnw_R, Dnw_N, Dnw_A, DrI_S, DrI_I, DrI_L, DrI_R, DrI_N, DrI_A, DrJ_S, DrJ_I, DrJ_L, DrJ_R, DrJ_N, DrJ_A, dm64, G_d, G_x0, -Int32.not_le, -Int32.not_lt, -Int64.not_le, -Int64.not_lt, i3lt, i6lt, u1, u5, u6, G_t, e1, j1, en, b1, b2]
  try simp (disch := omega) [-Prod.forall, -Prod.exists, -Prod.mk.injEq, -Int32.not_le, -Int32.not_lt, -Int64.not_le, -Int64.not_lt, i3lt, i6lt, u1, u5, u6, G_t, e1, j1, en, b1, b2]
  exact ⟨⟨by omega, by omega⟩, _, Dsub.rfl (δ := DuI (DuI ρ 1800 3 (nI (n + 1))) 1600 n (nI c)) hcl9, hp _ _ ⟨rfl, m', by rw [eS]; exact t1, by rw [eS]; exact r3.tr t2, r4, txQ_I r5 rfl rfl⟩⟩
set_option maxRecDepth 100000 in
set_option maxHeartbeats 4000000 in
theorem EJ4_appendC (hE : dEt g h0) (k : Nat) (f : Nat → Nat) (n m c : Nat) : dOk g h0 (k + 5) 1 700 [1600, 1601] mJ4_append_cf468 (dAc f n m c) := by
  refine doRI_ok ?_
  rintro _ _ σ ⟨rfl, rfl, hc9, hs, hw⟩
  refine dCon.gt (by decide +kernel) (by simp [lg_sl, Value.category]) (fun z hz0 hkp hcl hz post hp hR => ?_)
  subst hz0
  simp only [DkF] at hkp
  have hA9 : DA σ 1800 = true := hs.1.1.1
  show DW g z mJ4_append_cf468 0 [(0, .ref 1800), (1, .int (nI c))] [] σ 0 0
  refine dvk_ok (nC := n + 6) DJ4_append_cf468 hTyA hR (VC := []) (VD := []) (SD := []) (AL := []) (fun _ h => absurd h List.not_mem_nil) (fun _ h => absurd h List.not_mem_nil) (fun _ h => absurd h List.not_mem_nil) [2] 10 _ _ _ _ _ _ ?_
  simp (maxSteps := 1000000) [↓Bool.cond_eq_ite, -Prod.forall, -Prod.exists, -Prod.mk.injEq, ↓jc_eq_t, ↓jc_eq_f, ↓jc_ne_t, ↓jc_ne_f, ↓jc_lt_t, ↓jc_lt_f, ↓jc_ge_t, ↓jc_ge_f, ↓jc_gt_t, ↓jc_gt_f, ↓jc_le_t, ↓jc_le_f, dvk, tJ4_append_cf468, jtb, jol, dvl, dal, dst, jlk, jcmp, jbin, jfl, qJ4, jc2, qlJ4, jcat, jel, lv_args, Value.category, jins, jsrt, jins2, jble, jblt, jf3, List.filter_cons, List.filter_nil, Dlo, Dnr, DnL, Dfree, Droom, DuS_S, DuS_I, DuS_L, DuS_R, DuS_N, DuS_A, DuI_S, DuI_I, DuI_L, DuI_R, DuI_N, DuI_A, DuL_S, DuL_I, DuL_L, DuL_R, DuL_N, DuL_A, DuR_S, DuR_I, DuR_L, DuR_R, DuR_N, DuR_A, Dnw_S, Dnw_I, Dnw_L, Dnw_R, Dnw_N, Dnw_A, DrI_S, DrI_I, DrI_L, DrI_R, DrI_N, DrI_A, DrJ_S, DrJ_I, DrJ_L, DrJ_R, DrJ_N, DrJ_A, dm64, G_d, G_x0, -Int32.not_le, -Int32.not_lt, -Int64.not_le, -Int64.not_lt, i3lt, i6lt]
  try simp (disch := omega) [-Prod.forall, -Prod.exists, -Prod.mk.injEq, -Int32.not_le, -Int32.not_lt, -Int64.not_le, -Int64.not_lt, i3lt, i6lt]
  have hc := EJ5_appendC (g := g) (h0 := z.2.2.2.2) hE k f n m c [.ref 1800, .int (nI c)] σ ⟨rfl, rfl, hc9, hs, hw⟩
  refine dr_callSU (idx := 50) (mt' := mJ5_append_3fe6f) (tl := [1600, 1601]) (n' := k + 4) (mc := 1) (ms := 700) (C := "java/lang/StringBuilder") (ci := 14) (T := TJ4) (N := 4) (a := 1800) (as := [.int (nI c)]) ⟨by omega, by show 8 + (2 + 11) + 64 * (k + 4) ≤ _; omega, by omega, by omega⟩ (by simp [Dfree, DnL, Dnr, hkp]) (by decide +kernel) hJ4_50 (jGw_of 1706 (by decide +kernel) (by decide +kernel)) (jGw_of 771 (by decide +kernel) (by decide +kernel)) UJ5_append_3fe6f (by decide +kernel) rfl (by decide +kernel) hA9 rfl rfl (by simp [Value.category]) hc ?_
  rintro v τ ⟨rfl, hτ⟩
  show DW g z mJ4_append_cf468 5 _ [.ref 1800] τ 1 700
  refine DW.cl (fun hcl9 => ?_)
  refine dvk_ok (nC := n + 6) DJ4_append_cf468 hTyA hR (VC := []) (VD := []) (SD := []) (AL := []) (fun _ h => absurd h List.not_mem_nil) (fun _ h => absurd h List.not_mem_nil) (fun _ h => absurd h List.not_mem_nil) [] 10 _ _ _ _ _ _ ?_
  simp (maxSteps := 1000000) [↓Bool.cond_eq_ite, -Prod.forall, -Prod.exists, -Prod.mk.injEq, ↓jc_eq_t, ↓jc_eq_f, ↓jc_ne_t, ↓jc_ne_f, ↓jc_lt_t, ↓jc_lt_f, ↓jc_ge_t, ↓jc_ge_f, ↓jc_gt_t, ↓jc_gt_f, ↓jc_le_t, ↓jc_le_f, dvk, tJ4_append_cf468, jtb, jol, dvl, dal, dst, jlk, jcmp, jbin, jfl, qJ4, jc2, qlJ4, jcat, jel, lv_args, Value.category, jins, jsrt, jins2, jble, jblt, jf3, List.filter_cons, List.filter_nil, Dlo, Dnr, DnL, Dfree, Droom, DuS_S, DuS_I, DuS_L, DuS_R, DuS_N, DuS_A, DuI_S, DuI_I, DuI_L, DuI_R, DuI_N, DuI_A, DuL_S, DuL_I, DuL_L, DuL_R, DuL_N, DuL_A, DuR_S, DuR_I, DuR_L, DuR_R, DuR_N, DuR_A, Dnw_S, Dnw_I, Dnw_L, Dnw_R, Dnw_N, Dnw_A, DrI_S, DrI_I, DrI_L, DrI_R, DrI_N, DrI_A, DrJ_S, DrJ_I, DrJ_L, DrJ_R, DrJ_N, DrJ_A, dm64, G_d, G_x0, -Int32.not_le, -Int32.not_lt, -Int64.not_le, -Int64.not_lt, i3lt, i6lt]
  try simp (disch := omega) [-Prod.forall, -Prod.exists, -Prod.mk.injEq, -Int32.not_le, -Int32.not_lt, -Int64.not_le, -Int64.not_lt, i3lt, i6lt]
  exact ⟨⟨by omega, by omega⟩, _, Dsub.rfl hcl9, hp _ _ ⟨rfl, hτ⟩⟩
end EMA
