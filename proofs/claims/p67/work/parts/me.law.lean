/-! a StringBuilder's toString, its making; a letter of a String -/
section EME
variable {g : jG} {h0 : Nat}
def doRRN (f : Nat → Nat → dM → Prop × (Option Value → dM → Prop)) : dO := fun args σ => match args with
  | [.ref a0, .ref a1, .null] => f a0 a1 σ
  | _ => (False, fun _ _ => False)
theorem doRRN_ok {n mc ms : Nat} {tl : List Nat} {mt : jMt} {f : Nat → Nat → dM → Prop × (Option Value → dM → Prop)} (h : ∀ (a0 a1 : Nat) (σ : dM), (f a0 a1 σ).1 → dCon g h0 n mc ms tl mt [.ref a0, .ref a1, .null] σ (f a0 a1 σ).2) : dOk g h0 n mc ms tl mt (doRRN f) := by
  intro args σ hp
  unfold doRRN at hp ⊢
  split at hp
  · exact h _ _ σ hp
  · exact hp.elim
/-- a String made out of the builder -/
def tsP (σ τ : dM) (f : Nat → Nat) (n : Nat) : Prop := tsS τ 1701 1611 f n ∧ tfr (fun k => k ≠ 1701 ∧ k ≠ 1611) σ τ ∧ txQ τ
theorem tsP_of {σ τ : dM} {f : Nat → Nat} {n m : Nat} (hs : sbS σ f n m) (hQ : txQ σ) (hA : DA σ 1701 = true) (h : rgA (DuI σ 1701 1 0) τ n) : tsP σ (DuR τ 1701 0 (some 1611)) f n := by
  obtain ⟨h1, h2, h3, h4, h5, h6⟩ := h
  have g7 := h1.2 1701 (by omega)
  have e7 : ∀ j, DI τ 1701 j = DI (DuI σ 1701 1 0) 1701 j := fun j => by rw [g7.1]
  refine ⟨⟨⟨g7.2.2.2.2.trans hA, by rw [DuR_R, if_pos ⟨rfl, rfl⟩], by show DI τ 1701 1 = 0; rw [e7, DuI_I, if_pos ⟨rfl, rfl⟩]⟩, ⟨h2, h3⟩, fun j hj => ?_, h5⟩, ⟨h1.1, fun k hk => ?_⟩, fun k j q k1 k2 k3 e q1 q2 => ?_⟩
  · have := hs.2.2.2.1 j hj
    show DI τ 1611 j = _ ∧ _
    rw [h4 j hj, DuI_I, if_neg (by omega)]
    exact this
  · obtain ⟨a1, a2, a3, a4, a5⟩ := h1.2 k hk.2
    refine ⟨a5, fun _ _ _ => ⟨?_, a2, funext fun j => ?_, a4⟩⟩
    · refine Eq.trans a1 (funext fun j => ?_)
      rw [DuI_I, if_neg (fun z => hk.1 z.1)]
    · rw [DuR_R, if_neg (fun z => hk.1 z.1), a3]
      rfl
  · rw [DuR_R] at e
    by_cases c : k = 1701 ∧ j = 0
    · rw [if_pos c] at e
      cases e
      exact ⟨c.2, Or.inr (Or.inr (Or.inr (Or.inl ⟨rfl, c.1⟩)))⟩
    · rw [if_neg c] at e
      by_cases c2 : k = 1611
      · rw [c2, h6] at e
        cases e
      · obtain ⟨a1, a2, a3, a4, a5⟩ := h1.2 k c2
        rw [a3] at e
        exact hQ k j q k1 k2 (by rw [← k3]; exact a5.symm) e q1 q2
def dSi (f : Nat → Nat) (n m : Nat) : dO := doRRN fun a b σ => (a = 1701 ∧ b = 1800 ∧ DA σ 1701 = true ∧ sbS σ f n m ∧ txQ σ ∧ DA σ 1611 = false, fun v τ => v = none ∧ tsP σ τ f n)
set_option maxRecDepth 100000 in
set_option maxHeartbeats 4000000 in
theorem EJ0_init2 (hE : dEt g h0) (k : Nat) (f : Nat → Nat) (w m : Nat) : dOk g h0 (k + 3) 1 700 [1611] mJ0_init_db425 (dSi f w m) := by
  refine doRRN_ok ?_
  rintro _ _ σ ⟨rfl, rfl, hA, hs, hQ, hA1⟩
  refine dCon.gt (by decide +kernel) (by simp [lg_sl, Value.category]) (fun z hz0 hkp hcl hz post hp hR => ?_)
  subst hz0
  simp only [DkF] at hkp
  obtain ⟨h1, h2, h3, h4⟩ := hs.1
  obtain ⟨h5, h6⟩ := hs.2.1
  have n := k
  have hA9 : DA σ 1800 = true := h1
  show DW g z mJ0_init_db425 0 [(0, .ref 1701), (1, .ref 1800), (2, .null)] [] σ 0 0
  refine dvk_ok (nC := n + 4) DJ0_init_db425 hTyA hR (VC := []) (VD := []) (SD := []) (AL := []) (fun _ h => absurd h List.not_mem_nil) (fun _ h => absurd h List.not_mem_nil) (fun _ h => absurd h List.not_mem_nil) [1] 10 _ _ _ _ _ _ ?_
  simp (maxSteps := 1000000) [↓Bool.cond_eq_ite, -Prod.forall, -Prod.exists, -Prod.mk.injEq, ↓jc_eq_t, ↓jc_eq_f, ↓jc_ne_t, ↓jc_ne_f, ↓jc_lt_t, ↓jc_lt_f, ↓jc_ge_t, ↓jc_ge_f, ↓jc_gt_t, ↓jc_gt_f, ↓jc_le_t, ↓jc_le_f, dvk, tJ0_init_db425, jtb, jol, dvl, dal, dst, jlk, jcmp, jbin, jfl, qJ0, jc2, qlJ0, jcat, jel, lv_args, Value.category, jins, jsrt, jins2, jble, jblt, jf3, List.filter_cons, List.filter_nil, Dlo, Dnr, DnL, Dfree, Droom, DuS_S, DuS_I, DuS_L, DuS_R, DuS_N, DuS_A, DuI_S, DuI_I, DuI_L, DuI_R, DuI_N, DuI_A, DuL_S, DuL_I, DuL_L, DuL_R, DuL_N, DuL_A, DuR_S, DuR_I, DuR_L, DuR_R, DuR_N, DuR_A, Dnw_S, Dnw_I, Dnw_L, Dnw_R, Dnw_N, Dnw_A, DrI_S, DrI_I, DrI_L, DrI_R, DrI_N, DrI_A, DrJ_S, DrJ_I, DrJ_L, DrJ_R, DrJ_N, DrJ_A, dm64, G_d, G_x0, -Int32.not_le, -Int32.not_lt, -Int64.not_le, -Int64.not_lt, i3lt, i6lt]
  try simp (disch := omega) [-Prod.forall, -Prod.exists, -Prod.mk.injEq, -Int32.not_le, -Int32.not_lt, -Int64.not_le, -Int64.not_lt, i3lt, i6lt]
  refine dr_objI (show Cond.methodLink RJ0 1 objectInit ∈ jGw from jGw_of 924 (by decide +kernel) (by decide +kernel)) ⟨by omega, by omega⟩ (by simp) (by decide +kernel) ?_
  refine dvk_ok (nC := n + 4) DJ0_init_db425 hTyA hR (VC := []) (VD := []) (SD := []) (AL := []) (fun _ h => absurd h List.not_mem_nil) (fun _ h => absurd h List.not_mem_nil) (fun _ h => absurd h List.not_mem_nil) [5] 10 _ _ _ _ _ _ ?_
  simp (maxSteps := 1000000) [↓Bool.cond_eq_ite, -Prod.forall, -Prod.exists, -Prod.mk.injEq, ↓jc_eq_t, ↓jc_eq_f, ↓jc_ne_t, ↓jc_ne_f, ↓jc_lt_t, ↓jc_lt_f, ↓jc_ge_t, ↓jc_ge_f, ↓jc_gt_t, ↓jc_gt_f, ↓jc_le_t, ↓jc_le_f, dvk, tJ0_init_db425, jtb, jol, dvl, dal, dst, jlk, jcmp, jbin, jfl, qJ0, jc2, qlJ0, jcat, jel, lv_args, Value.category, jins, jsrt, jins2, jble, jblt, jf3, List.filter_cons, List.filter_nil, Dlo, Dnr, DnL, Dfree, Droom, DuS_S, DuS_I, DuS_L, DuS_R, DuS_N, DuS_A, DuI_S, DuI_I, DuI_L, DuI_R, DuI_N, DuI_A, DuL_S, DuL_I, DuL_L, DuL_R, DuL_N, DuL_A, DuR_S, DuR_I, DuR_L, DuR_R, DuR_N, DuR_A, Dnw_S, Dnw_I, Dnw_L, Dnw_R, Dnw_N, Dnw_A, DrI_S, DrI_I, DrI_L, DrI_R, DrI_N, DrI_A, DrJ_S, DrJ_I, DrJ_L, DrJ_R, DrJ_N, DrJ_A, dm64, G_d, G_x0, -Int32.not_le, -Int32.not_lt, -Int64.not_le, -Int64.not_lt, i3lt, i6lt]
  try simp (disch := omega) [-Prod.forall, -Prod.exists, -Prod.mk.injEq, -Int32.not_le, -Int32.not_lt, -Int64.not_le, -Int64.not_lt, i3lt, i6lt]
  have hc := EJ5_getValue (g := g) (h0 := z.2.2.2.2) k [.ref 1800] σ ⟨rfl, h1, h2⟩
  refine dr_callU (idx := 552) (mt' := mJ5_getValue_6d5f1) (tl := []) (n' := k) (mc := 0) (ms := 0) (C := "java/lang/StringBuilder") (x := yJ5_getValue_6d5f1) (ci := 14) (T := TJ4) (N := 4) (a := 1800) (as := []) ⟨by omega, by show 8 + (1 + 11) + 64 * (k) ≤ _; omega, by omega, by omega⟩ trivial (by decide +kernel) hJ0_552 (jGw_of 927 (by decide +kernel) (by decide +kernel)) (Or.inl (jGw_of 928 (by decide +kernel) (by decide +kernel))) ⟨UJ5_getValue_6d5f1.2, _, _, _, UJ5_getValue_6d5f1.1.2.1⟩ rfl (by decide +kernel) UJ5_getValue_6d5f1 rfl (by decide +kernel) hA9 rfl rfl (by simp [Value.category]) hc ?_
  rintro v τ ⟨rfl, rfl⟩
  show DW g z mJ0_init_db425 8 _ [.ref 1600] τ 0 0
  refine dvk_ok (nC := n + 4) DJ0_init_db425 hTyA hR (VC := []) (VD := []) (SD := []) (AL := []) (fun _ h => absurd h List.not_mem_nil) (fun _ h => absurd h List.not_mem_nil) (fun _ h => absurd h List.not_mem_nil) [10] 10 _ _ _ _ _ _ ?_
  simp (maxSteps := 1000000) [↓Bool.cond_eq_ite, -Prod.forall, -Prod.exists, -Prod.mk.injEq, ↓jc_eq_t, ↓jc_eq_f, ↓jc_ne_t, ↓jc_ne_f, ↓jc_lt_t, ↓jc_lt_f, ↓jc_ge_t, ↓jc_ge_f, ↓jc_gt_t, ↓jc_gt_f, ↓jc_le_t, ↓jc_le_f, dvk, tJ0_init_db425, jtb, jol, dvl, dal, dst, jlk, jcmp, jbin, jfl, qJ0, jc2, qlJ0, jcat, jel, lv_args, Value.category, jins, jsrt, jins2, jble, jblt, jf3, List.filter_cons, List.filter_nil, Dlo, Dnr, DnL, Dfree, Droom, DuS_S, DuS_I, DuS_L, DuS_R, DuS_N, DuS_A, DuI_S, DuI_I, DuI_L, DuI_R, DuI_N, DuI_A, DuL_S, DuL_I, DuL_L, DuL_R, DuL_N, DuL_A, DuR_S, DuR_I, DuR_L, DuR_R, DuR_N, DuR_A, Dnw_S, Dnw_I, Dnw_L, Dnw_R, Dnw_N, Dnw_A, DrI_S, DrI_I, DrI_L, DrI_R, DrI_N, DrI_A, DrJ_S, DrJ_I, DrJ_L, DrJ_R, DrJ_N, DrJ_A, dm64, G_d, G_x0, -Int32.not_le, -Int32.not_lt, -Int64.not_le, -Int64.not_lt, i3lt, i6lt]
  try simp (disch := omega) [-Prod.forall, -Prod.exists, -Prod.mk.injEq, -Int32.not_le, -Int32.not_lt, -Int64.not_le, -Int64.not_lt, i3lt, i6lt]
  have hc := EJ4_length (g := g) (h0 := z.2.2.2.2) k w [.ref 1800] τ ⟨rfl, h1, h4⟩
  refine dr_callU (idx := 549) (mt' := mJ4_length_8abf5) (tl := []) (n' := k + 1) (mc := 0) (ms := 0) (C := "java/lang/StringBuilder") (x := yJ5_length_8abf5) (ci := 14) (T := TJ4) (N := 4) (a := 1800) (as := []) ⟨by omega, by show 8 + (1 + 11) + 64 * (k + 1) ≤ _; omega, by omega, by omega⟩ trivial (by decide +kernel) hJ0_549 (jGw_of 932 (by decide +kernel) (by decide +kernel)) (Or.inl (jGw_of 933 (by decide +kernel) (by decide +kernel))) ⟨UJ5_length_8abf5.2, _, _, _, UJ5_length_8abf5.1.2.1⟩ rfl (by decide +kernel) UJ4_length_8abf5 rfl (by decide +kernel) hA9 rfl rfl (by simp) hc ?_
  rintro v τ9 ⟨rfl, rfl⟩
  show DW g z mJ0_init_db425 13 _ [.int (nI w)] τ9 0 0
  refine dvk_ok (nC := n + 4) DJ0_init_db425 hTyA hR (VC := []) (VD := []) (SD := []) (AL := []) (fun _ h => absurd h List.not_mem_nil) (fun _ h => absurd h List.not_mem_nil) (fun _ h => absurd h List.not_mem_nil) [16] 10 _ _ _ _ _ _ ?_
  simp (maxSteps := 1000000) [↓Bool.cond_eq_ite, -Prod.forall, -Prod.exists, -Prod.mk.injEq, ↓jc_eq_t, ↓jc_eq_f, ↓jc_ne_t, ↓jc_ne_f, ↓jc_lt_t, ↓jc_lt_f, ↓jc_ge_t, ↓jc_ge_f, ↓jc_gt_t, ↓jc_gt_f, ↓jc_le_t, ↓jc_le_f, dvk, tJ0_init_db425, jtb, jol, dvl, dal, dst, jlk, jcmp, jbin, jfl, qJ0, jc2, qlJ0, jcat, jel, lv_args, Value.category, jins, jsrt, jins2, jble, jblt, jf3, List.filter_cons, List.filter_nil, Dlo, Dnr, DnL, Dfree, Droom, DuS_S, DuS_I, DuS_L, DuS_R, DuS_N, DuS_A, DuI_S, DuI_I, DuI_L, DuI_R, DuI_N, DuI_A, DuL_S, DuL_I, DuL_L, DuL_R, DuL_N, DuL_A, DuR_S, DuR_I, DuR_L, DuR_R, DuR_N, DuR_A, Dnw_S, Dnw_I, Dnw_L, Dnw_R, Dnw_N, Dnw_A, DrI_S, DrI_I, DrI_L, DrI_R, DrI_N, DrI_A, DrJ_S, DrJ_I, DrJ_L, DrJ_R, DrJ_N, DrJ_A, dm64, G_d, G_x0, -Int32.not_le, -Int32.not_lt, -Int64.not_le, -Int64.not_lt, i3lt, i6lt]
  try simp (disch := omega) [-Prod.forall, -Prod.exists, -Prod.mk.injEq, -Int32.not_le, -Int32.not_lt, -Int64.not_le, -Int64.not_lt, i3lt, i6lt]
  have hc := EJ5_isLatin1 (g := g) (h0 := z.2.2.2.2) hE k [.ref 1800] τ9 ⟨rfl, h1, h3⟩
  refine dr_callU (idx := 1047) (mt' := mJ5_isLatin1_aae02) (tl := []) (n' := k) (mc := 0) (ms := 0) (C := "java/lang/StringBuilder") (x := yJ5_isLatin1_aae02) (ci := 14) (T := TJ4) (N := 4) (a := 1800) (as := []) ⟨by omega, by show 8 + (1 + 11) + 64 * (k) ≤ _; omega, by omega, by omega⟩ trivial (by decide +kernel) hJ0_1047 (jGw_of 816 (by decide +kernel) (by decide +kernel)) (Or.inl (jGw_of 817 (by decide +kernel) (by decide +kernel))) ⟨UJ5_isLatin1_aae02.2, _, _, _, UJ5_isLatin1_aae02.1.2.1⟩ rfl (by decide +kernel) UJ5_isLatin1_aae02 rfl (by decide +kernel) hA9 rfl rfl (by simp [Value.category]) hc ?_
  rintro v σ9 ⟨rfl, rfl⟩
  show DW g z mJ0_init_db425 19 _ [.int 1] σ9 0 0
  have c1 := c1_n0
  refine dvk_ok (nC := n + 4) DJ0_init_db425 hTyA hR (VC := []) (VD := []) (SD := []) (AL := []) (fun _ h => absurd h List.not_mem_nil) (fun _ h => absurd h List.not_mem_nil) (fun _ h => absurd h List.not_mem_nil) [24] 10 _ _ _ _ _ _ ?_
  simp (maxSteps := 1000000) [↓Bool.cond_eq_ite, -Prod.forall, -Prod.exists, -Prod.mk.injEq, ↓jc_eq_t, ↓jc_eq_f, ↓jc_ne_t, ↓jc_ne_f, ↓jc_lt_t, ↓jc_lt_f, ↓jc_ge_t, ↓jc_ge_f, ↓jc_gt_t, ↓jc_gt_f, ↓jc_le_t, ↓jc_le_f, dvk, tJ0_init_db425, jtb, jol, dvl, dal, dst, jlk, jcmp, jbin, jfl, qJ0, jc2, qlJ0, jcat, jel, lv_args, Value.category, jins, jsrt, jins2, jble, jblt, jf3, List.filter_cons, List.filter_nil, Dlo, Dnr, DnL, Dfree, Droom, DuS_S, DuS_I, DuS_L, DuS_R, DuS_N, DuS_A, DuI_S, DuI_I, DuI_L, DuI_R, DuI_N, DuI_A, DuL_S, DuL_I, DuL_L, DuL_R, DuL_N, DuL_A, DuR_S, DuR_I, DuR_L, DuR_R, DuR_N, DuR_A, Dnw_S, Dnw_I, Dnw_L, Dnw_R, Dnw_N, Dnw_A, DrI_S, DrI_I, DrI_L, DrI_R, DrI_N, DrI_A, DrJ_S, DrJ_I, DrJ_L, DrJ_R, DrJ_N, DrJ_A, dm64, G_d, G_x0, -Int32.not_le, -Int32.not_lt, -Int64.not_le, -Int64.not_lt, i3lt, i6lt, c1]
  try simp (disch := omega) [-Prod.forall, -Prod.exists, -Prod.mk.injEq, -Int32.not_le, -Int32.not_lt, -Int64.not_le, -Int64.not_lt, i3lt, i6lt, c1]
  refine dr_putFi (f := 1) (C := RJ0) (ty := .byte) dcls_J0 (by decide) (show Cond.fieldLink RJ0 15 "java/lang/String" "coder" "B" ∈ jGw from jGw_of 962 (by decide +kernel) (by decide +kernel)) rfl rfl rfl rfl (by decide +kernel) ⟨rfl, by decide⟩ (by decide +kernel) hA (by decide +kernel) ?_
  refine dvk_ok (nC := n + 4) DJ0_init_db425 hTyA hR (VC := []) (VD := []) (SD := []) (AL := []) (fun _ h => absurd h List.not_mem_nil) (fun _ h => absurd h List.not_mem_nil) (fun _ h => absurd h List.not_mem_nil) [32] 10 _ _ _ _ _ _ ?_
  simp (maxSteps := 1000000) [↓Bool.cond_eq_ite, -Prod.forall, -Prod.exists, -Prod.mk.injEq, ↓jc_eq_t, ↓jc_eq_f, ↓jc_ne_t, ↓jc_ne_f, ↓jc_lt_t, ↓jc_lt_f, ↓jc_ge_t, ↓jc_ge_f, ↓jc_gt_t, ↓jc_gt_f, ↓jc_le_t, ↓jc_le_f, dvk, tJ0_init_db425, jtb, jol, dvl, dal, dst, jlk, jcmp, jbin, jfl, qJ0, jc2, qlJ0, jcat, jel, lv_args, Value.category, jins, jsrt, jins2, jble, jblt, jf3, List.filter_cons, List.filter_nil, Dlo, Dnr, DnL, Dfree, Droom, DuS_S, DuS_I, DuS_L, DuS_R, DuS_N, DuS_A, DuI_S, DuI_I, DuI_L, DuI_R, DuI_N, DuI_A, DuL_S, DuL_I, DuL_L, DuL_R, DuL_N, DuL_A, DuR_S, DuR_I, DuR_L, DuR_R, DuR_N, DuR_A, Dnw_S, Dnw_I, Dnw_L, Dnw_R, Dnw_N, Dnw_A, DrI_S, DrI_I, DrI_L, DrI_R, DrI_N, DrI_A, DrJ_S, DrJ_I, DrJ_L, DrJ_R, DrJ_N, DrJ_A, dm64, G_d, G_x0, -Int32.not_le, -Int32.not_lt, -Int64.not_le, -Int64.not_lt, i3lt, i6lt]
  try simp (disch := omega) [-Prod.forall, -Prod.exists, -Prod.mk.injEq, -Int32.not_le, -Int32.not_lt, -Int64.not_le, -Int64.not_lt, i3lt, i6lt]
  have hc := EJ7_copyOfRange (g := g) (h0 := z.2.2.2.2) hE k w m [.ref 1600, .int 0, .int (nI w)] (DuI σ9 1701 1 0) ⟨rfl, rfl, rfl, ⟨h5, h6, hs.2.2.1.1, hs.2.2.1.2⟩, fun j => by rw [DuI_I, if_neg (by omega)]; exact hs.2.2.2.2 j, hA1⟩
  refine dr_callS (idx := 54) (mt' := mJ7_copyOfRange_39247) (tl := [1611]) (n' := k + 2) (mc := 1) (ms := 700) (as := [.ref 1600, .int 0, .int (nI w)]) ⟨by omega, by show 8 + (3 + 11) + 64 * (k + 2) ≤ _; omega, by omega, by omega⟩ (by simp [Dfree, DnL, Dnr, hkp]) (by decide +kernel) (Or.inl hJ0_54) WJ7_copyOfRange_39247 rfl rfl (by simp [Value.category]) hc ?_
  rintro v υ ⟨rfl, hυ⟩
  show DW g z mJ0_init_db425 35 _ [.ref 1611, .ref 1701] υ 1 700
  have u7 : DA υ 1701 = true := (hυ.1.2 1701 (by omega)).2.2.2.2.trans hA
  refine dr_putFr (f := 0) (C := RJ0) (ty := .array .byte) dcls_J0 (by decide) (show Cond.fieldLink RJ0 9 "java/lang/String" "value" "[B" ∈ jGw from jGw_of 961 (by decide +kernel) (by decide +kernel)) rfl rfl rfl rfl (by decide +kernel) rfl (by decide +kernel) u7 (Or.inr (Dal_hi (by decide) (by decide) hυ.2.1)) (by decide +kernel) ?_
  have fin := tsP_of hs hQ hA hυ
  refine DW.cl (fun hcl9 => ?_)
  refine dvk_ok (nC := n + 4) DJ0_init_db425 hTyA hR (VC := []) (VD := []) (SD := []) (AL := []) (fun _ h => absurd h List.not_mem_nil) (fun _ h => absurd h List.not_mem_nil) (fun _ h => absurd h List.not_mem_nil) [] 10 _ _ _ _ _ _ ?_
  simp (maxSteps := 1000000) [↓Bool.cond_eq_ite, -Prod.forall, -Prod.exists, -Prod.mk.injEq, ↓jc_eq_t, ↓jc_eq_f, ↓jc_ne_t, ↓jc_ne_f, ↓jc_lt_t, ↓jc_lt_f, ↓jc_ge_t, ↓jc_ge_f, ↓jc_gt_t, ↓jc_gt_f, ↓jc_le_t, ↓jc_le_f, dvk, tJ0_init_db425, jtb, jol, dvl, dal, dst, jlk, jcmp, jbin, jfl, qJ0, jc2, qlJ0, jcat, jel, lv_args, Value.category, jins, jsrt, jins2, jble, jblt, jf3, List.filter_cons, List.filter_nil, Dlo, Dnr, DnL, Dfree, Droom, DuS_S, DuS_I, DuS_L, DuS_R, DuS_N, DuS_A, DuI_S, DuI_I, DuI_L, DuI_R, DuI_N, DuI_A, DuL_S, DuL_I, DuL_L, DuL_R, DuL_N, DuL_A, DuR_S, DuR_I, DuR_L, DuR_R, DuR_N, DuR_A, Dnw_S, Dnw_I, Dnw_L, Dnw_R, Dnw_N, Dnw_A, DrI_S, DrI_I, DrI_L, DrI_R, DrI_N, DrI_A, DrJ_S, DrJ_I, DrJ_L, DrJ_R, DrJ_N, DrJ_A, dm64, G_d, G_x0, -Int32.not_le, -Int32.not_lt, -Int64.not_le, -Int64.not_lt, i3lt, i6lt]
  try simp (disch := omega) [-Prod.forall, -Prod.exists, -Prod.mk.injEq, -Int32.not_le, -Int32.not_lt, -Int64.not_le, -Int64.not_lt, i3lt, i6lt]
  exact ⟨⟨by omega, by omega⟩, _, Dsub.rfl hcl9, hp _ _ ⟨rfl, fin⟩⟩
def dSi1 (f : Nat → Nat) (n m : Nat) : dO := doRR fun a b σ => (a = 1701 ∧ b = 1800 ∧ DA σ 1701 = true ∧ sbS σ f n m ∧ txQ σ ∧ DA σ 1611 = false, fun v τ => v = none ∧ tsP σ τ f n)
set_option maxRecDepth 100000 in
set_option maxHeartbeats 4000000 in
theorem EJ0_init1 (hE : dEt g h0) (k : Nat) (f : Nat → Nat) (w m : Nat) : dOk g h0 (k + 4) 1 700 [1611] mJ0_init_81219 (dSi1 f w m) := by
  refine doRR_ok ?_
  rintro _ _ σ ⟨rfl, rfl, hA, hs, hQ, hA1⟩
  refine dCon.gt (by decide +kernel) (by simp [lg_sl, Value.category]) (fun z hz0 hkp hcl hz post hp hR => ?_)
  subst hz0
  simp only [DkF] at hkp
  have n := k
  show DW g z mJ0_init_81219 0 [(0, .ref 1701), (1, .ref 1800)] [] σ 0 0
  refine dvk_ok (nC := n + 0) DJ0_init_81219 hTyA hR (VC := []) (VD := []) (SD := []) (AL := []) (fun _ h => absurd h List.not_mem_nil) (fun _ h => absurd h List.not_mem_nil) (fun _ h => absurd h List.not_mem_nil) [2] 10 _ _ _ _ _ _ ?_
  simp (maxSteps := 1000000) [↓Bool.cond_eq_ite, -Prod.forall, -Prod.exists, -Prod.mk.injEq, ↓jc_eq_t, ↓jc_eq_f, ↓jc_ne_t, ↓jc_ne_f, ↓jc_lt_t, ↓jc_lt_f, ↓jc_ge_t, ↓jc_ge_f, ↓jc_gt_t, ↓jc_gt_f, ↓jc_le_t, ↓jc_le_f, dvk, tJ0_init_81219, jtb, jol, dvl, dal, dst, jlk, jcmp, jbin, jfl, qJ0, jc2, qlJ0, jcat, jel, lv_args, Value.category, jins, jsrt, jins2, jble, jblt, jf3, List.filter_cons, List.filter_nil, Dlo, Dnr, DnL, Dfree, Droom, DuS_S, DuS_I, DuS_L, DuS_R, DuS_N, DuS_A, DuI_S, DuI_I, DuI_L, DuI_R, DuI_N, DuI_A, DuL_S, DuL_I, DuL_L, DuL_R, DuL_N, DuL_A, DuR_S, DuR_I, DuR_L, DuR_R, DuR_N, DuR_A, Dnw_S, Dnw_I, Dnw_L, Dnw_R, Dnw_N, Dnw_A, DrI_S, DrI_I, DrI_L, DrI_R, DrI_N, DrI_A, DrJ_S, DrJ_I, DrJ_L, DrJ_R, DrJ_N, DrJ_A, dm64, G_d, G_x0, -Int32.not_le, -Int32.not_lt, -Int64.not_le, -Int64.not_lt, i3lt, i6lt]
  try simp (disch := omega) [-Prod.forall, -Prod.exists, -Prod.mk.injEq, -Int32.not_le, -Int32.not_lt, -Int64.not_le, -Int64.not_lt, i3lt, i6lt]
  refine dr_null (by decide +kernel) ?_
  have hc := EJ0_init2 (g := g) (h0 := z.2.2.2.2) hE k f w m [.ref 1701, .ref 1800, .null] σ ⟨rfl, rfl, hA, hs, hQ, hA1⟩
  refine dr_callI (idx := 489) (mt' := mJ0_init_db425) (tl := [1611]) (n' := k + 3) (mc := 1) (ms := 700) (a := 1701) (as := [.ref 1800, .null]) ⟨by omega, by show 8 + (5 + 11) + 64 * (k + 3) ≤ _; omega, by omega, by omega⟩ (by simp [Dfree, DnL, Dnr, hkp]) (by decide +kernel) hJ0_489 WJ0_init_db425 rfl rfl (by simp [Value.category]) hc ?_
  rintro v τ ⟨rfl, hτ⟩
  show DW g z mJ0_init_81219 6 _ [] τ 1 700
  refine DW.cl (fun hcl9 => ?_)
  refine dvk_ok (nC := n + 0) DJ0_init_81219 hTyA hR (VC := []) (VD := []) (SD := []) (AL := []) (fun _ h => absurd h List.not_mem_nil) (fun _ h => absurd h List.not_mem_nil) (fun _ h => absurd h List.not_mem_nil) [] 10 _ _ _ _ _ _ ?_
  simp (maxSteps := 1000000) [↓Bool.cond_eq_ite, -Prod.forall, -Prod.exists, -Prod.mk.injEq, ↓jc_eq_t, ↓jc_eq_f, ↓jc_ne_t, ↓jc_ne_f, ↓jc_lt_t, ↓jc_lt_f, ↓jc_ge_t, ↓jc_ge_f, ↓jc_gt_t, ↓jc_gt_f, ↓jc_le_t, ↓jc_le_f, dvk, tJ0_init_81219, jtb, jol, dvl, dal, dst, jlk, jcmp, jbin, jfl, qJ0, jc2, qlJ0, jcat, jel, lv_args, Value.category, jins, jsrt, jins2, jble, jblt, jf3, List.filter_cons, List.filter_nil, Dlo, Dnr, DnL, Dfree, Droom, DuS_S, DuS_I, DuS_L, DuS_R, DuS_N, DuS_A, DuI_S, DuI_I, DuI_L, DuI_R, DuI_N, DuI_A, DuL_S, DuL_I, DuL_L, DuL_R, DuL_N, DuL_A, DuR_S, DuR_I, DuR_L, DuR_R, DuR_N, DuR_A, Dnw_S, Dnw_I, Dnw_L, Dnw_R, Dnw_N, Dnw_A, DrI_S, DrI_I, DrI_L, DrI_R, DrI_N, DrI_A, DrJ_S, DrJ_I, DrJ_L, DrJ_R, DrJ_N, DrJ_A, dm64, G_d, G_x0, -Int32.not_le, -Int32.not_lt, -Int64.not_le, -Int64.not_lt, i3lt, i6lt]
  try simp (disch := omega) [-Prod.forall, -Prod.exists, -Prod.mk.injEq, -Int32.not_le, -Int32.not_lt, -Int64.not_le, -Int64.not_lt, i3lt, i6lt]
  exact ⟨⟨by omega, by omega⟩, _, Dsub.rfl hcl9, hp _ _ ⟨rfl, hτ⟩⟩
theorem txQ_new {σ : dM} {a n : Nat} (h : txQ σ) : txQ (Dnw σ a n) := by
  intro k j q k1 k2 k3 e q1 q2
  rw [Dnw_R] at e
  by_cases c : k = a
  · rw [if_pos c] at e
    cases e
  · rw [if_neg c] at e
    rw [Dnw_A, if_neg c] at k3
    exact h k j q k1 k2 k3 e q1 q2
def dTs (f : Nat → Nat) (n m : Nat) : dO := doR fun a σ => (a = 1800 ∧ sbS σ f n m ∧ txQ σ ∧ DA σ 1611 = false ∧ DA σ 1701 = false, fun v τ => v = some (.ref 1701) ∧ tsP σ τ f n)
set_option maxRecDepth 100000 in
set_option maxHeartbeats 4000000 in
theorem EJ4_toString (hE : dEt g h0) (k : Nat) (f : Nat → Nat) (w m : Nat) : dOk g h0 (k + 5) 2 704 [1701, 1611] mJ4_toString_0e30d (dTs f w m) := by
  refine doR_ok ?_
  rintro _ σ ⟨rfl, hs, hQ, hA1, hA7⟩
  refine dCon.gt (by decide +kernel) (by simp [lg_sl, Value.category]) (fun z hz0 hkp hcl hz post hp hR => ?_)
  subst hz0
  simp only [DkF] at hkp
  have n := k
  show DW g z mJ4_toString_0e30d 0 [(0, .ref 1800)] [] σ 0 0
  refine dr_newO (a := 1701) (ci := 13) (C := RJ0) (T := TJ0) (N := 4) (ty9 := tyJ0) (by decide) (by decide +kernel) (by decide +kernel) dcls_J0 ⟨tyJ0_ok, by decide +kernel⟩ (show Cond.classLink RJ4 18 "java/lang/String" ∈ jGw from jGw_of 916 (by decide +kernel) (by decide +kernel)) (jGw_of 917 (by decide +kernel) (by decide +kernel)) (jGw_of 74 (by decide +kernel) (by decide +kernel)) hA7 (by simp [hkp]) (by omega) (by omega) (by simp [DnL]) (by simp [Dnr]) (by decide +kernel) ?_
  refine dvk_ok (nC := n + 0) DJ4_toString_0e30d hTyA hR (VC := []) (VD := []) (SD := []) (AL := []) (fun _ h => absurd h List.not_mem_nil) (fun _ h => absurd h List.not_mem_nil) (fun _ h => absurd h List.not_mem_nil) [5] 10 _ _ _ _ _ _ ?_
  simp (maxSteps := 1000000) [↓Bool.cond_eq_ite, -Prod.forall, -Prod.exists, -Prod.mk.injEq, ↓jc_eq_t, ↓jc_eq_f, ↓jc_ne_t, ↓jc_ne_f, ↓jc_lt_t, ↓jc_lt_f, ↓jc_ge_t, ↓jc_ge_f, ↓jc_gt_t, ↓jc_gt_f, ↓jc_le_t, ↓jc_le_f, dvk, tJ4_toString_0e30d, jtb, jol, dvl, dal, dst, jlk, jcmp, jbin, jfl, qJ4, jc2, qlJ4, jcat, jel, lv_args, Value.category, jins, jsrt, jins2, jble, jblt, jf3, List.filter_cons, List.filter_nil, Dlo, Dnr, DnL, Dfree, Droom, DuS_S, DuS_I, DuS_L, DuS_R, DuS_N, DuS_A, DuI_S, DuI_I, DuI_L, DuI_R, DuI_N, DuI_A, DuL_S, DuL_I, DuL_L, DuL_R, DuL_N, DuL_A, DuR_S, DuR_I, DuR_L, DuR_R, DuR_N, DuR_A, Dnw_S, Dnw_I, Dnw_L, Dnw_R, Dnw_N, Dnw_A, DrI_S, DrI_I, DrI_L, DrI_R, DrI_N, DrI_A, DrJ_S, DrJ_I, DrJ_L, DrJ_R, DrJ_N, DrJ_A, dm64, G_d, G_x0, -Int32.not_le, -Int32.not_lt, -Int64.not_le, -Int64.not_lt, i3lt, i6lt]
  try simp (disch := omega) [-Prod.forall, -Prod.exists, -Prod.mk.injEq, -Int32.not_le, -Int32.not_lt, -Int64.not_le, -Int64.not_lt, i3lt, i6lt]
  have hs2 : sbS (Dnw σ 1701 0) f w m := sbS_fr (P := fun k => k ≠ 1701) ⟨by omega, by omega⟩ (tfr_fr Dfr_nw) hs
  have hc := EJ0_init1 (g := g) (h0 := z.2.2.2.2) hE k f w m [.ref 1701, .ref 1800] (Dnw σ 1701 0) ⟨rfl, rfl, by rw [Dnw_A, if_pos rfl], hs2, txQ_new hQ, by rw [Dnw_A, if_neg (by omega)]; exact hA1⟩
  refine dr_callI (idx := 137) (mt' := mJ0_init_81219) (tl := [1611]) (n' := k + 4) (mc := 1) (ms := 700) (a := 1701) (as := [.ref 1800]) ⟨by omega, by show 8 + (2 + 11) + 64 * (k + 4) ≤ _; omega, by omega, by omega⟩ (by simp [Dfree, DnL, Dnr, hkp]) (by decide +kernel) hJ4_137 WJ0_init_81219 rfl rfl (by simp [Value.category]) hc ?_
  rintro v τ ⟨rfl, t1, t2, t3⟩
  show DW g z mJ4_toString_0e30d 8 _ [.ref 1701] τ 2 704
  refine DW.cl (fun hcl9 => ?_)
  refine dvk_ok (nC := n + 0) DJ4_toString_0e30d hTyA hR (VC := []) (VD := []) (SD := []) (AL := []) (fun _ h => absurd h List.not_mem_nil) (fun _ h => absurd h List.not_mem_nil) (fun _ h => absurd h List.not_mem_nil) [] 10 _ _ _ _ _ _ ?_
  simp (maxSteps := 1000000) [↓Bool.cond_eq_ite, -Prod.forall, -Prod.exists, -Prod.mk.injEq, ↓jc_eq_t, ↓jc_eq_f, ↓jc_ne_t, ↓jc_ne_f, ↓jc_lt_t, ↓jc_lt_f, ↓jc_ge_t, ↓jc_ge_f, ↓jc_gt_t, ↓jc_gt_f, ↓jc_le_t, ↓jc_le_f, dvk, tJ4_toString_0e30d, jtb, jol, dvl, dal, dst, jlk, jcmp, jbin, jfl, qJ4, jc2, qlJ4, jcat, jel, lv_args, Value.category, jins, jsrt, jins2, jble, jblt, jf3, List.filter_cons, List.filter_nil, Dlo, Dnr, DnL, Dfree, Droom, DuS_S, DuS_I, DuS_L, DuS_R, DuS_N, DuS_A, DuI_S, DuI_I, DuI_L, DuI_R, DuI_N, DuI_A, DuL_S, DuL_I, DuL_L, DuL_R, DuL_N, DuL_A, DuR_S, DuR_I, DuR_L, DuR_R, DuR_N, DuR_A, Dnw_S, Dnw_I, Dnw_L, Dnw_R, Dnw_N, Dnw_A, DrI_S, DrI_I, DrI_L, DrI_R, DrI_N, DrI_A, DrJ_S, DrJ_I, DrJ_L, DrJ_R, DrJ_N, DrJ_A, dm64, G_d, G_x0, -Int32.not_le, -Int32.not_lt, -Int64.not_le, -Int64.not_lt, i3lt, i6lt]
  try simp (disch := omega) [-Prod.forall, -Prod.exists, -Prod.mk.injEq, -Int32.not_le, -Int32.not_lt, -Int64.not_le, -Int64.not_lt, i3lt, i6lt]
  exact ⟨⟨by omega, by omega⟩, _, Dsub.rfl hcl9, hp _ _ ⟨rfl, t1, (tfr_fr (Dfr_nw.weak (fun k hk => hk.1))).tr t2, t3⟩⟩
end EME
