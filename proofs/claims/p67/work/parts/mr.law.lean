/-! the law's Desk.<init>: its text: the rooms -/
/-- the text so far is q; what its making needs isn't there -/
def ixS (σ : dM) (q : Nat) (f : Nat → Nat) (w : Nat) : Prop := (q = 1700 ∨ (q = 370 ∧ DA σ 1700 = false ∧ DA σ 1610 = false)) ∧ txt σ q f w ∧ txQ σ ∧ (DA σ 1800 = false ∧ DA σ 1600 = false ∧ DA σ 1601 = false) ∧ DA σ 1701 = false ∧ DA σ 1611 = false
def ixK (k : Nat) : Prop := k = 1800 ∨ k = 1600 ∨ k = 1601 ∨ k = 1701 ∨ k = 1611 ∨ k = 1700 ∨ k = 1610
/-- the names are free -/
def ixF (z : dZ) : Prop := (z.2.2.1 1800 = false ∧ z.2.2.1 1600 = false ∧ z.2.2.1 1601 = false) ∧ (z.2.2.1 1701 = false ∧ z.2.2.1 1611 = false) ∧ z.2.2.1 1700 = false ∧ z.2.2.1 1610 = false
theorem txt_c (σ : dM) {i : Nat} (hi : i < 25) : txt σ (354 + i) (stN i) (sLn i) := ⟨by have := (stN_ok i hi).1; omega, Or.inr (Or.inr (Or.inr ⟨i, hi, rfl, rfl, fun _ _ => rfl⟩))⟩
theorem ldc_X {g : jG} {h0 : Nat} (hE : dEt g h0) {i : Nat} (hi : i < 25) : ∀ (U : State) (H : Heap), jE g U H → vk_R (stT.getD i ("", 0, "")).1 (stT.getD i ("", 0, "")).2.1 (stT.getD i ("", 0, "")).2.2 (jad g (354 + i)) U := fun U H h => (hE.2 U H h).1.1.2.1 i hi
/-- the text is called 1700, the builder is given up -/
theorem ix_end {σ υ : dM} {f f' : Nat → Nat} {q w w' : Nat} (h : ixS σ q f w) (hw : w' ≤ 300) (u1 : tsS υ 1701 1611 f' w') (u2 : tfr (fun k => k ≠ 1800 ∧ k ≠ 1600 ∧ k ≠ 1601 ∧ k ≠ 1701 ∧ k ≠ 1611) σ υ) (u3 : txQ υ) (u4 : DA υ 1601 = false) : ixS (txMv υ 1700 1610) 1700 f' w' ∧ tfr (fun k => ¬ ixK k) σ (txMv υ 1700 1610) := by
  have hs : (1700 = 1700 ∧ (1610 : Nat) = 1610) ∨ ((1700 : Nat) = 1702 ∧ (1610 : Nat) = 1612) := Or.inl ⟨rfl, rfl⟩
  obtain ⟨x1, x2, x3⟩ := txMv_ok hs u3 u1
  have A : ∀ a, a = 1800 ∨ a = 1600 ∨ a = 1701 ∨ a = 1611 → DA (txMv υ 1700 1610) a = false := fun a ha => by
    rw [txM_A hs, if_neg (by omega), if_pos ha]
  refine ⟨⟨Or.inl rfl, ⟨hw, Or.inl ⟨rfl, x1⟩⟩, x2, ⟨A 1800 (by omega), A 1600 (by omega), ?_⟩, A 1701 (by omega), A 1611 (by omega)⟩, (u2.weak ?_).tr (x3.weak ?_)⟩
  · rw [txM_A hs, if_neg (by omega), if_neg (by omega)]
    exact u4
  · intro k hk
    unfold ixK at hk
    omega
  · intro k hk
    unfold ixK at hk
    omega
/-- "room a;" behind the text -/
def rmT (f : Nat → Nat) (w i : Nat) : Nat → Nat := tcat (tcat (tcat (tcat (fun _ => 0) 0 f) w (stN 17)) (w + 5) (fun _ => 97 + i)) (w + 5 + 1) (stN 18)
section EMR
variable {g : jG} {z : dZ} {k : Nat} {R : Option Value → dM → Nat → Nat → Prop}
theorem in_room {σ : dM} {f : Nat → Nat} {q w i c0 s0 : Nat} {y3 : Int32} (hR : dRok g z mX12_init R) (hT : dEt g z.2.2.2.2) (hz : k + 6 ≤ z.1.frames ∧ 64 * (k + 6) ≤ z.1.locals ∧ c0 + 8 ≤ z.1.cells ∧ s0 + 3524 ≤ z.1.slots) (hkp : ixF z) (h : ixS σ q f w) (hw : w + 7 ≤ 300) (hi : i < 6)
    (kk : ∀ τ, tfr (fun k => ¬ ixK k) σ τ → ixS τ 1700 (rmT f w i) (w + 5 + 1 + 1) → DW g z mX12_init 226 [(0, .ref 1000), (1, .ref 380), (2, .ref 1700), (3, .int y3), (4, .int (nI i))] [] τ (c0 + 8) (s0 + 3524)) : DW g z mX12_init 192 [(0, .ref 1000), (1, .ref 380), (2, .ref q), (3, .int y3), (4, .int (nI i))] [] σ c0 s0 := by
  have hE := hT.1
  have n := k
  obtain ⟨hq, ht, hQ, hA, hB⟩ := id h
  obtain ⟨hk1, hk2, hk3⟩ := hkp
  have q1 : ¬ q = 1800 ∧ ¬ q = 1600 ∧ ¬ q = 1601 ∧ ¬ q = 1701 ∧ ¬ q = 1611 ∧ ¬ q = 1610 := by omega
  refine dr_nsb (k := k) (j1 := 78) (idx := 80) hT ⟨by omega, by omega, by omega, by omega⟩ ⟨hk1.1, hk1.2.1⟩ hA hQ (by simp [DnL, q1]) (by simp [Dnr]) (by simp) (jGw_of 741 (by decide +kernel) (by decide +kernel)) hX12_80 (by decide +kernel) (by decide +kernel) (by decide +kernel) (fun τ1 h1 => ?_)
  refine dvk_ok (nC := n + 10) DX12_init_b hTyA hR (VC := [(131, 2, 11, oX11_load)]) (VD := []) (SD := [(33, 2, 0, n + 0, 0, 0, 0, [], dL_mod)]) (AL := []) (List.forall_mem_cons.mpr ⟨⟨mX11_load, n + 10, 1, TX11, 9, rfl, by omega, hX12_131, WX11_load, rfl, CX11_load g (n) hE.1⟩, (fun _ h => absurd h List.not_mem_nil)⟩) (fun _ h => absurd h List.not_mem_nil) (List.forall_mem_cons.mpr ⟨⟨mL_mod, by decide, Or.inr ⟨_, hX12_33⟩, WL_mod, EL_mod g _ n⟩, (fun _ h => absurd h List.not_mem_nil)⟩) [200] 10 _ _ _ _ _ _ ?_
  simp (maxSteps := 1000000) [↓Bool.cond_eq_ite, -Prod.forall, -Prod.exists, -Prod.mk.injEq, ↓jc_eq_t, ↓jc_eq_f, ↓jc_ne_t, ↓jc_ne_f, ↓jc_lt_t, ↓jc_lt_f, ↓jc_ge_t, ↓jc_ge_f, ↓jc_gt_t, ↓jc_gt_f, ↓jc_le_t, ↓jc_le_f, dvk, tX12_init_b, jtb, jol, dvl, dal, dst, jlk, jcmp, jbin, jfl, qX12, jc2, qlX12, jcat, jel, lv_args, Value.category, jins, jsrt, jins2, jble, jblt, jf3, List.filter_cons, List.filter_nil, Dlo, Dnr, DnL, Dfree, Droom, DuS_S, DuS_I, DuS_L, DuS_R, DuS_N, DuS_A, DuI_S, DuI_I, DuI_L, DuI_R, DuI_N, DuI_A, DuL_S, DuL_I, DuL_L, DuL_R, DuL_N, DuL_A, DuR_S, DuR_I, DuR_L, DuR_R, DuR_N, DuR_A, Dnw_S, Dnw_I, Dnw_L, Dnw_R, Dnw_N, Dnw_A, DrI_S, DrI_I, DrI_L, DrI_R, DrI_N, DrI_A, DrJ_S, DrJ_I, DrJ_L, DrJ_R, DrJ_N, DrJ_A, dm64, G_d, G_x0, dL_mod, oX11_load, doII, joRI, -Int32.not_le, -Int32.not_lt, -Int64.not_le, -Int64.not_lt, i3lt, i6lt]
  try simp (disch := omega) [-Prod.forall, -Prod.exists, -Prod.mk.injEq, -Int32.not_le, -Int32.not_lt, -Int64.not_le, -Int64.not_lt, i3lt, i6lt]
  refine dr_apS (k := k) (idx := 81) hT ⟨by omega, by omega, by omega, by omega⟩ hk1.2 (by simp [DnL, q1]) (by simp [Dnr]) (by simp) (h1 (fun _ => 0)) ht (by omega) hX12_81 (by decide +kernel) (fun τ2 h2 => ?_)
  rw [Nat.zero_add] at h2
  refine dr_ldcS (q := 371) (by decide) (ldc_X hT (i := 17) (by decide)) (by decide +kernel) ?_
  refine dr_apS (k := k) (idx := 81) hT ⟨by omega, by omega, by omega, by omega⟩ hk1.2 (by simp [DnL, q1]) (by simp [Dnr]) (by simp) h2 (txt_c σ (i := 17) (by decide)) (by rw [show sLn 17 = 5 by decide]; omega) hX12_81 (by decide +kernel) (fun τ3 h3 => ?_)
  rw [show sLn 17 = 5 by decide] at h3
  have e1 : 97 + nI i = nI (97 + i) := nI_add 97 i
  have e2 := (bf_t (97 + i) (by omega)).2.2.2.2.2.1
  refine dvk_ok (nC := n + 10) DX12_init_b hTyA hR (VC := [(131, 2, 11, oX11_load)]) (VD := []) (SD := [(33, 2, 0, n + 0, 0, 0, 0, [], dL_mod)]) (AL := []) (List.forall_mem_cons.mpr ⟨⟨mX11_load, n + 10, 1, TX11, 9, rfl, by omega, hX12_131, WX11_load, rfl, CX11_load g (n) hE.1⟩, (fun _ h => absurd h List.not_mem_nil)⟩) (fun _ h => absurd h List.not_mem_nil) (List.forall_mem_cons.mpr ⟨⟨mL_mod, by decide, Or.inr ⟨_, hX12_33⟩, WL_mod, EL_mod g _ n⟩, (fun _ h => absurd h List.not_mem_nil)⟩) [214] 10 _ _ _ _ _ _ ?_
  simp (maxSteps := 1000000) [↓Bool.cond_eq_ite, -Prod.forall, -Prod.exists, -Prod.mk.injEq, ↓jc_eq_t, ↓jc_eq_f, ↓jc_ne_t, ↓jc_ne_f, ↓jc_lt_t, ↓jc_lt_f, ↓jc_ge_t, ↓jc_ge_f, ↓jc_gt_t, ↓jc_gt_f, ↓jc_le_t, ↓jc_le_f, dvk, tX12_init_b, jtb, jol, dvl, dal, dst, jlk, jcmp, jbin, jfl, qX12, jc2, qlX12, jcat, jel, lv_args, Value.category, jins, jsrt, jins2, jble, jblt, jf3, List.filter_cons, List.filter_nil, Dlo, Dnr, DnL, Dfree, Droom, DuS_S, DuS_I, DuS_L, DuS_R, DuS_N, DuS_A, DuI_S, DuI_I, DuI_L, DuI_R, DuI_N, DuI_A, DuL_S, DuL_I, DuL_L, DuL_R, DuL_N, DuL_A, DuR_S, DuR_I, DuR_L, DuR_R, DuR_N, DuR_A, Dnw_S, Dnw_I, Dnw_L, Dnw_R, Dnw_N, Dnw_A, DrI_S, DrI_I, DrI_L, DrI_R, DrI_N, DrI_A, DrJ_S, DrJ_I, DrJ_L, DrJ_R, DrJ_N, DrJ_A, dm64, G_d, G_x0, dL_mod, oX11_load, doII, joRI, -Int32.not_le, -Int32.not_lt, -Int64.not_le, -Int64.not_lt, i3lt, i6lt, e1, e2]
  try simp (disch := omega) [-Prod.forall, -Prod.exists, -Prod.mk.injEq, -Int32.not_le, -Int32.not_lt, -Int64.not_le, -Int64.not_lt, i3lt, i6lt, e1, e2]
  refine dr_apC (k := k) (idx := 87) hT ⟨by omega, by omega, by omega, by omega⟩ hk1.2 (by simp [DnL, q1]) (by simp [Dnr]) (by simp) h3 (by omega) (by omega) hX12_87 (by decide +kernel) (fun τ4 h4 => ?_)
  refine dr_ldcS (q := 372) (by decide) (ldc_X hT (i := 18) (by decide)) (by decide +kernel) ?_
  refine dr_apS (k := k) (idx := 81) hT ⟨by omega, by omega, by omega, by omega⟩ hk1.2 (by simp [DnL, q1]) (by simp [Dnr]) (by simp) h4 (txt_c σ (i := 18) (by decide)) (by rw [show sLn 18 = 1 by decide]; omega) hX12_81 (by decide +kernel) (fun τ5 h5 => ?_)
  rw [show sLn 18 = 1 by decide] at h5
  refine dr_toS (k := k) (idx := 92) hT ⟨by omega, by omega, by omega, by omega⟩ hk2 (by simp [DnL, q1]) (by simp [Dnr]) (by simp) h5 hB hX12_92 (by decide +kernel) (fun τ6 u1 u2 u3 u4 => ?_)
  refine dvk_ok (nC := n + 10) DX12_init_b hTyA hR (VC := [(131, 2, 11, oX11_load)]) (VD := []) (SD := [(33, 2, 0, n + 0, 0, 0, 0, [], dL_mod)]) (AL := []) (List.forall_mem_cons.mpr ⟨⟨mX11_load, n + 10, 1, TX11, 9, rfl, by omega, hX12_131, WX11_load, rfl, CX11_load g (n) hE.1⟩, (fun _ h => absurd h List.not_mem_nil)⟩) (fun _ h => absurd h List.not_mem_nil) (List.forall_mem_cons.mpr ⟨⟨mL_mod, by decide, Or.inr ⟨_, hX12_33⟩, WL_mod, EL_mod g _ n⟩, (fun _ h => absurd h List.not_mem_nil)⟩) [226] 10 _ _ _ _ _ _ ?_
  simp (maxSteps := 1000000) [↓Bool.cond_eq_ite, -Prod.forall, -Prod.exists, -Prod.mk.injEq, ↓jc_eq_t, ↓jc_eq_f, ↓jc_ne_t, ↓jc_ne_f, ↓jc_lt_t, ↓jc_lt_f, ↓jc_ge_t, ↓jc_ge_f, ↓jc_gt_t, ↓jc_gt_f, ↓jc_le_t, ↓jc_le_f, dvk, tX12_init_b, jtb, jol, dvl, dal, dst, jlk, jcmp, jbin, jfl, qX12, jc2, qlX12, jcat, jel, lv_args, Value.category, jins, jsrt, jins2, jble, jblt, jf3, List.filter_cons, List.filter_nil, Dlo, Dnr, DnL, Dfree, Droom, DuS_S, DuS_I, DuS_L, DuS_R, DuS_N, DuS_A, DuI_S, DuI_I, DuI_L, DuI_R, DuI_N, DuI_A, DuL_S, DuL_I, DuL_L, DuL_R, DuL_N, DuL_A, DuR_S, DuR_I, DuR_L, DuR_R, DuR_N, DuR_A, Dnw_S, Dnw_I, Dnw_L, Dnw_R, Dnw_N, Dnw_A, DrI_S, DrI_I, DrI_L, DrI_R, DrI_N, DrI_A, DrJ_S, DrJ_I, DrJ_L, DrJ_R, DrJ_N, DrJ_A, dm64, G_d, G_x0, dL_mod, oX11_load, doII, joRI, -Int32.not_le, -Int32.not_lt, -Int64.not_le, -Int64.not_lt, i3lt, i6lt]
  try simp (disch := omega) [-Prod.forall, -Prod.exists, -Prod.mk.injEq, -Int32.not_le, -Int32.not_lt, -Int64.not_le, -Int64.not_lt, i3lt, i6lt]
  obtain ⟨x1, x2⟩ := ix_end h (by omega) u1 u2 u3 u4
  refine DW_txMv (s := 1700) (r := 1610) (Or.inl ⟨rfl, rfl⟩) u3 u1 hk3 (by simp [DnL]) (by simp [DnL, DrL, Drv]) ?_
  exact DW.wide (c1 := c0 + 8) (s1 := s0 + 3524) (by omega) (by omega) (kk _ x2 x1)
end EMR
