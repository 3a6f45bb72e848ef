/-! the law's Desk.<init>: its text: the rooms' loop, a person's head -/
theorem dkI_v : ∀ p, p < 5 → dkI (1110 + p) ∧ dkI (1200 + p) := fun p hp => by
  unfold dkI
  omega
theorem dk_tfr {P : Nat → Prop} {σ τ : dM} {N M : Nat} (hP : ∀ k, dkI k → P k) (f : tfr P σ τ) (h : dk σ N M) : dk τ N M := by
  have hN := h.1.1.2
  have g : ∀ k, dkI k → DA σ k = true → DI τ k = DI σ k ∧ DL τ k = DL σ k ∧ DR τ k = DR σ k ∧ DN τ k = DN σ k ∧ DA τ k = DA σ k := fun k hk hA => by
    obtain ⟨a1, a2⟩ := f.2 k (hP k hk)
    obtain ⟨b1, b2, b3, b4⟩ := a2 (by unfold dkI at hk; omega) (by unfold dkI at hk; omega) hA
    exact ⟨b1, b2, b3, b4, a1⟩
  obtain ⟨h1, h2, h3, h4, h5, h6⟩ := h
  obtain ⟨d0, d1, d2, d3, d4, d5, d6, d7, d8, d9⟩ := id h3
  have z0 := g 1000 (by unfold dkI; omega) d0
  have z1 := g 1100 (by unfold dkI; omega) d1
  have z2 := g 1101 (by unfold dkI; omega) d2
  have z3 := g 1102 (by unfold dkI; omega) d3
  have z4 := g 1103 (by unfold dkI; omega) d4
  have z5 := g 1104 (by unfold dkI; omega) d5
  have z6 := g 1300 (by unfold dkI; omega) d6
  have z7 := g 1400 (by unfold dkI; omega) d7
  have z8 := g 1500 (by unfold dkI; omega) d8
  have z9 := g 1900 (by unfold dkI; omega) d9
  refine ⟨h1, ?_, ?_, ?_, ?_, fun p hp => ?_⟩
  · rw [z0.1]; exact h2
  · rw [z0.2.2.2.2, z1.2.2.2.2, z2.2.2.2.2, z3.2.2.2.2, z4.2.2.2.2, z5.2.2.2.2, z6.2.2.2.2, z7.2.2.2.2, z8.2.2.2.2, z9.2.2.2.2]; exact h3
  · rw [z0.2.2.1]; exact h4
  · rw [z1.2.2.2.1, z2.2.2.2.1, z3.2.2.2.1, z4.2.2.2.1, z5.2.2.2.1, z6.2.2.2.1, z7.2.2.2.1, z8.2.2.2.1]; exact h5
  · obtain ⟨q1, q2, q3⟩ := h6 p hp
    have hp5 : p < 5 := Nat.lt_of_lt_of_le hp hN
    have v1 := g (1110 + p) (dkI_v p hp5).1 q1.2.1
    have v2 := g (1200 + p) (dkI_v p hp5).2 q2.2.1
    refine ⟨?_, ?_, ?_⟩
    · rw [z7.2.2.1, v1.2.2.2.2, v1.2.2.2.1]; exact q1
    · rw [z8.2.2.1, v2.2.2.2.2, v2.2.2.2.1]; exact q2
    · rw [v2.1]; exact q3
theorem dkI_x {k : Nat} (h : dkI k) : ¬ ixK k ∧ k ≠ 1800 ∧ k ≠ 1600 ∧ k ≠ 1601 := by
  unfold dkI at h
  unfold ixK
  omega
/-- the rooms' text -/
def rmsT (f : Nat → Nat) (w : Nat) : Nat → (Nat → Nat)
  | 0 => f
  | i + 1 => rmT (rmsT f w i) (w + 7 * i) i
section EMS
variable {g : jG} {z : dZ} {k : Nat} {R : Option Value → dM → Nat → Nat → Prop}
theorem in_rooms {N M w : Nat} {f : Nat → Nat} {y3 : Int32} (hR : dRok g z mX12_init R) (hT : dEt g z.2.2.2.2) (hkp : ixF z) : ∀ (d i : Nat) (q : Nat) (σ : dM) (c0 s0 : Nat), i + d = M → (k + 6 ≤ z.1.frames ∧ 64 * (k + 6) ≤ z.1.locals ∧ c0 + 8 * d ≤ z.1.cells ∧ s0 + 3524 * d ≤ z.1.slots) → dk σ N M → ixS σ q (rmsT f w i) (w + 7 * i) → w + 7 * M ≤ 300 →
    (∀ τ q', tfr (fun k => ¬ ixK k) σ τ → dk τ N M → ixS τ q' (rmsT f w M) (w + 7 * M) → DW g z mX12_init 232 [(0, .ref 1000), (1, .ref 380), (2, .ref q'), (3, .int y3), (4, .int (nI M))] [] τ (c0 + 8 * d) (s0 + 3524 * d)) → DW g z mX12_init 183 [(0, .ref 1000), (1, .ref 380), (2, .ref q), (3, .int y3), (4, .int (nI i))] [] σ c0 s0 := by
  intro d
  have hE := hT.1
  have n := k
  induction d with
  | zero =>
    intro i q σ c0 s0 h1 hz hd hx hw kk
    obtain rfl : i = M := by omega
    have hf := dk_f hd
    have hM := hd.1.2.2
    have p1 : nI i ≤ nI i := nI_le (Nat.le_refl _) (by omega)
    refine dvk_ok (nC := n + 10) DX12_init_b hTyA hR (VC := [(131, 2, 11, oX11_load)]) (VD := []) (SD := [(33, 2, 0, n + 0, 0, 0, 0, [], dL_mod)]) (AL := []) (List.forall_mem_cons.mpr ⟨⟨mX11_load, n + 10, 1, TX11, 9, rfl, by omega, hX12_131, WX11_load, rfl, CX11_load g (n) hE.1⟩, (fun _ h => absurd h List.not_mem_nil)⟩) (fun _ h => absurd h List.not_mem_nil) (List.forall_mem_cons.mpr ⟨⟨mL_mod, by decide, Or.inr ⟨_, hX12_33⟩, WL_mod, EL_mod g _ n⟩, (fun _ h => absurd h List.not_mem_nil)⟩) [232] 10 _ _ _ _ _ _ ?_
    simp (maxSteps := 1000000) [↓Bool.cond_eq_ite, -Prod.forall, -Prod.exists, -Prod.mk.injEq, ↓jc_eq_t, ↓jc_eq_f, ↓jc_ne_t, ↓jc_ne_f, ↓jc_lt_t, ↓jc_lt_f, ↓jc_ge_t, ↓jc_ge_f, ↓jc_gt_t, ↓jc_gt_f, ↓jc_le_t, ↓jc_le_f, dvk, tX12_init_b, jtb, jol, dvl, dal, dst, jlk, jcmp, jbin, jfl, qX12, jc2, qlX12, jcat, jel, lv_args, Value.category, jins, jsrt, jins2, jble, jblt, jf3, List.filter_cons, List.filter_nil, Dlo, Dnr, DnL, Dfree, Droom, DuS_S, DuS_I, DuS_L, DuS_R, DuS_N, DuS_A, DuI_S, DuI_I, DuI_L, DuI_R, DuI_N, DuI_A, DuL_S, DuL_I, DuL_L, DuL_R, DuL_N, DuL_A, DuR_S, DuR_I, DuR_L, DuR_R, DuR_N, DuR_A, Dnw_S, Dnw_I, Dnw_L, Dnw_R, Dnw_N, Dnw_A, DrI_S, DrI_I, DrI_L, DrI_R, DrI_N, DrI_A, DrJ_S, DrJ_I, DrJ_L, DrJ_R, DrJ_N, DrJ_A, dm64, G_d, G_x0, dL_mod, oX11_load, doII, joRI, -Int32.not_le, -Int32.not_lt, -Int64.not_le, -Int64.not_lt, i3lt, i6lt, hf, p1, G_d]
    try simp (disch := omega) [-Prod.forall, -Prod.exists, -Prod.mk.injEq, -Int32.not_le, -Int32.not_lt, -Int64.not_le, -Int64.not_lt, i3lt, i6lt, hf, p1, G_d]
    exact kk σ q tfr.rfl hd hx
  | succ d ih =>
    intro i q σ c0 s0 h1 hz hd hx hw kk
    have hf := dk_f hd
    have hM := hd.1.2.2
    have p1 : ¬ nI M ≤ nI i := nI_ge (by omega) (by omega)
    have e1 : nI i + 1 = nI (i + 1) := nI_add i 1
    refine dvk_ok (nC := n + 10) DX12_init_b hTyA hR (VC := [(131, 2, 11, oX11_load)]) (VD := []) (SD := [(33, 2, 0, n + 0, 0, 0, 0, [], dL_mod)]) (AL := []) (List.forall_mem_cons.mpr ⟨⟨mX11_load, n + 10, 1, TX11, 9, rfl, by omega, hX12_131, WX11_load, rfl, CX11_load g (n) hE.1⟩, (fun _ h => absurd h List.not_mem_nil)⟩) (fun _ h => absurd h List.not_mem_nil) (List.forall_mem_cons.mpr ⟨⟨mL_mod, by decide, Or.inr ⟨_, hX12_33⟩, WL_mod, EL_mod g _ n⟩, (fun _ h => absurd h List.not_mem_nil)⟩) [192] 10 _ _ _ _ _ _ ?_
    simp (maxSteps := 1000000) [↓Bool.cond_eq_ite, -Prod.forall, -Prod.exists, -Prod.mk.injEq, ↓jc_eq_t, ↓jc_eq_f, ↓jc_ne_t, ↓jc_ne_f, ↓jc_lt_t, ↓jc_lt_f, ↓jc_ge_t, ↓jc_ge_f, ↓jc_gt_t, ↓jc_gt_f, ↓jc_le_t, ↓jc_le_f, dvk, tX12_init_b, jtb, jol, dvl, dal, dst, jlk, jcmp, jbin, jfl, qX12, jc2, qlX12, jcat, jel, lv_args, Value.category, jins, jsrt, jins2, jble, jblt, jf3, List.filter_cons, List.filter_nil, Dlo, Dnr, DnL, Dfree, Droom, DuS_S, DuS_I, DuS_L, DuS_R, DuS_N, DuS_A, DuI_S, DuI_I, DuI_L, DuI_R, DuI_N, DuI_A, DuL_S, DuL_I, DuL_L, DuL_R, DuL_N, DuL_A, DuR_S, DuR_I, DuR_L, DuR_R, DuR_N, DuR_A, Dnw_S, Dnw_I, Dnw_L, Dnw_R, Dnw_N, Dnw_A, DrI_S, DrI_I, DrI_L, DrI_R, DrI_N, DrI_A, DrJ_S, DrJ_I, DrJ_L, DrJ_R, DrJ_N, DrJ_A, dm64, G_d, G_x0, dL_mod, oX11_load, doII, joRI, -Int32.not_le, -Int32.not_lt, -Int64.not_le, -Int64.not_lt, i3lt, i6lt, hf, p1, G_d]
    try simp (disch := omega) [-Prod.forall, -Prod.exists, -Prod.mk.injEq, -Int32.not_le, -Int32.not_lt, -Int64.not_le, -Int64.not_lt, i3lt, i6lt, hf, p1, G_d]
    refine in_room (k := k) hR hT ⟨by omega, by omega, by omega, by omega⟩ hkp hx (by omega) (by omega) (fun τ t1 t2 => ?_)
    refine dvk_ok (nC := n + 10) DX12_init_b hTyA hR (VC := [(131, 2, 11, oX11_load)]) (VD := []) (SD := [(33, 2, 0, n + 0, 0, 0, 0, [], dL_mod)]) (AL := []) (List.forall_mem_cons.mpr ⟨⟨mX11_load, n + 10, 1, TX11, 9, rfl, by omega, hX12_131, WX11_load, rfl, CX11_load g (n) hE.1⟩, (fun _ h => absurd h List.not_mem_nil)⟩) (fun _ h => absurd h List.not_mem_nil) (List.forall_mem_cons.mpr ⟨⟨mL_mod, by decide, Or.inr ⟨_, hX12_33⟩, WL_mod, EL_mod g _ n⟩, (fun _ h => absurd h List.not_mem_nil)⟩) [183] 10 _ _ _ _ _ _ ?_
    simp (maxSteps := 1000000) [↓Bool.cond_eq_ite, -Prod.forall, -Prod.exists, -Prod.mk.injEq, ↓jc_eq_t, ↓jc_eq_f, ↓jc_ne_t, ↓jc_ne_f, ↓jc_lt_t, ↓jc_lt_f, ↓jc_ge_t, ↓jc_ge_f, ↓jc_gt_t, ↓jc_gt_f, ↓jc_le_t, ↓jc_le_f, dvk, tX12_init_b, jtb, jol, dvl, dal, dst, jlk, jcmp, jbin, jfl, qX12, jc2, qlX12, jcat, jel, lv_args, Value.category, jins, jsrt, jins2, jble, jblt, jf3, List.filter_cons, List.filter_nil, Dlo, Dnr, DnL, Dfree, Droom, DuS_S, DuS_I, DuS_L, DuS_R, DuS_N, DuS_A, DuI_S, DuI_I, DuI_L, DuI_R, DuI_N, DuI_A, DuL_S, DuL_I, DuL_L, DuL_R, DuL_N, DuL_A, DuR_S, DuR_I, DuR_L, DuR_R, DuR_N, DuR_A, Dnw_S, Dnw_I, Dnw_L, Dnw_R, Dnw_N, Dnw_A, DrI_S, DrI_I, DrI_L, DrI_R, DrI_N, DrI_A, DrJ_S, DrJ_I, DrJ_L, DrJ_R, DrJ_N, DrJ_A, dm64, G_d, G_x0, dL_mod, oX11_load, doII, joRI, -Int32.not_le, -Int32.not_lt, -Int64.not_le, -Int64.not_lt, i3lt, i6lt, e1]
    try simp (disch := omega) [-Prod.forall, -Prod.exists, -Prod.mk.injEq, -Int32.not_le, -Int32.not_lt, -Int64.not_le, -Int64.not_lt, i3lt, i6lt, e1]
    refine ih (i + 1) 1700 τ (c0 + 8) (s0 + 3524) (by omega) ⟨by omega, by omega, by omega, by omega⟩ (dk_tfr (fun k hk => (dkI_x hk).1) t1 hd) (by rw [show w + 7 * (i + 1) = w + 7 * i + 5 + 1 + 1 by omega]; exact t2) hw (fun τ9 q' v1 v2 v3 => ?_)
    exact DW.wide (c1 := c0 + 8 * (d + 1)) (s1 := s0 + 3524 * (d + 1)) (by omega) (by omega) (kk τ9 q' (t1.tr v1) v2 v3)
/-- "person p v" behind the text -/
def peT (f : Nat → Nat) (w p v : Nat) : Nat → Nat := tcat (tcat (tcat (tcat (tcat (fun _ => 0) 0 f) w (stN 19)) (w + 7) (fun _ => 112 + p)) (w + 7 + 1) (stN 20)) (w + 7 + 1 + 1) (sb_dec v)
theorem in_person {σ : dM} {f : Nat → Nat} {q w p v N M c0 s0 : Nat} {y3 y5 : Int32} (hR : dRok g z mX12_init R) (hT : dEt g z.2.2.2.2) (hz : k + 6 ≤ z.1.frames ∧ 64 * (k + 6) ≤ z.1.locals ∧ c0 + 9 ≤ z.1.cells ∧ s0 + 4224 ≤ z.1.slots) (hkp : ixF z) (h : ixS σ q f w) (hd : dk σ N M) (hp : p < N) (hv : DI σ 1101 p = nI v) (hv9 : v < 10000) (hw : w + 9 + sb_dg v ≤ 300)
    (kk : ∀ τ, tfr (fun k => ¬ ixK k) σ τ → dk τ N M → ixS τ 1700 (peT f w p v) (w + 7 + 1 + 1 + sb_dg v) → DW g z mX12_init 338 [(0, .ref 1000), (1, .ref 380), (2, .ref 1700), (3, .int y3), (4, .int (nI p)), (5, .int y5)] [] τ (c0 + 9) (s0 + 4224)) : DW g z mX12_init 294 [(0, .ref 1000), (1, .ref 380), (2, .ref q), (3, .int y3), (4, .int (nI p)), (5, .int y5)] [] σ c0 s0 := by
  have hE := hT.1
  have n := k
  obtain ⟨hq, ht, hQ, hA, hB⟩ := id h
  obtain ⟨hk1, hk2, hk3⟩ := hkp
  have q1 : ¬ q = 1800 ∧ ¬ q = 1600 ∧ ¬ q = 1601 ∧ ¬ q = 1701 ∧ ¬ q = 1611 ∧ ¬ q = 1610 := by omega
  have hN := hd.1.1.2
  refine dr_nsb (k := k) (j1 := 78) (idx := 80) hT ⟨by omega, by omega, by omega, by omega⟩ ⟨hk1.1, hk1.2.1⟩ hA hQ (by simp [DnL, q1]) (by simp [Dnr]) (by simp) (jGw_of 741 (by decide +kernel) (by decide +kernel)) hX12_80 (by decide +kernel) (by decide +kernel) (by decide +kernel) (fun τ1 h1 => ?_)
  refine dvk_ok (nC := n + 10) DX12_init_c hTyA hR (VC := [(131, 2, 11, oX11_load)]) (VD := []) (SD := [(33, 2, 0, n + 0, 0, 0, 0, [], dL_mod)]) (AL := []) (List.forall_mem_cons.mpr ⟨⟨mX11_load, n + 10, 1, TX11, 9, rfl, by omega, hX12_131, WX11_load, rfl, CX11_load g (n) hE.1⟩, (fun _ h => absurd h List.not_mem_nil)⟩) (fun _ h => absurd h List.not_mem_nil) (List.forall_mem_cons.mpr ⟨⟨mL_mod, by decide, Or.inr ⟨_, hX12_33⟩, WL_mod, EL_mod g _ n⟩, (fun _ h => absurd h List.not_mem_nil)⟩) [302] 10 _ _ _ _ _ _ ?_
  simp (maxSteps := 1000000) [↓Bool.cond_eq_ite, -Prod.forall, -Prod.exists, -Prod.mk.injEq, ↓jc_eq_t, ↓jc_eq_f, ↓jc_ne_t, ↓jc_ne_f, ↓jc_lt_t, ↓jc_lt_f, ↓jc_ge_t, ↓jc_ge_f, ↓jc_gt_t, ↓jc_gt_f, ↓jc_le_t, ↓jc_le_f, dvk, tX12_init_c, jtb, jol, dvl, dal, dst, jlk, jcmp, jbin, jfl, qX12, jc2, qlX12, jcat, jel, lv_args, Value.category, jins, jsrt, jins2, jble, jblt, jf3, List.filter_cons, List.filter_nil, Dlo, Dnr, DnL, Dfree, Droom, DuS_S, DuS_I, DuS_L, DuS_R, DuS_N, DuS_A, DuI_S, DuI_I, DuI_L, DuI_R, DuI_N, DuI_A, DuL_S, DuL_I, DuL_L, DuL_R, DuL_N, DuL_A, DuR_S, DuR_I, DuR_L, DuR_R, DuR_N, DuR_A, Dnw_S, Dnw_I, Dnw_L, Dnw_R, Dnw_N, Dnw_A, DrI_S, DrI_I, DrI_L, DrI_R, DrI_N, DrI_A, DrJ_S, DrJ_I, DrJ_L, DrJ_R, DrJ_N, DrJ_A, dm64, G_d, G_x0, dL_mod, oX11_load, doII, joRI, -Int32.not_le, -Int32.not_lt, -Int64.not_le, -Int64.not_lt, i3lt, i6lt]
  try simp (disch := omega) [-Prod.forall, -Prod.exists, -Prod.mk.injEq, -Int32.not_le, -Int32.not_lt, -Int64.not_le, -Int64.not_lt, i3lt, i6lt]
  refine dr_apS (k := k) (idx := 81) hT ⟨by omega, by omega, by omega, by omega⟩ hk1.2 (by simp [DnL, q1]) (by simp [Dnr]) (by simp) (h1 (fun _ => 0)) ht (by omega) hX12_81 (by decide +kernel) (fun τ2 h2 => ?_)
  rw [Nat.zero_add] at h2
  refine dr_ldcS (q := 373) (by decide) (ldc_X hT (i := 19) (by decide)) (by decide +kernel) ?_
  refine dr_apS (k := k) (idx := 81) hT ⟨by omega, by omega, by omega, by omega⟩ hk1.2 (by simp [DnL, q1]) (by simp [Dnr]) (by simp) h2 (txt_c σ (i := 19) (by decide)) (by rw [show sLn 19 = 7 by decide]; omega) hX12_81 (by decide +kernel) (fun τ3 h3 => ?_)
  rw [show sLn 19 = 7 by decide] at h3
  have e1 : 112 + nI p = nI (112 + p) := nI_add 112 p
  have e2 := (bf_t (112 + p) (by omega)).2.2.2.2.2.1
  refine dvk_ok (nC := n + 10) DX12_init_c hTyA hR (VC := [(131, 2, 11, oX11_load)]) (VD := []) (SD := [(33, 2, 0, n + 0, 0, 0, 0, [], dL_mod)]) (AL := []) (List.forall_mem_cons.mpr ⟨⟨mX11_load, n + 10, 1, TX11, 9, rfl, by omega, hX12_131, WX11_load, rfl, CX11_load g (n) hE.1⟩, (fun _ h => absurd h List.not_mem_nil)⟩) (fun _ h => absurd h List.not_mem_nil) (List.forall_mem_cons.mpr ⟨⟨mL_mod, by decide, Or.inr ⟨_, hX12_33⟩, WL_mod, EL_mod g _ n⟩, (fun _ h => absurd h List.not_mem_nil)⟩) [316] 10 _ _ _ _ _ _ ?_
  simp (maxSteps := 1000000) [↓Bool.cond_eq_ite, -Prod.forall, -Prod.exists, -Prod.mk.injEq, ↓jc_eq_t, ↓jc_eq_f, ↓jc_ne_t, ↓jc_ne_f, ↓jc_lt_t, ↓jc_lt_f, ↓jc_ge_t, ↓jc_ge_f, ↓jc_gt_t, ↓jc_gt_f, ↓jc_le_t, ↓jc_le_f, dvk, tX12_init_c, jtb, jol, dvl, dal, dst, jlk, jcmp, jbin, jfl, qX12, jc2, qlX12, jcat, jel, lv_args, Value.category, jins, jsrt, jins2, jble, jblt, jf3, List.filter_cons, List.filter_nil, Dlo, Dnr, DnL, Dfree, Droom, DuS_S, DuS_I, DuS_L, DuS_R, DuS_N, DuS_A, DuI_S, DuI_I, DuI_L, DuI_R, DuI_N, DuI_A, DuL_S, DuL_I, DuL_L, DuL_R, DuL_N, DuL_A, DuR_S, DuR_I, DuR_L, DuR_R, DuR_N, DuR_A, Dnw_S, Dnw_I, Dnw_L, Dnw_R, Dnw_N, Dnw_A, DrI_S, DrI_I, DrI_L, DrI_R, DrI_N, DrI_A, DrJ_S, DrJ_I, DrJ_L, DrJ_R, DrJ_N, DrJ_A, dm64, G_d, G_x0, dL_mod, oX11_load, doII, joRI, -Int32.not_le, -Int32.not_lt, -Int64.not_le, -Int64.not_lt, i3lt, i6lt, e1, e2]
  try simp (disch := omega) [-Prod.forall, -Prod.exists, -Prod.mk.injEq, -Int32.not_le, -Int32.not_lt, -Int64.not_le, -Int64.not_lt, i3lt, i6lt, e1, e2]
  refine dr_apC (k := k) (idx := 87) hT ⟨by omega, by omega, by omega, by omega⟩ hk1.2 (by simp [DnL, q1]) (by simp [Dnr]) (by simp) h3 (by omega) (by omega) hX12_87 (by decide +kernel) (fun τ4 h4 => ?_)
  refine dr_ldcS (q := 374) (by decide) (ldc_X hT (i := 20) (by decide)) (by decide +kernel) ?_
  refine dr_apS (k := k) (idx := 81) hT ⟨by omega, by omega, by omega, by omega⟩ hk1.2 (by simp [DnL, q1]) (by simp [Dnr]) (by simp) h4 (txt_c σ (i := 20) (by decide)) (by rw [show sLn 20 = 1 by decide]; omega) hX12_81 (by decide +kernel) (fun τ5 h5 => ?_)
  rw [show sLn 20 = 1 by decide] at h5
  have hd5 : dk τ5 N M := dk_tfr (fun k hk => (dkI_x hk).2) h5.2 hd
  have hf := dk_f hd5
  have hv5 : DI τ5 1101 p = nI v := by
    have := ((h5.2.2 1101 (by omega)).2 (by omega) (by omega) hd.2.2.1.2.2.1).1
    rw [this]
    exact hv
  have jp : jin (nI p) N := jinN hp (by omega)
  have ep : (nI p).toNatClampNeg = p := nI_clamp (by omega)
  refine dvk_ok (nC := n + 10) DX12_init_c hTyA hR (VC := [(131, 2, 11, oX11_load)]) (VD := []) (SD := [(33, 2, 0, n + 0, 0, 0, 0, [], dL_mod)]) (AL := []) (List.forall_mem_cons.mpr ⟨⟨mX11_load, n + 10, 1, TX11, 9, rfl, by omega, hX12_131, WX11_load, rfl, CX11_load g (n) hE.1⟩, (fun _ h => absurd h List.not_mem_nil)⟩) (fun _ h => absurd h List.not_mem_nil) (List.forall_mem_cons.mpr ⟨⟨mL_mod, by decide, Or.inr ⟨_, hX12_33⟩, WL_mod, EL_mod g _ n⟩, (fun _ h => absurd h List.not_mem_nil)⟩) [331] 10 _ _ _ _ _ _ ?_
  simp (maxSteps := 1000000) [↓Bool.cond_eq_ite, -Prod.forall, -Prod.exists, -Prod.mk.injEq, ↓jc_eq_t, ↓jc_eq_f, ↓jc_ne_t, ↓jc_ne_f, ↓jc_lt_t, ↓jc_lt_f, ↓jc_ge_t, ↓jc_ge_f, ↓jc_gt_t, ↓jc_gt_f, ↓jc_le_t, ↓jc_le_f, dvk, tX12_init_c, jtb, jol, dvl, dal, dst, jlk, jcmp, jbin, jfl, qX12, jc2, qlX12, jcat, jel, lv_args, Value.category, jins, jsrt, jins2, jble, jblt, jf3, List.filter_cons, List.filter_nil, Dlo, Dnr, DnL, Dfree, Droom, DuS_S, DuS_I, DuS_L, DuS_R, DuS_N, DuS_A, DuI_S, DuI_I, DuI_L, DuI_R, DuI_N, DuI_A, DuL_S, DuL_I, DuL_L, DuL_R, DuL_N, DuL_A, DuR_S, DuR_I, DuR_L, DuR_R, DuR_N, DuR_A, Dnw_S, Dnw_I, Dnw_L, Dnw_R, Dnw_N, Dnw_A, DrI_S, DrI_I, DrI_L, DrI_R, DrI_N, DrI_A, DrJ_S, DrJ_I, DrJ_L, DrJ_R, DrJ_N, DrJ_A, dm64, G_d, G_x0, dL_mod, oX11_load, doII, joRI, -Int32.not_le, -Int32.not_lt, -Int64.not_le, -Int64.not_lt, i3lt, i6lt, hf, hv5, jp, ep, G_d]
  try simp (disch := omega) [-Prod.forall, -Prod.exists, -Prod.mk.injEq, -Int32.not_le, -Int32.not_lt, -Int64.not_le, -Int64.not_lt, i3lt, i6lt, hf, hv5, jp, ep, G_d]
  refine dr_apI (k := k) (idx := 100) hT ⟨by omega, by omega, by omega, by omega⟩ hk1.2 (by simp [DnL, q1]) (by simp [Dnr]) (by simp) h5 hv9 (by omega) hX12_100 (by decide +kernel) (fun τ7 h7 => ?_)
  refine dr_toS (k := k) (idx := 92) hT ⟨by omega, by omega, by omega, by omega⟩ hk2 (by simp [DnL, q1]) (by simp [Dnr]) (by simp) h7 hB hX12_92 (by decide +kernel) (fun τ6 u1 u2 u3 u4 => ?_)
  refine dvk_ok (nC := n + 10) DX12_init_c hTyA hR (VC := [(131, 2, 11, oX11_load)]) (VD := []) (SD := [(33, 2, 0, n + 0, 0, 0, 0, [], dL_mod)]) (AL := []) (List.forall_mem_cons.mpr ⟨⟨mX11_load, n + 10, 1, TX11, 9, rfl, by omega, hX12_131, WX11_load, rfl, CX11_load g (n) hE.1⟩, (fun _ h => absurd h List.not_mem_nil)⟩) (fun _ h => absurd h List.not_mem_nil) (List.forall_mem_cons.mpr ⟨⟨mL_mod, by decide, Or.inr ⟨_, hX12_33⟩, WL_mod, EL_mod g _ n⟩, (fun _ h => absurd h List.not_mem_nil)⟩) [338] 10 _ _ _ _ _ _ ?_
  simp (maxSteps := 1000000) [↓Bool.cond_eq_ite, -Prod.forall, -Prod.exists, -Prod.mk.injEq, ↓jc_eq_t, ↓jc_eq_f, ↓jc_ne_t, ↓jc_ne_f, ↓jc_lt_t, ↓jc_lt_f, ↓jc_ge_t, ↓jc_ge_f, ↓jc_gt_t, ↓jc_gt_f, ↓jc_le_t, ↓jc_le_f, dvk, tX12_init_c, jtb, jol, dvl, dal, dst, jlk, jcmp, jbin, jfl, qX12, jc2, qlX12, jcat, jel, lv_args, Value.category, jins, jsrt, jins2, jble, jblt, jf3, List.filter_cons, List.filter_nil, Dlo, Dnr, DnL, Dfree, Droom, DuS_S, DuS_I, DuS_L, DuS_R, DuS_N, DuS_A, DuI_S, DuI_I, DuI_L, DuI_R, DuI_N, DuI_A, DuL_S, DuL_I, DuL_L, DuL_R, DuL_N, DuL_A, DuR_S, DuR_I, DuR_L, DuR_R, DuR_N, DuR_A, Dnw_S, Dnw_I, Dnw_L, Dnw_R, Dnw_N, Dnw_A, DrI_S, DrI_I, DrI_L, DrI_R, DrI_N, DrI_A, DrJ_S, DrJ_I, DrJ_L, DrJ_R, DrJ_N, DrJ_A, dm64, G_d, G_x0, dL_mod, oX11_load, doII, joRI, -Int32.not_le, -Int32.not_lt, -Int64.not_le, -Int64.not_lt, i3lt, i6lt]
  try simp (disch := omega) [-Prod.forall, -Prod.exists, -Prod.mk.injEq, -Int32.not_le, -Int32.not_lt, -Int64.not_le, -Int64.not_lt, i3lt, i6lt]
  obtain ⟨x1, x2⟩ := ix_end h (by omega) u1 u2 u3 u4
  refine DW_txMv (s := 1700) (r := 1610) (Or.inl ⟨rfl, rfl⟩) u3 u1 hk3 (by simp [DnL]) (by simp [DnL, DrL, Drv]) ?_
  exact DW.wide (c1 := c0 + 9) (s1 := s0 + 4224) (by omega) (by omega) (kk _ x2 (dk_tfr (fun k hk => (dkI_x hk).1) x2 hd) x1)
end EMS
