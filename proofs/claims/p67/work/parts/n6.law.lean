/-! the law's Desk.<init>: its end: the text is put and read -/
theorem dcls_X12 : dCls 12 RX12 TX12 25 := ⟨jcls_X12.1, jcls_X12.2.1, jcls_X12.2.2.1, jcls_X12.2.2.2.1⟩
/-- the text of w letters is read to its end: st statements, the row F, the plans P -/
def rdOk (f : Nat → Nat) (w st M N K : Nat) (F : Nat → Int32) (P : Nat → Nat → Int32) : Prop := ∀ T9 : Nat → Int32, (∀ j, j < w → T9 j = nI (f j) ∧ f j < 128) → ∀ μ0 : pM, (∀ j, j < 208 → μ0 347 j = bgR j) → lInit μ0 → ∃ μ, pLoad T9 w μ0 = .inr (st, μ) ∧ ldR μ M N K F P
section EN6
variable {g : jG} {z : dZ} {k : Nat} {R : Option Value → dM → Nat → Nat → Prop}
theorem in_last {N M K w S : Nat} {f : Nat → Nat} {σ : dM} {c0 s0 : Nat} {F : Nat → Int32} {P : Nat → Nat → Int32} (hR : dRok g z mX12_init R) (hT : dEt g z.2.2.2.2) (hEs : jEs g) (hkp : ixH z ∧ z.2.2.1 1190 = false) (hz : k + 12 ≤ z.1.frames ∧ 64 * (k + 12) ≤ z.1.locals ∧ c0 + 130 ≤ z.1.cells ∧ s0 + 41000 ≤ z.1.slots) (hd : dk σ N M) (h : ixS σ 1700 f w) (hG : ixG σ) (h9 : DA σ 1190 = false) (hx : xFd (DS σ) 0 f) (hw : w ≤ 240) (hS : S < 100) (hrd : rdOk f w S M N K F P)
    (kk : ∀ υ s1, tfr (fun k => k ≠ 1000) (DuS σ s1) υ → dk υ N M → (∀ j, DI υ 1000 j = if j = 19 then 1 else DI σ 1000 j) → DL υ 1000 = DL σ 1000 → DR υ 1000 = DR σ 1000 → xRk s1 M N K → (∀ j, j < 208 → s1.1 323 j = F j) → (∀ k, k < K → s1.1 327 k = P 0 k ∧ s1.1 328 k = P 1 k ∧ s1.1 329 k = P 2 k) → DW g z mX12_init 793 [(0, .ref 1000), (1, .ref 380), (2, .ref 1700), (3, .int (nI S))] [] υ (c0 + 130) (s0 + 41000)) : DW g z mX12_init 761 [(0, .ref 1000), (1, .ref 380), (2, .ref 1700), (3, .int (nI S))] [] σ c0 s0 := by
  have hE := hT.1
  have n := k
  have hf := dk_f hd
  obtain ⟨hq, ht, hQ, hA, hB⟩ := id h
  obtain ⟨⟨⟨hk1, hk2, hk3⟩, hk4, hk5⟩, hk6⟩ := hkp
  have p1 : ∀ a, ptK a → DA σ a = false := fun a ha => by
    unfold ptK at ha
    obtain ⟨⟨g1, g2⟩, -⟩ := hG
    rcases ha with rfl | rfl | rfl | rfl | rfl | rfl | rfl
    · exact hA.1
    · exact hA.2.1
    · exact hA.2.2
    · exact hB.1
    · exact hB.2
    · exact g1
    · exact g2
  refine dvk_ok (nC := n + 10) DX12_init_h hTyA hR (VC := [(131, 2, 11, oX11_load)]) (VD := []) (SD := [(33, 2, 0, n + 0, 0, 0, 0, [], dL_mod)]) (AL := []) (List.forall_mem_cons.mpr ⟨⟨mX11_load, n + 10, 1, TX11, 9, rfl, by omega, hX12_131, WX11_load, rfl, CX11_load g (n) hE.1⟩, (fun _ h => absurd h List.not_mem_nil)⟩) (fun _ h => absurd h List.not_mem_nil) (List.forall_mem_cons.mpr ⟨⟨mL_mod, by decide, Or.inr ⟨_, hX12_33⟩, WL_mod, EL_mod g _ n⟩, (fun _ h => absurd h List.not_mem_nil)⟩) [766] 10 _ _ _ _ _ _ ?_
  simp (maxSteps := 1000000) [↓Bool.cond_eq_ite, -Prod.forall, -Prod.exists, -Prod.mk.injEq, ↓jc_eq_t, ↓jc_eq_f, ↓jc_ne_t, ↓jc_ne_f, ↓jc_lt_t, ↓jc_lt_f, ↓jc_ge_t, ↓jc_ge_f, ↓jc_gt_t, ↓jc_gt_f, ↓jc_le_t, ↓jc_le_f, dvk, tX12_init_h, jtb, jol, dvl, dal, dst, jlk, jcmp, jbin, jfl, qX12, jc2, qlX12, jcat, jel, lv_args, Value.category, jins, jsrt, jins2, jble, jblt, jf3, List.filter_cons, List.filter_nil, Dlo, Dnr, DnL, Dfree, Droom, DuS_S, DuS_I, DuS_L, DuS_R, DuS_N, DuS_A, DuI_S, DuI_I, DuI_L, DuI_R, DuI_N, DuI_A, DuL_S, DuL_I, DuL_L, DuL_R, DuL_N, DuL_A, DuR_S, DuR_I, DuR_L, DuR_R, DuR_N, DuR_A, Dnw_S, Dnw_I, Dnw_L, Dnw_R, Dnw_N, Dnw_A, DrI_S, DrI_I, DrI_L, DrI_R, DrI_N, DrI_A, DrJ_S, DrJ_I, DrJ_L, DrJ_R, DrJ_N, DrJ_A, dm64, G_d, G_x0, dL_mod, oX11_load, doII, joRI, -Int32.not_le, -Int32.not_lt, -Int64.not_le, -Int64.not_lt, i3lt, i6lt, hf, G_d]
  try simp (disch := omega) [-Prod.forall, -Prod.exists, -Prod.mk.injEq, -Int32.not_le, -Int32.not_lt, -Int64.not_le, -Int64.not_lt, i3lt, i6lt, hf, G_d]
  refine dr_callS (idx := 121) (mt' := mL_put) (tl := [1800, 1600, 1601, 1701, 1611, 1702, 1612, 1190]) (n' := k + 6) (mc := 130) (ms := 41000) (as := [.ref 0, .ref 1700]) (r := []) ⟨by omega, by show 8 + (6 + 11) + 64 * (k + 6) ≤ _; omega, by omega, by omega⟩ (by simp [Dfree, DnL, Dnr, hk1, hk2, hk4, hk6]) (by decide +kernel) (Or.inr ⟨_, hX12_121⟩) WL_put rfl rfl (by simp) (EL_put (h0 := z.2.2.2.2) hT k f w [.ref 0, .ref 1700] σ ⟨rfl, rfl, ht, hw, hQ, p1, h9, hx⟩) ?_
  rintro v τ ⟨rfl, T, f', t1, t2, t3, t4, t5, t6⟩
  have t7 : tfr (fun _ => True) (DuS σ (DS τ)) τ := t6.tfr
  have hdτ : dk τ N M := dk_tfr (P := fun _ => True) (fun _ _ => trivial) t7 (show dk (DuS σ (DS τ)) N M from hd)
  have hfτ := dk_f hdτ
  have htτ : txt τ 1700 f w := txt_fr (P := fun _ => True) ⟨trivial, trivial, trivial, trivial, trivial, trivial⟩ t7 (show txt (DuS σ (DS τ)) 1700 f w from ht)
  show DW g z mX12_init 769 _ [] τ _ _
  refine dvk_ok (nC := n + 10) DX12_init_h hTyA hR (VC := [(131, 2, 11, oX11_load)]) (VD := []) (SD := [(33, 2, 0, n + 0, 0, 0, 0, [], dL_mod)]) (AL := []) (List.forall_mem_cons.mpr ⟨⟨mX11_load, n + 10, 1, TX11, 9, rfl, by omega, hX12_131, WX11_load, rfl, CX11_load g (n) hE.1⟩, (fun _ h => absurd h List.not_mem_nil)⟩) (fun _ h => absurd h List.not_mem_nil) (List.forall_mem_cons.mpr ⟨⟨mL_mod, by decide, Or.inr ⟨_, hX12_33⟩, WL_mod, EL_mod g _ n⟩, (fun _ h => absurd h List.not_mem_nil)⟩) [775] 10 _ _ _ _ _ _ ?_
  simp (maxSteps := 1000000) [↓Bool.cond_eq_ite, -Prod.forall, -Prod.exists, -Prod.mk.injEq, ↓jc_eq_t, ↓jc_eq_f, ↓jc_ne_t, ↓jc_ne_f, ↓jc_lt_t, ↓jc_lt_f, ↓jc_ge_t, ↓jc_ge_f, ↓jc_gt_t, ↓jc_gt_f, ↓jc_le_t, ↓jc_le_f, dvk, tX12_init_h, jtb, jol, dvl, dal, dst, jlk, jcmp, jbin, jfl, qX12, jc2, qlX12, jcat, jel, lv_args, Value.category, jins, jsrt, jins2, jble, jblt, jf3, List.filter_cons, List.filter_nil, Dlo, Dnr, DnL, Dfree, Droom, DuS_S, DuS_I, DuS_L, DuS_R, DuS_N, DuS_A, DuI_S, DuI_I, DuI_L, DuI_R, DuI_N, DuI_A, DuL_S, DuL_I, DuL_L, DuL_R, DuL_N, DuL_A, DuR_S, DuR_I, DuR_L, DuR_R, DuR_N, DuR_A, Dnw_S, Dnw_I, Dnw_L, Dnw_R, Dnw_N, Dnw_A, DrI_S, DrI_I, DrI_L, DrI_R, DrI_N, DrI_A, DrJ_S, DrJ_I, DrJ_L, DrJ_R, DrJ_N, DrJ_A, dm64, G_d, G_x0, dL_mod, oX11_load, doII, joRI, -Int32.not_le, -Int32.not_lt, -Int64.not_le, -Int64.not_lt, i3lt, i6lt, hfτ, G_d]
  try simp (disch := omega) [-Prod.forall, -Prod.exists, -Prod.mk.injEq, -Int32.not_le, -Int32.not_lt, -Int64.not_le, -Int64.not_lt, i3lt, i6lt, hfτ, G_d]
  refine dr_callT (idx := 125) (mt' := mJ0_length_8abf5) (tl := []) (n' := k + 1) (mc := 0) (ms := 0) (as := []) hT htτ ⟨by omega, by show 8 + (1 + 11) + 64 * (k + 1) ≤ _; omega, by omega, by omega⟩ trivial (by decide +kernel) hX12_125 WJ0_length_8abf5 rfl rfl rfl (by simp [Value.category]) (EJ0_length hT k f w [.ref 1700] τ htτ) ?_
  rintro v τ' ⟨rfl, rfl⟩
  show DW g z mX12_init 778 _ [.int (nI w), .ref 0, .ref 1000] τ' _ _
  have hx0 : ∀ j, j < w → (DS τ').1 346 j = nI (f j) ∧ f j < 128 := fun j hj => ⟨by rw [t5.2.2 j (by omega), t3 j hj], txt_lt htτ j hj⟩
  refine dr_callC (idx := 131) (mt' := mX11_load) (n' := k + 10) (ci := 11) (T := TX11) (N := 9) (a := 0) (as := [.int (nI w)]) (r := [.ref 1000]) ⟨by omega, by show 8 + (_ + 11) + 64 * (k + 10) ≤ _; simp only [mX11_load]; omega, by omega, by omega⟩ (by decide +kernel) hX12_131 WX11_load rfl (by decide +kernel) rfl rfl (by simp [Value.category]) rfl (QX11_load hEs k (20 * T) w S M N K F P [.ref 0, .int (nI w)] (DS τ') ⟨rfl, rfl, t1, by omega, t5.1, t5.2.1, fun μ0 m1 m2 => hrd _ hx0 μ0 m1 m2⟩) ?_
  rintro v s2 ⟨rfl, s1, g1, x1, x2, x3⟩
  refine ⟨rfl, ?_⟩
  show DW g z mX12_init 781 _ [.int (nI S), .ref 1000] (DuS τ' s2) _ _
  refine DW.gh g1 ?_
  have hfs : dk (DuS τ' s1) N M := hdτ
  have hA0 : DA (DuS τ' s1) 1000 = true := hfτ.2.1.1
  refine dvk_ok (nC := n + 10) DX12_init_h hTyA hR (VC := [(131, 2, 11, oX11_load)]) (VD := []) (SD := [(33, 2, 0, n + 0, 0, 0, 0, [], dL_mod)]) (AL := []) (List.forall_mem_cons.mpr ⟨⟨mX11_load, n + 10, 1, TX11, 9, rfl, by omega, hX12_131, WX11_load, rfl, CX11_load g (n) hE.1⟩, (fun _ h => absurd h List.not_mem_nil)⟩) (fun _ h => absurd h List.not_mem_nil) (List.forall_mem_cons.mpr ⟨⟨mL_mod, by decide, Or.inr ⟨_, hX12_33⟩, WL_mod, EL_mod g _ n⟩, (fun _ h => absurd h List.not_mem_nil)⟩) [790] 10 _ _ _ _ _ _ ?_
  simp (maxSteps := 1000000) [↓Bool.cond_eq_ite, -Prod.forall, -Prod.exists, -Prod.mk.injEq, ↓jc_eq_t, ↓jc_eq_f, ↓jc_ne_t, ↓jc_ne_f, ↓jc_lt_t, ↓jc_lt_f, ↓jc_ge_t, ↓jc_ge_f, ↓jc_gt_t, ↓jc_gt_f, ↓jc_le_t, ↓jc_le_f, dvk, tX12_init_h, jtb, jol, dvl, dal, dst, jlk, jcmp, jbin, jfl, qX12, jc2, qlX12, jcat, jel, lv_args, Value.category, jins, jsrt, jins2, jble, jblt, jf3, List.filter_cons, List.filter_nil, Dlo, Dnr, DnL, Dfree, Droom, DuS_S, DuS_I, DuS_L, DuS_R, DuS_N, DuS_A, DuI_S, DuI_I, DuI_L, DuI_R, DuI_N, DuI_A, DuL_S, DuL_I, DuL_L, DuL_R, DuL_N, DuL_A, DuR_S, DuR_I, DuR_L, DuR_R, DuR_N, DuR_A, Dnw_S, Dnw_I, Dnw_L, Dnw_R, Dnw_N, Dnw_A, DrI_S, DrI_I, DrI_L, DrI_R, DrI_N, DrI_A, DrJ_S, DrJ_I, DrJ_L, DrJ_R, DrJ_N, DrJ_A, dm64, G_d, G_x0, dL_mod, oX11_load, doII, joRI, -Int32.not_le, -Int32.not_lt, -Int64.not_le, -Int64.not_lt, i3lt, i6lt]
  try simp (disch := omega) [-Prod.forall, -Prod.exists, -Prod.mk.injEq, -Int32.not_le, -Int32.not_lt, -Int64.not_le, -Int64.not_lt, i3lt, i6lt]
  refine dr_putG (f := 19) (C := RX12) (T := TX12) (N := 25) (ci := 12) (ty := .boolean) dcls_X12 (by decide) (show Cond.fieldLink RX12 135 (TX12 19).1 (TX12 19).2.1 (TX12 19).2.2.1 ∈ jGw from jGw_of 1249 (by decide +kernel) (by decide +kernel)) rfl rfl ⟨by decide +kernel, by decide +kernel⟩ (by decide +kernel) hA0 (by decide +kernel) ?_
  obtain ⟨-, a2⟩ := t6 1000 trivial
  obtain ⟨b1, b2, b3, b4⟩ := a2 (by omega) (by omega) hd.2.2.1.1
  refine DW.wide (c1 := c0 + 130) (s1 := s0 + 41000) (by omega) (by omega) (kk _ s1 ⟨rfl, fun i hi => ⟨?_, fun k1 k2 k3 => ?_⟩⟩ (dk_w0 hfs (by omega)) (fun j => ?_) ?_ ?_ x1 x2 x3)
  · exact (t6 i trivial).1
  · obtain ⟨c1, c2, c3, c4⟩ := (t6 i trivial).2 k1 k2 k3
    refine ⟨funext fun j => ?_, c2, c3, c4⟩
    rw [DuI_I, if_neg (fun z => hi z.1)]
    exact congrFun c1 j
  · rw [DuI_I]
    by_cases c : j = 19
    · rw [if_pos ⟨rfl, c⟩, if_pos c]
    · rw [if_neg (fun z => c z.2), if_neg c]
      exact congrFun b1 j
  · exact b2
  · exact b3
end EN6
