/-! the law's Desk.<init>: the persons' loop, whole -/
section EN1
variable {g : jG} {z : dZ} {k : Nat} {R : Option Value → dM → Nat → Nat → Prop}
theorem in_pers {N M w XN : Nat} {f : Nat → Nat} {y3 : Int32} {xs : Nat → Int32} (hR : dRok g z mX12_init R) (hT : dEt g z.2.2.2.2) (hC : dEc g z.2.2.2.2 XN xs) (hkp : ixH z) : ∀ (d i : Nat) (q : Nat) (σ : dM) (c0 s0 : Nat), i + d = N → (k + 6 ≤ z.1.frames ∧ 64 * (k + 6) ≤ z.1.locals ∧ c0 + 63 * d ≤ z.1.cells ∧ s0 + 23340 * d ≤ z.1.slots) → dk σ N M → ixS σ q (psTx f w (fun i => scX XN xs (1 + i)) M i) (w + psN (fun i => scX XN xs (1 + i)) M i) → ixG σ → inPs σ (fun i => scX XN xs (1 + i)) M i → w + psN (fun i => scX XN xs (1 + i)) M N ≤ 300 →
    (∀ τ q', tfr inQ σ τ → dk τ N M → ixS τ q' (psTx f w (fun i => scX XN xs (1 + i)) M N) (w + psN (fun i => scX XN xs (1 + i)) M N) → inPs τ (fun i => scX XN xs (1 + i)) M N → DW g z mX12_init 518 [(0, .ref 1000), (1, .ref 380), (2, .ref q'), (3, .int y3), (4, .int (nI N))] [] τ (c0 + 63 * d) (s0 + 23340 * d)) → DW g z mX12_init 235 [(0, .ref 1000), (1, .ref 380), (2, .ref q), (3, .int y3), (4, .int (nI i))] [] σ c0 s0 := by
  intro d
  have hE := hT.1
  have n := k
  obtain ⟨ys, eys⟩ : ∃ ys : Nat → Int32, ys = fun i => scX XN xs (1 + i) := ⟨_, rfl⟩
  rw [← eys]
  induction d with
  | zero =>
    intro i q σ c0 s0 h1 hz hd hx hG hi hw kk
    obtain rfl : i = N := by omega
    have hf := dk_f hd
    have hN := hd.1.1.2
    have p1 : nI i ≤ nI i := nI_le (Nat.le_refl _) (by omega)
    refine dvk_ok (nC := n + 10) DX12_init_c hTyA hR (VC := [(131, 2, 11, oX11_load)]) (VD := []) (SD := [(33, 2, 0, n + 0, 0, 0, 0, [], dL_mod)]) (AL := []) (List.forall_mem_cons.mpr ⟨⟨mX11_load, n + 10, 1, TX11, 9, rfl, by omega, hX12_131, WX11_load, rfl, CX11_load g (n) hE.1⟩, (fun _ h => absurd h List.not_mem_nil)⟩) (fun _ h => absurd h List.not_mem_nil) (List.forall_mem_cons.mpr ⟨⟨mL_mod, by decide, Or.inr ⟨_, hX12_33⟩, WL_mod, EL_mod g _ n⟩, (fun _ h => absurd h List.not_mem_nil)⟩) [518] 10 _ _ _ _ _ _ ?_
    simp (maxSteps := 1000000) [↓Bool.cond_eq_ite, -Prod.forall, -Prod.exists, -Prod.mk.injEq, ↓jc_eq_t, ↓jc_eq_f, ↓jc_ne_t, ↓jc_ne_f, ↓jc_lt_t, ↓jc_lt_f, ↓jc_ge_t, ↓jc_ge_f, ↓jc_gt_t, ↓jc_gt_f, ↓jc_le_t, ↓jc_le_f, dvk, tX12_init_c, jtb, jol, dvl, dal, dst, jlk, jcmp, jbin, jfl, qX12, jc2, qlX12, jcat, jel, lv_args, Value.category, jins, jsrt, jins2, jble, jblt, jf3, List.filter_cons, List.filter_nil, Dlo, Dnr, DnL, Dfree, Droom, DuS_S, DuS_I, DuS_L, DuS_R, DuS_N, DuS_A, DuI_S, DuI_I, DuI_L, DuI_R, DuI_N, DuI_A, DuL_S, DuL_I, DuL_L, DuL_R, DuL_N, DuL_A, DuR_S, DuR_I, DuR_L, DuR_R, DuR_N, DuR_A, Dnw_S, Dnw_I, Dnw_L, Dnw_R, Dnw_N, Dnw_A, DrI_S, DrI_I, DrI_L, DrI_R, DrI_N, DrI_A, DrJ_S, DrJ_I, DrJ_L, DrJ_R, DrJ_N, DrJ_A, dm64, G_d, G_x0, dL_mod, oX11_load, doII, joRI, -Int32.not_le, -Int32.not_lt, -Int64.not_le, -Int64.not_lt, i3lt, i6lt, hf, p1, G_d]
    try simp (disch := omega) [-Prod.forall, -Prod.exists, -Prod.mk.injEq, -Int32.not_le, -Int32.not_lt, -Int64.not_le, -Int64.not_lt, i3lt, i6lt, hf, p1, G_d]
    exact kk σ q tfr.rfl hd hx hi
  | succ d ih =>
    intro i q σ c0 s0 h1 hz hd hx hG hi hw kk
    have hf := dk_f hd
    have hN := hd.1.1.2
    have hM := hd.1.2.2
    have p1 : ¬ nI N ≤ nI i := nI_ge (by omega) (by omega)
    have e1 : nI i + 1 = nI (i + 1) := nI_add i 1
    have e2 : 1 + nI i = nI (1 + i) := nI_add 1 i
    have hmo := psN_mo ys M (i + 1) d
    rw [show i + 1 + d = N by omega] at hmo
    have eN : psN ys M (i + 1) = psN ys M i + 7 + 1 + 1 + sb_dg (icX (ys i)) + vsN (ys i) M + 1 := rfl
    have hi9 := icX_lt (ys i)
    refine dvk_ok (nC := n + 10) DX12_init_c hTyA hR (VC := [(131, 2, 11, oX11_load)]) (VD := []) (SD := [(33, 2, 0, n + 0, 0, 0, 0, [], dL_mod)]) (AL := []) (List.forall_mem_cons.mpr ⟨⟨mX11_load, n + 10, 1, TX11, 9, rfl, by omega, hX12_131, WX11_load, rfl, CX11_load g (n) hE.1⟩, (fun _ h => absurd h List.not_mem_nil)⟩) (fun _ h => absurd h List.not_mem_nil) (List.forall_mem_cons.mpr ⟨⟨mL_mod, by decide, Or.inr ⟨_, hX12_33⟩, WL_mod, EL_mod g _ n⟩, (fun _ h => absurd h List.not_mem_nil)⟩) [249] 10 _ _ _ _ _ _ ?_
    simp (maxSteps := 1000000) [↓Bool.cond_eq_ite, -Prod.forall, -Prod.exists, -Prod.mk.injEq, ↓jc_eq_t, ↓jc_eq_f, ↓jc_ne_t, ↓jc_ne_f, ↓jc_lt_t, ↓jc_lt_f, ↓jc_ge_t, ↓jc_ge_f, ↓jc_gt_t, ↓jc_gt_f, ↓jc_le_t, ↓jc_le_f, dvk, tX12_init_c, jtb, jol, dvl, dal, dst, jlk, jcmp, jbin, jfl, qX12, jc2, qlX12, jcat, jel, lv_args, Value.category, jins, jsrt, jins2, jble, jblt, jf3, List.filter_cons, List.filter_nil, Dlo, Dnr, DnL, Dfree, Droom, DuS_S, DuS_I, DuS_L, DuS_R, DuS_N, DuS_A, DuI_S, DuI_I, DuI_L, DuI_R, DuI_N, DuI_A, DuL_S, DuL_I, DuL_L, DuL_R, DuL_N, DuL_A, DuR_S, DuR_I, DuR_L, DuR_R, DuR_N, DuR_A, Dnw_S, Dnw_I, Dnw_L, Dnw_R, Dnw_N, Dnw_A, DrI_S, DrI_I, DrI_L, DrI_R, DrI_N, DrI_A, DrJ_S, DrJ_I, DrJ_L, DrJ_R, DrJ_N, DrJ_A, dm64, G_d, G_x0, dL_mod, oX11_load, doII, joRI, -Int32.not_le, -Int32.not_lt, -Int64.not_le, -Int64.not_lt, i3lt, i6lt, hf, p1, e2, G_d]
    try simp (disch := omega) [-Prod.forall, -Prod.exists, -Prod.mk.injEq, -Int32.not_le, -Int32.not_lt, -Int64.not_le, -Int64.not_lt, i3lt, i6lt, hf, p1, e2, G_d]
    refine dr_cellX (k := k) (idx := 27) hC ⟨by omega, by omega, by omega, by omega⟩ (by simp) hX12_27 (by omega) (by decide +kernel) ?_
    rw [show scX XN xs (1 + i) = ys i by rw [eys]]
    refine dvk_ok (nC := n + 10) DX12_init_c hTyA hR (VC := [(131, 2, 11, oX11_load)]) (VD := []) (SD := [(33, 2, 0, n + 0, 0, 0, 0, [], dL_mod)]) (AL := []) (List.forall_mem_cons.mpr ⟨⟨mX11_load, n + 10, 1, TX11, 9, rfl, by omega, hX12_131, WX11_load, rfl, CX11_load g (n) hE.1⟩, (fun _ h => absurd h List.not_mem_nil)⟩) (fun _ h => absurd h List.not_mem_nil) (List.forall_mem_cons.mpr ⟨⟨mL_mod, by decide, Or.inr ⟨_, hX12_33⟩, WL_mod, EL_mod g _ n⟩, (fun _ h => absurd h List.not_mem_nil)⟩) [254] 10 _ _ _ _ _ _ ?_
    simp (maxSteps := 1000000) [↓Bool.cond_eq_ite, -Prod.forall, -Prod.exists, -Prod.mk.injEq, ↓jc_eq_t, ↓jc_eq_f, ↓jc_ne_t, ↓jc_ne_f, ↓jc_lt_t, ↓jc_lt_f, ↓jc_ge_t, ↓jc_ge_f, ↓jc_gt_t, ↓jc_gt_f, ↓jc_le_t, ↓jc_le_f, dvk, tX12_init_c, jtb, jol, dvl, dal, dst, jlk, jcmp, jbin, jfl, qX12, jc2, qlX12, jcat, jel, lv_args, Value.category, jins, jsrt, jins2, jble, jblt, jf3, List.filter_cons, List.filter_nil, Dlo, Dnr, DnL, Dfree, Droom, DuS_S, DuS_I, DuS_L, DuS_R, DuS_N, DuS_A, DuI_S, DuI_I, DuI_L, DuI_R, DuI_N, DuI_A, DuL_S, DuL_I, DuL_L, DuL_R, DuL_N, DuL_A, DuR_S, DuR_I, DuR_L, DuR_R, DuR_N, DuR_A, Dnw_S, Dnw_I, Dnw_L, Dnw_R, Dnw_N, Dnw_A, DrI_S, DrI_I, DrI_L, DrI_R, DrI_N, DrI_A, DrJ_S, DrJ_I, DrJ_L, DrJ_R, DrJ_N, DrJ_A, dm64, G_d, G_x0, dL_mod, oX11_load, doII, joRI, -Int32.not_le, -Int32.not_lt, -Int64.not_le, -Int64.not_lt, i3lt, i6lt]
    try simp (disch := omega) [-Prod.forall, -Prod.exists, -Prod.mk.injEq, -Int32.not_le, -Int32.not_lt, -Int64.not_le, -Int64.not_lt, i3lt, i6lt]
    refine in_inc (k := k) hR hT ⟨by omega, by omega, by omega, by omega⟩ hd (by omega) ?_
    obtain ⟨τ, eτ⟩ : ∃ τ, τ = DuI (DuI σ 1101 i (nI (icX (ys i)))) 1102 i (-1) := ⟨_, rfl⟩
    have hdτ : dk τ N M := by
      rw [eτ]
      exact dk_wv (dk_wv hd ⟨by omega, fun p9 hp9 => by omega⟩) ⟨by omega, fun p9 hp9 => by omega⟩
    have fτ : tfr (fun k => k ≠ 1101 ∧ k ≠ 1102) σ τ := ⟨by rw [eτ]; rfl, fun k hk => ⟨by rw [eτ]; rfl, fun _ _ _ => ⟨funext fun j => by rw [eτ, DuI_I, DuI_I, if_neg (by omega), if_neg (by omega)], by rw [eτ]; rfl, by rw [eτ]; rfl, by rw [eτ]; rfl⟩⟩⟩
    have eA : DA τ = DA σ := by rw [eτ]; rfl
    have eR : DR τ = DR σ := by rw [eτ]; rfl
    have hxτ := ixS_wr (fun k hk => by omega) fτ eA eR hx
    have hGτ := ixG_A eA hG
    have pτ : ∀ p, p < i + 1 → DI τ 1101 p = nI (icX (ys p)) ∧ DI τ 1102 p = -1 := fun p hp => by
      refine ⟨?_, ?_⟩
      · rw [eτ, DuI_I, if_neg (show ¬ (1101 = 1102 ∧ p = i) by omega), DuI_I]
        by_cases c : p = i
        · rw [if_pos ⟨rfl, c⟩, c]
        · rw [if_neg (fun z => c z.2)]
          exact (hi p (by omega)).1
      · rw [eτ, DuI_I]
        by_cases c : p = i
        · rw [if_pos ⟨rfl, c⟩]
        · rw [if_neg (fun z => c z.2), DuI_I, if_neg (show ¬ (1102 = 1101 ∧ p = i) by omega)]
          exact (hi p (by omega)).2.1
    rw [← eτ]
    refine in_person (k := k) (v := icX (ys i)) hR hT ⟨by omega, by omega, by omega, by omega⟩ hkp.1 hxτ hdτ (by omega) (pτ i (by omega)).1 (by omega) (by omega) (fun υ t1 t2 t3 => ?_)
    have hGυ := ixG_fr t1 hGτ
    refine dvk_ok (nC := n + 10) DX12_init_c hTyA hR (VC := [(131, 2, 11, oX11_load)]) (VD := []) (SD := [(33, 2, 0, n + 0, 0, 0, 0, [], dL_mod)]) (AL := []) (List.forall_mem_cons.mpr ⟨⟨mX11_load, n + 10, 1, TX11, 9, rfl, by omega, hX12_131, WX11_load, rfl, CX11_load g (n) hE.1⟩, (fun _ h => absurd h List.not_mem_nil)⟩) (fun _ h => absurd h List.not_mem_nil) (List.forall_mem_cons.mpr ⟨⟨mL_mod, by decide, Or.inr ⟨_, hX12_33⟩, WL_mod, EL_mod g _ n⟩, (fun _ h => absurd h List.not_mem_nil)⟩) [341] 10 _ _ _ _ _ _ ?_
    simp (maxSteps := 1000000) [↓Bool.cond_eq_ite, -Prod.forall, -Prod.exists, -Prod.mk.injEq, ↓jc_eq_t, ↓jc_eq_f, ↓jc_ne_t, ↓jc_ne_f, ↓jc_lt_t, ↓jc_lt_f, ↓jc_ge_t, ↓jc_ge_f, ↓jc_gt_t, ↓jc_gt_f, ↓jc_le_t, ↓jc_le_f, dvk, tX12_init_c, jtb, jol, dvl, dal, dst, jlk, jcmp, jbin, jfl, qX12, jc2, qlX12, jcat, jel, lv_args, Value.category, jins, jsrt, jins2, jble, jblt, jf3, List.filter_cons, List.filter_nil, Dlo, Dnr, DnL, Dfree, Droom, DuS_S, DuS_I, DuS_L, DuS_R, DuS_N, DuS_A, DuI_S, DuI_I, DuI_L, DuI_R, DuI_N, DuI_A, DuL_S, DuL_I, DuL_L, DuL_R, DuL_N, DuL_A, DuR_S, DuR_I, DuR_L, DuR_R, DuR_N, DuR_A, Dnw_S, Dnw_I, Dnw_L, Dnw_R, Dnw_N, Dnw_A, DrI_S, DrI_I, DrI_L, DrI_R, DrI_N, DrI_A, DrJ_S, DrJ_I, DrJ_L, DrJ_R, DrJ_N, DrJ_A, dm64, G_d, G_x0, dL_mod, oX11_load, doII, joRI, -Int32.not_le, -Int32.not_lt, -Int64.not_le, -Int64.not_lt, i3lt, i6lt]
    try simp (disch := omega) [-Prod.forall, -Prod.exists, -Prod.mk.injEq, -Int32.not_le, -Int32.not_lt, -Int64.not_le, -Int64.not_lt, i3lt, i6lt]
    refine in_vals (k := k) (N := N) (M := M) (w := w + psN ys M i + 7 + 1 + 1 + sb_dg (icX (ys i))) (p := i) (f := peT (psTx f w ys M i) (w + psN ys M i) i (icX (ys i))) hR hT hkp (by omega) M 0 1700 υ _ _ (by omega) ⟨by omega, by omega, ?_, ?_⟩ t2 t3 hGυ (fun r hr => by omega) (by omega) (fun φ q' u1 u2 u3 u4 => ?_)
    · have : 12 * M ≤ 48 := by omega
      omega
    · have : 4248 * M ≤ 16992 := by omega
      omega
    have hGφ : ixG φ := by
      obtain ⟨⟨g1, g2⟩, g3, g4⟩ := hGυ
      have key : ∀ k, inP i k → DA υ k = false → DA φ k = false := fun k hk e => (u1.2 k hk).1.trans e
      exact ⟨⟨key 1702 (by unfold inP ixK; omega) g1, key 1612 (by unfold inP ixK; omega) g2⟩, key 1803 (by unfold inP ixK; omega) g3, key 1603 (by unfold inP ixK; omega) g4⟩
    refine DW.mono (L' := [(0, .ref 1000), (1, .ref 380), (2, .ref q'), (3, .int y3), (4, .int (nI i))]) ?_ (by simp)
    refine in_end (k := k) hR hT ⟨by omega, by omega, ?_, ?_⟩ hkp.1 u3 u2 (by omega) (fun ψ v1 v2 v3 => ?_)
    · have : 12 * M ≤ 48 := by omega
      omega
    · have : 4248 * M ≤ 16992 := by omega
      omega
    refine dvk_ok (nC := n + 10) DX12_init_e hTyA hR (VC := [(131, 2, 11, oX11_load)]) (VD := []) (SD := [(33, 2, 0, n + 0, 0, 0, 0, [], dL_mod)]) (AL := []) (List.forall_mem_cons.mpr ⟨⟨mX11_load, n + 10, 1, TX11, 9, rfl, by omega, hX12_131, WX11_load, rfl, CX11_load g (n) hE.1⟩, (fun _ h => absurd h List.not_mem_nil)⟩) (fun _ h => absurd h List.not_mem_nil) (List.forall_mem_cons.mpr ⟨⟨mL_mod, by decide, Or.inr ⟨_, hX12_33⟩, WL_mod, EL_mod g _ n⟩, (fun _ h => absurd h List.not_mem_nil)⟩) [235] 10 _ _ _ _ _ _ ?_
    simp (maxSteps := 1000000) [↓Bool.cond_eq_ite, -Prod.forall, -Prod.exists, -Prod.mk.injEq, ↓jc_eq_t, ↓jc_eq_f, ↓jc_ne_t, ↓jc_ne_f, ↓jc_lt_t, ↓jc_lt_f, ↓jc_ge_t, ↓jc_ge_f, ↓jc_gt_t, ↓jc_gt_f, ↓jc_le_t, ↓jc_le_f, dvk, tX12_init_e, jtb, jol, dvl, dal, dst, jlk, jcmp, jbin, jfl, qX12, jc2, qlX12, jcat, jel, lv_args, Value.category, jins, jsrt, jins2, jble, jblt, jf3, List.filter_cons, List.filter_nil, Dlo, Dnr, DnL, Dfree, Droom, DuS_S, DuS_I, DuS_L, DuS_R, DuS_N, DuS_A, DuI_S, DuI_I, DuI_L, DuI_R, DuI_N, DuI_A, DuL_S, DuL_I, DuL_L, DuL_R, DuL_N, DuL_A, DuR_S, DuR_I, DuR_L, DuR_R, DuR_N, DuR_A, Dnw_S, Dnw_I, Dnw_L, Dnw_R, Dnw_N, Dnw_A, DrI_S, DrI_I, DrI_L, DrI_R, DrI_N, DrI_A, DrJ_S, DrJ_I, DrJ_L, DrJ_R, DrJ_N, DrJ_A, dm64, G_d, G_x0, dL_mod, oX11_load, doII, joRI, -Int32.not_le, -Int32.not_lt, -Int64.not_le, -Int64.not_lt, i3lt, i6lt, e1]
    try simp (disch := omega) [-Prod.forall, -Prod.exists, -Prod.mk.injEq, -Int32.not_le, -Int32.not_lt, -Int64.not_le, -Int64.not_lt, i3lt, i6lt, e1]
    have w1 : tfr (fun k => k ≠ 1101 ∧ k ≠ 1102 ∧ ¬ ixK k ∧ k ≠ 1200 + i ∧ k ≠ 1110 + i) σ ψ := ((fτ.weak (fun k hk => ⟨hk.1, hk.2.1⟩)).tr (t1.weak (fun k hk => hk.2.2.1))).tr ((u1.weak (fun k hk => hk.2.2)).tr (v1.weak (fun k hk => hk.2.2.1)))
    have w2 : tfr (fun k => ¬ ixK k ∧ k ≠ 1200 + i ∧ k ≠ 1110 + i) τ ψ := (t1.weak (fun k hk => hk.1)).tr (u1.tr (v1.weak (fun k hk => hk.1)))
    refine DW.wide (c1 := c0 + 63) (s1 := s0 + 23340) (by omega) (by omega) (ih (i + 1) 1700 ψ (c0 + 63) (s0 + 23340) (by omega) ⟨by omega, by omega, by omega, by omega⟩ v2 (by rw [show w + psN ys M (i + 1) = w + psN ys M i + 7 + 1 + 1 + sb_dg (icX (ys i)) + vsN (ys i) M + 1 by omega]; exact v3) (ixG_fr v1 hGφ) (fun p hp => ?_) hw (fun τ9 q9 y1 y2 y3 y4 => ?_))
    · have a1 := ((w2.2 1101 (by unfold ixK; omega)).2 (by omega) (by omega) hdτ.2.2.1.2.2.1).1
      have a2 := ((w2.2 1102 (by unfold ixK; omega)).2 (by omega) (by omega) hdτ.2.2.1.2.2.2.1).1
      refine ⟨by rw [a1]; exact (pτ p hp).1, by rw [a2]; exact (pτ p hp).2, ?_⟩
      by_cases c : p = i
      · rw [c]
        exact inRow_fr v1 (by unfold ixK; omega) u2 (by omega) u4
      · exact inRow_fr w1 (by unfold ixK; omega) hd (by omega) (hi p (by omega)).2.2
    · refine DW.wide (c1 := c0 + 63 * (d + 1)) (s1 := s0 + 23340 * (d + 1)) (by omega) (by omega) (kk τ9 q9 ((w1.weak (fun k hk => ?_)).tr y1) y2 y3 y4)
      unfold inQ at hk
      exact ⟨hk.2.1, hk.2.2.1, hk.1, by omega, by omega⟩
end EN1
