/-! the law's extremes, its first loop -/
def exL (x : Int32) (l : List (Nat × Value)) : List (Nat × Value) := (0, .ref 1000) :: (1, .int x) :: (2, .ref 1401) :: (3, .int (-1000000000)) :: l
theorem fr1_s {σ : dM} {N p q : Nat} {x : Int32} (hp : p < N) (h : x = fr0 σ p q) : (fun i j => if i = p ∧ j = q then x else fr1 σ N p q i j) = fr1 σ N p (q + 1) := by
  funext i j
  unfold fr1
  by_cases c : i = p ∧ j = q
  · rw [if_pos c, if_pos (Or.inr ⟨c.1, by omega⟩), c.1, c.2, h]
  · rw [if_neg c]
    by_cases d : (i < p ∧ j < N) ∨ (i = p ∧ j < q)
    · rw [if_pos d, if_pos (by omega)]
    · rw [if_neg d, if_neg (by omega)]
theorem fr1_e (σ : dM) (N p : Nat) : fr1 σ N p N = fr1 σ N (p + 1) 0 := by
  funext i j
  unfold fr1
  by_cases d : (i < p ∧ j < N) ∨ (i = p ∧ j < N)
  · rw [if_pos d, if_pos (by omega)]
  · rw [if_neg d, if_neg (by omega)]
set_option maxRecDepth 100000 in
set_option maxHeartbeats 4000000 in
theorem EEx_1 {g : jG} {h0 n ρ : Nat} {z : dZ} {R : Option Value → dM → Nat → Nat → Prop} (hR : dRok g z mX12_extremes R) (hz : z.1.frames = n + 1 ∧ z.1.locals = 64 * (n + 1) ∧ z.1.cells = 7 ∧ z.1.slots = 35) {σ τ : dM} {N M c0 s0 : Nat} {x : Int32} (C : exC σ τ N M) (hc : c0 ≤ 7 ∧ s0 ≤ 35)
    (ih : DW g z mX12_extremes 120 (exL x [(4, .int (nI N))]) [] (DmF τ 1115 N (fr1 σ N N 0)) c0 s0) : DW g z mX12_extremes 19 (exL x [(4, .int (nI 0))]) [] (DmF τ 1115 N (fr1 σ N 0 0)) c0 s0 := by
  have hN := C.1.1.1.1.2
  have hle : nI N ≤ nI N := nI_le (Nat.le_refl _) (by omega)
  refine jloop (P := fun p => DW g z mX12_extremes 19 (exL x [(4, .int (nI p))]) [] (DmF τ 1115 N (fr1 σ N p 0)) c0 s0) (N := N) ?_ (fun p hp9 ih1 => ?_)
  · obtain ⟨σ2, e2⟩ : ∃ σ2, σ2 = DmF τ 1115 N (fr1 σ N N 0) := ⟨_, rfl⟩
    have C2 : exC σ σ2 N M := by rw [e2]; exact exC_F C hN _
    have hf := dk_f C2.1.1
    rw [← e2] at ih ⊢
    unfold exL at ih ⊢
    refine dvk_ok (nC := n + 0) DX12_extremes hTyA hR (VC := []) (VD := [(168, 3, 12, n + 0, 0, 0, 0, [], dX12_gap)]) (SD := [(171, 2, 0, n + 0, 0, 0, 0, [], dJ9_max_7cf53), (176, 2, 0, n + 0, 0, 0, 0, [], dJ9_min_7cf53)]) (AL := []) (fun _ h => absurd h List.not_mem_nil) (List.forall_mem_cons.mpr ⟨⟨mX12_gap, 2, TX12, 25, rfl, by decide, hX12_168, WX12_gap, rfl, EX12_gap g _ n⟩, (fun _ h => absurd h List.not_mem_nil)⟩) (List.forall_mem_cons.mpr ⟨⟨mJ9_max_7cf53, by decide, Or.inl hX12_171, WJ9_max_7cf53, EJ9_max_7cf53 g _ n⟩, (List.forall_mem_cons.mpr ⟨⟨mJ9_min_7cf53, by decide, Or.inl hX12_176, WJ9_min_7cf53, EJ9_min_7cf53 g _ n⟩, (fun _ h => absurd h List.not_mem_nil)⟩)⟩) [19, 120] 20 _ _ _ _ _ _ ?_
    simp (maxSteps := 1000000) [↓Bool.cond_eq_ite, -Prod.forall, -Prod.exists, -Prod.mk.injEq, dvk, tX12_extremes, jtb, jol, dvl, dal, dst, jlk, jcmp, jbin, jfl, qX12, jc2, qlX12, jcat, jel, lv_args, Value.category, jins, jsrt, jins2, jble, jblt, jf3, List.filter_cons, List.filter_nil, Dlo, Dnr, DnL, Dfree, Droom, DuS_S, DuS_I, DuS_L, DuS_R, DuS_N, DuS_A, DuI_S, DuI_I, DuI_L, DuI_R, DuI_N, DuI_A, DuL_S, DuL_I, DuL_L, DuL_R, DuL_N, DuL_A, DuR_S, DuR_I, DuR_L, DuR_R, DuR_N, DuR_A, Dnw_S, Dnw_I, Dnw_L, Dnw_R, Dnw_N, Dnw_A, DrI_S, DrI_I, DrI_L, DrI_R, DrI_N, DrI_A, DrJ_S, DrJ_I, DrJ_L, DrJ_R, DrJ_N, DrJ_A, dm64, G_d, G_x0, dX12_gap, dJ9_max_7cf53, dJ9_min_7cf53, doII, doRII, -Int32.not_le, -Int32.not_lt, -Int64.not_le, -Int64.not_lt, i3lt, i6lt, hf, hle, hz]
    try simp (disch := omega) [-Prod.forall, -Prod.exists, -Prod.mk.injEq, -Int32.not_le, -Int32.not_lt, -Int64.not_le, -Int64.not_lt, i3lt, i6lt, hf, hle, hz]
    exact ih
  · have hlt : ¬ nI N ≤ nI p := nI_ge hp9 (by omega)
    have hjp : jin (nI p) N := jinN hp9 (by omega)
    have ep : (nI p).toNatClampNeg = p := nI_clamp (by omega)
    have inner : ∀ L9, L9 = exL x [(4, .int (nI p)), (5, .int (nI 0))] → DW g z mX12_extremes 31 L9 [] (DmF τ 1115 N (fr1 σ N p 0)) c0 s0 := by
      rintro _ rfl
      refine jloop (P := fun q => DW g z mX12_extremes 31 (exL x [(4, .int (nI p)), (5, .int (nI q))]) [] (DmF τ 1115 N (fr1 σ N p q)) c0 s0) (N := N) ?_ (fun q hq9 ih2 => ?_)
      · rw [fr1_e]
        obtain ⟨σ2, e2⟩ : ∃ σ2, σ2 = DmF τ 1115 N (fr1 σ N (p + 1) 0) := ⟨_, rfl⟩
        have C2 : exC σ σ2 N M := by rw [e2]; exact exC_F C hN _
        have hf := dk_f C2.1.1
        rw [← e2, ← nI_1] at ih1
        rw [← e2]
        unfold exL at ih1 ⊢
        refine dvk_ok (nC := n + 0) DX12_extremes hTyA hR (VC := []) (VD := [(168, 3, 12, n + 0, 0, 0, 0, [], dX12_gap)]) (SD := [(171, 2, 0, n + 0, 0, 0, 0, [], dJ9_max_7cf53), (176, 2, 0, n + 0, 0, 0, 0, [], dJ9_min_7cf53)]) (AL := []) (fun _ h => absurd h List.not_mem_nil) (List.forall_mem_cons.mpr ⟨⟨mX12_gap, 2, TX12, 25, rfl, by decide, hX12_168, WX12_gap, rfl, EX12_gap g _ n⟩, (fun _ h => absurd h List.not_mem_nil)⟩) (List.forall_mem_cons.mpr ⟨⟨mJ9_max_7cf53, by decide, Or.inl hX12_171, WJ9_max_7cf53, EJ9_max_7cf53 g _ n⟩, (List.forall_mem_cons.mpr ⟨⟨mJ9_min_7cf53, by decide, Or.inl hX12_176, WJ9_min_7cf53, EJ9_min_7cf53 g _ n⟩, (fun _ h => absurd h List.not_mem_nil)⟩)⟩) [19, 31] 20 _ _ _ _ _ _ ?_
        simp (maxSteps := 1000000) [↓Bool.cond_eq_ite, -Prod.forall, -Prod.exists, -Prod.mk.injEq, dvk, tX12_extremes, jtb, jol, dvl, dal, dst, jlk, jcmp, jbin, jfl, qX12, jc2, qlX12, jcat, jel, lv_args, Value.category, jins, jsrt, jins2, jble, jblt, jf3, List.filter_cons, List.filter_nil, Dlo, Dnr, DnL, Dfree, Droom, DuS_S, DuS_I, DuS_L, DuS_R, DuS_N, DuS_A, DuI_S, DuI_I, DuI_L, DuI_R, DuI_N, DuI_A, DuL_S, DuL_I, DuL_L, DuL_R, DuL_N, DuL_A, DuR_S, DuR_I, DuR_L, DuR_R, DuR_N, DuR_A, Dnw_S, Dnw_I, Dnw_L, Dnw_R, Dnw_N, Dnw_A, DrI_S, DrI_I, DrI_L, DrI_R, DrI_N, DrI_A, DrJ_S, DrJ_I, DrJ_L, DrJ_R, DrJ_N, DrJ_A, dm64, G_d, G_x0, dX12_gap, dJ9_max_7cf53, dJ9_min_7cf53, doII, doRII, -Int32.not_le, -Int32.not_lt, -Int64.not_le, -Int64.not_lt, i3lt, i6lt, hf, hle, hz]
        try simp (disch := omega) [-Prod.forall, -Prod.exists, -Prod.mk.injEq, -Int32.not_le, -Int32.not_lt, -Int64.not_le, -Int64.not_lt, i3lt, i6lt, hf, hle, hz]
        exact DW.mono ih1 (by simp)
      · have hlt2 : ¬ nI N ≤ nI q := nI_ge hq9 (by omega)
        have hjq : jin (nI q) N := jinN hq9 (by omega)
        have eq : (nI q).toNatClampNeg = q := nI_clamp (by omega)
        have eI : nI p = nI q ↔ p = q := nI_eq (by omega) (by omega)
        obtain ⟨σ2, e2⟩ : ∃ σ2, σ2 = DmF τ 1115 N (fr1 σ N p q) := ⟨_, rfl⟩
        have C2 : exC σ σ2 N M := by rw [e2]; exact exC_F C hN _
        obtain ⟨⟨k1, k2, k3⟩, k4, k5, k6⟩ := C2
        have hf := dk_f k1
        have hr := dk_r k1 hp9
        have hrow := k6 p hp9
        have hB := k2
        unfold dkB at hB
        have goal9 : ∀ v : Int32, v = fr0 σ2 p q → DW g z mX12_extremes 31 (exL x [(4, .int (nI p)), (5, .int (nI q + 1))]) [] (DuI σ2 (1115 + p) q v) c0 s0 := fun v hv => by
          rw [k4 p q hp9] at hv
          rw [e2, DmF_up hp9, fr1_s hp9 hv, nI_1]
          exact ih2
        rw [← e2]
        unfold exL at goal9 ⊢
        by_cases c1 : p = q
        · have k := goal9 0 (by unfold fr0; rw [if_pos c1])
          subst c1
          refine dvk_ok (nC := n + 0) DX12_extremes hTyA hR (VC := []) (VD := [(168, 3, 12, n + 0, 0, 0, 0, [], dX12_gap)]) (SD := [(171, 2, 0, n + 0, 0, 0, 0, [], dJ9_max_7cf53), (176, 2, 0, n + 0, 0, 0, 0, [], dJ9_min_7cf53)]) (AL := []) (fun _ h => absurd h List.not_mem_nil) (List.forall_mem_cons.mpr ⟨⟨mX12_gap, 2, TX12, 25, rfl, by decide, hX12_168, WX12_gap, rfl, EX12_gap g _ n⟩, (fun _ h => absurd h List.not_mem_nil)⟩) (List.forall_mem_cons.mpr ⟨⟨mJ9_max_7cf53, by decide, Or.inl hX12_171, WJ9_max_7cf53, EJ9_max_7cf53 g _ n⟩, (List.forall_mem_cons.mpr ⟨⟨mJ9_min_7cf53, by decide, Or.inl hX12_176, WJ9_min_7cf53, EJ9_min_7cf53 g _ n⟩, (fun _ h => absurd h List.not_mem_nil)⟩)⟩) [31] 40 _ _ _ _ _ _ ?_
          simp (maxSteps := 1000000) [↓Bool.cond_eq_ite, -Prod.forall, -Prod.exists, -Prod.mk.injEq, dvk, tX12_extremes, jtb, jol, dvl, dal, dst, jlk, jcmp, jbin, jfl, qX12, jc2, qlX12, jcat, jel, lv_args, Value.category, jins, jsrt, jins2, jble, jblt, jf3, List.filter_cons, List.filter_nil, Dlo, Dnr, DnL, Dfree, Droom, DuS_S, DuS_I, DuS_L, DuS_R, DuS_N, DuS_A, DuI_S, DuI_I, DuI_L, DuI_R, DuI_N, DuI_A, DuL_S, DuL_I, DuL_L, DuL_R, DuL_N, DuL_A, DuR_S, DuR_I, DuR_L, DuR_R, DuR_N, DuR_A, Dnw_S, Dnw_I, Dnw_L, Dnw_R, Dnw_N, Dnw_A, DrI_S, DrI_I, DrI_L, DrI_R, DrI_N, DrI_A, DrJ_S, DrJ_I, DrJ_L, DrJ_R, DrJ_N, DrJ_A, dm64, G_d, G_x0, dX12_gap, dJ9_max_7cf53, dJ9_min_7cf53, doII, doRII, -Int32.not_le, -Int32.not_lt, -Int64.not_le, -Int64.not_lt, i3lt, i6lt, hf, hlt2, hz, hjp, ep, hrow, k5]
          try simp (disch := omega) [-Prod.forall, -Prod.exists, -Prod.mk.injEq, -Int32.not_le, -Int32.not_lt, -Int64.not_le, -Int64.not_lt, i3lt, i6lt, hf, hlt2, hz, hjp, ep, hrow, k5]
          exact k
        · by_cases c2 : DI σ2 1107 p < 0
          · have k := goal9 (-1000000000) (by unfold fr0; rw [if_neg c1, if_pos c2])
            refine dvk_ok (nC := n + 0) DX12_extremes hTyA hR (VC := []) (VD := [(168, 3, 12, n + 0, 0, 0, 0, [], dX12_gap)]) (SD := [(171, 2, 0, n + 0, 0, 0, 0, [], dJ9_max_7cf53), (176, 2, 0, n + 0, 0, 0, 0, [], dJ9_min_7cf53)]) (AL := []) (fun _ h => absurd h List.not_mem_nil) (List.forall_mem_cons.mpr ⟨⟨mX12_gap, 2, TX12, 25, rfl, by decide, hX12_168, WX12_gap, rfl, EX12_gap g _ n⟩, (fun _ h => absurd h List.not_mem_nil)⟩) (List.forall_mem_cons.mpr ⟨⟨mJ9_max_7cf53, by decide, Or.inl hX12_171, WJ9_max_7cf53, EJ9_max_7cf53 g _ n⟩, (List.forall_mem_cons.mpr ⟨⟨mJ9_min_7cf53, by decide, Or.inl hX12_176, WJ9_min_7cf53, EJ9_min_7cf53 g _ n⟩, (fun _ h => absurd h List.not_mem_nil)⟩)⟩) [31] 40 _ _ _ _ _ _ ?_
            simp (maxSteps := 1000000) [↓Bool.cond_eq_ite, -Prod.forall, -Prod.exists, -Prod.mk.injEq, dvk, tX12_extremes, jtb, jol, dvl, dal, dst, jlk, jcmp, jbin, jfl, qX12, jc2, qlX12, jcat, jel, lv_args, Value.category, jins, jsrt, jins2, jble, jblt, jf3, List.filter_cons, List.filter_nil, Dlo, Dnr, DnL, Dfree, Droom, DuS_S, DuS_I, DuS_L, DuS_R, DuS_N, DuS_A, DuI_S, DuI_I, DuI_L, DuI_R, DuI_N, DuI_A, DuL_S, DuL_I, DuL_L, DuL_R, DuL_N, DuL_A, DuR_S, DuR_I, DuR_L, DuR_R, DuR_N, DuR_A, Dnw_S, Dnw_I, Dnw_L, Dnw_R, Dnw_N, Dnw_A, DrI_S, DrI_I, DrI_L, DrI_R, DrI_N, DrI_A, DrJ_S, DrJ_I, DrJ_L, DrJ_R, DrJ_N, DrJ_A, dm64, G_d, G_x0, dX12_gap, dJ9_max_7cf53, dJ9_min_7cf53, doII, doRII, -Int32.not_le, -Int32.not_lt, -Int64.not_le, -Int64.not_lt, i3lt, i6lt, hf, hlt2, hz, hjp, hjq, ep, eq, hrow, k5, eI, c1, hB, c2]
            try simp (disch := omega) [-Prod.forall, -Prod.exists, -Prod.mk.injEq, -Int32.not_le, -Int32.not_lt, -Int64.not_le, -Int64.not_lt, i3lt, i6lt, hf, hlt2, hz, hjp, hjq, ep, eq, hrow, k5, eI, c1, hB, c2]
            exact k
          · by_cases c3 : DI σ2 1107 q < 0
            · have k := goal9 (-1000000000) (by unfold fr0; rw [if_neg c1, if_neg c2, if_pos c3])
              refine dvk_ok (nC := n + 0) DX12_extremes hTyA hR (VC := []) (VD := [(168, 3, 12, n + 0, 0, 0, 0, [], dX12_gap)]) (SD := [(171, 2, 0, n + 0, 0, 0, 0, [], dJ9_max_7cf53), (176, 2, 0, n + 0, 0, 0, 0, [], dJ9_min_7cf53)]) (AL := []) (fun _ h => absurd h List.not_mem_nil) (List.forall_mem_cons.mpr ⟨⟨mX12_gap, 2, TX12, 25, rfl, by decide, hX12_168, WX12_gap, rfl, EX12_gap g _ n⟩, (fun _ h => absurd h List.not_mem_nil)⟩) (List.forall_mem_cons.mpr ⟨⟨mJ9_max_7cf53, by decide, Or.inl hX12_171, WJ9_max_7cf53, EJ9_max_7cf53 g _ n⟩, (List.forall_mem_cons.mpr ⟨⟨mJ9_min_7cf53, by decide, Or.inl hX12_176, WJ9_min_7cf53, EJ9_min_7cf53 g _ n⟩, (fun _ h => absurd h List.not_mem_nil)⟩)⟩) [31] 40 _ _ _ _ _ _ ?_
              simp (maxSteps := 1000000) [↓Bool.cond_eq_ite, -Prod.forall, -Prod.exists, -Prod.mk.injEq, dvk, tX12_extremes, jtb, jol, dvl, dal, dst, jlk, jcmp, jbin, jfl, qX12, jc2, qlX12, jcat, jel, lv_args, Value.category, jins, jsrt, jins2, jble, jblt, jf3, List.filter_cons, List.filter_nil, Dlo, Dnr, DnL, Dfree, Droom, DuS_S, DuS_I, DuS_L, DuS_R, DuS_N, DuS_A, DuI_S, DuI_I, DuI_L, DuI_R, DuI_N, DuI_A, DuL_S, DuL_I, DuL_L, DuL_R, DuL_N, DuL_A, DuR_S, DuR_I, DuR_L, DuR_R, DuR_N, DuR_A, Dnw_S, Dnw_I, Dnw_L, Dnw_R, Dnw_N, Dnw_A, DrI_S, DrI_I, DrI_L, DrI_R, DrI_N, DrI_A, DrJ_S, DrJ_I, DrJ_L, DrJ_R, DrJ_N, DrJ_A, dm64, G_d, G_x0, dX12_gap, dJ9_max_7cf53, dJ9_min_7cf53, doII, doRII, -Int32.not_le, -Int32.not_lt, -Int64.not_le, -Int64.not_lt, i3lt, i6lt, hf, hlt2, hz, hjp, hjq, ep, eq, hrow, k5, eI, c1, hB, c2, c3]
              try simp (disch := omega) [-Prod.forall, -Prod.exists, -Prod.mk.injEq, -Int32.not_le, -Int32.not_lt, -Int64.not_le, -Int64.not_lt, i3lt, i6lt, hf, hlt2, hz, hjp, hjq, ep, eq, hrow, k5, eI, c1, hB, c2, c3]
              exact k
            · have j1 := k3 p hp9 c2
              have j2 := k3 q hq9 c3
              by_cases c4 : DI σ2 (1200 + p) (DI σ2 1107 q).toNatClampNeg = 0
              · have k := goal9 (gpD σ2 p q) (by unfold fr0 bR; rw [if_neg c1, if_neg c2, if_neg c3, if_pos c4])
                have hpre : prGap σ2 (nI p) (nI q) := ⟨N, M, p, q, k1, k2, rfl, rfl, hp9, hq9, j1, j2⟩
                refine dvk_ok (nC := n + 0) DX12_extremes hTyA hR (VC := []) (VD := [(168, 3, 12, n + 0, 0, 0, 0, [], dX12_gap)]) (SD := [(171, 2, 0, n + 0, 0, 0, 0, [], dJ9_max_7cf53), (176, 2, 0, n + 0, 0, 0, 0, [], dJ9_min_7cf53)]) (AL := []) (fun _ h => absurd h List.not_mem_nil) (List.forall_mem_cons.mpr ⟨⟨mX12_gap, 2, TX12, 25, rfl, by decide, hX12_168, WX12_gap, rfl, EX12_gap g _ n⟩, (fun _ h => absurd h List.not_mem_nil)⟩) (List.forall_mem_cons.mpr ⟨⟨mJ9_max_7cf53, by decide, Or.inl hX12_171, WJ9_max_7cf53, EJ9_max_7cf53 g _ n⟩, (List.forall_mem_cons.mpr ⟨⟨mJ9_min_7cf53, by decide, Or.inl hX12_176, WJ9_min_7cf53, EJ9_min_7cf53 g _ n⟩, (fun _ h => absurd h List.not_mem_nil)⟩)⟩) [31] 60 _ _ _ _ _ _ ?_
                simp (maxSteps := 1000000) [↓Bool.cond_eq_ite, -Prod.forall, -Prod.exists, -Prod.mk.injEq, dvk, tX12_extremes, jtb, jol, dvl, dal, dst, jlk, jcmp, jbin, jfl, qX12, jc2, qlX12, jcat, jel, lv_args, Value.category, jins, jsrt, jins2, jble, jblt, jf3, List.filter_cons, List.filter_nil, Dlo, Dnr, DnL, Dfree, Droom, DuS_S, DuS_I, DuS_L, DuS_R, DuS_N, DuS_A, DuI_S, DuI_I, DuI_L, DuI_R, DuI_N, DuI_A, DuL_S, DuL_I, DuL_L, DuL_R, DuL_N, DuL_A, DuR_S, DuR_I, DuR_L, DuR_R, DuR_N, DuR_A, Dnw_S, Dnw_I, Dnw_L, Dnw_R, Dnw_N, Dnw_A, DrI_S, DrI_I, DrI_L, DrI_R, DrI_N, DrI_A, DrJ_S, DrJ_I, DrJ_L, DrJ_R, DrJ_N, DrJ_A, dm64, G_d, G_x0, dX12_gap, dJ9_max_7cf53, dJ9_min_7cf53, doII, doRII, -Int32.not_le, -Int32.not_lt, -Int64.not_le, -Int64.not_lt, i3lt, i6lt, hf, hlt2, hz, hjp, hjq, ep, eq, hrow, k5, eI, c1, hB, c2, c3, c4, hr, j2, hpre, hc]
                try simp (disch := omega) [-Prod.forall, -Prod.exists, -Prod.mk.injEq, -Int32.not_le, -Int32.not_lt, -Int64.not_le, -Int64.not_lt, i3lt, i6lt, hf, hlt2, hz, hjp, hjq, ep, eq, hrow, k5, eI, c1, hB, c2, c3, c4, hr, j2, hpre, hc]
                exact k
              · have k := goal9 (-1000000000) (by unfold fr0 bR; rw [if_neg c1, if_neg c2, if_neg c3, if_neg c4])
                refine dvk_ok (nC := n + 0) DX12_extremes hTyA hR (VC := []) (VD := [(168, 3, 12, n + 0, 0, 0, 0, [], dX12_gap)]) (SD := [(171, 2, 0, n + 0, 0, 0, 0, [], dJ9_max_7cf53), (176, 2, 0, n + 0, 0, 0, 0, [], dJ9_min_7cf53)]) (AL := []) (fun _ h => absurd h List.not_mem_nil) (List.forall_mem_cons.mpr ⟨⟨mX12_gap, 2, TX12, 25, rfl, by decide, hX12_168, WX12_gap, rfl, EX12_gap g _ n⟩, (fun _ h => absurd h List.not_mem_nil)⟩) (List.forall_mem_cons.mpr ⟨⟨mJ9_max_7cf53, by decide, Or.inl hX12_171, WJ9_max_7cf53, EJ9_max_7cf53 g _ n⟩, (List.forall_mem_cons.mpr ⟨⟨mJ9_min_7cf53, by decide, Or.inl hX12_176, WJ9_min_7cf53, EJ9_min_7cf53 g _ n⟩, (fun _ h => absurd h List.not_mem_nil)⟩)⟩) [31] 60 _ _ _ _ _ _ ?_
                simp (maxSteps := 1000000) [↓Bool.cond_eq_ite, -Prod.forall, -Prod.exists, -Prod.mk.injEq, dvk, tX12_extremes, jtb, jol, dvl, dal, dst, jlk, jcmp, jbin, jfl, qX12, jc2, qlX12, jcat, jel, lv_args, Value.category, jins, jsrt, jins2, jble, jblt, jf3, List.filter_cons, List.filter_nil, Dlo, Dnr, DnL, Dfree, Droom, DuS_S, DuS_I, DuS_L, DuS_R, DuS_N, DuS_A, DuI_S, DuI_I, DuI_L, DuI_R, DuI_N, DuI_A, DuL_S, DuL_I, DuL_L, DuL_R, DuL_N, DuL_A, DuR_S, DuR_I, DuR_L, DuR_R, DuR_N, DuR_A, Dnw_S, Dnw_I, Dnw_L, Dnw_R, Dnw_N, Dnw_A, DrI_S, DrI_I, DrI_L, DrI_R, DrI_N, DrI_A, DrJ_S, DrJ_I, DrJ_L, DrJ_R, DrJ_N, DrJ_A, dm64, G_d, G_x0, dX12_gap, dJ9_max_7cf53, dJ9_min_7cf53, doII, doRII, -Int32.not_le, -Int32.not_lt, -Int64.not_le, -Int64.not_lt, i3lt, i6lt, hf, hlt2, hz, hjp, hjq, ep, eq, hrow, k5, eI, c1, hB, c2, c3, c4, hr, j2]
                try simp (disch := omega) [-Prod.forall, -Prod.exists, -Prod.mk.injEq, -Int32.not_le, -Int32.not_lt, -Int64.not_le, -Int64.not_lt, i3lt, i6lt, hf, hlt2, hz, hjp, hjq, ep, eq, hrow, k5, eI, c1, hB, c2, c3, c4, hr, j2]
                exact k
    have k := inner (exL x [(4, .int (nI p)), (5, .int (nI 0))]) rfl
    obtain ⟨σ2, e2⟩ : ∃ σ2, σ2 = DmF τ 1115 N (fr1 σ N p 0) := ⟨_, rfl⟩
    have C2 : exC σ σ2 N M := by rw [e2]; exact exC_F C hN _
    have hf := dk_f C2.1.1
    rw [← e2, nI_0] at k
    rw [← e2]
    unfold exL at k ⊢
    refine dvk_ok (nC := n + 0) DX12_extremes hTyA hR (VC := []) (VD := [(168, 3, 12, n + 0, 0, 0, 0, [], dX12_gap)]) (SD := [(171, 2, 0, n + 0, 0, 0, 0, [], dJ9_max_7cf53), (176, 2, 0, n + 0, 0, 0, 0, [], dJ9_min_7cf53)]) (AL := []) (fun _ h => absurd h List.not_mem_nil) (List.forall_mem_cons.mpr ⟨⟨mX12_gap, 2, TX12, 25, rfl, by decide, hX12_168, WX12_gap, rfl, EX12_gap g _ n⟩, (fun _ h => absurd h List.not_mem_nil)⟩) (List.forall_mem_cons.mpr ⟨⟨mJ9_max_7cf53, by decide, Or.inl hX12_171, WJ9_max_7cf53, EJ9_max_7cf53 g _ n⟩, (List.forall_mem_cons.mpr ⟨⟨mJ9_min_7cf53, by decide, Or.inl hX12_176, WJ9_min_7cf53, EJ9_min_7cf53 g _ n⟩, (fun _ h => absurd h List.not_mem_nil)⟩)⟩) [31] 20 _ _ _ _ _ _ ?_
    simp (maxSteps := 1000000) [↓Bool.cond_eq_ite, -Prod.forall, -Prod.exists, -Prod.mk.injEq, dvk, tX12_extremes, jtb, jol, dvl, dal, dst, jlk, jcmp, jbin, jfl, qX12, jc2, qlX12, jcat, jel, lv_args, Value.category, jins, jsrt, jins2, jble, jblt, jf3, List.filter_cons, List.filter_nil, Dlo, Dnr, DnL, Dfree, Droom, DuS_S, DuS_I, DuS_L, DuS_R, DuS_N, DuS_A, DuI_S, DuI_I, DuI_L, DuI_R, DuI_N, DuI_A, DuL_S, DuL_I, DuL_L, DuL_R, DuL_N, DuL_A, DuR_S, DuR_I, DuR_L, DuR_R, DuR_N, DuR_A, Dnw_S, Dnw_I, Dnw_L, Dnw_R, Dnw_N, Dnw_A, DrI_S, DrI_I, DrI_L, DrI_R, DrI_N, DrI_A, DrJ_S, DrJ_I, DrJ_L, DrJ_R, DrJ_N, DrJ_A, dm64, G_d, G_x0, dX12_gap, dJ9_max_7cf53, dJ9_min_7cf53, doII, doRII, -Int32.not_le, -Int32.not_lt, -Int64.not_le, -Int64.not_lt, i3lt, i6lt, hf, hlt, hz]
    try simp (disch := omega) [-Prod.forall, -Prod.exists, -Prod.mk.injEq, -Int32.not_le, -Int32.not_lt, -Int64.not_le, -Int64.not_lt, i3lt, i6lt, hf, hlt, hz]
    exact k
