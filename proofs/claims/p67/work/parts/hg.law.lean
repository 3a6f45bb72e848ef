/-! the law's split, whole -/
set_option maxRecDepth 100000 in
set_option maxHeartbeats 4000000 in
theorem ESp_2 {g : jG} {n : Nat} {z : dZ} {post : Option Value → dM → Prop} (hR : dRok g z mX12_split (dRp 2 10 post)) (hz : z.1.frames = n + 1 ∧ z.1.locals = 64 * (n + 1) ∧ z.1.cells = 2 ∧ z.1.slots = 10) {σ : dM} {w N A : Nat} {wt : Nat → Nat} (hcl : Dcl0 σ) (d1 : DA σ 1124 = false) (d2 : DA σ 1310 = false) (C : spC σ (Dnw (Dnw σ 1124 N) 1310 N) w N) (hN5 : N ≤ 5) (hA : A ≤ 99999) (hwt : ∀ p, p < N → DL σ w p = lN (wt p) ∧ wt p ≤ 100000000)
    (hp' : ∀ τ, τ = DrI (Dnw σ 1124 N) 1124 (uRow A (DI σ 1210) wt N) → post (some (.ref 1124)) τ) : DW g z mX12_split 63 [(0, .ref 1000), (1, .int (nI A)), (2, .ref w), (3, .ref 1210), (4, .ref 1124), (5, .ref 1310), (6, .long (lN (uAll (DI σ 1210) wt N))), (8, .int (nI 0)), (9, .int (nI 0))] [] (Dnw (Dnw σ 1124 N) 1310 N) 2 10 := by
  have main := ESp_main hR hz hcl d1 d2 C hN5 hA hwt (wt := wt)
  have C0 := C
  obtain ⟨g0, gh, gw, hw⟩ := C
  obtain ⟨σ1, e1⟩ : ∃ σ1, σ1 = Dnw (Dnw σ 1124 N) 1310 N := ⟨_, rfl⟩
  have hsub0 := Dsub_sp (N := N) hcl d1 d2 (fillI (fun _ => 0) N, fun _ => 0)
  have es0 : rsD (Dnw (Dnw σ 1124 N) 1310 N) 1124 1310 (fillI (fun _ => 0) N, fun _ => 0) = Dnw (Dnw σ 1124 N) 1310 N := by
    refine Prod.ext rfl (Prod.ext (funext fun i => funext fun j => ?_) (Prod.ext (funext fun i => funext fun j => ?_) rfl))
    · show (if i = 1124 then fillI (fun _ => 0) N j else DI (Dnw (Dnw σ 1124 N) 1310 N) i j) = DI (Dnw (Dnw σ 1124 N) 1310 N) i j
      by_cases c : i = 1124
      · rw [if_pos c, c]
        show fillI (fun _ => 0) N j = 0
        unfold fillI
        split <;> rfl
      · rw [if_neg c]
    · show (if i = 1310 then (0 : Int64) else DL (Dnw (Dnw σ 1124 N) 1310 N) i j) = DL (Dnw (Dnw σ 1124 N) 1310 N) i j
      by_cases c : i = 1310
      · rw [if_pos c, c]
        rfl
      · rw [if_neg c]
  rw [es0] at hsub0
  rw [← e1] at g0 gh gw main hsub0 ⊢
  have key2 := jloop (P := fun k => DW g z mX12_split 63 [(0, .ref 1000), (1, .int (nI A)), (2, .ref w), (3, .ref 1210), (4, .ref 1124), (5, .ref 1310), (6, .long (lN (uAll (DI σ 1210) wt N))), (8, .int (nI (cn (fun p => !decide (DI σ 1210 p = 0)) k))), (9, .int (nI k))] [] σ1 2 10) (N := N) (by
    have hle : nI N ≤ nI N := nI_le (Nat.le_refl _) (by omega)
    have hcl0 := cn_le (fun p => !decide (DI σ 1210 p = 0)) N
    have hUe := uSum_eq (DI σ 1210) wt N
    by_cases cM : cn (fun p => !decide (DI σ 1210 p = 0)) N = 0
    · have hz0 : nI (cn (fun p => !decide (DI σ 1210 p = 0)) N) = 0 := by rw [cM]; rfl
      have hfin := hp' _ rfl
      have e9 : uRow A (DI σ 1210) wt N = fillI (fun _ => 0) N := by unfold uRow; rw [if_pos cM]
      rw [e9] at hfin
      refine dvk_ok (nC := n + 0) DX12_split hTyA hR (VC := []) (VD := []) (SD := [(181, 4, 0, n + 0, 0, 0, 0, [], dX12_rest)]) (AL := []) (fun _ h => absurd h List.not_mem_nil) (fun _ h => absurd h List.not_mem_nil) (List.forall_mem_cons.mpr ⟨⟨mX12_rest, by decide, Or.inl hX12_181, WX12_rest, EX12_rest g _ n⟩, (fun _ h => absurd h List.not_mem_nil)⟩) [63] 30 _ _ _ _ _ _ ?_
      simp (maxSteps := 1000000) [↓Bool.cond_eq_ite, -Prod.forall, -Prod.exists, -Prod.mk.injEq, dvk, tX12_split, jtb, jol, dvl, dal, dst, jlk, jcmp, jbin, jfl, qX12, jc2, qlX12, jcat, jel, lv_args, Value.category, jins, jsrt, jins2, jble, jblt, jf3, List.filter_cons, List.filter_nil, Dlo, Dnr, DnL, Dfree, Droom, DuS_S, DuS_I, DuS_L, DuS_R, DuS_N, DuS_A, DuI_S, DuI_I, DuI_L, DuI_R, DuI_N, DuI_A, DuL_S, DuL_I, DuL_L, DuL_R, DuL_N, DuL_A, DuR_S, DuR_I, DuR_L, DuR_R, DuR_N, DuR_A, Dnw_S, Dnw_I, Dnw_L, Dnw_R, Dnw_N, Dnw_A, DrI_S, DrI_I, DrI_L, DrI_R, DrI_N, DrI_A, DrJ_S, DrJ_I, DrJ_L, DrJ_R, DrJ_N, DrJ_A, dm64, G_d, G_x0, dX12_rest, doRRRI, -Int32.not_le, -Int32.not_lt, -Int64.not_le, -Int64.not_lt, i3lt, i6lt, g0, hle, hz, hz0]
      try simp (disch := omega) [-Prod.forall, -Prod.exists, -Prod.mk.injEq, -Int32.not_le, -Int32.not_lt, -Int64.not_le, -Int64.not_lt, i3lt, i6lt, g0, hle, hz, hz0]
      exact ⟨⟨by omega, by omega⟩, _, hsub0, hfin⟩
    · have hne : ¬ nI (cn (fun p => !decide (DI σ 1210 p = 0)) N) = 0 := fun z9 => cM ((nI_eq (b := 0) (by omega) (by decide)).mp z9)
      have main2 := main cM hp'
      have hWb : uAll (DI σ 1210) wt N ≤ 500000000 := by
        have := smN_le (f := fun p => if DI σ 1210 p = 0 then 0 else wt p) (B := 100000000) N (fun i hi => by
          show (if DI σ 1210 i = 0 then 0 else wt i) ≤ _
          split
          · omega
          · exact (hwt i hi).2)
        unfold uAll
        omega
      by_cases cW : uAll (DI σ 1210) wt N = 0
      · have e9 : uSum (DI σ 1210) wt N = cn (fun p => !decide (DI σ 1210 p = 0)) N := by rw [hUe, if_pos cW]
        rw [e9] at main2
        have hc0 : lg_cmp (lN (uAll (DI σ 1210) wt N)) 0 = 0 := (lgc_0 (by omega)).mpr cW
        have hl9 : (nI (cn (fun p => !decide (DI σ 1210 p = 0)) N)).toInt64 = lN (cn (fun p => !decide (DI σ 1210 p = 0)) N) := nI_l (by omega)
        refine dvk_ok (nC := n + 0) DX12_split hTyA hR (VC := []) (VD := []) (SD := [(181, 4, 0, n + 0, 0, 0, 0, [], dX12_rest)]) (AL := []) (fun _ h => absurd h List.not_mem_nil) (fun _ h => absurd h List.not_mem_nil) (List.forall_mem_cons.mpr ⟨⟨mX12_rest, by decide, Or.inl hX12_181, WX12_rest, EX12_rest g _ n⟩, (fun _ h => absurd h List.not_mem_nil)⟩) [63, 118] 30 _ _ _ _ _ _ ?_
        simp (maxSteps := 1000000) [↓Bool.cond_eq_ite, -Prod.forall, -Prod.exists, -Prod.mk.injEq, dvk, tX12_split, jtb, jol, dvl, dal, dst, jlk, jcmp, jbin, jfl, qX12, jc2, qlX12, jcat, jel, lv_args, Value.category, jins, jsrt, jins2, jble, jblt, jf3, List.filter_cons, List.filter_nil, Dlo, Dnr, DnL, Dfree, Droom, DuS_S, DuS_I, DuS_L, DuS_R, DuS_N, DuS_A, DuI_S, DuI_I, DuI_L, DuI_R, DuI_N, DuI_A, DuL_S, DuL_I, DuL_L, DuL_R, DuL_N, DuL_A, DuR_S, DuR_I, DuR_L, DuR_R, DuR_N, DuR_A, Dnw_S, Dnw_I, Dnw_L, Dnw_R, Dnw_N, Dnw_A, DrI_S, DrI_I, DrI_L, DrI_R, DrI_N, DrI_A, DrJ_S, DrJ_I, DrJ_L, DrJ_R, DrJ_N, DrJ_A, dm64, G_d, G_x0, dX12_rest, doRRRI, -Int32.not_le, -Int32.not_lt, -Int64.not_le, -Int64.not_lt, i3lt, i6lt, g0, hle, hz, hne, hc0, hl9]
        try simp (disch := omega) [-Prod.forall, -Prod.exists, -Prod.mk.injEq, -Int32.not_le, -Int32.not_lt, -Int64.not_le, -Int64.not_lt, i3lt, i6lt, g0, hle, hz, hne, hc0, hl9]
        exact DW.mono main2 (by simp)
      · have e9 : uSum (DI σ 1210) wt N = uAll (DI σ 1210) wt N := by rw [hUe, if_neg cW]
        rw [e9] at main2
        have hc0 : ¬ lg_cmp (lN (uAll (DI σ 1210) wt N)) 0 = 0 := fun z9 => cW ((lgc_0 (by omega)).mp z9)
        refine dvk_ok (nC := n + 0) DX12_split hTyA hR (VC := []) (VD := []) (SD := [(181, 4, 0, n + 0, 0, 0, 0, [], dX12_rest)]) (AL := []) (fun _ h => absurd h List.not_mem_nil) (fun _ h => absurd h List.not_mem_nil) (List.forall_mem_cons.mpr ⟨⟨mX12_rest, by decide, Or.inl hX12_181, WX12_rest, EX12_rest g _ n⟩, (fun _ h => absurd h List.not_mem_nil)⟩) [63, 118] 30 _ _ _ _ _ _ ?_
        simp (maxSteps := 1000000) [↓Bool.cond_eq_ite, -Prod.forall, -Prod.exists, -Prod.mk.injEq, dvk, tX12_split, jtb, jol, dvl, dal, dst, jlk, jcmp, jbin, jfl, qX12, jc2, qlX12, jcat, jel, lv_args, Value.category, jins, jsrt, jins2, jble, jblt, jf3, List.filter_cons, List.filter_nil, Dlo, Dnr, DnL, Dfree, Droom, DuS_S, DuS_I, DuS_L, DuS_R, DuS_N, DuS_A, DuI_S, DuI_I, DuI_L, DuI_R, DuI_N, DuI_A, DuL_S, DuL_I, DuL_L, DuL_R, DuL_N, DuL_A, DuR_S, DuR_I, DuR_L, DuR_R, DuR_N, DuR_A, Dnw_S, Dnw_I, Dnw_L, Dnw_R, Dnw_N, Dnw_A, DrI_S, DrI_I, DrI_L, DrI_R, DrI_N, DrI_A, DrJ_S, DrJ_I, DrJ_L, DrJ_R, DrJ_N, DrJ_A, dm64, G_d, G_x0, dX12_rest, doRRRI, -Int32.not_le, -Int32.not_lt, -Int64.not_le, -Int64.not_lt, i3lt, i6lt, g0, hle, hz, hne, hc0]
        try simp (disch := omega) [-Prod.forall, -Prod.exists, -Prod.mk.injEq, -Int32.not_le, -Int32.not_lt, -Int64.not_le, -Int64.not_lt, i3lt, i6lt, g0, hle, hz, hne, hc0]
        exact DW.mono main2 (by simp)) (fun k hk9 ih2 => by
    have hlt : ¬ nI N ≤ nI k := nI_ge hk9 (by omega)
    have hj : jin (nI k) N := jinN hk9 (by omega)
    have ek : (nI k).toNatClampNeg = k := nI_clamp (by omega)
    by_cases c : DI σ 1210 k = 0
    · have e9 : cn (fun p => !decide (DI σ 1210 p = 0)) (k + 1) = cn (fun p => !decide (DI σ 1210 p = 0)) k := by simp [cn, c]
      rw [e9, ← nI_1] at ih2
      refine dvk_ok (nC := n + 0) DX12_split hTyA hR (VC := []) (VD := []) (SD := [(181, 4, 0, n + 0, 0, 0, 0, [], dX12_rest)]) (AL := []) (fun _ h => absurd h List.not_mem_nil) (fun _ h => absurd h List.not_mem_nil) (List.forall_mem_cons.mpr ⟨⟨mX12_rest, by decide, Or.inl hX12_181, WX12_rest, EX12_rest g _ n⟩, (fun _ h => absurd h List.not_mem_nil)⟩) [63] 40 _ _ _ _ _ _ ?_
      simp (maxSteps := 1000000) [↓Bool.cond_eq_ite, -Prod.forall, -Prod.exists, -Prod.mk.injEq, dvk, tX12_split, jtb, jol, dvl, dal, dst, jlk, jcmp, jbin, jfl, qX12, jc2, qlX12, jcat, jel, lv_args, Value.category, jins, jsrt, jins2, jble, jblt, jf3, List.filter_cons, List.filter_nil, Dlo, Dnr, DnL, Dfree, Droom, DuS_S, DuS_I, DuS_L, DuS_R, DuS_N, DuS_A, DuI_S, DuI_I, DuI_L, DuI_R, DuI_N, DuI_A, DuL_S, DuL_I, DuL_L, DuL_R, DuL_N, DuL_A, DuR_S, DuR_I, DuR_L, DuR_R, DuR_N, DuR_A, Dnw_S, Dnw_I, Dnw_L, Dnw_R, Dnw_N, Dnw_A, DrI_S, DrI_I, DrI_L, DrI_R, DrI_N, DrI_A, DrJ_S, DrJ_I, DrJ_L, DrJ_R, DrJ_N, DrJ_A, dm64, G_d, G_x0, dX12_rest, doRRRI, -Int32.not_le, -Int32.not_lt, -Int64.not_le, -Int64.not_lt, i3lt, i6lt, g0, gh, hlt, hj, ek, c, hz]
      try simp (disch := omega) [-Prod.forall, -Prod.exists, -Prod.mk.injEq, -Int32.not_le, -Int32.not_lt, -Int64.not_le, -Int64.not_lt, i3lt, i6lt, g0, gh, hlt, hj, ek, c, hz]
      exact ih2
    · have e9 : cn (fun p => !decide (DI σ 1210 p = 0)) (k + 1) = cn (fun p => !decide (DI σ 1210 p = 0)) k + 1 := by simp [cn, c]
      rw [e9, ← nI_1, ← nI_1] at ih2
      refine dvk_ok (nC := n + 0) DX12_split hTyA hR (VC := []) (VD := []) (SD := [(181, 4, 0, n + 0, 0, 0, 0, [], dX12_rest)]) (AL := []) (fun _ h => absurd h List.not_mem_nil) (fun _ h => absurd h List.not_mem_nil) (List.forall_mem_cons.mpr ⟨⟨mX12_rest, by decide, Or.inl hX12_181, WX12_rest, EX12_rest g _ n⟩, (fun _ h => absurd h List.not_mem_nil)⟩) [63] 40 _ _ _ _ _ _ ?_
      simp (maxSteps := 1000000) [↓Bool.cond_eq_ite, -Prod.forall, -Prod.exists, -Prod.mk.injEq, dvk, tX12_split, jtb, jol, dvl, dal, dst, jlk, jcmp, jbin, jfl, qX12, jc2, qlX12, jcat, jel, lv_args, Value.category, jins, jsrt, jins2, jble, jblt, jf3, List.filter_cons, List.filter_nil, Dlo, Dnr, DnL, Dfree, Droom, DuS_S, DuS_I, DuS_L, DuS_R, DuS_N, DuS_A, DuI_S, DuI_I, DuI_L, DuI_R, DuI_N, DuI_A, DuL_S, DuL_I, DuL_L, DuL_R, DuL_N, DuL_A, DuR_S, DuR_I, DuR_L, DuR_R, DuR_N, DuR_A, Dnw_S, Dnw_I, Dnw_L, Dnw_R, Dnw_N, Dnw_A, DrI_S, DrI_I, DrI_L, DrI_R, DrI_N, DrI_A, DrJ_S, DrJ_I, DrJ_L, DrJ_R, DrJ_N, DrJ_A, dm64, G_d, G_x0, dX12_rest, doRRRI, -Int32.not_le, -Int32.not_lt, -Int64.not_le, -Int64.not_lt, i3lt, i6lt, g0, gh, hlt, hj, ek, c, hz]
      try simp (disch := omega) [-Prod.forall, -Prod.exists, -Prod.mk.injEq, -Int32.not_le, -Int32.not_lt, -Int64.not_le, -Int64.not_lt, i3lt, i6lt, g0, gh, hlt, hj, ek, c, hz]
      exact ih2)
  exact key2
set_option maxRecDepth 100000 in
set_option maxHeartbeats 4000000 in
theorem EX12_split (g : jG) (h0 n : Nat) : dOk g h0 (n + 1) 2 10 [1124, 1310] mX12_split dX12_split := by
  refine doRIRR_ok ?_
  rintro _ _ w _ σ ⟨rfl, N, M, A, wt0, hk, rfl, hA, hw, rfl, ⟨Aw, Nw⟩, ⟨Ah, Nh⟩, hwt0, d1, d2⟩
  have hN5 : N ≤ 5 := hk.1.1.2
  have hf := dk_f hk
  have eN : (nI N).toNatClampNeg = N := nI_clamp (by omega)
  have eA : (nI A).toNatClampNeg = A := nI_clamp (by omega)
  have hn0 : ¬ nI N < 0 := nI_pos (by omega)
  obtain ⟨wt, ewt⟩ : ∃ wt : Nat → Nat, wt = fun p => (DL σ w p).toInt.toNat := ⟨_, rfl⟩
  have hwt : ∀ p, p < N → DL σ w p = lN (wt p) ∧ wt p ≤ 100000000 := fun p hp => by
    obtain ⟨h1, h2⟩ := hwt0 p hp
    have e : wt p = wt0 p := by
      rw [ewt]
      show (DL σ w p).toInt.toNat = wt0 p
      rw [h1, pk_lT (by omega)]
      rfl
    rw [e]
    exact ⟨h1, h2⟩
  have hwa : darr w 2 4 = true := by rcases hw with rfl | rfl <;> decide +kernel
  have hw1 : ¬ w = 1310 := by rcases hw with rfl | rfl <;> decide
  have hw2 : ¬ w = 1124 := by rcases hw with rfl | rfl <;> decide
  have hres : spRes σ (nI A) w 1210 = DrI (Dnw σ 1124 N) 1124 (uRow A (DI σ 1210) wt N) := by
    unfold spRes
    rw [hf.1.2, eN, eA, ewt]
  refine dCon.go (by decide +kernel) (by simp [lg_sl, Value.category]) (fun z hkp hcl hz post hp hR => ?_)
  simp only [DkF] at hkp
  refine dvk_ok (nC := n + 0) DX12_split hTyA hR (VC := []) (VD := []) (SD := [(181, 4, 0, n + 0, 0, 0, 0, [], dX12_rest)]) (AL := [(4, 1124, 5), (12, 1310, 5)]) (fun _ h => absurd h List.not_mem_nil) (fun _ h => absurd h List.not_mem_nil) (List.forall_mem_cons.mpr ⟨⟨mX12_rest, by decide, Or.inl hX12_181, WX12_rest, EX12_rest g _ n⟩, (fun _ h => absurd h List.not_mem_nil)⟩) [22] 20 _ _ _ _ _ _ ?_
  simp (maxSteps := 1000000) [↓Bool.cond_eq_ite, -Prod.forall, -Prod.exists, -Prod.mk.injEq, dvk, tX12_split, jtb, jol, dvl, dal, dst, jlk, jcmp, jbin, jfl, qX12, jc2, qlX12, jcat, jel, lv_args, Value.category, jins, jsrt, jins2, jble, jblt, jf3, List.filter_cons, List.filter_nil, Dlo, Dnr, DnL, Dfree, Droom, DuS_S, DuS_I, DuS_L, DuS_R, DuS_N, DuS_A, DuI_S, DuI_I, DuI_L, DuI_R, DuI_N, DuI_A, DuL_S, DuL_I, DuL_L, DuL_R, DuL_N, DuL_A, DuR_S, DuR_I, DuR_L, DuR_R, DuR_N, DuR_A, Dnw_S, Dnw_I, Dnw_L, Dnw_R, Dnw_N, Dnw_A, DrI_S, DrI_I, DrI_L, DrI_R, DrI_N, DrI_A, DrJ_S, DrJ_I, DrJ_L, DrJ_R, DrJ_N, DrJ_A, dm64, G_d, G_x0, dX12_rest, doRRRI, -Int32.not_le, -Int32.not_lt, -Int64.not_le, -Int64.not_lt, i3lt, i6lt, hf, d1, d2, eN, hn0, hN5, hw1, hw2, hkp, hz]
  try simp (disch := omega) [-Prod.forall, -Prod.exists, -Prod.mk.injEq, -Int32.not_le, -Int32.not_lt, -Int64.not_le, -Int64.not_lt, i3lt, i6lt, hf, d1, d2, eN, hn0, hN5, hw1, hw2, hkp, hz]
  have hp' : ∀ τ, τ = DrI (Dnw σ 1124 N) 1124 (uRow A (DI σ 1210) wt N) → post (some (.ref 1124)) τ := fun τ e => hp _ _ ⟨rfl, by rw [e, hres]⟩
  obtain ⟨a1, a2, a3, a4, a5⟩ := Dw1 (N := N) d1 d2
  have C : spC σ (Dnw (Dnw σ 1124 N) 1310 N) w N := by
    refine ⟨⟨?_, ?_, ?_, ?_, ?_, ?_, rfl, rfl, rfl, rfl⟩, fun j => ?_, fun j => ?_, hwa, hw1, hw2⟩
    · rw [a1 1000 (by decide) (by decide)]; exact hf.2.1.1
    · rw [a3 1000 (by decide) (by decide)]; exact hf.1.2
    · rw [a1 1210 (by decide) (by decide)]; exact Ah
    · rw [a2 1210 (by decide) (by decide)]; exact Nh
    · rw [a1 w hw2 hw1]; exact Aw
    · rw [a2 w hw2 hw1]; exact Nw
    · rw [a3 1210 (by decide) (by decide)]
    · rw [a4 w hw2 hw1]
  have k2 := ESp_2 hR hz hcl d1 d2 C hN5 hA hwt hp'
  obtain ⟨g0, gh, gw, -⟩ := C
  obtain ⟨σ1, e1⟩ : ∃ σ1, σ1 = Dnw (Dnw σ 1124 N) 1310 N := ⟨_, rfl⟩
  rw [← e1] at g0 gh gw k2 ⊢
  have key := jloop (P := fun k => DW g z mX12_split 22 [(0, .ref 1000), (1, .int (nI A)), (2, .ref w), (3, .ref 1210), (4, .ref 1124), (5, .ref 1310), (6, .long (lN (uAll (DI σ 1210) wt k))), (8, .int (nI k))] [] σ1 2 10) (N := N) (by
    have hle : nI N ≤ nI N := nI_le (Nat.le_refl _) (by omega)
    refine dvk_ok (nC := n + 0) DX12_split hTyA hR (VC := []) (VD := []) (SD := [(181, 4, 0, n + 0, 0, 0, 0, [], dX12_rest)]) (AL := []) (fun _ h => absurd h List.not_mem_nil) (fun _ h => absurd h List.not_mem_nil) (List.forall_mem_cons.mpr ⟨⟨mX12_rest, by decide, Or.inl hX12_181, WX12_rest, EX12_rest g _ n⟩, (fun _ h => absurd h List.not_mem_nil)⟩) [63] 20 _ _ _ _ _ _ ?_
    simp (maxSteps := 1000000) [↓Bool.cond_eq_ite, -Prod.forall, -Prod.exists, -Prod.mk.injEq, dvk, tX12_split, jtb, jol, dvl, dal, dst, jlk, jcmp, jbin, jfl, qX12, jc2, qlX12, jcat, jel, lv_args, Value.category, jins, jsrt, jins2, jble, jblt, jf3, List.filter_cons, List.filter_nil, Dlo, Dnr, DnL, Dfree, Droom, DuS_S, DuS_I, DuS_L, DuS_R, DuS_N, DuS_A, DuI_S, DuI_I, DuI_L, DuI_R, DuI_N, DuI_A, DuL_S, DuL_I, DuL_L, DuL_R, DuL_N, DuL_A, DuR_S, DuR_I, DuR_L, DuR_R, DuR_N, DuR_A, Dnw_S, Dnw_I, Dnw_L, Dnw_R, Dnw_N, Dnw_A, DrI_S, DrI_I, DrI_L, DrI_R, DrI_N, DrI_A, DrJ_S, DrJ_I, DrJ_L, DrJ_R, DrJ_N, DrJ_A, dm64, G_d, G_x0, dX12_rest, doRRRI, -Int32.not_le, -Int32.not_lt, -Int64.not_le, -Int64.not_lt, i3lt, i6lt, g0, hle, hz]
    try simp (disch := omega) [-Prod.forall, -Prod.exists, -Prod.mk.injEq, -Int32.not_le, -Int32.not_lt, -Int64.not_le, -Int64.not_lt, i3lt, i6lt, g0, hle, hz]
    rw [nI_0] at k2
    exact DW.mono k2 (by simp)) (fun k hk9 ih => by
    have hlt : ¬ nI N ≤ nI k := nI_ge hk9 (by omega)
    have hj : jin (nI k) N := jinN hk9 (by omega)
    have ek : (nI k).toNatClampNeg = k := nI_clamp (by omega)
    by_cases c : DI σ 1210 k = 0
    · have e9 : uAll (DI σ 1210) wt (k + 1) = uAll (DI σ 1210) wt k := by
        unfold uAll
        simp only [smN]
        rw [if_pos c, Nat.add_zero]
      have l0 : lN (uAll (DI σ 1210) wt k) + 0 = lN (uAll (DI σ 1210) wt k) := Int64.add_zero _
      rw [e9, ← nI_1] at ih
      refine dvk_ok (nC := n + 0) DX12_split hTyA hR (VC := []) (VD := []) (SD := [(181, 4, 0, n + 0, 0, 0, 0, [], dX12_rest)]) (AL := []) (fun _ h => absurd h List.not_mem_nil) (fun _ h => absurd h List.not_mem_nil) (List.forall_mem_cons.mpr ⟨⟨mX12_rest, by decide, Or.inl hX12_181, WX12_rest, EX12_rest g _ n⟩, (fun _ h => absurd h List.not_mem_nil)⟩) [22] 40 _ _ _ _ _ _ ?_
      simp (maxSteps := 1000000) [↓Bool.cond_eq_ite, -Prod.forall, -Prod.exists, -Prod.mk.injEq, dvk, tX12_split, jtb, jol, dvl, dal, dst, jlk, jcmp, jbin, jfl, qX12, jc2, qlX12, jcat, jel, lv_args, Value.category, jins, jsrt, jins2, jble, jblt, jf3, List.filter_cons, List.filter_nil, Dlo, Dnr, DnL, Dfree, Droom, DuS_S, DuS_I, DuS_L, DuS_R, DuS_N, DuS_A, DuI_S, DuI_I, DuI_L, DuI_R, DuI_N, DuI_A, DuL_S, DuL_I, DuL_L, DuL_R, DuL_N, DuL_A, DuR_S, DuR_I, DuR_L, DuR_R, DuR_N, DuR_A, Dnw_S, Dnw_I, Dnw_L, Dnw_R, Dnw_N, Dnw_A, DrI_S, DrI_I, DrI_L, DrI_R, DrI_N, DrI_A, DrJ_S, DrJ_I, DrJ_L, DrJ_R, DrJ_N, DrJ_A, dm64, G_d, G_x0, dX12_rest, doRRRI, -Int32.not_le, -Int32.not_lt, -Int64.not_le, -Int64.not_lt, i3lt, i6lt, g0, gh, hlt, hj, ek, c, hz, l0]
      try simp (disch := omega) [-Prod.forall, -Prod.exists, -Prod.mk.injEq, -Int32.not_le, -Int32.not_lt, -Int64.not_le, -Int64.not_lt, i3lt, i6lt, g0, gh, hlt, hj, ek, c, hz, l0]
      exact ih
    · have e9 : lN (uAll (DI σ 1210) wt (k + 1)) = lN (uAll (DI σ 1210) wt k) + DL σ w k := by
        rw [(hwt k hk9).1, lN_add]
        unfold uAll
        simp only [smN]
        rw [if_neg c]
      rw [e9, ← nI_1] at ih
      refine dvk_ok (nC := n + 0) DX12_split hTyA hR (VC := []) (VD := []) (SD := [(181, 4, 0, n + 0, 0, 0, 0, [], dX12_rest)]) (AL := []) (fun _ h => absurd h List.not_mem_nil) (fun _ h => absurd h List.not_mem_nil) (List.forall_mem_cons.mpr ⟨⟨mX12_rest, by decide, Or.inl hX12_181, WX12_rest, EX12_rest g _ n⟩, (fun _ h => absurd h List.not_mem_nil)⟩) [22] 40 _ _ _ _ _ _ ?_
      simp (maxSteps := 1000000) [↓Bool.cond_eq_ite, -Prod.forall, -Prod.exists, -Prod.mk.injEq, dvk, tX12_split, jtb, jol, dvl, dal, dst, jlk, jcmp, jbin, jfl, qX12, jc2, qlX12, jcat, jel, lv_args, Value.category, jins, jsrt, jins2, jble, jblt, jf3, List.filter_cons, List.filter_nil, Dlo, Dnr, DnL, Dfree, Droom, DuS_S, DuS_I, DuS_L, DuS_R, DuS_N, DuS_A, DuI_S, DuI_I, DuI_L, DuI_R, DuI_N, DuI_A, DuL_S, DuL_I, DuL_L, DuL_R, DuL_N, DuL_A, DuR_S, DuR_I, DuR_L, DuR_R, DuR_N, DuR_A, Dnw_S, Dnw_I, Dnw_L, Dnw_R, Dnw_N, Dnw_A, DrI_S, DrI_I, DrI_L, DrI_R, DrI_N, DrI_A, DrJ_S, DrJ_I, DrJ_L, DrJ_R, DrJ_N, DrJ_A, dm64, G_d, G_x0, dX12_rest, doRRRI, -Int32.not_le, -Int32.not_lt, -Int64.not_le, -Int64.not_lt, i3lt, i6lt, g0, gh, gw, hlt, hj, ek, c, hz, hwa]
      try simp (disch := omega) [-Prod.forall, -Prod.exists, -Prod.mk.injEq, -Int32.not_le, -Int32.not_lt, -Int64.not_le, -Int64.not_lt, i3lt, i6lt, g0, gh, gw, hlt, hj, ek, c, hz, hwa]
      exact ih)
  rw [nI_0] at key
  exact key
