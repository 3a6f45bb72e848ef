/-! the law's choose, whole -/
def dX12_choose (σ : dM) (N M P : Nat) : dO := doRIII fun a x t its τ => (a = 1000 ∧ x = nI P - 1 ∧ chO σ N M ∧ P ≤ N ∧ τ = chM σ N (chG τ), fun v ε => v = none ∧ ε = chM σ N (chFo σ N M P t its (chG τ)))
def chK (C : Int32) (b : Option (Nat → Int32)) (c : Nat → Int32) (N : Nat) : Option (Nat → Int32) := match b with
  | none => some c
  | some f => if C = 1 then some c else if lxl c f N 0 = true then some c else some f
theorem chK_s {C : Int32} {c f : Nat → Int32} {N : Nat} : chK C (some f) c N = if C = 1 then some c else if lxl c f N 0 = true then some c else some f := rfl
theorem chM_w {σ : dM} {N : Nat} {S C S' C' : Int32} {b : Option (Nat → Int32)} {c : Nat → Int32} : DuI (DuI (chM σ N (S, C, b, c)) 1000 23 C') 1000 22 S' = chM σ N (S', C', b, c) := by
  refine Prod.ext rfl (Prod.ext (funext fun i => funext fun j => ?_) rfl)
  show (if i = 1000 ∧ j = 22 then S' else if i = 1000 ∧ j = 23 then C' else if i = 1106 then c j else if i = 1000 ∧ j = 23 then C else if i = 1000 ∧ j = 22 then S else DI (chB σ N b) i j) = if i = 1106 then c j else if i = 1000 ∧ j = 23 then C' else if i = 1000 ∧ j = 22 then S' else DI (chB σ N b) i j
  by_cases e : i = 1106
  · rw [if_neg (fun z => by omega), if_neg (fun z => by omega), if_pos e, if_pos e]
  · rw [if_neg e, if_neg e]
    by_cases d : i = 1000 ∧ j = 23
    · rw [if_neg (fun z => by omega), if_pos d, if_pos d]
    · rw [if_neg d, if_neg d, if_neg d]
      split <;> rfl
set_option maxRecDepth 100000 in
set_option maxHeartbeats 4000000 in
theorem ECh_l {g : jG} {n : Nat} {z : dZ} {R : Option Value → dM → Nat → Nat → Prop} (hE : dEs g) (hR : dRok g z mX12_choose R) (hz : z.1.frames = n + 1 ∧ z.1.locals = 64 * (n + 1) ∧ z.1.cells = 1 ∧ z.1.slots = 5) {σ : dM} {N M : Nat} {S C : Int32} {b : Option (Nat → Int32)} {c : Nat → Int32} (h : chO σ N M) (hkp : z.2.2.1 1107 = false ∧ z.2.2.1 1109 = false)
    (ih : DW g z mX12_choose 76 [(0, .ref 1000)] [] (chM σ N (S, C, chK C b c N, c)) (0 + 1) (0 + N)) : DW g z mX12_choose 40 [(0, .ref 1000)] [] (chM σ N (S, C, b, c)) 0 0 := by
  have hN5 : N ≤ 5 := h.1.1.1.2
  have eN : (nI N).toNatClampNeg = N := nI_clamp (by omega)
  have hk := chM_k (s := (S, C, b, c)) h
  have hf := dk_f hk
  have hC := chM_C (s := (S, C, b, c)) h
  obtain ⟨v1, v2, v3⟩ := chM_v (σ := σ) (N := N) (s := (S, C, b, c))
  have tl : some c = chK C b c N → DW g z mX12_choose 62 [(0, .ref 1000)] [] (chM σ N (S, C, b, c)) 0 0 := fun e => ECh_t (K := 0) hE hR ⟨hz.1, hz.2.1⟩ h hkp ⟨by omega, by omega⟩ (by rw [e]; exact ih)
  cases b with
  | none =>
    have w1 := chM_n (S := S) (C := C) (c := c) h
    have k := tl rfl
    obtain ⟨σ2, e2⟩ : ∃ σ2, σ2 = chM σ N (S, C, none, c) := ⟨_, rfl⟩
    rw [← e2] at hf w1 k ⊢
    refine dvk_ok (nC := n + 0) DX12_choose hTyA hR (VC := []) (VD := [(148, 1, 12, n + 0, 0, 0, 0, [], dX12_isLower)]) (SD := []) (AL := []) (fun _ h => absurd h List.not_mem_nil) (List.forall_mem_cons.mpr ⟨⟨mX12_isLower, 0, TX12, 25, rfl, by decide, hX12_148, WX12_isLower, rfl, EX12_isLower g _ n⟩, (fun _ h => absurd h List.not_mem_nil)⟩) (fun _ h => absurd h List.not_mem_nil) [62] 10 _ _ _ _ _ _ ?_
    simp (maxSteps := 1000000) [↓Bool.cond_eq_ite, -Prod.forall, -Prod.exists, -Prod.mk.injEq, dvk, tX12_choose, jtb, jol, dvl, dal, dst, jlk, jcmp, jbin, jfl, qX12, jc2, qlX12, jcat, jel, lv_args, Value.category, jins, jsrt, jins2, jble, jblt, jf3, List.filter_cons, List.filter_nil, Dlo, Dnr, DnL, Dfree, Droom, DuS_S, DuS_I, DuS_L, DuS_R, DuS_N, DuS_A, DuI_S, DuI_I, DuI_L, DuI_R, DuI_N, DuI_A, DuL_S, DuL_I, DuL_L, DuL_R, DuL_N, DuL_A, DuR_S, DuR_I, DuR_L, DuR_R, DuR_N, DuR_A, Dnw_S, Dnw_I, Dnw_L, Dnw_R, Dnw_N, Dnw_A, DrI_S, DrI_I, DrI_L, DrI_R, DrI_N, DrI_A, DrJ_S, DrJ_I, DrJ_L, DrJ_R, DrJ_N, DrJ_A, dm64, G_d, G_x0, dX12_isLower, doR, -Int32.not_le, -Int32.not_lt, -Int64.not_le, -Int64.not_lt, i3lt, i6lt, hf, hz, w1]
    try simp (disch := omega) [-Prod.forall, -Prod.exists, -Prod.mk.injEq, -Int32.not_le, -Int32.not_lt, -Int64.not_le, -Int64.not_lt, i3lt, i6lt, hf, hz, w1]
    exact k
  | some f =>
    obtain ⟨w1, w2, w3, w4⟩ := chM_s (σ := σ) (N := N) (S := S) (C := C) (c := c) (f := f)
    by_cases c1 : C = 1
    · have k := tl (by rw [chK_s, if_pos c1])
      obtain ⟨σ2, e2⟩ : ∃ σ2, σ2 = chM σ N (S, C, some f, c) := ⟨_, rfl⟩
      have v2' : DI σ2 1000 23 = 1 := by rw [e2, v2, c1]
      rw [← e2] at hf w1 w2 k ⊢
      refine dvk_ok (nC := n + 0) DX12_choose hTyA hR (VC := []) (VD := [(148, 1, 12, n + 0, 0, 0, 0, [], dX12_isLower)]) (SD := []) (AL := []) (fun _ h => absurd h List.not_mem_nil) (List.forall_mem_cons.mpr ⟨⟨mX12_isLower, 0, TX12, 25, rfl, by decide, hX12_148, WX12_isLower, rfl, EX12_isLower g _ n⟩, (fun _ h => absurd h List.not_mem_nil)⟩) (fun _ h => absurd h List.not_mem_nil) [62] 20 _ _ _ _ _ _ ?_
      simp (maxSteps := 1000000) [↓Bool.cond_eq_ite, -Prod.forall, -Prod.exists, -Prod.mk.injEq, dvk, tX12_choose, jtb, jol, dvl, dal, dst, jlk, jcmp, jbin, jfl, qX12, jc2, qlX12, jcat, jel, lv_args, Value.category, jins, jsrt, jins2, jble, jblt, jf3, List.filter_cons, List.filter_nil, Dlo, Dnr, DnL, Dfree, Droom, DuS_S, DuS_I, DuS_L, DuS_R, DuS_N, DuS_A, DuI_S, DuI_I, DuI_L, DuI_R, DuI_N, DuI_A, DuL_S, DuL_I, DuL_L, DuL_R, DuL_N, DuL_A, DuR_S, DuR_I, DuR_L, DuR_R, DuR_N, DuR_A, Dnw_S, Dnw_I, Dnw_L, Dnw_R, Dnw_N, Dnw_A, DrI_S, DrI_I, DrI_L, DrI_R, DrI_N, DrI_A, DrJ_S, DrJ_I, DrJ_L, DrJ_R, DrJ_N, DrJ_A, dm64, G_d, G_x0, dX12_isLower, doR, -Int32.not_le, -Int32.not_lt, -Int64.not_le, -Int64.not_lt, i3lt, i6lt, hf, hz, w1, w2, v2']
      try simp (disch := omega) [-Prod.forall, -Prod.exists, -Prod.mk.injEq, -Int32.not_le, -Int32.not_lt, -Int64.not_le, -Int64.not_lt, i3lt, i6lt, hf, hz, w1, w2, v2']
      exact k
    · have hpre : prL (chM σ N (S, C, some f, c)) := ⟨N, M, hk, hC, w1, w2, w3⟩
      by_cases c2 : lxl c f N 0 = true
      · have k := tl (by rw [chK_s, if_neg c1, if_pos c2])
        obtain ⟨σ2, e2⟩ : ∃ σ2, σ2 = chM σ N (S, C, some f, c) := ⟨_, rfl⟩
        have v2' : DI σ2 1000 23 = C := by rw [e2, v2]
        rw [← e2] at hf w1 w2 w4 v3 k hpre ⊢
        have v3' : DI σ2 1106 = c := v3
        refine dvk_ok (nC := n + 0) DX12_choose hTyA hR (VC := []) (VD := [(148, 1, 12, n + 0, 0, 0, 0, [], dX12_isLower)]) (SD := []) (AL := []) (fun _ h => absurd h List.not_mem_nil) (List.forall_mem_cons.mpr ⟨⟨mX12_isLower, 0, TX12, 25, rfl, by decide, hX12_148, WX12_isLower, rfl, EX12_isLower g _ n⟩, (fun _ h => absurd h List.not_mem_nil)⟩) (fun _ h => absurd h List.not_mem_nil) [62] 30 _ _ _ _ _ _ ?_
        simp (maxSteps := 1000000) [↓Bool.cond_eq_ite, -Prod.forall, -Prod.exists, -Prod.mk.injEq, dvk, tX12_choose, jtb, jol, dvl, dal, dst, jlk, jcmp, jbin, jfl, qX12, jc2, qlX12, jcat, jel, lv_args, Value.category, jins, jsrt, jins2, jble, jblt, jf3, List.filter_cons, List.filter_nil, Dlo, Dnr, DnL, Dfree, Droom, DuS_S, DuS_I, DuS_L, DuS_R, DuS_N, DuS_A, DuI_S, DuI_I, DuI_L, DuI_R, DuI_N, DuI_A, DuL_S, DuL_I, DuL_L, DuL_R, DuL_N, DuL_A, DuR_S, DuR_I, DuR_L, DuR_R, DuR_N, DuR_A, Dnw_S, Dnw_I, Dnw_L, Dnw_R, Dnw_N, Dnw_A, DrI_S, DrI_I, DrI_L, DrI_R, DrI_N, DrI_A, DrJ_S, DrJ_I, DrJ_L, DrJ_R, DrJ_N, DrJ_A, dm64, G_d, G_x0, dX12_isLower, doR, -Int32.not_le, -Int32.not_lt, -Int64.not_le, -Int64.not_lt, i3lt, i6lt, hf, hz, w1, w2, w4, v2', v3', c1, c2, hpre, eN]
        try simp (disch := omega) [-Prod.forall, -Prod.exists, -Prod.mk.injEq, -Int32.not_le, -Int32.not_lt, -Int64.not_le, -Int64.not_lt, i3lt, i6lt, hf, hz, w1, w2, w4, v2', v3', c1, c2, hpre, eN]
        exact k
      · have e9 : chK C (some f) c N = some f := by rw [chK_s, if_neg c1, if_neg c2]
        rw [e9] at ih
        have k := DW.wide (c0 := 0) (s0 := 0) (Nat.zero_le _) (Nat.zero_le _) ih
        obtain ⟨σ2, e2⟩ : ∃ σ2, σ2 = chM σ N (S, C, some f, c) := ⟨_, rfl⟩
        have v2' : DI σ2 1000 23 = C := by rw [e2, v2]
        rw [← e2] at hf w1 w2 w4 v3 k hpre ⊢
        have v3' : DI σ2 1106 = c := v3
        have c2' : lxl c f N 0 = false := by simpa using c2
        refine dvk_ok (nC := n + 0) DX12_choose hTyA hR (VC := []) (VD := [(148, 1, 12, n + 0, 0, 0, 0, [], dX12_isLower)]) (SD := []) (AL := []) (fun _ h => absurd h List.not_mem_nil) (List.forall_mem_cons.mpr ⟨⟨mX12_isLower, 0, TX12, 25, rfl, by decide, hX12_148, WX12_isLower, rfl, EX12_isLower g _ n⟩, (fun _ h => absurd h List.not_mem_nil)⟩) (fun _ h => absurd h List.not_mem_nil) [76] 30 _ _ _ _ _ _ ?_
        simp (maxSteps := 1000000) [↓Bool.cond_eq_ite, -Prod.forall, -Prod.exists, -Prod.mk.injEq, dvk, tX12_choose, jtb, jol, dvl, dal, dst, jlk, jcmp, jbin, jfl, qX12, jc2, qlX12, jcat, jel, lv_args, Value.category, jins, jsrt, jins2, jble, jblt, jf3, List.filter_cons, List.filter_nil, Dlo, Dnr, DnL, Dfree, Droom, DuS_S, DuS_I, DuS_L, DuS_R, DuS_N, DuS_A, DuI_S, DuI_I, DuI_L, DuI_R, DuI_N, DuI_A, DuL_S, DuL_I, DuL_L, DuL_R, DuL_N, DuL_A, DuR_S, DuR_I, DuR_L, DuR_R, DuR_N, DuR_A, Dnw_S, Dnw_I, Dnw_L, Dnw_R, Dnw_N, Dnw_A, DrI_S, DrI_I, DrI_L, DrI_R, DrI_N, DrI_A, DrJ_S, DrJ_I, DrJ_L, DrJ_R, DrJ_N, DrJ_A, dm64, G_d, G_x0, dX12_isLower, doR, -Int32.not_le, -Int32.not_lt, -Int64.not_le, -Int64.not_lt, i3lt, i6lt, hf, hz, w1, w2, w4, v2', v3', c1, c2', hpre, eN]
        try simp (disch := omega) [-Prod.forall, -Prod.exists, -Prod.mk.injEq, -Int32.not_le, -Int32.not_lt, -Int64.not_le, -Int64.not_lt, i3lt, i6lt, hf, hz, w1, w2, w4, v2', v3', c1, c2', hpre, eN]
        exact k
set_option maxRecDepth 100000 in
set_option maxHeartbeats 4000000 in
theorem ECh_0 (g : jG) (h0 n : Nat) (hE : dEs g) (σ : dM) (N M : Nat) : dOk g h0 (n + 1) 1 5 [1107, 1109] mX12_choose (dX12_choose σ N M 0) := by
  refine doRIII_ok ?_
  rintro _ _ t its τ ⟨rfl, rfl, h, hP, hτ⟩
  have hN5 : N ≤ 5 := h.1.1.1.2
  obtain ⟨⟨S, C, b, c⟩, es⟩ : ∃ s, s = chG τ := ⟨_, rfl⟩
  rw [← es] at hτ
  have hf := dk_f (show dk τ N M by rw [hτ]; exact chM_k h)
  obtain ⟨v1, v2, v3⟩ := chM_v (σ := σ) (N := N) (s := (S, C, b, c))
  rw [← hτ] at v1 v2 v3
  have hx : nI 0 - 1 = (-1 : Int32) := by decide
  have hx1 : (-1 : Int32) < 0 := by decide
  have hx2 : ¬ (0 : Int32) ≤ -1 := by decide
  rw [hx]
  by_cases c1 : its < S
  · have c1' : ¬ S ≤ its := by grind
    have v1' : DI τ 1000 22 = S := v1
    refine dCon.go (by decide +kernel) (by simp [lg_sl, Value.category]) (fun z hkp hcl hz post hp hR => ?_)
    simp only [DkF] at hkp
    refine dvk_ok (nC := n + 0) DX12_choose hTyA hR (VC := []) (VD := [(148, 1, 12, n + 0, 0, 0, 0, [], dX12_isLower)]) (SD := []) (AL := []) (fun _ h => absurd h List.not_mem_nil) (List.forall_mem_cons.mpr ⟨⟨mX12_isLower, 0, TX12, 25, rfl, by decide, hX12_148, WX12_isLower, rfl, EX12_isLower g _ n⟩, (fun _ h => absurd h List.not_mem_nil)⟩) (fun _ h => absurd h List.not_mem_nil) [] 20 _ _ _ _ _ _ ?_
    simp (maxSteps := 1000000) [↓Bool.cond_eq_ite, -Prod.forall, -Prod.exists, -Prod.mk.injEq, dvk, tX12_choose, jtb, jol, dvl, dal, dst, jlk, jcmp, jbin, jfl, qX12, jc2, qlX12, jcat, jel, lv_args, Value.category, jins, jsrt, jins2, jble, jblt, jf3, List.filter_cons, List.filter_nil, Dlo, Dnr, DnL, Dfree, Droom, DuS_S, DuS_I, DuS_L, DuS_R, DuS_N, DuS_A, DuI_S, DuI_I, DuI_L, DuI_R, DuI_N, DuI_A, DuL_S, DuL_I, DuL_L, DuL_R, DuL_N, DuL_A, DuR_S, DuR_I, DuR_L, DuR_R, DuR_N, DuR_A, Dnw_S, Dnw_I, Dnw_L, Dnw_R, Dnw_N, Dnw_A, DrI_S, DrI_I, DrI_L, DrI_R, DrI_N, DrI_A, DrJ_S, DrJ_I, DrJ_L, DrJ_R, DrJ_N, DrJ_A, dm64, G_d, G_x0, dX12_isLower, doR, -Int32.not_le, -Int32.not_lt, -Int64.not_le, -Int64.not_lt, i3lt, i6lt, hf, v1', c1, c1', hx1, hx2, hkp, hz]
    try simp (disch := omega) [-Prod.forall, -Prod.exists, -Prod.mk.injEq, -Int32.not_le, -Int32.not_lt, -Int64.not_le, -Int64.not_lt, i3lt, i6lt, hf, v1', c1, c1', hx1, hx2, hkp, hz]
    refine ⟨⟨by omega, by omega⟩, τ, Dsub.rfl hcl, hp _ _ ⟨rfl, ?_⟩⟩
    rw [← es]
    show τ = chM σ N (chE N its (S, C, b, c))
    unfold chE
    rw [if_pos c1]
    exact hτ
  · have c1' : S ≤ its := by grind
    have v1' : DI τ 1000 22 = S := v1
    have v2' : DI τ 1000 23 = C := v2
    refine dCon.go (by decide +kernel) (by simp [lg_sl, Value.category]) (fun z hkp hcl hz post hp hR => ?_)
    simp only [DkF] at hkp
    refine dvk_ok (nC := n + 0) DX12_choose hTyA hR (VC := []) (VD := [(148, 1, 12, n + 0, 0, 0, 0, [], dX12_isLower)]) (SD := []) (AL := []) (fun _ h => absurd h List.not_mem_nil) (List.forall_mem_cons.mpr ⟨⟨mX12_isLower, 0, TX12, 25, rfl, by decide, hX12_148, WX12_isLower, rfl, EX12_isLower g _ n⟩, (fun _ h => absurd h List.not_mem_nil)⟩) (fun _ h => absurd h List.not_mem_nil) [13] 20 _ _ _ _ _ _ ?_
    simp (maxSteps := 1000000) [↓Bool.cond_eq_ite, -Prod.forall, -Prod.exists, -Prod.mk.injEq, dvk, tX12_choose, jtb, jol, dvl, dal, dst, jlk, jcmp, jbin, jfl, qX12, jc2, qlX12, jcat, jel, lv_args, Value.category, jins, jsrt, jins2, jble, jblt, jf3, List.filter_cons, List.filter_nil, Dlo, Dnr, DnL, Dfree, Droom, DuS_S, DuS_I, DuS_L, DuS_R, DuS_N, DuS_A, DuI_S, DuI_I, DuI_L, DuI_R, DuI_N, DuI_A, DuL_S, DuL_I, DuL_L, DuL_R, DuL_N, DuL_A, DuR_S, DuR_I, DuR_L, DuR_R, DuR_N, DuR_A, Dnw_S, Dnw_I, Dnw_L, Dnw_R, Dnw_N, Dnw_A, DrI_S, DrI_I, DrI_L, DrI_R, DrI_N, DrI_A, DrJ_S, DrJ_I, DrJ_L, DrJ_R, DrJ_N, DrJ_A, dm64, G_d, G_x0, dX12_isLower, doR, -Int32.not_le, -Int32.not_lt, -Int64.not_le, -Int64.not_lt, i3lt, i6lt, hf, v1', c1, c1', hx1, hx2, hkp, hz]
    try simp (disch := omega) [-Prod.forall, -Prod.exists, -Prod.mk.injEq, -Int32.not_le, -Int32.not_lt, -Int64.not_le, -Int64.not_lt, i3lt, i6lt, hf, v1', c1, c1', hx1, hx2, hkp, hz]
    have fin : ∀ C', C' = (if S < its then 1 else C + 1) → DW g z mX12_choose 40 [(0, .ref 1000)] [] (DuI (DuI τ 1000 23 C') 1000 22 its) 0 0 := fun C' e => by
      rw [hτ, chM_w]
      refine ECh_l hE hR hz h ⟨hkp.1, hkp.2.1⟩ ?_
      have hfin := hp none _ ⟨rfl, rfl⟩
      rw [← es] at hfin
      have e9 : chFo σ N M 0 t its (S, C, b, c) = (its, C', chK C' b c N, c) := by
        show chE N its (S, C, b, c) = _
        unfold chE
        rw [if_neg c1, e]
        rfl
      rw [e9] at hfin
      refine dvk_ok (nC := n + 0) DX12_choose hTyA hR (VC := []) (VD := [(148, 1, 12, n + 0, 0, 0, 0, [], dX12_isLower)]) (SD := []) (AL := []) (fun _ h => absurd h List.not_mem_nil) (List.forall_mem_cons.mpr ⟨⟨mX12_isLower, 0, TX12, 25, rfl, by decide, hX12_148, WX12_isLower, rfl, EX12_isLower g _ n⟩, (fun _ h => absurd h List.not_mem_nil)⟩) (fun _ h => absurd h List.not_mem_nil) [] 5 _ _ _ _ _ _ ?_
      simp (maxSteps := 1000000) [↓Bool.cond_eq_ite, -Prod.forall, -Prod.exists, -Prod.mk.injEq, dvk, tX12_choose, jtb, jol, dvl, dal, dst, jlk, jcmp, jbin, jfl, qX12, jc2, qlX12, jcat, jel, lv_args, Value.category, jins, jsrt, jins2, jble, jblt, jf3, List.filter_cons, List.filter_nil, Dlo, Dnr, DnL, Dfree, Droom, DuS_S, DuS_I, DuS_L, DuS_R, DuS_N, DuS_A, DuI_S, DuI_I, DuI_L, DuI_R, DuI_N, DuI_A, DuL_S, DuL_I, DuL_L, DuL_R, DuL_N, DuL_A, DuR_S, DuR_I, DuR_L, DuR_R, DuR_N, DuR_A, Dnw_S, Dnw_I, Dnw_L, Dnw_R, Dnw_N, Dnw_A, DrI_S, DrI_I, DrI_L, DrI_R, DrI_N, DrI_A, DrJ_S, DrJ_I, DrJ_L, DrJ_R, DrJ_N, DrJ_A, dm64, G_d, G_x0, dX12_isLower, doR, -Int32.not_le, -Int32.not_lt, -Int64.not_le, -Int64.not_lt, i3lt, i6lt, hz]
      try simp (disch := omega) [-Prod.forall, -Prod.exists, -Prod.mk.injEq, -Int32.not_le, -Int32.not_lt, -Int64.not_le, -Int64.not_lt, i3lt, i6lt, hz]
      exact ⟨⟨by omega, by omega⟩, _, Dsub.rfl (chM_cl h), hfin⟩
    by_cases c2 : S < its
    · have c2' : ¬ its ≤ S := by grind
      have k := fin 1 (by rw [if_pos c2])
      refine dvk_ok (nC := n + 0) DX12_choose hTyA hR (VC := []) (VD := [(148, 1, 12, n + 0, 0, 0, 0, [], dX12_isLower)]) (SD := []) (AL := []) (fun _ h => absurd h List.not_mem_nil) (List.forall_mem_cons.mpr ⟨⟨mX12_isLower, 0, TX12, 25, rfl, by decide, hX12_148, WX12_isLower, rfl, EX12_isLower g _ n⟩, (fun _ h => absurd h List.not_mem_nil)⟩) (fun _ h => absurd h List.not_mem_nil) [40] 20 _ _ _ _ _ _ ?_
      simp (maxSteps := 1000000) [↓Bool.cond_eq_ite, -Prod.forall, -Prod.exists, -Prod.mk.injEq, dvk, tX12_choose, jtb, jol, dvl, dal, dst, jlk, jcmp, jbin, jfl, qX12, jc2, qlX12, jcat, jel, lv_args, Value.category, jins, jsrt, jins2, jble, jblt, jf3, List.filter_cons, List.filter_nil, Dlo, Dnr, DnL, Dfree, Droom, DuS_S, DuS_I, DuS_L, DuS_R, DuS_N, DuS_A, DuI_S, DuI_I, DuI_L, DuI_R, DuI_N, DuI_A, DuL_S, DuL_I, DuL_L, DuL_R, DuL_N, DuL_A, DuR_S, DuR_I, DuR_L, DuR_R, DuR_N, DuR_A, Dnw_S, Dnw_I, Dnw_L, Dnw_R, Dnw_N, Dnw_A, DrI_S, DrI_I, DrI_L, DrI_R, DrI_N, DrI_A, DrJ_S, DrJ_I, DrJ_L, DrJ_R, DrJ_N, DrJ_A, dm64, G_d, G_x0, dX12_isLower, doR, -Int32.not_le, -Int32.not_lt, -Int64.not_le, -Int64.not_lt, i3lt, i6lt, hf, hz, v1', v2', c2, c2']
      try simp (disch := omega) [-Prod.forall, -Prod.exists, -Prod.mk.injEq, -Int32.not_le, -Int32.not_lt, -Int64.not_le, -Int64.not_lt, i3lt, i6lt, hf, hz, v1', v2', c2, c2']
      exact DW.mono k (by simp)
    · have c2' : its ≤ S := by grind
      have k := fin (C + 1) (by rw [if_neg c2])
      refine dvk_ok (nC := n + 0) DX12_choose hTyA hR (VC := []) (VD := [(148, 1, 12, n + 0, 0, 0, 0, [], dX12_isLower)]) (SD := []) (AL := []) (fun _ h => absurd h List.not_mem_nil) (List.forall_mem_cons.mpr ⟨⟨mX12_isLower, 0, TX12, 25, rfl, by decide, hX12_148, WX12_isLower, rfl, EX12_isLower g _ n⟩, (fun _ h => absurd h List.not_mem_nil)⟩) (fun _ h => absurd h List.not_mem_nil) [40] 20 _ _ _ _ _ _ ?_
      simp (maxSteps := 1000000) [↓Bool.cond_eq_ite, -Prod.forall, -Prod.exists, -Prod.mk.injEq, dvk, tX12_choose, jtb, jol, dvl, dal, dst, jlk, jcmp, jbin, jfl, qX12, jc2, qlX12, jcat, jel, lv_args, Value.category, jins, jsrt, jins2, jble, jblt, jf3, List.filter_cons, List.filter_nil, Dlo, Dnr, DnL, Dfree, Droom, DuS_S, DuS_I, DuS_L, DuS_R, DuS_N, DuS_A, DuI_S, DuI_I, DuI_L, DuI_R, DuI_N, DuI_A, DuL_S, DuL_I, DuL_L, DuL_R, DuL_N, DuL_A, DuR_S, DuR_I, DuR_L, DuR_R, DuR_N, DuR_A, Dnw_S, Dnw_I, Dnw_L, Dnw_R, Dnw_N, Dnw_A, DrI_S, DrI_I, DrI_L, DrI_R, DrI_N, DrI_A, DrJ_S, DrJ_I, DrJ_L, DrJ_R, DrJ_N, DrJ_A, dm64, G_d, G_x0, dX12_isLower, doR, -Int32.not_le, -Int32.not_lt, -Int64.not_le, -Int64.not_lt, i3lt, i6lt, hf, hz, v1', v2', c2, c2']
      try simp (disch := omega) [-Prod.forall, -Prod.exists, -Prod.mk.injEq, -Int32.not_le, -Int32.not_lt, -Int64.not_le, -Int64.not_lt, i3lt, i6lt, hf, hz, v1', v2', c2, c2']
      exact DW.mono k (by simp)
