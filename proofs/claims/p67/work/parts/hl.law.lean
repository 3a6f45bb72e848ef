/-! the law's extremes, its row -/
theorem Dsub_fr {P : Nat → Prop} {σ τ : dM} {a n : Nat} {f : Nat → Int32} (hcl : Dcl0 σ) (h : Dfr P σ τ) (hP : ∀ k, ¬ P k → k ≠ a → DA σ k = false) (hA : DA τ a = true) (hN : DN τ a = n) (hI : ∀ j, DI τ a j = f j) (hL : ∀ j, DL τ a j = 0) (hR : ∀ j, DR τ a j = none) : Dsub (DrI (Dnw σ a n) a f) τ := by
  refine ⟨h.1.symm, Dnw_cl hcl, fun k h1 hk => ?_⟩
  have hk' : (if k = a then true else DA σ k) = true := hk
  by_cases c : k = a
  · subst c
    refine ⟨hA, ?_, ?_, ?_, ?_⟩
    · funext j
      rw [DrI_I, if_pos rfl]
      exact (hI j).symm
    · funext j
      rw [DrI_L, Dnw_L, if_pos rfl]
      exact (hL j).symm
    · funext j
      rw [DrI_R, Dnw_R, if_pos rfl]
      exact (hR j).symm
    · rw [DrI_N, Dnw_N, if_pos rfl]
      exact hN.symm
  · rw [if_neg c] at hk'
    have d : P k := Classical.byContradiction (fun z => by rw [hP k z c] at hk'; cases hk')
    obtain ⟨e1, e2, e3, e4, e5⟩ := h.2 k d
    refine ⟨by rw [e5]; exact hk', ?_, ?_, ?_, ?_⟩
    · rw [e1]
      funext j
      rw [DrI_I, if_neg c, Dnw_I, if_neg c]
    · rw [e2]
      funext j
      rw [DrI_L, Dnw_L, if_neg c]
    · rw [e3]
      funext j
      rw [DrI_R, Dnw_R, if_neg c]
    · rw [e4, DrI_N, Dnw_N, if_neg c]
def exP (x : Int32) (F : Nat → Nat → Int32) (N p q j : Nat) : Int32 := if j < p then exQ x F j N else if j = p then exQ x F p q else 0
theorem exP_s {x v : Int32} {F : Nat → Nat → Int32} {N p q : Nat} (h : v = exQ x F p (q + 1)) : (fun j => if j = p then v else exP x F N p q j) = exP x F N p (q + 1) := by
  funext j
  unfold exP
  by_cases c : j = p
  · rw [if_pos c, if_neg (by omega), if_pos c, h]
  · rw [if_neg c]
    by_cases d : j < p
    · rw [if_pos d, if_pos d]
    · rw [if_neg d, if_neg d, if_neg c, if_neg c]
theorem exP_e (x : Int32) (F : Nat → Nat → Int32) (N p : Nat) : exP x F N p N = exP x F N (p + 1) 0 := by
  funext j
  unfold exP
  by_cases c : j = p
  · subst c
    rw [if_neg (by omega), if_pos rfl, if_pos (by omega)]
  · by_cases d : j < p
    · rw [if_pos d, if_pos (by omega)]
    · rw [if_neg d, if_neg c, if_neg (by omega)]
      by_cases e : j = p + 1
      · rw [if_pos e]
        rfl
      · rw [if_neg e]
theorem exP_N (x : Int32) (F : Nat → Nat → Int32) (N : Nat) : exP x F N N 0 = fillI (fun p => exQ x F p N) N := by
  funext j
  unfold exP fillI
  by_cases d : j < N
  · rw [if_pos d, if_pos d]
  · rw [if_neg d, if_neg d]
    split <;> rfl
theorem exP_0 {δ : dM} {a n N : Nat} (x : Int32) (F : Nat → Nat → Int32) : Dnw δ a n = DrI (Dnw δ a n) a (exP x F N 0 0) := by
  conv => lhs; rw [← DrI_self (Dnw δ a n) a]
  congr 1
  funext j
  rw [Dnw_I, if_pos rfl]
  unfold exP
  rw [if_neg (by omega)]
  by_cases e : j = 0
  · rw [if_pos e]
    rfl
  · rw [if_neg e]
/-- what the last loop stands on -/
def exD (σ3 : dM) (F : Nat → Nat → Int32) (N ρ : Nat) : Prop := (DA σ3 1000 = true ∧ DI σ3 1000 2 = nI N) ∧ (DA σ3 1401 = true ∧ DN σ3 1401 = N) ∧ (DA σ3 ρ = true ∧ DN σ3 ρ = N ∧ darr ρ 1 0 = true) ∧ ∀ p, p < N → (DR σ3 1401 p = some (1115 + p) ∧ DA σ3 (1115 + p) = true ∧ DN σ3 (1115 + p) = N ∧ darr (1115 + p) 1 0 = true) ∧ ∀ j, DI σ3 (1115 + p) j = F p j
theorem exD_r {σ3 : dM} {F : Nat → Nat → Int32} {N ρ : Nat} (h : exD σ3 F N ρ) (hρ : 1120 ≤ ρ) (hN : N ≤ 5) (f : Nat → Int32) : exD (DrI σ3 ρ f) F N ρ := by
  obtain ⟨h1, h2, h3, h4⟩ := h
  refine ⟨⟨h1.1, ?_⟩, h2, h3, fun p hp => ⟨(h4 p hp).1, fun j => ?_⟩⟩
  · rw [DrI_I, if_neg (by omega)]
    exact h1.2
  · rw [DrI_I, if_neg (by omega)]
    exact (h4 p hp).2 j
set_option maxRecDepth 100000 in
set_option maxHeartbeats 4000000 in
theorem EEx_30 {g : jG} {n : Nat} {z : dZ} {R : Option Value → dM → Nat → Nat → Prop} (hR : dRok g z mX12_extremes R) (hz : z.1.frames = n + 1 ∧ z.1.locals = 64 * (n + 1) ∧ z.1.cells = 7 ∧ z.1.slots = 35) {σ3 : dM} {N ρ c0 s0 p q : Nat} {F : Nat → Nat → Int32} (hρ : 1120 ≤ ρ) (hN : N ≤ 5) (C : exD σ3 F N ρ) (hc : c0 ≤ 7 ∧ s0 ≤ 35) (hp : p < N) (hq : q < N)
    (ih : DW g z mX12_extremes 251 (exL 0 [(4, .ref ρ), (5, .int (nI p)), (6, .int (nI (q + 1)))]) [] (DrI σ3 ρ (exP 0 F N p (q + 1))) c0 s0) : DW g z mX12_extremes 251 (exL 0 [(4, .ref ρ), (5, .int (nI p)), (6, .int (nI q))]) [] (DrI σ3 ρ (exP 0 F N p q)) c0 s0 := by
  have hlt : ¬ nI N ≤ nI q := nI_ge hq (by omega)
  have hjp : jin (nI p) N := jinN hp (by omega)
  have hjq : jin (nI q) N := jinN hq (by omega)
  have ep : (nI p).toNatClampNeg = p := nI_clamp (by omega)
  have eq : (nI q).toNatClampNeg = q := nI_clamp (by omega)
  obtain ⟨σ4, e4⟩ : ∃ σ4, σ4 = DrI σ3 ρ (exP 0 F N p q) := ⟨_, rfl⟩
  have C4 : exD σ4 F N ρ := by rw [e4]; exact exD_r C hρ hN _
  obtain ⟨h1, h2, h3, h4⟩ := C4
  have rp := (h4 p hp).1
  have rq := (h4 q hq).1
  have vpq := (h4 p hp).2 q
  have vqp := (h4 q hq).2 p
  have vr : DI σ4 ρ p = exQ 0 F p q := by
    rw [e4, DrI_I, if_pos rfl]
    unfold exP
    rw [if_neg (by omega), if_pos rfl]
  have fin : ∀ v, v = exQ 0 F p (q + 1) → DW g z mX12_extremes 251 (exL 0 [(4, .ref ρ), (5, .int (nI p)), (6, .int (nI q + 1))]) [] (DuI σ4 ρ p v) c0 s0 := fun v hv => by
    rw [e4, DuI_rI, exP_s hv, nI_1]
    exact ih
  rw [← e4]
  unfold exL at fin ⊢
  have k := fin _ rfl
  simp only [exQ, if_true] at k
  by_cases c1 : F q p ≤ -1000000000
  · simp only [if_pos c1] at k
    refine dvk_ok (nC := n + 0) DX12_extremes hTyA hR (VC := []) (VD := [(168, 3, 12, n + 0, 0, 0, 0, [], dX12_gap)]) (SD := [(171, 2, 0, n + 0, 0, 0, 0, [], dJ9_max_7cf53), (176, 2, 0, n + 0, 0, 0, 0, [], dJ9_min_7cf53)]) (AL := []) (fun _ h => absurd h List.not_mem_nil) (List.forall_mem_cons.mpr ⟨⟨mX12_gap, 2, TX12, 25, rfl, by decide, hX12_168, WX12_gap, rfl, EX12_gap g _ n⟩, (fun _ h => absurd h List.not_mem_nil)⟩) (List.forall_mem_cons.mpr ⟨⟨mJ9_max_7cf53, by decide, Or.inl hX12_171, WJ9_max_7cf53, EJ9_max_7cf53 g _ n⟩, (List.forall_mem_cons.mpr ⟨⟨mJ9_min_7cf53, by decide, Or.inl hX12_176, WJ9_min_7cf53, EJ9_min_7cf53 g _ n⟩, (fun _ h => absurd h List.not_mem_nil)⟩)⟩) [251] 60 _ _ _ _ _ _ ?_
    simp (maxSteps := 1000000) [↓Bool.cond_eq_ite, -Prod.forall, -Prod.exists, -Prod.mk.injEq, dvk, tX12_extremes, jtb, jol, dvl, dal, dst, jlk, jcmp, jbin, jfl, qX12, jc2, qlX12, jcat, jel, lv_args, Value.category, jins, jsrt, jins2, jble, jblt, jf3, List.filter_cons, List.filter_nil, Dlo, Dnr, DnL, Dfree, Droom, DuS_S, DuS_I, DuS_L, DuS_R, DuS_N, DuS_A, DuI_S, DuI_I, DuI_L, DuI_R, DuI_N, DuI_A, DuL_S, DuL_I, DuL_L, DuL_R, DuL_N, DuL_A, DuR_S, DuR_I, DuR_L, DuR_R, DuR_N, DuR_A, Dnw_S, Dnw_I, Dnw_L, Dnw_R, Dnw_N, Dnw_A, DrI_S, DrI_I, DrI_L, DrI_R, DrI_N, DrI_A, DrJ_S, DrJ_I, DrJ_L, DrJ_R, DrJ_N, DrJ_A, dm64, G_d, G_x0, dX12_gap, dJ9_max_7cf53, dJ9_min_7cf53, doII, doRII, -Int32.not_le, -Int32.not_lt, -Int64.not_le, -Int64.not_lt, i3lt, i6lt, h1, h2, h3, hlt, hz, hjp, hjq, ep, eq, rp, rq, vpq, vqp, vr, c1, hc]
    try simp (disch := omega) [-Prod.forall, -Prod.exists, -Prod.mk.injEq, -Int32.not_le, -Int32.not_lt, -Int64.not_le, -Int64.not_lt, i3lt, i6lt, h1, h2, h3, hlt, hz, hjp, hjq, ep, eq, rp, rq, vpq, vqp, vr, c1, hc]
    exact k
  · simp only [if_neg c1] at k
    refine dvk_ok (nC := n + 0) DX12_extremes hTyA hR (VC := []) (VD := [(168, 3, 12, n + 0, 0, 0, 0, [], dX12_gap)]) (SD := [(171, 2, 0, n + 0, 0, 0, 0, [], dJ9_max_7cf53), (176, 2, 0, n + 0, 0, 0, 0, [], dJ9_min_7cf53)]) (AL := []) (fun _ h => absurd h List.not_mem_nil) (List.forall_mem_cons.mpr ⟨⟨mX12_gap, 2, TX12, 25, rfl, by decide, hX12_168, WX12_gap, rfl, EX12_gap g _ n⟩, (fun _ h => absurd h List.not_mem_nil)⟩) (List.forall_mem_cons.mpr ⟨⟨mJ9_max_7cf53, by decide, Or.inl hX12_171, WJ9_max_7cf53, EJ9_max_7cf53 g _ n⟩, (List.forall_mem_cons.mpr ⟨⟨mJ9_min_7cf53, by decide, Or.inl hX12_176, WJ9_min_7cf53, EJ9_min_7cf53 g _ n⟩, (fun _ h => absurd h List.not_mem_nil)⟩)⟩) [251] 60 _ _ _ _ _ _ ?_
    simp (maxSteps := 1000000) [↓Bool.cond_eq_ite, -Prod.forall, -Prod.exists, -Prod.mk.injEq, dvk, tX12_extremes, jtb, jol, dvl, dal, dst, jlk, jcmp, jbin, jfl, qX12, jc2, qlX12, jcat, jel, lv_args, Value.category, jins, jsrt, jins2, jble, jblt, jf3, List.filter_cons, List.filter_nil, Dlo, Dnr, DnL, Dfree, Droom, DuS_S, DuS_I, DuS_L, DuS_R, DuS_N, DuS_A, DuI_S, DuI_I, DuI_L, DuI_R, DuI_N, DuI_A, DuL_S, DuL_I, DuL_L, DuL_R, DuL_N, DuL_A, DuR_S, DuR_I, DuR_L, DuR_R, DuR_N, DuR_A, Dnw_S, Dnw_I, Dnw_L, Dnw_R, Dnw_N, Dnw_A, DrI_S, DrI_I, DrI_L, DrI_R, DrI_N, DrI_A, DrJ_S, DrJ_I, DrJ_L, DrJ_R, DrJ_N, DrJ_A, dm64, G_d, G_x0, dX12_gap, dJ9_max_7cf53, dJ9_min_7cf53, doII, doRII, -Int32.not_le, -Int32.not_lt, -Int64.not_le, -Int64.not_lt, i3lt, i6lt, h1, h2, h3, hlt, hz, hjp, hjq, ep, eq, rp, rq, vpq, vqp, vr, c1, hc]
    try simp (disch := omega) [-Prod.forall, -Prod.exists, -Prod.mk.injEq, -Int32.not_le, -Int32.not_lt, -Int64.not_le, -Int64.not_lt, i3lt, i6lt, h1, h2, h3, hlt, hz, hjp, hjq, ep, eq, rp, rq, vpq, vqp, vr, c1, hc]
    exact k
set_option maxRecDepth 100000 in
set_option maxHeartbeats 4000000 in
theorem EEx_31 {g : jG} {n : Nat} {z : dZ} {R : Option Value → dM → Nat → Nat → Prop} (hR : dRok g z mX12_extremes R) (hz : z.1.frames = n + 1 ∧ z.1.locals = 64 * (n + 1) ∧ z.1.cells = 7 ∧ z.1.slots = 35) {σ3 : dM} {N ρ c0 s0 p q : Nat} {F : Nat → Nat → Int32} (hρ : 1120 ≤ ρ) (hN : N ≤ 5) (C : exD σ3 F N ρ) (hc : c0 ≤ 7 ∧ s0 ≤ 35) (hp : p < N) (hq : q < N)
    (ih : DW g z mX12_extremes 251 (exL 1 [(4, .ref ρ), (5, .int (nI p)), (6, .int (nI (q + 1)))]) [] (DrI σ3 ρ (exP 1 F N p (q + 1))) c0 s0) : DW g z mX12_extremes 251 (exL 1 [(4, .ref ρ), (5, .int (nI p)), (6, .int (nI q))]) [] (DrI σ3 ρ (exP 1 F N p q)) c0 s0 := by
  have hlt : ¬ nI N ≤ nI q := nI_ge hq (by omega)
  have hjp : jin (nI p) N := jinN hp (by omega)
  have hjq : jin (nI q) N := jinN hq (by omega)
  have ep : (nI p).toNatClampNeg = p := nI_clamp (by omega)
  have eq : (nI q).toNatClampNeg = q := nI_clamp (by omega)
  obtain ⟨σ4, e4⟩ : ∃ σ4, σ4 = DrI σ3 ρ (exP 1 F N p q) := ⟨_, rfl⟩
  have C4 : exD σ4 F N ρ := by rw [e4]; exact exD_r C hρ hN _
  obtain ⟨h1, h2, h3, h4⟩ := C4
  have rp := (h4 p hp).1
  have rq := (h4 q hq).1
  have vpq := (h4 p hp).2 q
  have vqp := (h4 q hq).2 p
  have vr : DI σ4 ρ p = exQ 1 F p q := by
    rw [e4, DrI_I, if_pos rfl]
    unfold exP
    rw [if_neg (by omega), if_pos rfl]
  have fin : ∀ v, v = exQ 1 F p (q + 1) → DW g z mX12_extremes 251 (exL 1 [(4, .ref ρ), (5, .int (nI p)), (6, .int (nI q + 1))]) [] (DuI σ4 ρ p v) c0 s0 := fun v hv => by
    rw [e4, DuI_rI, exP_s hv, nI_1]
    exact ih
  rw [← e4]
  unfold exL at fin ⊢
  have k := fin _ rfl
  have n10 : ¬ (1 : Int32) = 0 := by decide
  simp only [exQ, if_neg n10] at k
  by_cases c1 : F p q ≤ -1000000000
  · simp only [if_pos c1] at k
    refine dvk_ok (nC := n + 0) DX12_extremes hTyA hR (VC := []) (VD := [(168, 3, 12, n + 0, 0, 0, 0, [], dX12_gap)]) (SD := [(171, 2, 0, n + 0, 0, 0, 0, [], dJ9_max_7cf53), (176, 2, 0, n + 0, 0, 0, 0, [], dJ9_min_7cf53)]) (AL := []) (fun _ h => absurd h List.not_mem_nil) (List.forall_mem_cons.mpr ⟨⟨mX12_gap, 2, TX12, 25, rfl, by decide, hX12_168, WX12_gap, rfl, EX12_gap g _ n⟩, (fun _ h => absurd h List.not_mem_nil)⟩) (List.forall_mem_cons.mpr ⟨⟨mJ9_max_7cf53, by decide, Or.inl hX12_171, WJ9_max_7cf53, EJ9_max_7cf53 g _ n⟩, (List.forall_mem_cons.mpr ⟨⟨mJ9_min_7cf53, by decide, Or.inl hX12_176, WJ9_min_7cf53, EJ9_min_7cf53 g _ n⟩, (fun _ h => absurd h List.not_mem_nil)⟩)⟩) [251] 60 _ _ _ _ _ _ ?_
    simp (maxSteps := 1000000) [↓Bool.cond_eq_ite, -Prod.forall, -Prod.exists, -Prod.mk.injEq, dvk, tX12_extremes, jtb, jol, dvl, dal, dst, jlk, jcmp, jbin, jfl, qX12, jc2, qlX12, jcat, jel, lv_args, Value.category, jins, jsrt, jins2, jble, jblt, jf3, List.filter_cons, List.filter_nil, Dlo, Dnr, DnL, Dfree, Droom, DuS_S, DuS_I, DuS_L, DuS_R, DuS_N, DuS_A, DuI_S, DuI_I, DuI_L, DuI_R, DuI_N, DuI_A, DuL_S, DuL_I, DuL_L, DuL_R, DuL_N, DuL_A, DuR_S, DuR_I, DuR_L, DuR_R, DuR_N, DuR_A, Dnw_S, Dnw_I, Dnw_L, Dnw_R, Dnw_N, Dnw_A, DrI_S, DrI_I, DrI_L, DrI_R, DrI_N, DrI_A, DrJ_S, DrJ_I, DrJ_L, DrJ_R, DrJ_N, DrJ_A, dm64, G_d, G_x0, dX12_gap, dJ9_max_7cf53, dJ9_min_7cf53, doII, doRII, -Int32.not_le, -Int32.not_lt, -Int64.not_le, -Int64.not_lt, i3lt, i6lt, h1, h2, h3, hlt, hz, hjp, hjq, ep, eq, rp, rq, vpq, vqp, vr, c1, hc, n10]
    try simp (disch := omega) [-Prod.forall, -Prod.exists, -Prod.mk.injEq, -Int32.not_le, -Int32.not_lt, -Int64.not_le, -Int64.not_lt, i3lt, i6lt, h1, h2, h3, hlt, hz, hjp, hjq, ep, eq, rp, rq, vpq, vqp, vr, c1, hc, n10]
    exact k
  · simp only [if_neg c1] at k
    refine dvk_ok (nC := n + 0) DX12_extremes hTyA hR (VC := []) (VD := [(168, 3, 12, n + 0, 0, 0, 0, [], dX12_gap)]) (SD := [(171, 2, 0, n + 0, 0, 0, 0, [], dJ9_max_7cf53), (176, 2, 0, n + 0, 0, 0, 0, [], dJ9_min_7cf53)]) (AL := []) (fun _ h => absurd h List.not_mem_nil) (List.forall_mem_cons.mpr ⟨⟨mX12_gap, 2, TX12, 25, rfl, by decide, hX12_168, WX12_gap, rfl, EX12_gap g _ n⟩, (fun _ h => absurd h List.not_mem_nil)⟩) (List.forall_mem_cons.mpr ⟨⟨mJ9_max_7cf53, by decide, Or.inl hX12_171, WJ9_max_7cf53, EJ9_max_7cf53 g _ n⟩, (List.forall_mem_cons.mpr ⟨⟨mJ9_min_7cf53, by decide, Or.inl hX12_176, WJ9_min_7cf53, EJ9_min_7cf53 g _ n⟩, (fun _ h => absurd h List.not_mem_nil)⟩)⟩) [251] 60 _ _ _ _ _ _ ?_
    simp (maxSteps := 1000000) [↓Bool.cond_eq_ite, -Prod.forall, -Prod.exists, -Prod.mk.injEq, dvk, tX12_extremes, jtb, jol, dvl, dal, dst, jlk, jcmp, jbin, jfl, qX12, jc2, qlX12, jcat, jel, lv_args, Value.category, jins, jsrt, jins2, jble, jblt, jf3, List.filter_cons, List.filter_nil, Dlo, Dnr, DnL, Dfree, Droom, DuS_S, DuS_I, DuS_L, DuS_R, DuS_N, DuS_A, DuI_S, DuI_I, DuI_L, DuI_R, DuI_N, DuI_A, DuL_S, DuL_I, DuL_L, DuL_R, DuL_N, DuL_A, DuR_S, DuR_I, DuR_L, DuR_R, DuR_N, DuR_A, Dnw_S, Dnw_I, Dnw_L, Dnw_R, Dnw_N, Dnw_A, DrI_S, DrI_I, DrI_L, DrI_R, DrI_N, DrI_A, DrJ_S, DrJ_I, DrJ_L, DrJ_R, DrJ_N, DrJ_A, dm64, G_d, G_x0, dX12_gap, dJ9_max_7cf53, dJ9_min_7cf53, doII, doRII, -Int32.not_le, -Int32.not_lt, -Int64.not_le, -Int64.not_lt, i3lt, i6lt, h1, h2, h3, hlt, hz, hjp, hjq, ep, eq, rp, rq, vpq, vqp, vr, c1, hc, n10]
    try simp (disch := omega) [-Prod.forall, -Prod.exists, -Prod.mk.injEq, -Int32.not_le, -Int32.not_lt, -Int64.not_le, -Int64.not_lt, i3lt, i6lt, h1, h2, h3, hlt, hz, hjp, hjq, ep, eq, rp, rq, vpq, vqp, vr, c1, hc, n10]
    exact k
