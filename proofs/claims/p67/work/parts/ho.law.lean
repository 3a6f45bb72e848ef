/-! the law's prices -/
def dpP (σ : dM) (N p : Nat) : Int32 := if DI σ 1107 p < 0 then 0 else if DI σ 1000 14 = 0 then exRow σ 0 N p else if DI σ 1000 14 = 1 then exRow σ 1 N p else (exRow σ 0 N p + exRow σ 1 N p) / 2
def dpMore (σ : dM) (N : Nat) : Int32 := (120 * (DI σ 1000 12 - DI σ 1000 12 * DI σ 1000 15 / 100) - sm (dpP σ N) N) / nI (cn (lv σ) N)
def dpQ (σ : dM) (N k j : Nat) : Int32 := if j < N then (if j < k ∧ ¬ DI σ 1107 j < 0 then dpP σ N j + dpMore σ N else dpP σ N j) else 0
def dpRow (σ : dM) (N : Nat) : Nat → Int32 := dpQ σ N N
def dpFree (σ : dM) : Prop := DA σ 1401 = false ∧ (∀ i, i < 5 → DA σ (1115 + i) = false) ∧ DA σ 1120 = false ∧ DA σ 1121 = false
def dpPr (σ : dM) (ρ : Nat) : Prop := ∃ N M, dk σ N M ∧ dkB σ N ∧ dkBr σ N M ∧ (1122 ≤ ρ ∧ ρ ≤ 1139) ∧ 0 < cn (lv σ) N ∧ dpFree σ ∧ DA σ ρ = false
def dX12_prices (ρ : Nat) : dO := doR fun a σ => (a = 1000 ∧ dpPr σ ρ, fun v τ => v = some (.ref ρ) ∧ τ = DrI (Dnw σ ρ (DI σ 1000 2).toNatClampNeg) ρ (dpRow σ (DI σ 1000 2).toNatClampNeg))
/-- how far one is, only by the desk's own numbers -/
theorem fr0_cg {σ τ : dM} (h1 : DI τ 1107 = DI σ 1107) {p : Nat} (h2 : DI τ (1200 + p) = DI σ (1200 + p)) (h3 : DI τ (1110 + p) = DI σ (1110 + p)) (q : Nat) : fr0 τ p q = fr0 σ p q := by
  unfold fr0 gpD bR
  rw [h1, h2, h3]
theorem exRow_cg {σ τ : dM} {N : Nat} (hN : N ≤ 5) (h1 : DI τ 1107 = DI σ 1107) (h2 : ∀ p, p < N → DI τ (1200 + p) = DI σ (1200 + p)) (h3 : ∀ p, p < N → DI τ (1110 + p) = DI σ (1110 + p)) (x : Int32) : exRow τ x N = exRow σ x N := by
  have e : fr1 τ N N 0 = fr1 σ N N 0 := by
    funext i j
    unfold fr1
    by_cases c : (i < N ∧ j < N) ∨ (i = N ∧ j < 0)
    · rw [if_pos c, if_pos c]
      exact fr0_cg h1 (h2 i (by omega)) (h3 i (by omega)) j
    · rw [if_neg c, if_neg c]
  unfold exRow exF
  rw [e]
/-- what stays where the prices are made -/
def dpK (ρ k : Nat) : Prop := k ≠ 1120 ∧ k ≠ 1121 ∧ k ≠ ρ
def dpC (σ τ : dM) (N ρ : Nat) : Prop := Dfr (dpK ρ) σ τ ∧ (DA τ 1120 = true ∧ DN τ 1120 = N ∧ ∀ j, DI τ 1120 j = exRow σ 0 N j) ∧ (DA τ 1121 = true ∧ DN τ 1121 = N ∧ ∀ j, DI τ 1121 j = exRow σ 1 N j) ∧ (DA τ ρ = true ∧ DN τ ρ = N ∧ darr ρ 1 0 = true) ∧ (∀ j, DL τ ρ j = 0) ∧ ∀ j, DR τ ρ j = none
theorem dpC_r {σ τ : dM} {N ρ : Nat} (h : dpC σ τ N ρ) (hρ : 1122 ≤ ρ) (f : Nat → Int32) : dpC σ (DrI τ ρ f) N ρ := by
  obtain ⟨h1, h2, h3, h4, h5, h6⟩ := h
  refine ⟨h1.tr ⟨rfl, fun k hk => ⟨funext fun j => by rw [DrI_I, if_neg hk.2.2], rfl, rfl, rfl, rfl⟩⟩, ⟨h2.1, h2.2.1, fun j => ?_⟩, ⟨h3.1, h3.2.1, fun j => ?_⟩, h4, h5, h6⟩
  · rw [DrI_I, if_neg (by omega)]
    exact h2.2.2 j
  · rw [DrI_I, if_neg (by omega)]
    exact h3.2.2 j
theorem dpC_k {σ τ : dM} {N M ρ : Nat} (h : dpC σ τ N ρ) (hρ : 1122 ≤ ρ ∧ ρ ≤ 1139) (hk : dk σ N M) : dk τ N M := dk_fr (fun k hk9 => by unfold dkI at hk9; unfold dpK; omega) h.1 hk
/-- the desk's numbers there -/
theorem dpC_e {σ τ : dM} {N ρ : Nat} (h : dpC σ τ N ρ) (hρ : 1122 ≤ ρ) : (DI τ 1107 = DI σ 1107 ∧ DR τ 1000 21 = DR σ 1000 21 ∧ DA τ 1107 = DA σ 1107 ∧ DN τ 1107 = DN σ 1107) ∧ (∀ j, DI τ 1000 j = DI σ 1000 j) ∧ DI τ 1100 = DI σ 1100 := by
  have a := h.1.2 1107 (by unfold dpK; omega)
  have b := h.1.2 1000 (by unfold dpK; omega)
  have c := h.1.2 1100 (by unfold dpK; omega)
  exact ⟨⟨a.1, by rw [b.2.2.1], a.2.2.2.2, a.2.2.2.1⟩, fun j => by rw [b.1], c.1⟩
theorem dpQ_0 (σ : dM) (N : Nat) : fillI (dpP σ N) N = dpQ σ N 0 := by
  funext j
  unfold fillI dpQ
  by_cases c : j < N
  · rw [if_pos c, if_pos c, if_neg (fun z => absurd z.1 (Nat.not_lt_zero _))]
  · rw [if_neg c, if_neg c]
theorem dpQ_n {σ : dM} {N p : Nat} (h : DI σ 1107 p < 0) : dpQ σ N p = dpQ σ N (p + 1) := by
  funext j
  unfold dpQ
  by_cases e : j = p
  · have h9 : ∀ k, ¬ (j < k ∧ ¬ DI σ 1107 j < 0) := fun k z => z.2 (by rw [e]; exact h)
    rw [if_neg (h9 p), if_neg (h9 (p + 1))]
  · have h1 : j < p + 1 ↔ j < p := by omega
    simp only [h1]
theorem dpQ_s {σ τ : dM} {N p a : Nat} {v : Int32} (hp : p < N) (h : ¬ DI σ 1107 p < 0) (hv : v = dpQ σ N p p + dpMore σ N) : DuI (DrI τ a (dpQ σ N p)) a p v = DrI τ a (dpQ σ N (p + 1)) := by
  rw [DuI_rI]
  congr 1
  funext j
  by_cases e : j = p
  · subst e
    rw [if_pos rfl, hv]
    unfold dpQ
    rw [if_pos hp, if_pos hp, if_neg (fun z => absurd z.1 (Nat.lt_irrefl _)), if_pos ⟨Nat.lt_succ_self _, h⟩]
  · rw [if_neg e]
    unfold dpQ
    have h1 : j < p + 1 ↔ j < p := by omega
    simp only [h1]
set_option maxRecDepth 100000 in
set_option maxHeartbeats 4000000 in
theorem EPr_1s {g : jG} {n : Nat} {z : dZ} {R : Option Value → dM → Nat → Nat → Prop} (hR : dRok g z mX12_prices R) (hz : z.1.frames = n + 2 ∧ z.1.locals = 64 * (n + 2) ∧ z.1.cells = 15 ∧ z.1.slots = 75) {σ τ : dM} {N M ρ p : Nat} (hk : dk σ N M) (hB : dkB σ N) (hρ : 1122 ≤ ρ ∧ ρ ≤ 1139) (C : dpC σ τ N ρ) (hp : p < N)
    (ih : DW g z mX12_prices 25 [(0, .ref 1000), (1, .ref 1120), (2, .ref 1121), (3, .ref ρ), (4, .int (sm (dpP σ N) (p + 1))), (5, .int (nI (p + 1)))] [] (DrI τ ρ (fillI (dpP σ N) (p + 1))) 15 75) : DW g z mX12_prices 25 [(0, .ref 1000), (1, .ref 1120), (2, .ref 1121), (3, .ref ρ), (4, .int (sm (dpP σ N) p)), (5, .int (nI p))] [] (DrI τ ρ (fillI (dpP σ N) p)) 15 75 := by
  have hN := hk.1.1.2
  have hlt : ¬ nI N ≤ nI p := nI_ge hp (by omega)
  have hj : jin (nI p) N := jinN hp (by omega)
  have ep : (nI p).toNatClampNeg = p := nI_clamp (by omega)
  obtain ⟨σ4, e4⟩ : ∃ σ4, σ4 = DrI τ ρ (fillI (dpP σ N) p) := ⟨_, rfl⟩
  have C4 : dpC σ σ4 N ρ := by rw [e4]; exact dpC_r C hρ.1 _
  have hf := dk_f (dpC_k C4 hρ hk)
  obtain ⟨⟨a1, a2, a3, a4⟩, b1, c1⟩ := dpC_e C4 hρ.1
  obtain ⟨-, h2, h3, h4, -, -⟩ := C4
  have hB' : DR σ4 1000 21 = some 1107 ∧ DA σ4 1107 = true ∧ DN σ4 1107 = N := by
    rw [a2, a3, a4]; exact hB
  have r1 : ¬ 1000 = ρ := by omega
  have r2 : ¬ 1107 = ρ := by omega
  have fin : ∀ v, v = dpP σ N p → DW g z mX12_prices 25 [(0, .ref 1000), (1, .ref 1120), (2, .ref 1121), (3, .ref ρ), (4, .int (sm (dpP σ N) p + v)), (5, .int (nI p + 1))] [] (DuI σ4 ρ p v) 15 75 := fun v hv => by
    rw [e4, fillI_s hv, nI_1, hv]
    exact ih
  rw [← e4]
  have m14 := b1 14
  by_cases k1 : DI σ 1107 p < 0
  · have k := fin 0 (by unfold dpP; rw [if_pos k1])
    rw [Int32.add_zero] at k
    refine dvk_ok (nC := n + 1) DX12_prices hTyA hR (VC := []) (VD := [(164, 1, 12, n + 0, 0, 0, 0, [], dX12_living)]) (SD := []) (AL := []) (fun _ h => absurd h List.not_mem_nil) (List.forall_mem_cons.mpr ⟨⟨mX12_living, 0, TX12, 25, rfl, by decide, hX12_164, WX12_living, rfl, EX12_living g _ n⟩, (fun _ h => absurd h List.not_mem_nil)⟩) (fun _ h => absurd h List.not_mem_nil) [25] 60 _ _ _ _ _ _ ?_
    simp (maxSteps := 1000000) [↓Bool.cond_eq_ite, -Prod.forall, -Prod.exists, -Prod.mk.injEq, dvk, tX12_prices, jtb, jol, dvl, dal, dst, jlk, jcmp, jbin, jfl, qX12, jc2, qlX12, jcat, jel, lv_args, Value.category, jins, jsrt, jins2, jble, jblt, jf3, List.filter_cons, List.filter_nil, Dlo, Dnr, DnL, Dfree, Droom, DuS_S, DuS_I, DuS_L, DuS_R, DuS_N, DuS_A, DuI_S, DuI_I, DuI_L, DuI_R, DuI_N, DuI_A, DuL_S, DuL_I, DuL_L, DuL_R, DuL_N, DuL_A, DuR_S, DuR_I, DuR_L, DuR_R, DuR_N, DuR_A, Dnw_S, Dnw_I, Dnw_L, Dnw_R, Dnw_N, Dnw_A, DrI_S, DrI_I, DrI_L, DrI_R, DrI_N, DrI_A, DrJ_S, DrJ_I, DrJ_L, DrJ_R, DrJ_N, DrJ_A, dm64, G_d, G_x0, dX12_living, doR, -Int32.not_le, -Int32.not_lt, -Int64.not_le, -Int64.not_lt, i3lt, i6lt, hf, hlt, hz, hj, ep, a1, hB', h2, h3, h4, k1, r1]
    try simp (disch := omega) [-Prod.forall, -Prod.exists, -Prod.mk.injEq, -Int32.not_le, -Int32.not_lt, -Int64.not_le, -Int64.not_lt, i3lt, i6lt, hf, hlt, hz, hj, ep, a1, hB', h2, h3, h4, k1, r1]
    exact k
  · by_cases k2 : DI σ 1000 14 = 0
    · have k := fin _ (by unfold dpP; rw [if_neg k1, if_pos k2])
      refine dvk_ok (nC := n + 1) DX12_prices hTyA hR (VC := []) (VD := [(164, 1, 12, n + 0, 0, 0, 0, [], dX12_living)]) (SD := []) (AL := []) (fun _ h => absurd h List.not_mem_nil) (List.forall_mem_cons.mpr ⟨⟨mX12_living, 0, TX12, 25, rfl, by decide, hX12_164, WX12_living, rfl, EX12_living g _ n⟩, (fun _ h => absurd h List.not_mem_nil)⟩) (fun _ h => absurd h List.not_mem_nil) [25] 60 _ _ _ _ _ _ ?_
      simp (maxSteps := 1000000) [↓Bool.cond_eq_ite, -Prod.forall, -Prod.exists, -Prod.mk.injEq, dvk, tX12_prices, jtb, jol, dvl, dal, dst, jlk, jcmp, jbin, jfl, qX12, jc2, qlX12, jcat, jel, lv_args, Value.category, jins, jsrt, jins2, jble, jblt, jf3, List.filter_cons, List.filter_nil, Dlo, Dnr, DnL, Dfree, Droom, DuS_S, DuS_I, DuS_L, DuS_R, DuS_N, DuS_A, DuI_S, DuI_I, DuI_L, DuI_R, DuI_N, DuI_A, DuL_S, DuL_I, DuL_L, DuL_R, DuL_N, DuL_A, DuR_S, DuR_I, DuR_L, DuR_R, DuR_N, DuR_A, Dnw_S, Dnw_I, Dnw_L, Dnw_R, Dnw_N, Dnw_A, DrI_S, DrI_I, DrI_L, DrI_R, DrI_N, DrI_A, DrJ_S, DrJ_I, DrJ_L, DrJ_R, DrJ_N, DrJ_A, dm64, G_d, G_x0, dX12_living, doR, -Int32.not_le, -Int32.not_lt, -Int64.not_le, -Int64.not_lt, i3lt, i6lt, hf, hlt, hz, hj, ep, a1, hB', h2, h3, h4, k1, r1, m14, k2]
      try simp (disch := omega) [-Prod.forall, -Prod.exists, -Prod.mk.injEq, -Int32.not_le, -Int32.not_lt, -Int64.not_le, -Int64.not_lt, i3lt, i6lt, hf, hlt, hz, hj, ep, a1, hB', h2, h3, h4, k1, r1, m14, k2]
      exact k
    · by_cases k3 : DI σ 1000 14 = 1
      · have k := fin _ (by unfold dpP; rw [if_neg k1, if_neg k2, if_pos k3])
        have n10 : ¬ (1 : Int32) = 0 := by decide
        refine dvk_ok (nC := n + 1) DX12_prices hTyA hR (VC := []) (VD := [(164, 1, 12, n + 0, 0, 0, 0, [], dX12_living)]) (SD := []) (AL := []) (fun _ h => absurd h List.not_mem_nil) (List.forall_mem_cons.mpr ⟨⟨mX12_living, 0, TX12, 25, rfl, by decide, hX12_164, WX12_living, rfl, EX12_living g _ n⟩, (fun _ h => absurd h List.not_mem_nil)⟩) (fun _ h => absurd h List.not_mem_nil) [25] 60 _ _ _ _ _ _ ?_
        simp (maxSteps := 1000000) [↓Bool.cond_eq_ite, -Prod.forall, -Prod.exists, -Prod.mk.injEq, dvk, tX12_prices, jtb, jol, dvl, dal, dst, jlk, jcmp, jbin, jfl, qX12, jc2, qlX12, jcat, jel, lv_args, Value.category, jins, jsrt, jins2, jble, jblt, jf3, List.filter_cons, List.filter_nil, Dlo, Dnr, DnL, Dfree, Droom, DuS_S, DuS_I, DuS_L, DuS_R, DuS_N, DuS_A, DuI_S, DuI_I, DuI_L, DuI_R, DuI_N, DuI_A, DuL_S, DuL_I, DuL_L, DuL_R, DuL_N, DuL_A, DuR_S, DuR_I, DuR_L, DuR_R, DuR_N, DuR_A, Dnw_S, Dnw_I, Dnw_L, Dnw_R, Dnw_N, Dnw_A, DrI_S, DrI_I, DrI_L, DrI_R, DrI_N, DrI_A, DrJ_S, DrJ_I, DrJ_L, DrJ_R, DrJ_N, DrJ_A, dm64, G_d, G_x0, dX12_living, doR, -Int32.not_le, -Int32.not_lt, -Int64.not_le, -Int64.not_lt, i3lt, i6lt, hf, hlt, hz, hj, ep, a1, hB', h2, h3, h4, k1, r1, m14, k3, n10]
        try simp (disch := omega) [-Prod.forall, -Prod.exists, -Prod.mk.injEq, -Int32.not_le, -Int32.not_lt, -Int64.not_le, -Int64.not_lt, i3lt, i6lt, hf, hlt, hz, hj, ep, a1, hB', h2, h3, h4, k1, r1, m14, k3, n10]
        exact k
      · have k := fin _ (by unfold dpP; rw [if_neg k1, if_neg k2, if_neg k3])
        refine dvk_ok (nC := n + 1) DX12_prices hTyA hR (VC := []) (VD := [(164, 1, 12, n + 0, 0, 0, 0, [], dX12_living)]) (SD := []) (AL := []) (fun _ h => absurd h List.not_mem_nil) (List.forall_mem_cons.mpr ⟨⟨mX12_living, 0, TX12, 25, rfl, by decide, hX12_164, WX12_living, rfl, EX12_living g _ n⟩, (fun _ h => absurd h List.not_mem_nil)⟩) (fun _ h => absurd h List.not_mem_nil) [25] 60 _ _ _ _ _ _ ?_
        simp (maxSteps := 1000000) [↓Bool.cond_eq_ite, -Prod.forall, -Prod.exists, -Prod.mk.injEq, dvk, tX12_prices, jtb, jol, dvl, dal, dst, jlk, jcmp, jbin, jfl, qX12, jc2, qlX12, jcat, jel, lv_args, Value.category, jins, jsrt, jins2, jble, jblt, jf3, List.filter_cons, List.filter_nil, Dlo, Dnr, DnL, Dfree, Droom, DuS_S, DuS_I, DuS_L, DuS_R, DuS_N, DuS_A, DuI_S, DuI_I, DuI_L, DuI_R, DuI_N, DuI_A, DuL_S, DuL_I, DuL_L, DuL_R, DuL_N, DuL_A, DuR_S, DuR_I, DuR_L, DuR_R, DuR_N, DuR_A, Dnw_S, Dnw_I, Dnw_L, Dnw_R, Dnw_N, Dnw_A, DrI_S, DrI_I, DrI_L, DrI_R, DrI_N, DrI_A, DrJ_S, DrJ_I, DrJ_L, DrJ_R, DrJ_N, DrJ_A, dm64, G_d, G_x0, dX12_living, doR, -Int32.not_le, -Int32.not_lt, -Int64.not_le, -Int64.not_lt, i3lt, i6lt, hf, hlt, hz, hj, ep, a1, hB', h2, h3, h4, k1, r1, m14, k2, k3]
        try simp (disch := omega) [-Prod.forall, -Prod.exists, -Prod.mk.injEq, -Int32.not_le, -Int32.not_lt, -Int64.not_le, -Int64.not_lt, i3lt, i6lt, hf, hlt, hz, hj, ep, a1, hB', h2, h3, h4, k1, r1, m14, k2, k3]
        exact k
