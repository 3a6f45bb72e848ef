/-! the law's extremes, whole -/
/-- what the law's code is known to stand on: constant texts, and the types of arrays of arrays -/
def dEs (g : jG) : Prop := jEs g ∧ (∀ (U : State) (H : Heap), jE g U H → (Cond.arrayOver (.array .int)).before #[] U = true) ∧ (∀ (U : State) (H : Heap), jE g U H → (Cond.arrayOver (.array .boolean)).before #[] U = true) ∧ (∀ (U : State) (H : Heap), jE g U H → va_Nw (.castable "[I" "java/lang/Cloneable") U) ∧ (∀ (U : State) (H : Heap), jE g U H → va_Nw (.castable "[I" "java/lang/Object") U) ∧ ∀ (U : State) (H : Heap), jE g U H → va_AO "java/lang/Object" U
set_option maxRecDepth 100000 in
set_option maxHeartbeats 4000000 in
theorem EEx_3 {g : jG} {n : Nat} {z : dZ} {R : Option Value → dM → Nat → Nat → Prop} (hR : dRok g z mX12_extremes R) (hz : z.1.frames = n + 1 ∧ z.1.locals = 64 * (n + 1) ∧ z.1.cells = 7 ∧ z.1.slots = 35) {σ3 : dM} {N ρ c0 s0 : Nat} {x : Int32} {F : Nat → Nat → Int32} (hx : x = 0 ∨ x = 1) (hρ : 1120 ≤ ρ) (hN : N ≤ 5) (C : exD σ3 F N ρ) (hc : c0 ≤ 7 ∧ s0 ≤ 35)
    (ih : DW g z mX12_extremes 349 (exL x [(4, .ref ρ)]) [] (DrI σ3 ρ (fillI (fun p => exQ x F p N) N)) c0 s0) : DW g z mX12_extremes 239 (exL x [(4, .ref ρ), (5, .int (nI 0))]) [] (DrI σ3 ρ (exP x F N 0 0)) c0 s0 := by
  have hle : nI N ≤ nI N := nI_le (Nat.le_refl _) (by omega)
  have hfs : ∀ f, DI (DrI σ3 ρ f) 1000 2 = nI N ∧ DA (DrI σ3 ρ f) 1000 = true := fun f => by
    have hf := exD_r C hρ hN f
    exact ⟨hf.1.2, hf.1.1⟩
  refine jloop (P := fun p => DW g z mX12_extremes 239 (exL x [(4, .ref ρ), (5, .int (nI p))]) [] (DrI σ3 ρ (exP x F N p 0)) c0 s0) (N := N) ?_ (fun p hp9 ih1 => ?_)
  · rw [exP_N]
    have hf := hfs (fillI (fun p => exQ x F p N) N)
    unfold exL at ih ⊢
    refine dvk_ok (nC := n + 0) DX12_extremes hTyA hR (VC := []) (VD := [(168, 3, 12, n + 0, 0, 0, 0, [], dX12_gap)]) (SD := [(171, 2, 0, n + 0, 0, 0, 0, [], dJ9_max_7cf53), (176, 2, 0, n + 0, 0, 0, 0, [], dJ9_min_7cf53)]) (AL := []) (fun _ h => absurd h List.not_mem_nil) (List.forall_mem_cons.mpr ⟨⟨mX12_gap, 2, TX12, 25, rfl, by decide, hX12_168, WX12_gap, rfl, EX12_gap g _ n⟩, (fun _ h => absurd h List.not_mem_nil)⟩) (List.forall_mem_cons.mpr ⟨⟨mJ9_max_7cf53, by decide, Or.inl hX12_171, WJ9_max_7cf53, EJ9_max_7cf53 g _ n⟩, (List.forall_mem_cons.mpr ⟨⟨mJ9_min_7cf53, by decide, Or.inl hX12_176, WJ9_min_7cf53, EJ9_min_7cf53 g _ n⟩, (fun _ h => absurd h List.not_mem_nil)⟩)⟩) [239, 349] 20 _ _ _ _ _ _ ?_
    simp (maxSteps := 1000000) [↓Bool.cond_eq_ite, -Prod.forall, -Prod.exists, -Prod.mk.injEq, dvk, tX12_extremes, jtb, jol, dvl, dal, dst, jlk, jcmp, jbin, jfl, qX12, jc2, qlX12, jcat, jel, lv_args, Value.category, jins, jsrt, jins2, jble, jblt, jf3, List.filter_cons, List.filter_nil, Dlo, Dnr, DnL, Dfree, Droom, DuS_S, DuS_I, DuS_L, DuS_R, DuS_N, DuS_A, DuI_S, DuI_I, DuI_L, DuI_R, DuI_N, DuI_A, DuL_S, DuL_I, DuL_L, DuL_R, DuL_N, DuL_A, DuR_S, DuR_I, DuR_L, DuR_R, DuR_N, DuR_A, Dnw_S, Dnw_I, Dnw_L, Dnw_R, Dnw_N, Dnw_A, DrI_S, DrI_I, DrI_L, DrI_R, DrI_N, DrI_A, DrJ_S, DrJ_I, DrJ_L, DrJ_R, DrJ_N, DrJ_A, dm64, G_d, G_x0, dX12_gap, dJ9_max_7cf53, dJ9_min_7cf53, doII, doRII, -Int32.not_le, -Int32.not_lt, -Int64.not_le, -Int64.not_lt, i3lt, i6lt, hf, hle, hz]
    try simp (disch := omega) [-Prod.forall, -Prod.exists, -Prod.mk.injEq, -Int32.not_le, -Int32.not_lt, -Int64.not_le, -Int64.not_lt, i3lt, i6lt, hf, hle, hz]
    exact DW.mono ih (by simp)
  · have hlt : ¬ nI N ≤ nI p := nI_ge hp9 (by omega)
    have h2 := jloop (P := fun q => DW g z mX12_extremes 251 (exL x [(4, .ref ρ), (5, .int (nI p)), (6, .int (nI q))]) [] (DrI σ3 ρ (exP x F N p q)) c0 s0) (N := N) (by
      have hf := hfs (exP x F N p N)
      rw [← exP_e, ← nI_1] at ih1
      unfold exL at ih1 ⊢
      refine dvk_ok (nC := n + 0) DX12_extremes hTyA hR (VC := []) (VD := [(168, 3, 12, n + 0, 0, 0, 0, [], dX12_gap)]) (SD := [(171, 2, 0, n + 0, 0, 0, 0, [], dJ9_max_7cf53), (176, 2, 0, n + 0, 0, 0, 0, [], dJ9_min_7cf53)]) (AL := []) (fun _ h => absurd h List.not_mem_nil) (List.forall_mem_cons.mpr ⟨⟨mX12_gap, 2, TX12, 25, rfl, by decide, hX12_168, WX12_gap, rfl, EX12_gap g _ n⟩, (fun _ h => absurd h List.not_mem_nil)⟩) (List.forall_mem_cons.mpr ⟨⟨mJ9_max_7cf53, by decide, Or.inl hX12_171, WJ9_max_7cf53, EJ9_max_7cf53 g _ n⟩, (List.forall_mem_cons.mpr ⟨⟨mJ9_min_7cf53, by decide, Or.inl hX12_176, WJ9_min_7cf53, EJ9_min_7cf53 g _ n⟩, (fun _ h => absurd h List.not_mem_nil)⟩)⟩) [251, 239] 20 _ _ _ _ _ _ ?_
      simp (maxSteps := 1000000) [↓Bool.cond_eq_ite, -Prod.forall, -Prod.exists, -Prod.mk.injEq, dvk, tX12_extremes, jtb, jol, dvl, dal, dst, jlk, jcmp, jbin, jfl, qX12, jc2, qlX12, jcat, jel, lv_args, Value.category, jins, jsrt, jins2, jble, jblt, jf3, List.filter_cons, List.filter_nil, Dlo, Dnr, DnL, Dfree, Droom, DuS_S, DuS_I, DuS_L, DuS_R, DuS_N, DuS_A, DuI_S, DuI_I, DuI_L, DuI_R, DuI_N, DuI_A, DuL_S, DuL_I, DuL_L, DuL_R, DuL_N, DuL_A, DuR_S, DuR_I, DuR_L, DuR_R, DuR_N, DuR_A, Dnw_S, Dnw_I, Dnw_L, Dnw_R, Dnw_N, Dnw_A, DrI_S, DrI_I, DrI_L, DrI_R, DrI_N, DrI_A, DrJ_S, DrJ_I, DrJ_L, DrJ_R, DrJ_N, DrJ_A, dm64, G_d, G_x0, dX12_gap, dJ9_max_7cf53, dJ9_min_7cf53, doII, doRII, -Int32.not_le, -Int32.not_lt, -Int64.not_le, -Int64.not_lt, i3lt, i6lt, hf, hle, hz]
      try simp (disch := omega) [-Prod.forall, -Prod.exists, -Prod.mk.injEq, -Int32.not_le, -Int32.not_lt, -Int64.not_le, -Int64.not_lt, i3lt, i6lt, hf, hle, hz]
      exact DW.mono ih1 (by simp)) (fun q hq9 ih2 => by
      rcases hx with rfl | rfl
      · exact EEx_30 hR hz hρ hN C hc hp9 hq9 ih2
      · exact EEx_31 hR hz hρ hN C hc hp9 hq9 ih2)
    have hf := hfs (exP x F N p 0)
    rw [nI_0] at h2
    unfold exL at h2 ⊢
    refine dvk_ok (nC := n + 0) DX12_extremes hTyA hR (VC := []) (VD := [(168, 3, 12, n + 0, 0, 0, 0, [], dX12_gap)]) (SD := [(171, 2, 0, n + 0, 0, 0, 0, [], dJ9_max_7cf53), (176, 2, 0, n + 0, 0, 0, 0, [], dJ9_min_7cf53)]) (AL := []) (fun _ h => absurd h List.not_mem_nil) (List.forall_mem_cons.mpr ⟨⟨mX12_gap, 2, TX12, 25, rfl, by decide, hX12_168, WX12_gap, rfl, EX12_gap g _ n⟩, (fun _ h => absurd h List.not_mem_nil)⟩) (List.forall_mem_cons.mpr ⟨⟨mJ9_max_7cf53, by decide, Or.inl hX12_171, WJ9_max_7cf53, EJ9_max_7cf53 g _ n⟩, (List.forall_mem_cons.mpr ⟨⟨mJ9_min_7cf53, by decide, Or.inl hX12_176, WJ9_min_7cf53, EJ9_min_7cf53 g _ n⟩, (fun _ h => absurd h List.not_mem_nil)⟩)⟩) [251] 20 _ _ _ _ _ _ ?_
    simp (maxSteps := 1000000) [↓Bool.cond_eq_ite, -Prod.forall, -Prod.exists, -Prod.mk.injEq, dvk, tX12_extremes, jtb, jol, dvl, dal, dst, jlk, jcmp, jbin, jfl, qX12, jc2, qlX12, jcat, jel, lv_args, Value.category, jins, jsrt, jins2, jble, jblt, jf3, List.filter_cons, List.filter_nil, Dlo, Dnr, DnL, Dfree, Droom, DuS_S, DuS_I, DuS_L, DuS_R, DuS_N, DuS_A, DuI_S, DuI_I, DuI_L, DuI_R, DuI_N, DuI_A, DuL_S, DuL_I, DuL_L, DuL_R, DuL_N, DuL_A, DuR_S, DuR_I, DuR_L, DuR_R, DuR_N, DuR_A, Dnw_S, Dnw_I, Dnw_L, Dnw_R, Dnw_N, Dnw_A, DrI_S, DrI_I, DrI_L, DrI_R, DrI_N, DrI_A, DrJ_S, DrJ_I, DrJ_L, DrJ_R, DrJ_N, DrJ_A, dm64, G_d, G_x0, dX12_gap, dJ9_max_7cf53, dJ9_min_7cf53, doII, doRII, -Int32.not_le, -Int32.not_lt, -Int64.not_le, -Int64.not_lt, i3lt, i6lt, hf, hlt, hz]
    try simp (disch := omega) [-Prod.forall, -Prod.exists, -Prod.mk.injEq, -Int32.not_le, -Int32.not_lt, -Int64.not_le, -Int64.not_lt, i3lt, i6lt, hf, hlt, hz]
    exact h2
theorem fr1_0 {τ σ : dM} {N : Nat} (h : ∀ p j, p < N → DI τ (1115 + p) j = 0) : τ = DmF τ 1115 N (fr1 σ N 0 0) := by
  refine Prod.ext rfl (Prod.ext (funext fun i => funext fun j => ?_) rfl)
  show DI τ i j = DI (DmF τ 1115 N (fr1 σ N 0 0)) i j
  rw [DmF_I]
  by_cases c : 1115 ≤ i ∧ i < 1115 + N
  · rw [if_pos c]
    have := h (i - 1115) j (by omega)
    rw [show 1115 + (i - 1115) = i by omega] at this
    rw [this]
    unfold fr1
    rw [if_neg (by omega)]
  · rw [if_neg c]
theorem exP_0' {δ σ3 : dM} {a n N : Nat} {x : Int32} {F : Nat → Nat → Int32} (h : σ3 = Dnw δ a n) : σ3 = DrI σ3 a (exP x F N 0 0) := by
  rw [h]
  exact exP_0 x F
theorem dnn : ∀ N, N ≤ 5 → 0 + (N + N * N) ≤ 35 := fun N h => by
  have := Nat.mul_le_mul h h
  omega
theorem dnm : ∀ N, N ≤ 5 → 0 + N + N * N ≤ 30 := fun N h => by
  have := Nat.mul_le_mul h h
  omega
theorem G_rho : ∀ i, i < 20 → darr (1120 + i) 1 0 = true := by decide +kernel
theorem G_far : ∀ i, i < 5 → darr (1115 + i) 1 0 = true := by decide +kernel
/-- the first table stands, nothing in it yet -/
theorem exC0 {σ : dM} {N M : Nat} (hk : dk σ N M) (hB : dkB σ N) (hBr : dkBr σ N M) : exC σ (Dmn σ 1401 1115 N N) N M := by
  have hN := hk.1.1
  obtain ⟨τ, eτ⟩ : ∃ τ, τ = Dmn σ 1401 1115 N N := ⟨_, rfl⟩
  have fτ : Dfr (fun k => ¬ Dnew2 1401 1115 N k) σ τ := by rw [eτ]; exact Dmn_fr
  rw [← eτ]
  refine ⟨⟨dk_fr (fun k hk9 => by unfold dkI at hk9; unfold Dnew2; omega) fτ hk, ?_, fun p hp9 hb => ?_⟩, fun p q hp9 => ?_, ?_, fun p hp9 => ?_⟩
  · have f7 := fτ.2 1107 (by unfold Dnew2; omega)
    have f0 := fτ.2 1000 (by unfold Dnew2; omega)
    unfold dkB at hB ⊢
    rw [f0.2.2.1, f7.2.2.2.1, f7.2.2.2.2]
    exact hB
  · have f7 := fτ.2 1107 (by unfold Dnew2; omega)
    rw [f7.1] at hb ⊢
    exact hBr p hp9 hb
  · unfold fr0 gpD bR
    rw [(fτ.2 1107 (by unfold Dnew2; omega)).1, (fτ.2 (1200 + p) (by unfold Dnew2; omega)).1, (fτ.2 (1110 + p) (by unfold Dnew2; omega)).1]
  · rw [eτ]
    exact ⟨by rw [Dmn_A, if_pos (Or.inl rfl)], by rw [Dmn_N, if_pos rfl]⟩
  · rw [eτ]
    refine ⟨by rw [Dmn_R, if_pos rfl, if_pos hp9], by rw [Dmn_A, if_pos (Or.inr ⟨by omega, by omega⟩)], by rw [Dmn_N, if_neg (by omega), if_pos ⟨by omega, by omega⟩], G_far p (by omega)⟩
/-- the row stands -/
theorem exD0 {σ σ2 : dM} {N M ρ : Nat} {F : Nat → Nat → Int32} (C2 : exC σ σ2 N M) (hρ : 1120 ≤ ρ ∧ ρ ≤ 1139) (hdρ : darr ρ 1 0 = true) (hF : ∀ p, p < N → ∀ j, DI σ2 (1115 + p) j = F p j) : exD (Dnw σ2 ρ N) F N ρ := by
  obtain ⟨⟨k1, k2, k3⟩, k4, k5, k6⟩ := C2
  have hN := k1.1.1
  have hf2 := dk_f k1
  refine ⟨⟨?_, ?_⟩, ⟨?_, ?_⟩, ⟨?_, ?_, hdρ⟩, fun p hp9 => ⟨⟨?_, ?_, ?_, G_far p (by omega)⟩, fun j => ?_⟩⟩
  · rw [Dnw_A, if_neg (by omega)]; exact hf2.2.1.1
  · rw [Dnw_I, if_neg (by omega)]; exact hf2.1.2
  · rw [Dnw_A, if_neg (by omega)]; exact k5.1
  · rw [Dnw_N, if_neg (by omega)]; exact k5.2
  · rw [Dnw_A, if_pos rfl]
  · rw [Dnw_N, if_pos rfl]
  · rw [Dnw_R, if_neg (by omega)]; exact (k6 p hp9).1
  · rw [Dnw_A, if_neg (by omega)]; exact (k6 p hp9).2.1
  · rw [Dnw_N, if_neg (by omega)]; exact (k6 p hp9).2.2.1
  · rw [Dnw_I, if_neg (by omega)]; exact hF p hp9 j
/-- what is left of it all in the end -/
theorem exEnd {σ σ2 : dM} {N ρ : Nat} {x : Int32} {F : Nat → Nat → Int32} (hcl : Dcl0 σ) (fσ2 : Dfr (fun k => ¬ Dnew2 1401 1115 N k) σ σ2) (hN : N ≤ 5) (eF : F = exF σ N) (d1 : DA σ 1401 = false) (d2 : ∀ i, i < 5 → DA σ (1115 + i) = false) : Dsub (DrI (Dnw σ ρ N) ρ (exRow σ x N)) (DrI (Dnw σ2 ρ N) ρ (fillI (fun p => exQ x F p N) N)) := by
  have fσ3 : Dfr (fun k => ¬ Dnew2 1401 1115 N k ∧ k ≠ ρ) σ (DrI (Dnw σ2 ρ N) ρ (fillI (fun p => exQ x F p N) N)) := by
    refine ⟨by rw [DrI_S, Dnw_S]; exact fσ2.1, fun k hk9 => ?_⟩
    obtain ⟨q1, q2, q3, q4, q5⟩ := fσ2.2 k hk9.1
    refine ⟨funext fun j => ?_, ?_, ?_, ?_, ?_⟩
    · rw [DrI_I, if_neg hk9.2, Dnw_I, if_neg hk9.2, q1]
    · rw [DrI_L, ← q2]; funext j; rw [Dnw_L, if_neg hk9.2]
    · rw [DrI_R, ← q3]; funext j; rw [Dnw_R, if_neg hk9.2]
    · rw [DrI_N, Dnw_N, if_neg hk9.2, q4]
    · rw [DrI_A, Dnw_A, if_neg hk9.2, q5]
  exact Dsub_fr hcl fσ3 (fun k hk9 hkρ => by
    have h9 : Dnew2 1401 1115 N k := Classical.byContradiction fun z9 => hk9 ⟨z9, hkρ⟩
    rcases h9 with rfl | ⟨h1, h2⟩
    · exact d1
    · have := d2 (k - 1115) (by omega)
      rw [show 1115 + (k - 1115) = k by omega] at this
      exact this) (by rw [DrI_A, Dnw_A, if_pos rfl]) (by rw [DrI_N, Dnw_N, if_pos rfl]) (fun j => by rw [DrI_I, if_pos rfl, eF]; rfl) (fun j => by rw [DrI_L, Dnw_L, if_pos rfl]) (fun j => by rw [DrI_R, Dnw_R, if_pos rfl])
