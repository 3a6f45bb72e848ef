/-! the list of plans, and what isSame compares -/
theorem G_al : dobj 1900 15 0 0 = true ∧ dobj 1900 15 1 2 = true ∧ dobj 1900 15 2 0 = true ∧ disO 1900 15 = true ∧ darr 2000 4 9 = true := ⟨by decide +kernel, by decide +kernel, by decide +kernel, by decide +kernel, by decide +kernel⟩
def dJx4a65c_size_8abf5 : dO := doR fun a σ => (a = 1900 ∧ DA σ 1900 = true, fun v τ => v = some (.int (DI σ 1900 2)) ∧ τ = σ)
set_option maxRecDepth 100000 in
set_option maxHeartbeats 4000000 in
theorem EJx4a65c_size_8abf5 (g : jG) (h0 n : Nat) : dOk g h0 (n + 0) 0 0 [] mJx4a65c_size_8abf5 dJx4a65c_size_8abf5 := by
  refine doR_ok ?_
  rintro _ σ ⟨rfl, hA⟩
  refine dCon.go (by decide +kernel) (by simp [lg_sl, Value.category]) (fun z hkp hcl hz post hp hR => ?_)
  simp only [DkF] at hkp
  refine dvk_ok (nC := n + 0) DJx4a65c_size_8abf5 hTyA hR (VC := []) (VD := []) (SD := []) (AL := []) (fun _ h => absurd h List.not_mem_nil) (fun _ h => absurd h List.not_mem_nil) (fun _ h => absurd h List.not_mem_nil) [] 10 _ _ _ _ _ _ ?_
  simp (maxSteps := 1000000) [↓Bool.cond_eq_ite, -Prod.forall, -Prod.exists, -Prod.mk.injEq, ↓jc_eq_t, ↓jc_eq_f, ↓jc_ne_t, ↓jc_ne_f, ↓jc_lt_t, ↓jc_lt_f, ↓jc_ge_t, ↓jc_ge_f, ↓jc_gt_t, ↓jc_gt_f, ↓jc_le_t, ↓jc_le_f, dvk, tJx4a65c_size_8abf5, jtb, jol, dvl, dal, dst, jlk, jcmp, jbin, jfl, qJx4a65c, jc2, qlJx4a65c, jcat, jel, lv_args, Value.category, jins, jsrt, jins2, jble, jblt, jf3, List.filter_cons, List.filter_nil, Dlo, Dnr, DnL, Dfree, Droom, DuS_S, DuS_I, DuS_L, DuS_R, DuS_N, DuS_A, DuI_S, DuI_I, DuI_L, DuI_R, DuI_N, DuI_A, DuL_S, DuL_I, DuL_L, DuL_R, DuL_N, DuL_A, DuR_S, DuR_I, DuR_L, DuR_R, DuR_N, DuR_A, Dnw_S, Dnw_I, Dnw_L, Dnw_R, Dnw_N, Dnw_A, DrI_S, DrI_I, DrI_L, DrI_R, DrI_N, DrI_A, DrJ_S, DrJ_I, DrJ_L, DrJ_R, DrJ_N, DrJ_A, dm64, G_d, G_x0, -Int32.not_le, -Int32.not_lt, -Int64.not_le, -Int64.not_lt, i3lt, i6lt, hA, G_al, hkp, hz]
  try simp (disch := omega) [-Prod.forall, -Prod.exists, -Prod.mk.injEq, -Int32.not_le, -Int32.not_lt, -Int64.not_le, -Int64.not_lt, i3lt, i6lt, hA, G_al, hkp, hz]
  exact ⟨⟨by omega, by omega⟩, σ, Dsub.rfl hcl, hp _ _ ⟨rfl, rfl⟩⟩
/-- the plans that are open, in the order in which they were declared -/
def rP (σ : dM) (s0 : jM) (K : Nat) : Prop := K ≤ 2 ∧ DI σ 1900 2 = nI (cn (mO s0) K) ∧ (0 < K → (DR σ 1900 1 = some 2000 ∧ DA σ 2000 = true ∧ DN σ 2000 = 10) ∧ (∀ k, k < K → DA σ (1138 + k) = true ∧ DN σ (1138 + k) = 3 ∧ DI σ (1138 + k) 0 = s0.1 327 k ∧ DI σ (1138 + k) 1 = s0.1 328 k ∧ DI σ (1138 + k) 2 = s0.1 329 k) ∧ ∀ i, i < cn (mO s0) K → DR σ 2000 i = some (1138 + qpl (mO s0) K i))
section RSAME
variable {σ : dM} {s0 : jM} {N M K : Nat}
theorem rDs_H {s1 : jM} (h : rDs σ s0 N M K) (k : xH s0 s1) : rDs σ s1 N M K := ⟨h.1, k.1.rR h.2.1, by rw [k.2]; exact h.2.2⟩
theorem mO_row {s0 s1 : jM} (h : s1.1 323 = s0.1 323) : mO s1 = mO s0 := by
  funext k
  unfold mO
  rw [h]
theorem rP_H {s1 : jM} (h : rP σ s0 K) (k : xH s0 s1) : rP σ s1 K := by
  obtain ⟨h1, h2, h3⟩ := h
  obtain ⟨⟨_, _, _, -, -, e⟩, f⟩ := k
  refine ⟨h1, by rw [mO_row f]; exact h2, fun z => ?_⟩
  rw [mO_row f, e 327 (by omega) (by omega), e 328 (by omega) (by omega), e 329 (by omega) (by omega)]
  exact h3 z
/-- who has a room -/
theorem rRm (h : rDs σ s0 N M K) : dkH σ N M ∧ ∀ p, p < N → (DI σ 1102 p < 0 ↔ ¬ 0 ≤ mD s0 p 2) ∧ DI σ 1102 p = mD s0 p 2 := by
  have hN := h.1.1.1.2
  have hM := h.1.1.2.2
  have e : ∀ p, p < N → DI σ 1102 p = mD s0 p 2 := fun p hp => (h.2.2.1 p hp).2.2.1
  refine ⟨fun p hp hn => ?_, fun p hp => ⟨?_, e p hp⟩⟩
  · rw [e p hp] at hn ⊢
    rcases h.2.1.2.1.2.1.2.2.2.1 p (by omega) with ⟨d, -⟩ | ⟨-, -, r, hr, d⟩
    · unfold mD at hn
      rw [d] at hn
      exact absurd (by decide) hn
    · unfold mD
      rw [d]
      exact jinN hr (by omega)
  · rw [e p hp, i3lt]
theorem rEv (h : rDs σ s0 N M K) {p q : Nat} (hp : p < N) (hq : q < N) : evD σ p q = mKn s0 p q ∧ (if evD σ p q ≤ 0 then 0 else evD σ p q) = if 0 ≤ mD s0 p 2 ∧ 0 ≤ mD s0 q 2 then mEnv s0 p q else 0 := by
  obtain ⟨hH, hr⟩ := rRm h
  have hM := h.1.1.2.2
  have hN := h.1.1.1.2
  unfold evD mKn
  obtain ⟨p1, p2⟩ := hr p hp
  obtain ⟨q1, q2⟩ := hr q hq
  by_cases c1 : DI σ 1102 p < 0
  · have n1 : ¬ (0 ≤ mD s0 p 2 ∧ 0 ≤ mD s0 q 2) := fun z => p1.mp c1 z.1
    rw [if_pos c1, if_neg n1, if_neg n1]
    exact ⟨rfl, by decide⟩
  · rw [if_neg c1]
    by_cases c2 : DI σ 1102 q < 0
    · have n1 : ¬ (0 ≤ mD s0 p 2 ∧ 0 ≤ mD s0 q 2) := fun z => q1.mp c2 z.2
      rw [if_pos c2, if_neg n1, if_neg n1]
      exact ⟨rfl, by decide⟩
    · have d1 : 0 ≤ mD s0 p 2 := Classical.byContradiction (fun z => c1 (p1.mpr z))
      have d2 : 0 ≤ mD s0 q 2 := Classical.byContradiction (fun z => c2 (q1.mpr z))
      have d12 : 0 ≤ mD s0 p 2 ∧ 0 ≤ mD s0 q 2 := ⟨d1, d2⟩
      rw [if_neg c2, if_pos d12, if_pos d12]
      have bp := (hH p hp c1)
      have bq := (hH q hq c2)
      have lp := jin_lt bp
      have lq := jin_lt bq
      have v1 := (h.2.2.2.1 p _ hp lq)
      have v2 := (h.2.2.2.1 p _ hp lp)
      have ep : DI σ 1103 p = mD s0 p 3 := (h.2.2.1 p hp).2.2.2.1
      have eq : DI σ 1103 q = mD s0 q 3 := (h.2.2.1 q hq).2.2.2.1
      have eM : DI σ (1110 + p) (hR_ σ q) - DI σ 1103 q - DI σ (1110 + p) (hR_ σ p) + DI σ 1103 p = mM s0 p q := by
        unfold mM hR_
        rw [v1.1, v2.1, ep, eq, p2, q2]
        rfl
      have z0 : (if (0 : Int32) ≤ 0 then (0 : Int32) else 0) = 0 := by split <;> rfl
      unfold mEnv
      rw [eM]
      by_cases c3 : p = q
      · have c4 : ¬ (0 < mM s0 p q ∧ p ≠ q) := fun z => z.2 c3
        rw [if_pos c3, if_neg c4, z0]
        split <;> exact ⟨rfl, rfl⟩
      · rw [if_neg c3]
        have e13 : DI σ (1200 + p) (hR_ σ q) = mD s0 p (13 + (mD s0 q 2).toNatClampNeg) := by
          unfold hR_
          rw [v1.2, q2]
          rfl
        have d13 := h.2.1.2.1.2.1.2.2.1 p (by omega) (DI σ 1102 q).toNatClampNeg (by omega)
        rw [e13]
        by_cases c4 : mD s0 p (13 + (mD s0 q 2).toNatClampNeg) = 0
        · have c5 : ¬ mD s0 p (13 + (mD s0 q 2).toNatClampNeg) = 1 := fun z => by rw [c4] at z; exact absurd z (by decide)
          rw [if_pos c4, if_neg c5]
          by_cases c6 : mM s0 p q ≤ 0
          · rw [if_pos c6, if_neg (fun z => by rw [i3lt] at z; exact z.1 c6), z0]
            exact ⟨rfl, rfl⟩
          · rw [if_neg c6, if_pos ⟨by rw [i3lt]; exact c6, c3⟩, if_neg c6]
            exact ⟨rfl, rfl⟩
        · have c5 : mD s0 p (13 + (mD s0 q 2).toNatClampNeg) = 1 := by
            rw [q2] at d13
            rcases d13 with d | d
            · exact absurd d c4
            · exact d.1
          rw [if_neg c4, if_pos c5, z0]
          exact ⟨rfl, rfl⟩
theorem rEvA (h : rDs σ s0 N M K) : evA σ N N = mAE s0 (mN s0) (mN s0) := by
  rw [(rDs_lv h).2.2.2.1]
  unfold evA mAE
  exact sm_congr N (fun p hp => sm_congr N (fun q hq => (rEv h hp hq).2))
end RSAME
