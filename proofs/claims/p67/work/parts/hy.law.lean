/-! the law's choose: the best kept -/
section CHN
variable {σ : dM} {N M : Nat}
theorem chM_S {s : chT} : DS (chM σ N s) = DS σ := by
  obtain ⟨S, C, b, c⟩ := s
  cases b <;> rfl
theorem chM_no {a : Nat} (h : chO σ N M) (ha : a = 1107 ∨ a = 1109) {k j : Nat} (h1 : 1000 ≤ k) (h2 : k < 2100) (hk : DA σ k = true) : DR σ k j ≠ some a := fun e => by
  have hd : DA σ a = false := by rcases ha with rfl | rfl; exact h.2.2.1; exact h.2.2.2.1
  rcases h.2.1 k j a (Dal_hi h1 h2 hk) h1 e with h3 | h3
  · omega
  · rw [Dal_A h3 (by omega)] at hd
    cases hd
theorem chM_cl {s : chT} (h : chO σ N M) : Dcl0 (chM σ N s) := by
  intro k j q hk hk2 e
  have up : ∀ q, Dal σ q = true → Dal (chM σ N s) q = true := fun q hq => by
    obtain ⟨h1, h2⟩ := Dal_lt hq
    rcases h2 with h2 | ⟨h2, h3⟩
    · exact Dal_lo h2
    · refine Dal_hi h2 h1 ?_
      rw [chM_A (fun z => by rw [z, h.2.2.1] at h3; cases h3)]
      exact h3
  by_cases c : k = 1107
  · obtain ⟨S, C, b, c9⟩ := s
    subst c
    cases b with
    | none =>
      have h3 := Dal_A hk hk2
      have h4 : DA (chM σ N (S, C, none, c9)) 1107 = DA σ 1107 := rfl
      rw [h4, h.2.2.1] at h3
      cases h3
    | some f =>
      unfold chM chB at e
      rw [DrI_R, DuI_R, DuI_R, DuR_R, if_neg (fun z => absurd z.1 (by decide)), DrI_R, Dnw_R, if_pos rfl] at e
      cases e
  · have h3 := Dal_A hk hk2
    rw [chM_A c] at h3
    have hkσ : Dal σ k = true := Dal_hi hk2 (Dal_lt hk).1 h3
    by_cases d : k = 1000 ∧ j = 21
    · obtain ⟨S, C, b, c9⟩ := s
      obtain ⟨rfl, rfl⟩ := d
      cases b with
      | none =>
        rw [chM_n h] at e
        cases e
      | some f =>
        obtain ⟨w1, w2, -⟩ := chM_s (σ := σ) (N := N) (S := S) (C := C) (c := c9) (f := f)
        rw [w1] at e
        cases e
        exact Or.inr (Dal_hi (by decide) (by decide) w2)
    · rw [chM_R c d] at e
      exact (h.2.1 k j q hkσ hk2 e).imp id (up q)
theorem chM_Ib {S C : Int32} {b b' : Option (Nat → Int32)} {c : Nat → Int32} {k : Nat} (h : k ≠ 1107) : DI (chM σ N (S, C, b, c)) k = DI (chM σ N (S, C, b', c)) k := by
  have e : ∀ b j, DI (chB σ N b) k j = DI σ k j := fun b j => by
    cases b with
    | none => rfl
    | some f =>
      unfold chB
      rw [DuR_I, DrI_I, if_neg h, Dnw_I, if_neg h]
  funext j
  unfold chM
  rw [DrI_I, DuI_I, DuI_I, e, DrI_I, DuI_I, DuI_I, e]
end CHN
set_option maxRecDepth 100000 in
set_option maxHeartbeats 4000000 in
theorem ECh_t {g : jG} {n K : Nat} {z : dZ} {R : Option Value → dM → Nat → Nat → Prop} (hE : dEs g) (hR : dRok g z mX12_choose R) (hz : z.1.frames = n + 1 ∧ z.1.locals = 64 * (n + 1)) {σ : dM} {N M c0 s0 : Nat} {S C : Int32} {b : Option (Nat → Int32)} {c : Nat → Int32} (h : chO σ N M) (hkp : z.2.2.1 1107 = false ∧ z.2.2.1 1109 = false) (hc : c0 + 1 ≤ z.1.cells ∧ s0 + N ≤ z.1.slots)
    (ih : DW g z mX12_choose 76 [(0, .ref 1000)] [] (chM σ N (S, C, some c, c)) (c0 + 1) (s0 + N)) : DW g z mX12_choose 62 [(0, .ref 1000)] [] (chM σ N (S, C, b, c)) c0 s0 := by
  obtain ⟨σ2, e2⟩ : ∃ σ2, σ2 = chM σ N (S, C, b, c) := ⟨_, rfl⟩
  have hC : dkC σ2 N := by rw [e2]; exact chM_C h
  have hf := dk_f (show dk σ2 N M by rw [e2]; exact chM_k h)
  unfold dkC at hC
  have d9 : DA σ2 1109 = false := by rw [e2, chM_A (by decide)]; exact h.2.2.2.1
  have vI : DI σ2 1106 = c := by rw [e2]; exact chM_v.2.2
  have g1 : darr 1106 1 0 = true := by decide +kernel
  have g2 : darr 1109 1 0 = true := by decide +kernel
  rw [← e2]
  refine dvk_ok (nC := n + 0) DX12_choose hTyA hR (VC := []) (VD := [(148, 1, 12, n + 0, 0, 0, 0, [], dX12_isLower)]) (SD := []) (AL := []) (fun _ h => absurd h List.not_mem_nil) (List.forall_mem_cons.mpr ⟨⟨mX12_isLower, 0, TX12, 25, rfl, by decide, hX12_148, WX12_isLower, rfl, EX12_isLower g _ n⟩, (fun _ h => absurd h List.not_mem_nil)⟩) (fun _ h => absurd h List.not_mem_nil) [67] 10 _ _ _ _ _ _ ?_
  simp (maxSteps := 1000000) [↓Bool.cond_eq_ite, -Prod.forall, -Prod.exists, -Prod.mk.injEq, dvk, tX12_choose, jtb, jol, dvl, dal, dst, jlk, jcmp, jbin, jfl, qX12, jc2, qlX12, jcat, jel, lv_args, Value.category, jins, jsrt, jins2, jble, jblt, jf3, List.filter_cons, List.filter_nil, Dlo, Dnr, DnL, Dfree, Droom, DuS_S, DuS_I, DuS_L, DuS_R, DuS_N, DuS_A, DuI_S, DuI_I, DuI_L, DuI_R, DuI_N, DuI_A, DuL_S, DuL_I, DuL_L, DuL_R, DuL_N, DuL_A, DuR_S, DuR_I, DuR_L, DuR_R, DuR_N, DuR_A, Dnw_S, Dnw_I, Dnw_L, Dnw_R, Dnw_N, Dnw_A, DrI_S, DrI_I, DrI_L, DrI_R, DrI_N, DrI_A, DrJ_S, DrJ_I, DrJ_L, DrJ_R, DrJ_N, DrJ_A, dm64, G_d, G_x0, dX12_isLower, doR, -Int32.not_le, -Int32.not_lt, -Int64.not_le, -Int64.not_lt, i3lt, i6lt, hf, hC]
  try simp (disch := omega) [-Prod.forall, -Prod.exists, -Prod.mk.injEq, -Int32.not_le, -Int32.not_lt, -Int64.not_le, -Int64.not_lt, i3lt, i6lt, hf, hC]
  refine dr_clone (b := 1109) g1 hC.2.1 g2 d9 hkp.2 hc.1 (by rw [hC.2.2]; exact hc.2) rfl rfl (by decide) ⟨by omega, by omega⟩ hE.2.2.2.1 (jGw_of 1331 (by decide +kernel) (by decide +kernel)) (show decode cX12_choose 67 = .ok (.invokevirtual 155, 3) by decide +kernel) ?_
  refine dr_castI g2 (by rw [Dcl_A, if_pos rfl]) (jGw_of 1335 (by decide +kernel) (by decide +kernel)) (show decode cX12_choose 70 = .ok (.checkcast 156, 3) by decide +kernel) ?_
  obtain ⟨σ3, e3⟩ : ∃ σ3, σ3 = Dcl σ2 1109 1106 := ⟨_, rfl⟩
  have a3 : DA σ3 1109 = true ∧ DA σ3 1000 = true := by
    rw [e3]
    exact ⟨by rw [Dcl_A, if_pos rfl], by rw [Dcl_A, if_neg (by decide)]; exact hf.2.1.1⟩
  rw [← e3, hC.2.2]
  refine dvk_ok (nC := n + 0) DX12_choose hTyA hR (VC := []) (VD := [(148, 1, 12, n + 0, 0, 0, 0, [], dX12_isLower)]) (SD := []) (AL := []) (fun _ h => absurd h List.not_mem_nil) (List.forall_mem_cons.mpr ⟨⟨mX12_isLower, 0, TX12, 25, rfl, by decide, hX12_148, WX12_isLower, rfl, EX12_isLower g _ n⟩, (fun _ h => absurd h List.not_mem_nil)⟩) (fun _ h => absurd h List.not_mem_nil) [76] 10 _ _ _ _ _ _ ?_
  simp (maxSteps := 1000000) [↓Bool.cond_eq_ite, -Prod.forall, -Prod.exists, -Prod.mk.injEq, dvk, tX12_choose, jtb, jol, dvl, dal, dst, jlk, jcmp, jbin, jfl, qX12, jc2, qlX12, jcat, jel, lv_args, Value.category, jins, jsrt, jins2, jble, jblt, jf3, List.filter_cons, List.filter_nil, Dlo, Dnr, DnL, Dfree, Droom, DuS_S, DuS_I, DuS_L, DuS_R, DuS_N, DuS_A, DuI_S, DuI_I, DuI_L, DuI_R, DuI_N, DuI_A, DuL_S, DuL_I, DuL_L, DuL_R, DuL_N, DuL_A, DuR_S, DuR_I, DuR_L, DuR_R, DuR_N, DuR_A, Dnw_S, Dnw_I, Dnw_L, Dnw_R, Dnw_N, Dnw_A, DrI_S, DrI_I, DrI_L, DrI_R, DrI_N, DrI_A, DrJ_S, DrJ_I, DrJ_L, DrJ_R, DrJ_N, DrJ_A, dm64, G_d, G_x0, dX12_isLower, doR, -Int32.not_le, -Int32.not_lt, -Int64.not_le, -Int64.not_lt, i3lt, i6lt, a3]
  try simp (disch := omega) [-Prod.forall, -Prod.exists, -Prod.mk.injEq, -Int32.not_le, -Int32.not_lt, -Int64.not_le, -Int64.not_lt, i3lt, i6lt, a3]
  have hA9 : ∀ k, DA (chM σ N (S, C, some c, c)) k = true → k ≠ 1107 → k ≠ 1109 ∧ DA σ k = true := fun k h2 h3 => by
    rw [chM_A h3] at h2
    refine ⟨fun z9 => ?_, h2⟩
    rw [z9, h.2.2.2.1] at h2
    cases h2
  obtain ⟨w1, w2, w3, w4⟩ := chM_s (σ := σ) (N := N) (S := S) (C := C) (c := c) (f := c)
  have I3 : ∀ k, k ≠ 1109 → DI σ3 k = DI σ2 k := fun k hk => by rw [e3]; funext j; rw [Dcl_I, if_neg hk]
  have L3 : ∀ k, k ≠ 1109 → DL σ3 k = DL σ2 k := fun k hk => by rw [e3]; funext j; rw [Dcl_L, if_neg hk]
  have R3 : ∀ k, k ≠ 1109 → ∀ j, DR σ3 k j = DR σ2 k j := fun k hk j => by rw [e3, Dcl_R, if_neg hk]
  have N3 : ∀ k, k ≠ 1109 → DN σ3 k = DN σ2 k := fun k hk => by rw [e3, Dcl_N, if_neg hk]
  refine DW.ren (a := 1109) (b := 1107) (ε := chM σ N (S, C, some c, c)) (by decide) (by decide) (by decide) (by decide) hkp.1 rfl (by rw [DuR_A]; exact a3.1) (by decide) (by rw [DuR_S, e3, Dcl_S, e2, chM_S, chM_S]) (fun _ => chM_cl h) (fun k h1 _ h2 => ?_) ⟨?_, ?_, ?_, fun j => ?_⟩ (fun k h1 h1' h2 h3 => ?_) (by rfl) (by rfl) ?_
  · by_cases q : k = 1107
    · exact Or.inl q
    · obtain ⟨q1, q2⟩ := hA9 k h2 q
      refine Or.inr ⟨q1, q, ?_⟩
      rw [DuR_A, e3, Dcl_A, if_neg q1, e2, chM_A q]
      exact q2
  · rw [DuR_I, w4, e3]
    funext j
    rw [Dcl_I, if_pos rfl, vI]
  · rw [DuR_L, e3]
    funext j
    rw [Dcl_L, if_pos rfl]
    unfold chM chB
    rw [DrI_L, DuI_L, DuI_L, DuR_L, DrI_L, Dnw_L, if_pos rfl]
  · rw [DuR_N, w3, e3, Dcl_N, if_pos rfl, hC.2.2]
  · have e9 : DR (chM σ N (S, C, some c, c)) 1107 j = none := by
      unfold chM chB
      rw [DrI_R, DuI_R, DuI_R, DuR_R, if_neg (fun z => absurd z.1 (by decide)), DrI_R, Dnw_R, if_pos rfl]
    have e8 : DR (DuR σ3 1000 21 (some 1109)) 1109 j = none := by
      rw [DuR_R, if_neg (fun z => absurd z.1 (by decide)), e3, Dcl_R, if_pos rfl]
    rw [e9, e8]
    exact ⟨rfl, by simp⟩
  · obtain ⟨q1, q2⟩ := hA9 k h2 h3
    refine ⟨?_, ?_, ?_, fun j => ?_⟩
    · rw [DuR_I, I3 k q1, e2]
      exact chM_Ib h3
    · rw [DuR_L, L3 k q1, e2]
      funext j
      rw [chM_L h3, chM_L h3]
    · rw [DuR_N, N3 k q1, e2, chM_N h3, chM_N h3]
    · by_cases d : k = 1000 ∧ j = 21
      · rw [DuR_R, if_pos d, d.1, d.2, w1]
        exact ⟨by decide, by decide⟩
      · rw [DuR_R, if_neg d, R3 k q1, e2, chM_R h3 d, chM_R h3 d]
        have n1 := chM_no h (Or.inr rfl) (j := j) h1 h1' q2
        have n2 := chM_no h (Or.inl rfl) (j := j) h1 h1' q2
        refine ⟨?_, n2⟩
        unfold Dro
        rw [if_neg n1]
  · exact ih
