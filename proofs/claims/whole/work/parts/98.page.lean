/-! Page: clear, charAt; History: forget -/
def oX5_clear : jO := joR fun a σ => (a = 320, fun v τ => v = none ∧ τ = jup σ 320 1 0)
set_option maxRecDepth 100000 in
set_option maxHeartbeats 4000000 in
theorem CX5_clear (g : jG) (n : Nat) : jOk g (n + 0) mX5_clear oX5_clear := by
  refine joR_ok ?_
  rintro _ σ rfl
  refine jCon.ofP (by decide +kernel) (by simp [lg_sl, Value.category]) (fun post hp => ?_)
  refine jvk_ok TX5_clear (V := []) (S := []) (fun _ h => absurd h List.not_mem_nil) (fun _ h => absurd h List.not_mem_nil) [] 10 _ _ _ _ ?_
  simp (maxSteps := 1000000) [↓Bool.cond_eq_ite, -Prod.forall, -Prod.exists, -Prod.mk.injEq, jvk, tX5_clear, jtb, jol, jst, jlk, jcmp, jbin, jfl, fX5, jc2, lX5, jcat, jel, lv_args, Value.category, jins, jsrt, jins2, jble, jblt, jf3, List.filter_cons, List.filter_nil, G_page, -Int32.not_le, -Int32.not_lt, -Int64.not_le, -Int64.not_lt, i3lt, i6lt]
  try simp (disch := omega) [-Prod.forall, -Prod.exists, -Prod.mk.injEq, -Int32.not_le, -Int32.not_lt, -Int64.not_le, -Int64.not_lt, i3lt, i6lt]
  exact hp _ _ ⟨rfl, rfl⟩
def oX3_forget : jO := joR fun a σ => (a = 57, fun v τ => v = none ∧ τ = jup σ 57 2 0)
set_option maxRecDepth 100000 in
set_option maxHeartbeats 4000000 in
theorem CX3_forget (g : jG) (n : Nat) : jOk g (n + 0) mX3_forget oX3_forget := by
  refine joR_ok ?_
  rintro _ σ rfl
  refine jCon.ofP (by decide +kernel) (by simp [lg_sl, Value.category]) (fun post hp => ?_)
  refine jvk_ok TX3_forget (V := []) (S := []) (fun _ h => absurd h List.not_mem_nil) (fun _ h => absurd h List.not_mem_nil) [] 10 _ _ _ _ ?_
  simp (maxSteps := 1000000) [↓Bool.cond_eq_ite, -Prod.forall, -Prod.exists, -Prod.mk.injEq, jvk, tX3_forget, jtb, jol, jst, jlk, jcmp, jbin, jfl, fX3, jc2, lX3, jcat, jel, lv_args, Value.category, jins, jsrt, jins2, jble, jblt, jf3, List.filter_cons, List.filter_nil, G_history, -Int32.not_le, -Int32.not_lt, -Int64.not_le, -Int64.not_lt, i3lt, i6lt]
  try simp (disch := omega) [-Prod.forall, -Prod.exists, -Prod.mk.injEq, -Int32.not_le, -Int32.not_lt, -Int64.not_le, -Int64.not_lt, i3lt, i6lt]
  exact hp _ _ ⟨rfl, rfl⟩
def pgN (σ : jM) : Nat := (σ.1 320 1).toNatClampNeg
def pgOK (σ : jM) : Prop := 0 ≤ σ.1 320 1 ∧ σ.1 320 1 ≤ 162
theorem pg_n {σ : jM} (h : pgOK σ) : pgN σ ≤ 162 ∧ σ.1 320 1 = nI (pgN σ) := by
  obtain ⟨s, h1, h2, h3⟩ := nI_rng h.1 h.2 (by decide)
  unfold pgN
  rw [h3]
  exact ⟨h1, h2⟩
def oX5_charAt : jO := joRI fun a x σ => (a = 320 ∧ pgOK σ, fun v τ => v = some (.int (if 0 ≤ x ∧ x < σ.1 320 1 then σ.1 321 x.toNatClampNeg else -1)) ∧ τ = σ)
set_option maxRecDepth 100000 in
set_option maxHeartbeats 4000000 in
theorem CX5_charAt (g : jG) (n : Nat) : jOk g (n + 0) mX5_charAt oX5_charAt := by
  refine joRI_ok ?_
  rintro _ x σ ⟨rfl, hok⟩
  obtain ⟨n162, eN⟩ := pg_n hok
  by_cases c1 : 0 ≤ x
  · have c1' : ¬ x < 0 := by grind
    by_cases c2 : x < nI (pgN σ)
    · have c2' : ¬ nI (pgN σ) ≤ x := by grind
      have jx : jin x 162 := by
        obtain ⟨q, q1, q2, -⟩ := nI_rng (x := x) c1 (show x ≤ 162 from Int32.le_trans (Int32.le_of_lt c2) (nI_le (b := 162) n162 (by decide))) (by decide)
        rw [q2] at c2 ⊢
        have := (nI_ltI (by omega) (by omega)).mp c2
        exact jin_nI (by omega) (by decide)
      refine jCon.ofP (by decide +kernel) (by simp [lg_sl, Value.category]) (fun post hp => ?_)
      refine jvk_ok TX5_charAt (V := []) (S := []) (fun _ h => absurd h List.not_mem_nil) (fun _ h => absurd h List.not_mem_nil) [] 30 _ _ _ _ ?_
      simp (maxSteps := 1000000) [↓Bool.cond_eq_ite, -Prod.forall, -Prod.exists, -Prod.mk.injEq, jvk, tX5_charAt, jtb, jol, jst, jlk, jcmp, jbin, jfl, fX5, jc2, lX5, jcat, jel, lv_args, Value.category, jins, jsrt, jins2, jble, jblt, jf3, List.filter_cons, List.filter_nil, G_page, -Int32.not_le, -Int32.not_lt, -Int64.not_le, -Int64.not_lt, i3lt, i6lt, eN, c1, c1', c2', jx]
      try simp (disch := omega) [-Prod.forall, -Prod.exists, -Prod.mk.injEq, -Int32.not_le, -Int32.not_lt, -Int64.not_le, -Int64.not_lt, i3lt, i6lt, eN, c1, c1', c2', jx]
      exact hp _ _ ⟨by rw [eN, if_pos ⟨c1, c2⟩], rfl⟩
    · have c2' : nI (pgN σ) ≤ x := by grind
      refine jCon.ofP (by decide +kernel) (by simp [lg_sl, Value.category]) (fun post hp => ?_)
      refine jvk_ok TX5_charAt (V := []) (S := []) (fun _ h => absurd h List.not_mem_nil) (fun _ h => absurd h List.not_mem_nil) [] 30 _ _ _ _ ?_
      simp (maxSteps := 1000000) [↓Bool.cond_eq_ite, -Prod.forall, -Prod.exists, -Prod.mk.injEq, jvk, tX5_charAt, jtb, jol, jst, jlk, jcmp, jbin, jfl, fX5, jc2, lX5, jcat, jel, lv_args, Value.category, jins, jsrt, jins2, jble, jblt, jf3, List.filter_cons, List.filter_nil, G_page, -Int32.not_le, -Int32.not_lt, -Int64.not_le, -Int64.not_lt, i3lt, i6lt, eN, c1, c1', c2']
      try simp (disch := omega) [-Prod.forall, -Prod.exists, -Prod.mk.injEq, -Int32.not_le, -Int32.not_lt, -Int64.not_le, -Int64.not_lt, i3lt, i6lt, eN, c1, c1', c2']
      exact hp _ _ ⟨by rw [eN, if_neg (fun z => c2 z.2)], rfl⟩
  · have c1' : x < 0 := by grind
    refine jCon.ofP (by decide +kernel) (by simp [lg_sl, Value.category]) (fun post hp => ?_)
    refine jvk_ok TX5_charAt (V := []) (S := []) (fun _ h => absurd h List.not_mem_nil) (fun _ h => absurd h List.not_mem_nil) [] 30 _ _ _ _ ?_
    simp (maxSteps := 1000000) [↓Bool.cond_eq_ite, -Prod.forall, -Prod.exists, -Prod.mk.injEq, jvk, tX5_charAt, jtb, jol, jst, jlk, jcmp, jbin, jfl, fX5, jc2, lX5, jcat, jel, lv_args, Value.category, jins, jsrt, jins2, jble, jblt, jf3, List.filter_cons, List.filter_nil, G_page, -Int32.not_le, -Int32.not_lt, -Int64.not_le, -Int64.not_lt, i3lt, i6lt, c1, c1']
    try simp (disch := omega) [-Prod.forall, -Prod.exists, -Prod.mk.injEq, -Int32.not_le, -Int32.not_lt, -Int64.not_le, -Int64.not_lt, i3lt, i6lt, c1, c1']
    exact hp _ _ ⟨by rw [if_neg (fun z => c1 z.1)], rfl⟩
