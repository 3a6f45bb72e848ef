/-! RentDivision: the proposal that is asked for -/
def aCu (a j : Nat) : Bool := aMk a j || a == 0 && j == 5
def cuP (σ τ : jM) : Prop := jfr aCu bMk σ τ ∧ prOK τ ∧ flOK τ
theorem aCu_o {a j : Nat} (h1 : a < 259 ∨ 279 < a) (h2 : a ≠ 0) : aCu a j = false := by
  unfold aCu aMk
  simp only [jble, Bool.or_eq_false_iff, Bool.and_eq_false_iff, beq_eq_false_iff_ne, decide_eq_false_iff_not]
  omega
theorem cu_same {σ τ : jM} (C : cuP σ τ) : ∀ c, 1 ≤ c → c ≤ 258 → τ.1 c = σ.1 c := fun c h1 h2 => funext fun j => C.1.2.2 c j (aCu_o (by omega) (by omega))
theorem cu_fl {σ τ : jM} (hf : flOK σ) (C : cuP σ τ) : (fN τ = fN σ ∧ liv τ = liv σ ∧ flM τ = flM σ ∧ fRm τ = fRm σ) ∧ flW τ = flW σ ∧ flC τ = flC σ ∧ flI τ = flI σ ∧ flL τ = flL σ ∧ flS τ = flS σ := fl_same hf.1 (fun c h1 h2 => cu_same C c (by omega) (by omega))
theorem pr_cases {σ τ : jM} (hf : flOK σ) (C : cuP σ τ) : (flC σ = none ∧ (if 0 < cM τ 260 ∧ ¬ τ.1 270 0 = -1 then (1 : Int32) else 0) = 0) ∨ ∃ a, flC σ = some a ∧ (if 0 < cM τ 260 ∧ ¬ τ.1 270 0 = -1 then (1 : Int32) else 0) = 1 ∧ 0 < cM τ 260 := by
  obtain ⟨-, -, ec, -⟩ := cu_fl hf C
  obtain ⟨hx, -, -⟩ := pr_ex C.2.1
  rw [ec] at hx
  unfold exV at hx
  rcases e : flC σ with _ | a
  · rw [e] at hx
    simp only [Option.isSome_none, decide_eq_false_iff_not] at hx
    exact Or.inl ⟨rfl, if_neg hx⟩
  · rw [e] at hx
    simp only [Option.isSome_some, decide_eq_true_eq] at hx
    exact Or.inr ⟨a, rfl, if_pos hx, hx.1⟩
def oX11_currentProposal : jO := joR fun a σ => (a = 0 ∧ flOK σ ∧ prIv σ, fun v τ => v = some (.ref 259) ∧ cuP σ τ)
set_option maxRecDepth 100000 in
set_option maxHeartbeats 4000000 in
theorem CX11_currentProposal (g : jG) (n : Nat) : jOk g (n + 5) mX11_currentProposal oX11_currentProposal := by
  refine joR_ok ?_
  rintro _ σ ⟨rfl, hf, hI⟩
  rcases hI with h0 | hI
  · refine jCon.ofP (by decide +kernel) (by simp [lg_sl, Value.category]) (fun post hp => ?_)
    refine jvk_ok TX11_currentProposal (V := [(249, 2, 6, oX6_make)]) (S := []) (List.forall_mem_cons.mpr ⟨⟨mX6_make, n + 4, 1, TX6, 8, rfl, by omega, kX11_249, WX6_make, rfl, CX6_make g (n)⟩, (fun _ h => absurd h List.not_mem_nil)⟩) (fun _ h => absurd h List.not_mem_nil) [18] 20 _ _ _ _ ?_
    simp (maxSteps := 1000000) [↓Bool.cond_eq_ite, -Prod.forall, -Prod.exists, -Prod.mk.injEq, jvk, tX11_currentProposal, jtb, jol, jst, jlk, jcmp, jbin, jfl, fX11, jc2, lX11, jcat, jel, lv_args, Value.category, jins, jsrt, jins2, jble, jblt, jf3, List.filter_cons, List.filter_nil, G_x, G_flat, G_loader, G_roster, G_lroster, G_lflat, G_history, G_prop, G_choice, G_tchoice, G_settle, G_page, oX6_make, joRR, -Int32.not_le, -Int32.not_lt, -Int64.not_le, -Int64.not_lt, i3lt, i6lt, h0, hf]
    try simp (disch := omega) [-Prod.forall, -Prod.exists, -Prod.mk.injEq, -Int32.not_le, -Int32.not_lt, -Int64.not_le, -Int64.not_lt, i3lt, i6lt, h0, hf]
    intro v1 τ1 hv1 M
    subst hv1
    have hs := prMk_self hf M
    have hf1 : flOK τ1 := flOK_same hf (fun c q1 q2 => funext fun j => M.1.2.2 c j (by
      unfold aMk
      simp only [jble, Bool.and_eq_false_iff, decide_eq_false_iff_not]
      omega))
    have e : ∀ c, 1 ≤ c → (jup τ1 0 5 1).1 c = τ1.1 c := fun c hc => by
      funext j
      rw [jup_1, if_neg (by omega)]
    have k1 := hp (some (.ref 259)) (jup τ1 0 5 1) ⟨rfl, (M.1.weak (fun a j q => by unfold aCu at q; simp only [Bool.or_eq_false_iff] at q; exact q.1) (fun _ q => q)).up _ rfl, ⟨jup_s _ _ _ _, prMk_of hf1 hs (fun c h1 _ => e c (by omega)) (fun c h1 _ => e c (by omega))⟩, flOK_same hf1 (fun c h1 _ => e c (by omega))⟩
    refine jvk_ok TX11_currentProposal (V := [(249, 2, 6, oX6_make)]) (S := []) (List.forall_mem_cons.mpr ⟨⟨mX6_make, n + 4, 1, TX6, 8, rfl, by omega, kX11_249, WX6_make, rfl, CX6_make g (n)⟩, (fun _ h => absurd h List.not_mem_nil)⟩) (fun _ h => absurd h List.not_mem_nil) [] 20 _ _ _ _ ?_
    simp (maxSteps := 1000000) [↓Bool.cond_eq_ite, -Prod.forall, -Prod.exists, -Prod.mk.injEq, jvk, tX11_currentProposal, jtb, jol, jst, jlk, jcmp, jbin, jfl, fX11, jc2, lX11, jcat, jel, lv_args, Value.category, jins, jsrt, jins2, jble, jblt, jf3, List.filter_cons, List.filter_nil, G_x, G_flat, G_loader, G_roster, G_lroster, G_lflat, G_history, G_prop, G_choice, G_tchoice, G_settle, G_page, oX6_make, joRR, -Int32.not_le, -Int32.not_lt, -Int64.not_le, -Int64.not_lt, i3lt, i6lt]
    try simp (disch := omega) [-Prod.forall, -Prod.exists, -Prod.mk.injEq, -Int32.not_le, -Int32.not_lt, -Int64.not_le, -Int64.not_lt, i3lt, i6lt]
    exact k1
  · have h1 := hI.1
    refine jCon.ofP (by decide +kernel) (by simp [lg_sl, Value.category]) (fun post hp => ?_)
    refine jvk_ok TX11_currentProposal (V := [(249, 2, 6, oX6_make)]) (S := []) (List.forall_mem_cons.mpr ⟨⟨mX6_make, n + 4, 1, TX6, 8, rfl, by omega, kX11_249, WX6_make, rfl, CX6_make g (n)⟩, (fun _ h => absurd h List.not_mem_nil)⟩) (fun _ h => absurd h List.not_mem_nil) [] 20 _ _ _ _ ?_
    simp (maxSteps := 1000000) [↓Bool.cond_eq_ite, -Prod.forall, -Prod.exists, -Prod.mk.injEq, jvk, tX11_currentProposal, jtb, jol, jst, jlk, jcmp, jbin, jfl, fX11, jc2, lX11, jcat, jel, lv_args, Value.category, jins, jsrt, jins2, jble, jblt, jf3, List.filter_cons, List.filter_nil, G_x, G_flat, G_loader, G_roster, G_lroster, G_lflat, G_history, G_prop, G_choice, G_tchoice, G_settle, G_page, oX6_make, joRR, -Int32.not_le, -Int32.not_lt, -Int64.not_le, -Int64.not_lt, i3lt, i6lt, h1]
    try simp (disch := omega) [-Prod.forall, -Prod.exists, -Prod.mk.injEq, -Int32.not_le, -Int32.not_lt, -Int64.not_le, -Int64.not_lt, i3lt, i6lt, h1]
    exact hp (some (.ref 259)) σ ⟨rfl, jfr.rfl, hI, hf⟩
/-- a number of the proposal, or x without one -/
def clV (σ : jM) (x : Int32) (f : Nat × Nat × (Nat → Nat) → Int32) : Int32 := match flC σ with
  | none => x
  | some a => f a
theorem clV_n {σ : jM} {x : Int32} {f : Nat × Nat × (Nat → Nat) → Int32} (h : flC σ = none) : clV σ x f = x := by unfold clV; rw [h]
theorem clV_s {σ : jM} {x : Int32} {f : Nat × Nat × (Nat → Nat) → Int32} {a : Nat × Nat × (Nat → Nat)} (h : flC σ = some a) : clV σ x f = f a := by unfold clV; rw [h]
/-- the surplus of a place -/
def clG (σ : jM) (A : Nat → Nat) (i : Nat) : Int32 := 120 * oV (flW σ i (A i)) - iI (flPr σ A (flS σ) i)
theorem pr_gv {τ : jM} (h : prOK τ) {a : Nat × Nat × (Nat → Nat)} (ha : flC τ = some a) {i : Nat} (hi : i < flM τ) : gvO τ i = clG τ a.2.2 i := by
  obtain ⟨-, -, -, -, k⟩ := pr_at h ha
  obtain ⟨m1, m2, m3, -, -, -, -, m8, -⟩ := k i hi
  obtain ⟨-, f, h1, h2, h3, h4, h5, h6, h7⟩ := h
  obtain ⟨-, -, k3, k4, -, -⟩ := h7 a ha
  unfold gvO clG
  rw [pr_wo k3 (by rw [h2]; exact hi) (by rw [h2]; exact hi), k4, h4, m8]
/-- how many can afford what they would pay with a share -/
def clAb (σ : jM) (A : Nat → Nat) (s : Nat) (x : Int32) : Nat := cn (fun k => decide (flPy σ A s k * 100 ≤ flI σ k * x)) (flM σ)
def oX11_hasProposal : jO := joR fun a σ => (a = 0 ∧ flOK σ ∧ prIv σ, fun v τ => v = some (.int (clV σ 0 (fun _ => 1))) ∧ cuP σ τ)
set_option maxRecDepth 100000 in
set_option maxHeartbeats 4000000 in
theorem CX11_hasProposal (g : jG) (n : Nat) : jOk g (n + 6) mX11_hasProposal oX11_hasProposal := by
  refine joR_ok ?_
  rintro _ σ ⟨rfl, hf, hI⟩
  refine jCon.ofP (by decide +kernel) (by simp [lg_sl, Value.category]) (fun post hp => ?_)
  refine jvk_ok TX11_hasProposal (V := [(176, 1, 11, oX11_currentProposal), (180, 1, 6, oX6_exists)]) (S := []) (List.forall_mem_cons.mpr ⟨⟨mX11_currentProposal, n + 5, 0, TX11, 9, rfl, by omega, kX11_176, WX11_currentProposal, rfl, CX11_currentProposal g (n)⟩, (List.forall_mem_cons.mpr ⟨⟨mX6_exists, n + 1, 0, TX6, 8, rfl, by omega, kX11_180, WX6_exists, rfl, CX6_exists g (n)⟩, (fun _ h => absurd h List.not_mem_nil)⟩)⟩) (fun _ h => absurd h List.not_mem_nil) [4] 20 _ _ _ _ ?_
  simp (maxSteps := 1000000) [↓Bool.cond_eq_ite, -Prod.forall, -Prod.exists, -Prod.mk.injEq, jvk, tX11_hasProposal, jtb, jol, jst, jlk, jcmp, jbin, jfl, fX11, jc2, lX11, jcat, jel, lv_args, Value.category, jins, jsrt, jins2, jble, jblt, jf3, List.filter_cons, List.filter_nil, G_x, G_flat, G_loader, G_roster, G_lroster, G_lflat, G_history, G_prop, G_choice, G_tchoice, G_settle, G_page, oX11_currentProposal, oX6_exists, joR, -Int32.not_le, -Int32.not_lt, -Int64.not_le, -Int64.not_lt, i3lt, i6lt, hf, hI]
  try simp (disch := omega) [-Prod.forall, -Prod.exists, -Prod.mk.injEq, -Int32.not_le, -Int32.not_lt, -Int64.not_le, -Int64.not_lt, i3lt, i6lt, hf, hI]
  intro v1 τ1 hv1 C
  subst hv1
  have hc := (pr_ex C.2.1).2.1
  refine jvk_ok TX11_hasProposal (V := [(176, 1, 11, oX11_currentProposal), (180, 1, 6, oX6_exists)]) (S := []) (List.forall_mem_cons.mpr ⟨⟨mX11_currentProposal, n + 5, 0, TX11, 9, rfl, by omega, kX11_176, WX11_currentProposal, rfl, CX11_currentProposal g (n)⟩, (List.forall_mem_cons.mpr ⟨⟨mX6_exists, n + 1, 0, TX6, 8, rfl, by omega, kX11_180, WX6_exists, rfl, CX6_exists g (n)⟩, (fun _ h => absurd h List.not_mem_nil)⟩)⟩) (fun _ h => absurd h List.not_mem_nil) [7] 20 _ _ _ _ ?_
  simp (maxSteps := 1000000) [↓Bool.cond_eq_ite, -Prod.forall, -Prod.exists, -Prod.mk.injEq, jvk, tX11_hasProposal, jtb, jol, jst, jlk, jcmp, jbin, jfl, fX11, jc2, lX11, jcat, jel, lv_args, Value.category, jins, jsrt, jins2, jble, jblt, jf3, List.filter_cons, List.filter_nil, G_x, G_flat, G_loader, G_roster, G_lroster, G_lflat, G_history, G_prop, G_choice, G_tchoice, G_settle, G_page, oX11_currentProposal, oX6_exists, joR, -Int32.not_le, -Int32.not_lt, -Int64.not_le, -Int64.not_lt, i3lt, i6lt, hc]
  try simp (disch := omega) [-Prod.forall, -Prod.exists, -Prod.mk.injEq, -Int32.not_le, -Int32.not_lt, -Int64.not_le, -Int64.not_lt, i3lt, i6lt, hc]
  rcases pr_cases hf C with ⟨e, c⟩ | ⟨a, e, c, c1⟩
  · have k1 := hp _ τ1 ⟨rfl, C⟩
    rw [clV_n e] at k1
    rw [c]
    refine jvk_ok TX11_hasProposal (V := [(176, 1, 11, oX11_currentProposal), (180, 1, 6, oX6_exists)]) (S := []) (List.forall_mem_cons.mpr ⟨⟨mX11_currentProposal, n + 5, 0, TX11, 9, rfl, by omega, kX11_176, WX11_currentProposal, rfl, CX11_currentProposal g (n)⟩, (List.forall_mem_cons.mpr ⟨⟨mX6_exists, n + 1, 0, TX6, 8, rfl, by omega, kX11_180, WX6_exists, rfl, CX6_exists g (n)⟩, (fun _ h => absurd h List.not_mem_nil)⟩)⟩) (fun _ h => absurd h List.not_mem_nil) [] 20 _ _ _ _ ?_
    simp (maxSteps := 1000000) [↓Bool.cond_eq_ite, -Prod.forall, -Prod.exists, -Prod.mk.injEq, jvk, tX11_hasProposal, jtb, jol, jst, jlk, jcmp, jbin, jfl, fX11, jc2, lX11, jcat, jel, lv_args, Value.category, jins, jsrt, jins2, jble, jblt, jf3, List.filter_cons, List.filter_nil, G_x, G_flat, G_loader, G_roster, G_lroster, G_lflat, G_history, G_prop, G_choice, G_tchoice, G_settle, G_page, oX11_currentProposal, oX6_exists, joR, -Int32.not_le, -Int32.not_lt, -Int64.not_le, -Int64.not_lt, i3lt, i6lt]
    try simp (disch := omega) [-Prod.forall, -Prod.exists, -Prod.mk.injEq, -Int32.not_le, -Int32.not_lt, -Int64.not_le, -Int64.not_lt, i3lt, i6lt]
    exact k1
  · have k1 := hp _ τ1 ⟨rfl, C⟩
    rw [clV_s e] at k1
    rw [c]
    refine jvk_ok TX11_hasProposal (V := [(176, 1, 11, oX11_currentProposal), (180, 1, 6, oX6_exists)]) (S := []) (List.forall_mem_cons.mpr ⟨⟨mX11_currentProposal, n + 5, 0, TX11, 9, rfl, by omega, kX11_176, WX11_currentProposal, rfl, CX11_currentProposal g (n)⟩, (List.forall_mem_cons.mpr ⟨⟨mX6_exists, n + 1, 0, TX6, 8, rfl, by omega, kX11_180, WX6_exists, rfl, CX6_exists g (n)⟩, (fun _ h => absurd h List.not_mem_nil)⟩)⟩) (fun _ h => absurd h List.not_mem_nil) [] 20 _ _ _ _ ?_
    simp (maxSteps := 1000000) [↓Bool.cond_eq_ite, -Prod.forall, -Prod.exists, -Prod.mk.injEq, jvk, tX11_hasProposal, jtb, jol, jst, jlk, jcmp, jbin, jfl, fX11, jc2, lX11, jcat, jel, lv_args, Value.category, jins, jsrt, jins2, jble, jblt, jf3, List.filter_cons, List.filter_nil, G_x, G_flat, G_loader, G_roster, G_lroster, G_lflat, G_history, G_prop, G_choice, G_tchoice, G_settle, G_page, oX11_currentProposal, oX6_exists, joR, -Int32.not_le, -Int32.not_lt, -Int64.not_le, -Int64.not_lt, i3lt, i6lt]
    try simp (disch := omega) [-Prod.forall, -Prod.exists, -Prod.mk.injEq, -Int32.not_le, -Int32.not_lt, -Int64.not_le, -Int64.not_lt, i3lt, i6lt]
    exact k1
def oX11_proposedValue : jO := joR fun a σ => (a = 0 ∧ flOK σ ∧ prIv σ, fun v τ => v = some (.int (clV σ (-1) (fun a => nI a.1))) ∧ cuP σ τ)
set_option maxRecDepth 100000 in
set_option maxHeartbeats 4000000 in
theorem CX11_proposedValue (g : jG) (n : Nat) : jOk g (n + 6) mX11_proposedValue oX11_proposedValue := by
  refine joR_ok ?_
  rintro _ σ ⟨rfl, hf, hI⟩
  refine jCon.ofP (by decide +kernel) (by simp [lg_sl, Value.category]) (fun post hp => ?_)
  refine jvk_ok TX11_proposedValue (V := [(176, 1, 11, oX11_currentProposal), (180, 1, 6, oX6_exists), (190, 1, 1, oX1_greatestSum)]) (S := []) (List.forall_mem_cons.mpr ⟨⟨mX11_currentProposal, n + 5, 0, TX11, 9, rfl, by omega, kX11_176, WX11_currentProposal, rfl, CX11_currentProposal g (n)⟩, (List.forall_mem_cons.mpr ⟨⟨mX6_exists, n + 1, 0, TX6, 8, rfl, by omega, kX11_180, WX6_exists, rfl, CX6_exists g (n)⟩, (List.forall_mem_cons.mpr ⟨⟨mX1_greatestSum, n + 0, 0, TX1, 7, rfl, by omega, kX11_190, WX1_greatestSum, rfl, CX1_greatestSum g (n)⟩, (fun _ h => absurd h List.not_mem_nil)⟩)⟩)⟩) (fun _ h => absurd h List.not_mem_nil) [4] 30 _ _ _ _ ?_
  simp (maxSteps := 1000000) [↓Bool.cond_eq_ite, -Prod.forall, -Prod.exists, -Prod.mk.injEq, jvk, tX11_proposedValue, jtb, jol, jst, jlk, jcmp, jbin, jfl, fX11, jc2, lX11, jcat, jel, lv_args, Value.category, jins, jsrt, jins2, jble, jblt, jf3, List.filter_cons, List.filter_nil, G_x, G_flat, G_loader, G_roster, G_lroster, G_lflat, G_history, G_prop, G_choice, G_tchoice, G_settle, G_page, oX11_currentProposal, oX6_exists, oX1_greatestSum, joR, -Int32.not_le, -Int32.not_lt, -Int64.not_le, -Int64.not_lt, i3lt, i6lt, hf, hI]
  try simp (disch := omega) [-Prod.forall, -Prod.exists, -Prod.mk.injEq, -Int32.not_le, -Int32.not_lt, -Int64.not_le, -Int64.not_lt, i3lt, i6lt, hf, hI]
  intro v1 τ1 hv1 C
  subst hv1
  have hc := (pr_ex C.2.1).2.1
  have hF := chF_of (b := 260) (Or.inl rfl)
  have hB := blF_of (b := 276) (Or.inl rfl)
  obtain ⟨⟨f1, f2, f3, f4⟩, f5, f6, f7, f8, f9⟩ := cu_fl hf C
  refine jvk_ok TX11_proposedValue (V := [(176, 1, 11, oX11_currentProposal), (180, 1, 6, oX6_exists), (190, 1, 1, oX1_greatestSum)]) (S := []) (List.forall_mem_cons.mpr ⟨⟨mX11_currentProposal, n + 5, 0, TX11, 9, rfl, by omega, kX11_176, WX11_currentProposal, rfl, CX11_currentProposal g (n)⟩, (List.forall_mem_cons.mpr ⟨⟨mX6_exists, n + 1, 0, TX6, 8, rfl, by omega, kX11_180, WX6_exists, rfl, CX6_exists g (n)⟩, (List.forall_mem_cons.mpr ⟨⟨mX1_greatestSum, n + 0, 0, TX1, 7, rfl, by omega, kX11_190, WX1_greatestSum, rfl, CX1_greatestSum g (n)⟩, (fun _ h => absurd h List.not_mem_nil)⟩)⟩)⟩) (fun _ h => absurd h List.not_mem_nil) [9] 30 _ _ _ _ ?_
  simp (maxSteps := 1000000) [↓Bool.cond_eq_ite, -Prod.forall, -Prod.exists, -Prod.mk.injEq, jvk, tX11_proposedValue, jtb, jol, jst, jlk, jcmp, jbin, jfl, fX11, jc2, lX11, jcat, jel, lv_args, Value.category, jins, jsrt, jins2, jble, jblt, jf3, List.filter_cons, List.filter_nil, G_x, G_flat, G_loader, G_roster, G_lroster, G_lflat, G_history, G_prop, G_choice, G_tchoice, G_settle, G_page, oX11_currentProposal, oX6_exists, oX1_greatestSum, joR, -Int32.not_le, -Int32.not_lt, -Int64.not_le, -Int64.not_lt, i3lt, i6lt, hc]
  try simp (disch := omega) [-Prod.forall, -Prod.exists, -Prod.mk.injEq, -Int32.not_le, -Int32.not_lt, -Int64.not_le, -Int64.not_lt, i3lt, i6lt, hc]
  rcases pr_cases hf C with ⟨e, c⟩ | ⟨a, e, c, c1⟩
  · rw [c]
    have k1 := hp _ τ1 ⟨rfl, C⟩
    rw [clV_n e] at k1
    refine jvk_ok TX11_proposedValue (V := [(176, 1, 11, oX11_currentProposal), (180, 1, 6, oX6_exists), (190, 1, 1, oX1_greatestSum)]) (S := []) (List.forall_mem_cons.mpr ⟨⟨mX11_currentProposal, n + 5, 0, TX11, 9, rfl, by omega, kX11_176, WX11_currentProposal, rfl, CX11_currentProposal g (n)⟩, (List.forall_mem_cons.mpr ⟨⟨mX6_exists, n + 1, 0, TX6, 8, rfl, by omega, kX11_180, WX6_exists, rfl, CX6_exists g (n)⟩, (List.forall_mem_cons.mpr ⟨⟨mX1_greatestSum, n + 0, 0, TX1, 7, rfl, by omega, kX11_190, WX1_greatestSum, rfl, CX1_greatestSum g (n)⟩, (fun _ h => absurd h List.not_mem_nil)⟩)⟩)⟩) (fun _ h => absurd h List.not_mem_nil) [] 30 _ _ _ _ ?_
    simp (maxSteps := 1000000) [↓Bool.cond_eq_ite, -Prod.forall, -Prod.exists, -Prod.mk.injEq, jvk, tX11_proposedValue, jtb, jol, jst, jlk, jcmp, jbin, jfl, fX11, jc2, lX11, jcat, jel, lv_args, Value.category, jins, jsrt, jins2, jble, jblt, jf3, List.filter_cons, List.filter_nil, G_x, G_flat, G_loader, G_roster, G_lroster, G_lflat, G_history, G_prop, G_choice, G_tchoice, G_settle, G_page, oX11_currentProposal, oX6_exists, oX1_greatestSum, joR, -Int32.not_le, -Int32.not_lt, -Int64.not_le, -Int64.not_lt, i3lt, i6lt]
    try simp (disch := omega) [-Prod.forall, -Prod.exists, -Prod.mk.injEq, -Int32.not_le, -Int32.not_lt, -Int64.not_le, -Int64.not_lt, i3lt, i6lt]
    exact k1
  · rw [c]
    obtain ⟨t0, t1, t2, t5, tk⟩ := pr_at C.2.1 (f6.trans e)
    have k1 := hp _ τ1 ⟨rfl, C⟩
    rw [clV_s e] at k1
    refine jvk_ok TX11_proposedValue (V := [(176, 1, 11, oX11_currentProposal), (180, 1, 6, oX6_exists), (190, 1, 1, oX1_greatestSum)]) (S := []) (List.forall_mem_cons.mpr ⟨⟨mX11_currentProposal, n + 5, 0, TX11, 9, rfl, by omega, kX11_176, WX11_currentProposal, rfl, CX11_currentProposal g (n)⟩, (List.forall_mem_cons.mpr ⟨⟨mX6_exists, n + 1, 0, TX6, 8, rfl, by omega, kX11_180, WX6_exists, rfl, CX6_exists g (n)⟩, (List.forall_mem_cons.mpr ⟨⟨mX1_greatestSum, n + 0, 0, TX1, 7, rfl, by omega, kX11_190, WX1_greatestSum, rfl, CX1_greatestSum g (n)⟩, (fun _ h => absurd h List.not_mem_nil)⟩)⟩)⟩) (fun _ h => absurd h List.not_mem_nil) [] 30 _ _ _ _ ?_
    simp (maxSteps := 1000000) [↓Bool.cond_eq_ite, -Prod.forall, -Prod.exists, -Prod.mk.injEq, jvk, tX11_proposedValue, jtb, jol, jst, jlk, jcmp, jbin, jfl, fX11, jc2, lX11, jcat, jel, lv_args, Value.category, jins, jsrt, jins2, jble, jblt, jf3, List.filter_cons, List.filter_nil, G_x, G_flat, G_loader, G_roster, G_lroster, G_lflat, G_history, G_prop, G_choice, G_tchoice, G_settle, G_page, oX11_currentProposal, oX6_exists, oX1_greatestSum, joR, -Int32.not_le, -Int32.not_lt, -Int64.not_le, -Int64.not_lt, i3lt, i6lt, hF, t1]
    try simp (disch := omega) [-Prod.forall, -Prod.exists, -Prod.mk.injEq, -Int32.not_le, -Int32.not_lt, -Int64.not_le, -Int64.not_lt, i3lt, i6lt, hF, t1]
    exact k1
def oX11_choiceCount : jO := joR fun a σ => (a = 0 ∧ flOK σ ∧ prIv σ, fun v τ => v = some (.int (clV σ (0) (fun a => nI a.2.1))) ∧ cuP σ τ)
set_option maxRecDepth 100000 in
set_option maxHeartbeats 4000000 in
theorem CX11_choiceCount (g : jG) (n : Nat) : jOk g (n + 6) mX11_choiceCount oX11_choiceCount := by
  refine joR_ok ?_
  rintro _ σ ⟨rfl, hf, hI⟩
  refine jCon.ofP (by decide +kernel) (by simp [lg_sl, Value.category]) (fun post hp => ?_)
  refine jvk_ok TX11_choiceCount (V := [(176, 1, 11, oX11_currentProposal), (180, 1, 6, oX6_exists), (193, 1, 1, oX1_countGreatest)]) (S := []) (List.forall_mem_cons.mpr ⟨⟨mX11_currentProposal, n + 5, 0, TX11, 9, rfl, by omega, kX11_176, WX11_currentProposal, rfl, CX11_currentProposal g (n)⟩, (List.forall_mem_cons.mpr ⟨⟨mX6_exists, n + 1, 0, TX6, 8, rfl, by omega, kX11_180, WX6_exists, rfl, CX6_exists g (n)⟩, (List.forall_mem_cons.mpr ⟨⟨mX1_countGreatest, n + 0, 0, TX1, 7, rfl, by omega, kX11_193, WX1_countGreatest, rfl, CX1_countGreatest g (n)⟩, (fun _ h => absurd h List.not_mem_nil)⟩)⟩)⟩) (fun _ h => absurd h List.not_mem_nil) [4] 30 _ _ _ _ ?_
  simp (maxSteps := 1000000) [↓Bool.cond_eq_ite, -Prod.forall, -Prod.exists, -Prod.mk.injEq, jvk, tX11_choiceCount, jtb, jol, jst, jlk, jcmp, jbin, jfl, fX11, jc2, lX11, jcat, jel, lv_args, Value.category, jins, jsrt, jins2, jble, jblt, jf3, List.filter_cons, List.filter_nil, G_x, G_flat, G_loader, G_roster, G_lroster, G_lflat, G_history, G_prop, G_choice, G_tchoice, G_settle, G_page, oX11_currentProposal, oX6_exists, oX1_countGreatest, joR, -Int32.not_le, -Int32.not_lt, -Int64.not_le, -Int64.not_lt, i3lt, i6lt, hf, hI]
  try simp (disch := omega) [-Prod.forall, -Prod.exists, -Prod.mk.injEq, -Int32.not_le, -Int32.not_lt, -Int64.not_le, -Int64.not_lt, i3lt, i6lt, hf, hI]
  intro v1 τ1 hv1 C
  subst hv1
  have hc := (pr_ex C.2.1).2.1
  have hF := chF_of (b := 260) (Or.inl rfl)
  have hB := blF_of (b := 276) (Or.inl rfl)
  obtain ⟨⟨f1, f2, f3, f4⟩, f5, f6, f7, f8, f9⟩ := cu_fl hf C
  refine jvk_ok TX11_choiceCount (V := [(176, 1, 11, oX11_currentProposal), (180, 1, 6, oX6_exists), (193, 1, 1, oX1_countGreatest)]) (S := []) (List.forall_mem_cons.mpr ⟨⟨mX11_currentProposal, n + 5, 0, TX11, 9, rfl, by omega, kX11_176, WX11_currentProposal, rfl, CX11_currentProposal g (n)⟩, (List.forall_mem_cons.mpr ⟨⟨mX6_exists, n + 1, 0, TX6, 8, rfl, by omega, kX11_180, WX6_exists, rfl, CX6_exists g (n)⟩, (List.forall_mem_cons.mpr ⟨⟨mX1_countGreatest, n + 0, 0, TX1, 7, rfl, by omega, kX11_193, WX1_countGreatest, rfl, CX1_countGreatest g (n)⟩, (fun _ h => absurd h List.not_mem_nil)⟩)⟩)⟩) (fun _ h => absurd h List.not_mem_nil) [9] 30 _ _ _ _ ?_
  simp (maxSteps := 1000000) [↓Bool.cond_eq_ite, -Prod.forall, -Prod.exists, -Prod.mk.injEq, jvk, tX11_choiceCount, jtb, jol, jst, jlk, jcmp, jbin, jfl, fX11, jc2, lX11, jcat, jel, lv_args, Value.category, jins, jsrt, jins2, jble, jblt, jf3, List.filter_cons, List.filter_nil, G_x, G_flat, G_loader, G_roster, G_lroster, G_lflat, G_history, G_prop, G_choice, G_tchoice, G_settle, G_page, oX11_currentProposal, oX6_exists, oX1_countGreatest, joR, -Int32.not_le, -Int32.not_lt, -Int64.not_le, -Int64.not_lt, i3lt, i6lt, hc]
  try simp (disch := omega) [-Prod.forall, -Prod.exists, -Prod.mk.injEq, -Int32.not_le, -Int32.not_lt, -Int64.not_le, -Int64.not_lt, i3lt, i6lt, hc]
  rcases pr_cases hf C with ⟨e, c⟩ | ⟨a, e, c, c1⟩
  · rw [c]
    have k1 := hp _ τ1 ⟨rfl, C⟩
    rw [clV_n e] at k1
    refine jvk_ok TX11_choiceCount (V := [(176, 1, 11, oX11_currentProposal), (180, 1, 6, oX6_exists), (193, 1, 1, oX1_countGreatest)]) (S := []) (List.forall_mem_cons.mpr ⟨⟨mX11_currentProposal, n + 5, 0, TX11, 9, rfl, by omega, kX11_176, WX11_currentProposal, rfl, CX11_currentProposal g (n)⟩, (List.forall_mem_cons.mpr ⟨⟨mX6_exists, n + 1, 0, TX6, 8, rfl, by omega, kX11_180, WX6_exists, rfl, CX6_exists g (n)⟩, (List.forall_mem_cons.mpr ⟨⟨mX1_countGreatest, n + 0, 0, TX1, 7, rfl, by omega, kX11_193, WX1_countGreatest, rfl, CX1_countGreatest g (n)⟩, (fun _ h => absurd h List.not_mem_nil)⟩)⟩)⟩) (fun _ h => absurd h List.not_mem_nil) [] 30 _ _ _ _ ?_
    simp (maxSteps := 1000000) [↓Bool.cond_eq_ite, -Prod.forall, -Prod.exists, -Prod.mk.injEq, jvk, tX11_choiceCount, jtb, jol, jst, jlk, jcmp, jbin, jfl, fX11, jc2, lX11, jcat, jel, lv_args, Value.category, jins, jsrt, jins2, jble, jblt, jf3, List.filter_cons, List.filter_nil, G_x, G_flat, G_loader, G_roster, G_lroster, G_lflat, G_history, G_prop, G_choice, G_tchoice, G_settle, G_page, oX11_currentProposal, oX6_exists, oX1_countGreatest, joR, -Int32.not_le, -Int32.not_lt, -Int64.not_le, -Int64.not_lt, i3lt, i6lt]
    try simp (disch := omega) [-Prod.forall, -Prod.exists, -Prod.mk.injEq, -Int32.not_le, -Int32.not_lt, -Int64.not_le, -Int64.not_lt, i3lt, i6lt]
    exact k1
  · rw [c]
    obtain ⟨t0, t1, t2, t5, tk⟩ := pr_at C.2.1 (f6.trans e)
    have k1 := hp _ τ1 ⟨rfl, C⟩
    rw [clV_s e] at k1
    refine jvk_ok TX11_choiceCount (V := [(176, 1, 11, oX11_currentProposal), (180, 1, 6, oX6_exists), (193, 1, 1, oX1_countGreatest)]) (S := []) (List.forall_mem_cons.mpr ⟨⟨mX11_currentProposal, n + 5, 0, TX11, 9, rfl, by omega, kX11_176, WX11_currentProposal, rfl, CX11_currentProposal g (n)⟩, (List.forall_mem_cons.mpr ⟨⟨mX6_exists, n + 1, 0, TX6, 8, rfl, by omega, kX11_180, WX6_exists, rfl, CX6_exists g (n)⟩, (List.forall_mem_cons.mpr ⟨⟨mX1_countGreatest, n + 0, 0, TX1, 7, rfl, by omega, kX11_193, WX1_countGreatest, rfl, CX1_countGreatest g (n)⟩, (fun _ h => absurd h List.not_mem_nil)⟩)⟩)⟩) (fun _ h => absurd h List.not_mem_nil) [] 30 _ _ _ _ ?_
    simp (maxSteps := 1000000) [↓Bool.cond_eq_ite, -Prod.forall, -Prod.exists, -Prod.mk.injEq, jvk, tX11_choiceCount, jtb, jol, jst, jlk, jcmp, jbin, jfl, fX11, jc2, lX11, jcat, jel, lv_args, Value.category, jins, jsrt, jins2, jble, jblt, jf3, List.filter_cons, List.filter_nil, G_x, G_flat, G_loader, G_roster, G_lroster, G_lflat, G_history, G_prop, G_choice, G_tchoice, G_settle, G_page, oX11_currentProposal, oX6_exists, oX1_countGreatest, joR, -Int32.not_le, -Int32.not_lt, -Int64.not_le, -Int64.not_lt, i3lt, i6lt, hF, t2]
    try simp (disch := omega) [-Prod.forall, -Prod.exists, -Prod.mk.injEq, -Int32.not_le, -Int32.not_lt, -Int64.not_le, -Int64.not_lt, i3lt, i6lt, hF, t2]
    exact k1
/-- the flat's own numbers stay -/
theorem cu_py {σ τ : jM} (hf : flOK σ) (C : cuP σ τ) : flPy τ = flPy σ ∧ flSh τ = flSh σ ∧ flPr τ = flPr σ ∧ clG τ = clG σ ∧ clAb τ = clAb σ ∧ clR τ = clR σ ∧ clY τ = clY σ := by
  obtain ⟨⟨f1, f2, f3, f4⟩, f5, f6, f7, f8, f9⟩ := cu_fl hf C
  have e38 := cu_same C 38 (by omega) (by omega)
  have a1 : flPr τ = flPr σ := by funext A s i; unfold flPr flPp flBs; rw [f5, f8, f3, e38]
  have a2 : flSh τ = flSh σ := by funext s i; unfold flSh; rw [f7, f8, f3]
  have a3 : flPy τ = flPy σ := by funext A s i; unfold flPy flPp; rw [a1, a2, f8, f3]
  refine ⟨a3, a2, a1, ?_, ?_, ?_, ?_⟩
  · funext A i; unfold clG; rw [a1, f5, f9]
  · funext A s x; unfold clAb; rw [a3, f7, f3]
  · funext p; unfold clR; rw [f6, f2, f1]
  · funext p; unfold clY; rw [f6, f2, f9, a3]
