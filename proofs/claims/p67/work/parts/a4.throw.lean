/-! RentDivision: the proposal, told of a person or a room that there is -/
def oX11_proposedRoom : jO := joRI fun a x σ => (a = 0 ∧ flOK σ ∧ prIv σ ∧ fP σ x = true, fun v τ => v = some (.int (clR σ x.toNatClampNeg)) ∧ cuP σ τ)
set_option maxRecDepth 100000 in
set_option maxHeartbeats 4000000 in
theorem CX11_proposedRoom (g : jG) (n : Nat) : jOk g (n + 6) mX11_proposedRoom oX11_proposedRoom := by
  refine joRI_ok ?_
  rintro _ x σ ⟨rfl, hf, hI, hP⟩
  obtain ⟨p, rfl, hpN, ecp, -⟩ := fP_n hf.1 hP
  refine jCon.ofP (by decide +kernel) (by simp [lg_sl, Value.category]) (fun post hp => ?_)
  refine jvk_ok TX11_proposedRoom (V := [(136, 2, 11, oX11_checkPerson), (176, 1, 11, oX11_currentProposal), (184, 2, 6, oX6_roomFor)]) (S := []) (List.forall_mem_cons.mpr ⟨⟨mX11_checkPerson, n + 1, 1, TX11, 9, rfl, by omega, kX11_136, WX11_checkPerson, rfl, CX11_checkPerson g (n)⟩, (List.forall_mem_cons.mpr ⟨⟨mX11_currentProposal, n + 5, 0, TX11, 9, rfl, by omega, kX11_176, WX11_currentProposal, rfl, CX11_currentProposal g (n)⟩, (List.forall_mem_cons.mpr ⟨⟨mX6_roomFor, n + 3, 1, TX6, 8, rfl, by omega, kX11_184, WX6_roomFor, rfl, CX6_roomFor g (n)⟩, (fun _ h => absurd h List.not_mem_nil)⟩)⟩)⟩) (fun _ h => absurd h List.not_mem_nil) [9] 20 _ _ _ _ ?_
  simp (maxSteps := 1000000) [↓Bool.cond_eq_ite, -Prod.forall, -Prod.exists, -Prod.mk.injEq, jvk, tX11_proposedRoom, jtb, jol, jst, jlk, jcmp, jbin, jfl, fX11, jc2, lX11, jcat, jel, lv_args, Value.category, jins, jsrt, jins2, jble, jblt, jf3, List.filter_cons, List.filter_nil, G_x, G_flat, G_loader, G_roster, G_lroster, G_lflat, G_history, G_prop, G_choice, G_tchoice, G_settle, G_page, oX11_checkPerson, oX11_currentProposal, oX6_roomFor, joR, joRI, -Int32.not_le, -Int32.not_lt, -Int64.not_le, -Int64.not_lt, i3lt, i6lt, hf, hI, hP]
  try simp (disch := omega) [-Prod.forall, -Prod.exists, -Prod.mk.injEq, -Int32.not_le, -Int32.not_lt, -Int64.not_le, -Int64.not_lt, i3lt, i6lt, hf, hI, hP]
  intro v1 τ1 hv1 C
  subst hv1
  have hc := (pr_ex C.2.1).2.1
  obtain ⟨⟨f1, -, -, -⟩, -⟩ := cu_fl hf C
  obtain ⟨-, -, -, -, -, eR, eY⟩ := cu_py hf C
  obtain ⟨r1, -⟩ := pr_room C.2.2 C.2.1 (p := p) (by rw [f1]; exact hpN)
  rw [eR] at r1
  have k1 := hp _ τ1 ⟨rfl, C⟩
  rw [ecp] at k1
  refine jvk_ok TX11_proposedRoom (V := [(136, 2, 11, oX11_checkPerson), (176, 1, 11, oX11_currentProposal), (184, 2, 6, oX6_roomFor)]) (S := []) (List.forall_mem_cons.mpr ⟨⟨mX11_checkPerson, n + 1, 1, TX11, 9, rfl, by omega, kX11_136, WX11_checkPerson, rfl, CX11_checkPerson g (n)⟩, (List.forall_mem_cons.mpr ⟨⟨mX11_currentProposal, n + 5, 0, TX11, 9, rfl, by omega, kX11_176, WX11_currentProposal, rfl, CX11_currentProposal g (n)⟩, (List.forall_mem_cons.mpr ⟨⟨mX6_roomFor, n + 3, 1, TX6, 8, rfl, by omega, kX11_184, WX6_roomFor, rfl, CX6_roomFor g (n)⟩, (fun _ h => absurd h List.not_mem_nil)⟩)⟩)⟩) (fun _ h => absurd h List.not_mem_nil) [13] 20 _ _ _ _ ?_
  simp (maxSteps := 1000000) [↓Bool.cond_eq_ite, -Prod.forall, -Prod.exists, -Prod.mk.injEq, jvk, tX11_proposedRoom, jtb, jol, jst, jlk, jcmp, jbin, jfl, fX11, jc2, lX11, jcat, jel, lv_args, Value.category, jins, jsrt, jins2, jble, jblt, jf3, List.filter_cons, List.filter_nil, G_x, G_flat, G_loader, G_roster, G_lroster, G_lflat, G_history, G_prop, G_choice, G_tchoice, G_settle, G_page, oX11_checkPerson, oX11_currentProposal, oX6_roomFor, joR, joRI, -Int32.not_le, -Int32.not_lt, -Int64.not_le, -Int64.not_lt, i3lt, i6lt, hc]
  try simp (disch := omega) [-Prod.forall, -Prod.exists, -Prod.mk.injEq, -Int32.not_le, -Int32.not_lt, -Int64.not_le, -Int64.not_lt, i3lt, i6lt, hc]
  rw [r1]
  refine jvk_ok TX11_proposedRoom (V := [(136, 2, 11, oX11_checkPerson), (176, 1, 11, oX11_currentProposal), (184, 2, 6, oX6_roomFor)]) (S := []) (List.forall_mem_cons.mpr ⟨⟨mX11_checkPerson, n + 1, 1, TX11, 9, rfl, by omega, kX11_136, WX11_checkPerson, rfl, CX11_checkPerson g (n)⟩, (List.forall_mem_cons.mpr ⟨⟨mX11_currentProposal, n + 5, 0, TX11, 9, rfl, by omega, kX11_176, WX11_currentProposal, rfl, CX11_currentProposal g (n)⟩, (List.forall_mem_cons.mpr ⟨⟨mX6_roomFor, n + 3, 1, TX6, 8, rfl, by omega, kX11_184, WX6_roomFor, rfl, CX6_roomFor g (n)⟩, (fun _ h => absurd h List.not_mem_nil)⟩)⟩)⟩) (fun _ h => absurd h List.not_mem_nil) [] 20 _ _ _ _ ?_
  simp (maxSteps := 1000000) [↓Bool.cond_eq_ite, -Prod.forall, -Prod.exists, -Prod.mk.injEq, jvk, tX11_proposedRoom, jtb, jol, jst, jlk, jcmp, jbin, jfl, fX11, jc2, lX11, jcat, jel, lv_args, Value.category, jins, jsrt, jins2, jble, jblt, jf3, List.filter_cons, List.filter_nil, G_x, G_flat, G_loader, G_roster, G_lroster, G_lflat, G_history, G_prop, G_choice, G_tchoice, G_settle, G_page, oX11_checkPerson, oX11_currentProposal, oX6_roomFor, joR, joRI, -Int32.not_le, -Int32.not_lt, -Int64.not_le, -Int64.not_lt, i3lt, i6lt]
  try simp (disch := omega) [-Prod.forall, -Prod.exists, -Prod.mk.injEq, -Int32.not_le, -Int32.not_lt, -Int64.not_le, -Int64.not_lt, i3lt, i6lt]
  exact k1
/-- a number of a person in the proposal -/
def clN (σ : jM) (p : Nat) (f : (Nat → Nat) → Nat → Int32) : Int32 := clV σ (-2000000000) (fun a => if liv σ p = true then f a.2.2 (cn (liv σ) p) else -2000000000)
/-- the place of a room -/
def clPl (σ : jM) (A : Nat → Nat) (x : Int32) : Int32 := ff (fun k => decide (nI (A k) = x)) (flM σ) 0
def clM (σ : jM) (x : Int32) (f : (Nat → Nat) → Nat → Int32) : Int32 := clV σ (-2000000000) (fun a => if clPl σ a.2.2 x = -1 then -2000000000 else f a.2.2 (clPl σ a.2.2 x).toNatClampNeg)
theorem pr_rm {τ : jM} (h : prOK τ) {a : Nat × Nat × (Nat → Nat)} (ha : flC τ = some a) (x : Int32) : (if exV τ = true then ff (fun k => decide (τ.1 269 k = x)) (cM τ 260) 0 else -1) = clPl τ a.2.2 x := by
  obtain ⟨h1, -, h3⟩ := pr_ex h
  rw [h1, ha, if_pos (show (some a : qC).isSome = true from rfl), h3]
  unfold clPl
  exact ff_congr _ _ (fun j _ hj => by rw [((pr_at h ha).2.2.2.2 j (by omega)).1])
theorem pr_rm0 {τ : jM} (h : prOK τ) (ha : flC τ = none) (x : Int32) : (if exV τ = true then ff (fun k => decide (τ.1 269 k = x)) (cM τ 260) 0 else -1) = -1 := by
  obtain ⟨h1, -, -⟩ := pr_ex h
  rw [h1, ha]
  rfl
theorem clPl_rng {τ : jM} (hf : flOK τ) (A : Nat → Nat) (x : Int32) (hn : ¬ clPl τ A x = -1) : ∃ i, clPl τ A x = nI i ∧ i < flM τ := by
  unfold clPl at hn ⊢
  rcases ff_rng (p := fun k => decide (nI (A k) = x)) (flM τ) 0 with e | ⟨j, -, h2, -, h4⟩
  · exact absurd e hn
  · exact ⟨j, h4, by omega⟩
def oX11_proposedPayment : jO := joRI fun a x σ => (a = 0 ∧ flOK σ ∧ prIv σ ∧ fP σ x = true, fun v τ => v = some (.int (clN σ x.toNatClampNeg (fun A i => flPy σ A (flS σ) i))) ∧ cuP σ τ)
set_option maxRecDepth 100000 in
set_option maxHeartbeats 4000000 in
theorem CX11_proposedPayment (g : jG) (n : Nat) : jOk g (n + 6) mX11_proposedPayment oX11_proposedPayment := by
  refine joRI_ok ?_
  rintro _ x σ ⟨rfl, hf, hI, hP⟩
  obtain ⟨p, rfl, hpN, ecp, hp10⟩ := fP_n hf.1 hP
  refine jCon.ofP (by decide +kernel) (by simp [lg_sl, Value.category]) (fun post hp => ?_)
  refine jvk_ok TX11_proposedPayment (V := [(136, 2, 11, oX11_checkPerson), (176, 1, 11, oX11_currentProposal), (218, 2, 6, oX6_placeOfPerson)]) (S := []) (List.forall_mem_cons.mpr ⟨⟨mX11_checkPerson, n + 1, 1, TX11, 9, rfl, by omega, kX11_136, WX11_checkPerson, rfl, CX11_checkPerson g (n)⟩, (List.forall_mem_cons.mpr ⟨⟨mX11_currentProposal, n + 5, 0, TX11, 9, rfl, by omega, kX11_176, WX11_currentProposal, rfl, CX11_currentProposal g (n)⟩, (List.forall_mem_cons.mpr ⟨⟨mX6_placeOfPerson, n + 2, 1, TX6, 8, rfl, by omega, kX11_218, WX6_placeOfPerson, rfl, CX6_placeOfPerson g (n)⟩, (fun _ h => absurd h List.not_mem_nil)⟩)⟩)⟩) (fun _ h => absurd h List.not_mem_nil) [9] 20 _ _ _ _ ?_
  simp (maxSteps := 1000000) [↓Bool.cond_eq_ite, -Prod.forall, -Prod.exists, -Prod.mk.injEq, jvk, tX11_proposedPayment, jtb, jol, jst, jlk, jcmp, jbin, jfl, fX11, jc2, lX11, jcat, jel, lv_args, Value.category, jins, jsrt, jins2, jble, jblt, jf3, List.filter_cons, List.filter_nil, G_x, G_flat, G_loader, G_roster, G_lroster, G_lflat, G_history, G_prop, G_choice, G_tchoice, G_settle, G_page, oX11_checkPerson, oX11_currentProposal, oX6_placeOfPerson, joR, joRI, -Int32.not_le, -Int32.not_lt, -Int64.not_le, -Int64.not_lt, i3lt, i6lt, hf, hI, hP]
  try simp (disch := omega) [-Prod.forall, -Prod.exists, -Prod.mk.injEq, -Int32.not_le, -Int32.not_lt, -Int64.not_le, -Int64.not_lt, i3lt, i6lt, hf, hI, hP]
  intro v1 τ1 hv1 C
  subst hv1
  have hc := (pr_ex C.2.1).2.1
  have hB := blF_of (b := 276) (Or.inl rfl)
  obtain ⟨⟨f1, f2, f3, f4⟩, f5, f6, f7, f8, f9⟩ := cu_fl hf C
  obtain ⟨ePy, eSh, ePr, eG, -, -, -⟩ := cu_py hf C
  have epl := pr_pl C.2.2 C.2.1 (p := p) (by rw [f1]; exact hpN)
  rw [f6, f2] at epl
  have k1 := hp _ τ1 ⟨rfl, C⟩
  rw [ecp] at k1
  unfold clN at k1
  have e15 : (if exV τ1 = true then ff (fun k => decide (τ1.1 261 k = nI p)) (cM τ1 260) 0 else -1) = plP τ1 (nI p) := rfl
  refine jvk_ok TX11_proposedPayment (V := [(136, 2, 11, oX11_checkPerson), (176, 1, 11, oX11_currentProposal), (218, 2, 6, oX6_placeOfPerson)]) (S := []) (List.forall_mem_cons.mpr ⟨⟨mX11_checkPerson, n + 1, 1, TX11, 9, rfl, by omega, kX11_136, WX11_checkPerson, rfl, CX11_checkPerson g (n)⟩, (List.forall_mem_cons.mpr ⟨⟨mX11_currentProposal, n + 5, 0, TX11, 9, rfl, by omega, kX11_176, WX11_currentProposal, rfl, CX11_currentProposal g (n)⟩, (List.forall_mem_cons.mpr ⟨⟨mX6_placeOfPerson, n + 2, 1, TX6, 8, rfl, by omega, kX11_218, WX6_placeOfPerson, rfl, CX6_placeOfPerson g (n)⟩, (fun _ h => absurd h List.not_mem_nil)⟩)⟩)⟩) (fun _ h => absurd h List.not_mem_nil) [15] 30 _ _ _ _ ?_
  simp (maxSteps := 1000000) [↓Bool.cond_eq_ite, -Prod.forall, -Prod.exists, -Prod.mk.injEq, jvk, tX11_proposedPayment, jtb, jol, jst, jlk, jcmp, jbin, jfl, fX11, jc2, lX11, jcat, jel, lv_args, Value.category, jins, jsrt, jins2, jble, jblt, jf3, List.filter_cons, List.filter_nil, G_x, G_flat, G_loader, G_roster, G_lroster, G_lflat, G_history, G_prop, G_choice, G_tchoice, G_settle, G_page, oX11_checkPerson, oX11_currentProposal, oX6_placeOfPerson, joR, joRI, -Int32.not_le, -Int32.not_lt, -Int64.not_le, -Int64.not_lt, i3lt, i6lt, hc]
  try simp (disch := omega) [-Prod.forall, -Prod.exists, -Prod.mk.injEq, -Int32.not_le, -Int32.not_lt, -Int64.not_le, -Int64.not_lt, i3lt, i6lt, hc]
  rw [e15, epl]
  rcases e : flC σ with _ | a
  · rw [clV_n e] at k1
    rw [if_neg (by simp)]
    refine jvk_ok TX11_proposedPayment (V := [(136, 2, 11, oX11_checkPerson), (176, 1, 11, oX11_currentProposal), (218, 2, 6, oX6_placeOfPerson)]) (S := []) (List.forall_mem_cons.mpr ⟨⟨mX11_checkPerson, n + 1, 1, TX11, 9, rfl, by omega, kX11_136, WX11_checkPerson, rfl, CX11_checkPerson g (n)⟩, (List.forall_mem_cons.mpr ⟨⟨mX11_currentProposal, n + 5, 0, TX11, 9, rfl, by omega, kX11_176, WX11_currentProposal, rfl, CX11_currentProposal g (n)⟩, (List.forall_mem_cons.mpr ⟨⟨mX6_placeOfPerson, n + 2, 1, TX6, 8, rfl, by omega, kX11_218, WX6_placeOfPerson, rfl, CX6_placeOfPerson g (n)⟩, (fun _ h => absurd h List.not_mem_nil)⟩)⟩)⟩) (fun _ h => absurd h List.not_mem_nil) [] 20 _ _ _ _ ?_
    simp (maxSteps := 1000000) [↓Bool.cond_eq_ite, -Prod.forall, -Prod.exists, -Prod.mk.injEq, jvk, tX11_proposedPayment, jtb, jol, jst, jlk, jcmp, jbin, jfl, fX11, jc2, lX11, jcat, jel, lv_args, Value.category, jins, jsrt, jins2, jble, jblt, jf3, List.filter_cons, List.filter_nil, G_x, G_flat, G_loader, G_roster, G_lroster, G_lflat, G_history, G_prop, G_choice, G_tchoice, G_settle, G_page, oX11_checkPerson, oX11_currentProposal, oX6_placeOfPerson, joR, joRI, -Int32.not_le, -Int32.not_lt, -Int64.not_le, -Int64.not_lt, i3lt, i6lt]
    try simp (disch := omega) [-Prod.forall, -Prod.exists, -Prod.mk.injEq, -Int32.not_le, -Int32.not_lt, -Int64.not_le, -Int64.not_lt, i3lt, i6lt]
    exact k1
  · rw [clV_s e] at k1
    by_cases l : liv σ p = true
    · rw [if_pos l] at k1
      rw [if_pos ⟨rfl, l⟩]
      have hcl : cn (liv σ) p < flM τ1 := by rw [f3]; exact cn_lt l hpN
      have hc10 := cn_le (liv σ) p
      have at1 := (pr_at C.2.1 (f6.trans e)).2.2.2.2 _ hcl
      have m6 := C.2.2.2.1
      obtain ⟨i, ei⟩ : ∃ i, i = cn (liv σ) p := ⟨_, rfl⟩
      rw [← ei] at hcl hc10 at1 k1 ⊢
      have n1 : ¬ nI i = -1 := fun z => (nI_m1 (by omega)).mp z
      have ji : jin (nI i) 6 := jin_nI (by omega) (by decide)
      have eci : (nI i).toNatClampNeg = i := nI_clamp (by omega)
      have ev : τ1.1 279 i = flPy σ a.2.2 (flS σ) i := by rw [at1.2.2.2.2.2.2.2.2.2.1, ePy, f9]
      refine jvk_ok TX11_proposedPayment (V := [(136, 2, 11, oX11_checkPerson), (176, 1, 11, oX11_currentProposal), (218, 2, 6, oX6_placeOfPerson)]) (S := []) (List.forall_mem_cons.mpr ⟨⟨mX11_checkPerson, n + 1, 1, TX11, 9, rfl, by omega, kX11_136, WX11_checkPerson, rfl, CX11_checkPerson g (n)⟩, (List.forall_mem_cons.mpr ⟨⟨mX11_currentProposal, n + 5, 0, TX11, 9, rfl, by omega, kX11_176, WX11_currentProposal, rfl, CX11_currentProposal g (n)⟩, (List.forall_mem_cons.mpr ⟨⟨mX6_placeOfPerson, n + 2, 1, TX6, 8, rfl, by omega, kX11_218, WX6_placeOfPerson, rfl, CX6_placeOfPerson g (n)⟩, (fun _ h => absurd h List.not_mem_nil)⟩)⟩)⟩) (fun _ h => absurd h List.not_mem_nil) [] 30 _ _ _ _ ?_
      simp (maxSteps := 1000000) [↓Bool.cond_eq_ite, -Prod.forall, -Prod.exists, -Prod.mk.injEq, jvk, tX11_proposedPayment, jtb, jol, jst, jlk, jcmp, jbin, jfl, fX11, jc2, lX11, jcat, jel, lv_args, Value.category, jins, jsrt, jins2, jble, jblt, jf3, List.filter_cons, List.filter_nil, G_x, G_flat, G_loader, G_roster, G_lroster, G_lflat, G_history, G_prop, G_choice, G_tchoice, G_settle, G_page, oX11_checkPerson, oX11_currentProposal, oX6_placeOfPerson, joR, joRI, -Int32.not_le, -Int32.not_lt, -Int64.not_le, -Int64.not_lt, i3lt, i6lt, n1, ji, eci, ev]
      try simp (disch := omega) [-Prod.forall, -Prod.exists, -Prod.mk.injEq, -Int32.not_le, -Int32.not_lt, -Int64.not_le, -Int64.not_lt, i3lt, i6lt, n1, ji, eci, ev]
      exact k1
    · rw [if_neg l] at k1
      rw [if_neg (fun z => l z.2)]
      refine jvk_ok TX11_proposedPayment (V := [(136, 2, 11, oX11_checkPerson), (176, 1, 11, oX11_currentProposal), (218, 2, 6, oX6_placeOfPerson)]) (S := []) (List.forall_mem_cons.mpr ⟨⟨mX11_checkPerson, n + 1, 1, TX11, 9, rfl, by omega, kX11_136, WX11_checkPerson, rfl, CX11_checkPerson g (n)⟩, (List.forall_mem_cons.mpr ⟨⟨mX11_currentProposal, n + 5, 0, TX11, 9, rfl, by omega, kX11_176, WX11_currentProposal, rfl, CX11_currentProposal g (n)⟩, (List.forall_mem_cons.mpr ⟨⟨mX6_placeOfPerson, n + 2, 1, TX6, 8, rfl, by omega, kX11_218, WX6_placeOfPerson, rfl, CX6_placeOfPerson g (n)⟩, (fun _ h => absurd h List.not_mem_nil)⟩)⟩)⟩) (fun _ h => absurd h List.not_mem_nil) [] 20 _ _ _ _ ?_
      simp (maxSteps := 1000000) [↓Bool.cond_eq_ite, -Prod.forall, -Prod.exists, -Prod.mk.injEq, jvk, tX11_proposedPayment, jtb, jol, jst, jlk, jcmp, jbin, jfl, fX11, jc2, lX11, jcat, jel, lv_args, Value.category, jins, jsrt, jins2, jble, jblt, jf3, List.filter_cons, List.filter_nil, G_x, G_flat, G_loader, G_roster, G_lroster, G_lflat, G_history, G_prop, G_choice, G_tchoice, G_settle, G_page, oX11_checkPerson, oX11_currentProposal, oX6_placeOfPerson, joR, joRI, -Int32.not_le, -Int32.not_lt, -Int64.not_le, -Int64.not_lt, i3lt, i6lt]
      try simp (disch := omega) [-Prod.forall, -Prod.exists, -Prod.mk.injEq, -Int32.not_le, -Int32.not_lt, -Int64.not_le, -Int64.not_lt, i3lt, i6lt]
      exact k1
def oX11_surplus : jO := joRI fun a x σ => (a = 0 ∧ flOK σ ∧ prIv σ ∧ fP σ x = true, fun v τ => v = some (.int (clN σ x.toNatClampNeg (fun A i => clG σ A i))) ∧ cuP σ τ)
set_option maxRecDepth 100000 in
set_option maxHeartbeats 4000000 in
theorem CX11_surplus (g : jG) (n : Nat) : jOk g (n + 6) mX11_surplus oX11_surplus := by
  refine joRI_ok ?_
  rintro _ x σ ⟨rfl, hf, hI, hP⟩
  obtain ⟨p, rfl, hpN, ecp, hp10⟩ := fP_n hf.1 hP
  refine jCon.ofP (by decide +kernel) (by simp [lg_sl, Value.category]) (fun post hp => ?_)
  refine jvk_ok TX11_surplus (V := [(136, 2, 11, oX11_checkPerson), (176, 1, 11, oX11_currentProposal), (218, 2, 6, oX6_placeOfPerson), (227, 2, 6, oX6_gainOver)]) (S := []) (List.forall_mem_cons.mpr ⟨⟨mX11_checkPerson, n + 1, 1, TX11, 9, rfl, by omega, kX11_136, WX11_checkPerson, rfl, CX11_checkPerson g (n)⟩, (List.forall_mem_cons.mpr ⟨⟨mX11_currentProposal, n + 5, 0, TX11, 9, rfl, by omega, kX11_176, WX11_currentProposal, rfl, CX11_currentProposal g (n)⟩, (List.forall_mem_cons.mpr ⟨⟨mX6_placeOfPerson, n + 2, 1, TX6, 8, rfl, by omega, kX11_218, WX6_placeOfPerson, rfl, CX6_placeOfPerson g (n)⟩, (List.forall_mem_cons.mpr ⟨⟨mX6_gainOver, n + 1, 1, TX6, 8, rfl, by omega, kX11_227, WX6_gainOver, rfl, CX6_gainOver g (n)⟩, (fun _ h => absurd h List.not_mem_nil)⟩)⟩)⟩)⟩) (fun _ h => absurd h List.not_mem_nil) [9] 20 _ _ _ _ ?_
  simp (maxSteps := 1000000) [↓Bool.cond_eq_ite, -Prod.forall, -Prod.exists, -Prod.mk.injEq, jvk, tX11_surplus, jtb, jol, jst, jlk, jcmp, jbin, jfl, fX11, jc2, lX11, jcat, jel, lv_args, Value.category, jins, jsrt, jins2, jble, jblt, jf3, List.filter_cons, List.filter_nil, G_x, G_flat, G_loader, G_roster, G_lroster, G_lflat, G_history, G_prop, G_choice, G_tchoice, G_settle, G_page, oX11_checkPerson, oX11_currentProposal, oX6_placeOfPerson, oX6_gainOver, joR, joRI, -Int32.not_le, -Int32.not_lt, -Int64.not_le, -Int64.not_lt, i3lt, i6lt, hf, hI, hP]
  try simp (disch := omega) [-Prod.forall, -Prod.exists, -Prod.mk.injEq, -Int32.not_le, -Int32.not_lt, -Int64.not_le, -Int64.not_lt, i3lt, i6lt, hf, hI, hP]
  intro v1 τ1 hv1 C
  subst hv1
  have hc := (pr_ex C.2.1).2.1
  have hB := blF_of (b := 276) (Or.inl rfl)
  obtain ⟨⟨f1, f2, f3, f4⟩, f5, f6, f7, f8, f9⟩ := cu_fl hf C
  obtain ⟨ePy, eSh, ePr, eG, -, -, -⟩ := cu_py hf C
  have epl := pr_pl C.2.2 C.2.1 (p := p) (by rw [f1]; exact hpN)
  rw [f6, f2] at epl
  have k1 := hp _ τ1 ⟨rfl, C⟩
  rw [ecp] at k1
  unfold clN at k1
  have e15 : (if exV τ1 = true then ff (fun k => decide (τ1.1 261 k = nI p)) (cM τ1 260) 0 else -1) = plP τ1 (nI p) := rfl
  refine jvk_ok TX11_surplus (V := [(136, 2, 11, oX11_checkPerson), (176, 1, 11, oX11_currentProposal), (218, 2, 6, oX6_placeOfPerson), (227, 2, 6, oX6_gainOver)]) (S := []) (List.forall_mem_cons.mpr ⟨⟨mX11_checkPerson, n + 1, 1, TX11, 9, rfl, by omega, kX11_136, WX11_checkPerson, rfl, CX11_checkPerson g (n)⟩, (List.forall_mem_cons.mpr ⟨⟨mX11_currentProposal, n + 5, 0, TX11, 9, rfl, by omega, kX11_176, WX11_currentProposal, rfl, CX11_currentProposal g (n)⟩, (List.forall_mem_cons.mpr ⟨⟨mX6_placeOfPerson, n + 2, 1, TX6, 8, rfl, by omega, kX11_218, WX6_placeOfPerson, rfl, CX6_placeOfPerson g (n)⟩, (List.forall_mem_cons.mpr ⟨⟨mX6_gainOver, n + 1, 1, TX6, 8, rfl, by omega, kX11_227, WX6_gainOver, rfl, CX6_gainOver g (n)⟩, (fun _ h => absurd h List.not_mem_nil)⟩)⟩)⟩)⟩) (fun _ h => absurd h List.not_mem_nil) [15] 30 _ _ _ _ ?_
  simp (maxSteps := 1000000) [↓Bool.cond_eq_ite, -Prod.forall, -Prod.exists, -Prod.mk.injEq, jvk, tX11_surplus, jtb, jol, jst, jlk, jcmp, jbin, jfl, fX11, jc2, lX11, jcat, jel, lv_args, Value.category, jins, jsrt, jins2, jble, jblt, jf3, List.filter_cons, List.filter_nil, G_x, G_flat, G_loader, G_roster, G_lroster, G_lflat, G_history, G_prop, G_choice, G_tchoice, G_settle, G_page, oX11_checkPerson, oX11_currentProposal, oX6_placeOfPerson, oX6_gainOver, joR, joRI, -Int32.not_le, -Int32.not_lt, -Int64.not_le, -Int64.not_lt, i3lt, i6lt, hc]
  try simp (disch := omega) [-Prod.forall, -Prod.exists, -Prod.mk.injEq, -Int32.not_le, -Int32.not_lt, -Int64.not_le, -Int64.not_lt, i3lt, i6lt, hc]
  rw [e15, epl]
  rcases e : flC σ with _ | a
  · rw [clV_n e] at k1
    rw [if_neg (by simp)]
    refine jvk_ok TX11_surplus (V := [(136, 2, 11, oX11_checkPerson), (176, 1, 11, oX11_currentProposal), (218, 2, 6, oX6_placeOfPerson), (227, 2, 6, oX6_gainOver)]) (S := []) (List.forall_mem_cons.mpr ⟨⟨mX11_checkPerson, n + 1, 1, TX11, 9, rfl, by omega, kX11_136, WX11_checkPerson, rfl, CX11_checkPerson g (n)⟩, (List.forall_mem_cons.mpr ⟨⟨mX11_currentProposal, n + 5, 0, TX11, 9, rfl, by omega, kX11_176, WX11_currentProposal, rfl, CX11_currentProposal g (n)⟩, (List.forall_mem_cons.mpr ⟨⟨mX6_placeOfPerson, n + 2, 1, TX6, 8, rfl, by omega, kX11_218, WX6_placeOfPerson, rfl, CX6_placeOfPerson g (n)⟩, (List.forall_mem_cons.mpr ⟨⟨mX6_gainOver, n + 1, 1, TX6, 8, rfl, by omega, kX11_227, WX6_gainOver, rfl, CX6_gainOver g (n)⟩, (fun _ h => absurd h List.not_mem_nil)⟩)⟩)⟩)⟩) (fun _ h => absurd h List.not_mem_nil) [] 20 _ _ _ _ ?_
    simp (maxSteps := 1000000) [↓Bool.cond_eq_ite, -Prod.forall, -Prod.exists, -Prod.mk.injEq, jvk, tX11_surplus, jtb, jol, jst, jlk, jcmp, jbin, jfl, fX11, jc2, lX11, jcat, jel, lv_args, Value.category, jins, jsrt, jins2, jble, jblt, jf3, List.filter_cons, List.filter_nil, G_x, G_flat, G_loader, G_roster, G_lroster, G_lflat, G_history, G_prop, G_choice, G_tchoice, G_settle, G_page, oX11_checkPerson, oX11_currentProposal, oX6_placeOfPerson, oX6_gainOver, joR, joRI, -Int32.not_le, -Int32.not_lt, -Int64.not_le, -Int64.not_lt, i3lt, i6lt]
    try simp (disch := omega) [-Prod.forall, -Prod.exists, -Prod.mk.injEq, -Int32.not_le, -Int32.not_lt, -Int64.not_le, -Int64.not_lt, i3lt, i6lt]
    exact k1
  · rw [clV_s e] at k1
    by_cases l : liv σ p = true
    · rw [if_pos l] at k1
      rw [if_pos ⟨rfl, l⟩]
      have hcl : cn (liv σ) p < flM τ1 := by rw [f3]; exact cn_lt l hpN
      have hc10 := cn_le (liv σ) p
      have at1 := (pr_at C.2.1 (f6.trans e)).2.2.2.2 _ hcl
      have m6 := C.2.2.2.1
      obtain ⟨i, ei⟩ : ∃ i, i = cn (liv σ) p := ⟨_, rfl⟩
      rw [← ei] at hcl hc10 at1 k1 ⊢
      have n1 : ¬ nI i = -1 := fun z => (nI_m1 (by omega)).mp z
      have ji : jin (nI i) 6 := jin_nI (by omega) (by decide)
      have eci : (nI i).toNatClampNeg = i := nI_clamp (by omega)
      have ev : gvO τ1 i = clG σ a.2.2 i := by rw [pr_gv C.2.1 (f6.trans e) hcl, eG]
      refine jvk_ok TX11_surplus (V := [(136, 2, 11, oX11_checkPerson), (176, 1, 11, oX11_currentProposal), (218, 2, 6, oX6_placeOfPerson), (227, 2, 6, oX6_gainOver)]) (S := []) (List.forall_mem_cons.mpr ⟨⟨mX11_checkPerson, n + 1, 1, TX11, 9, rfl, by omega, kX11_136, WX11_checkPerson, rfl, CX11_checkPerson g (n)⟩, (List.forall_mem_cons.mpr ⟨⟨mX11_currentProposal, n + 5, 0, TX11, 9, rfl, by omega, kX11_176, WX11_currentProposal, rfl, CX11_currentProposal g (n)⟩, (List.forall_mem_cons.mpr ⟨⟨mX6_placeOfPerson, n + 2, 1, TX6, 8, rfl, by omega, kX11_218, WX6_placeOfPerson, rfl, CX6_placeOfPerson g (n)⟩, (List.forall_mem_cons.mpr ⟨⟨mX6_gainOver, n + 1, 1, TX6, 8, rfl, by omega, kX11_227, WX6_gainOver, rfl, CX6_gainOver g (n)⟩, (fun _ h => absurd h List.not_mem_nil)⟩)⟩)⟩)⟩) (fun _ h => absurd h List.not_mem_nil) [] 30 _ _ _ _ ?_
      simp (maxSteps := 1000000) [↓Bool.cond_eq_ite, -Prod.forall, -Prod.exists, -Prod.mk.injEq, jvk, tX11_surplus, jtb, jol, jst, jlk, jcmp, jbin, jfl, fX11, jc2, lX11, jcat, jel, lv_args, Value.category, jins, jsrt, jins2, jble, jblt, jf3, List.filter_cons, List.filter_nil, G_x, G_flat, G_loader, G_roster, G_lroster, G_lflat, G_history, G_prop, G_choice, G_tchoice, G_settle, G_page, oX11_checkPerson, oX11_currentProposal, oX6_placeOfPerson, oX6_gainOver, joR, joRI, -Int32.not_le, -Int32.not_lt, -Int64.not_le, -Int64.not_lt, i3lt, i6lt, n1, ji, eci, ev, hc]
      try simp (disch := omega) [-Prod.forall, -Prod.exists, -Prod.mk.injEq, -Int32.not_le, -Int32.not_lt, -Int64.not_le, -Int64.not_lt, i3lt, i6lt, n1, ji, eci, ev, hc]
      exact k1
    · rw [if_neg l] at k1
      rw [if_neg (fun z => l z.2)]
      refine jvk_ok TX11_surplus (V := [(136, 2, 11, oX11_checkPerson), (176, 1, 11, oX11_currentProposal), (218, 2, 6, oX6_placeOfPerson), (227, 2, 6, oX6_gainOver)]) (S := []) (List.forall_mem_cons.mpr ⟨⟨mX11_checkPerson, n + 1, 1, TX11, 9, rfl, by omega, kX11_136, WX11_checkPerson, rfl, CX11_checkPerson g (n)⟩, (List.forall_mem_cons.mpr ⟨⟨mX11_currentProposal, n + 5, 0, TX11, 9, rfl, by omega, kX11_176, WX11_currentProposal, rfl, CX11_currentProposal g (n)⟩, (List.forall_mem_cons.mpr ⟨⟨mX6_placeOfPerson, n + 2, 1, TX6, 8, rfl, by omega, kX11_218, WX6_placeOfPerson, rfl, CX6_placeOfPerson g (n)⟩, (List.forall_mem_cons.mpr ⟨⟨mX6_gainOver, n + 1, 1, TX6, 8, rfl, by omega, kX11_227, WX6_gainOver, rfl, CX6_gainOver g (n)⟩, (fun _ h => absurd h List.not_mem_nil)⟩)⟩)⟩)⟩) (fun _ h => absurd h List.not_mem_nil) [] 20 _ _ _ _ ?_
      simp (maxSteps := 1000000) [↓Bool.cond_eq_ite, -Prod.forall, -Prod.exists, -Prod.mk.injEq, jvk, tX11_surplus, jtb, jol, jst, jlk, jcmp, jbin, jfl, fX11, jc2, lX11, jcat, jel, lv_args, Value.category, jins, jsrt, jins2, jble, jblt, jf3, List.filter_cons, List.filter_nil, G_x, G_flat, G_loader, G_roster, G_lroster, G_lflat, G_history, G_prop, G_choice, G_tchoice, G_settle, G_page, oX11_checkPerson, oX11_currentProposal, oX6_placeOfPerson, oX6_gainOver, joR, joRI, -Int32.not_le, -Int32.not_lt, -Int64.not_le, -Int64.not_lt, i3lt, i6lt]
      try simp (disch := omega) [-Prod.forall, -Prod.exists, -Prod.mk.injEq, -Int32.not_le, -Int32.not_lt, -Int64.not_le, -Int64.not_lt, i3lt, i6lt]
      exact k1
def oX11_price : jO := joRI fun a x σ => (a = 0 ∧ flOK σ ∧ prIv σ ∧ fR σ x = true, fun v τ => v = some (.int (clM σ x (fun A i => iI (flPr σ A (flS σ) i)))) ∧ cuP σ τ)
set_option maxRecDepth 100000 in
set_option maxHeartbeats 4000000 in
theorem CX11_price (g : jG) (n : Nat) : jOk g (n + 6) mX11_price oX11_price := by
  refine joRI_ok ?_
  rintro _ x σ ⟨rfl, hf, hI, hR⟩
  refine jCon.ofP (by decide +kernel) (by simp [lg_sl, Value.category]) (fun post hp => ?_)
  refine jvk_ok TX11_price (V := [(145, 2, 11, oX11_checkRoom), (176, 1, 11, oX11_currentProposal), (196, 2, 6, oX6_placeOfRoom)]) (S := []) (List.forall_mem_cons.mpr ⟨⟨mX11_checkRoom, n + 1, 1, TX11, 9, rfl, by omega, kX11_145, WX11_checkRoom, rfl, CX11_checkRoom g (n)⟩, (List.forall_mem_cons.mpr ⟨⟨mX11_currentProposal, n + 5, 0, TX11, 9, rfl, by omega, kX11_176, WX11_currentProposal, rfl, CX11_currentProposal g (n)⟩, (List.forall_mem_cons.mpr ⟨⟨mX6_placeOfRoom, n + 2, 1, TX6, 8, rfl, by omega, kX11_196, WX6_placeOfRoom, rfl, CX6_placeOfRoom g (n)⟩, (fun _ h => absurd h List.not_mem_nil)⟩)⟩)⟩) (fun _ h => absurd h List.not_mem_nil) [9] 20 _ _ _ _ ?_
  simp (maxSteps := 1000000) [↓Bool.cond_eq_ite, -Prod.forall, -Prod.exists, -Prod.mk.injEq, jvk, tX11_price, jtb, jol, jst, jlk, jcmp, jbin, jfl, fX11, jc2, lX11, jcat, jel, lv_args, Value.category, jins, jsrt, jins2, jble, jblt, jf3, List.filter_cons, List.filter_nil, G_x, G_flat, G_loader, G_roster, G_lroster, G_lflat, G_history, G_prop, G_choice, G_tchoice, G_settle, G_page, oX11_checkRoom, oX11_currentProposal, oX6_placeOfRoom, joR, joRI, -Int32.not_le, -Int32.not_lt, -Int64.not_le, -Int64.not_lt, i3lt, i6lt, hf, hI, hR]
  try simp (disch := omega) [-Prod.forall, -Prod.exists, -Prod.mk.injEq, -Int32.not_le, -Int32.not_lt, -Int64.not_le, -Int64.not_lt, i3lt, i6lt, hf, hI, hR]
  intro v1 τ1 hv1 C
  subst hv1
  have hc := (pr_ex C.2.1).2.1
  have hB := blF_of (b := 276) (Or.inl rfl)
  obtain ⟨⟨f1, f2, f3, f4⟩, f5, f6, f7, f8, f9⟩ := cu_fl hf C
  obtain ⟨ePy, eSh, ePr, eG, -, -, -⟩ := cu_py hf C
  have k1 := hp _ τ1 ⟨rfl, C⟩
  unfold clM at k1
  refine jvk_ok TX11_price (V := [(145, 2, 11, oX11_checkRoom), (176, 1, 11, oX11_currentProposal), (196, 2, 6, oX6_placeOfRoom)]) (S := []) (List.forall_mem_cons.mpr ⟨⟨mX11_checkRoom, n + 1, 1, TX11, 9, rfl, by omega, kX11_145, WX11_checkRoom, rfl, CX11_checkRoom g (n)⟩, (List.forall_mem_cons.mpr ⟨⟨mX11_currentProposal, n + 5, 0, TX11, 9, rfl, by omega, kX11_176, WX11_currentProposal, rfl, CX11_currentProposal g (n)⟩, (List.forall_mem_cons.mpr ⟨⟨mX6_placeOfRoom, n + 2, 1, TX6, 8, rfl, by omega, kX11_196, WX6_placeOfRoom, rfl, CX6_placeOfRoom g (n)⟩, (fun _ h => absurd h List.not_mem_nil)⟩)⟩)⟩) (fun _ h => absurd h List.not_mem_nil) [15] 30 _ _ _ _ ?_
  simp (maxSteps := 1000000) [↓Bool.cond_eq_ite, -Prod.forall, -Prod.exists, -Prod.mk.injEq, jvk, tX11_price, jtb, jol, jst, jlk, jcmp, jbin, jfl, fX11, jc2, lX11, jcat, jel, lv_args, Value.category, jins, jsrt, jins2, jble, jblt, jf3, List.filter_cons, List.filter_nil, G_x, G_flat, G_loader, G_roster, G_lroster, G_lflat, G_history, G_prop, G_choice, G_tchoice, G_settle, G_page, oX11_checkRoom, oX11_currentProposal, oX6_placeOfRoom, joR, joRI, -Int32.not_le, -Int32.not_lt, -Int64.not_le, -Int64.not_lt, i3lt, i6lt, hc]
  try simp (disch := omega) [-Prod.forall, -Prod.exists, -Prod.mk.injEq, -Int32.not_le, -Int32.not_lt, -Int64.not_le, -Int64.not_lt, i3lt, i6lt, hc]
  rcases e : flC σ with _ | a
  · rw [clV_n e] at k1
    rw [pr_rm0 C.2.1 (f6.trans e)]
    refine jvk_ok TX11_price (V := [(145, 2, 11, oX11_checkRoom), (176, 1, 11, oX11_currentProposal), (196, 2, 6, oX6_placeOfRoom)]) (S := []) (List.forall_mem_cons.mpr ⟨⟨mX11_checkRoom, n + 1, 1, TX11, 9, rfl, by omega, kX11_145, WX11_checkRoom, rfl, CX11_checkRoom g (n)⟩, (List.forall_mem_cons.mpr ⟨⟨mX11_currentProposal, n + 5, 0, TX11, 9, rfl, by omega, kX11_176, WX11_currentProposal, rfl, CX11_currentProposal g (n)⟩, (List.forall_mem_cons.mpr ⟨⟨mX6_placeOfRoom, n + 2, 1, TX6, 8, rfl, by omega, kX11_196, WX6_placeOfRoom, rfl, CX6_placeOfRoom g (n)⟩, (fun _ h => absurd h List.not_mem_nil)⟩)⟩)⟩) (fun _ h => absurd h List.not_mem_nil) [] 20 _ _ _ _ ?_
    simp (maxSteps := 1000000) [↓Bool.cond_eq_ite, -Prod.forall, -Prod.exists, -Prod.mk.injEq, jvk, tX11_price, jtb, jol, jst, jlk, jcmp, jbin, jfl, fX11, jc2, lX11, jcat, jel, lv_args, Value.category, jins, jsrt, jins2, jble, jblt, jf3, List.filter_cons, List.filter_nil, G_x, G_flat, G_loader, G_roster, G_lroster, G_lflat, G_history, G_prop, G_choice, G_tchoice, G_settle, G_page, oX11_checkRoom, oX11_currentProposal, oX6_placeOfRoom, joR, joRI, -Int32.not_le, -Int32.not_lt, -Int64.not_le, -Int64.not_lt, i3lt, i6lt]
    try simp (disch := omega) [-Prod.forall, -Prod.exists, -Prod.mk.injEq, -Int32.not_le, -Int32.not_lt, -Int64.not_le, -Int64.not_lt, i3lt, i6lt]
    exact k1
  · rw [clV_s e] at k1
    rw [pr_rm C.2.1 (f6.trans e)]
    have epl : clPl τ1 a.2.2 x = clPl σ a.2.2 x := by unfold clPl; rw [f3]
    rw [epl]
    by_cases l : clPl σ a.2.2 x = -1
    · rw [if_pos l] at k1
      refine jvk_ok TX11_price (V := [(145, 2, 11, oX11_checkRoom), (176, 1, 11, oX11_currentProposal), (196, 2, 6, oX6_placeOfRoom)]) (S := []) (List.forall_mem_cons.mpr ⟨⟨mX11_checkRoom, n + 1, 1, TX11, 9, rfl, by omega, kX11_145, WX11_checkRoom, rfl, CX11_checkRoom g (n)⟩, (List.forall_mem_cons.mpr ⟨⟨mX11_currentProposal, n + 5, 0, TX11, 9, rfl, by omega, kX11_176, WX11_currentProposal, rfl, CX11_currentProposal g (n)⟩, (List.forall_mem_cons.mpr ⟨⟨mX6_placeOfRoom, n + 2, 1, TX6, 8, rfl, by omega, kX11_196, WX6_placeOfRoom, rfl, CX6_placeOfRoom g (n)⟩, (fun _ h => absurd h List.not_mem_nil)⟩)⟩)⟩) (fun _ h => absurd h List.not_mem_nil) [] 20 _ _ _ _ ?_
      simp (maxSteps := 1000000) [↓Bool.cond_eq_ite, -Prod.forall, -Prod.exists, -Prod.mk.injEq, jvk, tX11_price, jtb, jol, jst, jlk, jcmp, jbin, jfl, fX11, jc2, lX11, jcat, jel, lv_args, Value.category, jins, jsrt, jins2, jble, jblt, jf3, List.filter_cons, List.filter_nil, G_x, G_flat, G_loader, G_roster, G_lroster, G_lflat, G_history, G_prop, G_choice, G_tchoice, G_settle, G_page, oX11_checkRoom, oX11_currentProposal, oX6_placeOfRoom, joR, joRI, -Int32.not_le, -Int32.not_lt, -Int64.not_le, -Int64.not_lt, i3lt, i6lt, l]
      try simp (disch := omega) [-Prod.forall, -Prod.exists, -Prod.mk.injEq, -Int32.not_le, -Int32.not_lt, -Int64.not_le, -Int64.not_lt, i3lt, i6lt, l]
      exact k1
    · obtain ⟨i, ei, hi⟩ := clPl_rng hf a.2.2 x l
      have m6 := hf.2.1
      have eci : (nI i).toNatClampNeg = i := nI_clamp (by omega)
      rw [if_neg l, ei, eci] at k1
      have at1 := (pr_at C.2.1 (f6.trans e)).2.2.2.2 i (by rw [f3]; exact hi)
      have n1 : ¬ nI i = -1 := fun z => (nI_m1 (by omega)).mp z
      have ji : jin (nI i) 6 := jin_nI (by omega) (by decide)
      rw [ei]
      have ev : τ1.1 277 i = iI (flPr σ a.2.2 (flS σ) i) := by rw [at1.2.2.2.2.2.2.2.1, ePr, f9]
      refine jvk_ok TX11_price (V := [(145, 2, 11, oX11_checkRoom), (176, 1, 11, oX11_currentProposal), (196, 2, 6, oX6_placeOfRoom)]) (S := []) (List.forall_mem_cons.mpr ⟨⟨mX11_checkRoom, n + 1, 1, TX11, 9, rfl, by omega, kX11_145, WX11_checkRoom, rfl, CX11_checkRoom g (n)⟩, (List.forall_mem_cons.mpr ⟨⟨mX11_currentProposal, n + 5, 0, TX11, 9, rfl, by omega, kX11_176, WX11_currentProposal, rfl, CX11_currentProposal g (n)⟩, (List.forall_mem_cons.mpr ⟨⟨mX6_placeOfRoom, n + 2, 1, TX6, 8, rfl, by omega, kX11_196, WX6_placeOfRoom, rfl, CX6_placeOfRoom g (n)⟩, (fun _ h => absurd h List.not_mem_nil)⟩)⟩)⟩) (fun _ h => absurd h List.not_mem_nil) [] 30 _ _ _ _ ?_
      simp (maxSteps := 1000000) [↓Bool.cond_eq_ite, -Prod.forall, -Prod.exists, -Prod.mk.injEq, jvk, tX11_price, jtb, jol, jst, jlk, jcmp, jbin, jfl, fX11, jc2, lX11, jcat, jel, lv_args, Value.category, jins, jsrt, jins2, jble, jblt, jf3, List.filter_cons, List.filter_nil, G_x, G_flat, G_loader, G_roster, G_lroster, G_lflat, G_history, G_prop, G_choice, G_tchoice, G_settle, G_page, oX11_checkRoom, oX11_currentProposal, oX6_placeOfRoom, joR, joRI, -Int32.not_le, -Int32.not_lt, -Int64.not_le, -Int64.not_lt, i3lt, i6lt, n1, ji, eci, ev]
      try simp (disch := omega) [-Prod.forall, -Prod.exists, -Prod.mk.injEq, -Int32.not_le, -Int32.not_lt, -Int64.not_le, -Int64.not_lt, i3lt, i6lt, n1, ji, eci, ev]
      exact k1
def oX11_extreme : jO := joRII fun a x y σ => (a = 0 ∧ flOK σ ∧ prIv σ ∧ fR σ x = true, fun v τ => v = some (.int (clM σ x (fun A i => if y = 0 then iI (gLo (flW σ) A (flM σ) i) else iI (- gHi (flW σ) A (flM σ) i)))) ∧ cuP σ τ)
set_option maxRecDepth 100000 in
set_option maxHeartbeats 4000000 in
theorem CX11_extreme (g : jG) (n : Nat) : jOk g (n + 6) mX11_extreme oX11_extreme := by
  refine joRII_ok ?_
  rintro _ x y σ ⟨rfl, hf, hI, hR⟩
  refine jCon.ofP (by decide +kernel) (by simp [lg_sl, Value.category]) (fun post hp => ?_)
  refine jvk_ok TX11_extreme (V := [(145, 2, 11, oX11_checkRoom), (176, 1, 11, oX11_currentProposal), (196, 2, 6, oX6_placeOfRoom)]) (S := []) (List.forall_mem_cons.mpr ⟨⟨mX11_checkRoom, n + 1, 1, TX11, 9, rfl, by omega, kX11_145, WX11_checkRoom, rfl, CX11_checkRoom g (n)⟩, (List.forall_mem_cons.mpr ⟨⟨mX11_currentProposal, n + 5, 0, TX11, 9, rfl, by omega, kX11_176, WX11_currentProposal, rfl, CX11_currentProposal g (n)⟩, (List.forall_mem_cons.mpr ⟨⟨mX6_placeOfRoom, n + 2, 1, TX6, 8, rfl, by omega, kX11_196, WX6_placeOfRoom, rfl, CX6_placeOfRoom g (n)⟩, (fun _ h => absurd h List.not_mem_nil)⟩)⟩)⟩) (fun _ h => absurd h List.not_mem_nil) [9] 20 _ _ _ _ ?_
  simp (maxSteps := 1000000) [↓Bool.cond_eq_ite, -Prod.forall, -Prod.exists, -Prod.mk.injEq, jvk, tX11_extreme, jtb, jol, jst, jlk, jcmp, jbin, jfl, fX11, jc2, lX11, jcat, jel, lv_args, Value.category, jins, jsrt, jins2, jble, jblt, jf3, List.filter_cons, List.filter_nil, G_x, G_flat, G_loader, G_roster, G_lroster, G_lflat, G_history, G_prop, G_choice, G_tchoice, G_settle, G_page, oX11_checkRoom, oX11_currentProposal, oX6_placeOfRoom, joR, joRI, -Int32.not_le, -Int32.not_lt, -Int64.not_le, -Int64.not_lt, i3lt, i6lt, hf, hI, hR]
  try simp (disch := omega) [-Prod.forall, -Prod.exists, -Prod.mk.injEq, -Int32.not_le, -Int32.not_lt, -Int64.not_le, -Int64.not_lt, i3lt, i6lt, hf, hI, hR]
  intro v1 τ1 hv1 C
  subst hv1
  have hc := (pr_ex C.2.1).2.1
  have hB := blF_of (b := 276) (Or.inl rfl)
  obtain ⟨⟨f1, f2, f3, f4⟩, f5, f6, f7, f8, f9⟩ := cu_fl hf C
  obtain ⟨ePy, eSh, ePr, eG, -, -, -⟩ := cu_py hf C
  have k1 := hp _ τ1 ⟨rfl, C⟩
  unfold clM at k1
  refine jvk_ok TX11_extreme (V := [(145, 2, 11, oX11_checkRoom), (176, 1, 11, oX11_currentProposal), (196, 2, 6, oX6_placeOfRoom)]) (S := []) (List.forall_mem_cons.mpr ⟨⟨mX11_checkRoom, n + 1, 1, TX11, 9, rfl, by omega, kX11_145, WX11_checkRoom, rfl, CX11_checkRoom g (n)⟩, (List.forall_mem_cons.mpr ⟨⟨mX11_currentProposal, n + 5, 0, TX11, 9, rfl, by omega, kX11_176, WX11_currentProposal, rfl, CX11_currentProposal g (n)⟩, (List.forall_mem_cons.mpr ⟨⟨mX6_placeOfRoom, n + 2, 1, TX6, 8, rfl, by omega, kX11_196, WX6_placeOfRoom, rfl, CX6_placeOfRoom g (n)⟩, (fun _ h => absurd h List.not_mem_nil)⟩)⟩)⟩) (fun _ h => absurd h List.not_mem_nil) [15] 30 _ _ _ _ ?_
  simp (maxSteps := 1000000) [↓Bool.cond_eq_ite, -Prod.forall, -Prod.exists, -Prod.mk.injEq, jvk, tX11_extreme, jtb, jol, jst, jlk, jcmp, jbin, jfl, fX11, jc2, lX11, jcat, jel, lv_args, Value.category, jins, jsrt, jins2, jble, jblt, jf3, List.filter_cons, List.filter_nil, G_x, G_flat, G_loader, G_roster, G_lroster, G_lflat, G_history, G_prop, G_choice, G_tchoice, G_settle, G_page, oX11_checkRoom, oX11_currentProposal, oX6_placeOfRoom, joR, joRI, -Int32.not_le, -Int32.not_lt, -Int64.not_le, -Int64.not_lt, i3lt, i6lt, hc]
  try simp (disch := omega) [-Prod.forall, -Prod.exists, -Prod.mk.injEq, -Int32.not_le, -Int32.not_lt, -Int64.not_le, -Int64.not_lt, i3lt, i6lt, hc]
  rcases e : flC σ with _ | a
  · rw [clV_n e] at k1
    rw [pr_rm0 C.2.1 (f6.trans e)]
    refine jvk_ok TX11_extreme (V := [(145, 2, 11, oX11_checkRoom), (176, 1, 11, oX11_currentProposal), (196, 2, 6, oX6_placeOfRoom)]) (S := []) (List.forall_mem_cons.mpr ⟨⟨mX11_checkRoom, n + 1, 1, TX11, 9, rfl, by omega, kX11_145, WX11_checkRoom, rfl, CX11_checkRoom g (n)⟩, (List.forall_mem_cons.mpr ⟨⟨mX11_currentProposal, n + 5, 0, TX11, 9, rfl, by omega, kX11_176, WX11_currentProposal, rfl, CX11_currentProposal g (n)⟩, (List.forall_mem_cons.mpr ⟨⟨mX6_placeOfRoom, n + 2, 1, TX6, 8, rfl, by omega, kX11_196, WX6_placeOfRoom, rfl, CX6_placeOfRoom g (n)⟩, (fun _ h => absurd h List.not_mem_nil)⟩)⟩)⟩) (fun _ h => absurd h List.not_mem_nil) [] 20 _ _ _ _ ?_
    simp (maxSteps := 1000000) [↓Bool.cond_eq_ite, -Prod.forall, -Prod.exists, -Prod.mk.injEq, jvk, tX11_extreme, jtb, jol, jst, jlk, jcmp, jbin, jfl, fX11, jc2, lX11, jcat, jel, lv_args, Value.category, jins, jsrt, jins2, jble, jblt, jf3, List.filter_cons, List.filter_nil, G_x, G_flat, G_loader, G_roster, G_lroster, G_lflat, G_history, G_prop, G_choice, G_tchoice, G_settle, G_page, oX11_checkRoom, oX11_currentProposal, oX6_placeOfRoom, joR, joRI, -Int32.not_le, -Int32.not_lt, -Int64.not_le, -Int64.not_lt, i3lt, i6lt]
    try simp (disch := omega) [-Prod.forall, -Prod.exists, -Prod.mk.injEq, -Int32.not_le, -Int32.not_lt, -Int64.not_le, -Int64.not_lt, i3lt, i6lt]
    exact k1
  · rw [clV_s e] at k1
    rw [pr_rm C.2.1 (f6.trans e)]
    have epl : clPl τ1 a.2.2 x = clPl σ a.2.2 x := by unfold clPl; rw [f3]
    rw [epl]
    by_cases l : clPl σ a.2.2 x = -1
    · rw [if_pos l] at k1
      refine jvk_ok TX11_extreme (V := [(145, 2, 11, oX11_checkRoom), (176, 1, 11, oX11_currentProposal), (196, 2, 6, oX6_placeOfRoom)]) (S := []) (List.forall_mem_cons.mpr ⟨⟨mX11_checkRoom, n + 1, 1, TX11, 9, rfl, by omega, kX11_145, WX11_checkRoom, rfl, CX11_checkRoom g (n)⟩, (List.forall_mem_cons.mpr ⟨⟨mX11_currentProposal, n + 5, 0, TX11, 9, rfl, by omega, kX11_176, WX11_currentProposal, rfl, CX11_currentProposal g (n)⟩, (List.forall_mem_cons.mpr ⟨⟨mX6_placeOfRoom, n + 2, 1, TX6, 8, rfl, by omega, kX11_196, WX6_placeOfRoom, rfl, CX6_placeOfRoom g (n)⟩, (fun _ h => absurd h List.not_mem_nil)⟩)⟩)⟩) (fun _ h => absurd h List.not_mem_nil) [] 20 _ _ _ _ ?_
      simp (maxSteps := 1000000) [↓Bool.cond_eq_ite, -Prod.forall, -Prod.exists, -Prod.mk.injEq, jvk, tX11_extreme, jtb, jol, jst, jlk, jcmp, jbin, jfl, fX11, jc2, lX11, jcat, jel, lv_args, Value.category, jins, jsrt, jins2, jble, jblt, jf3, List.filter_cons, List.filter_nil, G_x, G_flat, G_loader, G_roster, G_lroster, G_lflat, G_history, G_prop, G_choice, G_tchoice, G_settle, G_page, oX11_checkRoom, oX11_currentProposal, oX6_placeOfRoom, joR, joRI, -Int32.not_le, -Int32.not_lt, -Int64.not_le, -Int64.not_lt, i3lt, i6lt, l]
      try simp (disch := omega) [-Prod.forall, -Prod.exists, -Prod.mk.injEq, -Int32.not_le, -Int32.not_lt, -Int64.not_le, -Int64.not_lt, i3lt, i6lt, l]
      exact k1
    · obtain ⟨i, ei, hi⟩ := clPl_rng hf a.2.2 x l
      have m6 := hf.2.1
      have eci : (nI i).toNatClampNeg = i := nI_clamp (by omega)
      rw [if_neg l, ei, eci] at k1
      have at1 := (pr_at C.2.1 (f6.trans e)).2.2.2.2 i (by rw [f3]; exact hi)
      have n1 : ¬ nI i = -1 := fun z => (nI_m1 (by omega)).mp z
      have ji : jin (nI i) 6 := jin_nI (by omega) (by decide)
      rw [ei]
      have ev1 : τ1.1 272 i = iI (gLo (flW σ) a.2.2 (flM σ) i) := by rw [at1.2.2.2.1, f5, f3]
      have ev2 : τ1.1 273 i = iI (- gHi (flW σ) a.2.2 (flM σ) i) := by rw [at1.2.2.2.2.1, f5, f3]
      have k1 : post (some (.int (if y = 0 then iI (gLo (flW σ) a.2.2 (flM σ) i) else iI (- gHi (flW σ) a.2.2 (flM σ) i)))) τ1 := k1
      by_cases y0 : y = 0
      · rw [if_pos y0] at k1
        refine jvk_ok TX11_extreme (V := [(145, 2, 11, oX11_checkRoom), (176, 1, 11, oX11_currentProposal), (196, 2, 6, oX6_placeOfRoom)]) (S := []) (List.forall_mem_cons.mpr ⟨⟨mX11_checkRoom, n + 1, 1, TX11, 9, rfl, by omega, kX11_145, WX11_checkRoom, rfl, CX11_checkRoom g (n)⟩, (List.forall_mem_cons.mpr ⟨⟨mX11_currentProposal, n + 5, 0, TX11, 9, rfl, by omega, kX11_176, WX11_currentProposal, rfl, CX11_currentProposal g (n)⟩, (List.forall_mem_cons.mpr ⟨⟨mX6_placeOfRoom, n + 2, 1, TX6, 8, rfl, by omega, kX11_196, WX6_placeOfRoom, rfl, CX6_placeOfRoom g (n)⟩, (fun _ h => absurd h List.not_mem_nil)⟩)⟩)⟩) (fun _ h => absurd h List.not_mem_nil) [] 30 _ _ _ _ ?_
        simp (maxSteps := 1000000) [↓Bool.cond_eq_ite, -Prod.forall, -Prod.exists, -Prod.mk.injEq, jvk, tX11_extreme, jtb, jol, jst, jlk, jcmp, jbin, jfl, fX11, jc2, lX11, jcat, jel, lv_args, Value.category, jins, jsrt, jins2, jble, jblt, jf3, List.filter_cons, List.filter_nil, G_x, G_flat, G_loader, G_roster, G_lroster, G_lflat, G_history, G_prop, G_choice, G_tchoice, G_settle, G_page, oX11_checkRoom, oX11_currentProposal, oX6_placeOfRoom, joR, joRI, -Int32.not_le, -Int32.not_lt, -Int64.not_le, -Int64.not_lt, i3lt, i6lt, n1, ji, eci, ev1, y0]
        try simp (disch := omega) [-Prod.forall, -Prod.exists, -Prod.mk.injEq, -Int32.not_le, -Int32.not_lt, -Int64.not_le, -Int64.not_lt, i3lt, i6lt, n1, ji, eci, ev1, y0]
        exact k1
      · rw [if_neg y0] at k1
        refine jvk_ok TX11_extreme (V := [(145, 2, 11, oX11_checkRoom), (176, 1, 11, oX11_currentProposal), (196, 2, 6, oX6_placeOfRoom)]) (S := []) (List.forall_mem_cons.mpr ⟨⟨mX11_checkRoom, n + 1, 1, TX11, 9, rfl, by omega, kX11_145, WX11_checkRoom, rfl, CX11_checkRoom g (n)⟩, (List.forall_mem_cons.mpr ⟨⟨mX11_currentProposal, n + 5, 0, TX11, 9, rfl, by omega, kX11_176, WX11_currentProposal, rfl, CX11_currentProposal g (n)⟩, (List.forall_mem_cons.mpr ⟨⟨mX6_placeOfRoom, n + 2, 1, TX6, 8, rfl, by omega, kX11_196, WX6_placeOfRoom, rfl, CX6_placeOfRoom g (n)⟩, (fun _ h => absurd h List.not_mem_nil)⟩)⟩)⟩) (fun _ h => absurd h List.not_mem_nil) [] 30 _ _ _ _ ?_
        simp (maxSteps := 1000000) [↓Bool.cond_eq_ite, -Prod.forall, -Prod.exists, -Prod.mk.injEq, jvk, tX11_extreme, jtb, jol, jst, jlk, jcmp, jbin, jfl, fX11, jc2, lX11, jcat, jel, lv_args, Value.category, jins, jsrt, jins2, jble, jblt, jf3, List.filter_cons, List.filter_nil, G_x, G_flat, G_loader, G_roster, G_lroster, G_lflat, G_history, G_prop, G_choice, G_tchoice, G_settle, G_page, oX11_checkRoom, oX11_currentProposal, oX6_placeOfRoom, joR, joRI, -Int32.not_le, -Int32.not_lt, -Int64.not_le, -Int64.not_lt, i3lt, i6lt, n1, ji, eci, ev2, y0]
        try simp (disch := omega) [-Prod.forall, -Prod.exists, -Prod.mk.injEq, -Int32.not_le, -Int32.not_lt, -Int64.not_le, -Int64.not_lt, i3lt, i6lt, n1, ji, eci, ev2, y0]
        exact k1
