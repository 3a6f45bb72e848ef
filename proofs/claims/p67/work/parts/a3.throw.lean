/-! RentDivision: what is told of a person or a room that there is -/
theorem fP_n {σ : jM} (hok : fOK σ) {x : Int32} (h : fP σ x = true) : ∃ p, x = nI p ∧ p < fN σ ∧ x.toNatClampNeg = p ∧ p < 10 := by
  obtain ⟨⟨n10, eN⟩, -, -⟩ := fOK_n hok
  have hj := fP_jin h
  obtain ⟨e, h1, h2⟩ := tn_nI hj
  refine ⟨_, e, ?_, rfl, by omega⟩
  unfold fP at h
  rw [decide_eq_true_eq, eN, e] at h
  exact (nI_ltI h2 (by omega)).mp h.2.1
def oX11_checkPerson : jO := joRI fun a x σ => (a = 0 ∧ fP σ x = true, fun v τ => v = none ∧ τ = σ)
set_option maxRecDepth 100000 in
set_option maxHeartbeats 4000000 in
theorem CX11_checkPerson (g : jG) (n : Nat) : jOk g (n + 1) mX11_checkPerson oX11_checkPerson := by
  refine joRI_ok ?_
  rintro _ x σ ⟨rfl, hP⟩
  refine jCon.ofP (by decide +kernel) (by simp [lg_sl, Value.category]) (fun post hp => ?_)
  refine jvk_ok TX11_checkPerson (V := [(304, 2, 2, oX2_isPerson)]) (S := []) (List.forall_mem_cons.mpr ⟨⟨mX2_isPerson, n + 0, 1, TX2, 16, rfl, by omega, kX11_304, WX2_isPerson, rfl, CX2_isPerson g (n)⟩, (fun _ h => absurd h List.not_mem_nil)⟩) (fun _ h => absurd h List.not_mem_nil) [] 30 _ _ _ _ ?_
  simp (maxSteps := 1000000) [↓Bool.cond_eq_ite, -Prod.forall, -Prod.exists, -Prod.mk.injEq, jvk, tX11_checkPerson, jtb, jol, jst, jlk, jcmp, jbin, jfl, fX11, jc2, lX11, jcat, jel, lv_args, Value.category, jins, jsrt, jins2, jble, jblt, jf3, List.filter_cons, List.filter_nil, G_x, G_flat, G_loader, G_roster, G_lroster, G_lflat, G_history, G_prop, G_choice, G_tchoice, G_settle, G_page, oX2_isPerson, joRI, -Int32.not_le, -Int32.not_lt, -Int64.not_le, -Int64.not_lt, i3lt, i6lt, hP]
  try simp (disch := omega) [-Prod.forall, -Prod.exists, -Prod.mk.injEq, -Int32.not_le, -Int32.not_lt, -Int64.not_le, -Int64.not_lt, i3lt, i6lt, hP]
  exact hp _ _ ⟨rfl, rfl⟩
def oX11_checkRoom : jO := joRI fun a x σ => (a = 0 ∧ fR σ x = true, fun v τ => v = none ∧ τ = σ)
set_option maxRecDepth 100000 in
set_option maxHeartbeats 4000000 in
theorem CX11_checkRoom (g : jG) (n : Nat) : jOk g (n + 1) mX11_checkRoom oX11_checkRoom := by
  refine joRI_ok ?_
  rintro _ x σ ⟨rfl, hR⟩
  refine jCon.ofP (by decide +kernel) (by simp [lg_sl, Value.category]) (fun post hp => ?_)
  refine jvk_ok TX11_checkRoom (V := [(317, 2, 2, oX2_isRoom)]) (S := []) (List.forall_mem_cons.mpr ⟨⟨mX2_isRoom, n + 0, 1, TX2, 16, rfl, by omega, kX11_317, WX2_isRoom, rfl, CX2_isRoom g (n)⟩, (fun _ h => absurd h List.not_mem_nil)⟩) (fun _ h => absurd h List.not_mem_nil) [] 30 _ _ _ _ ?_
  simp (maxSteps := 1000000) [↓Bool.cond_eq_ite, -Prod.forall, -Prod.exists, -Prod.mk.injEq, jvk, tX11_checkRoom, jtb, jol, jst, jlk, jcmp, jbin, jfl, fX11, jc2, lX11, jcat, jel, lv_args, Value.category, jins, jsrt, jins2, jble, jblt, jf3, List.filter_cons, List.filter_nil, G_x, G_flat, G_loader, G_roster, G_lroster, G_lflat, G_history, G_prop, G_choice, G_tchoice, G_settle, G_page, oX2_isRoom, joRI, -Int32.not_le, -Int32.not_lt, -Int64.not_le, -Int64.not_lt, i3lt, i6lt, hR]
  try simp (disch := omega) [-Prod.forall, -Prod.exists, -Prod.mk.injEq, -Int32.not_le, -Int32.not_lt, -Int64.not_le, -Int64.not_lt, i3lt, i6lt, hR]
  exact hp _ _ ⟨rfl, rfl⟩
def oX11_stateOf : jO := joRI fun a x σ => (a = 0 ∧ fP σ x = true, fun v τ => v = some (.int (σ.1 39 x.toNatClampNeg)) ∧ τ = σ)
set_option maxRecDepth 100000 in
set_option maxHeartbeats 4000000 in
theorem CX11_stateOf (g : jG) (n : Nat) : jOk g (n + 2) mX11_stateOf oX11_stateOf := by
  refine joRI_ok ?_
  rintro _ x σ ⟨rfl, hP⟩
  have jx := fP_jin hP
  refine jCon.ofP (by decide +kernel) (by simp [lg_sl, Value.category]) (fun post hp => ?_)
  refine jvk_ok TX11_stateOf (V := [(136, 2, 11, oX11_checkPerson)]) (S := []) (List.forall_mem_cons.mpr ⟨⟨mX11_checkPerson, n + 1, 1, TX11, 9, rfl, by omega, kX11_136, WX11_checkPerson, rfl, CX11_checkPerson g (n)⟩, (fun _ h => absurd h List.not_mem_nil)⟩) (fun _ h => absurd h List.not_mem_nil) [] 30 _ _ _ _ ?_
  simp (maxSteps := 1000000) [↓Bool.cond_eq_ite, -Prod.forall, -Prod.exists, -Prod.mk.injEq, jvk, tX11_stateOf, jtb, jol, jst, jlk, jcmp, jbin, jfl, fX11, jc2, lX11, jcat, jel, lv_args, Value.category, jins, jsrt, jins2, jble, jblt, jf3, List.filter_cons, List.filter_nil, G_x, G_flat, G_loader, G_roster, G_lroster, G_lflat, G_history, G_prop, G_choice, G_tchoice, G_settle, G_page, oX11_checkPerson, joRI, -Int32.not_le, -Int32.not_lt, -Int64.not_le, -Int64.not_lt, i3lt, i6lt, hP, jx]
  try simp (disch := omega) [-Prod.forall, -Prod.exists, -Prod.mk.injEq, -Int32.not_le, -Int32.not_lt, -Int64.not_le, -Int64.not_lt, i3lt, i6lt, hP, jx]
  exact hp _ _ ⟨rfl, rfl⟩
def oX11_incomeOf : jO := joRI fun a x σ => (a = 0 ∧ fP σ x = true, fun v τ => v = some (.int (σ.1 40 x.toNatClampNeg)) ∧ τ = σ)
set_option maxRecDepth 100000 in
set_option maxHeartbeats 4000000 in
theorem CX11_incomeOf (g : jG) (n : Nat) : jOk g (n + 2) mX11_incomeOf oX11_incomeOf := by
  refine joRI_ok ?_
  rintro _ x σ ⟨rfl, hP⟩
  have jx := fP_jin hP
  refine jCon.ofP (by decide +kernel) (by simp [lg_sl, Value.category]) (fun post hp => ?_)
  refine jvk_ok TX11_incomeOf (V := [(136, 2, 11, oX11_checkPerson)]) (S := []) (List.forall_mem_cons.mpr ⟨⟨mX11_checkPerson, n + 1, 1, TX11, 9, rfl, by omega, kX11_136, WX11_checkPerson, rfl, CX11_checkPerson g (n)⟩, (fun _ h => absurd h List.not_mem_nil)⟩) (fun _ h => absurd h List.not_mem_nil) [] 30 _ _ _ _ ?_
  simp (maxSteps := 1000000) [↓Bool.cond_eq_ite, -Prod.forall, -Prod.exists, -Prod.mk.injEq, jvk, tX11_incomeOf, jtb, jol, jst, jlk, jcmp, jbin, jfl, fX11, jc2, lX11, jcat, jel, lv_args, Value.category, jins, jsrt, jins2, jble, jblt, jf3, List.filter_cons, List.filter_nil, G_x, G_flat, G_loader, G_roster, G_lroster, G_lflat, G_history, G_prop, G_choice, G_tchoice, G_settle, G_page, oX11_checkPerson, joRI, -Int32.not_le, -Int32.not_lt, -Int64.not_le, -Int64.not_lt, i3lt, i6lt, hP, jx]
  try simp (disch := omega) [-Prod.forall, -Prod.exists, -Prod.mk.injEq, -Int32.not_le, -Int32.not_lt, -Int64.not_le, -Int64.not_lt, i3lt, i6lt, hP, jx]
  exact hp _ _ ⟨rfl, rfl⟩
def oX11_roomOf : jO := joRI fun a x σ => (a = 0 ∧ fP σ x = true, fun v τ => v = some (.int (σ.1 52 x.toNatClampNeg)) ∧ τ = σ)
set_option maxRecDepth 100000 in
set_option maxHeartbeats 4000000 in
theorem CX11_roomOf (g : jG) (n : Nat) : jOk g (n + 2) mX11_roomOf oX11_roomOf := by
  refine joRI_ok ?_
  rintro _ x σ ⟨rfl, hP⟩
  have jx := fP_jin hP
  refine jCon.ofP (by decide +kernel) (by simp [lg_sl, Value.category]) (fun post hp => ?_)
  refine jvk_ok TX11_roomOf (V := [(136, 2, 11, oX11_checkPerson)]) (S := []) (List.forall_mem_cons.mpr ⟨⟨mX11_checkPerson, n + 1, 1, TX11, 9, rfl, by omega, kX11_136, WX11_checkPerson, rfl, CX11_checkPerson g (n)⟩, (fun _ h => absurd h List.not_mem_nil)⟩) (fun _ h => absurd h List.not_mem_nil) [] 30 _ _ _ _ ?_
  simp (maxSteps := 1000000) [↓Bool.cond_eq_ite, -Prod.forall, -Prod.exists, -Prod.mk.injEq, jvk, tX11_roomOf, jtb, jol, jst, jlk, jcmp, jbin, jfl, fX11, jc2, lX11, jcat, jel, lv_args, Value.category, jins, jsrt, jins2, jble, jblt, jf3, List.filter_cons, List.filter_nil, G_x, G_flat, G_loader, G_roster, G_lroster, G_lflat, G_history, G_prop, G_choice, G_tchoice, G_settle, G_page, oX11_checkPerson, joRI, -Int32.not_le, -Int32.not_lt, -Int64.not_le, -Int64.not_lt, i3lt, i6lt, hP, jx]
  try simp (disch := omega) [-Prod.forall, -Prod.exists, -Prod.mk.injEq, -Int32.not_le, -Int32.not_lt, -Int64.not_le, -Int64.not_lt, i3lt, i6lt, hP, jx]
  exact hp _ _ ⟨rfl, rfl⟩
def oX11_payment : jO := joRI fun a x σ => (a = 0 ∧ fP σ x = true, fun v τ => v = some (.int (σ.1 53 x.toNatClampNeg)) ∧ τ = σ)
set_option maxRecDepth 100000 in
set_option maxHeartbeats 4000000 in
theorem CX11_payment (g : jG) (n : Nat) : jOk g (n + 2) mX11_payment oX11_payment := by
  refine joRI_ok ?_
  rintro _ x σ ⟨rfl, hP⟩
  have jx := fP_jin hP
  refine jCon.ofP (by decide +kernel) (by simp [lg_sl, Value.category]) (fun post hp => ?_)
  refine jvk_ok TX11_payment (V := [(136, 2, 11, oX11_checkPerson)]) (S := []) (List.forall_mem_cons.mpr ⟨⟨mX11_checkPerson, n + 1, 1, TX11, 9, rfl, by omega, kX11_136, WX11_checkPerson, rfl, CX11_checkPerson g (n)⟩, (fun _ h => absurd h List.not_mem_nil)⟩) (fun _ h => absurd h List.not_mem_nil) [] 30 _ _ _ _ ?_
  simp (maxSteps := 1000000) [↓Bool.cond_eq_ite, -Prod.forall, -Prod.exists, -Prod.mk.injEq, jvk, tX11_payment, jtb, jol, jst, jlk, jcmp, jbin, jfl, fX11, jc2, lX11, jcat, jel, lv_args, Value.category, jins, jsrt, jins2, jble, jblt, jf3, List.filter_cons, List.filter_nil, G_x, G_flat, G_loader, G_roster, G_lroster, G_lflat, G_history, G_prop, G_choice, G_tchoice, G_settle, G_page, oX11_checkPerson, joRI, -Int32.not_le, -Int32.not_lt, -Int64.not_le, -Int64.not_lt, i3lt, i6lt, hP, jx]
  try simp (disch := omega) [-Prod.forall, -Prod.exists, -Prod.mk.injEq, -Int32.not_le, -Int32.not_lt, -Int64.not_le, -Int64.not_lt, i3lt, i6lt, hP, jx]
  exact hp _ _ ⟨rfl, rfl⟩
def oX11_valueOf : jO := joRII fun a x y σ => (a = 0 ∧ fP σ x = true ∧ fR σ y = true, fun v τ => v = some (.int (fV σ x y)) ∧ τ = σ)
set_option maxRecDepth 100000 in
set_option maxHeartbeats 4000000 in
theorem CX11_valueOf (g : jG) (n : Nat) : jOk g (n + 3) mX11_valueOf oX11_valueOf := by
  refine joRII_ok ?_
  rintro _ x y σ ⟨rfl, hP, hR⟩
  refine jCon.ofP (by decide +kernel) (by simp [lg_sl, Value.category]) (fun post hp => ?_)
  refine jvk_ok TX11_valueOf (V := [(136, 2, 11, oX11_checkPerson), (145, 2, 11, oX11_checkRoom), (148, 3, 2, oX2_value)]) (S := []) (List.forall_mem_cons.mpr ⟨⟨mX11_checkPerson, n + 1, 1, TX11, 9, rfl, by omega, kX11_136, WX11_checkPerson, rfl, CX11_checkPerson g (n)⟩, (List.forall_mem_cons.mpr ⟨⟨mX11_checkRoom, n + 1, 1, TX11, 9, rfl, by omega, kX11_145, WX11_checkRoom, rfl, CX11_checkRoom g (n)⟩, (List.forall_mem_cons.mpr ⟨⟨mX2_value, n + 2, 2, TX2, 16, rfl, by omega, kX11_148, WX2_value, rfl, CX2_value g (n)⟩, (fun _ h => absurd h List.not_mem_nil)⟩)⟩)⟩) (fun _ h => absurd h List.not_mem_nil) [] 30 _ _ _ _ ?_
  simp (maxSteps := 1000000) [↓Bool.cond_eq_ite, -Prod.forall, -Prod.exists, -Prod.mk.injEq, jvk, tX11_valueOf, jtb, jol, jst, jlk, jcmp, jbin, jfl, fX11, jc2, lX11, jcat, jel, lv_args, Value.category, jins, jsrt, jins2, jble, jblt, jf3, List.filter_cons, List.filter_nil, G_x, G_flat, G_loader, G_roster, G_lroster, G_lflat, G_history, G_prop, G_choice, G_tchoice, G_settle, G_page, oX11_checkPerson, oX11_checkRoom, oX2_value, joRI, joRII, -Int32.not_le, -Int32.not_lt, -Int64.not_le, -Int64.not_lt, i3lt, i6lt, hP, hR]
  try simp (disch := omega) [-Prod.forall, -Prod.exists, -Prod.mk.injEq, -Int32.not_le, -Int32.not_lt, -Int64.not_le, -Int64.not_lt, i3lt, i6lt, hP, hR]
  exact hp _ _ ⟨rfl, rfl⟩
def oX11_refuses : jO := joRII fun a x y σ => (a = 0 ∧ fP σ x = true ∧ fR σ y = true, fun v τ => v = some (.int (if fW σ x y = -1 then 1 else 0)) ∧ τ = σ)
set_option maxRecDepth 100000 in
set_option maxHeartbeats 4000000 in
theorem CX11_refuses (g : jG) (n : Nat) : jOk g (n + 2) mX11_refuses oX11_refuses := by
  refine joRII_ok ?_
  rintro _ x y σ ⟨rfl, hP, hR⟩
  by_cases c : fW σ x y = -1
  · refine jCon.ofP (by decide +kernel) (by simp [lg_sl, Value.category]) (fun post hp => ?_)
    refine jvk_ok TX11_refuses (V := [(136, 2, 11, oX11_checkPerson), (145, 2, 11, oX11_checkRoom), (151, 3, 2, oX2_worth)]) (S := []) (List.forall_mem_cons.mpr ⟨⟨mX11_checkPerson, n + 1, 1, TX11, 9, rfl, by omega, kX11_136, WX11_checkPerson, rfl, CX11_checkPerson g (n)⟩, (List.forall_mem_cons.mpr ⟨⟨mX11_checkRoom, n + 1, 1, TX11, 9, rfl, by omega, kX11_145, WX11_checkRoom, rfl, CX11_checkRoom g (n)⟩, (List.forall_mem_cons.mpr ⟨⟨mX2_worth, n + 1, 2, TX2, 16, rfl, by omega, kX11_151, WX2_worth, rfl, CX2_worth g (n)⟩, (fun _ h => absurd h List.not_mem_nil)⟩)⟩)⟩) (fun _ h => absurd h List.not_mem_nil) [] 30 _ _ _ _ ?_
    simp (maxSteps := 1000000) [↓Bool.cond_eq_ite, -Prod.forall, -Prod.exists, -Prod.mk.injEq, jvk, tX11_refuses, jtb, jol, jst, jlk, jcmp, jbin, jfl, fX11, jc2, lX11, jcat, jel, lv_args, Value.category, jins, jsrt, jins2, jble, jblt, jf3, List.filter_cons, List.filter_nil, G_x, G_flat, G_loader, G_roster, G_lroster, G_lflat, G_history, G_prop, G_choice, G_tchoice, G_settle, G_page, oX11_checkPerson, oX11_checkRoom, oX2_worth, joRI, joRII, -Int32.not_le, -Int32.not_lt, -Int64.not_le, -Int64.not_lt, i3lt, i6lt, hP, hR, c]
    try simp (disch := omega) [-Prod.forall, -Prod.exists, -Prod.mk.injEq, -Int32.not_le, -Int32.not_lt, -Int64.not_le, -Int64.not_lt, i3lt, i6lt, hP, hR, c]
    exact hp _ _ ⟨by rw [if_pos c], rfl⟩
  · refine jCon.ofP (by decide +kernel) (by simp [lg_sl, Value.category]) (fun post hp => ?_)
    refine jvk_ok TX11_refuses (V := [(136, 2, 11, oX11_checkPerson), (145, 2, 11, oX11_checkRoom), (151, 3, 2, oX2_worth)]) (S := []) (List.forall_mem_cons.mpr ⟨⟨mX11_checkPerson, n + 1, 1, TX11, 9, rfl, by omega, kX11_136, WX11_checkPerson, rfl, CX11_checkPerson g (n)⟩, (List.forall_mem_cons.mpr ⟨⟨mX11_checkRoom, n + 1, 1, TX11, 9, rfl, by omega, kX11_145, WX11_checkRoom, rfl, CX11_checkRoom g (n)⟩, (List.forall_mem_cons.mpr ⟨⟨mX2_worth, n + 1, 2, TX2, 16, rfl, by omega, kX11_151, WX2_worth, rfl, CX2_worth g (n)⟩, (fun _ h => absurd h List.not_mem_nil)⟩)⟩)⟩) (fun _ h => absurd h List.not_mem_nil) [] 30 _ _ _ _ ?_
    simp (maxSteps := 1000000) [↓Bool.cond_eq_ite, -Prod.forall, -Prod.exists, -Prod.mk.injEq, jvk, tX11_refuses, jtb, jol, jst, jlk, jcmp, jbin, jfl, fX11, jc2, lX11, jcat, jel, lv_args, Value.category, jins, jsrt, jins2, jble, jblt, jf3, List.filter_cons, List.filter_nil, G_x, G_flat, G_loader, G_roster, G_lroster, G_lflat, G_history, G_prop, G_choice, G_tchoice, G_settle, G_page, oX11_checkPerson, oX11_checkRoom, oX2_worth, joRI, joRII, -Int32.not_le, -Int32.not_lt, -Int64.not_le, -Int64.not_lt, i3lt, i6lt, hP, hR, c]
    try simp (disch := omega) [-Prod.forall, -Prod.exists, -Prod.mk.injEq, -Int32.not_le, -Int32.not_lt, -Int64.not_le, -Int64.not_lt, i3lt, i6lt, hP, hR, c]
    exact hp _ _ ⟨by rw [if_neg c], rfl⟩
def oX11_envyOf : jO := joRII fun a x y σ => (a = 0 ∧ fP σ x = true ∧ fP σ y = true, fun v τ => v = some (.int (if fH σ x = true ∧ fH σ y = true then fE σ x y else -1)) ∧ τ = σ)
set_option maxRecDepth 100000 in
set_option maxHeartbeats 4000000 in
theorem CX11_envyOf (g : jG) (n : Nat) : jOk g (n + 4) mX11_envyOf oX11_envyOf := by
  refine joRII_ok ?_
  rintro _ x y σ ⟨rfl, hP, hP2⟩
  by_cases c1 : fH σ x = true
  · by_cases c2 : fH σ y = true
    · refine jCon.ofP (by decide +kernel) (by simp [lg_sl, Value.category]) (fun post hp => ?_)
      refine jvk_ok TX11_envyOf (V := [(136, 2, 11, oX11_checkPerson), (259, 2, 2, oX2_hasRoom), (262, 3, 2, oX2_envy)]) (S := []) (List.forall_mem_cons.mpr ⟨⟨mX11_checkPerson, n + 1, 1, TX11, 9, rfl, by omega, kX11_136, WX11_checkPerson, rfl, CX11_checkPerson g (n)⟩, (List.forall_mem_cons.mpr ⟨⟨mX2_hasRoom, n + 1, 1, TX2, 16, rfl, by omega, kX11_259, WX2_hasRoom, rfl, CX2_hasRoom g (n)⟩, (List.forall_mem_cons.mpr ⟨⟨mX2_envy, n + 3, 2, TX2, 16, rfl, by omega, kX11_262, WX2_envy, rfl, CX2_envy g (n)⟩, (fun _ h => absurd h List.not_mem_nil)⟩)⟩)⟩) (fun _ h => absurd h List.not_mem_nil) [] 40 _ _ _ _ ?_
      simp (maxSteps := 1000000) [↓Bool.cond_eq_ite, -Prod.forall, -Prod.exists, -Prod.mk.injEq, jvk, tX11_envyOf, jtb, jol, jst, jlk, jcmp, jbin, jfl, fX11, jc2, lX11, jcat, jel, lv_args, Value.category, jins, jsrt, jins2, jble, jblt, jf3, List.filter_cons, List.filter_nil, G_x, G_flat, G_loader, G_roster, G_lroster, G_lflat, G_history, G_prop, G_choice, G_tchoice, G_settle, G_page, oX11_checkPerson, oX2_hasRoom, oX2_envy, joRI, joRII, -Int32.not_le, -Int32.not_lt, -Int64.not_le, -Int64.not_lt, i3lt, i6lt, hP, hP2, c1, c2]
      try simp (disch := omega) [-Prod.forall, -Prod.exists, -Prod.mk.injEq, -Int32.not_le, -Int32.not_lt, -Int64.not_le, -Int64.not_lt, i3lt, i6lt, hP, hP2, c1, c2]
      exact hp _ _ ⟨by rw [if_pos ⟨c1, c2⟩], rfl⟩
    · refine jCon.ofP (by decide +kernel) (by simp [lg_sl, Value.category]) (fun post hp => ?_)
      refine jvk_ok TX11_envyOf (V := [(136, 2, 11, oX11_checkPerson), (259, 2, 2, oX2_hasRoom), (262, 3, 2, oX2_envy)]) (S := []) (List.forall_mem_cons.mpr ⟨⟨mX11_checkPerson, n + 1, 1, TX11, 9, rfl, by omega, kX11_136, WX11_checkPerson, rfl, CX11_checkPerson g (n)⟩, (List.forall_mem_cons.mpr ⟨⟨mX2_hasRoom, n + 1, 1, TX2, 16, rfl, by omega, kX11_259, WX2_hasRoom, rfl, CX2_hasRoom g (n)⟩, (List.forall_mem_cons.mpr ⟨⟨mX2_envy, n + 3, 2, TX2, 16, rfl, by omega, kX11_262, WX2_envy, rfl, CX2_envy g (n)⟩, (fun _ h => absurd h List.not_mem_nil)⟩)⟩)⟩) (fun _ h => absurd h List.not_mem_nil) [] 40 _ _ _ _ ?_
      simp (maxSteps := 1000000) [↓Bool.cond_eq_ite, -Prod.forall, -Prod.exists, -Prod.mk.injEq, jvk, tX11_envyOf, jtb, jol, jst, jlk, jcmp, jbin, jfl, fX11, jc2, lX11, jcat, jel, lv_args, Value.category, jins, jsrt, jins2, jble, jblt, jf3, List.filter_cons, List.filter_nil, G_x, G_flat, G_loader, G_roster, G_lroster, G_lflat, G_history, G_prop, G_choice, G_tchoice, G_settle, G_page, oX11_checkPerson, oX2_hasRoom, oX2_envy, joRI, joRII, -Int32.not_le, -Int32.not_lt, -Int64.not_le, -Int64.not_lt, i3lt, i6lt, hP, hP2, c1, c2]
      try simp (disch := omega) [-Prod.forall, -Prod.exists, -Prod.mk.injEq, -Int32.not_le, -Int32.not_lt, -Int64.not_le, -Int64.not_lt, i3lt, i6lt, hP, hP2, c1, c2]
      exact hp _ _ ⟨by rw [if_neg (fun z => c2 z.2)], rfl⟩
  · refine jCon.ofP (by decide +kernel) (by simp [lg_sl, Value.category]) (fun post hp => ?_)
    refine jvk_ok TX11_envyOf (V := [(136, 2, 11, oX11_checkPerson), (259, 2, 2, oX2_hasRoom), (262, 3, 2, oX2_envy)]) (S := []) (List.forall_mem_cons.mpr ⟨⟨mX11_checkPerson, n + 1, 1, TX11, 9, rfl, by omega, kX11_136, WX11_checkPerson, rfl, CX11_checkPerson g (n)⟩, (List.forall_mem_cons.mpr ⟨⟨mX2_hasRoom, n + 1, 1, TX2, 16, rfl, by omega, kX11_259, WX2_hasRoom, rfl, CX2_hasRoom g (n)⟩, (List.forall_mem_cons.mpr ⟨⟨mX2_envy, n + 3, 2, TX2, 16, rfl, by omega, kX11_262, WX2_envy, rfl, CX2_envy g (n)⟩, (fun _ h => absurd h List.not_mem_nil)⟩)⟩)⟩) (fun _ h => absurd h List.not_mem_nil) [] 40 _ _ _ _ ?_
    simp (maxSteps := 1000000) [↓Bool.cond_eq_ite, -Prod.forall, -Prod.exists, -Prod.mk.injEq, jvk, tX11_envyOf, jtb, jol, jst, jlk, jcmp, jbin, jfl, fX11, jc2, lX11, jcat, jel, lv_args, Value.category, jins, jsrt, jins2, jble, jblt, jf3, List.filter_cons, List.filter_nil, G_x, G_flat, G_loader, G_roster, G_lroster, G_lflat, G_history, G_prop, G_choice, G_tchoice, G_settle, G_page, oX11_checkPerson, oX2_hasRoom, oX2_envy, joRI, joRII, -Int32.not_le, -Int32.not_lt, -Int64.not_le, -Int64.not_lt, i3lt, i6lt, hP, hP2, c1]
    try simp (disch := omega) [-Prod.forall, -Prod.exists, -Prod.mk.injEq, -Int32.not_le, -Int32.not_lt, -Int64.not_le, -Int64.not_lt, i3lt, i6lt, hP, hP2, c1]
    exact hp _ _ ⟨by rw [if_neg (fun z => c1 z.1)], rfl⟩
def clPd (σ : jM) (p : Nat) (w : Int32) : Int32 := if w = 0 then σ.1 54 p else if w = 1 then σ.1 55 p else if w = 2 then σ.1 56 p else -2
def oX11_paid : jO := joRII fun a x w σ => (a = 0 ∧ fP σ x = true, fun v τ => v = some (.int (clPd σ x.toNatClampNeg w)) ∧ τ = σ)
set_option maxRecDepth 100000 in
set_option maxHeartbeats 4000000 in
theorem CX11_paid (g : jG) (n : Nat) : jOk g (n + 2) mX11_paid oX11_paid := by
  refine joRII_ok ?_
  rintro _ x w σ ⟨rfl, hP⟩
  have jx := fP_jin hP
  have hd : decode mX11_paid.2.1 6 = .ok (.tableswitch 56 0 2 #[26, 36, 46], 26) := by decide +kernel
  refine jCon.ofP (by decide +kernel) (by simp [lg_sl, Value.category]) (fun post hp => ?_)
  refine jvk_ok TX11_paid (V := [(136, 2, 11, oX11_checkPerson)]) (S := []) (List.forall_mem_cons.mpr ⟨⟨mX11_checkPerson, n + 1, 1, TX11, 9, rfl, by omega, kX11_136, WX11_checkPerson, rfl, CX11_checkPerson g (n)⟩, (fun _ h => absurd h List.not_mem_nil)⟩) (fun _ h => absurd h List.not_mem_nil) [6] 20 _ _ _ _ ?_
  simp (maxSteps := 1000000) [↓Bool.cond_eq_ite, -Prod.forall, -Prod.exists, -Prod.mk.injEq, jvk, tX11_paid, jtb, jol, jst, jlk, jcmp, jbin, jfl, fX11, jc2, lX11, jcat, jel, lv_args, Value.category, jins, jsrt, jins2, jble, jblt, jf3, List.filter_cons, List.filter_nil, G_x, G_flat, G_loader, G_roster, G_lroster, G_lflat, G_history, G_prop, G_choice, G_tchoice, G_settle, G_page, oX11_checkPerson, joRI, -Int32.not_le, -Int32.not_lt, -Int64.not_le, -Int64.not_lt, i3lt, i6lt, hP]
  try simp (disch := omega) [-Prod.forall, -Prod.exists, -Prod.mk.injEq, -Int32.not_le, -Int32.not_lt, -Int64.not_le, -Int64.not_lt, i3lt, i6lt, hP]
  have t0 : (0 : Int32).toInt = 0 := rfl
  have t1 : (1 : Int32).toInt = 1 := rfl
  have t2 : (2 : Int32).toInt = 2 := rfl
  by_cases w0 : w = 0
  · subst w0
    refine jr_tIn (tgt := 32) hd (by decide) (by decide) (off := 26) (by decide) (by decide) ?_
    refine jvk_ok TX11_paid (V := [(136, 2, 11, oX11_checkPerson)]) (S := []) (List.forall_mem_cons.mpr ⟨⟨mX11_checkPerson, n + 1, 1, TX11, 9, rfl, by omega, kX11_136, WX11_checkPerson, rfl, CX11_checkPerson g (n)⟩, (fun _ h => absurd h List.not_mem_nil)⟩) (fun _ h => absurd h List.not_mem_nil) [] 20 _ _ _ _ ?_
    simp (maxSteps := 1000000) [↓Bool.cond_eq_ite, -Prod.forall, -Prod.exists, -Prod.mk.injEq, jvk, tX11_paid, jtb, jol, jst, jlk, jcmp, jbin, jfl, fX11, jc2, lX11, jcat, jel, lv_args, Value.category, jins, jsrt, jins2, jble, jblt, jf3, List.filter_cons, List.filter_nil, G_x, G_flat, G_loader, G_roster, G_lroster, G_lflat, G_history, G_prop, G_choice, G_tchoice, G_settle, G_page, oX11_checkPerson, joRI, -Int32.not_le, -Int32.not_lt, -Int64.not_le, -Int64.not_lt, i3lt, i6lt, jx]
    try simp (disch := omega) [-Prod.forall, -Prod.exists, -Prod.mk.injEq, -Int32.not_le, -Int32.not_lt, -Int64.not_le, -Int64.not_lt, i3lt, i6lt, jx]
    exact hp _ _ ⟨rfl, rfl⟩
  · by_cases w1 : w = 1
    · subst w1
      refine jr_tIn (tgt := 42) hd (by decide) (by decide) (off := 36) (by decide) (by decide) ?_
      refine jvk_ok TX11_paid (V := [(136, 2, 11, oX11_checkPerson)]) (S := []) (List.forall_mem_cons.mpr ⟨⟨mX11_checkPerson, n + 1, 1, TX11, 9, rfl, by omega, kX11_136, WX11_checkPerson, rfl, CX11_checkPerson g (n)⟩, (fun _ h => absurd h List.not_mem_nil)⟩) (fun _ h => absurd h List.not_mem_nil) [] 20 _ _ _ _ ?_
      simp (maxSteps := 1000000) [↓Bool.cond_eq_ite, -Prod.forall, -Prod.exists, -Prod.mk.injEq, jvk, tX11_paid, jtb, jol, jst, jlk, jcmp, jbin, jfl, fX11, jc2, lX11, jcat, jel, lv_args, Value.category, jins, jsrt, jins2, jble, jblt, jf3, List.filter_cons, List.filter_nil, G_x, G_flat, G_loader, G_roster, G_lroster, G_lflat, G_history, G_prop, G_choice, G_tchoice, G_settle, G_page, oX11_checkPerson, joRI, -Int32.not_le, -Int32.not_lt, -Int64.not_le, -Int64.not_lt, i3lt, i6lt, jx]
      try simp (disch := omega) [-Prod.forall, -Prod.exists, -Prod.mk.injEq, -Int32.not_le, -Int32.not_lt, -Int64.not_le, -Int64.not_lt, i3lt, i6lt, jx]
      exact hp _ _ ⟨rfl, rfl⟩
    · by_cases w2 : w = 2
      · subst w2
        refine jr_tIn (tgt := 52) hd (by decide) (by decide) (off := 46) (by decide) (by decide) ?_
        refine jvk_ok TX11_paid (V := [(136, 2, 11, oX11_checkPerson)]) (S := []) (List.forall_mem_cons.mpr ⟨⟨mX11_checkPerson, n + 1, 1, TX11, 9, rfl, by omega, kX11_136, WX11_checkPerson, rfl, CX11_checkPerson g (n)⟩, (fun _ h => absurd h List.not_mem_nil)⟩) (fun _ h => absurd h List.not_mem_nil) [] 20 _ _ _ _ ?_
        simp (maxSteps := 1000000) [↓Bool.cond_eq_ite, -Prod.forall, -Prod.exists, -Prod.mk.injEq, jvk, tX11_paid, jtb, jol, jst, jlk, jcmp, jbin, jfl, fX11, jc2, lX11, jcat, jel, lv_args, Value.category, jins, jsrt, jins2, jble, jblt, jf3, List.filter_cons, List.filter_nil, G_x, G_flat, G_loader, G_roster, G_lroster, G_lflat, G_history, G_prop, G_choice, G_tchoice, G_settle, G_page, oX11_checkPerson, joRI, -Int32.not_le, -Int32.not_lt, -Int64.not_le, -Int64.not_lt, i3lt, i6lt, jx]
        try simp (disch := omega) [-Prod.forall, -Prod.exists, -Prod.mk.injEq, -Int32.not_le, -Int32.not_lt, -Int64.not_le, -Int64.not_lt, i3lt, i6lt, jx]
        exact hp _ _ ⟨rfl, rfl⟩
      · have q0 := lv_neT w0 t0
        have q1 := lv_neT w1 t1
        have q2 := lv_neT w2 t2
        refine jr_tOut (tgt := 62) hd (by omega) (by decide) ?_
        refine jvk_ok TX11_paid (V := [(136, 2, 11, oX11_checkPerson)]) (S := []) (List.forall_mem_cons.mpr ⟨⟨mX11_checkPerson, n + 1, 1, TX11, 9, rfl, by omega, kX11_136, WX11_checkPerson, rfl, CX11_checkPerson g (n)⟩, (fun _ h => absurd h List.not_mem_nil)⟩) (fun _ h => absurd h List.not_mem_nil) [] 20 _ _ _ _ ?_
        simp (maxSteps := 1000000) [↓Bool.cond_eq_ite, -Prod.forall, -Prod.exists, -Prod.mk.injEq, jvk, tX11_paid, jtb, jol, jst, jlk, jcmp, jbin, jfl, fX11, jc2, lX11, jcat, jel, lv_args, Value.category, jins, jsrt, jins2, jble, jblt, jf3, List.filter_cons, List.filter_nil, G_x, G_flat, G_loader, G_roster, G_lroster, G_lflat, G_history, G_prop, G_choice, G_tchoice, G_settle, G_page, oX11_checkPerson, joRI, -Int32.not_le, -Int32.not_lt, -Int64.not_le, -Int64.not_lt, i3lt, i6lt]
        try simp (disch := omega) [-Prod.forall, -Prod.exists, -Prod.mk.injEq, -Int32.not_le, -Int32.not_lt, -Int64.not_le, -Int64.not_lt, i3lt, i6lt]
        exact hp _ _ ⟨by unfold clPd; rw [if_neg w0, if_neg w1, if_neg w2], rfl⟩
def oX11_target : jO := joRI fun a x σ => (a = 0 ∧ fOK σ ∧ flM σ ≤ 6 ∧ dpO σ ∧ fP σ x = true, fun v τ => v = some (.int (ctS σ x.toNatClampNeg)) ∧ jfr aAi bAi σ τ)
set_option maxRecDepth 100000 in
set_option maxHeartbeats 4000000 in
theorem CX11_target (g : jG) (n : Nat) : jOk g (n + 3) mX11_target oX11_target := by
  refine joRI_ok ?_
  rintro _ x σ ⟨rfl, hok, hm6, hdp, hP⟩
  have jx := fP_jin hP
  refine jCon.ofP (by decide +kernel) (by simp [lg_sl, Value.category]) (fun post hp => ?_)
  refine jvk_ok TX11_target (V := [(136, 2, 11, oX11_checkPerson), (291, 2, 8, oX8_aim)]) (S := []) (List.forall_mem_cons.mpr ⟨⟨mX11_checkPerson, n + 1, 1, TX11, 9, rfl, by omega, kX11_136, WX11_checkPerson, rfl, CX11_checkPerson g (n)⟩, (List.forall_mem_cons.mpr ⟨⟨mX8_aim, n + 2, 1, TX8, 8, rfl, by omega, kX11_291, WX8_aim, rfl, CX8_aim g (n)⟩, (fun _ h => absurd h List.not_mem_nil)⟩)⟩) (fun _ h => absurd h List.not_mem_nil) [16] 30 _ _ _ _ ?_
  simp (maxSteps := 1000000) [↓Bool.cond_eq_ite, -Prod.forall, -Prod.exists, -Prod.mk.injEq, jvk, tX11_target, jtb, jol, jst, jlk, jcmp, jbin, jfl, fX11, jc2, lX11, jcat, jel, lv_args, Value.category, jins, jsrt, jins2, jble, jblt, jf3, List.filter_cons, List.filter_nil, G_x, G_flat, G_loader, G_roster, G_lroster, G_lflat, G_history, G_prop, G_choice, G_tchoice, G_settle, G_page, oX11_checkPerson, oX8_aim, joRI, joRR, -Int32.not_le, -Int32.not_lt, -Int64.not_le, -Int64.not_lt, i3lt, i6lt, hok, hm6, hdp, hP]
  try simp (disch := omega) [-Prod.forall, -Prod.exists, -Prod.mk.injEq, -Int32.not_le, -Int32.not_lt, -Int64.not_le, -Int64.not_lt, i3lt, i6lt, hok, hm6, hdp, hP]
  intro v1 τ1 hv1 f1 h1
  subst hv1
  have e1 := h1 x.toNatClampNeg (jin_lt jx)
  refine jvk_ok TX11_target (V := [(136, 2, 11, oX11_checkPerson), (291, 2, 8, oX8_aim)]) (S := []) (List.forall_mem_cons.mpr ⟨⟨mX11_checkPerson, n + 1, 1, TX11, 9, rfl, by omega, kX11_136, WX11_checkPerson, rfl, CX11_checkPerson g (n)⟩, (List.forall_mem_cons.mpr ⟨⟨mX8_aim, n + 2, 1, TX8, 8, rfl, by omega, kX11_291, WX8_aim, rfl, CX8_aim g (n)⟩, (fun _ h => absurd h List.not_mem_nil)⟩)⟩) (fun _ h => absurd h List.not_mem_nil) [] 30 _ _ _ _ ?_
  simp (maxSteps := 1000000) [↓Bool.cond_eq_ite, -Prod.forall, -Prod.exists, -Prod.mk.injEq, jvk, tX11_target, jtb, jol, jst, jlk, jcmp, jbin, jfl, fX11, jc2, lX11, jcat, jel, lv_args, Value.category, jins, jsrt, jins2, jble, jblt, jf3, List.filter_cons, List.filter_nil, G_x, G_flat, G_loader, G_roster, G_lroster, G_lflat, G_history, G_prop, G_choice, G_tchoice, G_settle, G_page, oX11_checkPerson, oX8_aim, joRI, joRR, -Int32.not_le, -Int32.not_lt, -Int64.not_le, -Int64.not_lt, i3lt, i6lt, jx, e1]
  try simp (disch := omega) [-Prod.forall, -Prod.exists, -Prod.mk.injEq, -Int32.not_le, -Int32.not_lt, -Int64.not_le, -Int64.not_lt, i3lt, i6lt, jx, e1]
  exact hp _ _ ⟨rfl, f1⟩
def oX11_transferCount : jO := joR fun a σ => (a = 0 ∧ fOK σ ∧ flM σ ≤ 6 ∧ dpO σ ∧ stO σ, fun v τ => v = some (.int (nI (ctr σ).length)) ∧ jfr aMs bAi σ τ)
set_option maxRecDepth 100000 in
set_option maxHeartbeats 4000000 in
theorem CX11_transferCount (g : jG) (n : Nat) : jOk g (n + 4) mX11_transferCount oX11_transferCount := by
  refine joR_ok ?_
  rintro _ σ ⟨rfl, hok, hm6, hdp, hst⟩
  refine jCon.ofP (by decide +kernel) (by simp [lg_sl, Value.category]) (fun post hp => ?_)
  refine jvk_ok TX11_transferCount (V := [(297, 2, 8, oX8_make)]) (S := []) (List.forall_mem_cons.mpr ⟨⟨mX8_make, n + 3, 1, TX8, 8, rfl, by omega, kX11_297, WX8_make, rfl, CX8_make g (n)⟩, (fun _ h => absurd h List.not_mem_nil)⟩) (fun _ h => absurd h List.not_mem_nil) [11] 30 _ _ _ _ ?_
  simp (maxSteps := 1000000) [↓Bool.cond_eq_ite, -Prod.forall, -Prod.exists, -Prod.mk.injEq, jvk, tX11_transferCount, jtb, jol, jst, jlk, jcmp, jbin, jfl, fX11, jc2, lX11, jcat, jel, lv_args, Value.category, jins, jsrt, jins2, jble, jblt, jf3, List.filter_cons, List.filter_nil, G_x, G_flat, G_loader, G_roster, G_lroster, G_lflat, G_history, G_prop, G_choice, G_tchoice, G_settle, G_page, oX8_make, joRR, -Int32.not_le, -Int32.not_lt, -Int64.not_le, -Int64.not_lt, i3lt, i6lt, hok, hm6, hdp, hst]
  try simp (disch := omega) [-Prod.forall, -Prod.exists, -Prod.mk.injEq, -Int32.not_le, -Int32.not_lt, -Int64.not_le, -Int64.not_lt, i3lt, i6lt, hok, hm6, hdp, hst]
  intro v1 τ1 hv1 f1 h1 ht
  subst hv1
  have e1 : τ1.1 300 6 = nI (ctr σ).length := by
    have := ht.1
    rw [Nat.zero_add] at this
    exact this
  refine jvk_ok TX11_transferCount (V := [(297, 2, 8, oX8_make)]) (S := []) (List.forall_mem_cons.mpr ⟨⟨mX8_make, n + 3, 1, TX8, 8, rfl, by omega, kX11_297, WX8_make, rfl, CX8_make g (n)⟩, (fun _ h => absurd h List.not_mem_nil)⟩) (fun _ h => absurd h List.not_mem_nil) [] 30 _ _ _ _ ?_
  simp (maxSteps := 1000000) [↓Bool.cond_eq_ite, -Prod.forall, -Prod.exists, -Prod.mk.injEq, jvk, tX11_transferCount, jtb, jol, jst, jlk, jcmp, jbin, jfl, fX11, jc2, lX11, jcat, jel, lv_args, Value.category, jins, jsrt, jins2, jble, jblt, jf3, List.filter_cons, List.filter_nil, G_x, G_flat, G_loader, G_roster, G_lroster, G_lflat, G_history, G_prop, G_choice, G_tchoice, G_settle, G_page, oX8_make, joRR, -Int32.not_le, -Int32.not_lt, -Int64.not_le, -Int64.not_lt, i3lt, i6lt, e1]
  try simp (disch := omega) [-Prod.forall, -Prod.exists, -Prod.mk.injEq, -Int32.not_le, -Int32.not_lt, -Int64.not_le, -Int64.not_lt, i3lt, i6lt, e1]
  exact hp _ _ ⟨rfl, f1⟩
theorem ctr_len {σ : jM} (h6 : flM σ ≤ 6) (hd : dpO σ) (hs : stO σ) : (ctr σ).length ≤ 11 := by
  have h1 := trL_len 11 (cdI σ) (cdI_ok h6 hd hs)
  have h2 : nz (cdI σ) ≤ 11 := cn_le _ _
  unfold ctr
  omega
def oX11_transfer : jO := joRII fun a x w σ => (a = 0 ∧ fOK σ ∧ flM σ ≤ 6 ∧ dpO σ ∧ stO σ ∧ ∃ i, x = nI i ∧ i < (ctr σ).length, fun v τ => v = some (.int (trN (ctr σ) x w)) ∧ jfr aMs bAi σ τ)
set_option maxRecDepth 100000 in
set_option maxHeartbeats 4000000 in
theorem CX11_transfer (g : jG) (n : Nat) : jOk g (n + 4) mX11_transfer oX11_transfer := by
  refine joRII_ok ?_
  rintro _ _ w σ ⟨rfl, hok, hm6, hdp, hst, i, rfl, hi⟩
  have hlen := ctr_len hm6 hdp hst
  refine jCon.ofP (by decide +kernel) (by simp [lg_sl, Value.category]) (fun post hp => ?_)
  refine jvk_ok TX11_transfer (V := [(297, 2, 8, oX8_make), (301, 3, 8, oX8_number)]) (S := []) (List.forall_mem_cons.mpr ⟨⟨mX8_make, n + 3, 1, TX8, 8, rfl, by omega, kX11_297, WX8_make, rfl, CX8_make g (n)⟩, (List.forall_mem_cons.mpr ⟨⟨mX8_number, n + 0, 2, TX8, 8, rfl, by omega, kX11_301, WX8_number, rfl, CX8_number g (n)⟩, (fun _ h => absurd h List.not_mem_nil)⟩)⟩) (fun _ h => absurd h List.not_mem_nil) [11] 30 _ _ _ _ ?_
  simp (maxSteps := 1000000) [↓Bool.cond_eq_ite, -Prod.forall, -Prod.exists, -Prod.mk.injEq, jvk, tX11_transfer, jtb, jol, jst, jlk, jcmp, jbin, jfl, fX11, jc2, lX11, jcat, jel, lv_args, Value.category, jins, jsrt, jins2, jble, jblt, jf3, List.filter_cons, List.filter_nil, G_x, G_flat, G_loader, G_roster, G_lroster, G_lflat, G_history, G_prop, G_choice, G_tchoice, G_settle, G_page, oX8_make, oX8_number, joRII, joRR, -Int32.not_le, -Int32.not_lt, -Int64.not_le, -Int64.not_lt, i3lt, i6lt, hok, hm6, hdp, hst]
  try simp (disch := omega) [-Prod.forall, -Prod.exists, -Prod.mk.injEq, -Int32.not_le, -Int32.not_lt, -Int64.not_le, -Int64.not_lt, i3lt, i6lt, hok, hm6, hdp, hst]
  intro v1 τ1 hv1 f1 h1 ht
  subst hv1
  have e1 : τ1.1 300 6 = nI (ctr σ).length := by
    have := ht.1
    rw [Nat.zero_add] at this
    exact this
  obtain ⟨o1, o2, o3⟩ := ht.2 i hi
  rw [Nat.zero_add] at o1 o2 o3
  have c0 : ¬ nI i < 0 := nI_pos (by omega)
  have c1 : ¬ nI (ctr σ).length ≤ nI i := nI_ge hi (by omega)
  have ji : jin (nI i) 11 := jin_nI (by omega) (by decide)
  have eci : (nI i).toNatClampNeg = i := nI_clamp (by omega)
  refine jvk_ok TX11_transfer (V := [(297, 2, 8, oX8_make), (301, 3, 8, oX8_number)]) (S := []) (List.forall_mem_cons.mpr ⟨⟨mX8_make, n + 3, 1, TX8, 8, rfl, by omega, kX11_297, WX8_make, rfl, CX8_make g (n)⟩, (List.forall_mem_cons.mpr ⟨⟨mX8_number, n + 0, 2, TX8, 8, rfl, by omega, kX11_301, WX8_number, rfl, CX8_number g (n)⟩, (fun _ h => absurd h List.not_mem_nil)⟩)⟩) (fun _ h => absurd h List.not_mem_nil) [46] 30 _ _ _ _ ?_
  simp (maxSteps := 1000000) [↓Bool.cond_eq_ite, -Prod.forall, -Prod.exists, -Prod.mk.injEq, jvk, tX11_transfer, jtb, jol, jst, jlk, jcmp, jbin, jfl, fX11, jc2, lX11, jcat, jel, lv_args, Value.category, jins, jsrt, jins2, jble, jblt, jf3, List.filter_cons, List.filter_nil, G_x, G_flat, G_loader, G_roster, G_lroster, G_lflat, G_history, G_prop, G_choice, G_tchoice, G_settle, G_page, oX8_make, oX8_number, joRII, joRR, -Int32.not_le, -Int32.not_lt, -Int64.not_le, -Int64.not_lt, i3lt, i6lt, e1, c0, c1, ji, eci]
  try simp (disch := omega) [-Prod.forall, -Prod.exists, -Prod.mk.injEq, -Int32.not_le, -Int32.not_lt, -Int64.not_le, -Int64.not_lt, i3lt, i6lt, e1, c0, c1, ji, eci]
  have k1 : ∀ y, y = trN (ctr σ) (nI i) w → post (some (.int y)) τ1 := fun y hy => hp _ _ ⟨by rw [hy], f1⟩
  have ev : (if 0 ≤ w ∧ w ≤ 2 then τ1.1 (307 + i) w.toNatClampNeg else -2) = trN (ctr σ) (nI i) w := by
    unfold trN
    rw [eci]
    by_cases w0 : w = 0
    · rw [if_pos w0, w0, if_pos (by decide)]; exact o1
    · by_cases w1 : w = 1
      · rw [if_neg w0, if_pos w1, w1, if_pos (by decide)]; exact o2
      · by_cases w2 : w = 2
        · rw [if_neg w0, if_neg w1, if_pos w2, w2, if_pos (by decide)]; exact o3
        · rw [if_neg w0, if_neg w1, if_neg w2]
          rw [if_neg (fun z => by
            obtain ⟨q, q1, q2, -⟩ := nI_rng (x := w) z.1 z.2 (by decide)
            have hq : q = 0 ∨ q = 1 ∨ q = 2 := by omega
            rcases hq with e | e | e
            · exact w0 (by rw [q2, e]; rfl)
            · exact w1 (by rw [q2, e]; rfl)
            · exact w2 (by rw [q2, e]; rfl))]
  rw [ev]
  refine jvk_ok TX11_transfer (V := [(297, 2, 8, oX8_make), (301, 3, 8, oX8_number)]) (S := []) (List.forall_mem_cons.mpr ⟨⟨mX8_make, n + 3, 1, TX8, 8, rfl, by omega, kX11_297, WX8_make, rfl, CX8_make g (n)⟩, (List.forall_mem_cons.mpr ⟨⟨mX8_number, n + 0, 2, TX8, 8, rfl, by omega, kX11_301, WX8_number, rfl, CX8_number g (n)⟩, (fun _ h => absurd h List.not_mem_nil)⟩)⟩) (fun _ h => absurd h List.not_mem_nil) [] 20 _ _ _ _ ?_
  simp (maxSteps := 1000000) [↓Bool.cond_eq_ite, -Prod.forall, -Prod.exists, -Prod.mk.injEq, jvk, tX11_transfer, jtb, jol, jst, jlk, jcmp, jbin, jfl, fX11, jc2, lX11, jcat, jel, lv_args, Value.category, jins, jsrt, jins2, jble, jblt, jf3, List.filter_cons, List.filter_nil, G_x, G_flat, G_loader, G_roster, G_lroster, G_lflat, G_history, G_prop, G_choice, G_tchoice, G_settle, G_page, oX8_make, oX8_number, joRII, joRR, -Int32.not_le, -Int32.not_lt, -Int64.not_le, -Int64.not_lt, i3lt, i6lt]
  try simp (disch := omega) [-Prod.forall, -Prod.exists, -Prod.mk.injEq, -Int32.not_le, -Int32.not_lt, -Int64.not_le, -Int64.not_lt, i3lt, i6lt]
  exact k1 _ rfl
