/-! RentDivision: what is read off at once -/
def oX11_mostOfSetting : jO := joI fun x σ => (True, fun v τ => v = some (.int (mMost x)) ∧ τ = σ)
set_option maxRecDepth 100000 in
set_option maxHeartbeats 4000000 in
theorem CX11_mostOfSetting (g : jG) (n : Nat) : jOk g (n + 0) mX11_mostOfSetting oX11_mostOfSetting := by
  refine joI_ok ?_
  rintro x σ -
  have hd : decode mX11_mostOfSetting.2.1 1 = .ok (.lookupswitch 32 #[(0, 27), (1, 29)], 27) := by decide +kernel
  refine jCon.ofP (by decide +kernel) (by simp [lg_sl, Value.category]) (fun post hp => ?_)
  refine jvk_ok TX11_mostOfSetting (V := []) (S := []) (fun _ h => absurd h List.not_mem_nil) (fun _ h => absurd h List.not_mem_nil) [1] 20 _ _ _ _ ?_
  simp (maxSteps := 1000000) [↓Bool.cond_eq_ite, -Prod.forall, -Prod.exists, -Prod.mk.injEq, jvk, tX11_mostOfSetting, jtb, jol, jst, jlk, jcmp, jbin, jfl, fX11, jc2, lX11, jcat, jel, lv_args, Value.category, jins, jsrt, jins2, jble, jblt, jf3, List.filter_cons, List.filter_nil, G_x, G_flat, G_loader, G_roster, G_lroster, G_lflat, G_history, G_prop, G_choice, G_tchoice, G_settle, G_page, -Int32.not_le, -Int32.not_lt, -Int64.not_le, -Int64.not_lt, i3lt, i6lt]
  try simp (disch := omega) [-Prod.forall, -Prod.exists, -Prod.mk.injEq, -Int32.not_le, -Int32.not_lt, -Int64.not_le, -Int64.not_lt, i3lt, i6lt]
  by_cases c0 : x = 0
  · subst c0
    refine jr_look (off := 27) (tgt := 28) hd (by decide) (by decide) (by decide) ?_
    refine jvk_ok TX11_mostOfSetting (V := []) (S := []) (fun _ h => absurd h List.not_mem_nil) (fun _ h => absurd h List.not_mem_nil) [] 20 _ _ _ _ ?_
    simp (maxSteps := 1000000) [↓Bool.cond_eq_ite, -Prod.forall, -Prod.exists, -Prod.mk.injEq, jvk, tX11_mostOfSetting, jtb, jol, jst, jlk, jcmp, jbin, jfl, fX11, jc2, lX11, jcat, jel, lv_args, Value.category, jins, jsrt, jins2, jble, jblt, jf3, List.filter_cons, List.filter_nil, G_x, G_flat, G_loader, G_roster, G_lroster, G_lflat, G_history, G_prop, G_choice, G_tchoice, G_settle, G_page, -Int32.not_le, -Int32.not_lt, -Int64.not_le, -Int64.not_lt, i3lt, i6lt]
    try simp (disch := omega) [-Prod.forall, -Prod.exists, -Prod.mk.injEq, -Int32.not_le, -Int32.not_lt, -Int64.not_le, -Int64.not_lt, i3lt, i6lt]
    exact hp _ _ ⟨rfl, rfl⟩
  · by_cases c1 : x = 1
    · subst c1
      refine jr_look (off := 29) (tgt := 30) hd (by decide) (by decide) (by decide) ?_
      refine jvk_ok TX11_mostOfSetting (V := []) (S := []) (fun _ h => absurd h List.not_mem_nil) (fun _ h => absurd h List.not_mem_nil) [] 20 _ _ _ _ ?_
      simp (maxSteps := 1000000) [↓Bool.cond_eq_ite, -Prod.forall, -Prod.exists, -Prod.mk.injEq, jvk, tX11_mostOfSetting, jtb, jol, jst, jlk, jcmp, jbin, jfl, fX11, jc2, lX11, jcat, jel, lv_args, Value.category, jins, jsrt, jins2, jble, jblt, jf3, List.filter_cons, List.filter_nil, G_x, G_flat, G_loader, G_roster, G_lroster, G_lflat, G_history, G_prop, G_choice, G_tchoice, G_settle, G_page, -Int32.not_le, -Int32.not_lt, -Int64.not_le, -Int64.not_lt, i3lt, i6lt]
      try simp (disch := omega) [-Prod.forall, -Prod.exists, -Prod.mk.injEq, -Int32.not_le, -Int32.not_lt, -Int64.not_le, -Int64.not_lt, i3lt, i6lt]
      exact hp _ _ ⟨rfl, rfl⟩
    · have t0 : ¬ x.toInt = 0 := fun z => c0 (by rw [← Int32.ofInt_toInt x, z]; rfl)
      have t1 : ¬ x.toInt = 1 := fun z => c1 (by rw [← Int32.ofInt_toInt x, z]; rfl)
      have t0' : ¬ (0 : Int) = x.toInt := fun z => t0 z.symm
      have t1' : ¬ (1 : Int) = x.toInt := fun z => t1 z.symm
      refine jr_look (off := 32) (tgt := 33) hd (by decide) (by simp [Op.lookupswitch.offset, t0, t1, t0', t1']) (by decide) ?_
      refine jvk_ok TX11_mostOfSetting (V := []) (S := []) (fun _ h => absurd h List.not_mem_nil) (fun _ h => absurd h List.not_mem_nil) [] 20 _ _ _ _ ?_
      simp (maxSteps := 1000000) [↓Bool.cond_eq_ite, -Prod.forall, -Prod.exists, -Prod.mk.injEq, jvk, tX11_mostOfSetting, jtb, jol, jst, jlk, jcmp, jbin, jfl, fX11, jc2, lX11, jcat, jel, lv_args, Value.category, jins, jsrt, jins2, jble, jblt, jf3, List.filter_cons, List.filter_nil, G_x, G_flat, G_loader, G_roster, G_lroster, G_lflat, G_history, G_prop, G_choice, G_tchoice, G_settle, G_page, -Int32.not_le, -Int32.not_lt, -Int64.not_le, -Int64.not_lt, i3lt, i6lt]
      try simp (disch := omega) [-Prod.forall, -Prod.exists, -Prod.mk.injEq, -Int32.not_le, -Int32.not_lt, -Int64.not_le, -Int64.not_lt, i3lt, i6lt]
      exact hp _ _ ⟨by unfold mMost; rw [if_neg c0, if_neg c1], rfl⟩
def oX11_isSetting : jO := joI fun x σ => (True, fun v τ => v = some (.int (if mIn x 0 2 = true then 1 else 0)) ∧ τ = σ)
theorem mIn_3 (x : Int32) : mIn x 0 2 = true ↔ 0 ≤ x ∧ ¬ 3 ≤ x := by
  unfold mIn
  rw [decide_eq_true_eq]
  constructor
  · intro h
    exact ⟨h.1, by have := h.2; grind⟩
  · intro h
    exact ⟨h.1, by have := h.2; grind⟩
set_option maxRecDepth 100000 in
set_option maxHeartbeats 4000000 in
theorem CX11_isSetting (g : jG) (n : Nat) : jOk g (n + 0) mX11_isSetting oX11_isSetting := by
  refine joI_ok ?_
  rintro x σ -
  by_cases c0 : 0 ≤ x
  · have c0' : ¬ x < 0 := by grind
    by_cases c1 : 3 ≤ x
    · refine jCon.ofP (by decide +kernel) (by simp [lg_sl, Value.category]) (fun post hp => ?_)
      refine jvk_ok TX11_isSetting (V := []) (S := []) (fun _ h => absurd h List.not_mem_nil) (fun _ h => absurd h List.not_mem_nil) [] 20 _ _ _ _ ?_
      simp (maxSteps := 1000000) [↓Bool.cond_eq_ite, -Prod.forall, -Prod.exists, -Prod.mk.injEq, jvk, tX11_isSetting, jtb, jol, jst, jlk, jcmp, jbin, jfl, fX11, jc2, lX11, jcat, jel, lv_args, Value.category, jins, jsrt, jins2, jble, jblt, jf3, List.filter_cons, List.filter_nil, G_x, G_flat, G_loader, G_roster, G_lroster, G_lflat, G_history, G_prop, G_choice, G_tchoice, G_settle, G_page, -Int32.not_le, -Int32.not_lt, -Int64.not_le, -Int64.not_lt, i3lt, i6lt, c0, c0', c1]
      try simp (disch := omega) [-Prod.forall, -Prod.exists, -Prod.mk.injEq, -Int32.not_le, -Int32.not_lt, -Int64.not_le, -Int64.not_lt, i3lt, i6lt, c0, c0', c1]
      exact hp _ _ ⟨by rw [if_neg (fun z => ((mIn_3 x).mp z).2 c1)], rfl⟩
    · refine jCon.ofP (by decide +kernel) (by simp [lg_sl, Value.category]) (fun post hp => ?_)
      refine jvk_ok TX11_isSetting (V := []) (S := []) (fun _ h => absurd h List.not_mem_nil) (fun _ h => absurd h List.not_mem_nil) [] 20 _ _ _ _ ?_
      simp (maxSteps := 1000000) [↓Bool.cond_eq_ite, -Prod.forall, -Prod.exists, -Prod.mk.injEq, jvk, tX11_isSetting, jtb, jol, jst, jlk, jcmp, jbin, jfl, fX11, jc2, lX11, jcat, jel, lv_args, Value.category, jins, jsrt, jins2, jble, jblt, jf3, List.filter_cons, List.filter_nil, G_x, G_flat, G_loader, G_roster, G_lroster, G_lflat, G_history, G_prop, G_choice, G_tchoice, G_settle, G_page, -Int32.not_le, -Int32.not_lt, -Int64.not_le, -Int64.not_lt, i3lt, i6lt, c0, c0', c1]
      try simp (disch := omega) [-Prod.forall, -Prod.exists, -Prod.mk.injEq, -Int32.not_le, -Int32.not_lt, -Int64.not_le, -Int64.not_lt, i3lt, i6lt, c0, c0', c1]
      exact hp _ _ ⟨by rw [if_pos ((mIn_3 x).mpr ⟨c0, c1⟩)], rfl⟩
  · have c0' : x < 0 := by grind
    refine jCon.ofP (by decide +kernel) (by simp [lg_sl, Value.category]) (fun post hp => ?_)
    refine jvk_ok TX11_isSetting (V := []) (S := []) (fun _ h => absurd h List.not_mem_nil) (fun _ h => absurd h List.not_mem_nil) [] 20 _ _ _ _ ?_
    simp (maxSteps := 1000000) [↓Bool.cond_eq_ite, -Prod.forall, -Prod.exists, -Prod.mk.injEq, jvk, tX11_isSetting, jtb, jol, jst, jlk, jcmp, jbin, jfl, fX11, jc2, lX11, jcat, jel, lv_args, Value.category, jins, jsrt, jins2, jble, jblt, jf3, List.filter_cons, List.filter_nil, G_x, G_flat, G_loader, G_roster, G_lroster, G_lflat, G_history, G_prop, G_choice, G_tchoice, G_settle, G_page, -Int32.not_le, -Int32.not_lt, -Int64.not_le, -Int64.not_lt, i3lt, i6lt, c0, c0']
    try simp (disch := omega) [-Prod.forall, -Prod.exists, -Prod.mk.injEq, -Int32.not_le, -Int32.not_lt, -Int64.not_le, -Int64.not_lt, i3lt, i6lt, c0, c0']
    exact hp _ _ ⟨by rw [if_neg (fun z => c0 ((mIn_3 x).mp z).1)], rfl⟩
def oX11_isMoney : jO := joI fun x σ => (True, fun v τ => v = some (.int (if mIn x 0 99999 = true then 1 else 0)) ∧ τ = σ)
set_option maxRecDepth 100000 in
set_option maxHeartbeats 4000000 in
theorem CX11_isMoney (g : jG) (n : Nat) : jOk g (n + 0) mX11_isMoney oX11_isMoney := by
  refine joI_ok ?_
  rintro x σ -
  by_cases c0 : 0 ≤ x
  · have c0' : ¬ x < 0 := by grind
    by_cases c1 : x ≤ 99999
    · refine jCon.ofP (by decide +kernel) (by simp [lg_sl, Value.category]) (fun post hp => ?_)
      refine jvk_ok TX11_isMoney (V := []) (S := []) (fun _ h => absurd h List.not_mem_nil) (fun _ h => absurd h List.not_mem_nil) [] 20 _ _ _ _ ?_
      simp (maxSteps := 1000000) [↓Bool.cond_eq_ite, -Prod.forall, -Prod.exists, -Prod.mk.injEq, jvk, tX11_isMoney, jtb, jol, jst, jlk, jcmp, jbin, jfl, fX11, jc2, lX11, jcat, jel, lv_args, Value.category, jins, jsrt, jins2, jble, jblt, jf3, List.filter_cons, List.filter_nil, G_x, G_flat, G_loader, G_roster, G_lroster, G_lflat, G_history, G_prop, G_choice, G_tchoice, G_settle, G_page, -Int32.not_le, -Int32.not_lt, -Int64.not_le, -Int64.not_lt, i3lt, i6lt, c0, c0', c1]
      try simp (disch := omega) [-Prod.forall, -Prod.exists, -Prod.mk.injEq, -Int32.not_le, -Int32.not_lt, -Int64.not_le, -Int64.not_lt, i3lt, i6lt, c0, c0', c1]
      exact hp _ _ ⟨by rw [if_pos (by unfold mIn; rw [decide_eq_true_eq]; exact ⟨c0, c1⟩)], rfl⟩
    · refine jCon.ofP (by decide +kernel) (by simp [lg_sl, Value.category]) (fun post hp => ?_)
      refine jvk_ok TX11_isMoney (V := []) (S := []) (fun _ h => absurd h List.not_mem_nil) (fun _ h => absurd h List.not_mem_nil) [] 20 _ _ _ _ ?_
      simp (maxSteps := 1000000) [↓Bool.cond_eq_ite, -Prod.forall, -Prod.exists, -Prod.mk.injEq, jvk, tX11_isMoney, jtb, jol, jst, jlk, jcmp, jbin, jfl, fX11, jc2, lX11, jcat, jel, lv_args, Value.category, jins, jsrt, jins2, jble, jblt, jf3, List.filter_cons, List.filter_nil, G_x, G_flat, G_loader, G_roster, G_lroster, G_lflat, G_history, G_prop, G_choice, G_tchoice, G_settle, G_page, -Int32.not_le, -Int32.not_lt, -Int64.not_le, -Int64.not_lt, i3lt, i6lt, c0, c0', c1]
      try simp (disch := omega) [-Prod.forall, -Prod.exists, -Prod.mk.injEq, -Int32.not_le, -Int32.not_lt, -Int64.not_le, -Int64.not_lt, i3lt, i6lt, c0, c0', c1]
      exact hp _ _ ⟨by rw [if_neg (by unfold mIn; rw [decide_eq_true_eq]; exact fun z => c1 z.2)], rfl⟩
  · have c0' : x < 0 := by grind
    refine jCon.ofP (by decide +kernel) (by simp [lg_sl, Value.category]) (fun post hp => ?_)
    refine jvk_ok TX11_isMoney (V := []) (S := []) (fun _ h => absurd h List.not_mem_nil) (fun _ h => absurd h List.not_mem_nil) [] 20 _ _ _ _ ?_
    simp (maxSteps := 1000000) [↓Bool.cond_eq_ite, -Prod.forall, -Prod.exists, -Prod.mk.injEq, jvk, tX11_isMoney, jtb, jol, jst, jlk, jcmp, jbin, jfl, fX11, jc2, lX11, jcat, jel, lv_args, Value.category, jins, jsrt, jins2, jble, jblt, jf3, List.filter_cons, List.filter_nil, G_x, G_flat, G_loader, G_roster, G_lroster, G_lflat, G_history, G_prop, G_choice, G_tchoice, G_settle, G_page, -Int32.not_le, -Int32.not_lt, -Int64.not_le, -Int64.not_lt, i3lt, i6lt, c0, c0']
    try simp (disch := omega) [-Prod.forall, -Prod.exists, -Prod.mk.injEq, -Int32.not_le, -Int32.not_lt, -Int64.not_le, -Int64.not_lt, i3lt, i6lt, c0, c0']
    exact hp _ _ ⟨by rw [if_neg (by unfold mIn; rw [decide_eq_true_eq]; exact fun z => c0 z.1)], rfl⟩
def oX11_errorPosition : jO := joR fun a σ => (a = 0, fun v τ => v = some (.int (σ.1 1 9)) ∧ τ = σ)
set_option maxRecDepth 100000 in
set_option maxHeartbeats 4000000 in
theorem CX11_errorPosition (g : jG) (n : Nat) : jOk g (n + 0) mX11_errorPosition oX11_errorPosition := by
  refine joR_ok ?_
  rintro _ σ rfl
  refine jCon.ofP (by decide +kernel) (by simp [lg_sl, Value.category]) (fun post hp => ?_)
  refine jvk_ok TX11_errorPosition (V := []) (S := []) (fun _ h => absurd h List.not_mem_nil) (fun _ h => absurd h List.not_mem_nil) [] 20 _ _ _ _ ?_
  simp (maxSteps := 1000000) [↓Bool.cond_eq_ite, -Prod.forall, -Prod.exists, -Prod.mk.injEq, jvk, tX11_errorPosition, jtb, jol, jst, jlk, jcmp, jbin, jfl, fX11, jc2, lX11, jcat, jel, lv_args, Value.category, jins, jsrt, jins2, jble, jblt, jf3, List.filter_cons, List.filter_nil, G_x, G_flat, G_loader, G_roster, G_lroster, G_lflat, G_history, G_prop, G_choice, G_tchoice, G_settle, G_page, -Int32.not_le, -Int32.not_lt, -Int64.not_le, -Int64.not_lt, i3lt, i6lt]
  try simp (disch := omega) [-Prod.forall, -Prod.exists, -Prod.mk.injEq, -Int32.not_le, -Int32.not_lt, -Int64.not_le, -Int64.not_lt, i3lt, i6lt]
  exact hp _ _ ⟨rfl, rfl⟩
def oX11_roomCount : jO := joR fun a σ => (a = 0, fun v τ => v = some (.int (σ.1 37 0)) ∧ τ = σ)
set_option maxRecDepth 100000 in
set_option maxHeartbeats 4000000 in
theorem CX11_roomCount (g : jG) (n : Nat) : jOk g (n + 0) mX11_roomCount oX11_roomCount := by
  refine joR_ok ?_
  rintro _ σ rfl
  refine jCon.ofP (by decide +kernel) (by simp [lg_sl, Value.category]) (fun post hp => ?_)
  refine jvk_ok TX11_roomCount (V := []) (S := []) (fun _ h => absurd h List.not_mem_nil) (fun _ h => absurd h List.not_mem_nil) [] 20 _ _ _ _ ?_
  simp (maxSteps := 1000000) [↓Bool.cond_eq_ite, -Prod.forall, -Prod.exists, -Prod.mk.injEq, jvk, tX11_roomCount, jtb, jol, jst, jlk, jcmp, jbin, jfl, fX11, jc2, lX11, jcat, jel, lv_args, Value.category, jins, jsrt, jins2, jble, jblt, jf3, List.filter_cons, List.filter_nil, G_x, G_flat, G_loader, G_roster, G_lroster, G_lflat, G_history, G_prop, G_choice, G_tchoice, G_settle, G_page, -Int32.not_le, -Int32.not_lt, -Int64.not_le, -Int64.not_lt, i3lt, i6lt]
  try simp (disch := omega) [-Prod.forall, -Prod.exists, -Prod.mk.injEq, -Int32.not_le, -Int32.not_lt, -Int64.not_le, -Int64.not_lt, i3lt, i6lt]
  exact hp _ _ ⟨rfl, rfl⟩
def oX11_personCount : jO := joR fun a σ => (a = 0, fun v τ => v = some (.int (σ.1 37 1)) ∧ τ = σ)
set_option maxRecDepth 100000 in
set_option maxHeartbeats 4000000 in
theorem CX11_personCount (g : jG) (n : Nat) : jOk g (n + 0) mX11_personCount oX11_personCount := by
  refine joR_ok ?_
  rintro _ σ rfl
  refine jCon.ofP (by decide +kernel) (by simp [lg_sl, Value.category]) (fun post hp => ?_)
  refine jvk_ok TX11_personCount (V := []) (S := []) (fun _ h => absurd h List.not_mem_nil) (fun _ h => absurd h List.not_mem_nil) [] 20 _ _ _ _ ?_
  simp (maxSteps := 1000000) [↓Bool.cond_eq_ite, -Prod.forall, -Prod.exists, -Prod.mk.injEq, jvk, tX11_personCount, jtb, jol, jst, jlk, jcmp, jbin, jfl, fX11, jc2, lX11, jcat, jel, lv_args, Value.category, jins, jsrt, jins2, jble, jblt, jf3, List.filter_cons, List.filter_nil, G_x, G_flat, G_loader, G_roster, G_lroster, G_lflat, G_history, G_prop, G_choice, G_tchoice, G_settle, G_page, -Int32.not_le, -Int32.not_lt, -Int64.not_le, -Int64.not_lt, i3lt, i6lt]
  try simp (disch := omega) [-Prod.forall, -Prod.exists, -Prod.mk.injEq, -Int32.not_le, -Int32.not_lt, -Int64.not_le, -Int64.not_lt, i3lt, i6lt]
  exact hp _ _ ⟨rfl, rfl⟩
def oX11_month : jO := joR fun a σ => (a = 0, fun v τ => v = some (.int (σ.1 37 5)) ∧ τ = σ)
set_option maxRecDepth 100000 in
set_option maxHeartbeats 4000000 in
theorem CX11_month (g : jG) (n : Nat) : jOk g (n + 0) mX11_month oX11_month := by
  refine joR_ok ?_
  rintro _ σ rfl
  refine jCon.ofP (by decide +kernel) (by simp [lg_sl, Value.category]) (fun post hp => ?_)
  refine jvk_ok TX11_month (V := []) (S := []) (fun _ h => absurd h List.not_mem_nil) (fun _ h => absurd h List.not_mem_nil) [] 20 _ _ _ _ ?_
  simp (maxSteps := 1000000) [↓Bool.cond_eq_ite, -Prod.forall, -Prod.exists, -Prod.mk.injEq, jvk, tX11_month, jtb, jol, jst, jlk, jcmp, jbin, jfl, fX11, jc2, lX11, jcat, jel, lv_args, Value.category, jins, jsrt, jins2, jble, jblt, jf3, List.filter_cons, List.filter_nil, G_x, G_flat, G_loader, G_roster, G_lroster, G_lflat, G_history, G_prop, G_choice, G_tchoice, G_settle, G_page, -Int32.not_le, -Int32.not_lt, -Int64.not_le, -Int64.not_lt, i3lt, i6lt]
  try simp (disch := omega) [-Prod.forall, -Prod.exists, -Prod.mk.injEq, -Int32.not_le, -Int32.not_lt, -Int64.not_le, -Int64.not_lt, i3lt, i6lt]
  exact hp _ _ ⟨rfl, rfl⟩
def oX11_undoCount : jO := joR fun a σ => (a = 0, fun v τ => v = some (.int (σ.1 57 2)) ∧ τ = σ)
set_option maxRecDepth 100000 in
set_option maxHeartbeats 4000000 in
theorem CX11_undoCount (g : jG) (n : Nat) : jOk g (n + 0) mX11_undoCount oX11_undoCount := by
  refine joR_ok ?_
  rintro _ σ rfl
  refine jCon.ofP (by decide +kernel) (by simp [lg_sl, Value.category]) (fun post hp => ?_)
  refine jvk_ok TX11_undoCount (V := []) (S := []) (fun _ h => absurd h List.not_mem_nil) (fun _ h => absurd h List.not_mem_nil) [] 20 _ _ _ _ ?_
  simp (maxSteps := 1000000) [↓Bool.cond_eq_ite, -Prod.forall, -Prod.exists, -Prod.mk.injEq, jvk, tX11_undoCount, jtb, jol, jst, jlk, jcmp, jbin, jfl, fX11, jc2, lX11, jcat, jel, lv_args, Value.category, jins, jsrt, jins2, jble, jblt, jf3, List.filter_cons, List.filter_nil, G_x, G_flat, G_loader, G_roster, G_lroster, G_lflat, G_history, G_prop, G_choice, G_tchoice, G_settle, G_page, -Int32.not_le, -Int32.not_lt, -Int64.not_le, -Int64.not_lt, i3lt, i6lt]
  try simp (disch := omega) [-Prod.forall, -Prod.exists, -Prod.mk.injEq, -Int32.not_le, -Int32.not_lt, -Int64.not_le, -Int64.not_lt, i3lt, i6lt]
  exact hp _ _ ⟨rfl, rfl⟩
def oX11_lease : jO := joR fun a σ => (a = 0, fun v τ => v = some (.int (σ.1 37 2)) ∧ τ = σ)
set_option maxRecDepth 100000 in
set_option maxHeartbeats 4000000 in
theorem CX11_lease (g : jG) (n : Nat) : jOk g (n + 0) mX11_lease oX11_lease := by
  refine joR_ok ?_
  rintro _ σ rfl
  refine jCon.ofP (by decide +kernel) (by simp [lg_sl, Value.category]) (fun post hp => ?_)
  refine jvk_ok TX11_lease (V := []) (S := []) (fun _ h => absurd h List.not_mem_nil) (fun _ h => absurd h List.not_mem_nil) [] 20 _ _ _ _ ?_
  simp (maxSteps := 1000000) [↓Bool.cond_eq_ite, -Prod.forall, -Prod.exists, -Prod.mk.injEq, jvk, tX11_lease, jtb, jol, jst, jlk, jcmp, jbin, jfl, fX11, jc2, lX11, jcat, jel, lv_args, Value.category, jins, jsrt, jins2, jble, jblt, jf3, List.filter_cons, List.filter_nil, G_x, G_flat, G_loader, G_roster, G_lroster, G_lflat, G_history, G_prop, G_choice, G_tchoice, G_settle, G_page, -Int32.not_le, -Int32.not_lt, -Int64.not_le, -Int64.not_lt, i3lt, i6lt]
  try simp (disch := omega) [-Prod.forall, -Prod.exists, -Prod.mk.injEq, -Int32.not_le, -Int32.not_lt, -Int64.not_le, -Int64.not_lt, i3lt, i6lt]
  exact hp _ _ ⟨rfl, rfl⟩
def oX11_deposit : jO := joR fun a σ => (a = 0, fun v τ => v = some (.int (σ.1 37 3)) ∧ τ = σ)
set_option maxRecDepth 100000 in
set_option maxHeartbeats 4000000 in
theorem CX11_deposit (g : jG) (n : Nat) : jOk g (n + 0) mX11_deposit oX11_deposit := by
  refine joR_ok ?_
  rintro _ σ rfl
  refine jCon.ofP (by decide +kernel) (by simp [lg_sl, Value.category]) (fun post hp => ?_)
  refine jvk_ok TX11_deposit (V := []) (S := []) (fun _ h => absurd h List.not_mem_nil) (fun _ h => absurd h List.not_mem_nil) [] 20 _ _ _ _ ?_
  simp (maxSteps := 1000000) [↓Bool.cond_eq_ite, -Prod.forall, -Prod.exists, -Prod.mk.injEq, jvk, tX11_deposit, jtb, jol, jst, jlk, jcmp, jbin, jfl, fX11, jc2, lX11, jcat, jel, lv_args, Value.category, jins, jsrt, jins2, jble, jblt, jf3, List.filter_cons, List.filter_nil, G_x, G_flat, G_loader, G_roster, G_lroster, G_lflat, G_history, G_prop, G_choice, G_tchoice, G_settle, G_page, -Int32.not_le, -Int32.not_lt, -Int64.not_le, -Int64.not_lt, i3lt, i6lt]
  try simp (disch := omega) [-Prod.forall, -Prod.exists, -Prod.mk.injEq, -Int32.not_le, -Int32.not_lt, -Int64.not_le, -Int64.not_lt, i3lt, i6lt]
  exact hp _ _ ⟨rfl, rfl⟩
def oX11_arrears : jO := joR fun a σ => (a = 0, fun v τ => v = some (.int (σ.1 37 4)) ∧ τ = σ)
set_option maxRecDepth 100000 in
set_option maxHeartbeats 4000000 in
theorem CX11_arrears (g : jG) (n : Nat) : jOk g (n + 0) mX11_arrears oX11_arrears := by
  refine joR_ok ?_
  rintro _ σ rfl
  refine jCon.ofP (by decide +kernel) (by simp [lg_sl, Value.category]) (fun post hp => ?_)
  refine jvk_ok TX11_arrears (V := []) (S := []) (fun _ h => absurd h List.not_mem_nil) (fun _ h => absurd h List.not_mem_nil) [] 20 _ _ _ _ ?_
  simp (maxSteps := 1000000) [↓Bool.cond_eq_ite, -Prod.forall, -Prod.exists, -Prod.mk.injEq, jvk, tX11_arrears, jtb, jol, jst, jlk, jcmp, jbin, jfl, fX11, jc2, lX11, jcat, jel, lv_args, Value.category, jins, jsrt, jins2, jble, jblt, jf3, List.filter_cons, List.filter_nil, G_x, G_flat, G_loader, G_roster, G_lroster, G_lflat, G_history, G_prop, G_choice, G_tchoice, G_settle, G_page, -Int32.not_le, -Int32.not_lt, -Int64.not_le, -Int64.not_lt, i3lt, i6lt]
  try simp (disch := omega) [-Prod.forall, -Prod.exists, -Prod.mk.injEq, -Int32.not_le, -Int32.not_lt, -Int64.not_le, -Int64.not_lt, i3lt, i6lt]
  exact hp _ _ ⟨rfl, rfl⟩
def oX11_planCount : jO := joR fun a σ => (a = 0, fun v τ => v = some (.int (σ.1 31 5 - σ.1 37 6)) ∧ τ = σ)
set_option maxRecDepth 100000 in
set_option maxHeartbeats 4000000 in
theorem CX11_planCount (g : jG) (n : Nat) : jOk g (n + 0) mX11_planCount oX11_planCount := by
  refine joR_ok ?_
  rintro _ σ rfl
  refine jCon.ofP (by decide +kernel) (by simp [lg_sl, Value.category]) (fun post hp => ?_)
  refine jvk_ok TX11_planCount (V := []) (S := []) (fun _ h => absurd h List.not_mem_nil) (fun _ h => absurd h List.not_mem_nil) [] 20 _ _ _ _ ?_
  simp (maxSteps := 1000000) [↓Bool.cond_eq_ite, -Prod.forall, -Prod.exists, -Prod.mk.injEq, jvk, tX11_planCount, jtb, jol, jst, jlk, jcmp, jbin, jfl, fX11, jc2, lX11, jcat, jel, lv_args, Value.category, jins, jsrt, jins2, jble, jblt, jf3, List.filter_cons, List.filter_nil, G_x, G_flat, G_loader, G_roster, G_lroster, G_lflat, G_history, G_prop, G_choice, G_tchoice, G_settle, G_page, -Int32.not_le, -Int32.not_lt, -Int64.not_le, -Int64.not_lt, i3lt, i6lt]
  try simp (disch := omega) [-Prod.forall, -Prod.exists, -Prod.mk.injEq, -Int32.not_le, -Int32.not_lt, -Int64.not_le, -Int64.not_lt, i3lt, i6lt]
  exact hp _ _ ⟨rfl, rfl⟩
def oX11_getSetting : jO := joRI fun a x σ => (a = 0, fun v τ => v = some (.int (if mIn x 0 2 = true then σ.1 38 x.toNatClampNeg else -2)) ∧ τ = σ)
set_option maxRecDepth 100000 in
set_option maxHeartbeats 4000000 in
theorem CX11_getSetting (g : jG) (n : Nat) : jOk g (n + 1) mX11_getSetting oX11_getSetting := by
  refine joRI_ok ?_
  rintro _ x σ rfl
  by_cases c : mIn x 0 2 = true
  · have j3 : jin x 3 := jin_3 c 3 (by omega)
    refine jCon.ofP (by decide +kernel) (by simp [lg_sl, Value.category]) (fun post hp => ?_)
    refine jvk_ok TX11_getSetting (V := []) (S := [(122, 1, 0, oX11_isSetting)]) (fun _ h => absurd h List.not_mem_nil) (List.forall_mem_cons.mpr ⟨⟨mX11_isSetting, n + 0, by omega, Or.inl kX11_122, WX11_isSetting, CX11_isSetting g (n)⟩, (fun _ h => absurd h List.not_mem_nil)⟩) [] 30 _ _ _ _ ?_
    simp (maxSteps := 1000000) [↓Bool.cond_eq_ite, -Prod.forall, -Prod.exists, -Prod.mk.injEq, jvk, tX11_getSetting, jtb, jol, jst, jlk, jcmp, jbin, jfl, fX11, jc2, lX11, jcat, jel, lv_args, Value.category, jins, jsrt, jins2, jble, jblt, jf3, List.filter_cons, List.filter_nil, G_x, G_flat, G_loader, G_roster, G_lroster, G_lflat, G_history, G_prop, G_choice, G_tchoice, G_settle, G_page, oX11_isSetting, joI, -Int32.not_le, -Int32.not_lt, -Int64.not_le, -Int64.not_lt, i3lt, i6lt, c, j3]
    try simp (disch := omega) [-Prod.forall, -Prod.exists, -Prod.mk.injEq, -Int32.not_le, -Int32.not_lt, -Int64.not_le, -Int64.not_lt, i3lt, i6lt, c, j3]
    exact hp _ _ ⟨by rw [if_pos c], rfl⟩
  · refine jCon.ofP (by decide +kernel) (by simp [lg_sl, Value.category]) (fun post hp => ?_)
    refine jvk_ok TX11_getSetting (V := []) (S := [(122, 1, 0, oX11_isSetting)]) (fun _ h => absurd h List.not_mem_nil) (List.forall_mem_cons.mpr ⟨⟨mX11_isSetting, n + 0, by omega, Or.inl kX11_122, WX11_isSetting, CX11_isSetting g (n)⟩, (fun _ h => absurd h List.not_mem_nil)⟩) [] 30 _ _ _ _ ?_
    simp (maxSteps := 1000000) [↓Bool.cond_eq_ite, -Prod.forall, -Prod.exists, -Prod.mk.injEq, jvk, tX11_getSetting, jtb, jol, jst, jlk, jcmp, jbin, jfl, fX11, jc2, lX11, jcat, jel, lv_args, Value.category, jins, jsrt, jins2, jble, jblt, jf3, List.filter_cons, List.filter_nil, G_x, G_flat, G_loader, G_roster, G_lroster, G_lflat, G_history, G_prop, G_choice, G_tchoice, G_settle, G_page, oX11_isSetting, joI, -Int32.not_le, -Int32.not_lt, -Int64.not_le, -Int64.not_lt, i3lt, i6lt, c]
    try simp (disch := omega) [-Prod.forall, -Prod.exists, -Prod.mk.injEq, -Int32.not_le, -Int32.not_lt, -Int64.not_le, -Int64.not_lt, i3lt, i6lt, c]
    exact hp _ _ ⟨by rw [if_neg c], rfl⟩
def oX11_roomNamed : jO := joRI fun a x σ => (a = 0 ∧ fOK σ, fun v τ => v = some (.int (ff (fun k => decide (σ.1 32 k = x)) (fRm σ) 0)) ∧ τ = σ)
set_option maxRecDepth 100000 in
set_option maxHeartbeats 4000000 in
theorem CX11_roomNamed (g : jG) (n : Nat) : jOk g (n + 1) mX11_roomNamed oX11_roomNamed := by
  refine joRI_ok ?_
  rintro _ x σ ⟨rfl, hok⟩
  obtain ⟨-, r6, eR⟩ := fOK_n hok
  have pre : ∃ N, nI (fRm σ) = nI N ∧ N ≤ 6 := ⟨_, rfl, r6⟩
  have h31 : (31 : Nat) = 24 ∨ (31 : Nat) = 31 := Or.inr rfl
  have ec : (nI (fRm σ)).toNatClampNeg = fRm σ := nI_clamp (by omega)
  refine jCon.ofP (by decide +kernel) (by simp [lg_sl, Value.category]) (fun post hp => ?_)
  refine jvk_ok TX11_roomNamed (V := [(109, 3, 7, oX7_findRoom)]) (S := []) (List.forall_mem_cons.mpr ⟨⟨mX7_findRoom, n + 0, 2, TX7, 6, rfl, by omega, kX11_109, WX7_findRoom, rfl, CX7_findRoom g (n)⟩, (fun _ h => absurd h List.not_mem_nil)⟩) (fun _ h => absurd h List.not_mem_nil) [] 30 _ _ _ _ ?_
  simp (maxSteps := 1000000) [↓Bool.cond_eq_ite, -Prod.forall, -Prod.exists, -Prod.mk.injEq, jvk, tX11_roomNamed, jtb, jol, jst, jlk, jcmp, jbin, jfl, fX11, jc2, lX11, jcat, jel, lv_args, Value.category, jins, jsrt, jins2, jble, jblt, jf3, List.filter_cons, List.filter_nil, G_x, G_flat, G_loader, G_roster, G_lroster, G_lflat, G_history, G_prop, G_choice, G_tchoice, G_settle, G_page, oX7_findRoom, joRII, -Int32.not_le, -Int32.not_lt, -Int64.not_le, -Int64.not_lt, i3lt, i6lt, eR, pre, h31, ec]
  try simp (disch := omega) [-Prod.forall, -Prod.exists, -Prod.mk.injEq, -Int32.not_le, -Int32.not_lt, -Int64.not_le, -Int64.not_lt, i3lt, i6lt, eR, pre, h31, ec]
  exact hp _ _ ⟨rfl, rfl⟩
def oX11_personNamed : jO := joRI fun a x σ => (a = 0 ∧ fOK σ, fun v τ => v = some (.int (ff (fun k => decide (σ.1 33 k = x)) (fN σ) 0)) ∧ τ = σ)
set_option maxRecDepth 100000 in
set_option maxHeartbeats 4000000 in
theorem CX11_personNamed (g : jG) (n : Nat) : jOk g (n + 1) mX11_personNamed oX11_personNamed := by
  refine joRI_ok ?_
  rintro _ x σ ⟨rfl, hok⟩
  obtain ⟨⟨n10, eN⟩, -, -⟩ := fOK_n hok
  have pre : ∃ N, nI (fN σ) = nI N ∧ N ≤ 10 := ⟨_, rfl, n10⟩
  have h31 : (31 : Nat) = 24 ∨ (31 : Nat) = 31 := Or.inr rfl
  have ec : (nI (fN σ)).toNatClampNeg = fN σ := nI_clamp (by omega)
  refine jCon.ofP (by decide +kernel) (by simp [lg_sl, Value.category]) (fun post hp => ?_)
  refine jvk_ok TX11_personNamed (V := [(113, 3, 7, oX7_findPerson)]) (S := []) (List.forall_mem_cons.mpr ⟨⟨mX7_findPerson, n + 0, 2, TX7, 6, rfl, by omega, kX11_113, WX7_findPerson, rfl, CX7_findPerson g (n)⟩, (fun _ h => absurd h List.not_mem_nil)⟩) (fun _ h => absurd h List.not_mem_nil) [] 30 _ _ _ _ ?_
  simp (maxSteps := 1000000) [↓Bool.cond_eq_ite, -Prod.forall, -Prod.exists, -Prod.mk.injEq, jvk, tX11_personNamed, jtb, jol, jst, jlk, jcmp, jbin, jfl, fX11, jc2, lX11, jcat, jel, lv_args, Value.category, jins, jsrt, jins2, jble, jblt, jf3, List.filter_cons, List.filter_nil, G_x, G_flat, G_loader, G_roster, G_lroster, G_lflat, G_history, G_prop, G_choice, G_tchoice, G_settle, G_page, oX7_findPerson, joRII, -Int32.not_le, -Int32.not_lt, -Int64.not_le, -Int64.not_lt, i3lt, i6lt, eN, pre, h31, ec]
  try simp (disch := omega) [-Prod.forall, -Prod.exists, -Prod.mk.injEq, -Int32.not_le, -Int32.not_lt, -Int64.not_le, -Int64.not_lt, i3lt, i6lt, eN, pre, h31, ec]
  exact hp _ _ ⟨rfl, rfl⟩
def oX11_livingCount : jO := joR fun a σ => (a = 0 ∧ fOK σ, fun v τ => v = some (.int (nI (flM σ))) ∧ τ = σ)
set_option maxRecDepth 100000 in
set_option maxHeartbeats 4000000 in
theorem CX11_livingCount (g : jG) (n : Nat) : jOk g (n + 3) mX11_livingCount oX11_livingCount := by
  refine joR_ok ?_
  rintro _ σ ⟨rfl, hok⟩
  refine jCon.ofP (by decide +kernel) (by simp [lg_sl, Value.category]) (fun post hp => ?_)
  refine jvk_ok TX11_livingCount (V := [(154, 1, 2, oX2_countLiving)]) (S := []) (List.forall_mem_cons.mpr ⟨⟨mX2_countLiving, n + 2, 0, TX2, 16, rfl, by omega, kX11_154, WX2_countLiving, rfl, CX2_countLiving g (n)⟩, (fun _ h => absurd h List.not_mem_nil)⟩) (fun _ h => absurd h List.not_mem_nil) [] 30 _ _ _ _ ?_
  simp (maxSteps := 1000000) [↓Bool.cond_eq_ite, -Prod.forall, -Prod.exists, -Prod.mk.injEq, jvk, tX11_livingCount, jtb, jol, jst, jlk, jcmp, jbin, jfl, fX11, jc2, lX11, jcat, jel, lv_args, Value.category, jins, jsrt, jins2, jble, jblt, jf3, List.filter_cons, List.filter_nil, G_x, G_flat, G_loader, G_roster, G_lroster, G_lflat, G_history, G_prop, G_choice, G_tchoice, G_settle, G_page, oX2_countLiving, joR, -Int32.not_le, -Int32.not_lt, -Int64.not_le, -Int64.not_lt, i3lt, i6lt, hok]
  try simp (disch := omega) [-Prod.forall, -Prod.exists, -Prod.mk.injEq, -Int32.not_le, -Int32.not_lt, -Int64.not_le, -Int64.not_lt, i3lt, i6lt, hok]
  exact hp _ _ ⟨rfl, rfl⟩
def oX11_pricePart : jO := joR fun a σ => (a = 0, fun v τ => v = some (.int (σ.1 37 2 - σ.1 37 2 * σ.1 38 1 / 100)) ∧ τ = σ)
set_option maxRecDepth 100000 in
set_option maxHeartbeats 4000000 in
theorem CX11_pricePart (g : jG) (n : Nat) : jOk g (n + 1) mX11_pricePart oX11_pricePart := by
  refine joR_ok ?_
  rintro _ σ rfl
  have j1 : jin 1 3 := ⟨by decide, by decide⟩
  refine jCon.ofP (by decide +kernel) (by simp [lg_sl, Value.category]) (fun post hp => ?_)
  refine jvk_ok TX11_pricePart (V := []) (S := [(215, 2, 0, oX11_incomePart)]) (fun _ h => absurd h List.not_mem_nil) (List.forall_mem_cons.mpr ⟨⟨mX11_incomePart, n + 0, by omega, Or.inl kX11_215, WX11_incomePart, CX11_incomePart g (n)⟩, (fun _ h => absurd h List.not_mem_nil)⟩) [] 30 _ _ _ _ ?_
  simp (maxSteps := 1000000) [↓Bool.cond_eq_ite, -Prod.forall, -Prod.exists, -Prod.mk.injEq, jvk, tX11_pricePart, jtb, jol, jst, jlk, jcmp, jbin, jfl, fX11, jc2, lX11, jcat, jel, lv_args, Value.category, jins, jsrt, jins2, jble, jblt, jf3, List.filter_cons, List.filter_nil, G_x, G_flat, G_loader, G_roster, G_lroster, G_lflat, G_history, G_prop, G_choice, G_tchoice, G_settle, G_page, oX11_incomePart, joII, -Int32.not_le, -Int32.not_lt, -Int64.not_le, -Int64.not_lt, i3lt, i6lt, j1, tn_c]
  try simp (disch := omega) [-Prod.forall, -Prod.exists, -Prod.mk.injEq, -Int32.not_le, -Int32.not_lt, -Int64.not_le, -Int64.not_lt, i3lt, i6lt, j1, tn_c]
  exact hp _ _ ⟨rfl, rfl⟩
def oX11_totalEnvy : jO := joR fun a σ => (a = 0 ∧ fOK σ, fun v τ => v = some (.int (fSE σ (fN σ) (fN σ))) ∧ τ = σ)
set_option maxRecDepth 100000 in
set_option maxHeartbeats 4000000 in
theorem CX11_totalEnvy (g : jG) (n : Nat) : jOk g (n + 5) mX11_totalEnvy oX11_totalEnvy := by
  refine joR_ok ?_
  rintro _ σ ⟨rfl, hok⟩
  refine jCon.ofP (by decide +kernel) (by simp [lg_sl, Value.category]) (fun post hp => ?_)
  refine jvk_ok TX11_totalEnvy (V := [(265, 1, 2, oX2_sumOfEnvy)]) (S := []) (List.forall_mem_cons.mpr ⟨⟨mX2_sumOfEnvy, n + 4, 0, TX2, 16, rfl, by omega, kX11_265, WX2_sumOfEnvy, rfl, CX2_sumOfEnvy g (n)⟩, (fun _ h => absurd h List.not_mem_nil)⟩) (fun _ h => absurd h List.not_mem_nil) [] 30 _ _ _ _ ?_
  simp (maxSteps := 1000000) [↓Bool.cond_eq_ite, -Prod.forall, -Prod.exists, -Prod.mk.injEq, jvk, tX11_totalEnvy, jtb, jol, jst, jlk, jcmp, jbin, jfl, fX11, jc2, lX11, jcat, jel, lv_args, Value.category, jins, jsrt, jins2, jble, jblt, jf3, List.filter_cons, List.filter_nil, G_x, G_flat, G_loader, G_roster, G_lroster, G_lflat, G_history, G_prop, G_choice, G_tchoice, G_settle, G_page, oX2_sumOfEnvy, joR, -Int32.not_le, -Int32.not_lt, -Int64.not_le, -Int64.not_lt, i3lt, i6lt, hok]
  try simp (disch := omega) [-Prod.forall, -Prod.exists, -Prod.mk.injEq, -Int32.not_le, -Int32.not_lt, -Int64.not_le, -Int64.not_lt, i3lt, i6lt, hok]
  exact hp _ _ ⟨rfl, rfl⟩
def oX11_missing : jO := joR fun a σ => (a = 0, fun v τ => v = some (.int (σ.1 37 2 - sm (σ.1 53) 10)) ∧ τ = σ)
set_option maxRecDepth 100000 in
set_option maxHeartbeats 4000000 in
theorem CX11_missing (g : jG) (n : Nat) : jOk g (n + 1) mX11_missing oX11_missing := by
  refine joR_ok ?_
  rintro _ σ rfl
  refine jCon.ofP (by decide +kernel) (by simp [lg_sl, Value.category]) (fun post hp => ?_)
  refine jvk_ok TX11_missing (V := [(276, 1, 2, oX2_sumOfPayments)]) (S := []) (List.forall_mem_cons.mpr ⟨⟨mX2_sumOfPayments, n + 0, 0, TX2, 16, rfl, by omega, kX11_276, WX2_sumOfPayments, rfl, CX2_sumOfPayments g (n)⟩, (fun _ h => absurd h List.not_mem_nil)⟩) (fun _ h => absurd h List.not_mem_nil) [] 30 _ _ _ _ ?_
  simp (maxSteps := 1000000) [↓Bool.cond_eq_ite, -Prod.forall, -Prod.exists, -Prod.mk.injEq, jvk, tX11_missing, jtb, jol, jst, jlk, jcmp, jbin, jfl, fX11, jc2, lX11, jcat, jel, lv_args, Value.category, jins, jsrt, jins2, jble, jblt, jf3, List.filter_cons, List.filter_nil, G_x, G_flat, G_loader, G_roster, G_lroster, G_lflat, G_history, G_prop, G_choice, G_tchoice, G_settle, G_page, oX2_sumOfPayments, joR, -Int32.not_le, -Int32.not_lt, -Int64.not_le, -Int64.not_lt, i3lt, i6lt]
  try simp (disch := omega) [-Prod.forall, -Prod.exists, -Prod.mk.injEq, -Int32.not_le, -Int32.not_lt, -Int64.not_le, -Int64.not_lt, i3lt, i6lt]
  exact hp _ _ ⟨rfl, rfl⟩
/-- the one whom the most envy, among the first k -/
def cMe (σ : jM) : Nat → Int32 × Int32
  | 0 => (-1, 0)
  | k + 1 => if (cMe σ k).2 < bc (fEB σ (nI k) (fN σ)) then (nI k, bc (fEB σ (nI k) (fN σ))) else cMe σ k
def oX11_mostEnvied : jO := joR fun a σ => (a = 0 ∧ fOK σ, fun v τ => v = some (.int (cMe σ (fN σ)).1) ∧ τ = σ)
set_option maxRecDepth 100000 in
set_option maxHeartbeats 4000000 in
theorem CX11_mostEnvied (g : jG) (n : Nat) : jOk g (n + 5) mX11_mostEnvied oX11_mostEnvied := by
  refine joR_ok ?_
  rintro _ σ ⟨rfl, hok⟩
  obtain ⟨⟨n10, eN⟩, -, -⟩ := fOK_n hok
  refine jCon.ofP (by decide +kernel) (by simp [lg_sl, Value.category]) (fun post hp => ?_)
  refine jvk_ok TX11_mostEnvied (V := [(268, 2, 2, oX2_enviersOf)]) (S := [(271, 1, 0, oJ6_bitCount_0f7a4)]) (List.forall_mem_cons.mpr ⟨⟨mX2_enviersOf, n + 4, 1, TX2, 16, rfl, by omega, kX11_268, WX2_enviersOf, rfl, CX2_enviersOf g (n)⟩, (fun _ h => absurd h List.not_mem_nil)⟩) (List.forall_mem_cons.mpr ⟨⟨mJ6_bitCount_0f7a4, n + 0, by omega, Or.inl kX11_271, WJ6_bitCount_0f7a4, CJ6_bitCount_0f7a4 g (n)⟩, (fun _ h => absurd h List.not_mem_nil)⟩) [6] 20 _ _ _ _ ?_
  simp (maxSteps := 1000000) [↓Bool.cond_eq_ite, -Prod.forall, -Prod.exists, -Prod.mk.injEq, jvk, tX11_mostEnvied, jtb, jol, jst, jlk, jcmp, jbin, jfl, fX11, jc2, lX11, jcat, jel, lv_args, Value.category, jins, jsrt, jins2, jble, jblt, jf3, List.filter_cons, List.filter_nil, G_x, G_flat, G_loader, G_roster, G_lroster, G_lflat, G_history, G_prop, G_choice, G_tchoice, G_settle, G_page, oX2_enviersOf, oJ6_bitCount_0f7a4, joI, joRI, -Int32.not_le, -Int32.not_lt, -Int64.not_le, -Int64.not_lt, i3lt, i6lt]
  try simp (disch := omega) [-Prod.forall, -Prod.exists, -Prod.mk.injEq, -Int32.not_le, -Int32.not_lt, -Int64.not_le, -Int64.not_lt, i3lt, i6lt]
  have key := jloop (P := fun k => jW g mX11_mostEnvied (n + 5) post 6 [(0, .ref 0), (1, .int (cMe σ k).1), (2, .int (cMe σ k).2), (3, .int (nI k))] [] σ) (N := fN σ) (by
    have hle : nI (fN σ) ≤ nI (fN σ) := nI_le (Nat.le_refl _) (by omega)
    refine jvk_ok TX11_mostEnvied (V := [(268, 2, 2, oX2_enviersOf)]) (S := [(271, 1, 0, oJ6_bitCount_0f7a4)]) (List.forall_mem_cons.mpr ⟨⟨mX2_enviersOf, n + 4, 1, TX2, 16, rfl, by omega, kX11_268, WX2_enviersOf, rfl, CX2_enviersOf g (n)⟩, (fun _ h => absurd h List.not_mem_nil)⟩) (List.forall_mem_cons.mpr ⟨⟨mJ6_bitCount_0f7a4, n + 0, by omega, Or.inl kX11_271, WJ6_bitCount_0f7a4, CJ6_bitCount_0f7a4 g (n)⟩, (fun _ h => absurd h List.not_mem_nil)⟩) [6] 20 _ _ _ _ ?_
    simp (maxSteps := 1000000) [↓Bool.cond_eq_ite, -Prod.forall, -Prod.exists, -Prod.mk.injEq, jvk, tX11_mostEnvied, jtb, jol, jst, jlk, jcmp, jbin, jfl, fX11, jc2, lX11, jcat, jel, lv_args, Value.category, jins, jsrt, jins2, jble, jblt, jf3, List.filter_cons, List.filter_nil, G_x, G_flat, G_loader, G_roster, G_lroster, G_lflat, G_history, G_prop, G_choice, G_tchoice, G_settle, G_page, oX2_enviersOf, oJ6_bitCount_0f7a4, joI, joRI, -Int32.not_le, -Int32.not_lt, -Int64.not_le, -Int64.not_lt, i3lt, i6lt, eN, hle]
    try simp (disch := omega) [-Prod.forall, -Prod.exists, -Prod.mk.injEq, -Int32.not_le, -Int32.not_lt, -Int64.not_le, -Int64.not_lt, i3lt, i6lt, eN, hle]
    exact hp _ _ ⟨rfl, rfl⟩) (fun k hk ih => by
    have hlt : ¬ nI (fN σ) ≤ nI k := nI_ge hk (by omega)
    obtain ⟨B, eB⟩ : ∃ B, B = bc (fEB σ (nI k) (fN σ)) := ⟨_, rfl⟩
    have eB' := eB.symm
    simp only [cMe] at ih
    rw [← eB] at ih
    by_cases c : (cMe σ k).2 < B
    · have c' : ¬ B ≤ (cMe σ k).2 := by grind
      rw [if_pos c] at ih
      refine jvk_ok TX11_mostEnvied (V := [(268, 2, 2, oX2_enviersOf)]) (S := [(271, 1, 0, oJ6_bitCount_0f7a4)]) (List.forall_mem_cons.mpr ⟨⟨mX2_enviersOf, n + 4, 1, TX2, 16, rfl, by omega, kX11_268, WX2_enviersOf, rfl, CX2_enviersOf g (n)⟩, (fun _ h => absurd h List.not_mem_nil)⟩) (List.forall_mem_cons.mpr ⟨⟨mJ6_bitCount_0f7a4, n + 0, by omega, Or.inl kX11_271, WJ6_bitCount_0f7a4, CJ6_bitCount_0f7a4 g (n)⟩, (fun _ h => absurd h List.not_mem_nil)⟩) [6] 40 _ _ _ _ ?_
      simp (maxSteps := 1000000) [↓Bool.cond_eq_ite, -Prod.forall, -Prod.exists, -Prod.mk.injEq, jvk, tX11_mostEnvied, jtb, jol, jst, jlk, jcmp, jbin, jfl, fX11, jc2, lX11, jcat, jel, lv_args, Value.category, jins, jsrt, jins2, jble, jblt, jf3, List.filter_cons, List.filter_nil, G_x, G_flat, G_loader, G_roster, G_lroster, G_lflat, G_history, G_prop, G_choice, G_tchoice, G_settle, G_page, oX2_enviersOf, oJ6_bitCount_0f7a4, joI, joRI, -Int32.not_le, -Int32.not_lt, -Int64.not_le, -Int64.not_lt, i3lt, i6lt, eN, hlt, hok, eB', c', nI_1]
      try simp (disch := omega) [-Prod.forall, -Prod.exists, -Prod.mk.injEq, -Int32.not_le, -Int32.not_lt, -Int64.not_le, -Int64.not_lt, i3lt, i6lt, eN, hlt, hok, eB', c', nI_1]
      exact jW.mono ih (by simp)
    · have c' : B ≤ (cMe σ k).2 := by grind
      rw [if_neg c] at ih
      refine jvk_ok TX11_mostEnvied (V := [(268, 2, 2, oX2_enviersOf)]) (S := [(271, 1, 0, oJ6_bitCount_0f7a4)]) (List.forall_mem_cons.mpr ⟨⟨mX2_enviersOf, n + 4, 1, TX2, 16, rfl, by omega, kX11_268, WX2_enviersOf, rfl, CX2_enviersOf g (n)⟩, (fun _ h => absurd h List.not_mem_nil)⟩) (List.forall_mem_cons.mpr ⟨⟨mJ6_bitCount_0f7a4, n + 0, by omega, Or.inl kX11_271, WJ6_bitCount_0f7a4, CJ6_bitCount_0f7a4 g (n)⟩, (fun _ h => absurd h List.not_mem_nil)⟩) [6] 40 _ _ _ _ ?_
      simp (maxSteps := 1000000) [↓Bool.cond_eq_ite, -Prod.forall, -Prod.exists, -Prod.mk.injEq, jvk, tX11_mostEnvied, jtb, jol, jst, jlk, jcmp, jbin, jfl, fX11, jc2, lX11, jcat, jel, lv_args, Value.category, jins, jsrt, jins2, jble, jblt, jf3, List.filter_cons, List.filter_nil, G_x, G_flat, G_loader, G_roster, G_lroster, G_lflat, G_history, G_prop, G_choice, G_tchoice, G_settle, G_page, oX2_enviersOf, oJ6_bitCount_0f7a4, joI, joRI, -Int32.not_le, -Int32.not_lt, -Int64.not_le, -Int64.not_lt, i3lt, i6lt, eN, hlt, hok, eB', c', nI_1]
      try simp (disch := omega) [-Prod.forall, -Prod.exists, -Prod.mk.injEq, -Int32.not_le, -Int32.not_lt, -Int64.not_le, -Int64.not_lt, i3lt, i6lt, eN, hlt, hok, eB', c', nI_1]
      exact jW.mono ih (by simp))
  rw [nI_0] at key
  exact key
def oX11_outputAt : jO := joRI fun a x σ => (a = 0 ∧ pgOK σ, fun v τ => v = some (.int (if 0 ≤ x ∧ x < σ.1 320 1 then σ.1 321 x.toNatClampNeg else -1)) ∧ τ = σ)
set_option maxRecDepth 100000 in
set_option maxHeartbeats 4000000 in
theorem CX11_outputAt (g : jG) (n : Nat) : jOk g (n + 1) mX11_outputAt oX11_outputAt := by
  refine joRI_ok ?_
  rintro _ x σ ⟨rfl, hok⟩
  refine jCon.ofP (by decide +kernel) (by simp [lg_sl, Value.category]) (fun post hp => ?_)
  refine jvk_ok TX11_outputAt (V := [(372, 2, 5, oX5_charAt)]) (S := []) (List.forall_mem_cons.mpr ⟨⟨mX5_charAt, n + 0, 1, TX5, 2, rfl, by omega, kX11_372, WX5_charAt, rfl, CX5_charAt g (n)⟩, (fun _ h => absurd h List.not_mem_nil)⟩) (fun _ h => absurd h List.not_mem_nil) [] 30 _ _ _ _ ?_
  simp (maxSteps := 1000000) [↓Bool.cond_eq_ite, -Prod.forall, -Prod.exists, -Prod.mk.injEq, jvk, tX11_outputAt, jtb, jol, jst, jlk, jcmp, jbin, jfl, fX11, jc2, lX11, jcat, jel, lv_args, Value.category, jins, jsrt, jins2, jble, jblt, jf3, List.filter_cons, List.filter_nil, G_x, G_flat, G_loader, G_roster, G_lroster, G_lflat, G_history, G_prop, G_choice, G_tchoice, G_settle, G_page, oX5_charAt, joRI, -Int32.not_le, -Int32.not_lt, -Int64.not_le, -Int64.not_lt, i3lt, i6lt, hok]
  try simp (disch := omega) [-Prod.forall, -Prod.exists, -Prod.mk.injEq, -Int32.not_le, -Int32.not_lt, -Int64.not_le, -Int64.not_lt, i3lt, i6lt, hok]
  exact hp _ _ ⟨by simp only [i3lt], rfl⟩
/-- twenty bytes more -/
def oX11_feed : jO := joRIIIII fun a x1 x2 x3 x4 x5 σ => (a = 0 ∧ ∃ m, σ.1 2 1 = nI m ∧ m ≤ 900, fun v τ => (¬ (σ.1 2 1).toNatClampNeg + 20 ≤ 900 ∧ v = some (.int (-3)) ∧ τ = σ) ∨ ((σ.1 2 1).toNatClampNeg + 20 ≤ 900 ∧ v = some (.int (nI ((σ.1 2 1).toNatClampNeg + 20))) ∧ τ = fdS 3 2 1 σ x1 x2 x3 x4 x5 (σ.1 2 1).toNatClampNeg))
set_option maxRecDepth 100000 in
set_option maxHeartbeats 4000000 in
theorem CX11_feed (g : jG) (n : Nat) : jOk g (n + 1) mX11_feed oX11_feed := by
  refine joRIIIII_ok ?_
  rintro _ x1 x2 x3 x4 x5 σ ⟨rfl, m, h2, h1⟩
  have em : (nI m).toNatClampNeg = m := nI_clamp (by omega)
  have e20 : nI m + 20 = nI (m + 20) := nI_add m 20
  by_cases h : m + 20 ≤ 900
  · have c1 : nI (m + 20) ≤ 900 := nI_le (b := 900) h (by decide)
    have ap : ∀ (ρ : jM) (x : Int32) (q : Nat), (apS 3 2 1 ρ x q).1 2 1 = nI (q + 4) := fun ρ x q => by
      rw [apS_1, if_neg (fun z => by omega), if_pos ⟨rfl, rfl⟩]
    have p0 : ∃ q, nI m = nI q ∧ q ≤ 896 := ⟨m, rfl, by omega⟩
    have p1 : ∃ q, nI (m + 4) = nI q ∧ q ≤ 896 := ⟨m + 4, rfl, by omega⟩
    have p2 : ∃ q, nI (m + 8) = nI q ∧ q ≤ 896 := ⟨m + 8, rfl, by omega⟩
    have p3 : ∃ q, nI (m + 12) = nI q ∧ q ≤ 896 := ⟨m + 12, rfl, by omega⟩
    have p4 : ∃ q, nI (m + 16) = nI q ∧ q ≤ 896 := ⟨m + 16, rfl, by omega⟩
    have ap0 := fun (ρ : jM) (x : Int32) => ap ρ x m
    have ap1 : ∀ (ρ : jM) (x : Int32), (apS 3 2 1 ρ x (m + 4)).1 2 1 = nI (m + 8) := fun ρ x => ap ρ x (m + 4)
    have ap2 : ∀ (ρ : jM) (x : Int32), (apS 3 2 1 ρ x (m + 8)).1 2 1 = nI (m + 12) := fun ρ x => ap ρ x (m + 8)
    have ap3 : ∀ (ρ : jM) (x : Int32), (apS 3 2 1 ρ x (m + 12)).1 2 1 = nI (m + 16) := fun ρ x => ap ρ x (m + 12)
    have ap4 : ∀ (ρ : jM) (x : Int32), (apS 3 2 1 ρ x (m + 16)).1 2 1 = nI (m + 20) := fun ρ x => ap ρ x (m + 16)
    have k1 : (nI (m + 4)).toNatClampNeg = m + 4 := nI_clamp (by omega)
    have k2 : (nI (m + 8)).toNatClampNeg = m + 8 := nI_clamp (by omega)
    have k3 : (nI (m + 12)).toNatClampNeg = m + 12 := nI_clamp (by omega)
    have k4 : (nI (m + 16)).toNatClampNeg = m + 16 := nI_clamp (by omega)
    refine jCon.ofP (by decide +kernel) (by simp [lg_sl, Value.category]) (fun post hp => ?_)
    refine jvk_ok TX11_feed (V := [(79, 2, 10, oX10_append)]) (S := []) (List.forall_mem_cons.mpr ⟨⟨mX10_append, n + 0, 1, TX10, 6, rfl, by omega, kX11_79, WX10_append, rfl, CX10_append g (n)⟩, (fun _ h => absurd h List.not_mem_nil)⟩) (fun _ h => absurd h List.not_mem_nil) [] 60 _ _ _ _ ?_
    simp (maxSteps := 1000000) [↓Bool.cond_eq_ite, -Prod.forall, -Prod.exists, -Prod.mk.injEq, jvk, tX11_feed, jtb, jol, jst, jlk, jcmp, jbin, jfl, fX11, jc2, lX11, jcat, jel, lv_args, Value.category, jins, jsrt, jins2, jble, jblt, jf3, List.filter_cons, List.filter_nil, G_x, G_flat, G_loader, G_roster, G_lroster, G_lflat, G_history, G_prop, G_choice, G_tchoice, G_settle, G_page, oX10_append, joRI, -Int32.not_le, -Int32.not_lt, -Int64.not_le, -Int64.not_lt, i3lt, i6lt, h2, e20, c1, jup_1, p0, p1, p2, p3, p4, ap0, ap1, ap2, ap3, ap4, em, k1, k2, k3, k4]
    try simp (disch := omega) [-Prod.forall, -Prod.exists, -Prod.mk.injEq, -Int32.not_le, -Int32.not_lt, -Int64.not_le, -Int64.not_lt, i3lt, i6lt, h2, e20, c1, jup_1, p0, p1, p2, p3, p4, ap0, ap1, ap2, ap3, ap4, em, k1, k2, k3, k4]
    exact hp _ _ (Or.inr ⟨by rw [h2, em]; exact h, by rw [h2, em], by rw [h2, em]; rfl⟩)
  · have c1 : ¬ nI (m + 20) ≤ 900 := nI_ge (a := 900) (by omega) (by omega)
    refine jCon.ofP (by decide +kernel) (by simp [lg_sl, Value.category]) (fun post hp => ?_)
    refine jvk_ok TX11_feed (V := [(79, 2, 10, oX10_append)]) (S := []) (List.forall_mem_cons.mpr ⟨⟨mX10_append, n + 0, 1, TX10, 6, rfl, by omega, kX11_79, WX10_append, rfl, CX10_append g (n)⟩, (fun _ h => absurd h List.not_mem_nil)⟩) (fun _ h => absurd h List.not_mem_nil) [] 60 _ _ _ _ ?_
    simp (maxSteps := 1000000) [↓Bool.cond_eq_ite, -Prod.forall, -Prod.exists, -Prod.mk.injEq, jvk, tX11_feed, jtb, jol, jst, jlk, jcmp, jbin, jfl, fX11, jc2, lX11, jcat, jel, lv_args, Value.category, jins, jsrt, jins2, jble, jblt, jf3, List.filter_cons, List.filter_nil, G_x, G_flat, G_loader, G_roster, G_lroster, G_lflat, G_history, G_prop, G_choice, G_tchoice, G_settle, G_page, oX10_append, joRI, -Int32.not_le, -Int32.not_lt, -Int64.not_le, -Int64.not_lt, i3lt, i6lt, h2, e20, c1]
    try simp (disch := omega) [-Prod.forall, -Prod.exists, -Prod.mk.injEq, -Int32.not_le, -Int32.not_lt, -Int64.not_le, -Int64.not_lt, i3lt, i6lt, h2, e20, c1]
    exact hp _ _ (Or.inl ⟨by rw [h2, em]; exact h, rfl, rfl⟩)
