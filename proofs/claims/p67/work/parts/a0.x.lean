/-! RentDivision: what is read off at once -/
def oX11_mostOfSetting : jO := joI fun x σ => (True, fun v τ => v = some (.int (mMost x)) ∧ τ = σ)
set_option maxRecDepth 100000 in
set_option maxHeartbeats 4000000 in
theorem CX11_mostOfSetting (g : jG) (n : Nat) : jOk g (n + 0) mX11_mostOfSetting oX11_mostOfSetting := by
  refine joI_ok ?_
  rintro x σ -
  have hd : decode mX11_mostOfSetting.2.1 1 = .ok (.lookupswitch 32 #[(0, 27), (1, 29)], 27) := by decide +kernel
  refine jCon.ofP (by decide +kernel) (by simp [lg_sl, Value.category]) (fun post hp => ?_)
  refine jvk_ok TX11_mostOfSetting (V := []) (S := []) (fun _ h => absurd h List.not_mem_nil) (fun _ h => absurd h List.not_mem_nil) [1] 20 _ _ _ _ ?_
  simp (maxSteps := 1000000) [↓Bool.cond_eq_ite, -Prod.forall, -Prod.exists, -Prod.mk.injEq, jvk, tX11_mostOfSetting, jtb, jol, jst, jlk, jcmp, jbin, jfl, fX11, jc2, lX11, jcat, jel, lv_args, Value.category, jins, jsrt, jins2, jble, jblt, jf3, List.filter_cons, List.filter_nil, G_x, G_flat, G_loader, G_roster, G_lroster, G_lflat, G_history, G_prop, G_choice, G_tchoice, G_settle, G_page, -Int32.not_le, -Int32.not_lt, -Int64.not_le, -Int64.not_lt, i3lt, i6lt]
  try simp (disch := omega) [-Prod.forall, -Prod.exists, -Prod.mk.injEq, -Int32.not_le, -Int32.not_lt, -Int64.not_le, -Int64.not_lt, i3lt, i6lt]
  by_cases c0 : x = 0
  · subst c0
    refine jr_look (off := 27) (tgt := 28) hd (by decide) (by decide) (by decide) ?_
    refine jvk_ok TX11_mostOfSetting (V := []) (S := []) (fun _ h => absurd h List.not_mem_nil) (fun _ h => absurd h List.not_mem_nil) [] 20 _ _ _ _ ?_
    simp (maxSteps := 1000000) [↓Bool.cond_eq_ite, -Prod.forall, -Prod.exists, -Prod.mk.injEq, jvk, tX11_mostOfSetting, jtb, jol, jst, jlk, jcmp, jbin, jfl, fX11, jc2, lX11, jcat, jel, lv_args, Value.category, jins, jsrt, jins2, jble, jblt, jf3, List.filter_cons, List.filter_nil, G_x, G_flat, G_loader, G_roster, G_lroster, G_lflat, G_history, G_prop, G_choice, G_tchoice, G_settle, G_page, -Int32.not_le, -Int32.not_lt, -Int64.not_le, -Int64.not_lt, i3lt, i6lt]
    try simp (disch := omega) [-Prod.forall, -Prod.exists, -Prod.mk.injEq, -Int32.not_le, -Int32.not_lt, -Int64.not_le, -Int64.not_lt, i3lt, i6lt]
    exact hp _ _ ⟨rfl, rfl⟩
  · by_cases c1 : x = 1
    · subst c1
      refine jr_look (off := 29) (tgt := 30) hd (by decide) (by decide) (by decide) ?_
      refine jvk_ok TX11_mostOfSetting (V := []) (S := []) (fun _ h => absurd h List.not_mem_nil) (fun _ h => absurd h List.not_mem_nil) [] 20 _ _ _ _ ?_
      simp (maxSteps := 1000000) [↓Bool.cond_eq_ite, -Prod.forall, -Prod.exists, -Prod.mk.injEq, jvk, tX11_mostOfSetting, jtb, jol, jst, jlk, jcmp, jbin, jfl, fX11, jc2, lX11, jcat, jel, lv_args, Value.category, jins, jsrt, jins2, jble, jblt, jf3, List.filter_cons, List.filter_nil, G_x, G_flat, G_loader, G_roster, G_lroster, G_lflat, G_history, G_prop, G_choice, G_tchoice, G_settle, G_page, -Int32.not_le, -Int32.not_lt, -Int64.not_le, -Int64.not_lt, i3lt, i6lt]
      try simp (disch := omega) [-Prod.forall, -Prod.exists, -Prod.mk.injEq, -Int32.not_le, -Int32.not_lt, -Int64.not_le, -Int64.not_lt, i3lt, i6lt]
      exact hp _ _ ⟨rfl, rfl⟩
    · have t0 : ¬ x.toInt = 0 := fun z => c0 (by rw [← Int32.ofInt_toInt x, z]; rfl)
      have t1 : ¬ x.toInt = 1 := fun z => c1 (by rw [← Int32.ofInt_toInt x, z]; rfl)
      have t0' : ¬ (0 : Int) = x.toInt := fun z => t0 z.symm
      have t1' : ¬ (1 : Int) = x.toInt := fun z => t1 z.symm
      refine jr_look (off := 32) (tgt := 33) hd (by decide) (by simp [Op.lookupswitch.offset, t0, t1, t0', t1']) (by decide) ?_
      refine jvk_ok TX11_mostOfSetting (V := []) (S := []) (fun _ h => absurd h List.not_mem_nil) (fun _ h => absurd h List.not_mem_nil) [] 20 _ _ _ _ ?_
      simp (maxSteps := 1000000) [↓Bool.cond_eq_ite, -Prod.forall, -Prod.exists, -Prod.mk.injEq, jvk, tX11_mostOfSetting, jtb, jol, jst, jlk, jcmp, jbin, jfl, fX11, jc2, lX11, jcat, jel, lv_args, Value.category, jins, jsrt, jins2, jble, jblt, jf3, List.filter_cons, List.filter_nil, G_x, G_flat, G_loader, G_roster, G_lroster, G_lflat, G_history, G_prop, G_choice, G_tchoice, G_settle, G_page, -Int32.not_le, -Int32.not_lt, -Int64.not_le, -Int64.not_lt, i3lt, i6lt]
      try simp (disch := omega) [-Prod.forall, -Prod.exists, -Prod.mk.injEq, -Int32.not_le, -Int32.not_lt, -Int64.not_le, -Int64.not_lt, i3lt, i6lt]
      exact hp _ _ ⟨by unfold mMost; rw [if_neg c0, if_neg c1], rfl⟩
def oX11_isSetting : jO := joI fun x σ => (True, fun v τ => v = some (.int (if mIn x 0 2 = true then 1 else 0)) ∧ τ = σ)
theorem mIn_3 (x : Int32) : mIn x 0 2 = true ↔ 0 ≤ x ∧ ¬ 3 ≤ x := by
  unfold mIn
  rw [decide_eq_true_eq]
  constructor
  · intro h
    exact ⟨h.1, by have := h.2; grind⟩
  · intro h
    exact ⟨h.1, by have := h.2; grind⟩
set_option maxRecDepth 100000 in
set_option maxHeartbeats 4000000 in
theorem CX11_isSetting (g : jG) (n : Nat) : jOk g (n + 0) mX11_isSetting oX11_isSetting := by
  refine joI_ok ?_
  rintro x σ -
  by_cases c0 : 0 ≤ x
  · have c0' : ¬ x < 0 := by grind
    by_cases c1 : 3 ≤ x
    · refine jCon.ofP (by decide +kernel) (by simp [lg_sl, Value.category]) (fun post hp => ?_)
      refine jvk_ok TX11_isSetting (V := []) (S := []) (fun _ h => absurd h List.not_mem_nil) (fun _ h => absurd h List.not_mem_nil) [] 20 _ _ _ _ ?_
      simp (maxSteps := 1000000) [↓Bool.cond_eq_ite, -Prod.forall, -Prod.exists, -Prod.mk.injEq, jvk, tX11_isSetting, jtb, jol, jst, jlk, jcmp, jbin, jfl, fX11, jc2, lX11, jcat, jel, lv_args, Value.category, jins, jsrt, jins2, jble, jblt, jf3, List.filter_cons, List.filter_nil, G_x, G_flat, G_loader, G_roster, G_lroster, G_lflat, G_history, G_prop, G_choice, G_tchoice, G_settle, G_page, -Int32.not_le, -Int32.not_lt, -Int64.not_le, -Int64.not_lt, i3lt, i6lt, c0, c0', c1]
      try simp (disch := omega) [-Prod.forall, -Prod.exists, -Prod.mk.injEq, -Int32.not_le, -Int32.not_lt, -Int64.not_le, -Int64.not_lt, i3lt, i6lt, c0, c0', c1]
      exact hp _ _ ⟨by rw [if_neg (fun z => ((mIn_3 x).mp z).2 c1)], rfl⟩
    · refine jCon.ofP (by decide +kernel) (by simp [lg_sl, Value.category]) (fun post hp => ?_)
      refine jvk_ok TX11_isSetting (V := []) (S := []) (fun _ h => absurd h List.not_mem_nil) (fun _ h => absurd h List.not_mem_nil) [] 20 _ _ _ _ ?_
      simp (maxSteps := 1000000) [↓Bool.cond_eq_ite, -Prod.forall, -Prod.exists, -Prod.mk.injEq, jvk, tX11_isSetting, jtb, jol, jst, jlk, jcmp, jbin, jfl, fX11, jc2, lX11, jcat, jel, lv_args, Value.category, jins, jsrt, jins2, jble, jblt, jf3, List.filter_cons, List.filter_nil, G_x, G_flat, G_loader, G_roster, G_lroster, G_lflat, G_history, G_prop, G_choice, G_tchoice, G_settle, G_page, -Int32.not_le, -Int32.not_lt, -Int64.not_le, -Int64.not_lt, i3lt, i6lt, c0, c0', c1]
      try simp (disch := omega) [-Prod.forall, -Prod.exists, -Prod.mk.injEq, -Int32.not_le, -Int32.not_lt, -Int64.not_le, -Int64.not_lt, i3lt, i6lt, c0, c0', c1]
      exact hp _ _ ⟨by rw [if_pos ((mIn_3 x).mpr ⟨c0, c1⟩)], rfl⟩
  · have c0' : x < 0 := by grind
    refine jCon.ofP (by decide +kernel) (by simp [lg_sl, Value.category]) (fun post hp => ?_)
    refine jvk_ok TX11_isSetting (V := []) (S := []) (fun _ h => absurd h List.not_mem_nil) (fun _ h => absurd h List.not_mem_nil) [] 20 _ _ _ _ ?_
    simp (maxSteps := 1000000) [↓Bool.cond_eq_ite, -Prod.forall, -Prod.exists, -Prod.mk.injEq, jvk, tX11_isSetting, jtb, jol, jst, jlk, jcmp, jbin, jfl, fX11, jc2, lX11, jcat, jel, lv_args, Value.category, jins, jsrt, jins2, jble, jblt, jf3, List.filter_cons, List.filter_nil, G_x, G_flat, G_loader, G_roster, G_lroster, G_lflat, G_history, G_prop, G_choice, G_tchoice, G_settle, G_page, -Int32.not_le, -Int32.not_lt, -Int64.not_le, -Int64.not_lt, i3lt, i6lt, c0, c0']
    try simp (disch := omega) [-Prod.forall, -Prod.exists, -Prod.mk.injEq, -Int32.not_le, -Int32.not_lt, -Int64.not_le, -Int64.not_lt, i3lt, i6lt, c0, c0']
    exact hp _ _ ⟨by rw [if_neg (fun z => c0 ((mIn_3 x).mp z).1)], rfl⟩
def oX11_isMoney : jO := joI fun x σ => (True, fun v τ => v = some (.int (if mIn x 0 99999 = true then 1 else 0)) ∧ τ = σ)
set_option maxRecDepth 100000 in
set_option maxHeartbeats 4000000 in
theorem CX11_isMoney (g : jG) (n : Nat) : jOk g (n + 0) mX11_isMoney oX11_isMoney := by
  refine joI_ok ?_
  rintro x σ -
  by_cases c0 : 0 ≤ x
  · have c0' : ¬ x < 0 := by grind
    by_cases c1 : x ≤ 99999
    · refine jCon.ofP (by decide +kernel) (by simp [lg_sl, Value.category]) (fun post hp => ?_)
      refine jvk_ok TX11_isMoney (V := []) (S := []) (fun _ h => absurd h List.not_mem_nil) (fun _ h => absurd h List.not_mem_nil) [] 20 _ _ _ _ ?_
      simp (maxSteps := 1000000) [↓Bool.cond_eq_ite, -Prod.forall, -Prod.exists, -Prod.mk.injEq, jvk, tX11_isMoney, jtb, jol, jst, jlk, jcmp, jbin, jfl, fX11, jc2, lX11, jcat, jel, lv_args, Value.category, jins, jsrt, jins2, jble, jblt, jf3, List.filter_cons, List.filter_nil, G_x, G_flat, G_loader, G_roster, G_lroster, G_lflat, G_history, G_prop, G_choice, G_tchoice, G_settle, G_page, -Int32.not_le, -Int32.not_lt, -Int64.not_le, -Int64.not_lt, i3lt, i6lt, c0, c0', c1]
      try simp (disch := omega) [-Prod.forall, -Prod.exists, -Prod.mk.injEq, -Int32.not_le, -Int32.not_lt, -Int64.not_le, -Int64.not_lt, i3lt, i6lt, c0, c0', c1]
      exact hp _ _ ⟨by rw [if_pos (by unfold mIn; rw [decide_eq_true_eq]; exact ⟨c0, c1⟩)], rfl⟩
    · refine jCon.ofP (by decide +kernel) (by simp [lg_sl, Value.category]) (fun post hp => ?_)
      refine jvk_ok TX11_isMoney (V := []) (S := []) (fun _ h => absurd h List.not_mem_nil) (fun _ h => absurd h List.not_mem_nil) [] 20 _ _ _ _ ?_
      simp (maxSteps := 1000000) [↓Bool.cond_eq_ite, -Prod.forall, -Prod.exists, -Prod.mk.injEq, jvk, tX11_isMoney, jtb, jol, jst, jlk, jcmp, jbin, jfl, fX11, jc2, lX11, jcat, jel, lv_args, Value.category, jins, jsrt, jins2, jble, jblt, jf3, List.filter_cons, List.filter_nil, G_x, G_flat, G_loader, G_roster, G_lroster, G_lflat, G_history, G_prop, G_choice, G_tchoice, G_settle, G_page, -Int32.not_le, -Int32.not_lt, -Int64.not_le, -Int64.not_lt, i3lt, i6lt, c0, c0', c1]
      try simp (disch := omega) [-Prod.forall, -Prod.exists, -Prod.mk.injEq, -Int32.not_le, -Int32.not_lt, -Int64.not_le, -Int64.not_lt, i3lt, i6lt, c0, c0', c1]
      exact hp _ _ ⟨by rw [if_neg (by unfold mIn; rw [decide_eq_true_eq]; exact fun z => c1 z.2)], rfl⟩
  · have c0' : x < 0 := by grind
    refine jCon.ofP (by decide +kernel) (by simp [lg_sl, Value.category]) (fun post hp => ?_)
    refine jvk_ok TX11_isMoney (V := []) (S := []) (fun _ h => absurd h List.not_mem_nil) (fun _ h => absurd h List.not_mem_nil) [] 20 _ _ _ _ ?_
    simp (maxSteps := 1000000) [↓Bool.cond_eq_ite, -Prod.forall, -Prod.exists, -Prod.mk.injEq, jvk, tX11_isMoney, jtb, jol, jst, jlk, jcmp, jbin, jfl, fX11, jc2, lX11, jcat, jel, lv_args, Value.category, jins, jsrt, jins2, jble, jblt, jf3, List.filter_cons, List.filter_nil, G_x, G_flat, G_loader, G_roster, G_lroster, G_lflat, G_history, G_prop, G_choice, G_tchoice, G_settle, G_page, -Int32.not_le, -Int32.not_lt, -Int64.not_le, -Int64.not_lt, i3lt, i6lt, c0, c0']
    try simp (disch := omega) [-Prod.forall, -Prod.exists, -Prod.mk.injEq, -Int32.not_le, -Int32.not_lt, -Int64.not_le, -Int64.not_lt, i3lt, i6lt, c0, c0']
    exact hp _ _ ⟨by rw [if_neg (by unfold mIn; rw [decide_eq_true_eq]; exact fun z => c0 z.1)], rfl⟩
def oX11_month : jO := joR fun a σ => (a = 0, fun v τ => v = some (.int (σ.1 37 5)) ∧ τ = σ)
set_option maxRecDepth 100000 in
set_option maxHeartbeats 4000000 in
theorem CX11_month (g : jG) (n : Nat) : jOk g (n + 0) mX11_month oX11_month := by
  refine joR_ok ?_
  rintro _ σ rfl
  refine jCon.ofP (by decide +kernel) (by simp [lg_sl, Value.category]) (fun post hp => ?_)
  refine jvk_ok TX11_month (V := []) (S := []) (fun _ h => absurd h List.not_mem_nil) (fun _ h => absurd h List.not_mem_nil) [] 20 _ _ _ _ ?_
  simp (maxSteps := 1000000) [↓Bool.cond_eq_ite, -Prod.forall, -Prod.exists, -Prod.mk.injEq, jvk, tX11_month, jtb, jol, jst, jlk, jcmp, jbin, jfl, fX11, jc2, lX11, jcat, jel, lv_args, Value.category, jins, jsrt, jins2, jble, jblt, jf3, List.filter_cons, List.filter_nil, G_x, G_flat, G_loader, G_roster, G_lroster, G_lflat, G_history, G_prop, G_choice, G_tchoice, G_settle, G_page, -Int32.not_le, -Int32.not_lt, -Int64.not_le, -Int64.not_lt, i3lt, i6lt]
  try simp (disch := omega) [-Prod.forall, -Prod.exists, -Prod.mk.injEq, -Int32.not_le, -Int32.not_lt, -Int64.not_le, -Int64.not_lt, i3lt, i6lt]
  exact hp _ _ ⟨rfl, rfl⟩
def oX11_arrears : jO := joR fun a σ => (a = 0, fun v τ => v = some (.int (σ.1 37 4)) ∧ τ = σ)
set_option maxRecDepth 100000 in
set_option maxHeartbeats 4000000 in
theorem CX11_arrears (g : jG) (n : Nat) : jOk g (n + 0) mX11_arrears oX11_arrears := by
  refine joR_ok ?_
  rintro _ σ rfl
  refine jCon.ofP (by decide +kernel) (by simp [lg_sl, Value.category]) (fun post hp => ?_)
  refine jvk_ok TX11_arrears (V := []) (S := []) (fun _ h => absurd h List.not_mem_nil) (fun _ h => absurd h List.not_mem_nil) [] 20 _ _ _ _ ?_
  simp (maxSteps := 1000000) [↓Bool.cond_eq_ite, -Prod.forall, -Prod.exists, -Prod.mk.injEq, jvk, tX11_arrears, jtb, jol, jst, jlk, jcmp, jbin, jfl, fX11, jc2, lX11, jcat, jel, lv_args, Value.category, jins, jsrt, jins2, jble, jblt, jf3, List.filter_cons, List.filter_nil, G_x, G_flat, G_loader, G_roster, G_lroster, G_lflat, G_history, G_prop, G_choice, G_tchoice, G_settle, G_page, -Int32.not_le, -Int32.not_lt, -Int64.not_le, -Int64.not_lt, i3lt, i6lt]
  try simp (disch := omega) [-Prod.forall, -Prod.exists, -Prod.mk.injEq, -Int32.not_le, -Int32.not_lt, -Int64.not_le, -Int64.not_lt, i3lt, i6lt]
  exact hp _ _ ⟨rfl, rfl⟩
def oX11_planCount : jO := joR fun a σ => (a = 0, fun v τ => v = some (.int (σ.1 31 5 - σ.1 37 6)) ∧ τ = σ)
set_option maxRecDepth 100000 in
set_option maxHeartbeats 4000000 in
theorem CX11_planCount (g : jG) (n : Nat) : jOk g (n + 0) mX11_planCount oX11_planCount := by
  refine joR_ok ?_
  rintro _ σ rfl
  refine jCon.ofP (by decide +kernel) (by simp [lg_sl, Value.category]) (fun post hp => ?_)
  refine jvk_ok TX11_planCount (V := []) (S := []) (fun _ h => absurd h List.not_mem_nil) (fun _ h => absurd h List.not_mem_nil) [] 20 _ _ _ _ ?_
  simp (maxSteps := 1000000) [↓Bool.cond_eq_ite, -Prod.forall, -Prod.exists, -Prod.mk.injEq, jvk, tX11_planCount, jtb, jol, jst, jlk, jcmp, jbin, jfl, fX11, jc2, lX11, jcat, jel, lv_args, Value.category, jins, jsrt, jins2, jble, jblt, jf3, List.filter_cons, List.filter_nil, G_x, G_flat, G_loader, G_roster, G_lroster, G_lflat, G_history, G_prop, G_choice, G_tchoice, G_settle, G_page, -Int32.not_le, -Int32.not_lt, -Int64.not_le, -Int64.not_lt, i3lt, i6lt]
  try simp (disch := omega) [-Prod.forall, -Prod.exists, -Prod.mk.injEq, -Int32.not_le, -Int32.not_lt, -Int64.not_le, -Int64.not_lt, i3lt, i6lt]
  exact hp _ _ ⟨rfl, rfl⟩
def oX11_livingCount : jO := joR fun a σ => (a = 0 ∧ fOK σ, fun v τ => v = some (.int (nI (flM σ))) ∧ τ = σ)
set_option maxRecDepth 100000 in
set_option maxHeartbeats 4000000 in
theorem CX11_livingCount (g : jG) (n : Nat) : jOk g (n + 3) mX11_livingCount oX11_livingCount := by
  refine joR_ok ?_
  rintro _ σ ⟨rfl, hok⟩
  refine jCon.ofP (by decide +kernel) (by simp [lg_sl, Value.category]) (fun post hp => ?_)
  refine jvk_ok TX11_livingCount (V := [(154, 1, 2, oX2_countLiving)]) (S := []) (List.forall_mem_cons.mpr ⟨⟨mX2_countLiving, n + 2, 0, TX2, 16, rfl, by omega, kX11_154, WX2_countLiving, rfl, CX2_countLiving g (n)⟩, (fun _ h => absurd h List.not_mem_nil)⟩) (fun _ h => absurd h List.not_mem_nil) [] 30 _ _ _ _ ?_
  simp (maxSteps := 1000000) [↓Bool.cond_eq_ite, -Prod.forall, -Prod.exists, -Prod.mk.injEq, jvk, tX11_livingCount, jtb, jol, jst, jlk, jcmp, jbin, jfl, fX11, jc2, lX11, jcat, jel, lv_args, Value.category, jins, jsrt, jins2, jble, jblt, jf3, List.filter_cons, List.filter_nil, G_x, G_flat, G_loader, G_roster, G_lroster, G_lflat, G_history, G_prop, G_choice, G_tchoice, G_settle, G_page, oX2_countLiving, joR, -Int32.not_le, -Int32.not_lt, -Int64.not_le, -Int64.not_lt, i3lt, i6lt, hok]
  try simp (disch := omega) [-Prod.forall, -Prod.exists, -Prod.mk.injEq, -Int32.not_le, -Int32.not_lt, -Int64.not_le, -Int64.not_lt, i3lt, i6lt, hok]
  exact hp _ _ ⟨rfl, rfl⟩
def oX11_totalEnvy : jO := joR fun a σ => (a = 0 ∧ fOK σ, fun v τ => v = some (.int (fSE σ (fN σ) (fN σ))) ∧ τ = σ)
set_option maxRecDepth 100000 in
set_option maxHeartbeats 4000000 in
theorem CX11_totalEnvy (g : jG) (n : Nat) : jOk g (n + 5) mX11_totalEnvy oX11_totalEnvy := by
  refine joR_ok ?_
  rintro _ σ ⟨rfl, hok⟩
  refine jCon.ofP (by decide +kernel) (by simp [lg_sl, Value.category]) (fun post hp => ?_)
  refine jvk_ok TX11_totalEnvy (V := [(265, 1, 2, oX2_sumOfEnvy)]) (S := []) (List.forall_mem_cons.mpr ⟨⟨mX2_sumOfEnvy, n + 4, 0, TX2, 16, rfl, by omega, kX11_265, WX2_sumOfEnvy, rfl, CX2_sumOfEnvy g (n)⟩, (fun _ h => absurd h List.not_mem_nil)⟩) (fun _ h => absurd h List.not_mem_nil) [] 30 _ _ _ _ ?_
  simp (maxSteps := 1000000) [↓Bool.cond_eq_ite, -Prod.forall, -Prod.exists, -Prod.mk.injEq, jvk, tX11_totalEnvy, jtb, jol, jst, jlk, jcmp, jbin, jfl, fX11, jc2, lX11, jcat, jel, lv_args, Value.category, jins, jsrt, jins2, jble, jblt, jf3, List.filter_cons, List.filter_nil, G_x, G_flat, G_loader, G_roster, G_lroster, G_lflat, G_history, G_prop, G_choice, G_tchoice, G_settle, G_page, oX2_sumOfEnvy, joR, -Int32.not_le, -Int32.not_lt, -Int64.not_le, -Int64.not_lt, i3lt, i6lt, hok]
  try simp (disch := omega) [-Prod.forall, -Prod.exists, -Prod.mk.injEq, -Int32.not_le, -Int32.not_lt, -Int64.not_le, -Int64.not_lt, i3lt, i6lt, hok]
  exact hp _ _ ⟨rfl, rfl⟩
/-- twenty bytes more -/
def oX11_feed : jO := joRIIIII fun a x1 x2 x3 x4 x5 σ => (a = 0 ∧ ∃ m, σ.1 2 1 = nI m ∧ m ≤ 900, fun v τ => (¬ (σ.1 2 1).toNatClampNeg + 20 ≤ 900 ∧ v = some (.int (-3)) ∧ τ = σ) ∨ ((σ.1 2 1).toNatClampNeg + 20 ≤ 900 ∧ v = some (.int (nI ((σ.1 2 1).toNatClampNeg + 20))) ∧ τ = fdS 3 2 1 σ x1 x2 x3 x4 x5 (σ.1 2 1).toNatClampNeg))
set_option maxRecDepth 100000 in
set_option maxHeartbeats 4000000 in
theorem CX11_feed (g : jG) (n : Nat) : jOk g (n + 1) mX11_feed oX11_feed := by
  refine joRIIIII_ok ?_
  rintro _ x1 x2 x3 x4 x5 σ ⟨rfl, m, h2, h1⟩
  have em : (nI m).toNatClampNeg = m := nI_clamp (by omega)
  have e20 : nI m + 20 = nI (m + 20) := nI_add m 20
  by_cases h : m + 20 ≤ 900
  · have c1 : nI (m + 20) ≤ 900 := nI_le (b := 900) h (by decide)
    have ap : ∀ (ρ : jM) (x : Int32) (q : Nat), (apS 3 2 1 ρ x q).1 2 1 = nI (q + 4) := fun ρ x q => by
      rw [apS_1, if_neg (fun z => by omega), if_pos ⟨rfl, rfl⟩]
    have p0 : ∃ q, nI m = nI q ∧ q ≤ 896 := ⟨m, rfl, by omega⟩
    have p1 : ∃ q, nI (m + 4) = nI q ∧ q ≤ 896 := ⟨m + 4, rfl, by omega⟩
    have p2 : ∃ q, nI (m + 8) = nI q ∧ q ≤ 896 := ⟨m + 8, rfl, by omega⟩
    have p3 : ∃ q, nI (m + 12) = nI q ∧ q ≤ 896 := ⟨m + 12, rfl, by omega⟩
    have p4 : ∃ q, nI (m + 16) = nI q ∧ q ≤ 896 := ⟨m + 16, rfl, by omega⟩
    have ap0 := fun (ρ : jM) (x : Int32) => ap ρ x m
    have ap1 : ∀ (ρ : jM) (x : Int32), (apS 3 2 1 ρ x (m + 4)).1 2 1 = nI (m + 8) := fun ρ x => ap ρ x (m + 4)
    have ap2 : ∀ (ρ : jM) (x : Int32), (apS 3 2 1 ρ x (m + 8)).1 2 1 = nI (m + 12) := fun ρ x => ap ρ x (m + 8)
    have ap3 : ∀ (ρ : jM) (x : Int32), (apS 3 2 1 ρ x (m + 12)).1 2 1 = nI (m + 16) := fun ρ x => ap ρ x (m + 12)
    have ap4 : ∀ (ρ : jM) (x : Int32), (apS 3 2 1 ρ x (m + 16)).1 2 1 = nI (m + 20) := fun ρ x => ap ρ x (m + 16)
    have k1 : (nI (m + 4)).toNatClampNeg = m + 4 := nI_clamp (by omega)
    have k2 : (nI (m + 8)).toNatClampNeg = m + 8 := nI_clamp (by omega)
    have k3 : (nI (m + 12)).toNatClampNeg = m + 12 := nI_clamp (by omega)
    have k4 : (nI (m + 16)).toNatClampNeg = m + 16 := nI_clamp (by omega)
    refine jCon.ofP (by decide +kernel) (by simp [lg_sl, Value.category]) (fun post hp => ?_)
    refine jvk_ok TX11_feed (V := [(79, 2, 10, oX10_append)]) (S := []) (List.forall_mem_cons.mpr ⟨⟨mX10_append, n + 0, 1, TX10, 6, rfl, by omega, kX11_79, WX10_append, rfl, CX10_append g (n)⟩, (fun _ h => absurd h List.not_mem_nil)⟩) (fun _ h => absurd h List.not_mem_nil) [] 60 _ _ _ _ ?_
    simp (maxSteps := 1000000) [↓Bool.cond_eq_ite, -Prod.forall, -Prod.exists, -Prod.mk.injEq, jvk, tX11_feed, jtb, jol, jst, jlk, jcmp, jbin, jfl, fX11, jc2, lX11, jcat, jel, lv_args, Value.category, jins, jsrt, jins2, jble, jblt, jf3, List.filter_cons, List.filter_nil, G_x, G_flat, G_loader, G_roster, G_lroster, G_lflat, G_history, G_prop, G_choice, G_tchoice, G_settle, G_page, oX10_append, joRI, -Int32.not_le, -Int32.not_lt, -Int64.not_le, -Int64.not_lt, i3lt, i6lt, h2, e20, c1, jup_1, p0, p1, p2, p3, p4, ap0, ap1, ap2, ap3, ap4, em, k1, k2, k3, k4]
    try simp (disch := omega) [-Prod.forall, -Prod.exists, -Prod.mk.injEq, -Int32.not_le, -Int32.not_lt, -Int64.not_le, -Int64.not_lt, i3lt, i6lt, h2, e20, c1, jup_1, p0, p1, p2, p3, p4, ap0, ap1, ap2, ap3, ap4, em, k1, k2, k3, k4]
    exact hp _ _ (Or.inr ⟨by rw [h2, em]; exact h, by rw [h2, em], by rw [h2, em]; rfl⟩)
  · have c1 : ¬ nI (m + 20) ≤ 900 := nI_ge (a := 900) (by omega) (by omega)
    refine jCon.ofP (by decide +kernel) (by simp [lg_sl, Value.category]) (fun post hp => ?_)
    refine jvk_ok TX11_feed (V := [(79, 2, 10, oX10_append)]) (S := []) (List.forall_mem_cons.mpr ⟨⟨mX10_append, n + 0, 1, TX10, 6, rfl, by omega, kX11_79, WX10_append, rfl, CX10_append g (n)⟩, (fun _ h => absurd h List.not_mem_nil)⟩) (fun _ h => absurd h List.not_mem_nil) [] 60 _ _ _ _ ?_
    simp (maxSteps := 1000000) [↓Bool.cond_eq_ite, -Prod.forall, -Prod.exists, -Prod.mk.injEq, jvk, tX11_feed, jtb, jol, jst, jlk, jcmp, jbin, jfl, fX11, jc2, lX11, jcat, jel, lv_args, Value.category, jins, jsrt, jins2, jble, jblt, jf3, List.filter_cons, List.filter_nil, G_x, G_flat, G_loader, G_roster, G_lroster, G_lflat, G_history, G_prop, G_choice, G_tchoice, G_settle, G_page, oX10_append, joRI, -Int32.not_le, -Int32.not_lt, -Int64.not_le, -Int64.not_lt, i3lt, i6lt, h2, e20, c1]
    try simp (disch := omega) [-Prod.forall, -Prod.exists, -Prod.mk.injEq, -Int32.not_le, -Int32.not_lt, -Int64.not_le, -Int64.not_lt, i3lt, i6lt, h2, e20, c1]
    exact hp _ _ (Or.inl ⟨by rw [h2, em]; exact h, rfl, rfl⟩)
