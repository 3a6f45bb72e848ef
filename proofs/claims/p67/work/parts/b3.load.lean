/-! Loader (1, its flat 4, its roster 24, settingsGiven 30): errors, names, numbers -/
def aLn (a j : Nat) : Bool := aTo a j || a == 1 && (j == 6 || j == 7 || j == 8 || j == 9)
theorem ln_To {a j : Nat} (h : aLn a j = false) : aTo a j = false := by
  unfold aLn at h
  simp only [Bool.or_eq_false_iff] at h
  exact h.1
theorem ln_fr {σ τ : jM} (f : jfr aLn b0 σ τ) : τ.1 3 = σ.1 3 ∧ kLn τ = kLn σ ∧ (kT σ → kT τ) := by
  have e2 : τ.1 2 2 = σ.1 2 2 := f.2.2 2 2 rfl
  refine ⟨funext fun j => f.2.2 3 j rfl, by unfold kLn; rw [e2], fun h => ?_⟩
  unfold kT
  rw [e2]
  exact h
/-- an error is told -/
def lEr (v : Option Value) (τ : jM) (e : pE) : Prop := v = some (.int 0) ∧ τ.1 1 8 = e.1 ∧ τ.1 1 9 = nI e.2
theorem lEr_f (σ : jM) (s : Nat) (x : Int32) : lEr (some (.int 0)) (jup (jup σ 1 8 x) 1 9 (nI s)) (x, s) := by
  refine ⟨rfl, ?_, ?_⟩
  · rw [jup_1, if_neg (by decide), jup_1, if_pos ⟨rfl, rfl⟩]
  · rw [jup_1, if_pos ⟨rfl, rfl⟩]
/-- where no error is told the place of the last one stays -/
def k9 (v : Option Value) (σ τ : jM) : Prop := v = some (.int 1) → τ.1 1 9 = σ.1 1 9
theorem k9_0 {σ τ : jM} : k9 (some (.int 0)) σ τ := fun z => absurd (Value.int.inj (Option.some.inj z)) (by decide)
theorem toP_e {σ : jM} {s : Nat} (hT : kT σ) (h : toP σ s) : (σ.1 2 4).toNatClampNeg = en (σ.1 3) (kLn σ) s := by
  have := en_900 hT h
  rw [h.2.2.1, nI_clamp (by omega)]
theorem toP_p {σ : jM} {s : Nat} (hT : kT σ) (h : toP σ s) : ∃ e, σ.1 2 4 = nI e ∧ e ≤ kLn σ := ⟨_, h.2.2.1, (en_900 hT h).2.1⟩
theorem nm_pos {b : Nat → Int32} {len s : Nat} (h : isN b len s = true) : 0 < nm b len s := by
  unfold isN at h
  rw [decide_eq_true_eq] at h
  have c := cl_ok h.1
  have e1 : s < en b len s := by
    unfold en
    rw [if_pos (Or.inl h.1)]
    have := rn_le (b := b) (len := len) (k := kn b len s) (p := s + 1) (by omega)
    omega
  have h1 : nmN b s (en b len s) 1 = cl b s := by
    simp only [nmN]
    rw [Nat.add_zero, if_pos e1]
    omega
  have st : ∀ m, 0 < nmN b s (en b len s) (m + 1) := fun m => by
    induction m with
    | zero => rw [h1]; omega
    | succ m ih =>
      show 0 < nmN b s (en b len s) (m + 1) * 32 + _
      omega
  exact st 5
def oX4_fail : jO := joRI fun a x σ => (a = 1, fun v τ => v = some (.int 0) ∧ τ = jup (jup σ 1 8 x) 1 9 (σ.1 2 3))
set_option maxRecDepth 100000 in
set_option maxHeartbeats 4000000 in
theorem CX4_fail (g : jG) (n : Nat) : jOk g (n + 0) mX4_fail oX4_fail := by
  refine joRI_ok ?_
  rintro _ x σ rfl
  refine jCon.ofP (by decide +kernel) (by simp [lg_sl, Value.category]) (fun post hp => ?_)
  refine jvk_ok TX4_fail (V := []) (S := []) (fun _ h => absurd h List.not_mem_nil) (fun _ h => absurd h List.not_mem_nil) [] 20 _ _ _ _ ?_
  simp (maxSteps := 1000000) [↓Bool.cond_eq_ite, -Prod.forall, -Prod.exists, -Prod.mk.injEq, jvk, tX4_fail, jtb, jol, jst, jlk, jcmp, jbin, jfl, fX4, jc2, lX4, jcat, jel, lv_args, Value.category, jins, jsrt, jins2, jble, jblt, jf3, List.filter_cons, List.filter_nil, G_loader, G_lflat, G_lroster, -Int32.not_le, -Int32.not_lt, -Int64.not_le, -Int64.not_lt, i3lt, i6lt, jup_1]
  try simp (disch := omega) [-Prod.forall, -Prod.exists, -Prod.mk.injEq, -Int32.not_le, -Int32.not_lt, -Int64.not_le, -Int64.not_lt, i3lt, i6lt, jup_1]
  exact hp _ _ ⟨rfl, rfl⟩
def oX4_readName : jO := joR fun a σ => (a = 1 ∧ kT σ ∧ ∃ s, toP σ s, fun v τ => (jfr aLn b0 σ τ ∧ k9 v σ τ) ∧ ∀ s, toP σ s → if isN (σ.1 3) (kLn σ) (nx (σ.1 3) (kLn σ) s) = true then v = some (.int 1) ∧ toP τ (nx (σ.1 3) (kLn σ) s) ∧ τ.1 1 6 = nI (nm (σ.1 3) (kLn σ) (nx (σ.1 3) (kLn σ) s)) else lEr v τ (-11, nx (σ.1 3) (kLn σ) s))
set_option maxRecDepth 100000 in
set_option maxHeartbeats 4000000 in
theorem CX4_readName (g : jG) (n : Nat) : jOk g (n + 2) mX4_readName oX4_readName := by
  refine joR_ok ?_
  rintro _ σ ⟨rfl, hT, s, hs⟩
  have hpre := toP_p hT hs
  have uniq : ∀ t, toP σ t → t = s := fun t ht => toP_inj hT ht hs
  refine jCon.ofP (by decide +kernel) (by simp [lg_sl, Value.category]) (fun post hp => ?_)
  refine jvk_ok TX4_readName (V := [(117, 1, 10, oX10_advance), (123, 1, 10, oX10_name), (113, 2, 4, oX4_fail)]) (S := []) (List.forall_mem_cons.mpr ⟨⟨mX10_advance, n + 1, 0, TX10, 6, rfl, by omega, kX4_117, WX10_advance, rfl, CX10_advance g (n)⟩, (List.forall_mem_cons.mpr ⟨⟨mX10_name, n + 0, 0, TX10, 6, rfl, by omega, kX4_123, WX10_name, rfl, CX10_name g (n)⟩, (List.forall_mem_cons.mpr ⟨⟨mX4_fail, n + 0, 1, TX4, 10, rfl, by omega, kX4_113, WX4_fail, rfl, CX4_fail g (n)⟩, (fun _ h => absurd h List.not_mem_nil)⟩)⟩)⟩) (fun _ h => absurd h List.not_mem_nil) [7] 20 _ _ _ _ ?_
  simp (maxSteps := 1000000) [↓Bool.cond_eq_ite, -Prod.forall, -Prod.exists, -Prod.mk.injEq, jvk, tX4_readName, jtb, jol, jst, jlk, jcmp, jbin, jfl, fX4, jc2, lX4, jcat, jel, lv_args, Value.category, jins, jsrt, jins2, jble, jblt, jf3, List.filter_cons, List.filter_nil, G_loader, G_lflat, G_lroster, oX10_advance, oX10_name, oX4_fail, joR, joRI, -Int32.not_le, -Int32.not_lt, -Int64.not_le, -Int64.not_lt, i3lt, i6lt, hT, hpre]
  try simp (disch := omega) [-Prod.forall, -Prod.exists, -Prod.mk.injEq, -Int32.not_le, -Int32.not_lt, -Int64.not_le, -Int64.not_lt, i3lt, i6lt, hT, hpre]
  intro v1 τ1 hv1 f1 t1
  subst hv1
  rw [toP_e hT hs] at t1
  obtain ⟨s1, es1⟩ : ∃ s1, s1 = nx (σ.1 3) (kLn σ) s := ⟨_, rfl⟩
  have t1 : toP τ1 s1 := by rw [es1]; exact t1
  have hp : ∀ v τ, jfr aLn b0 σ τ → k9 v σ τ → (if isN (σ.1 3) (kLn σ) s1 = true then v = some (.int 1) ∧ toP τ s1 ∧ τ.1 1 6 = nI (nm (σ.1 3) (kLn σ) s1) else lEr v τ (-11, s1)) → post v τ := fun v τ f b q => hp v τ ⟨⟨f, b⟩, fun t ht => by rw [uniq t ht, ← es1]; exact q⟩
  have hp0 := fun τ f q => hp (some (.int 0)) τ f k9_0 q
  have hp1 := fun τ f e q => hp (some (.int 1)) τ f (fun _ => e) q
  obtain ⟨e3, eL2, kT2⟩ := to_fr f1
  have hT1 := kT2 hT
  have hx1 : ∃ s, toP τ1 s := ⟨_, t1⟩
  have w1 : jfr aLn b0 σ τ1 := f1.weak (fun a j q => ln_To q) (fun _ q => q)
  refine jvk_ok TX4_readName (V := [(117, 1, 10, oX10_advance), (123, 1, 10, oX10_name), (113, 2, 4, oX4_fail)]) (S := []) (List.forall_mem_cons.mpr ⟨⟨mX10_advance, n + 1, 0, TX10, 6, rfl, by omega, kX4_117, WX10_advance, rfl, CX10_advance g (n)⟩, (List.forall_mem_cons.mpr ⟨⟨mX10_name, n + 0, 0, TX10, 6, rfl, by omega, kX4_123, WX10_name, rfl, CX10_name g (n)⟩, (List.forall_mem_cons.mpr ⟨⟨mX4_fail, n + 0, 1, TX4, 10, rfl, by omega, kX4_113, WX4_fail, rfl, CX4_fail g (n)⟩, (fun _ h => absurd h List.not_mem_nil)⟩)⟩)⟩) (fun _ h => absurd h List.not_mem_nil) [15] 20 _ _ _ _ ?_
  simp (maxSteps := 1000000) [↓Bool.cond_eq_ite, -Prod.forall, -Prod.exists, -Prod.mk.injEq, jvk, tX4_readName, jtb, jol, jst, jlk, jcmp, jbin, jfl, fX4, jc2, lX4, jcat, jel, lv_args, Value.category, jins, jsrt, jins2, jble, jblt, jf3, List.filter_cons, List.filter_nil, G_loader, G_lflat, G_lroster, oX10_advance, oX10_name, oX4_fail, joR, joRI, -Int32.not_le, -Int32.not_lt, -Int64.not_le, -Int64.not_lt, i3lt, i6lt, hT1, hx1]
  try simp (disch := omega) [-Prod.forall, -Prod.exists, -Prod.mk.injEq, -Int32.not_le, -Int32.not_lt, -Int64.not_le, -Int64.not_lt, i3lt, i6lt, hT1, hx1]
  intro v2 hv2
  have hv2 := hv2 _ t1
  rw [e3, eL2] at hv2
  by_cases c : isN (σ.1 3) (kLn σ) s1 = true
  · rw [if_pos c] at hv2
    subst hv2
    have m1 := nm_pos c
    have m2 := nm_lt (b := σ.1 3) (len := kLn σ) (s := s1) (by unfold isN at c; rw [decide_eq_true_eq] at c; exact c.1)
    obtain ⟨M, eM⟩ : ∃ M, M = nm (σ.1 3) (kLn σ) s1 := ⟨_, rfl⟩
    rw [← eM] at m1 m2 hp1 ⊢
    have n0 : ¬ nI M = 0 := fun z => by
      have := (nI_eq (b := 0) (by omega) (by decide)).mp z
      omega
    have k1 := hp1 (jup τ1 1 6 (nI M)) (w1.up _ rfl) (f1.2.2 1 9 rfl) (by
      rw [if_pos c]
      exact ⟨rfl, t1, jup_s _ _ _ _⟩)
    refine jvk_ok TX4_readName (V := [(117, 1, 10, oX10_advance), (123, 1, 10, oX10_name), (113, 2, 4, oX4_fail)]) (S := []) (List.forall_mem_cons.mpr ⟨⟨mX10_advance, n + 1, 0, TX10, 6, rfl, by omega, kX4_117, WX10_advance, rfl, CX10_advance g (n)⟩, (List.forall_mem_cons.mpr ⟨⟨mX10_name, n + 0, 0, TX10, 6, rfl, by omega, kX4_123, WX10_name, rfl, CX10_name g (n)⟩, (List.forall_mem_cons.mpr ⟨⟨mX4_fail, n + 0, 1, TX4, 10, rfl, by omega, kX4_113, WX4_fail, rfl, CX4_fail g (n)⟩, (fun _ h => absurd h List.not_mem_nil)⟩)⟩)⟩) (fun _ h => absurd h List.not_mem_nil) [] 30 _ _ _ _ ?_
    simp (maxSteps := 1000000) [↓Bool.cond_eq_ite, -Prod.forall, -Prod.exists, -Prod.mk.injEq, jvk, tX4_readName, jtb, jol, jst, jlk, jcmp, jbin, jfl, fX4, jc2, lX4, jcat, jel, lv_args, Value.category, jins, jsrt, jins2, jble, jblt, jf3, List.filter_cons, List.filter_nil, G_loader, G_lflat, G_lroster, oX10_advance, oX10_name, oX4_fail, joR, joRI, -Int32.not_le, -Int32.not_lt, -Int64.not_le, -Int64.not_lt, i3lt, i6lt, n0, jup_1]
    try simp (disch := omega) [-Prod.forall, -Prod.exists, -Prod.mk.injEq, -Int32.not_le, -Int32.not_lt, -Int64.not_le, -Int64.not_lt, i3lt, i6lt, n0, jup_1]
    exact k1
  · rw [if_neg c] at hv2
    subst hv2
    have h3 := t1.2.1
    have k1 := hp0 (jup (jup (jup τ1 1 6 0) 1 8 (-11)) 1 9 (nI s1)) (((w1.up _ rfl).up _ rfl).up _ rfl) (by
      rw [if_neg c]
      exact lEr_f _ _ _)
    refine jvk_ok TX4_readName (V := [(117, 1, 10, oX10_advance), (123, 1, 10, oX10_name), (113, 2, 4, oX4_fail)]) (S := []) (List.forall_mem_cons.mpr ⟨⟨mX10_advance, n + 1, 0, TX10, 6, rfl, by omega, kX4_117, WX10_advance, rfl, CX10_advance g (n)⟩, (List.forall_mem_cons.mpr ⟨⟨mX10_name, n + 0, 0, TX10, 6, rfl, by omega, kX4_123, WX10_name, rfl, CX10_name g (n)⟩, (List.forall_mem_cons.mpr ⟨⟨mX4_fail, n + 0, 1, TX4, 10, rfl, by omega, kX4_113, WX4_fail, rfl, CX4_fail g (n)⟩, (fun _ h => absurd h List.not_mem_nil)⟩)⟩)⟩) (fun _ h => absurd h List.not_mem_nil) [] 40 _ _ _ _ ?_
    simp (maxSteps := 1000000) [↓Bool.cond_eq_ite, -Prod.forall, -Prod.exists, -Prod.mk.injEq, jvk, tX4_readName, jtb, jol, jst, jlk, jcmp, jbin, jfl, fX4, jc2, lX4, jcat, jel, lv_args, Value.category, jins, jsrt, jins2, jble, jblt, jf3, List.filter_cons, List.filter_nil, G_loader, G_lflat, G_lroster, oX10_advance, oX10_name, oX4_fail, joR, joRI, -Int32.not_le, -Int32.not_lt, -Int64.not_le, -Int64.not_lt, i3lt, i6lt, h3, jup_1]
    try simp (disch := omega) [-Prod.forall, -Prod.exists, -Prod.mk.injEq, -Int32.not_le, -Int32.not_lt, -Int64.not_le, -Int64.not_lt, i3lt, i6lt, h3, jup_1]
    exact k1
def oX4_readNumber : jO := joRI fun a x σ => (a = 1 ∧ kT σ ∧ (∃ s, toP σ s) ∧ ∃ hi, x = nI hi ∧ hi ≤ 99999, fun v τ => (jfr aLn b0 σ τ ∧ k9 v σ τ) ∧ ∀ s, toP σ s → match pInt (σ.1 3) (kLn σ) x.toNatClampNeg s with
    | .inl e => lEr v τ e
    | .inr y => v = some (.int 1) ∧ τ.1 1 7 = nI y ∧ toP τ (nx (σ.1 3) (kLn σ) s))
set_option maxRecDepth 100000 in
set_option maxHeartbeats 4000000 in
theorem CX4_readNumber (g : jG) (n : Nat) : jOk g (n + 2) mX4_readNumber oX4_readNumber := by
  refine joRI_ok ?_
  rintro _ _ σ ⟨rfl, hT, ⟨s, hs⟩, hi, rfl, hhi⟩
  have ech : (nI hi).toNatClampNeg = hi := nI_clamp (by omega)
  have uniq : ∀ t, toP σ t → t = s := fun t ht => toP_inj hT ht hs
  obtain ⟨hsl, h3, h4, h5⟩ := id hs
  have K5 := kn_5 (σ.1 3) (kLn σ) s
  refine jCon.ofP (by decide +kernel) (by simp [lg_sl, Value.category]) (fun post hp => ?_)
  have hp : ∀ v τ, jfr aLn b0 σ τ → k9 v σ τ → (match pInt (σ.1 3) (kLn σ) hi s with
    | .inl e => lEr v τ e
    | .inr y => v = some (.int 1) ∧ τ.1 1 7 = nI y ∧ toP τ (nx (σ.1 3) (kLn σ) s)) → post v τ := fun v τ f b q => hp v τ ⟨⟨f, b⟩, fun t ht => by rw [uniq t ht, ech]; exact q⟩
  have hp0 := fun τ f q => hp (some (.int 0)) τ f k9_0 q
  have hp1 := fun τ f e q => hp (some (.int 1)) τ f (fun _ => e) q
  by_cases k3 : kn (σ.1 3) (kLn σ) s = 3
  · have z3 : σ.1 2 5 = 3 := by rw [h5, k3]; rfl
    have hx : ∃ s, toP σ s ∧ kn (σ.1 3) (kLn σ) s = 3 := ⟨s, hs, k3⟩
    refine jvk_ok TX4_readNumber (V := [(113, 2, 4, oX4_fail), (120, 1, 10, oX10_number), (117, 1, 10, oX10_advance)]) (S := []) (List.forall_mem_cons.mpr ⟨⟨mX4_fail, n + 0, 1, TX4, 10, rfl, by omega, kX4_113, WX4_fail, rfl, CX4_fail g (n)⟩, (List.forall_mem_cons.mpr ⟨⟨mX10_number, n + 1, 0, TX10, 6, rfl, by omega, kX4_120, WX10_number, rfl, CX10_number g (n)⟩, (List.forall_mem_cons.mpr ⟨⟨mX10_advance, n + 1, 0, TX10, 6, rfl, by omega, kX4_117, WX10_advance, rfl, CX10_advance g (n)⟩, (fun _ h => absurd h List.not_mem_nil)⟩)⟩)⟩) (fun _ h => absurd h List.not_mem_nil) [26] 20 _ _ _ _ ?_
    simp (maxSteps := 1000000) [↓Bool.cond_eq_ite, -Prod.forall, -Prod.exists, -Prod.mk.injEq, jvk, tX4_readNumber, jtb, jol, jst, jlk, jcmp, jbin, jfl, fX4, jc2, lX4, jcat, jel, lv_args, Value.category, jins, jsrt, jins2, jble, jblt, jf3, List.filter_cons, List.filter_nil, G_loader, G_lflat, G_lroster, oX4_fail, oX10_number, oX10_advance, joR, joRI, -Int32.not_le, -Int32.not_lt, -Int64.not_le, -Int64.not_lt, i3lt, i6lt, z3, hT, hx]
    try simp (disch := omega) [-Prod.forall, -Prod.exists, -Prod.mk.injEq, -Int32.not_le, -Int32.not_lt, -Int64.not_le, -Int64.not_lt, i3lt, i6lt, z3, hT, hx]
    intro v1 hv1
    have hv1 := hv1 s hs
    subst hv1
    have hnu := nuN_le (σ.1 3) s (en (σ.1 3) (kLn σ) s - s)
    obtain ⟨V, eV⟩ : ∃ V, V = nu (σ.1 3) (kLn σ) s := ⟨_, rfl⟩
    have hV : V ≤ 1000000 := by rw [eV]; exact hnu
    have eI : pInt (σ.1 3) (kLn σ) hi s = if hi < V then .inl (-12, s) else .inr V := by
      unfold pInt
      rw [if_neg (fun z => z k3), ← eV]
    rw [← eV]
    by_cases c : hi < V
    · rw [if_pos c] at eI
      have cc : ¬ nI V ≤ nI hi := nI_ge c (by omega)
      have k1 := hp0 (jup (jup (jup σ 1 7 (nI V)) 1 8 (-12)) 1 9 (nI s)) (((jfr.rfl.up _ rfl).up _ rfl).up _ rfl) (by
        rw [eI]
        exact lEr_f _ _ _)
      refine jvk_ok TX4_readNumber (V := [(113, 2, 4, oX4_fail), (120, 1, 10, oX10_number), (117, 1, 10, oX10_advance)]) (S := []) (List.forall_mem_cons.mpr ⟨⟨mX4_fail, n + 0, 1, TX4, 10, rfl, by omega, kX4_113, WX4_fail, rfl, CX4_fail g (n)⟩, (List.forall_mem_cons.mpr ⟨⟨mX10_number, n + 1, 0, TX10, 6, rfl, by omega, kX4_120, WX10_number, rfl, CX10_number g (n)⟩, (List.forall_mem_cons.mpr ⟨⟨mX10_advance, n + 1, 0, TX10, 6, rfl, by omega, kX4_117, WX10_advance, rfl, CX10_advance g (n)⟩, (fun _ h => absurd h List.not_mem_nil)⟩)⟩)⟩) (fun _ h => absurd h List.not_mem_nil) [] 40 _ _ _ _ ?_
      simp (maxSteps := 1000000) [↓Bool.cond_eq_ite, -Prod.forall, -Prod.exists, -Prod.mk.injEq, jvk, tX4_readNumber, jtb, jol, jst, jlk, jcmp, jbin, jfl, fX4, jc2, lX4, jcat, jel, lv_args, Value.category, jins, jsrt, jins2, jble, jblt, jf3, List.filter_cons, List.filter_nil, G_loader, G_lflat, G_lroster, oX4_fail, oX10_number, oX10_advance, joR, joRI, -Int32.not_le, -Int32.not_lt, -Int64.not_le, -Int64.not_lt, i3lt, i6lt, cc, h3, jup_1]
      try simp (disch := omega) [-Prod.forall, -Prod.exists, -Prod.mk.injEq, -Int32.not_le, -Int32.not_lt, -Int64.not_le, -Int64.not_lt, i3lt, i6lt, cc, h3, jup_1]
      exact k1
    · rw [if_neg c] at eI
      have cc : nI V ≤ nI hi := nI_le (by omega) (by omega)
      obtain ⟨ρ, eρ⟩ : ∃ ρ, ρ = jup σ 1 7 (nI V) := ⟨_, rfl⟩
      have tρ : toP ρ s := by rw [eρ]; exact hs
      have hTρ : kT ρ := by rw [eρ]; exact hT
      have gρ : ρ.1 3 = σ.1 3 ∧ kLn ρ = kLn σ := by rw [eρ]; exact ⟨rfl, rfl⟩
      have hpre := toP_p hTρ tρ
      have r7 : ρ.1 1 7 = nI V := by rw [eρ]; exact jup_s _ _ _ _
      have fρ : jfr aLn b0 σ ρ := by rw [eρ]; exact jfr.rfl.up _ rfl
      refine jvk_ok TX4_readNumber (V := [(113, 2, 4, oX4_fail), (120, 1, 10, oX10_number), (117, 1, 10, oX10_advance)]) (S := []) (List.forall_mem_cons.mpr ⟨⟨mX4_fail, n + 0, 1, TX4, 10, rfl, by omega, kX4_113, WX4_fail, rfl, CX4_fail g (n)⟩, (List.forall_mem_cons.mpr ⟨⟨mX10_number, n + 1, 0, TX10, 6, rfl, by omega, kX4_120, WX10_number, rfl, CX10_number g (n)⟩, (List.forall_mem_cons.mpr ⟨⟨mX10_advance, n + 1, 0, TX10, 6, rfl, by omega, kX4_117, WX10_advance, rfl, CX10_advance g (n)⟩, (fun _ h => absurd h List.not_mem_nil)⟩)⟩)⟩) (fun _ h => absurd h List.not_mem_nil) [29] 10 _ _ _ _ ?_
      simp (maxSteps := 1000000) [↓Bool.cond_eq_ite, -Prod.forall, -Prod.exists, -Prod.mk.injEq, jvk, tX4_readNumber, jtb, jol, jst, jlk, jcmp, jbin, jfl, fX4, jc2, lX4, jcat, jel, lv_args, Value.category, jins, jsrt, jins2, jble, jblt, jf3, List.filter_cons, List.filter_nil, G_loader, G_lflat, G_lroster, oX4_fail, oX10_number, oX10_advance, joR, joRI, -Int32.not_le, -Int32.not_lt, -Int64.not_le, -Int64.not_lt, i3lt, i6lt]
      try simp (disch := omega) [-Prod.forall, -Prod.exists, -Prod.mk.injEq, -Int32.not_le, -Int32.not_lt, -Int64.not_le, -Int64.not_lt, i3lt, i6lt]
      rw [← eρ]
      refine jvk_ok TX4_readNumber (V := [(113, 2, 4, oX4_fail), (120, 1, 10, oX10_number), (117, 1, 10, oX10_advance)]) (S := []) (List.forall_mem_cons.mpr ⟨⟨mX4_fail, n + 0, 1, TX4, 10, rfl, by omega, kX4_113, WX4_fail, rfl, CX4_fail g (n)⟩, (List.forall_mem_cons.mpr ⟨⟨mX10_number, n + 1, 0, TX10, 6, rfl, by omega, kX4_120, WX10_number, rfl, CX10_number g (n)⟩, (List.forall_mem_cons.mpr ⟨⟨mX10_advance, n + 1, 0, TX10, 6, rfl, by omega, kX4_117, WX10_advance, rfl, CX10_advance g (n)⟩, (fun _ h => absurd h List.not_mem_nil)⟩)⟩)⟩) (fun _ h => absurd h List.not_mem_nil) [51] 30 _ _ _ _ ?_
      simp (maxSteps := 1000000) [↓Bool.cond_eq_ite, -Prod.forall, -Prod.exists, -Prod.mk.injEq, jvk, tX4_readNumber, jtb, jol, jst, jlk, jcmp, jbin, jfl, fX4, jc2, lX4, jcat, jel, lv_args, Value.category, jins, jsrt, jins2, jble, jblt, jf3, List.filter_cons, List.filter_nil, G_loader, G_lflat, G_lroster, oX4_fail, oX10_number, oX10_advance, joR, joRI, -Int32.not_le, -Int32.not_lt, -Int64.not_le, -Int64.not_lt, i3lt, i6lt, cc, r7, hTρ, hpre]
      try simp (disch := omega) [-Prod.forall, -Prod.exists, -Prod.mk.injEq, -Int32.not_le, -Int32.not_lt, -Int64.not_le, -Int64.not_lt, i3lt, i6lt, cc, r7, hTρ, hpre]
      intro v2 τ2 hv2 f2 t2
      subst hv2
      rw [toP_e hTρ tρ, gρ.1, gρ.2] at t2
      have k1 := hp1 τ2 (fρ.tr (f2.weak (fun a j q => ln_To q) (fun _ q => q))) ((f2.2.2 1 9 rfl).trans (by rw [eρ]; rfl)) (by
        rw [eI]
        exact ⟨rfl, (f2.2.2 1 7 rfl).trans r7, t2⟩)
      refine jvk_ok TX4_readNumber (V := [(113, 2, 4, oX4_fail), (120, 1, 10, oX10_number), (117, 1, 10, oX10_advance)]) (S := []) (List.forall_mem_cons.mpr ⟨⟨mX4_fail, n + 0, 1, TX4, 10, rfl, by omega, kX4_113, WX4_fail, rfl, CX4_fail g (n)⟩, (List.forall_mem_cons.mpr ⟨⟨mX10_number, n + 1, 0, TX10, 6, rfl, by omega, kX4_120, WX10_number, rfl, CX10_number g (n)⟩, (List.forall_mem_cons.mpr ⟨⟨mX10_advance, n + 1, 0, TX10, 6, rfl, by omega, kX4_117, WX10_advance, rfl, CX10_advance g (n)⟩, (fun _ h => absurd h List.not_mem_nil)⟩)⟩)⟩) (fun _ h => absurd h List.not_mem_nil) [] 10 _ _ _ _ ?_
      simp (maxSteps := 1000000) [↓Bool.cond_eq_ite, -Prod.forall, -Prod.exists, -Prod.mk.injEq, jvk, tX4_readNumber, jtb, jol, jst, jlk, jcmp, jbin, jfl, fX4, jc2, lX4, jcat, jel, lv_args, Value.category, jins, jsrt, jins2, jble, jblt, jf3, List.filter_cons, List.filter_nil, G_loader, G_lflat, G_lroster, oX4_fail, oX10_number, oX10_advance, joR, joRI, -Int32.not_le, -Int32.not_lt, -Int64.not_le, -Int64.not_lt, i3lt, i6lt]
      try simp (disch := omega) [-Prod.forall, -Prod.exists, -Prod.mk.injEq, -Int32.not_le, -Int32.not_lt, -Int64.not_le, -Int64.not_lt, i3lt, i6lt]
      exact k1
  · have z3 : ¬ σ.1 2 5 = 3 := by
      rw [h5]
      exact fun z => k3 ((nI_eq (b := 3) (by omega) (by decide)).mp z)
    have k1 := hp0 (jup (jup σ 1 8 (-11)) 1 9 (nI s)) ((jfr.rfl.up _ rfl).up _ rfl) (by
      unfold pInt
      rw [if_pos k3]
      exact lEr_f _ _ _)
    refine jvk_ok TX4_readNumber (V := [(113, 2, 4, oX4_fail), (120, 1, 10, oX10_number), (117, 1, 10, oX10_advance)]) (S := []) (List.forall_mem_cons.mpr ⟨⟨mX4_fail, n + 0, 1, TX4, 10, rfl, by omega, kX4_113, WX4_fail, rfl, CX4_fail g (n)⟩, (List.forall_mem_cons.mpr ⟨⟨mX10_number, n + 1, 0, TX10, 6, rfl, by omega, kX4_120, WX10_number, rfl, CX10_number g (n)⟩, (List.forall_mem_cons.mpr ⟨⟨mX10_advance, n + 1, 0, TX10, 6, rfl, by omega, kX4_117, WX10_advance, rfl, CX10_advance g (n)⟩, (fun _ h => absurd h List.not_mem_nil)⟩)⟩)⟩) (fun _ h => absurd h List.not_mem_nil) [] 40 _ _ _ _ ?_
    simp (maxSteps := 1000000) [↓Bool.cond_eq_ite, -Prod.forall, -Prod.exists, -Prod.mk.injEq, jvk, tX4_readNumber, jtb, jol, jst, jlk, jcmp, jbin, jfl, fX4, jc2, lX4, jcat, jel, lv_args, Value.category, jins, jsrt, jins2, jble, jblt, jf3, List.filter_cons, List.filter_nil, G_loader, G_lflat, G_lroster, oX4_fail, oX10_number, oX10_advance, joR, joRI, -Int32.not_le, -Int32.not_lt, -Int64.not_le, -Int64.not_lt, i3lt, i6lt, z3, h3, jup_1]
    try simp (disch := omega) [-Prod.forall, -Prod.exists, -Prod.mk.injEq, -Int32.not_le, -Int32.not_lt, -Int64.not_le, -Int64.not_lt, i3lt, i6lt, z3, h3, jup_1]
    exact k1
def oX4_readSemicolon : jO := joR fun a σ => (a = 1 ∧ kT σ ∧ ∃ s, toP σ s, fun v τ => (jfr aLn b0 σ τ ∧ k9 v σ τ) ∧ ∀ s, toP σ s → if kn (σ.1 3) (kLn σ) s = 4 then v = some (.int 1) ∧ toP τ (nx (σ.1 3) (kLn σ) s) else lEr v τ (-11, s))
set_option maxRecDepth 100000 in
set_option maxHeartbeats 4000000 in
theorem CX4_readSemicolon (g : jG) (n : Nat) : jOk g (n + 2) mX4_readSemicolon oX4_readSemicolon := by
  refine joR_ok ?_
  rintro _ σ ⟨rfl, hT, s, hs⟩
  have uniq : ∀ t, toP σ t → t = s := fun t ht => toP_inj hT ht hs
  obtain ⟨hsl, h3, h4, h5⟩ := id hs
  have K5 := kn_5 (σ.1 3) (kLn σ) s
  have hpre := toP_p hT hs
  refine jCon.ofP (by decide +kernel) (by simp [lg_sl, Value.category]) (fun post hp => ?_)
  have hp : ∀ v τ, jfr aLn b0 σ τ → k9 v σ τ → (if kn (σ.1 3) (kLn σ) s = 4 then v = some (.int 1) ∧ toP τ (nx (σ.1 3) (kLn σ) s) else lEr v τ (-11, s)) → post v τ := fun v τ f b q => hp v τ ⟨⟨f, b⟩, fun t ht => by rw [uniq t ht]; exact q⟩
  have hp0 := fun τ f q => hp (some (.int 0)) τ f k9_0 q
  have hp1 := fun τ f e q => hp (some (.int 1)) τ f (fun _ => e) q
  by_cases k4 : kn (σ.1 3) (kLn σ) s = 4
  · have z4 : σ.1 2 5 = 4 := by rw [h5, k4]; rfl
    refine jvk_ok TX4_readSemicolon (V := [(113, 2, 4, oX4_fail), (117, 1, 10, oX10_advance)]) (S := []) (List.forall_mem_cons.mpr ⟨⟨mX4_fail, n + 0, 1, TX4, 10, rfl, by omega, kX4_113, WX4_fail, rfl, CX4_fail g (n)⟩, (List.forall_mem_cons.mpr ⟨⟨mX10_advance, n + 1, 0, TX10, 6, rfl, by omega, kX4_117, WX10_advance, rfl, CX10_advance g (n)⟩, (fun _ h => absurd h List.not_mem_nil)⟩)⟩) (fun _ h => absurd h List.not_mem_nil) [25] 20 _ _ _ _ ?_
    simp (maxSteps := 1000000) [↓Bool.cond_eq_ite, -Prod.forall, -Prod.exists, -Prod.mk.injEq, jvk, tX4_readSemicolon, jtb, jol, jst, jlk, jcmp, jbin, jfl, fX4, jc2, lX4, jcat, jel, lv_args, Value.category, jins, jsrt, jins2, jble, jblt, jf3, List.filter_cons, List.filter_nil, G_loader, G_lflat, G_lroster, oX4_fail, oX10_advance, joR, joRI, -Int32.not_le, -Int32.not_lt, -Int64.not_le, -Int64.not_lt, i3lt, i6lt, z4, hT, hpre]
    try simp (disch := omega) [-Prod.forall, -Prod.exists, -Prod.mk.injEq, -Int32.not_le, -Int32.not_lt, -Int64.not_le, -Int64.not_lt, i3lt, i6lt, z4, hT, hpre]
    intro v2 τ2 hv2 f2 t2
    subst hv2
    rw [toP_e hT hs] at t2
    have k1 := hp1 τ2 (f2.weak (fun a j q => ln_To q) (fun _ q => q)) (f2.2.2 1 9 rfl) (by
      rw [if_pos k4]
      exact ⟨rfl, t2⟩)
    refine jvk_ok TX4_readSemicolon (V := [(113, 2, 4, oX4_fail), (117, 1, 10, oX10_advance)]) (S := []) (List.forall_mem_cons.mpr ⟨⟨mX4_fail, n + 0, 1, TX4, 10, rfl, by omega, kX4_113, WX4_fail, rfl, CX4_fail g (n)⟩, (List.forall_mem_cons.mpr ⟨⟨mX10_advance, n + 1, 0, TX10, 6, rfl, by omega, kX4_117, WX10_advance, rfl, CX10_advance g (n)⟩, (fun _ h => absurd h List.not_mem_nil)⟩)⟩) (fun _ h => absurd h List.not_mem_nil) [] 10 _ _ _ _ ?_
    simp (maxSteps := 1000000) [↓Bool.cond_eq_ite, -Prod.forall, -Prod.exists, -Prod.mk.injEq, jvk, tX4_readSemicolon, jtb, jol, jst, jlk, jcmp, jbin, jfl, fX4, jc2, lX4, jcat, jel, lv_args, Value.category, jins, jsrt, jins2, jble, jblt, jf3, List.filter_cons, List.filter_nil, G_loader, G_lflat, G_lroster, oX4_fail, oX10_advance, joR, joRI, -Int32.not_le, -Int32.not_lt, -Int64.not_le, -Int64.not_lt, i3lt, i6lt]
    try simp (disch := omega) [-Prod.forall, -Prod.exists, -Prod.mk.injEq, -Int32.not_le, -Int32.not_lt, -Int64.not_le, -Int64.not_lt, i3lt, i6lt]
    exact k1
  · have z4 : ¬ σ.1 2 5 = 4 := by
      rw [h5]
      exact fun z => k4 ((nI_eq (b := 4) (by omega) (by decide)).mp z)
    have k1 := hp0 (jup (jup σ 1 8 (-11)) 1 9 (nI s)) ((jfr.rfl.up _ rfl).up _ rfl) (by
      rw [if_neg k4]
      exact lEr_f _ _ _)
    refine jvk_ok TX4_readSemicolon (V := [(113, 2, 4, oX4_fail), (117, 1, 10, oX10_advance)]) (S := []) (List.forall_mem_cons.mpr ⟨⟨mX4_fail, n + 0, 1, TX4, 10, rfl, by omega, kX4_113, WX4_fail, rfl, CX4_fail g (n)⟩, (List.forall_mem_cons.mpr ⟨⟨mX10_advance, n + 1, 0, TX10, 6, rfl, by omega, kX4_117, WX10_advance, rfl, CX10_advance g (n)⟩, (fun _ h => absurd h List.not_mem_nil)⟩)⟩) (fun _ h => absurd h List.not_mem_nil) [] 40 _ _ _ _ ?_
    simp (maxSteps := 1000000) [↓Bool.cond_eq_ite, -Prod.forall, -Prod.exists, -Prod.mk.injEq, jvk, tX4_readSemicolon, jtb, jol, jst, jlk, jcmp, jbin, jfl, fX4, jc2, lX4, jcat, jel, lv_args, Value.category, jins, jsrt, jins2, jble, jblt, jf3, List.filter_cons, List.filter_nil, G_loader, G_lflat, G_lroster, oX4_fail, oX10_advance, joR, joRI, -Int32.not_le, -Int32.not_lt, -Int64.not_le, -Int64.not_lt, i3lt, i6lt, z4, h3, jup_1]
    try simp (disch := omega) [-Prod.forall, -Prod.exists, -Prod.mk.injEq, -Int32.not_le, -Int32.not_lt, -Int64.not_le, -Int64.not_lt, i3lt, i6lt, z4, h3, jup_1]
    exact k1
def oX4_readAmount : jO := joRI fun a x σ => (a = 1 ∧ kT σ ∧ ∃ s, toP σ s, fun v τ => (jfr aLn b0 σ τ ∧ k9 v σ τ) ∧ ∀ s, toP σ s → if x = 0 then (match pInt (σ.1 3) (kLn σ) 99999 (nx (σ.1 3) (kLn σ) s) with
    | .inl e => lEr v τ e
    | .inr y => v = some (.int 1) ∧ τ.1 1 7 = nI y ∧ toP τ (nx (σ.1 3) (kLn σ) (nx (σ.1 3) (kLn σ) s))) else lEr v τ (-14, s))
set_option maxRecDepth 100000 in
set_option maxHeartbeats 4000000 in
theorem CX4_readAmount (g : jG) (n : Nat) : jOk g (n + 3) mX4_readAmount oX4_readAmount := by
  refine joRI_ok ?_
  rintro _ x σ ⟨rfl, hT, s, hs⟩
  have uniq : ∀ t, toP σ t → t = s := fun t ht => toP_inj hT ht hs
  have h3 := hs.2.1
  have hpre := toP_p hT hs
  refine jCon.ofP (by decide +kernel) (by simp [lg_sl, Value.category]) (fun post hp => ?_)
  have hp : ∀ v τ, jfr aLn b0 σ τ → k9 v σ τ → (if x = 0 then (match pInt (σ.1 3) (kLn σ) 99999 (nx (σ.1 3) (kLn σ) s) with
    | .inl e => lEr v τ e
    | .inr y => v = some (.int 1) ∧ τ.1 1 7 = nI y ∧ toP τ (nx (σ.1 3) (kLn σ) (nx (σ.1 3) (kLn σ) s))) else lEr v τ (-14, s)) → post v τ := fun v τ f b q => hp v τ ⟨⟨f, b⟩, fun t ht => by rw [uniq t ht]; exact q⟩
  have hp0 := fun τ f q => hp (some (.int 0)) τ f k9_0 q
  have hp1 := fun τ f e q => hp (some (.int 1)) τ f (fun _ => e) q
  by_cases x0 : x = 0
  · refine jvk_ok TX4_readAmount (V := [(113, 2, 4, oX4_fail), (117, 1, 10, oX10_advance), (149, 2, 4, oX4_readNumber)]) (S := []) (List.forall_mem_cons.mpr ⟨⟨mX4_fail, n + 0, 1, TX4, 10, rfl, by omega, kX4_113, WX4_fail, rfl, CX4_fail g (n)⟩, (List.forall_mem_cons.mpr ⟨⟨mX10_advance, n + 1, 0, TX10, 6, rfl, by omega, kX4_117, WX10_advance, rfl, CX10_advance g (n)⟩, (List.forall_mem_cons.mpr ⟨⟨mX4_readNumber, n + 2, 1, TX4, 10, rfl, by omega, kX4_149, WX4_readNumber, rfl, CX4_readNumber g (n)⟩, (fun _ h => absurd h List.not_mem_nil)⟩)⟩)⟩) (fun _ h => absurd h List.not_mem_nil) [18] 20 _ _ _ _ ?_
    simp (maxSteps := 1000000) [↓Bool.cond_eq_ite, -Prod.forall, -Prod.exists, -Prod.mk.injEq, jvk, tX4_readAmount, jtb, jol, jst, jlk, jcmp, jbin, jfl, fX4, jc2, lX4, jcat, jel, lv_args, Value.category, jins, jsrt, jins2, jble, jblt, jf3, List.filter_cons, List.filter_nil, G_loader, G_lflat, G_lroster, oX4_fail, oX10_advance, oX4_readNumber, joR, joRI, -Int32.not_le, -Int32.not_lt, -Int64.not_le, -Int64.not_lt, i3lt, i6lt, x0, hT, hpre]
    try simp (disch := omega) [-Prod.forall, -Prod.exists, -Prod.mk.injEq, -Int32.not_le, -Int32.not_lt, -Int64.not_le, -Int64.not_lt, i3lt, i6lt, x0, hT, hpre]
    intro v2 τ2 hv2 f2 t2
    subst hv2
    rw [toP_e hT hs] at t2
    obtain ⟨s1, es1⟩ : ∃ s1, s1 = nx (σ.1 3) (kLn σ) s := ⟨_, rfl⟩
    have t2 : toP τ2 s1 := by rw [es1]; exact t2
    obtain ⟨e3, eL2, kT2⟩ := to_fr f2
    have hT2 := kT2 hT
    have hx2 : ∃ s, toP τ2 s := ⟨_, t2⟩
    have h99 : ∃ hi, (99999 : Int32) = nI hi ∧ hi ≤ 99999 := ⟨99999, rfl, by decide⟩
    have c99 : (99999 : Int32).toNatClampNeg = 99999 := by decide
    have hp : ∀ v τ, jfr aLn b0 σ τ → k9 v σ τ → (match pInt (σ.1 3) (kLn σ) 99999 s1 with
      | .inl e => lEr v τ e
      | .inr y => v = some (.int 1) ∧ τ.1 1 7 = nI y ∧ toP τ (nx (σ.1 3) (kLn σ) s1)) → post v τ := fun v τ f b q => hp v τ f b (by
      rw [if_pos x0, ← es1]
      exact q)
    refine jvk_ok TX4_readAmount (V := [(113, 2, 4, oX4_fail), (117, 1, 10, oX10_advance), (149, 2, 4, oX4_readNumber)]) (S := []) (List.forall_mem_cons.mpr ⟨⟨mX4_fail, n + 0, 1, TX4, 10, rfl, by omega, kX4_113, WX4_fail, rfl, CX4_fail g (n)⟩, (List.forall_mem_cons.mpr ⟨⟨mX10_advance, n + 1, 0, TX10, 6, rfl, by omega, kX4_117, WX10_advance, rfl, CX10_advance g (n)⟩, (List.forall_mem_cons.mpr ⟨⟨mX4_readNumber, n + 2, 1, TX4, 10, rfl, by omega, kX4_149, WX4_readNumber, rfl, CX4_readNumber g (n)⟩, (fun _ h => absurd h List.not_mem_nil)⟩)⟩)⟩) (fun _ h => absurd h List.not_mem_nil) [24] 20 _ _ _ _ ?_
    simp (maxSteps := 1000000) [↓Bool.cond_eq_ite, -Prod.forall, -Prod.exists, -Prod.mk.injEq, jvk, tX4_readAmount, jtb, jol, jst, jlk, jcmp, jbin, jfl, fX4, jc2, lX4, jcat, jel, lv_args, Value.category, jins, jsrt, jins2, jble, jblt, jf3, List.filter_cons, List.filter_nil, G_loader, G_lflat, G_lroster, oX4_fail, oX10_advance, oX4_readNumber, joR, joRI, -Int32.not_le, -Int32.not_lt, -Int64.not_le, -Int64.not_lt, i3lt, i6lt, hT2, hx2, h99]
    try simp (disch := omega) [-Prod.forall, -Prod.exists, -Prod.mk.injEq, -Int32.not_le, -Int32.not_lt, -Int64.not_le, -Int64.not_lt, i3lt, i6lt, hT2, hx2, h99]
    intro v3 τ3 f3 b3 q3
    have q3 := q3 s1 t2
    rw [e3, eL2] at q3
    have f4 : jfr aLn b0 σ τ3 := (f2.weak (fun a j q => ln_To q) (fun _ q => q)).tr f3
    have k1 := hp v3 τ3 f4 (fun z => (b3 z).trans (f2.2.2 1 9 rfl)) q3
    rcases eI : pInt (σ.1 3) (kLn σ) 99999 s1 with e | y
    · rw [eI] at q3
      have hv3 := q3.1
      subst hv3
      refine jvk_ok TX4_readAmount (V := [(113, 2, 4, oX4_fail), (117, 1, 10, oX10_advance), (149, 2, 4, oX4_readNumber)]) (S := []) (List.forall_mem_cons.mpr ⟨⟨mX4_fail, n + 0, 1, TX4, 10, rfl, by omega, kX4_113, WX4_fail, rfl, CX4_fail g (n)⟩, (List.forall_mem_cons.mpr ⟨⟨mX10_advance, n + 1, 0, TX10, 6, rfl, by omega, kX4_117, WX10_advance, rfl, CX10_advance g (n)⟩, (List.forall_mem_cons.mpr ⟨⟨mX4_readNumber, n + 2, 1, TX4, 10, rfl, by omega, kX4_149, WX4_readNumber, rfl, CX4_readNumber g (n)⟩, (fun _ h => absurd h List.not_mem_nil)⟩)⟩)⟩) (fun _ h => absurd h List.not_mem_nil) [] 10 _ _ _ _ ?_
      simp (maxSteps := 1000000) [↓Bool.cond_eq_ite, -Prod.forall, -Prod.exists, -Prod.mk.injEq, jvk, tX4_readAmount, jtb, jol, jst, jlk, jcmp, jbin, jfl, fX4, jc2, lX4, jcat, jel, lv_args, Value.category, jins, jsrt, jins2, jble, jblt, jf3, List.filter_cons, List.filter_nil, G_loader, G_lflat, G_lroster, oX4_fail, oX10_advance, oX4_readNumber, joR, joRI, -Int32.not_le, -Int32.not_lt, -Int64.not_le, -Int64.not_lt, i3lt, i6lt]
      try simp (disch := omega) [-Prod.forall, -Prod.exists, -Prod.mk.injEq, -Int32.not_le, -Int32.not_lt, -Int64.not_le, -Int64.not_lt, i3lt, i6lt]
      exact k1
    · rw [eI] at q3
      have hv3 := q3.1
      subst hv3
      refine jvk_ok TX4_readAmount (V := [(113, 2, 4, oX4_fail), (117, 1, 10, oX10_advance), (149, 2, 4, oX4_readNumber)]) (S := []) (List.forall_mem_cons.mpr ⟨⟨mX4_fail, n + 0, 1, TX4, 10, rfl, by omega, kX4_113, WX4_fail, rfl, CX4_fail g (n)⟩, (List.forall_mem_cons.mpr ⟨⟨mX10_advance, n + 1, 0, TX10, 6, rfl, by omega, kX4_117, WX10_advance, rfl, CX10_advance g (n)⟩, (List.forall_mem_cons.mpr ⟨⟨mX4_readNumber, n + 2, 1, TX4, 10, rfl, by omega, kX4_149, WX4_readNumber, rfl, CX4_readNumber g (n)⟩, (fun _ h => absurd h List.not_mem_nil)⟩)⟩)⟩) (fun _ h => absurd h List.not_mem_nil) [] 10 _ _ _ _ ?_
      simp (maxSteps := 1000000) [↓Bool.cond_eq_ite, -Prod.forall, -Prod.exists, -Prod.mk.injEq, jvk, tX4_readAmount, jtb, jol, jst, jlk, jcmp, jbin, jfl, fX4, jc2, lX4, jcat, jel, lv_args, Value.category, jins, jsrt, jins2, jble, jblt, jf3, List.filter_cons, List.filter_nil, G_loader, G_lflat, G_lroster, oX4_fail, oX10_advance, oX4_readNumber, joR, joRI, -Int32.not_le, -Int32.not_lt, -Int64.not_le, -Int64.not_lt, i3lt, i6lt]
      try simp (disch := omega) [-Prod.forall, -Prod.exists, -Prod.mk.injEq, -Int32.not_le, -Int32.not_lt, -Int64.not_le, -Int64.not_lt, i3lt, i6lt]
      exact k1
  · have k1 := hp0 (jup (jup σ 1 8 (-14)) 1 9 (nI s)) ((jfr.rfl.up _ rfl).up _ rfl) (by
      rw [if_neg x0]
      exact lEr_f _ _ _)
    refine jvk_ok TX4_readAmount (V := [(113, 2, 4, oX4_fail), (117, 1, 10, oX10_advance), (149, 2, 4, oX4_readNumber)]) (S := []) (List.forall_mem_cons.mpr ⟨⟨mX4_fail, n + 0, 1, TX4, 10, rfl, by omega, kX4_113, WX4_fail, rfl, CX4_fail g (n)⟩, (List.forall_mem_cons.mpr ⟨⟨mX10_advance, n + 1, 0, TX10, 6, rfl, by omega, kX4_117, WX10_advance, rfl, CX10_advance g (n)⟩, (List.forall_mem_cons.mpr ⟨⟨mX4_readNumber, n + 2, 1, TX4, 10, rfl, by omega, kX4_149, WX4_readNumber, rfl, CX4_readNumber g (n)⟩, (fun _ h => absurd h List.not_mem_nil)⟩)⟩)⟩) (fun _ h => absurd h List.not_mem_nil) [] 40 _ _ _ _ ?_
    simp (maxSteps := 1000000) [↓Bool.cond_eq_ite, -Prod.forall, -Prod.exists, -Prod.mk.injEq, jvk, tX4_readAmount, jtb, jol, jst, jlk, jcmp, jbin, jfl, fX4, jc2, lX4, jcat, jel, lv_args, Value.category, jins, jsrt, jins2, jble, jblt, jf3, List.filter_cons, List.filter_nil, G_loader, G_lflat, G_lroster, oX4_fail, oX10_advance, oX4_readNumber, joR, joRI, -Int32.not_le, -Int32.not_lt, -Int64.not_le, -Int64.not_lt, i3lt, i6lt, x0, h3, jup_1]
    try simp (disch := omega) [-Prod.forall, -Prod.exists, -Prod.mk.injEq, -Int32.not_le, -Int32.not_lt, -Int64.not_le, -Int64.not_lt, i3lt, i6lt, x0, h3, jup_1]
    exact k1
