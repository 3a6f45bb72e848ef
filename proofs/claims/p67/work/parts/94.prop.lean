/-! Proposal: setBases, places, gains over prices, who can pay -/
def basV (σ : jM) (x : Int32) (k : Nat) : Int32 := if x = 0 then σ.1 272 k else if x = 1 then σ.1 273 k else (σ.1 272 k + σ.1 273 k) / 2
def oX6_setBases : jO := joRI fun a x σ => (a = 259 ∧ cOK σ 260, fun v τ => v = none ∧ jfr (aRow 274) b0 σ τ ∧ ∀ k, k < cM σ 260 → τ.1 274 k = basV σ x k)
set_option maxRecDepth 100000 in
set_option maxHeartbeats 4000000 in
theorem CX6_setBases (g : jG) (n : Nat) : jOk g (n + 0) mX6_setBases oX6_setBases := by
  refine joRI_ok ?_
  rintro _ x σ ⟨rfl, hok⟩
  obtain ⟨m6, em, -, -⟩ := cOK_n hok
  obtain ⟨m, eM⟩ : ∃ m, m = cM σ 260 := ⟨_, rfl⟩
  refine jCon.ofP (by decide +kernel) (by simp [lg_sl, Value.category]) (fun post hp => ?_)
  refine jvk_ok TX6_setBases (V := []) (S := []) (fun _ h => absurd h List.not_mem_nil) (fun _ h => absurd h List.not_mem_nil) [2] 20 _ _ _ _ ?_
  simp (maxSteps := 1000000) [↓Bool.cond_eq_ite, -Prod.forall, -Prod.exists, -Prod.mk.injEq, jvk, tX6_setBases, jtb, jol, jst, jlk, jcmp, jbin, jfl, fX6, jc2, lX6, jcat, jel, lv_args, Value.category, jins, jsrt, jins2, jble, jblt, jf3, List.filter_cons, List.filter_nil, G_prop, G_choice, G_flat, -Int32.not_le, -Int32.not_lt, -Int64.not_le, -Int64.not_lt, i3lt, i6lt]
  try simp (disch := omega) [-Prod.forall, -Prod.exists, -Prod.mk.injEq, -Int32.not_le, -Int32.not_lt, -Int64.not_le, -Int64.not_lt, i3lt, i6lt]
  rw [← eM] at hp m6 em
  have loop := jloop (P := fun k => ∀ ρ : jM, jfr (aRow 274) b0 σ ρ → (∀ i, i < k → ρ.1 274 i = basV σ x i) → jW g mX6_setBases n post 2 [(0, .ref 259), (1, .int x), (2, .int (nI k))] [] ρ) (N := m) (fun ρ f h => by
    have e4 : ρ.1 260 0 = nI m := (f.2.2 260 0 rfl).trans em
    have hle : nI m ≤ nI m := nI_le (Nat.le_refl _) (by omega)
    refine jvk_ok TX6_setBases (V := []) (S := []) (fun _ h => absurd h List.not_mem_nil) (fun _ h => absurd h List.not_mem_nil) [2] 20 _ _ _ _ ?_
    simp (maxSteps := 1000000) [↓Bool.cond_eq_ite, -Prod.forall, -Prod.exists, -Prod.mk.injEq, jvk, tX6_setBases, jtb, jol, jst, jlk, jcmp, jbin, jfl, fX6, jc2, lX6, jcat, jel, lv_args, Value.category, jins, jsrt, jins2, jble, jblt, jf3, List.filter_cons, List.filter_nil, G_prop, G_choice, G_flat, -Int32.not_le, -Int32.not_lt, -Int64.not_le, -Int64.not_lt, i3lt, i6lt, e4, hle]
    try simp (disch := omega) [-Prod.forall, -Prod.exists, -Prod.mk.injEq, -Int32.not_le, -Int32.not_lt, -Int64.not_le, -Int64.not_lt, i3lt, i6lt, e4, hle]
    exact hp _ _ ⟨rfl, f, h⟩) (fun k hk ih ρ f h => by
    have e4 : ρ.1 260 0 = nI m := (f.2.2 260 0 rfl).trans em
    have hlt : ¬ nI m ≤ nI k := nI_ge hk (by omega)
    have jk : jin (nI k) 6 := jin_nI (by omega) (by decide)
    have eck : (nI k).toNatClampNeg = k := nI_clamp (by omega)
    have e2 : ρ.1 272 k = σ.1 272 k := f.2.2 272 k rfl
    have e3 : ρ.1 273 k = σ.1 273 k := f.2.2 273 k rfl
    have k1 := ih (jup ρ 274 k (basV σ x k)) (f.up _ (by unfold aRow; rfl)) (fun i hi => by
      rw [jup_1]
      by_cases z : i = k
      · rw [if_pos ⟨rfl, z⟩, z]
      · rw [if_neg (fun w => z w.2)]; exact h i (by omega))
    by_cases c0 : x = 0
    · have eb : basV σ x k = σ.1 272 k := by unfold basV; rw [if_pos c0]
      rw [eb] at k1
      refine jvk_ok TX6_setBases (V := []) (S := []) (fun _ h => absurd h List.not_mem_nil) (fun _ h => absurd h List.not_mem_nil) [2] 40 _ _ _ _ ?_
      simp (maxSteps := 1000000) [↓Bool.cond_eq_ite, -Prod.forall, -Prod.exists, -Prod.mk.injEq, jvk, tX6_setBases, jtb, jol, jst, jlk, jcmp, jbin, jfl, fX6, jc2, lX6, jcat, jel, lv_args, Value.category, jins, jsrt, jins2, jble, jblt, jf3, List.filter_cons, List.filter_nil, G_prop, G_choice, G_flat, -Int32.not_le, -Int32.not_lt, -Int64.not_le, -Int64.not_lt, i3lt, i6lt, e4, hlt, jk, eck, e2, e3, c0, nI_1]
      try simp (disch := omega) [-Prod.forall, -Prod.exists, -Prod.mk.injEq, -Int32.not_le, -Int32.not_lt, -Int64.not_le, -Int64.not_lt, i3lt, i6lt, e4, hlt, jk, eck, e2, e3, c0, nI_1]
      simpa [c0] using k1
    · by_cases c1 : x = 1
      · have eb : basV σ x k = σ.1 273 k := by unfold basV; rw [if_neg c0, if_pos c1]
        rw [eb] at k1
        have n10 : ¬ (1 : Int32) = 0 := by decide
        refine jvk_ok TX6_setBases (V := []) (S := []) (fun _ h => absurd h List.not_mem_nil) (fun _ h => absurd h List.not_mem_nil) [2] 40 _ _ _ _ ?_
        simp (maxSteps := 1000000) [↓Bool.cond_eq_ite, -Prod.forall, -Prod.exists, -Prod.mk.injEq, jvk, tX6_setBases, jtb, jol, jst, jlk, jcmp, jbin, jfl, fX6, jc2, lX6, jcat, jel, lv_args, Value.category, jins, jsrt, jins2, jble, jblt, jf3, List.filter_cons, List.filter_nil, G_prop, G_choice, G_flat, -Int32.not_le, -Int32.not_lt, -Int64.not_le, -Int64.not_lt, i3lt, i6lt, e4, hlt, jk, eck, e2, e3, c1, n10, nI_1]
        try simp (disch := omega) [-Prod.forall, -Prod.exists, -Prod.mk.injEq, -Int32.not_le, -Int32.not_lt, -Int64.not_le, -Int64.not_lt, i3lt, i6lt, e4, hlt, jk, eck, e2, e3, c1, n10, nI_1]
        simpa [c1] using k1
      · have eb : basV σ x k = (σ.1 272 k + σ.1 273 k) / 2 := by unfold basV; rw [if_neg c0, if_neg c1]
        rw [eb] at k1
        have n20 : ¬ (2 : Int32) = 0 := by decide
        refine jvk_ok TX6_setBases (V := []) (S := []) (fun _ h => absurd h List.not_mem_nil) (fun _ h => absurd h List.not_mem_nil) [2] 40 _ _ _ _ ?_
        simp (maxSteps := 1000000) [↓Bool.cond_eq_ite, -Prod.forall, -Prod.exists, -Prod.mk.injEq, jvk, tX6_setBases, jtb, jol, jst, jlk, jcmp, jbin, jfl, fX6, jc2, lX6, jcat, jel, lv_args, Value.category, jins, jsrt, jins2, jble, jblt, jf3, List.filter_cons, List.filter_nil, G_prop, G_choice, G_flat, -Int32.not_le, -Int32.not_lt, -Int64.not_le, -Int64.not_lt, i3lt, i6lt, e4, hlt, jk, eck, e2, e3, c0, c1, n20, nI_1]
        try simp (disch := omega) [-Prod.forall, -Prod.exists, -Prod.mk.injEq, -Int32.not_le, -Int32.not_lt, -Int64.not_le, -Int64.not_lt, i3lt, i6lt, e4, hlt, jk, eck, e2, e3, c0, c1, n20, nI_1]
        exact k1)
  have k0 := loop σ jfr.rfl (fun i hi => by omega)
  rw [nI_0] at k0
  exact k0
def exV (σ : jM) : Bool := decide (0 < cM σ 260 ∧ ¬ σ.1 270 0 = -1)
theorem ff_jin {p : Nat → Bool} {m : Nat} (hm : m ≤ 6) (h : ¬ ff p m 0 = -1) : jin (ff p m 0) 6 := by
  rcases ff_rng (p := p) m 0 with e | ⟨j, -, hj, -, e⟩
  · exact absurd e h
  · rw [e]; exact jin_nI (by omega) (by decide)
def oX6_placeOfPerson : jO := joRI fun a x σ => (a = 259 ∧ cOK σ 260, fun v τ => v = some (.int (if exV σ = true then ff (fun k => decide (σ.1 261 k = x)) (cM σ 260) 0 else -1)) ∧ τ = σ)
set_option maxRecDepth 100000 in
set_option maxHeartbeats 4000000 in
theorem CX6_placeOfPerson (g : jG) (n : Nat) : jOk g (n + 2) mX6_placeOfPerson oX6_placeOfPerson := by
  refine joRI_ok ?_
  rintro _ x σ ⟨rfl, hok⟩
  have hF := chF_of (b := 260) (Or.inl rfl)
  by_cases c : 0 < cM σ 260 ∧ ¬ σ.1 270 0 = -1
  · have hi : (if 0 < cM σ 260 ∧ ¬ σ.1 270 0 = -1 then (1 : Int32) else 0) = 1 := if_pos c
    have he : exV σ = true := by unfold exV; exact decide_eq_true c
    refine jCon.ofP (by decide +kernel) (by simp [lg_sl, Value.category]) (fun post hp => ?_)
    refine jvk_ok TX6_placeOfPerson (V := [(52, 1, 6, oX6_exists), (108, 2, 1, oX1_placeOf)]) (S := []) (List.forall_mem_cons.mpr ⟨⟨mX6_exists, n + 1, 0, TX6, 8, rfl, by omega, kX6_52, WX6_exists, rfl, CX6_exists g (n)⟩, (List.forall_mem_cons.mpr ⟨⟨mX1_placeOf, n + 0, 1, TX1, 7, rfl, by omega, kX6_108, WX1_placeOf, rfl, CX1_placeOf g (n)⟩, (fun _ h => absurd h List.not_mem_nil)⟩)⟩) (fun _ h => absurd h List.not_mem_nil) [4] 20 _ _ _ _ ?_
    simp (maxSteps := 1000000) [↓Bool.cond_eq_ite, -Prod.forall, -Prod.exists, -Prod.mk.injEq, jvk, tX6_placeOfPerson, jtb, jol, jst, jlk, jcmp, jbin, jfl, fX6, jc2, lX6, jcat, jel, lv_args, Value.category, jins, jsrt, jins2, jble, jblt, jf3, List.filter_cons, List.filter_nil, G_prop, G_choice, G_flat, oX6_exists, oX1_placeOf, joR, joRI, -Int32.not_le, -Int32.not_lt, -Int64.not_le, -Int64.not_lt, i3lt, i6lt, hok]
    try simp (disch := omega) [-Prod.forall, -Prod.exists, -Prod.mk.injEq, -Int32.not_le, -Int32.not_lt, -Int64.not_le, -Int64.not_lt, i3lt, i6lt, hok]
    rw [hi]
    refine jvk_ok TX6_placeOfPerson (V := [(52, 1, 6, oX6_exists), (108, 2, 1, oX1_placeOf)]) (S := []) (List.forall_mem_cons.mpr ⟨⟨mX6_exists, n + 1, 0, TX6, 8, rfl, by omega, kX6_52, WX6_exists, rfl, CX6_exists g (n)⟩, (List.forall_mem_cons.mpr ⟨⟨mX1_placeOf, n + 0, 1, TX1, 7, rfl, by omega, kX6_108, WX1_placeOf, rfl, CX1_placeOf g (n)⟩, (fun _ h => absurd h List.not_mem_nil)⟩)⟩) (fun _ h => absurd h List.not_mem_nil) [15] 20 _ _ _ _ ?_
    simp (maxSteps := 1000000) [↓Bool.cond_eq_ite, -Prod.forall, -Prod.exists, -Prod.mk.injEq, jvk, tX6_placeOfPerson, jtb, jol, jst, jlk, jcmp, jbin, jfl, fX6, jc2, lX6, jcat, jel, lv_args, Value.category, jins, jsrt, jins2, jble, jblt, jf3, List.filter_cons, List.filter_nil, G_prop, G_choice, G_flat, oX6_exists, oX1_placeOf, joR, joRI, -Int32.not_le, -Int32.not_lt, -Int64.not_le, -Int64.not_lt, i3lt, i6lt, hF, hok]
    try simp (disch := omega) [-Prod.forall, -Prod.exists, -Prod.mk.injEq, -Int32.not_le, -Int32.not_lt, -Int64.not_le, -Int64.not_lt, i3lt, i6lt, hF, hok]
    refine jvk_ok TX6_placeOfPerson (V := [(52, 1, 6, oX6_exists), (108, 2, 1, oX1_placeOf)]) (S := []) (List.forall_mem_cons.mpr ⟨⟨mX6_exists, n + 1, 0, TX6, 8, rfl, by omega, kX6_52, WX6_exists, rfl, CX6_exists g (n)⟩, (List.forall_mem_cons.mpr ⟨⟨mX1_placeOf, n + 0, 1, TX1, 7, rfl, by omega, kX6_108, WX1_placeOf, rfl, CX1_placeOf g (n)⟩, (fun _ h => absurd h List.not_mem_nil)⟩)⟩) (fun _ h => absurd h List.not_mem_nil) [] 10 _ _ _ _ ?_
    simp (maxSteps := 1000000) [↓Bool.cond_eq_ite, -Prod.forall, -Prod.exists, -Prod.mk.injEq, jvk, tX6_placeOfPerson, jtb, jol, jst, jlk, jcmp, jbin, jfl, fX6, jc2, lX6, jcat, jel, lv_args, Value.category, jins, jsrt, jins2, jble, jblt, jf3, List.filter_cons, List.filter_nil, G_prop, G_choice, G_flat, oX6_exists, oX1_placeOf, joR, joRI, -Int32.not_le, -Int32.not_lt, -Int64.not_le, -Int64.not_lt, i3lt, i6lt]
    try simp (disch := omega) [-Prod.forall, -Prod.exists, -Prod.mk.injEq, -Int32.not_le, -Int32.not_lt, -Int64.not_le, -Int64.not_lt, i3lt, i6lt]
    exact hp _ _ ⟨by rw [if_pos he], rfl⟩
  · have hi : (if 0 < cM σ 260 ∧ ¬ σ.1 270 0 = -1 then (1 : Int32) else 0) = 0 := if_neg c
    have he : ¬ exV σ = true := by unfold exV; rw [decide_eq_true_eq]; exact c
    refine jCon.ofP (by decide +kernel) (by simp [lg_sl, Value.category]) (fun post hp => ?_)
    refine jvk_ok TX6_placeOfPerson (V := [(52, 1, 6, oX6_exists), (108, 2, 1, oX1_placeOf)]) (S := []) (List.forall_mem_cons.mpr ⟨⟨mX6_exists, n + 1, 0, TX6, 8, rfl, by omega, kX6_52, WX6_exists, rfl, CX6_exists g (n)⟩, (List.forall_mem_cons.mpr ⟨⟨mX1_placeOf, n + 0, 1, TX1, 7, rfl, by omega, kX6_108, WX1_placeOf, rfl, CX1_placeOf g (n)⟩, (fun _ h => absurd h List.not_mem_nil)⟩)⟩) (fun _ h => absurd h List.not_mem_nil) [4] 20 _ _ _ _ ?_
    simp (maxSteps := 1000000) [↓Bool.cond_eq_ite, -Prod.forall, -Prod.exists, -Prod.mk.injEq, jvk, tX6_placeOfPerson, jtb, jol, jst, jlk, jcmp, jbin, jfl, fX6, jc2, lX6, jcat, jel, lv_args, Value.category, jins, jsrt, jins2, jble, jblt, jf3, List.filter_cons, List.filter_nil, G_prop, G_choice, G_flat, oX6_exists, oX1_placeOf, joR, joRI, -Int32.not_le, -Int32.not_lt, -Int64.not_le, -Int64.not_lt, i3lt, i6lt, hok]
    try simp (disch := omega) [-Prod.forall, -Prod.exists, -Prod.mk.injEq, -Int32.not_le, -Int32.not_lt, -Int64.not_le, -Int64.not_lt, i3lt, i6lt, hok]
    rw [hi]
    refine jvk_ok TX6_placeOfPerson (V := [(52, 1, 6, oX6_exists), (108, 2, 1, oX1_placeOf)]) (S := []) (List.forall_mem_cons.mpr ⟨⟨mX6_exists, n + 1, 0, TX6, 8, rfl, by omega, kX6_52, WX6_exists, rfl, CX6_exists g (n)⟩, (List.forall_mem_cons.mpr ⟨⟨mX1_placeOf, n + 0, 1, TX1, 7, rfl, by omega, kX6_108, WX1_placeOf, rfl, CX1_placeOf g (n)⟩, (fun _ h => absurd h List.not_mem_nil)⟩)⟩) (fun _ h => absurd h List.not_mem_nil) [] 20 _ _ _ _ ?_
    simp (maxSteps := 1000000) [↓Bool.cond_eq_ite, -Prod.forall, -Prod.exists, -Prod.mk.injEq, jvk, tX6_placeOfPerson, jtb, jol, jst, jlk, jcmp, jbin, jfl, fX6, jc2, lX6, jcat, jel, lv_args, Value.category, jins, jsrt, jins2, jble, jblt, jf3, List.filter_cons, List.filter_nil, G_prop, G_choice, G_flat, oX6_exists, oX1_placeOf, joR, joRI, -Int32.not_le, -Int32.not_lt, -Int64.not_le, -Int64.not_lt, i3lt, i6lt]
    try simp (disch := omega) [-Prod.forall, -Prod.exists, -Prod.mk.injEq, -Int32.not_le, -Int32.not_lt, -Int64.not_le, -Int64.not_lt, i3lt, i6lt]
    exact hp _ _ ⟨by rw [if_neg he], rfl⟩
def oX6_placeOfRoom : jO := joRI fun a x σ => (a = 259 ∧ cOK σ 260, fun v τ => v = some (.int (if exV σ = true then ff (fun k => decide (σ.1 269 k = x)) (cM σ 260) 0 else -1)) ∧ τ = σ)
set_option maxRecDepth 100000 in
set_option maxHeartbeats 4000000 in
theorem CX6_placeOfRoom (g : jG) (n : Nat) : jOk g (n + 2) mX6_placeOfRoom oX6_placeOfRoom := by
  refine joRI_ok ?_
  rintro _ x σ ⟨rfl, hok⟩
  have hF := chF_of (b := 260) (Or.inl rfl)
  by_cases c : 0 < cM σ 260 ∧ ¬ σ.1 270 0 = -1
  · have hi : (if 0 < cM σ 260 ∧ ¬ σ.1 270 0 = -1 then (1 : Int32) else 0) = 1 := if_pos c
    have he : exV σ = true := by unfold exV; exact decide_eq_true c
    refine jCon.ofP (by decide +kernel) (by simp [lg_sl, Value.category]) (fun post hp => ?_)
    refine jvk_ok TX6_placeOfRoom (V := [(52, 1, 6, oX6_exists), (112, 2, 1, oX1_placeIn)]) (S := []) (List.forall_mem_cons.mpr ⟨⟨mX6_exists, n + 1, 0, TX6, 8, rfl, by omega, kX6_52, WX6_exists, rfl, CX6_exists g (n)⟩, (List.forall_mem_cons.mpr ⟨⟨mX1_placeIn, n + 0, 1, TX1, 7, rfl, by omega, kX6_112, WX1_placeIn, rfl, CX1_placeIn g (n)⟩, (fun _ h => absurd h List.not_mem_nil)⟩)⟩) (fun _ h => absurd h List.not_mem_nil) [4] 20 _ _ _ _ ?_
    simp (maxSteps := 1000000) [↓Bool.cond_eq_ite, -Prod.forall, -Prod.exists, -Prod.mk.injEq, jvk, tX6_placeOfRoom, jtb, jol, jst, jlk, jcmp, jbin, jfl, fX6, jc2, lX6, jcat, jel, lv_args, Value.category, jins, jsrt, jins2, jble, jblt, jf3, List.filter_cons, List.filter_nil, G_prop, G_choice, G_flat, oX6_exists, oX1_placeIn, joR, joRI, -Int32.not_le, -Int32.not_lt, -Int64.not_le, -Int64.not_lt, i3lt, i6lt, hok]
    try simp (disch := omega) [-Prod.forall, -Prod.exists, -Prod.mk.injEq, -Int32.not_le, -Int32.not_lt, -Int64.not_le, -Int64.not_lt, i3lt, i6lt, hok]
    rw [hi]
    refine jvk_ok TX6_placeOfRoom (V := [(52, 1, 6, oX6_exists), (112, 2, 1, oX1_placeIn)]) (S := []) (List.forall_mem_cons.mpr ⟨⟨mX6_exists, n + 1, 0, TX6, 8, rfl, by omega, kX6_52, WX6_exists, rfl, CX6_exists g (n)⟩, (List.forall_mem_cons.mpr ⟨⟨mX1_placeIn, n + 0, 1, TX1, 7, rfl, by omega, kX6_112, WX1_placeIn, rfl, CX1_placeIn g (n)⟩, (fun _ h => absurd h List.not_mem_nil)⟩)⟩) (fun _ h => absurd h List.not_mem_nil) [15] 20 _ _ _ _ ?_
    simp (maxSteps := 1000000) [↓Bool.cond_eq_ite, -Prod.forall, -Prod.exists, -Prod.mk.injEq, jvk, tX6_placeOfRoom, jtb, jol, jst, jlk, jcmp, jbin, jfl, fX6, jc2, lX6, jcat, jel, lv_args, Value.category, jins, jsrt, jins2, jble, jblt, jf3, List.filter_cons, List.filter_nil, G_prop, G_choice, G_flat, oX6_exists, oX1_placeIn, joR, joRI, -Int32.not_le, -Int32.not_lt, -Int64.not_le, -Int64.not_lt, i3lt, i6lt, hF, hok]
    try simp (disch := omega) [-Prod.forall, -Prod.exists, -Prod.mk.injEq, -Int32.not_le, -Int32.not_lt, -Int64.not_le, -Int64.not_lt, i3lt, i6lt, hF, hok]
    refine jvk_ok TX6_placeOfRoom (V := [(52, 1, 6, oX6_exists), (112, 2, 1, oX1_placeIn)]) (S := []) (List.forall_mem_cons.mpr ⟨⟨mX6_exists, n + 1, 0, TX6, 8, rfl, by omega, kX6_52, WX6_exists, rfl, CX6_exists g (n)⟩, (List.forall_mem_cons.mpr ⟨⟨mX1_placeIn, n + 0, 1, TX1, 7, rfl, by omega, kX6_112, WX1_placeIn, rfl, CX1_placeIn g (n)⟩, (fun _ h => absurd h List.not_mem_nil)⟩)⟩) (fun _ h => absurd h List.not_mem_nil) [] 10 _ _ _ _ ?_
    simp (maxSteps := 1000000) [↓Bool.cond_eq_ite, -Prod.forall, -Prod.exists, -Prod.mk.injEq, jvk, tX6_placeOfRoom, jtb, jol, jst, jlk, jcmp, jbin, jfl, fX6, jc2, lX6, jcat, jel, lv_args, Value.category, jins, jsrt, jins2, jble, jblt, jf3, List.filter_cons, List.filter_nil, G_prop, G_choice, G_flat, oX6_exists, oX1_placeIn, joR, joRI, -Int32.not_le, -Int32.not_lt, -Int64.not_le, -Int64.not_lt, i3lt, i6lt]
    try simp (disch := omega) [-Prod.forall, -Prod.exists, -Prod.mk.injEq, -Int32.not_le, -Int32.not_lt, -Int64.not_le, -Int64.not_lt, i3lt, i6lt]
    exact hp _ _ ⟨by rw [if_pos he], rfl⟩
  · have hi : (if 0 < cM σ 260 ∧ ¬ σ.1 270 0 = -1 then (1 : Int32) else 0) = 0 := if_neg c
    have he : ¬ exV σ = true := by unfold exV; rw [decide_eq_true_eq]; exact c
    refine jCon.ofP (by decide +kernel) (by simp [lg_sl, Value.category]) (fun post hp => ?_)
    refine jvk_ok TX6_placeOfRoom (V := [(52, 1, 6, oX6_exists), (112, 2, 1, oX1_placeIn)]) (S := []) (List.forall_mem_cons.mpr ⟨⟨mX6_exists, n + 1, 0, TX6, 8, rfl, by omega, kX6_52, WX6_exists, rfl, CX6_exists g (n)⟩, (List.forall_mem_cons.mpr ⟨⟨mX1_placeIn, n + 0, 1, TX1, 7, rfl, by omega, kX6_112, WX1_placeIn, rfl, CX1_placeIn g (n)⟩, (fun _ h => absurd h List.not_mem_nil)⟩)⟩) (fun _ h => absurd h List.not_mem_nil) [4] 20 _ _ _ _ ?_
    simp (maxSteps := 1000000) [↓Bool.cond_eq_ite, -Prod.forall, -Prod.exists, -Prod.mk.injEq, jvk, tX6_placeOfRoom, jtb, jol, jst, jlk, jcmp, jbin, jfl, fX6, jc2, lX6, jcat, jel, lv_args, Value.category, jins, jsrt, jins2, jble, jblt, jf3, List.filter_cons, List.filter_nil, G_prop, G_choice, G_flat, oX6_exists, oX1_placeIn, joR, joRI, -Int32.not_le, -Int32.not_lt, -Int64.not_le, -Int64.not_lt, i3lt, i6lt, hok]
    try simp (disch := omega) [-Prod.forall, -Prod.exists, -Prod.mk.injEq, -Int32.not_le, -Int32.not_lt, -Int64.not_le, -Int64.not_lt, i3lt, i6lt, hok]
    rw [hi]
    refine jvk_ok TX6_placeOfRoom (V := [(52, 1, 6, oX6_exists), (112, 2, 1, oX1_placeIn)]) (S := []) (List.forall_mem_cons.mpr ⟨⟨mX6_exists, n + 1, 0, TX6, 8, rfl, by omega, kX6_52, WX6_exists, rfl, CX6_exists g (n)⟩, (List.forall_mem_cons.mpr ⟨⟨mX1_placeIn, n + 0, 1, TX1, 7, rfl, by omega, kX6_112, WX1_placeIn, rfl, CX1_placeIn g (n)⟩, (fun _ h => absurd h List.not_mem_nil)⟩)⟩) (fun _ h => absurd h List.not_mem_nil) [] 20 _ _ _ _ ?_
    simp (maxSteps := 1000000) [↓Bool.cond_eq_ite, -Prod.forall, -Prod.exists, -Prod.mk.injEq, jvk, tX6_placeOfRoom, jtb, jol, jst, jlk, jcmp, jbin, jfl, fX6, jc2, lX6, jcat, jel, lv_args, Value.category, jins, jsrt, jins2, jble, jblt, jf3, List.filter_cons, List.filter_nil, G_prop, G_choice, G_flat, oX6_exists, oX1_placeIn, joR, joRI, -Int32.not_le, -Int32.not_lt, -Int64.not_le, -Int64.not_lt, i3lt, i6lt]
    try simp (disch := omega) [-Prod.forall, -Prod.exists, -Prod.mk.injEq, -Int32.not_le, -Int32.not_lt, -Int64.not_le, -Int64.not_lt, i3lt, i6lt]
    exact hp _ _ ⟨by rw [if_neg he], rfl⟩
def plP (σ : jM) (x : Int32) : Int32 := if exV σ = true then ff (fun k => decide (σ.1 261 k = x)) (cM σ 260) 0 else -1
theorem plP_jin {σ : jM} {x : Int32} (h : cOK σ 260) (hn : ¬ plP σ x = -1) : jin (plP σ x) 6 := by
  unfold plP at hn ⊢
  by_cases e : exV σ = true
  · rw [if_pos e] at hn ⊢
    exact ff_jin (cOK_n h).1 hn
  · rw [if_neg e] at hn
    exact absurd rfl hn
def oX6_roomFor : jO := joRI fun a x σ => (a = 259 ∧ cOK σ 260, fun v τ => v = some (.int (if plP σ x = -1 then -1 else σ.1 269 (plP σ x).toNatClampNeg)) ∧ τ = σ)
set_option maxRecDepth 100000 in
set_option maxHeartbeats 4000000 in
theorem CX6_roomFor (g : jG) (n : Nat) : jOk g (n + 3) mX6_roomFor oX6_roomFor := by
  refine joRI_ok ?_
  rintro _ x σ ⟨rfl, hok⟩
  obtain ⟨y, ey⟩ : ∃ y, y = plP σ x := ⟨_, rfl⟩
  have ey2 : (if exV σ = true then ff (fun k => decide (σ.1 261 k = x)) (cM σ 260) 0 else -1) = y := ey.symm
  refine jCon.ofP (by decide +kernel) (by simp [lg_sl, Value.category]) (fun post hp => ?_)
  refine jvk_ok TX6_roomFor (V := [(115, 2, 6, oX6_placeOfPerson)]) (S := []) (List.forall_mem_cons.mpr ⟨⟨mX6_placeOfPerson, n + 2, 1, TX6, 8, rfl, by omega, kX6_115, WX6_placeOfPerson, rfl, CX6_placeOfPerson g (n)⟩, (fun _ h => absurd h List.not_mem_nil)⟩) (fun _ h => absurd h List.not_mem_nil) [5] 20 _ _ _ _ ?_
  simp (maxSteps := 1000000) [↓Bool.cond_eq_ite, -Prod.forall, -Prod.exists, -Prod.mk.injEq, jvk, tX6_roomFor, jtb, jol, jst, jlk, jcmp, jbin, jfl, fX6, jc2, lX6, jcat, jel, lv_args, Value.category, jins, jsrt, jins2, jble, jblt, jf3, List.filter_cons, List.filter_nil, G_prop, G_choice, G_flat, oX6_placeOfPerson, joRI, -Int32.not_le, -Int32.not_lt, -Int64.not_le, -Int64.not_lt, i3lt, i6lt, hok]
  try simp (disch := omega) [-Prod.forall, -Prod.exists, -Prod.mk.injEq, -Int32.not_le, -Int32.not_lt, -Int64.not_le, -Int64.not_lt, i3lt, i6lt, hok]
  rw [ey2]
  rw [← ey] at hp
  by_cases c : y = -1
  · refine jvk_ok TX6_roomFor (V := [(115, 2, 6, oX6_placeOfPerson)]) (S := []) (List.forall_mem_cons.mpr ⟨⟨mX6_placeOfPerson, n + 2, 1, TX6, 8, rfl, by omega, kX6_115, WX6_placeOfPerson, rfl, CX6_placeOfPerson g (n)⟩, (fun _ h => absurd h List.not_mem_nil)⟩) (fun _ h => absurd h List.not_mem_nil) [] 20 _ _ _ _ ?_
    simp (maxSteps := 1000000) [↓Bool.cond_eq_ite, -Prod.forall, -Prod.exists, -Prod.mk.injEq, jvk, tX6_roomFor, jtb, jol, jst, jlk, jcmp, jbin, jfl, fX6, jc2, lX6, jcat, jel, lv_args, Value.category, jins, jsrt, jins2, jble, jblt, jf3, List.filter_cons, List.filter_nil, G_prop, G_choice, G_flat, oX6_placeOfPerson, joRI, -Int32.not_le, -Int32.not_lt, -Int64.not_le, -Int64.not_lt, i3lt, i6lt, c]
    try simp (disch := omega) [-Prod.forall, -Prod.exists, -Prod.mk.injEq, -Int32.not_le, -Int32.not_lt, -Int64.not_le, -Int64.not_lt, i3lt, i6lt, c]
    exact hp _ _ ⟨by rw [if_pos c], rfl⟩
  · have jy : jin y 6 := by rw [ey] at c ⊢; exact plP_jin hok c
    refine jvk_ok TX6_roomFor (V := [(115, 2, 6, oX6_placeOfPerson)]) (S := []) (List.forall_mem_cons.mpr ⟨⟨mX6_placeOfPerson, n + 2, 1, TX6, 8, rfl, by omega, kX6_115, WX6_placeOfPerson, rfl, CX6_placeOfPerson g (n)⟩, (fun _ h => absurd h List.not_mem_nil)⟩) (fun _ h => absurd h List.not_mem_nil) [] 20 _ _ _ _ ?_
    simp (maxSteps := 1000000) [↓Bool.cond_eq_ite, -Prod.forall, -Prod.exists, -Prod.mk.injEq, jvk, tX6_roomFor, jtb, jol, jst, jlk, jcmp, jbin, jfl, fX6, jc2, lX6, jcat, jel, lv_args, Value.category, jins, jsrt, jins2, jble, jblt, jf3, List.filter_cons, List.filter_nil, G_prop, G_choice, G_flat, oX6_placeOfPerson, joRI, -Int32.not_le, -Int32.not_lt, -Int64.not_le, -Int64.not_lt, i3lt, i6lt, c, jy]
    try simp (disch := omega) [-Prod.forall, -Prod.exists, -Prod.mk.injEq, -Int32.not_le, -Int32.not_lt, -Int64.not_le, -Int64.not_lt, i3lt, i6lt, c, jy]
    exact hp _ _ ⟨by rw [if_neg c], rfl⟩
def oX6_paymentFor : jO := joRI fun a x σ => (a = 259 ∧ cOK σ 260, fun v τ => v = some (.int (if plP σ x = -1 then 0 else σ.1 279 (plP σ x).toNatClampNeg)) ∧ τ = σ)
set_option maxRecDepth 100000 in
set_option maxHeartbeats 4000000 in
theorem CX6_paymentFor (g : jG) (n : Nat) : jOk g (n + 3) mX6_paymentFor oX6_paymentFor := by
  refine joRI_ok ?_
  rintro _ x σ ⟨rfl, hok⟩
  obtain ⟨y, ey⟩ : ∃ y, y = plP σ x := ⟨_, rfl⟩
  have ey2 : (if exV σ = true then ff (fun k => decide (σ.1 261 k = x)) (cM σ 260) 0 else -1) = y := ey.symm
  refine jCon.ofP (by decide +kernel) (by simp [lg_sl, Value.category]) (fun post hp => ?_)
  refine jvk_ok TX6_paymentFor (V := [(115, 2, 6, oX6_placeOfPerson)]) (S := []) (List.forall_mem_cons.mpr ⟨⟨mX6_placeOfPerson, n + 2, 1, TX6, 8, rfl, by omega, kX6_115, WX6_placeOfPerson, rfl, CX6_placeOfPerson g (n)⟩, (fun _ h => absurd h List.not_mem_nil)⟩) (fun _ h => absurd h List.not_mem_nil) [5] 20 _ _ _ _ ?_
  simp (maxSteps := 1000000) [↓Bool.cond_eq_ite, -Prod.forall, -Prod.exists, -Prod.mk.injEq, jvk, tX6_paymentFor, jtb, jol, jst, jlk, jcmp, jbin, jfl, fX6, jc2, lX6, jcat, jel, lv_args, Value.category, jins, jsrt, jins2, jble, jblt, jf3, List.filter_cons, List.filter_nil, G_prop, G_choice, G_flat, oX6_placeOfPerson, joRI, -Int32.not_le, -Int32.not_lt, -Int64.not_le, -Int64.not_lt, i3lt, i6lt, hok]
  try simp (disch := omega) [-Prod.forall, -Prod.exists, -Prod.mk.injEq, -Int32.not_le, -Int32.not_lt, -Int64.not_le, -Int64.not_lt, i3lt, i6lt, hok]
  rw [ey2]
  rw [← ey] at hp
  by_cases c : y = -1
  · refine jvk_ok TX6_paymentFor (V := [(115, 2, 6, oX6_placeOfPerson)]) (S := []) (List.forall_mem_cons.mpr ⟨⟨mX6_placeOfPerson, n + 2, 1, TX6, 8, rfl, by omega, kX6_115, WX6_placeOfPerson, rfl, CX6_placeOfPerson g (n)⟩, (fun _ h => absurd h List.not_mem_nil)⟩) (fun _ h => absurd h List.not_mem_nil) [] 20 _ _ _ _ ?_
    simp (maxSteps := 1000000) [↓Bool.cond_eq_ite, -Prod.forall, -Prod.exists, -Prod.mk.injEq, jvk, tX6_paymentFor, jtb, jol, jst, jlk, jcmp, jbin, jfl, fX6, jc2, lX6, jcat, jel, lv_args, Value.category, jins, jsrt, jins2, jble, jblt, jf3, List.filter_cons, List.filter_nil, G_prop, G_choice, G_flat, oX6_placeOfPerson, joRI, -Int32.not_le, -Int32.not_lt, -Int64.not_le, -Int64.not_lt, i3lt, i6lt, c]
    try simp (disch := omega) [-Prod.forall, -Prod.exists, -Prod.mk.injEq, -Int32.not_le, -Int32.not_lt, -Int64.not_le, -Int64.not_lt, i3lt, i6lt, c]
    exact hp _ _ ⟨by rw [if_pos c], rfl⟩
  · have jy : jin y 6 := by rw [ey] at c ⊢; exact plP_jin hok c
    refine jvk_ok TX6_paymentFor (V := [(115, 2, 6, oX6_placeOfPerson)]) (S := []) (List.forall_mem_cons.mpr ⟨⟨mX6_placeOfPerson, n + 2, 1, TX6, 8, rfl, by omega, kX6_115, WX6_placeOfPerson, rfl, CX6_placeOfPerson g (n)⟩, (fun _ h => absurd h List.not_mem_nil)⟩) (fun _ h => absurd h List.not_mem_nil) [] 20 _ _ _ _ ?_
    simp (maxSteps := 1000000) [↓Bool.cond_eq_ite, -Prod.forall, -Prod.exists, -Prod.mk.injEq, jvk, tX6_paymentFor, jtb, jol, jst, jlk, jcmp, jbin, jfl, fX6, jc2, lX6, jcat, jel, lv_args, Value.category, jins, jsrt, jins2, jble, jblt, jf3, List.filter_cons, List.filter_nil, G_prop, G_choice, G_flat, oX6_placeOfPerson, joRI, -Int32.not_le, -Int32.not_lt, -Int64.not_le, -Int64.not_lt, i3lt, i6lt, c, jy]
    try simp (disch := omega) [-Prod.forall, -Prod.exists, -Prod.mk.injEq, -Int32.not_le, -Int32.not_lt, -Int64.not_le, -Int64.not_lt, i3lt, i6lt, c, jy]
    exact hp _ _ ⟨by rw [if_neg c], rfl⟩
def gvO (σ : jM) (k : Nat) : Int32 := 120 * woR σ 260 k k - σ.1 277 k
def oX6_gainOver : jO := joRI fun a x σ => (a = 259 ∧ cOK σ 260 ∧ jin x 6, fun v τ => v = some (.int (gvO σ x.toNatClampNeg)) ∧ τ = σ)
set_option maxRecDepth 100000 in
set_option maxHeartbeats 4000000 in
theorem CX6_gainOver (g : jG) (n : Nat) : jOk g (n + 1) mX6_gainOver oX6_gainOver := by
  refine joRI_ok ?_
  rintro _ x σ ⟨rfl, hok, hx⟩
  have hF := chF_of (b := 260) (Or.inl rfl)
  refine jCon.ofP (by decide +kernel) (by simp [lg_sl, Value.category]) (fun post hp => ?_)
  refine jvk_ok TX6_gainOver (V := [(88, 3, 1, oX1_worthOfRoom)]) (S := []) (List.forall_mem_cons.mpr ⟨⟨mX1_worthOfRoom, n + 0, 2, TX1, 7, rfl, by omega, kX6_88, WX1_worthOfRoom, rfl, CX1_worthOfRoom g (n)⟩, (fun _ h => absurd h List.not_mem_nil)⟩) (fun _ h => absurd h List.not_mem_nil) [11] 20 _ _ _ _ ?_
  simp (maxSteps := 1000000) [↓Bool.cond_eq_ite, -Prod.forall, -Prod.exists, -Prod.mk.injEq, jvk, tX6_gainOver, jtb, jol, jst, jlk, jcmp, jbin, jfl, fX6, jc2, lX6, jcat, jel, lv_args, Value.category, jins, jsrt, jins2, jble, jblt, jf3, List.filter_cons, List.filter_nil, G_prop, G_choice, G_flat, oX1_worthOfRoom, joRII, -Int32.not_le, -Int32.not_lt, -Int64.not_le, -Int64.not_lt, i3lt, i6lt, hF, hok, hx]
  try simp (disch := omega) [-Prod.forall, -Prod.exists, -Prod.mk.injEq, -Int32.not_le, -Int32.not_lt, -Int64.not_le, -Int64.not_lt, i3lt, i6lt, hF, hok, hx]
  refine jvk_ok TX6_gainOver (V := [(88, 3, 1, oX1_worthOfRoom)]) (S := []) (List.forall_mem_cons.mpr ⟨⟨mX1_worthOfRoom, n + 0, 2, TX1, 7, rfl, by omega, kX6_88, WX1_worthOfRoom, rfl, CX1_worthOfRoom g (n)⟩, (fun _ h => absurd h List.not_mem_nil)⟩) (fun _ h => absurd h List.not_mem_nil) [] 20 _ _ _ _ ?_
  simp (maxSteps := 1000000) [↓Bool.cond_eq_ite, -Prod.forall, -Prod.exists, -Prod.mk.injEq, jvk, tX6_gainOver, jtb, jol, jst, jlk, jcmp, jbin, jfl, fX6, jc2, lX6, jcat, jel, lv_args, Value.category, jins, jsrt, jins2, jble, jblt, jf3, List.filter_cons, List.filter_nil, G_prop, G_choice, G_flat, oX1_worthOfRoom, joRII, -Int32.not_le, -Int32.not_lt, -Int64.not_le, -Int64.not_lt, i3lt, i6lt, hx]
  try simp (disch := omega) [-Prod.forall, -Prod.exists, -Prod.mk.injEq, -Int32.not_le, -Int32.not_lt, -Int64.not_le, -Int64.not_lt, i3lt, i6lt, hx]
  exact hp _ _ ⟨rfl, rfl⟩
