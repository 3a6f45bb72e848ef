/-! Tokens (2, its text 3): kindAt, advance, open, forget -/
def kLn (σ : jM) : Nat := (σ.1 2 2).toNatClampNeg
def kT (σ : jM) : Prop := 0 ≤ σ.1 2 2 ∧ σ.1 2 2 ≤ 900
theorem kT_n {σ : jM} (h : kT σ) : kLn σ ≤ 900 ∧ σ.1 2 2 = nI (kLn σ) := by
  obtain ⟨s, h1, h2, h3⟩ := nI_rng h.1 h.2 (by decide)
  unfold kLn
  rw [h3]
  exact ⟨h1, h2⟩
def oX10_kindAt : jO := joRI fun a x σ => (a = 2 ∧ kT σ ∧ ∃ p, x = nI p ∧ p ≤ 900, fun v τ => v = some (.int (nI (kn (σ.1 3) (kLn σ) x.toNatClampNeg))) ∧ τ = σ)
set_option maxRecDepth 100000 in
set_option maxHeartbeats 4000000 in
theorem CX10_kindAt (g : jG) (n : Nat) : jOk g (n + 0) mX10_kindAt oX10_kindAt := by
  refine joRI_ok ?_
  rintro _ _ σ ⟨rfl, hT, p, rfl, hp9⟩
  obtain ⟨l9, eL⟩ := kT_n hT
  have ecp : (nI p).toNatClampNeg = p := nI_clamp (by omega)
  have p0 : ¬ nI p < 0 := nI_pos (by omega)
  refine jCon.ofP (by decide +kernel) (by simp [lg_sl, Value.category]) (fun post hp => ?_)
  rw [ecp] at hp
  by_cases c : p < kLn σ
  · have c1 : ¬ nI (kLn σ) ≤ nI p := nI_ge c (by omega)
    have jp : jin (nI p) 900 := jin_nI (by omega) (by decide)
    obtain ⟨x, ex⟩ : ∃ x, x = σ.1 3 p := ⟨_, rfl⟩
    have eK : kn (σ.1 3) (kLn σ) p = if 97 ≤ x ∧ x ≤ 122 then 2 else if 48 ≤ x ∧ x ≤ 57 then 3 else if x = 59 then 4 else if x = 32 ∨ x = 10 then 1 else 5 := by
      rw [ex]
      unfold kn
      rw [if_pos c]
    have last : ∀ k, kn (σ.1 3) (kLn σ) p = k → post (some (.int (nI k))) σ := fun k e => hp _ _ ⟨by rw [e], rfl⟩
    have t57 : ¬ (97 ≤ x ∧ x ≤ 122) → ¬ (48 ≤ x ∧ x ≤ 57) → ¬ x = 59 → jW g mX10_kindAt n post 57 [(0, .ref 2), (1, .int (nI p)), (2, .int x)] [] σ := fun h1 h2 h3 => by
      rw [if_neg h1, if_neg h2, if_neg h3] at eK
      by_cases d6 : x = 32
      · have k1 := last 1 (by rw [eK, if_pos (Or.inl d6)])
        refine jvk_ok TX10_kindAt (V := []) (S := []) (fun _ h => absurd h List.not_mem_nil) (fun _ h => absurd h List.not_mem_nil) [] 20 _ _ _ _ ?_
        simp (maxSteps := 1000000) [↓Bool.cond_eq_ite, -Prod.forall, -Prod.exists, -Prod.mk.injEq, jvk, tX10_kindAt, jtb, jol, jst, jlk, jcmp, jbin, jfl, fX10, jc2, lX10, jcat, jel, lv_args, Value.category, jins, jsrt, jins2, jble, jblt, jf3, List.filter_cons, List.filter_nil, G_loader, -Int32.not_le, -Int32.not_lt, -Int64.not_le, -Int64.not_lt, i3lt, i6lt, d6]
        try simp (disch := omega) [-Prod.forall, -Prod.exists, -Prod.mk.injEq, -Int32.not_le, -Int32.not_lt, -Int64.not_le, -Int64.not_lt, i3lt, i6lt, d6]
        exact k1
      · by_cases d7 : x = 10
        · have k1 := last 1 (by rw [eK, if_pos (Or.inr d7)])
          have d6' : ¬ (10 : Int32) = 32 := by decide
          refine jvk_ok TX10_kindAt (V := []) (S := []) (fun _ h => absurd h List.not_mem_nil) (fun _ h => absurd h List.not_mem_nil) [] 20 _ _ _ _ ?_
          simp (maxSteps := 1000000) [↓Bool.cond_eq_ite, -Prod.forall, -Prod.exists, -Prod.mk.injEq, jvk, tX10_kindAt, jtb, jol, jst, jlk, jcmp, jbin, jfl, fX10, jc2, lX10, jcat, jel, lv_args, Value.category, jins, jsrt, jins2, jble, jblt, jf3, List.filter_cons, List.filter_nil, G_loader, -Int32.not_le, -Int32.not_lt, -Int64.not_le, -Int64.not_lt, i3lt, i6lt, d7, d6']
          try simp (disch := omega) [-Prod.forall, -Prod.exists, -Prod.mk.injEq, -Int32.not_le, -Int32.not_lt, -Int64.not_le, -Int64.not_lt, i3lt, i6lt, d7, d6']
          exact k1
        · have k1 := last 5 (by rw [eK, if_neg (fun z => z.elim d6 d7)])
          refine jvk_ok TX10_kindAt (V := []) (S := []) (fun _ h => absurd h List.not_mem_nil) (fun _ h => absurd h List.not_mem_nil) [] 20 _ _ _ _ ?_
          simp (maxSteps := 1000000) [↓Bool.cond_eq_ite, -Prod.forall, -Prod.exists, -Prod.mk.injEq, jvk, tX10_kindAt, jtb, jol, jst, jlk, jcmp, jbin, jfl, fX10, jc2, lX10, jcat, jel, lv_args, Value.category, jins, jsrt, jins2, jble, jblt, jf3, List.filter_cons, List.filter_nil, G_loader, -Int32.not_le, -Int32.not_lt, -Int64.not_le, -Int64.not_lt, i3lt, i6lt, d6, d7]
          try simp (disch := omega) [-Prod.forall, -Prod.exists, -Prod.mk.injEq, -Int32.not_le, -Int32.not_lt, -Int64.not_le, -Int64.not_lt, i3lt, i6lt, d6, d7]
          exact k1
    have t49 : ¬ (97 ≤ x ∧ x ≤ 122) → ¬ (48 ≤ x ∧ x ≤ 57) → jW g mX10_kindAt n post 49 [(0, .ref 2), (1, .int (nI p)), (2, .int x)] [] σ := fun h1 h2 => by
      by_cases d5 : x = 59
      · rw [if_neg h1, if_neg h2, if_pos d5] at eK
        have k1 := last 4 eK
        refine jvk_ok TX10_kindAt (V := []) (S := []) (fun _ h => absurd h List.not_mem_nil) (fun _ h => absurd h List.not_mem_nil) [57] 20 _ _ _ _ ?_
        simp (maxSteps := 1000000) [↓Bool.cond_eq_ite, -Prod.forall, -Prod.exists, -Prod.mk.injEq, jvk, tX10_kindAt, jtb, jol, jst, jlk, jcmp, jbin, jfl, fX10, jc2, lX10, jcat, jel, lv_args, Value.category, jins, jsrt, jins2, jble, jblt, jf3, List.filter_cons, List.filter_nil, G_loader, -Int32.not_le, -Int32.not_lt, -Int64.not_le, -Int64.not_lt, i3lt, i6lt, d5]
        try simp (disch := omega) [-Prod.forall, -Prod.exists, -Prod.mk.injEq, -Int32.not_le, -Int32.not_lt, -Int64.not_le, -Int64.not_lt, i3lt, i6lt, d5]
        exact k1
      · have k1 := t57 h1 h2 d5
        refine jvk_ok TX10_kindAt (V := []) (S := []) (fun _ h => absurd h List.not_mem_nil) (fun _ h => absurd h List.not_mem_nil) [57] 20 _ _ _ _ ?_
        simp (maxSteps := 1000000) [↓Bool.cond_eq_ite, -Prod.forall, -Prod.exists, -Prod.mk.injEq, jvk, tX10_kindAt, jtb, jol, jst, jlk, jcmp, jbin, jfl, fX10, jc2, lX10, jcat, jel, lv_args, Value.category, jins, jsrt, jins2, jble, jblt, jf3, List.filter_cons, List.filter_nil, G_loader, -Int32.not_le, -Int32.not_lt, -Int64.not_le, -Int64.not_lt, i3lt, i6lt, d5]
        try simp (disch := omega) [-Prod.forall, -Prod.exists, -Prod.mk.injEq, -Int32.not_le, -Int32.not_lt, -Int64.not_le, -Int64.not_lt, i3lt, i6lt, d5]
        exact k1
    have t35 : ¬ (97 ≤ x ∧ x ≤ 122) → jW g mX10_kindAt n post 35 [(0, .ref 2), (1, .int (nI p)), (2, .int x)] [] σ := fun h1 => by
      by_cases a3 : 48 ≤ x
      · by_cases a4 : x ≤ 57
        · rw [if_neg h1, if_pos ⟨a3, a4⟩] at eK
          have k1 := last 3 eK
          refine jvk_ok TX10_kindAt (V := []) (S := []) (fun _ h => absurd h List.not_mem_nil) (fun _ h => absurd h List.not_mem_nil) [49] 20 _ _ _ _ ?_
          simp (maxSteps := 1000000) [↓Bool.cond_eq_ite, -Prod.forall, -Prod.exists, -Prod.mk.injEq, jvk, tX10_kindAt, jtb, jol, jst, jlk, jcmp, jbin, jfl, fX10, jc2, lX10, jcat, jel, lv_args, Value.category, jins, jsrt, jins2, jble, jblt, jf3, List.filter_cons, List.filter_nil, G_loader, -Int32.not_le, -Int32.not_lt, -Int64.not_le, -Int64.not_lt, i3lt, i6lt, a3, a4]
          try simp (disch := omega) [-Prod.forall, -Prod.exists, -Prod.mk.injEq, -Int32.not_le, -Int32.not_lt, -Int64.not_le, -Int64.not_lt, i3lt, i6lt, a3, a4]
          exact k1
        · have k1 := t49 h1 (fun z => a4 z.2)
          refine jvk_ok TX10_kindAt (V := []) (S := []) (fun _ h => absurd h List.not_mem_nil) (fun _ h => absurd h List.not_mem_nil) [49] 20 _ _ _ _ ?_
          simp (maxSteps := 1000000) [↓Bool.cond_eq_ite, -Prod.forall, -Prod.exists, -Prod.mk.injEq, jvk, tX10_kindAt, jtb, jol, jst, jlk, jcmp, jbin, jfl, fX10, jc2, lX10, jcat, jel, lv_args, Value.category, jins, jsrt, jins2, jble, jblt, jf3, List.filter_cons, List.filter_nil, G_loader, -Int32.not_le, -Int32.not_lt, -Int64.not_le, -Int64.not_lt, i3lt, i6lt, a3, a4]
          try simp (disch := omega) [-Prod.forall, -Prod.exists, -Prod.mk.injEq, -Int32.not_le, -Int32.not_lt, -Int64.not_le, -Int64.not_lt, i3lt, i6lt, a3, a4]
          exact k1
      · have k1 := t49 h1 (fun z => a3 z.1)
        refine jvk_ok TX10_kindAt (V := []) (S := []) (fun _ h => absurd h List.not_mem_nil) (fun _ h => absurd h List.not_mem_nil) [49] 20 _ _ _ _ ?_
        simp (maxSteps := 1000000) [↓Bool.cond_eq_ite, -Prod.forall, -Prod.exists, -Prod.mk.injEq, jvk, tX10_kindAt, jtb, jol, jst, jlk, jcmp, jbin, jfl, fX10, jc2, lX10, jcat, jel, lv_args, Value.category, jins, jsrt, jins2, jble, jblt, jf3, List.filter_cons, List.filter_nil, G_loader, -Int32.not_le, -Int32.not_lt, -Int64.not_le, -Int64.not_lt, i3lt, i6lt, a3]
        try simp (disch := omega) [-Prod.forall, -Prod.exists, -Prod.mk.injEq, -Int32.not_le, -Int32.not_lt, -Int64.not_le, -Int64.not_lt, i3lt, i6lt, a3]
        exact k1
    have ex' := ex.symm
    by_cases a1 : 97 ≤ x
    · by_cases a2 : x ≤ 122
      · rw [if_pos ⟨a1, a2⟩] at eK
        have k1 := last 2 eK
        refine jvk_ok TX10_kindAt (V := []) (S := []) (fun _ h => absurd h List.not_mem_nil) (fun _ h => absurd h List.not_mem_nil) [35] 40 _ _ _ _ ?_
        simp (maxSteps := 1000000) [↓Bool.cond_eq_ite, -Prod.forall, -Prod.exists, -Prod.mk.injEq, jvk, tX10_kindAt, jtb, jol, jst, jlk, jcmp, jbin, jfl, fX10, jc2, lX10, jcat, jel, lv_args, Value.category, jins, jsrt, jins2, jble, jblt, jf3, List.filter_cons, List.filter_nil, G_loader, -Int32.not_le, -Int32.not_lt, -Int64.not_le, -Int64.not_lt, i3lt, i6lt, p0, eL, c1, jp, ecp, ex', a1, a2]
        try simp (disch := omega) [-Prod.forall, -Prod.exists, -Prod.mk.injEq, -Int32.not_le, -Int32.not_lt, -Int64.not_le, -Int64.not_lt, i3lt, i6lt, p0, eL, c1, jp, ecp, ex', a1, a2]
        exact k1
      · have k1 := t35 (fun z => a2 z.2)
        refine jvk_ok TX10_kindAt (V := []) (S := []) (fun _ h => absurd h List.not_mem_nil) (fun _ h => absurd h List.not_mem_nil) [35] 40 _ _ _ _ ?_
        simp (maxSteps := 1000000) [↓Bool.cond_eq_ite, -Prod.forall, -Prod.exists, -Prod.mk.injEq, jvk, tX10_kindAt, jtb, jol, jst, jlk, jcmp, jbin, jfl, fX10, jc2, lX10, jcat, jel, lv_args, Value.category, jins, jsrt, jins2, jble, jblt, jf3, List.filter_cons, List.filter_nil, G_loader, -Int32.not_le, -Int32.not_lt, -Int64.not_le, -Int64.not_lt, i3lt, i6lt, p0, eL, c1, jp, ecp, ex', a1, a2]
        try simp (disch := omega) [-Prod.forall, -Prod.exists, -Prod.mk.injEq, -Int32.not_le, -Int32.not_lt, -Int64.not_le, -Int64.not_lt, i3lt, i6lt, p0, eL, c1, jp, ecp, ex', a1, a2]
        exact k1
    · have k1 := t35 (fun z => a1 z.1)
      refine jvk_ok TX10_kindAt (V := []) (S := []) (fun _ h => absurd h List.not_mem_nil) (fun _ h => absurd h List.not_mem_nil) [35] 40 _ _ _ _ ?_
      simp (maxSteps := 1000000) [↓Bool.cond_eq_ite, -Prod.forall, -Prod.exists, -Prod.mk.injEq, jvk, tX10_kindAt, jtb, jol, jst, jlk, jcmp, jbin, jfl, fX10, jc2, lX10, jcat, jel, lv_args, Value.category, jins, jsrt, jins2, jble, jblt, jf3, List.filter_cons, List.filter_nil, G_loader, -Int32.not_le, -Int32.not_lt, -Int64.not_le, -Int64.not_lt, i3lt, i6lt, p0, eL, c1, jp, ecp, ex', a1]
      try simp (disch := omega) [-Prod.forall, -Prod.exists, -Prod.mk.injEq, -Int32.not_le, -Int32.not_lt, -Int64.not_le, -Int64.not_lt, i3lt, i6lt, p0, eL, c1, jp, ecp, ex', a1]
      exact k1
  · have c1 : nI (kLn σ) ≤ nI p := nI_le (by omega) (by omega)
    have k1 := hp (some (.int (nI 0))) σ ⟨by rw [kn_0.mpr (by omega)], rfl⟩
    refine jvk_ok TX10_kindAt (V := []) (S := []) (fun _ h => absurd h List.not_mem_nil) (fun _ h => absurd h List.not_mem_nil) [] 40 _ _ _ _ ?_
    simp (maxSteps := 1000000) [↓Bool.cond_eq_ite, -Prod.forall, -Prod.exists, -Prod.mk.injEq, jvk, tX10_kindAt, jtb, jol, jst, jlk, jcmp, jbin, jfl, fX10, jc2, lX10, jcat, jel, lv_args, Value.category, jins, jsrt, jins2, jble, jblt, jf3, List.filter_cons, List.filter_nil, G_loader, -Int32.not_le, -Int32.not_lt, -Int64.not_le, -Int64.not_lt, i3lt, i6lt, p0, eL, c1]
    try simp (disch := omega) [-Prod.forall, -Prod.exists, -Prod.mk.injEq, -Int32.not_le, -Int32.not_lt, -Int64.not_le, -Int64.not_lt, i3lt, i6lt, p0, eL, c1]
    exact k1
def aTo (a j : Nat) : Bool := a == 2 && (j == 3 || j == 4 || j == 5)
/-- the token at s is the one that stands here -/
def toP (τ : jM) (s : Nat) : Prop := s ≤ kLn τ ∧ τ.1 2 3 = nI s ∧ τ.1 2 4 = nI (en (τ.1 3) (kLn τ) s) ∧ τ.1 2 5 = nI (kn (τ.1 3) (kLn τ) s)
theorem to_fr {σ τ : jM} (f : jfr aTo b0 σ τ) : τ.1 3 = σ.1 3 ∧ kLn τ = kLn σ ∧ (kT σ → kT τ) := by
  have e2 : τ.1 2 2 = σ.1 2 2 := f.2.2 2 2 rfl
  refine ⟨funext fun j => f.2.2 3 j rfl, by unfold kLn; rw [e2], fun h => ?_⟩
  unfold kT
  rw [e2]
  exact h
theorem kn_5 (b : Nat → Int32) (len p : Nat) : kn b len p ≤ 5 := by
  unfold kn
  split
  · split
    · omega
    · split
      · omega
      · split
        · omega
        · split <;> omega
  · omega
def oX10_advance : jO := joR fun a σ => (a = 2 ∧ kT σ ∧ ∃ e, σ.1 2 4 = nI e ∧ e ≤ kLn σ, fun v τ => v = none ∧ jfr aTo b0 σ τ ∧ toP τ (rn (σ.1 3) (kLn σ) 1 (σ.1 2 4).toNatClampNeg))
set_option maxRecDepth 100000 in
set_option maxHeartbeats 4000000 in
theorem CTo_2 (g : jG) (n : Nat) {post : Option Value → jM → Prop} {σ : jM} (hT : kT σ) {s : Nat} (hk : kn (σ.1 3) (kLn σ) s = 2 ∨ kn (σ.1 3) (kLn σ) s = 3) (hp : ∀ τ, jfr aTo b0 σ τ → toP τ s → post none τ) : ∀ (d q : Nat) (τ : jM), kLn σ - q = d → q ≤ kLn σ → rn (σ.1 3) (kLn σ) (kn (σ.1 3) (kLn σ) s) q = en (σ.1 3) (kLn σ) s → jfr aTo b0 σ τ → τ.1 2 3 = nI s → τ.1 2 5 = nI (kn (σ.1 3) (kLn σ) s) → τ.1 2 4 = nI q → s ≤ kLn σ → jW g mX10_advance (n + 1) post 89 [(0, .ref 2)] [] τ := by
  obtain ⟨l9, eL⟩ := kT_n hT
  intro d
  induction d with
  | zero =>
    intro q τ hd hq he f h3 h5 h4 hs
    obtain ⟨e3, eL2, kT2⟩ := to_fr f
    have e22 : τ.1 2 2 = nI (kLn σ) := (f.2.2 2 2 rfl).trans eL
    have hle : nI (kLn σ) ≤ nI q := nI_le (by omega) (by omega)
    have k1 := hp τ f ⟨by rw [eL2]; exact hs, h3, by
      rw [h4, e3, eL2, ← he]
      rw [rn_stop (fun z => by
        have := (kn_0 (b := σ.1 3)).mpr (show kLn σ ≤ q by omega)
        omega)], by rw [h5, e3, eL2]⟩
    refine jvk_ok TX10_advance (V := [(43, 2, 10, oX10_kindAt)]) (S := [(31, 2, 0, oJ9_min_7cf53)]) (List.forall_mem_cons.mpr ⟨⟨mX10_kindAt, n + 0, 1, TX10, 6, rfl, by omega, kX10_43, WX10_kindAt, rfl, CX10_kindAt g (n)⟩, (fun _ h => absurd h List.not_mem_nil)⟩) (List.forall_mem_cons.mpr ⟨⟨mJ9_min_7cf53, n + 0, by omega, Or.inl kX10_31, WJ9_min_7cf53, CJ9_min_7cf53 g (n)⟩, (fun _ h => absurd h List.not_mem_nil)⟩) [89] 20 _ _ _ _ ?_
    simp (maxSteps := 1000000) [↓Bool.cond_eq_ite, -Prod.forall, -Prod.exists, -Prod.mk.injEq, jvk, tX10_advance, jtb, jol, jst, jlk, jcmp, jbin, jfl, fX10, jc2, lX10, jcat, jel, lv_args, Value.category, jins, jsrt, jins2, jble, jblt, jf3, List.filter_cons, List.filter_nil, G_loader, oX10_kindAt, oJ9_min_7cf53, joII, joRI, -Int32.not_le, -Int32.not_lt, -Int64.not_le, -Int64.not_lt, i3lt, i6lt, h4, e22, hle]
    try simp (disch := omega) [-Prod.forall, -Prod.exists, -Prod.mk.injEq, -Int32.not_le, -Int32.not_lt, -Int64.not_le, -Int64.not_lt, i3lt, i6lt, h4, e22, hle]
    exact k1
  | succ d ih =>
    intro q τ hd hq he f h3 h5 h4 hs
    obtain ⟨e3, eL2, kT2⟩ := to_fr f
    have hT2 := kT2 hT
    have e22 : τ.1 2 2 = nI (kLn σ) := (f.2.2 2 2 rfl).trans eL
    have hlt : ¬ nI (kLn σ) ≤ nI q := nI_ge (by omega) (by omega)
    have pre : ∃ z, nI q = nI z ∧ z ≤ 900 := ⟨q, rfl, by omega⟩
    have ecq : (nI q).toNatClampNeg = q := nI_clamp (by omega)
    have K5 := kn_5 (σ.1 3) (kLn σ) s
    have K6 := kn_5 (σ.1 3) (kLn σ) q
    have cK := nI_eq (a := kn (σ.1 3) (kLn σ) q) (b := kn (σ.1 3) (kLn σ) s) (by omega) (by omega)
    by_cases z : kn (σ.1 3) (kLn σ) q = kn (σ.1 3) (kLn σ) s
    · have z' : nI (kn (σ.1 3) (kLn σ) q) = nI (kn (σ.1 3) (kLn σ) s) := by rw [z]
      have k1 := ih (q + 1) (jup τ 2 4 (nI (q + 1))) (by omega) (by omega) (by
        rw [rn_step (by omega) z] at he
        exact he) (f.up _ rfl) (by simp [jup_1, h3]) (by simp [jup_1, h5]) (jup_s _ _ _ _) hs
      refine jvk_ok TX10_advance (V := [(43, 2, 10, oX10_kindAt)]) (S := [(31, 2, 0, oJ9_min_7cf53)]) (List.forall_mem_cons.mpr ⟨⟨mX10_kindAt, n + 0, 1, TX10, 6, rfl, by omega, kX10_43, WX10_kindAt, rfl, CX10_kindAt g (n)⟩, (fun _ h => absurd h List.not_mem_nil)⟩) (List.forall_mem_cons.mpr ⟨⟨mJ9_min_7cf53, n + 0, by omega, Or.inl kX10_31, WJ9_min_7cf53, CJ9_min_7cf53 g (n)⟩, (fun _ h => absurd h List.not_mem_nil)⟩) [108] 20 _ _ _ _ ?_
      simp (maxSteps := 1000000) [↓Bool.cond_eq_ite, -Prod.forall, -Prod.exists, -Prod.mk.injEq, jvk, tX10_advance, jtb, jol, jst, jlk, jcmp, jbin, jfl, fX10, jc2, lX10, jcat, jel, lv_args, Value.category, jins, jsrt, jins2, jble, jblt, jf3, List.filter_cons, List.filter_nil, G_loader, oX10_kindAt, oJ9_min_7cf53, joII, joRI, -Int32.not_le, -Int32.not_lt, -Int64.not_le, -Int64.not_lt, i3lt, i6lt, h4, e22, hlt, hT2, pre]
      try simp (disch := omega) [-Prod.forall, -Prod.exists, -Prod.mk.injEq, -Int32.not_le, -Int32.not_lt, -Int64.not_le, -Int64.not_lt, i3lt, i6lt, h4, e22, hlt, hT2, pre]
      rw [ecq, e3, eL2]
      refine jvk_ok TX10_advance (V := [(43, 2, 10, oX10_kindAt)]) (S := [(31, 2, 0, oJ9_min_7cf53)]) (List.forall_mem_cons.mpr ⟨⟨mX10_kindAt, n + 0, 1, TX10, 6, rfl, by omega, kX10_43, WX10_kindAt, rfl, CX10_kindAt g (n)⟩, (fun _ h => absurd h List.not_mem_nil)⟩) (List.forall_mem_cons.mpr ⟨⟨mJ9_min_7cf53, n + 0, by omega, Or.inl kX10_31, WJ9_min_7cf53, CJ9_min_7cf53 g (n)⟩, (fun _ h => absurd h List.not_mem_nil)⟩) [89] 30 _ _ _ _ ?_
      simp (maxSteps := 1000000) [↓Bool.cond_eq_ite, -Prod.forall, -Prod.exists, -Prod.mk.injEq, jvk, tX10_advance, jtb, jol, jst, jlk, jcmp, jbin, jfl, fX10, jc2, lX10, jcat, jel, lv_args, Value.category, jins, jsrt, jins2, jble, jblt, jf3, List.filter_cons, List.filter_nil, G_loader, oX10_kindAt, oJ9_min_7cf53, joII, joRI, -Int32.not_le, -Int32.not_lt, -Int64.not_le, -Int64.not_lt, i3lt, i6lt, h5, z', h4, nI_1]
      try simp (disch := omega) [-Prod.forall, -Prod.exists, -Prod.mk.injEq, -Int32.not_le, -Int32.not_lt, -Int64.not_le, -Int64.not_lt, i3lt, i6lt, h5, z', h4, nI_1]
      exact k1
    · have z' : ¬ nI (kn (σ.1 3) (kLn σ) q) = nI (kn (σ.1 3) (kLn σ) s) := fun y => z (cK.mp y)
      have k1 := hp τ f ⟨by rw [eL2]; exact hs, h3, by rw [h4, e3, eL2, ← he, rn_stop z], by rw [h5, e3, eL2]⟩
      refine jvk_ok TX10_advance (V := [(43, 2, 10, oX10_kindAt)]) (S := [(31, 2, 0, oJ9_min_7cf53)]) (List.forall_mem_cons.mpr ⟨⟨mX10_kindAt, n + 0, 1, TX10, 6, rfl, by omega, kX10_43, WX10_kindAt, rfl, CX10_kindAt g (n)⟩, (fun _ h => absurd h List.not_mem_nil)⟩) (List.forall_mem_cons.mpr ⟨⟨mJ9_min_7cf53, n + 0, by omega, Or.inl kX10_31, WJ9_min_7cf53, CJ9_min_7cf53 g (n)⟩, (fun _ h => absurd h List.not_mem_nil)⟩) [108] 20 _ _ _ _ ?_
      simp (maxSteps := 1000000) [↓Bool.cond_eq_ite, -Prod.forall, -Prod.exists, -Prod.mk.injEq, jvk, tX10_advance, jtb, jol, jst, jlk, jcmp, jbin, jfl, fX10, jc2, lX10, jcat, jel, lv_args, Value.category, jins, jsrt, jins2, jble, jblt, jf3, List.filter_cons, List.filter_nil, G_loader, oX10_kindAt, oJ9_min_7cf53, joII, joRI, -Int32.not_le, -Int32.not_lt, -Int64.not_le, -Int64.not_lt, i3lt, i6lt, h4, e22, hlt, hT2, pre]
      try simp (disch := omega) [-Prod.forall, -Prod.exists, -Prod.mk.injEq, -Int32.not_le, -Int32.not_lt, -Int64.not_le, -Int64.not_lt, i3lt, i6lt, h4, e22, hlt, hT2, pre]
      rw [ecq, e3, eL2]
      refine jvk_ok TX10_advance (V := [(43, 2, 10, oX10_kindAt)]) (S := [(31, 2, 0, oJ9_min_7cf53)]) (List.forall_mem_cons.mpr ⟨⟨mX10_kindAt, n + 0, 1, TX10, 6, rfl, by omega, kX10_43, WX10_kindAt, rfl, CX10_kindAt g (n)⟩, (fun _ h => absurd h List.not_mem_nil)⟩) (List.forall_mem_cons.mpr ⟨⟨mJ9_min_7cf53, n + 0, by omega, Or.inl kX10_31, WJ9_min_7cf53, CJ9_min_7cf53 g (n)⟩, (fun _ h => absurd h List.not_mem_nil)⟩) [89] 30 _ _ _ _ ?_
      simp (maxSteps := 1000000) [↓Bool.cond_eq_ite, -Prod.forall, -Prod.exists, -Prod.mk.injEq, jvk, tX10_advance, jtb, jol, jst, jlk, jcmp, jbin, jfl, fX10, jc2, lX10, jcat, jel, lv_args, Value.category, jins, jsrt, jins2, jble, jblt, jf3, List.filter_cons, List.filter_nil, G_loader, oX10_kindAt, oJ9_min_7cf53, joII, joRI, -Int32.not_le, -Int32.not_lt, -Int64.not_le, -Int64.not_lt, i3lt, i6lt, h5, z']
      try simp (disch := omega) [-Prod.forall, -Prod.exists, -Prod.mk.injEq, -Int32.not_le, -Int32.not_lt, -Int64.not_le, -Int64.not_lt, i3lt, i6lt, h5, z']
      exact k1
set_option maxRecDepth 100000 in
set_option maxHeartbeats 4000000 in
theorem CTo_1 (g : jG) (n : Nat) {post : Option Value → jM → Prop} {σ : jM} (hT : kT σ) {S : Nat} (hS : ¬ kn (σ.1 3) (kLn σ) S = 1) (hSl : S ≤ kLn σ) (hp : ∀ τ, jfr aTo b0 σ τ → toP τ S → post none τ) {τ : jM} (f : jfr aTo b0 σ τ) (h3 : τ.1 2 3 = nI S) : jW g mX10_advance (n + 1) post 44 [(0, .ref 2)] [] τ := by
  obtain ⟨l9, eL⟩ := kT_n hT
  obtain ⟨e3, eL2, kT2⟩ := to_fr f
  have hT2 := kT2 hT
  have e22 : τ.1 2 2 = nI (kLn σ) := (f.2.2 2 2 rfl).trans eL
  have pre : ∃ z, nI S = nI z ∧ z ≤ 900 := ⟨S, rfl, by omega⟩
  have ecS : (nI S).toNatClampNeg = S := nI_clamp (by omega)
  have em : (if nI (S + 1) ≤ nI (kLn σ) then nI (S + 1) else nI (kLn σ)) = nI (min (S + 1) (kLn σ)) := by
    by_cases z : S + 1 ≤ kLn σ
    · rw [if_pos (nI_le z (by omega)), Nat.min_eq_left z]
    · rw [if_neg (nI_ge (by omega) (by omega)), Nat.min_eq_right (by omega)]
  obtain ⟨K, eK⟩ : ∃ K, K = kn (σ.1 3) (kLn σ) S := ⟨_, rfl⟩
  have K5 := kn_5 (σ.1 3) (kLn σ) S
  rw [← eK] at K5 hS
  refine jvk_ok TX10_advance (V := [(43, 2, 10, oX10_kindAt)]) (S := [(31, 2, 0, oJ9_min_7cf53)]) (List.forall_mem_cons.mpr ⟨⟨mX10_kindAt, n + 0, 1, TX10, 6, rfl, by omega, kX10_43, WX10_kindAt, rfl, CX10_kindAt g (n)⟩, (fun _ h => absurd h List.not_mem_nil)⟩) (List.forall_mem_cons.mpr ⟨⟨mJ9_min_7cf53, n + 0, by omega, Or.inl kX10_31, WJ9_min_7cf53, CJ9_min_7cf53 g (n)⟩, (fun _ h => absurd h List.not_mem_nil)⟩) [53] 20 _ _ _ _ ?_
  simp (maxSteps := 1000000) [↓Bool.cond_eq_ite, -Prod.forall, -Prod.exists, -Prod.mk.injEq, jvk, tX10_advance, jtb, jol, jst, jlk, jcmp, jbin, jfl, fX10, jc2, lX10, jcat, jel, lv_args, Value.category, jins, jsrt, jins2, jble, jblt, jf3, List.filter_cons, List.filter_nil, G_loader, oX10_kindAt, oJ9_min_7cf53, joII, joRI, -Int32.not_le, -Int32.not_lt, -Int64.not_le, -Int64.not_lt, i3lt, i6lt, h3, hT2, pre]
  try simp (disch := omega) [-Prod.forall, -Prod.exists, -Prod.mk.injEq, -Int32.not_le, -Int32.not_lt, -Int64.not_le, -Int64.not_lt, i3lt, i6lt, h3, hT2, pre]
  rw [ecS, e3, eL2, ← eK]
  have g3 : (jup τ 2 5 (nI K)).1 2 3 = nI S := by simp [jup_1, h3]
  have g2 : (jup τ 2 5 (nI K)).1 2 2 = nI (kLn σ) := by simp [jup_1, e22]
  refine jvk_ok TX10_advance (V := [(43, 2, 10, oX10_kindAt)]) (S := [(31, 2, 0, oJ9_min_7cf53)]) (List.forall_mem_cons.mpr ⟨⟨mX10_kindAt, n + 0, 1, TX10, 6, rfl, by omega, kX10_43, WX10_kindAt, rfl, CX10_kindAt g (n)⟩, (fun _ h => absurd h List.not_mem_nil)⟩) (List.forall_mem_cons.mpr ⟨⟨mJ9_min_7cf53, n + 0, by omega, Or.inl kX10_31, WJ9_min_7cf53, CJ9_min_7cf53 g (n)⟩, (fun _ h => absurd h List.not_mem_nil)⟩) [73] 30 _ _ _ _ ?_
  simp (maxSteps := 1000000) [↓Bool.cond_eq_ite, -Prod.forall, -Prod.exists, -Prod.mk.injEq, jvk, tX10_advance, jtb, jol, jst, jlk, jcmp, jbin, jfl, fX10, jc2, lX10, jcat, jel, lv_args, Value.category, jins, jsrt, jins2, jble, jblt, jf3, List.filter_cons, List.filter_nil, G_loader, oX10_kindAt, oJ9_min_7cf53, joII, joRI, -Int32.not_le, -Int32.not_lt, -Int64.not_le, -Int64.not_lt, i3lt, i6lt, g3, g2, em, nI_1]
  try simp (disch := omega) [-Prod.forall, -Prod.exists, -Prod.mk.injEq, -Int32.not_le, -Int32.not_lt, -Int64.not_le, -Int64.not_lt, i3lt, i6lt, g3, g2, em, nI_1]
  have w1 : jfr aTo b0 σ (jup (jup τ 2 5 (nI K)) 2 4 (nI (min (S + 1) (kLn σ)))) := (f.up _ rfl).up _ rfl
  obtain ⟨ρ, eρ⟩ : ∃ ρ, ρ = jup (jup τ 2 5 (nI K)) 2 4 (nI (min (S + 1) (kLn σ))) := ⟨_, rfl⟩
  have r3 : ρ.1 2 3 = nI S := by rw [eρ]; simp [jup_1, h3]
  have r5 : ρ.1 2 5 = nI K := by rw [eρ]; simp [jup_1]
  have r4 : ρ.1 2 4 = nI (min (S + 1) (kLn σ)) := by rw [eρ]; simp [jup_1]
  rw [← eρ] at w1 ⊢
  have c2 : (nI K = 2) = (K = 2) := propext (nI_eq (b := 2) (by omega) (by decide))
  have c3 : (nI K = 3) = (K = 3) := propext (nI_eq (b := 3) (by omega) (by decide))
  by_cases k23 : K = 2 ∨ K = 3
  · have hs : S < kLn σ := by
      by_cases z : S < kLn σ
      · exact z
      · have := (kn_0 (b := σ.1 3) (len := kLn σ) (p := S)).mpr (by omega)
        omega
    rw [Nat.min_eq_left (by omega)] at r4
    have k1 := CTo_2 g n (post := post) hT (s := S) (by rw [← eK]; exact k23) hp (kLn σ - (S + 1)) (S + 1) ρ rfl (by omega) (by unfold en; rw [← eK, if_pos k23]) w1 r3 (by rw [r5, eK]) r4 hSl
    rcases k23 with z | z
    · have z2 : nI K = 2 := by rw [z]; rfl
      refine jvk_ok TX10_advance (V := [(43, 2, 10, oX10_kindAt)]) (S := [(31, 2, 0, oJ9_min_7cf53)]) (List.forall_mem_cons.mpr ⟨⟨mX10_kindAt, n + 0, 1, TX10, 6, rfl, by omega, kX10_43, WX10_kindAt, rfl, CX10_kindAt g (n)⟩, (fun _ h => absurd h List.not_mem_nil)⟩) (List.forall_mem_cons.mpr ⟨⟨mJ9_min_7cf53, n + 0, by omega, Or.inl kX10_31, WJ9_min_7cf53, CJ9_min_7cf53 g (n)⟩, (fun _ h => absurd h List.not_mem_nil)⟩) [89] 20 _ _ _ _ ?_
      simp (maxSteps := 1000000) [↓Bool.cond_eq_ite, -Prod.forall, -Prod.exists, -Prod.mk.injEq, jvk, tX10_advance, jtb, jol, jst, jlk, jcmp, jbin, jfl, fX10, jc2, lX10, jcat, jel, lv_args, Value.category, jins, jsrt, jins2, jble, jblt, jf3, List.filter_cons, List.filter_nil, G_loader, oX10_kindAt, oJ9_min_7cf53, joII, joRI, -Int32.not_le, -Int32.not_lt, -Int64.not_le, -Int64.not_lt, i3lt, i6lt, r5, z2]
      try simp (disch := omega) [-Prod.forall, -Prod.exists, -Prod.mk.injEq, -Int32.not_le, -Int32.not_lt, -Int64.not_le, -Int64.not_lt, i3lt, i6lt, r5, z2]
      exact k1
    · have z2 : ¬ nI K = 2 := by rw [c2]; omega
      have z3 : nI K = 3 := by rw [z]; rfl
      have d32 : ¬ (3 : Int32) = 2 := by decide
      refine jvk_ok TX10_advance (V := [(43, 2, 10, oX10_kindAt)]) (S := [(31, 2, 0, oJ9_min_7cf53)]) (List.forall_mem_cons.mpr ⟨⟨mX10_kindAt, n + 0, 1, TX10, 6, rfl, by omega, kX10_43, WX10_kindAt, rfl, CX10_kindAt g (n)⟩, (fun _ h => absurd h List.not_mem_nil)⟩) (List.forall_mem_cons.mpr ⟨⟨mJ9_min_7cf53, n + 0, by omega, Or.inl kX10_31, WJ9_min_7cf53, CJ9_min_7cf53 g (n)⟩, (fun _ h => absurd h List.not_mem_nil)⟩) [89] 20 _ _ _ _ ?_
      simp (maxSteps := 1000000) [↓Bool.cond_eq_ite, -Prod.forall, -Prod.exists, -Prod.mk.injEq, jvk, tX10_advance, jtb, jol, jst, jlk, jcmp, jbin, jfl, fX10, jc2, lX10, jcat, jel, lv_args, Value.category, jins, jsrt, jins2, jble, jblt, jf3, List.filter_cons, List.filter_nil, G_loader, oX10_kindAt, oJ9_min_7cf53, joII, joRI, -Int32.not_le, -Int32.not_lt, -Int64.not_le, -Int64.not_lt, i3lt, i6lt, r5, z3, d32]
      try simp (disch := omega) [-Prod.forall, -Prod.exists, -Prod.mk.injEq, -Int32.not_le, -Int32.not_lt, -Int64.not_le, -Int64.not_lt, i3lt, i6lt, r5, z3, d32]
      exact k1
  · have z2 : ¬ nI K = 2 := by rw [c2]; omega
    have z3 : ¬ nI K = 3 := by rw [c3]; omega
    obtain ⟨e3', eL2', -⟩ := to_fr w1
    have k1 := hp ρ w1 ⟨by rw [eL2']; exact hSl, r3, by
      rw [r4, e3', eL2']
      unfold en
      rw [← eK, if_neg k23], by rw [r5, e3', eL2', eK]⟩
    refine jvk_ok TX10_advance (V := [(43, 2, 10, oX10_kindAt)]) (S := [(31, 2, 0, oJ9_min_7cf53)]) (List.forall_mem_cons.mpr ⟨⟨mX10_kindAt, n + 0, 1, TX10, 6, rfl, by omega, kX10_43, WX10_kindAt, rfl, CX10_kindAt g (n)⟩, (fun _ h => absurd h List.not_mem_nil)⟩) (List.forall_mem_cons.mpr ⟨⟨mJ9_min_7cf53, n + 0, by omega, Or.inl kX10_31, WJ9_min_7cf53, CJ9_min_7cf53 g (n)⟩, (fun _ h => absurd h List.not_mem_nil)⟩) [89] 20 _ _ _ _ ?_
    simp (maxSteps := 1000000) [↓Bool.cond_eq_ite, -Prod.forall, -Prod.exists, -Prod.mk.injEq, jvk, tX10_advance, jtb, jol, jst, jlk, jcmp, jbin, jfl, fX10, jc2, lX10, jcat, jel, lv_args, Value.category, jins, jsrt, jins2, jble, jblt, jf3, List.filter_cons, List.filter_nil, G_loader, oX10_kindAt, oJ9_min_7cf53, joII, joRI, -Int32.not_le, -Int32.not_lt, -Int64.not_le, -Int64.not_lt, i3lt, i6lt, r5, z2, z3]
    try simp (disch := omega) [-Prod.forall, -Prod.exists, -Prod.mk.injEq, -Int32.not_le, -Int32.not_lt, -Int64.not_le, -Int64.not_lt, i3lt, i6lt, r5, z2, z3]
    exact k1
set_option maxRecDepth 100000 in
set_option maxHeartbeats 4000000 in
theorem CX10_advance (g : jG) (n : Nat) : jOk g (n + 1) mX10_advance oX10_advance := by
  refine joR_ok ?_
  rintro _ σ ⟨rfl, hT, e, h4, he⟩
  obtain ⟨l9, eL⟩ := kT_n hT
  have ece : (nI e).toNatClampNeg = e := nI_clamp (by omega)
  obtain ⟨S, eS⟩ : ∃ S, S = rn (σ.1 3) (kLn σ) 1 e := ⟨_, rfl⟩
  obtain ⟨S1, S2⟩ := rn_le (b := σ.1 3) (k := 1) he
  have S3 := rn_end (b := σ.1 3) (len := kLn σ) (k := 1) (by decide) _ e (Nat.le_refl _)
  rw [← eS] at S1 S2 S3
  refine jCon.ofP (by decide +kernel) (by simp [lg_sl, Value.category]) (fun post hp => ?_)
  refine jvk_ok TX10_advance (V := [(43, 2, 10, oX10_kindAt)]) (S := [(31, 2, 0, oJ9_min_7cf53)]) (List.forall_mem_cons.mpr ⟨⟨mX10_kindAt, n + 0, 1, TX10, 6, rfl, by omega, kX10_43, WX10_kindAt, rfl, CX10_kindAt g (n)⟩, (fun _ h => absurd h List.not_mem_nil)⟩) (List.forall_mem_cons.mpr ⟨⟨mJ9_min_7cf53, n + 0, by omega, Or.inl kX10_31, WJ9_min_7cf53, CJ9_min_7cf53 g (n)⟩, (fun _ h => absurd h List.not_mem_nil)⟩) [8] 20 _ _ _ _ ?_
  simp (maxSteps := 1000000) [↓Bool.cond_eq_ite, -Prod.forall, -Prod.exists, -Prod.mk.injEq, jvk, tX10_advance, jtb, jol, jst, jlk, jcmp, jbin, jfl, fX10, jc2, lX10, jcat, jel, lv_args, Value.category, jins, jsrt, jins2, jble, jblt, jf3, List.filter_cons, List.filter_nil, G_loader, oX10_kindAt, oJ9_min_7cf53, joII, joRI, -Int32.not_le, -Int32.not_lt, -Int64.not_le, -Int64.not_lt, i3lt, i6lt, h4]
  try simp (disch := omega) [-Prod.forall, -Prod.exists, -Prod.mk.injEq, -Int32.not_le, -Int32.not_lt, -Int64.not_le, -Int64.not_lt, i3lt, i6lt, h4]
  rw [h4, ece, ← eS] at hp
  have key : ∀ (d p : Nat) (τ : jM), kLn σ - p = d → p ≤ kLn σ → rn (σ.1 3) (kLn σ) 1 p = S → jfr aTo b0 σ τ → τ.1 2 3 = nI p → jW g mX10_advance (n + 1) post 8 [(0, .ref 2)] [] τ := by
    intro d
    induction d with
    | zero =>
      intro p τ hd hq hr f h3
      have e22 : τ.1 2 2 = nI (kLn σ) := (f.2.2 2 2 rfl).trans eL
      have hle : nI (kLn σ) ≤ nI p := nI_le (by omega) (by omega)
      have epS : p = S := by
        rw [← hr, rn_stop (fun z => by
          have := (kn_0 (b := σ.1 3)).mpr (show kLn σ ≤ p by omega)
          omega)]
      have k1 := CTo_1 g n (post := post) hT S3 S2 (fun τ f h => hp _ _ ⟨rfl, f, h⟩) f (by rw [h3, epS])
      refine jvk_ok TX10_advance (V := [(43, 2, 10, oX10_kindAt)]) (S := [(31, 2, 0, oJ9_min_7cf53)]) (List.forall_mem_cons.mpr ⟨⟨mX10_kindAt, n + 0, 1, TX10, 6, rfl, by omega, kX10_43, WX10_kindAt, rfl, CX10_kindAt g (n)⟩, (fun _ h => absurd h List.not_mem_nil)⟩) (List.forall_mem_cons.mpr ⟨⟨mJ9_min_7cf53, n + 0, by omega, Or.inl kX10_31, WJ9_min_7cf53, CJ9_min_7cf53 g (n)⟩, (fun _ h => absurd h List.not_mem_nil)⟩) [8, 44] 20 _ _ _ _ ?_
      simp (maxSteps := 1000000) [↓Bool.cond_eq_ite, -Prod.forall, -Prod.exists, -Prod.mk.injEq, jvk, tX10_advance, jtb, jol, jst, jlk, jcmp, jbin, jfl, fX10, jc2, lX10, jcat, jel, lv_args, Value.category, jins, jsrt, jins2, jble, jblt, jf3, List.filter_cons, List.filter_nil, G_loader, oX10_kindAt, oJ9_min_7cf53, joII, joRI, -Int32.not_le, -Int32.not_lt, -Int64.not_le, -Int64.not_lt, i3lt, i6lt, h3, e22, hle]
      try simp (disch := omega) [-Prod.forall, -Prod.exists, -Prod.mk.injEq, -Int32.not_le, -Int32.not_lt, -Int64.not_le, -Int64.not_lt, i3lt, i6lt, h3, e22, hle]
      exact k1
    | succ d ih =>
      intro p τ hd hq hr f h3
      obtain ⟨e3, eL2, kT2⟩ := to_fr f
      have hT2 := kT2 hT
      have e22 : τ.1 2 2 = nI (kLn σ) := (f.2.2 2 2 rfl).trans eL
      have hlt : ¬ nI (kLn σ) ≤ nI p := nI_ge (by omega) (by omega)
      have pre : ∃ z, nI p = nI z ∧ z ≤ 900 := ⟨p, rfl, by omega⟩
      have ecp : (nI p).toNatClampNeg = p := nI_clamp (by omega)
      have K6 := kn_5 (σ.1 3) (kLn σ) p
      have cK := nI_eq (a := kn (σ.1 3) (kLn σ) p) (b := 1) (by omega) (by decide)
      by_cases z : kn (σ.1 3) (kLn σ) p = 1
      · have z' : nI (kn (σ.1 3) (kLn σ) p) = 1 := by rw [z]; rfl
        have k1 := ih (p + 1) (jup τ 2 3 (nI (p + 1))) (by omega) (by omega) (by rw [rn_step (by decide) z] at hr; exact hr) (f.up _ rfl) (jup_s _ _ _ _)
        refine jvk_ok TX10_advance (V := [(43, 2, 10, oX10_kindAt)]) (S := [(31, 2, 0, oJ9_min_7cf53)]) (List.forall_mem_cons.mpr ⟨⟨mX10_kindAt, n + 0, 1, TX10, 6, rfl, by omega, kX10_43, WX10_kindAt, rfl, CX10_kindAt g (n)⟩, (fun _ h => absurd h List.not_mem_nil)⟩) (List.forall_mem_cons.mpr ⟨⟨mJ9_min_7cf53, n + 0, by omega, Or.inl kX10_31, WJ9_min_7cf53, CJ9_min_7cf53 g (n)⟩, (fun _ h => absurd h List.not_mem_nil)⟩) [27] 20 _ _ _ _ ?_
        simp (maxSteps := 1000000) [↓Bool.cond_eq_ite, -Prod.forall, -Prod.exists, -Prod.mk.injEq, jvk, tX10_advance, jtb, jol, jst, jlk, jcmp, jbin, jfl, fX10, jc2, lX10, jcat, jel, lv_args, Value.category, jins, jsrt, jins2, jble, jblt, jf3, List.filter_cons, List.filter_nil, G_loader, oX10_kindAt, oJ9_min_7cf53, joII, joRI, -Int32.not_le, -Int32.not_lt, -Int64.not_le, -Int64.not_lt, i3lt, i6lt, h3, e22, hlt, hT2, pre]
        try simp (disch := omega) [-Prod.forall, -Prod.exists, -Prod.mk.injEq, -Int32.not_le, -Int32.not_lt, -Int64.not_le, -Int64.not_lt, i3lt, i6lt, h3, e22, hlt, hT2, pre]
        rw [ecp, e3, eL2]
        refine jvk_ok TX10_advance (V := [(43, 2, 10, oX10_kindAt)]) (S := [(31, 2, 0, oJ9_min_7cf53)]) (List.forall_mem_cons.mpr ⟨⟨mX10_kindAt, n + 0, 1, TX10, 6, rfl, by omega, kX10_43, WX10_kindAt, rfl, CX10_kindAt g (n)⟩, (fun _ h => absurd h List.not_mem_nil)⟩) (List.forall_mem_cons.mpr ⟨⟨mJ9_min_7cf53, n + 0, by omega, Or.inl kX10_31, WJ9_min_7cf53, CJ9_min_7cf53 g (n)⟩, (fun _ h => absurd h List.not_mem_nil)⟩) [8, 44] 30 _ _ _ _ ?_
        simp (maxSteps := 1000000) [↓Bool.cond_eq_ite, -Prod.forall, -Prod.exists, -Prod.mk.injEq, jvk, tX10_advance, jtb, jol, jst, jlk, jcmp, jbin, jfl, fX10, jc2, lX10, jcat, jel, lv_args, Value.category, jins, jsrt, jins2, jble, jblt, jf3, List.filter_cons, List.filter_nil, G_loader, oX10_kindAt, oJ9_min_7cf53, joII, joRI, -Int32.not_le, -Int32.not_lt, -Int64.not_le, -Int64.not_lt, i3lt, i6lt, h3, z', nI_1]
        try simp (disch := omega) [-Prod.forall, -Prod.exists, -Prod.mk.injEq, -Int32.not_le, -Int32.not_lt, -Int64.not_le, -Int64.not_lt, i3lt, i6lt, h3, z', nI_1]
        exact k1
      · have z' : ¬ nI (kn (σ.1 3) (kLn σ) p) = 1 := fun y => z (cK.mp y)
        have epS : p = S := by rw [← hr, rn_stop z]
        have k1 := CTo_1 g n (post := post) hT S3 S2 (fun τ f h => hp _ _ ⟨rfl, f, h⟩) f (by rw [h3, epS])
        refine jvk_ok TX10_advance (V := [(43, 2, 10, oX10_kindAt)]) (S := [(31, 2, 0, oJ9_min_7cf53)]) (List.forall_mem_cons.mpr ⟨⟨mX10_kindAt, n + 0, 1, TX10, 6, rfl, by omega, kX10_43, WX10_kindAt, rfl, CX10_kindAt g (n)⟩, (fun _ h => absurd h List.not_mem_nil)⟩) (List.forall_mem_cons.mpr ⟨⟨mJ9_min_7cf53, n + 0, by omega, Or.inl kX10_31, WJ9_min_7cf53, CJ9_min_7cf53 g (n)⟩, (fun _ h => absurd h List.not_mem_nil)⟩) [27] 20 _ _ _ _ ?_
        simp (maxSteps := 1000000) [↓Bool.cond_eq_ite, -Prod.forall, -Prod.exists, -Prod.mk.injEq, jvk, tX10_advance, jtb, jol, jst, jlk, jcmp, jbin, jfl, fX10, jc2, lX10, jcat, jel, lv_args, Value.category, jins, jsrt, jins2, jble, jblt, jf3, List.filter_cons, List.filter_nil, G_loader, oX10_kindAt, oJ9_min_7cf53, joII, joRI, -Int32.not_le, -Int32.not_lt, -Int64.not_le, -Int64.not_lt, i3lt, i6lt, h3, e22, hlt, hT2, pre]
        try simp (disch := omega) [-Prod.forall, -Prod.exists, -Prod.mk.injEq, -Int32.not_le, -Int32.not_lt, -Int64.not_le, -Int64.not_lt, i3lt, i6lt, h3, e22, hlt, hT2, pre]
        rw [ecp, e3, eL2]
        refine jvk_ok TX10_advance (V := [(43, 2, 10, oX10_kindAt)]) (S := [(31, 2, 0, oJ9_min_7cf53)]) (List.forall_mem_cons.mpr ⟨⟨mX10_kindAt, n + 0, 1, TX10, 6, rfl, by omega, kX10_43, WX10_kindAt, rfl, CX10_kindAt g (n)⟩, (fun _ h => absurd h List.not_mem_nil)⟩) (List.forall_mem_cons.mpr ⟨⟨mJ9_min_7cf53, n + 0, by omega, Or.inl kX10_31, WJ9_min_7cf53, CJ9_min_7cf53 g (n)⟩, (fun _ h => absurd h List.not_mem_nil)⟩) [8, 44] 30 _ _ _ _ ?_
        simp (maxSteps := 1000000) [↓Bool.cond_eq_ite, -Prod.forall, -Prod.exists, -Prod.mk.injEq, jvk, tX10_advance, jtb, jol, jst, jlk, jcmp, jbin, jfl, fX10, jc2, lX10, jcat, jel, lv_args, Value.category, jins, jsrt, jins2, jble, jblt, jf3, List.filter_cons, List.filter_nil, G_loader, oX10_kindAt, oJ9_min_7cf53, joII, joRI, -Int32.not_le, -Int32.not_lt, -Int64.not_le, -Int64.not_lt, i3lt, i6lt, z']
        try simp (disch := omega) [-Prod.forall, -Prod.exists, -Prod.mk.injEq, -Int32.not_le, -Int32.not_lt, -Int64.not_le, -Int64.not_lt, i3lt, i6lt, z']
        exact k1
  exact key _ e (jup σ 2 3 (nI e)) rfl he eS.symm (jfr.rfl.up _ rfl) (jup_s _ _ _ _)
def oX10_forget : jO := joR fun a σ => (a = 2, fun v τ => v = none ∧ τ = jup σ 2 1 0)
set_option maxRecDepth 100000 in
set_option maxHeartbeats 4000000 in
theorem CX10_forget (g : jG) (n : Nat) : jOk g (n + 0) mX10_forget oX10_forget := by
  refine joR_ok ?_
  rintro _ σ rfl
  refine jCon.ofP (by decide +kernel) (by simp [lg_sl, Value.category]) (fun post hp => ?_)
  refine jvk_ok TX10_forget (V := []) (S := []) (fun _ h => absurd h List.not_mem_nil) (fun _ h => absurd h List.not_mem_nil) [] 10 _ _ _ _ ?_
  simp (maxSteps := 1000000) [↓Bool.cond_eq_ite, -Prod.forall, -Prod.exists, -Prod.mk.injEq, jvk, tX10_forget, jtb, jol, jst, jlk, jcmp, jbin, jfl, fX10, jc2, lX10, jcat, jel, lv_args, Value.category, jins, jsrt, jins2, jble, jblt, jf3, List.filter_cons, List.filter_nil, G_loader, -Int32.not_le, -Int32.not_lt, -Int64.not_le, -Int64.not_lt, i3lt, i6lt]
  try simp (disch := omega) [-Prod.forall, -Prod.exists, -Prod.mk.injEq, -Int32.not_le, -Int32.not_lt, -Int64.not_le, -Int64.not_lt, i3lt, i6lt]
  exact hp _ _ ⟨rfl, rfl⟩
def aTp (a j : Nat) : Bool := a == 2 && (j == 2 || j == 3 || j == 4 || j == 5)
def oX10_open : jO := joRI fun a x σ => (a = 2 ∧ ∃ m h, x = nI m ∧ σ.1 2 1 = nI h ∧ m ≤ h ∧ h ≤ 900, fun v τ => v = none ∧ jfr aTp b0 σ τ ∧ kT τ ∧ kLn τ = x.toNatClampNeg ∧ toP τ (rn (σ.1 3) x.toNatClampNeg 1 0))
set_option maxRecDepth 100000 in
set_option maxHeartbeats 4000000 in
theorem CX10_open (g : jG) (n : Nat) : jOk g (n + 2) mX10_open oX10_open := by
  refine joRI_ok ?_
  rintro _ _ σ ⟨rfl, m, h, rfl, h1, hmh, h9⟩
  have ecm : (nI m).toNatClampNeg = m := nI_clamp (by omega)
  have e1 : (if nI m ≤ nI h then nI m else nI h) = nI m := if_pos (nI_le hmh (by omega))
  have e2 : (if nI m ≤ 0 then 0 else nI m) = nI m := by
    by_cases z : m = 0
    · rw [z]; rfl
    · rw [if_neg (nI_nle (by omega) (by omega))]
  obtain ⟨ρ, eρ⟩ : ∃ ρ, ρ = jup (jup σ 2 2 (nI m)) 2 4 0 := ⟨_, rfl⟩
  have r2 : ρ.1 2 2 = nI m := by rw [eρ]; simp [jup_1]
  have r4 : ρ.1 2 4 = 0 := by rw [eρ]; simp [jup_1]
  have r3 : ρ.1 3 = σ.1 3 := by rw [eρ]; rfl
  have hT : kT ρ := by
    unfold kT
    rw [r2]
    exact ⟨nI_pos' (by omega), nI_le (b := 900) (by omega) (by decide)⟩
  have eLm : kLn ρ = m := by unfold kLn; rw [r2, ecm]
  have pre : ∃ e, ρ.1 2 4 = nI e ∧ e ≤ kLn ρ := ⟨0, r4, by omega⟩
  refine jCon.ofP (by decide +kernel) (by simp [lg_sl, Value.category]) (fun post hp => ?_)
  refine jvk_ok TX10_open (V := [(40, 1, 10, oX10_advance)]) (S := [(31, 2, 0, oJ9_min_7cf53), (37, 2, 0, oJ9_max_7cf53)]) (List.forall_mem_cons.mpr ⟨⟨mX10_advance, n + 1, 0, TX10, 6, rfl, by omega, kX10_40, WX10_advance, rfl, CX10_advance g (n)⟩, (fun _ h => absurd h List.not_mem_nil)⟩) (List.forall_mem_cons.mpr ⟨⟨mJ9_min_7cf53, n + 0, by omega, Or.inl kX10_31, WJ9_min_7cf53, CJ9_min_7cf53 g (n)⟩, (List.forall_mem_cons.mpr ⟨⟨mJ9_max_7cf53, n + 0, by omega, Or.inl kX10_37, WJ9_max_7cf53, CJ9_max_7cf53 g (n)⟩, (fun _ h => absurd h List.not_mem_nil)⟩)⟩) [21] 30 _ _ _ _ ?_
  simp (maxSteps := 1000000) [↓Bool.cond_eq_ite, -Prod.forall, -Prod.exists, -Prod.mk.injEq, jvk, tX10_open, jtb, jol, jst, jlk, jcmp, jbin, jfl, fX10, jc2, lX10, jcat, jel, lv_args, Value.category, jins, jsrt, jins2, jble, jblt, jf3, List.filter_cons, List.filter_nil, G_loader, oJ9_min_7cf53, oJ9_max_7cf53, oX10_advance, joII, joR, -Int32.not_le, -Int32.not_lt, -Int64.not_le, -Int64.not_lt, i3lt, i6lt, h1, e1, e2]
  try simp (disch := omega) [-Prod.forall, -Prod.exists, -Prod.mk.injEq, -Int32.not_le, -Int32.not_lt, -Int64.not_le, -Int64.not_lt, i3lt, i6lt, h1, e1, e2]
  rw [← eρ]
  refine jvk_ok TX10_open (V := [(40, 1, 10, oX10_advance)]) (S := [(31, 2, 0, oJ9_min_7cf53), (37, 2, 0, oJ9_max_7cf53)]) (List.forall_mem_cons.mpr ⟨⟨mX10_advance, n + 1, 0, TX10, 6, rfl, by omega, kX10_40, WX10_advance, rfl, CX10_advance g (n)⟩, (fun _ h => absurd h List.not_mem_nil)⟩) (List.forall_mem_cons.mpr ⟨⟨mJ9_min_7cf53, n + 0, by omega, Or.inl kX10_31, WJ9_min_7cf53, CJ9_min_7cf53 g (n)⟩, (List.forall_mem_cons.mpr ⟨⟨mJ9_max_7cf53, n + 0, by omega, Or.inl kX10_37, WJ9_max_7cf53, CJ9_max_7cf53 g (n)⟩, (fun _ h => absurd h List.not_mem_nil)⟩)⟩) [25] 20 _ _ _ _ ?_
  simp (maxSteps := 1000000) [↓Bool.cond_eq_ite, -Prod.forall, -Prod.exists, -Prod.mk.injEq, jvk, tX10_open, jtb, jol, jst, jlk, jcmp, jbin, jfl, fX10, jc2, lX10, jcat, jel, lv_args, Value.category, jins, jsrt, jins2, jble, jblt, jf3, List.filter_cons, List.filter_nil, G_loader, oJ9_min_7cf53, oJ9_max_7cf53, oX10_advance, joII, joR, -Int32.not_le, -Int32.not_lt, -Int64.not_le, -Int64.not_lt, i3lt, i6lt, hT, pre]
  try simp (disch := omega) [-Prod.forall, -Prod.exists, -Prod.mk.injEq, -Int32.not_le, -Int32.not_lt, -Int64.not_le, -Int64.not_lt, i3lt, i6lt, hT, pre]
  intro v1 τ1 hv1 f1 ht
  subst hv1
  rw [r4, r3, eLm, show (0 : Int32).toNatClampNeg = 0 from rfl] at ht
  obtain ⟨e3, eL2, kT2⟩ := to_fr f1
  have k1 := hp none τ1 ⟨rfl, ⟨f1.1.trans (by rw [eρ]; rfl), fun a j q => (f1.2.1 a j q).trans (by rw [eρ]; rfl), fun a j q => by
    have q2 : aTo a j = false := by
      unfold aTp at q
      unfold aTo
      simp only [Bool.and_eq_false_iff, Bool.or_eq_false_iff, beq_eq_false_iff_ne] at q ⊢
      omega
    rw [f1.2.2 a j q2, eρ, jup_1, jup_1]
    unfold aTp at q
    simp only [Bool.and_eq_false_iff, Bool.or_eq_false_iff, beq_eq_false_iff_ne] at q
    rw [if_neg (by omega), if_neg (by omega)]⟩, kT2 hT, by rw [eL2, eLm, ecm], by rw [ecm]; exact ht⟩
  refine jvk_ok TX10_open (V := [(40, 1, 10, oX10_advance)]) (S := [(31, 2, 0, oJ9_min_7cf53), (37, 2, 0, oJ9_max_7cf53)]) (List.forall_mem_cons.mpr ⟨⟨mX10_advance, n + 1, 0, TX10, 6, rfl, by omega, kX10_40, WX10_advance, rfl, CX10_advance g (n)⟩, (fun _ h => absurd h List.not_mem_nil)⟩) (List.forall_mem_cons.mpr ⟨⟨mJ9_min_7cf53, n + 0, by omega, Or.inl kX10_31, WJ9_min_7cf53, CJ9_min_7cf53 g (n)⟩, (List.forall_mem_cons.mpr ⟨⟨mJ9_max_7cf53, n + 0, by omega, Or.inl kX10_37, WJ9_max_7cf53, CJ9_max_7cf53 g (n)⟩, (fun _ h => absurd h List.not_mem_nil)⟩)⟩) [] 10 _ _ _ _ ?_
  simp (maxSteps := 1000000) [↓Bool.cond_eq_ite, -Prod.forall, -Prod.exists, -Prod.mk.injEq, jvk, tX10_open, jtb, jol, jst, jlk, jcmp, jbin, jfl, fX10, jc2, lX10, jcat, jel, lv_args, Value.category, jins, jsrt, jins2, jble, jblt, jf3, List.filter_cons, List.filter_nil, G_loader, oJ9_min_7cf53, oJ9_max_7cf53, oX10_advance, joII, joR, -Int32.not_le, -Int32.not_lt, -Int64.not_le, -Int64.not_lt, i3lt, i6lt]
  try simp (disch := omega) [-Prod.forall, -Prod.exists, -Prod.mk.injEq, -Int32.not_le, -Int32.not_lt, -Int64.not_le, -Int64.not_lt, i3lt, i6lt]
  exact k1
