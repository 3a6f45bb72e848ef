/-! the reference: names and numbers of a text, its rooms -/
def aIn (a j : Nat) : Bool := a == 322 && (j == 35 || j == 36 || j == 37 || j == 38 || j == 40 || j == 41)
theorem in_Tk (a j : Nat) (h : aIn a j = false) : aTk a j = false := by
  unfold aIn at h
  unfold aTk
  simp only [Bool.or_eq_false_iff, Bool.and_eq_false_iff, beq_eq_false_iff_ne] at h ⊢
  omega
theorem in_fr {σ τ : jM} (f : jfr aIn bTk σ τ) : tB τ = tB σ ∧ tL τ = tL σ := ⟨funext fun j => f.2.2 346 j rfl, by unfold tL; rw [f.2.2 322 34 rfl]⟩
/-- the error and its place -/
def flt (τ : jM) (e : pE) : Prop := τ.1 322 41 = e.1 ∧ ¬ e.1 = 0 ∧ τ.1 322 36 = nI e.2
theorem rT_f41 {σ : jM} (h : rT σ) (x : Int32) : rT (jup σ 322 41 x) := h
def oX12_nameHere : jO := joR fun a σ => (a = 322 ∧ rT σ ∧ (σ.1 322 41 = 0 → ∃ s, tk σ s), fun v τ => v = none ∧ (¬ σ.1 322 41 = 0 → τ = σ) ∧ ∀ s, tk σ s → (isN (tB σ) (tL σ) s = true → τ = σ) ∧ (¬ isN (tB σ) (tL σ) s = true → τ = jup σ 322 41 (-11)))
theorem tk_inj {σ : jM} {s t : Nat} (h : tk σ s) (h2 : tk σ t) (hl : tL σ ≤ 900) : s = t := by
  have a := h.2.2.1
  have b := h2.2.2.1
  rw [a] at b
  exact (nI_eq (by have := h.1; omega) (by have := h2.1; omega)).mp b
theorem tkc_1 {k : Nat} : tkc k = 1 ↔ k = 2 := by
  unfold tkc
  by_cases h : k = 0
  · rw [if_pos h]; exact ⟨fun z => absurd z (by decide), fun z => by omega⟩
  · rw [if_neg h]
    by_cases h2 : k = 2
    · rw [if_pos h2]; exact ⟨fun _ => h2, fun _ => rfl⟩
    · rw [if_neg h2]
      refine ⟨fun z => ?_, fun z => absurd z h2⟩
      split at z
      · exact absurd z (by decide)
      · split at z <;> exact absurd z (by decide)
theorem tkc_2 {k : Nat} : tkc k = 2 ↔ k = 3 := by
  unfold tkc
  by_cases h : k = 0
  · rw [if_pos h]; exact ⟨fun z => absurd z (by decide), fun z => by omega⟩
  · rw [if_neg h]
    by_cases h2 : k = 2
    · rw [if_pos h2]; exact ⟨fun z => absurd z (by decide), fun z => by omega⟩
    · rw [if_neg h2]
      by_cases h3 : k = 3
      · rw [if_pos h3]; exact ⟨fun _ => h3, fun _ => rfl⟩
      · rw [if_neg h3]
        refine ⟨fun z => ?_, fun z => absurd z h3⟩
        split at z <;> exact absurd z (by decide)
theorem tkc_3 {k : Nat} : tkc k = 3 ↔ k = 4 := by
  unfold tkc
  by_cases h : k = 0
  · rw [if_pos h]; exact ⟨fun z => absurd z (by decide), fun z => by omega⟩
  · rw [if_neg h]
    by_cases h2 : k = 2
    · rw [if_pos h2]; exact ⟨fun z => absurd z (by decide), fun z => by omega⟩
    · rw [if_neg h2]
      by_cases h3 : k = 3
      · rw [if_pos h3]; exact ⟨fun z => absurd z (by decide), fun z => by omega⟩
      · rw [if_neg h3]
        by_cases h4 : k = 4
        · rw [if_pos h4]; exact ⟨fun _ => h4, fun _ => rfl⟩
        · rw [if_neg h4]; exact ⟨fun z => absurd z (by decide), fun z => absurd z h4⟩
theorem tkc_0 {k : Nat} : tkc k = 0 ↔ k = 0 := by
  unfold tkc
  by_cases h : k = 0
  · rw [if_pos h]; exact ⟨fun _ => h, fun _ => rfl⟩
  · rw [if_neg h]
    refine ⟨fun z => ?_, fun z => absurd z h⟩
    split at z
    · exact absurd z (by decide)
    · split at z
      · exact absurd z (by decide)
      · split at z <;> exact absurd z (by decide)
set_option maxRecDepth 100000 in
set_option maxHeartbeats 4000000 in
theorem CX12_nameHere (g : jG) (n : Nat) : jOk g (n + 1) mX12_nameHere oX12_nameHere := by
  refine joR_ok ?_
  rintro _ σ ⟨rfl, h, ht⟩
  obtain ⟨h1, h2, h3, h4⟩ := rT_n h
  by_cases hf : σ.1 322 41 = 0
  · obtain ⟨s, hs⟩ := ht hf
    have hen := en_le (b := tB σ) (len := tL σ) hs.1
    have e35 := hs.2.2.2.1
    have e36 := hs.2.2.1
    have e37 := hs.2.2.2.2.1
    have ed : nI (en (tB σ) (tL σ) s) - nI s = nI (en (tB σ) (tL σ) s - s) := pk_sub hen.1
    have uniq : ∀ t, tk σ t → t = s := fun t ht => tk_inj ht hs h1
    by_cases c1 : kn (tB σ) (tL σ) s = 2
    · have c1' : tkc (kn (tB σ) (tL σ) s) = 1 := tkc_1.mpr c1
      by_cases c2 : en (tB σ) (tL σ) s ≤ s + 6
      · have c2' : nI (en (tB σ) (tL σ) s - s) ≤ 6 := nI_le (b := 6) (by omega) (by decide)
        have isn : isN (tB σ) (tL σ) s = true := by unfold isN; simp [c1, c2]
        refine jCon.ofP (by decide +kernel) (by simp [lg_sl, Value.category]) (fun post hp => ?_)
        refine jvk_ok TX12_nameHere (V := [(309, 3, 12, oX12_check)]) (S := []) (List.forall_mem_cons.mpr ⟨⟨mX12_check, n + 0, 2, TX12, 53, rfl, by omega, kX12_309, WX12_check, rfl, CX12_check g (n)⟩, (fun _ h => absurd h List.not_mem_nil)⟩) (fun _ h => absurd h List.not_mem_nil) [] 30 _ _ _ _ ?_
        simp (maxSteps := 1000000) [↓Bool.cond_eq_ite, -Prod.forall, -Prod.exists, -Prod.mk.injEq, jvk, tX12_nameHere, jtb, jol, jst, jlk, jcmp, jbin, jfl, fX12, jc2, lX12, jcat, jel, lv_args, Value.category, jins, jsrt, jins2, jble, jblt, jf3, List.filter_cons, List.filter_nil, G_m, oX12_check, joRII, -Int32.not_le, -Int32.not_lt, -Int64.not_le, -Int64.not_lt, i3lt, i6lt, e35, e36, e37, ed, c1', c2', hf]
        try simp (disch := omega) [-Prod.forall, -Prod.exists, -Prod.mk.injEq, -Int32.not_le, -Int32.not_lt, -Int64.not_le, -Int64.not_lt, i3lt, i6lt, e35, e36, e37, ed, c1', c2', hf]
        exact hp _ _ ⟨rfl, fun z => absurd hf z, fun t ht => by rw [uniq t ht]; exact ⟨fun _ => rfl, fun z => absurd isn z⟩⟩
      · have c2' : ¬ nI (en (tB σ) (tL σ) s - s) ≤ 6 := nI_ge (a := 6) (by omega) (by omega)
        have isn : ¬ isN (tB σ) (tL σ) s = true := by unfold isN; simp [c2]
        refine jCon.ofP (by decide +kernel) (by simp [lg_sl, Value.category]) (fun post hp => ?_)
        refine jvk_ok TX12_nameHere (V := [(309, 3, 12, oX12_check)]) (S := []) (List.forall_mem_cons.mpr ⟨⟨mX12_check, n + 0, 2, TX12, 53, rfl, by omega, kX12_309, WX12_check, rfl, CX12_check g (n)⟩, (fun _ h => absurd h List.not_mem_nil)⟩) (fun _ h => absurd h List.not_mem_nil) [] 30 _ _ _ _ ?_
        simp (maxSteps := 1000000) [↓Bool.cond_eq_ite, -Prod.forall, -Prod.exists, -Prod.mk.injEq, jvk, tX12_nameHere, jtb, jol, jst, jlk, jcmp, jbin, jfl, fX12, jc2, lX12, jcat, jel, lv_args, Value.category, jins, jsrt, jins2, jble, jblt, jf3, List.filter_cons, List.filter_nil, G_m, oX12_check, joRII, -Int32.not_le, -Int32.not_lt, -Int64.not_le, -Int64.not_lt, i3lt, i6lt, e35, e36, e37, ed, c1', c2', hf]
        try simp (disch := omega) [-Prod.forall, -Prod.exists, -Prod.mk.injEq, -Int32.not_le, -Int32.not_lt, -Int64.not_le, -Int64.not_lt, i3lt, i6lt, e35, e36, e37, ed, c1', c2', hf]
        exact hp _ _ ⟨rfl, fun z => absurd hf z, fun t ht => by rw [uniq t ht]; exact ⟨fun z => absurd z isn, fun _ => rfl⟩⟩
    · have c1' : ¬ tkc (kn (tB σ) (tL σ) s) = 1 := fun z => c1 (tkc_1.mp z)
      have isn : ¬ isN (tB σ) (tL σ) s = true := by unfold isN; simp [c1]
      refine jCon.ofP (by decide +kernel) (by simp [lg_sl, Value.category]) (fun post hp => ?_)
      refine jvk_ok TX12_nameHere (V := [(309, 3, 12, oX12_check)]) (S := []) (List.forall_mem_cons.mpr ⟨⟨mX12_check, n + 0, 2, TX12, 53, rfl, by omega, kX12_309, WX12_check, rfl, CX12_check g (n)⟩, (fun _ h => absurd h List.not_mem_nil)⟩) (fun _ h => absurd h List.not_mem_nil) [] 30 _ _ _ _ ?_
      simp (maxSteps := 1000000) [↓Bool.cond_eq_ite, -Prod.forall, -Prod.exists, -Prod.mk.injEq, jvk, tX12_nameHere, jtb, jol, jst, jlk, jcmp, jbin, jfl, fX12, jc2, lX12, jcat, jel, lv_args, Value.category, jins, jsrt, jins2, jble, jblt, jf3, List.filter_cons, List.filter_nil, G_m, oX12_check, joRII, -Int32.not_le, -Int32.not_lt, -Int64.not_le, -Int64.not_lt, i3lt, i6lt, e37, c1', hf]
      try simp (disch := omega) [-Prod.forall, -Prod.exists, -Prod.mk.injEq, -Int32.not_le, -Int32.not_lt, -Int64.not_le, -Int64.not_lt, i3lt, i6lt, e37, c1', hf]
      exact hp _ _ ⟨rfl, fun z => absurd hf z, fun t ht => by rw [uniq t ht]; exact ⟨fun z => absurd z isn, fun _ => rfl⟩⟩
  · have no : ∀ t, tk σ t → False := fun t ht => hf ht.2.1
    by_cases c1 : σ.1 322 37 = 1
    · by_cases c2 : σ.1 322 35 - σ.1 322 36 ≤ 6
      · refine jCon.ofP (by decide +kernel) (by simp [lg_sl, Value.category]) (fun post hp => ?_)
        refine jvk_ok TX12_nameHere (V := [(309, 3, 12, oX12_check)]) (S := []) (List.forall_mem_cons.mpr ⟨⟨mX12_check, n + 0, 2, TX12, 53, rfl, by omega, kX12_309, WX12_check, rfl, CX12_check g (n)⟩, (fun _ h => absurd h List.not_mem_nil)⟩) (fun _ h => absurd h List.not_mem_nil) [] 30 _ _ _ _ ?_
        simp (maxSteps := 1000000) [↓Bool.cond_eq_ite, -Prod.forall, -Prod.exists, -Prod.mk.injEq, jvk, tX12_nameHere, jtb, jol, jst, jlk, jcmp, jbin, jfl, fX12, jc2, lX12, jcat, jel, lv_args, Value.category, jins, jsrt, jins2, jble, jblt, jf3, List.filter_cons, List.filter_nil, G_m, oX12_check, joRII, -Int32.not_le, -Int32.not_lt, -Int64.not_le, -Int64.not_lt, i3lt, i6lt, c1, c2, hf]
        try simp (disch := omega) [-Prod.forall, -Prod.exists, -Prod.mk.injEq, -Int32.not_le, -Int32.not_lt, -Int64.not_le, -Int64.not_lt, i3lt, i6lt, c1, c2, hf]
        exact hp _ _ ⟨rfl, fun _ => rfl, fun t ht => (no t ht).elim⟩
      · refine jCon.ofP (by decide +kernel) (by simp [lg_sl, Value.category]) (fun post hp => ?_)
        refine jvk_ok TX12_nameHere (V := [(309, 3, 12, oX12_check)]) (S := []) (List.forall_mem_cons.mpr ⟨⟨mX12_check, n + 0, 2, TX12, 53, rfl, by omega, kX12_309, WX12_check, rfl, CX12_check g (n)⟩, (fun _ h => absurd h List.not_mem_nil)⟩) (fun _ h => absurd h List.not_mem_nil) [] 30 _ _ _ _ ?_
        simp (maxSteps := 1000000) [↓Bool.cond_eq_ite, -Prod.forall, -Prod.exists, -Prod.mk.injEq, jvk, tX12_nameHere, jtb, jol, jst, jlk, jcmp, jbin, jfl, fX12, jc2, lX12, jcat, jel, lv_args, Value.category, jins, jsrt, jins2, jble, jblt, jf3, List.filter_cons, List.filter_nil, G_m, oX12_check, joRII, -Int32.not_le, -Int32.not_lt, -Int64.not_le, -Int64.not_lt, i3lt, i6lt, c1, c2, hf]
        try simp (disch := omega) [-Prod.forall, -Prod.exists, -Prod.mk.injEq, -Int32.not_le, -Int32.not_lt, -Int64.not_le, -Int64.not_lt, i3lt, i6lt, c1, c2, hf]
        exact hp _ _ ⟨rfl, fun _ => rfl, fun t ht => (no t ht).elim⟩
    · refine jCon.ofP (by decide +kernel) (by simp [lg_sl, Value.category]) (fun post hp => ?_)
      refine jvk_ok TX12_nameHere (V := [(309, 3, 12, oX12_check)]) (S := []) (List.forall_mem_cons.mpr ⟨⟨mX12_check, n + 0, 2, TX12, 53, rfl, by omega, kX12_309, WX12_check, rfl, CX12_check g (n)⟩, (fun _ h => absurd h List.not_mem_nil)⟩) (fun _ h => absurd h List.not_mem_nil) [] 30 _ _ _ _ ?_
      simp (maxSteps := 1000000) [↓Bool.cond_eq_ite, -Prod.forall, -Prod.exists, -Prod.mk.injEq, jvk, tX12_nameHere, jtb, jol, jst, jlk, jcmp, jbin, jfl, fX12, jc2, lX12, jcat, jel, lv_args, Value.category, jins, jsrt, jins2, jble, jblt, jf3, List.filter_cons, List.filter_nil, G_m, oX12_check, joRII, -Int32.not_le, -Int32.not_lt, -Int64.not_le, -Int64.not_lt, i3lt, i6lt, c1, hf]
      try simp (disch := omega) [-Prod.forall, -Prod.exists, -Prod.mk.injEq, -Int32.not_le, -Int32.not_lt, -Int64.not_le, -Int64.not_lt, i3lt, i6lt, c1, hf]
      exact hp _ _ ⟨rfl, fun _ => rfl, fun t ht => (no t ht).elim⟩
/-- what a number's reading leaves -/
def iRes (σ τ : jM) (s : Nat) (r : pE ⊕ Nat) : Prop := match r with
  | .inl e => flt τ e
  | .inr y => σ.1 322 38 = nI y ∧ tk τ (nx (tB σ) (tL σ) s)
def oX12_integer : jO := joRI fun a x σ => (a = 322 ∧ rT σ ∧ (σ.1 322 41 = 0 → ∃ s, tk σ s) ∧ ∃ hi, x = nI hi ∧ hi ≤ 99999, fun v τ => v = some (.int (σ.1 322 38)) ∧ jfr aIn bTk σ τ ∧ rT τ ∧ (¬ σ.1 322 41 = 0 → τ = σ) ∧ ∀ s, tk σ s → iRes σ τ s (pInt (tB σ) (tL σ) x.toNatClampNeg s))
set_option maxRecDepth 100000 in
set_option maxHeartbeats 4000000 in
theorem CX12_integer (g : jG) (n : Nat) : jOk g (n + 2) mX12_integer oX12_integer := by
  refine joRI_ok ?_
  rintro _ _ σ ⟨rfl, h, ht, hi, rfl, hhi⟩
  obtain ⟨h1, h2, h3, h4⟩ := rT_n h
  have ech : (nI hi).toNatClampNeg = hi := nI_clamp (by omega)
  by_cases hf : σ.1 322 41 = 0
  · obtain ⟨s, hs⟩ := ht hf
    have uniq : ∀ t, tk σ t → t = s := fun t ht => tk_inj ht hs h1
    have e37 := hs.2.2.2.2.1
    have e36 := hs.2.2.1
    have n11 : ¬ (-11 : Int32) = 0 := by decide
    have n12 : ¬ (-12 : Int32) = 0 := by decide
    have rF : ∀ x, rT (jup σ 322 41 x) := fun x => h
    have sm1 : ∀ τ : jM, iRes σ τ s (pInt (tB σ) (tL σ) hi s) → ∀ t, tk σ t → iRes σ τ t (pInt (tB σ) (tL σ) (nI hi).toNatClampNeg t) := fun τ q t htt => by rw [uniq t htt, ech]; exact q
    by_cases c3 : kn (tB σ) (tL σ) s = 3
    · have c3' : tkc (kn (tB σ) (tL σ) s) = 2 := tkc_2.mpr c3
      have e38 := hs.2.2.2.2.2.1 c3
      have hnu : nu (tB σ) (tL σ) s ≤ 1000000 := nuN_le _ _ _
      by_cases cl : nu (tB σ) (tL σ) s ≤ hi
      · have cl' : nI (nu (tB σ) (tL σ) s) ≤ nI hi := nI_le cl (by omega)
        have eP : pInt (tB σ) (tL σ) hi s = .inr (nu (tB σ) (tL σ) s) := by unfold pInt; rw [if_neg (by simp [c3]), if_neg (by omega)]
        refine jCon.ofP (by decide +kernel) (by simp [lg_sl, Value.category]) (fun post hp => ?_)
        refine jvk_ok TX12_integer (V := [(309, 3, 12, oX12_check), (313, 1, 12, oX12_advance)]) (S := []) (List.forall_mem_cons.mpr ⟨⟨mX12_check, n + 0, 2, TX12, 53, rfl, by omega, kX12_309, WX12_check, rfl, CX12_check g (n)⟩, (List.forall_mem_cons.mpr ⟨⟨mX12_advance, n + 1, 0, TX12, 53, rfl, by omega, kX12_313, WX12_advance, rfl, CX12_advance g (n)⟩, (fun _ h => absurd h List.not_mem_nil)⟩)⟩) (fun _ h => absurd h List.not_mem_nil) [47] 60 _ _ _ _ ?_
        simp (maxSteps := 1000000) [↓Bool.cond_eq_ite, -Prod.forall, -Prod.exists, -Prod.mk.injEq, jvk, tX12_integer, jtb, jol, jst, jlk, jcmp, jbin, jfl, fX12, jc2, lX12, jcat, jel, lv_args, Value.category, jins, jsrt, jins2, jble, jblt, jf3, List.filter_cons, List.filter_nil, G_m, oX12_check, oX12_advance, joR, joRII, -Int32.not_le, -Int32.not_lt, -Int64.not_le, -Int64.not_lt, i3lt, i6lt, e37, c3', e38, cl', hf, h]
        try simp (disch := omega) [-Prod.forall, -Prod.exists, -Prod.mk.injEq, -Int32.not_le, -Int32.not_lt, -Int64.not_le, -Int64.not_lt, i3lt, i6lt, e37, c3', e38, cl', hf, h]
        intro v0 τ0 hv0 b1 b2 b3
        subst hv0
        have eE : tE σ = en (tB σ) (tL σ) s := by
          have := hs.2.2.2.1
          unfold tE
          rw [this, nI_clamp (by have := (en_le (b := tB σ) hs.1).2.1; omega)]
        rw [eE] at b3
        refine jvk_ok TX12_integer (V := [(309, 3, 12, oX12_check), (313, 1, 12, oX12_advance)]) (S := []) (List.forall_mem_cons.mpr ⟨⟨mX12_check, n + 0, 2, TX12, 53, rfl, by omega, kX12_309, WX12_check, rfl, CX12_check g (n)⟩, (List.forall_mem_cons.mpr ⟨⟨mX12_advance, n + 1, 0, TX12, 53, rfl, by omega, kX12_313, WX12_advance, rfl, CX12_advance g (n)⟩, (fun _ h => absurd h List.not_mem_nil)⟩)⟩) (fun _ h => absurd h List.not_mem_nil) [] 20 _ _ _ _ ?_
        simp (maxSteps := 1000000) [↓Bool.cond_eq_ite, -Prod.forall, -Prod.exists, -Prod.mk.injEq, jvk, tX12_integer, jtb, jol, jst, jlk, jcmp, jbin, jfl, fX12, jc2, lX12, jcat, jel, lv_args, Value.category, jins, jsrt, jins2, jble, jblt, jf3, List.filter_cons, List.filter_nil, G_m, oX12_check, oX12_advance, joR, joRII, -Int32.not_le, -Int32.not_lt, -Int64.not_le, -Int64.not_lt, i3lt, i6lt]
        try simp (disch := omega) [-Prod.forall, -Prod.exists, -Prod.mk.injEq, -Int32.not_le, -Int32.not_lt, -Int64.not_le, -Int64.not_lt, i3lt, i6lt]
        exact hp _ _ ⟨by rw [e38], b1.weak (fun a j q => in_Tk a j q) (fun _ q => q), b2, fun z => absurd hf z, sm1 _ (by rw [eP]; exact ⟨e38, b3⟩)⟩
      · have cl' : ¬ nI (nu (tB σ) (tL σ) s) ≤ nI hi := nI_ge (by omega) (by omega)
        have eP : pInt (tB σ) (tL σ) hi s = .inl (-12, s) := by unfold pInt; rw [if_neg (by simp [c3]), if_pos (by omega)]
        refine jCon.ofP (by decide +kernel) (by simp [lg_sl, Value.category]) (fun post hp => ?_)
        refine jvk_ok TX12_integer (V := [(309, 3, 12, oX12_check), (313, 1, 12, oX12_advance)]) (S := []) (List.forall_mem_cons.mpr ⟨⟨mX12_check, n + 0, 2, TX12, 53, rfl, by omega, kX12_309, WX12_check, rfl, CX12_check g (n)⟩, (List.forall_mem_cons.mpr ⟨⟨mX12_advance, n + 1, 0, TX12, 53, rfl, by omega, kX12_313, WX12_advance, rfl, CX12_advance g (n)⟩, (fun _ h => absurd h List.not_mem_nil)⟩)⟩) (fun _ h => absurd h List.not_mem_nil) [47] 60 _ _ _ _ ?_
        simp (maxSteps := 1000000) [↓Bool.cond_eq_ite, -Prod.forall, -Prod.exists, -Prod.mk.injEq, jvk, tX12_integer, jtb, jol, jst, jlk, jcmp, jbin, jfl, fX12, jc2, lX12, jcat, jel, lv_args, Value.category, jins, jsrt, jins2, jble, jblt, jf3, List.filter_cons, List.filter_nil, G_m, oX12_check, oX12_advance, joR, joRII, -Int32.not_le, -Int32.not_lt, -Int64.not_le, -Int64.not_lt, i3lt, i6lt, e37, c3', e38, cl', hf, h, rF, n12, jup_1]
        try simp (disch := omega) [-Prod.forall, -Prod.exists, -Prod.mk.injEq, -Int32.not_le, -Int32.not_lt, -Int64.not_le, -Int64.not_lt, i3lt, i6lt, e37, c3', e38, cl', hf, h, rF, n12, jup_1]
        refine jvk_ok TX12_integer (V := [(309, 3, 12, oX12_check), (313, 1, 12, oX12_advance)]) (S := []) (List.forall_mem_cons.mpr ⟨⟨mX12_check, n + 0, 2, TX12, 53, rfl, by omega, kX12_309, WX12_check, rfl, CX12_check g (n)⟩, (List.forall_mem_cons.mpr ⟨⟨mX12_advance, n + 1, 0, TX12, 53, rfl, by omega, kX12_313, WX12_advance, rfl, CX12_advance g (n)⟩, (fun _ h => absurd h List.not_mem_nil)⟩)⟩) (fun _ h => absurd h List.not_mem_nil) [] 20 _ _ _ _ ?_
        simp (maxSteps := 1000000) [↓Bool.cond_eq_ite, -Prod.forall, -Prod.exists, -Prod.mk.injEq, jvk, tX12_integer, jtb, jol, jst, jlk, jcmp, jbin, jfl, fX12, jc2, lX12, jcat, jel, lv_args, Value.category, jins, jsrt, jins2, jble, jblt, jf3, List.filter_cons, List.filter_nil, G_m, oX12_check, oX12_advance, joR, joRII, -Int32.not_le, -Int32.not_lt, -Int64.not_le, -Int64.not_lt, i3lt, i6lt]
        try simp (disch := omega) [-Prod.forall, -Prod.exists, -Prod.mk.injEq, -Int32.not_le, -Int32.not_lt, -Int64.not_le, -Int64.not_lt, i3lt, i6lt]
        exact hp _ _ ⟨by rw [e38], jfr.rfl.up _ rfl, h, fun z => absurd hf z, sm1 _ (by rw [eP]; exact ⟨rfl, n12, e36⟩)⟩
    · have c3' : ¬ tkc (kn (tB σ) (tL σ) s) = 2 := fun z => c3 (tkc_2.mp z)
      have e38 := hs.2.2.2.2.2.2.1 c3
      have cl' : (0 : Int32) ≤ nI hi := nI_pos' (by omega)
      have eP : pInt (tB σ) (tL σ) hi s = .inl (-11, s) := by unfold pInt; rw [if_pos c3]
      refine jCon.ofP (by decide +kernel) (by simp [lg_sl, Value.category]) (fun post hp => ?_)
      refine jvk_ok TX12_integer (V := [(309, 3, 12, oX12_check), (313, 1, 12, oX12_advance)]) (S := []) (List.forall_mem_cons.mpr ⟨⟨mX12_check, n + 0, 2, TX12, 53, rfl, by omega, kX12_309, WX12_check, rfl, CX12_check g (n)⟩, (List.forall_mem_cons.mpr ⟨⟨mX12_advance, n + 1, 0, TX12, 53, rfl, by omega, kX12_313, WX12_advance, rfl, CX12_advance g (n)⟩, (fun _ h => absurd h List.not_mem_nil)⟩)⟩) (fun _ h => absurd h List.not_mem_nil) [47] 60 _ _ _ _ ?_
      simp (maxSteps := 1000000) [↓Bool.cond_eq_ite, -Prod.forall, -Prod.exists, -Prod.mk.injEq, jvk, tX12_integer, jtb, jol, jst, jlk, jcmp, jbin, jfl, fX12, jc2, lX12, jcat, jel, lv_args, Value.category, jins, jsrt, jins2, jble, jblt, jf3, List.filter_cons, List.filter_nil, G_m, oX12_check, oX12_advance, joR, joRII, -Int32.not_le, -Int32.not_lt, -Int64.not_le, -Int64.not_lt, i3lt, i6lt, e37, c3', e38, cl', hf, h, rF, n11, jup_1]
      try simp (disch := omega) [-Prod.forall, -Prod.exists, -Prod.mk.injEq, -Int32.not_le, -Int32.not_lt, -Int64.not_le, -Int64.not_lt, i3lt, i6lt, e37, c3', e38, cl', hf, h, rF, n11, jup_1]
      refine jvk_ok TX12_integer (V := [(309, 3, 12, oX12_check), (313, 1, 12, oX12_advance)]) (S := []) (List.forall_mem_cons.mpr ⟨⟨mX12_check, n + 0, 2, TX12, 53, rfl, by omega, kX12_309, WX12_check, rfl, CX12_check g (n)⟩, (List.forall_mem_cons.mpr ⟨⟨mX12_advance, n + 1, 0, TX12, 53, rfl, by omega, kX12_313, WX12_advance, rfl, CX12_advance g (n)⟩, (fun _ h => absurd h List.not_mem_nil)⟩)⟩) (fun _ h => absurd h List.not_mem_nil) [] 20 _ _ _ _ ?_
      simp (maxSteps := 1000000) [↓Bool.cond_eq_ite, -Prod.forall, -Prod.exists, -Prod.mk.injEq, jvk, tX12_integer, jtb, jol, jst, jlk, jcmp, jbin, jfl, fX12, jc2, lX12, jcat, jel, lv_args, Value.category, jins, jsrt, jins2, jble, jblt, jf3, List.filter_cons, List.filter_nil, G_m, oX12_check, oX12_advance, joR, joRII, -Int32.not_le, -Int32.not_lt, -Int64.not_le, -Int64.not_lt, i3lt, i6lt]
      try simp (disch := omega) [-Prod.forall, -Prod.exists, -Prod.mk.injEq, -Int32.not_le, -Int32.not_lt, -Int64.not_le, -Int64.not_lt, i3lt, i6lt]
      exact hp _ _ ⟨by rw [e38], jfr.rfl.up _ rfl, h, fun z => absurd hf z, sm1 _ (by rw [eP]; exact ⟨rfl, n11, e36⟩)⟩
  · have no : ∀ t, tk σ t → False := fun t ht => hf ht.2.1
    by_cases c1 : σ.1 322 37 = 2
    · by_cases c2 : σ.1 322 38 ≤ nI hi
      · refine jCon.ofP (by decide +kernel) (by simp [lg_sl, Value.category]) (fun post hp => ?_)
        refine jvk_ok TX12_integer (V := [(309, 3, 12, oX12_check), (313, 1, 12, oX12_advance)]) (S := []) (List.forall_mem_cons.mpr ⟨⟨mX12_check, n + 0, 2, TX12, 53, rfl, by omega, kX12_309, WX12_check, rfl, CX12_check g (n)⟩, (List.forall_mem_cons.mpr ⟨⟨mX12_advance, n + 1, 0, TX12, 53, rfl, by omega, kX12_313, WX12_advance, rfl, CX12_advance g (n)⟩, (fun _ h => absurd h List.not_mem_nil)⟩)⟩) (fun _ h => absurd h List.not_mem_nil) [47] 60 _ _ _ _ ?_
        simp (maxSteps := 1000000) [↓Bool.cond_eq_ite, -Prod.forall, -Prod.exists, -Prod.mk.injEq, jvk, tX12_integer, jtb, jol, jst, jlk, jcmp, jbin, jfl, fX12, jc2, lX12, jcat, jel, lv_args, Value.category, jins, jsrt, jins2, jble, jblt, jf3, List.filter_cons, List.filter_nil, G_m, oX12_check, oX12_advance, joR, joRII, -Int32.not_le, -Int32.not_lt, -Int64.not_le, -Int64.not_lt, i3lt, i6lt, c1, c2, hf, h]
        try simp (disch := omega) [-Prod.forall, -Prod.exists, -Prod.mk.injEq, -Int32.not_le, -Int32.not_lt, -Int64.not_le, -Int64.not_lt, i3lt, i6lt, c1, c2, hf, h]
        refine jvk_ok TX12_integer (V := [(309, 3, 12, oX12_check), (313, 1, 12, oX12_advance)]) (S := []) (List.forall_mem_cons.mpr ⟨⟨mX12_check, n + 0, 2, TX12, 53, rfl, by omega, kX12_309, WX12_check, rfl, CX12_check g (n)⟩, (List.forall_mem_cons.mpr ⟨⟨mX12_advance, n + 1, 0, TX12, 53, rfl, by omega, kX12_313, WX12_advance, rfl, CX12_advance g (n)⟩, (fun _ h => absurd h List.not_mem_nil)⟩)⟩) (fun _ h => absurd h List.not_mem_nil) [] 20 _ _ _ _ ?_
        simp (maxSteps := 1000000) [↓Bool.cond_eq_ite, -Prod.forall, -Prod.exists, -Prod.mk.injEq, jvk, tX12_integer, jtb, jol, jst, jlk, jcmp, jbin, jfl, fX12, jc2, lX12, jcat, jel, lv_args, Value.category, jins, jsrt, jins2, jble, jblt, jf3, List.filter_cons, List.filter_nil, G_m, oX12_check, oX12_advance, joR, joRII, -Int32.not_le, -Int32.not_lt, -Int64.not_le, -Int64.not_lt, i3lt, i6lt]
        try simp (disch := omega) [-Prod.forall, -Prod.exists, -Prod.mk.injEq, -Int32.not_le, -Int32.not_lt, -Int64.not_le, -Int64.not_lt, i3lt, i6lt]
        exact hp _ _ ⟨rfl, jfr.rfl, h, fun _ => rfl, fun t ht => (no t ht).elim⟩
      · refine jCon.ofP (by decide +kernel) (by simp [lg_sl, Value.category]) (fun post hp => ?_)
        refine jvk_ok TX12_integer (V := [(309, 3, 12, oX12_check), (313, 1, 12, oX12_advance)]) (S := []) (List.forall_mem_cons.mpr ⟨⟨mX12_check, n + 0, 2, TX12, 53, rfl, by omega, kX12_309, WX12_check, rfl, CX12_check g (n)⟩, (List.forall_mem_cons.mpr ⟨⟨mX12_advance, n + 1, 0, TX12, 53, rfl, by omega, kX12_313, WX12_advance, rfl, CX12_advance g (n)⟩, (fun _ h => absurd h List.not_mem_nil)⟩)⟩) (fun _ h => absurd h List.not_mem_nil) [47] 60 _ _ _ _ ?_
        simp (maxSteps := 1000000) [↓Bool.cond_eq_ite, -Prod.forall, -Prod.exists, -Prod.mk.injEq, jvk, tX12_integer, jtb, jol, jst, jlk, jcmp, jbin, jfl, fX12, jc2, lX12, jcat, jel, lv_args, Value.category, jins, jsrt, jins2, jble, jblt, jf3, List.filter_cons, List.filter_nil, G_m, oX12_check, oX12_advance, joR, joRII, -Int32.not_le, -Int32.not_lt, -Int64.not_le, -Int64.not_lt, i3lt, i6lt, c1, c2, hf, h]
        try simp (disch := omega) [-Prod.forall, -Prod.exists, -Prod.mk.injEq, -Int32.not_le, -Int32.not_lt, -Int64.not_le, -Int64.not_lt, i3lt, i6lt, c1, c2, hf, h]
        refine jvk_ok TX12_integer (V := [(309, 3, 12, oX12_check), (313, 1, 12, oX12_advance)]) (S := []) (List.forall_mem_cons.mpr ⟨⟨mX12_check, n + 0, 2, TX12, 53, rfl, by omega, kX12_309, WX12_check, rfl, CX12_check g (n)⟩, (List.forall_mem_cons.mpr ⟨⟨mX12_advance, n + 1, 0, TX12, 53, rfl, by omega, kX12_313, WX12_advance, rfl, CX12_advance g (n)⟩, (fun _ h => absurd h List.not_mem_nil)⟩)⟩) (fun _ h => absurd h List.not_mem_nil) [] 20 _ _ _ _ ?_
        simp (maxSteps := 1000000) [↓Bool.cond_eq_ite, -Prod.forall, -Prod.exists, -Prod.mk.injEq, jvk, tX12_integer, jtb, jol, jst, jlk, jcmp, jbin, jfl, fX12, jc2, lX12, jcat, jel, lv_args, Value.category, jins, jsrt, jins2, jble, jblt, jf3, List.filter_cons, List.filter_nil, G_m, oX12_check, oX12_advance, joR, joRII, -Int32.not_le, -Int32.not_lt, -Int64.not_le, -Int64.not_lt, i3lt, i6lt]
        try simp (disch := omega) [-Prod.forall, -Prod.exists, -Prod.mk.injEq, -Int32.not_le, -Int32.not_lt, -Int64.not_le, -Int64.not_lt, i3lt, i6lt]
        exact hp _ _ ⟨rfl, jfr.rfl, h, fun _ => rfl, fun t ht => (no t ht).elim⟩
    · by_cases c2 : σ.1 322 38 ≤ nI hi
      · refine jCon.ofP (by decide +kernel) (by simp [lg_sl, Value.category]) (fun post hp => ?_)
        refine jvk_ok TX12_integer (V := [(309, 3, 12, oX12_check), (313, 1, 12, oX12_advance)]) (S := []) (List.forall_mem_cons.mpr ⟨⟨mX12_check, n + 0, 2, TX12, 53, rfl, by omega, kX12_309, WX12_check, rfl, CX12_check g (n)⟩, (List.forall_mem_cons.mpr ⟨⟨mX12_advance, n + 1, 0, TX12, 53, rfl, by omega, kX12_313, WX12_advance, rfl, CX12_advance g (n)⟩, (fun _ h => absurd h List.not_mem_nil)⟩)⟩) (fun _ h => absurd h List.not_mem_nil) [47] 60 _ _ _ _ ?_
        simp (maxSteps := 1000000) [↓Bool.cond_eq_ite, -Prod.forall, -Prod.exists, -Prod.mk.injEq, jvk, tX12_integer, jtb, jol, jst, jlk, jcmp, jbin, jfl, fX12, jc2, lX12, jcat, jel, lv_args, Value.category, jins, jsrt, jins2, jble, jblt, jf3, List.filter_cons, List.filter_nil, G_m, oX12_check, oX12_advance, joR, joRII, -Int32.not_le, -Int32.not_lt, -Int64.not_le, -Int64.not_lt, i3lt, i6lt, c1, c2, hf, h]
        try simp (disch := omega) [-Prod.forall, -Prod.exists, -Prod.mk.injEq, -Int32.not_le, -Int32.not_lt, -Int64.not_le, -Int64.not_lt, i3lt, i6lt, c1, c2, hf, h]
        refine jvk_ok TX12_integer (V := [(309, 3, 12, oX12_check), (313, 1, 12, oX12_advance)]) (S := []) (List.forall_mem_cons.mpr ⟨⟨mX12_check, n + 0, 2, TX12, 53, rfl, by omega, kX12_309, WX12_check, rfl, CX12_check g (n)⟩, (List.forall_mem_cons.mpr ⟨⟨mX12_advance, n + 1, 0, TX12, 53, rfl, by omega, kX12_313, WX12_advance, rfl, CX12_advance g (n)⟩, (fun _ h => absurd h List.not_mem_nil)⟩)⟩) (fun _ h => absurd h List.not_mem_nil) [] 20 _ _ _ _ ?_
        simp (maxSteps := 1000000) [↓Bool.cond_eq_ite, -Prod.forall, -Prod.exists, -Prod.mk.injEq, jvk, tX12_integer, jtb, jol, jst, jlk, jcmp, jbin, jfl, fX12, jc2, lX12, jcat, jel, lv_args, Value.category, jins, jsrt, jins2, jble, jblt, jf3, List.filter_cons, List.filter_nil, G_m, oX12_check, oX12_advance, joR, joRII, -Int32.not_le, -Int32.not_lt, -Int64.not_le, -Int64.not_lt, i3lt, i6lt]
        try simp (disch := omega) [-Prod.forall, -Prod.exists, -Prod.mk.injEq, -Int32.not_le, -Int32.not_lt, -Int64.not_le, -Int64.not_lt, i3lt, i6lt]
        exact hp _ _ ⟨rfl, jfr.rfl, h, fun _ => rfl, fun t ht => (no t ht).elim⟩
      · refine jCon.ofP (by decide +kernel) (by simp [lg_sl, Value.category]) (fun post hp => ?_)
        refine jvk_ok TX12_integer (V := [(309, 3, 12, oX12_check), (313, 1, 12, oX12_advance)]) (S := []) (List.forall_mem_cons.mpr ⟨⟨mX12_check, n + 0, 2, TX12, 53, rfl, by omega, kX12_309, WX12_check, rfl, CX12_check g (n)⟩, (List.forall_mem_cons.mpr ⟨⟨mX12_advance, n + 1, 0, TX12, 53, rfl, by omega, kX12_313, WX12_advance, rfl, CX12_advance g (n)⟩, (fun _ h => absurd h List.not_mem_nil)⟩)⟩) (fun _ h => absurd h List.not_mem_nil) [47] 60 _ _ _ _ ?_
        simp (maxSteps := 1000000) [↓Bool.cond_eq_ite, -Prod.forall, -Prod.exists, -Prod.mk.injEq, jvk, tX12_integer, jtb, jol, jst, jlk, jcmp, jbin, jfl, fX12, jc2, lX12, jcat, jel, lv_args, Value.category, jins, jsrt, jins2, jble, jblt, jf3, List.filter_cons, List.filter_nil, G_m, oX12_check, oX12_advance, joR, joRII, -Int32.not_le, -Int32.not_lt, -Int64.not_le, -Int64.not_lt, i3lt, i6lt, c1, c2, hf, h]
        try simp (disch := omega) [-Prod.forall, -Prod.exists, -Prod.mk.injEq, -Int32.not_le, -Int32.not_lt, -Int64.not_le, -Int64.not_lt, i3lt, i6lt, c1, c2, hf, h]
        refine jvk_ok TX12_integer (V := [(309, 3, 12, oX12_check), (313, 1, 12, oX12_advance)]) (S := []) (List.forall_mem_cons.mpr ⟨⟨mX12_check, n + 0, 2, TX12, 53, rfl, by omega, kX12_309, WX12_check, rfl, CX12_check g (n)⟩, (List.forall_mem_cons.mpr ⟨⟨mX12_advance, n + 1, 0, TX12, 53, rfl, by omega, kX12_313, WX12_advance, rfl, CX12_advance g (n)⟩, (fun _ h => absurd h List.not_mem_nil)⟩)⟩) (fun _ h => absurd h List.not_mem_nil) [] 20 _ _ _ _ ?_
        simp (maxSteps := 1000000) [↓Bool.cond_eq_ite, -Prod.forall, -Prod.exists, -Prod.mk.injEq, jvk, tX12_integer, jtb, jol, jst, jlk, jcmp, jbin, jfl, fX12, jc2, lX12, jcat, jel, lv_args, Value.category, jins, jsrt, jins2, jble, jblt, jf3, List.filter_cons, List.filter_nil, G_m, oX12_check, oX12_advance, joR, joRII, -Int32.not_le, -Int32.not_lt, -Int64.not_le, -Int64.not_lt, i3lt, i6lt]
        try simp (disch := omega) [-Prod.forall, -Prod.exists, -Prod.mk.injEq, -Int32.not_le, -Int32.not_lt, -Int64.not_le, -Int64.not_lt, i3lt, i6lt]
        exact hp _ _ ⟨rfl, jfr.rfl, h, fun _ => rfl, fun t ht => (no t ht).elim⟩
