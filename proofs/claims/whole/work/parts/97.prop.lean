/-! Proposal: leastShareFor -/
def lsY (σ : jM) (s k : Nat) : Int32 := tuS ((σ.1 259 5).toNatClampNeg - iPt (σ.1 259 5).toNatClampNeg s : Nat) (prC ((σ.1 259 5).toNatClampNeg - iPt (σ.1 259 5).toNatClampNeg s : Nat) (cM σ 260) (ivI σ 274)) (cM σ 260) k + spS (iPt (σ.1 259 5).toNatClampNeg s) (wtN σ 275) (cM σ 260) k
def lsP (σ : jM) (x : Int32) (s : Nat) : Bool := decide (cn (fun k => decide (lsY σ s k * 100 ≤ σ.1 275 k * x)) (cM σ 260) = cM σ 260)
def lsH (σ : jM) : Prop := cOK σ 260 ∧ 0 < cM σ 260 ∧ (0 ≤ σ.1 259 5 ∧ σ.1 259 5 ≤ 99999) ∧ (∀ i, i < cM σ 260 → -10000000 ≤ ivI σ 274 i ∧ ivI σ 274 i ≤ 10000000 ∧ (60 : Int) ∣ ivI σ 274 i) ∧ ∀ i, i < cM σ 260 → 0 ≤ σ.1 275 i
def oX6_leastShareFor : jO := joRI fun a x σ => (a = 259 ∧ lsH σ, fun v τ => v = some (.int (ff (lsP σ x) 101 0)) ∧ jfr (aBl 282) (gvB 286) σ τ)
set_option maxRecDepth 100000 in
set_option maxHeartbeats 4000000 in
theorem CX6_leastShareFor (g : jG) (n : Nat) : jOk g (n + 3) mX6_leastShareFor oX6_leastShareFor := by
  refine joRI_ok ?_
  rintro _ x σ ⟨rfl, hok, hm0, hl, hB, hW⟩
  obtain ⟨m6, em, -, -⟩ := cOK_n hok
  obtain ⟨L, L1, L2, L3⟩ := nI_rng hl.1 hl.2 (by decide)
  have hBl := blF_of (b := 282) (Or.inr rfl)
  have a274 : arF 274 := ⟨by decide +kernel, by decide +kernel⟩
  have a275 : arF 275 := ⟨by decide +kernel, by decide +kernel⟩
  obtain ⟨F, eF⟩ : ∃ F, F = ff (lsP σ x) 101 0 := ⟨_, rfl⟩
  refine jCon.ofP (by decide +kernel) (by simp [lg_sl, Value.category]) (fun post hp => ?_)
  refine jvk_ok TX6_leastShareFor (V := [(83, 6, 0, oX0_make), (130, 3, 6, oX6_countAble)]) (S := []) (List.forall_mem_cons.mpr ⟨⟨mX0_make, n + 2, 5, TX0, 4, rfl, by omega, kX6_83, WX0_make, rfl, CX0_make g (n)⟩, (List.forall_mem_cons.mpr ⟨⟨mX6_countAble, n + 0, 2, TX6, 8, rfl, by omega, kX6_130, WX6_countAble, rfl, CX6_countAble g (n)⟩, (fun _ h => absurd h List.not_mem_nil)⟩)⟩) (fun _ h => absurd h List.not_mem_nil) [2] 20 _ _ _ _ ?_
  simp (maxSteps := 1000000) [↓Bool.cond_eq_ite, -Prod.forall, -Prod.exists, -Prod.mk.injEq, jvk, tX6_leastShareFor, jtb, jol, jst, jlk, jcmp, jbin, jfl, fX6, jc2, lX6, jcat, jel, lv_args, Value.category, jins, jsrt, jins2, jble, jblt, jf3, List.filter_cons, List.filter_nil, G_prop, G_choice, G_flat, oX0_make, oX6_countAble, joRIRRII, joRRI, -Int32.not_le, -Int32.not_lt, -Int64.not_le, -Int64.not_lt, i3lt, i6lt]
  try simp (disch := omega) [-Prod.forall, -Prod.exists, -Prod.mk.injEq, -Int32.not_le, -Int32.not_lt, -Int64.not_le, -Int64.not_lt, i3lt, i6lt]
  rw [← eF] at hp
  have loop := jloop (P := fun k => ff (lsP σ x) (101 - k) k = F → ∀ ρ : jM, jfr (aBl 282) (gvB 286) σ ρ → jW g mX6_leastShareFor (n + 3) post 2 [(0, .ref 259), (1, .int x), (2, .int (nI k))] [] ρ) (N := 101) (fun e ρ f => by
    have hgt : ¬ nI 101 ≤ (100 : Int32) := by decide
    refine jvk_ok TX6_leastShareFor (V := [(83, 6, 0, oX0_make), (130, 3, 6, oX6_countAble)]) (S := []) (List.forall_mem_cons.mpr ⟨⟨mX0_make, n + 2, 5, TX0, 4, rfl, by omega, kX6_83, WX0_make, rfl, CX0_make g (n)⟩, (List.forall_mem_cons.mpr ⟨⟨mX6_countAble, n + 0, 2, TX6, 8, rfl, by omega, kX6_130, WX6_countAble, rfl, CX6_countAble g (n)⟩, (fun _ h => absurd h List.not_mem_nil)⟩)⟩) (fun _ h => absurd h List.not_mem_nil) [2] 20 _ _ _ _ ?_
    simp (maxSteps := 1000000) [↓Bool.cond_eq_ite, -Prod.forall, -Prod.exists, -Prod.mk.injEq, jvk, tX6_leastShareFor, jtb, jol, jst, jlk, jcmp, jbin, jfl, fX6, jc2, lX6, jcat, jel, lv_args, Value.category, jins, jsrt, jins2, jble, jblt, jf3, List.filter_cons, List.filter_nil, G_prop, G_choice, G_flat, oX0_make, oX6_countAble, joRIRRII, joRRI, -Int32.not_le, -Int32.not_lt, -Int64.not_le, -Int64.not_lt, i3lt, i6lt, hgt]
    try simp (disch := omega) [-Prod.forall, -Prod.exists, -Prod.mk.injEq, -Int32.not_le, -Int32.not_lt, -Int64.not_le, -Int64.not_lt, i3lt, i6lt, hgt]
    exact hp _ _ ⟨by rw [← e]; rfl, f⟩) (fun k hk ih e ρ f => by
    have hle : nI k ≤ (100 : Int32) := nI_le (b := 100) (by omega) (by decide)
    have old : ∀ b j, b < 283 ∨ 285 < b → ρ.1 b j = σ.1 b j := fun b j h => f.2.2 b j (aBl_f h)
    have same : ∀ c, 260 ≤ c → c ≤ 271 → ρ.1 c = σ.1 c := fun c q1 q2 => funext fun j => old c j (by omega)
    have eM : cM ρ 260 = cM σ 260 := (prH_fr same).1
    have e4 : ρ.1 260 0 = nI (cM σ 260) := by rw [same 260 (by omega) (by omega)]; exact em
    have e5 : ρ.1 259 5 = nI L := (old 259 5 (by omega)).trans L2
    have i274 : ivI ρ 274 = ivI σ 274 := by funext j; unfold ivI; rw [old 274 j (by omega)]
    have w275 : wtN ρ 275 = wtN σ 275 := by funext j; unfold wtN; rw [old 275 j (by omega)]
    have pre : preM ρ 274 275 (nI (cM σ 260)) (nI L) (nI k) := ⟨cM σ 260, L, k, rfl, hm0, m6, rfl, L1, rfl, by omega, fun i hi => by rw [i274]; exact hB i hi, fun i hi => by rw [old 275 i (by omega)]; exact hW i hi⟩
    rw [show 101 - k = (101 - (k + 1)) + 1 by omega] at e
    simp only [ff] at e
    refine jvk_ok TX6_leastShareFor (V := [(83, 6, 0, oX0_make), (130, 3, 6, oX6_countAble)]) (S := []) (List.forall_mem_cons.mpr ⟨⟨mX0_make, n + 2, 5, TX0, 4, rfl, by omega, kX6_83, WX0_make, rfl, CX0_make g (n)⟩, (List.forall_mem_cons.mpr ⟨⟨mX6_countAble, n + 0, 2, TX6, 8, rfl, by omega, kX6_130, WX6_countAble, rfl, CX6_countAble g (n)⟩, (fun _ h => absurd h List.not_mem_nil)⟩)⟩) (fun _ h => absurd h List.not_mem_nil) [35] 40 _ _ _ _ ?_
    simp (maxSteps := 1000000) [↓Bool.cond_eq_ite, -Prod.forall, -Prod.exists, -Prod.mk.injEq, jvk, tX6_leastShareFor, jtb, jol, jst, jlk, jcmp, jbin, jfl, fX6, jc2, lX6, jcat, jel, lv_args, Value.category, jins, jsrt, jins2, jble, jblt, jf3, List.filter_cons, List.filter_nil, G_prop, G_choice, G_flat, oX0_make, oX6_countAble, joRIRRII, joRRI, -Int32.not_le, -Int32.not_lt, -Int64.not_le, -Int64.not_lt, i3lt, i6lt, hle, e4, e5, hBl, a274, a275, pre]
    try simp (disch := omega) [-Prod.forall, -Prod.exists, -Prod.mk.injEq, -Int32.not_le, -Int32.not_lt, -Int64.not_le, -Int64.not_lt, i3lt, i6lt, hle, e4, e5, hBl, a274, a275, pre]
    intro v1 τ hv1 fr h7
    subst hv1
    rw [nI_clamp (by omega : cM σ 260 < 2147483648), nI_clamp (by omega : L < 2147483648), nI_clamp (by omega : k < 2147483648), i274, w275] at h7
    have same7 : ∀ c, 260 ≤ c → c ≤ 271 → τ.1 c = ρ.1 c := fun c q1 q2 => funext fun j => fr.2.2 c j (aBl_f (by omega))
    have okτ : cOK τ 260 := ((prH_fr same7).2.2 ((prH_fr same).2.2 hok).1).1
    have eMτ : cM τ 260 = cM σ 260 := (prH_fr same7).1.trans eM
    have e4τ : τ.1 260 0 = nI (cM σ 260) := by rw [same7 260 (by omega) (by omega)]; exact e4
    have ecn : cn (abP τ 282 x) (cM σ 260) = cn (fun j => decide (lsY σ k j * 100 ≤ σ.1 275 j * x)) (cM σ 260) := cn_congr _ (fun j hj => by
      have h3 := (h7 j hj).2.2
      have e75 : τ.1 275 j = σ.1 275 j := (fr.2.2 275 j (aBl_f (by omega))).trans (old 275 j (by omega))
      unfold abP lsY
      rw [show (282 : Nat) + 3 = 285 from rfl] at *
      rw [h3, e75, L3])
    obtain ⟨c, ec⟩ : ∃ c, c = cn (abP τ 282 x) (cM σ 260) := ⟨_, rfl⟩
    have hc := cn_le (abP τ 282 x) (cM σ 260)
    rw [← ec] at hc
    have hcmp := nI_eq (a := c) (b := cM σ 260) (by omega) (by omega)
    refine jvk_ok TX6_leastShareFor (V := [(83, 6, 0, oX0_make), (130, 3, 6, oX6_countAble)]) (S := []) (List.forall_mem_cons.mpr ⟨⟨mX0_make, n + 2, 5, TX0, 4, rfl, by omega, kX6_83, WX0_make, rfl, CX0_make g (n)⟩, (List.forall_mem_cons.mpr ⟨⟨mX6_countAble, n + 0, 2, TX6, 8, rfl, by omega, kX6_130, WX6_countAble, rfl, CX6_countAble g (n)⟩, (fun _ h => absurd h List.not_mem_nil)⟩)⟩) (fun _ h => absurd h List.not_mem_nil) [44] 40 _ _ _ _ ?_
    simp (maxSteps := 1000000) [↓Bool.cond_eq_ite, -Prod.forall, -Prod.exists, -Prod.mk.injEq, jvk, tX6_leastShareFor, jtb, jol, jst, jlk, jcmp, jbin, jfl, fX6, jc2, lX6, jcat, jel, lv_args, Value.category, jins, jsrt, jins2, jble, jblt, jf3, List.filter_cons, List.filter_nil, G_prop, G_choice, G_flat, oX0_make, oX6_countAble, joRIRRII, joRRI, -Int32.not_le, -Int32.not_lt, -Int64.not_le, -Int64.not_lt, i3lt, i6lt, hBl, okτ, eMτ, ec.symm]
    try simp (disch := omega) [-Prod.forall, -Prod.exists, -Prod.mk.injEq, -Int32.not_le, -Int32.not_lt, -Int64.not_le, -Int64.not_lt, i3lt, i6lt, hBl, okτ, eMτ, ec.symm]
    by_cases z : c = cM σ 260
    · have z' := hcmp.mpr z
      rw [if_pos (by unfold lsP; rw [decide_eq_true_eq, ← ecn, ← ec]; exact z)] at e
      refine jvk_ok TX6_leastShareFor (V := [(83, 6, 0, oX0_make), (130, 3, 6, oX6_countAble)]) (S := []) (List.forall_mem_cons.mpr ⟨⟨mX0_make, n + 2, 5, TX0, 4, rfl, by omega, kX6_83, WX0_make, rfl, CX0_make g (n)⟩, (List.forall_mem_cons.mpr ⟨⟨mX6_countAble, n + 0, 2, TX6, 8, rfl, by omega, kX6_130, WX6_countAble, rfl, CX6_countAble g (n)⟩, (fun _ h => absurd h List.not_mem_nil)⟩)⟩) (fun _ h => absurd h List.not_mem_nil) [2] 20 _ _ _ _ ?_
      simp (maxSteps := 1000000) [↓Bool.cond_eq_ite, -Prod.forall, -Prod.exists, -Prod.mk.injEq, jvk, tX6_leastShareFor, jtb, jol, jst, jlk, jcmp, jbin, jfl, fX6, jc2, lX6, jcat, jel, lv_args, Value.category, jins, jsrt, jins2, jble, jblt, jf3, List.filter_cons, List.filter_nil, G_prop, G_choice, G_flat, oX0_make, oX6_countAble, joRIRRII, joRRI, -Int32.not_le, -Int32.not_lt, -Int64.not_le, -Int64.not_lt, i3lt, i6lt, e4τ, z']
      try simp (disch := omega) [-Prod.forall, -Prod.exists, -Prod.mk.injEq, -Int32.not_le, -Int32.not_lt, -Int64.not_le, -Int64.not_lt, i3lt, i6lt, e4τ, z']
      exact hp _ _ ⟨by rw [← e], f.tr fr⟩
    · have z' : ¬ nI c = nI (cM σ 260) := fun w => z (hcmp.mp w)
      rw [if_neg (by unfold lsP; rw [decide_eq_true_eq, ← ecn, ← ec]; exact z)] at e
      have k1 := ih e τ (f.tr fr)
      refine jvk_ok TX6_leastShareFor (V := [(83, 6, 0, oX0_make), (130, 3, 6, oX6_countAble)]) (S := []) (List.forall_mem_cons.mpr ⟨⟨mX0_make, n + 2, 5, TX0, 4, rfl, by omega, kX6_83, WX0_make, rfl, CX0_make g (n)⟩, (List.forall_mem_cons.mpr ⟨⟨mX6_countAble, n + 0, 2, TX6, 8, rfl, by omega, kX6_130, WX6_countAble, rfl, CX6_countAble g (n)⟩, (fun _ h => absurd h List.not_mem_nil)⟩)⟩) (fun _ h => absurd h List.not_mem_nil) [2] 20 _ _ _ _ ?_
      simp (maxSteps := 1000000) [↓Bool.cond_eq_ite, -Prod.forall, -Prod.exists, -Prod.mk.injEq, jvk, tX6_leastShareFor, jtb, jol, jst, jlk, jcmp, jbin, jfl, fX6, jc2, lX6, jcat, jel, lv_args, Value.category, jins, jsrt, jins2, jble, jblt, jf3, List.filter_cons, List.filter_nil, G_prop, G_choice, G_flat, oX0_make, oX6_countAble, joRIRRII, joRRI, -Int32.not_le, -Int32.not_lt, -Int64.not_le, -Int64.not_lt, i3lt, i6lt, e4τ, z', nI_1]
      try simp (disch := omega) [-Prod.forall, -Prod.exists, -Prod.mk.injEq, -Int32.not_le, -Int32.not_lt, -Int64.not_le, -Int64.not_lt, i3lt, i6lt, e4τ, z', nI_1]
      exact k1)
  have k0 := loop eF.symm σ jfr.rfl
  rw [nI_0] at k0
  exact k0
