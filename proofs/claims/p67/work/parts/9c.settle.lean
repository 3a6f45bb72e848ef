/-! Settlement: payNext -/
def duC (σ : jM) (i : Nat) : Int := (σ.1 305 i).toInt
theorem duC_I (σ : jM) (i : Nat) : σ.1 305 i = iI (duC σ i) := (iI_of _).symm
def ctN (σ : jM) : Nat := (σ.1 300 6).toNatClampNeg
def preN (σ : jM) : Prop := okD (duC σ) ∧ ∃ t, σ.1 300 6 = nI t ∧ t ≤ 11 ∧ (0 < duC σ (tP (duC σ) 10) → t < 11)
def aPn (a j : Nat) : Bool := a == 305 || (307).ble a && a.ble 317 || a == 300 && j == 6
def pyP (σ τ : jM) (t : Nat) : Prop := (∀ i, i < 11 → τ.1 305 i = iI (tS (duC σ) i)) ∧ τ.1 300 6 = nI (t + 1) ∧ (τ.1 (307 + t) 0 = nI (tP (duC σ) 10) ∧ τ.1 (307 + t) 1 = nI (tG (duC σ) 10) ∧ τ.1 (307 + t) 2 = iI (tA (duC σ))) ∧ ∀ q, q < 11 → q ≠ t → τ.1 (307 + q) = σ.1 (307 + q)
def oX8_payNext : jO := joR fun a σ => (a = 300 ∧ preN σ, fun v τ => v = some (.int (if 0 < duC σ (tP (duC σ) 10) then 1 else 0)) ∧ jfr aPn b0 σ τ ∧ (¬ 0 < duC σ (tP (duC σ) 10) → τ = σ) ∧ (0 < duC σ (tP (duC σ) 10) → pyP σ τ (ctN σ)))
set_option maxRecDepth 100000 in
set_option maxHeartbeats 4000000 in
theorem CPn_max (g : jG) (n : Nat) {post : Option Value → jM → Prop} {τ : jM} {d : Nat → Int} (hd : okD d) (h : ∀ i, i < 11 → τ.1 305 i = iI (d i))
    (k : jW g mX8_payNext (n + 1) post 55 [(0, .ref 300), (1, .int (nI (tP d 10))), (2, .int (nI (tG d 10)))] [] τ) : jW g mX8_payNext (n + 1) post 6 [(0, .ref 300), (1, .int 0), (2, .int 0), (3, .int 1)] [] τ := by
  have key := jloop (P := fun k => jW g mX8_payNext (n + 1) post 6 [(0, .ref 300), (1, .int (nI (tP d k))), (2, .int (nI (tG d k))), (3, .int (nI (k + 1)))] [] τ) (N := 10) (by
    have c1 : (11 : Int32) ≤ nI (10 + 1) := by decide
    refine jvk_ok TX8_payNext (V := []) (S := [(88, 2, 0, oJ9_min_7cf53)]) (fun _ h => absurd h List.not_mem_nil) (List.forall_mem_cons.mpr ⟨⟨mJ9_min_7cf53, n + 0, by omega, Or.inl kX8_88, WJ9_min_7cf53, CJ9_min_7cf53 g (n)⟩, (fun _ h => absurd h List.not_mem_nil)⟩) [6, 55] 20 _ _ _ _ ?_
    simp (maxSteps := 1000000) [↓Bool.cond_eq_ite, -Prod.forall, -Prod.exists, -Prod.mk.injEq, jvk, tX8_payNext, jtb, jol, jst, jlk, jcmp, jbin, jfl, fX8, jc2, lX8, jcat, jel, lv_args, Value.category, jins, jsrt, jins2, jble, jblt, jf3, List.filter_cons, List.filter_nil, G_settle, G_flat, oJ9_min_7cf53, joII, -Int32.not_le, -Int32.not_lt, -Int64.not_le, -Int64.not_lt, i3lt, i6lt, c1]
    try simp (disch := omega) [-Prod.forall, -Prod.exists, -Prod.mk.injEq, -Int32.not_le, -Int32.not_lt, -Int64.not_le, -Int64.not_lt, i3lt, i6lt, c1]
    exact jW.mono k (by simp)) (fun k hk ih => by
    have c1 : ¬ (11 : Int32) ≤ nI (k + 1) := nI_ge (b := 11) (by omega) (by decide)
    obtain ⟨p1, -⟩ := tP_ok d k
    obtain ⟨g1, -⟩ := tG_ok d k
    have j1 : jin (nI (k + 1)) 11 := jin_nI (by omega) (by decide)
    have j2 : jin (nI (tP d k)) 11 := jin_nI (by omega) (by decide)
    have j3 : jin (nI (tG d k)) 11 := jin_nI (by omega) (by decide)
    have x1 : (nI (k + 1)).toNatClampNeg = k + 1 := nI_clamp (by omega)
    have x2 : (nI (tP d k)).toNatClampNeg = tP d k := nI_clamp (by omega)
    have x3 : (nI (tG d k)).toNatClampNeg = tG d k := nI_clamp (by omega)
    have y1 := h (k + 1) (by omega)
    have y2 := h (tP d k) (by omega)
    have y3 := h (tG d k) (by omega)
    have b1 := hd.2 (k + 1) (by omega)
    have b2 := hd.2 (tP d k) (by omega)
    have b3 := hd.2 (tG d k) (by omega)
    have q1 : iI (d (k + 1)) ≤ iI (d (tP d k)) ↔ ¬ d (tP d k) < d (k + 1) := by
      rw [iI_le ⟨by omega, by omega⟩ ⟨by omega, by omega⟩]; omega
    have q2 : iI (d (tG d k)) ≤ iI (d (k + 1)) ↔ ¬ d (k + 1) < d (tG d k) := by
      rw [iI_le ⟨by omega, by omega⟩ ⟨by omega, by omega⟩]; omega
    simp only [tP, tG] at ih
    by_cases d1 : d (tP d k) < d (k + 1)
    · rw [if_pos d1] at ih
      by_cases d2 : d (k + 1) < d (tG d k)
      · rw [if_pos d2] at ih
        refine jvk_ok TX8_payNext (V := []) (S := [(88, 2, 0, oJ9_min_7cf53)]) (fun _ h => absurd h List.not_mem_nil) (List.forall_mem_cons.mpr ⟨⟨mJ9_min_7cf53, n + 0, by omega, Or.inl kX8_88, WJ9_min_7cf53, CJ9_min_7cf53 g (n)⟩, (fun _ h => absurd h List.not_mem_nil)⟩) [6, 55] 40 _ _ _ _ ?_
        simp (maxSteps := 1000000) [↓Bool.cond_eq_ite, -Prod.forall, -Prod.exists, -Prod.mk.injEq, jvk, tX8_payNext, jtb, jol, jst, jlk, jcmp, jbin, jfl, fX8, jc2, lX8, jcat, jel, lv_args, Value.category, jins, jsrt, jins2, jble, jblt, jf3, List.filter_cons, List.filter_nil, G_settle, G_flat, oJ9_min_7cf53, joII, -Int32.not_le, -Int32.not_lt, -Int64.not_le, -Int64.not_lt, i3lt, i6lt, c1, j1, j2, j3, x1, x2, x3, y1, y2, y3, q1, q2, d1, d2, nI_1]
        try simp (disch := omega) [-Prod.forall, -Prod.exists, -Prod.mk.injEq, -Int32.not_le, -Int32.not_lt, -Int64.not_le, -Int64.not_lt, i3lt, i6lt, c1, j1, j2, j3, x1, x2, x3, y1, y2, y3, q1, q2, d1, d2, nI_1]
        exact ih
      · rw [if_neg d2] at ih
        refine jvk_ok TX8_payNext (V := []) (S := [(88, 2, 0, oJ9_min_7cf53)]) (fun _ h => absurd h List.not_mem_nil) (List.forall_mem_cons.mpr ⟨⟨mJ9_min_7cf53, n + 0, by omega, Or.inl kX8_88, WJ9_min_7cf53, CJ9_min_7cf53 g (n)⟩, (fun _ h => absurd h List.not_mem_nil)⟩) [6, 55] 40 _ _ _ _ ?_
        simp (maxSteps := 1000000) [↓Bool.cond_eq_ite, -Prod.forall, -Prod.exists, -Prod.mk.injEq, jvk, tX8_payNext, jtb, jol, jst, jlk, jcmp, jbin, jfl, fX8, jc2, lX8, jcat, jel, lv_args, Value.category, jins, jsrt, jins2, jble, jblt, jf3, List.filter_cons, List.filter_nil, G_settle, G_flat, oJ9_min_7cf53, joII, -Int32.not_le, -Int32.not_lt, -Int64.not_le, -Int64.not_lt, i3lt, i6lt, c1, j1, j2, j3, x1, x2, x3, y1, y2, y3, q1, q2, d1, d2, nI_1]
        try simp (disch := omega) [-Prod.forall, -Prod.exists, -Prod.mk.injEq, -Int32.not_le, -Int32.not_lt, -Int64.not_le, -Int64.not_lt, i3lt, i6lt, c1, j1, j2, j3, x1, x2, x3, y1, y2, y3, q1, q2, d1, d2, nI_1]
        exact ih
    · rw [if_neg d1] at ih
      by_cases d2 : d (k + 1) < d (tG d k)
      · rw [if_pos d2] at ih
        refine jvk_ok TX8_payNext (V := []) (S := [(88, 2, 0, oJ9_min_7cf53)]) (fun _ h => absurd h List.not_mem_nil) (List.forall_mem_cons.mpr ⟨⟨mJ9_min_7cf53, n + 0, by omega, Or.inl kX8_88, WJ9_min_7cf53, CJ9_min_7cf53 g (n)⟩, (fun _ h => absurd h List.not_mem_nil)⟩) [6, 55] 40 _ _ _ _ ?_
        simp (maxSteps := 1000000) [↓Bool.cond_eq_ite, -Prod.forall, -Prod.exists, -Prod.mk.injEq, jvk, tX8_payNext, jtb, jol, jst, jlk, jcmp, jbin, jfl, fX8, jc2, lX8, jcat, jel, lv_args, Value.category, jins, jsrt, jins2, jble, jblt, jf3, List.filter_cons, List.filter_nil, G_settle, G_flat, oJ9_min_7cf53, joII, -Int32.not_le, -Int32.not_lt, -Int64.not_le, -Int64.not_lt, i3lt, i6lt, c1, j1, j2, j3, x1, x2, x3, y1, y2, y3, q1, q2, d1, d2, nI_1]
        try simp (disch := omega) [-Prod.forall, -Prod.exists, -Prod.mk.injEq, -Int32.not_le, -Int32.not_lt, -Int64.not_le, -Int64.not_lt, i3lt, i6lt, c1, j1, j2, j3, x1, x2, x3, y1, y2, y3, q1, q2, d1, d2, nI_1]
        exact ih
      · rw [if_neg d2] at ih
        refine jvk_ok TX8_payNext (V := []) (S := [(88, 2, 0, oJ9_min_7cf53)]) (fun _ h => absurd h List.not_mem_nil) (List.forall_mem_cons.mpr ⟨⟨mJ9_min_7cf53, n + 0, by omega, Or.inl kX8_88, WJ9_min_7cf53, CJ9_min_7cf53 g (n)⟩, (fun _ h => absurd h List.not_mem_nil)⟩) [6, 55] 40 _ _ _ _ ?_
        simp (maxSteps := 1000000) [↓Bool.cond_eq_ite, -Prod.forall, -Prod.exists, -Prod.mk.injEq, jvk, tX8_payNext, jtb, jol, jst, jlk, jcmp, jbin, jfl, fX8, jc2, lX8, jcat, jel, lv_args, Value.category, jins, jsrt, jins2, jble, jblt, jf3, List.filter_cons, List.filter_nil, G_settle, G_flat, oJ9_min_7cf53, joII, -Int32.not_le, -Int32.not_lt, -Int64.not_le, -Int64.not_lt, i3lt, i6lt, c1, j1, j2, j3, x1, x2, x3, y1, y2, y3, q1, q2, d1, d2, nI_1]
        try simp (disch := omega) [-Prod.forall, -Prod.exists, -Prod.mk.injEq, -Int32.not_le, -Int32.not_lt, -Int64.not_le, -Int64.not_lt, i3lt, i6lt, c1, j1, j2, j3, x1, x2, x3, y1, y2, y3, q1, q2, d1, d2, nI_1]
        exact ih)
  have e1 : nI (0 + 1) = 1 := rfl
  have e2 : nI (tP d 0) = 0 := nI_0
  have e3 : nI (tG d 0) = 0 := nI_0
  rw [e1, e2, e3] at key
  exact key
theorem aPn_5 (j : Nat) : aPn 305 j = true := rfl
theorem aPn_r {t j : Nat} (h : t < 11) : aPn (307 + t) j = true := by
  unfold aPn
  simp only [jble, Bool.or_eq_true, Bool.and_eq_true, beq_iff_eq, decide_eq_true_eq]
  omega
set_option maxRecDepth 100000 in
set_option maxHeartbeats 4000000 in
theorem CX8_payNext (g : jG) (n : Nat) : jOk g (n + 1) mX8_payNext oX8_payNext := by
  refine joR_ok ?_
  rintro _ σ ⟨rfl, hd, t, ht, ht11, htp⟩
  have ect : (nI t).toNatClampNeg = t := nI_clamp (by omega)
  have ecN : ctN σ = t := by unfold ctN; rw [ht, ect]
  obtain ⟨d, ed⟩ : ∃ d, d = duC σ := ⟨_, rfl⟩
  have h305 : ∀ i, i < 11 → σ.1 305 i = iI (d i) := fun i _ => by rw [ed]; exact duC_I σ i
  rw [← ed] at hd htp
  obtain ⟨p1, -⟩ := tP_ok d 10
  obtain ⟨g1, -⟩ := tG_ok d 10
  have b2 := hd.2 (tP d 10) (by omega)
  have b3 := hd.2 (tG d 10) (by omega)
  have j2 : jin (nI (tP d 10)) 11 := jin_nI (by omega) (by decide)
  have x2 : (nI (tP d 10)).toNatClampNeg = tP d 10 := nI_clamp (by omega)
  have y2 := h305 (tP d 10) (by omega)
  have j3 : jin (nI (tG d 10)) 11 := jin_nI (by omega) (by decide)
  have x3 : (nI (tG d 10)).toNatClampNeg = tG d 10 := nI_clamp (by omega)
  have y3 := h305 (tG d 10) (by omega)
  have eneg : - iI (d (tG d 10)) = iI (- d (tG d 10)) := by
    rw [← Int32.zero_sub]
    have := iI_sub 0 (d (tG d 10))
    rw [show (0 : Int) - d (tG d 10) = - d (tG d 10) by omega] at this
    exact this
  refine jCon.ofP (by decide +kernel) (by simp [lg_sl, Value.category]) (fun post hp => ?_)
  refine jvk_ok TX8_payNext (V := []) (S := [(88, 2, 0, oJ9_min_7cf53)]) (fun _ h => absurd h List.not_mem_nil) (List.forall_mem_cons.mpr ⟨⟨mJ9_min_7cf53, n + 0, by omega, Or.inl kX8_88, WJ9_min_7cf53, CJ9_min_7cf53 g (n)⟩, (fun _ h => absurd h List.not_mem_nil)⟩) [6] 10 _ _ _ _ ?_
  simp (maxSteps := 1000000) [↓Bool.cond_eq_ite, -Prod.forall, -Prod.exists, -Prod.mk.injEq, jvk, tX8_payNext, jtb, jol, jst, jlk, jcmp, jbin, jfl, fX8, jc2, lX8, jcat, jel, lv_args, Value.category, jins, jsrt, jins2, jble, jblt, jf3, List.filter_cons, List.filter_nil, G_settle, G_flat, oJ9_min_7cf53, joII, -Int32.not_le, -Int32.not_lt, -Int64.not_le, -Int64.not_lt, i3lt, i6lt]
  try simp (disch := omega) [-Prod.forall, -Prod.exists, -Prod.mk.injEq, -Int32.not_le, -Int32.not_lt, -Int64.not_le, -Int64.not_lt, i3lt, i6lt]
  refine CPn_max g n hd h305 ?_
  rw [← ed, ecN] at hp
  by_cases hn : 0 < d (tP d 10)
  · obtain ⟨a1, a2, a3, a4, a5, a6, a7, a8⟩ := tr_pg hd hn
    have ht10 := htp hn
    have hA : iI (tA d) = (if iI (d (tP d 10)) ≤ iI (- d (tG d 10)) then iI (d (tP d 10)) else iI (- d (tG d 10))) := by
      unfold tA
      by_cases c : d (tP d 10) < - d (tG d 10)
      · rw [if_pos c, if_pos ((iI_le ⟨by omega, by omega⟩ ⟨by omega, by omega⟩).mpr (by omega))]
      · rw [if_neg c]
        by_cases c2 : iI (d (tP d 10)) ≤ iI (- d (tG d 10))
        · rw [if_pos c2]
          have := (iI_le ⟨by omega, by omega⟩ ⟨by omega, by omega⟩).mp c2
          congr 1
          omega
        · rw [if_neg c2]
    have hA' := hA.symm
    have qA : ¬ iI (tA d) ≤ 0 := fun z => by
      have := (iI_le (y := 0) ⟨by omega, by omega⟩ (by decide)).mp z
      omega
    have c11 : ¬ (11 : Int32) ≤ nI t := nI_ge (b := 11) ht10 (by decide)
    have jt : jin (nI t) 11 := jin_nI ht10 (by decide)
    obtain ⟨w1, w2⟩ := wS_row t ht10
    have k3 : jin 0 3 ∧ jin 1 3 ∧ jin 2 3 := ⟨⟨by decide, by decide⟩, ⟨by decide, by decide⟩, ⟨by decide, by decide⟩⟩
    have a2s : ¬ tG d 10 = tP d 10 := fun z => a2 z.symm
    have esub : iI (d (tP d 10)) - iI (tA d) = iI (d (tP d 10) - tA d) := iI_sub _ _
    have eadd : iI (d (tG d 10)) + iI (tA d) = iI (d (tG d 10) + tA d) := iI_add _ _
    have r5 : ¬ 305 = 307 + t := by omega
    have r5' : ¬ 307 + t = 305 := by omega
    have r3 : ¬ 300 = 307 + t := by omega
    have r3' : ¬ 307 + t = 300 := by omega
    obtain ⟨ρ, eρ⟩ : ∃ ρ, ρ = jup (jup (jup (jup (jup (jup σ 305 (tP d 10) (iI (d (tP d 10) - tA d))) 305 (tG d 10) (iI (d (tG d 10) + tA d))) (307 + t) 0 (nI (tP d 10))) (307 + t) 1 (nI (tG d 10))) (307 + t) 2 (iI (tA d))) 300 6 (nI (t + 1)) := ⟨_, rfl⟩
    have hk : post (some (.int 1)) ρ := by
      refine hp _ _ ⟨by rw [if_pos hn], ?_, fun z => absurd hn z, fun _ => ⟨fun i hi => ?_, ?_, ⟨?_, ?_, ?_⟩, fun q hq hqt => ?_⟩⟩
      · rw [eρ]
        exact (((((jfr.rfl.up _ (aPn_5 _)).up _ (aPn_5 _)).up _ (aPn_r ht10)).up _ (aPn_r ht10)).up _ (aPn_r ht10)).up _ rfl
      · rw [eρ]
        simp only [jup_1]
        rw [← ed]
        unfold tS
        by_cases e1 : i = tG d 10
        · simp [e1, r5]
        · by_cases e2 : i = tP d 10
          · subst e2
            simp [a2, r5]
          · simp [e1, e2, h305 i hi, r5]
      · rw [eρ]; simp [jup_1]
      · rw [eρ, ← ed]; simp [jup_1, r3']
      · rw [eρ, ← ed]; simp [jup_1, r3']
      · rw [eρ, ← ed]; simp [jup_1, r3']
      · rw [eρ]
        funext j
        simp only [jup_1]
        rw [if_neg (by omega), if_neg (by omega), if_neg (by omega), if_neg (by omega), if_neg (by omega), if_neg (by omega)]
    rw [eρ] at hk
    refine jvk_ok TX8_payNext (V := []) (S := [(88, 2, 0, oJ9_min_7cf53)]) (fun _ h => absurd h List.not_mem_nil) (List.forall_mem_cons.mpr ⟨⟨mJ9_min_7cf53, n + 0, by omega, Or.inl kX8_88, WJ9_min_7cf53, CJ9_min_7cf53 g (n)⟩, (fun _ h => absurd h List.not_mem_nil)⟩) [71] 30 _ _ _ _ ?_
    simp (maxSteps := 1000000) [↓Bool.cond_eq_ite, -Prod.forall, -Prod.exists, -Prod.mk.injEq, jvk, tX8_payNext, jtb, jol, jst, jlk, jcmp, jbin, jfl, fX8, jc2, lX8, jcat, jel, lv_args, Value.category, jins, jsrt, jins2, jble, jblt, jf3, List.filter_cons, List.filter_nil, G_settle, G_flat, oJ9_min_7cf53, joII, -Int32.not_le, -Int32.not_lt, -Int64.not_le, -Int64.not_lt, i3lt, i6lt, j2, x2, y2, j3, x3, y3, eneg, hA']
    try simp (disch := omega) [-Prod.forall, -Prod.exists, -Prod.mk.injEq, -Int32.not_le, -Int32.not_lt, -Int64.not_le, -Int64.not_lt, i3lt, i6lt, j2, x2, y2, j3, x3, y3, eneg, hA']
    refine jvk_ok TX8_payNext (V := []) (S := [(88, 2, 0, oJ9_min_7cf53)]) (fun _ h => absurd h List.not_mem_nil) (List.forall_mem_cons.mpr ⟨⟨mJ9_min_7cf53, n + 0, by omega, Or.inl kX8_88, WJ9_min_7cf53, CJ9_min_7cf53 g (n)⟩, (fun _ h => absurd h List.not_mem_nil)⟩) [] 120 _ _ _ _ ?_
    simp (maxSteps := 1000000) [↓Bool.cond_eq_ite, -Prod.forall, -Prod.exists, -Prod.mk.injEq, jvk, tX8_payNext, jtb, jol, jst, jlk, jcmp, jbin, jfl, fX8, jc2, lX8, jcat, jel, lv_args, Value.category, jins, jsrt, jins2, jble, jblt, jf3, List.filter_cons, List.filter_nil, G_settle, G_flat, oJ9_min_7cf53, joII, -Int32.not_le, -Int32.not_lt, -Int64.not_le, -Int64.not_lt, i3lt, i6lt, j2, x2, y2, j3, x3, y3, qA, c11, ht, jt, ect, w1, w2, k3, tn_c, a2, a2s, esub, eadd, r5, r5', r3, r3', jup_1, nI_1]
    try simp (disch := omega) [-Prod.forall, -Prod.exists, -Prod.mk.injEq, -Int32.not_le, -Int32.not_lt, -Int64.not_le, -Int64.not_lt, i3lt, i6lt, j2, x2, y2, j3, x3, y3, qA, c11, ht, jt, ect, w1, w2, k3, tn_c, a2, a2s, esub, eadd, r5, r5', r3, r3', jup_1, nI_1]
    exact hk
  · have hA : (if iI (d (tP d 10)) ≤ iI (- d (tG d 10)) then iI (d (tP d 10)) else iI (- d (tG d 10))) ≤ 0 := by
      have h0 : iI (d (tP d 10)) ≤ 0 := (iI_le (y := 0) ⟨by omega, by omega⟩ (by decide)).mpr (by omega)
      by_cases c2 : iI (d (tP d 10)) ≤ iI (- d (tG d 10))
      · rw [if_pos c2]; exact h0
      · rw [if_neg c2]; grind
    obtain ⟨A, eA⟩ : ∃ A, A = (if iI (d (tP d 10)) ≤ iI (- d (tG d 10)) then iI (d (tP d 10)) else iI (- d (tG d 10))) := ⟨_, rfl⟩
    rw [← eA] at hA
    have eA' := eA.symm
    have hk : post (some (.int 0)) σ := hp _ _ ⟨by rw [if_neg hn], jfr.rfl, fun _ => rfl, fun z => absurd z hn⟩
    refine jvk_ok TX8_payNext (V := []) (S := [(88, 2, 0, oJ9_min_7cf53)]) (fun _ h => absurd h List.not_mem_nil) (List.forall_mem_cons.mpr ⟨⟨mJ9_min_7cf53, n + 0, by omega, Or.inl kX8_88, WJ9_min_7cf53, CJ9_min_7cf53 g (n)⟩, (fun _ h => absurd h List.not_mem_nil)⟩) [71] 30 _ _ _ _ ?_
    simp (maxSteps := 1000000) [↓Bool.cond_eq_ite, -Prod.forall, -Prod.exists, -Prod.mk.injEq, jvk, tX8_payNext, jtb, jol, jst, jlk, jcmp, jbin, jfl, fX8, jc2, lX8, jcat, jel, lv_args, Value.category, jins, jsrt, jins2, jble, jblt, jf3, List.filter_cons, List.filter_nil, G_settle, G_flat, oJ9_min_7cf53, joII, -Int32.not_le, -Int32.not_lt, -Int64.not_le, -Int64.not_lt, i3lt, i6lt, j2, x2, y2, j3, x3, y3, eneg, eA']
    try simp (disch := omega) [-Prod.forall, -Prod.exists, -Prod.mk.injEq, -Int32.not_le, -Int32.not_lt, -Int64.not_le, -Int64.not_lt, i3lt, i6lt, j2, x2, y2, j3, x3, y3, eneg, eA']
    refine jvk_ok TX8_payNext (V := []) (S := [(88, 2, 0, oJ9_min_7cf53)]) (fun _ h => absurd h List.not_mem_nil) (List.forall_mem_cons.mpr ⟨⟨mJ9_min_7cf53, n + 0, by omega, Or.inl kX8_88, WJ9_min_7cf53, CJ9_min_7cf53 g (n)⟩, (fun _ h => absurd h List.not_mem_nil)⟩) [] 30 _ _ _ _ ?_
    simp (maxSteps := 1000000) [↓Bool.cond_eq_ite, -Prod.forall, -Prod.exists, -Prod.mk.injEq, jvk, tX8_payNext, jtb, jol, jst, jlk, jcmp, jbin, jfl, fX8, jc2, lX8, jcat, jel, lv_args, Value.category, jins, jsrt, jins2, jble, jblt, jf3, List.filter_cons, List.filter_nil, G_settle, G_flat, oJ9_min_7cf53, joII, -Int32.not_le, -Int32.not_lt, -Int64.not_le, -Int64.not_lt, i3lt, i6lt, hA]
    try simp (disch := omega) [-Prod.forall, -Prod.exists, -Prod.mk.injEq, -Int32.not_le, -Int32.not_lt, -Int64.not_le, -Int64.not_lt, i3lt, i6lt, hA]
    exact hk
def oX8_number : jO := joRII fun a x w σ => (a = 300 ∧ jin x 11, fun v τ => v = some (.int (if 0 ≤ w ∧ w ≤ 2 then σ.1 (307 + x.toNatClampNeg) w.toNatClampNeg else -2)) ∧ τ = σ)
set_option maxRecDepth 100000 in
set_option maxHeartbeats 4000000 in
theorem CX8_number (g : jG) (n : Nat) : jOk g (n + 0) mX8_number oX8_number := by
  refine joRII_ok ?_
  rintro _ x w σ ⟨rfl, hx⟩
  have x0 : ¬ x < 0 := by rw [(tn_nI hx).1]; exact nI_pos (tn_nI hx).2.2
  have x1 : ¬ (11 : Int32) ≤ x := by rw [(tn_nI hx).1]; exact nI_ge (b := 11) (jin_lt hx) (by decide)
  obtain ⟨w1, w2⟩ := wS_row x.toNatClampNeg (jin_lt hx)
  by_cases c : 0 ≤ w
  · have c' : ¬ w < 0 := by grind
    by_cases e : w ≤ 2
    · have jw : jin w 3 := by
        obtain ⟨q, q1, q2, -⟩ := nI_rng (x := w) c e (by decide)
        rw [q2]
        exact jin_nI (by omega) (by decide)
      refine jCon.ofP (by decide +kernel) (by simp [lg_sl, Value.category]) (fun post hp => ?_)
      refine jvk_ok TX8_number (V := []) (S := []) (fun _ h => absurd h List.not_mem_nil) (fun _ h => absurd h List.not_mem_nil) [] 30 _ _ _ _ ?_
      simp (maxSteps := 1000000) [↓Bool.cond_eq_ite, -Prod.forall, -Prod.exists, -Prod.mk.injEq, jvk, tX8_number, jtb, jol, jst, jlk, jcmp, jbin, jfl, fX8, jc2, lX8, jcat, jel, lv_args, Value.category, jins, jsrt, jins2, jble, jblt, jf3, List.filter_cons, List.filter_nil, G_settle, G_flat, -Int32.not_le, -Int32.not_lt, -Int64.not_le, -Int64.not_lt, i3lt, i6lt, x0, x1, hx, w1, w2, c, c', e, jw]
      try simp (disch := omega) [-Prod.forall, -Prod.exists, -Prod.mk.injEq, -Int32.not_le, -Int32.not_lt, -Int64.not_le, -Int64.not_lt, i3lt, i6lt, x0, x1, hx, w1, w2, c, c', e, jw]
      exact hp _ _ ⟨by rw [if_pos ⟨c, e⟩], rfl⟩
    · refine jCon.ofP (by decide +kernel) (by simp [lg_sl, Value.category]) (fun post hp => ?_)
      refine jvk_ok TX8_number (V := []) (S := []) (fun _ h => absurd h List.not_mem_nil) (fun _ h => absurd h List.not_mem_nil) [] 30 _ _ _ _ ?_
      simp (maxSteps := 1000000) [↓Bool.cond_eq_ite, -Prod.forall, -Prod.exists, -Prod.mk.injEq, jvk, tX8_number, jtb, jol, jst, jlk, jcmp, jbin, jfl, fX8, jc2, lX8, jcat, jel, lv_args, Value.category, jins, jsrt, jins2, jble, jblt, jf3, List.filter_cons, List.filter_nil, G_settle, G_flat, -Int32.not_le, -Int32.not_lt, -Int64.not_le, -Int64.not_lt, i3lt, i6lt, x0, x1, c, c', e]
      try simp (disch := omega) [-Prod.forall, -Prod.exists, -Prod.mk.injEq, -Int32.not_le, -Int32.not_lt, -Int64.not_le, -Int64.not_lt, i3lt, i6lt, x0, x1, c, c', e]
      exact hp _ _ ⟨by rw [if_neg (fun z => e z.2)], rfl⟩
  · have c' : w < 0 := by grind
    refine jCon.ofP (by decide +kernel) (by simp [lg_sl, Value.category]) (fun post hp => ?_)
    refine jvk_ok TX8_number (V := []) (S := []) (fun _ h => absurd h List.not_mem_nil) (fun _ h => absurd h List.not_mem_nil) [] 30 _ _ _ _ ?_
    simp (maxSteps := 1000000) [↓Bool.cond_eq_ite, -Prod.forall, -Prod.exists, -Prod.mk.injEq, jvk, tX8_number, jtb, jol, jst, jlk, jcmp, jbin, jfl, fX8, jc2, lX8, jcat, jel, lv_args, Value.category, jins, jsrt, jins2, jble, jblt, jf3, List.filter_cons, List.filter_nil, G_settle, G_flat, -Int32.not_le, -Int32.not_lt, -Int64.not_le, -Int64.not_lt, i3lt, i6lt, x0, x1, c, c']
    try simp (disch := omega) [-Prod.forall, -Prod.exists, -Prod.mk.injEq, -Int32.not_le, -Int32.not_lt, -Int64.not_le, -Int64.not_lt, i3lt, i6lt, x0, x1, c, c']
    exact hp _ _ ⟨by rw [if_neg (fun z => c z.1)], rfl⟩
