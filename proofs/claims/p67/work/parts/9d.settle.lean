/-! Settlement: make -/
theorem tP_cg {d e : Nat → Int} : ∀ k, (∀ i, i ≤ k → d i = e i) → tP d k = tP e k
  | 0, _ => rfl
  | k + 1, h => by
    have ih := tP_cg k (fun i hi => h i (by omega))
    obtain ⟨p1, -⟩ := tP_ok e k
    simp only [tP]
    rw [ih, h (tP e k) (by omega), h (k + 1) (by omega)]
theorem tG_cg {d e : Nat → Int} : ∀ k, (∀ i, i ≤ k → d i = e i) → tG d k = tG e k
  | 0, _ => rfl
  | k + 1, h => by
    have ih := tG_cg k (fun i hi => h i (by omega))
    obtain ⟨p1, -⟩ := tG_ok e k
    simp only [tG]
    rw [ih, h (tG e k) (by omega), h (k + 1) (by omega)]
theorem tr_cg {d e : Nat → Int} (h : ∀ i, i < 11 → d i = e i) : tP d 10 = tP e 10 ∧ tG d 10 = tG e 10 ∧ d (tP d 10) = e (tP e 10) ∧ d (tG d 10) = e (tG e 10) ∧ tA d = tA e ∧ ∀ i, i < 11 → tS d i = tS e i := by
  have h1 := tP_cg 10 (fun i hi => h i (by omega))
  have h2 := tG_cg 10 (fun i hi => h i (by omega))
  obtain ⟨p1, -⟩ := tP_ok e 10
  obtain ⟨g1, -⟩ := tG_ok e 10
  have h3 : d (tP d 10) = e (tP e 10) := by rw [h1]; exact h _ (by omega)
  have h4 : d (tG d 10) = e (tG e 10) := by rw [h2]; exact h _ (by omega)
  have h5 : tA d = tA e := by unfold tA; rw [h3, h4]
  refine ⟨h1, h2, h3, h4, h5, fun i hi => ?_⟩
  unfold tS
  rw [h3, h4, h5, h1, h2, h i hi]
theorem trL_cg : ∀ (f : Nat) {d e : Nat → Int}, (∀ i, i < 11 → d i = e i) → trL f d = trL f e
  | 0, _, _, _ => rfl
  | f + 1, d, e, h => by
    obtain ⟨h1, h2, h3, h4, h5, h6⟩ := tr_cg h
    simp only [trL]
    rw [h3, h1, h2, h5, trL_cg f h6]
theorem okD_cg {d e : Nat → Int} (h : ∀ i, i < 11 → d i = e i) (hd : okD e) : okD d := by
  refine ⟨?_, fun i hi => by rw [h i hi]; exact hd.2 i hi⟩
  rw [sI_congr 11 h]
  exact hd.1
theorem nz_cg {d e : Nat → Int} (h : ∀ i, i < 11 → d i = e i) : nz d = nz e := cn_congr 11 (fun i hi => by rw [h i hi])
def cdP (σ : jM) (p : Nat) : Int := (ctS σ p).toInt - (σ.1 55 p).toInt
def cdI (σ : jM) (i : Nat) : Int := if i < 10 then cdP σ i else - sI (cdP σ) 10
def ctr (σ : jM) : List trT := trL 11 (cdI σ)
def stO (σ : jM) : Prop := ∀ p, p < 10 → 0 ≤ σ.1 55 p ∧ σ.1 55 p ≤ 200000
theorem ctS_bd {σ : jM} (h6 : flM σ ≤ 6) (hd : dpO σ) (p : Nat) : ∃ k, k ≤ 100009 ∧ ctS σ p = nI k := by
  unfold ctS
  by_cases c : p < fN σ ∧ liv σ p = true
  · rw [if_pos c]
    exact spS_bd (dpO_n hd).1 _ (cn_lt c.2 c.1 : cn (liv σ) p < flM σ) (by omega)
  · rw [if_neg c]
    exact ⟨0, by omega, nI_0.symm⟩
theorem cdP_bd {σ : jM} (h6 : flM σ ≤ 6) (hd : dpO σ) (hs : stO σ) {p : Nat} (hp : p < 10) : -200000 ≤ cdP σ p ∧ cdP σ p ≤ 200000 := by
  obtain ⟨k, h1, h2⟩ := ctS_bd h6 hd p
  obtain ⟨s, h3, h4, -⟩ := nI_rng (hs p hp).1 (hs p hp).2 (by decide)
  unfold cdP
  rw [h2, h4, nI_toInt (by omega), nI_toInt (by omega)]
  omega
theorem cdI_ok {σ : jM} (h6 : flM σ ≤ 6) (hd : dpO σ) (hs : stO σ) : okD (cdI σ) := by
  have e10 : sI (cdI σ) 10 = sI (cdP σ) 10 := sI_congr 10 (fun j hj => by unfold cdI; rw [if_pos hj])
  have b10 := sI_bd (f := cdP σ) (B := 200000) 10 (fun i hi => cdP_bd h6 hd hs hi)
  refine ⟨?_, fun i hi => ?_⟩
  · show sI (cdI σ) 10 + cdI σ 10 = 0
    rw [e10]
    unfold cdI
    rw [if_neg (by omega)]
    omega
  · unfold cdI
    by_cases h : i < 10
    · rw [if_pos h]
      have := cdP_bd h6 hd hs h
      omega
    · rw [if_neg h]
      omega
def aMs (a j : Nat) : Bool := (301).ble a && a.ble 317 || a == 300 && j == 6
theorem aMs_o {a j : Nat} (h : aMs a j = false) : (a < 301 ∨ 317 < a) ∧ (a = 300 → j ≠ 6) := by
  unfold aMs at h
  simp only [jble, Bool.or_eq_false_iff, Bool.and_eq_false_iff, beq_eq_false_iff_ne, decide_eq_false_iff_not] at h
  omega
theorem pn_Ms (a j : Nat) (h : aMs a j = false) : aPn a j = false := by
  have := aMs_o h
  unfold aPn
  simp only [jble, Bool.or_eq_false_iff, Bool.and_eq_false_iff, beq_eq_false_iff_ne, decide_eq_false_iff_not]
  omega
theorem ai_Ms (a j : Nat) (h : aMs a j = false) : aAi a j = false := by
  have := aMs_o h
  unfold aAi
  simp only [Bool.or_eq_false_iff, beq_eq_false_iff_ne]
  omega
def trC (τ : jM) (t : Nat) (L : List trT) : Prop := τ.1 300 6 = nI (t + L.length) ∧ ∀ i, i < L.length → τ.1 (307 + (t + i)) 0 = nI (L.getD i (0, 0, 0)).1 ∧ τ.1 (307 + (t + i)) 1 = nI (L.getD i (0, 0, 0)).2.1 ∧ τ.1 (307 + (t + i)) 2 = iI (L.getD i (0, 0, 0)).2.2
def oX8_make : jO := joRR fun a f σ => (a = 300 ∧ f = 37 ∧ fOK σ ∧ flM σ ≤ 6 ∧ dpO σ ∧ stO σ, fun v τ => v = none ∧ jfr aMs bAi σ τ ∧ (∀ p, p < 10 → τ.1 301 p = ctS σ p) ∧ trC τ 0 (ctr σ))
set_option maxRecDepth 100000 in
set_option maxHeartbeats 4000000 in
theorem CMs_loop (g : jG) (n : Nat) {post : Option Value → jM → Prop} {σ : jM} : ∀ (f t : Nat) (τ : jM), okD (duC τ) → nz (duC τ) ≤ f → t + f = 11 → jfr aMs bAi σ τ → τ.1 300 6 = nI t →
    (∀ τ', jfr aMs bAi σ τ' → (∀ p, τ'.1 301 p = τ.1 301 p) → (∀ q, q < t → τ'.1 (307 + q) = τ.1 (307 + q)) → trC τ' t (trL f (duC τ)) → post none τ') → jW g mX8_make (n + 3) post 71 [(0, .ref 300), (1, .ref 37), (2, .int 1), (3, .int (nI t))] [] τ := by
  intro f
  induction f with
  | zero =>
    intro t τ hd hz ht hf h6 k
    have c1 : (11 : Int32) ≤ nI t := by rw [show t = 11 by omega]; decide
    have kk := k τ hf (fun _ => rfl) (fun _ _ => rfl) ⟨by rw [h6]; rfl, fun i hi => by simp [trL] at hi⟩
    refine jvk_ok TX8_make (V := [(77, 2, 8, oX8_aim), (84, 1, 8, oX8_payNext)]) (S := []) (List.forall_mem_cons.mpr ⟨⟨mX8_aim, n + 2, 1, TX8, 8, rfl, by omega, kX8_77, WX8_aim, rfl, CX8_aim g (n)⟩, (List.forall_mem_cons.mpr ⟨⟨mX8_payNext, n + 1, 0, TX8, 8, rfl, by omega, kX8_84, WX8_payNext, rfl, CX8_payNext g (n)⟩, (fun _ h => absurd h List.not_mem_nil)⟩)⟩) (fun _ h => absurd h List.not_mem_nil) [71] 20 _ _ _ _ ?_
    simp (maxSteps := 1000000) [↓Bool.cond_eq_ite, -Prod.forall, -Prod.exists, -Prod.mk.injEq, jvk, tX8_make, jtb, jol, jst, jlk, jcmp, jbin, jfl, fX8, jc2, lX8, jcat, jel, lv_args, Value.category, jins, jsrt, jins2, jble, jblt, jf3, List.filter_cons, List.filter_nil, G_settle, G_flat, oX8_aim, oX8_payNext, joR, joRR, -Int32.not_le, -Int32.not_lt, -Int64.not_le, -Int64.not_lt, i3lt, i6lt, c1]
    try simp (disch := omega) [-Prod.forall, -Prod.exists, -Prod.mk.injEq, -Int32.not_le, -Int32.not_lt, -Int64.not_le, -Int64.not_lt, i3lt, i6lt, c1]
    exact kk
  | succ f ih =>
    intro t τ hd hz ht hf h6 k
    have c1 : ¬ (11 : Int32) ≤ nI t := nI_ge (b := 11) (by omega) (by decide)
    have ect : ctN τ = t := by unfold ctN; rw [h6, nI_clamp (by omega)]
    have hpre : preN τ := ⟨hd, t, h6, by omega, fun _ => by omega⟩
    refine jvk_ok TX8_make (V := [(77, 2, 8, oX8_aim), (84, 1, 8, oX8_payNext)]) (S := []) (List.forall_mem_cons.mpr ⟨⟨mX8_aim, n + 2, 1, TX8, 8, rfl, by omega, kX8_77, WX8_aim, rfl, CX8_aim g (n)⟩, (List.forall_mem_cons.mpr ⟨⟨mX8_payNext, n + 1, 0, TX8, 8, rfl, by omega, kX8_84, WX8_payNext, rfl, CX8_payNext g (n)⟩, (fun _ h => absurd h List.not_mem_nil)⟩)⟩) (fun _ h => absurd h List.not_mem_nil) [88] 20 _ _ _ _ ?_
    simp (maxSteps := 1000000) [↓Bool.cond_eq_ite, -Prod.forall, -Prod.exists, -Prod.mk.injEq, jvk, tX8_make, jtb, jol, jst, jlk, jcmp, jbin, jfl, fX8, jc2, lX8, jcat, jel, lv_args, Value.category, jins, jsrt, jins2, jble, jblt, jf3, List.filter_cons, List.filter_nil, G_settle, G_flat, oX8_aim, oX8_payNext, joR, joRR, -Int32.not_le, -Int32.not_lt, -Int64.not_le, -Int64.not_lt, i3lt, i6lt, c1, hpre]
    try simp (disch := omega) [-Prod.forall, -Prod.exists, -Prod.mk.injEq, -Int32.not_le, -Int32.not_lt, -Int64.not_le, -Int64.not_lt, i3lt, i6lt, c1, hpre]
    intro v1 τ1 hv1 f1 hno hyes
    have w1 : jfr aMs bAi σ τ1 := hf.tr (f1.weak pn_Ms (fun _ _ => rfl))
    by_cases hn : 0 < duC τ (tP (duC τ) 10)
    · rw [if_pos hn] at hv1
      subst hv1
      obtain ⟨o1, o2, o3, o4⟩ := hyes hn
      rw [ect] at o2 o3 o4
      obtain ⟨s1, s2⟩ := tS_ok hd hn
      have hcg : ∀ i, i < 11 → duC τ1 i = tS (duC τ) i := fun i hi => by
        have := s1.2 i hi
        unfold duC
        rw [o1 i hi, iI_toInt ⟨by omega, by omega⟩]
        rfl
      have hd1 := okD_cg hcg s1
      have hz1 := nz_cg hcg
      have hlen : (trL (f + 1) (duC τ)) = (tP (duC τ) 10, tG (duC τ) 10, tA (duC τ)) :: trL f (tS (duC τ)) := by simp only [trL]; rw [if_pos hn]
      have nxt := ih (t + 1) τ1 hd1 (by omega) (by omega) w1 o2 (fun τ' f' h1' hs' ho => by
        rw [trL_cg f hcg] at ho
        refine k τ' f' (fun p => by rw [h1' p]; exact f1.2.2 301 p rfl) (fun q hq => by rw [hs' q (by omega), o4 q (by omega) (by omega)]) ?_
        obtain ⟨u1, u2⟩ := ho
        rw [hlen]
        refine ⟨?_, fun i hi => ?_⟩
        · rw [u1]
          congr 1
          simp only [List.length_cons]
          omega
        · rcases i with _ | i
          · rw [Nat.add_zero, hs' t (by omega)]
            exact o3
          · have := u2 i (by simpa using hi)
            rw [show t + (i + 1) = t + 1 + i by omega]
            simpa using this)
      refine jvk_ok TX8_make (V := [(77, 2, 8, oX8_aim), (84, 1, 8, oX8_payNext)]) (S := []) (List.forall_mem_cons.mpr ⟨⟨mX8_aim, n + 2, 1, TX8, 8, rfl, by omega, kX8_77, WX8_aim, rfl, CX8_aim g (n)⟩, (List.forall_mem_cons.mpr ⟨⟨mX8_payNext, n + 1, 0, TX8, 8, rfl, by omega, kX8_84, WX8_payNext, rfl, CX8_payNext g (n)⟩, (fun _ h => absurd h List.not_mem_nil)⟩)⟩) (fun _ h => absurd h List.not_mem_nil) [71] 20 _ _ _ _ ?_
      simp (maxSteps := 1000000) [↓Bool.cond_eq_ite, -Prod.forall, -Prod.exists, -Prod.mk.injEq, jvk, tX8_make, jtb, jol, jst, jlk, jcmp, jbin, jfl, fX8, jc2, lX8, jcat, jel, lv_args, Value.category, jins, jsrt, jins2, jble, jblt, jf3, List.filter_cons, List.filter_nil, G_settle, G_flat, oX8_aim, oX8_payNext, joR, joRR, -Int32.not_le, -Int32.not_lt, -Int64.not_le, -Int64.not_lt, i3lt, i6lt, nI_1]
      try simp (disch := omega) [-Prod.forall, -Prod.exists, -Prod.mk.injEq, -Int32.not_le, -Int32.not_lt, -Int64.not_le, -Int64.not_lt, i3lt, i6lt, nI_1]
      exact nxt
    · rw [if_neg hn] at hv1
      subst hv1
      have eτ := hno (by omega)
      subst eτ
      have kk := k τ1 hf (fun _ => rfl) (fun _ _ => rfl) ⟨by rw [h6, trL_no hn]; rfl, fun i hi => by rw [trL_no hn] at hi; simp at hi⟩
      have c0 : (0 : Int32) = 0 := rfl
      by_cases c2 : (11 : Int32) ≤ nI (t + 1)
      · refine jvk_ok TX8_make (V := [(77, 2, 8, oX8_aim), (84, 1, 8, oX8_payNext)]) (S := []) (List.forall_mem_cons.mpr ⟨⟨mX8_aim, n + 2, 1, TX8, 8, rfl, by omega, kX8_77, WX8_aim, rfl, CX8_aim g (n)⟩, (List.forall_mem_cons.mpr ⟨⟨mX8_payNext, n + 1, 0, TX8, 8, rfl, by omega, kX8_84, WX8_payNext, rfl, CX8_payNext g (n)⟩, (fun _ h => absurd h List.not_mem_nil)⟩)⟩) (fun _ h => absurd h List.not_mem_nil) [71] 20 _ _ _ _ ?_
        simp (maxSteps := 1000000) [↓Bool.cond_eq_ite, -Prod.forall, -Prod.exists, -Prod.mk.injEq, jvk, tX8_make, jtb, jol, jst, jlk, jcmp, jbin, jfl, fX8, jc2, lX8, jcat, jel, lv_args, Value.category, jins, jsrt, jins2, jble, jblt, jf3, List.filter_cons, List.filter_nil, G_settle, G_flat, oX8_aim, oX8_payNext, joR, joRR, -Int32.not_le, -Int32.not_lt, -Int64.not_le, -Int64.not_lt, i3lt, i6lt, nI_1]
        try simp (disch := omega) [-Prod.forall, -Prod.exists, -Prod.mk.injEq, -Int32.not_le, -Int32.not_lt, -Int64.not_le, -Int64.not_lt, i3lt, i6lt, nI_1]
        refine jvk_ok TX8_make (V := [(77, 2, 8, oX8_aim), (84, 1, 8, oX8_payNext)]) (S := []) (List.forall_mem_cons.mpr ⟨⟨mX8_aim, n + 2, 1, TX8, 8, rfl, by omega, kX8_77, WX8_aim, rfl, CX8_aim g (n)⟩, (List.forall_mem_cons.mpr ⟨⟨mX8_payNext, n + 1, 0, TX8, 8, rfl, by omega, kX8_84, WX8_payNext, rfl, CX8_payNext g (n)⟩, (fun _ h => absurd h List.not_mem_nil)⟩)⟩) (fun _ h => absurd h List.not_mem_nil) [] 20 _ _ _ _ ?_
        simp (maxSteps := 1000000) [↓Bool.cond_eq_ite, -Prod.forall, -Prod.exists, -Prod.mk.injEq, jvk, tX8_make, jtb, jol, jst, jlk, jcmp, jbin, jfl, fX8, jc2, lX8, jcat, jel, lv_args, Value.category, jins, jsrt, jins2, jble, jblt, jf3, List.filter_cons, List.filter_nil, G_settle, G_flat, oX8_aim, oX8_payNext, joR, joRR, -Int32.not_le, -Int32.not_lt, -Int64.not_le, -Int64.not_lt, i3lt, i6lt, c2]
        try simp (disch := omega) [-Prod.forall, -Prod.exists, -Prod.mk.injEq, -Int32.not_le, -Int32.not_lt, -Int64.not_le, -Int64.not_lt, i3lt, i6lt, c2]
        exact kk
      · refine jvk_ok TX8_make (V := [(77, 2, 8, oX8_aim), (84, 1, 8, oX8_payNext)]) (S := []) (List.forall_mem_cons.mpr ⟨⟨mX8_aim, n + 2, 1, TX8, 8, rfl, by omega, kX8_77, WX8_aim, rfl, CX8_aim g (n)⟩, (List.forall_mem_cons.mpr ⟨⟨mX8_payNext, n + 1, 0, TX8, 8, rfl, by omega, kX8_84, WX8_payNext, rfl, CX8_payNext g (n)⟩, (fun _ h => absurd h List.not_mem_nil)⟩)⟩) (fun _ h => absurd h List.not_mem_nil) [71] 20 _ _ _ _ ?_
        simp (maxSteps := 1000000) [↓Bool.cond_eq_ite, -Prod.forall, -Prod.exists, -Prod.mk.injEq, jvk, tX8_make, jtb, jol, jst, jlk, jcmp, jbin, jfl, fX8, jc2, lX8, jcat, jel, lv_args, Value.category, jins, jsrt, jins2, jble, jblt, jf3, List.filter_cons, List.filter_nil, G_settle, G_flat, oX8_aim, oX8_payNext, joR, joRR, -Int32.not_le, -Int32.not_lt, -Int64.not_le, -Int64.not_lt, i3lt, i6lt, nI_1]
        try simp (disch := omega) [-Prod.forall, -Prod.exists, -Prod.mk.injEq, -Int32.not_le, -Int32.not_lt, -Int64.not_le, -Int64.not_lt, i3lt, i6lt, nI_1]
        refine jvk_ok TX8_make (V := [(77, 2, 8, oX8_aim), (84, 1, 8, oX8_payNext)]) (S := []) (List.forall_mem_cons.mpr ⟨⟨mX8_aim, n + 2, 1, TX8, 8, rfl, by omega, kX8_77, WX8_aim, rfl, CX8_aim g (n)⟩, (List.forall_mem_cons.mpr ⟨⟨mX8_payNext, n + 1, 0, TX8, 8, rfl, by omega, kX8_84, WX8_payNext, rfl, CX8_payNext g (n)⟩, (fun _ h => absurd h List.not_mem_nil)⟩)⟩) (fun _ h => absurd h List.not_mem_nil) [] 20 _ _ _ _ ?_
        simp (maxSteps := 1000000) [↓Bool.cond_eq_ite, -Prod.forall, -Prod.exists, -Prod.mk.injEq, jvk, tX8_make, jtb, jol, jst, jlk, jcmp, jbin, jfl, fX8, jc2, lX8, jcat, jel, lv_args, Value.category, jins, jsrt, jins2, jble, jblt, jf3, List.filter_cons, List.filter_nil, G_settle, G_flat, oX8_aim, oX8_payNext, joR, joRR, -Int32.not_le, -Int32.not_lt, -Int64.not_le, -Int64.not_lt, i3lt, i6lt, c2]
        try simp (disch := omega) [-Prod.forall, -Prod.exists, -Prod.mk.injEq, -Int32.not_le, -Int32.not_lt, -Int64.not_le, -Int64.not_lt, i3lt, i6lt, c2]
        exact kk
set_option maxRecDepth 100000 in
set_option maxHeartbeats 4000000 in
theorem CX8_make (g : jG) (n : Nat) : jOk g (n + 3) mX8_make oX8_make := by
  refine joRR_ok ?_
  rintro _ _ σ ⟨rfl, rfl, hok, hm6, hdp, hst⟩
  have hD := cdI_ok hm6 hdp hst
  refine jCon.ofP (by decide +kernel) (by simp [lg_sl, Value.category]) (fun post hp => ?_)
  refine jvk_ok TX8_make (V := [(77, 2, 8, oX8_aim), (84, 1, 8, oX8_payNext)]) (S := []) (List.forall_mem_cons.mpr ⟨⟨mX8_aim, n + 2, 1, TX8, 8, rfl, by omega, kX8_77, WX8_aim, rfl, CX8_aim g (n)⟩, (List.forall_mem_cons.mpr ⟨⟨mX8_payNext, n + 1, 0, TX8, 8, rfl, by omega, kX8_84, WX8_payNext, rfl, CX8_payNext g (n)⟩, (fun _ h => absurd h List.not_mem_nil)⟩)⟩) (fun _ h => absurd h List.not_mem_nil) [5] 20 _ _ _ _ ?_
  simp (maxSteps := 1000000) [↓Bool.cond_eq_ite, -Prod.forall, -Prod.exists, -Prod.mk.injEq, jvk, tX8_make, jtb, jol, jst, jlk, jcmp, jbin, jfl, fX8, jc2, lX8, jcat, jel, lv_args, Value.category, jins, jsrt, jins2, jble, jblt, jf3, List.filter_cons, List.filter_nil, G_settle, G_flat, oX8_aim, oX8_payNext, joR, joRR, -Int32.not_le, -Int32.not_lt, -Int64.not_le, -Int64.not_lt, i3lt, i6lt, hok, hm6, hdp]
  try simp (disch := omega) [-Prod.forall, -Prod.exists, -Prod.mk.injEq, -Int32.not_le, -Int32.not_lt, -Int64.not_le, -Int64.not_lt, i3lt, i6lt, hok, hm6, hdp]
  intro v0 τ0 hv0 f0 h0
  subst hv0
  have w0 : jfr aMs bAi σ τ0 := f0.weak ai_Ms (fun _ q => q)
  have key := jloop (P := fun k => ∀ τ : jM, jfr aMs bAi σ τ → (∀ p, p < 10 → τ.1 301 p = ctS σ p) → (∀ p, p < k → τ.1 305 p = iI (cdP σ p)) → τ.1 305 10 = iI (- sI (cdP σ) k) → jW g mX8_make (n + 3) post 15 [(0, .ref 300), (1, .ref 37), (2, .int (nI k))] [] τ) (N := 10) (fun τ f h1 h5 h10 => by
    have c1 : (10 : Int32) ≤ nI 10 := by decide
    have hcg : ∀ i, i < 11 → duC (jup τ 300 6 0) i = cdI σ i := fun i hi => by
      have b := hD.2 i hi
      have e : (jup τ 300 6 0).1 305 i = iI (cdI σ i) := by
        rw [jup_1, if_neg (by omega)]
        unfold cdI
        by_cases c : i < 10
        · rw [if_pos c]; exact h5 i c
        · rw [if_neg c, show i = 10 by omega]; exact h10
      unfold duC
      rw [e, iI_toInt ⟨by omega, by omega⟩]
    have hk := CMs_loop g n (post := post) (σ := σ) 11 0 (jup τ 300 6 0) (okD_cg hcg hD) (cn_le _ _) (by omega) (f.up _ rfl) (by rw [jup_s, nI_0]) (fun τ' f' h1' _ ho => by
      rw [trL_cg 11 hcg] at ho
      exact hp _ _ ⟨rfl, f', fun p hp10 => by rw [h1' p, jup_1, if_neg (by omega)]; exact h1 p hp10, ho⟩)
    rw [nI_0] at hk
    refine jvk_ok TX8_make (V := [(77, 2, 8, oX8_aim), (84, 1, 8, oX8_payNext)]) (S := []) (List.forall_mem_cons.mpr ⟨⟨mX8_aim, n + 2, 1, TX8, 8, rfl, by omega, kX8_77, WX8_aim, rfl, CX8_aim g (n)⟩, (List.forall_mem_cons.mpr ⟨⟨mX8_payNext, n + 1, 0, TX8, 8, rfl, by omega, kX8_84, WX8_payNext, rfl, CX8_payNext g (n)⟩, (fun _ h => absurd h List.not_mem_nil)⟩)⟩) (fun _ h => absurd h List.not_mem_nil) [15, 71] 20 _ _ _ _ ?_
    simp (maxSteps := 1000000) [↓Bool.cond_eq_ite, -Prod.forall, -Prod.exists, -Prod.mk.injEq, jvk, tX8_make, jtb, jol, jst, jlk, jcmp, jbin, jfl, fX8, jc2, lX8, jcat, jel, lv_args, Value.category, jins, jsrt, jins2, jble, jblt, jf3, List.filter_cons, List.filter_nil, G_settle, G_flat, oX8_aim, oX8_payNext, joR, joRR, -Int32.not_le, -Int32.not_lt, -Int64.not_le, -Int64.not_lt, i3lt, i6lt, c1]
    try simp (disch := omega) [-Prod.forall, -Prod.exists, -Prod.mk.injEq, -Int32.not_le, -Int32.not_lt, -Int64.not_le, -Int64.not_lt, i3lt, i6lt, c1]
    exact jW.mono hk (by simp)) (fun k hk ih τ f h1 h5 h10 => by
    have hlt : ¬ (10 : Int32) ≤ nI k := nI_ge (b := 10) hk (by decide)
    have hk1 : jin (nI k) 11 := jin_nI (by omega) (by decide)
    have hk2 : jin (nI k) 10 := jin_nI hk (by decide)
    have j10 : jin 10 11 := ⟨by decide, by decide⟩
    have eck : (nI k).toNatClampNeg = k := nI_clamp (by omega)
    have e10 : ¬ 10 = k := by omega
    have e10' : ¬ k = 10 := by omega
    have e1 := h1 k hk
    have e55 : τ.1 55 k = σ.1 55 k := f.2.2 55 k rfl
    have ed : ctS σ k - σ.1 55 k = iI (cdP σ k) := by
      unfold cdP
      rw [← iI_sub, iI_of, iI_of]
    have es : iI (- sI (cdP σ) k) - iI (cdP σ k) = iI (- sI (cdP σ) (k + 1)) := by
      rw [iI_sub]
      congr 1
      simp only [sI]
      omega
    have k1 := ih (jup (jup τ 305 k (iI (cdP σ k))) 305 10 (iI (- sI (cdP σ) (k + 1)))) ((f.up _ rfl).up _ rfl) (fun p hp10 => by rw [jup_1, if_neg (by omega), jup_1, if_neg (by omega)]; exact h1 p hp10) (fun p hp2 => by
      rw [jup_1, if_neg (by omega), jup_1]
      by_cases e : p = k
      · rw [if_pos ⟨rfl, e⟩, e]
      · rw [if_neg (fun z => e z.2)]; exact h5 p (by omega)) (jup_s _ _ _ _)
    refine jvk_ok TX8_make (V := [(77, 2, 8, oX8_aim), (84, 1, 8, oX8_payNext)]) (S := []) (List.forall_mem_cons.mpr ⟨⟨mX8_aim, n + 2, 1, TX8, 8, rfl, by omega, kX8_77, WX8_aim, rfl, CX8_aim g (n)⟩, (List.forall_mem_cons.mpr ⟨⟨mX8_payNext, n + 1, 0, TX8, 8, rfl, by omega, kX8_84, WX8_payNext, rfl, CX8_payNext g (n)⟩, (fun _ h => absurd h List.not_mem_nil)⟩)⟩) (fun _ h => absurd h List.not_mem_nil) [15] 60 _ _ _ _ ?_
    simp (maxSteps := 1000000) [↓Bool.cond_eq_ite, -Prod.forall, -Prod.exists, -Prod.mk.injEq, jvk, tX8_make, jtb, jol, jst, jlk, jcmp, jbin, jfl, fX8, jc2, lX8, jcat, jel, lv_args, Value.category, jins, jsrt, jins2, jble, jblt, jf3, List.filter_cons, List.filter_nil, G_settle, G_flat, oX8_aim, oX8_payNext, joR, joRR, -Int32.not_le, -Int32.not_lt, -Int64.not_le, -Int64.not_lt, i3lt, i6lt, hlt, hk1, hk2, j10, eck, e10, e10', e1, e55, ed, h10, es, tn_c, jup_1, nI_1]
    try simp (disch := omega) [-Prod.forall, -Prod.exists, -Prod.mk.injEq, -Int32.not_le, -Int32.not_lt, -Int64.not_le, -Int64.not_lt, i3lt, i6lt, hlt, hk1, hk2, j10, eck, e10, e10', e1, e55, ed, h10, es, tn_c, jup_1, nI_1]
    exact k1)
  have k0 := key (jup τ0 305 10 0) (w0.up _ rfl) (fun p hp10 => by rw [jup_1, if_neg (by omega)]; exact h0 p hp10) (fun p hp2 => by omega) (by rw [jup_s]; rfl)
  rw [nI_0] at k0
  have j10 : jin 10 11 := ⟨by decide, by decide⟩
  refine jvk_ok TX8_make (V := [(77, 2, 8, oX8_aim), (84, 1, 8, oX8_payNext)]) (S := []) (List.forall_mem_cons.mpr ⟨⟨mX8_aim, n + 2, 1, TX8, 8, rfl, by omega, kX8_77, WX8_aim, rfl, CX8_aim g (n)⟩, (List.forall_mem_cons.mpr ⟨⟨mX8_payNext, n + 1, 0, TX8, 8, rfl, by omega, kX8_84, WX8_payNext, rfl, CX8_payNext g (n)⟩, (fun _ h => absurd h List.not_mem_nil)⟩)⟩) (fun _ h => absurd h List.not_mem_nil) [15] 20 _ _ _ _ ?_
  simp (maxSteps := 1000000) [↓Bool.cond_eq_ite, -Prod.forall, -Prod.exists, -Prod.mk.injEq, jvk, tX8_make, jtb, jol, jst, jlk, jcmp, jbin, jfl, fX8, jc2, lX8, jcat, jel, lv_args, Value.category, jins, jsrt, jins2, jble, jblt, jf3, List.filter_cons, List.filter_nil, G_settle, G_flat, oX8_aim, oX8_payNext, joR, joRR, -Int32.not_le, -Int32.not_lt, -Int64.not_le, -Int64.not_lt, i3lt, i6lt, j10, tn_c]
  try simp (disch := omega) [-Prod.forall, -Prod.exists, -Prod.mk.injEq, -Int32.not_le, -Int32.not_lt, -Int64.not_le, -Int64.not_lt, i3lt, i6lt, j10, tn_c]
  exact k0
