/-! Choice: weigh, lowestBest, solve -/
theorem nI_nm1 {k : Nat} (h : k < 2 ^ 31) : ¬ nI k ≤ -1 := by
  rw [Int32.le_iff_toInt_le, nI_toInt h]
  have : ((-1 : Int32)).toInt = -1 := by decide
  omega
theorem aSo_f {b a j : Nat} (h9 : a ≠ b + 9) (h10 : a ≠ b + 10) (h11 : a ≠ b + 11) : aSo b a j = false := by
  unfold aSo
  simp [h9, h10, h11]
theorem so_C {σ τ : jM} {b : Nat} (f : jfr (aSo b) b0 σ τ) : τ.1 b = σ.1 b ∧ ∀ i, i < 6 → τ.1 (b + 3 + i) = σ.1 (b + 3 + i) :=
  ⟨funext fun j => f.2.2 _ _ (aSo_f (by omega) (by omega) (by omega)), fun i hi => funext fun j => f.2.2 _ _ (aSo_f (by omega) (by omega) (by omega))⟩
theorem so_M {σ τ : jM} {b : Nat} (f : jfr (aSo b) b0 σ τ) : cM τ b = cM σ b ∧ cR τ b = cR σ b := by
  unfold cM cR
  rw [(so_C f).1]
  exact ⟨rfl, rfl⟩
theorem so_OK {σ τ : jM} {b : Nat} (h : cOK σ b) (f : jfr (aSo b) b0 σ τ) : cOK τ b := by
  obtain ⟨m6, -, -, -⟩ := cOK_n h
  unfold cOK at h ⊢
  rw [(so_C f).1, (so_M f).1, (so_M f).2]
  refine ⟨h.1, h.2.1, fun i hi r hr => ?_⟩
  rw [(so_C f).2 i (by omega)]
  exact h.2.2 i hi r hr
theorem so_W {σ τ : jM} {b : Nat} (h : cOK σ b) (f : jfr (aSo b) b0 σ τ) : cWr τ b = cWr σ b := by
  obtain ⟨m6, -, -, -⟩ := cOK_n h
  funext i r
  unfold cWr
  rw [(so_M f).1, (so_M f).2]
  by_cases c : i < cM σ b ∧ r < cR σ b
  · rw [if_pos c, if_pos c]
    unfold cW
    rw [(so_C f).2 i (by omega)]
  · rw [if_neg c, if_neg c]
theorem so_D {σ τ : jM} {b : Nat} (h : cOK σ b) (f : jfr (aSo b) b0 σ τ) : cD τ b = cD σ b ∧ cT τ b = cT σ b := by
  refine ⟨funext fun t => ?_, funext fun i => funext fun t => funext fun r => ?_⟩
  · unfold cD
    rw [so_W h f, (so_M f).1, (so_M f).2]
  · unfold cT
    rw [so_W h f, (so_M f).1, (so_M f).2]
/-- the two values of a set -/
def wS (σ : jM) (b t : Nat) (x y : Int32) : jM := jup (jup σ (b + 10) t x) (b + 11) t y
theorem wS_f (σ : jM) (b t : Nat) (x y : Int32) : jfr (aSo b) b0 σ (wS σ b t x y) := (jfr.rfl.up x (by simp [aSo])).up y (by simp [aSo])
theorem wS_10 (σ : jM) (b t : Nat) (x y : Int32) (u : Nat) : (wS σ b t x y).1 (b + 10) u = if u = t then x else σ.1 (b + 10) u := by
  unfold wS
  rw [jup_1, if_neg (by omega), jup_1]
  by_cases c : u = t
  · rw [if_pos ⟨rfl, c⟩, if_pos c]
  · rw [if_neg (fun z => c z.2), if_neg c]
theorem wS_11 (σ : jM) (b t : Nat) (x y : Int32) (u : Nat) : (wS σ b t x y).1 (b + 11) u = if u = t then y else σ.1 (b + 11) u := by
  unfold wS
  rw [jup_1]
  by_cases c : u = t
  · rw [if_pos ⟨rfl, c⟩, if_pos c]
  · rw [if_neg (fun z => c z.2), if_neg c, jup_1, if_neg (by omega)]
theorem wS_a (σ : jM) (b t : Nat) (x y z : Int32) : jup (wS σ b t x y) (b + 10) t z = wS σ b t z y := by
  refine Prod.ext (funext fun i => funext fun j => ?_) rfl
  simp only [wS, jup_1]
  by_cases c : i = b + 10 ∧ j = t
  · rw [if_pos c, if_neg (by omega), if_pos c]
  · simp only [if_neg c]
theorem wS_b (σ : jM) (b t : Nat) (x y z : Int32) : jup (wS σ b t x y) (b + 11) t z = wS σ b t x z := by
  refine Prod.ext (funext fun i => funext fun j => ?_) rfl
  simp only [wS, jup_1]
  by_cases c : i = b + 11 ∧ j = t
  · rw [if_pos c, if_pos c]
  · simp only [if_neg c]
theorem wS_ld {σ : jM} {b t : Nat} {x y : Int32} (h : cOK σ b) (hl : cLd σ b (t + 1)) (hx : x = qs (cD σ b t)) (hy : y = qc (cD σ b t)) : cLd (wS σ b t x y) b t := by
  intro u h1 h2
  rw [(so_D h (wS_f σ b t x y)).1, wS_10, wS_11]
  rw [(so_M (wS_f σ b t x y)).2] at h2
  by_cases c : u = t
  · subst c
    rw [if_pos rfl, if_pos rfl]
    exact ⟨hx, hy⟩
  · rw [if_neg c, if_neg c]
    exact hl u (by omega) h2
theorem cT_bd {σ : jM} {b i t r : Nat} (h : cOK σ b) (hi : i < cM σ b) (hr : r < cR σ b) (ht : t < 2 ^ cR σ b) (hp : pop t = i) {a : Nat × Nat × (Nat → Nat)} (e : cT σ b i t r = some a) : ¬ t.testBit r = true ∧ a.1 ≤ 7000000 ∧ a.2.1 ≤ 46656 ∧ 0 < a.2.1 ∧ qc (cD σ b (t ||| 1 <<< r)) = nI a.2.1 ∧ t ||| 1 <<< r < 2 ^ cR σ b ∧ t < t ||| 1 <<< r ∧ ∃ c, cD σ b (t ||| 1 <<< r) = some c ∧ a.2.2 i = r ∧ ∀ j, j ≠ i → a.2.2 j = c.2.2 j := by
  obtain ⟨m6, -, r6, -⟩ := cOK_n h
  have h64 : 2 ^ cR σ b ≤ 2 ^ 6 := Nat.pow_le_pow_right (by decide) r6
  obtain ⟨o1, o2, o3⟩ := or_bit r6 ht hr
  rw [cT_eq hi hr r6 (by omega) hp] at e
  rcases cOK_w h hi hr with ⟨w1, w2⟩ | ⟨v, v1, v2, v3, v4⟩
  · rw [w2] at e
    cases e
  · rw [v4] at e
    dsimp only at e
    by_cases c : t.testBit r = true
    · rw [if_pos c] at e
      cases e
    · rw [if_neg c] at e
      rcases eD : cD σ b (t ||| 1 <<< r) with _ | x
      · rw [eD] at e
        cases e
      · have hb := cD_bd h eD
        rw [eD] at e
        cases e
        have hne : t ||| 1 <<< r ≠ t := fun z => c (o1.mp z)
        refine ⟨c, ?_, hb.2.1, hb.2.2, rfl, o2, by omega, x, rfl, ?_, fun j hj => ?_⟩
        · dsimp only; omega
        · dsimp only; rw [if_pos rfl]
        · dsimp only; rw [if_neg hj]
theorem cD_step {σ : jM} {b t : Nat} (hi : pop t < cM σ b) : cD σ b t = qR (cT σ b (pop t) t) (cR σ b) := by
  unfold cD dpv
  rw [if_pos (by omega), qT_step hi]
  rfl
def preW (σ : jM) (b : Nat) (x : Int32) : Prop := ∃ t, x = nI t ∧ t < 2 ^ cR σ b ∧ cLd σ b (t + 1)
theorem qR_bdT {σ : jM} {b t : Nat} (h : cOK σ b) (hi : pop t < cM σ b) (ht : t < 2 ^ cR σ b) (k : Nat) (hk : k ≤ cR σ b) (a : Nat × Nat × (Nat → Nat)) (e : qR (cT σ b (pop t) t) k = some a) : a.1 ≤ 7000000 ∧ a.2.1 ≤ 279936 := by
  obtain ⟨m6, -, r6, -⟩ := cOK_n h
  have := qR_bd (V := 7000000) (C := 46656) k (fun q hq x hx => by
    obtain ⟨-, h1, h2, h3, -⟩ := cT_bd h hi (by omega) ht rfl hx
    exact ⟨h1, h2, h3⟩) a e
  have h2 : 46656 * k ≤ 46656 * 6 := Nat.mul_le_mul_left _ (by omega)
  omega
def oX1_weigh : jO := joRI fun b x σ => (chF b ∧ cOK σ b ∧ preW σ b x, fun v τ => v = none ∧ jfr (aSo b) b0 σ τ ∧ cLd τ b x.toNatClampNeg)
set_option maxRecDepth 100000 in
set_option maxHeartbeats 4000000 in
theorem CX1_weigh (g : jG) (n : Nat) : jOk g (n + 1) mX1_weigh oX1_weigh := by
  refine joRI_ok ?_
  rintro b _ σ ⟨hF, hok, t, rfl, ht, hld⟩
  obtain ⟨m6, em, r6, eR⟩ := cOK_n hok
  have h64 : 2 ^ cR σ b ≤ 2 ^ 6 := Nat.pow_le_pow_right (by decide) r6
  obtain ⟨pb, p6⟩ := pop_bc (t := t) (by omega)
  have hF0 := hF
  obtain ⟨f0, f1, f2, -, -, -, -, -, -, f9, f10, f11, f12, -, -, -, -, -, -, -, -, f21, f22, f23, f24⟩ := hF
  have ect : (nI t).toNatClampNeg = t := nI_clamp (by omega)
  have jt : jin (nI t) 64 := jin_nI (by omega) (by decide)
  have hcmp := nI_leI (a := cM σ b) (b := pop t) (by omega) (by omega)
  have heq := nI_eq (a := pop t) (b := cM σ b) (by omega) (by omega)
  by_cases c1 : pop t < cM σ b
  · have c1' : ¬ nI (cM σ b) ≤ nI (pop t) := fun z => by have := hcmp.mp z; omega
    have c2' : ¬ nI (pop t) = nI (cM σ b) := fun z => by have := heq.mp z; omega
    refine jCon.ofP (by decide +kernel) (by simp [lg_sl, Value.category]) (fun post hp => ?_)
    refine jvk_ok TX1_weigh (V := [(74, 4, 1, oX1_sumWith)]) (S := [(68, 1, 0, oJ6_bitCount_0f7a4)]) (List.forall_mem_cons.mpr ⟨⟨mX1_sumWith, n + 0, 3, TX1, 7, rfl, by omega, kX1_74, WX1_sumWith, rfl, CX1_sumWith g (n)⟩, (fun _ h => absurd h List.not_mem_nil)⟩) (List.forall_mem_cons.mpr ⟨⟨mJ6_bitCount_0f7a4, n + 0, by omega, Or.inl kX1_68, WJ6_bitCount_0f7a4, CJ6_bitCount_0f7a4 g (n)⟩, (fun _ h => absurd h List.not_mem_nil)⟩) [54] 60 _ _ _ _ ?_
    simp (maxSteps := 1000000) [↓Bool.cond_eq_ite, -Prod.forall, -Prod.exists, -Prod.mk.injEq, jvk, tX1_weigh, jtb, jol, jst, jlk, jcmp, jbin, jfl, fX1, jc2, lX1, jcat, jel, lv_args, Value.category, jins, jsrt, jins2, jble, jblt, jf3, List.filter_cons, List.filter_nil, G_choice, G_tchoice, G_flat, oJ6_bitCount_0f7a4, oX1_sumWith, joI, joRIII, -Int32.not_le, -Int32.not_lt, -Int64.not_le, -Int64.not_lt, i3lt, i6lt, jup_1, f0, f1, f9, f10, f11, f12, f21, f22, f23, f24, pb, em, jt, ect, c1', c2']
    try simp (disch := omega) [-Prod.forall, -Prod.exists, -Prod.mk.injEq, -Int32.not_le, -Int32.not_lt, -Int64.not_le, -Int64.not_lt, i3lt, i6lt, jup_1, f0, f1, f9, f10, f11, f12, f21, f22, f23, f24, pb, em, jt, ect, c1', c2']
    have key := jloop (P := fun k => jW g mX1_weigh (n + 1) post 54 [(0, .ref b), (1, .int (nI t)), (2, .int (nI (pop t))), (3, .int (nI k))] [] (wS σ b t (qs (qR (cT σ b (pop t) t) k)) (qc (qR (cT σ b (pop t) t) k)))) (N := cR σ b) (by
      have hle : nI (cR σ b) ≤ nI (cR σ b) := nI_le (Nat.le_refl _) (by omega)
      obtain ⟨ρ, eρ⟩ : ∃ ρ, ρ = wS σ b t (qs (qR (cT σ b (pop t) t) (cR σ b))) (qc (qR (cT σ b (pop t) t) (cR σ b))) := ⟨_, rfl⟩
      have fρ : jfr (aSo b) b0 σ ρ := by rw [eρ]; exact wS_f ..
      have eRρ : ρ.1 b 1 = nI (cR σ b) := by rw [(so_C fρ).1]; exact eR
      have hl : cLd ρ b t := by rw [eρ]; exact wS_ld hok hld (by rw [cD_step c1]) (by rw [cD_step c1])
      rw [← eρ]
      refine jvk_ok TX1_weigh (V := [(74, 4, 1, oX1_sumWith)]) (S := [(68, 1, 0, oJ6_bitCount_0f7a4)]) (List.forall_mem_cons.mpr ⟨⟨mX1_sumWith, n + 0, 3, TX1, 7, rfl, by omega, kX1_74, WX1_sumWith, rfl, CX1_sumWith g (n)⟩, (fun _ h => absurd h List.not_mem_nil)⟩) (List.forall_mem_cons.mpr ⟨⟨mJ6_bitCount_0f7a4, n + 0, by omega, Or.inl kX1_68, WJ6_bitCount_0f7a4, CJ6_bitCount_0f7a4 g (n)⟩, (fun _ h => absurd h List.not_mem_nil)⟩) [54] 30 _ _ _ _ ?_
      simp (maxSteps := 1000000) [↓Bool.cond_eq_ite, -Prod.forall, -Prod.exists, -Prod.mk.injEq, jvk, tX1_weigh, jtb, jol, jst, jlk, jcmp, jbin, jfl, fX1, jc2, lX1, jcat, jel, lv_args, Value.category, jins, jsrt, jins2, jble, jblt, jf3, List.filter_cons, List.filter_nil, G_choice, G_tchoice, G_flat, oJ6_bitCount_0f7a4, oX1_sumWith, joI, joRIII, -Int32.not_le, -Int32.not_lt, -Int64.not_le, -Int64.not_lt, i3lt, i6lt, f0, f2, eRρ, hle]
      try simp (disch := omega) [-Prod.forall, -Prod.exists, -Prod.mk.injEq, -Int32.not_le, -Int32.not_lt, -Int64.not_le, -Int64.not_lt, i3lt, i6lt, f0, f2, eRρ, hle]
      exact hp _ _ ⟨rfl, fρ, by rw [ect]; exact hl⟩) (fun k hk ih => by
      have hlt : ¬ nI (cR σ b) ≤ nI k := nI_ge hk (by omega)
      have eck : (nI k).toNatClampNeg = k := nI_clamp (by omega)
      have ecp : (nI (pop t)).toNatClampNeg = pop t := nI_clamp (by omega)
      obtain ⟨x0, ex0⟩ : ∃ x0, x0 = qs (qR (cT σ b (pop t) t) k) := ⟨_, rfl⟩
      obtain ⟨y0, ey0⟩ : ∃ y0, y0 = qc (qR (cT σ b (pop t) t) k) := ⟨_, rfl⟩
      obtain ⟨ρ, eρ⟩ : ∃ ρ, ρ = wS σ b t x0 y0 := ⟨_, rfl⟩
      have fρ : jfr (aSo b) b0 σ ρ := by rw [eρ]; exact wS_f ..
      have eRρ : ρ.1 b 1 = nI (cR σ b) := by rw [(so_C fρ).1]; exact eR
      have hokρ : cOK ρ b := so_OK hok fρ
      have hpre : preS ρ b (nI t) (nI (pop t)) (nI k) := ⟨t, pop t, k, rfl, rfl, rfl, by rw [(so_M fρ).2]; exact ht, by rw [(so_M fρ).1]; exact c1, by rw [(so_M fρ).2]; exact hk, rfl, fun u h1 h2 => by
        rw [(so_M fρ).2] at h2
        rw [(so_D hok fρ).1, eρ, wS_10, if_neg (by omega)]
        exact (hld u (by omega) h2).1⟩
      have eT : cT ρ b (pop t) t k = cT σ b (pop t) t k := by rw [(so_D hok fρ).2]
      have e10 : ρ.1 (b + 10) t = x0 := by rw [eρ, wS_10, if_pos rfl]
      have e11 : ρ.1 (b + 11) t = y0 := by rw [eρ, wS_11, if_pos rfl]
      rw [← ex0, ← ey0, ← eρ]
      rcases eC : cT σ b (pop t) t k with _ | a
      · have eTv : qs (cT ρ b (pop t) t k) = -1 := by rw [eT, eC]; rfl
        have eF : qR (cT σ b (pop t) t) (k + 1) = qR (cT σ b (pop t) t) k := by simp only [qR]; rw [eC, qB_none]
        rw [eF, ← ex0, ← ey0, ← eρ] at ih
        refine jvk_ok TX1_weigh (V := [(74, 4, 1, oX1_sumWith)]) (S := [(68, 1, 0, oJ6_bitCount_0f7a4)]) (List.forall_mem_cons.mpr ⟨⟨mX1_sumWith, n + 0, 3, TX1, 7, rfl, by omega, kX1_74, WX1_sumWith, rfl, CX1_sumWith g (n)⟩, (fun _ h => absurd h List.not_mem_nil)⟩) (List.forall_mem_cons.mpr ⟨⟨mJ6_bitCount_0f7a4, n + 0, by omega, Or.inl kX1_68, WJ6_bitCount_0f7a4, CJ6_bitCount_0f7a4 g (n)⟩, (fun _ h => absurd h List.not_mem_nil)⟩) [54] 40 _ _ _ _ ?_
        simp (maxSteps := 1000000) [↓Bool.cond_eq_ite, -Prod.forall, -Prod.exists, -Prod.mk.injEq, jvk, tX1_weigh, jtb, jol, jst, jlk, jcmp, jbin, jfl, fX1, jc2, lX1, jcat, jel, lv_args, Value.category, jins, jsrt, jins2, jble, jblt, jf3, List.filter_cons, List.filter_nil, G_choice, G_tchoice, G_flat, oJ6_bitCount_0f7a4, oX1_sumWith, joI, joRIII, -Int32.not_le, -Int32.not_lt, -Int64.not_le, -Int64.not_lt, i3lt, i6lt, hF0, f0, f2, eRρ, hlt, hokρ, hpre, ect, ecp, eck, eTv, nI_1]
        try simp (disch := omega) [-Prod.forall, -Prod.exists, -Prod.mk.injEq, -Int32.not_le, -Int32.not_lt, -Int64.not_le, -Int64.not_lt, i3lt, i6lt, hF0, f0, f2, eRρ, hlt, hokρ, hpre, ect, ecp, eck, eTv, nI_1]
        exact jW.mono ih (by simp)
      · obtain ⟨b1, b2, b3, b4, b5, b6, b7, -⟩ := cT_bd hok c1 hk ht rfl eC
        have eTv : qs (cT ρ b (pop t) t k) = nI a.1 := by rw [eT, eC]; rfl
        obtain ⟨p1, p2, p3⟩ := bit_t (t := t) (r := k) (by omega) (by omega)
        obtain ⟨u, eu⟩ : ∃ u, u = t ||| 1 <<< k := ⟨_, rfl⟩
        rw [← eu] at p2 p3 b5 b6 b7
        have ecu : (nI u).toNatClampNeg = u := nI_clamp (by omega)
        have ju : jin (nI u) 64 := jin_nI p3 (by decide)
        have e11u : ρ.1 (b + 11) u = nI a.2.1 := by rw [eρ, wS_11, if_neg (by omega), (hld u (by omega) b6).2, b5]
        have an1 : ¬ nI a.1 = -1 := fun z => (nI_m1 (by omega)).mp z
        have st : ∀ X Y, jup (jup ρ (b + 10) t X) (b + 11) t Y = wS σ b t X Y := fun X Y => by rw [eρ, wS_a, wS_b]
        rcases eP : qR (cT σ b (pop t) t) k with _ | x
        · rw [eP] at ex0 ey0
          have ex0 : x0 = -1 := ex0
          have hgt : ¬ nI a.1 ≤ x0 := by rw [ex0]; exact nI_nm1 (by omega)
          have eF : qR (cT σ b (pop t) t) (k + 1) = some a := by simp only [qR]; rw [eC, eP]; rfl
          rw [eF, ← st] at ih
          refine jvk_ok TX1_weigh (V := [(74, 4, 1, oX1_sumWith)]) (S := [(68, 1, 0, oJ6_bitCount_0f7a4)]) (List.forall_mem_cons.mpr ⟨⟨mX1_sumWith, n + 0, 3, TX1, 7, rfl, by omega, kX1_74, WX1_sumWith, rfl, CX1_sumWith g (n)⟩, (fun _ h => absurd h List.not_mem_nil)⟩) (List.forall_mem_cons.mpr ⟨⟨mJ6_bitCount_0f7a4, n + 0, by omega, Or.inl kX1_68, WJ6_bitCount_0f7a4, CJ6_bitCount_0f7a4 g (n)⟩, (fun _ h => absurd h List.not_mem_nil)⟩) [54] 60 _ _ _ _ ?_
          simp (maxSteps := 1000000) [↓Bool.cond_eq_ite, -Prod.forall, -Prod.exists, -Prod.mk.injEq, jvk, tX1_weigh, jtb, jol, jst, jlk, jcmp, jbin, jfl, fX1, jc2, lX1, jcat, jel, lv_args, Value.category, jins, jsrt, jins2, jble, jblt, jf3, List.filter_cons, List.filter_nil, G_choice, G_tchoice, G_flat, oJ6_bitCount_0f7a4, oX1_sumWith, joI, joRIII, -Int32.not_le, -Int32.not_lt, -Int64.not_le, -Int64.not_lt, i3lt, i6lt, jup_1, hF0, f0, f2, f9, f10, f11, f12, f21, f22, f23, f24, eRρ, hlt, hokρ, hpre, ect, ecp, eck, eTv, an1, jt, ju, ecu, p2, e10, e11u, hgt, nI_1]
          try simp (disch := omega) [-Prod.forall, -Prod.exists, -Prod.mk.injEq, -Int32.not_le, -Int32.not_lt, -Int64.not_le, -Int64.not_lt, i3lt, i6lt, jup_1, hF0, f0, f2, f9, f10, f11, f12, f21, f22, f23, f24, eRρ, hlt, hokρ, hpre, ect, ecp, eck, eTv, an1, jt, ju, ecu, p2, e10, e11u, hgt, nI_1]
          exact jW.mono ih (by simp)
        · have xb := qR_bdT hok c1 ht k (by omega) x eP
          rw [eP] at ex0 ey0
          have ex0 : x0 = nI x.1 := ex0
          have ey0 : y0 = nI x.2.1 := ey0
          by_cases d1 : x.1 < a.1
          · have hgt : ¬ nI a.1 ≤ x0 := by rw [ex0]; exact nI_ge d1 (by omega)
            have eF : qR (cT σ b (pop t) t) (k + 1) = some a := by simp only [qR]; rw [eC, eP, qB_some, if_pos d1]
            rw [eF, ← st] at ih
            refine jvk_ok TX1_weigh (V := [(74, 4, 1, oX1_sumWith)]) (S := [(68, 1, 0, oJ6_bitCount_0f7a4)]) (List.forall_mem_cons.mpr ⟨⟨mX1_sumWith, n + 0, 3, TX1, 7, rfl, by omega, kX1_74, WX1_sumWith, rfl, CX1_sumWith g (n)⟩, (fun _ h => absurd h List.not_mem_nil)⟩) (List.forall_mem_cons.mpr ⟨⟨mJ6_bitCount_0f7a4, n + 0, by omega, Or.inl kX1_68, WJ6_bitCount_0f7a4, CJ6_bitCount_0f7a4 g (n)⟩, (fun _ h => absurd h List.not_mem_nil)⟩) [54] 60 _ _ _ _ ?_
            simp (maxSteps := 1000000) [↓Bool.cond_eq_ite, -Prod.forall, -Prod.exists, -Prod.mk.injEq, jvk, tX1_weigh, jtb, jol, jst, jlk, jcmp, jbin, jfl, fX1, jc2, lX1, jcat, jel, lv_args, Value.category, jins, jsrt, jins2, jble, jblt, jf3, List.filter_cons, List.filter_nil, G_choice, G_tchoice, G_flat, oJ6_bitCount_0f7a4, oX1_sumWith, joI, joRIII, -Int32.not_le, -Int32.not_lt, -Int64.not_le, -Int64.not_lt, i3lt, i6lt, jup_1, hF0, f0, f2, f9, f10, f11, f12, f21, f22, f23, f24, eRρ, hlt, hokρ, hpre, ect, ecp, eck, eTv, an1, jt, ju, ecu, p2, e10, e11u, hgt, nI_1]
            try simp (disch := omega) [-Prod.forall, -Prod.exists, -Prod.mk.injEq, -Int32.not_le, -Int32.not_lt, -Int64.not_le, -Int64.not_lt, i3lt, i6lt, jup_1, hF0, f0, f2, f9, f10, f11, f12, f21, f22, f23, f24, eRρ, hlt, hokρ, hpre, ect, ecp, eck, eTv, an1, jt, ju, ecu, p2, e10, e11u, hgt, nI_1]
            exact jW.mono ih (by simp)
          · have hle : nI a.1 ≤ x0 := by rw [ex0]; exact nI_le (by omega) (by omega)
            by_cases d2 : x.1 = a.1
            · have e10a : ρ.1 (b + 10) t = nI a.1 := by rw [e10, ex0, d2]
              have hle2 : nI a.1 ≤ nI a.1 := nI_le (Nat.le_refl _) (by omega)
              have eF : qR (cT σ b (pop t) t) (k + 1) = some (x.1, x.2.1 + a.2.1, x.2.2) := by simp only [qR]; rw [eC, eP, qB_some, if_neg d1, if_pos d2]
              have ea : y0 + nI a.2.1 = nI (x.2.1 + a.2.1) := by rw [ey0]; exact nI_add _ _
              have es : wS σ b t (qs (some (x.1, x.2.1 + a.2.1, x.2.2))) (qc (some (x.1, x.2.1 + a.2.1, x.2.2))) = jup ρ (b + 11) t (nI (x.2.1 + a.2.1)) := by
                rw [eρ, wS_b, ex0]; rfl
              rw [eF, es] at ih
              refine jvk_ok TX1_weigh (V := [(74, 4, 1, oX1_sumWith)]) (S := [(68, 1, 0, oJ6_bitCount_0f7a4)]) (List.forall_mem_cons.mpr ⟨⟨mX1_sumWith, n + 0, 3, TX1, 7, rfl, by omega, kX1_74, WX1_sumWith, rfl, CX1_sumWith g (n)⟩, (fun _ h => absurd h List.not_mem_nil)⟩) (List.forall_mem_cons.mpr ⟨⟨mJ6_bitCount_0f7a4, n + 0, by omega, Or.inl kX1_68, WJ6_bitCount_0f7a4, CJ6_bitCount_0f7a4 g (n)⟩, (fun _ h => absurd h List.not_mem_nil)⟩) [54] 60 _ _ _ _ ?_
              simp (maxSteps := 1000000) [↓Bool.cond_eq_ite, -Prod.forall, -Prod.exists, -Prod.mk.injEq, jvk, tX1_weigh, jtb, jol, jst, jlk, jcmp, jbin, jfl, fX1, jc2, lX1, jcat, jel, lv_args, Value.category, jins, jsrt, jins2, jble, jblt, jf3, List.filter_cons, List.filter_nil, G_choice, G_tchoice, G_flat, oJ6_bitCount_0f7a4, oX1_sumWith, joI, joRIII, -Int32.not_le, -Int32.not_lt, -Int64.not_le, -Int64.not_lt, i3lt, i6lt, jup_1, hF0, f0, f2, f9, f10, f11, f12, f21, f22, f23, f24, eRρ, hlt, hokρ, hpre, ect, ecp, eck, eTv, an1, jt, ju, ecu, p2, e10a, e11, e11u, hle2, ea, nI_1]
              try simp (disch := omega) [-Prod.forall, -Prod.exists, -Prod.mk.injEq, -Int32.not_le, -Int32.not_lt, -Int64.not_le, -Int64.not_lt, i3lt, i6lt, jup_1, hF0, f0, f2, f9, f10, f11, f12, f21, f22, f23, f24, eRρ, hlt, hokρ, hpre, ect, ecp, eck, eTv, an1, jt, ju, ecu, p2, e10a, e11, e11u, hle2, ea, nI_1]
              exact jW.mono ih (by simp)
            · have hne2 : ¬ nI a.1 = x0 := by rw [ex0]; exact fun z => d2 ((nI_eq (by omega) (by omega)).mp z).symm
              have eF : qR (cT σ b (pop t) t) (k + 1) = some x := by simp only [qR]; rw [eC, eP, qB_some, if_neg d1, if_neg d2]
              have es : wS σ b t (qs (some x)) (qc (some x)) = ρ := by rw [eρ, ex0, ey0]; rfl
              rw [eF, es] at ih
              refine jvk_ok TX1_weigh (V := [(74, 4, 1, oX1_sumWith)]) (S := [(68, 1, 0, oJ6_bitCount_0f7a4)]) (List.forall_mem_cons.mpr ⟨⟨mX1_sumWith, n + 0, 3, TX1, 7, rfl, by omega, kX1_74, WX1_sumWith, rfl, CX1_sumWith g (n)⟩, (fun _ h => absurd h List.not_mem_nil)⟩) (List.forall_mem_cons.mpr ⟨⟨mJ6_bitCount_0f7a4, n + 0, by omega, Or.inl kX1_68, WJ6_bitCount_0f7a4, CJ6_bitCount_0f7a4 g (n)⟩, (fun _ h => absurd h List.not_mem_nil)⟩) [54] 60 _ _ _ _ ?_
              simp (maxSteps := 1000000) [↓Bool.cond_eq_ite, -Prod.forall, -Prod.exists, -Prod.mk.injEq, jvk, tX1_weigh, jtb, jol, jst, jlk, jcmp, jbin, jfl, fX1, jc2, lX1, jcat, jel, lv_args, Value.category, jins, jsrt, jins2, jble, jblt, jf3, List.filter_cons, List.filter_nil, G_choice, G_tchoice, G_flat, oJ6_bitCount_0f7a4, oX1_sumWith, joI, joRIII, -Int32.not_le, -Int32.not_lt, -Int64.not_le, -Int64.not_lt, i3lt, i6lt, jup_1, hF0, f0, f2, f9, f10, f11, f12, f21, f22, f23, f24, eRρ, hlt, hokρ, hpre, ect, ecp, eck, eTv, an1, jt, ju, ecu, p2, e10, e11, e11u, hle, hne2, nI_1]
              try simp (disch := omega) [-Prod.forall, -Prod.exists, -Prod.mk.injEq, -Int32.not_le, -Int32.not_lt, -Int64.not_le, -Int64.not_lt, i3lt, i6lt, jup_1, hF0, f0, f2, f9, f10, f11, f12, f21, f22, f23, f24, eRρ, hlt, hokρ, hpre, ect, ecp, eck, eTv, an1, jt, ju, ecu, p2, e10, e11, e11u, hle, hne2, nI_1]
              exact jW.mono ih (by simp))
    rw [nI_0] at key
    exact key
  · have c1' : nI (cM σ b) ≤ nI (pop t) := hcmp.mpr (by omega)
    by_cases c2 : pop t = cM σ b
    · have c2' : nI (pop t) = nI (cM σ b) := heq.mpr c2
      have eD : cD σ b t = some (0, 1, fun _ => 0) := by unfold cD dpv; rw [if_pos (by omega), c2, Nat.sub_self]; rfl
      have hl : cLd (wS σ b t 0 1) b t := wS_ld hok hld (by rw [eD]; rfl) (by rw [eD]; rfl)
      refine jCon.ofP (by decide +kernel) (by simp [lg_sl, Value.category]) (fun post hp => ?_)
      refine jvk_ok TX1_weigh (V := [(74, 4, 1, oX1_sumWith)]) (S := [(68, 1, 0, oJ6_bitCount_0f7a4)]) (List.forall_mem_cons.mpr ⟨⟨mX1_sumWith, n + 0, 3, TX1, 7, rfl, by omega, kX1_74, WX1_sumWith, rfl, CX1_sumWith g (n)⟩, (fun _ h => absurd h List.not_mem_nil)⟩) (List.forall_mem_cons.mpr ⟨⟨mJ6_bitCount_0f7a4, n + 0, by omega, Or.inl kX1_68, WJ6_bitCount_0f7a4, CJ6_bitCount_0f7a4 g (n)⟩, (fun _ h => absurd h List.not_mem_nil)⟩) [54] 60 _ _ _ _ ?_
      simp (maxSteps := 1000000) [↓Bool.cond_eq_ite, -Prod.forall, -Prod.exists, -Prod.mk.injEq, jvk, tX1_weigh, jtb, jol, jst, jlk, jcmp, jbin, jfl, fX1, jc2, lX1, jcat, jel, lv_args, Value.category, jins, jsrt, jins2, jble, jblt, jf3, List.filter_cons, List.filter_nil, G_choice, G_tchoice, G_flat, oJ6_bitCount_0f7a4, oX1_sumWith, joI, joRIII, -Int32.not_le, -Int32.not_lt, -Int64.not_le, -Int64.not_lt, i3lt, i6lt, jup_1, f0, f1, f9, f10, f11, f12, f21, f22, f23, f24, pb, em, jt, ect, c1', c2']
      try simp (disch := omega) [-Prod.forall, -Prod.exists, -Prod.mk.injEq, -Int32.not_le, -Int32.not_lt, -Int64.not_le, -Int64.not_lt, i3lt, i6lt, jup_1, f0, f1, f9, f10, f11, f12, f21, f22, f23, f24, pb, em, jt, ect, c1', c2']
      exact hp _ _ ⟨rfl, wS_f σ b t 0 1, by rw [ect]; exact hl⟩
    · have c2' : ¬ nI (pop t) = nI (cM σ b) := fun z => c2 (heq.mp z)
      have eD : cD σ b t = none := by unfold cD dpv; rw [if_neg (by omega)]
      have hl : cLd (wS σ b t (-1) 0) b t := wS_ld hok hld (by rw [eD]; rfl) (by rw [eD]; rfl)
      refine jCon.ofP (by decide +kernel) (by simp [lg_sl, Value.category]) (fun post hp => ?_)
      refine jvk_ok TX1_weigh (V := [(74, 4, 1, oX1_sumWith)]) (S := [(68, 1, 0, oJ6_bitCount_0f7a4)]) (List.forall_mem_cons.mpr ⟨⟨mX1_sumWith, n + 0, 3, TX1, 7, rfl, by omega, kX1_74, WX1_sumWith, rfl, CX1_sumWith g (n)⟩, (fun _ h => absurd h List.not_mem_nil)⟩) (List.forall_mem_cons.mpr ⟨⟨mJ6_bitCount_0f7a4, n + 0, by omega, Or.inl kX1_68, WJ6_bitCount_0f7a4, CJ6_bitCount_0f7a4 g (n)⟩, (fun _ h => absurd h List.not_mem_nil)⟩) [54] 60 _ _ _ _ ?_
      simp (maxSteps := 1000000) [↓Bool.cond_eq_ite, -Prod.forall, -Prod.exists, -Prod.mk.injEq, jvk, tX1_weigh, jtb, jol, jst, jlk, jcmp, jbin, jfl, fX1, jc2, lX1, jcat, jel, lv_args, Value.category, jins, jsrt, jins2, jble, jblt, jf3, List.filter_cons, List.filter_nil, G_choice, G_tchoice, G_flat, oJ6_bitCount_0f7a4, oX1_sumWith, joI, joRIII, -Int32.not_le, -Int32.not_lt, -Int64.not_le, -Int64.not_lt, i3lt, i6lt, jup_1, f0, f1, f9, f10, f11, f12, f21, f22, f23, f24, pb, em, jt, ect, c1', c2']
      try simp (disch := omega) [-Prod.forall, -Prod.exists, -Prod.mk.injEq, -Int32.not_le, -Int32.not_lt, -Int64.not_le, -Int64.not_lt, i3lt, i6lt, jup_1, f0, f1, f9, f10, f11, f12, f21, f22, f23, f24, pb, em, jt, ect, c1', c2']
      exact hp _ _ ⟨rfl, wS_f σ b t (-1) 0, by rw [ect]; exact hl⟩
def lbP (σ : jM) (b t : Nat) : Nat → Bool := fun r => decide (¬ qs (cT σ b (pop t) t r) = -1) && decide (qs (cT σ b (pop t) t r) = qs (cD σ b t))
def preL (σ : jM) (b : Nat) (x y : Int32) : Prop := ∃ t, x = nI t ∧ y = nI (pop t) ∧ t < 2 ^ cR σ b ∧ pop t < cM σ b ∧ cLd σ b t
def oX1_lowestBest : jO := joRII fun b x y σ => (chF b ∧ cOK σ b ∧ preL σ b x y, fun v τ => v = some (.int (ff (lbP σ b x.toNatClampNeg) (cR σ b) 0)) ∧ τ = σ)
set_option maxRecDepth 100000 in
set_option maxHeartbeats 4000000 in
theorem CX1_lowestBest (g : jG) (n : Nat) : jOk g (n + 1) mX1_lowestBest oX1_lowestBest := by
  refine joRII_ok ?_
  rintro b _ _ σ ⟨hF, hok, t, rfl, rfl, ht, hpt, hld⟩
  obtain ⟨m6, em, r6, eR⟩ := cOK_n hok
  have h64 : 2 ^ cR σ b ≤ 2 ^ 6 := Nat.pow_le_pow_right (by decide) r6
  have hF0 := hF
  obtain ⟨f0, -, f2, -, -, -, -, -, -, f9, f10, -, -, -, -, -, -, -, -, -, -, f21, f22, -, -⟩ := hF
  have ect : (nI t).toNatClampNeg = t := nI_clamp (by omega)
  have ecp : (nI (pop t)).toNatClampNeg = pop t := nI_clamp (by omega)
  have jt : jin (nI t) 64 := jin_nI (by omega) (by decide)
  have e10 : σ.1 (b + 10) t = qs (cD σ b t) := (hld t (Nat.le_refl _) ht).1
  refine jCon.ofP (by decide +kernel) (by simp [lg_sl, Value.category]) (fun post hp => ?_)
  refine jvk_ok TX1_lowestBest (V := [(74, 4, 1, oX1_sumWith)]) (S := []) (List.forall_mem_cons.mpr ⟨⟨mX1_sumWith, n + 0, 3, TX1, 7, rfl, by omega, kX1_74, WX1_sumWith, rfl, CX1_sumWith g (n)⟩, (fun _ h => absurd h List.not_mem_nil)⟩) (fun _ h => absurd h List.not_mem_nil) [2] 30 _ _ _ _ ?_
  simp (maxSteps := 1000000) [↓Bool.cond_eq_ite, -Prod.forall, -Prod.exists, -Prod.mk.injEq, jvk, tX1_lowestBest, jtb, jol, jst, jlk, jcmp, jbin, jfl, fX1, jc2, lX1, jcat, jel, lv_args, Value.category, jins, jsrt, jins2, jble, jblt, jf3, List.filter_cons, List.filter_nil, G_choice, G_tchoice, G_flat, oX1_sumWith, joRIII, -Int32.not_le, -Int32.not_lt, -Int64.not_le, -Int64.not_lt, i3lt, i6lt]
  try simp (disch := omega) [-Prod.forall, -Prod.exists, -Prod.mk.injEq, -Int32.not_le, -Int32.not_lt, -Int64.not_le, -Int64.not_lt, i3lt, i6lt]
  rw [ect] at hp
  have key := jloop (P := fun k => ff (lbP σ b t) (cR σ b - k) k = ff (lbP σ b t) (cR σ b) 0 → jW g mX1_lowestBest (n + 1) post 2 [(0, .ref b), (1, .int (nI t)), (2, .int (nI (pop t))), (3, .int (nI k))] [] σ) (N := cR σ b) (fun e => by
    rw [Nat.sub_self] at e
    have hle : nI (cR σ b) ≤ nI (cR σ b) := nI_le (Nat.le_refl _) (by omega)
    refine jvk_ok TX1_lowestBest (V := [(74, 4, 1, oX1_sumWith)]) (S := []) (List.forall_mem_cons.mpr ⟨⟨mX1_sumWith, n + 0, 3, TX1, 7, rfl, by omega, kX1_74, WX1_sumWith, rfl, CX1_sumWith g (n)⟩, (fun _ h => absurd h List.not_mem_nil)⟩) (fun _ h => absurd h List.not_mem_nil) [2] 30 _ _ _ _ ?_
    simp (maxSteps := 1000000) [↓Bool.cond_eq_ite, -Prod.forall, -Prod.exists, -Prod.mk.injEq, jvk, tX1_lowestBest, jtb, jol, jst, jlk, jcmp, jbin, jfl, fX1, jc2, lX1, jcat, jel, lv_args, Value.category, jins, jsrt, jins2, jble, jblt, jf3, List.filter_cons, List.filter_nil, G_choice, G_tchoice, G_flat, oX1_sumWith, joRIII, -Int32.not_le, -Int32.not_lt, -Int64.not_le, -Int64.not_lt, i3lt, i6lt, f0, f2, eR, hle]
    try simp (disch := omega) [-Prod.forall, -Prod.exists, -Prod.mk.injEq, -Int32.not_le, -Int32.not_lt, -Int64.not_le, -Int64.not_lt, i3lt, i6lt, f0, f2, eR, hle]
    exact hp _ _ ⟨by rw [← e]; rfl, rfl⟩) (fun k hk ih e => by
    have hlt : ¬ nI (cR σ b) ≤ nI k := nI_ge hk (by omega)
    have eck : (nI k).toNatClampNeg = k := nI_clamp (by omega)
    have hpre : preS σ b (nI t) (nI (pop t)) (nI k) := ⟨t, pop t, k, rfl, rfl, rfl, ht, hpt, hk, rfl, fun u h1 h2 => (hld u (by omega) h2).1⟩
    rw [show cR σ b - k = (cR σ b - (k + 1)) + 1 by omega] at e
    simp only [ff] at e
    obtain ⟨x, ex⟩ : ∃ x, x = qs (cT σ b (pop t) t k) := ⟨_, rfl⟩
    obtain ⟨y, ey⟩ : ∃ y, y = qs (cD σ b t) := ⟨_, rfl⟩
    rw [← ey] at e10
    by_cases c1 : x = -1
    · rw [if_neg (by simp [lbP, ← ex, c1])] at e
      have k1 := ih e
      refine jvk_ok TX1_lowestBest (V := [(74, 4, 1, oX1_sumWith)]) (S := []) (List.forall_mem_cons.mpr ⟨⟨mX1_sumWith, n + 0, 3, TX1, 7, rfl, by omega, kX1_74, WX1_sumWith, rfl, CX1_sumWith g (n)⟩, (fun _ h => absurd h List.not_mem_nil)⟩) (fun _ h => absurd h List.not_mem_nil) [2] 40 _ _ _ _ ?_
      simp (maxSteps := 1000000) [↓Bool.cond_eq_ite, -Prod.forall, -Prod.exists, -Prod.mk.injEq, jvk, tX1_lowestBest, jtb, jol, jst, jlk, jcmp, jbin, jfl, fX1, jc2, lX1, jcat, jel, lv_args, Value.category, jins, jsrt, jins2, jble, jblt, jf3, List.filter_cons, List.filter_nil, G_choice, G_tchoice, G_flat, oX1_sumWith, joRIII, -Int32.not_le, -Int32.not_lt, -Int64.not_le, -Int64.not_lt, i3lt, i6lt, hF0, f0, f2, f9, f10, f21, f22, eR, hlt, hok, hpre, ect, ecp, eck, ex.symm, c1, nI_1]
      try simp (disch := omega) [-Prod.forall, -Prod.exists, -Prod.mk.injEq, -Int32.not_le, -Int32.not_lt, -Int64.not_le, -Int64.not_lt, i3lt, i6lt, hF0, f0, f2, f9, f10, f21, f22, eR, hlt, hok, hpre, ect, ecp, eck, ex.symm, c1, nI_1]
      exact jW.mono k1 (by simp)
    · by_cases c2 : x = y
      · rw [if_pos (by unfold lbP; rw [← ex, ← ey, ← c2]; simp [c1])] at e
        have e10x := e10.trans c2.symm
        refine jvk_ok TX1_lowestBest (V := [(74, 4, 1, oX1_sumWith)]) (S := []) (List.forall_mem_cons.mpr ⟨⟨mX1_sumWith, n + 0, 3, TX1, 7, rfl, by omega, kX1_74, WX1_sumWith, rfl, CX1_sumWith g (n)⟩, (fun _ h => absurd h List.not_mem_nil)⟩) (fun _ h => absurd h List.not_mem_nil) [2] 40 _ _ _ _ ?_
        simp (maxSteps := 1000000) [↓Bool.cond_eq_ite, -Prod.forall, -Prod.exists, -Prod.mk.injEq, jvk, tX1_lowestBest, jtb, jol, jst, jlk, jcmp, jbin, jfl, fX1, jc2, lX1, jcat, jel, lv_args, Value.category, jins, jsrt, jins2, jble, jblt, jf3, List.filter_cons, List.filter_nil, G_choice, G_tchoice, G_flat, oX1_sumWith, joRIII, -Int32.not_le, -Int32.not_lt, -Int64.not_le, -Int64.not_lt, i3lt, i6lt, hF0, f0, f2, f9, f10, f21, f22, eR, hlt, hok, hpre, ect, ecp, eck, ex.symm, c1, jt, e10x, nI_1]
        try simp (disch := omega) [-Prod.forall, -Prod.exists, -Prod.mk.injEq, -Int32.not_le, -Int32.not_lt, -Int64.not_le, -Int64.not_lt, i3lt, i6lt, hF0, f0, f2, f9, f10, f21, f22, eR, hlt, hok, hpre, ect, ecp, eck, ex.symm, c1, jt, e10x, nI_1]
        exact hp _ _ ⟨by rw [← e], rfl⟩
      · rw [if_neg (by simp [lbP, ← ex, ← ey, c2])] at e
        have k1 := ih e
        refine jvk_ok TX1_lowestBest (V := [(74, 4, 1, oX1_sumWith)]) (S := []) (List.forall_mem_cons.mpr ⟨⟨mX1_sumWith, n + 0, 3, TX1, 7, rfl, by omega, kX1_74, WX1_sumWith, rfl, CX1_sumWith g (n)⟩, (fun _ h => absurd h List.not_mem_nil)⟩) (fun _ h => absurd h List.not_mem_nil) [2] 40 _ _ _ _ ?_
        simp (maxSteps := 1000000) [↓Bool.cond_eq_ite, -Prod.forall, -Prod.exists, -Prod.mk.injEq, jvk, tX1_lowestBest, jtb, jol, jst, jlk, jcmp, jbin, jfl, fX1, jc2, lX1, jcat, jel, lv_args, Value.category, jins, jsrt, jins2, jble, jblt, jf3, List.filter_cons, List.filter_nil, G_choice, G_tchoice, G_flat, oX1_sumWith, joRIII, -Int32.not_le, -Int32.not_lt, -Int64.not_le, -Int64.not_lt, i3lt, i6lt, hF0, f0, f2, f9, f10, f21, f22, eR, hlt, hok, hpre, ect, ecp, eck, ex.symm, c1, jt, e10, c2, nI_1]
        try simp (disch := omega) [-Prod.forall, -Prod.exists, -Prod.mk.injEq, -Int32.not_le, -Int32.not_lt, -Int64.not_le, -Int64.not_lt, i3lt, i6lt, hF0, f0, f2, f9, f10, f21, f22, eR, hlt, hok, hpre, ect, ecp, eck, ex.symm, c1, jt, e10, c2, nI_1]
        exact jW.mono k1 (by simp))
  rw [nI_0] at key
  exact key rfl
