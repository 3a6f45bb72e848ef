/-! Choice (b: the object, its rows behind it): sets of rooms, from the fullest on -/
def chF (b : Nat) : Prop := jisO b 1 = true ∧ jobj b 1 0 0 = true ∧ jobj b 1 1 0 = true ∧ jobj b 1 2 2 = true ∧ jref b 2 = b + 1 ∧ jobj b 1 3 2 = true ∧ jref b 3 = b + 2 ∧ jobj b 1 4 2 = true ∧ jref b 4 = b + 9 ∧ jobj b 1 5 2 = true ∧ jref b 5 = b + 10 ∧ jobj b 1 6 2 = true ∧ jref b 6 = b + 11 ∧ jarr (b + 1) 1 0 = true ∧ jlen (b + 1) = 6 ∧ jarr (b + 2) 4 6 = true ∧ jlen (b + 2) = 6 ∧ (∀ q, jelt (b + 2) q = b + 3 + q) ∧ (∀ q, q < 6 → jarr (b + 3 + q) 1 0 = true ∧ jlen (b + 3 + q) = 6) ∧ jarr (b + 9) 1 0 = true ∧ jlen (b + 9) = 6 ∧ jarr (b + 10) 1 0 = true ∧ jlen (b + 10) = 64 ∧ jarr (b + 11) 1 0 = true ∧ jlen (b + 11) = 64
theorem chF_of {b : Nat} (h : b = 260 ∨ b = 288) : chF b := by
  rcases h with rfl | rfl
  · exact ⟨by decide +kernel, by decide +kernel, by decide +kernel, by decide +kernel, by decide +kernel, by decide +kernel, by decide +kernel, by decide +kernel, by decide +kernel, by decide +kernel, by decide +kernel, by decide +kernel, by decide +kernel, by decide +kernel, by decide +kernel, by decide +kernel, by decide +kernel, jelt_262, wC_row, by decide +kernel, by decide +kernel, by decide +kernel, by decide +kernel, by decide +kernel, by decide +kernel⟩
  · exact ⟨by decide +kernel, by decide +kernel, by decide +kernel, by decide +kernel, by decide +kernel, by decide +kernel, by decide +kernel, by decide +kernel, by decide +kernel, by decide +kernel, by decide +kernel, by decide +kernel, by decide +kernel, by decide +kernel, by decide +kernel, by decide +kernel, by decide +kernel, jelt_290, wT_row, by decide +kernel, by decide +kernel, by decide +kernel, by decide +kernel, by decide +kernel, by decide +kernel⟩
/-- the values of the places, none where a room is refused -/
def cW (σ : jM) (b i r : Nat) : Option Nat := if σ.1 (b + 3 + i) r = -1 then none else some (σ.1 (b + 3 + i) r).toNatClampNeg
def cM (σ : jM) (b : Nat) : Nat := (σ.1 b 0).toNatClampNeg
def cR (σ : jM) (b : Nat) : Nat := (σ.1 b 1).toNatClampNeg
def cOK (σ : jM) (b : Nat) : Prop := (0 ≤ σ.1 b 0 ∧ σ.1 b 0 ≤ 6) ∧ (0 ≤ σ.1 b 1 ∧ σ.1 b 1 ≤ 6) ∧ ∀ i, i < cM σ b → ∀ r, r < cR σ b → σ.1 (b + 3 + i) r = -1 ∨ (0 ≤ σ.1 (b + 3 + i) r ∧ σ.1 (b + 3 + i) r ≤ 1000000)
theorem cOK_n {σ : jM} {b : Nat} (h : cOK σ b) : cM σ b ≤ 6 ∧ σ.1 b 0 = nI (cM σ b) ∧ cR σ b ≤ 6 ∧ σ.1 b 1 = nI (cR σ b) := by
  obtain ⟨x, a1, a2, a3⟩ := nI_rng h.1.1 h.1.2 (by decide)
  obtain ⟨y, b1, b2, b3⟩ := nI_rng h.2.1.1 h.2.1.2 (by decide)
  unfold cM cR
  rw [a3, b3]
  exact ⟨a1, a2, b1, b2⟩
theorem cOK_w {σ : jM} {b i r : Nat} (h : cOK σ b) (hi : i < cM σ b) (hr : r < cR σ b) : (σ.1 (b + 3 + i) r = -1 ∧ cW σ b i r = none) ∨ ∃ v, v ≤ 1000000 ∧ σ.1 (b + 3 + i) r = nI v ∧ ¬ σ.1 (b + 3 + i) r = -1 ∧ cW σ b i r = some v := by
  rcases h.2.2 i hi r hr with e | ⟨e1, e2⟩
  · exact Or.inl ⟨e, by unfold cW; rw [if_pos e]⟩
  · obtain ⟨v, v1, v2, v3⟩ := nI_rng e1 e2 (by decide)
    have hn : ¬ σ.1 (b + 3 + i) r = -1 := fun z => by rw [z] at e1; exact not_m1 e1
    exact Or.inr ⟨v, v1, v2, hn, by unfold cW; rw [if_neg hn, v3]⟩
def aSo (b a j : Nat) : Bool := a == b + 9 || a == b + 10 || a == b + 11
/-- values in the rooms that are there, of the places that are there -/
def cWr (σ : jM) (b i r : Nat) : Option Nat := if i < cM σ b ∧ r < cR σ b then cW σ b i r else none
theorem cWr_le {σ : jM} {b : Nat} (h : cOK σ b) (i r v : Nat) (e : cWr σ b i r = some v) : v ≤ 1000000 := by
  unfold cWr at e
  by_cases c : i < cM σ b ∧ r < cR σ b
  · rw [if_pos c] at e
    rcases cOK_w h c.1 c.2 with ⟨-, q⟩ | ⟨w, q1, -, -, q2⟩
    · rw [q] at e; cases e
    · rw [q2] at e; cases e; exact q1
  · rw [if_neg c] at e; cases e
def cD (σ : jM) (b t : Nat) : qC := dpv (cWr σ b) (cR σ b) (cM σ b) t
def cT (σ : jM) (b i t r : Nat) : qC := dpT (cWr σ b) (cR σ b) (cM σ b) i t r
theorem cD_bd {σ : jM} {b t : Nat} (h : cOK σ b) {a : Nat × Nat × (Nat → Nat)} (e : cD σ b t = some a) : a.1 ≤ 6000000 ∧ a.2.1 ≤ 46656 ∧ 0 < a.2.1 := by
  obtain ⟨m6, -, r6, -⟩ := cOK_n h
  unfold cD dpv at e
  by_cases c : pop t ≤ cM σ b
  · rw [if_pos c] at e
    have := qT_bd r6 (fun i r v q => cWr_le h i r v q) _ _ _ a e
    have h1 : 1000000 * (cM σ b - pop t) ≤ 1000000 * 6 := Nat.mul_le_mul_left _ (by omega)
    have h2 : 6 ^ (cM σ b - pop t) ≤ 6 ^ 6 := Nat.pow_le_pow_right (by decide) (by omega)
    have h3 : (6 : Nat) ^ 6 = 46656 := by decide
    omega
  · rw [if_neg c] at e; cases e
theorem cT_eq {σ : jM} {b i t r : Nat} (hm : i < cM σ b) (hr : r < cR σ b) (hr6 : cR σ b ≤ 6) (ht : t < 64) (hp : pop t = i) : cT σ b i t r = match cW σ b i r with
    | none => none
    | some v => if t.testBit r then none else qS v i r (cD σ b (t ||| 1 <<< r)) := by
  have ew : cWr σ b i r = cW σ b i r := if_pos ⟨hm, hr⟩
  unfold cT dpT
  rw [ew]
  rcases cW σ b i r with _ | v
  · rfl
  · dsimp only
    by_cases c : t.testBit r = true
    · rw [if_pos c, if_pos c]
    · rw [if_neg c, if_neg c]
      have := pop_or ht (by omega) c
      unfold cD dpv
      rw [this, hp, if_pos (by omega)]
      rw [show cM σ b - (i + 1) = cM σ b - i - 1 by omega]
/-- the best of the sets from t on stand -/
def cLd (σ : jM) (b t : Nat) : Prop := ∀ u, t ≤ u → u < 2 ^ cR σ b → σ.1 (b + 10) u = qs (cD σ b u) ∧ σ.1 (b + 11) u = qc (cD σ b u)
def preS (σ : jM) (b : Nat) (x y z : Int32) : Prop := ∃ t i r, x = nI t ∧ y = nI i ∧ z = nI r ∧ t < 2 ^ cR σ b ∧ i < cM σ b ∧ r < cR σ b ∧ pop t = i ∧ (∀ u, t < u → u < 2 ^ cR σ b → σ.1 (b + 10) u = qs (cD σ b u))
def oX1_sumWith : jO := joRIII fun b x y z σ => (chF b ∧ cOK σ b ∧ preS σ b x y z, fun v τ => v = some (.int (qs (cT σ b y.toNatClampNeg x.toNatClampNeg z.toNatClampNeg))) ∧ τ = σ)
set_option maxRecDepth 100000 in
set_option maxHeartbeats 4000000 in
theorem CX1_sumWith (g : jG) (n : Nat) : jOk g (n + 0) mX1_sumWith oX1_sumWith := by
  refine joRIII_ok ?_
  rintro b _ _ _ σ ⟨hF, hok, t, i, r, rfl, rfl, rfl, ht, hi, hr, hpt, hbest⟩
  obtain ⟨m6, em, r6, eR⟩ := cOK_n hok
  have h64 : 2 ^ cR σ b ≤ 2 ^ 6 := Nat.pow_le_pow_right (by decide) r6
  obtain ⟨o1, o2, o3⟩ := or_bit r6 ht hr
  obtain ⟨p1, p2, p3⟩ := bit_t (t := t) (r := r) (by omega) (by omega)
  obtain ⟨-, -, -, -, -, f5, f6, -, -, f9, f10, -, -, -, -, f15, f16, f17, f18, -, -, f21, f22, -, -⟩ := hF
  obtain ⟨f19, f20⟩ := f18 i (by omega)
  have ect : (nI t).toNatClampNeg = t := nI_clamp (by omega)
  have eci : (nI i).toNatClampNeg = i := nI_clamp (by omega)
  have ecr : (nI r).toNatClampNeg = r := nI_clamp (by omega)
  have ji : jin (nI i) 6 := jin_nI (by omega) (by decide)
  have jr : jin (nI r) 6 := jin_nI (by omega) (by decide)
  obtain ⟨u, eu⟩ : ∃ u, u = t ||| 1 <<< r := ⟨_, rfl⟩
  rw [← eu] at p2 p3 o1 o2 o3
  have ecu : (nI u).toNatClampNeg = u := nI_clamp (by omega)
  have ju : jin (nI u) 64 := jin_nI p3 (by decide)
  have equ : nI u = nI t ↔ u = t := nI_eq (by omega) (by omega)
  have eT := cT_eq (σ := σ) (b := b) (i := i) (t := t) (r := r) hi hr r6 (by omega) hpt
  rw [← eu] at eT
  by_cases c1 : u = t
  · have c1' := equ.mpr c1
    have hb := o1.mp c1
    have fin : qs (cT σ b i t r) = -1 := by
      rw [eT]
      rcases cW σ b i r with _ | v
      · rfl
      · dsimp only; rw [if_pos hb]; rfl
    refine jCon.ofP (by decide +kernel) (by simp [lg_sl, Value.category]) (fun post hp => ?_)
    refine jvk_ok TX1_sumWith (V := []) (S := []) (fun _ h => absurd h List.not_mem_nil) (fun _ h => absurd h List.not_mem_nil) [] 40 _ _ _ _ ?_
    simp (maxSteps := 1000000) [↓Bool.cond_eq_ite, -Prod.forall, -Prod.exists, -Prod.mk.injEq, jvk, tX1_sumWith, jtb, jol, jst, jlk, jcmp, jbin, jfl, fX1, jc2, lX1, jcat, jel, lv_args, Value.category, jins, jsrt, jins2, jble, jblt, jf3, List.filter_cons, List.filter_nil, G_choice, G_tchoice, G_flat, -Int32.not_le, -Int32.not_lt, -Int64.not_le, -Int64.not_lt, i3lt, i6lt, p2, c1']
    try simp (disch := omega) [-Prod.forall, -Prod.exists, -Prod.mk.injEq, -Int32.not_le, -Int32.not_lt, -Int64.not_le, -Int64.not_lt, i3lt, i6lt, p2, c1']
    exact hp _ _ ⟨by rw [ect, eci, ecr, fin], rfl⟩
  · have c1' : ¬ nI u = nI t := fun z => c1 (equ.mp z)
    have hb : ¬ t.testBit r = true := fun z => c1 (o1.mpr z)
    rcases cOK_w hok hi hr with ⟨w1, w2⟩ | ⟨v, v1, v2, v3, v4⟩
    · have fin : qs (cT σ b i t r) = -1 := by rw [eT, w2]; rfl
      refine jCon.ofP (by decide +kernel) (by simp [lg_sl, Value.category]) (fun post hp => ?_)
      refine jvk_ok TX1_sumWith (V := []) (S := []) (fun _ h => absurd h List.not_mem_nil) (fun _ h => absurd h List.not_mem_nil) [] 40 _ _ _ _ ?_
      simp (maxSteps := 1000000) [↓Bool.cond_eq_ite, -Prod.forall, -Prod.exists, -Prod.mk.injEq, jvk, tX1_sumWith, jtb, jol, jst, jlk, jcmp, jbin, jfl, fX1, jc2, lX1, jcat, jel, lv_args, Value.category, jins, jsrt, jins2, jble, jblt, jf3, List.filter_cons, List.filter_nil, G_choice, G_tchoice, G_flat, -Int32.not_le, -Int32.not_lt, -Int64.not_le, -Int64.not_lt, i3lt, i6lt, p2, c1', f5, f6, f15, f16, f17, f19, f20, ji, jr, eci, ecr, w1]
      try simp (disch := omega) [-Prod.forall, -Prod.exists, -Prod.mk.injEq, -Int32.not_le, -Int32.not_lt, -Int64.not_le, -Int64.not_lt, i3lt, i6lt, p2, c1', f5, f6, f15, f16, f17, f19, f20, ji, jr, eci, ecr, w1]
      exact hp _ _ ⟨by rw [ect, eci, ecr, fin], rfl⟩
    · have ebu := hbest u (by omega) o2
      have v3' : ¬ nI v = -1 := fun z => (nI_m1 (by omega)).mp z
      rcases eD : cD σ b u with _ | a
      · have fin : qs (cT σ b i t r) = -1 := by rw [eT, v4]; dsimp only; rw [if_neg hb, eD]; rfl
        rw [eD] at ebu
        have ebu : σ.1 (b + 10) u = -1 := ebu
        refine jCon.ofP (by decide +kernel) (by simp [lg_sl, Value.category]) (fun post hp => ?_)
        refine jvk_ok TX1_sumWith (V := []) (S := []) (fun _ h => absurd h List.not_mem_nil) (fun _ h => absurd h List.not_mem_nil) [] 60 _ _ _ _ ?_
        simp (maxSteps := 1000000) [↓Bool.cond_eq_ite, -Prod.forall, -Prod.exists, -Prod.mk.injEq, jvk, tX1_sumWith, jtb, jol, jst, jlk, jcmp, jbin, jfl, fX1, jc2, lX1, jcat, jel, lv_args, Value.category, jins, jsrt, jins2, jble, jblt, jf3, List.filter_cons, List.filter_nil, G_choice, G_tchoice, G_flat, -Int32.not_le, -Int32.not_lt, -Int64.not_le, -Int64.not_lt, i3lt, i6lt, p2, c1', f5, f6, f9, f10, f15, f16, f17, f19, f20, f21, f22, ji, jr, ju, eci, ecr, ecu, v2, v3', ebu]
        try simp (disch := omega) [-Prod.forall, -Prod.exists, -Prod.mk.injEq, -Int32.not_le, -Int32.not_lt, -Int64.not_le, -Int64.not_lt, i3lt, i6lt, p2, c1', f5, f6, f9, f10, f15, f16, f17, f19, f20, f21, f22, ji, jr, ju, eci, ecr, ecu, v2, v3', ebu]
        exact hp _ _ ⟨by rw [ect, eci, ecr, fin], rfl⟩
      · have hbd := cD_bd hok eD
        have fin : qs (cT σ b i t r) = nI (v + a.1) := by rw [eT, v4]; dsimp only; rw [if_neg hb, eD]; show nI (a.1 + v) = _; rw [Nat.add_comm]
        rw [eD] at ebu
        have ebu : σ.1 (b + 10) u = nI a.1 := ebu
        have a3 : ¬ nI a.1 = -1 := fun z => (nI_m1 (by omega)).mp z
        have eadd : nI v + nI a.1 = nI (v + a.1) := nI_add _ _
        refine jCon.ofP (by decide +kernel) (by simp [lg_sl, Value.category]) (fun post hp => ?_)
        refine jvk_ok TX1_sumWith (V := []) (S := []) (fun _ h => absurd h List.not_mem_nil) (fun _ h => absurd h List.not_mem_nil) [] 60 _ _ _ _ ?_
        simp (maxSteps := 1000000) [↓Bool.cond_eq_ite, -Prod.forall, -Prod.exists, -Prod.mk.injEq, jvk, tX1_sumWith, jtb, jol, jst, jlk, jcmp, jbin, jfl, fX1, jc2, lX1, jcat, jel, lv_args, Value.category, jins, jsrt, jins2, jble, jblt, jf3, List.filter_cons, List.filter_nil, G_choice, G_tchoice, G_flat, -Int32.not_le, -Int32.not_lt, -Int64.not_le, -Int64.not_lt, i3lt, i6lt, p2, c1', f5, f6, f9, f10, f15, f16, f17, f19, f20, f21, f22, ji, jr, ju, eci, ecr, ecu, v2, v3', ebu, a3, eadd]
        try simp (disch := omega) [-Prod.forall, -Prod.exists, -Prod.mk.injEq, -Int32.not_le, -Int32.not_lt, -Int64.not_le, -Int64.not_lt, i3lt, i6lt, p2, c1', f5, f6, f9, f10, f15, f16, f17, f19, f20, f21, f22, ji, jr, ju, eci, ecr, ecu, v2, v3', ebu, a3, eadd]
        exact hp _ _ ⟨by rw [ect, eci, ecr, fin], rfl⟩
