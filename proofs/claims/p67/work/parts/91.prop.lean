/-! Proposal: gains, lows and highs -/
def oX6_exists : jO := joR fun a σ => (a = 259 ∧ cOK σ 260, fun v τ => v = some (.int (if 0 < cM σ 260 ∧ ¬ σ.1 270 0 = -1 then 1 else 0)) ∧ τ = σ)
set_option maxRecDepth 100000 in
set_option maxHeartbeats 4000000 in
theorem CX6_exists (g : jG) (n : Nat) : jOk g (n + 1) mX6_exists oX6_exists := by
  refine joR_ok ?_
  rintro _ σ ⟨rfl, hok⟩
  have hF := chF_of (b := 260) (Or.inl rfl)
  refine jCon.ofP (by decide +kernel) (by simp [lg_sl, Value.category]) (fun post hp => ?_)
  refine jvk_ok TX6_exists (V := [(87, 1, 1, oX1_exists)]) (S := []) (List.forall_mem_cons.mpr ⟨⟨mX1_exists, n + 0, 0, TX1, 7, rfl, by omega, kX6_87, WX1_exists, rfl, CX1_exists g (n)⟩, (fun _ h => absurd h List.not_mem_nil)⟩) (fun _ h => absurd h List.not_mem_nil) [] 20 _ _ _ _ ?_
  simp (maxSteps := 1000000) [↓Bool.cond_eq_ite, -Prod.forall, -Prod.exists, -Prod.mk.injEq, jvk, tX6_exists, jtb, jol, jst, jlk, jcmp, jbin, jfl, fX6, jc2, lX6, jcat, jel, lv_args, Value.category, jins, jsrt, jins2, jble, jblt, jf3, List.filter_cons, List.filter_nil, G_prop, G_choice, G_flat, oX1_exists, joR, -Int32.not_le, -Int32.not_lt, -Int64.not_le, -Int64.not_lt, i3lt, i6lt, hF, hok]
  try simp (disch := omega) [-Prod.forall, -Prod.exists, -Prod.mk.injEq, -Int32.not_le, -Int32.not_lt, -Int64.not_le, -Int64.not_lt, i3lt, i6lt, hF, hok]
  refine ⟨?_, hp _ _ ⟨rfl, rfl⟩⟩
  by_cases c : 0 < cM σ 260 ∧ ¬ σ.1 270 0 = -1
  · exact Or.inr c
  · exact Or.inl (fun h => Classical.byContradiction (fun w => c ⟨h, w⟩))
def gaN (σ : jM) (p q : Nat) : Int32 := if woR σ 260 p q = -1 then -2000000000 else 120 * (woR σ 260 p q - woR σ 260 p p)
def oX6_gain : jO := joRII fun a x y σ => (a = 259 ∧ cOK σ 260 ∧ jin x 6 ∧ jin y 6, fun v τ => v = some (.int (gaN σ x.toNatClampNeg y.toNatClampNeg)) ∧ τ = σ)
set_option maxRecDepth 100000 in
set_option maxHeartbeats 4000000 in
theorem CX6_gain (g : jG) (n : Nat) : jOk g (n + 1) mX6_gain oX6_gain := by
  refine joRII_ok ?_
  rintro _ x y σ ⟨rfl, hok, hx, hy⟩
  have hF := chF_of (b := 260) (Or.inl rfl)
  refine jCon.ofP (by decide +kernel) (by simp [lg_sl, Value.category]) (fun post hp => ?_)
  refine jvk_ok TX6_gain (V := [(88, 3, 1, oX1_worthOfRoom)]) (S := []) (List.forall_mem_cons.mpr ⟨⟨mX1_worthOfRoom, n + 0, 2, TX1, 7, rfl, by omega, kX6_88, WX1_worthOfRoom, rfl, CX1_worthOfRoom g (n)⟩, (fun _ h => absurd h List.not_mem_nil)⟩) (fun _ h => absurd h List.not_mem_nil) [9] 30 _ _ _ _ ?_
  simp (maxSteps := 1000000) [↓Bool.cond_eq_ite, -Prod.forall, -Prod.exists, -Prod.mk.injEq, jvk, tX6_gain, jtb, jol, jst, jlk, jcmp, jbin, jfl, fX6, jc2, lX6, jcat, jel, lv_args, Value.category, jins, jsrt, jins2, jble, jblt, jf3, List.filter_cons, List.filter_nil, G_prop, G_choice, G_flat, oX1_worthOfRoom, joRII, -Int32.not_le, -Int32.not_lt, -Int64.not_le, -Int64.not_lt, i3lt, i6lt, hF, hok, hx, hy]
  try simp (disch := omega) [-Prod.forall, -Prod.exists, -Prod.mk.injEq, -Int32.not_le, -Int32.not_lt, -Int64.not_le, -Int64.not_lt, i3lt, i6lt, hF, hok, hx, hy]
  by_cases c : woR σ 260 x.toNatClampNeg y.toNatClampNeg = -1
  · refine jvk_ok TX6_gain (V := [(88, 3, 1, oX1_worthOfRoom)]) (S := []) (List.forall_mem_cons.mpr ⟨⟨mX1_worthOfRoom, n + 0, 2, TX1, 7, rfl, by omega, kX6_88, WX1_worthOfRoom, rfl, CX1_worthOfRoom g (n)⟩, (fun _ h => absurd h List.not_mem_nil)⟩) (fun _ h => absurd h List.not_mem_nil) [] 30 _ _ _ _ ?_
    simp (maxSteps := 1000000) [↓Bool.cond_eq_ite, -Prod.forall, -Prod.exists, -Prod.mk.injEq, jvk, tX6_gain, jtb, jol, jst, jlk, jcmp, jbin, jfl, fX6, jc2, lX6, jcat, jel, lv_args, Value.category, jins, jsrt, jins2, jble, jblt, jf3, List.filter_cons, List.filter_nil, G_prop, G_choice, G_flat, oX1_worthOfRoom, joRII, -Int32.not_le, -Int32.not_lt, -Int64.not_le, -Int64.not_lt, i3lt, i6lt, c]
    try simp (disch := omega) [-Prod.forall, -Prod.exists, -Prod.mk.injEq, -Int32.not_le, -Int32.not_lt, -Int64.not_le, -Int64.not_lt, i3lt, i6lt, c]
    exact hp _ _ ⟨by unfold gaN; rw [if_pos c], rfl⟩
  · refine jvk_ok TX6_gain (V := [(88, 3, 1, oX1_worthOfRoom)]) (S := []) (List.forall_mem_cons.mpr ⟨⟨mX1_worthOfRoom, n + 0, 2, TX1, 7, rfl, by omega, kX6_88, WX1_worthOfRoom, rfl, CX1_worthOfRoom g (n)⟩, (fun _ h => absurd h List.not_mem_nil)⟩) (fun _ h => absurd h List.not_mem_nil) [32] 30 _ _ _ _ ?_
    simp (maxSteps := 1000000) [↓Bool.cond_eq_ite, -Prod.forall, -Prod.exists, -Prod.mk.injEq, jvk, tX6_gain, jtb, jol, jst, jlk, jcmp, jbin, jfl, fX6, jc2, lX6, jcat, jel, lv_args, Value.category, jins, jsrt, jins2, jble, jblt, jf3, List.filter_cons, List.filter_nil, G_prop, G_choice, G_flat, oX1_worthOfRoom, joRII, -Int32.not_le, -Int32.not_lt, -Int64.not_le, -Int64.not_lt, i3lt, i6lt, c, hF, hok, hx]
    try simp (disch := omega) [-Prod.forall, -Prod.exists, -Prod.mk.injEq, -Int32.not_le, -Int32.not_lt, -Int64.not_le, -Int64.not_lt, i3lt, i6lt, c, hF, hok, hx]
    refine jvk_ok TX6_gain (V := [(88, 3, 1, oX1_worthOfRoom)]) (S := []) (List.forall_mem_cons.mpr ⟨⟨mX1_worthOfRoom, n + 0, 2, TX1, 7, rfl, by omega, kX6_88, WX1_worthOfRoom, rfl, CX1_worthOfRoom g (n)⟩, (fun _ h => absurd h List.not_mem_nil)⟩) (fun _ h => absurd h List.not_mem_nil) [] 10 _ _ _ _ ?_
    simp (maxSteps := 1000000) [↓Bool.cond_eq_ite, -Prod.forall, -Prod.exists, -Prod.mk.injEq, jvk, tX6_gain, jtb, jol, jst, jlk, jcmp, jbin, jfl, fX6, jc2, lX6, jcat, jel, lv_args, Value.category, jins, jsrt, jins2, jble, jblt, jf3, List.filter_cons, List.filter_nil, G_prop, G_choice, G_flat, oX1_worthOfRoom, joRII, -Int32.not_le, -Int32.not_lt, -Int64.not_le, -Int64.not_lt, i3lt, i6lt]
    try simp (disch := omega) [-Prod.forall, -Prod.exists, -Prod.mk.injEq, -Int32.not_le, -Int32.not_lt, -Int64.not_le, -Int64.not_lt, i3lt, i6lt]
    exact hp _ _ ⟨by unfold gaN; rw [if_neg c], rfl⟩
/-- the choice of the proposal is there -/
def prH (σ : jM) : Prop := cOK σ 260 ∧ cV σ 260 ∧ 0 < cM σ 260 ∧ ∃ a, cD σ 260 0 = some a ∧ σ.1 270 0 = nI a.1 ∧ ∀ j, j < cM σ 260 → σ.1 269 j = nI (a.2.2 j)
def prA (σ : jM) : Nat → Nat := match cD σ 260 0 with
  | none => fun _ => 0
  | some a => a.2.2
def prLo (σ : jM) : Nat → Int := gLo (cWr σ 260) (prA σ) (cM σ 260)
def prHi (σ : jM) : Nat → Int := gHi (cWr σ 260) (prA σ) (cM σ 260)
def prE (σ : jM) : Nat → Nat → Bool := gE (cWr σ 260) (prA σ)
def prG (σ : jM) : Nat → Nat → Int := gG (cWr σ 260) (prA σ)
theorem prH_all {σ : jM} (h : prH σ) : (∀ j, j < cM σ 260 → prA σ j < cR σ 260 ∧ (cWr σ 260 j (prA σ j)).isSome = true ∧ σ.1 269 j = nI (prA σ j)) ∧ (∀ i j, i < cM σ 260 → j < cM σ 260 → prA σ i = prA σ j → i = j) ∧ cM σ 260 ≤ cR σ 260 ∧ sol (cM σ 260) (prE σ) (prG σ) (prLo σ) ∧ sol (cM σ 260) (fun p q => prE σ q p) (fun p q => prG σ q p) (prHi σ) := by
  obtain ⟨hok, hV, hm, a, ha, -, h9⟩ := h
  obtain ⟨-, -, r6, -⟩ := cOK_n hok
  have eA : prA σ = a.2.2 := by unfold prA; rw [ha]
  rw [cD_0] at ha
  obtain ⟨h1, h2, h3, h4, h5⟩ := qT_best r6 ha
  unfold prLo prHi prE prG
  rw [eA]
  exact ⟨fun j hj => ⟨(h1 j hj).1, (h1 j hj).2, h9 j hj⟩, h2, h3, h4, h5⟩
theorem pr_wo {σ : jM} (h : prH σ) {p q : Nat} (hp : p < cM σ 260) (hq : q < cM σ 260) : woR σ 260 p q = oV (cWr σ 260 p (prA σ q)) := by
  obtain ⟨h1, -, -, -, -⟩ := prH_all h
  obtain ⟨a1, -, a3⟩ := h1 q hq
  obtain ⟨m6, em, r6, eR⟩ := cOK_n h.1
  have c : 0 ≤ σ.1 (260 + 9) q ∧ σ.1 (260 + 9) q < σ.1 260 1 := by
    show 0 ≤ σ.1 269 q ∧ σ.1 269 q < σ.1 260 1
    rw [a3, eR]
    exact ⟨nI_pos' (by omega), (nI_ltI (by omega) (by omega)).mpr a1⟩
  have e9 : (σ.1 (260 + 9) q).toNatClampNeg = prA σ q := by
    show (σ.1 269 q).toNatClampNeg = prA σ q
    rw [a3, nI_clamp (by omega)]
  unfold woR
  rw [if_pos c, e9]
  have ew : cWr σ 260 p (prA σ q) = cW σ 260 p (prA σ q) := if_pos ⟨hp, a1⟩
  rw [ew]
  rcases cOK_w h.1 hp a1 with ⟨w1, w2⟩ | ⟨v, v1, v2, -, v4⟩
  · rw [w1, w2]; rfl
  · rw [v2, v4]; rfl
/-- a pair that counts: what its gain is -/
theorem pr_ga {σ : jM} (h : prH σ) {p q : Nat} (hp : p < cM σ 260) (hq : q < cM σ 260) : (cWr σ 260 p (prA σ q) = none ∧ gaN σ p q = -2000000000) ∨ ((cWr σ 260 p (prA σ q)).isSome = true ∧ gaN σ p q = iI (prG σ p q) ∧ ¬ gaN σ p q = -2000000000 ∧ -1199880 ≤ prG σ p q ∧ prG σ p q ≤ 1199880) := by
  have all := prH_all h
  have w1 := pr_wo h hp hq
  have w2 := pr_wo h hp hp
  obtain ⟨v0, e0⟩ : ∃ v, cWr σ 260 p (prA σ p) = some v := Option.isSome_iff_exists.mp (all.1 p hp).2.1
  rcases e : cWr σ 260 p (prA σ q) with _ | v
  · refine Or.inl ⟨rfl, ?_⟩
    unfold gaN
    rw [w1, e]
    exact if_pos rfl
  · have hv := h.2.1 _ _ _ e
    have hv0 := h.2.1 _ _ _ e0
    have n1 : ¬ nI v = -1 := fun z => (nI_m1 (by omega)).mp z
    have eG : prG σ p q = 120 * ((v : Int) - v0) := by
      unfold prG gG gw gF
      rw [e, e0]
      rfl
    have eN : gaN σ p q = iI (prG σ p q) := by
      unfold gaN
      rw [w1, w2, e, e0]
      have : oV (some v) = nI v := rfl
      rw [this, if_neg n1, eG]
      show 120 * (nI v - nI v0) = _
      rw [← iI_nat, ← iI_nat, iI_sub]
      exact iI_mul 120 _
    refine Or.inr ⟨rfl, eN, ?_, by omega, by omega⟩
    rw [eN]
    intro z
    have z2 := congrArg Int32.toInt z
    rw [iI_toInt ⟨by omega, by omega⟩] at z2
    have : ((-2000000000 : Int32)).toInt = -2000000000 := by decide
    omega
/-- cells of the choice are as they were -/
theorem prH_fr {σ τ : jM} (e : ∀ c, 260 ≤ c → c ≤ 271 → τ.1 c = σ.1 c) : cM τ 260 = cM σ 260 ∧ cR τ 260 = cR σ 260 ∧ (cOK σ 260 → cOK τ 260 ∧ cWr τ 260 = cWr σ 260) := by
  have eM : cM τ 260 = cM σ 260 := by unfold cM; rw [e 260 (by omega) (by omega)]
  have eR : cR τ 260 = cR σ 260 := by unfold cR; rw [e 260 (by omega) (by omega)]
  refine ⟨eM, eR, fun h => ?_⟩
  obtain ⟨m6, -, -, -⟩ := cOK_n h
  refine ⟨?_, ?_⟩
  · unfold cOK at h ⊢
    rw [e 260 (by omega) (by omega), eM, eR]
    refine ⟨h.1, h.2.1, fun i hi r hr => ?_⟩
    rw [e (260 + 3 + i) (by omega) (by omega)]
    exact h.2.2 i hi r hr
  · funext i r
    have e1 : cWr τ 260 i r = if i < cM σ 260 ∧ r < cR σ 260 then cW τ 260 i r else none := by unfold cWr; rw [eM, eR]
    have e2 : cWr σ 260 i r = if i < cM σ 260 ∧ r < cR σ 260 then cW σ 260 i r else none := rfl
    rw [e1, e2]
    by_cases d : i < cM σ 260 ∧ r < cR σ 260
    · rw [if_pos d, if_pos d]
      unfold cW
      rw [e (260 + 3 + i) (by omega) (by omega)]
    · rw [if_neg d, if_neg d]
theorem prH_same {σ τ : jM} (h : prH σ) (e : ∀ c, 260 ≤ c → c ≤ 271 → τ.1 c = σ.1 c) : prH τ ∧ cM τ 260 = cM σ 260 ∧ cWr τ 260 = cWr σ 260 ∧ prA τ = prA σ ∧ prLo τ = prLo σ ∧ prHi τ = prHi σ ∧ prE τ = prE σ ∧ prG τ = prG σ := by
  obtain ⟨f1, f2, f3⟩ := prH_fr e
  obtain ⟨f4, f5⟩ := f3 h.1
  have eD : cD τ 260 0 = cD σ 260 0 := by rw [cD_0, cD_0, f1, f2, f5]
  have eA : prA τ = prA σ := by unfold prA; rw [eD]
  refine ⟨⟨f4, ?_, by rw [f1]; exact h.2.2.1, ?_⟩, f1, f5, eA, ?_, ?_, ?_, ?_⟩
  · unfold cV
    rw [f5]
    exact h.2.1
  · rw [eD, e 270 (by omega) (by omega), e 269 (by omega) (by omega), f1]
    exact h.2.2.2
  · unfold prLo; rw [f5, eA, f1]
  · unfold prHi; rw [f5, eA, f1]
  · unfold prE; rw [f5, eA]
  · unfold prG; rw [f5, eA]
/-- a sweep over the pairs: what has been done is in D -/
def swI (m : Nat) (E : Nat → Nat → Bool) (G : Nat → Nat → Int) (lo x x' : Nat → Int) (c : Nat) (D : Nat → Nat → Prop) : Prop := (∀ k, k < m → 0 ≤ x k ∧ x k ≤ x' k ∧ x' k ≤ lo k) ∧ (∀ s t, s < m → t < m → D s t → E s t = true → x s + G s t ≤ x' t) ∧ (c = 0 → ∀ k, k < m → x' k = x k) ∧ (c = 0 ∨ c = 1)
theorem swI_skip {m : Nat} {E : Nat → Nat → Bool} {G : Nat → Nat → Int} {lo x x' : Nat → Int} {c p q : Nat} {D D' : Nat → Nat → Prop} (hD : ∀ s t, D' s t → D s t ∨ s = p ∧ t = q) (h : swI m E G lo x x' c D) (hn : E p q = true → x p + G p q ≤ x' q) : swI m E G lo x x' c D' :=
  ⟨h.1, fun s t h1 h2 h3 h4 => by
    rcases hD s t h3 with e | e
    · exact h.2.1 s t h1 h2 e h4
    · rw [e.1, e.2] at h4 ⊢; exact hn h4, h.2.2⟩
theorem swI_set {m : Nat} {E : Nat → Nat → Bool} {G : Nat → Nat → Int} {lo x x' : Nat → Int} {c p q : Nat} {D D' : Nat → Nat → Prop} (hD : ∀ s t, D' s t → D s t ∨ s = p ∧ t = q) (hlo : sol m E G lo) (h : swI m E G lo x x' c D) (hp : p < m) (hq : q < m) (he : E p q = true) (hc : x' q < x' p + G p q) : swI m E G lo x (fun k => if k = q then x' p + G p q else x' k) 1 D' := by
  have h0 := hlo.2 p q hp hq he
  have hxp := h.1 p hp
  have hxq := h.1 q hq
  refine ⟨fun k hk => ?_, fun s t h1 h2 h3 h4 => ?_, fun z => by omega, Or.inr rfl⟩
  · have := h.1 k hk
    try dsimp only
    by_cases e : k = q
    · rw [if_pos e]; subst e; omega
    · rw [if_neg e]; omega
  · dsimp only
    rcases hD s t h3 with d | d
    · have := h.2.1 s t h1 h2 d h4
      by_cases e : t = q
      · rw [if_pos e]; subst e; omega
      · rw [if_neg e]; exact this
    · rw [d.1, d.2, if_pos rfl]; omega
/-- after a sweep: as far as one step more, and where nothing was raised, the end -/
theorem swI_up {m : Nat} {E : Nat → Nat → Bool} {G : Nat → Nat → Int} {lo x x' : Nat → Int} {c k : Nat} {D : Nat → Nat → Prop} (hD : ∀ s t, s < m → t < m → D s t) (h : swI m E G lo x x' c D) (hk : ∀ q, q < m → wF m E G k q ≤ x q) : ∀ q, q < m → wF m E G (k + 1) q ≤ x' q := by
  intro q hq
  simp only [wF]
  rcases mx_is (fun p => wF m E G k p + G p q) (fun p => E p q) (wF m E G k q) m with e | ⟨p, hp, he, e⟩
  · rw [e]
    have := hk q hq
    have := h.1 q hq
    omega
  · rw [e]
    have h1 := h.2.1 p q hp hq (hD p q hp hq) he
    have := hk p hp
    try dsimp only
    omega
theorem swI_end {m : Nat} {E : Nat → Nat → Bool} {G : Nat → Nat → Int} {x x' : Nat → Int} {K : Nat} {D : Nat → Nat → Prop} (hD : ∀ s t, s < m → t < m → D s t) (h : swI m E G (wF m E G K) x x' 0 D) : ∀ q, q < m → x' q = wF m E G K q := by
  have e := h.2.2.1 rfl
  have s : sol m E G x := ⟨fun q hq => (h.1 q hq).1, fun p q hp hq he => by
    have := h.2.1 p q hp hq (hD p q hp hq) he
    rw [e q hq] at this
    exact this⟩
  intro q hq
  have h1 := wF_le s K q hq
  have h2 := h.1 q hq
  rw [e q hq] at h2 ⊢
  omega
def dLo (p q s t : Nat) : Prop := s < p ∨ s = p ∧ t < q
def dHi (p q s t : Nat) : Prop := t < p ∨ t = p ∧ s < q
theorem wF_up {m : Nat} {E : Nat → Nat → Bool} {G : Nat → Nat → Int} (k : Nat) : ∀ d q, wF m E G k q ≤ wF m E G (k + d) q
  | 0, _ => Int.le_refl _
  | d + 1, q => Int.le_trans (wF_up k d q) (wF_mono m E G (k + d) q)
theorem pr_bd {σ : jM} (h : prH σ) {k : Nat} (hk : k < cM σ 260) : prLo σ k ≤ 5999400 ∧ prHi σ k ≤ 5999400 ∧ 0 ≤ prLo σ k ∧ 0 ≤ prHi σ k := by
  have all := prH_all h
  have := gLo_bd (W := cWr σ 260) (R := cR σ 260) (m := cM σ 260) (a := prA σ) (fun i r v _ e => h.2.1 i r v e) (fun j hj => (all.1 j hj).1) hk
  exact ⟨this.1, this.2, all.2.2.2.1.1 k hk, all.2.2.2.2.1 k hk⟩
theorem pr_self (σ : jM) (p : Nat) : prG σ p p = 0 := by
  unfold prG gG gw
  omega
theorem pr_E {σ : jM} {p q : Nat} : prE σ p q = true ↔ p ≠ q ∧ (cWr σ 260 p (prA σ q)).isSome = true := by
  unfold prE gE
  simp
