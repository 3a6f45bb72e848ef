/-! persons, rooms: what is told of one of them, or a throw -/
theorem xQ_P {σ τ : jM} (q : xQ σ τ) (x : Int32) : mP τ x = mP σ x := sR_mP q.sR x
theorem xQ_R {σ τ : jM} (q : xQ σ τ) (x : Int32) : mR τ x = mR σ x := sR_mR q.sR x
/-- throws leave all as it was -/
abbrev xE (σ τ : jM) : Prop := τ = σ
theorem xt_e {c : Prop} {σ : jM} {R N K : Nat} (h : xRk σ R N K) : ¬ c → ∀ τ, xE σ τ → xQ σ τ := fun _ τ e => by
  rw [show τ = σ from e]
  exact xQ.rfl h
theorem xv_p {σ : jM} {R N K : Nat} (h : xRk σ R N K) {x : Int32} (c : mP σ x = true) : x.toNatClampNeg < N ∧ x = nI x.toNatClampNeg ∧ N ≤ 10 := by
  obtain ⟨k, k1, k2⟩ := (xv_P h x).2.mp c
  have n10 := h.1.1.2
  have e : x.toNatClampNeg = k := by rw [k2, nI_clamp (by omega)]
  rw [e]
  exact ⟨k1, k2, n10⟩
theorem xv_r {σ : jM} {R N K : Nat} (h : xRk σ R N K) {x : Int32} (c : mR σ x = true) : x.toNatClampNeg < R ∧ x = nI x.toNatClampNeg ∧ R ≤ 6 := by
  obtain ⟨k, k1, k2⟩ := (xv_R h x).2.mp c
  have n10 := h.1.1.1
  have e : x.toNatClampNeg = k := by rw [k2, nI_clamp (by omega)]
  rw [e]
  exact ⟨k1, k2, n10⟩
/-- a person's number read -/
theorem xt_get {oc om : jO} {x : Int32} (a w : Nat) (ha : ∀ σ R N K, xRk σ R N K → ∀ p, p < N → σ.1 a p = mD σ p w)
    (hc : ∀ σ, oc [.ref 0, .int x] σ = ((0 : Nat) = 0 ∧ fP σ x = true, fun v τ => v = some (.int (σ.1 a x.toNatClampNeg)) ∧ τ = σ))
    (hm : ∀ σ, om [.ref 322, .int x] σ = ((322 : Nat) = 322 ∧ mOK σ, fun v τ => v = some (.int (if mP σ x then mD σ x.toNatClampNeg w else 0)) ∧ τ = jup σ 322 11 (if mP σ x then 0 else 1))) : xTw (fun σ => mP σ x = true) xE oc om [.int x] :=
  xT_mk (x := fun σ => σ.1 a x.toNatClampNeg) (y := fun σ => mD σ x.toNatClampNeg w)
    (fun h c => by
      rw [hc]
      exact ⟨⟨rfl, ((xv_P h x).1).trans c⟩, xp1 h⟩)
    (fun h => xt_e h)
    (fun {σ R N K} h => by
      rw [hm]
      exact ⟨⟨rfl, (xv_n h).2.2.2.2.2.1⟩, xp3 h (mP σ x = true) Iff.rfl (fun c => if_pos c)⟩)
    (fun h c => ha _ _ _ _ h _ (xv_p h c).1) (fun q => sR_D q.sR _ _) (fun q => by rw [xQ_P q])
theorem xt_stateOf (x : Int32) : xTw (fun σ => mP σ x = true) xE oX11_stateOf oM_stateOf [.int x] :=
  xt_get 39 0 (fun σ R N K h p hp => ((fl37 h.2.1.1).2.2.1 p (by have := h.1.1.2; omega)).1) (fun _ => rfl) (fun _ => rfl)
theorem xt_incomeOf (x : Int32) : xTw (fun σ => mP σ x = true) xE oX11_incomeOf oM_incomeOf [.int x] :=
  xt_get 40 1 (fun σ R N K h p hp => ((fl37 h.2.1.1).2.2.2 p hp).1) (fun _ => rfl) (fun _ => rfl)
theorem xt_roomOf (x : Int32) : xTw (fun σ => mP σ x = true) xE oX11_roomOf oM_roomOf [.int x] :=
  xt_get 52 2 (fun σ R N K h p hp => ((fl37 h.2.1.1).2.2.1 p (by have := h.1.1.2; omega)).2.1) (fun _ => rfl) (fun _ => rfl)
theorem xt_payment (x : Int32) : xTw (fun σ => mP σ x = true) xE oX11_payment oM_payment [.int x] :=
  xt_get 53 3 (fun σ R N K h p hp => ((fl37 h.2.1.1).2.2.1 p (by have := h.1.1.2; omega)).2.2.1) (fun _ => rfl) (fun _ => rfl)
/-- worths of rooms -/
theorem xv_w {σ : jM} {R N K : Nat} (h : xRk σ R N K) {x y : Int32} (c : mP σ x = true) (d : mR σ y = true) : fW σ x y = wR (σ.1 323) x.toNatClampNeg y.toNatClampNeg ∧ fV σ x y = mD σ x.toNatClampNeg (7 + y.toNatClampNeg) ∧ (fW σ x y = -1 ↔ mD σ x.toNatClampNeg (13 + y.toNatClampNeg) = 1) := by
  obtain ⟨p1, p2, p3⟩ := xv_p h c
  obtain ⟨r1, r2, r3⟩ := xv_r h d
  have e : fW σ x y = wR (σ.1 323) x.toNatClampNeg y.toNatClampNeg := by
    unfold fW
    rw [if_pos ⟨((xv_P h x).1).trans c, ((xv_R h y).1).trans d⟩]
    exact ((fl37 h.2.1.1).2.2.2 _ p1).2 _ r1
  have w := wR_v h.2.1.2.1 (p := x.toNatClampNeg) (r := y.toNatClampNeg) (by omega) (by omega)
  refine ⟨e, ?_, ?_⟩
  · unfold fV
    rw [e]
    exact w.2.2
  · rw [e]
    exact w.1
theorem xt_valueOf (x y : Int32) : xTw (fun σ => mP σ x = true ∧ mR σ y = true) xE oX11_valueOf oM_valueOf [.int x, .int y] :=
  xT_mk (x := fun σ => fV σ x y) (y := fun σ => mD σ x.toNatClampNeg (7 + y.toNatClampNeg))
    (fun h c => ⟨⟨rfl, ((xv_P h x).1).trans c.1, ((xv_R h y).1).trans c.2⟩, xp1 h⟩)
    (fun h => xt_e h)
    (fun {σ R N K} h => ⟨⟨rfl, (xv_n h).2.2.2.2.2.1⟩, xp3 h (mP σ x = true ∧ mR σ y = true) Iff.rfl (fun c => if_pos c)⟩)
    (fun h c => (xv_w h c.1 c.2).2.1) (fun q => sR_D q.sR _ _) (fun q => by rw [xQ_P q, xQ_R q])
theorem xt_refuses (x y : Int32) : xTw (fun σ => mP σ x = true ∧ mR σ y = true) xE oX11_refuses oM_refuses [.int x, .int y] :=
  xT_mk (x := fun σ => if fW σ x y = -1 then 1 else 0) (y := fun σ => if mD σ x.toNatClampNeg (13 + y.toNatClampNeg) = 1 then 1 else 0)
    (fun h c => ⟨⟨rfl, ((xv_P h x).1).trans c.1, ((xv_R h y).1).trans c.2⟩, xp1 h⟩)
    (fun h => xt_e h)
    (fun {σ R N K} h => ⟨⟨rfl, (xv_n h).2.2.2.2.2.1⟩, xp3 h (mP σ x = true ∧ mR σ y = true) Iff.rfl (fun c => by
      by_cases d : mD σ x.toNatClampNeg (13 + y.toNatClampNeg) = 1
      · rw [if_pos ⟨c.1, c.2, d⟩, if_pos d]
      · rw [if_neg (fun z => d z.2.2), if_neg d])⟩)
    (fun {σ R N K} h c => by
      have e := (xv_w h c.1 c.2).2.2
      by_cases d : mD σ x.toNatClampNeg (13 + y.toNatClampNeg) = 1
      · rw [if_pos (e.mpr d), if_pos d]
      · rw [if_neg (fun z => d (e.mp z)), if_neg d]) (fun q => by rw [sR_D q.sR]) (fun q => by rw [xQ_P q, xQ_R q])
theorem xt_paid (x w : Int32) : xTw (fun σ => mP σ x = true) xE oX11_paid oM_paid [.int x, .int w] :=
  xT_mk (x := fun σ => clPd σ x.toNatClampNeg w) (y := fun σ => if w = 0 then mD σ x.toNatClampNeg 4 else if w = 1 then mD σ x.toNatClampNeg 5 else if w = 2 then mD σ x.toNatClampNeg 6 else -2)
    (fun h c => ⟨⟨rfl, ((xv_P h x).1).trans c⟩, xp1 h⟩)
    (fun h => xt_e h)
    (fun {σ R N K} h => ⟨⟨rfl, (xv_n h).2.2.2.2.2.1⟩, xp3 h (mP σ x = true) Iff.rfl (fun c => if_pos c)⟩)
    (fun {σ R N K} h c => by
      obtain ⟨p1, p2, p3⟩ := xv_p h c
      obtain ⟨-, -, -, a1, a2, a3⟩ := (fl37 h.2.1.1).2.2.1 _ (show x.toNatClampNeg < 10 by omega)
      unfold clPd
      rw [a1, a2, a3]
      rfl) (fun q => by rw [sR_D q.sR, sR_D q.sR, sR_D q.sR]) (fun q => by rw [xQ_P q])
/-! envy -/
theorem xv_H {σ : jM} {R N K : Nat} (h : xRk σ R N K) {p : Nat} (hp : p < N) : (fH σ (nI p) = true ↔ 0 ≤ mD σ p 2) ∧ (fH σ (nI p) = true → σ.1 52 p = mD σ p 2 ∧ mR σ (mD σ p 2) = true) := by
  have n10 := h.1.1.2
  have r6 := h.1.1.1
  have a := (fl37 h.2.1.1).2.2.1 p (by omega)
  have c : (nI p).toNatClampNeg = p := nI_clamp (by omega)
  have fp : fP σ (nI p) = true := ((xv_P h (nI p)).1).trans ((xv_P h (nI p)).2.mpr ⟨p, hp, rfl⟩)
  have e2 : σ.1 52 p = mD σ p 2 := a.2.1
  have eF : fH σ (nI p) = true ↔ ¬ mD σ p 2 = -1 := by
    unfold fH
    rw [c, fp, e2, Bool.true_and, decide_eq_true_eq]
  have d := h.2.1.2.1.2.2.2.1 p (by omega)
  rcases d with ⟨d, -⟩ | ⟨-, -, r, hr, d⟩
  · have d : mD σ p 2 = -1 := d
    rw [eF, d]
    refine ⟨⟨fun z => absurd rfl z, fun z => absurd z (by decide)⟩, fun z => absurd rfl z⟩
  · have d : mD σ p 2 = nI r := d
    have nn : ¬ nI r = -1 := fun z => (nI_m1 (by omega)).mp z
    have n0 : (0 : Int32) ≤ nI r := (NL_0.1 r (by omega)).mpr (Nat.zero_le _)
    rw [eF, d, e2, d]
    exact ⟨⟨fun _ => n0, fun _ => nn⟩, fun _ => ⟨rfl, (xv_R h (nI r)).2.mpr ⟨r, hr, rfl⟩⟩⟩
theorem xv_E {σ : jM} {R N K : Nat} (h : xRk σ R N K) {p q : Nat} (hp : p < N) (hq : q < N) : fE σ (nI p) (nI q) = (if 0 ≤ mD σ p 2 ∧ 0 ≤ mD σ q 2 then mEnv σ p q else 0) := by
  have n10 := h.1.1.2
  obtain ⟨hp1, hp2⟩ := xv_H h hp
  obtain ⟨hq1, hq2⟩ := xv_H h hq
  have cp : (nI p).toNatClampNeg = p := nI_clamp (by omega)
  have cq : (nI q).toNatClampNeg = q := nI_clamp (by omega)
  by_cases c : 0 ≤ mD σ p 2 ∧ 0 ≤ mD σ q 2
  · have fp := hp1.mpr c.1
    have fq := hq1.mpr c.2
    obtain ⟨a1, a2⟩ := hp2 fp
    obtain ⟨b1, b2⟩ := hq2 fq
    have mp : mP σ (nI p) = true := (xv_P h (nI p)).2.mpr ⟨p, hp, rfl⟩
    have w1 := xv_w h mp b2
    have w2 := xv_w h mp a2
    have s1 := ((fl37 h.2.1.1).2.2.1 p (by omega)).2.2.1
    have s2 := ((fl37 h.2.1.1).2.2.1 q (by omega)).2.2.1
    rw [cp] at w1 w2
    rw [if_pos c]
    unfold fE mEnv
    rw [cq, b1]
    by_cases d : mD σ p (13 + (mD σ q 2).toNatClampNeg) = 1
    · rw [if_neg (fun z => z.2.2 (w1.2.2.mpr d)), if_pos d]
    · rw [if_pos ⟨fp, fq, fun z => d (w1.2.2.mp z)⟩, if_neg d]
      have eD : fD σ (nI p) (nI q) = mM σ p q := by
        unfold fD mM
        rw [cp, cq, a1, b1, w1.2.1, w2.2.1, s1, s2]
        show mD σ p (7 + (mD σ q 2).toNatClampNeg) - mD σ q 3 - (mD σ p (7 + (mD σ p 2).toNatClampNeg) - mD σ p 3) = _
        grind
      rw [eD]
      by_cases e : p = q
      · subst e
        have z : mM σ p p = 0 := by
          unfold mM
          grind
        rw [z, if_pos (by decide), if_neg (fun t => t.2 rfl)]
      · by_cases k : mM σ p q ≤ 0
        · rw [if_pos k, if_neg (fun t => by have := t.1; grind)]
        · rw [if_neg k, if_pos ⟨by grind, e⟩]
  · rw [if_neg c]
    unfold fE
    rw [if_neg (fun z => c ⟨hp1.mp z.1, hq1.mp z.2.1⟩)]
theorem xv_Ep {σ : jM} {R N K : Nat} (h : xRk σ R N K) {p q : Nat} (hp : p < N) (hq : q < N) : (0 < fE σ (nI p) (nI q) ↔ 0 < mKn σ p q) ∧ (if fH σ (nI p) = true ∧ fH σ (nI q) = true then fE σ (nI p) (nI q) else -1) = mKn σ p q := by
  have hp1 := (xv_H h hp).1
  have hq1 := (xv_H h hq).1
  rw [xv_E h hp hq]
  unfold mKn
  by_cases c : 0 ≤ mD σ p 2 ∧ 0 ≤ mD σ q 2
  · rw [if_pos c, if_pos c, if_pos ⟨hp1.mpr c.1, hq1.mpr c.2⟩]
    exact ⟨Iff.rfl, rfl⟩
  · rw [if_neg c, if_neg c, if_neg (fun z => c ⟨hp1.mp z.1, hq1.mp z.2⟩)]
    exact ⟨by decide, rfl⟩
