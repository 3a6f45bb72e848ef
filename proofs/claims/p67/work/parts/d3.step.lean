/-! one call of the class and the same call of the reference: the same answer, and they go on saying the same -/
/-- a call that never throws -/
def xS (oc om : jO) (xs : List Value) : Prop := ∀ σ, xR σ → (oc (.ref 0 :: xs) σ).1 ∧ ∀ v τ, (oc (.ref 0 :: xs) σ).2 v τ → (om (.ref 322 :: xs) τ).1 ∧ ∀ w υ, (om (.ref 322 :: xs) τ).2 w υ → (∃ x, v = some (.int x)) ∧ w = v ∧ xR υ
/-- a call that may throw: where cd holds it doesn't -/
def xTw (cd : jM → Prop) (th : jM → jM → Prop) (oc om : jO) (xs : List Value) : Prop := ∀ σ, xR σ →
  (cd σ → (oc (.ref 0 :: xs) σ).1 ∧ ∀ v τ, (oc (.ref 0 :: xs) σ).2 v τ → (om (.ref 322 :: xs) τ).1 ∧ ∀ w υ, (om (.ref 322 :: xs) τ).2 w υ → (∃ x, v = some (.int x)) ∧ w = v ∧ υ.1 322 11 = 0 ∧ xR υ) ∧
  (¬ cd σ → ∀ τ, th σ τ → (om (.ref 322 :: xs) τ).1 ∧ ∀ w υ, (om (.ref 322 :: xs) τ).2 w υ → (∃ x, w = some (.int x)) ∧ υ.1 322 11 = 1 ∧ xR υ)
/-- what counts is as it was -/
def xQ (σ τ : jM) : Prop := (∀ a j, xC a j = true → τ.1 a j = σ.1 a j) ∧ prIv τ
theorem prIv_fr {σ τ : jM} {R N K : Nat} (h : xRk σ R N K) (f : ∀ a j, a < 280 → τ.1 a j = σ.1 a j) : prIv τ := by
  rcases h.2.2.2.2.2.2.2 with p | p
  · exact Or.inl ((f 0 5 (by omega)).trans p)
  · exact Or.inr (prOK_of (xv_flOK h) p ((f 0 5 (by omega)).trans p.1) (fun c _ h2 => funext fun j => f c j (by omega)) (fun c _ h2 => funext fun j => f c j (by omega)))
theorem xQ.rfl {σ : jM} {R N K : Nat} (h : xRk σ R N K) : xQ σ σ := ⟨fun _ _ _ => Eq.refl _, h.2.2.2.2.2.2.2⟩
theorem xQ.R {σ τ : jM} {R N K : Nat} (h : xRk σ R N K) (q : xQ σ τ) : xRk τ R N K := xRk_fr h q.1 q.2
theorem xQ.at {σ τ : jM} (q : xQ σ τ) (a : Nat) (ha : (323).ble a = true) (hb : a.ble 329 = true) : τ.1 a = σ.1 a := funext fun j => q.1 a j (by
  unfold xC
  rw [ha, hb]
  simp)
theorem xQ.sR {σ τ : jM} (q : xQ σ τ) : sR σ τ := ⟨q.at 323 (by decide) (by decide), q.1 322 3 (by decide), q.1 322 4 (by decide)⟩
theorem sc_xC {a j : Nat} (h : xC a j = true) : aSc a j = false := by
  unfold xC at h
  unfold aSc
  simp only [jble, Bool.or_eq_true, Bool.and_eq_true, beq_iff_eq, decide_eq_true_eq] at h
  simp only [jble, Bool.or_eq_false_iff, Bool.and_eq_false_iff, decide_eq_false_iff_not, beq_eq_false_iff_ne]
  omega
theorem sc_lt {a j : Nat} (h : a < 322) : aSc a j = false := by
  unfold aSc
  simp only [jble, Bool.or_eq_false_iff, Bool.and_eq_false_iff, decide_eq_false_iff_not, beq_eq_false_iff_ne]
  omega
theorem xM_Q {σ υ : jM} {R N K : Nat} (h : xRk σ R N K) (f : jfr aSc bSc σ υ) : xQ σ υ :=
  ⟨fun a j c => f.2.2 a j (sc_xC c), prIv_fr h (fun a j ha => f.2.2 a j (sc_lt (by omega)))⟩
theorem xQ_th {σ : jM} {R N K : Nat} (h : xRk σ R N K) (x : Int32) : xQ σ (jup σ 322 11 x) := xM_Q h (sc_th σ x)
theorem xS_mk {oc om : jO} {xs : List Value} {x y : jM → Int32}
    (h1 : ∀ {σ R N K}, xRk σ R N K → (oc (.ref 0 :: xs) σ).1 ∧ ∀ v τ, (oc (.ref 0 :: xs) σ).2 v τ → v = some (.int (x σ)) ∧ xQ σ τ)
    (h2 : ∀ {σ R N K}, xRk σ R N K → (om (.ref 322 :: xs) σ).1 ∧ ∀ w υ, (om (.ref 322 :: xs) σ).2 w υ → w = some (.int (y σ)) ∧ xQ σ υ)
    (h3 : ∀ {σ R N K}, xRk σ R N K → x σ = y σ) (h4 : ∀ {σ τ}, xQ σ τ → y τ = y σ) : xS oc om xs := by
  intro σ h
  obtain ⟨R, N, K, k⟩ := h
  obtain ⟨p1, q1⟩ := h1 k
  refine ⟨p1, fun v τ hv => ?_⟩
  obtain ⟨v1, qt⟩ := q1 v τ hv
  have kt := qt.R k
  obtain ⟨p2, q2⟩ := h2 kt
  refine ⟨p2, fun w υ hw => ?_⟩
  obtain ⟨w1, qu⟩ := q2 w υ hw
  refine ⟨⟨_, v1⟩, ?_, R, N, K, qu.R kt⟩
  rw [v1, w1, h3 k, h4 qt]
theorem xT_mk {oc om : jO} {xs : List Value} {x y : jM → Int32} {cd : jM → Prop} {th : jM → jM → Prop}
    (h1 : ∀ {σ R N K}, xRk σ R N K → cd σ → (oc (.ref 0 :: xs) σ).1 ∧ ∀ v τ, (oc (.ref 0 :: xs) σ).2 v τ → v = some (.int (x σ)) ∧ xQ σ τ)
    (ht : ∀ {σ R N K}, xRk σ R N K → ¬ cd σ → ∀ τ, th σ τ → xQ σ τ)
    (h2 : ∀ {σ R N K}, xRk σ R N K → (om (.ref 322 :: xs) σ).1 ∧ ∀ w υ, (om (.ref 322 :: xs) σ).2 w υ → (cd σ → w = some (.int (y σ)) ∧ υ.1 322 11 = 0) ∧ (¬ cd σ → (∃ z, w = some (.int z)) ∧ υ.1 322 11 = 1) ∧ xQ σ υ)
    (h3 : ∀ {σ R N K}, xRk σ R N K → cd σ → x σ = y σ) (h4 : ∀ {σ τ}, xQ σ τ → y τ = y σ) (h5 : ∀ {σ τ}, xQ σ τ → (cd τ ↔ cd σ)) : xTw cd th oc om xs := by
  intro σ h
  obtain ⟨R, N, K, k⟩ := h
  refine ⟨fun c => ?_, fun c τ hτ => ?_⟩
  · obtain ⟨p1, q1⟩ := h1 k c
    refine ⟨p1, fun v τ hv => ?_⟩
    obtain ⟨v1, qt⟩ := q1 v τ hv
    have kt := qt.R k
    obtain ⟨p2, q2⟩ := h2 kt
    refine ⟨p2, fun w υ hw => ?_⟩
    obtain ⟨w1, -, qu⟩ := q2 w υ hw
    obtain ⟨w2, w3⟩ := w1 ((h5 qt).mpr c)
    refine ⟨⟨_, v1⟩, ?_, w3, R, N, K, qu.R kt⟩
    rw [v1, w2, h3 k c, h4 qt]
  · have qt := ht k c τ hτ
    have kt := qt.R k
    obtain ⟨p2, q2⟩ := h2 kt
    refine ⟨p2, fun w υ hw => ?_⟩
    obtain ⟨-, w1, qu⟩ := q2 w υ hw
    obtain ⟨w2, w3⟩ := w1 (fun z => c ((h5 qt).mp z))
    exact ⟨w2, w3, R, N, K, qu.R kt⟩
/-- a class's call that changes nothing -/
theorem xp1 {σ : jM} {R N K : Nat} (h : xRk σ R N K) {x : Int32} : ∀ (v : Option Value) (τ : jM), v = some (.int x) ∧ τ = σ → v = some (.int x) ∧ xQ σ τ := fun v τ q => ⟨q.1, by rw [q.2]; exact xQ.rfl h⟩
theorem xp2 {σ : jM} {R N K : Nat} (h : xRk σ R N K) {x z : Int32} : ∀ (v : Option Value) (τ : jM), v = some (.int x) ∧ τ = jup σ 322 11 z → v = some (.int x) ∧ xQ σ τ := fun v τ q => ⟨q.1, by rw [q.2]; exact xQ_th h z⟩
/-- a reference's call that throws where cd does not hold -/
theorem xp3 {σ : jM} {R N K : Nat} (h : xRk σ R N K) {x y : Int32} {c : Prop} (cd : Prop) (hc : c ↔ cd) [Decidable c] (e : cd → x = y) : ∀ (v : Option Value) (τ : jM), v = some (.int x) ∧ τ = jup σ 322 11 (if c then 0 else 1) → (cd → v = some (.int y) ∧ τ.1 322 11 = 0) ∧ (¬ cd → (∃ z, v = some (.int z)) ∧ τ.1 322 11 = 1) ∧ xQ σ τ := by
  intro v τ q
  obtain ⟨q1, q2⟩ := q
  refine ⟨fun d => ⟨by rw [q1, e d], ?_⟩, fun d => ⟨⟨_, q1⟩, ?_⟩, by rw [q2]; exact xQ_th h _⟩
  · rw [q2, jup_1, if_pos ⟨rfl, rfl⟩, if_pos (hc.mpr d)]
  · rw [q2, jup_1, if_pos ⟨rfl, rfl⟩, if_neg (fun z => d (hc.mp z))]
theorem xs_month : xS oX11_month oM_month [] :=
  xS_mk (x := fun σ => σ.1 37 5) (y := fun σ => σ.1 323 5) (fun h => ⟨rfl, xp1 h⟩) (fun h => ⟨rfl, xp2 h⟩) (fun h => (fl37 h.2.1.1).1.2.2.2.2.2) (fun q => q.1 323 5 rfl)
theorem xs_arrears : xS oX11_arrears oM_arrears [] :=
  xS_mk (x := fun σ => σ.1 37 4) (y := fun σ => σ.1 323 6) (fun h => ⟨rfl, xp1 h⟩) (fun h => ⟨rfl, xp2 h⟩) (fun h => (fl37 h.2.1.1).1.2.2.2.2.1) (fun q => q.1 323 6 rfl)
theorem mIn2_lt {x : Int32} (c : mIn x 0 2 = true) : x.toNatClampNeg < 3 := jin_lt (jin_3 c 3 (by omega))
theorem xs_livingCount : xS oX11_livingCount oM_livingCount [] :=
  xS_mk (x := fun σ => nI (flM σ)) (y := fun σ => nI (mLiv σ)) (fun h => ⟨⟨rfl, (xv_n h).2.2.2.2.2.2.1⟩, xp1 h⟩) (fun h => ⟨⟨rfl, (xv_n h).2.2.2.2.2.1⟩, xp2 h⟩) (fun {σ R N K} h => by
    rw [(xv_liv h).2.2.1]) (fun q => by rw [sR_Lv q.sR])
