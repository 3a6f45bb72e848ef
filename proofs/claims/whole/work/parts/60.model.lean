/-! the reference: the least value -/
def mGv (σ : jM) (p r : Nat) (v : Int32) : jM := jup σ 323 (8 + 20 * p + (7 + r)) v
theorem dOK_gv {σ : jM} (hd : dOK (σ.1 323)) (p r : Nat) {v : Int32} (h0 : 0 ≤ v) (h1 : v ≤ 9999) : dOK ((mGv σ p r v).1 323) := by
  intro p' hp' r' hr'
  unfold mGv
  rw [jup_1]
  by_cases e : 8 + 20 * p' + (7 + r') = 8 + 20 * p + (7 + r)
  · rw [if_pos ⟨rfl, e⟩]; exact ⟨h0, h1⟩
  · rw [if_neg (fun z => e z.2)]; exact hd p' hp' r' hr'
def oX12_getsBy : jO := joRIII fun a p r v σ => (a = 322 ∧ mOK σ ∧ dOK (σ.1 323) ∧ jin p 10 ∧ jin r 6 ∧ 0 ≤ v ∧ v ≤ 9999, fun w τ => w = some (.int (if qch (dC (mGv σ p.toNatClampNeg r.toNatClampNeg v)) (xl (mGv σ p.toNatClampNeg r.toNatClampNeg v)) (mN (mGv σ p.toNatClampNeg r.toNatClampNeg v)) p.toNatClampNeg = r then 1 else 0)) ∧ jfr aTr b0 (mGv σ p.toNatClampNeg r.toNatClampNeg v) τ)
set_option maxRecDepth 100000 in
set_option maxHeartbeats 4000000 in
theorem CX12_getsBy (g : jG) (n : Nat) : jOk g (n + 15) mX12_getsBy oX12_getsBy := by
  refine joRIII_ok ?_
  rintro _ p r v σ ⟨rfl, hok, hd, h1, h2, h3, h4⟩
  have h6 := jin_vr h1 h2
  obtain ⟨ρ, eρ⟩ : ∃ ρ, ρ = mGv σ p.toNatClampNeg r.toNatClampNeg v := ⟨_, rfl⟩
  have hd2 : dOK (ρ.1 323) := by rw [eρ]; exact dOK_gv hd _ _ h3 h4
  have hok2 : mOK ρ := by rw [eρ]; exact mOK_up hok _ _
  have eρ' : jup σ 323 (8 + 20 * p.toNatClampNeg + (7 + r.toNatClampNeg)) v = ρ := eρ.symm
  refine jCon.ofP (by decide +kernel) (by simp [lg_sl, Value.category]) (fun post hp => ?_)
  refine jvk_ok TX12_getsBy (V := [(206, 1, 12, oX12_proposes)]) (S := [(124, 2, 0, oX12_place)]) (List.forall_mem_cons.mpr ⟨⟨mX12_proposes, n + 14, 0, TX12, 53, rfl, by omega, kX12_206, WX12_proposes, rfl, CX12_proposes g (n)⟩, (fun _ h => absurd h List.not_mem_nil)⟩) (List.forall_mem_cons.mpr ⟨⟨mX12_place, n + 0, by omega, Or.inl kX12_124, WX12_place, CX12_place g (n)⟩, (fun _ h => absurd h List.not_mem_nil)⟩) [18] 20 _ _ _ _ ?_
  simp (maxSteps := 1000000) [↓Bool.cond_eq_ite, -Prod.forall, -Prod.exists, -Prod.mk.injEq, jvk, tX12_getsBy, jtb, jol, jst, jlk, jcmp, jbin, jfl, fX12, jc2, lX12, jcat, jel, lv_args, Value.category, jins, jsrt, jins2, jble, jblt, jf3, List.filter_cons, List.filter_nil, G_m, oX12_place, oX12_proposes, joII, joR, -Int32.not_le, -Int32.not_lt, -Int64.not_le, -Int64.not_lt, i3lt, i6lt, h1, h6, eρ', hok2, hd2]
  try simp (disch := omega) [-Prod.forall, -Prod.exists, -Prod.mk.injEq, -Int32.not_le, -Int32.not_lt, -Int64.not_le, -Int64.not_lt, i3lt, i6lt, h1, h6, eρ', hok2, hd2]
  rw [← eρ] at hp
  intro v0 τ0 hv0 f0 ha0
  subst hv0
  have s0 : sR ρ τ0 := sR_of f0 (fun _ => rfl) rfl rfl
  have e := ac_C ha0 s0 _ (jin_lt h1)
  rcases hC0 : dC ρ with _ | c
  · refine jvk_ok TX12_getsBy (V := [(206, 1, 12, oX12_proposes)]) (S := [(124, 2, 0, oX12_place)]) (List.forall_mem_cons.mpr ⟨⟨mX12_proposes, n + 14, 0, TX12, 53, rfl, by omega, kX12_206, WX12_proposes, rfl, CX12_proposes g (n)⟩, (fun _ h => absurd h List.not_mem_nil)⟩) (List.forall_mem_cons.mpr ⟨⟨mX12_place, n + 0, by omega, Or.inl kX12_124, WX12_place, CX12_place g (n)⟩, (fun _ h => absurd h List.not_mem_nil)⟩) [] 20 _ _ _ _ ?_
    simp (maxSteps := 1000000) [↓Bool.cond_eq_ite, -Prod.forall, -Prod.exists, -Prod.mk.injEq, jvk, tX12_getsBy, jtb, jol, jst, jlk, jcmp, jbin, jfl, fX12, jc2, lX12, jcat, jel, lv_args, Value.category, jins, jsrt, jins2, jble, jblt, jf3, List.filter_cons, List.filter_nil, G_m, oX12_place, oX12_proposes, joII, joR, -Int32.not_le, -Int32.not_lt, -Int64.not_le, -Int64.not_lt, i3lt, i6lt]
    try simp (disch := omega) [-Prod.forall, -Prod.exists, -Prod.mk.injEq, -Int32.not_le, -Int32.not_lt, -Int64.not_le, -Int64.not_lt, i3lt, i6lt]
    refine hp _ _ ⟨?_, f0⟩
    rw [hC0]
    have e1 : qch none (xl ρ) (mN ρ) p.toNatClampNeg = -1 := rfl
    rw [e1, if_neg (fun z => by rw [← z] at h2; exact absurd h2.1 (by decide))]
  · by_cases hq : qch (dC ρ) (xl ρ) (mN ρ) p.toNatClampNeg = r
    · refine jvk_ok TX12_getsBy (V := [(206, 1, 12, oX12_proposes)]) (S := [(124, 2, 0, oX12_place)]) (List.forall_mem_cons.mpr ⟨⟨mX12_proposes, n + 14, 0, TX12, 53, rfl, by omega, kX12_206, WX12_proposes, rfl, CX12_proposes g (n)⟩, (fun _ h => absurd h List.not_mem_nil)⟩) (List.forall_mem_cons.mpr ⟨⟨mX12_place, n + 0, by omega, Or.inl kX12_124, WX12_place, CX12_place g (n)⟩, (fun _ h => absurd h List.not_mem_nil)⟩) [] 20 _ _ _ _ ?_
      simp (maxSteps := 1000000) [↓Bool.cond_eq_ite, -Prod.forall, -Prod.exists, -Prod.mk.injEq, jvk, tX12_getsBy, jtb, jol, jst, jlk, jcmp, jbin, jfl, fX12, jc2, lX12, jcat, jel, lv_args, Value.category, jins, jsrt, jins2, jble, jblt, jf3, List.filter_cons, List.filter_nil, G_m, oX12_place, oX12_proposes, joII, joR, -Int32.not_le, -Int32.not_lt, -Int64.not_le, -Int64.not_lt, i3lt, i6lt, h1, e, hq]
      try simp (disch := omega) [-Prod.forall, -Prod.exists, -Prod.mk.injEq, -Int32.not_le, -Int32.not_lt, -Int64.not_le, -Int64.not_lt, i3lt, i6lt, h1, e, hq]
      exact hp _ _ ⟨by rw [if_pos hq], f0⟩
    · refine jvk_ok TX12_getsBy (V := [(206, 1, 12, oX12_proposes)]) (S := [(124, 2, 0, oX12_place)]) (List.forall_mem_cons.mpr ⟨⟨mX12_proposes, n + 14, 0, TX12, 53, rfl, by omega, kX12_206, WX12_proposes, rfl, CX12_proposes g (n)⟩, (fun _ h => absurd h List.not_mem_nil)⟩) (List.forall_mem_cons.mpr ⟨⟨mX12_place, n + 0, by omega, Or.inl kX12_124, WX12_place, CX12_place g (n)⟩, (fun _ h => absurd h List.not_mem_nil)⟩) [] 20 _ _ _ _ ?_
      simp (maxSteps := 1000000) [↓Bool.cond_eq_ite, -Prod.forall, -Prod.exists, -Prod.mk.injEq, jvk, tX12_getsBy, jtb, jol, jst, jlk, jcmp, jbin, jfl, fX12, jc2, lX12, jcat, jel, lv_args, Value.category, jins, jsrt, jins2, jble, jblt, jf3, List.filter_cons, List.filter_nil, G_m, oX12_place, oX12_proposes, joII, joR, -Int32.not_le, -Int32.not_lt, -Int64.not_le, -Int64.not_lt, i3lt, i6lt, h1, e, hq]
      try simp (disch := omega) [-Prod.forall, -Prod.exists, -Prod.mk.injEq, -Int32.not_le, -Int32.not_lt, -Int64.not_le, -Int64.not_lt, i3lt, i6lt, h1, e, hq]
      exact hp _ _ ⟨by rw [if_neg hq], f0⟩
/-- the refusal is taken away -/
def mLr (σ : jM) (p r : Nat) : jM := jup σ 323 (8 + 20 * p + (13 + r)) 0
/-- with the value v the person gets the room -/
def mGt (σ : jM) (p r v : Nat) : Prop := qch (dC (mGv (mLr σ p r) p r (nI v))) (xl (mGv (mLr σ p r) p r (nI v))) (mN (mGv (mLr σ p r) p r (nI v))) p = nI r
theorem mGt_eq {σ τ : jM} {p r : Nat} (h323 : ∀ j, j ≠ 8 + 20 * p + (7 + r) → τ.1 323 j = (mLr σ p r).1 323 j) (h3 : τ.1 322 3 = σ.1 322 3) (h4 : τ.1 322 4 = σ.1 322 4) (v : Nat) : (qch (dC (mGv τ p r (nI v))) (xl (mGv τ p r (nI v))) (mN (mGv τ p r (nI v))) p = nI r) ↔ mGt σ p r v := by
  have s : sR (mGv (mLr σ p r) p r (nI v)) (mGv τ p r (nI v)) := by
    refine ⟨funext fun j => ?_, h3, h4⟩
    unfold mGv
    rw [jup_1, jup_1]
    by_cases e : j = 8 + 20 * p + (7 + r)
    · rw [if_pos ⟨rfl, e⟩, if_pos ⟨rfl, e⟩]
    · rw [if_neg (fun z => e z.2), if_neg (fun z => e z.2)]
      exact h323 j e
  unfold mGt
  rw [sR_C s, sR_l s, sR_N s]
def aLv (k1 k2 a j : Nat) : Bool := aTr a j || (a == 322 && j == 11 || a == 323 && (j == k1 || j == k2))
def lvI (σ τ : jM) (p r : Nat) : Prop := jfr (aLv (8 + 20 * p + (7 + r)) (8 + 20 * p + (13 + r))) b0 σ τ ∧ τ.1 322 11 = 0 ∧ τ.1 323 (8 + 20 * p + (13 + r)) = 0 ∧ dOK (τ.1 323)
theorem lvI_end {σ τ : jM} {p r : Nat} (h : lvI σ τ p r) : jfr aSc bSc σ (jup (jup τ 323 (8 + 20 * p + (7 + r)) (mD σ p (7 + r))) 323 (8 + 20 * p + (13 + r)) (mD σ p (13 + r))) := by
  refine ⟨h.1.1, fun a j q => h.1.2.1 a j rfl, fun a j q => ?_⟩
  rw [jup_1]
  by_cases e : a = 323 ∧ j = 8 + 20 * p + (13 + r)
  · rw [if_pos e, e.1, e.2]; rfl
  · rw [if_neg e, jup_1]
    by_cases e2 : a = 323 ∧ j = 8 + 20 * p + (7 + r)
    · rw [if_pos e2, e2.1, e2.2]; rfl
    · rw [if_neg e2]
      refine h.1.2.2 a j ?_
      have q2 := sc_Tr a j q
      unfold aLv
      rw [q2]
      unfold aSc at q
      rw [jble, jble] at q
      simp only [Bool.or_eq_false_iff, Bool.and_eq_false_iff, beq_eq_false_iff_ne, Bool.false_or] at q ⊢
      omega
def oX12_leastValue : jO := joRII fun a x y σ => (a = 322 ∧ mOK σ ∧ dOK (σ.1 323), fun v τ => jfr aSc bSc σ τ ∧
  ((¬ (mP σ x = true ∧ mR σ y = true) ∧ v = some (.int 0) ∧ τ.1 322 11 = 1) ∨
  (mP σ x = true ∧ mR σ y = true ∧ ¬ mD σ x.toNatClampNeg 0 = 1 ∧ v = some (.int (-1)) ∧ τ.1 322 11 = 0) ∨
  (mP σ x = true ∧ mR σ y = true ∧ mD σ x.toNatClampNeg 0 = 1 ∧ τ.1 322 11 = 0 ∧ ∃ h : Nat, h ≤ 10000 ∧ (h < 10000 → mGt σ x.toNatClampNeg y.toNatClampNeg h) ∧ (0 < h → ¬ mGt σ x.toNatClampNeg y.toNatClampNeg (h - 1)) ∧ v = some (.int (if h = 10000 then -1 else nI h)))))
set_option maxRecDepth 100000 in
set_option maxHeartbeats 4000000 in
theorem CLv_loop (g : jG) (n : Nat) {post : Option Value → jM → Prop} {σ : jM} {x y : Int32} (hok : mOK σ) (h3 : jin x 10) (h8 : jin y 6)
    (hp : ∀ (h : Nat) (τ : jM), lvI σ τ x.toNatClampNeg y.toNatClampNeg → h ≤ 10000 → (h < 10000 → mGt σ x.toNatClampNeg y.toNatClampNeg h) → (0 < h → ¬ mGt σ x.toNatClampNeg y.toNatClampNeg (h - 1)) → post (some (.int (if h = 10000 then -1 else nI h))) (jup (jup τ 323 (8 + 20 * x.toNatClampNeg + (7 + y.toNatClampNeg)) (mD σ x.toNatClampNeg (7 + y.toNatClampNeg))) 323 (8 + 20 * x.toNatClampNeg + (13 + y.toNatClampNeg)) (mD σ x.toNatClampNeg (13 + y.toNatClampNeg)))) :
    ∀ (M lo hi : Nat) (τ : jM), hi - lo ≤ M → lo ≤ hi → hi ≤ 10000 → (0 < lo → ¬ mGt σ x.toNatClampNeg y.toNatClampNeg (lo - 1)) → (hi < 10000 → mGt σ x.toNatClampNeg y.toNatClampNeg hi) → lvI σ τ x.toNatClampNeg y.toNatClampNeg →
      jW g mX12_leastValue (n + 16) post 80 [(0, .ref 322), (1, .int x), (2, .int y), (3, .int (mD σ x.toNatClampNeg (7 + y.toNatClampNeg))), (4, .int (mD σ x.toNatClampNeg (13 + y.toNatClampNeg))), (5, .int (iI ((lo : Int) - 1))), (6, .int (nI hi))] [] τ := by
  have h6 := jin_vr h3 h8
  have y0 := (tn_nI h8).1
  intro M
  induction M with
  | zero =>
    intro lo hi τ hM hlh hhi hlo hhg hI
    have e1 : hi = lo := by omega
    subst e1
    have hsub : nI hi - iI ((hi : Int) - 1) = 1 := by
      have : nI hi - iI ((hi : Int) - 1) = iI ((hi : Int) - ((hi : Int) - 1)) := iI_sub (hi : Int) ((hi : Int) - 1)
      rw [this, show (hi : Int) - ((hi : Int) - 1) = 1 by omega]
      rfl
    have k := hp hi τ hI hhi hhg hlo
    by_cases e : hi = 10000
    · have c1 : ¬ nI hi ≤ 9999 := nI_ge (a := 9999) (by omega) (by omega)
      rw [if_pos e] at k
      refine jvk_ok TX12_leastValue (V := [(135, 2, 12, oX12_isPerson), (142, 2, 12, oX12_isRoom), (138, 2, 12, oX12_fails), (131, 2, 12, oX12_isLiving), (145, 3, 12, oX12_value), (128, 3, 12, oX12_of), (226, 4, 12, oX12_getsBy)]) (S := [(124, 2, 0, oX12_place)]) (List.forall_mem_cons.mpr ⟨⟨mX12_isPerson, n + 1, 1, TX12, 53, rfl, by omega, kX12_135, WX12_isPerson, rfl, CX12_isPerson g (n)⟩, (List.forall_mem_cons.mpr ⟨⟨mX12_isRoom, n + 1, 1, TX12, 53, rfl, by omega, kX12_142, WX12_isRoom, rfl, CX12_isRoom g (n)⟩, (List.forall_mem_cons.mpr ⟨⟨mX12_fails, n + 0, 1, TX12, 53, rfl, by omega, kX12_138, WX12_fails, rfl, CX12_fails g (n)⟩, (List.forall_mem_cons.mpr ⟨⟨mX12_isLiving, n + 2, 1, TX12, 53, rfl, by omega, kX12_131, WX12_isLiving, rfl, CX12_isLiving g (n)⟩, (List.forall_mem_cons.mpr ⟨⟨mX12_value, n + 2, 2, TX12, 53, rfl, by omega, kX12_145, WX12_value, rfl, CX12_value g (n)⟩, (List.forall_mem_cons.mpr ⟨⟨mX12_of, n + 1, 2, TX12, 53, rfl, by omega, kX12_128, WX12_of, rfl, CX12_of g (n)⟩, (List.forall_mem_cons.mpr ⟨⟨mX12_getsBy, n + 15, 3, TX12, 53, rfl, by omega, kX12_226, WX12_getsBy, rfl, CX12_getsBy g (n)⟩, (fun _ h => absurd h List.not_mem_nil)⟩)⟩)⟩)⟩)⟩)⟩)⟩) (List.forall_mem_cons.mpr ⟨⟨mX12_place, n + 0, by omega, Or.inl kX12_124, WX12_place, CX12_place g (n)⟩, (fun _ h => absurd h List.not_mem_nil)⟩) [80] 60 _ _ _ _ ?_
      simp (maxSteps := 1000000) [↓Bool.cond_eq_ite, -Prod.forall, -Prod.exists, -Prod.mk.injEq, jvk, tX12_leastValue, jtb, jol, jst, jlk, jcmp, jbin, jfl, fX12, jc2, lX12, jcat, jel, lv_args, Value.category, jins, jsrt, jins2, jble, jblt, jf3, List.filter_cons, List.filter_nil, G_m, oX12_isPerson, oX12_isRoom, oX12_fails, oX12_isLiving, oX12_value, oX12_of, oX12_place, oX12_getsBy, joII, joRI, joRII, joRIII, -Int32.not_le, -Int32.not_lt, -Int64.not_le, -Int64.not_lt, i3lt, i6lt, hsub, h3, h6, c1]
      try simp (disch := omega) [-Prod.forall, -Prod.exists, -Prod.mk.injEq, -Int32.not_le, -Int32.not_lt, -Int64.not_le, -Int64.not_lt, i3lt, i6lt, hsub, h3, h6, c1]
      exact k
    · have c1 : nI hi ≤ 9999 := nI_le (b := 9999) (by omega) (by decide)
      rw [if_neg e] at k
      refine jvk_ok TX12_leastValue (V := [(135, 2, 12, oX12_isPerson), (142, 2, 12, oX12_isRoom), (138, 2, 12, oX12_fails), (131, 2, 12, oX12_isLiving), (145, 3, 12, oX12_value), (128, 3, 12, oX12_of), (226, 4, 12, oX12_getsBy)]) (S := [(124, 2, 0, oX12_place)]) (List.forall_mem_cons.mpr ⟨⟨mX12_isPerson, n + 1, 1, TX12, 53, rfl, by omega, kX12_135, WX12_isPerson, rfl, CX12_isPerson g (n)⟩, (List.forall_mem_cons.mpr ⟨⟨mX12_isRoom, n + 1, 1, TX12, 53, rfl, by omega, kX12_142, WX12_isRoom, rfl, CX12_isRoom g (n)⟩, (List.forall_mem_cons.mpr ⟨⟨mX12_fails, n + 0, 1, TX12, 53, rfl, by omega, kX12_138, WX12_fails, rfl, CX12_fails g (n)⟩, (List.forall_mem_cons.mpr ⟨⟨mX12_isLiving, n + 2, 1, TX12, 53, rfl, by omega, kX12_131, WX12_isLiving, rfl, CX12_isLiving g (n)⟩, (List.forall_mem_cons.mpr ⟨⟨mX12_value, n + 2, 2, TX12, 53, rfl, by omega, kX12_145, WX12_value, rfl, CX12_value g (n)⟩, (List.forall_mem_cons.mpr ⟨⟨mX12_of, n + 1, 2, TX12, 53, rfl, by omega, kX12_128, WX12_of, rfl, CX12_of g (n)⟩, (List.forall_mem_cons.mpr ⟨⟨mX12_getsBy, n + 15, 3, TX12, 53, rfl, by omega, kX12_226, WX12_getsBy, rfl, CX12_getsBy g (n)⟩, (fun _ h => absurd h List.not_mem_nil)⟩)⟩)⟩)⟩)⟩)⟩)⟩) (List.forall_mem_cons.mpr ⟨⟨mX12_place, n + 0, by omega, Or.inl kX12_124, WX12_place, CX12_place g (n)⟩, (fun _ h => absurd h List.not_mem_nil)⟩) [80] 60 _ _ _ _ ?_
      simp (maxSteps := 1000000) [↓Bool.cond_eq_ite, -Prod.forall, -Prod.exists, -Prod.mk.injEq, jvk, tX12_leastValue, jtb, jol, jst, jlk, jcmp, jbin, jfl, fX12, jc2, lX12, jcat, jel, lv_args, Value.category, jins, jsrt, jins2, jble, jblt, jf3, List.filter_cons, List.filter_nil, G_m, oX12_isPerson, oX12_isRoom, oX12_fails, oX12_isLiving, oX12_value, oX12_of, oX12_place, oX12_getsBy, joII, joRI, joRII, joRIII, -Int32.not_le, -Int32.not_lt, -Int64.not_le, -Int64.not_lt, i3lt, i6lt, hsub, h3, h6, c1]
      try simp (disch := omega) [-Prod.forall, -Prod.exists, -Prod.mk.injEq, -Int32.not_le, -Int32.not_lt, -Int64.not_le, -Int64.not_lt, i3lt, i6lt, hsub, h3, h6, c1]
      exact k
  | succ M ih =>
    intro lo hi τ hM hlh hhi hlo hhg hI
    by_cases e0 : hi = lo
    · exact ih lo hi τ (by omega) hlh hhi hlo hhg hI
    · have hsub : nI hi - iI ((lo : Int) - 1) = nI (hi - lo + 1) := by
        have : nI hi - iI ((lo : Int) - 1) = iI ((hi : Int) - ((lo : Int) - 1)) := iI_sub (hi : Int) ((lo : Int) - 1)
        rw [this, ← iI_nat]
        congr 1
        omega
      have hle : ¬ nI (hi - lo + 1) ≤ 1 := nI_ge (b := hi - lo + 1) (a := 1) (by omega) (by omega)
      have hadd : iI ((lo : Int) - 1) + nI hi = nI (lo + hi - 1) := by
        have : iI ((lo : Int) - 1) + nI hi = iI ((lo : Int) - 1 + (hi : Int)) := iI_add ((lo : Int) - 1) (hi : Int)
        rw [this, ← iI_nat]
        congr 1
        omega
      obtain ⟨mid, emid⟩ : ∃ mid, mid = (lo + hi - 1) / 2 := ⟨_, rfl⟩
      have hdiv : nI (lo + hi - 1) / 2 = nI mid := by rw [emid]; exact pk_div (d := 2) (by omega) (by decide) (by decide)
      have hm1 : lo ≤ mid := by omega
      have hm2 : mid < hi := by omega
      have n0 : 0 ≤ nI mid := nI_pos' (by omega)
      have n1 : nI mid ≤ 9999 := nI_le (b := 9999) (by omega) (by decide)
      have hok2 : mOK τ := mOK_of hok (hI.1.2.2 322 3 rfl) (hI.1.2.2 322 4 rfl) (hI.1.2.2 322 5 rfl)
      have hd2 := hI.2.2.2
      refine jvk_ok TX12_leastValue (V := [(135, 2, 12, oX12_isPerson), (142, 2, 12, oX12_isRoom), (138, 2, 12, oX12_fails), (131, 2, 12, oX12_isLiving), (145, 3, 12, oX12_value), (128, 3, 12, oX12_of), (226, 4, 12, oX12_getsBy)]) (S := [(124, 2, 0, oX12_place)]) (List.forall_mem_cons.mpr ⟨⟨mX12_isPerson, n + 1, 1, TX12, 53, rfl, by omega, kX12_135, WX12_isPerson, rfl, CX12_isPerson g (n)⟩, (List.forall_mem_cons.mpr ⟨⟨mX12_isRoom, n + 1, 1, TX12, 53, rfl, by omega, kX12_142, WX12_isRoom, rfl, CX12_isRoom g (n)⟩, (List.forall_mem_cons.mpr ⟨⟨mX12_fails, n + 0, 1, TX12, 53, rfl, by omega, kX12_138, WX12_fails, rfl, CX12_fails g (n)⟩, (List.forall_mem_cons.mpr ⟨⟨mX12_isLiving, n + 2, 1, TX12, 53, rfl, by omega, kX12_131, WX12_isLiving, rfl, CX12_isLiving g (n)⟩, (List.forall_mem_cons.mpr ⟨⟨mX12_value, n + 2, 2, TX12, 53, rfl, by omega, kX12_145, WX12_value, rfl, CX12_value g (n)⟩, (List.forall_mem_cons.mpr ⟨⟨mX12_of, n + 1, 2, TX12, 53, rfl, by omega, kX12_128, WX12_of, rfl, CX12_of g (n)⟩, (List.forall_mem_cons.mpr ⟨⟨mX12_getsBy, n + 15, 3, TX12, 53, rfl, by omega, kX12_226, WX12_getsBy, rfl, CX12_getsBy g (n)⟩, (fun _ h => absurd h List.not_mem_nil)⟩)⟩)⟩)⟩)⟩)⟩)⟩) (List.forall_mem_cons.mpr ⟨⟨mX12_place, n + 0, by omega, Or.inl kX12_124, WX12_place, CX12_place g (n)⟩, (fun _ h => absurd h List.not_mem_nil)⟩) [80, 106] 60 _ _ _ _ ?_
      simp (maxSteps := 1000000) [↓Bool.cond_eq_ite, -Prod.forall, -Prod.exists, -Prod.mk.injEq, jvk, tX12_leastValue, jtb, jol, jst, jlk, jcmp, jbin, jfl, fX12, jc2, lX12, jcat, jel, lv_args, Value.category, jins, jsrt, jins2, jble, jblt, jf3, List.filter_cons, List.filter_nil, G_m, oX12_isPerson, oX12_isRoom, oX12_fails, oX12_isLiving, oX12_value, oX12_of, oX12_place, oX12_getsBy, joII, joRI, joRII, joRIII, -Int32.not_le, -Int32.not_lt, -Int64.not_le, -Int64.not_lt, i3lt, i6lt, hsub, hle, hadd, hdiv, h3, h8, n0, n1, hok2, hd2]
      try simp (disch := omega) [-Prod.forall, -Prod.exists, -Prod.mk.injEq, -Int32.not_le, -Int32.not_lt, -Int64.not_le, -Int64.not_lt, i3lt, i6lt, hsub, hle, hadd, hdiv, h3, h8, n0, n1, hok2, hd2]
      intro v0 τ0 hv0 f0
      subst hv0
      have eG : (qch (dC (mGv τ x.toNatClampNeg y.toNatClampNeg (nI mid))) (xl (mGv τ x.toNatClampNeg y.toNatClampNeg (nI mid))) (mN (mGv τ x.toNatClampNeg y.toNatClampNeg (nI mid))) x.toNatClampNeg = y) ↔ mGt σ x.toNatClampNeg y.toNatClampNeg mid := by
        have q := mGt_eq (σ := σ) (τ := τ) (p := x.toNatClampNeg) (r := y.toNatClampNeg) (fun j hj => by
          unfold mLr
          rw [jup_1]
          by_cases e : j = 8 + 20 * x.toNatClampNeg + (13 + y.toNatClampNeg)
          · rw [if_pos ⟨rfl, e⟩, e, hI.2.2.1]
          · rw [if_neg (fun z => e z.2)]
            refine hI.1.2.2 323 j ?_
            simp [aLv, aTr, hj, e]) (hI.1.2.2 322 3 rfl) (hI.1.2.2 322 4 rfl) mid
        rw [← y0] at q
        exact q
      have hI0 : lvI σ τ0 x.toNatClampNeg y.toNatClampNeg := by
        have g1 : jfr (aLv (8 + 20 * x.toNatClampNeg + (7 + y.toNatClampNeg)) (8 + 20 * x.toNatClampNeg + (13 + y.toNatClampNeg))) b0 σ (mGv τ x.toNatClampNeg y.toNatClampNeg (nI mid)) := hI.1.up _ (by simp [aLv])
        refine ⟨g1.tr (f0.weak (fun a j q => ?_) (fun _ q => q)), ?_, ?_, ?_⟩
        · unfold aLv at q
          simp only [Bool.or_eq_false_iff] at q
          exact q.1
        · rw [f0.2.2 322 11 rfl]
          exact hI.2.1
        · rw [f0.2.2 323 _ rfl]
          unfold mGv
          rw [jup_1, if_neg (by omega)]
          exact hI.2.2.1
        · have e323 : τ0.1 323 = (mGv τ x.toNatClampNeg y.toNatClampNeg (nI mid)).1 323 := funext fun j => f0.2.2 323 j rfl
          rw [e323]
          exact dOK_gv hd2 _ _ n0 n1
      by_cases hq : mGt σ x.toNatClampNeg y.toNatClampNeg mid
      · have k := ih lo mid τ0 (by omega) hm1 (by omega) hlo (fun _ => hq) hI0
        rw [if_pos (eG.mpr hq)]
        refine jvk_ok TX12_leastValue (V := [(135, 2, 12, oX12_isPerson), (142, 2, 12, oX12_isRoom), (138, 2, 12, oX12_fails), (131, 2, 12, oX12_isLiving), (145, 3, 12, oX12_value), (128, 3, 12, oX12_of), (226, 4, 12, oX12_getsBy)]) (S := [(124, 2, 0, oX12_place)]) (List.forall_mem_cons.mpr ⟨⟨mX12_isPerson, n + 1, 1, TX12, 53, rfl, by omega, kX12_135, WX12_isPerson, rfl, CX12_isPerson g (n)⟩, (List.forall_mem_cons.mpr ⟨⟨mX12_isRoom, n + 1, 1, TX12, 53, rfl, by omega, kX12_142, WX12_isRoom, rfl, CX12_isRoom g (n)⟩, (List.forall_mem_cons.mpr ⟨⟨mX12_fails, n + 0, 1, TX12, 53, rfl, by omega, kX12_138, WX12_fails, rfl, CX12_fails g (n)⟩, (List.forall_mem_cons.mpr ⟨⟨mX12_isLiving, n + 2, 1, TX12, 53, rfl, by omega, kX12_131, WX12_isLiving, rfl, CX12_isLiving g (n)⟩, (List.forall_mem_cons.mpr ⟨⟨mX12_value, n + 2, 2, TX12, 53, rfl, by omega, kX12_145, WX12_value, rfl, CX12_value g (n)⟩, (List.forall_mem_cons.mpr ⟨⟨mX12_of, n + 1, 2, TX12, 53, rfl, by omega, kX12_128, WX12_of, rfl, CX12_of g (n)⟩, (List.forall_mem_cons.mpr ⟨⟨mX12_getsBy, n + 15, 3, TX12, 53, rfl, by omega, kX12_226, WX12_getsBy, rfl, CX12_getsBy g (n)⟩, (fun _ h => absurd h List.not_mem_nil)⟩)⟩)⟩)⟩)⟩)⟩)⟩) (List.forall_mem_cons.mpr ⟨⟨mX12_place, n + 0, by omega, Or.inl kX12_124, WX12_place, CX12_place g (n)⟩, (fun _ h => absurd h List.not_mem_nil)⟩) [80] 60 _ _ _ _ ?_
        simp (maxSteps := 1000000) [↓Bool.cond_eq_ite, -Prod.forall, -Prod.exists, -Prod.mk.injEq, jvk, tX12_leastValue, jtb, jol, jst, jlk, jcmp, jbin, jfl, fX12, jc2, lX12, jcat, jel, lv_args, Value.category, jins, jsrt, jins2, jble, jblt, jf3, List.filter_cons, List.filter_nil, G_m, oX12_isPerson, oX12_isRoom, oX12_fails, oX12_isLiving, oX12_value, oX12_of, oX12_place, oX12_getsBy, joII, joRI, joRII, joRIII, -Int32.not_le, -Int32.not_lt, -Int64.not_le, -Int64.not_lt, i3lt, i6lt]
        try simp (disch := omega) [-Prod.forall, -Prod.exists, -Prod.mk.injEq, -Int32.not_le, -Int32.not_lt, -Int64.not_le, -Int64.not_lt, i3lt, i6lt]
        exact jW.mono k (by simp)
      · have k := ih (mid + 1) hi τ0 (by omega) hm2 hhi (fun _ => hq) hhg hI0
        have e2 : iI (((mid + 1 : Nat) : Int) - 1) = nI mid := by
          rw [← iI_nat]
          congr 1
          omega
        rw [e2] at k
        rw [if_neg (fun z => hq (eG.mp z))]
        refine jvk_ok TX12_leastValue (V := [(135, 2, 12, oX12_isPerson), (142, 2, 12, oX12_isRoom), (138, 2, 12, oX12_fails), (131, 2, 12, oX12_isLiving), (145, 3, 12, oX12_value), (128, 3, 12, oX12_of), (226, 4, 12, oX12_getsBy)]) (S := [(124, 2, 0, oX12_place)]) (List.forall_mem_cons.mpr ⟨⟨mX12_isPerson, n + 1, 1, TX12, 53, rfl, by omega, kX12_135, WX12_isPerson, rfl, CX12_isPerson g (n)⟩, (List.forall_mem_cons.mpr ⟨⟨mX12_isRoom, n + 1, 1, TX12, 53, rfl, by omega, kX12_142, WX12_isRoom, rfl, CX12_isRoom g (n)⟩, (List.forall_mem_cons.mpr ⟨⟨mX12_fails, n + 0, 1, TX12, 53, rfl, by omega, kX12_138, WX12_fails, rfl, CX12_fails g (n)⟩, (List.forall_mem_cons.mpr ⟨⟨mX12_isLiving, n + 2, 1, TX12, 53, rfl, by omega, kX12_131, WX12_isLiving, rfl, CX12_isLiving g (n)⟩, (List.forall_mem_cons.mpr ⟨⟨mX12_value, n + 2, 2, TX12, 53, rfl, by omega, kX12_145, WX12_value, rfl, CX12_value g (n)⟩, (List.forall_mem_cons.mpr ⟨⟨mX12_of, n + 1, 2, TX12, 53, rfl, by omega, kX12_128, WX12_of, rfl, CX12_of g (n)⟩, (List.forall_mem_cons.mpr ⟨⟨mX12_getsBy, n + 15, 3, TX12, 53, rfl, by omega, kX12_226, WX12_getsBy, rfl, CX12_getsBy g (n)⟩, (fun _ h => absurd h List.not_mem_nil)⟩)⟩)⟩)⟩)⟩)⟩)⟩) (List.forall_mem_cons.mpr ⟨⟨mX12_place, n + 0, by omega, Or.inl kX12_124, WX12_place, CX12_place g (n)⟩, (fun _ h => absurd h List.not_mem_nil)⟩) [80] 60 _ _ _ _ ?_
        simp (maxSteps := 1000000) [↓Bool.cond_eq_ite, -Prod.forall, -Prod.exists, -Prod.mk.injEq, jvk, tX12_leastValue, jtb, jol, jst, jlk, jcmp, jbin, jfl, fX12, jc2, lX12, jcat, jel, lv_args, Value.category, jins, jsrt, jins2, jble, jblt, jf3, List.filter_cons, List.filter_nil, G_m, oX12_isPerson, oX12_isRoom, oX12_fails, oX12_isLiving, oX12_value, oX12_of, oX12_place, oX12_getsBy, joII, joRI, joRII, joRIII, -Int32.not_le, -Int32.not_lt, -Int64.not_le, -Int64.not_lt, i3lt, i6lt]
        try simp (disch := omega) [-Prod.forall, -Prod.exists, -Prod.mk.injEq, -Int32.not_le, -Int32.not_lt, -Int64.not_le, -Int64.not_lt, i3lt, i6lt]
        exact jW.mono k (by simp)
set_option maxRecDepth 100000 in
set_option maxHeartbeats 4000000 in
theorem CX12_leastValue (g : jG) (n : Nat) : jOk g (n + 16) mX12_leastValue oX12_leastValue := by
  refine joRII_ok ?_
  rintro _ x y σ ⟨rfl, hok, hd⟩
  by_cases h : mP σ x = true
  · have h3 := (mP_jin hok h).2
    by_cases h5 : mR σ y = true
    · have h8 := (mR_jin hok h5).2
      have h6 := jin_vr h3 h8
      have b2 : (13 + y).toNatClampNeg = 13 + y.toNatClampNeg := (jin_add (a := 13) (m := 20) h8 (by decide) (by decide)).2
      have hy6 := jin_lt h8
      by_cases hl : mD σ x.toNatClampNeg 0 = 1
      · refine jCon.ofP (by decide +kernel) (by simp [lg_sl, Value.category]) (fun post hp => ?_)
        refine jvk_ok TX12_leastValue (V := [(135, 2, 12, oX12_isPerson), (142, 2, 12, oX12_isRoom), (138, 2, 12, oX12_fails), (131, 2, 12, oX12_isLiving), (145, 3, 12, oX12_value), (128, 3, 12, oX12_of), (226, 4, 12, oX12_getsBy)]) (S := [(124, 2, 0, oX12_place)]) (List.forall_mem_cons.mpr ⟨⟨mX12_isPerson, n + 1, 1, TX12, 53, rfl, by omega, kX12_135, WX12_isPerson, rfl, CX12_isPerson g (n)⟩, (List.forall_mem_cons.mpr ⟨⟨mX12_isRoom, n + 1, 1, TX12, 53, rfl, by omega, kX12_142, WX12_isRoom, rfl, CX12_isRoom g (n)⟩, (List.forall_mem_cons.mpr ⟨⟨mX12_fails, n + 0, 1, TX12, 53, rfl, by omega, kX12_138, WX12_fails, rfl, CX12_fails g (n)⟩, (List.forall_mem_cons.mpr ⟨⟨mX12_isLiving, n + 2, 1, TX12, 53, rfl, by omega, kX12_131, WX12_isLiving, rfl, CX12_isLiving g (n)⟩, (List.forall_mem_cons.mpr ⟨⟨mX12_value, n + 2, 2, TX12, 53, rfl, by omega, kX12_145, WX12_value, rfl, CX12_value g (n)⟩, (List.forall_mem_cons.mpr ⟨⟨mX12_of, n + 1, 2, TX12, 53, rfl, by omega, kX12_128, WX12_of, rfl, CX12_of g (n)⟩, (List.forall_mem_cons.mpr ⟨⟨mX12_getsBy, n + 15, 3, TX12, 53, rfl, by omega, kX12_226, WX12_getsBy, rfl, CX12_getsBy g (n)⟩, (fun _ h => absurd h List.not_mem_nil)⟩)⟩)⟩)⟩)⟩)⟩)⟩) (List.forall_mem_cons.mpr ⟨⟨mX12_place, n + 0, by omega, Or.inl kX12_124, WX12_place, CX12_place g (n)⟩, (fun _ h => absurd h List.not_mem_nil)⟩) [80] 60 _ _ _ _ ?_
        simp (maxSteps := 1000000) [↓Bool.cond_eq_ite, -Prod.forall, -Prod.exists, -Prod.mk.injEq, jvk, tX12_leastValue, jtb, jol, jst, jlk, jcmp, jbin, jfl, fX12, jc2, lX12, jcat, jel, lv_args, Value.category, jins, jsrt, jins2, jble, jblt, jf3, List.filter_cons, List.filter_nil, G_m, oX12_isPerson, oX12_isRoom, oX12_fails, oX12_isLiving, oX12_value, oX12_of, oX12_place, oX12_getsBy, joII, joRI, joRII, joRIII, -Int32.not_le, -Int32.not_lt, -Int64.not_le, -Int64.not_lt, i3lt, i6lt, h, h3, h5, h6, h8, b2, mD_th, hl, jin_c, tn_c, mD_th, mP_th, mR_th, mN_th, mLiv_th]
        try simp (disch := omega) [-Prod.forall, -Prod.exists, -Prod.mk.injEq, -Int32.not_le, -Int32.not_lt, -Int64.not_le, -Int64.not_lt, i3lt, i6lt, h, h3, h5, h6, h8, b2, mD_th, hl, jin_c, tn_c, mD_th, mP_th, mR_th, mN_th, mLiv_th]
        have k0 := CLv_loop g n hok h3 h8 (post := post) (fun h' τ hI a1 a2 a3 => hp _ _ ⟨lvI_end hI, Or.inr (Or.inr ⟨h, h5, hl, by simp only [jup_1]; simpa using hI.2.1, h', a1, a2, a3, rfl⟩)⟩) 10000 0 10000 (jup (jup σ 322 11 0) 323 (8 + 20 * x.toNatClampNeg + (13 + y.toNatClampNeg)) 0) (by omega) (by omega) (by omega) (fun z => by omega) (fun z => by omega) ⟨(jfr.rfl.up _ (by simp [aLv])).up _ (by simp [aLv]), rfl, by simp [jup_1], fun p' hp' r' hr' => by
          rw [jup_1, if_neg (by omega)]
          exact hd p' hp' r' hr'⟩
        have e5 : iI (((0 : Nat) : Int) - 1) = -1 := by decide
        have e6 : nI 10000 = 10000 := rfl
        rw [e5, e6] at k0
        exact jW.mono k0 (by simp)
      · refine jCon.ofP (by decide +kernel) (by simp [lg_sl, Value.category]) (fun post hp => ?_)
        refine jvk_ok TX12_leastValue (V := [(135, 2, 12, oX12_isPerson), (142, 2, 12, oX12_isRoom), (138, 2, 12, oX12_fails), (131, 2, 12, oX12_isLiving), (145, 3, 12, oX12_value), (128, 3, 12, oX12_of), (226, 4, 12, oX12_getsBy)]) (S := [(124, 2, 0, oX12_place)]) (List.forall_mem_cons.mpr ⟨⟨mX12_isPerson, n + 1, 1, TX12, 53, rfl, by omega, kX12_135, WX12_isPerson, rfl, CX12_isPerson g (n)⟩, (List.forall_mem_cons.mpr ⟨⟨mX12_isRoom, n + 1, 1, TX12, 53, rfl, by omega, kX12_142, WX12_isRoom, rfl, CX12_isRoom g (n)⟩, (List.forall_mem_cons.mpr ⟨⟨mX12_fails, n + 0, 1, TX12, 53, rfl, by omega, kX12_138, WX12_fails, rfl, CX12_fails g (n)⟩, (List.forall_mem_cons.mpr ⟨⟨mX12_isLiving, n + 2, 1, TX12, 53, rfl, by omega, kX12_131, WX12_isLiving, rfl, CX12_isLiving g (n)⟩, (List.forall_mem_cons.mpr ⟨⟨mX12_value, n + 2, 2, TX12, 53, rfl, by omega, kX12_145, WX12_value, rfl, CX12_value g (n)⟩, (List.forall_mem_cons.mpr ⟨⟨mX12_of, n + 1, 2, TX12, 53, rfl, by omega, kX12_128, WX12_of, rfl, CX12_of g (n)⟩, (List.forall_mem_cons.mpr ⟨⟨mX12_getsBy, n + 15, 3, TX12, 53, rfl, by omega, kX12_226, WX12_getsBy, rfl, CX12_getsBy g (n)⟩, (fun _ h => absurd h List.not_mem_nil)⟩)⟩)⟩)⟩)⟩)⟩)⟩) (List.forall_mem_cons.mpr ⟨⟨mX12_place, n + 0, by omega, Or.inl kX12_124, WX12_place, CX12_place g (n)⟩, (fun _ h => absurd h List.not_mem_nil)⟩) [80] 60 _ _ _ _ ?_
        simp (maxSteps := 1000000) [↓Bool.cond_eq_ite, -Prod.forall, -Prod.exists, -Prod.mk.injEq, jvk, tX12_leastValue, jtb, jol, jst, jlk, jcmp, jbin, jfl, fX12, jc2, lX12, jcat, jel, lv_args, Value.category, jins, jsrt, jins2, jble, jblt, jf3, List.filter_cons, List.filter_nil, G_m, oX12_isPerson, oX12_isRoom, oX12_fails, oX12_isLiving, oX12_value, oX12_of, oX12_place, oX12_getsBy, joII, joRI, joRII, joRIII, -Int32.not_le, -Int32.not_lt, -Int64.not_le, -Int64.not_lt, i3lt, i6lt, h, h3, h5, h6, h8, b2, mD_th, hl, jin_c, tn_c, mD_th, mP_th, mR_th, mN_th, mLiv_th]
        try simp (disch := omega) [-Prod.forall, -Prod.exists, -Prod.mk.injEq, -Int32.not_le, -Int32.not_lt, -Int64.not_le, -Int64.not_lt, i3lt, i6lt, h, h3, h5, h6, h8, b2, mD_th, hl, jin_c, tn_c, mD_th, mP_th, mR_th, mN_th, mLiv_th]
        exact hp _ _ ⟨sc_th σ 0, Or.inr (Or.inl ⟨h, h5, hl, rfl, rfl⟩)⟩
    · refine jCon.ofP (by decide +kernel) (by simp [lg_sl, Value.category]) (fun post hp => ?_)
      refine jvk_ok TX12_leastValue (V := [(135, 2, 12, oX12_isPerson), (142, 2, 12, oX12_isRoom), (138, 2, 12, oX12_fails), (131, 2, 12, oX12_isLiving), (145, 3, 12, oX12_value), (128, 3, 12, oX12_of), (226, 4, 12, oX12_getsBy)]) (S := [(124, 2, 0, oX12_place)]) (List.forall_mem_cons.mpr ⟨⟨mX12_isPerson, n + 1, 1, TX12, 53, rfl, by omega, kX12_135, WX12_isPerson, rfl, CX12_isPerson g (n)⟩, (List.forall_mem_cons.mpr ⟨⟨mX12_isRoom, n + 1, 1, TX12, 53, rfl, by omega, kX12_142, WX12_isRoom, rfl, CX12_isRoom g (n)⟩, (List.forall_mem_cons.mpr ⟨⟨mX12_fails, n + 0, 1, TX12, 53, rfl, by omega, kX12_138, WX12_fails, rfl, CX12_fails g (n)⟩, (List.forall_mem_cons.mpr ⟨⟨mX12_isLiving, n + 2, 1, TX12, 53, rfl, by omega, kX12_131, WX12_isLiving, rfl, CX12_isLiving g (n)⟩, (List.forall_mem_cons.mpr ⟨⟨mX12_value, n + 2, 2, TX12, 53, rfl, by omega, kX12_145, WX12_value, rfl, CX12_value g (n)⟩, (List.forall_mem_cons.mpr ⟨⟨mX12_of, n + 1, 2, TX12, 53, rfl, by omega, kX12_128, WX12_of, rfl, CX12_of g (n)⟩, (List.forall_mem_cons.mpr ⟨⟨mX12_getsBy, n + 15, 3, TX12, 53, rfl, by omega, kX12_226, WX12_getsBy, rfl, CX12_getsBy g (n)⟩, (fun _ h => absurd h List.not_mem_nil)⟩)⟩)⟩)⟩)⟩)⟩)⟩) (List.forall_mem_cons.mpr ⟨⟨mX12_place, n + 0, by omega, Or.inl kX12_124, WX12_place, CX12_place g (n)⟩, (fun _ h => absurd h List.not_mem_nil)⟩) [80] 60 _ _ _ _ ?_
      simp (maxSteps := 1000000) [↓Bool.cond_eq_ite, -Prod.forall, -Prod.exists, -Prod.mk.injEq, jvk, tX12_leastValue, jtb, jol, jst, jlk, jcmp, jbin, jfl, fX12, jc2, lX12, jcat, jel, lv_args, Value.category, jins, jsrt, jins2, jble, jblt, jf3, List.filter_cons, List.filter_nil, G_m, oX12_isPerson, oX12_isRoom, oX12_fails, oX12_isLiving, oX12_value, oX12_of, oX12_place, oX12_getsBy, joII, joRI, joRII, joRIII, -Int32.not_le, -Int32.not_lt, -Int64.not_le, -Int64.not_lt, i3lt, i6lt, h, h5, mD_th, mP_th, mR_th, mN_th, mLiv_th]
      try simp (disch := omega) [-Prod.forall, -Prod.exists, -Prod.mk.injEq, -Int32.not_le, -Int32.not_lt, -Int64.not_le, -Int64.not_lt, i3lt, i6lt, h, h5, mD_th, mP_th, mR_th, mN_th, mLiv_th]
      exact hp _ _ ⟨sc_th σ 1, Or.inl ⟨fun z => h5 z.2, rfl, rfl⟩⟩
  · refine jCon.ofP (by decide +kernel) (by simp [lg_sl, Value.category]) (fun post hp => ?_)
    refine jvk_ok TX12_leastValue (V := [(135, 2, 12, oX12_isPerson), (142, 2, 12, oX12_isRoom), (138, 2, 12, oX12_fails), (131, 2, 12, oX12_isLiving), (145, 3, 12, oX12_value), (128, 3, 12, oX12_of), (226, 4, 12, oX12_getsBy)]) (S := [(124, 2, 0, oX12_place)]) (List.forall_mem_cons.mpr ⟨⟨mX12_isPerson, n + 1, 1, TX12, 53, rfl, by omega, kX12_135, WX12_isPerson, rfl, CX12_isPerson g (n)⟩, (List.forall_mem_cons.mpr ⟨⟨mX12_isRoom, n + 1, 1, TX12, 53, rfl, by omega, kX12_142, WX12_isRoom, rfl, CX12_isRoom g (n)⟩, (List.forall_mem_cons.mpr ⟨⟨mX12_fails, n + 0, 1, TX12, 53, rfl, by omega, kX12_138, WX12_fails, rfl, CX12_fails g (n)⟩, (List.forall_mem_cons.mpr ⟨⟨mX12_isLiving, n + 2, 1, TX12, 53, rfl, by omega, kX12_131, WX12_isLiving, rfl, CX12_isLiving g (n)⟩, (List.forall_mem_cons.mpr ⟨⟨mX12_value, n + 2, 2, TX12, 53, rfl, by omega, kX12_145, WX12_value, rfl, CX12_value g (n)⟩, (List.forall_mem_cons.mpr ⟨⟨mX12_of, n + 1, 2, TX12, 53, rfl, by omega, kX12_128, WX12_of, rfl, CX12_of g (n)⟩, (List.forall_mem_cons.mpr ⟨⟨mX12_getsBy, n + 15, 3, TX12, 53, rfl, by omega, kX12_226, WX12_getsBy, rfl, CX12_getsBy g (n)⟩, (fun _ h => absurd h List.not_mem_nil)⟩)⟩)⟩)⟩)⟩)⟩)⟩) (List.forall_mem_cons.mpr ⟨⟨mX12_place, n + 0, by omega, Or.inl kX12_124, WX12_place, CX12_place g (n)⟩, (fun _ h => absurd h List.not_mem_nil)⟩) [80] 60 _ _ _ _ ?_
    simp (maxSteps := 1000000) [↓Bool.cond_eq_ite, -Prod.forall, -Prod.exists, -Prod.mk.injEq, jvk, tX12_leastValue, jtb, jol, jst, jlk, jcmp, jbin, jfl, fX12, jc2, lX12, jcat, jel, lv_args, Value.category, jins, jsrt, jins2, jble, jblt, jf3, List.filter_cons, List.filter_nil, G_m, oX12_isPerson, oX12_isRoom, oX12_fails, oX12_isLiving, oX12_value, oX12_of, oX12_place, oX12_getsBy, joII, joRI, joRII, joRIII, -Int32.not_le, -Int32.not_lt, -Int64.not_le, -Int64.not_lt, i3lt, i6lt, h, mD_th, mP_th, mR_th, mN_th, mLiv_th]
    try simp (disch := omega) [-Prod.forall, -Prod.exists, -Prod.mk.injEq, -Int32.not_le, -Int32.not_lt, -Int64.not_le, -Int64.not_lt, i3lt, i6lt, h, mD_th, mP_th, mR_th, mN_th, mLiv_th]
    exact hp _ _ ⟨sc_th σ 1, Or.inl ⟨fun z => h z.1, rfl, rfl⟩⟩
