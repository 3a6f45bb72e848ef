/-! the reference: envy -/
theorem i3lt (a b : Int32) : (a < b) = ¬ b ≤ a := propext ⟨fun h => by grind, fun h => by grind⟩
theorem i6lt (a b : Int64) : (a < b) = ¬ b ≤ a := propext ⟨fun h => by grind, fun h => by grind⟩
theorem i3le {a b : Int32} (h : a ≤ b) : a ≤ b ∧ ¬ b < a := ⟨h, by grind⟩
theorem i3nle {a b : Int32} (h : ¬ a ≤ b) : ¬ a ≤ b ∧ b < a := ⟨h, by grind⟩
/-- the rooms that people have -/
def dRm (f : Nat → Int32) : Prop := ∀ p, p < 10 → 0 ≤ f (8 + 20 * p + 2) → jin (f (8 + 20 * p + 2)) 6
def mM (σ : jM) (p q : Nat) : Int32 := mD σ p (7 + (mD σ q 2).toNatClampNeg) - mD σ q 3 - mD σ p (7 + (mD σ p 2).toNatClampNeg) + mD σ p 3
def mEnv (σ : jM) (p q : Nat) : Int32 := if mD σ p (13 + (mD σ q 2).toNatClampNeg) = 1 then 0 else if 0 < mM σ p q ∧ p ≠ q then mM σ p q else 0
def mKn (σ : jM) (p q : Nat) : Int32 := if 0 ≤ mD σ p 2 ∧ 0 ≤ mD σ q 2 then mEnv σ p q else -1
theorem jin_ne {x y : Int32} {n : Nat} (hx : jin x n) (hy : jin y n) : x = y ↔ x.toNatClampNeg = y.toNatClampNeg := by
  refine ⟨fun h => by rw [h], fun h => ?_⟩
  rw [(tn_nI hx).1, (tn_nI hy).1, h]
def oX12_envy : jO := joRII fun a p q σ => (a = 322 ∧ jin p 10 ∧ jin q 10 ∧ jin (mD σ p.toNatClampNeg 2) 6 ∧ jin (mD σ q.toNatClampNeg 2) 6, fun v τ => v = some (.int (mEnv σ p.toNatClampNeg q.toNatClampNeg)) ∧ τ = σ)
set_option maxRecDepth 100000 in
set_option maxHeartbeats 4000000 in
theorem CX12_envy (g : jG) (n : Nat) : jOk g (n + 3) mX12_envy oX12_envy := by
  refine joRII_ok ?_
  rintro _ p q σ ⟨rfl, h1, h2, h3, h4⟩
  have e := jin_ne h1 h2
  by_cases h5 : mD σ p.toNatClampNeg (13 + (mD σ q.toNatClampNeg 2).toNatClampNeg) = 1
  · refine jCon.ofF (by decide +kernel) (by simp [lg_sl, Value.category]) ?_
    refine jvk_ok TX12_envy (V := [(128, 3, 12, oX12_of), (148, 3, 12, oX12_isRefused), (145, 3, 12, oX12_value)]) (S := []) (List.forall_mem_cons.mpr ⟨⟨mX12_of, n + 1, 2, TX12, 53, rfl, by omega, kX12_128, WX12_of, rfl, CX12_of g (n)⟩, (List.forall_mem_cons.mpr ⟨⟨mX12_isRefused, n + 2, 2, TX12, 53, rfl, by omega, kX12_148, WX12_isRefused, rfl, CX12_isRefused g (n)⟩, (List.forall_mem_cons.mpr ⟨⟨mX12_value, n + 2, 2, TX12, 53, rfl, by omega, kX12_145, WX12_value, rfl, CX12_value g (n)⟩, (fun _ h => absurd h List.not_mem_nil)⟩)⟩)⟩) (fun _ h => absurd h List.not_mem_nil) [] 60 _ _ _ _ ?_
    simp (maxSteps := 1000000) [↓Bool.cond_eq_ite, -Prod.forall, -Prod.exists, -Prod.mk.injEq, jvk, tX12_envy, jtb, jol, jst, jlk, jcmp, jbin, jfl, fX12, jc2, lX12, jcat, jel, lv_args, Value.category, jins, jsrt, jins2, jble, jblt, jf3, List.filter_cons, List.filter_nil, G_m, oX12_of, oX12_isRefused, oX12_value, joRII, h1, h2, h3, h4, jin_c, tn_c, h5, mEnv]
  · refine jCon.ofP (by decide +kernel) (by simp [lg_sl, Value.category]) (fun post hp => ?_)
    refine jvk_ok TX12_envy (V := [(128, 3, 12, oX12_of), (148, 3, 12, oX12_isRefused), (145, 3, 12, oX12_value)]) (S := []) (List.forall_mem_cons.mpr ⟨⟨mX12_of, n + 1, 2, TX12, 53, rfl, by omega, kX12_128, WX12_of, rfl, CX12_of g (n)⟩, (List.forall_mem_cons.mpr ⟨⟨mX12_isRefused, n + 2, 2, TX12, 53, rfl, by omega, kX12_148, WX12_isRefused, rfl, CX12_isRefused g (n)⟩, (List.forall_mem_cons.mpr ⟨⟨mX12_value, n + 2, 2, TX12, 53, rfl, by omega, kX12_145, WX12_value, rfl, CX12_value g (n)⟩, (fun _ h => absurd h List.not_mem_nil)⟩)⟩)⟩) (fun _ h => absurd h List.not_mem_nil) [] 60 _ _ _ _ ?_
    simp (maxSteps := 1000000) [↓Bool.cond_eq_ite, -Prod.forall, -Prod.exists, -Prod.mk.injEq, jvk, tX12_envy, jtb, jol, jst, jlk, jcmp, jbin, jfl, fX12, jc2, lX12, jcat, jel, lv_args, Value.category, jins, jsrt, jins2, jble, jblt, jf3, List.filter_cons, List.filter_nil, G_m, oX12_of, oX12_isRefused, oX12_value, joRII, h1, h2, h3, h4, jin_c, tn_c, h5]
    have e2 : mD σ p.toNatClampNeg (7 + (mD σ q.toNatClampNeg 2).toNatClampNeg) - mD σ q.toNatClampNeg 3 - mD σ p.toNatClampNeg (7 + (mD σ p.toNatClampNeg 2).toNatClampNeg) + mD σ p.toNatClampNeg 3 = mM σ p.toNatClampNeg q.toNatClampNeg := rfl
    have e3 : mEnv σ p.toNatClampNeg q.toNatClampNeg = if 0 < mM σ p.toNatClampNeg q.toNatClampNeg ∧ p.toNatClampNeg ≠ q.toNatClampNeg then mM σ p.toNatClampNeg q.toNatClampNeg else 0 := by unfold mEnv; rw [if_neg h5]
    simp only [e2]
    refine ⟨fun z => hp _ _ ⟨by rw [e3, if_neg (fun y => by have := y.1; grind)], rfl⟩, fun z => ⟨fun z2 => hp _ _ ⟨by rw [e3, if_neg (fun y => y.2 (e.mp z2))], rfl⟩, fun z2 => hp _ _ ⟨by rw [e3, if_pos ⟨z, fun y => z2 (e.mpr y)⟩], rfl⟩⟩⟩
def oX12_knownEnvy : jO := joRII fun a p q σ => (a = 322 ∧ dRm (σ.1 323) ∧ jin p 10 ∧ jin q 10, fun v τ => v = some (.int (mKn σ p.toNatClampNeg q.toNatClampNeg)) ∧ τ = σ)
set_option maxRecDepth 100000 in
set_option maxHeartbeats 4000000 in
theorem CX12_knownEnvy (g : jG) (n : Nat) : jOk g (n + 4) mX12_knownEnvy oX12_knownEnvy := by
  refine joRII_ok ?_
  rintro _ p q σ ⟨rfl, h0, h1, h2⟩
  by_cases h3 : 0 ≤ mD σ p.toNatClampNeg 2
  · by_cases h4 : 0 ≤ mD σ q.toNatClampNeg 2
    · have h5 : jin (mD σ p.toNatClampNeg 2) 6 := h0 _ (jin_lt h1) h3
      have h6 : jin (mD σ q.toNatClampNeg 2) 6 := h0 _ (jin_lt h2) h4
      refine jCon.ofF (by decide +kernel) (by simp [lg_sl, Value.category]) ?_
      refine jvk_ok TX12_knownEnvy (V := [(229, 2, 12, oX12_hasRoom), (232, 3, 12, oX12_envy)]) (S := []) (List.forall_mem_cons.mpr ⟨⟨mX12_hasRoom, n + 2, 1, TX12, 53, rfl, by omega, kX12_229, WX12_hasRoom, rfl, CX12_hasRoom g (n)⟩, (List.forall_mem_cons.mpr ⟨⟨mX12_envy, n + 3, 2, TX12, 53, rfl, by omega, kX12_232, WX12_envy, rfl, CX12_envy g (n)⟩, (fun _ h => absurd h List.not_mem_nil)⟩)⟩) (fun _ h => absurd h List.not_mem_nil) [] 60 _ _ _ _ ?_
      simp (maxSteps := 1000000) [↓Bool.cond_eq_ite, -Prod.forall, -Prod.exists, -Prod.mk.injEq, jvk, tX12_knownEnvy, jtb, jol, jst, jlk, jcmp, jbin, jfl, fX12, jc2, lX12, jcat, jel, lv_args, Value.category, jins, jsrt, jins2, jble, jblt, jf3, List.filter_cons, List.filter_nil, G_m, oX12_hasRoom, oX12_envy, joRI, joRII, h1, h2, i3le h3, i3le h4, h5, h6, mKn]
    · refine jCon.ofF (by decide +kernel) (by simp [lg_sl, Value.category]) ?_
      refine jvk_ok TX12_knownEnvy (V := [(229, 2, 12, oX12_hasRoom), (232, 3, 12, oX12_envy)]) (S := []) (List.forall_mem_cons.mpr ⟨⟨mX12_hasRoom, n + 2, 1, TX12, 53, rfl, by omega, kX12_229, WX12_hasRoom, rfl, CX12_hasRoom g (n)⟩, (List.forall_mem_cons.mpr ⟨⟨mX12_envy, n + 3, 2, TX12, 53, rfl, by omega, kX12_232, WX12_envy, rfl, CX12_envy g (n)⟩, (fun _ h => absurd h List.not_mem_nil)⟩)⟩) (fun _ h => absurd h List.not_mem_nil) [] 60 _ _ _ _ ?_
      simp (maxSteps := 1000000) [↓Bool.cond_eq_ite, -Prod.forall, -Prod.exists, -Prod.mk.injEq, jvk, tX12_knownEnvy, jtb, jol, jst, jlk, jcmp, jbin, jfl, fX12, jc2, lX12, jcat, jel, lv_args, Value.category, jins, jsrt, jins2, jble, jblt, jf3, List.filter_cons, List.filter_nil, G_m, oX12_hasRoom, oX12_envy, joRI, joRII, h1, h2, i3le h3, i3nle h4, mKn]
  · refine jCon.ofF (by decide +kernel) (by simp [lg_sl, Value.category]) ?_
    refine jvk_ok TX12_knownEnvy (V := [(229, 2, 12, oX12_hasRoom), (232, 3, 12, oX12_envy)]) (S := []) (List.forall_mem_cons.mpr ⟨⟨mX12_hasRoom, n + 2, 1, TX12, 53, rfl, by omega, kX12_229, WX12_hasRoom, rfl, CX12_hasRoom g (n)⟩, (List.forall_mem_cons.mpr ⟨⟨mX12_envy, n + 3, 2, TX12, 53, rfl, by omega, kX12_232, WX12_envy, rfl, CX12_envy g (n)⟩, (fun _ h => absurd h List.not_mem_nil)⟩)⟩) (fun _ h => absurd h List.not_mem_nil) [] 60 _ _ _ _ ?_
    simp (maxSteps := 1000000) [↓Bool.cond_eq_ite, -Prod.forall, -Prod.exists, -Prod.mk.injEq, jvk, tX12_knownEnvy, jtb, jol, jst, jlk, jcmp, jbin, jfl, fX12, jc2, lX12, jcat, jel, lv_args, Value.category, jins, jsrt, jins2, jble, jblt, jf3, List.filter_cons, List.filter_nil, G_m, oX12_hasRoom, oX12_envy, joRI, joRII, h1, h2, i3nle h3, mKn]
def oX12_envyOf : jO := joRII fun a p q σ => (a = 322 ∧ mOK σ ∧ dRm (σ.1 323), fun v τ => v = some (.int (if mP σ p = true ∧ mP σ q = true then mKn σ p.toNatClampNeg q.toNatClampNeg else 0)) ∧ τ = jup σ 322 11 (if mP σ p = true ∧ mP σ q = true then 0 else 1))
theorem mKn_th (σ : jM) (x : Int32) (p q : Nat) : mKn (jup σ 322 11 x) p q = mKn σ p q := rfl
theorem dRm_th {σ : jM} (h : dRm (σ.1 323)) (x : Int32) : dRm ((jup σ 322 11 x).1 323) := h
set_option maxRecDepth 100000 in
set_option maxHeartbeats 4000000 in
theorem CX12_envyOf (g : jG) (n : Nat) : jOk g (n + 5) mX12_envyOf oX12_envyOf := by
  refine joRII_ok ?_
  rintro _ p q σ ⟨rfl, hok, h0⟩
  by_cases h1 : mP σ p = true
  · by_cases h2 : mP σ q = true
    · have h3 := (mP_jin hok h1).2
      have h4 := (mP_jin hok h2).2
      refine jCon.ofF (by decide +kernel) (by simp [lg_sl, Value.category]) ?_
      refine jvk_ok TX12_envyOf (V := [(135, 2, 12, oX12_isPerson), (138, 2, 12, oX12_fails), (235, 3, 12, oX12_knownEnvy)]) (S := []) (List.forall_mem_cons.mpr ⟨⟨mX12_isPerson, n + 1, 1, TX12, 53, rfl, by omega, kX12_135, WX12_isPerson, rfl, CX12_isPerson g (n)⟩, (List.forall_mem_cons.mpr ⟨⟨mX12_fails, n + 0, 1, TX12, 53, rfl, by omega, kX12_138, WX12_fails, rfl, CX12_fails g (n)⟩, (List.forall_mem_cons.mpr ⟨⟨mX12_knownEnvy, n + 4, 2, TX12, 53, rfl, by omega, kX12_235, WX12_knownEnvy, rfl, CX12_knownEnvy g (n)⟩, (fun _ h => absurd h List.not_mem_nil)⟩)⟩)⟩) (fun _ h => absurd h List.not_mem_nil) [] 60 _ _ _ _ ?_
      simp (maxSteps := 1000000) [↓Bool.cond_eq_ite, -Prod.forall, -Prod.exists, -Prod.mk.injEq, jvk, tX12_envyOf, jtb, jol, jst, jlk, jcmp, jbin, jfl, fX12, jc2, lX12, jcat, jel, lv_args, Value.category, jins, jsrt, jins2, jble, jblt, jf3, List.filter_cons, List.filter_nil, G_m, oX12_isPerson, oX12_fails, oX12_knownEnvy, joRI, joRII, h1, h2, h3, h4, dRm_th h0, mKn_th]
    · refine jCon.ofF (by decide +kernel) (by simp [lg_sl, Value.category]) ?_
      refine jvk_ok TX12_envyOf (V := [(135, 2, 12, oX12_isPerson), (138, 2, 12, oX12_fails), (235, 3, 12, oX12_knownEnvy)]) (S := []) (List.forall_mem_cons.mpr ⟨⟨mX12_isPerson, n + 1, 1, TX12, 53, rfl, by omega, kX12_135, WX12_isPerson, rfl, CX12_isPerson g (n)⟩, (List.forall_mem_cons.mpr ⟨⟨mX12_fails, n + 0, 1, TX12, 53, rfl, by omega, kX12_138, WX12_fails, rfl, CX12_fails g (n)⟩, (List.forall_mem_cons.mpr ⟨⟨mX12_knownEnvy, n + 4, 2, TX12, 53, rfl, by omega, kX12_235, WX12_knownEnvy, rfl, CX12_knownEnvy g (n)⟩, (fun _ h => absurd h List.not_mem_nil)⟩)⟩)⟩) (fun _ h => absurd h List.not_mem_nil) [] 60 _ _ _ _ ?_
      simp (maxSteps := 1000000) [↓Bool.cond_eq_ite, -Prod.forall, -Prod.exists, -Prod.mk.injEq, jvk, tX12_envyOf, jtb, jol, jst, jlk, jcmp, jbin, jfl, fX12, jc2, lX12, jcat, jel, lv_args, Value.category, jins, jsrt, jins2, jble, jblt, jf3, List.filter_cons, List.filter_nil, G_m, oX12_isPerson, oX12_fails, oX12_knownEnvy, joRI, joRII, h1, h2]
  · refine jCon.ofF (by decide +kernel) (by simp [lg_sl, Value.category]) ?_
    refine jvk_ok TX12_envyOf (V := [(135, 2, 12, oX12_isPerson), (138, 2, 12, oX12_fails), (235, 3, 12, oX12_knownEnvy)]) (S := []) (List.forall_mem_cons.mpr ⟨⟨mX12_isPerson, n + 1, 1, TX12, 53, rfl, by omega, kX12_135, WX12_isPerson, rfl, CX12_isPerson g (n)⟩, (List.forall_mem_cons.mpr ⟨⟨mX12_fails, n + 0, 1, TX12, 53, rfl, by omega, kX12_138, WX12_fails, rfl, CX12_fails g (n)⟩, (List.forall_mem_cons.mpr ⟨⟨mX12_knownEnvy, n + 4, 2, TX12, 53, rfl, by omega, kX12_235, WX12_knownEnvy, rfl, CX12_knownEnvy g (n)⟩, (fun _ h => absurd h List.not_mem_nil)⟩)⟩)⟩) (fun _ h => absurd h List.not_mem_nil) [] 60 _ _ _ _ ?_
    simp (maxSteps := 1000000) [↓Bool.cond_eq_ite, -Prod.forall, -Prod.exists, -Prod.mk.injEq, jvk, tX12_envyOf, jtb, jol, jst, jlk, jcmp, jbin, jfl, fX12, jc2, lX12, jcat, jel, lv_args, Value.category, jins, jsrt, jins2, jble, jblt, jf3, List.filter_cons, List.filter_nil, G_m, oX12_isPerson, oX12_fails, oX12_knownEnvy, joRI, joRII, h1]
