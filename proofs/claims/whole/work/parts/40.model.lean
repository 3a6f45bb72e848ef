/-! the reference (cell 322): its row of numbers (323) and what it reads of it -/
theorem tn_nI {i : Int32} {n : Nat} (h : jin i n) : i = nI i.toNatClampNeg ∧ i.toNatClampNeg < n ∧ i.toNatClampNeg < 2147483648 := by
  have h0 := jin_lt h
  have h1 : ¬ i < 0 := by
    rw [Int32.lt_iff_toInt_lt]
    have := h.1
    simp only [Int32.toInt_zero]
    omega
  obtain ⟨j, h2, h3⟩ := nI_of h1
  subst h3
  rw [nI_clamp h2] at h0 ⊢
  exact ⟨rfl, h0, h2⟩
theorem jin_add {i : Int32} {n m a : Nat} (h : jin i n) (ha : a + n ≤ m) (hm : m < 2147483648) : jin (nI a + i) m ∧ (nI a + i).toNatClampNeg = a + i.toNatClampNeg := by
  obtain ⟨h1, h2, h3⟩ := tn_nI h
  rw [h1, nI_add, nI_clamp (by omega), nI_clamp h3]
  exact ⟨jin_nI (by omega) (by omega), rfl⟩
def oX12_thrown : jO := joR fun a σ => (a = 322, fun v τ => v = some (.int (σ.1 322 11)) ∧ τ = σ)
set_option maxRecDepth 100000 in
set_option maxHeartbeats 4000000 in
theorem CX12_thrown (g : jG) (n : Nat) : jOk g (n + 0) mX12_thrown oX12_thrown := by
  refine joR_ok ?_
  rintro _ σ rfl
  refine jCon.ofF (by decide +kernel) (by simp [lg_sl, Value.category]) ?_
  refine jvk_ok TX12_thrown (V := []) (S := []) (fun _ h => absurd h List.not_mem_nil) (fun _ h => absurd h List.not_mem_nil) [] 10 _ _ _ _ ?_
  simp (maxSteps := 1000000) [↓Bool.cond_eq_ite, -Prod.forall, -Prod.exists, -Prod.mk.injEq, jvk, tX12_thrown, jtb, jol, jst, jlk, jcmp, jbin, jfl, fX12, jc2, lX12, jcat, jel, lv_args, Value.category, jins, jsrt, jins2, jble, jblt, jf3, List.filter_cons, List.filter_nil, G_m]
def mIn (x l h : Int32) : Bool := decide (l ≤ x ∧ x ≤ h)
def oX12_inRange : jO := joIII fun x l h σ => (True, fun v τ => v = some (.int (if mIn x l h then 1 else 0)) ∧ τ = σ)
set_option maxRecDepth 100000 in
set_option maxHeartbeats 4000000 in
theorem CX12_inRange (g : jG) (n : Nat) : jOk g (n + 0) mX12_inRange oX12_inRange := by
  refine joIII_ok ?_
  rintro x l h σ -
  refine jCon.ofF (by decide +kernel) (by simp [lg_sl, Value.category]) ?_
  refine jvk_ok TX12_inRange (V := []) (S := []) (fun _ h => absurd h List.not_mem_nil) (fun _ h => absurd h List.not_mem_nil) [] 30 _ _ _ _ ?_
  simp (maxSteps := 1000000) [↓Bool.cond_eq_ite, -Prod.forall, -Prod.exists, -Prod.mk.injEq, jvk, tX12_inRange, jtb, jol, jst, jlk, jcmp, jbin, jfl, fX12, jc2, lX12, jcat, jel, lv_args, Value.category, jins, jsrt, jins2, jble, jblt, jf3, List.filter_cons, List.filter_nil, G_m, mIn]
  grind
def oX12_fails : jO := joRI fun a x σ => (a = 322 ∧ (x = 0 ∨ x = 1), fun v τ => v = some (.int (1 - x)) ∧ τ = jup σ 322 11 (1 - x))
set_option maxRecDepth 100000 in
set_option maxHeartbeats 4000000 in
theorem CX12_fails (g : jG) (n : Nat) : jOk g (n + 0) mX12_fails oX12_fails := by
  refine joRI_ok ?_
  rintro _ x σ ⟨rfl, hx⟩
  rcases hx with rfl | rfl
  · refine jCon.ofF (by decide +kernel) (by simp [lg_sl, Value.category]) ?_
    refine jvk_ok TX12_fails (V := []) (S := []) (fun _ h => absurd h List.not_mem_nil) (fun _ h => absurd h List.not_mem_nil) [] 30 _ _ _ _ ?_
    simp (maxSteps := 1000000) [↓Bool.cond_eq_ite, -Prod.forall, -Prod.exists, -Prod.mk.injEq, jvk, tX12_fails, jtb, jol, jst, jlk, jcmp, jbin, jfl, fX12, jc2, lX12, jcat, jel, lv_args, Value.category, jins, jsrt, jins2, jble, jblt, jf3, List.filter_cons, List.filter_nil, G_m]
  · refine jCon.ofF (by decide +kernel) (by simp [lg_sl, Value.category]) ?_
    refine jvk_ok TX12_fails (V := []) (S := []) (fun _ h => absurd h List.not_mem_nil) (fun _ h => absurd h List.not_mem_nil) [] 30 _ _ _ _ ?_
    simp (maxSteps := 1000000) [↓Bool.cond_eq_ite, -Prod.forall, -Prod.exists, -Prod.mk.injEq, jvk, tX12_fails, jtb, jol, jst, jlk, jcmp, jbin, jfl, fX12, jc2, lX12, jcat, jel, lv_args, Value.category, jins, jsrt, jins2, jble, jblt, jf3, List.filter_cons, List.filter_nil, G_m]
def mR (σ : jM) (x : Int32) : Bool := mIn x 0 (σ.1 322 3 - 1)
def mP (σ : jM) (x : Int32) : Bool := mIn x 0 (σ.1 322 4 - 1)
def oX12_isRoom : jO := joRI fun a x σ => (a = 322, fun v τ => v = some (.int (if mR σ x then 1 else 0)) ∧ τ = σ)
set_option maxRecDepth 100000 in
set_option maxHeartbeats 4000000 in
theorem CX12_isRoom (g : jG) (n : Nat) : jOk g (n + 1) mX12_isRoom oX12_isRoom := by
  refine joRI_ok ?_
  rintro _ x σ rfl
  refine jCon.ofF (by decide +kernel) (by simp [lg_sl, Value.category]) ?_
  refine jvk_ok TX12_isRoom (V := []) (S := [(117, 3, 0, oX12_inRange)]) (fun _ h => absurd h List.not_mem_nil) (List.forall_mem_cons.mpr ⟨⟨mX12_inRange, n + 0, by omega, Or.inl kX12_117, WX12_inRange, CX12_inRange g (n)⟩, (fun _ h => absurd h List.not_mem_nil)⟩) [] 30 _ _ _ _ ?_
  simp (maxSteps := 1000000) [↓Bool.cond_eq_ite, -Prod.forall, -Prod.exists, -Prod.mk.injEq, jvk, tX12_isRoom, jtb, jol, jst, jlk, jcmp, jbin, jfl, fX12, jc2, lX12, jcat, jel, lv_args, Value.category, jins, jsrt, jins2, jble, jblt, jf3, List.filter_cons, List.filter_nil, G_m, oX12_inRange, joIII, mR]
  grind
def oX12_isPerson : jO := joRI fun a x σ => (a = 322, fun v τ => v = some (.int (if mP σ x then 1 else 0)) ∧ τ = σ)
set_option maxRecDepth 100000 in
set_option maxHeartbeats 4000000 in
theorem CX12_isPerson (g : jG) (n : Nat) : jOk g (n + 1) mX12_isPerson oX12_isPerson := by
  refine joRI_ok ?_
  rintro _ x σ rfl
  refine jCon.ofF (by decide +kernel) (by simp [lg_sl, Value.category]) ?_
  refine jvk_ok TX12_isPerson (V := []) (S := [(117, 3, 0, oX12_inRange)]) (fun _ h => absurd h List.not_mem_nil) (List.forall_mem_cons.mpr ⟨⟨mX12_inRange, n + 0, by omega, Or.inl kX12_117, WX12_inRange, CX12_inRange g (n)⟩, (fun _ h => absurd h List.not_mem_nil)⟩) [] 30 _ _ _ _ ?_
  simp (maxSteps := 1000000) [↓Bool.cond_eq_ite, -Prod.forall, -Prod.exists, -Prod.mk.injEq, jvk, tX12_isPerson, jtb, jol, jst, jlk, jcmp, jbin, jfl, fX12, jc2, lX12, jcat, jel, lv_args, Value.category, jins, jsrt, jins2, jble, jblt, jf3, List.filter_cons, List.filter_nil, G_m, oX12_inRange, joIII, mP]
  grind
def mpl (p w : Int32) : Nat := 8 + 20 * p.toNatClampNeg + w.toNatClampNeg
theorem mpl_lt {p w : Int32} (h1 : jin p 10) (h2 : jin w 20) : mpl p w < 208 := by
  have := jin_lt h1
  have := jin_lt h2
  unfold mpl
  omega
def oX12_place : jO := joII fun p w σ => (jin p 10 ∧ jin w 20, fun v τ => v = some (.int (nI (mpl p w))) ∧ τ = σ)
set_option maxRecDepth 100000 in
set_option maxHeartbeats 4000000 in
theorem CX12_place (g : jG) (n : Nat) : jOk g (n + 0) mX12_place oX12_place := by
  refine joII_ok ?_
  rintro p w σ ⟨h1, h2⟩
  refine jCon.ofF (by decide +kernel) (by simp [lg_sl, Value.category]) ?_
  refine jvk_ok TX12_place (V := []) (S := []) (fun _ h => absurd h List.not_mem_nil) (fun _ h => absurd h List.not_mem_nil) [] 30 _ _ _ _ ?_
  simp (maxSteps := 1000000) [↓Bool.cond_eq_ite, -Prod.forall, -Prod.exists, -Prod.mk.injEq, jvk, tX12_place, jtb, jol, jst, jlk, jcmp, jbin, jfl, fX12, jc2, lX12, jcat, jel, lv_args, Value.category, jins, jsrt, jins2, jble, jblt, jf3, List.filter_cons, List.filter_nil, G_m]
  obtain ⟨a1, a2, a3⟩ := tn_nI h1
  obtain ⟨b1, b2, b3⟩ := tn_nI h2
  rw [a1, b1]
  unfold mpl
  rw [nI_clamp a3, nI_clamp b3]
  rw [show (8 : Int32) = nI 8 from rfl, show (20 : Int32) = nI 20 from rfl, pk_mul, nI_add, nI_add]
/-- a person's number by its place -/
def mD (σ : jM) (p w : Nat) : Int32 := σ.1 323 (8 + 20 * p + w)
def oX12_of : jO := joRII fun a p w σ => (a = 322 ∧ jin p 10 ∧ jin w 20, fun v τ => v = some (.int (mD σ p.toNatClampNeg w.toNatClampNeg)) ∧ τ = σ)
set_option maxRecDepth 100000 in
set_option maxHeartbeats 4000000 in
theorem CX12_of (g : jG) (n : Nat) : jOk g (n + 1) mX12_of oX12_of := by
  refine joRII_ok ?_
  rintro _ p w σ ⟨rfl, h1, h2⟩
  have := mpl_lt h1 h2
  refine jCon.ofF (by decide +kernel) (by simp [lg_sl, Value.category]) ?_
  refine jvk_ok TX12_of (V := []) (S := [(124, 2, 0, oX12_place)]) (fun _ h => absurd h List.not_mem_nil) (List.forall_mem_cons.mpr ⟨⟨mX12_place, n + 0, by omega, Or.inl kX12_124, WX12_place, CX12_place g (n)⟩, (fun _ h => absurd h List.not_mem_nil)⟩) [] 30 _ _ _ _ ?_
  simp (maxSteps := 1000000) [↓Bool.cond_eq_ite, -Prod.forall, -Prod.exists, -Prod.mk.injEq, jvk, tX12_of, jtb, jol, jst, jlk, jcmp, jbin, jfl, fX12, jc2, lX12, jcat, jel, lv_args, Value.category, jins, jsrt, jins2, jble, jblt, jf3, List.filter_cons, List.filter_nil, G_m, oX12_place, joII, h1, h2]
  rw [nI_clamp (by omega)]
  exact ⟨jin_nI this (by decide), rfl⟩
def oX12_value : jO := joRII fun a p r σ => (a = 322 ∧ jin p 10 ∧ jin r 6, fun v τ => v = some (.int (mD σ p.toNatClampNeg (7 + r.toNatClampNeg))) ∧ τ = σ)
set_option maxRecDepth 100000 in
set_option maxHeartbeats 4000000 in
theorem CX12_value (g : jG) (n : Nat) : jOk g (n + 2) mX12_value oX12_value := by
  refine joRII_ok ?_
  rintro _ p r σ ⟨rfl, h1, h2⟩
  obtain ⟨h3, h4⟩ := jin_add (a := 7) (m := 20) h2 (by decide) (by decide)
  have h3 : jin (7 + r) 20 := h3
  have h4 : (7 + r).toNatClampNeg = 7 + r.toNatClampNeg := h4
  refine jCon.ofF (by decide +kernel) (by simp [lg_sl, Value.category]) ?_
  refine jvk_ok TX12_value (V := [(128, 3, 12, oX12_of)]) (S := []) (List.forall_mem_cons.mpr ⟨⟨mX12_of, n + 1, 2, TX12, 53, rfl, by omega, kX12_128, WX12_of, rfl, CX12_of g (n)⟩, (fun _ h => absurd h List.not_mem_nil)⟩) (fun _ h => absurd h List.not_mem_nil) [] 30 _ _ _ _ ?_
  simp (maxSteps := 1000000) [↓Bool.cond_eq_ite, -Prod.forall, -Prod.exists, -Prod.mk.injEq, jvk, tX12_value, jtb, jol, jst, jlk, jcmp, jbin, jfl, fX12, jc2, lX12, jcat, jel, lv_args, Value.category, jins, jsrt, jins2, jble, jblt, jf3, List.filter_cons, List.filter_nil, G_m, oX12_of, joRII, h1, h3, h4]
def oX12_isRefused : jO := joRII fun a p r σ => (a = 322 ∧ jin p 10 ∧ jin r 6, fun v τ => v = some (.int (if mD σ p.toNatClampNeg (13 + r.toNatClampNeg) = 1 then 1 else 0)) ∧ τ = σ)
set_option maxRecDepth 100000 in
set_option maxHeartbeats 4000000 in
theorem CX12_isRefused (g : jG) (n : Nat) : jOk g (n + 2) mX12_isRefused oX12_isRefused := by
  refine joRII_ok ?_
  rintro _ p r σ ⟨rfl, h1, h2⟩
  obtain ⟨h3, h4⟩ := jin_add (a := 13) (m := 20) h2 (by decide) (by decide)
  have h3 : jin (13 + r) 20 := h3
  have h4 : (13 + r).toNatClampNeg = 13 + r.toNatClampNeg := h4
  refine jCon.ofF (by decide +kernel) (by simp [lg_sl, Value.category]) ?_
  refine jvk_ok TX12_isRefused (V := [(128, 3, 12, oX12_of)]) (S := []) (List.forall_mem_cons.mpr ⟨⟨mX12_of, n + 1, 2, TX12, 53, rfl, by omega, kX12_128, WX12_of, rfl, CX12_of g (n)⟩, (fun _ h => absurd h List.not_mem_nil)⟩) (fun _ h => absurd h List.not_mem_nil) [] 30 _ _ _ _ ?_
  simp (maxSteps := 1000000) [↓Bool.cond_eq_ite, -Prod.forall, -Prod.exists, -Prod.mk.injEq, jvk, tX12_isRefused, jtb, jol, jst, jlk, jcmp, jbin, jfl, fX12, jc2, lX12, jcat, jel, lv_args, Value.category, jins, jsrt, jins2, jble, jblt, jf3, List.filter_cons, List.filter_nil, G_m, oX12_of, joRII, h1, h3, h4]
theorem jin_c : jin 0 20 ∧ jin 1 20 ∧ jin 2 20 ∧ jin 3 20 ∧ jin 4 20 ∧ jin 5 20 ∧ jin 6 20 := by
  unfold jin; decide
theorem tn_c : (0 : Int32).toNatClampNeg = 0 ∧ (1 : Int32).toNatClampNeg = 1 ∧ (2 : Int32).toNatClampNeg = 2 ∧ (3 : Int32).toNatClampNeg = 3 ∧ (4 : Int32).toNatClampNeg = 4 ∧ (5 : Int32).toNatClampNeg = 5 ∧ (6 : Int32).toNatClampNeg = 6 ∧ (7 : Int32).toNatClampNeg = 7 ∧ (10 : Int32).toNatClampNeg = 10 := by decide
def oX12_isLiving : jO := joRI fun a p σ => (a = 322 ∧ jin p 10, fun v τ => v = some (.int (if mD σ p.toNatClampNeg 0 = 1 then 1 else 0)) ∧ τ = σ)
set_option maxRecDepth 100000 in
set_option maxHeartbeats 4000000 in
theorem CX12_isLiving (g : jG) (n : Nat) : jOk g (n + 2) mX12_isLiving oX12_isLiving := by
  refine joRI_ok ?_
  rintro _ p σ ⟨rfl, h1⟩
  refine jCon.ofF (by decide +kernel) (by simp [lg_sl, Value.category]) ?_
  refine jvk_ok TX12_isLiving (V := [(128, 3, 12, oX12_of)]) (S := []) (List.forall_mem_cons.mpr ⟨⟨mX12_of, n + 1, 2, TX12, 53, rfl, by omega, kX12_128, WX12_of, rfl, CX12_of g (n)⟩, (fun _ h => absurd h List.not_mem_nil)⟩) (fun _ h => absurd h List.not_mem_nil) [] 30 _ _ _ _ ?_
  simp (maxSteps := 1000000) [↓Bool.cond_eq_ite, -Prod.forall, -Prod.exists, -Prod.mk.injEq, jvk, tX12_isLiving, jtb, jol, jst, jlk, jcmp, jbin, jfl, fX12, jc2, lX12, jcat, jel, lv_args, Value.category, jins, jsrt, jins2, jble, jblt, jf3, List.filter_cons, List.filter_nil, G_m, oX12_of, joRII, h1, jin_c, tn_c]
def oX12_hasRoom : jO := joRI fun a p σ => (a = 322 ∧ jin p 10, fun v τ => v = some (.int (if 0 ≤ mD σ p.toNatClampNeg 2 then 1 else 0)) ∧ τ = σ)
set_option maxRecDepth 100000 in
set_option maxHeartbeats 4000000 in
theorem CX12_hasRoom (g : jG) (n : Nat) : jOk g (n + 2) mX12_hasRoom oX12_hasRoom := by
  refine joRI_ok ?_
  rintro _ p σ ⟨rfl, h1⟩
  refine jCon.ofF (by decide +kernel) (by simp [lg_sl, Value.category]) ?_
  refine jvk_ok TX12_hasRoom (V := [(128, 3, 12, oX12_of)]) (S := []) (List.forall_mem_cons.mpr ⟨⟨mX12_of, n + 1, 2, TX12, 53, rfl, by omega, kX12_128, WX12_of, rfl, CX12_of g (n)⟩, (fun _ h => absurd h List.not_mem_nil)⟩) (fun _ h => absurd h List.not_mem_nil) [] 30 _ _ _ _ ?_
  simp (maxSteps := 1000000) [↓Bool.cond_eq_ite, -Prod.forall, -Prod.exists, -Prod.mk.injEq, jvk, tX12_hasRoom, jtb, jol, jst, jlk, jcmp, jbin, jfl, fX12, jc2, lX12, jcat, jel, lv_args, Value.category, jins, jsrt, jins2, jble, jblt, jf3, List.filter_cons, List.filter_nil, G_m, oX12_of, joRII, h1, jin_c, tn_c]
/-- how many rooms, people and plans there may be -/
def mOK (σ : jM) : Prop := (0 ≤ σ.1 322 4 ∧ σ.1 322 4 ≤ 10) ∧ (0 ≤ σ.1 322 3 ∧ σ.1 322 3 ≤ 6) ∧ 0 ≤ σ.1 322 5 ∧ σ.1 322 5 ≤ 20
def mN (σ : jM) : Nat := (σ.1 322 4).toNatClampNeg
theorem mIn_jin {x h : Int32} {N : Nat} (hh : h = nI N) (hN : N ≤ 1000000) (q : mIn x 0 (h - 1) = true) : jin x N := by
  subst hh
  simp only [mIn, decide_eq_true_eq] at q
  obtain ⟨q1, q2⟩ := q
  rw [Int32.le_iff_toInt_le] at q1 q2
  rw [show (1 : Int32) = nI 1 from rfl, pk_sub_toInt (by omega) (by omega)] at q2
  simp only [Int32.toInt_zero] at q1
  exact ⟨q1, by omega⟩
theorem jin_le {x : Int32} {n m : Nat} (h : jin x n) (hm : n ≤ m) : jin x m := ⟨h.1, by have := h.2; omega⟩
theorem mP_jin {σ : jM} (h : mOK σ) {x : Int32} (q : mP σ x = true) : jin x (mN σ) ∧ jin x 10 := by
  obtain ⟨N, hN, hN1, hN2⟩ := nI_rng h.1.1 h.1.2 (by decide)
  have := mIn_jin hN1 (by omega) q
  rw [mN, hN2]
  exact ⟨this, jin_le this hN⟩
theorem mR_jin {σ : jM} (h : mOK σ) {x : Int32} (q : mR σ x = true) : jin x (σ.1 322 3).toNatClampNeg ∧ jin x 6 := by
  obtain ⟨N, hN, hN1, hN2⟩ := nI_rng h.2.1.1 h.2.1.2 (by decide)
  have := mIn_jin hN1 (by omega) q
  rw [hN2]
  exact ⟨this, jin_le this hN⟩
/-- how many are LIVING -/
def mLiv (σ : jM) : Nat := cn (fun j => decide (mD σ j 0 = 1)) (mN σ)
def oX12_living : jO := joR fun a σ => (a = 322 ∧ mOK σ, fun v τ => v = some (.int (nI (mLiv σ))) ∧ τ = σ)
set_option maxRecDepth 100000 in
set_option maxHeartbeats 4000000 in
theorem CX12_living (g : jG) (n : Nat) : jOk g (n + 3) mX12_living oX12_living := by
  refine joR_ok ?_
  rintro _ σ ⟨rfl, hok⟩
  obtain ⟨N, hN, hN1, hN2⟩ := nI_rng hok.1.1 hok.1.2 (by decide)
  refine jCon.ofP (by decide +kernel) (by simp [lg_sl, Value.category]) (fun post hp => ?_)
  refine jvk_ok TX12_living (V := [(131, 2, 12, oX12_isLiving)]) (S := []) (List.forall_mem_cons.mpr ⟨⟨mX12_isLiving, n + 2, 1, TX12, 53, rfl, by omega, kX12_131, WX12_isLiving, rfl, CX12_isLiving g (n)⟩, (fun _ h => absurd h List.not_mem_nil)⟩) (fun _ h => absurd h List.not_mem_nil) [4] 30 _ _ _ _ ?_
  simp (maxSteps := 1000000) [↓Bool.cond_eq_ite, -Prod.forall, -Prod.exists, -Prod.mk.injEq, jvk, tX12_living, jtb, jol, jst, jlk, jcmp, jbin, jfl, fX12, jc2, lX12, jcat, jel, lv_args, Value.category, jins, jsrt, jins2, jble, jblt, jf3, List.filter_cons, List.filter_nil, G_m, oX12_isLiving, joRI]
  have key := jloop (P := fun k => jW g mX12_living (n + 3) post 4 [(0, .ref 322), (1, .int (nI (cn (fun j => decide (mD σ j 0 = 1)) k))), (2, .int (nI k))] [] σ) (N := N) (by
    refine jvk_ok TX12_living (V := [(131, 2, 12, oX12_isLiving)]) (S := []) (List.forall_mem_cons.mpr ⟨⟨mX12_isLiving, n + 2, 1, TX12, 53, rfl, by omega, kX12_131, WX12_isLiving, rfl, CX12_isLiving g (n)⟩, (fun _ h => absurd h List.not_mem_nil)⟩) (fun _ h => absurd h List.not_mem_nil) [4] 30 _ _ _ _ ?_
    simp (maxSteps := 1000000) [↓Bool.cond_eq_ite, -Prod.forall, -Prod.exists, -Prod.mk.injEq, jvk, tX12_living, jtb, jol, jst, jlk, jcmp, jbin, jfl, fX12, jc2, lX12, jcat, jel, lv_args, Value.category, jins, jsrt, jins2, jble, jblt, jf3, List.filter_cons, List.filter_nil, G_m, oX12_isLiving, joRI, nI_1, hN1]
    try simp (disch := omega) [nI_1, nI_clamp, nI_leI, nI_ltI, nI_eq, nI_m1, NL_0, NL_1, NL_2, NL_3, NL_5, NL_6, NL_9, NL_10, NL_11, NL_12, NL_20, NL_24, NL_25, NL_60, NL_64, NL_90, NL_100, NL_120, NL_900, NL_999, NL_9999, NL_99999, NL_1000000, NL_208, NL_2080, NL_10000, hN1]
    exact hp _ _ ⟨by rw [mLiv, mN, hN2], rfl⟩) (fun k hk ih => by
    have := cn_le (fun j => decide (mD σ j 0 = 1)) k
    simp only [cn] at ih
    refine jvk_ok TX12_living (V := [(131, 2, 12, oX12_isLiving)]) (S := []) (List.forall_mem_cons.mpr ⟨⟨mX12_isLiving, n + 2, 1, TX12, 53, rfl, by omega, kX12_131, WX12_isLiving, rfl, CX12_isLiving g (n)⟩, (fun _ h => absurd h List.not_mem_nil)⟩) (fun _ h => absurd h List.not_mem_nil) [4] 30 _ _ _ _ ?_
    simp (maxSteps := 1000000) [↓Bool.cond_eq_ite, -Prod.forall, -Prod.exists, -Prod.mk.injEq, jvk, tX12_living, jtb, jol, jst, jlk, jcmp, jbin, jfl, fX12, jc2, lX12, jcat, jel, lv_args, Value.category, jins, jsrt, jins2, jble, jblt, jf3, List.filter_cons, List.filter_nil, G_m, oX12_isLiving, joRI, nI_1, hN1, nI_1]
    try simp (disch := omega) [nI_1, nI_clamp, nI_leI, nI_ltI, nI_eq, nI_m1, NL_0, NL_1, NL_2, NL_3, NL_5, NL_6, NL_9, NL_10, NL_11, NL_12, NL_20, NL_24, NL_25, NL_60, NL_64, NL_90, NL_100, NL_120, NL_900, NL_999, NL_9999, NL_99999, NL_1000000, NL_208, NL_2080, NL_10000, hN1, nI_1]
    refine ⟨fun h => by omega, fun _ => ⟨jin_nI (by omega) (by omega), fun h => ?_, fun h => ?_⟩⟩
    · simpa [h] using ih
    · simpa [h] using ih)
  simpa [nI_0, cn] using key
theorem mD_th (σ : jM) (x : Int32) (p w : Nat) : mD (jup σ 322 11 x) p w = mD σ p w := rfl
theorem mP_th (σ : jM) (x y : Int32) : mP (jup σ 322 11 x) y = mP σ y := rfl
theorem mR_th (σ : jM) (x y : Int32) : mR (jup σ 322 11 x) y = mR σ y := rfl
theorem mN_th (σ : jM) (x : Int32) : mN (jup σ 322 11 x) = mN σ := rfl
theorem mLiv_th (σ : jM) (x : Int32) : mLiv (jup σ 322 11 x) = mLiv σ := rfl
theorem mOK_th {σ : jM} (h : mOK σ) (x : Int32) : mOK (jup σ 322 11 x) := h
