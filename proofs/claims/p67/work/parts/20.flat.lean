/-! Flat, the one in use (cell 37) -/
def fP (σ : jM) (i : Int32) : Bool := decide (0 ≤ i ∧ i < σ.1 37 1 ∧ i < 10)
def fR (σ : jM) (i : Int32) : Bool := decide (0 ≤ i ∧ i < σ.1 37 0 ∧ i < 6)
theorem jin_of {i : Int32} {n : Nat} {m : Int32} (h0 : 0 ≤ i) (h1 : i < m) (hm : m.toInt = n) : jin i n := by
  constructor
  · simpa [Int32.le_iff_toInt_le] using h0
  · have := Int32.lt_iff_toInt_lt.mp h1
    omega
theorem jin_lt {i : Int32} {n : Nat} (h : jin i n) : i.toNatClampNeg < n := Nat.not_le.mp fun q => jin_vp h (Or.inr q)
theorem fP_jin {σ : jM} {p : Int32} (h : fP σ p = true) : jin p 10 := by
  simp only [fP, decide_eq_true_eq] at h
  exact jin_of h.1 h.2.2 rfl
theorem fR_jin {σ : jM} {p : Int32} (h : fR σ p = true) : jin p 6 := by
  simp only [fR, decide_eq_true_eq] at h
  exact jin_of h.1 h.2.2 rfl
def oX2_isPerson : jO := joRI fun a i σ => (a = 37, fun v τ => v = some (.int (if fP σ i then 1 else 0)) ∧ τ = σ)
set_option maxRecDepth 100000 in
set_option maxHeartbeats 4000000 in
theorem CX2_isPerson (g : jG) (n : Nat) : jOk g (n + 0) mX2_isPerson oX2_isPerson := by
  refine joRI_ok ?_
  rintro _ i σ rfl
  refine jCon.ofF (by decide +kernel) (by simp [lg_sl, Value.category]) ?_
  refine jvk_ok TX2_isPerson (V := []) (S := []) (fun _ h => absurd h List.not_mem_nil) (fun _ h => absurd h List.not_mem_nil) [] 30 _ _ _ _ ?_
  simp (maxSteps := 1000000) [↓Bool.cond_eq_ite, -Prod.forall, -Prod.exists, -Prod.mk.injEq, jvk, tX2_isPerson, jtb, jol, jst, jlk, jcmp, jbin, jfl, fX2, jc2, lX2, jcat, jel, lv_args, Value.category, jins, jsrt, jins2, jble, jblt, jf3, List.filter_cons, List.filter_nil, G_flat, fP]
  grind
def oX2_isRoom : jO := joRI fun a i σ => (a = 37, fun v τ => v = some (.int (if fR σ i then 1 else 0)) ∧ τ = σ)
set_option maxRecDepth 100000 in
set_option maxHeartbeats 4000000 in
theorem CX2_isRoom (g : jG) (n : Nat) : jOk g (n + 0) mX2_isRoom oX2_isRoom := by
  refine joRI_ok ?_
  rintro _ i σ rfl
  refine jCon.ofF (by decide +kernel) (by simp [lg_sl, Value.category]) ?_
  refine jvk_ok TX2_isRoom (V := []) (S := []) (fun _ h => absurd h List.not_mem_nil) (fun _ h => absurd h List.not_mem_nil) [] 30 _ _ _ _ ?_
  simp (maxSteps := 1000000) [↓Bool.cond_eq_ite, -Prod.forall, -Prod.exists, -Prod.mk.injEq, jvk, tX2_isRoom, jtb, jol, jst, jlk, jcmp, jbin, jfl, fX2, jc2, lX2, jcat, jel, lv_args, Value.category, jins, jsrt, jins2, jble, jblt, jf3, List.filter_cons, List.filter_nil, G_flat, fR]
  grind
def oX2_isLiving : jO := joRI fun a i σ => (a = 37, fun v τ => v = some (.int (if fP σ i ∧ σ.1 39 i.toNatClampNeg = 1 then 1 else 0)) ∧ τ = σ)
set_option maxRecDepth 100000 in
set_option maxHeartbeats 4000000 in
theorem CX2_isLiving (g : jG) (n : Nat) : jOk g (n + 1) mX2_isLiving oX2_isLiving := by
  refine joRI_ok ?_
  rintro _ i σ rfl
  refine jCon.ofF (by decide +kernel) (by simp [lg_sl, Value.category]) ?_
  refine jvk_ok TX2_isLiving (V := [(78, 2, 2, oX2_isPerson)]) (S := []) (List.forall_mem_cons.mpr ⟨⟨mX2_isPerson, n + 0, 1, TX2, 16, rfl, by omega, kX2_78, WX2_isPerson, rfl, CX2_isPerson g (n)⟩, (fun _ h => absurd h List.not_mem_nil)⟩) (fun _ h => absurd h List.not_mem_nil) [] 30 _ _ _ _ ?_
  simp (maxSteps := 1000000) [↓Bool.cond_eq_ite, -Prod.forall, -Prod.exists, -Prod.mk.injEq, jvk, tX2_isLiving, jtb, jol, jst, jlk, jcmp, jbin, jfl, fX2, jc2, lX2, jcat, jel, lv_args, Value.category, jins, jsrt, jins2, jble, jblt, jf3, List.filter_cons, List.filter_nil, G_flat, oX2_isPerson, joRI]
  refine ⟨fun a b => by grind, fun a => ⟨fP_jin a, by grind⟩⟩
/-- the value of a room for a person, or -1 -/
def fW (σ : jM) (p r : Int32) : Int32 := if fP σ p ∧ fR σ r then σ.1 (42 + p.toNatClampNeg) r.toNatClampNeg else -1
def oX2_worth : jO := joRII fun a p r σ => (a = 37, fun v τ => v = some (.int (fW σ p r)) ∧ τ = σ)
set_option maxRecDepth 100000 in
set_option maxHeartbeats 4000000 in
theorem CX2_worth (g : jG) (n : Nat) : jOk g (n + 1) mX2_worth oX2_worth := by
  refine joRII_ok ?_
  rintro _ p r σ rfl
  refine jCon.ofF (by decide +kernel) (by simp [lg_sl, Value.category]) ?_
  refine jvk_ok TX2_worth (V := [(78, 2, 2, oX2_isPerson), (85, 2, 2, oX2_isRoom)]) (S := []) (List.forall_mem_cons.mpr ⟨⟨mX2_isPerson, n + 0, 1, TX2, 16, rfl, by omega, kX2_78, WX2_isPerson, rfl, CX2_isPerson g (n)⟩, (List.forall_mem_cons.mpr ⟨⟨mX2_isRoom, n + 0, 1, TX2, 16, rfl, by omega, kX2_85, WX2_isRoom, rfl, CX2_isRoom g (n)⟩, (fun _ h => absurd h List.not_mem_nil)⟩)⟩) (fun _ h => absurd h List.not_mem_nil) [] 40 _ _ _ _ ?_
  simp (maxSteps := 1000000) [↓Bool.cond_eq_ite, -Prod.forall, -Prod.exists, -Prod.mk.injEq, jvk, tX2_worth, jtb, jol, jst, jlk, jcmp, jbin, jfl, fX2, jc2, lX2, jcat, jel, lv_args, Value.category, jins, jsrt, jins2, jble, jblt, jf3, List.filter_cons, List.filter_nil, G_flat, oX2_isPerson, oX2_isRoom, joRI, fW]
  refine ⟨fun a b => by grind, fun a => ⟨fun d e => by grind, fun d => ?_⟩⟩
  obtain ⟨h3, h4⟩ := wF_row _ (jin_lt (fP_jin a))
  simp [fP_jin a, fR_jin d, h3, h4, a, d]
def fV (σ : jM) (p r : Int32) : Int32 := if 0 ≤ fW σ p r then fW σ p r else 0
def oX2_value : jO := joRII fun a p r σ => (a = 37, fun v τ => v = some (.int (fV σ p r)) ∧ τ = σ)
set_option maxRecDepth 100000 in
set_option maxHeartbeats 4000000 in
theorem CX2_value (g : jG) (n : Nat) : jOk g (n + 2) mX2_value oX2_value := by
  refine joRII_ok ?_
  rintro _ p r σ rfl
  refine jCon.ofF (by decide +kernel) (by simp [lg_sl, Value.category]) ?_
  refine jvk_ok TX2_value (V := [(88, 3, 2, oX2_worth)]) (S := [(92, 2, 0, oJ9_max_7cf53)]) (List.forall_mem_cons.mpr ⟨⟨mX2_worth, n + 1, 2, TX2, 16, rfl, by omega, kX2_88, WX2_worth, rfl, CX2_worth g (n)⟩, (fun _ h => absurd h List.not_mem_nil)⟩) (List.forall_mem_cons.mpr ⟨⟨mJ9_max_7cf53, n + 0, by omega, Or.inl kX2_92, WJ9_max_7cf53, CJ9_max_7cf53 g (n)⟩, (fun _ h => absurd h List.not_mem_nil)⟩) [] 40 _ _ _ _ ?_
  simp (maxSteps := 1000000) [↓Bool.cond_eq_ite, -Prod.forall, -Prod.exists, -Prod.mk.injEq, jvk, tX2_value, jtb, jol, jst, jlk, jcmp, jbin, jfl, fX2, jc2, lX2, jcat, jel, lv_args, Value.category, jins, jsrt, jins2, jble, jblt, jf3, List.filter_cons, List.filter_nil, G_flat, oX2_worth, oJ9_max_7cf53, joII, joRII, fV]
  grind
def fH (σ : jM) (p : Int32) : Bool := fP σ p && decide (¬ σ.1 52 p.toNatClampNeg = -1)
theorem fH_P {σ : jM} {p : Int32} (h : fH σ p = true) : fP σ p = true := by
  simp only [fH, Bool.and_eq_true] at h
  exact h.1
def oX2_hasRoom : jO := joRI fun a i σ => (a = 37, fun v τ => v = some (.int (if fH σ i then 1 else 0)) ∧ τ = σ)
set_option maxRecDepth 100000 in
set_option maxHeartbeats 4000000 in
theorem CX2_hasRoom (g : jG) (n : Nat) : jOk g (n + 1) mX2_hasRoom oX2_hasRoom := by
  refine joRI_ok ?_
  rintro _ i σ rfl
  refine jCon.ofF (by decide +kernel) (by simp [lg_sl, Value.category]) ?_
  refine jvk_ok TX2_hasRoom (V := [(78, 2, 2, oX2_isPerson)]) (S := []) (List.forall_mem_cons.mpr ⟨⟨mX2_isPerson, n + 0, 1, TX2, 16, rfl, by omega, kX2_78, WX2_isPerson, rfl, CX2_isPerson g (n)⟩, (fun _ h => absurd h List.not_mem_nil)⟩) (fun _ h => absurd h List.not_mem_nil) [] 30 _ _ _ _ ?_
  simp (maxSteps := 1000000) [↓Bool.cond_eq_ite, -Prod.forall, -Prod.exists, -Prod.mk.injEq, jvk, tX2_hasRoom, jtb, jol, jst, jlk, jcmp, jbin, jfl, fX2, jc2, lX2, jcat, jel, lv_args, Value.category, jins, jsrt, jins2, jble, jblt, jf3, List.filter_cons, List.filter_nil, G_flat, oX2_isPerson, joRI, fH]
  refine ⟨fun a b => by grind, fun a => ⟨fP_jin a, by grind⟩⟩
def fAs (σ : jM) (p r y : Int32) : jM := if fP σ p then jup (jup σ 52 p.toNatClampNeg r) 53 p.toNatClampNeg y else σ
def oX2_assign : jO := joRIII fun a p r y σ => (a = 37, fun v τ => v = none ∧ τ = fAs σ p r y)
set_option maxRecDepth 100000 in
set_option maxHeartbeats 4000000 in
theorem CX2_assign (g : jG) (n : Nat) : jOk g (n + 1) mX2_assign oX2_assign := by
  refine joRIII_ok ?_
  rintro _ p r y σ rfl
  refine jCon.ofF (by decide +kernel) (by simp [lg_sl, Value.category]) ?_
  refine jvk_ok TX2_assign (V := [(78, 2, 2, oX2_isPerson)]) (S := []) (List.forall_mem_cons.mpr ⟨⟨mX2_isPerson, n + 0, 1, TX2, 16, rfl, by omega, kX2_78, WX2_isPerson, rfl, CX2_isPerson g (n)⟩, (fun _ h => absurd h List.not_mem_nil)⟩) (fun _ h => absurd h List.not_mem_nil) [] 30 _ _ _ _ ?_
  simp (maxSteps := 1000000) [↓Bool.cond_eq_ite, -Prod.forall, -Prod.exists, -Prod.mk.injEq, jvk, tX2_assign, jtb, jol, jst, jlk, jcmp, jbin, jfl, fX2, jc2, lX2, jcat, jel, lv_args, Value.category, jins, jsrt, jins2, jble, jblt, jf3, List.filter_cons, List.filter_nil, G_flat, oX2_isPerson, joRI, fAs]
  refine ⟨fun a b => by grind, fun a => ⟨fP_jin a, by grind⟩⟩
/-- how many rooms and people there may be -/
def fOK (σ : jM) : Prop := 0 ≤ σ.1 37 1 ∧ σ.1 37 1 ≤ 10 ∧ 0 ≤ σ.1 37 0 ∧ σ.1 37 0 ≤ 6
def fN (σ : jM) : Nat := (σ.1 37 1).toNatClampNeg
def oX2_countLiving : jO := joR fun a σ => (a = 37 ∧ fOK σ, fun v τ => v = some (.int (nI (cn (fun j => decide (σ.1 39 j = 1)) (fN σ)))) ∧ τ = σ)
set_option maxRecDepth 100000 in
set_option maxHeartbeats 4000000 in
theorem CX2_countLiving (g : jG) (n : Nat) : jOk g (n + 2) mX2_countLiving oX2_countLiving := by
  refine joR_ok ?_
  rintro _ σ ⟨rfl, hok⟩
  obtain ⟨N, hN, hN1, hN2⟩ := nI_rng hok.1 hok.2.1 (by decide)
  refine jCon.ofP (by decide +kernel) (by simp [lg_sl, Value.category]) (fun post hp => ?_)
  refine jvk_ok TX2_countLiving (V := [(82, 2, 2, oX2_isLiving)]) (S := []) (List.forall_mem_cons.mpr ⟨⟨mX2_isLiving, n + 1, 1, TX2, 16, rfl, by omega, kX2_82, WX2_isLiving, rfl, CX2_isLiving g (n)⟩, (fun _ h => absurd h List.not_mem_nil)⟩) (fun _ h => absurd h List.not_mem_nil) [4] 30 _ _ _ _ ?_
  simp (maxSteps := 1000000) [↓Bool.cond_eq_ite, -Prod.forall, -Prod.exists, -Prod.mk.injEq, jvk, tX2_countLiving, jtb, jol, jst, jlk, jcmp, jbin, jfl, fX2, jc2, lX2, jcat, jel, lv_args, Value.category, jins, jsrt, jins2, jble, jblt, jf3, List.filter_cons, List.filter_nil, G_flat, oX2_isLiving, joRI]
  have key := jloop (P := fun k => jW g mX2_countLiving (n + 2) post 4 [(0, .ref 37), (1, .int (nI (cn (fun j => decide (σ.1 39 j = 1)) k))), (2, .int (nI k))] [] σ) (N := N) (by
    refine jvk_ok TX2_countLiving (V := [(82, 2, 2, oX2_isLiving)]) (S := []) (List.forall_mem_cons.mpr ⟨⟨mX2_isLiving, n + 1, 1, TX2, 16, rfl, by omega, kX2_82, WX2_isLiving, rfl, CX2_isLiving g (n)⟩, (fun _ h => absurd h List.not_mem_nil)⟩) (fun _ h => absurd h List.not_mem_nil) [4] 30 _ _ _ _ ?_
    simp (maxSteps := 1000000) [↓Bool.cond_eq_ite, -Prod.forall, -Prod.exists, -Prod.mk.injEq, jvk, tX2_countLiving, jtb, jol, jst, jlk, jcmp, jbin, jfl, fX2, jc2, lX2, jcat, jel, lv_args, Value.category, jins, jsrt, jins2, jble, jblt, jf3, List.filter_cons, List.filter_nil, G_flat, oX2_isLiving, joRI, nI_1, hN1]
    try simp (disch := omega) [nI_1, nI_clamp, nI_leI, nI_ltI, nI_eq, nI_m1, NL_0, NL_1, NL_2, NL_3, NL_5, NL_6, NL_9, NL_10, NL_11, NL_12, NL_20, NL_24, NL_25, NL_60, NL_64, NL_90, NL_100, NL_120, NL_900, NL_999, NL_9999, NL_99999, NL_1000000, NL_208, NL_2080, NL_10000, hN1]
    exact hp _ _ ⟨by rw [fN, hN2], rfl⟩) (fun k hk ih => by
    have := cn_le (fun j => decide (σ.1 39 j = 1)) k
    simp only [cn] at ih
    refine jvk_ok TX2_countLiving (V := [(82, 2, 2, oX2_isLiving)]) (S := []) (List.forall_mem_cons.mpr ⟨⟨mX2_isLiving, n + 1, 1, TX2, 16, rfl, by omega, kX2_82, WX2_isLiving, rfl, CX2_isLiving g (n)⟩, (fun _ h => absurd h List.not_mem_nil)⟩) (fun _ h => absurd h List.not_mem_nil) [4] 30 _ _ _ _ ?_
    simp (maxSteps := 1000000) [↓Bool.cond_eq_ite, -Prod.forall, -Prod.exists, -Prod.mk.injEq, jvk, tX2_countLiving, jtb, jol, jst, jlk, jcmp, jbin, jfl, fX2, jc2, lX2, jcat, jel, lv_args, Value.category, jins, jsrt, jins2, jble, jblt, jf3, List.filter_cons, List.filter_nil, G_flat, oX2_isLiving, joRI, nI_1, hN1, fP]
    try simp (disch := omega) [nI_1, nI_clamp, nI_leI, nI_ltI, nI_eq, nI_m1, NL_0, NL_1, NL_2, NL_3, NL_5, NL_6, NL_9, NL_10, NL_11, NL_12, NL_20, NL_24, NL_25, NL_60, NL_64, NL_90, NL_100, NL_120, NL_900, NL_999, NL_9999, NL_99999, NL_1000000, NL_208, NL_2080, NL_10000, hN1, fP]
    refine ⟨fun h => by omega, fun _ => ⟨fun h => ?_, fun _ _ h => ?_⟩⟩
    · have h' := h hk (by omega)
      simpa [h'] using ih
    · simpa [h] using ih)
  simpa [nI_0, cn] using key
def oX2_sumOfPayments : jO := joR fun a σ => (a = 37, fun v τ => v = some (.int (sm (σ.1 53) 10)) ∧ τ = σ)
set_option maxRecDepth 100000 in
set_option maxHeartbeats 4000000 in
theorem CX2_sumOfPayments (g : jG) (n : Nat) : jOk g (n + 0) mX2_sumOfPayments oX2_sumOfPayments := by
  refine joR_ok ?_
  rintro _ σ rfl
  refine jCon.ofP (by decide +kernel) (by simp [lg_sl, Value.category]) (fun post hp => ?_)
  refine jvk_ok TX2_sumOfPayments (V := []) (S := []) (fun _ h => absurd h List.not_mem_nil) (fun _ h => absurd h List.not_mem_nil) [4] 30 _ _ _ _ ?_
  simp (maxSteps := 1000000) [↓Bool.cond_eq_ite, -Prod.forall, -Prod.exists, -Prod.mk.injEq, jvk, tX2_sumOfPayments, jtb, jol, jst, jlk, jcmp, jbin, jfl, fX2, jc2, lX2, jcat, jel, lv_args, Value.category, jins, jsrt, jins2, jble, jblt, jf3, List.filter_cons, List.filter_nil, G_flat]
  have key := jloop (P := fun k => jW g mX2_sumOfPayments n post 4 [(0, .ref 37), (1, .int (sm (σ.1 53) k)), (2, .int (nI k))] [] σ) (N := 10) (by
    refine jvk_ok TX2_sumOfPayments (V := []) (S := []) (fun _ h => absurd h List.not_mem_nil) (fun _ h => absurd h List.not_mem_nil) [4] 30 _ _ _ _ ?_
    simp (maxSteps := 1000000) [↓Bool.cond_eq_ite, -Prod.forall, -Prod.exists, -Prod.mk.injEq, jvk, tX2_sumOfPayments, jtb, jol, jst, jlk, jcmp, jbin, jfl, fX2, jc2, lX2, jcat, jel, lv_args, Value.category, jins, jsrt, jins2, jble, jblt, jf3, List.filter_cons, List.filter_nil, G_flat, nI_1]
    try simp (disch := omega) [nI_1, nI_clamp, nI_leI, nI_ltI, nI_eq, nI_m1, NL_0, NL_1, NL_2, NL_3, NL_5, NL_6, NL_9, NL_10, NL_11, NL_12, NL_20, NL_24, NL_25, NL_60, NL_64, NL_90, NL_100, NL_120, NL_900, NL_999, NL_9999, NL_99999, NL_1000000, NL_208, NL_2080, NL_10000]
    exact hp _ _ ⟨rfl, rfl⟩) (fun k hk ih => by
    simp only [sm] at ih
    refine jvk_ok TX2_sumOfPayments (V := []) (S := []) (fun _ h => absurd h List.not_mem_nil) (fun _ h => absurd h List.not_mem_nil) [4] 30 _ _ _ _ ?_
    simp (maxSteps := 1000000) [↓Bool.cond_eq_ite, -Prod.forall, -Prod.exists, -Prod.mk.injEq, jvk, tX2_sumOfPayments, jtb, jol, jst, jlk, jcmp, jbin, jfl, fX2, jc2, lX2, jcat, jel, lv_args, Value.category, jins, jsrt, jins2, jble, jblt, jf3, List.filter_cons, List.filter_nil, G_flat, nI_1]
    try simp (disch := omega) [nI_1, nI_clamp, nI_leI, nI_ltI, nI_eq, nI_m1, NL_0, NL_1, NL_2, NL_3, NL_5, NL_6, NL_9, NL_10, NL_11, NL_12, NL_20, NL_24, NL_25, NL_60, NL_64, NL_90, NL_100, NL_120, NL_900, NL_999, NL_9999, NL_99999, NL_1000000, NL_208, NL_2080, NL_10000]
    exact ⟨fun h => by omega, fun _ => ⟨jin_nI hk (by omega), ih⟩⟩)
  simpa [nI_0, sm] using key
def fD (σ : jM) (p q : Int32) : Int32 := fV σ p (σ.1 52 q.toNatClampNeg) - σ.1 53 q.toNatClampNeg - (fV σ p (σ.1 52 p.toNatClampNeg) - σ.1 53 p.toNatClampNeg)
def fE (σ : jM) (p q : Int32) : Int32 := if fH σ p ∧ fH σ q ∧ ¬ fW σ p (σ.1 52 q.toNatClampNeg) = -1 then (if fD σ p q ≤ 0 then 0 else fD σ p q) else 0
def oX2_envy : jO := joRII fun a p q σ => (a = 37, fun v τ => v = some (.int (fE σ p q)) ∧ τ = σ)
set_option maxRecDepth 100000 in
set_option maxHeartbeats 4000000 in
theorem CX2_envy (g : jG) (n : Nat) : jOk g (n + 3) mX2_envy oX2_envy := by
  refine joRII_ok ?_
  rintro _ p q σ rfl
  refine jCon.ofP (by decide +kernel) (by simp [lg_sl, Value.category]) (fun post hp => ?_)
  refine jvk_ok TX2_envy (V := [(97, 2, 2, oX2_hasRoom), (88, 3, 2, oX2_worth), (100, 3, 2, oX2_value)]) (S := [(92, 2, 0, oJ9_max_7cf53)]) (List.forall_mem_cons.mpr ⟨⟨mX2_hasRoom, n + 1, 1, TX2, 16, rfl, by omega, kX2_97, WX2_hasRoom, rfl, CX2_hasRoom g (n)⟩, (List.forall_mem_cons.mpr ⟨⟨mX2_worth, n + 1, 2, TX2, 16, rfl, by omega, kX2_88, WX2_worth, rfl, CX2_worth g (n)⟩, (List.forall_mem_cons.mpr ⟨⟨mX2_value, n + 2, 2, TX2, 16, rfl, by omega, kX2_100, WX2_value, rfl, CX2_value g (n)⟩, (fun _ h => absurd h List.not_mem_nil)⟩)⟩)⟩) (List.forall_mem_cons.mpr ⟨⟨mJ9_max_7cf53, n + 0, by omega, Or.inl kX2_92, WJ9_max_7cf53, CJ9_max_7cf53 g (n)⟩, (fun _ h => absurd h List.not_mem_nil)⟩) [] 60 _ _ _ _ ?_
  simp (maxSteps := 1000000) [↓Bool.cond_eq_ite, -Prod.forall, -Prod.exists, -Prod.mk.injEq, jvk, tX2_envy, jtb, jol, jst, jlk, jcmp, jbin, jfl, fX2, jc2, lX2, jcat, jel, lv_args, Value.category, jins, jsrt, jins2, jble, jblt, jf3, List.filter_cons, List.filter_nil, G_flat, oX2_hasRoom, oX2_worth, oX2_value, oJ9_max_7cf53, joII, joRI, joRII]
  by_cases h1 : fH σ p = true <;> simp [h1]
  · by_cases h2 : fH σ q = true <;> simp [h2]
    · refine ⟨fP_jin (fH_P h2), ?_⟩
      by_cases h3 : fW σ p (σ.1 52 q.toNatClampNeg) = -1 <;> simp [h3]
      · exact hp _ _ ⟨by simp [fE, h3], rfl⟩
      · refine ⟨fP_jin (fH_P h1), fP_jin (fH_P h2), hp _ _ ⟨by rw [show fE σ p q = (if fD σ p q ≤ 0 then 0 else fD σ p q) from if_pos ⟨h1, h2, h3⟩]; rfl, rfl⟩⟩
    · exact hp _ _ ⟨by simp [fE, h2], rfl⟩
  · exact hp _ _ ⟨by simp [fE, h1], rfl⟩
/-- the sum of all envy of the first k -/
def fSE (σ : jM) (N : Nat) : Nat → Int32 := sm (fun p => sm (fun q => fE σ (nI p) (nI q)) N)
def oX2_sumOfEnvy : jO := joR fun a σ => (a = 37 ∧ fOK σ, fun v τ => v = some (.int (fSE σ (fN σ) (fN σ))) ∧ τ = σ)
set_option maxRecDepth 100000 in
set_option maxHeartbeats 4000000 in
theorem CX2_sumOfEnvy (g : jG) (n : Nat) : jOk g (n + 4) mX2_sumOfEnvy oX2_sumOfEnvy := by
  refine joR_ok ?_
  rintro _ σ ⟨rfl, hok⟩
  obtain ⟨N, hN, hN1, hN2⟩ := nI_rng hok.1 hok.2.1 (by decide)
  refine jCon.ofP (by decide +kernel) (by simp [lg_sl, Value.category]) (fun post hp => ?_)
  refine jvk_ok TX2_sumOfEnvy (V := [(103, 3, 2, oX2_envy)]) (S := []) (List.forall_mem_cons.mpr ⟨⟨mX2_envy, n + 3, 2, TX2, 16, rfl, by omega, kX2_103, WX2_envy, rfl, CX2_envy g (n)⟩, (fun _ h => absurd h List.not_mem_nil)⟩) (fun _ h => absurd h List.not_mem_nil) [4] 30 _ _ _ _ ?_
  simp (maxSteps := 1000000) [↓Bool.cond_eq_ite, -Prod.forall, -Prod.exists, -Prod.mk.injEq, jvk, tX2_sumOfEnvy, jtb, jol, jst, jlk, jcmp, jbin, jfl, fX2, jc2, lX2, jcat, jel, lv_args, Value.category, jins, jsrt, jins2, jble, jblt, jf3, List.filter_cons, List.filter_nil, G_flat, oX2_envy, joRII]
  have key := jloop (P := fun k => jW g mX2_sumOfEnvy (n + 4) post 4 [(0, .ref 37), (1, .int (fSE σ N k)), (2, .int (nI k))] [] σ) (N := N) (by
    refine jvk_ok TX2_sumOfEnvy (V := [(103, 3, 2, oX2_envy)]) (S := []) (List.forall_mem_cons.mpr ⟨⟨mX2_envy, n + 3, 2, TX2, 16, rfl, by omega, kX2_103, WX2_envy, rfl, CX2_envy g (n)⟩, (fun _ h => absurd h List.not_mem_nil)⟩) (fun _ h => absurd h List.not_mem_nil) [4, 14] 30 _ _ _ _ ?_
    simp (maxSteps := 1000000) [↓Bool.cond_eq_ite, -Prod.forall, -Prod.exists, -Prod.mk.injEq, jvk, tX2_sumOfEnvy, jtb, jol, jst, jlk, jcmp, jbin, jfl, fX2, jc2, lX2, jcat, jel, lv_args, Value.category, jins, jsrt, jins2, jble, jblt, jf3, List.filter_cons, List.filter_nil, G_flat, oX2_envy, joRII, nI_1, hN1]
    try simp (disch := omega) [nI_1, nI_clamp, nI_leI, nI_ltI, nI_eq, nI_m1, NL_0, NL_1, NL_2, NL_3, NL_5, NL_6, NL_9, NL_10, NL_11, NL_12, NL_20, NL_24, NL_25, NL_60, NL_64, NL_90, NL_100, NL_120, NL_900, NL_999, NL_9999, NL_99999, NL_1000000, NL_208, NL_2080, NL_10000, hN1]
    exact hp _ _ ⟨by rw [fN, hN2], rfl⟩) (fun k hk ih => by
    refine jvk_ok TX2_sumOfEnvy (V := [(103, 3, 2, oX2_envy)]) (S := []) (List.forall_mem_cons.mpr ⟨⟨mX2_envy, n + 3, 2, TX2, 16, rfl, by omega, kX2_103, WX2_envy, rfl, CX2_envy g (n)⟩, (fun _ h => absurd h List.not_mem_nil)⟩) (fun _ h => absurd h List.not_mem_nil) [4, 14] 30 _ _ _ _ ?_
    simp (maxSteps := 1000000) [↓Bool.cond_eq_ite, -Prod.forall, -Prod.exists, -Prod.mk.injEq, jvk, tX2_sumOfEnvy, jtb, jol, jst, jlk, jcmp, jbin, jfl, fX2, jc2, lX2, jcat, jel, lv_args, Value.category, jins, jsrt, jins2, jble, jblt, jf3, List.filter_cons, List.filter_nil, G_flat, oX2_envy, joRII, nI_1, hN1]
    try simp (disch := omega) [nI_1, nI_clamp, nI_leI, nI_ltI, nI_eq, nI_m1, NL_0, NL_1, NL_2, NL_3, NL_5, NL_6, NL_9, NL_10, NL_11, NL_12, NL_20, NL_24, NL_25, NL_60, NL_64, NL_90, NL_100, NL_120, NL_900, NL_999, NL_9999, NL_99999, NL_1000000, NL_208, NL_2080, NL_10000, hN1]
    refine ⟨fun h => by omega, fun _ => ?_⟩
    have key2 := jloop (P := fun q => jW g mX2_sumOfEnvy (n + 4) post 14 [(0, .ref 37), (1, .int (fSE σ N k + sm (fun q => fE σ (nI k) (nI q)) q)), (2, .int (nI k)), (3, .int (nI q))] [] σ) (N := N) (by
      refine jvk_ok TX2_sumOfEnvy (V := [(103, 3, 2, oX2_envy)]) (S := []) (List.forall_mem_cons.mpr ⟨⟨mX2_envy, n + 3, 2, TX2, 16, rfl, by omega, kX2_103, WX2_envy, rfl, CX2_envy g (n)⟩, (fun _ h => absurd h List.not_mem_nil)⟩) (fun _ h => absurd h List.not_mem_nil) [4, 14] 30 _ _ _ _ ?_
      simp (maxSteps := 1000000) [↓Bool.cond_eq_ite, -Prod.forall, -Prod.exists, -Prod.mk.injEq, jvk, tX2_sumOfEnvy, jtb, jol, jst, jlk, jcmp, jbin, jfl, fX2, jc2, lX2, jcat, jel, lv_args, Value.category, jins, jsrt, jins2, jble, jblt, jf3, List.filter_cons, List.filter_nil, G_flat, oX2_envy, joRII, nI_1, hN1]
      try simp (disch := omega) [nI_1, nI_clamp, nI_leI, nI_ltI, nI_eq, nI_m1, NL_0, NL_1, NL_2, NL_3, NL_5, NL_6, NL_9, NL_10, NL_11, NL_12, NL_20, NL_24, NL_25, NL_60, NL_64, NL_90, NL_100, NL_120, NL_900, NL_999, NL_9999, NL_99999, NL_1000000, NL_208, NL_2080, NL_10000, hN1]
      refine jW.mono ih ?_
      simp [fSE, sm]) (fun q hq ih2 => by
      simp only [sm] at ih2
      refine jvk_ok TX2_sumOfEnvy (V := [(103, 3, 2, oX2_envy)]) (S := []) (List.forall_mem_cons.mpr ⟨⟨mX2_envy, n + 3, 2, TX2, 16, rfl, by omega, kX2_103, WX2_envy, rfl, CX2_envy g (n)⟩, (fun _ h => absurd h List.not_mem_nil)⟩) (fun _ h => absurd h List.not_mem_nil) [4, 14] 30 _ _ _ _ ?_
      simp (maxSteps := 1000000) [↓Bool.cond_eq_ite, -Prod.forall, -Prod.exists, -Prod.mk.injEq, jvk, tX2_sumOfEnvy, jtb, jol, jst, jlk, jcmp, jbin, jfl, fX2, jc2, lX2, jcat, jel, lv_args, Value.category, jins, jsrt, jins2, jble, jblt, jf3, List.filter_cons, List.filter_nil, G_flat, oX2_envy, joRII, nI_1, hN1, Int32.add_assoc]
      try simp (disch := omega) [nI_1, nI_clamp, nI_leI, nI_ltI, nI_eq, nI_m1, NL_0, NL_1, NL_2, NL_3, NL_5, NL_6, NL_9, NL_10, NL_11, NL_12, NL_20, NL_24, NL_25, NL_60, NL_64, NL_90, NL_100, NL_120, NL_900, NL_999, NL_9999, NL_99999, NL_1000000, NL_208, NL_2080, NL_10000, hN1, Int32.add_assoc]
      exact ⟨fun h => by omega, fun _ => ih2⟩)
    simpa [nI_0, sm] using key2)
  simpa [nI_0, sm, fSE] using key
def fEB (σ : jM) (p : Int32) : Nat → Int32
  | 0 => 0
  | k + 1 => if 0 < fE σ (nI k) p then fEB σ p k ||| (1 <<< (nI k &&& 31)) else fEB σ p k
def oX2_enviersOf : jO := joRI fun a p σ => (a = 37 ∧ fOK σ, fun v τ => v = some (.int (fEB σ p (fN σ))) ∧ τ = σ)
/-- a month's payments of the first k -/
def fCol (σ : jM) : Nat → jM := fun k => jit (fun k s => if fH s (nI k) then jup (jup s 54 k (s.1 54 k + s.1 53 k)) 56 k (s.1 56 k + 1) else s) k σ
theorem fCol_o (σ : jM) (a j : Nat) (h1 : a ≠ 54) (h2 : a ≠ 56) : ∀ k, (fCol σ k).1 a j = σ.1 a j
  | 0 => rfl
  | k + 1 => by
    have ih := fCol_o σ a j h1 h2 k
    simp only [fCol, jit] at ih ⊢
    split
    · simp only [jup_1, h1, h2, false_and, if_false, ih]
    · exact ih
def oX2_collect : jO := joR fun a σ => (a = 37 ∧ fOK σ, fun v τ => v = none ∧ τ = jup (fCol σ (fN σ)) 37 4 (σ.1 37 4 + (σ.1 37 2 - sm (σ.1 53) 10)))
set_option maxRecDepth 100000 in
set_option maxHeartbeats 4000000 in
theorem CX2_collect (g : jG) (n : Nat) : jOk g (n + 2) mX2_collect oX2_collect := by
  refine joR_ok ?_
  rintro _ σ ⟨rfl, hok⟩
  obtain ⟨N, hN, hN1, hN2⟩ := nI_rng hok.1 hok.2.1 (by decide)
  refine jCon.ofP (by decide +kernel) (by simp [lg_sl, Value.category]) (fun post hp => ?_)
  refine jvk_ok TX2_collect (V := [(97, 2, 2, oX2_hasRoom), (120, 1, 2, oX2_sumOfPayments)]) (S := []) (List.forall_mem_cons.mpr ⟨⟨mX2_hasRoom, n + 1, 1, TX2, 16, rfl, by omega, kX2_97, WX2_hasRoom, rfl, CX2_hasRoom g (n)⟩, (List.forall_mem_cons.mpr ⟨⟨mX2_sumOfPayments, n + 0, 0, TX2, 16, rfl, by omega, kX2_120, WX2_sumOfPayments, rfl, CX2_sumOfPayments g (n)⟩, (fun _ h => absurd h List.not_mem_nil)⟩)⟩) (fun _ h => absurd h List.not_mem_nil) [2] 30 _ _ _ _ ?_
  simp (maxSteps := 1000000) [↓Bool.cond_eq_ite, -Prod.forall, -Prod.exists, -Prod.mk.injEq, jvk, tX2_collect, jtb, jol, jst, jlk, jcmp, jbin, jfl, fX2, jc2, lX2, jcat, jel, lv_args, Value.category, jins, jsrt, jins2, jble, jblt, jf3, List.filter_cons, List.filter_nil, G_flat, oX2_hasRoom, oX2_sumOfPayments, joR, joRI]
  have key := jloop (P := fun k => jW g mX2_collect (n + 2) post 2 [(0, .ref 37), (1, .int (nI k))] [] (fCol σ k)) (N := N) (by
    have e1 := fCol_o σ 37 1 (by decide) (by decide) N
    have e2 := fCol_o σ 37 2 (by decide) (by decide) N
    have e4 := fCol_o σ 37 4 (by decide) (by decide) N
    have e5 : (fCol σ N).1 53 = σ.1 53 := funext fun j => fCol_o σ 53 j (by decide) (by decide) N
    refine jvk_ok TX2_collect (V := [(97, 2, 2, oX2_hasRoom), (120, 1, 2, oX2_sumOfPayments)]) (S := []) (List.forall_mem_cons.mpr ⟨⟨mX2_hasRoom, n + 1, 1, TX2, 16, rfl, by omega, kX2_97, WX2_hasRoom, rfl, CX2_hasRoom g (n)⟩, (List.forall_mem_cons.mpr ⟨⟨mX2_sumOfPayments, n + 0, 0, TX2, 16, rfl, by omega, kX2_120, WX2_sumOfPayments, rfl, CX2_sumOfPayments g (n)⟩, (fun _ h => absurd h List.not_mem_nil)⟩)⟩) (fun _ h => absurd h List.not_mem_nil) [2] 40 _ _ _ _ ?_
    simp (maxSteps := 1000000) [↓Bool.cond_eq_ite, -Prod.forall, -Prod.exists, -Prod.mk.injEq, jvk, tX2_collect, jtb, jol, jst, jlk, jcmp, jbin, jfl, fX2, jc2, lX2, jcat, jel, lv_args, Value.category, jins, jsrt, jins2, jble, jblt, jf3, List.filter_cons, List.filter_nil, G_flat, oX2_hasRoom, oX2_sumOfPayments, joR, joRI, nI_1, e1, e2, e4, e5, hN1]
    try simp (disch := omega) [nI_1, nI_clamp, nI_leI, nI_ltI, nI_eq, nI_m1, NL_0, NL_1, NL_2, NL_3, NL_5, NL_6, NL_9, NL_10, NL_11, NL_12, NL_20, NL_24, NL_25, NL_60, NL_64, NL_90, NL_100, NL_120, NL_900, NL_999, NL_9999, NL_99999, NL_1000000, NL_208, NL_2080, NL_10000, e1, e2, e4, e5, hN1]
    exact hp _ _ ⟨rfl, by rw [fN, hN2]⟩) (fun k hk ih => by
    have e1 := fCol_o σ 37 1 (by decide) (by decide) k
    have e5 : (fCol σ k).1 53 = σ.1 53 := funext fun j => fCol_o σ 53 j (by decide) (by decide) k
    have e6 : fCol σ (k + 1) = if fH (fCol σ k) (nI k) then jup (jup (fCol σ k) 54 k ((fCol σ k).1 54 k + (fCol σ k).1 53 k)) 56 k ((fCol σ k).1 56 k + 1) else fCol σ k := rfl
    rw [e6] at ih
    refine jvk_ok TX2_collect (V := [(97, 2, 2, oX2_hasRoom), (120, 1, 2, oX2_sumOfPayments)]) (S := []) (List.forall_mem_cons.mpr ⟨⟨mX2_hasRoom, n + 1, 1, TX2, 16, rfl, by omega, kX2_97, WX2_hasRoom, rfl, CX2_hasRoom g (n)⟩, (List.forall_mem_cons.mpr ⟨⟨mX2_sumOfPayments, n + 0, 0, TX2, 16, rfl, by omega, kX2_120, WX2_sumOfPayments, rfl, CX2_sumOfPayments g (n)⟩, (fun _ h => absurd h List.not_mem_nil)⟩)⟩) (fun _ h => absurd h List.not_mem_nil) [2] 40 _ _ _ _ ?_
    simp (maxSteps := 1000000) [↓Bool.cond_eq_ite, -Prod.forall, -Prod.exists, -Prod.mk.injEq, jvk, tX2_collect, jtb, jol, jst, jlk, jcmp, jbin, jfl, fX2, jc2, lX2, jcat, jel, lv_args, Value.category, jins, jsrt, jins2, jble, jblt, jf3, List.filter_cons, List.filter_nil, G_flat, oX2_hasRoom, oX2_sumOfPayments, joR, joRI, nI_1, e1, hN1, jup_1]
    try simp (disch := omega) [nI_1, nI_clamp, nI_leI, nI_ltI, nI_eq, nI_m1, NL_0, NL_1, NL_2, NL_3, NL_5, NL_6, NL_9, NL_10, NL_11, NL_12, NL_20, NL_24, NL_25, NL_60, NL_64, NL_90, NL_100, NL_120, NL_900, NL_999, NL_9999, NL_99999, NL_1000000, NL_208, NL_2080, NL_10000, e1, hN1, jup_1]
    refine ⟨fun h => by omega, fun _ => ⟨fun h => ?_, fun h => ?_⟩⟩
    · simpa [h] using ih
    · simpa [h, jin_nI (show k < 10 by omega)] using ih)
  simpa [nI_0, fCol, jit] using key
