/-! the JDK's own methods that are called -/
def oJ9_max_7cf53 : jO := joII fun x y σ => (True, fun v τ => v = some (.int (if y ≤ x then x else y)) ∧ τ = σ)
set_option maxRecDepth 100000 in
set_option maxHeartbeats 4000000 in
theorem CJ9_max_7cf53 (g : jG) (n : Nat) : jOk g (n + 0) mJ9_max_7cf53 oJ9_max_7cf53 := by
  refine joII_ok ?_
  rintro x y σ -
  refine jCon.ofF (by decide +kernel) (by simp [lg_sl, Value.category]) ?_
  refine jvk_ok TJ9_max_7cf53 (V := []) (S := []) (fun _ h => absurd h List.not_mem_nil) (fun _ h => absurd h List.not_mem_nil) [] 30 _ _ _ _ ?_
  simp (maxSteps := 1000000) [↓Bool.cond_eq_ite, -Prod.forall, -Prod.exists, -Prod.mk.injEq, jvk, tJ9_max_7cf53, jtb, jol, jst, jlk, jcmp, jbin, jfl, fJ9, jc2, lJ9, jcat, jel, lv_args, Value.category, jins, jsrt, jins2, jble, jblt, jf3, List.filter_cons, List.filter_nil]
  grind
def oJ9_min_7cf53 : jO := joII fun x y σ => (True, fun v τ => v = some (.int (if x ≤ y then x else y)) ∧ τ = σ)
set_option maxRecDepth 100000 in
set_option maxHeartbeats 4000000 in
theorem CJ9_min_7cf53 (g : jG) (n : Nat) : jOk g (n + 0) mJ9_min_7cf53 oJ9_min_7cf53 := by
  refine joII_ok ?_
  rintro x y σ -
  refine jCon.ofF (by decide +kernel) (by simp [lg_sl, Value.category]) ?_
  refine jvk_ok TJ9_min_7cf53 (V := []) (S := []) (fun _ h => absurd h List.not_mem_nil) (fun _ h => absurd h List.not_mem_nil) [] 30 _ _ _ _ ?_
  simp (maxSteps := 1000000) [↓Bool.cond_eq_ite, -Prod.forall, -Prod.exists, -Prod.mk.injEq, jvk, tJ9_min_7cf53, jtb, jol, jst, jlk, jcmp, jbin, jfl, fJ9, jc2, lJ9, jcat, jel, lv_args, Value.category, jins, jsrt, jins2, jble, jblt, jf3, List.filter_cons, List.filter_nil]
  grind
def oJ9_abs_0f7a4 : jO := joI fun x σ => (True, fun v τ => v = some (.int (if 0 ≤ x then x else -x)) ∧ τ = σ)
/-- floorDiv and floorMod by 120, as they are computed -/
def fd120 (x : Int32) : Int32 := if (x ^^^ 120) < 0 ∧ ¬ x / 120 * 120 = x then x / 120 - 1 else x / 120
def fm120 (x : Int32) : Int32 := if (x ^^^ 120) < 0 ∧ ¬ x - x / 120 * 120 = 0 then x - x / 120 * 120 + 120 else x - x / 120 * 120
def oJ9_floorDiv_7cf53 : jO := joII fun x y σ => (y = 120, fun v τ => v = some (.int (fd120 x)) ∧ τ = σ)
set_option maxRecDepth 100000 in
set_option maxHeartbeats 4000000 in
theorem CJ9_floorDiv_7cf53 (g : jG) (n : Nat) : jOk g (n + 0) mJ9_floorDiv_7cf53 oJ9_floorDiv_7cf53 := by
  refine joII_ok ?_
  rintro x _ σ rfl
  refine jCon.ofF (by decide +kernel) (by simp [lg_sl, Value.category]) ?_
  refine jvk_ok TJ9_floorDiv_7cf53 (V := []) (S := []) (fun _ h => absurd h List.not_mem_nil) (fun _ h => absurd h List.not_mem_nil) [] 40 _ _ _ _ ?_
  simp (maxSteps := 1000000) [↓Bool.cond_eq_ite, -Prod.forall, -Prod.exists, -Prod.mk.injEq, jvk, tJ9_floorDiv_7cf53, jtb, jol, jst, jlk, jcmp, jbin, jfl, fJ9, jc2, lJ9, jcat, jel, lv_args, Value.category, jins, jsrt, jins2, jble, jblt, jf3, List.filter_cons, List.filter_nil, fd120]
  grind
def oJ9_floorMod_7cf53 : jO := joII fun x y σ => (y = 120, fun v τ => v = some (.int (fm120 x)) ∧ τ = σ)
set_option maxRecDepth 100000 in
set_option maxHeartbeats 4000000 in
theorem CJ9_floorMod_7cf53 (g : jG) (n : Nat) : jOk g (n + 0) mJ9_floorMod_7cf53 oJ9_floorMod_7cf53 := by
  refine joII_ok ?_
  rintro x _ σ rfl
  refine jCon.ofF (by decide +kernel) (by simp [lg_sl, Value.category]) ?_
  refine jvk_ok TJ9_floorMod_7cf53 (V := []) (S := []) (fun _ h => absurd h List.not_mem_nil) (fun _ h => absurd h List.not_mem_nil) [] 40 _ _ _ _ ?_
  simp (maxSteps := 1000000) [↓Bool.cond_eq_ite, -Prod.forall, -Prod.exists, -Prod.mk.injEq, jvk, tJ9_floorMod_7cf53, jtb, jol, jst, jlk, jcmp, jbin, jfl, fJ9, jc2, lJ9, jcat, jel, lv_args, Value.category, jins, jsrt, jins2, jble, jblt, jf3, List.filter_cons, List.filter_nil, fm120]
  grind
def bcw (x s : Int32) : Int32 := (x.toUInt32 >>> (s.toUInt32 &&& Int32.toUInt32 31)).toInt32
def bc (x : Int32) : Int32 :=
  let a := x - (bcw x 1 &&& 1431655765)
  let b := (a &&& 858993459) + (bcw a 2 &&& 858993459)
  let c := (b + bcw b 4) &&& 252645135
  let d := c + bcw c 8
  let e := d + bcw d 16
  e &&& 63
def oJ6_bitCount_0f7a4 : jO := joI fun x σ => (True, fun v τ => v = some (.int (bc x)) ∧ τ = σ)
set_option maxRecDepth 100000 in
set_option maxHeartbeats 4000000 in
theorem CJ6_bitCount_0f7a4 (g : jG) (n : Nat) : jOk g (n + 0) mJ6_bitCount_0f7a4 oJ6_bitCount_0f7a4 := by
  refine joI_ok ?_
  rintro x σ -
  refine jCon.ofF (by decide +kernel) (by simp [lg_sl, Value.category]) ?_
  refine jvk_ok TJ6_bitCount_0f7a4 (V := []) (S := []) (fun _ h => absurd h List.not_mem_nil) (fun _ h => absurd h List.not_mem_nil) [] 60 _ _ _ _ ?_
  simp (maxSteps := 1000000) [↓Bool.cond_eq_ite, -Prod.forall, -Prod.exists, -Prod.mk.injEq, jvk, tJ6_bitCount_0f7a4, jtb, jol, jst, jlk, jcmp, jbin, jfl, fJ6, jc2, lJ6, jcat, jel, lv_args, Value.category, jins, jsrt, jins2, jble, jblt, jf3, List.filter_cons, List.filter_nil, bc, bcw]
/-- the first n cells of a row, all v -/
def jfil (σ : jM) (a n : Nat) (v : Int32) : jM := (fun i j => if i = a ∧ j < n then v else σ.1 i j, σ.2)
theorem jfil_0 (σ : jM) (a : Nat) (v : Int32) : jfil σ a 0 v = σ := by
  unfold jfil; simp
theorem jfil_s (σ : jM) (a n : Nat) (v : Int32) : jup (jfil σ a n v) a n v = jfil σ a (n + 1) v := by
  unfold jup jfil
  congr 1
  funext i j
  grind
theorem jfil_1 (σ : jM) (a n : Nat) (v : Int32) (i j : Nat) : (jfil σ a n v).1 i j = if i = a ∧ j < n then v else σ.1 i j := rfl
theorem jfil_2 (σ : jM) (a n : Nat) (v : Int32) : (jfil σ a n v).2 = σ.2 := rfl
theorem jlen_le (a : Nat) (h : a < jN) : jlen a ≤ 2080 := by
  have : ∀ a, a < jN → jlen a ≤ 2080 := by decide +kernel
  exact this a h
def oJ7_fill_53178 : jO := joRI fun a x σ => (jarr a 1 0 = true, fun v τ => v = none ∧ τ = jfil σ a (jlen a) x)
set_option maxRecDepth 100000 in
set_option maxHeartbeats 4000000 in
theorem CJ7_fill_53178 (g : jG) (n : Nat) : jOk g (n + 0) mJ7_fill_53178 oJ7_fill_53178 := by
  refine joRI_ok ?_
  rintro a x σ ha
  dsimp only at ha
  have hN := jlen_le a (jarr_spec ha).1
  refine jCon.ofP (by decide +kernel) (by simp [lg_sl, Value.category]) (fun post hp => ?_)
  refine jvk_ok TJ7_fill_53178 (V := []) (S := []) (fun _ h => absurd h List.not_mem_nil) (fun _ h => absurd h List.not_mem_nil) [5] 30 _ _ _ _ ?_
  simp (maxSteps := 1000000) [↓Bool.cond_eq_ite, -Prod.forall, -Prod.exists, -Prod.mk.injEq, jvk, tJ7_fill_53178, jtb, jol, jst, jlk, jcmp, jbin, jfl, fJ7, jc2, lJ7, jcat, jel, lv_args, Value.category, jins, jsrt, jins2, jble, jblt, jf3, List.filter_cons, List.filter_nil, ha]
  refine (show jW g mJ7_fill_53178 _ post 5 [(0, .ref a), (1, .int x), (2, .int (nI 0)), (3, .int (nI (jlen a)))] [] (jfil σ a 0 x) → _ from fun h => by rw [jfil_0] at h; exact h) ?_
  refine jloop (P := fun k => jW g mJ7_fill_53178 _ post 5 [(0, .ref a), (1, .int x), (2, .int (nI k)), (3, .int (nI (jlen a)))] [] (jfil σ a k x)) (N := jlen a) ?_ (fun k hk ih => ?_)
  · refine jvk_ok TJ7_fill_53178 (V := []) (S := []) (fun _ h => absurd h List.not_mem_nil) (fun _ h => absurd h List.not_mem_nil) [5] 30 _ _ _ _ ?_
    simp (maxSteps := 1000000) [↓Bool.cond_eq_ite, -Prod.forall, -Prod.exists, -Prod.mk.injEq, jvk, tJ7_fill_53178, jtb, jol, jst, jlk, jcmp, jbin, jfl, fJ7, jc2, lJ7, jcat, jel, lv_args, Value.category, jins, jsrt, jins2, jble, jblt, jf3, List.filter_cons, List.filter_nil, ha]
    exact hp _ _ ⟨rfl, rfl⟩
  · refine jvk_ok TJ7_fill_53178 (V := []) (S := []) (fun _ h => absurd h List.not_mem_nil) (fun _ h => absurd h List.not_mem_nil) [5] 30 _ _ _ _ ?_
    simp (maxSteps := 1000000) [↓Bool.cond_eq_ite, -Prod.forall, -Prod.exists, -Prod.mk.injEq, jvk, tJ7_fill_53178, jtb, jol, jst, jlk, jcmp, jbin, jfl, fJ7, jc2, lJ7, jcat, jel, lv_args, Value.category, jins, jsrt, jins2, jble, jblt, jf3, List.filter_cons, List.filter_nil, ha, nI_1]
    try simp (disch := omega) [ha, nI_1, nI_clamp, nI_leI, nI_ltI]
    refine ⟨fun h => by omega, fun _ => ⟨jin_nI hk (by omega), ?_⟩⟩
    rw [jfil_s]
    exact ih
