/-! the digits of a number, a StringBuilder's append of it -/
section EMC
variable {g : jG} {h0 : Nat}
/-- from 22: two digits of a number of three or four, then 72 -/
theorem GC_r (n : Nat) (hE : dEt g h0) {z : dZ} (hz0 : z.2.2.2.2 = h0) {R : Option Value → dM → Nat → Nat → Prop} (hR : dRok g z mJ6_getChars_ba4f3 R) {σ : dM} {c0 s0 p m v : Nat} {y : Int32} (hA : DA σ 1600 = true) (hN : DN σ 1600 = m) (hp : p ≤ m) (hm : m ≤ 700) (hv : v < 10000) (h1 : 100 ≤ v) (hp2 : 2 ≤ p)
    (k : DW g z mJ6_getChars_ba4f3 72 [(0, .int (-nI (v / 100))), (2, .ref 1600), (5, .int (nI (p - 2))), (6, .int 0)] [] (DuI (DuI σ 1600 (p - 1) (nI (48 + v % 100 % 10))) 1600 (p - 2) (nI (48 + v % 100 / 10))) c0 s0) :
    DW g z mJ6_getChars_ba4f3 22 [(0, .int (-nI v)), (1, .int y), (2, .ref 1600), (5, .int (nI p)), (6, .int 0)] [] σ c0 s0 := by
  subst hz0
  have e1 : nI p + -1 = nI (p - 1) := sb_m1 (by omega)
  have e2 : nI (p - 1) + -1 = nI (p - 2) := sb_m1 (by omega)
  have l1 : -nI v ≤ -100 := (sb_nle (a := v) (b := 100) (by omega) (by omega)).mpr h1
  have l2 : ¬ -nI (v / 100) ≤ -100 := fun z9 => absurd ((sb_nle (a := v / 100) (b := 100) (by omega) (by omega)).mp z9) (by omega)
  have d0 : ¬ (100 : Int32) = 0 := by decide
  have d1 : (-nI v) / 100 = -nI (v / 100) := sb_ndiv (by omega)
  have d2 : (-nI (v / 100)) * 100 - (-nI v) = nI (v % 100) := sb_nrem (by omega)
  have hr : v % 100 < 100 := Nat.mod_lt _ (by decide)
  generalize v % 100 = r at d2 hr k
  generalize v / 100 = q at d1 d2 l2 k
  obtain ⟨n1, n2⟩ := dig_ok r hr
  refine dvk_ok (nC := n + 0) DJ6_getChars_ba4f3 hTyA hR (VC := []) (VD := []) (SD := []) (AL := []) (fun _ h => absurd h List.not_mem_nil) (fun _ h => absurd h List.not_mem_nil) (fun _ h => absurd h List.not_mem_nil) [49] 30 _ _ _ _ _ _ ?_
  simp (maxSteps := 1000000) [↓Bool.cond_eq_ite, -Prod.forall, -Prod.exists, -Prod.mk.injEq, ↓jc_eq_t, ↓jc_eq_f, ↓jc_ne_t, ↓jc_ne_f, ↓jc_lt_t, ↓jc_lt_f, ↓jc_ge_t, ↓jc_ge_f, ↓jc_gt_t, ↓jc_gt_f, ↓jc_le_t, ↓jc_le_f, dvk, tJ6_getChars_ba4f3, jtb, jol, dvl, dal, dst, jlk, jcmp, jbin, jfl, qJ6, jc2, qlJ6, jcat, jel, lv_args, Value.category, jins, jsrt, jins2, jble, jblt, jf3, List.filter_cons, List.filter_nil, Dlo, Dnr, DnL, Dfree, Droom, DuS_S, DuS_I, DuS_L, DuS_R, DuS_N, DuS_A, DuI_S, DuI_I, DuI_L, DuI_R, DuI_N, DuI_A, DuL_S, DuL_I, DuL_L, DuL_R, DuL_N, DuL_A, DuR_S, DuR_I, DuR_L, DuR_R, DuR_N, DuR_A, Dnw_S, Dnw_I, Dnw_L, Dnw_R, Dnw_N, Dnw_A, DrI_S, DrI_I, DrI_L, DrI_R, DrI_N, DrI_A, DrJ_S, DrJ_I, DrJ_L, DrJ_R, DrJ_N, DrJ_A, dm64, G_d, G_x0, -Int32.not_le, -Int32.not_lt, -Int64.not_le, -Int64.not_lt, i3lt, i6lt, l1, d0, d1, d2, e1]
  try simp (disch := omega) [-Prod.forall, -Prod.exists, -Prod.mk.injEq, -Int32.not_le, -Int32.not_lt, -Int64.not_le, -Int64.not_lt, i3lt, i6lt, l1, d0, d1, d2, e1]
  refine dr_gets (idx := 83) (v := .ref 502) rfl (dEt_d1 hE).1 (show Cond.fieldLink RJ6 83 "java/lang/Integer" "DigitOnes" "[B" ∈ jGw from jGw_of 987 (by decide +kernel) (by decide +kernel)) (by decide +kernel) ?_
  refine dvk_ok (nC := n + 0) DJ6_getChars_ba4f3 hTyA hR (VC := []) (VD := []) (SD := []) (AL := []) (fun _ h => absurd h List.not_mem_nil) (fun _ h => absurd h List.not_mem_nil) (fun _ h => absurd h List.not_mem_nil) [54] 10 _ _ _ _ _ _ ?_
  simp (maxSteps := 1000000) [↓Bool.cond_eq_ite, -Prod.forall, -Prod.exists, -Prod.mk.injEq, ↓jc_eq_t, ↓jc_eq_f, ↓jc_ne_t, ↓jc_ne_f, ↓jc_lt_t, ↓jc_lt_f, ↓jc_ge_t, ↓jc_ge_f, ↓jc_gt_t, ↓jc_gt_f, ↓jc_le_t, ↓jc_le_f, dvk, tJ6_getChars_ba4f3, jtb, jol, dvl, dal, dst, jlk, jcmp, jbin, jfl, qJ6, jc2, qlJ6, jcat, jel, lv_args, Value.category, jins, jsrt, jins2, jble, jblt, jf3, List.filter_cons, List.filter_nil, Dlo, Dnr, DnL, Dfree, Droom, DuS_S, DuS_I, DuS_L, DuS_R, DuS_N, DuS_A, DuI_S, DuI_I, DuI_L, DuI_R, DuI_N, DuI_A, DuL_S, DuL_I, DuL_L, DuL_R, DuL_N, DuL_A, DuR_S, DuR_I, DuR_L, DuR_R, DuR_N, DuR_A, Dnw_S, Dnw_I, Dnw_L, Dnw_R, Dnw_N, Dnw_A, DrI_S, DrI_I, DrI_L, DrI_R, DrI_N, DrI_A, DrJ_S, DrJ_I, DrJ_L, DrJ_R, DrJ_N, DrJ_A, dm64, G_d, G_x0, -Int32.not_le, -Int32.not_lt, -Int64.not_le, -Int64.not_lt, i3lt, i6lt]
  try simp (disch := omega) [-Prod.forall, -Prod.exists, -Prod.mk.injEq, -Int32.not_le, -Int32.not_lt, -Int64.not_le, -Int64.not_lt, i3lt, i6lt]
  refine dr_dig (m := m) (f := fun i => 48 + i % 10) (by omega) (dEt_d1 hE).2 rfl hr (by decide +kernel) (by decide +kernel) hA hN (by omega) hm n1 ?_
  refine dvk_ok (nC := n + 0) DJ6_getChars_ba4f3 hTyA hR (VC := []) (VD := []) (SD := []) (AL := []) (fun _ h => absurd h List.not_mem_nil) (fun _ h => absurd h List.not_mem_nil) (fun _ h => absurd h List.not_mem_nil) [62] 10 _ _ _ _ _ _ ?_
  simp (maxSteps := 1000000) [↓Bool.cond_eq_ite, -Prod.forall, -Prod.exists, -Prod.mk.injEq, ↓jc_eq_t, ↓jc_eq_f, ↓jc_ne_t, ↓jc_ne_f, ↓jc_lt_t, ↓jc_lt_f, ↓jc_ge_t, ↓jc_ge_f, ↓jc_gt_t, ↓jc_gt_f, ↓jc_le_t, ↓jc_le_f, dvk, tJ6_getChars_ba4f3, jtb, jol, dvl, dal, dst, jlk, jcmp, jbin, jfl, qJ6, jc2, qlJ6, jcat, jel, lv_args, Value.category, jins, jsrt, jins2, jble, jblt, jf3, List.filter_cons, List.filter_nil, Dlo, Dnr, DnL, Dfree, Droom, DuS_S, DuS_I, DuS_L, DuS_R, DuS_N, DuS_A, DuI_S, DuI_I, DuI_L, DuI_R, DuI_N, DuI_A, DuL_S, DuL_I, DuL_L, DuL_R, DuL_N, DuL_A, DuR_S, DuR_I, DuR_L, DuR_R, DuR_N, DuR_A, Dnw_S, Dnw_I, Dnw_L, Dnw_R, Dnw_N, Dnw_A, DrI_S, DrI_I, DrI_L, DrI_R, DrI_N, DrI_A, DrJ_S, DrJ_I, DrJ_L, DrJ_R, DrJ_N, DrJ_A, dm64, G_d, G_x0, -Int32.not_le, -Int32.not_lt, -Int64.not_le, -Int64.not_lt, i3lt, i6lt, e2]
  try simp (disch := omega) [-Prod.forall, -Prod.exists, -Prod.mk.injEq, -Int32.not_le, -Int32.not_lt, -Int64.not_le, -Int64.not_lt, i3lt, i6lt, e2]
  refine dr_gets (idx := 87) (v := .ref 503) rfl (dEt_d2 hE).1 (show Cond.fieldLink RJ6 87 "java/lang/Integer" "DigitTens" "[B" ∈ jGw from jGw_of 989 (by decide +kernel) (by decide +kernel)) (by decide +kernel) ?_
  refine dvk_ok (nC := n + 0) DJ6_getChars_ba4f3 hTyA hR (VC := []) (VD := []) (SD := []) (AL := []) (fun _ h => absurd h List.not_mem_nil) (fun _ h => absurd h List.not_mem_nil) (fun _ h => absurd h List.not_mem_nil) [67] 10 _ _ _ _ _ _ ?_
  simp (maxSteps := 1000000) [↓Bool.cond_eq_ite, -Prod.forall, -Prod.exists, -Prod.mk.injEq, ↓jc_eq_t, ↓jc_eq_f, ↓jc_ne_t, ↓jc_ne_f, ↓jc_lt_t, ↓jc_lt_f, ↓jc_ge_t, ↓jc_ge_f, ↓jc_gt_t, ↓jc_gt_f, ↓jc_le_t, ↓jc_le_f, dvk, tJ6_getChars_ba4f3, jtb, jol, dvl, dal, dst, jlk, jcmp, jbin, jfl, qJ6, jc2, qlJ6, jcat, jel, lv_args, Value.category, jins, jsrt, jins2, jble, jblt, jf3, List.filter_cons, List.filter_nil, Dlo, Dnr, DnL, Dfree, Droom, DuS_S, DuS_I, DuS_L, DuS_R, DuS_N, DuS_A, DuI_S, DuI_I, DuI_L, DuI_R, DuI_N, DuI_A, DuL_S, DuL_I, DuL_L, DuL_R, DuL_N, DuL_A, DuR_S, DuR_I, DuR_L, DuR_R, DuR_N, DuR_A, Dnw_S, Dnw_I, Dnw_L, Dnw_R, Dnw_N, Dnw_A, DrI_S, DrI_I, DrI_L, DrI_R, DrI_N, DrI_A, DrJ_S, DrJ_I, DrJ_L, DrJ_R, DrJ_N, DrJ_A, dm64, G_d, G_x0, -Int32.not_le, -Int32.not_lt, -Int64.not_le, -Int64.not_lt, i3lt, i6lt]
  try simp (disch := omega) [-Prod.forall, -Prod.exists, -Prod.mk.injEq, -Int32.not_le, -Int32.not_lt, -Int64.not_le, -Int64.not_lt, i3lt, i6lt]
  refine dr_dig (m := m) (f := fun i => 48 + i / 10) (by omega) (dEt_d2 hE).2 rfl hr (by decide +kernel) (by decide +kernel) hA hN (by omega) hm n2 ?_
  refine dvk_ok (nC := n + 0) DJ6_getChars_ba4f3 hTyA hR (VC := []) (VD := []) (SD := []) (AL := []) (fun _ h => absurd h List.not_mem_nil) (fun _ h => absurd h List.not_mem_nil) (fun _ h => absurd h List.not_mem_nil) [72] 10 _ _ _ _ _ _ ?_
  simp (maxSteps := 1000000) [↓Bool.cond_eq_ite, -Prod.forall, -Prod.exists, -Prod.mk.injEq, ↓jc_eq_t, ↓jc_eq_f, ↓jc_ne_t, ↓jc_ne_f, ↓jc_lt_t, ↓jc_lt_f, ↓jc_ge_t, ↓jc_ge_f, ↓jc_gt_t, ↓jc_gt_f, ↓jc_le_t, ↓jc_le_f, dvk, tJ6_getChars_ba4f3, jtb, jol, dvl, dal, dst, jlk, jcmp, jbin, jfl, qJ6, jc2, qlJ6, jcat, jel, lv_args, Value.category, jins, jsrt, jins2, jble, jblt, jf3, List.filter_cons, List.filter_nil, Dlo, Dnr, DnL, Dfree, Droom, DuS_S, DuS_I, DuS_L, DuS_R, DuS_N, DuS_A, DuI_S, DuI_I, DuI_L, DuI_R, DuI_N, DuI_A, DuL_S, DuL_I, DuL_L, DuL_R, DuL_N, DuL_A, DuR_S, DuR_I, DuR_L, DuR_R, DuR_N, DuR_A, Dnw_S, Dnw_I, Dnw_L, Dnw_R, Dnw_N, Dnw_A, DrI_S, DrI_I, DrI_L, DrI_R, DrI_N, DrI_A, DrJ_S, DrJ_I, DrJ_L, DrJ_R, DrJ_N, DrJ_A, dm64, G_d, G_x0, -Int32.not_le, -Int32.not_lt, -Int64.not_le, -Int64.not_lt, i3lt, i6lt, l2]
  try simp (disch := omega) [-Prod.forall, -Prod.exists, -Prod.mk.injEq, -Int32.not_le, -Int32.not_lt, -Int64.not_le, -Int64.not_lt, i3lt, i6lt, l2]
  exact DW.mono k (fun q hq => by
    simp only [List.mem_cons, List.not_mem_nil, or_false] at hq ⊢
    rcases hq with h | h | h | h <;> simp only [h, true_or, or_true])
theorem sbP_of {σ τ : dM} {n w : Nat} {s : Nat → Nat} (hl : ∀ j, j < w → s j < 128) (h2 : τ.1 = σ.1 ∧ τ.2.2 = σ.2.2) (hI : ∀ i j, DI τ i j = if i = 1600 ∧ n ≤ j ∧ j < n + w then nI (s (j - n)) else DI σ i j) : sbP σ τ n s w := by
  refine ⟨fun j => nI (s j), fun j hj => ⟨rfl, (bf_t _ (hl j hj)).1⟩, Prod.ext h2.1 (Prod.ext (funext fun i => funext fun j => ?_) h2.2)⟩
  show DI τ i j = if i = 1600 then va_cpy (fun j => nI (s j)) (DI σ 1600) 0 n w j else DI σ i j
  rw [hI]
  by_cases c : i = 1600
  · rw [if_pos c]
    unfold va_cpy
    by_cases d : n ≤ j ∧ j < n + w
    · rw [if_pos ⟨c, d⟩, if_pos d, Nat.zero_add]
    · rw [if_neg (fun z => d z.2), if_neg d, c]
  · rw [if_neg (fun z => c z.1), if_neg c]
theorem dec_lt (v j : Nat) : sb_dec v j < 128 := by
  unfold sb_dec
  have := Nat.mod_lt (v / 10 ^ (sb_dg v - 1 - j)) (show 0 < 10 by decide)
  omega
/-- the digits as they are put -/
theorem dig_1 {v : Nat} (h : v < 10) : sb_dg v = 1 ∧ sb_dec v 0 = 48 + v % 10 := by
  have e : sb_dg v = 1 := if_pos h
  refine ⟨e, ?_⟩
  unfold sb_dec
  rw [e]
  simp
theorem dig_2 {v : Nat} (h1 : 10 ≤ v) (h : v < 100) : sb_dg v = 2 ∧ sb_dec v 0 = 48 + v / 10 ∧ sb_dec v 1 = 48 + v % 10 := by
  have e : sb_dg v = 2 := by rw [sb_dg, if_neg (by omega), if_pos h]
  refine ⟨e, ?_, ?_⟩
  · unfold sb_dec
    rw [e]
    show 48 + v / 10 ^ 1 % 10 = _
    rw [Nat.pow_one]
    omega
  · unfold sb_dec
    rw [e]
    simp
theorem dig_3 {v : Nat} (h1 : 100 ≤ v) (h : v < 1000) : sb_dg v = 3 ∧ sb_dec v 0 = 48 + v / 100 % 10 ∧ sb_dec v 1 = 48 + v % 100 / 10 ∧ sb_dec v 2 = 48 + v % 100 % 10 := by
  have e : sb_dg v = 3 := by rw [sb_dg, if_neg (by omega), if_neg (by omega), if_pos h]
  refine ⟨e, ?_, ?_, ?_⟩
  · unfold sb_dec
    rw [e]
  · unfold sb_dec
    rw [e]
    show 48 + v / 10 ^ 1 % 10 = _
    rw [Nat.pow_one]
    omega
  · unfold sb_dec
    rw [e]
    show 48 + v / 10 ^ 0 % 10 = _
    rw [Nat.pow_zero]
    omega
theorem dig_4 {v : Nat} (h1 : 1000 ≤ v) (h : v < 10000) : sb_dg v = 4 ∧ sb_dec v 0 = 48 + v / 100 / 10 ∧ sb_dec v 1 = 48 + v / 100 % 10 ∧ sb_dec v 2 = 48 + v % 100 / 10 ∧ sb_dec v 3 = 48 + v % 100 % 10 := by
  have e : sb_dg v = 4 := by rw [sb_dg, if_neg (by omega), if_neg (by omega), if_neg (by omega), if_pos h]
  refine ⟨e, ?_, ?_, ?_, ?_⟩
  · unfold sb_dec
    rw [e]
    show 48 + v / 10 ^ 3 % 10 = _
    rw [show 10 ^ 3 = 1000 by decide]
    omega
  · unfold sb_dec
    rw [e]
  · unfold sb_dec
    rw [e]
    show 48 + v / 10 ^ 1 % 10 = _
    rw [Nat.pow_one]
    omega
  · unfold sb_dec
    rw [e]
    show 48 + v / 10 ^ 0 % 10 = _
    rw [Nat.pow_zero]
    omega
def dGc (n m v : Nat) : dO := doIIR fun x y a σ => (x = nI v ∧ v < 10000 ∧ y = nI (n + sb_dg v) ∧ a = 1600 ∧ DA σ 1600 = true ∧ DN σ 1600 = m ∧ n + sb_dg v ≤ m ∧ m ≤ 700, fun w τ => w = some (.int (nI n)) ∧ sbP σ τ n (sb_dec v) (sb_dg v))
set_option maxRecDepth 100000 in
set_option maxHeartbeats 4000000 in
theorem EJ6_getChars (hE : dEt g h0) (k n m v : Nat) : dOk g h0 k 0 0 [] mJ6_getChars_ba4f3 (dGc n m v) := by
  refine doIIR_ok ?_
  rintro _ _ _ σ ⟨rfl, hv, rfl, rfl, hA, hN, hn, hm⟩
  refine dCon.gt (by decide +kernel) (by simp [lg_sl, Value.category]) (fun z hz0 hkp hcl hz post hp hR => ?_)
  have p0 : ¬ nI v < 0 := nI_pos (by omega)
  have c0 : (0 : Int32) = 0 := rfl
  show DW g z mJ6_getChars_ba4f3 0 [(0, .int (nI v)), (1, .int (nI (n + sb_dg v))), (2, .ref 1600)] [] σ 0 0
  have fin : ∀ τ, sbP σ τ n (sb_dec v) (sb_dg v) → Dcl0 τ → dRp 0 0 post (some (.int (nI n))) τ 0 0 := fun τ h h9 => ⟨⟨Nat.le_refl _, Nat.le_refl _⟩, τ, Dsub.rfl h9, hp _ _ ⟨rfl, h⟩⟩
  have hl : ∀ j, j < sb_dg v → sb_dec v j < 128 := fun j _ => dec_lt v j
  by_cases c1 : v < 100
  · have l2 : ¬ -nI v ≤ -100 := fun z9 => absurd ((sb_nle (a := v) (b := 100) (by omega) (by omega)).mp z9) (by omega)
    refine dvk_ok (nC := n + 0) DJ6_getChars_ba4f3 hTyA hR (VC := []) (VD := []) (SD := []) (AL := []) (fun _ h => absurd h List.not_mem_nil) (fun _ h => absurd h List.not_mem_nil) (fun _ h => absurd h List.not_mem_nil) [72] 40 _ _ _ _ _ _ ?_
    simp (maxSteps := 1000000) [↓Bool.cond_eq_ite, -Prod.forall, -Prod.exists, -Prod.mk.injEq, ↓jc_eq_t, ↓jc_eq_f, ↓jc_ne_t, ↓jc_ne_f, ↓jc_lt_t, ↓jc_lt_f, ↓jc_ge_t, ↓jc_ge_f, ↓jc_gt_t, ↓jc_gt_f, ↓jc_le_t, ↓jc_le_f, dvk, tJ6_getChars_ba4f3, jtb, jol, dvl, dal, dst, jlk, jcmp, jbin, jfl, qJ6, jc2, qlJ6, jcat, jel, lv_args, Value.category, jins, jsrt, jins2, jble, jblt, jf3, List.filter_cons, List.filter_nil, Dlo, Dnr, DnL, Dfree, Droom, DuS_S, DuS_I, DuS_L, DuS_R, DuS_N, DuS_A, DuI_S, DuI_I, DuI_L, DuI_R, DuI_N, DuI_A, DuL_S, DuL_I, DuL_L, DuL_R, DuL_N, DuL_A, DuR_S, DuR_I, DuR_L, DuR_R, DuR_N, DuR_A, Dnw_S, Dnw_I, Dnw_L, Dnw_R, Dnw_N, Dnw_A, DrI_S, DrI_I, DrI_L, DrI_R, DrI_N, DrI_A, DrJ_S, DrJ_I, DrJ_L, DrJ_R, DrJ_N, DrJ_A, dm64, G_d, G_x0, -Int32.not_le, -Int32.not_lt, -Int64.not_le, -Int64.not_lt, i3lt, i6lt, p0, l2]
    try simp (disch := omega) [-Prod.forall, -Prod.exists, -Prod.mk.injEq, -Int32.not_le, -Int32.not_lt, -Int64.not_le, -Int64.not_lt, i3lt, i6lt, p0, l2]
    have e9 : (if v < 10 then 1 else 2) = sb_dg v := by
      by_cases c : v < 10
      · rw [if_pos c, (dig_1 c).1]
      · rw [if_neg c, (dig_2 (by omega) c1).1]
    refine DW.mono (GC_x k hE hz0 hR (p := n + sb_dg v) (x := v) hA hN hn hm c1 (by rw [e9]; omega) ?_) (by simp)
    rw [e9, show n + sb_dg v - sb_dg v = n by omega]
    by_cases c : v < 10
    · obtain ⟨d1, d2⟩ := dig_1 c
      rw [if_pos c]
      refine fin _ (sbP_of hl ⟨rfl, rfl⟩ (fun i j => ?_)) hcl
      rw [DuI_I, d1]
      by_cases q : i = 1600 ∧ n ≤ j ∧ j < n + 1
      · rw [if_pos q, if_pos ⟨q.1, by omega⟩, show j - n = 0 by omega, d2]
      · rw [if_neg q, if_neg (by omega)]
    · obtain ⟨d1, d2, d3⟩ := dig_2 (by omega) c1
      rw [if_neg c]
      refine fin _ (sbP_of hl ⟨rfl, rfl⟩ (fun i j => ?_)) hcl
      rw [DuI_I, DuI_I, d1]
      by_cases q : i = 1600 ∧ n ≤ j ∧ j < n + 2
      · rw [if_pos q]
        by_cases r : j = n
        · rw [if_pos ⟨q.1, by omega⟩, show j - n = 0 by omega, d2]
        · rw [if_neg (by omega), if_pos ⟨q.1, by omega⟩, show j - n = 1 by omega, d3]
      · rw [if_neg q, if_neg (by omega), if_neg (by omega)]
  · refine dvk_ok (nC := n + 0) DJ6_getChars_ba4f3 hTyA hR (VC := []) (VD := []) (SD := []) (AL := []) (fun _ h => absurd h List.not_mem_nil) (fun _ h => absurd h List.not_mem_nil) (fun _ h => absurd h List.not_mem_nil) [22] 40 _ _ _ _ _ _ ?_
    simp (maxSteps := 1000000) [↓Bool.cond_eq_ite, -Prod.forall, -Prod.exists, -Prod.mk.injEq, ↓jc_eq_t, ↓jc_eq_f, ↓jc_ne_t, ↓jc_ne_f, ↓jc_lt_t, ↓jc_lt_f, ↓jc_ge_t, ↓jc_ge_f, ↓jc_gt_t, ↓jc_gt_f, ↓jc_le_t, ↓jc_le_f, dvk, tJ6_getChars_ba4f3, jtb, jol, dvl, dal, dst, jlk, jcmp, jbin, jfl, qJ6, jc2, qlJ6, jcat, jel, lv_args, Value.category, jins, jsrt, jins2, jble, jblt, jf3, List.filter_cons, List.filter_nil, Dlo, Dnr, DnL, Dfree, Droom, DuS_S, DuS_I, DuS_L, DuS_R, DuS_N, DuS_A, DuI_S, DuI_I, DuI_L, DuI_R, DuI_N, DuI_A, DuL_S, DuL_I, DuL_L, DuL_R, DuL_N, DuL_A, DuR_S, DuR_I, DuR_L, DuR_R, DuR_N, DuR_A, Dnw_S, Dnw_I, Dnw_L, Dnw_R, Dnw_N, Dnw_A, DrI_S, DrI_I, DrI_L, DrI_R, DrI_N, DrI_A, DrJ_S, DrJ_I, DrJ_L, DrJ_R, DrJ_N, DrJ_A, dm64, G_d, G_x0, -Int32.not_le, -Int32.not_lt, -Int64.not_le, -Int64.not_lt, i3lt, i6lt, p0]
    try simp (disch := omega) [-Prod.forall, -Prod.exists, -Prod.mk.injEq, -Int32.not_le, -Int32.not_lt, -Int64.not_le, -Int64.not_lt, i3lt, i6lt, p0]
    have e9 : sb_dg v = 2 + if v / 100 < 10 then 1 else 2 := by
      by_cases c : v / 100 < 10
      · rw [if_pos c, (dig_3 (by omega) (by omega)).1]
      · rw [if_neg c, (dig_4 (by omega) (by omega)).1]
    refine DW.mono (GC_r k hE hz0 hR (y := nI (n + sb_dg v)) (p := n + sb_dg v) hA hN hn hm hv (by omega) (by omega) ?_) (by simp)
    refine GC_x k hE hz0 hR (p := n + sb_dg v - 2) (x := v / 100) (m := m) hA hN (by omega) hm (by omega) (by omega) ?_
    have e8 : n + sb_dg v - 2 - (if v / 100 < 10 then 1 else 2) = n := by omega
    rw [e8]
    by_cases c : v / 100 < 10
    · obtain ⟨d1, d2, d3, d4⟩ := dig_3 (v := v) (by omega) (by omega)
      rw [if_pos c]
      refine fin _ (sbP_of hl ⟨rfl, rfl⟩ (fun i j => ?_)) hcl
      rw [DuI_I, DuI_I, DuI_I, d1]
      by_cases q : i = 1600 ∧ n ≤ j ∧ j < n + 3
      · rw [if_pos q]
        by_cases r : j = n
        · rw [if_pos ⟨q.1, by omega⟩, show j - n = 0 by omega, d2]
        · rw [if_neg (by omega)]
          by_cases r2 : j = n + 1
          · rw [if_pos ⟨q.1, by omega⟩, show j - n = 1 by omega, d3]
          · rw [if_neg (by omega), if_pos ⟨q.1, by omega⟩, show j - n = 2 by omega, d4]
      · rw [if_neg q, if_neg (by omega), if_neg (by omega), if_neg (by omega)]
    · obtain ⟨d1, d2, d3, d4, d5⟩ := dig_4 (v := v) (by omega) (by omega)
      rw [if_neg c]
      refine fin _ (sbP_of hl ⟨rfl, rfl⟩ (fun i j => ?_)) hcl
      rw [DuI_I, DuI_I, DuI_I, DuI_I, d1]
      by_cases q : i = 1600 ∧ n ≤ j ∧ j < n + 4
      · rw [if_pos q]
        by_cases r : j = n
        · rw [if_pos ⟨q.1, by omega⟩, show j - n = 0 by omega, d2]
        · rw [if_neg (by omega)]
          by_cases r2 : j = n + 1
          · rw [if_pos ⟨q.1, by omega⟩, show j - n = 1 by omega, d3]
          · rw [if_neg (by omega)]
            by_cases r3 : j = n + 2
            · rw [if_pos ⟨q.1, by omega⟩, show j - n = 2 by omega, d4]
            · rw [if_neg (by omega), if_pos ⟨q.1, by omega⟩, show j - n = 3 by omega, d5]
      · rw [if_neg q, if_neg (by omega), if_neg (by omega), if_neg (by omega), if_neg (by omega)]
def dAi (f : Nat → Nat) (n m v : Nat) : dO := doRI fun a x σ => (a = 1800 ∧ x = nI v ∧ v < 10000 ∧ sbQ σ f n m ∧ n + sb_dg v ≤ 300, fun w τ => w = some (.ref 1800) ∧ sbA σ τ f n (sb_dec v) (sb_dg v))
set_option maxRecDepth 100000 in
set_option maxHeartbeats 4000000 in
theorem EJ5_appendI (hE : dEt g h0) (k : Nat) (f : Nat → Nat) (n m v : Nat) : dOk g h0 (k + 4) 1 700 [1600, 1601] mJ5_append_c97b9 (dAi f n m v) := by
  refine doRI_ok ?_
  rintro _ _ σ ⟨rfl, rfl, hv, ⟨hs, hQ, hA1⟩, hw⟩
  refine dCon.gt (by decide +kernel) (by simp [lg_sl, Value.category]) (fun z hz0 hkp hcl hz post hp hR => ?_)
  subst hz0
  simp only [DkF] at hkp
  obtain ⟨h1, h2, h3, h4⟩ := hs.1
  have hA9 : DA σ 1800 = true := h1
  have e1 : nI n + nI (sb_dg v) = nI (n + sb_dg v) := nI_add _ _
  show DW g z mJ5_append_c97b9 0 [(0, .ref 1800), (1, .int (nI v))] [] σ 0 0
  refine dvk_ok (nC := n + 3) DJ5_append_c97b9 hTyA hR (VC := []) (VD := []) (SD := []) (AL := []) (fun _ h => absurd h List.not_mem_nil) (fun _ h => absurd h List.not_mem_nil) (fun _ h => absurd h List.not_mem_nil) [7] 20 _ _ _ _ _ _ ?_
  simp (maxSteps := 1000000) [↓Bool.cond_eq_ite, -Prod.forall, -Prod.exists, -Prod.mk.injEq, ↓jc_eq_t, ↓jc_eq_f, ↓jc_ne_t, ↓jc_ne_f, ↓jc_lt_t, ↓jc_lt_f, ↓jc_ge_t, ↓jc_ge_f, ↓jc_gt_t, ↓jc_gt_f, ↓jc_le_t, ↓jc_le_f, dvk, tJ5_append_c97b9, jtb, jol, dvl, dal, dst, jlk, jcmp, jbin, jfl, qJ5, jc2, qlJ5, jcat, jel, lv_args, Value.category, jins, jsrt, jins2, jble, jblt, jf3, List.filter_cons, List.filter_nil, Dlo, Dnr, DnL, Dfree, Droom, DuS_S, DuS_I, DuS_L, DuS_R, DuS_N, DuS_A, DuI_S, DuI_I, DuI_L, DuI_R, DuI_N, DuI_A, DuL_S, DuL_I, DuL_L, DuL_R, DuL_N, DuL_A, DuR_S, DuR_I, DuR_L, DuR_R, DuR_N, DuR_A, Dnw_S, Dnw_I, Dnw_L, Dnw_R, Dnw_N, Dnw_A, DrI_S, DrI_I, DrI_L, DrI_R, DrI_N, DrI_A, DrJ_S, DrJ_I, DrJ_L, DrJ_R, DrJ_N, DrJ_A, dm64, G_d, G_x0, -Int32.not_le, -Int32.not_lt, -Int64.not_le, -Int64.not_lt, i3lt, i6lt, h1, h4, G_t]
  try simp (disch := omega) [-Prod.forall, -Prod.exists, -Prod.mk.injEq, -Int32.not_le, -Int32.not_lt, -Int64.not_le, -Int64.not_lt, i3lt, i6lt, h1, h4, G_t]
  have hc := EJ6_stringSize (g := g) (h0 := z.2.2.2.2) k v [.int (nI v)] σ ⟨rfl, hv⟩
  refine dr_callS (idx := 245) (mt' := mJ6_stringSize_0f7a4) (tl := []) (n' := k) (mc := 0) (ms := 0) (as := [.int (nI v)]) ⟨by omega, by show 8 + (4 + 11) + 64 * (k) ≤ _; omega, by omega, by omega⟩ trivial (by decide +kernel) (Or.inl hJ5_245) WJ6_stringSize_0f7a4 rfl rfl (by simp [Value.category]) hc ?_
  rintro w τ ⟨rfl, rfl⟩
  show DW g z mJ5_append_c97b9 10 _ [.int (nI (sb_dg v)), .int (nI n)] τ 0 0
  refine dvk_ok (nC := n + 3) DJ5_append_c97b9 hTyA hR (VC := []) (VD := []) (SD := []) (AL := []) (fun _ h => absurd h List.not_mem_nil) (fun _ h => absurd h List.not_mem_nil) (fun _ h => absurd h List.not_mem_nil) [14] 20 _ _ _ _ _ _ ?_
  simp (maxSteps := 1000000) [↓Bool.cond_eq_ite, -Prod.forall, -Prod.exists, -Prod.mk.injEq, ↓jc_eq_t, ↓jc_eq_f, ↓jc_ne_t, ↓jc_ne_f, ↓jc_lt_t, ↓jc_lt_f, ↓jc_ge_t, ↓jc_ge_f, ↓jc_gt_t, ↓jc_gt_f, ↓jc_le_t, ↓jc_le_f, dvk, tJ5_append_c97b9, jtb, jol, dvl, dal, dst, jlk, jcmp, jbin, jfl, qJ5, jc2, qlJ5, jcat, jel, lv_args, Value.category, jins, jsrt, jins2, jble, jblt, jf3, List.filter_cons, List.filter_nil, Dlo, Dnr, DnL, Dfree, Droom, DuS_S, DuS_I, DuS_L, DuS_R, DuS_N, DuS_A, DuI_S, DuI_I, DuI_L, DuI_R, DuI_N, DuI_A, DuL_S, DuL_I, DuL_L, DuL_R, DuL_N, DuL_A, DuR_S, DuR_I, DuR_L, DuR_R, DuR_N, DuR_A, Dnw_S, Dnw_I, Dnw_L, Dnw_R, Dnw_N, Dnw_A, DrI_S, DrI_I, DrI_L, DrI_R, DrI_N, DrI_A, DrJ_S, DrJ_I, DrJ_L, DrJ_R, DrJ_N, DrJ_A, dm64, G_d, G_x0, -Int32.not_le, -Int32.not_lt, -Int64.not_le, -Int64.not_lt, i3lt, i6lt, e1]
  try simp (disch := omega) [-Prod.forall, -Prod.exists, -Prod.mk.injEq, -Int32.not_le, -Int32.not_lt, -Int64.not_le, -Int64.not_lt, i3lt, i6lt, e1]
  have hc := EJ5_ensureCapacityInternal (g := g) (h0 := z.2.2.2.2) hE k f n m (n + sb_dg v) [.ref 1800, .int (nI (n + sb_dg v))] τ ⟨rfl, rfl, hs, hw, hQ, hA1⟩
  refine dr_callU (idx := 100) (mt' := mJ5_ensureCapacityInternal_d00df) (tl := [1600, 1601]) (n' := k + 3) (mc := 1) (ms := 700) (C := "java/lang/StringBuilder") (x := yJ5_ensureCapacityInternal_d00df) (ci := 14) (T := TJ4) (N := 4) (a := 1800) (as := [.int (nI (n + sb_dg v))]) ⟨by omega, by show 8 + (3 + 11) + 64 * (k + 3) ≤ _; omega, by omega, by omega⟩ (by simp [Dfree, DnL, Dnr, hkp]) (by decide +kernel) hJ5_100 (jGw_of 1701 (by decide +kernel) (by decide +kernel)) (Or.inr (fun U H h => (hE.2 U H h).2.2.2.2.2 _ (by decide +kernel))) ⟨UJ5_ensureCapacityInternal_d00df.2, _, _, _, UJ5_ensureCapacityInternal_d00df.1.2.1⟩ rfl (by decide +kernel) UJ5_ensureCapacityInternal_d00df rfl (by decide +kernel) hA9 rfl rfl (by simp [Value.category]) hc ?_
  rintro w υ ⟨rfl, m', r1, r2, r3, r4, r5⟩
  show DW g z mJ5_append_c97b9 17 _ [] υ 1 700
  obtain ⟨u1, u2, u3, u4⟩ := r1.1
  obtain ⟨u5, u6⟩ := r1.2.1
  have hA9 : DA υ 1800 = true := u1
  refine dvk_ok (nC := n + 3) DJ5_append_c97b9 hTyA hR (VC := []) (VD := []) (SD := []) (AL := []) (fun _ h => absurd h List.not_mem_nil) (fun _ h => absurd h List.not_mem_nil) (fun _ h => absurd h List.not_mem_nil) [18] 20 _ _ _ _ _ _ ?_
  simp (maxSteps := 1000000) [↓Bool.cond_eq_ite, -Prod.forall, -Prod.exists, -Prod.mk.injEq, ↓jc_eq_t, ↓jc_eq_f, ↓jc_ne_t, ↓jc_ne_f, ↓jc_lt_t, ↓jc_lt_f, ↓jc_ge_t, ↓jc_ge_f, ↓jc_gt_t, ↓jc_gt_f, ↓jc_le_t, ↓jc_le_f, dvk, tJ5_append_c97b9, jtb, jol, dvl, dal, dst, jlk, jcmp, jbin, jfl, qJ5, jc2, qlJ5, jcat, jel, lv_args, Value.category, jins, jsrt, jins2, jble, jblt, jf3, List.filter_cons, List.filter_nil, Dlo, Dnr, DnL, Dfree, Droom, DuS_S, DuS_I, DuS_L, DuS_R, DuS_N, DuS_A, DuI_S, DuI_I, DuI_L, DuI_R, DuI_N, DuI_A, DuL_S, DuL_I, DuL_L, DuL_R, DuL_N, DuL_A, DuR_S, DuR_I, DuR_L, DuR_R, DuR_N, DuR_A, Dnw_S, Dnw_I, Dnw_L, Dnw_R, Dnw_N, Dnw_A, DrI_S, DrI_I, DrI_L, DrI_R, DrI_N, DrI_A, DrJ_S, DrJ_I, DrJ_L, DrJ_R, DrJ_N, DrJ_A, dm64, G_d, G_x0, -Int32.not_le, -Int32.not_lt, -Int64.not_le, -Int64.not_lt, i3lt, i6lt]
  try simp (disch := omega) [-Prod.forall, -Prod.exists, -Prod.mk.injEq, -Int32.not_le, -Int32.not_lt, -Int64.not_le, -Int64.not_lt, i3lt, i6lt]
  have hc := EJ5_isLatin1 (g := g) (h0 := z.2.2.2.2) hE k [.ref 1800] υ ⟨rfl, u1, u3⟩
  refine dr_callU (idx := 83) (mt' := mJ5_isLatin1_aae02) (tl := []) (n' := k) (mc := 0) (ms := 0) (C := "java/lang/StringBuilder") (x := yJ5_isLatin1_aae02) (ci := 14) (T := TJ4) (N := 4) (a := 1800) (as := []) ⟨by omega, by show 8 + (1 + 11) + 64 * (k) ≤ _; omega, by omega, by omega⟩ trivial (by decide +kernel) hJ5_83 (jGw_of 816 (by decide +kernel) (by decide +kernel)) (Or.inl (jGw_of 817 (by decide +kernel) (by decide +kernel))) ⟨UJ5_isLatin1_aae02.2, _, _, _, UJ5_isLatin1_aae02.1.2.1⟩ rfl (by decide +kernel) UJ5_isLatin1_aae02 rfl (by decide +kernel) hA9 rfl rfl (by simp [Value.category]) hc ?_
  rintro w τ9 ⟨rfl, rfl⟩
  show DW g z mJ5_append_c97b9 21 _ [.int 1] τ9 1 700
  have c1 := c1_n0
  refine dvk_ok (nC := n + 3) DJ5_append_c97b9 hTyA hR (VC := []) (VD := []) (SD := []) (AL := []) (fun _ h => absurd h List.not_mem_nil) (fun _ h => absurd h List.not_mem_nil) (fun _ h => absurd h List.not_mem_nil) [30] 20 _ _ _ _ _ _ ?_
  simp (maxSteps := 1000000) [↓Bool.cond_eq_ite, -Prod.forall, -Prod.exists, -Prod.mk.injEq, ↓jc_eq_t, ↓jc_eq_f, ↓jc_ne_t, ↓jc_ne_f, ↓jc_lt_t, ↓jc_lt_f, ↓jc_ge_t, ↓jc_ge_f, ↓jc_gt_t, ↓jc_gt_f, ↓jc_le_t, ↓jc_le_f, dvk, tJ5_append_c97b9, jtb, jol, dvl, dal, dst, jlk, jcmp, jbin, jfl, qJ5, jc2, qlJ5, jcat, jel, lv_args, Value.category, jins, jsrt, jins2, jble, jblt, jf3, List.filter_cons, List.filter_nil, Dlo, Dnr, DnL, Dfree, Droom, DuS_S, DuS_I, DuS_L, DuS_R, DuS_N, DuS_A, DuI_S, DuI_I, DuI_L, DuI_R, DuI_N, DuI_A, DuL_S, DuL_I, DuL_L, DuL_R, DuL_N, DuL_A, DuR_S, DuR_I, DuR_L, DuR_R, DuR_N, DuR_A, Dnw_S, Dnw_I, Dnw_L, Dnw_R, Dnw_N, Dnw_A, DrI_S, DrI_I, DrI_L, DrI_R, DrI_N, DrI_A, DrJ_S, DrJ_I, DrJ_L, DrJ_R, DrJ_N, DrJ_A, dm64, G_d, G_x0, -Int32.not_le, -Int32.not_lt, -Int64.not_le, -Int64.not_lt, i3lt, i6lt, c1, u1, u2, G_t]
  try simp (disch := omega) [-Prod.forall, -Prod.exists, -Prod.mk.injEq, -Int32.not_le, -Int32.not_lt, -Int64.not_le, -Int64.not_lt, i3lt, i6lt, c1, u1, u2, G_t]
  have hc := EJ6_getChars (g := g) (h0 := z.2.2.2.2) hE k n m' v [.int (nI v), .int (nI (n + sb_dg v)), .ref 1600] τ9 ⟨rfl, hv, rfl, rfl, u5, u6, r2, r1.2.2.1.2⟩
  refine dr_callS (idx := 248) (mt' := mJ6_getChars_ba4f3) (tl := []) (n' := k) (mc := 0) (ms := 0) (as := [.int (nI v), .int (nI (n + sb_dg v)), .ref 1600]) ⟨by omega, by show 8 + (7 + 11) + 64 * (k) ≤ _; omega, by omega, by omega⟩ trivial (by decide +kernel) (Or.inl hJ5_248) WJ6_getChars_ba4f3 rfl rfl (by simp [Value.category]) hc ?_
  rintro w ρ ⟨rfl, hρ⟩
  show DW g z mJ5_append_c97b9 33 _ [.int (nI n)] ρ 1 700
  obtain ⟨t1, t2, t3, t4⟩ := sbP_S r1 (fun j _ => dec_lt v j) hρ r2
  have v1 : DA ρ 1800 = true := by
    obtain ⟨S, -, rfl⟩ := hρ
    exact u1
  refine DW.cl (fun hcl9 => ?_)
  refine dvk_ok (nC := n + 3) DJ5_append_c97b9 hTyA hR (VC := []) (VD := []) (SD := []) (AL := []) (fun _ h => absurd h List.not_mem_nil) (fun _ h => absurd h List.not_mem_nil) (fun _ h => absurd h List.not_mem_nil) [] 20 _ _ _ _ _ _ ?_
  simp (maxSteps := 1000000) [↓Bool.cond_eq_ite, -Prod.forall, -Prod.exists, -Prod.mk.injEq, ↓jc_eq_t, ↓jc_eq_f, ↓jc_ne_t, ↓jc_ne_f, ↓jc_lt_t, ↓jc_lt_f, ↓jc_ge_t, ↓jc_ge_f, ↓jc_gt_t, ↓jc_gt_f, ↓jc_le_t, ↓jc_le_f, dvk, tJ5_append_c97b9, jtb, jol, dvl, dal, dst, jlk, jcmp, jbin, jfl, qJ5, jc2, qlJ5, jcat, jel, lv_args, Value.category, jins, jsrt, jins2, jble, jblt, jf3, List.filter_cons, List.filter_nil, Dlo, Dnr, DnL, Dfree, Droom, DuS_S, DuS_I, DuS_L, DuS_R, DuS_N, DuS_A, DuI_S, DuI_I, DuI_L, DuI_R, DuI_N, DuI_A, DuL_S, DuL_I, DuL_L, DuL_R, DuL_N, DuL_A, DuR_S, DuR_I, DuR_L, DuR_R, DuR_N, DuR_A, Dnw_S, Dnw_I, Dnw_L, Dnw_R, Dnw_N, Dnw_A, DrI_S, DrI_I, DrI_L, DrI_R, DrI_N, DrI_A, DrJ_S, DrJ_I, DrJ_L, DrJ_R, DrJ_N, DrJ_A, dm64, G_d, G_x0, -Int32.not_le, -Int32.not_lt, -Int64.not_le, -Int64.not_lt, i3lt, i6lt, v1, G_t]
  try simp (disch := omega) [-Prod.forall, -Prod.exists, -Prod.mk.injEq, -Int32.not_le, -Int32.not_lt, -Int64.not_le, -Int64.not_lt, i3lt, i6lt, v1, G_t]
  exact ⟨⟨by omega, by omega⟩, _, Dsub.rfl (δ := DuI ρ 1800 3 (nI (n + sb_dg v))) hcl9, hp _ _ ⟨rfl, m', t1, r3.tr t2, by rw [t4]; exact r4, txQ_I r5 t3 t4⟩⟩
set_option maxRecDepth 100000 in
set_option maxHeartbeats 4000000 in
theorem EJ4_appendI (hE : dEt g h0) (k : Nat) (f : Nat → Nat) (n m v : Nat) : dOk g h0 (k + 5) 1 700 [1600, 1601] mJ4_append_bf812 (dAi f n m v) := by
  refine doRI_ok ?_
  rintro _ _ σ ⟨rfl, rfl, hv, hs, hw⟩
  refine dCon.gt (by decide +kernel) (by simp [lg_sl, Value.category]) (fun z hz0 hkp hcl hz post hp hR => ?_)
  subst hz0
  simp only [DkF] at hkp
  have hA9 : DA σ 1800 = true := hs.1.1.1
  show DW g z mJ4_append_bf812 0 [(0, .ref 1800), (1, .int (nI v))] [] σ 0 0
  refine dvk_ok (nC := n + 4) DJ4_append_bf812 hTyA hR (VC := []) (VD := []) (SD := []) (AL := []) (fun _ h => absurd h List.not_mem_nil) (fun _ h => absurd h List.not_mem_nil) (fun _ h => absurd h List.not_mem_nil) [2] 10 _ _ _ _ _ _ ?_
  simp (maxSteps := 1000000) [↓Bool.cond_eq_ite, -Prod.forall, -Prod.exists, -Prod.mk.injEq, ↓jc_eq_t, ↓jc_eq_f, ↓jc_ne_t, ↓jc_ne_f, ↓jc_lt_t, ↓jc_lt_f, ↓jc_ge_t, ↓jc_ge_f, ↓jc_gt_t, ↓jc_gt_f, ↓jc_le_t, ↓jc_le_f, dvk, tJ4_append_bf812, jtb, jol, dvl, dal, dst, jlk, jcmp, jbin, jfl, qJ4, jc2, qlJ4, jcat, jel, lv_args, Value.category, jins, jsrt, jins2, jble, jblt, jf3, List.filter_cons, List.filter_nil, Dlo, Dnr, DnL, Dfree, Droom, DuS_S, DuS_I, DuS_L, DuS_R, DuS_N, DuS_A, DuI_S, DuI_I, DuI_L, DuI_R, DuI_N, DuI_A, DuL_S, DuL_I, DuL_L, DuL_R, DuL_N, DuL_A, DuR_S, DuR_I, DuR_L, DuR_R, DuR_N, DuR_A, Dnw_S, Dnw_I, Dnw_L, Dnw_R, Dnw_N, Dnw_A, DrI_S, DrI_I, DrI_L, DrI_R, DrI_N, DrI_A, DrJ_S, DrJ_I, DrJ_L, DrJ_R, DrJ_N, DrJ_A, dm64, G_d, G_x0, -Int32.not_le, -Int32.not_lt, -Int64.not_le, -Int64.not_lt, i3lt, i6lt]
  try simp (disch := omega) [-Prod.forall, -Prod.exists, -Prod.mk.injEq, -Int32.not_le, -Int32.not_lt, -Int64.not_le, -Int64.not_lt, i3lt, i6lt]
  have hc := EJ5_appendI (g := g) (h0 := z.2.2.2.2) hE k f n m v [.ref 1800, .int (nI v)] σ ⟨rfl, rfl, hv, hs, hw⟩
  refine dr_callSU (idx := 53) (mt' := mJ5_append_c97b9) (tl := [1600, 1601]) (n' := k + 4) (mc := 1) (ms := 700) (C := "java/lang/StringBuilder") (ci := 14) (T := TJ4) (N := 4) (a := 1800) (as := [.int (nI v)]) ⟨by omega, by show 8 + (4 + 11) + 64 * (k + 4) ≤ _; omega, by omega, by omega⟩ (by simp [Dfree, DnL, Dnr, hkp]) (by decide +kernel) hJ4_53 (jGw_of 1707 (by decide +kernel) (by decide +kernel)) (jGw_of 771 (by decide +kernel) (by decide +kernel)) UJ5_append_c97b9 (by decide +kernel) rfl (by decide +kernel) hA9 rfl rfl (by simp [Value.category]) hc ?_
  rintro w τ ⟨rfl, hτ⟩
  show DW g z mJ4_append_bf812 5 _ [.ref 1800] τ 1 700
  refine DW.cl (fun hcl9 => ?_)
  refine dvk_ok (nC := n + 4) DJ4_append_bf812 hTyA hR (VC := []) (VD := []) (SD := []) (AL := []) (fun _ h => absurd h List.not_mem_nil) (fun _ h => absurd h List.not_mem_nil) (fun _ h => absurd h List.not_mem_nil) [] 10 _ _ _ _ _ _ ?_
  simp (maxSteps := 1000000) [↓Bool.cond_eq_ite, -Prod.forall, -Prod.exists, -Prod.mk.injEq, ↓jc_eq_t, ↓jc_eq_f, ↓jc_ne_t, ↓jc_ne_f, ↓jc_lt_t, ↓jc_lt_f, ↓jc_ge_t, ↓jc_ge_f, ↓jc_gt_t, ↓jc_gt_f, ↓jc_le_t, ↓jc_le_f, dvk, tJ4_append_bf812, jtb, jol, dvl, dal, dst, jlk, jcmp, jbin, jfl, qJ4, jc2, qlJ4, jcat, jel, lv_args, Value.category, jins, jsrt, jins2, jble, jblt, jf3, List.filter_cons, List.filter_nil, Dlo, Dnr, DnL, Dfree, Droom, DuS_S, DuS_I, DuS_L, DuS_R, DuS_N, DuS_A, DuI_S, DuI_I, DuI_L, DuI_R, DuI_N, DuI_A, DuL_S, DuL_I, DuL_L, DuL_R, DuL_N, DuL_A, DuR_S, DuR_I, DuR_L, DuR_R, DuR_N, DuR_A, Dnw_S, Dnw_I, Dnw_L, Dnw_R, Dnw_N, Dnw_A, DrI_S, DrI_I, DrI_L, DrI_R, DrI_N, DrI_A, DrJ_S, DrJ_I, DrJ_L, DrJ_R, DrJ_N, DrJ_A, dm64, G_d, G_x0, -Int32.not_le, -Int32.not_lt, -Int64.not_le, -Int64.not_lt, i3lt, i6lt]
  try simp (disch := omega) [-Prod.forall, -Prod.exists, -Prod.mk.injEq, -Int32.not_le, -Int32.not_lt, -Int64.not_le, -Int64.not_lt, i3lt, i6lt]
  exact ⟨⟨by omega, by omega⟩, _, Dsub.rfl hcl9, hp _ _ ⟨rfl, hτ⟩⟩
end EMC
