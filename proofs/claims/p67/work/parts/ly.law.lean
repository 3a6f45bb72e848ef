/-! a StringBuilder's append of a text -/
theorem txt_fr {P : Nat → Prop} {σ τ : dM} {q : Nat} {f : Nat → Nat} {n : Nat} (hP : P 1700 ∧ P 1701 ∧ P 1610 ∧ P 1611 ∧ P 1702 ∧ P 1612) (hf : tfr P σ τ) (h : txt σ q f n) : txt τ q f n := by
  have key : ∀ s a, 1000 ≤ s → s < 2100 → 1000 ≤ a → a < 2100 → P s → P a → tsS σ s a f n → tsS τ s a f n := fun s a s1 s2 a1 a2 hs ha h => by
    obtain ⟨⟨h1, h2, h3⟩, ⟨h5, h6⟩, h8⟩ := h
    obtain ⟨x1, x2⟩ := hf.2 s hs
    obtain ⟨y1, y2⟩ := hf.2 a ha
    obtain ⟨x3, -, x5, -⟩ := x2 s1 s2 h1
    obtain ⟨y3, -, -, y6⟩ := y2 a1 a2 h5
    exact ⟨⟨by rw [x1]; exact h1, by rw [x5]; exact h2, by rw [x3]; exact h3⟩, ⟨by rw [y1]; exact h5, by rw [y6]; exact h6⟩, txB_of h8 y3⟩
  refine ⟨h.1, ?_⟩
  rcases h.2 with ⟨e, h1⟩ | ⟨e, h1⟩ | ⟨e, h1⟩ | h1
  · exact Or.inl ⟨e, key _ _ (by omega) (by omega) (by omega) (by omega) hP.1 hP.2.2.1 h1⟩
  · exact Or.inr (Or.inl ⟨e, key _ _ (by omega) (by omega) (by omega) (by omega) hP.2.1 hP.2.2.2.1 h1⟩)
  · exact Or.inr (Or.inr (Or.inl ⟨e, key _ _ (by omega) (by omega) (by omega) (by omega) hP.2.2.2.2.1 hP.2.2.2.2.2 h1⟩))
  · exact Or.inr (Or.inr (Or.inr h1))
theorem txt_lt {σ : dM} {q : Nat} {f : Nat → Nat} {n : Nat} (h : txt σ q f n) : ∀ j, j < n → f j < 128 := fun j hj => by
  rcases h.2 with ⟨-, h1⟩ | ⟨-, h1⟩ | ⟨-, h1⟩ | ⟨i, hi, -, e, h1⟩
  · exact (h1.2.2.1 j hj).2
  · exact (h1.2.2.1 j hj).2
  · exact (h1.2.2.1 j hj).2
  · rw [h1 j hj]
    exact ((stN_ok i hi).2 j (by rw [← e]; exact hj)).2
section EJY
variable {g : jG} {h0 : Nat}
/-- a method of a text is called -/
theorem dr_callT {z : dZ} {mt mt' : jMt} {pc idx na n' q k mc ms : Nat} {L : List (Nat × Value)} {st r as : List Value} {σ : dM} {c0 s0 : Nat} {f : Nat → Nat} {tl : List Nat} {post' : Option Value → dM → Prop} (hE : dEt g z.2.2.2.2) (ht : txt σ q f k) (hf : Dfit z mt' n' mc ms c0 s0) (hfr : Dfree z L r tl) (hd : decode mt.2.1 pc = .ok (.invokevirtual idx, 3)) (hlk : Cond.methodLink mt.1.cls idx mt'.1 ∈ jGw) (hm : jMv mt' na) (hcl : mt'.1.cls = "java/lang/String")
    (hs : st = as.reverse ++ .ref q :: r) (hna : as.length = na) (hst : (r.map fun v => v.category).sum ≤ 8) (hc : dCon g z.2.2.2.2 n' mc ms tl mt' (.ref q :: as) σ post') (kk : ∀ v τ, post' v τ → DW g z mt (pc + 3) L (v.toList ++ r) τ (c0 + mc) (s0 + ms)) : DW g z mt pc L st σ c0 s0 := by
  have hcl9 : vwCl[13]? = some (mt'.1.cls, TJ0, 4) := by rw [hcl]; rfl
  rcases ht with ⟨hk9, ⟨rfl, h1, -⟩ | ⟨rfl, h1, -⟩ | ⟨rfl, h1, -⟩ | ⟨i, hi, rfl, -⟩⟩
  · exact dr_callV (ci := 13) (T := TJ0) (N := 4) hf hfr hd hlk hm hcl9 (by decide) h1.1 hs hna hst hc kk
  · exact dr_callV (ci := 13) (T := TJ0) (N := 4) hf hfr hd hlk hm hcl9 (by decide) h1.1 hs hna hst hc kk
  · exact dr_callV (ci := 13) (T := TJ0) (N := 4) hf hfr hd hlk hm hcl9 (by decide) h1.1 hs hna hst hc kk
  · exact dr_callStr (by omega) (dEt_S hE hi) hf hfr hd hlk hm hcl hs hna hst hc kk
def dIl : dO := doR fun a σ => (a = 1800 ∧ DA σ 1800 = true ∧ DI σ 1800 1 = 0, fun v τ => v = some (.int 1) ∧ τ = σ)
set_option maxRecDepth 100000 in
set_option maxHeartbeats 4000000 in
theorem EJ5_isLatin1 (hE : dEt g h0) (n : Nat) : dOk g h0 n 0 0 [] mJ5_isLatin1_aae02 dIl := by
  refine doR_ok ?_
  rintro _ σ ⟨rfl, h1, h2⟩
  refine dCon.gt (by decide +kernel) (by simp [lg_sl, Value.category]) (fun z hz0 hkp hcl hz post hp hR => ?_)
  subst hz0
  show DW g z mJ5_isLatin1_aae02 0 [(0, .ref 1800)] [] σ 0 0
  refine dr_gets (idx := 18) (v := .int 1) rfl (dEt_cs hE) (jGw_of 750 (by decide +kernel) (by decide +kernel)) (by decide +kernel) ?_
  have c1 := c1_n0
  refine dvk_ok (nC := n + 0) DJ5_isLatin1_aae02 hTyA hR (VC := []) (VD := []) (SD := []) (AL := []) (fun _ h => absurd h List.not_mem_nil) (fun _ h => absurd h List.not_mem_nil) (fun _ h => absurd h List.not_mem_nil) [] 10 _ _ _ _ _ _ ?_
  simp (maxSteps := 1000000) [↓Bool.cond_eq_ite, -Prod.forall, -Prod.exists, -Prod.mk.injEq, ↓jc_eq_t, ↓jc_eq_f, ↓jc_ne_t, ↓jc_ne_f, ↓jc_lt_t, ↓jc_lt_f, ↓jc_ge_t, ↓jc_ge_f, ↓jc_gt_t, ↓jc_gt_f, ↓jc_le_t, ↓jc_le_f, dvk, tJ5_isLatin1_aae02, jtb, jol, dvl, dal, dst, jlk, jcmp, jbin, jfl, qJ5, jc2, qlJ5, jcat, jel, lv_args, Value.category, jins, jsrt, jins2, jble, jblt, jf3, List.filter_cons, List.filter_nil, Dlo, Dnr, DnL, Dfree, Droom, DuS_S, DuS_I, DuS_L, DuS_R, DuS_N, DuS_A, DuI_S, DuI_I, DuI_L, DuI_R, DuI_N, DuI_A, DuL_S, DuL_I, DuL_L, DuL_R, DuL_N, DuL_A, DuR_S, DuR_I, DuR_L, DuR_R, DuR_N, DuR_A, Dnw_S, Dnw_I, Dnw_L, Dnw_R, Dnw_N, Dnw_A, DrI_S, DrI_I, DrI_L, DrI_R, DrI_N, DrI_A, DrJ_S, DrJ_I, DrJ_L, DrJ_R, DrJ_N, DrJ_A, dm64, G_d, G_x0, -Int32.not_le, -Int32.not_lt, -Int64.not_le, -Int64.not_lt, i3lt, i6lt, c1, h1, h2, G_t]
  try simp (disch := omega) [-Prod.forall, -Prod.exists, -Prod.mk.injEq, -Int32.not_le, -Int32.not_lt, -Int64.not_le, -Int64.not_lt, i3lt, i6lt, c1, h1, h2, G_t]
  exact ⟨⟨by omega, by omega⟩, σ, Dsub.rfl hcl, hp _ _ ⟨rfl, rfl⟩⟩
def dCe (c : Nat) : dO := fun args σ => match args with
  | [.int x] => (x = nI c ∧ c < 128, fun v τ => v = some (.int 1) ∧ τ = σ)
  | _ => (False, fun _ _ => False)
set_option maxRecDepth 100000 in
set_option maxHeartbeats 4000000 in
theorem EJ1_canEncode (n c : Nat) : dOk g h0 n 0 0 [] mJ1_canEncode_fc78d (dCe c) := by
  intro args σ hp
  unfold dCe at hp ⊢
  split at hp
  · obtain ⟨rfl, hc⟩ := hp
    have e := (bf_t c hc).2.2.2.2.2.2.2
    refine dCon.go (by decide +kernel) (by simp [lg_sl, Value.category]) (fun z hkp hcl hz post hp hR => ?_)
    simp only [DkF] at hkp
    refine dvk_ok (nC := n + 0) DJ1_canEncode_fc78d hTyA hR (VC := []) (VD := []) (SD := []) (AL := []) (fun _ h => absurd h List.not_mem_nil) (fun _ h => absurd h List.not_mem_nil) (fun _ h => absurd h List.not_mem_nil) [] 10 _ _ _ _ _ _ ?_
    simp (maxSteps := 1000000) [↓Bool.cond_eq_ite, -Prod.forall, -Prod.exists, -Prod.mk.injEq, ↓jc_eq_t, ↓jc_eq_f, ↓jc_ne_t, ↓jc_ne_f, ↓jc_lt_t, ↓jc_lt_f, ↓jc_ge_t, ↓jc_ge_f, ↓jc_gt_t, ↓jc_gt_f, ↓jc_le_t, ↓jc_le_f, dvk, tJ1_canEncode_fc78d, jtb, jol, dvl, dal, dst, jlk, jcmp, jbin, jfl, qJ1, jc2, qlJ1, jcat, jel, lv_args, Value.category, jins, jsrt, jins2, jble, jblt, jf3, List.filter_cons, List.filter_nil, Dlo, Dnr, DnL, Dfree, Droom, DuS_S, DuS_I, DuS_L, DuS_R, DuS_N, DuS_A, DuI_S, DuI_I, DuI_L, DuI_R, DuI_N, DuI_A, DuL_S, DuL_I, DuL_L, DuL_R, DuL_N, DuL_A, DuR_S, DuR_I, DuR_L, DuR_R, DuR_N, DuR_A, Dnw_S, Dnw_I, Dnw_L, Dnw_R, Dnw_N, Dnw_A, DrI_S, DrI_I, DrI_L, DrI_R, DrI_N, DrI_A, DrJ_S, DrJ_I, DrJ_L, DrJ_R, DrJ_N, DrJ_A, dm64, G_d, G_x0, -Int32.not_le, -Int32.not_lt, -Int64.not_le, -Int64.not_lt, i3lt, i6lt, e, hkp, hz]
    try simp (disch := omega) [-Prod.forall, -Prod.exists, -Prod.mk.injEq, -Int32.not_le, -Int32.not_lt, -Int64.not_le, -Int64.not_lt, i3lt, i6lt, e, hkp, hz]
    exact ⟨⟨by omega, by omega⟩, σ, Dsub.rfl hcl, hp _ _ ⟨rfl, rfl⟩⟩
  · exact hp.elim
def doRR (f : Nat → Nat → dM → Prop × (Option Value → dM → Prop)) : dO := fun args σ => match args with
  | [.ref a0, .ref a1] => f a0 a1 σ
  | _ => (False, fun _ _ => False)
theorem doRR_ok {n mc ms : Nat} {tl : List Nat} {mt : jMt} {f : Nat → Nat → dM → Prop × (Option Value → dM → Prop)} (h : ∀ (a0 a1 : Nat) (σ : dM), (f a0 a1 σ).1 → dCon g h0 n mc ms tl mt [.ref a0, .ref a1] σ (f a0 a1 σ).2) : dOk g h0 n mc ms tl mt (doRR f) := by
  intro args σ hp
  unfold doRR at hp ⊢
  split at hp
  · exact h _ _ σ hp
  · exact hp.elim
def doRRII (f : Nat → Nat → Int32 → Int32 → dM → Prop × (Option Value → dM → Prop)) : dO := fun args σ => match args with
  | [.ref a0, .ref a1, .int i2, .int i3] => f a0 a1 i2 i3 σ
  | _ => (False, fun _ _ => False)
theorem doRRII_ok {n mc ms : Nat} {tl : List Nat} {mt : jMt} {f : Nat → Nat → Int32 → Int32 → dM → Prop × (Option Value → dM → Prop)} (h : ∀ (a0 a1 : Nat) (i2 i3 : Int32) (σ : dM), (f a0 a1 i2 i3 σ).1 → dCon g h0 n mc ms tl mt [.ref a0, .ref a1, .int i2, .int i3] σ (f a0 a1 i2 i3 σ).2) : dOk g h0 n mc ms tl mt (doRRII f) := by
  intro args σ hp
  unfold doRRII at hp ⊢
  split at hp
  · exact h _ _ _ _ σ hp
  · exact hp.elim
def doRIR (f : Nat → Int32 → Nat → dM → Prop × (Option Value → dM → Prop)) : dO := fun args σ => match args with
  | [.ref a0, .int i1, .ref a2] => f a0 i1 a2 σ
  | _ => (False, fun _ _ => False)
theorem doRIR_ok {n mc ms : Nat} {tl : List Nat} {mt : jMt} {f : Nat → Int32 → Nat → dM → Prop × (Option Value → dM → Prop)} (h : ∀ (a0 : Nat) (i1 : Int32) (a2 : Nat) (σ : dM), (f a0 i1 a2 σ).1 → dCon g h0 n mc ms tl mt [.ref a0, .int i1, .ref a2] σ (f a0 i1 a2 σ).2) : dOk g h0 n mc ms tl mt (doRIR f) := by
  intro args σ hp
  unfold doRIR at hp ⊢
  split at hp
  · exact h _ _ _ σ hp
  · exact hp.elim
def dIf (s : Nat → Nat) (w : Nat) : dO := doRR fun a q σ => (a = 1800 ∧ DA σ 1800 = true ∧ DI σ 1800 1 = 0 ∧ txt σ q s w, fun v τ => v = none ∧ τ = σ)
set_option maxRecDepth 100000 in
set_option maxHeartbeats 4000000 in
theorem EJ5_inflate (hE : dEt g h0) (n : Nat) (s : Nat → Nat) (w : Nat) : dOk g h0 (n + 1) 0 0 [] mJ5_inflateIfNeededFor_a7421 (dIf s w) := by
  refine doRR_ok ?_
  rintro _ q σ ⟨rfl, h1, h2, ht⟩
  refine dCon.gt (by decide +kernel) (by simp [lg_sl, Value.category]) (fun z hz0 hkp hcl hz post hp hR => ?_)
  subst hz0
  show DW g z mJ5_inflateIfNeededFor_a7421 0 [(0, .ref 1800), (1, .ref q)] [] σ 0 0
  refine dr_gets (idx := 18) (v := .int 1) rfl (dEt_cs hE) (jGw_of 750 (by decide +kernel) (by decide +kernel)) (by decide +kernel) ?_
  have c1 := c1_n0
  refine dvk_ok (nC := n + 5) DJ5_inflateIfNeededFor_a7421 hTyA hR (VC := []) (VD := []) (SD := []) (AL := []) (fun _ h => absurd h List.not_mem_nil) (fun _ h => absurd h List.not_mem_nil) (fun _ h => absurd h List.not_mem_nil) [11] 10 _ _ _ _ _ _ ?_
  simp (maxSteps := 1000000) [↓Bool.cond_eq_ite, -Prod.forall, -Prod.exists, -Prod.mk.injEq, ↓jc_eq_t, ↓jc_eq_f, ↓jc_ne_t, ↓jc_ne_f, ↓jc_lt_t, ↓jc_lt_f, ↓jc_ge_t, ↓jc_ge_f, ↓jc_gt_t, ↓jc_gt_f, ↓jc_le_t, ↓jc_le_f, dvk, tJ5_inflateIfNeededFor_a7421, jtb, jol, dvl, dal, dst, jlk, jcmp, jbin, jfl, qJ5, jc2, qlJ5, jcat, jel, lv_args, Value.category, jins, jsrt, jins2, jble, jblt, jf3, List.filter_cons, List.filter_nil, Dlo, Dnr, DnL, Dfree, Droom, DuS_S, DuS_I, DuS_L, DuS_R, DuS_N, DuS_A, DuI_S, DuI_I, DuI_L, DuI_R, DuI_N, DuI_A, DuL_S, DuL_I, DuL_L, DuL_R, DuL_N, DuL_A, DuR_S, DuR_I, DuR_L, DuR_R, DuR_N, DuR_A, Dnw_S, Dnw_I, Dnw_L, Dnw_R, Dnw_N, Dnw_A, DrI_S, DrI_I, DrI_L, DrI_R, DrI_N, DrI_A, DrJ_S, DrJ_I, DrJ_L, DrJ_R, DrJ_N, DrJ_A, dm64, G_d, G_x0, -Int32.not_le, -Int32.not_lt, -Int64.not_le, -Int64.not_lt, i3lt, i6lt, c1, h1, h2, G_t]
  try simp (disch := omega) [-Prod.forall, -Prod.exists, -Prod.mk.injEq, -Int32.not_le, -Int32.not_lt, -Int64.not_le, -Int64.not_lt, i3lt, i6lt, c1, h1, h2, G_t]
  refine dr_coder (n := n) hE ht ⟨by omega, by omega, by omega, by omega⟩ hJ5_40 (by simp [Value.category]) (by decide +kernel) ?_
  refine dvk_ok (nC := n + 5) DJ5_inflateIfNeededFor_a7421 hTyA hR (VC := []) (VD := []) (SD := []) (AL := []) (fun _ h => absurd h List.not_mem_nil) (fun _ h => absurd h List.not_mem_nil) (fun _ h => absurd h List.not_mem_nil) [] 10 _ _ _ _ _ _ ?_
  simp (maxSteps := 1000000) [↓Bool.cond_eq_ite, -Prod.forall, -Prod.exists, -Prod.mk.injEq, ↓jc_eq_t, ↓jc_eq_f, ↓jc_ne_t, ↓jc_ne_f, ↓jc_lt_t, ↓jc_lt_f, ↓jc_ge_t, ↓jc_ge_f, ↓jc_gt_t, ↓jc_gt_f, ↓jc_le_t, ↓jc_le_f, dvk, tJ5_inflateIfNeededFor_a7421, jtb, jol, dvl, dal, dst, jlk, jcmp, jbin, jfl, qJ5, jc2, qlJ5, jcat, jel, lv_args, Value.category, jins, jsrt, jins2, jble, jblt, jf3, List.filter_cons, List.filter_nil, Dlo, Dnr, DnL, Dfree, Droom, DuS_S, DuS_I, DuS_L, DuS_R, DuS_N, DuS_A, DuI_S, DuI_I, DuI_L, DuI_R, DuI_N, DuI_A, DuL_S, DuL_I, DuL_L, DuL_R, DuL_N, DuL_A, DuR_S, DuR_I, DuR_L, DuR_R, DuR_N, DuR_A, Dnw_S, Dnw_I, Dnw_L, Dnw_R, Dnw_N, Dnw_A, DrI_S, DrI_I, DrI_L, DrI_R, DrI_N, DrI_A, DrJ_S, DrJ_I, DrJ_L, DrJ_R, DrJ_N, DrJ_A, dm64, G_d, G_x0, -Int32.not_le, -Int32.not_lt, -Int64.not_le, -Int64.not_lt, i3lt, i6lt]
  try simp (disch := omega) [-Prod.forall, -Prod.exists, -Prod.mk.injEq, -Int32.not_le, -Int32.not_lt, -Int64.not_le, -Int64.not_lt, i3lt, i6lt]
  exact ⟨⟨by omega, by omega⟩, σ, Dsub.rfl hcl, hp _ _ ⟨rfl, rfl⟩⟩
/-- the letters of a text put into the builder's row from the place n on -/
def sbP (σ τ : dM) (n : Nat) (s : Nat → Nat) (w : Nat) : Prop := ∃ S : Nat → Int32, (∀ j, j < w → S j = nI (s j) ∧ bf (S j)) ∧ τ = DrI σ 1600 (va_cpy S (DI σ 1600) 0 n w)
def dGb (n m : Nat) (s : Nat → Nat) (w : Nat) : dO := doRRII fun q a x y σ => (a = 1600 ∧ x = nI n ∧ y = 0 ∧ (DA σ 1600 = true ∧ DN σ 1600 = m ∧ n + w ≤ m ∧ m ≤ 700) ∧ txt σ q s w, fun v τ => v = none ∧ sbP σ τ n s w)
set_option maxRecDepth 100000 in
set_option maxHeartbeats 4000000 in
theorem EJ0_getBytes (hE : dEt g h0) (k n m : Nat) (s : Nat → Nat) (w : Nat) : dOk g h0 (k + 1) 0 0 [] mJ0_getBytes_840e7 (dGb n m s w) := by
  refine doRRII_ok ?_
  rintro q _ _ _ σ ⟨rfl, rfl, rfl, ⟨h1, h2, h3, h4⟩, ht⟩
  refine dCon.gt (by decide +kernel) (by simp [lg_sl, Value.category]) (fun z hz0 hkp hcl hz post hp hR => ?_)
  subst hz0
  have ht0 := ht
  have hlt := txt_lt ht
  have en : (nI n).toNatClampNeg = n := nI_clamp (by omega)
  have ew : (nI w).toNatClampNeg = w := nI_clamp (by omega)
  show DW g z mJ0_getBytes_840e7 0 [(0, .ref q), (1, .ref 1600), (2, .int (nI n)), (3, .int 0)] [] σ 0 0
  refine dvk_ok (nC := n + 4) DJ0_getBytes_840e7 hTyA hR (VC := []) (VD := []) (SD := []) (AL := []) (fun _ h => absurd h List.not_mem_nil) (fun _ h => absurd h List.not_mem_nil) (fun _ h => absurd h List.not_mem_nil) [1] 10 _ _ _ _ _ _ ?_
  simp (maxSteps := 1000000) [↓Bool.cond_eq_ite, -Prod.forall, -Prod.exists, -Prod.mk.injEq, ↓jc_eq_t, ↓jc_eq_f, ↓jc_ne_t, ↓jc_ne_f, ↓jc_lt_t, ↓jc_lt_f, ↓jc_ge_t, ↓jc_ge_f, ↓jc_gt_t, ↓jc_gt_f, ↓jc_le_t, ↓jc_le_f, dvk, tJ0_getBytes_840e7, jtb, jol, dvl, dal, dst, jlk, jcmp, jbin, jfl, qJ0, jc2, qlJ0, jcat, jel, lv_args, Value.category, jins, jsrt, jins2, jble, jblt, jf3, List.filter_cons, List.filter_nil, Dlo, Dnr, DnL, Dfree, Droom, DuS_S, DuS_I, DuS_L, DuS_R, DuS_N, DuS_A, DuI_S, DuI_I, DuI_L, DuI_R, DuI_N, DuI_A, DuL_S, DuL_I, DuL_L, DuL_R, DuL_N, DuL_A, DuR_S, DuR_I, DuR_L, DuR_R, DuR_N, DuR_A, Dnw_S, Dnw_I, Dnw_L, Dnw_R, Dnw_N, Dnw_A, DrI_S, DrI_I, DrI_L, DrI_R, DrI_N, DrI_A, DrJ_S, DrJ_I, DrJ_L, DrJ_R, DrJ_N, DrJ_A, dm64, G_d, G_x0, -Int32.not_le, -Int32.not_lt, -Int64.not_le, -Int64.not_lt, i3lt, i6lt]
  try simp (disch := omega) [-Prod.forall, -Prod.exists, -Prod.mk.injEq, -Int32.not_le, -Int32.not_lt, -Int64.not_le, -Int64.not_lt, i3lt, i6lt]
  refine dr_coder (n := k) hE ht ⟨by omega, by omega, by omega, by omega⟩ hJ0_335 (by simp [Value.category]) (by decide +kernel) ?_
  have fin : ∀ S : Nat → Int32, (∀ j, j < w → S j = nI (s j) ∧ bf (S j)) → DW g z mJ0_getBytes_840e7 25 [(0, .ref q), (1, .ref 1600), (2, .int (nI n)), (3, .int 0)] [] (DrI σ 1600 (va_cpy S (DI σ 1600) (0 : Int32).toNatClampNeg (nI n).toNatClampNeg (nI w).toNatClampNeg)) 0 0 := fun S hS => by
    rw [en, ew]
    refine DW.cl (fun hcl9 => ?_)
    refine dvk_ok (nC := n + 4) DJ0_getBytes_840e7 hTyA hR (VC := []) (VD := []) (SD := []) (AL := []) (fun _ h => absurd h List.not_mem_nil) (fun _ h => absurd h List.not_mem_nil) (fun _ h => absurd h List.not_mem_nil) [] 10 _ _ _ _ _ _ ?_
    simp (maxSteps := 1000000) [↓Bool.cond_eq_ite, -Prod.forall, -Prod.exists, -Prod.mk.injEq, ↓jc_eq_t, ↓jc_eq_f, ↓jc_ne_t, ↓jc_ne_f, ↓jc_lt_t, ↓jc_lt_f, ↓jc_ge_t, ↓jc_ge_f, ↓jc_gt_t, ↓jc_gt_f, ↓jc_le_t, ↓jc_le_f, dvk, tJ0_getBytes_840e7, jtb, jol, dvl, dal, dst, jlk, jcmp, jbin, jfl, qJ0, jc2, qlJ0, jcat, jel, lv_args, Value.category, jins, jsrt, jins2, jble, jblt, jf3, List.filter_cons, List.filter_nil, Dlo, Dnr, DnL, Dfree, Droom, DuS_S, DuS_I, DuS_L, DuS_R, DuS_N, DuS_A, DuI_S, DuI_I, DuI_L, DuI_R, DuI_N, DuI_A, DuL_S, DuL_I, DuL_L, DuL_R, DuL_N, DuL_A, DuR_S, DuR_I, DuR_L, DuR_R, DuR_N, DuR_A, Dnw_S, Dnw_I, Dnw_L, Dnw_R, Dnw_N, Dnw_A, DrI_S, DrI_I, DrI_L, DrI_R, DrI_N, DrI_A, DrJ_S, DrJ_I, DrJ_L, DrJ_R, DrJ_N, DrJ_A, dm64, G_d, G_x0, -Int32.not_le, -Int32.not_lt, -Int64.not_le, -Int64.not_lt, i3lt, i6lt]
    try simp (disch := omega) [-Prod.forall, -Prod.exists, -Prod.mk.injEq, -Int32.not_le, -Int32.not_lt, -Int64.not_le, -Int64.not_lt, i3lt, i6lt]
    exact ⟨⟨by omega, by omega⟩, _, Dsub.rfl hcl9, hp _ _ ⟨rfl, S, hS, rfl⟩⟩
  have cell : ∀ (s9 a9 : Nat), (s9 = 1700 ∧ a9 = 1610) ∨ (s9 = 1701 ∧ a9 = 1611) ∨ (s9 = 1702 ∧ a9 = 1612) → tsS σ s9 a9 s w → q = s9 → DW g z mJ0_getBytes_840e7 4 [(0, .ref q), (1, .ref 1600), (2, .int (nI n)), (3, .int 0)] [.int 0] σ 0 0 := fun s9 a9 h9 hs9 e9 => by
    subst e9
    obtain ⟨⟨x1, x2, x3⟩, ⟨x5, x6⟩, x7, x8⟩ := hs9
    have go : DW g z mJ0_getBytes_840e7 22 [(0, .ref q), (1, .ref 1600), (2, .int (nI n)), (3, .int 0)] [.int (nI w), .int (nI n), .ref 1600, .int 0, .ref a9] σ 0 0 := by
      refine dr_copyB (by rcases h9 with ⟨-, rfl⟩ | ⟨-, rfl⟩ | ⟨-, rfl⟩ <;> decide) x5 (by decide) h1 (by decide) (nI_pos (by omega)) (nI_pos (by omega)) (by rw [ew, x6]; show 0 + w ≤ w; omega) (by rw [en, ew, h2]; exact h3) (fun i hi => x8 _) (by simp) ⟨by omega, by omega⟩ (show Cond.methodLink RJ0 212 arraycopyName ∈ jGw from jGw_of 886 (by decide +kernel) (by decide +kernel)) (by decide +kernel) ?_
      exact fin (DI σ a9) (fun j hj => ⟨(x7 j hj).1, x8 j⟩)
    rcases h9 with ⟨rfl, rfl⟩ | ⟨rfl, rfl⟩ | ⟨rfl, rfl⟩
    · refine dvk_ok (nC := n + 4) DJ0_getBytes_840e7 hTyA hR (VC := []) (VD := []) (SD := []) (AL := []) (fun _ h => absurd h List.not_mem_nil) (fun _ h => absurd h List.not_mem_nil) (fun _ h => absurd h List.not_mem_nil) [22] 30 _ _ _ _ _ _ ?_
      simp (maxSteps := 1000000) [↓Bool.cond_eq_ite, -Prod.forall, -Prod.exists, -Prod.mk.injEq, ↓jc_eq_t, ↓jc_eq_f, ↓jc_ne_t, ↓jc_ne_f, ↓jc_lt_t, ↓jc_lt_f, ↓jc_ge_t, ↓jc_ge_f, ↓jc_gt_t, ↓jc_gt_f, ↓jc_le_t, ↓jc_le_f, dvk, tJ0_getBytes_840e7, jtb, jol, dvl, dal, dst, jlk, jcmp, jbin, jfl, qJ0, jc2, qlJ0, jcat, jel, lv_args, Value.category, jins, jsrt, jins2, jble, jblt, jf3, List.filter_cons, List.filter_nil, Dlo, Dnr, DnL, Dfree, Droom, DuS_S, DuS_I, DuS_L, DuS_R, DuS_N, DuS_A, DuI_S, DuI_I, DuI_L, DuI_R, DuI_N, DuI_A, DuL_S, DuL_I, DuL_L, DuL_R, DuL_N, DuL_A, DuR_S, DuR_I, DuR_L, DuR_R, DuR_N, DuR_A, Dnw_S, Dnw_I, Dnw_L, Dnw_R, Dnw_N, Dnw_A, DrI_S, DrI_I, DrI_L, DrI_R, DrI_N, DrI_A, DrJ_S, DrJ_I, DrJ_L, DrJ_R, DrJ_N, DrJ_A, dm64, G_d, G_x0, -Int32.not_le, -Int32.not_lt, -Int64.not_le, -Int64.not_lt, i3lt, i6lt, x1, x2, x5, x6, G_t]
      try simp (disch := omega) [-Prod.forall, -Prod.exists, -Prod.mk.injEq, -Int32.not_le, -Int32.not_lt, -Int64.not_le, -Int64.not_lt, i3lt, i6lt, x1, x2, x5, x6, G_t]
      exact go
    · refine dvk_ok (nC := n + 4) DJ0_getBytes_840e7 hTyA hR (VC := []) (VD := []) (SD := []) (AL := []) (fun _ h => absurd h List.not_mem_nil) (fun _ h => absurd h List.not_mem_nil) (fun _ h => absurd h List.not_mem_nil) [22] 30 _ _ _ _ _ _ ?_
      simp (maxSteps := 1000000) [↓Bool.cond_eq_ite, -Prod.forall, -Prod.exists, -Prod.mk.injEq, ↓jc_eq_t, ↓jc_eq_f, ↓jc_ne_t, ↓jc_ne_f, ↓jc_lt_t, ↓jc_lt_f, ↓jc_ge_t, ↓jc_ge_f, ↓jc_gt_t, ↓jc_gt_f, ↓jc_le_t, ↓jc_le_f, dvk, tJ0_getBytes_840e7, jtb, jol, dvl, dal, dst, jlk, jcmp, jbin, jfl, qJ0, jc2, qlJ0, jcat, jel, lv_args, Value.category, jins, jsrt, jins2, jble, jblt, jf3, List.filter_cons, List.filter_nil, Dlo, Dnr, DnL, Dfree, Droom, DuS_S, DuS_I, DuS_L, DuS_R, DuS_N, DuS_A, DuI_S, DuI_I, DuI_L, DuI_R, DuI_N, DuI_A, DuL_S, DuL_I, DuL_L, DuL_R, DuL_N, DuL_A, DuR_S, DuR_I, DuR_L, DuR_R, DuR_N, DuR_A, Dnw_S, Dnw_I, Dnw_L, Dnw_R, Dnw_N, Dnw_A, DrI_S, DrI_I, DrI_L, DrI_R, DrI_N, DrI_A, DrJ_S, DrJ_I, DrJ_L, DrJ_R, DrJ_N, DrJ_A, dm64, G_d, G_x0, -Int32.not_le, -Int32.not_lt, -Int64.not_le, -Int64.not_lt, i3lt, i6lt, x1, x2, x5, x6, G_t]
      try simp (disch := omega) [-Prod.forall, -Prod.exists, -Prod.mk.injEq, -Int32.not_le, -Int32.not_lt, -Int64.not_le, -Int64.not_lt, i3lt, i6lt, x1, x2, x5, x6, G_t]
      exact go
    · refine dvk_ok (nC := n + 4) DJ0_getBytes_840e7 hTyA hR (VC := []) (VD := []) (SD := []) (AL := []) (fun _ h => absurd h List.not_mem_nil) (fun _ h => absurd h List.not_mem_nil) (fun _ h => absurd h List.not_mem_nil) [22] 30 _ _ _ _ _ _ ?_
      simp (maxSteps := 1000000) [↓Bool.cond_eq_ite, -Prod.forall, -Prod.exists, -Prod.mk.injEq, ↓jc_eq_t, ↓jc_eq_f, ↓jc_ne_t, ↓jc_ne_f, ↓jc_lt_t, ↓jc_lt_f, ↓jc_ge_t, ↓jc_ge_f, ↓jc_gt_t, ↓jc_gt_f, ↓jc_le_t, ↓jc_le_f, dvk, tJ0_getBytes_840e7, jtb, jol, dvl, dal, dst, jlk, jcmp, jbin, jfl, qJ0, jc2, qlJ0, jcat, jel, lv_args, Value.category, jins, jsrt, jins2, jble, jblt, jf3, List.filter_cons, List.filter_nil, Dlo, Dnr, DnL, Dfree, Droom, DuS_S, DuS_I, DuS_L, DuS_R, DuS_N, DuS_A, DuI_S, DuI_I, DuI_L, DuI_R, DuI_N, DuI_A, DuL_S, DuL_I, DuL_L, DuL_R, DuL_N, DuL_A, DuR_S, DuR_I, DuR_L, DuR_R, DuR_N, DuR_A, Dnw_S, Dnw_I, Dnw_L, Dnw_R, Dnw_N, Dnw_A, DrI_S, DrI_I, DrI_L, DrI_R, DrI_N, DrI_A, DrJ_S, DrJ_I, DrJ_L, DrJ_R, DrJ_N, DrJ_A, dm64, G_d, G_x0, -Int32.not_le, -Int32.not_lt, -Int64.not_le, -Int64.not_lt, i3lt, i6lt, x1, x2, x5, x6, G_t]
      try simp (disch := omega) [-Prod.forall, -Prod.exists, -Prod.mk.injEq, -Int32.not_le, -Int32.not_lt, -Int64.not_le, -Int64.not_lt, i3lt, i6lt, x1, x2, x5, x6, G_t]
      exact go
  rcases ht with ⟨-, ⟨e9, h9⟩ | ⟨e9, h9⟩ | ⟨e9, h9⟩ | ⟨i, hi, rfl, e9, h9⟩⟩
  · exact cell 1700 1610 (Or.inl ⟨rfl, rfl⟩) h9 e9
  · exact cell 1701 1611 (Or.inr (Or.inl ⟨rfl, rfl⟩)) h9 e9
  · exact cell 1702 1612 (Or.inr (Or.inr ⟨rfl, rfl⟩)) h9 e9
  · subst e9
    refine dvk_ok (nC := n + 4) DJ0_getBytes_840e7 hTyA hR (VC := []) (VD := []) (SD := []) (AL := []) (fun _ h => absurd h List.not_mem_nil) (fun _ h => absurd h List.not_mem_nil) (fun _ h => absurd h List.not_mem_nil) [9] 30 _ _ _ _ _ _ ?_
    simp (maxSteps := 1000000) [↓Bool.cond_eq_ite, -Prod.forall, -Prod.exists, -Prod.mk.injEq, ↓jc_eq_t, ↓jc_eq_f, ↓jc_ne_t, ↓jc_ne_f, ↓jc_lt_t, ↓jc_lt_f, ↓jc_ge_t, ↓jc_ge_f, ↓jc_gt_t, ↓jc_gt_f, ↓jc_le_t, ↓jc_le_f, dvk, tJ0_getBytes_840e7, jtb, jol, dvl, dal, dst, jlk, jcmp, jbin, jfl, qJ0, jc2, qlJ0, jcat, jel, lv_args, Value.category, jins, jsrt, jins2, jble, jblt, jf3, List.filter_cons, List.filter_nil, Dlo, Dnr, DnL, Dfree, Droom, DuS_S, DuS_I, DuS_L, DuS_R, DuS_N, DuS_A, DuI_S, DuI_I, DuI_L, DuI_R, DuI_N, DuI_A, DuL_S, DuL_I, DuL_L, DuL_R, DuL_N, DuL_A, DuR_S, DuR_I, DuR_L, DuR_R, DuR_N, DuR_A, Dnw_S, Dnw_I, Dnw_L, Dnw_R, Dnw_N, Dnw_A, DrI_S, DrI_I, DrI_L, DrI_R, DrI_N, DrI_A, DrJ_S, DrJ_I, DrJ_L, DrJ_R, DrJ_N, DrJ_A, dm64, G_d, G_x0, -Int32.not_le, -Int32.not_lt, -Int64.not_le, -Int64.not_lt, i3lt, i6lt]
    try simp (disch := omega) [-Prod.forall, -Prod.exists, -Prod.mk.injEq, -Int32.not_le, -Int32.not_lt, -Int64.not_le, -Int64.not_lt, i3lt, i6lt]
    refine dr_sgf (idx := 9) (v := .ref (400 + i)) (by omega) (by simp [Dlo]; omega) (dEt_va hE hi) (jGw_of 961 (by decide +kernel) (by decide +kernel)) (by decide +kernel) ?_
    refine dvk_ok (nC := n + 4) DJ0_getBytes_840e7 hTyA hR (VC := []) (VD := []) (SD := []) (AL := []) (fun _ h => absurd h List.not_mem_nil) (fun _ h => absurd h List.not_mem_nil) (fun _ h => absurd h List.not_mem_nil) [18] 30 _ _ _ _ _ _ ?_
    simp (maxSteps := 1000000) [↓Bool.cond_eq_ite, -Prod.forall, -Prod.exists, -Prod.mk.injEq, ↓jc_eq_t, ↓jc_eq_f, ↓jc_ne_t, ↓jc_ne_f, ↓jc_lt_t, ↓jc_lt_f, ↓jc_ge_t, ↓jc_ge_f, ↓jc_gt_t, ↓jc_gt_f, ↓jc_le_t, ↓jc_le_f, dvk, tJ0_getBytes_840e7, jtb, jol, dvl, dal, dst, jlk, jcmp, jbin, jfl, qJ0, jc2, qlJ0, jcat, jel, lv_args, Value.category, jins, jsrt, jins2, jble, jblt, jf3, List.filter_cons, List.filter_nil, Dlo, Dnr, DnL, Dfree, Droom, DuS_S, DuS_I, DuS_L, DuS_R, DuS_N, DuS_A, DuI_S, DuI_I, DuI_L, DuI_R, DuI_N, DuI_A, DuL_S, DuL_I, DuL_L, DuL_R, DuL_N, DuL_A, DuR_S, DuR_I, DuR_L, DuR_R, DuR_N, DuR_A, Dnw_S, Dnw_I, Dnw_L, Dnw_R, Dnw_N, Dnw_A, DrI_S, DrI_I, DrI_L, DrI_R, DrI_N, DrI_A, DrJ_S, DrJ_I, DrJ_L, DrJ_R, DrJ_N, DrJ_A, dm64, G_d, G_x0, -Int32.not_le, -Int32.not_lt, -Int64.not_le, -Int64.not_lt, i3lt, i6lt]
    try simp (disch := omega) [-Prod.forall, -Prod.exists, -Prod.mk.injEq, -Int32.not_le, -Int32.not_lt, -Int64.not_le, -Int64.not_lt, i3lt, i6lt]
    refine dr_sgf (idx := 9) (v := .ref (400 + i)) (by omega) (by simp [Dlo]; omega) (dEt_va hE hi) (jGw_of 961 (by decide +kernel) (by decide +kernel)) (by decide +kernel) ?_
    refine dr_elen (by omega) (dEt_by hE hi) (by decide +kernel) ?_
    have hS : ∀ j, j < sLn i → stC i j = nI (s j) ∧ bf (stC i j) := fun j hj => by
      obtain ⟨y1, y2⟩ := (stN_ok i hi).2 j hj
      rw [h9 j hj, y1]
      exact ⟨rfl, (bf_t _ y2).1⟩
    refine dr_copyE (by omega) (dEt_by hE hi) (by decide) h1 (by decide) (nI_pos (by omega)) (nI_pos (by omega)) (by rw [ew]; show 0 + sLn i ≤ sLn i; omega) (by rw [en, ew, h2]; exact h3) (fun j hj => by rw [ew] at hj; exact (hS _ (by show 0 + j < sLn i; omega)).2) (by simp) ⟨by omega, by omega⟩ (show Cond.methodLink RJ0 212 arraycopyName ∈ jGw from jGw_of 886 (by decide +kernel) (by decide +kernel)) (by decide +kernel) ?_
    exact fin (stC i) hS
end EJY
