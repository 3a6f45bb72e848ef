/-! texts on the law's side: what a row of bytes, a String, a StringBuilder says; the smallest of their methods -/
theorem dCon.gt {g : jG} {h0 n mc ms : Nat} {tl : List Nat} {mt : jMt} {args : List Value} {δ : dM} {S : Option Value → dM → Prop} (hy : plainFor mt.1 = true) (hlen : (lg_sl args).length ≤ mt.2.2.1)
    (k : ∀ (z : dZ), z.2.2.2.2 = h0 → DkF z tl → Dcl0 δ → (z.1.frames = n ∧ z.1.locals = 64 * n ∧ z.1.cells = mc ∧ z.1.slots = ms) → ∀ post : Option Value → dM → Prop, (∀ v τ, S v τ → post v τ) → dRok g z mt (dRp mc ms post) → DW g z mt 0 (lv_args 0 args) [] δ 0 0) : dCon g h0 n mc ms tl mt args δ S :=
  dCon.of hy hlen (fun _ hkp hcl _ => k _ rfl (DkF.of hkp) hcl ⟨rfl, rfl, rfl, rfl⟩ S (fun _ _ h => h) dRok_con)
def bf (x : Int32) : Prop := fits .byte (.int x) = true
theorem bf_t : ∀ c, c < 128 → bf (nI c) ∧ vp_nar .byte (nI c) = nI c ∧ (nI c).toInt8.toInt32 = nI c ∧ (((nI c).toUInt32 &&& Int32.toUInt32 255) % 65536).toInt32 = nI c ∧ narrow .char (.int (nI c)) = .int (nI c) ∧ ((nI c).toUInt32 % 65536).toInt32 = nI c ∧ nI c &&& 255 = nI c ∧ nI c ≤ 255 := by
  unfold bf
  decide +kernel
theorem bf_0 : bf 0 := by
  unfold bf
  decide
/-- the first n bytes of the row a say the text f -/
def txB (σ : dM) (a : Nat) (f : Nat → Nat) (n : Nat) : Prop := (∀ j, j < n → DI σ a j = nI (f j) ∧ f j < 128) ∧ ∀ j, bf (DI σ a j)
/-- the StringBuilder says the text f of n letters, its row has m places -/
def sbS (σ : dM) (f : Nat → Nat) (n m : Nat) : Prop := (DA σ 1800 = true ∧ DR σ 1800 0 = some 1600 ∧ DI σ 1800 1 = 0 ∧ DI σ 1800 3 = nI n) ∧ (DA σ 1600 = true ∧ DN σ 1600 = m) ∧ (n ≤ m ∧ m ≤ 700) ∧ txB σ 1600 f n
/-- the String s with its row a says the text f -/
def tsS (σ : dM) (s a : Nat) (f : Nat → Nat) (n : Nat) : Prop := (DA σ s = true ∧ DR σ s 0 = some a ∧ DI σ s 1 = 0) ∧ (DA σ a = true ∧ DN σ a = n) ∧ txB σ a f n
def stN (i k : Nat) : Nat := (stC i k).toNatClampNeg
theorem stN_ok : ∀ i, i < 25 → sLn i < 40 ∧ ∀ k, k < sLn i → stC i k = nI (stN i k) ∧ stN i k < 128 := by decide +kernel
/-- a text that is there: one of the law's, or a constant -/
def txt (σ : dM) (q : Nat) (f : Nat → Nat) (n : Nat) : Prop := n ≤ 300 ∧ ((q = 1700 ∧ tsS σ 1700 1610 f n) ∨ (q = 1701 ∧ tsS σ 1701 1611 f n) ∨ (q = 1702 ∧ tsS σ 1702 1612 f n) ∨ ∃ i, i < 25 ∧ q = 354 + i ∧ n = sLn i ∧ ∀ j, j < n → f j = stN i j)
/-- rows of bytes are known by their own texts alone -/
def txQ (σ : dM) : Prop := ∀ k j q, 1000 ≤ k → k < 2100 → DA σ k = true → DR σ k j = some q → 1600 ≤ q → q < 1900 → j = 0 ∧ ((q = 1600 ∧ k = 1800) ∨ (q = 1603 ∧ k = 1803) ∨ (q = 1610 ∧ k = 1700) ∨ (q = 1611 ∧ k = 1701) ∨ (q = 1612 ∧ k = 1702))
def tcat (f : Nat → Nat) (n : Nat) (s : Nat → Nat) : Nat → Nat := fun j => if j < n then f j else s (j - n)
theorem G_t : (darr 1600 1 1 = true ∧ darr 1600 1 0 = false ∧ darr 1601 1 1 = true ∧ darr 1601 1 0 = false ∧ darr 1610 1 1 = true ∧ darr 1610 1 0 = false ∧ darr 1611 1 1 = true ∧ darr 1611 1 0 = false ∧ darr 1612 1 1 = true ∧ darr 1612 1 0 = false) ∧ (disO 1800 14 = true ∧ dobj 1800 14 0 2 = true ∧ dobj 1800 14 1 0 = true ∧ dobj 1800 14 3 0 = true) ∧ (disO 1700 13 = true ∧ dobj 1700 13 0 2 = true ∧ dobj 1700 13 1 0 = true) ∧ (disO 1701 13 = true ∧ dobj 1701 13 0 2 = true ∧ dobj 1701 13 1 0 = true) ∧ disO 1702 13 = true ∧ dobj 1702 13 0 2 = true ∧ dobj 1702 13 1 0 = true := by decide +kernel
theorem c1_n0 : ¬ (1 : Int32) = 0 := by decide
section EJT
variable {g : jG} {h0 : Nat}
/-- the texts' constants, as rows want them -/
theorem dEt_S (hE : dEt g h0) {i : Nat} (hi : i < 25) : ∀ (U : State) (H : Heap), jE g U H → vk_S 1 [stL.getD i 0] [stY.getD i []] (fun _ => jad g (354 + i)) (fun _ => jad g (400 + i)) (Dge h0) U H := fun U H h => (hE.2 U H h).1.1.1 i hi
theorem dEt_cs (hE : dEt g h0) : ∀ (U : State) (H : Heap), jE g U H → va_Z "java/lang/String" "COMPACT_STRINGS" "Z" (jrl g (.int 1)) (Dge h0) U H := fun U H h => (hE.2 U H h).1.1.2.2.1
theorem dEt_co (hE : dEt g h0) {i : Nat} (hi : i < 25) : ∀ (U : State) (H : Heap), jE g U H → va_OF "java/lang/String" "coder" "B" (jrl g (.int 0)) (jad g (354 + i)) (Dge h0) U H := fun U H h => ((dEt_S hE hi U H h).1 0 (by decide)).2.1
theorem dEt_va (hE : dEt g h0) {i : Nat} (hi : i < 25) : ∀ (U : State) (H : Heap), jE g U H → va_OF "java/lang/String" "value" "[B" (jrl g (.ref (400 + i))) (jad g (354 + i)) (Dge h0) U H := fun U H h => ((dEt_S hE hi U H h).1 0 (by decide)).2.2.1
theorem dEt_by (hE : dEt g h0) {i : Nat} (hi : i < 25) : ∀ (U : State) (H : Heap), jE g U H → va_T .byte (jad g (400 + i)) (sLn i) (fun j => .int (stC i j)) (Dge h0) U H := fun U H h => ((dEt_S hE hi U H h).1 0 (by decide)).2.2.2
def dCod (f : Nat → Nat) (k : Nat) : dO := doR fun a σ => (txt σ a f k, fun v τ => v = some (.int 0) ∧ τ = σ)
set_option maxRecDepth 100000 in
set_option maxHeartbeats 4000000 in
theorem EJ0_coder (hE : dEt g h0) (n : Nat) (f : Nat → Nat) (k : Nat) : dOk g h0 n 0 0 [] mJ0_coder_7d493 (dCod f k) := by
  refine doR_ok ?_
  rintro a σ ⟨-, ht⟩
  refine dCon.gt (by decide +kernel) (by simp [lg_sl, Value.category]) (fun z hz0 hkp hcl hz post hp hR => ?_)
  subst hz0
  have hfin : ∀ pc L, decode cJ0_coder_7d493 pc = .ok (.ireturn, 1) → DW g z mJ0_coder_7d493 pc L [.int 0] σ 0 0 := fun pc L d => hR (some (.int 0)) .ireturn pc L σ 0 0 d (Or.inr (Or.inr ⟨.byte, rfl, by decide⟩)) ⟨⟨Nat.le_refl _, Nat.le_refl _⟩, σ, Dsub.rfl hcl, hp _ _ ⟨rfl, rfl⟩⟩
  show DW g z mJ0_coder_7d493 0 [(0, .ref a)] [] σ 0 0
  refine dr_gets (idx := 38) (v := .int 1) rfl (dEt_cs hE) (jGw_of 853 (by decide +kernel) (by decide +kernel)) (by decide +kernel) ?_
  have c1 := c1_n0
  rcases ht with ⟨rfl, h1, -⟩ | ⟨rfl, h1, -⟩ | ⟨rfl, h1, -⟩ | ⟨i, hi, rfl, -⟩
  · refine dvk_ok (nC := n + 0) DJ0_coder_7d493 hTyA hR (VC := []) (VD := []) (SD := []) (AL := []) (fun _ h => absurd h List.not_mem_nil) (fun _ h => absurd h List.not_mem_nil) (fun _ h => absurd h List.not_mem_nil) [14] 10 _ _ _ _ _ _ ?_
    simp (maxSteps := 1000000) [↓Bool.cond_eq_ite, -Prod.forall, -Prod.exists, -Prod.mk.injEq, ↓jc_eq_t, ↓jc_eq_f, ↓jc_ne_t, ↓jc_ne_f, ↓jc_lt_t, ↓jc_lt_f, ↓jc_ge_t, ↓jc_ge_f, ↓jc_gt_t, ↓jc_gt_f, ↓jc_le_t, ↓jc_le_f, dvk, tJ0_coder_7d493, jtb, jol, dvl, dal, dst, jlk, jcmp, jbin, jfl, qJ0, jc2, qlJ0, jcat, jel, lv_args, Value.category, jins, jsrt, jins2, jble, jblt, jf3, List.filter_cons, List.filter_nil, Dlo, Dnr, DnL, Dfree, Droom, DuS_S, DuS_I, DuS_L, DuS_R, DuS_N, DuS_A, DuI_S, DuI_I, DuI_L, DuI_R, DuI_N, DuI_A, DuL_S, DuL_I, DuL_L, DuL_R, DuL_N, DuL_A, DuR_S, DuR_I, DuR_L, DuR_R, DuR_N, DuR_A, Dnw_S, Dnw_I, Dnw_L, Dnw_R, Dnw_N, Dnw_A, DrI_S, DrI_I, DrI_L, DrI_R, DrI_N, DrI_A, DrJ_S, DrJ_I, DrJ_L, DrJ_R, DrJ_N, DrJ_A, dm64, G_d, G_x0, -Int32.not_le, -Int32.not_lt, -Int64.not_le, -Int64.not_lt, i3lt, i6lt, c1, h1, G_t]
    try simp (disch := omega) [-Prod.forall, -Prod.exists, -Prod.mk.injEq, -Int32.not_le, -Int32.not_lt, -Int64.not_le, -Int64.not_lt, i3lt, i6lt, c1, h1, G_t]
    exact hfin 14 _ (by decide +kernel)
  · refine dvk_ok (nC := n + 0) DJ0_coder_7d493 hTyA hR (VC := []) (VD := []) (SD := []) (AL := []) (fun _ h => absurd h List.not_mem_nil) (fun _ h => absurd h List.not_mem_nil) (fun _ h => absurd h List.not_mem_nil) [14] 10 _ _ _ _ _ _ ?_
    simp (maxSteps := 1000000) [↓Bool.cond_eq_ite, -Prod.forall, -Prod.exists, -Prod.mk.injEq, ↓jc_eq_t, ↓jc_eq_f, ↓jc_ne_t, ↓jc_ne_f, ↓jc_lt_t, ↓jc_lt_f, ↓jc_ge_t, ↓jc_ge_f, ↓jc_gt_t, ↓jc_gt_f, ↓jc_le_t, ↓jc_le_f, dvk, tJ0_coder_7d493, jtb, jol, dvl, dal, dst, jlk, jcmp, jbin, jfl, qJ0, jc2, qlJ0, jcat, jel, lv_args, Value.category, jins, jsrt, jins2, jble, jblt, jf3, List.filter_cons, List.filter_nil, Dlo, Dnr, DnL, Dfree, Droom, DuS_S, DuS_I, DuS_L, DuS_R, DuS_N, DuS_A, DuI_S, DuI_I, DuI_L, DuI_R, DuI_N, DuI_A, DuL_S, DuL_I, DuL_L, DuL_R, DuL_N, DuL_A, DuR_S, DuR_I, DuR_L, DuR_R, DuR_N, DuR_A, Dnw_S, Dnw_I, Dnw_L, Dnw_R, Dnw_N, Dnw_A, DrI_S, DrI_I, DrI_L, DrI_R, DrI_N, DrI_A, DrJ_S, DrJ_I, DrJ_L, DrJ_R, DrJ_N, DrJ_A, dm64, G_d, G_x0, -Int32.not_le, -Int32.not_lt, -Int64.not_le, -Int64.not_lt, i3lt, i6lt, c1, h1, G_t]
    try simp (disch := omega) [-Prod.forall, -Prod.exists, -Prod.mk.injEq, -Int32.not_le, -Int32.not_lt, -Int64.not_le, -Int64.not_lt, i3lt, i6lt, c1, h1, G_t]
    exact hfin 14 _ (by decide +kernel)
  · refine dvk_ok (nC := n + 0) DJ0_coder_7d493 hTyA hR (VC := []) (VD := []) (SD := []) (AL := []) (fun _ h => absurd h List.not_mem_nil) (fun _ h => absurd h List.not_mem_nil) (fun _ h => absurd h List.not_mem_nil) [14] 10 _ _ _ _ _ _ ?_
    simp (maxSteps := 1000000) [↓Bool.cond_eq_ite, -Prod.forall, -Prod.exists, -Prod.mk.injEq, ↓jc_eq_t, ↓jc_eq_f, ↓jc_ne_t, ↓jc_ne_f, ↓jc_lt_t, ↓jc_lt_f, ↓jc_ge_t, ↓jc_ge_f, ↓jc_gt_t, ↓jc_gt_f, ↓jc_le_t, ↓jc_le_f, dvk, tJ0_coder_7d493, jtb, jol, dvl, dal, dst, jlk, jcmp, jbin, jfl, qJ0, jc2, qlJ0, jcat, jel, lv_args, Value.category, jins, jsrt, jins2, jble, jblt, jf3, List.filter_cons, List.filter_nil, Dlo, Dnr, DnL, Dfree, Droom, DuS_S, DuS_I, DuS_L, DuS_R, DuS_N, DuS_A, DuI_S, DuI_I, DuI_L, DuI_R, DuI_N, DuI_A, DuL_S, DuL_I, DuL_L, DuL_R, DuL_N, DuL_A, DuR_S, DuR_I, DuR_L, DuR_R, DuR_N, DuR_A, Dnw_S, Dnw_I, Dnw_L, Dnw_R, Dnw_N, Dnw_A, DrI_S, DrI_I, DrI_L, DrI_R, DrI_N, DrI_A, DrJ_S, DrJ_I, DrJ_L, DrJ_R, DrJ_N, DrJ_A, dm64, G_d, G_x0, -Int32.not_le, -Int32.not_lt, -Int64.not_le, -Int64.not_lt, i3lt, i6lt, c1, h1, G_t]
    try simp (disch := omega) [-Prod.forall, -Prod.exists, -Prod.mk.injEq, -Int32.not_le, -Int32.not_lt, -Int64.not_le, -Int64.not_lt, i3lt, i6lt, c1, h1, G_t]
    exact hfin 14 _ (by decide +kernel)
  · refine dvk_ok (nC := n + 0) DJ0_coder_7d493 hTyA hR (VC := []) (VD := []) (SD := []) (AL := []) (fun _ h => absurd h List.not_mem_nil) (fun _ h => absurd h List.not_mem_nil) (fun _ h => absurd h List.not_mem_nil) [7] 10 _ _ _ _ _ _ ?_
    simp (maxSteps := 1000000) [↓Bool.cond_eq_ite, -Prod.forall, -Prod.exists, -Prod.mk.injEq, ↓jc_eq_t, ↓jc_eq_f, ↓jc_ne_t, ↓jc_ne_f, ↓jc_lt_t, ↓jc_lt_f, ↓jc_ge_t, ↓jc_ge_f, ↓jc_gt_t, ↓jc_gt_f, ↓jc_le_t, ↓jc_le_f, dvk, tJ0_coder_7d493, jtb, jol, dvl, dal, dst, jlk, jcmp, jbin, jfl, qJ0, jc2, qlJ0, jcat, jel, lv_args, Value.category, jins, jsrt, jins2, jble, jblt, jf3, List.filter_cons, List.filter_nil, Dlo, Dnr, DnL, Dfree, Droom, DuS_S, DuS_I, DuS_L, DuS_R, DuS_N, DuS_A, DuI_S, DuI_I, DuI_L, DuI_R, DuI_N, DuI_A, DuL_S, DuL_I, DuL_L, DuL_R, DuL_N, DuL_A, DuR_S, DuR_I, DuR_L, DuR_R, DuR_N, DuR_A, Dnw_S, Dnw_I, Dnw_L, Dnw_R, Dnw_N, Dnw_A, DrI_S, DrI_I, DrI_L, DrI_R, DrI_N, DrI_A, DrJ_S, DrJ_I, DrJ_L, DrJ_R, DrJ_N, DrJ_A, dm64, G_d, G_x0, -Int32.not_le, -Int32.not_lt, -Int64.not_le, -Int64.not_lt, i3lt, i6lt, c1]
    try simp (disch := omega) [-Prod.forall, -Prod.exists, -Prod.mk.injEq, -Int32.not_le, -Int32.not_lt, -Int64.not_le, -Int64.not_lt, i3lt, i6lt, c1]
    refine dr_sgf (idx := 15) (v := .int 0) (by omega) rfl (dEt_co hE hi) (jGw_of 962 (by decide +kernel) (by decide +kernel)) (by decide +kernel) ?_
    refine dvk_ok (nC := n + 0) DJ0_coder_7d493 hTyA hR (VC := []) (VD := []) (SD := []) (AL := []) (fun _ h => absurd h List.not_mem_nil) (fun _ h => absurd h List.not_mem_nil) (fun _ h => absurd h List.not_mem_nil) [14] 10 _ _ _ _ _ _ ?_
    simp (maxSteps := 1000000) [↓Bool.cond_eq_ite, -Prod.forall, -Prod.exists, -Prod.mk.injEq, ↓jc_eq_t, ↓jc_eq_f, ↓jc_ne_t, ↓jc_ne_f, ↓jc_lt_t, ↓jc_lt_f, ↓jc_ge_t, ↓jc_ge_f, ↓jc_gt_t, ↓jc_gt_f, ↓jc_le_t, ↓jc_le_f, dvk, tJ0_coder_7d493, jtb, jol, dvl, dal, dst, jlk, jcmp, jbin, jfl, qJ0, jc2, qlJ0, jcat, jel, lv_args, Value.category, jins, jsrt, jins2, jble, jblt, jf3, List.filter_cons, List.filter_nil, Dlo, Dnr, DnL, Dfree, Droom, DuS_S, DuS_I, DuS_L, DuS_R, DuS_N, DuS_A, DuI_S, DuI_I, DuI_L, DuI_R, DuI_N, DuI_A, DuL_S, DuL_I, DuL_L, DuL_R, DuL_N, DuL_A, DuR_S, DuR_I, DuR_L, DuR_R, DuR_N, DuR_A, Dnw_S, Dnw_I, Dnw_L, Dnw_R, Dnw_N, Dnw_A, DrI_S, DrI_I, DrI_L, DrI_R, DrI_N, DrI_A, DrJ_S, DrJ_I, DrJ_L, DrJ_R, DrJ_N, DrJ_A, dm64, G_d, G_x0, -Int32.not_le, -Int32.not_lt, -Int64.not_le, -Int64.not_lt, i3lt, i6lt]
    try simp (disch := omega) [-Prod.forall, -Prod.exists, -Prod.mk.injEq, -Int32.not_le, -Int32.not_lt, -Int64.not_le, -Int64.not_lt, i3lt, i6lt]
    exact hfin 14 _ (by decide +kernel)
/-- a call of a text's coder -/
theorem dr_coder {z : dZ} {mt : jMt} {pc idx : Nat} {L : List (Nat × Value)} {r : List Value} {σ : dM} {c0 s0 n q k : Nat} {f : Nat → Nat} (hE : dEt g z.2.2.2.2) (ht : txt σ q f k) (hf : n + 1 ≤ z.1.frames ∧ 64 * (n + 1) ≤ z.1.locals ∧ c0 ≤ z.1.cells ∧ s0 ≤ z.1.slots) (hlk : Cond.methodLink mt.1.cls idx yJ0_coder_7d493 ∈ jGw) (hst : (r.map fun v => v.category).sum ≤ 8) (hd : decode mt.2.1 pc = .ok (.invokevirtual idx, 3))
    (kk : DW g z mt (pc + 3) L (.int 0 :: r) σ c0 s0) : DW g z mt pc L (.ref q :: r) σ c0 s0 := by
  have hF : Dfit z mJ0_coder_7d493 n 0 0 c0 s0 := ⟨hf.1, by show 8 + (1 + 11) + 64 * n ≤ _; omega, hf.2.2.1, hf.2.2.2⟩
  have hc := EJ0_coder hE n f k [.ref q] σ ht
  have go : ∀ v τ, (dCod f k [.ref q] σ).2 v τ → DW g z mt (pc + 3) L (v.toList ++ r) τ (c0 + 0) (s0 + 0) := by
    rintro v τ ⟨rfl, rfl⟩
    exact kk
  rcases ht with ⟨hk9, ⟨rfl, h1, -⟩ | ⟨rfl, h1, -⟩ | ⟨rfl, h1, -⟩ | ⟨i, hi, rfl, -⟩⟩
  · exact dr_callV (tl := []) (ci := 13) (T := TJ0) (N := 4) (as := []) hF trivial hd hlk WJ0_coder_7d493 rfl (by decide) h1.1 rfl rfl hst hc go
  · exact dr_callV (tl := []) (ci := 13) (T := TJ0) (N := 4) (as := []) hF trivial hd hlk WJ0_coder_7d493 rfl (by decide) h1.1 rfl rfl hst hc go
  · exact dr_callV (tl := []) (ci := 13) (T := TJ0) (N := 4) (as := []) hF trivial hd hlk WJ0_coder_7d493 rfl (by decide) h1.1 rfl rfl hst hc go
  · exact dr_callStr (tl := []) (as := []) (by omega) (dEt_S hE hi) hF trivial hd hlk WJ0_coder_7d493 rfl rfl rfl hst hc go
theorem shr_0 (x : Int32) : x >>> ((0 : Int32) &&& 31) = x := by
  have e : (0 : Int32) &&& 31 = 0 := by decide
  rw [e]
  exact Int32.shiftRight_zero
def dLen (f : Nat → Nat) (k : Nat) : dO := doR fun a σ => (txt σ a f k, fun v τ => v = some (.int (nI k)) ∧ τ = σ)
set_option maxRecDepth 100000 in
set_option maxHeartbeats 4000000 in
theorem EJ0_length (hE : dEt g h0) (n : Nat) (f : Nat → Nat) (k : Nat) : dOk g h0 (n + 1) 0 0 [] mJ0_length_8abf5 (dLen f k) := by
  refine doR_ok ?_
  rintro a σ ht
  refine dCon.gt (by decide +kernel) (by simp [lg_sl, Value.category]) (fun z hz0 hkp hcl hz post hp hR => ?_)
  subst hz0
  have ht0 := ht
  show DW g z mJ0_length_8abf5 0 [(0, .ref a)] [] σ 0 0
  have fin : DW g z mJ0_length_8abf5 6 [(0, .ref a)] [.ref a, .int (nI k)] σ 0 0 := by
    refine dr_coder (n := n) hE ht ⟨by omega, by omega, by omega, by omega⟩ hJ0_335 (by simp [Value.category]) (by decide +kernel) ?_
    refine dvk_ok (nC := n + 0) DJ0_length_8abf5 hTyA hR (VC := []) (VD := []) (SD := []) (AL := []) (fun _ h => absurd h List.not_mem_nil) (fun _ h => absurd h List.not_mem_nil) (fun _ h => absurd h List.not_mem_nil) [10] 10 _ _ _ _ _ _ ?_
    simp (maxSteps := 1000000) [↓Bool.cond_eq_ite, -Prod.forall, -Prod.exists, -Prod.mk.injEq, ↓jc_eq_t, ↓jc_eq_f, ↓jc_ne_t, ↓jc_ne_f, ↓jc_lt_t, ↓jc_lt_f, ↓jc_ge_t, ↓jc_ge_f, ↓jc_gt_t, ↓jc_gt_f, ↓jc_le_t, ↓jc_le_f, dvk, tJ0_length_8abf5, jtb, jol, dvl, dal, dst, jlk, jcmp, jbin, jfl, qJ0, jc2, qlJ0, jcat, jel, lv_args, Value.category, jins, jsrt, jins2, jble, jblt, jf3, List.filter_cons, List.filter_nil, Dlo, Dnr, DnL, Dfree, Droom, DuS_S, DuS_I, DuS_L, DuS_R, DuS_N, DuS_A, DuI_S, DuI_I, DuI_L, DuI_R, DuI_N, DuI_A, DuL_S, DuL_I, DuL_L, DuL_R, DuL_N, DuL_A, DuR_S, DuR_I, DuR_L, DuR_R, DuR_N, DuR_A, Dnw_S, Dnw_I, Dnw_L, Dnw_R, Dnw_N, Dnw_A, DrI_S, DrI_I, DrI_L, DrI_R, DrI_N, DrI_A, DrJ_S, DrJ_I, DrJ_L, DrJ_R, DrJ_N, DrJ_A, dm64, G_d, G_x0, -Int32.not_le, -Int32.not_lt, -Int64.not_le, -Int64.not_lt, i3lt, i6lt]
    try simp (disch := omega) [-Prod.forall, -Prod.exists, -Prod.mk.injEq, -Int32.not_le, -Int32.not_lt, -Int64.not_le, -Int64.not_lt, i3lt, i6lt]
    exact hR (some (.int (nI k))) .ireturn 10 _ σ 0 0 (by decide +kernel) (Or.inl rfl) ⟨⟨by omega, by omega⟩, σ, Dsub.rfl hcl, hp _ _ ⟨rfl, rfl⟩⟩
  rcases ht with ⟨-, ⟨rfl, h1, h2, -⟩ | ⟨rfl, h1, h2, -⟩ | ⟨rfl, h1, h2, -⟩ | ⟨i, hi, rfl, rfl, -⟩⟩
  · refine dvk_ok (nC := n + 0) DJ0_length_8abf5 hTyA hR (VC := []) (VD := []) (SD := []) (AL := []) (fun _ h => absurd h List.not_mem_nil) (fun _ h => absurd h List.not_mem_nil) (fun _ h => absurd h List.not_mem_nil) [6] 10 _ _ _ _ _ _ ?_
    simp (maxSteps := 1000000) [↓Bool.cond_eq_ite, -Prod.forall, -Prod.exists, -Prod.mk.injEq, ↓jc_eq_t, ↓jc_eq_f, ↓jc_ne_t, ↓jc_ne_f, ↓jc_lt_t, ↓jc_lt_f, ↓jc_ge_t, ↓jc_ge_f, ↓jc_gt_t, ↓jc_gt_f, ↓jc_le_t, ↓jc_le_f, dvk, tJ0_length_8abf5, jtb, jol, dvl, dal, dst, jlk, jcmp, jbin, jfl, qJ0, jc2, qlJ0, jcat, jel, lv_args, Value.category, jins, jsrt, jins2, jble, jblt, jf3, List.filter_cons, List.filter_nil, Dlo, Dnr, DnL, Dfree, Droom, DuS_S, DuS_I, DuS_L, DuS_R, DuS_N, DuS_A, DuI_S, DuI_I, DuI_L, DuI_R, DuI_N, DuI_A, DuL_S, DuL_I, DuL_L, DuL_R, DuL_N, DuL_A, DuR_S, DuR_I, DuR_L, DuR_R, DuR_N, DuR_A, Dnw_S, Dnw_I, Dnw_L, Dnw_R, Dnw_N, Dnw_A, DrI_S, DrI_I, DrI_L, DrI_R, DrI_N, DrI_A, DrJ_S, DrJ_I, DrJ_L, DrJ_R, DrJ_N, DrJ_A, dm64, G_d, G_x0, -Int32.not_le, -Int32.not_lt, -Int64.not_le, -Int64.not_lt, i3lt, i6lt, h1, h2, G_t]
    try simp (disch := omega) [-Prod.forall, -Prod.exists, -Prod.mk.injEq, -Int32.not_le, -Int32.not_lt, -Int64.not_le, -Int64.not_lt, i3lt, i6lt, h1, h2, G_t]
    exact fin
  · refine dvk_ok (nC := n + 0) DJ0_length_8abf5 hTyA hR (VC := []) (VD := []) (SD := []) (AL := []) (fun _ h => absurd h List.not_mem_nil) (fun _ h => absurd h List.not_mem_nil) (fun _ h => absurd h List.not_mem_nil) [6] 10 _ _ _ _ _ _ ?_
    simp (maxSteps := 1000000) [↓Bool.cond_eq_ite, -Prod.forall, -Prod.exists, -Prod.mk.injEq, ↓jc_eq_t, ↓jc_eq_f, ↓jc_ne_t, ↓jc_ne_f, ↓jc_lt_t, ↓jc_lt_f, ↓jc_ge_t, ↓jc_ge_f, ↓jc_gt_t, ↓jc_gt_f, ↓jc_le_t, ↓jc_le_f, dvk, tJ0_length_8abf5, jtb, jol, dvl, dal, dst, jlk, jcmp, jbin, jfl, qJ0, jc2, qlJ0, jcat, jel, lv_args, Value.category, jins, jsrt, jins2, jble, jblt, jf3, List.filter_cons, List.filter_nil, Dlo, Dnr, DnL, Dfree, Droom, DuS_S, DuS_I, DuS_L, DuS_R, DuS_N, DuS_A, DuI_S, DuI_I, DuI_L, DuI_R, DuI_N, DuI_A, DuL_S, DuL_I, DuL_L, DuL_R, DuL_N, DuL_A, DuR_S, DuR_I, DuR_L, DuR_R, DuR_N, DuR_A, Dnw_S, Dnw_I, Dnw_L, Dnw_R, Dnw_N, Dnw_A, DrI_S, DrI_I, DrI_L, DrI_R, DrI_N, DrI_A, DrJ_S, DrJ_I, DrJ_L, DrJ_R, DrJ_N, DrJ_A, dm64, G_d, G_x0, -Int32.not_le, -Int32.not_lt, -Int64.not_le, -Int64.not_lt, i3lt, i6lt, h1, h2, G_t]
    try simp (disch := omega) [-Prod.forall, -Prod.exists, -Prod.mk.injEq, -Int32.not_le, -Int32.not_lt, -Int64.not_le, -Int64.not_lt, i3lt, i6lt, h1, h2, G_t]
    exact fin
  · refine dvk_ok (nC := n + 0) DJ0_length_8abf5 hTyA hR (VC := []) (VD := []) (SD := []) (AL := []) (fun _ h => absurd h List.not_mem_nil) (fun _ h => absurd h List.not_mem_nil) (fun _ h => absurd h List.not_mem_nil) [6] 10 _ _ _ _ _ _ ?_
    simp (maxSteps := 1000000) [↓Bool.cond_eq_ite, -Prod.forall, -Prod.exists, -Prod.mk.injEq, ↓jc_eq_t, ↓jc_eq_f, ↓jc_ne_t, ↓jc_ne_f, ↓jc_lt_t, ↓jc_lt_f, ↓jc_ge_t, ↓jc_ge_f, ↓jc_gt_t, ↓jc_gt_f, ↓jc_le_t, ↓jc_le_f, dvk, tJ0_length_8abf5, jtb, jol, dvl, dal, dst, jlk, jcmp, jbin, jfl, qJ0, jc2, qlJ0, jcat, jel, lv_args, Value.category, jins, jsrt, jins2, jble, jblt, jf3, List.filter_cons, List.filter_nil, Dlo, Dnr, DnL, Dfree, Droom, DuS_S, DuS_I, DuS_L, DuS_R, DuS_N, DuS_A, DuI_S, DuI_I, DuI_L, DuI_R, DuI_N, DuI_A, DuL_S, DuL_I, DuL_L, DuL_R, DuL_N, DuL_A, DuR_S, DuR_I, DuR_L, DuR_R, DuR_N, DuR_A, Dnw_S, Dnw_I, Dnw_L, Dnw_R, Dnw_N, Dnw_A, DrI_S, DrI_I, DrI_L, DrI_R, DrI_N, DrI_A, DrJ_S, DrJ_I, DrJ_L, DrJ_R, DrJ_N, DrJ_A, dm64, G_d, G_x0, -Int32.not_le, -Int32.not_lt, -Int64.not_le, -Int64.not_lt, i3lt, i6lt, h1, h2, G_t]
    try simp (disch := omega) [-Prod.forall, -Prod.exists, -Prod.mk.injEq, -Int32.not_le, -Int32.not_lt, -Int64.not_le, -Int64.not_lt, i3lt, i6lt, h1, h2, G_t]
    exact fin
  · refine dvk_ok (nC := n + 0) DJ0_length_8abf5 hTyA hR (VC := []) (VD := []) (SD := []) (AL := []) (fun _ h => absurd h List.not_mem_nil) (fun _ h => absurd h List.not_mem_nil) (fun _ h => absurd h List.not_mem_nil) [1] 10 _ _ _ _ _ _ ?_
    simp (maxSteps := 1000000) [↓Bool.cond_eq_ite, -Prod.forall, -Prod.exists, -Prod.mk.injEq, ↓jc_eq_t, ↓jc_eq_f, ↓jc_ne_t, ↓jc_ne_f, ↓jc_lt_t, ↓jc_lt_f, ↓jc_ge_t, ↓jc_ge_f, ↓jc_gt_t, ↓jc_gt_f, ↓jc_le_t, ↓jc_le_f, dvk, tJ0_length_8abf5, jtb, jol, dvl, dal, dst, jlk, jcmp, jbin, jfl, qJ0, jc2, qlJ0, jcat, jel, lv_args, Value.category, jins, jsrt, jins2, jble, jblt, jf3, List.filter_cons, List.filter_nil, Dlo, Dnr, DnL, Dfree, Droom, DuS_S, DuS_I, DuS_L, DuS_R, DuS_N, DuS_A, DuI_S, DuI_I, DuI_L, DuI_R, DuI_N, DuI_A, DuL_S, DuL_I, DuL_L, DuL_R, DuL_N, DuL_A, DuR_S, DuR_I, DuR_L, DuR_R, DuR_N, DuR_A, Dnw_S, Dnw_I, Dnw_L, Dnw_R, Dnw_N, Dnw_A, DrI_S, DrI_I, DrI_L, DrI_R, DrI_N, DrI_A, DrJ_S, DrJ_I, DrJ_L, DrJ_R, DrJ_N, DrJ_A, dm64, G_d, G_x0, -Int32.not_le, -Int32.not_lt, -Int64.not_le, -Int64.not_lt, i3lt, i6lt]
    try simp (disch := omega) [-Prod.forall, -Prod.exists, -Prod.mk.injEq, -Int32.not_le, -Int32.not_lt, -Int64.not_le, -Int64.not_lt, i3lt, i6lt]
    refine dr_sgf (idx := 9) (v := .ref (400 + i)) (by omega) (by simp [Dlo]; omega) (dEt_va hE hi) (jGw_of 961 (by decide +kernel) (by decide +kernel)) (by decide +kernel) ?_
    refine dr_elen (by omega) (dEt_by hE hi) (by decide +kernel) ?_
    refine dvk_ok (nC := n + 0) DJ0_length_8abf5 hTyA hR (VC := []) (VD := []) (SD := []) (AL := []) (fun _ h => absurd h List.not_mem_nil) (fun _ h => absurd h List.not_mem_nil) (fun _ h => absurd h List.not_mem_nil) [6] 10 _ _ _ _ _ _ ?_
    simp (maxSteps := 1000000) [↓Bool.cond_eq_ite, -Prod.forall, -Prod.exists, -Prod.mk.injEq, ↓jc_eq_t, ↓jc_eq_f, ↓jc_ne_t, ↓jc_ne_f, ↓jc_lt_t, ↓jc_lt_f, ↓jc_ge_t, ↓jc_ge_f, ↓jc_gt_t, ↓jc_gt_f, ↓jc_le_t, ↓jc_le_f, dvk, tJ0_length_8abf5, jtb, jol, dvl, dal, dst, jlk, jcmp, jbin, jfl, qJ0, jc2, qlJ0, jcat, jel, lv_args, Value.category, jins, jsrt, jins2, jble, jblt, jf3, List.filter_cons, List.filter_nil, Dlo, Dnr, DnL, Dfree, Droom, DuS_S, DuS_I, DuS_L, DuS_R, DuS_N, DuS_A, DuI_S, DuI_I, DuI_L, DuI_R, DuI_N, DuI_A, DuL_S, DuL_I, DuL_L, DuL_R, DuL_N, DuL_A, DuR_S, DuR_I, DuR_L, DuR_R, DuR_N, DuR_A, Dnw_S, Dnw_I, Dnw_L, Dnw_R, Dnw_N, Dnw_A, DrI_S, DrI_I, DrI_L, DrI_R, DrI_N, DrI_A, DrJ_S, DrJ_I, DrJ_L, DrJ_R, DrJ_N, DrJ_A, dm64, G_d, G_x0, -Int32.not_le, -Int32.not_lt, -Int64.not_le, -Int64.not_lt, i3lt, i6lt]
    try simp (disch := omega) [-Prod.forall, -Prod.exists, -Prod.mk.injEq, -Int32.not_le, -Int32.not_lt, -Int64.not_le, -Int64.not_lt, i3lt, i6lt]
    exact fin
end EJT
