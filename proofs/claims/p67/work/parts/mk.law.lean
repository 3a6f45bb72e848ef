/-! the law's put: filled up to a multiple of twenty; twenty letters packed -/
section EMK
variable {g : jG} {z : dZ} {k : Nat} {R : Option Value → dM → Nat → Nat → Prop}
theorem rem20 {w : Nat} (hw : w < 1000) : nI w - nI w / 20 * 20 = nI (w % 20) := pk_rem (a := w) (d := 20) (by omega) (by omega) (by omega)
theorem stN_20 : stN 20 0 = 32 := by decide
theorem put_fill (hR : dRok g z mL_put R) (hE : dEt g z.2.2.2.2) (hkp : z.2.2.1 1800 = false ∧ z.2.2.1 1600 = false ∧ z.2.2.1 1601 = false ∧ z.2.2.1 1701 = false ∧ z.2.2.1 1611 = false ∧ z.2.2.1 1702 = false ∧ z.2.2.1 1612 = false) : ∀ (d w : Nat) (f : Nat → Nat) (q : Nat) (σ : dM) (c0 s0 : Nat), (w + d) % 20 = 0 → d < 20 → w + d ≤ 300 → (k + 6 ≤ z.1.frames ∧ 64 * (k + 6) ≤ z.1.locals ∧ c0 + 6 * d ≤ z.1.cells ∧ s0 + 2124 * d ≤ z.1.slots) → ptS σ q f w →
    (∀ τ q' f', tfr (fun k => ¬ ptK k) σ τ → ptS τ q' f' (w + d) → (∀ j, j < w → f' j = f j) → (∀ j, w ≤ j → j < w + d → f' j = 32) → DW g z mL_put 35 [(0, .ref 0), (1, .ref 1700), (2, .ref q')] [] τ (c0 + 6 * d) (s0 + 2124 * d)) → DW g z mL_put 2 [(0, .ref 0), (1, .ref 1700), (2, .ref q)] [] σ c0 s0 := by
  intro d
  have n := k
  induction d with
  | zero =>
    intro w f q σ c0 s0 h1 h2 h3 hz hS kk
    have e0 : nI w - nI w / 20 * 20 = 0 := by
      rw [rem20 (by omega), show w % 20 = 0 by omega]
      rfl
    refine dvk_ok (nC := n + 9) DL_put hTyA hR (VC := [(31, 6, 11, oX11_feed)]) (VD := []) (SD := []) (AL := []) (List.forall_mem_cons.mpr ⟨⟨mX11_feed, n + 1, 5, TX11, 9, rfl, by omega, hL_31, WX11_feed, rfl, CX11_feed g (n)⟩, (fun _ h => absurd h List.not_mem_nil)⟩) (fun _ h => absurd h List.not_mem_nil) (fun _ h => absurd h List.not_mem_nil) [3] 10 _ _ _ _ _ _ ?_
    simp (maxSteps := 1000000) [↓Bool.cond_eq_ite, -Prod.forall, -Prod.exists, -Prod.mk.injEq, ↓jc_eq_t, ↓jc_eq_f, ↓jc_ne_t, ↓jc_ne_f, ↓jc_lt_t, ↓jc_lt_f, ↓jc_ge_t, ↓jc_ge_f, ↓jc_gt_t, ↓jc_gt_f, ↓jc_le_t, ↓jc_le_f, dvk, tL_put, jtb, jol, dvl, dal, dst, jlk, jcmp, jbin, jfl, qL, jc2, qlL, jcat, jel, lv_args, Value.category, jins, jsrt, jins2, jble, jblt, jf3, List.filter_cons, List.filter_nil, Dlo, Dnr, DnL, Dfree, Droom, DuS_S, DuS_I, DuS_L, DuS_R, DuS_N, DuS_A, DuI_S, DuI_I, DuI_L, DuI_R, DuI_N, DuI_A, DuL_S, DuL_I, DuL_L, DuL_R, DuL_N, DuL_A, DuR_S, DuR_I, DuR_L, DuR_R, DuR_N, DuR_A, Dnw_S, Dnw_I, Dnw_L, Dnw_R, Dnw_N, Dnw_A, DrI_S, DrI_I, DrI_L, DrI_R, DrI_N, DrI_A, DrJ_S, DrJ_I, DrJ_L, DrJ_R, DrJ_N, DrJ_A, dm64, G_d, G_x0, oX11_feed, joRIIIII, -Int32.not_le, -Int32.not_lt, -Int64.not_le, -Int64.not_lt, i3lt, i6lt]
    try simp (disch := omega) [-Prod.forall, -Prod.exists, -Prod.mk.injEq, -Int32.not_le, -Int32.not_lt, -Int64.not_le, -Int64.not_lt, i3lt, i6lt]
    refine dr_callT (idx := 8) (mt' := mJ0_length_8abf5) (tl := []) (n' := k + 1) (mc := 0) (ms := 0) (as := []) hE hS.2.1 ⟨by omega, by show 8 + (1 + 11) + 64 * (k + 1) ≤ _; omega, by omega, by omega⟩ trivial (by decide +kernel) hL_8 WJ0_length_8abf5 rfl rfl rfl (by simp [Value.category]) (EJ0_length hE k f w [.ref q] σ hS.2.1) ?_
    rintro v τ ⟨rfl, rfl⟩
    show DW g z mL_put 6 _ [.int (nI w)] τ c0 s0
    refine dvk_ok (nC := n + 9) DL_put hTyA hR (VC := [(31, 6, 11, oX11_feed)]) (VD := []) (SD := []) (AL := []) (List.forall_mem_cons.mpr ⟨⟨mX11_feed, n + 1, 5, TX11, 9, rfl, by omega, hL_31, WX11_feed, rfl, CX11_feed g (n)⟩, (fun _ h => absurd h List.not_mem_nil)⟩) (fun _ h => absurd h List.not_mem_nil) (fun _ h => absurd h List.not_mem_nil) [35] 10 _ _ _ _ _ _ ?_
    simp (maxSteps := 1000000) [↓Bool.cond_eq_ite, -Prod.forall, -Prod.exists, -Prod.mk.injEq, ↓jc_eq_t, ↓jc_eq_f, ↓jc_ne_t, ↓jc_ne_f, ↓jc_lt_t, ↓jc_lt_f, ↓jc_ge_t, ↓jc_ge_f, ↓jc_gt_t, ↓jc_gt_f, ↓jc_le_t, ↓jc_le_f, dvk, tL_put, jtb, jol, dvl, dal, dst, jlk, jcmp, jbin, jfl, qL, jc2, qlL, jcat, jel, lv_args, Value.category, jins, jsrt, jins2, jble, jblt, jf3, List.filter_cons, List.filter_nil, Dlo, Dnr, DnL, Dfree, Droom, DuS_S, DuS_I, DuS_L, DuS_R, DuS_N, DuS_A, DuI_S, DuI_I, DuI_L, DuI_R, DuI_N, DuI_A, DuL_S, DuL_I, DuL_L, DuL_R, DuL_N, DuL_A, DuR_S, DuR_I, DuR_L, DuR_R, DuR_N, DuR_A, Dnw_S, Dnw_I, Dnw_L, Dnw_R, Dnw_N, Dnw_A, DrI_S, DrI_I, DrI_L, DrI_R, DrI_N, DrI_A, DrJ_S, DrJ_I, DrJ_L, DrJ_R, DrJ_N, DrJ_A, dm64, G_d, G_x0, oX11_feed, joRIIIII, -Int32.not_le, -Int32.not_lt, -Int64.not_le, -Int64.not_lt, i3lt, i6lt, e0]
    try simp (disch := omega) [-Prod.forall, -Prod.exists, -Prod.mk.injEq, -Int32.not_le, -Int32.not_lt, -Int64.not_le, -Int64.not_lt, i3lt, i6lt, e0]
    exact kk τ q f tfr.rfl hS (fun _ _ => rfl) (fun j a b => by omega)
  | succ d ih =>
    intro w f q σ c0 s0 h1 h2 h3 hz hS kk
    have e0 : ¬ nI w - nI w / 20 * 20 = 0 := fun z9 => by
      rw [rem20 (by omega)] at z9
      have := (nI_eq (a := w % 20) (b := 0) (by omega) (by omega)).mp z9
      omega
    refine dvk_ok (nC := n + 9) DL_put hTyA hR (VC := [(31, 6, 11, oX11_feed)]) (VD := []) (SD := []) (AL := []) (List.forall_mem_cons.mpr ⟨⟨mX11_feed, n + 1, 5, TX11, 9, rfl, by omega, hL_31, WX11_feed, rfl, CX11_feed g (n)⟩, (fun _ h => absurd h List.not_mem_nil)⟩) (fun _ h => absurd h List.not_mem_nil) (fun _ h => absurd h List.not_mem_nil) [3] 10 _ _ _ _ _ _ ?_
    simp (maxSteps := 1000000) [↓Bool.cond_eq_ite, -Prod.forall, -Prod.exists, -Prod.mk.injEq, ↓jc_eq_t, ↓jc_eq_f, ↓jc_ne_t, ↓jc_ne_f, ↓jc_lt_t, ↓jc_lt_f, ↓jc_ge_t, ↓jc_ge_f, ↓jc_gt_t, ↓jc_gt_f, ↓jc_le_t, ↓jc_le_f, dvk, tL_put, jtb, jol, dvl, dal, dst, jlk, jcmp, jbin, jfl, qL, jc2, qlL, jcat, jel, lv_args, Value.category, jins, jsrt, jins2, jble, jblt, jf3, List.filter_cons, List.filter_nil, Dlo, Dnr, DnL, Dfree, Droom, DuS_S, DuS_I, DuS_L, DuS_R, DuS_N, DuS_A, DuI_S, DuI_I, DuI_L, DuI_R, DuI_N, DuI_A, DuL_S, DuL_I, DuL_L, DuL_R, DuL_N, DuL_A, DuR_S, DuR_I, DuR_L, DuR_R, DuR_N, DuR_A, Dnw_S, Dnw_I, Dnw_L, Dnw_R, Dnw_N, Dnw_A, DrI_S, DrI_I, DrI_L, DrI_R, DrI_N, DrI_A, DrJ_S, DrJ_I, DrJ_L, DrJ_R, DrJ_N, DrJ_A, dm64, G_d, G_x0, oX11_feed, joRIIIII, -Int32.not_le, -Int32.not_lt, -Int64.not_le, -Int64.not_lt, i3lt, i6lt]
    try simp (disch := omega) [-Prod.forall, -Prod.exists, -Prod.mk.injEq, -Int32.not_le, -Int32.not_lt, -Int64.not_le, -Int64.not_lt, i3lt, i6lt]
    refine dr_callT (idx := 8) (mt' := mJ0_length_8abf5) (tl := []) (n' := k + 1) (mc := 0) (ms := 0) (as := []) hE hS.2.1 ⟨by omega, by show 8 + (1 + 11) + 64 * (k + 1) ≤ _; omega, by omega, by omega⟩ trivial (by decide +kernel) hL_8 WJ0_length_8abf5 rfl rfl rfl (by simp [Value.category]) (EJ0_length hE k f w [.ref q] σ hS.2.1) ?_
    rintro v τ ⟨rfl, rfl⟩
    show DW g z mL_put 6 _ [.int (nI w)] τ c0 s0
    refine dvk_ok (nC := n + 9) DL_put hTyA hR (VC := [(31, 6, 11, oX11_feed)]) (VD := []) (SD := []) (AL := []) (List.forall_mem_cons.mpr ⟨⟨mX11_feed, n + 1, 5, TX11, 9, rfl, by omega, hL_31, WX11_feed, rfl, CX11_feed g (n)⟩, (fun _ h => absurd h List.not_mem_nil)⟩) (fun _ h => absurd h List.not_mem_nil) (fun _ h => absurd h List.not_mem_nil) [12] 10 _ _ _ _ _ _ ?_
    simp (maxSteps := 1000000) [↓Bool.cond_eq_ite, -Prod.forall, -Prod.exists, -Prod.mk.injEq, ↓jc_eq_t, ↓jc_eq_f, ↓jc_ne_t, ↓jc_ne_f, ↓jc_lt_t, ↓jc_lt_f, ↓jc_ge_t, ↓jc_ge_f, ↓jc_gt_t, ↓jc_gt_f, ↓jc_le_t, ↓jc_le_f, dvk, tL_put, jtb, jol, dvl, dal, dst, jlk, jcmp, jbin, jfl, qL, jc2, qlL, jcat, jel, lv_args, Value.category, jins, jsrt, jins2, jble, jblt, jf3, List.filter_cons, List.filter_nil, Dlo, Dnr, DnL, Dfree, Droom, DuS_S, DuS_I, DuS_L, DuS_R, DuS_N, DuS_A, DuI_S, DuI_I, DuI_L, DuI_R, DuI_N, DuI_A, DuL_S, DuL_I, DuL_L, DuL_R, DuL_N, DuL_A, DuR_S, DuR_I, DuR_L, DuR_R, DuR_N, DuR_A, Dnw_S, Dnw_I, Dnw_L, Dnw_R, Dnw_N, Dnw_A, DrI_S, DrI_I, DrI_L, DrI_R, DrI_N, DrI_A, DrJ_S, DrJ_I, DrJ_L, DrJ_R, DrJ_N, DrJ_A, dm64, G_d, G_x0, oX11_feed, joRIIIII, -Int32.not_le, -Int32.not_lt, -Int64.not_le, -Int64.not_lt, i3lt, i6lt, e0]
    try simp (disch := omega) [-Prod.forall, -Prod.exists, -Prod.mk.injEq, -Int32.not_le, -Int32.not_lt, -Int64.not_le, -Int64.not_lt, i3lt, i6lt, e0]
    refine put_pad (k := k) hR hE ⟨by omega, by omega, by omega, by omega⟩ hkp hS (by omega) (fun τ1 t1 t2 => ?_)
    refine ih (w + 1) (tcat f w (stN 20)) 1702 τ1 (c0 + 6) (s0 + 2124) (by omega) (by omega) (by omega) ⟨by omega, by omega, by omega, by omega⟩ t2 (fun τ2 q' f' u1 u2 u3 u4 => ?_)
    refine DW.wide (c1 := c0 + 6 * (d + 1)) (s1 := s0 + 2124 * (d + 1)) (by omega) (by omega) (kk τ2 q' f' (t1.tr u1) (by rw [show w + (d + 1) = w + 1 + d by omega]; exact u2) (fun j hj => ?_) (fun j a b => ?_))
    · rw [u3 j (by omega)]
      unfold tcat
      rw [if_pos hj]
    · by_cases c : j = w
      · rw [u3 j (by omega), c]
        unfold tcat
        rw [if_neg (by omega), Nat.sub_self]
        exact stN_20
      · exact u4 j (by omega) (by omega)
/-- the letters' loop -/
theorem put_in {σ : dM} {c0 s0 q w b : Nat} {f c : Nat → Nat} (hR : dRok g z mL_put R) (hE : dEt g z.2.2.2.2) (hz : k + 6 ≤ z.1.frames ∧ 64 * (k + 6) ≤ z.1.locals ∧ c0 ≤ z.1.cells ∧ s0 ≤ z.1.slots) (hq : q = 1700 ∨ q = 1702) (ht : txt σ q f w) (hb : b + 20 ≤ w) (hc : ∀ t, c t < 128) (hcf : ∀ t, t < 20 → c t = f (b + t)) (hA : DA σ 1190 = true) (hN : DN σ 1190 = 5)
    (kk : DW g z mL_put 95 [(0, .ref 0), (1, .ref 1700), (2, .ref q), (3, .int (nI b)), (4, .ref 1190), (5, .int (nI 20))] [] (DrI σ 1190 (pkW c 20)) c0 s0) : ∀ (d i : Nat), i + d = 20 → DW g z mL_put 53 [(0, .ref 0), (1, .ref 1700), (2, .ref q), (3, .int (nI b)), (4, .ref 1190), (5, .int (nI i))] [] (DrI σ 1190 (pkW c i)) c0 s0 := by
  intro d
  have n := k
  have hw := ht.1
  induction d with
  | zero =>
    intro i hi
    obtain rfl : i = 20 := by omega
    refine dvk_ok (nC := n + 9) DL_put hTyA hR (VC := [(31, 6, 11, oX11_feed)]) (VD := []) (SD := []) (AL := []) (List.forall_mem_cons.mpr ⟨⟨mX11_feed, n + 1, 5, TX11, 9, rfl, by omega, hL_31, WX11_feed, rfl, CX11_feed g (n)⟩, (fun _ h => absurd h List.not_mem_nil)⟩) (fun _ h => absurd h List.not_mem_nil) (fun _ h => absurd h List.not_mem_nil) [95] 10 _ _ _ _ _ _ ?_
    simp (maxSteps := 1000000) [↓Bool.cond_eq_ite, -Prod.forall, -Prod.exists, -Prod.mk.injEq, ↓jc_eq_t, ↓jc_eq_f, ↓jc_ne_t, ↓jc_ne_f, ↓jc_lt_t, ↓jc_lt_f, ↓jc_ge_t, ↓jc_ge_f, ↓jc_gt_t, ↓jc_gt_f, ↓jc_le_t, ↓jc_le_f, dvk, tL_put, jtb, jol, dvl, dal, dst, jlk, jcmp, jbin, jfl, qL, jc2, qlL, jcat, jel, lv_args, Value.category, jins, jsrt, jins2, jble, jblt, jf3, List.filter_cons, List.filter_nil, Dlo, Dnr, DnL, Dfree, Droom, DuS_S, DuS_I, DuS_L, DuS_R, DuS_N, DuS_A, DuI_S, DuI_I, DuI_L, DuI_R, DuI_N, DuI_A, DuL_S, DuL_I, DuL_L, DuL_R, DuL_N, DuL_A, DuR_S, DuR_I, DuR_L, DuR_R, DuR_N, DuR_A, Dnw_S, Dnw_I, Dnw_L, Dnw_R, Dnw_N, Dnw_A, DrI_S, DrI_I, DrI_L, DrI_R, DrI_N, DrI_A, DrJ_S, DrJ_I, DrJ_L, DrJ_R, DrJ_N, DrJ_A, dm64, G_d, G_x0, oX11_feed, joRIIIII, -Int32.not_le, -Int32.not_lt, -Int64.not_le, -Int64.not_lt, i3lt, i6lt, nI_1]
    try simp (disch := omega) [-Prod.forall, -Prod.exists, -Prod.mk.injEq, -Int32.not_le, -Int32.not_lt, -Int64.not_le, -Int64.not_lt, i3lt, i6lt, nI_1, nI_clamp, nI_leI, nI_ltI, nI_eq, nI_m1, NL_0, NL_1, NL_2, NL_3, NL_5, NL_6, NL_9, NL_10, NL_11, NL_12, NL_20, NL_24, NL_25, NL_60, NL_64, NL_90, NL_100, NL_120, NL_900, NL_999, NL_9999, NL_99999, NL_1000000, NL_208, NL_2080, NL_10000]
    exact kk
  | succ d ih =>
    intro i hi
    have p1 : ¬ (20 : Int32) ≤ nI i := nI_ge (a := i) (b := 20) (by omega) (by omega)
    have e1 : nI i / 4 = nI (i / 4) := pk_div (a := i) (d := 4) (by omega) (by omega) (by omega)
    have e2 : (nI (i / 4)).toNatClampNeg = i / 4 := nI_clamp (by omega)
    have e3 : nI b + nI i = nI (b + i) := nI_add b i
    have e4 : nI i - nI (i / 4) * 4 = nI (i % 4) := by
      rw [← e1]
      exact pk_rem (a := i) (d := 4) (by omega) (by omega) (by omega)
    have e5 : 8 * nI (i % 4) = nI (8 * (i % 4)) := pk_mul 8 (i % 4)
    have e6 : 24 - nI (8 * (i % 4)) = nI (24 - 8 * (i % 4)) := pk_sub (a := 24) (b := 8 * (i % 4)) (by omega)
    have e7 : nI i + 1 = nI (i + 1) := nI_add i 1
    have j5 : jin (nI (i / 4)) 5 := jin_nI (by omega) (by omega)
    obtain ⟨ε, eε⟩ : ∃ ε, ε = DrI σ 1190 (pkW c i) := ⟨_, rfl⟩
    have hA9 : DA ε 1190 = true := by rw [eε]; exact hA
    have hN9 : DN ε 1190 = 5 := by rw [eε]; exact hN
    have hI9 : DI ε 1190 (i / 4) = pkW c i (i / 4) := by rw [eε, DrI_I, if_pos rfl]
    have g9 : darr 1190 1 0 = true := by decide +kernel
    have tf : tfr (fun k => k ≠ 1190) σ ε := by
      rw [eε]
      exact ⟨rfl, fun k hk => ⟨rfl, fun _ _ _ => ⟨funext fun j => by rw [DrI_I, if_neg hk], rfl, rfl, rfl⟩⟩⟩
    have t9 : txt ε q f w := txt_fr (P := fun k => k ≠ 1190) (by omega) tf ht
    rw [← eε]
    refine dvk_ok (nC := n + 9) DL_put hTyA hR (VC := [(31, 6, 11, oX11_feed)]) (VD := []) (SD := []) (AL := []) (List.forall_mem_cons.mpr ⟨⟨mX11_feed, n + 1, 5, TX11, 9, rfl, by omega, hL_31, WX11_feed, rfl, CX11_feed g (n)⟩, (fun _ h => absurd h List.not_mem_nil)⟩) (fun _ h => absurd h List.not_mem_nil) (fun _ h => absurd h List.not_mem_nil) [73] 20 _ _ _ _ _ _ ?_
    simp (maxSteps := 1000000) [↓Bool.cond_eq_ite, -Prod.forall, -Prod.exists, -Prod.mk.injEq, ↓jc_eq_t, ↓jc_eq_f, ↓jc_ne_t, ↓jc_ne_f, ↓jc_lt_t, ↓jc_lt_f, ↓jc_ge_t, ↓jc_ge_f, ↓jc_gt_t, ↓jc_gt_f, ↓jc_le_t, ↓jc_le_f, dvk, tL_put, jtb, jol, dvl, dal, dst, jlk, jcmp, jbin, jfl, qL, jc2, qlL, jcat, jel, lv_args, Value.category, jins, jsrt, jins2, jble, jblt, jf3, List.filter_cons, List.filter_nil, Dlo, Dnr, DnL, Dfree, Droom, DuS_S, DuS_I, DuS_L, DuS_R, DuS_N, DuS_A, DuI_S, DuI_I, DuI_L, DuI_R, DuI_N, DuI_A, DuL_S, DuL_I, DuL_L, DuL_R, DuL_N, DuL_A, DuR_S, DuR_I, DuR_L, DuR_R, DuR_N, DuR_A, Dnw_S, Dnw_I, Dnw_L, Dnw_R, Dnw_N, Dnw_A, DrI_S, DrI_I, DrI_L, DrI_R, DrI_N, DrI_A, DrJ_S, DrJ_I, DrJ_L, DrJ_R, DrJ_N, DrJ_A, dm64, G_d, G_x0, oX11_feed, joRIIIII, -Int32.not_le, -Int32.not_lt, -Int64.not_le, -Int64.not_lt, i3lt, i6lt, p1, e1, e2, e3, hA9, hN9, hI9, g9, j5]
    try simp (disch := omega) [-Prod.forall, -Prod.exists, -Prod.mk.injEq, -Int32.not_le, -Int32.not_lt, -Int64.not_le, -Int64.not_lt, i3lt, i6lt, p1, e1, e2, e3, hA9, hN9, hI9, g9, j5]
    have hc9 := EJ0_charAt (g := g) (h0 := z.2.2.2.2) hE k f w (b + i) [.ref q, .int (nI (b + i))] ε ⟨hq, t9, rfl, by omega⟩
    refine dr_callT (idx := 27) (mt' := mJ0_charAt_5068e) (tl := []) (n' := k + 3) (mc := 0) (ms := 0) (as := [.int (nI (b + i))]) hE t9 ⟨by omega, by show 8 + (2 + 11) + 64 * (k + 3) ≤ _; omega, by omega, by omega⟩ trivial (by decide +kernel) hL_27 WJ0_charAt_5068e rfl rfl rfl (by simp [Value.category]) hc9 ?_
    rintro v τ ⟨rfl, rfl⟩
    rw [← hcf i (by omega)]
    show DW g z mL_put 76 _ [.int (nI (c i)), .int (pkW c i (i / 4)), .int (nI (i / 4)), .ref 1190] τ c0 s0
    refine dvk_ok (nC := n + 9) DL_put hTyA hR (VC := [(31, 6, 11, oX11_feed)]) (VD := []) (SD := []) (AL := []) (List.forall_mem_cons.mpr ⟨⟨mX11_feed, n + 1, 5, TX11, 9, rfl, by omega, hL_31, WX11_feed, rfl, CX11_feed g (n)⟩, (fun _ h => absurd h List.not_mem_nil)⟩) (fun _ h => absurd h List.not_mem_nil) (fun _ h => absurd h List.not_mem_nil) [53] 20 _ _ _ _ _ _ ?_
    simp (maxSteps := 1000000) [↓Bool.cond_eq_ite, -Prod.forall, -Prod.exists, -Prod.mk.injEq, ↓jc_eq_t, ↓jc_eq_f, ↓jc_ne_t, ↓jc_ne_f, ↓jc_lt_t, ↓jc_lt_f, ↓jc_ge_t, ↓jc_ge_f, ↓jc_gt_t, ↓jc_gt_f, ↓jc_le_t, ↓jc_le_f, dvk, tL_put, jtb, jol, dvl, dal, dst, jlk, jcmp, jbin, jfl, qL, jc2, qlL, jcat, jel, lv_args, Value.category, jins, jsrt, jins2, jble, jblt, jf3, List.filter_cons, List.filter_nil, Dlo, Dnr, DnL, Dfree, Droom, DuS_S, DuS_I, DuS_L, DuS_R, DuS_N, DuS_A, DuI_S, DuI_I, DuI_L, DuI_R, DuI_N, DuI_A, DuL_S, DuL_I, DuL_L, DuL_R, DuL_N, DuL_A, DuR_S, DuR_I, DuR_L, DuR_R, DuR_N, DuR_A, Dnw_S, Dnw_I, Dnw_L, Dnw_R, Dnw_N, Dnw_A, DrI_S, DrI_I, DrI_L, DrI_R, DrI_N, DrI_A, DrJ_S, DrJ_I, DrJ_L, DrJ_R, DrJ_N, DrJ_A, dm64, G_d, G_x0, oX11_feed, joRIIIII, -Int32.not_le, -Int32.not_lt, -Int64.not_le, -Int64.not_lt, i3lt, i6lt, e1, e2, e4, e5, e6, e7, hA9, hN9, g9, j5]
    try simp (disch := omega) [-Prod.forall, -Prod.exists, -Prod.mk.injEq, -Int32.not_le, -Int32.not_lt, -Int64.not_le, -Int64.not_lt, i3lt, i6lt, e1, e2, e4, e5, e6, e7, hA9, hN9, g9, j5]
    have fin := ih (i + 1) (by omega)
    rw [← pkW_s hc] at fin
    rw [eε, DuI_rI]
    exact fin
end EMK
