/-! the law's put, whole -/
/-- the cells outside the class stay -/
def tf2 (P : Nat → Prop) (σ τ : dM) : Prop := ∀ k, P k → DA τ k = DA σ k ∧ (1000 ≤ k → k < 2100 → DA σ k = true → DI τ k = DI σ k ∧ DL τ k = DL σ k ∧ DR τ k = DR σ k ∧ DN τ k = DN σ k)
theorem tf2.tr {P : Nat → Prop} {σ τ υ : dM} (a : tf2 P σ τ) (b : tf2 P τ υ) : tf2 P σ υ := fun k hk => ⟨(b k hk).1.trans (a k hk).1, fun h1 h2 h3 => by
  obtain ⟨a1, a2, a3, a4⟩ := (a k hk).2 h1 h2 h3
  obtain ⟨b1, b2, b3, b4⟩ := (b k hk).2 h1 h2 (by rw [(a k hk).1]; exact h3)
  exact ⟨b1.trans a1, b2.trans a2, b3.trans a3, b4.trans a4⟩⟩
theorem tf2.rfl {P : Nat → Prop} {σ : dM} : tf2 P σ σ := fun _ _ => ⟨Eq.refl _, fun _ _ _ => ⟨Eq.refl _, Eq.refl _, Eq.refl _, Eq.refl _⟩⟩
theorem tf2_S {P : Nat → Prop} {σ : dM} {s : jM} : tf2 P σ (DuS σ s) := fun _ _ => ⟨Eq.refl _, fun _ _ _ => ⟨Eq.refl _, Eq.refl _, Eq.refl _, Eq.refl _⟩⟩
theorem tf2.tfr {P : Nat → Prop} {σ τ : dM} (h : tf2 P σ τ) : tfr P (DuS σ (DS τ)) τ := ⟨Eq.refl _, h⟩
/-- no cell refers to the five numbers -/
def nr9 (σ : dM) : Prop := ∀ k j, 1000 ≤ k → k < 2100 → DA σ k = true → DR σ k j ≠ some 1190
section EML
variable {g : jG} {z : dZ} {k : Nat} {R : Option Value → dM → Nat → Nat → Prop}
theorem xFd_e {s : jM} {n : Nat} {f f' : Nat → Nat} (h : xFd s n f) (e : ∀ j, j < n → f' j = f j) : xFd s n f' := ⟨h.1, h.2.1, fun j hj => by rw [e j hj]; exact h.2.2 j hj⟩
theorem put_ch {w T q : Nat} {f : Nat → Nat} (hR : dRok g z mL_put R) (hE : dEt g z.2.2.2.2) (hkp : z.2.2.1 1190 = false) (hq : q = 1700 ∨ q = 1702) (hw : w = 20 * T) (hf : ∀ j, f j < 128) : ∀ (d t : Nat) (σ : dM) (c0 s0 : Nat), t + d = T → (k + 6 ≤ z.1.frames ∧ 64 * (k + 6) ≤ z.1.locals ∧ c0 + d ≤ z.1.cells ∧ s0 + 5 * d ≤ z.1.slots) → txt σ q f w → DA σ 1190 = false → nr9 σ → xFd (DS σ) (20 * t) f →
    (∀ τ, tf2 (fun k => k ≠ 1190) σ τ → DA τ 1190 = false → xFd (DS τ) w f → DW g z mL_put 126 [(0, .ref 0), (1, .ref 1700), (2, .ref q), (3, .int (nI w))] [] τ (c0 + d) (s0 + 5 * d)) → DW g z mL_put 37 [(0, .ref 0), (1, .ref 1700), (2, .ref q), (3, .int (nI (20 * t)))] [] σ c0 s0 := by
  intro d
  have n := k
  induction d with
  | zero =>
    intro t σ c0 s0 h1 hz ht hA hnr hx kk
    have hw9 := ht.1
    obtain rfl : t = T := by omega
    have p1 : nI w ≤ nI (20 * t) := nI_le (by omega) (by omega)
    refine dvk_ok (nC := n + 9) DL_put hTyA hR (VC := [(31, 6, 11, oX11_feed)]) (VD := []) (SD := []) (AL := []) (List.forall_mem_cons.mpr ⟨⟨mX11_feed, n + 1, 5, TX11, 9, rfl, by omega, hL_31, WX11_feed, rfl, CX11_feed g (n)⟩, (fun _ h => absurd h List.not_mem_nil)⟩) (fun _ h => absurd h List.not_mem_nil) (fun _ h => absurd h List.not_mem_nil) [39] 10 _ _ _ _ _ _ ?_
    simp (maxSteps := 1000000) [↓Bool.cond_eq_ite, -Prod.forall, -Prod.exists, -Prod.mk.injEq, ↓jc_eq_t, ↓jc_eq_f, ↓jc_ne_t, ↓jc_ne_f, ↓jc_lt_t, ↓jc_lt_f, ↓jc_ge_t, ↓jc_ge_f, ↓jc_gt_t, ↓jc_gt_f, ↓jc_le_t, ↓jc_le_f, dvk, tL_put, jtb, jol, dvl, dal, dst, jlk, jcmp, jbin, jfl, qL, jc2, qlL, jcat, jel, lv_args, Value.category, jins, jsrt, jins2, jble, jblt, jf3, List.filter_cons, List.filter_nil, Dlo, Dnr, DnL, Dfree, Droom, DuS_S, DuS_I, DuS_L, DuS_R, DuS_N, DuS_A, DuI_S, DuI_I, DuI_L, DuI_R, DuI_N, DuI_A, DuL_S, DuL_I, DuL_L, DuL_R, DuL_N, DuL_A, DuR_S, DuR_I, DuR_L, DuR_R, DuR_N, DuR_A, Dnw_S, Dnw_I, Dnw_L, Dnw_R, Dnw_N, Dnw_A, DrI_S, DrI_I, DrI_L, DrI_R, DrI_N, DrI_A, DrJ_S, DrJ_I, DrJ_L, DrJ_R, DrJ_N, DrJ_A, dm64, G_d, G_x0, oX11_feed, joRIIIII, -Int32.not_le, -Int32.not_lt, -Int64.not_le, -Int64.not_lt, i3lt, i6lt]
    try simp (disch := omega) [-Prod.forall, -Prod.exists, -Prod.mk.injEq, -Int32.not_le, -Int32.not_lt, -Int64.not_le, -Int64.not_lt, i3lt, i6lt]
    refine dr_callT (idx := 8) (mt' := mJ0_length_8abf5) (tl := []) (n' := k + 1) (mc := 0) (ms := 0) (as := []) hE ht ⟨by omega, by show 8 + (1 + 11) + 64 * (k + 1) ≤ _; omega, by omega, by omega⟩ trivial (by decide +kernel) hL_8 WJ0_length_8abf5 rfl rfl rfl (by simp [Value.category]) (EJ0_length hE k f w [.ref q] σ ht) ?_
    rintro v τ ⟨rfl, rfl⟩
    show DW g z mL_put 42 _ [.int (nI w), .int (nI (20 * t))] τ c0 s0
    refine dvk_ok (nC := n + 9) DL_put hTyA hR (VC := [(31, 6, 11, oX11_feed)]) (VD := []) (SD := []) (AL := []) (List.forall_mem_cons.mpr ⟨⟨mX11_feed, n + 1, 5, TX11, 9, rfl, by omega, hL_31, WX11_feed, rfl, CX11_feed g (n)⟩, (fun _ h => absurd h List.not_mem_nil)⟩) (fun _ h => absurd h List.not_mem_nil) (fun _ h => absurd h List.not_mem_nil) [126] 10 _ _ _ _ _ _ ?_
    simp (maxSteps := 1000000) [↓Bool.cond_eq_ite, -Prod.forall, -Prod.exists, -Prod.mk.injEq, ↓jc_eq_t, ↓jc_eq_f, ↓jc_ne_t, ↓jc_ne_f, ↓jc_lt_t, ↓jc_lt_f, ↓jc_ge_t, ↓jc_ge_f, ↓jc_gt_t, ↓jc_gt_f, ↓jc_le_t, ↓jc_le_f, dvk, tL_put, jtb, jol, dvl, dal, dst, jlk, jcmp, jbin, jfl, qL, jc2, qlL, jcat, jel, lv_args, Value.category, jins, jsrt, jins2, jble, jblt, jf3, List.filter_cons, List.filter_nil, Dlo, Dnr, DnL, Dfree, Droom, DuS_S, DuS_I, DuS_L, DuS_R, DuS_N, DuS_A, DuI_S, DuI_I, DuI_L, DuI_R, DuI_N, DuI_A, DuL_S, DuL_I, DuL_L, DuL_R, DuL_N, DuL_A, DuR_S, DuR_I, DuR_L, DuR_R, DuR_N, DuR_A, Dnw_S, Dnw_I, Dnw_L, Dnw_R, Dnw_N, Dnw_A, DrI_S, DrI_I, DrI_L, DrI_R, DrI_N, DrI_A, DrJ_S, DrJ_I, DrJ_L, DrJ_R, DrJ_N, DrJ_A, dm64, G_d, G_x0, oX11_feed, joRIIIII, -Int32.not_le, -Int32.not_lt, -Int64.not_le, -Int64.not_lt, i3lt, i6lt, p1]
    try simp (disch := omega) [-Prod.forall, -Prod.exists, -Prod.mk.injEq, -Int32.not_le, -Int32.not_lt, -Int64.not_le, -Int64.not_lt, i3lt, i6lt, p1]
    rw [← hw]
    exact kk τ tf2.rfl hA (by rw [hw]; exact hx)
  | succ d ih =>
    intro t σ c0 s0 h1 hz ht hA hnr hx kk
    have hw9 := ht.1
    have p1 : ¬ nI w ≤ nI (20 * t) := nI_ge (by omega) (by omega)
    have e5 : (5 : Int32).toNatClampNeg = 5 := by decide
    have g9 : darr 1190 1 0 = true := by decide +kernel
    refine dvk_ok (nC := n + 9) DL_put hTyA hR (VC := [(31, 6, 11, oX11_feed)]) (VD := []) (SD := []) (AL := []) (List.forall_mem_cons.mpr ⟨⟨mX11_feed, n + 1, 5, TX11, 9, rfl, by omega, hL_31, WX11_feed, rfl, CX11_feed g (n)⟩, (fun _ h => absurd h List.not_mem_nil)⟩) (fun _ h => absurd h List.not_mem_nil) (fun _ h => absurd h List.not_mem_nil) [39] 10 _ _ _ _ _ _ ?_
    simp (maxSteps := 1000000) [↓Bool.cond_eq_ite, -Prod.forall, -Prod.exists, -Prod.mk.injEq, ↓jc_eq_t, ↓jc_eq_f, ↓jc_ne_t, ↓jc_ne_f, ↓jc_lt_t, ↓jc_lt_f, ↓jc_ge_t, ↓jc_ge_f, ↓jc_gt_t, ↓jc_gt_f, ↓jc_le_t, ↓jc_le_f, dvk, tL_put, jtb, jol, dvl, dal, dst, jlk, jcmp, jbin, jfl, qL, jc2, qlL, jcat, jel, lv_args, Value.category, jins, jsrt, jins2, jble, jblt, jf3, List.filter_cons, List.filter_nil, Dlo, Dnr, DnL, Dfree, Droom, DuS_S, DuS_I, DuS_L, DuS_R, DuS_N, DuS_A, DuI_S, DuI_I, DuI_L, DuI_R, DuI_N, DuI_A, DuL_S, DuL_I, DuL_L, DuL_R, DuL_N, DuL_A, DuR_S, DuR_I, DuR_L, DuR_R, DuR_N, DuR_A, Dnw_S, Dnw_I, Dnw_L, Dnw_R, Dnw_N, Dnw_A, DrI_S, DrI_I, DrI_L, DrI_R, DrI_N, DrI_A, DrJ_S, DrJ_I, DrJ_L, DrJ_R, DrJ_N, DrJ_A, dm64, G_d, G_x0, oX11_feed, joRIIIII, -Int32.not_le, -Int32.not_lt, -Int64.not_le, -Int64.not_lt, i3lt, i6lt]
    try simp (disch := omega) [-Prod.forall, -Prod.exists, -Prod.mk.injEq, -Int32.not_le, -Int32.not_lt, -Int64.not_le, -Int64.not_lt, i3lt, i6lt]
    refine dr_callT (idx := 8) (mt' := mJ0_length_8abf5) (tl := []) (n' := k + 1) (mc := 0) (ms := 0) (as := []) hE ht ⟨by omega, by show 8 + (1 + 11) + 64 * (k + 1) ≤ _; omega, by omega, by omega⟩ trivial (by decide +kernel) hL_8 WJ0_length_8abf5 rfl rfl rfl (by simp [Value.category]) (EJ0_length hE k f w [.ref q] σ ht) ?_
    rintro v τ ⟨rfl, rfl⟩
    show DW g z mL_put 42 _ [.int (nI w), .int (nI (20 * t))] τ c0 s0
    refine dvk_ok (nC := n + 9) DL_put hTyA hR (VC := [(31, 6, 11, oX11_feed)]) (VD := []) (SD := []) (AL := []) (List.forall_mem_cons.mpr ⟨⟨mX11_feed, n + 1, 5, TX11, 9, rfl, by omega, hL_31, WX11_feed, rfl, CX11_feed g (n)⟩, (fun _ h => absurd h List.not_mem_nil)⟩) (fun _ h => absurd h List.not_mem_nil) (fun _ h => absurd h List.not_mem_nil) [46] 10 _ _ _ _ _ _ ?_
    simp (maxSteps := 1000000) [↓Bool.cond_eq_ite, -Prod.forall, -Prod.exists, -Prod.mk.injEq, ↓jc_eq_t, ↓jc_eq_f, ↓jc_ne_t, ↓jc_ne_f, ↓jc_lt_t, ↓jc_lt_f, ↓jc_ge_t, ↓jc_ge_f, ↓jc_gt_t, ↓jc_gt_f, ↓jc_le_t, ↓jc_le_f, dvk, tL_put, jtb, jol, dvl, dal, dst, jlk, jcmp, jbin, jfl, qL, jc2, qlL, jcat, jel, lv_args, Value.category, jins, jsrt, jins2, jble, jblt, jf3, List.filter_cons, List.filter_nil, Dlo, Dnr, DnL, Dfree, Droom, DuS_S, DuS_I, DuS_L, DuS_R, DuS_N, DuS_A, DuI_S, DuI_I, DuI_L, DuI_R, DuI_N, DuI_A, DuL_S, DuL_I, DuL_L, DuL_R, DuL_N, DuL_A, DuR_S, DuR_I, DuR_L, DuR_R, DuR_N, DuR_A, Dnw_S, Dnw_I, Dnw_L, Dnw_R, Dnw_N, Dnw_A, DrI_S, DrI_I, DrI_L, DrI_R, DrI_N, DrI_A, DrJ_S, DrJ_I, DrJ_L, DrJ_R, DrJ_N, DrJ_A, dm64, G_d, G_x0, oX11_feed, joRIIIII, -Int32.not_le, -Int32.not_lt, -Int64.not_le, -Int64.not_lt, i3lt, i6lt, p1]
    try simp (disch := omega) [-Prod.forall, -Prod.exists, -Prod.mk.injEq, -Int32.not_le, -Int32.not_lt, -Int64.not_le, -Int64.not_lt, i3lt, i6lt, p1]
    refine dr_newI (atype := .int) (ti := 0) (a := 1190) g9 (by decide) rfl rfl (show Cond.arrayClass .int ∈ jGw from jGw_of 438 (by decide +kernel) (by decide +kernel)) hA hkp (by decide) (by decide) (by omega) (by rw [e5]; omega) (by rcases hq with rfl | rfl <;> simp [DnL]) (by simp [Dnr]) (by decide +kernel) ?_
    rw [e5]
    refine dvk_ok (nC := n + 9) DL_put hTyA hR (VC := [(31, 6, 11, oX11_feed)]) (VD := []) (SD := []) (AL := []) (List.forall_mem_cons.mpr ⟨⟨mX11_feed, n + 1, 5, TX11, 9, rfl, by omega, hL_31, WX11_feed, rfl, CX11_feed g (n)⟩, (fun _ h => absurd h List.not_mem_nil)⟩) (fun _ h => absurd h List.not_mem_nil) (fun _ h => absurd h List.not_mem_nil) [53] 10 _ _ _ _ _ _ ?_
    simp (maxSteps := 1000000) [↓Bool.cond_eq_ite, -Prod.forall, -Prod.exists, -Prod.mk.injEq, ↓jc_eq_t, ↓jc_eq_f, ↓jc_ne_t, ↓jc_ne_f, ↓jc_lt_t, ↓jc_lt_f, ↓jc_ge_t, ↓jc_ge_f, ↓jc_gt_t, ↓jc_gt_f, ↓jc_le_t, ↓jc_le_f, dvk, tL_put, jtb, jol, dvl, dal, dst, jlk, jcmp, jbin, jfl, qL, jc2, qlL, jcat, jel, lv_args, Value.category, jins, jsrt, jins2, jble, jblt, jf3, List.filter_cons, List.filter_nil, Dlo, Dnr, DnL, Dfree, Droom, DuS_S, DuS_I, DuS_L, DuS_R, DuS_N, DuS_A, DuI_S, DuI_I, DuI_L, DuI_R, DuI_N, DuI_A, DuL_S, DuL_I, DuL_L, DuL_R, DuL_N, DuL_A, DuR_S, DuR_I, DuR_L, DuR_R, DuR_N, DuR_A, Dnw_S, Dnw_I, Dnw_L, Dnw_R, Dnw_N, Dnw_A, DrI_S, DrI_I, DrI_L, DrI_R, DrI_N, DrI_A, DrJ_S, DrJ_I, DrJ_L, DrJ_R, DrJ_N, DrJ_A, dm64, G_d, G_x0, oX11_feed, joRIIIII, -Int32.not_le, -Int32.not_lt, -Int64.not_le, -Int64.not_lt, i3lt, i6lt]
    try simp (disch := omega) [-Prod.forall, -Prod.exists, -Prod.mk.injEq, -Int32.not_le, -Int32.not_lt, -Int64.not_le, -Int64.not_lt, i3lt, i6lt]
    have hc : ∀ i, (fun i => f (20 * t + i)) i < 128 := fun i => hf _
    have eN : DrI (Dnw τ 1190 5) 1190 (pkW (fun i => f (20 * t + i)) 0) = Dnw τ 1190 5 := by
      rw [pkW_0]
      exact DrI_eq (fun j => by rw [Dnw_I, if_pos rfl])
    have tN : txt (Dnw τ 1190 5) q f w := txt_fr (P := fun k => k ≠ 1190) (by omega) (tfr_fr Dfr_nw) ht
    have L0 := put_in (k := k) (σ := Dnw τ 1190 5) (c0 := c0 + 1) (s0 := s0 + 5) (b := 20 * t) (c := fun i => f (20 * t + i)) hR hE ⟨by omega, by omega, by omega, by omega⟩ hq tN (by omega) hc (fun _ _ => rfl) (by rw [Dnw_A, if_pos rfl]) (by rw [Dnw_N, if_pos rfl]) ?_ 20 0 rfl
    · rw [eN] at L0
      exact L0
    obtain ⟨ε, eε⟩ : ∃ ε, ε = DrI (Dnw τ 1190 5) 1190 (pkW (fun i => f (20 * t + i)) 20) := ⟨_, rfl⟩
    have hA9 : DA ε 1190 = true := by rw [eε, DrI_A, Dnw_A, if_pos rfl]
    have hN9 : DN ε 1190 = 5 := by rw [eε, DrI_N, Dnw_N, if_pos rfl]
    obtain ⟨F, eF⟩ : ∃ F, F = pkW (fun i => f (20 * t + i)) 20 := ⟨_, rfl⟩
    have hI9 : ∀ m, DI ε 1190 m = F m := fun m => by rw [eε, DrI_I, if_pos rfl, eF]
    have hS9 : DS ε = DS τ := by rw [eε]; rfl
    rw [← eε]
    have j0 : jin (0 : Int32) 5 ∧ jin (1 : Int32) 5 ∧ jin (2 : Int32) 5 ∧ jin (3 : Int32) 5 ∧ jin (4 : Int32) 5 := by unfold jin; decide
    have k0 : (0 : Int32).toNatClampNeg = 0 ∧ (1 : Int32).toNatClampNeg = 1 ∧ (2 : Int32).toNatClampNeg = 2 ∧ (3 : Int32).toNatClampNeg = 3 ∧ (4 : Int32).toNatClampNeg = 4 := by decide
    refine dvk_ok (nC := n + 9) DL_put hTyA hR (VC := [(31, 6, 11, oX11_feed)]) (VD := []) (SD := []) (AL := []) (List.forall_mem_cons.mpr ⟨⟨mX11_feed, n + 1, 5, TX11, 9, rfl, by omega, hL_31, WX11_feed, rfl, CX11_feed g (n)⟩, (fun _ h => absurd h List.not_mem_nil)⟩) (fun _ h => absurd h List.not_mem_nil) (fun _ h => absurd h List.not_mem_nil) [116] 30 _ _ _ _ _ _ ?_
    simp (maxSteps := 1000000) [↓Bool.cond_eq_ite, -Prod.forall, -Prod.exists, -Prod.mk.injEq, ↓jc_eq_t, ↓jc_eq_f, ↓jc_ne_t, ↓jc_ne_f, ↓jc_lt_t, ↓jc_lt_f, ↓jc_ge_t, ↓jc_ge_f, ↓jc_gt_t, ↓jc_gt_f, ↓jc_le_t, ↓jc_le_f, dvk, tL_put, jtb, jol, dvl, dal, dst, jlk, jcmp, jbin, jfl, qL, jc2, qlL, jcat, jel, lv_args, Value.category, jins, jsrt, jins2, jble, jblt, jf3, List.filter_cons, List.filter_nil, Dlo, Dnr, DnL, Dfree, Droom, DuS_S, DuS_I, DuS_L, DuS_R, DuS_N, DuS_A, DuI_S, DuI_I, DuI_L, DuI_R, DuI_N, DuI_A, DuL_S, DuL_I, DuL_L, DuL_R, DuL_N, DuL_A, DuR_S, DuR_I, DuR_L, DuR_R, DuR_N, DuR_A, Dnw_S, Dnw_I, Dnw_L, Dnw_R, Dnw_N, Dnw_A, DrI_S, DrI_I, DrI_L, DrI_R, DrI_N, DrI_A, DrJ_S, DrJ_I, DrJ_L, DrJ_R, DrJ_N, DrJ_A, dm64, G_d, G_x0, oX11_feed, joRIIIII, -Int32.not_le, -Int32.not_lt, -Int64.not_le, -Int64.not_lt, i3lt, i6lt, hA9, hN9, hI9, g9, j0, k0]
    try simp (disch := omega) [-Prod.forall, -Prod.exists, -Prod.mk.injEq, -Int32.not_le, -Int32.not_lt, -Int64.not_le, -Int64.not_lt, i3lt, i6lt, hA9, hN9, hI9, g9, j0, k0]
    have hx9 : xFd (DS ε) (20 * t) f := by rw [hS9]; exact hx
    refine dr_callC (idx := 31) (mt' := mX11_feed) (n' := k + 1) (ci := 11) (T := TX11) (N := 9) (a := 0) (as := [.int (F 0), .int (F 1), .int (F 2), .int (F 3), .int (F 4)]) (r := []) ⟨by omega, by show 8 + (7 + 11) + 64 * (k + 1) ≤ _; omega, by omega, by omega⟩ (by decide +kernel) hL_31 WX11_feed rfl (by decide +kernel) rfl rfl (by simp) rfl (QX11_feed g k (20 * t) f (fun i => f (20 * t + i)) [.ref 0, .int (F 0), .int (F 1), .int (F 2), .int (F 3), .int (F 4)] (DS ε) ⟨rfl, by rw [eF]; exact ⟨rfl, rfl, rfl, rfl, rfl⟩, by omega, hc, fun _ _ => rfl, hx9⟩) ?_
    rintro v υ ⟨⟨x, rfl⟩, s1, u1, u2⟩
    refine ⟨rfl, ?_⟩
    show DW g z mL_put 119 _ [.int x] (DuS ε υ) (c0 + 1) (s0 + 5)
    refine DW.gh u1 ?_
    have e20 : nI (20 * t) + 20 = nI (20 * (t + 1)) := (nI_add (20 * t) 20).trans (by rw [show 20 * t + 20 = 20 * (t + 1) by omega])
    refine dvk_ok (nC := n + 9) DL_put hTyA hR (VC := [(31, 6, 11, oX11_feed)]) (VD := []) (SD := []) (AL := []) (List.forall_mem_cons.mpr ⟨⟨mX11_feed, n + 1, 5, TX11, 9, rfl, by omega, hL_31, WX11_feed, rfl, CX11_feed g (n)⟩, (fun _ h => absurd h List.not_mem_nil)⟩) (fun _ h => absurd h List.not_mem_nil) (fun _ h => absurd h List.not_mem_nil) [37] 10 _ _ _ _ _ _ ?_
    simp (maxSteps := 1000000) [↓Bool.cond_eq_ite, -Prod.forall, -Prod.exists, -Prod.mk.injEq, ↓jc_eq_t, ↓jc_eq_f, ↓jc_ne_t, ↓jc_ne_f, ↓jc_lt_t, ↓jc_lt_f, ↓jc_ge_t, ↓jc_ge_f, ↓jc_gt_t, ↓jc_gt_f, ↓jc_le_t, ↓jc_le_f, dvk, tL_put, jtb, jol, dvl, dal, dst, jlk, jcmp, jbin, jfl, qL, jc2, qlL, jcat, jel, lv_args, Value.category, jins, jsrt, jins2, jble, jblt, jf3, List.filter_cons, List.filter_nil, Dlo, Dnr, DnL, Dfree, Droom, DuS_S, DuS_I, DuS_L, DuS_R, DuS_N, DuS_A, DuI_S, DuI_I, DuI_L, DuI_R, DuI_N, DuI_A, DuL_S, DuL_I, DuL_L, DuL_R, DuL_N, DuL_A, DuR_S, DuR_I, DuR_L, DuR_R, DuR_N, DuR_A, Dnw_S, Dnw_I, Dnw_L, Dnw_R, Dnw_N, Dnw_A, DrI_S, DrI_I, DrI_L, DrI_R, DrI_N, DrI_A, DrJ_S, DrJ_I, DrJ_L, DrJ_R, DrJ_N, DrJ_A, dm64, G_d, G_x0, oX11_feed, joRIIIII, -Int32.not_le, -Int32.not_lt, -Int64.not_le, -Int64.not_lt, i3lt, i6lt, e20]
    try simp (disch := omega) [-Prod.forall, -Prod.exists, -Prod.mk.injEq, -Int32.not_le, -Int32.not_lt, -Int64.not_le, -Int64.not_lt, i3lt, i6lt, e20]
    refine DW.cl (fun hcl => ?_)
    have eA : ∀ i, DA ε i = if i = 1190 then true else DA τ i := fun i => by rw [eε, DrI_A, Dnw_A]
    have eR : ∀ i j, DR ε i j = if i = 1190 then none else DR τ i j := fun i j => by rw [eε, DrI_R, Dnw_R]
    have t2 : tf2 (fun k => k ≠ 1190) τ (Ddp (DuS ε s1) (fun k => k == 1190)) := fun i hi => ⟨by
      rw [Ddp_A, DuS_A, eA, if_neg hi, show (i == 1190) = false from beq_eq_false_iff_ne.mpr hi, Bool.not_false, Bool.and_true], fun _ _ _ => ⟨funext fun j => by rw [Ddp_I, DuS_I, eε, DrI_I, if_neg hi, Dnw_I, if_neg hi], funext fun j => by rw [Ddp_L, DuS_L, eε, DrI_L, Dnw_L, if_neg hi], funext fun j => by rw [Ddp_R, DuS_R, eR, if_neg hi], by rw [Ddp_N, DuS_N, eε, DrI_N, Dnw_N, if_neg hi]⟩⟩
    have tX : txt (Ddp (DuS ε s1) (fun k => k == 1190)) q f w := txt_fr (P := fun k => k ≠ 1190) (by omega) t2.tfr ht
    refine DW.sub (Ddp_sub (p := fun k => k == 1190) hcl (fun x j q9 x1 x2 x3 x4 e q1 => ?_)) ?_
    · rw [DuS_R, eR] at e
      rw [DuS_A, eA] at x3
      rw [beq_eq_false_iff_ne] at x4 ⊢
      rw [if_neg x4] at e x3
      rintro rfl
      exact hnr x j x1 x2 x3 e
    · refine DW.mono (L' := [(0, .ref 0), (1, .ref 1700), (2, .ref q), (3, .int (nI (20 * (t + 1))))]) ?_ (by simp)
      refine ih (t + 1) _ (c0 + 1) (s0 + 5) (by omega) ⟨by omega, by omega, by omega, by omega⟩ tX (by rw [Ddp_A]; simp) (fun i j i1 i2 i3 e => ?_) (by rw [show 20 * (t + 1) = 20 * t + 20 by omega]; exact u2) (fun τ9 v1 v2 v3 => ?_)
      · obtain ⟨i4, i5⟩ := Ddp_AT i3
        rw [beq_eq_false_iff_ne] at i5
        rw [DuS_A, eA, if_neg i5] at i4
        rw [Ddp_R, DuS_R, eR, if_neg i5] at e
        exact hnr i j i1 i2 i4 e
      · exact DW.wide (c1 := c0 + (d + 1)) (s1 := s0 + 5 * (d + 1)) (by omega) (by omega) (kk τ9 (t2.tr v1) v2 v3)
theorem nr9_of {σ : dM} (hcl : Dcl0 σ) (hA : DA σ 1190 = false) : nr9 σ := fun k j k1 k2 k3 e => by
  rcases hcl k j 1190 (Dal_hi k1 k2 k3) k1 e with q | q
  · omega
  · rw [Dal_A q (by omega)] at hA
    cases hA
theorem txt_e {σ : dM} {q n : Nat} {f f' : Nat → Nat} (h : txt σ q f n) (e : ∀ j, j < n → f' j = f j) : txt σ q f' n := by
  have key : ∀ s a, tsS σ s a f n → tsS σ s a f' n := fun s a h => ⟨h.1, h.2.1, fun j hj => by rw [e j hj]; exact h.2.2.1 j hj, h.2.2.2⟩
  rcases h with ⟨h0, ⟨rfl, h⟩ | ⟨rfl, h⟩ | ⟨rfl, h⟩ | ⟨i, h1, h2, h3, h4⟩⟩
  · exact ⟨h0, Or.inl ⟨rfl, key _ _ h⟩⟩
  · exact ⟨h0, Or.inr (Or.inl ⟨rfl, key _ _ h⟩)⟩
  · exact ⟨h0, Or.inr (Or.inr (Or.inl ⟨rfl, key _ _ h⟩))⟩
  · exact ⟨h0, Or.inr (Or.inr (Or.inr ⟨i, h1, h2, h3, fun j hj => by rw [e j hj]; exact h4 j hj⟩))⟩
def dPt (f : Nat → Nat) (w : Nat) : dO := doRR fun a q σ => (a = 0 ∧ q = 1700 ∧ txt σ 1700 f w ∧ w ≤ 240 ∧ txQ σ ∧ (∀ a, ptK a → DA σ a = false) ∧ DA σ 1190 = false ∧ xFd (DS σ) 0 f, fun v τ => v = none ∧ ∃ T f', w ≤ 20 * T ∧ 20 * T < w + 20 ∧ (∀ j, j < w → f' j = f j) ∧ (∀ j, w ≤ j → j < 20 * T → f' j = 32) ∧ xFd (DS τ) (20 * T) f' ∧ tf2 (fun _ => True) σ τ)
set_option maxRecDepth 100000 in
set_option maxHeartbeats 4000000 in
theorem EL_put {h0 : Nat} (hE : dEt g h0) (k : Nat) (f : Nat → Nat) (w : Nat) : dOk g h0 (k + 6) 130 41000 [1800, 1600, 1601, 1701, 1611, 1702, 1612, 1190] mL_put (dPt f w) := by
  refine doRR_ok ?_
  rintro _ _ σ ⟨rfl, rfl, ht, hw, hQ, hD, hA, hx⟩
  refine dCon.gt (by decide +kernel) (by simp [lg_sl, Value.category]) (fun z hz0 hkp hcl hz post hp hR => ?_)
  subst hz0
  simp only [DkF] at hkp
  have n := k
  show DW g z mL_put 0 [(0, .ref 0), (1, .ref 1700)] [] σ 0 0
  refine dvk_ok (nC := n + 9) DL_put hTyA hR (VC := [(31, 6, 11, oX11_feed)]) (VD := []) (SD := []) (AL := []) (List.forall_mem_cons.mpr ⟨⟨mX11_feed, n + 1, 5, TX11, 9, rfl, by omega, hL_31, WX11_feed, rfl, CX11_feed g (n)⟩, (fun _ h => absurd h List.not_mem_nil)⟩) (fun _ h => absurd h List.not_mem_nil) (fun _ h => absurd h List.not_mem_nil) [2] 10 _ _ _ _ _ _ ?_
  simp (maxSteps := 1000000) [↓Bool.cond_eq_ite, -Prod.forall, -Prod.exists, -Prod.mk.injEq, ↓jc_eq_t, ↓jc_eq_f, ↓jc_ne_t, ↓jc_ne_f, ↓jc_lt_t, ↓jc_lt_f, ↓jc_ge_t, ↓jc_ge_f, ↓jc_gt_t, ↓jc_gt_f, ↓jc_le_t, ↓jc_le_f, dvk, tL_put, jtb, jol, dvl, dal, dst, jlk, jcmp, jbin, jfl, qL, jc2, qlL, jcat, jel, lv_args, Value.category, jins, jsrt, jins2, jble, jblt, jf3, List.filter_cons, List.filter_nil, Dlo, Dnr, DnL, Dfree, Droom, DuS_S, DuS_I, DuS_L, DuS_R, DuS_N, DuS_A, DuI_S, DuI_I, DuI_L, DuI_R, DuI_N, DuI_A, DuL_S, DuL_I, DuL_L, DuL_R, DuL_N, DuL_A, DuR_S, DuR_I, DuR_L, DuR_R, DuR_N, DuR_A, Dnw_S, Dnw_I, Dnw_L, Dnw_R, Dnw_N, Dnw_A, DrI_S, DrI_I, DrI_L, DrI_R, DrI_N, DrI_A, DrJ_S, DrJ_I, DrJ_L, DrJ_R, DrJ_N, DrJ_A, dm64, G_d, G_x0, oX11_feed, joRIIIII, -Int32.not_le, -Int32.not_lt, -Int64.not_le, -Int64.not_lt, i3lt, i6lt]
  try simp (disch := omega) [-Prod.forall, -Prod.exists, -Prod.mk.injEq, -Int32.not_le, -Int32.not_lt, -Int64.not_le, -Int64.not_lt, i3lt, i6lt]
  obtain ⟨d, hd1, hd2⟩ : ∃ d, (w + d) % 20 = 0 ∧ d < 20 := ⟨(20 - w % 20) % 20, by omega, by omega⟩
  obtain ⟨T, hT⟩ : ∃ T, w + d = 20 * T := ⟨(w + d) / 20, by omega⟩
  refine put_fill (k := k) hR hE (by simp [hkp]) d w f 1700 σ 0 0 hd1 hd2 (by omega) ⟨by omega, by omega, by omega, by omega⟩ ⟨Or.inl rfl, ht, hQ, fun a ha _ _ => hD a ha⟩ (fun τ q f' t1 t2 t3 t4 => ?_)
  obtain ⟨hq, x1, x2, x3⟩ := t2
  obtain ⟨f9, e9⟩ : ∃ f9 : Nat → Nat, f9 = fun j => if j < w + d then f' j else 0 := ⟨_, rfl⟩
  have ef : ∀ j, j < w + d → f9 j = f' j := fun j hj => by
    rw [e9]
    dsimp only
    rw [if_pos hj]
  have hf9 : ∀ j, f9 j < 128 := fun j => by
    by_cases c : j < w + d
    · rw [ef j c]
      exact txt_lt x1 j c
    · rw [e9]
      dsimp only
      rw [if_neg c]
      omega
  have pk0 : ∀ a, a = 1190 ∨ a = 1700 ∨ a = 1610 → ¬ ptK a := fun a ha => by unfold ptK; omega
  have hAτ : DA τ 1190 = false := (t1.2 1190 (pk0 _ (Or.inl rfl))).1.trans hA
  refine DW.cl (fun hcl2 => ?_)
  refine dvk_ok (nC := n + 9) DL_put hTyA hR (VC := [(31, 6, 11, oX11_feed)]) (VD := []) (SD := []) (AL := []) (List.forall_mem_cons.mpr ⟨⟨mX11_feed, n + 1, 5, TX11, 9, rfl, by omega, hL_31, WX11_feed, rfl, CX11_feed g (n)⟩, (fun _ h => absurd h List.not_mem_nil)⟩) (fun _ h => absurd h List.not_mem_nil) (fun _ h => absurd h List.not_mem_nil) [37] 10 _ _ _ _ _ _ ?_
  simp (maxSteps := 1000000) [↓Bool.cond_eq_ite, -Prod.forall, -Prod.exists, -Prod.mk.injEq, ↓jc_eq_t, ↓jc_eq_f, ↓jc_ne_t, ↓jc_ne_f, ↓jc_lt_t, ↓jc_lt_f, ↓jc_ge_t, ↓jc_ge_f, ↓jc_gt_t, ↓jc_gt_f, ↓jc_le_t, ↓jc_le_f, dvk, tL_put, jtb, jol, dvl, dal, dst, jlk, jcmp, jbin, jfl, qL, jc2, qlL, jcat, jel, lv_args, Value.category, jins, jsrt, jins2, jble, jblt, jf3, List.filter_cons, List.filter_nil, Dlo, Dnr, DnL, Dfree, Droom, DuS_S, DuS_I, DuS_L, DuS_R, DuS_N, DuS_A, DuI_S, DuI_I, DuI_L, DuI_R, DuI_N, DuI_A, DuL_S, DuL_I, DuL_L, DuL_R, DuL_N, DuL_A, DuR_S, DuR_I, DuR_L, DuR_R, DuR_N, DuR_A, Dnw_S, Dnw_I, Dnw_L, Dnw_R, Dnw_N, Dnw_A, DrI_S, DrI_I, DrI_L, DrI_R, DrI_N, DrI_A, DrJ_S, DrJ_I, DrJ_L, DrJ_R, DrJ_N, DrJ_A, dm64, G_d, G_x0, oX11_feed, joRIIIII, -Int32.not_le, -Int32.not_lt, -Int64.not_le, -Int64.not_lt, i3lt, i6lt]
  try simp (disch := omega) [-Prod.forall, -Prod.exists, -Prod.mk.injEq, -Int32.not_le, -Int32.not_lt, -Int64.not_le, -Int64.not_lt, i3lt, i6lt]
  show DW g z mL_put 37 [(0, .ref 0), (1, .ref 1700), (2, .ref q), (3, .int (nI (20 * 0)))] [] τ (6 * d) (2124 * d)
  refine put_ch (k := k) (T := T) (f := f9) hR hE (by simp [hkp]) hq hT hf9 T 0 τ (6 * d) (2124 * d) (by omega) ⟨by omega, by omega, by omega, by omega⟩ (txt_e x1 ef) hAτ (nr9_of hcl2 hAτ) ?_ (fun υ u1 u2 u3 => ?_)
  · rw [t1.1]
    exact ⟨hx.1, hx.2.1, fun j hj => by omega⟩
  · refine DW.cl (fun hcl3 => ?_)
    have hQυ : txQ υ := fun i j q9 k1 k2 k3 e q1 q2 => by
      have ni : i ≠ 1190 := fun z9 => by
        rw [z9, u2] at k3
        cases k3
      obtain ⟨y1, y2⟩ := u1 i ni
      rw [y1] at k3
      obtain ⟨-, -, y3, -⟩ := y2 k1 k2 k3
      rw [y3] at e
      exact x2 i j q9 k1 k2 k3 e q1 q2
    obtain ⟨p, ep⟩ : ∃ p : Nat → Bool, p = fun i => i == 1702 || i == 1612 := ⟨_, rfl⟩
    have pf : ∀ i, p i = false ↔ i ≠ 1702 ∧ i ≠ 1612 := fun i => by
      rw [ep]
      simp only [Bool.or_eq_false_iff, beq_eq_false_iff_ne]
    have hs : Dsub (Ddp υ p) υ := Ddp_sub hcl3 (fun i j q9 k1 k2 k3 k4 e q1 => by
      rw [pf] at k4 ⊢
      have key : q9 = 1702 ∨ q9 = 1612 → False := fun z9 => by
        have := txQ_in hQυ k1 k2 k3 e (by omega)
        omega
      exact ⟨fun z9 => key (Or.inl z9), fun z9 => key (Or.inr z9)⟩)
    refine dvk_ok (nC := n + 9) DL_put hTyA hR (VC := [(31, 6, 11, oX11_feed)]) (VD := []) (SD := []) (AL := []) (List.forall_mem_cons.mpr ⟨⟨mX11_feed, n + 1, 5, TX11, 9, rfl, by omega, hL_31, WX11_feed, rfl, CX11_feed g (n)⟩, (fun _ h => absurd h List.not_mem_nil)⟩) (fun _ h => absurd h List.not_mem_nil) (fun _ h => absurd h List.not_mem_nil) [] 10 _ _ _ _ _ _ ?_
    simp (maxSteps := 1000000) [↓Bool.cond_eq_ite, -Prod.forall, -Prod.exists, -Prod.mk.injEq, ↓jc_eq_t, ↓jc_eq_f, ↓jc_ne_t, ↓jc_ne_f, ↓jc_lt_t, ↓jc_lt_f, ↓jc_ge_t, ↓jc_ge_f, ↓jc_gt_t, ↓jc_gt_f, ↓jc_le_t, ↓jc_le_f, dvk, tL_put, jtb, jol, dvl, dal, dst, jlk, jcmp, jbin, jfl, qL, jc2, qlL, jcat, jel, lv_args, Value.category, jins, jsrt, jins2, jble, jblt, jf3, List.filter_cons, List.filter_nil, Dlo, Dnr, DnL, Dfree, Droom, DuS_S, DuS_I, DuS_L, DuS_R, DuS_N, DuS_A, DuI_S, DuI_I, DuI_L, DuI_R, DuI_N, DuI_A, DuL_S, DuL_I, DuL_L, DuL_R, DuL_N, DuL_A, DuR_S, DuR_I, DuR_L, DuR_R, DuR_N, DuR_A, Dnw_S, Dnw_I, Dnw_L, Dnw_R, Dnw_N, Dnw_A, DrI_S, DrI_I, DrI_L, DrI_R, DrI_N, DrI_A, DrJ_S, DrJ_I, DrJ_L, DrJ_R, DrJ_N, DrJ_A, dm64, G_d, G_x0, oX11_feed, joRIIIII, -Int32.not_le, -Int32.not_lt, -Int64.not_le, -Int64.not_lt, i3lt, i6lt]
    try simp (disch := omega) [-Prod.forall, -Prod.exists, -Prod.mk.injEq, -Int32.not_le, -Int32.not_lt, -Int64.not_le, -Int64.not_lt, i3lt, i6lt]
    refine ⟨⟨by omega, by omega⟩, _, hs, hp _ _ ⟨rfl, T, f9, by omega, by omega, fun j hj => by rw [ef j (by omega)]; exact t3 j hj, fun j a b => by rw [ef j (by omega)]; exact t4 j a (by omega), by rw [← hT]; exact u3, fun i _ => ?_⟩⟩
    by_cases c : ptK i
    · have a1 := hD i c
      have a2 : DA (Ddp υ p) i = false := by
        rw [Ddp_A]
        by_cases c2 : i = 1702 ∨ i = 1612
        · have e7 : p i = true := by
            rw [ep]
            rcases c2 with rfl | rfl <;> rfl
          rw [e7, Bool.not_true, Bool.and_false]
        · have a3 := x3 i c (by omega) (by omega)
          have a4 := (u1 i (by unfold ptK at c; omega)).1
          rw [a4, a3, Bool.false_and]
      exact ⟨by rw [a1, a2], fun _ _ h3 => by rw [a1] at h3; cases h3⟩
    · have hp9 : p i = false := (pf i).mpr (by unfold ptK at c; omega)
      by_cases c3 : i = 1190
      · refine ⟨by rw [Ddp_A, c3, u2, hA, Bool.false_and], fun _ _ h3 => ?_⟩
        rw [c3, hA] at h3
        cases h3
      · obtain ⟨a1, a2⟩ := t1.2 i c
        obtain ⟨b1, b2⟩ := u1 i c3
        refine ⟨by rw [Ddp_A, hp9, Bool.not_false, Bool.and_true, b1, a1], fun h1 h2 h3 => ?_⟩
        obtain ⟨y1, y2, y3, y4⟩ := a2 h1 h2 h3
        obtain ⟨w1, w2, w3, w4⟩ := b2 h1 h2 (by rw [a1]; exact h3)
        exact ⟨w1.trans y1, w2.trans y2, w3.trans y3, w4.trans y4⟩
end EML
