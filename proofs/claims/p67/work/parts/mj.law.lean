/-! the law's put: its text is filled up to twenties -/
section EMJ
variable {g : jG} {z : dZ} {σ : dM} {c0 s0 q w k : Nat} {f : Nat → Nat}
/-- the names that put needs -/
def ptK (a : Nat) : Prop := a = 1800 ∨ a = 1600 ∨ a = 1601 ∨ a = 1701 ∨ a = 1611 ∨ a = 1702 ∨ a = 1612
/-- what put's loop holds: q is the text so far -/
def ptS (σ : dM) (q : Nat) (f : Nat → Nat) (n : Nat) : Prop := (q = 1700 ∨ q = 1702) ∧ txt σ q f n ∧ txQ σ ∧ ∀ a, ptK a → a ≠ 1702 → a ≠ 1612 → DA σ a = false
theorem ldc_L21 {g : jG} {h0 : Nat} (hE : dEt g h0) : ∀ (U : State) (H : Heap), jE g U H → vk_R "RentDivisionLaw" 21 " " (jad g 374) U := fun U H h => (hE.2 U H h).1.2
theorem txt_374 (σ : dM) : txt σ 374 (stN 20) 1 := ⟨by omega, Or.inr (Or.inr (Or.inr ⟨20, by omega, rfl, by decide, fun _ _ => rfl⟩))⟩
set_option maxHeartbeats 4000000 in
theorem put_pad {R : Option Value → dM → Nat → Nat → Prop} (hR : dRok g z mL_put R) (hE : dEt g z.2.2.2.2) (hz : k + 6 ≤ z.1.frames ∧ 64 * (k + 6) ≤ z.1.locals ∧ c0 + 6 ≤ z.1.cells ∧ s0 + 2124 ≤ z.1.slots) (hkp : z.2.2.1 1800 = false ∧ z.2.2.1 1600 = false ∧ z.2.2.1 1601 = false ∧ z.2.2.1 1701 = false ∧ z.2.2.1 1611 = false ∧ z.2.2.1 1702 = false ∧ z.2.2.1 1612 = false) (h : ptS σ q f w) (hn : w + 1 ≤ 300)
    (kk : ∀ τ, tfr (fun k => ¬ ptK k) σ τ → ptS τ 1702 (tcat f w (stN 20)) (w + 1) → DW g z mL_put 2 [(0, .ref 0), (1, .ref 1700), (2, .ref 1702)] [] τ (c0 + 6) (s0 + 2124)) : DW g z mL_put 12 [(0, .ref 0), (1, .ref 1700), (2, .ref q)] [] σ c0 s0 := by
  obtain ⟨hq, ht, hQ, hD⟩ := h
  have d1 := hD 1800 (by simp [ptK]) (by omega) (by omega)
  have d2 := hD 1600 (by simp [ptK]) (by omega) (by omega)
  have d3 := hD 1601 (by simp [ptK]) (by omega) (by omega)
  have d4 := hD 1701 (by simp [ptK]) (by omega) (by omega)
  have d5 := hD 1611 (by simp [ptK]) (by omega) (by omega)
  have q1 : ¬ q = 1800 ∧ ¬ q = 1600 ∧ ¬ q = 1601 ∧ ¬ q = 1701 ∧ ¬ q = 1611 ∧ ¬ q = 1612 := by omega
  have n := k
  refine dr_newO (a := 1800) (ci := 14) (C := RJ4) (T := TJ4) (N := 4) (ty9 := tyJ4) (by decide) (by decide +kernel) (by decide +kernel) dcls_J4 ⟨tyJ4_ok, by decide +kernel⟩ (show Cond.classLink RL 14 RJ4 ∈ jGw from jGw_of 1056 (by decide +kernel) (by decide +kernel)) (jGw_of 742 (by decide +kernel) (by decide +kernel)) (jGw_of 73 (by decide +kernel) (by decide +kernel)) d1 hkp.1 (by omega) (by omega) (by simp [DnL, q1]) (by simp [Dnr]) (by decide +kernel) ?_
  refine dvk_ok (nC := n + 9) DL_put hTyA hR (VC := [(31, 6, 11, oX11_feed)]) (VD := []) (SD := []) (AL := []) (List.forall_mem_cons.mpr ⟨⟨mX11_feed, n + 1, 5, TX11, 9, rfl, by omega, hL_31, WX11_feed, rfl, CX11_feed g (n)⟩, (fun _ h => absurd h List.not_mem_nil)⟩) (fun _ h => absurd h List.not_mem_nil) (fun _ h => absurd h List.not_mem_nil) [16] 10 _ _ _ _ _ _ ?_
  simp (maxSteps := 1000000) [↓Bool.cond_eq_ite, -Prod.forall, -Prod.exists, -Prod.mk.injEq, ↓jc_eq_t, ↓jc_eq_f, ↓jc_ne_t, ↓jc_ne_f, ↓jc_lt_t, ↓jc_lt_f, ↓jc_ge_t, ↓jc_ge_f, ↓jc_gt_t, ↓jc_gt_f, ↓jc_le_t, ↓jc_le_f, dvk, tL_put, jtb, jol, dvl, dal, dst, jlk, jcmp, jbin, jfl, qL, jc2, qlL, jcat, jel, lv_args, Value.category, jins, jsrt, jins2, jble, jblt, jf3, List.filter_cons, List.filter_nil, Dlo, Dnr, DnL, Dfree, Droom, DuS_S, DuS_I, DuS_L, DuS_R, DuS_N, DuS_A, DuI_S, DuI_I, DuI_L, DuI_R, DuI_N, DuI_A, DuL_S, DuL_I, DuL_L, DuL_R, DuL_N, DuL_A, DuR_S, DuR_I, DuR_L, DuR_R, DuR_N, DuR_A, Dnw_S, Dnw_I, Dnw_L, Dnw_R, Dnw_N, Dnw_A, DrI_S, DrI_I, DrI_L, DrI_R, DrI_N, DrI_A, DrJ_S, DrJ_I, DrJ_L, DrJ_R, DrJ_N, DrJ_A, dm64, G_d, G_x0, oX11_feed, joRIIIII, -Int32.not_le, -Int32.not_lt, -Int64.not_le, -Int64.not_lt, i3lt, i6lt]
  try simp (disch := omega) [-Prod.forall, -Prod.exists, -Prod.mk.injEq, -Int32.not_le, -Int32.not_lt, -Int64.not_le, -Int64.not_lt, i3lt, i6lt]
  have hc := EJ4_init (g := g) (h0 := z.2.2.2.2) hE k [.ref 1800] (Dnw σ 1800 0) ⟨rfl, by rw [Dnw_A, if_pos rfl], by rw [Dnw_I, if_pos rfl], txQ_new hQ, by rw [Dnw_A, if_neg (by omega)]; exact d2⟩
  refine dr_callI (idx := 16) (mt' := mJ4_init_da8c8) (tl := [1600]) (n' := k + 2) (mc := 1) (ms := 16) (a := 1800) (as := []) ⟨by omega, by show 8 + (1 + 11) + 64 * (k + 2) ≤ _; omega, by omega, by omega⟩ (by simp [Dfree, DnL, Dnr, hkp, q1]) (by decide +kernel) hL_16 WJ4_init_da8c8 rfl rfl (by simp [Value.category]) hc ?_
  rintro v τ1 ⟨rfl, b1, b2, b3⟩
  show DW g z mL_put 19 _ [.ref 1800] τ1 (c0 + 1 + 1) (s0 + 4 + 16)
  have f1 : tfr (fun k => k ≠ 1800 ∧ k ≠ 1600) σ τ1 := (tfr_fr (Dfr_nw.weak (fun k hk => hk.1))).tr b2
  have t1 : txt τ1 q f w := txt_fr (P := fun k => k ≠ 1800 ∧ k ≠ 1600) (by omega) f1 ht
  have g1 : DA τ1 1601 = false := (f1.2 1601 (by omega)).1.trans d3
  have g2 : DA τ1 1701 = false := (f1.2 1701 (by omega)).1.trans d4
  have g3 : DA τ1 1611 = false := (f1.2 1611 (by omega)).1.trans d5
  have b4 := b1 f
  refine dvk_ok (nC := n + 9) DL_put hTyA hR (VC := [(31, 6, 11, oX11_feed)]) (VD := []) (SD := []) (AL := []) (List.forall_mem_cons.mpr ⟨⟨mX11_feed, n + 1, 5, TX11, 9, rfl, by omega, hL_31, WX11_feed, rfl, CX11_feed g (n)⟩, (fun _ h => absurd h List.not_mem_nil)⟩) (fun _ h => absurd h List.not_mem_nil) (fun _ h => absurd h List.not_mem_nil) [20] 10 _ _ _ _ _ _ ?_
  simp (maxSteps := 1000000) [↓Bool.cond_eq_ite, -Prod.forall, -Prod.exists, -Prod.mk.injEq, ↓jc_eq_t, ↓jc_eq_f, ↓jc_ne_t, ↓jc_ne_f, ↓jc_lt_t, ↓jc_lt_f, ↓jc_ge_t, ↓jc_ge_f, ↓jc_gt_t, ↓jc_gt_f, ↓jc_le_t, ↓jc_le_f, dvk, tL_put, jtb, jol, dvl, dal, dst, jlk, jcmp, jbin, jfl, qL, jc2, qlL, jcat, jel, lv_args, Value.category, jins, jsrt, jins2, jble, jblt, jf3, List.filter_cons, List.filter_nil, Dlo, Dnr, DnL, Dfree, Droom, DuS_S, DuS_I, DuS_L, DuS_R, DuS_N, DuS_A, DuI_S, DuI_I, DuI_L, DuI_R, DuI_N, DuI_A, DuL_S, DuL_I, DuL_L, DuL_R, DuL_N, DuL_A, DuR_S, DuR_I, DuR_L, DuR_R, DuR_N, DuR_A, Dnw_S, Dnw_I, Dnw_L, Dnw_R, Dnw_N, Dnw_A, DrI_S, DrI_I, DrI_L, DrI_R, DrI_N, DrI_A, DrJ_S, DrJ_I, DrJ_L, DrJ_R, DrJ_N, DrJ_A, dm64, G_d, G_x0, oX11_feed, joRIIIII, -Int32.not_le, -Int32.not_lt, -Int64.not_le, -Int64.not_lt, i3lt, i6lt]
  try simp (disch := omega) [-Prod.forall, -Prod.exists, -Prod.mk.injEq, -Int32.not_le, -Int32.not_lt, -Int64.not_le, -Int64.not_lt, i3lt, i6lt]
  have hc := EJ4_appendS (g := g) (h0 := z.2.2.2.2) hE k f 0 16 f w [.ref 1800, .ref q] τ1 ⟨rfl, ⟨b4, b3, g1⟩, by omega, t1⟩
  have hA9 : DA τ1 1800 = true := b4.1.1
  refine dr_callV (idx := 17) (mt' := mJ4_append_15ec4) (tl := [1600, 1601]) (n' := k + 5) (mc := 1) (ms := 700) (ci := 14) (T := TJ4) (N := 4) (a := 1800) (as := [.ref q]) ⟨by omega, by show 8 + (2 + 11) + 64 * (k + 5) ≤ _; omega, by omega, by omega⟩ (by simp [Dfree, DnL, Dnr, hkp, q1]) (by decide +kernel) hL_17 WJ4_append_15ec4 rfl (by decide +kernel) hA9 rfl rfl (by simp [Value.category]) hc ?_
  rintro v τ2 ⟨rfl, m2, s2, f2, g4, b5⟩
  show DW g z mL_put 23 _ [.ref 1800] τ2 (c0 + 1 + 1 + 1) (s0 + 4 + 16 + 700)
  rw [Nat.zero_add] at s2
  have s3 : sbS τ2 f w m2 := by
    have e : tcat f 0 f = f := funext fun j => by
      unfold tcat
      rw [if_neg (by omega), Nat.sub_zero]
    rw [e] at s2
    exact s2
  refine dr_ldcS (q := 374) (tx := " ") (by decide) (ldc_L21 hE) (by decide +kernel) ?_
  have hc := EJ4_appendS (g := g) (h0 := z.2.2.2.2) hE k f w m2 (stN 20) 1 [.ref 1800, .ref 374] τ2 ⟨rfl, ⟨s3, b5, g4⟩, by omega, txt_374 _⟩
  have hA8 : DA τ2 1800 = true := s3.1.1
  refine dr_callV (idx := 17) (mt' := mJ4_append_15ec4) (tl := [1600, 1601]) (n' := k + 5) (mc := 1) (ms := 700) (ci := 14) (T := TJ4) (N := 4) (a := 1800) (as := [.ref 374]) ⟨by omega, by show 8 + (2 + 11) + 64 * (k + 5) ≤ _; omega, by omega, by omega⟩ (by simp [Dfree, DnL, Dnr, hkp, q1]) (by decide +kernel) hL_17 WJ4_append_15ec4 rfl (by decide +kernel) hA8 rfl rfl (by simp [Value.category]) hc ?_
  rintro v τ3 ⟨rfl, m3, s4, f3, g5, b6⟩
  show DW g z mL_put 28 _ [.ref 1800] τ3 (c0 + 1 + 1 + 1 + 1) (s0 + 4 + 16 + 700 + 700)
  have f13 : tfr (fun k => k ≠ 1800 ∧ k ≠ 1600 ∧ k ≠ 1601) σ τ3 := ((f1.weak (fun k hk => ⟨hk.1, hk.2.1⟩)).tr f2).tr f3
  have hc := EJ4_toString (g := g) (h0 := z.2.2.2.2) hE k (tcat f w (stN 20)) (w + 1) m3 [.ref 1800] τ3 ⟨rfl, s4, b6, (f13.2 1611 (by omega)).1.trans d5, (f13.2 1701 (by omega)).1.trans d4⟩
  have hA7 : DA τ3 1800 = true := s4.1.1
  refine dr_callV (idx := 23) (mt' := mJ4_toString_0e30d) (tl := [1701, 1611]) (n' := k + 5) (mc := 2) (ms := 704) (ci := 14) (T := TJ4) (N := 4) (a := 1800) (as := []) ⟨by omega, by show 8 + (1 + 11) + 64 * (k + 5) ≤ _; omega, by omega, by omega⟩ (by simp [Dfree, DnL, Dnr, hkp, q1]) (by decide +kernel) hL_23 WJ4_toString_0e30d rfl (by decide +kernel) hA7 rfl rfl (by simp [Value.category]) hc ?_
  rintro v τ4 ⟨rfl, u1, u2, u3⟩
  show DW g z mL_put 31 _ [.ref 1701] τ4 (c0 + 1 + 1 + 1 + 1 + 2) (s0 + 4 + 16 + 700 + 700 + 704)
  refine dvk_ok (nC := n + 9) DL_put hTyA hR (VC := [(31, 6, 11, oX11_feed)]) (VD := []) (SD := []) (AL := []) (List.forall_mem_cons.mpr ⟨⟨mX11_feed, n + 1, 5, TX11, 9, rfl, by omega, hL_31, WX11_feed, rfl, CX11_feed g (n)⟩, (fun _ h => absurd h List.not_mem_nil)⟩) (fun _ h => absurd h List.not_mem_nil) (fun _ h => absurd h List.not_mem_nil) [2] 10 _ _ _ _ _ _ ?_
  simp (maxSteps := 1000000) [↓Bool.cond_eq_ite, -Prod.forall, -Prod.exists, -Prod.mk.injEq, ↓jc_eq_t, ↓jc_eq_f, ↓jc_ne_t, ↓jc_ne_f, ↓jc_lt_t, ↓jc_lt_f, ↓jc_ge_t, ↓jc_ge_f, ↓jc_gt_t, ↓jc_gt_f, ↓jc_le_t, ↓jc_le_f, dvk, tL_put, jtb, jol, dvl, dal, dst, jlk, jcmp, jbin, jfl, qL, jc2, qlL, jcat, jel, lv_args, Value.category, jins, jsrt, jins2, jble, jblt, jf3, List.filter_cons, List.filter_nil, Dlo, Dnr, DnL, Dfree, Droom, DuS_S, DuS_I, DuS_L, DuS_R, DuS_N, DuS_A, DuI_S, DuI_I, DuI_L, DuI_R, DuI_N, DuI_A, DuL_S, DuL_I, DuL_L, DuL_R, DuL_N, DuL_A, DuR_S, DuR_I, DuR_L, DuR_R, DuR_N, DuR_A, Dnw_S, Dnw_I, Dnw_L, Dnw_R, Dnw_N, Dnw_A, DrI_S, DrI_I, DrI_L, DrI_R, DrI_N, DrI_A, DrJ_S, DrJ_I, DrJ_L, DrJ_R, DrJ_N, DrJ_A, dm64, G_d, G_x0, oX11_feed, joRIIIII, -Int32.not_le, -Int32.not_lt, -Int64.not_le, -Int64.not_lt, i3lt, i6lt]
  try simp (disch := omega) [-Prod.forall, -Prod.exists, -Prod.mk.injEq, -Int32.not_le, -Int32.not_lt, -Int64.not_le, -Int64.not_lt, i3lt, i6lt]
  have hs : (1702 = 1700 ∧ 1612 = 1610) ∨ ((1702 : Nat) = 1702 ∧ (1612 : Nat) = 1612) := Or.inr ⟨rfl, rfl⟩
  obtain ⟨x1, x2, x3⟩ := txMv_ok hs u3 u1
  refine DW_txMv hs u3 u1 ⟨hkp.2.2.2.2.2.1, hkp.2.2.2.2.2.2⟩ (by simp [DnL]) (by simp [DnL, DrL, Drv]) ?_
  refine DW.wide (c1 := c0 + 6) (s1 := s0 + 2124) (by omega) (by omega) ?_
  refine kk (txMv τ4 1702 1612) ((f13.weak ?_).tr (u2.weak ?_) |>.tr (x3.weak ?_)) ⟨Or.inr rfl, ⟨by omega, Or.inr (Or.inr (Or.inl ⟨rfl, x1⟩))⟩, x2, fun a ha a1 a2 => ?_⟩
  · intro k hk
    unfold ptK at hk
    omega
  · intro k hk
    unfold ptK at hk
    omega
  · intro k hk
    unfold ptK at hk
    omega
  · rw [txM_A hs, if_neg (by omega)]
    unfold ptK at ha
    by_cases c : a = 1800 ∨ a = 1600 ∨ a = 1701 ∨ a = 1611
    · rw [if_pos c]
    · rw [if_neg c]
      have e : a = 1601 := by omega
      rw [e]
      exact (u2.2 1601 (by omega)).1.trans g5
end EMJ
