/-! rows for a text that is put together in any method: new StringBuilder, append, toString -/
/-- the builder says the text f of n letters; the other cells stand as in σ -/
def tbS (σ τ : dM) (f : Nat → Nat) (n : Nat) : Prop := (∃ m, sbQ τ f n m) ∧ tfr (fun k => k ≠ 1800 ∧ k ≠ 1600 ∧ k ≠ 1601) σ τ
section EMO
variable {g : jG} {z : dZ} {mt : jMt} {pc idx k n w q : Nat} {L : List (Nat × Value)} {r : List Value} {σ τ : dM} {c0 s0 : Nat} {f s : Nat → Nat}
theorem dr_nsb {j1 : Nat} (hE : dEt g z.2.2.2.2) (hz : k + 3 ≤ z.1.frames ∧ 64 * (k + 3) ≤ z.1.locals ∧ c0 + 2 ≤ z.1.cells ∧ s0 + 20 ≤ z.1.slots) (hkp : z.2.2.1 1800 = false ∧ z.2.2.1 1600 = false) (hA : DA σ 1800 = false ∧ DA σ 1600 = false ∧ DA σ 1601 = false) (hQ : txQ σ) (hL : DnL 1800 L = true ∧ DnL 1600 L = true) (hr : Dnr 1800 r = true ∧ Dnr 1600 r = true) (hst : (r.map fun v => v.category).sum ≤ 6)
    (w1 : Cond.classLink mt.1.cls j1 "java/lang/StringBuilder" ∈ jGw) (hlk : Cond.methodLink mt.1.cls idx yJ4_init_da8c8 ∈ jGw) (d1 : decode mt.2.1 pc = .ok (.new j1, 3)) (d2 : decode mt.2.1 (pc + 3) = .ok (.dup, 1)) (d3 : decode mt.2.1 (pc + 3 + 1) = .ok (.invokespecial idx, 3))
    (kk : ∀ τ, (∀ f, tbS σ τ f 0) → DW g z mt (pc + 3 + 1 + 3) L (.ref 1800 :: r) τ (c0 + 2) (s0 + 20)) : DW g z mt pc L r σ c0 s0 := by
  refine dr_newO (a := 1800) (ci := 14) (C := RJ4) (T := TJ4) (N := 4) (ty9 := tyJ4) (by decide) (by decide +kernel) (by decide +kernel) dcls_J4 ⟨tyJ4_ok, by decide +kernel⟩ w1 (jGw_of 742 (by decide +kernel) (by decide +kernel)) (jGw_of 73 (by decide +kernel) (by decide +kernel)) hA.1 hkp.1 (by omega) (by omega) hL.1 hr.1 d1 ?_
  refine dr_dup rfl d2 ?_
  have hc := EJ4_init (g := g) (h0 := z.2.2.2.2) hE k [.ref 1800] (Dnw σ 1800 0) ⟨rfl, by rw [Dnw_A, if_pos rfl], by rw [Dnw_I, if_pos rfl], txQ_new hQ, by rw [Dnw_A, if_neg (by omega)]; exact hA.2.1⟩
  refine dr_callI (idx := idx) (mt' := mJ4_init_da8c8) (tl := [1600]) (n' := k + 2) (mc := 1) (ms := 16) (a := 1800) (as := []) ⟨by omega, by show 8 + (1 + 11) + 64 * (k + 2) ≤ _; omega, by omega, by omega⟩ (by simp [Dfree, Dnr, hkp, hL, hr]) d3 hlk WJ4_init_da8c8 rfl rfl (by rw [List.map_cons, List.sum_cons]; show 1 + _ ≤ 8; omega) hc ?_
  rintro v τ1 ⟨rfl, b1, b2, b3⟩
  have f1 : tfr (fun k => k ≠ 1800 ∧ k ≠ 1600 ∧ k ≠ 1601) σ τ1 := (tfr_fr (Dfr_nw.weak (fun k hk => hk.1))).tr (b2.weak (fun k hk => ⟨hk.1, hk.2.1⟩))
  have g1 : DA τ1 1601 = false := (b2.2 1601 (by omega)).1.trans (by rw [Dnw_A, if_neg (by omega)]; exact hA.2.2)
  exact kk τ1 (fun f => ⟨⟨16, b1 f, b3, g1⟩, f1⟩)
theorem dr_apS (hE : dEt g z.2.2.2.2) (hz : k + 6 ≤ z.1.frames ∧ 64 * (k + 6) ≤ z.1.locals ∧ c0 + 1 ≤ z.1.cells ∧ s0 + 700 ≤ z.1.slots) (hkp : z.2.2.1 1600 = false ∧ z.2.2.1 1601 = false) (hL : DnL 1600 L = true ∧ DnL 1601 L = true) (hr : Dnr 1600 r = true ∧ Dnr 1601 r = true) (hst : (r.map fun v => v.category).sum ≤ 6)
    (h : tbS σ τ f n) (ht : txt σ q s w) (hn : n + w ≤ 300) (hlk : Cond.methodLink mt.1.cls idx yJ4_append_15ec4 ∈ jGw) (d : decode mt.2.1 pc = .ok (.invokevirtual idx, 3))
    (kk : ∀ υ, tbS σ υ (tcat f n s) (n + w) → DW g z mt (pc + 3) L (.ref 1800 :: r) υ (c0 + 1) (s0 + 700)) : DW g z mt pc L (.ref q :: .ref 1800 :: r) τ c0 s0 := by
  obtain ⟨⟨m, hs⟩, hf⟩ := h
  have t1 : txt τ q s w := txt_fr (P := fun k => k ≠ 1800 ∧ k ≠ 1600 ∧ k ≠ 1601) (by omega) hf ht
  have hA9 : DA τ 1800 = true := hs.1.1.1
  have hc := EJ4_appendS (g := g) (h0 := z.2.2.2.2) hE k f n m s w [.ref 1800, .ref q] τ ⟨rfl, hs, hn, t1⟩
  refine dr_callV (idx := idx) (mt' := mJ4_append_15ec4) (tl := [1600, 1601]) (n' := k + 5) (mc := 1) (ms := 700) (ci := 14) (T := TJ4) (N := 4) (a := 1800) (as := [.ref q]) ⟨by omega, by show 8 + (2 + 11) + 64 * (k + 5) ≤ _; omega, by omega, by omega⟩ (by simp [Dfree, hkp, hL, hr]) d hlk WJ4_append_15ec4 rfl (by decide +kernel) hA9 rfl rfl (by omega) hc ?_
  rintro v υ ⟨rfl, m2, s2, f2, g4, b5⟩
  exact kk υ ⟨⟨m2, s2, b5, g4⟩, hf.tr f2⟩
theorem dr_apC {c : Nat} (hE : dEt g z.2.2.2.2) (hz : k + 6 ≤ z.1.frames ∧ 64 * (k + 6) ≤ z.1.locals ∧ c0 + 1 ≤ z.1.cells ∧ s0 + 700 ≤ z.1.slots) (hkp : z.2.2.1 1600 = false ∧ z.2.2.1 1601 = false) (hL : DnL 1600 L = true ∧ DnL 1601 L = true) (hr : Dnr 1600 r = true ∧ Dnr 1601 r = true) (hst : (r.map fun v => v.category).sum ≤ 6)
    (h : tbS σ τ f n) (hc9 : c < 128) (hn : n + 1 ≤ 300) (hlk : Cond.methodLink mt.1.cls idx yJ4_append_cf468 ∈ jGw) (d : decode mt.2.1 pc = .ok (.invokevirtual idx, 3))
    (kk : ∀ υ, tbS σ υ (tcat f n (fun _ => c)) (n + 1) → DW g z mt (pc + 3) L (.ref 1800 :: r) υ (c0 + 1) (s0 + 700)) : DW g z mt pc L (.int (nI c) :: .ref 1800 :: r) τ c0 s0 := by
  obtain ⟨⟨m, hs⟩, hf⟩ := h
  have hA9 : DA τ 1800 = true := hs.1.1.1
  have hc := EJ4_appendC (g := g) (h0 := z.2.2.2.2) hE k f n m c [.ref 1800, .int (nI c)] τ ⟨rfl, rfl, hc9, hs, hn⟩
  refine dr_callV (idx := idx) (mt' := mJ4_append_cf468) (tl := [1600, 1601]) (n' := k + 5) (mc := 1) (ms := 700) (ci := 14) (T := TJ4) (N := 4) (a := 1800) (as := [.int (nI c)]) ⟨by omega, by show 8 + (2 + 11) + 64 * (k + 5) ≤ _; omega, by omega, by omega⟩ (by simp [Dfree, hkp, hL, hr]) d hlk WJ4_append_cf468 rfl (by decide +kernel) hA9 rfl rfl (by omega) hc ?_
  rintro v υ ⟨rfl, m2, s2, f2, g4, b5⟩
  exact kk υ ⟨⟨m2, s2, b5, g4⟩, hf.tr f2⟩
theorem dr_apI {v : Nat} (hE : dEt g z.2.2.2.2) (hz : k + 6 ≤ z.1.frames ∧ 64 * (k + 6) ≤ z.1.locals ∧ c0 + 1 ≤ z.1.cells ∧ s0 + 700 ≤ z.1.slots) (hkp : z.2.2.1 1600 = false ∧ z.2.2.1 1601 = false) (hL : DnL 1600 L = true ∧ DnL 1601 L = true) (hr : Dnr 1600 r = true ∧ Dnr 1601 r = true) (hst : (r.map fun v => v.category).sum ≤ 6)
    (h : tbS σ τ f n) (hv9 : v < 10000) (hn : n + sb_dg v ≤ 300) (hlk : Cond.methodLink mt.1.cls idx yJ4_append_bf812 ∈ jGw) (d : decode mt.2.1 pc = .ok (.invokevirtual idx, 3))
    (kk : ∀ υ, tbS σ υ (tcat f n (sb_dec v)) (n + sb_dg v) → DW g z mt (pc + 3) L (.ref 1800 :: r) υ (c0 + 1) (s0 + 700)) : DW g z mt pc L (.int (nI v) :: .ref 1800 :: r) τ c0 s0 := by
  obtain ⟨⟨m, hs⟩, hf⟩ := h
  have hA9 : DA τ 1800 = true := hs.1.1.1
  have hc := EJ4_appendI (g := g) (h0 := z.2.2.2.2) hE k f n m v [.ref 1800, .int (nI v)] τ ⟨rfl, rfl, hv9, hs, hn⟩
  refine dr_callV (idx := idx) (mt' := mJ4_append_bf812) (tl := [1600, 1601]) (n' := k + 5) (mc := 1) (ms := 700) (ci := 14) (T := TJ4) (N := 4) (a := 1800) (as := [.int (nI v)]) ⟨by omega, by show 8 + (2 + 11) + 64 * (k + 5) ≤ _; omega, by omega, by omega⟩ (by simp [Dfree, hkp, hL, hr]) d hlk WJ4_append_bf812 rfl (by decide +kernel) hA9 rfl rfl (by omega) hc ?_
  rintro v υ ⟨rfl, m2, s2, f2, g4, b5⟩
  exact kk υ ⟨⟨m2, s2, b5, g4⟩, hf.tr f2⟩
theorem dr_toS (hE : dEt g z.2.2.2.2) (hz : k + 6 ≤ z.1.frames ∧ 64 * (k + 6) ≤ z.1.locals ∧ c0 + 2 ≤ z.1.cells ∧ s0 + 704 ≤ z.1.slots) (hkp : z.2.2.1 1701 = false ∧ z.2.2.1 1611 = false) (hL : DnL 1701 L = true ∧ DnL 1611 L = true) (hr : Dnr 1701 r = true ∧ Dnr 1611 r = true) (hst : (r.map fun v => v.category).sum ≤ 6)
    (h : tbS σ τ f n) (hA : DA σ 1701 = false ∧ DA σ 1611 = false) (hlk : Cond.methodLink mt.1.cls idx yJ4_toString_0e30d ∈ jGw) (d : decode mt.2.1 pc = .ok (.invokevirtual idx, 3))
    (kk : ∀ υ, tsS υ 1701 1611 f n → tfr (fun k => k ≠ 1800 ∧ k ≠ 1600 ∧ k ≠ 1601 ∧ k ≠ 1701 ∧ k ≠ 1611) σ υ → txQ υ → DA υ 1601 = false → DW g z mt (pc + 3) L (.ref 1701 :: r) υ (c0 + 2) (s0 + 704)) : DW g z mt pc L (.ref 1800 :: r) τ c0 s0 := by
  obtain ⟨⟨m, hs⟩, hf⟩ := h
  have hA9 : DA τ 1800 = true := hs.1.1.1
  have hc := EJ4_toString (g := g) (h0 := z.2.2.2.2) hE k f n m [.ref 1800] τ ⟨rfl, hs.1, hs.2.1, (hf.2 1611 (by omega)).1.trans hA.2, (hf.2 1701 (by omega)).1.trans hA.1⟩
  refine dr_callV (idx := idx) (mt' := mJ4_toString_0e30d) (tl := [1701, 1611]) (n' := k + 5) (mc := 2) (ms := 704) (ci := 14) (T := TJ4) (N := 4) (a := 1800) (as := []) ⟨by omega, by show 8 + (1 + 11) + 64 * (k + 5) ≤ _; omega, by omega, by omega⟩ (by simp [Dfree, hkp, hL, hr]) d hlk WJ4_toString_0e30d rfl (by decide +kernel) hA9 rfl rfl (by omega) hc ?_
  rintro v υ ⟨rfl, u1, u2, u3⟩
  exact kk υ u1 ((hf.weak (fun k hk => ⟨hk.1, hk.2.1, hk.2.2.1⟩)).tr (u2.weak (fun k hk => ⟨hk.2.2.2.1, hk.2.2.2.2⟩))) u3 ((u2.2 1601 (by omega)).1.trans hs.2.2)
end EMO
