/-! the law's walk, whole -/
theorem jcmp_go {A B : Prop} {c : ClassFile.Cond} {x y : Int32} (h : (c = .eq ∧ ¬ x = y) ∨ (c = .ge ∧ x < y)) (k : B) : jcmp c x y A B := by
  rcases h with ⟨rfl, h⟩ | ⟨rfl, h⟩
  · exact ⟨fun z => absurd z h, fun _ => k⟩
  · exact ⟨fun z => absurd h z, fun _ => k⟩
theorem jcmp_to {A B : Prop} {c : ClassFile.Cond} {x y : Int32} (h : (c = .ne ∧ ¬ x = y) ∨ (c = .ge ∧ ¬ x < y)) (k : A) : jcmp c x y A B := by
  rcases h with ⟨rfl, h⟩ | ⟨rfl, h⟩
  · exact ⟨fun _ => k, fun z => absurd z h⟩
  · exact ⟨fun _ => k, fun z => absurd z h⟩
section ENG
variable {g : jG} {h0 b : Nat} {nm : String}
theorem lw_loop {XN N M K : Nat} {xs : Nat → Int32} (hE : dEs g) (hC : dEc g h0 XN xs) : ∀ (d i : Nat) (σ : dM) (s0 : jM) (mo c0 c1 : Nat), i + d = 16 → rZ σ s0 N M K mo → mo ≤ 3 * i → Dcl0 σ → (c0 + 4300 * d ≤ 600086 ∧ c1 + 21500 * d ≤ 7301442) → DW g (lz h0 b) (mLn nm) 27 [(0, .ref 380), (1, .ref 1000), (2, .int (nI i))] [] σ c0 c1 := by
  intro d
  obtain ⟨z1, z2, z3, z4, z5⟩ := hzr (h0 := h0) (b := b)
  induction d with
  | zero =>
    intro i σ s0 mo c0 c1 h1 h hmo hcl hc
    obtain rfl : i = 16 := by omega
    refine dr_iloadn (j := 2) rfl (show decode code 27 = .ok (.iload_n 2, 1) by decide +kernel) ?_
    refine dr_bipush (v := 16) rfl (show decode code 28 = .ok (.bipush 16, 2) by decide +kernel) ?_
    refine dr_icmp (cd := .ge) (o := 33) (tg := 63) (show decode code 30 = .ok (.if_icmp .ge 33, 3) by decide +kernel) (by decide) (jcmp_to (Or.inr ⟨rfl, by decide⟩) ?_)
    refine DW.mono (L' := [(0, .ref 380), (1, .ref 1000)]) ?_ (by simp)
    exact lw_fin hE.1 h ⟨by omega, by omega⟩
  | succ d ih =>
    intro i σ s0 mo c0 c1 h1 h hmo hcl hc
    have lt : nI i < 16 := (show ∀ i, i < 16 → nI i < (16 : Int32) by decide +kernel) i (by omega)
    have e7 : 7 + nI i = nI (7 + i) := nI_add 7 i
    have e1 : nI i + 1 = nI (i + 1) := nI_add i 1
    refine dr_iloadn (j := 2) rfl (show decode code 27 = .ok (.iload_n 2, 1) by decide +kernel) ?_
    refine dr_bipush (v := 16) rfl (show decode code 28 = .ok (.bipush 16, 2) by decide +kernel) ?_
    refine dr_icmp (cd := .ge) (o := 33) (tg := 63) (show decode code 30 = .ok (.if_icmp .ge 33, 3) by decide +kernel) (by decide) (jcmp_go (Or.inr ⟨rfl, lt⟩) ?_)
    refine dr_aloadn (j := 1) rfl (show decode code 33 = .ok (.aload_n 1, 1) by decide +kernel) ?_
    refine dr_aloadn (j := 0) rfl (show decode code 34 = .ok (.aload_n 0, 1) by decide +kernel) ?_
    refine dr_bipush (v := 7) rfl (show decode code 35 = .ok (.bipush 7, 2) by decide +kernel) ?_
    refine dr_iloadn (j := 2) rfl (show decode code 37 = .ok (.iload_n 2, 1) by decide +kernel) ?_
    refine dr_iadd (show decode code 38 = .ok (.iadd, 1) by decide +kernel) ?_
    rw [e7]
    refine dr_callS (idx := 50) (mt' := mL_cell) (tl := []) (n' := 0) (mc := 0) (ms := 0) (as := [.ref 380, .int (nI (7 + i))]) ⟨by omega, by rw [z2]; show 8 + (2 + 11) + 64 * 0 ≤ 84000; omega, by omega, by omega⟩ trivial (show decode code 39 = .ok (.invokestatic 50, 3) by decide +kernel) (Or.inl hL_50) WL_cell rfl rfl (by simp [Value.category]) (EL_cell hC 0 (7 + i) [.ref 380, .int (nI (7 + i))] σ ⟨rfl, rfl, by omega⟩) ?_
    rintro v τ ⟨rfl, rfl⟩
    show DW g (lz h0 b) (mLn nm) 42 [(0, .ref 380), (1, .ref 1000), (2, .int (nI i))] [.int (scX XN xs (7 + i)), .ref 1000] τ c0 c1
    refine lw_does hE h (by omega) ⟨by omega, by omega⟩ (show decode code 42 = .ok (.invokevirtual 56, 3) by decide +kernel) (fun υ s1 mo' q1 q2 => ?_)
    refine DW.cl (fun hcl2 => ?_)
    refine dr_if (cd := .eq) (o := 10) (tg := 55) (show decode code 45 = .ok (.ifCond .eq 10, 3) by decide +kernel) (by decide) (jcmp_go (Or.inl ⟨rfl, by decide⟩) ?_)
    refine dr_aloadn (j := 1) rfl (show decode code 48 = .ok (.aload_n 1, 1) by decide +kernel) ?_
    refine lw_same hE q2 hcl2 (Or.inr rfl) ⟨by omega, by omega⟩ (show decode code 49 = .ok (.invokevirtual 46, 3) by decide +kernel) (fun φ s2 r1 r2 => ?_)
    refine dr_if (cd := .ne) (o := 5) (tg := 57) (show decode code 52 = .ok (.ifCond .ne 5, 3) by decide +kernel) (by decide) (jcmp_to (Or.inl ⟨rfl, by decide⟩) ?_)
    refine dr_iinc (j := 2) (v := 1) rfl rfl (show 2 < 3 by decide) (show decode code 57 = .ok (.iinc 2 1, 3) by decide +kernel) ?_
    refine dr_goto (o := -33) (tg := 27) (show decode code 60 = .ok (.goto (-33), 3) by decide +kernel) (by decide) ?_
    rw [e1]
    show DW g (lz h0 b) (mLn nm) 27 [(0, .ref 380), (1, .ref 1000), (2, .int (nI (i + 1)))] [] φ _ _
    exact ih (i + 1) φ s2 mo' _ _ (by omega) r1 (by omega) r2 ⟨by omega, by omega⟩
theorem lw_all {XN N M K n : Nat} {xs : Nat → Int32} {post : Option Value → dM → Prop} (hE : dEs g) (hC : dEc g h0 XN xs) (hD0 : jad g 1000 = h0) (hn : n ≤ 1000) (hpost : ∀ v τ, post v τ → bdPost xs N M K v τ) (hc : iCon g h0 n 862 193831 post) : kU g h0 room_1 (mLn nm) 0 (lT g h0 (lz h0 b)) 0 0 0 [(0, .ref 380)] [] 0 [] := by
  obtain ⟨z1, z2, z3, z4, z5⟩ := hzr (h0 := h0) (b := b)
  refine lw_new (z := lz h0 b) (post := post) hD0 rfl z5 (fun v τ h => (hpost v τ h).1) ⟨by omega, by omega, by omega, by omega⟩ hc (fun τ h => ?_)
  obtain ⟨-, hz, h19, hcl⟩ := hpost _ _ h
  have hA := hz.1.1.1.2.2.1.1
  refine dr_astoren (j := 1) (show 1 < 3 by decide) (show decode code 8 = .ok (.astore_n 1, 1) by decide +kernel) ?_
  show DW g (lz h0 b) (mLn nm) 9 [(0, .ref 380), (1, .ref 1000)] [] τ _ _
  refine dr_aloadn (j := 1) rfl (show decode code 9 = .ok (.aload_n 1, 1) by decide +kernel) ?_
  refine dr_geti (f := 19) (mt := mLn nm) qL_42 (by decide +kernel) hA (show decode code 10 = .ok (.getfield 42, 3) by decide +kernel) ?_
  rw [h19]
  refine dr_if (cd := .eq) (o := 10) (tg := 23) (show decode code 13 = .ok (.ifCond .eq 10, 3) by decide +kernel) (by decide) (jcmp_go (Or.inl ⟨rfl, by decide⟩) ?_)
  refine dr_aloadn (j := 1) rfl (show decode code 16 = .ok (.aload_n 1, 1) by decide +kernel) ?_
  refine lw_same (i := 0) hE hz hcl (Or.inl rfl) ⟨by omega, by omega⟩ (show decode code 17 = .ok (.invokevirtual 46, 3) by decide +kernel) (fun φ s2 r1 r2 => ?_)
  refine dr_if (cd := .ne) (o := 5) (tg := 25) (show decode code 20 = .ok (.ifCond .ne 5, 3) by decide +kernel) (by decide) (jcmp_to (Or.inl ⟨rfl, by decide⟩) ?_)
  refine dr_iconst (v := nI 0) rfl (show decode code 25 = .ok (.iconst 0, 1) by decide +kernel) ?_
  refine dr_istoren (j := 2) (show 2 < 3 by decide) (show decode code 26 = .ok (.istore_n 2, 1) by decide +kernel) ?_
  show DW g (lz h0 b) (mLn nm) 27 [(0, .ref 380), (1, .ref 1000), (2, .int (nI 0))] [] φ _ _
  exact lw_loop hE hC 16 0 φ s2 0 _ _ (by omega) r1 (by omega) r2 ⟨by omega, by omega⟩
end ENG
