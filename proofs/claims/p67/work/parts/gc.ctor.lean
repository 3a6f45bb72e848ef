/-! newborn: constructors that make arrays and objects alone -/
theorem kz_i {cA : ClassId} {N : Nat} {f : Nat → Int32} (h : ∀ j, f j = 0) : vp_cell cA (N, .inl f) = arrV cA N (fun _ => Value.int 0) := by
  show arrV cA N (fun j => .int (f j)) = _
  congr 1
  funext j
  rw [h j]
theorem kz_l {cA : ClassId} {N : Nat} {f : Nat → Int64} (h : ∀ j, f j = 0) : vp_cell cA (N, .inr (.inl f)) = arrV cA N (fun _ => Value.long 0) := by
  show arrV cA N (fun j => .long (f j)) = _
  congr 1
  funext j
  rw [h j]
/-- RentDivision$Page at 320 -/
theorem KC_320 {g : jG} {h0 : Nat} (hB : kB g h0) : kCon g h0 1 mX5_init 320 2 162 s0 := by
  refine kCon.of (τ := s0) (by decide +kernel) (by decide) hB (by decide) ?_
  refine kw_aloadn (j := 0) rfl (show decode cX5_init 0 = .ok (.aload_n 0, 1) by decide +kernel) ?_
  refine kw_objInit (i := 3) (jGw_of 667 (by decide +kernel) (by decide +kernel)) ⟨by decide, by decide⟩ (by simp [Value.category]) (show decode cX5_init 1 = .ok (.invokespecial 3, 3) by decide +kernel) ?_
  refine kw_aloadn (j := 0) rfl (show decode cX5_init 4 = .ok (.aload_n 0, 1) by decide +kernel) ?_
  refine kw_sipush (v := 162) rfl (show decode cX5_init 5 = .ok (.sipush 162, 3) by decide +kernel) ?_
  refine kw_newa (atype := .char) (ti := 2) (N' := 162) (a0 := (162, .inl (s0.1 321))) hB (by decide) (by decide) (by decide) (jGw_of 675 (by decide +kernel) (by decide +kernel)) rfl (jcell_1 (show (jshp 321).1 = 1 by decide +kernel)) (fun cA => kz_i (fun j => by simp [s0, z0])) (by decide) (by decide) (by decide) (by decide) (by decide) (show decode cX5_init 8 = .ok (.newarray .char, 2) by decide +kernel) ?_
  refine kw_putF (j := 11) (c9 := 321) (T9 := TX5) (f := 0) (ty := .array .char) hB (by decide) (by decide) (show (jshp 320).2.1 = 5 by decide +kernel) jcls_X5 (by decide) (jGw_of 668 (by decide +kernel) (by decide +kernel)) ⟨by decide +kernel, rfl⟩ (fun _ => ⟨rfl, rfl⟩) (by decide +kernel) rfl (show decode cX5_init 10 = .ok (.putfield 11, 3) by decide +kernel) ?_
  refine kw_aloadn (j := 0) rfl (show decode cX5_init 13 = .ok (.aload_n 0, 1) by decide +kernel) ?_
  refine kw_iconst (v := 0) rfl (show decode cX5_init 14 = .ok (.iconst 0, 1) by decide +kernel) ?_
  refine kw_puti (j := 15) (T9 := TX5) (f := 1) (ty := .int) hB (by decide) (by decide) (show (jshp 320).2.1 = 5 by decide +kernel) jcls_X5 (by decide) (jGw_of 669 (by decide +kernel) (by decide +kernel)) ⟨by decide +kernel, rfl⟩ ⟨by decide, by decide⟩ (by decide +kernel) (show decode cX5_init 15 = .ok (.putfield 15, 3) by decide +kernel) ?_
  exact kw_ret rfl hB rfl (by decide) (by decide) rfl rfl (by decide +kernel) rfl (show decode cX5_init 18 = .ok (.return_, 1) by decide +kernel)
/-- RentDivision$Split at 318 -/
theorem KC_318 {g : jG} {h0 : Nat} (hB : kB g h0) : kCon g h0 1 mX9_init 318 2 6 s0 := by
  refine kCon.of (τ := s0) (by decide +kernel) (by decide) hB (by decide) ?_
  refine kw_aloadn (j := 0) rfl (show decode cX9_init 0 = .ok (.aload_n 0, 1) by decide +kernel) ?_
  refine kw_objInit (i := 3) (jGw_of 572 (by decide +kernel) (by decide +kernel)) ⟨by decide, by decide⟩ (by simp [Value.category]) (show decode cX9_init 1 = .ok (.invokespecial 3, 3) by decide +kernel) ?_
  refine kw_aloadn (j := 0) rfl (show decode cX9_init 4 = .ok (.aload_n 0, 1) by decide +kernel) ?_
  refine kw_bipush (v := 6) rfl (show decode cX9_init 5 = .ok (.bipush 6, 2) by decide +kernel) ?_
  refine kw_newa (atype := .long) (ti := 4) (N' := 6) (a0 := (6, .inr (.inl (s0.2.1 319)))) hB (by decide) (by decide) (by decide) (jGw_of 577 (by decide +kernel) (by decide +kernel)) rfl (jcell_2 (show (jshp 319).1 = 2 by decide +kernel)) (fun cA => kz_l (fun j => rfl)) (by decide) (by decide) (by decide) (by decide) (by decide) (show decode cX9_init 7 = .ok (.newarray .long, 2) by decide +kernel) ?_
  refine kw_putF (j := 9) (c9 := 319) (T9 := TX9) (f := 0) (ty := .array .long) hB (by decide) (by decide) (show (jshp 318).2.1 = 9 by decide +kernel) jcls_X9 (by decide) (jGw_of 573 (by decide +kernel) (by decide +kernel)) ⟨by decide +kernel, rfl⟩ (fun _ => ⟨rfl, rfl⟩) (by decide +kernel) rfl (show decode cX9_init 9 = .ok (.putfield 9, 3) by decide +kernel) ?_
  exact kw_ret rfl hB rfl (by decide) (by decide) rfl rfl (by decide +kernel) rfl (show decode cX9_init 12 = .ok (.return_, 1) by decide +kernel)
/-- RentDivision$Split at 286 -/
theorem KC_286 {g : jG} {h0 : Nat} (hB : kB g h0) : kCon g h0 1 mX9_init 286 2 6 s0 := by
  refine kCon.of (τ := s0) (by decide +kernel) (by decide) hB (by decide) ?_
  refine kw_aloadn (j := 0) rfl (show decode cX9_init 0 = .ok (.aload_n 0, 1) by decide +kernel) ?_
  refine kw_objInit (i := 3) (jGw_of 572 (by decide +kernel) (by decide +kernel)) ⟨by decide, by decide⟩ (by simp [Value.category]) (show decode cX9_init 1 = .ok (.invokespecial 3, 3) by decide +kernel) ?_
  refine kw_aloadn (j := 0) rfl (show decode cX9_init 4 = .ok (.aload_n 0, 1) by decide +kernel) ?_
  refine kw_bipush (v := 6) rfl (show decode cX9_init 5 = .ok (.bipush 6, 2) by decide +kernel) ?_
  refine kw_newa (atype := .long) (ti := 4) (N' := 6) (a0 := (6, .inr (.inl (s0.2.1 287)))) hB (by decide) (by decide) (by decide) (jGw_of 577 (by decide +kernel) (by decide +kernel)) rfl (jcell_2 (show (jshp 287).1 = 2 by decide +kernel)) (fun cA => kz_l (fun j => rfl)) (by decide) (by decide) (by decide) (by decide) (by decide) (show decode cX9_init 7 = .ok (.newarray .long, 2) by decide +kernel) ?_
  refine kw_putF (j := 9) (c9 := 287) (T9 := TX9) (f := 0) (ty := .array .long) hB (by decide) (by decide) (show (jshp 286).2.1 = 9 by decide +kernel) jcls_X9 (by decide) (jGw_of 573 (by decide +kernel) (by decide +kernel)) ⟨by decide +kernel, rfl⟩ (fun _ => ⟨rfl, rfl⟩) (by decide +kernel) rfl (show decode cX9_init 9 = .ok (.putfield 9, 3) by decide +kernel) ?_
  exact kw_ret rfl hB rfl (by decide) (by decide) rfl rfl (by decide +kernel) rfl (show decode cX9_init 12 = .ok (.return_, 1) by decide +kernel)
/-- RentDivision$Bill at 282 -/
theorem KC_282 {g : jG} {h0 : Nat} (hB : kB g h0) : kCon g h0 2 mX0_init 282 6 25 s0 := by
  refine kCon.of (τ := s0) (by decide +kernel) (by decide) hB (by decide) ?_
  refine kw_aloadn (j := 0) rfl (show decode cX0_init 0 = .ok (.aload_n 0, 1) by decide +kernel) ?_
  refine kw_objInit (i := 3) (jGw_of 567 (by decide +kernel) (by decide +kernel)) ⟨by decide, by decide⟩ (by simp [Value.category]) (show decode cX0_init 1 = .ok (.invokespecial 3, 3) by decide +kernel) ?_
  refine kw_aloadn (j := 0) rfl (show decode cX0_init 4 = .ok (.aload_n 0, 1) by decide +kernel) ?_
  refine kw_bipush (v := 6) rfl (show decode cX0_init 5 = .ok (.bipush 6, 2) by decide +kernel) ?_
  refine kw_newa (atype := .int) (ti := 0) (N' := 6) (a0 := (6, .inl (s0.1 283))) hB (by decide) (by decide) (by decide) (jGw_of 438 (by decide +kernel) (by decide +kernel)) rfl (jcell_1 (show (jshp 283).1 = 1 by decide +kernel)) (fun cA => kz_i (fun j => by simp [s0, z0])) (by decide) (by decide) (by decide) (by decide) (by decide) (show decode cX0_init 7 = .ok (.newarray .int, 2) by decide +kernel) ?_
  refine kw_putF (j := 9) (c9 := 283) (T9 := TX0) (f := 0) (ty := .array .int) hB (by decide) (by decide) (show (jshp 282).2.1 = 0 by decide +kernel) jcls_X0 (by decide) (jGw_of 578 (by decide +kernel) (by decide +kernel)) ⟨by decide +kernel, rfl⟩ (fun _ => ⟨rfl, rfl⟩) (by decide +kernel) rfl (show decode cX0_init 9 = .ok (.putfield 9, 3) by decide +kernel) ?_
  refine kw_aloadn (j := 0) rfl (show decode cX0_init 12 = .ok (.aload_n 0, 1) by decide +kernel) ?_
  refine kw_bipush (v := 6) rfl (show decode cX0_init 13 = .ok (.bipush 6, 2) by decide +kernel) ?_
  refine kw_newa (atype := .int) (ti := 0) (N' := 6) (a0 := (6, .inl (s0.1 284))) hB (by decide) (by decide) (by decide) (jGw_of 438 (by decide +kernel) (by decide +kernel)) rfl (jcell_1 (show (jshp 284).1 = 1 by decide +kernel)) (fun cA => kz_i (fun j => by simp [s0, z0])) (by decide) (by decide) (by decide) (by decide) (by decide) (show decode cX0_init 15 = .ok (.newarray .int, 2) by decide +kernel) ?_
  refine kw_putF (j := 15) (c9 := 284) (T9 := TX0) (f := 1) (ty := .array .int) hB (by decide) (by decide) (show (jshp 282).2.1 = 0 by decide +kernel) jcls_X0 (by decide) (jGw_of 581 (by decide +kernel) (by decide +kernel)) ⟨by decide +kernel, rfl⟩ (fun _ => ⟨rfl, rfl⟩) (by decide +kernel) rfl (show decode cX0_init 17 = .ok (.putfield 15, 3) by decide +kernel) ?_
  refine kw_aloadn (j := 0) rfl (show decode cX0_init 20 = .ok (.aload_n 0, 1) by decide +kernel) ?_
  refine kw_bipush (v := 6) rfl (show decode cX0_init 21 = .ok (.bipush 6, 2) by decide +kernel) ?_
  refine kw_newa (atype := .int) (ti := 0) (N' := 6) (a0 := (6, .inl (s0.1 285))) hB (by decide) (by decide) (by decide) (jGw_of 438 (by decide +kernel) (by decide +kernel)) rfl (jcell_1 (show (jshp 285).1 = 1 by decide +kernel)) (fun cA => kz_i (fun j => by simp [s0, z0])) (by decide) (by decide) (by decide) (by decide) (by decide) (show decode cX0_init 23 = .ok (.newarray .int, 2) by decide +kernel) ?_
  refine kw_putF (j := 18) (c9 := 285) (T9 := TX0) (f := 2) (ty := .array .int) hB (by decide) (by decide) (show (jshp 282).2.1 = 0 by decide +kernel) jcls_X0 (by decide) (jGw_of 582 (by decide +kernel) (by decide +kernel)) ⟨by decide +kernel, rfl⟩ (fun _ => ⟨rfl, rfl⟩) (by decide +kernel) rfl (show decode cX0_init 25 = .ok (.putfield 18, 3) by decide +kernel) ?_
  refine kw_aloadn (j := 0) rfl (show decode cX0_init 28 = .ok (.aload_n 0, 1) by decide +kernel) ?_
  refine kw_new (j1 := 21) (j2 := 23) (mt' := mX9_init) (ci := 9) (N9 := 1) (nn := 2) (ms := 6) (n' := 1) (T9 := TX9) (ty9 := tyX9) hB (by decide) (by decide) (by decide) (show (jshp 286).2.1 = 9 by decide +kernel) jcls_X9 ⟨tyX9_ok, by decide +kernel⟩ (jGw_of 568 (by decide +kernel) (by decide +kernel)) (jGw_of 253 (by decide +kernel) (by decide +kernel)) (jGw_of 66 (by decide +kernel) (by decide +kernel)) (jGw_of 569 (by decide +kernel) (by decide +kernel)) (jGw_of 570 (by decide +kernel) (by decide +kernel)) (jGw_of 571 (by decide +kernel) (by decide +kernel)) rfl rfl ⟨by decide +kernel, by decide +kernel, by decide +kernel⟩ ⟨by decide, by decide⟩ (by decide) (by decide) (by simp [Value.category]) (KC_286 hB) (show decode cX0_init 29 = .ok (.new 21, 3) by decide +kernel) (show decode cX0_init 32 = .ok (.dup, 1) by decide +kernel) (show decode cX0_init 33 = .ok (.invokespecial 23, 3) by decide +kernel) ?_
  refine kw_putF (j := 24) (c9 := 286) (T9 := TX0) (f := 3) (ty := .object "RentDivision$Split") hB (by decide) (by decide) (show (jshp 282).2.1 = 0 by decide +kernel) jcls_X0 (by decide) (jGw_of 585 (by decide +kernel) (by decide +kernel)) ⟨by decide +kernel, rfl⟩ (fun _ => ⟨rfl, rfl⟩) (by decide +kernel) rfl (show decode cX0_init 36 = .ok (.putfield 24, 3) by decide +kernel) ?_
  exact kw_ret rfl hB rfl (by decide) (by decide) rfl rfl (by decide +kernel) rfl (show decode cX0_init 39 = .ok (.return_, 1) by decide +kernel)
/-- RentDivision$Split at 280 -/
theorem KC_280 {g : jG} {h0 : Nat} (hB : kB g h0) : kCon g h0 1 mX9_init 280 2 6 s0 := by
  refine kCon.of (τ := s0) (by decide +kernel) (by decide) hB (by decide) ?_
  refine kw_aloadn (j := 0) rfl (show decode cX9_init 0 = .ok (.aload_n 0, 1) by decide +kernel) ?_
  refine kw_objInit (i := 3) (jGw_of 572 (by decide +kernel) (by decide +kernel)) ⟨by decide, by decide⟩ (by simp [Value.category]) (show decode cX9_init 1 = .ok (.invokespecial 3, 3) by decide +kernel) ?_
  refine kw_aloadn (j := 0) rfl (show decode cX9_init 4 = .ok (.aload_n 0, 1) by decide +kernel) ?_
  refine kw_bipush (v := 6) rfl (show decode cX9_init 5 = .ok (.bipush 6, 2) by decide +kernel) ?_
  refine kw_newa (atype := .long) (ti := 4) (N' := 6) (a0 := (6, .inr (.inl (s0.2.1 281)))) hB (by decide) (by decide) (by decide) (jGw_of 577 (by decide +kernel) (by decide +kernel)) rfl (jcell_2 (show (jshp 281).1 = 2 by decide +kernel)) (fun cA => kz_l (fun j => rfl)) (by decide) (by decide) (by decide) (by decide) (by decide) (show decode cX9_init 7 = .ok (.newarray .long, 2) by decide +kernel) ?_
  refine kw_putF (j := 9) (c9 := 281) (T9 := TX9) (f := 0) (ty := .array .long) hB (by decide) (by decide) (show (jshp 280).2.1 = 9 by decide +kernel) jcls_X9 (by decide) (jGw_of 573 (by decide +kernel) (by decide +kernel)) ⟨by decide +kernel, rfl⟩ (fun _ => ⟨rfl, rfl⟩) (by decide +kernel) rfl (show decode cX9_init 9 = .ok (.putfield 9, 3) by decide +kernel) ?_
  exact kw_ret rfl hB rfl (by decide) (by decide) rfl rfl (by decide +kernel) rfl (show decode cX9_init 12 = .ok (.return_, 1) by decide +kernel)
/-- RentDivision$Bill at 276 -/
theorem KC_276 {g : jG} {h0 : Nat} (hB : kB g h0) : kCon g h0 2 mX0_init 276 6 25 s0 := by
  refine kCon.of (τ := s0) (by decide +kernel) (by decide) hB (by decide) ?_
  refine kw_aloadn (j := 0) rfl (show decode cX0_init 0 = .ok (.aload_n 0, 1) by decide +kernel) ?_
  refine kw_objInit (i := 3) (jGw_of 567 (by decide +kernel) (by decide +kernel)) ⟨by decide, by decide⟩ (by simp [Value.category]) (show decode cX0_init 1 = .ok (.invokespecial 3, 3) by decide +kernel) ?_
  refine kw_aloadn (j := 0) rfl (show decode cX0_init 4 = .ok (.aload_n 0, 1) by decide +kernel) ?_
  refine kw_bipush (v := 6) rfl (show decode cX0_init 5 = .ok (.bipush 6, 2) by decide +kernel) ?_
  refine kw_newa (atype := .int) (ti := 0) (N' := 6) (a0 := (6, .inl (s0.1 277))) hB (by decide) (by decide) (by decide) (jGw_of 438 (by decide +kernel) (by decide +kernel)) rfl (jcell_1 (show (jshp 277).1 = 1 by decide +kernel)) (fun cA => kz_i (fun j => by simp [s0, z0])) (by decide) (by decide) (by decide) (by decide) (by decide) (show decode cX0_init 7 = .ok (.newarray .int, 2) by decide +kernel) ?_
  refine kw_putF (j := 9) (c9 := 277) (T9 := TX0) (f := 0) (ty := .array .int) hB (by decide) (by decide) (show (jshp 276).2.1 = 0 by decide +kernel) jcls_X0 (by decide) (jGw_of 578 (by decide +kernel) (by decide +kernel)) ⟨by decide +kernel, rfl⟩ (fun _ => ⟨rfl, rfl⟩) (by decide +kernel) rfl (show decode cX0_init 9 = .ok (.putfield 9, 3) by decide +kernel) ?_
  refine kw_aloadn (j := 0) rfl (show decode cX0_init 12 = .ok (.aload_n 0, 1) by decide +kernel) ?_
  refine kw_bipush (v := 6) rfl (show decode cX0_init 13 = .ok (.bipush 6, 2) by decide +kernel) ?_
  refine kw_newa (atype := .int) (ti := 0) (N' := 6) (a0 := (6, .inl (s0.1 278))) hB (by decide) (by decide) (by decide) (jGw_of 438 (by decide +kernel) (by decide +kernel)) rfl (jcell_1 (show (jshp 278).1 = 1 by decide +kernel)) (fun cA => kz_i (fun j => by simp [s0, z0])) (by decide) (by decide) (by decide) (by decide) (by decide) (show decode cX0_init 15 = .ok (.newarray .int, 2) by decide +kernel) ?_
  refine kw_putF (j := 15) (c9 := 278) (T9 := TX0) (f := 1) (ty := .array .int) hB (by decide) (by decide) (show (jshp 276).2.1 = 0 by decide +kernel) jcls_X0 (by decide) (jGw_of 581 (by decide +kernel) (by decide +kernel)) ⟨by decide +kernel, rfl⟩ (fun _ => ⟨rfl, rfl⟩) (by decide +kernel) rfl (show decode cX0_init 17 = .ok (.putfield 15, 3) by decide +kernel) ?_
  refine kw_aloadn (j := 0) rfl (show decode cX0_init 20 = .ok (.aload_n 0, 1) by decide +kernel) ?_
  refine kw_bipush (v := 6) rfl (show decode cX0_init 21 = .ok (.bipush 6, 2) by decide +kernel) ?_
  refine kw_newa (atype := .int) (ti := 0) (N' := 6) (a0 := (6, .inl (s0.1 279))) hB (by decide) (by decide) (by decide) (jGw_of 438 (by decide +kernel) (by decide +kernel)) rfl (jcell_1 (show (jshp 279).1 = 1 by decide +kernel)) (fun cA => kz_i (fun j => by simp [s0, z0])) (by decide) (by decide) (by decide) (by decide) (by decide) (show decode cX0_init 23 = .ok (.newarray .int, 2) by decide +kernel) ?_
  refine kw_putF (j := 18) (c9 := 279) (T9 := TX0) (f := 2) (ty := .array .int) hB (by decide) (by decide) (show (jshp 276).2.1 = 0 by decide +kernel) jcls_X0 (by decide) (jGw_of 582 (by decide +kernel) (by decide +kernel)) ⟨by decide +kernel, rfl⟩ (fun _ => ⟨rfl, rfl⟩) (by decide +kernel) rfl (show decode cX0_init 25 = .ok (.putfield 18, 3) by decide +kernel) ?_
  refine kw_aloadn (j := 0) rfl (show decode cX0_init 28 = .ok (.aload_n 0, 1) by decide +kernel) ?_
  refine kw_new (j1 := 21) (j2 := 23) (mt' := mX9_init) (ci := 9) (N9 := 1) (nn := 2) (ms := 6) (n' := 1) (T9 := TX9) (ty9 := tyX9) hB (by decide) (by decide) (by decide) (show (jshp 280).2.1 = 9 by decide +kernel) jcls_X9 ⟨tyX9_ok, by decide +kernel⟩ (jGw_of 568 (by decide +kernel) (by decide +kernel)) (jGw_of 253 (by decide +kernel) (by decide +kernel)) (jGw_of 66 (by decide +kernel) (by decide +kernel)) (jGw_of 569 (by decide +kernel) (by decide +kernel)) (jGw_of 570 (by decide +kernel) (by decide +kernel)) (jGw_of 571 (by decide +kernel) (by decide +kernel)) rfl rfl ⟨by decide +kernel, by decide +kernel, by decide +kernel⟩ ⟨by decide, by decide⟩ (by decide) (by decide) (by simp [Value.category]) (KC_280 hB) (show decode cX0_init 29 = .ok (.new 21, 3) by decide +kernel) (show decode cX0_init 32 = .ok (.dup, 1) by decide +kernel) (show decode cX0_init 33 = .ok (.invokespecial 23, 3) by decide +kernel) ?_
  refine kw_putF (j := 24) (c9 := 280) (T9 := TX0) (f := 3) (ty := .object "RentDivision$Split") hB (by decide) (by decide) (show (jshp 276).2.1 = 0 by decide +kernel) jcls_X0 (by decide) (jGw_of 585 (by decide +kernel) (by decide +kernel)) ⟨by decide +kernel, rfl⟩ (fun _ => ⟨rfl, rfl⟩) (by decide +kernel) rfl (show decode cX0_init 36 = .ok (.putfield 24, 3) by decide +kernel) ?_
  exact kw_ret rfl hB rfl (by decide) (by decide) rfl rfl (by decide +kernel) rfl (show decode cX0_init 39 = .ok (.return_, 1) by decide +kernel)
/-- RentDivision$Roster at 31 -/
theorem KC_31 {g : jG} {h0 : Nat} (hB : kB g h0) : kCon g h0 1 mX7_init 31 6 76 s0 := by
  refine kCon.of (τ := s0) (by decide +kernel) (by decide) hB (by decide) ?_
  refine kw_aloadn (j := 0) rfl (show decode cX7_init 0 = .ok (.aload_n 0, 1) by decide +kernel) ?_
  refine kw_objInit (i := 3) (jGw_of 444 (by decide +kernel) (by decide +kernel)) ⟨by decide, by decide⟩ (by simp [Value.category]) (show decode cX7_init 1 = .ok (.invokespecial 3, 3) by decide +kernel) ?_
  refine kw_aloadn (j := 0) rfl (show decode cX7_init 4 = .ok (.aload_n 0, 1) by decide +kernel) ?_
  refine kw_bipush (v := 6) rfl (show decode cX7_init 5 = .ok (.bipush 6, 2) by decide +kernel) ?_
  refine kw_newa (atype := .int) (ti := 0) (N' := 6) (a0 := (6, .inl (s0.1 32))) hB (by decide) (by decide) (by decide) (jGw_of 438 (by decide +kernel) (by decide +kernel)) rfl (jcell_1 (show (jshp 32).1 = 1 by decide +kernel)) (fun cA => kz_i (fun j => by simp [s0, z0])) (by decide) (by decide) (by decide) (by decide) (by decide) (show decode cX7_init 7 = .ok (.newarray .int, 2) by decide +kernel) ?_
  refine kw_putF (j := 9) (c9 := 32) (T9 := TX7) (f := 0) (ty := .array .int) hB (by decide) (by decide) (show (jshp 31).2.1 = 7 by decide +kernel) jcls_X7 (by decide) (jGw_of 445 (by decide +kernel) (by decide +kernel)) ⟨by decide +kernel, rfl⟩ (fun _ => ⟨rfl, rfl⟩) (by decide +kernel) rfl (show decode cX7_init 9 = .ok (.putfield 9, 3) by decide +kernel) ?_
  refine kw_aloadn (j := 0) rfl (show decode cX7_init 12 = .ok (.aload_n 0, 1) by decide +kernel) ?_
  refine kw_bipush (v := 10) rfl (show decode cX7_init 13 = .ok (.bipush 10, 2) by decide +kernel) ?_
  refine kw_newa (atype := .int) (ti := 0) (N' := 10) (a0 := (10, .inl (s0.1 33))) hB (by decide) (by decide) (by decide) (jGw_of 438 (by decide +kernel) (by decide +kernel)) rfl (jcell_1 (show (jshp 33).1 = 1 by decide +kernel)) (fun cA => kz_i (fun j => by simp [s0, z0])) (by decide) (by decide) (by decide) (by decide) (by decide) (show decode cX7_init 15 = .ok (.newarray .int, 2) by decide +kernel) ?_
  refine kw_putF (j := 15) (c9 := 33) (T9 := TX7) (f := 1) (ty := .array .int) hB (by decide) (by decide) (show (jshp 31).2.1 = 7 by decide +kernel) jcls_X7 (by decide) (jGw_of 446 (by decide +kernel) (by decide +kernel)) ⟨by decide +kernel, rfl⟩ (fun _ => ⟨rfl, rfl⟩) (by decide +kernel) rfl (show decode cX7_init 17 = .ok (.putfield 15, 3) by decide +kernel) ?_
  refine kw_aloadn (j := 0) rfl (show decode cX7_init 20 = .ok (.aload_n 0, 1) by decide +kernel) ?_
  refine kw_bipush (v := 20) rfl (show decode cX7_init 21 = .ok (.bipush 20, 2) by decide +kernel) ?_
  refine kw_newa (atype := .int) (ti := 0) (N' := 20) (a0 := (20, .inl (s0.1 34))) hB (by decide) (by decide) (by decide) (jGw_of 438 (by decide +kernel) (by decide +kernel)) rfl (jcell_1 (show (jshp 34).1 = 1 by decide +kernel)) (fun cA => kz_i (fun j => by simp [s0, z0])) (by decide) (by decide) (by decide) (by decide) (by decide) (show decode cX7_init 23 = .ok (.newarray .int, 2) by decide +kernel) ?_
  refine kw_putF (j := 18) (c9 := 34) (T9 := TX7) (f := 2) (ty := .array .int) hB (by decide) (by decide) (show (jshp 31).2.1 = 7 by decide +kernel) jcls_X7 (by decide) (jGw_of 447 (by decide +kernel) (by decide +kernel)) ⟨by decide +kernel, rfl⟩ (fun _ => ⟨rfl, rfl⟩) (by decide +kernel) rfl (show decode cX7_init 25 = .ok (.putfield 18, 3) by decide +kernel) ?_
  refine kw_aloadn (j := 0) rfl (show decode cX7_init 28 = .ok (.aload_n 0, 1) by decide +kernel) ?_
  refine kw_bipush (v := 20) rfl (show decode cX7_init 29 = .ok (.bipush 20, 2) by decide +kernel) ?_
  refine kw_newa (atype := .int) (ti := 0) (N' := 20) (a0 := (20, .inl (s0.1 35))) hB (by decide) (by decide) (by decide) (jGw_of 438 (by decide +kernel) (by decide +kernel)) rfl (jcell_1 (show (jshp 35).1 = 1 by decide +kernel)) (fun cA => kz_i (fun j => by simp [s0, z0])) (by decide) (by decide) (by decide) (by decide) (by decide) (show decode cX7_init 31 = .ok (.newarray .int, 2) by decide +kernel) ?_
  refine kw_putF (j := 21) (c9 := 35) (T9 := TX7) (f := 3) (ty := .array .int) hB (by decide) (by decide) (show (jshp 31).2.1 = 7 by decide +kernel) jcls_X7 (by decide) (jGw_of 449 (by decide +kernel) (by decide +kernel)) ⟨by decide +kernel, rfl⟩ (fun _ => ⟨rfl, rfl⟩) (by decide +kernel) rfl (show decode cX7_init 33 = .ok (.putfield 21, 3) by decide +kernel) ?_
  refine kw_aloadn (j := 0) rfl (show decode cX7_init 36 = .ok (.aload_n 0, 1) by decide +kernel) ?_
  refine kw_bipush (v := 20) rfl (show decode cX7_init 37 = .ok (.bipush 20, 2) by decide +kernel) ?_
  refine kw_newa (atype := .int) (ti := 0) (N' := 20) (a0 := (20, .inl (s0.1 36))) hB (by decide) (by decide) (by decide) (jGw_of 438 (by decide +kernel) (by decide +kernel)) rfl (jcell_1 (show (jshp 36).1 = 1 by decide +kernel)) (fun cA => kz_i (fun j => by simp [s0, z0])) (by decide) (by decide) (by decide) (by decide) (by decide) (show decode cX7_init 39 = .ok (.newarray .int, 2) by decide +kernel) ?_
  refine kw_putF (j := 24) (c9 := 36) (T9 := TX7) (f := 4) (ty := .array .int) hB (by decide) (by decide) (show (jshp 31).2.1 = 7 by decide +kernel) jcls_X7 (by decide) (jGw_of 451 (by decide +kernel) (by decide +kernel)) ⟨by decide +kernel, rfl⟩ (fun _ => ⟨rfl, rfl⟩) (by decide +kernel) rfl (show decode cX7_init 41 = .ok (.putfield 24, 3) by decide +kernel) ?_
  refine kw_aloadn (j := 0) rfl (show decode cX7_init 44 = .ok (.aload_n 0, 1) by decide +kernel) ?_
  refine kw_iconst (v := 0) rfl (show decode cX7_init 45 = .ok (.iconst 0, 1) by decide +kernel) ?_
  refine kw_puti (j := 27) (T9 := TX7) (f := 5) (ty := .int) hB (by decide) (by decide) (show (jshp 31).2.1 = 7 by decide +kernel) jcls_X7 (by decide) (jGw_of 453 (by decide +kernel) (by decide +kernel)) ⟨by decide +kernel, rfl⟩ ⟨by decide, by decide⟩ (by decide +kernel) (show decode cX7_init 46 = .ok (.putfield 27, 3) by decide +kernel) ?_
  exact kw_ret rfl hB rfl (by decide) (by decide) rfl rfl (by decide +kernel) rfl (show decode cX7_init 49 = .ok (.return_, 1) by decide +kernel)
/-- RentDivision$Roster at 24 -/
theorem KC_24 {g : jG} {h0 : Nat} (hB : kB g h0) : kCon g h0 1 mX7_init 24 6 76 s0 := by
  refine kCon.of (τ := s0) (by decide +kernel) (by decide) hB (by decide) ?_
  refine kw_aloadn (j := 0) rfl (show decode cX7_init 0 = .ok (.aload_n 0, 1) by decide +kernel) ?_
  refine kw_objInit (i := 3) (jGw_of 444 (by decide +kernel) (by decide +kernel)) ⟨by decide, by decide⟩ (by simp [Value.category]) (show decode cX7_init 1 = .ok (.invokespecial 3, 3) by decide +kernel) ?_
  refine kw_aloadn (j := 0) rfl (show decode cX7_init 4 = .ok (.aload_n 0, 1) by decide +kernel) ?_
  refine kw_bipush (v := 6) rfl (show decode cX7_init 5 = .ok (.bipush 6, 2) by decide +kernel) ?_
  refine kw_newa (atype := .int) (ti := 0) (N' := 6) (a0 := (6, .inl (s0.1 25))) hB (by decide) (by decide) (by decide) (jGw_of 438 (by decide +kernel) (by decide +kernel)) rfl (jcell_1 (show (jshp 25).1 = 1 by decide +kernel)) (fun cA => kz_i (fun j => by simp [s0, z0])) (by decide) (by decide) (by decide) (by decide) (by decide) (show decode cX7_init 7 = .ok (.newarray .int, 2) by decide +kernel) ?_
  refine kw_putF (j := 9) (c9 := 25) (T9 := TX7) (f := 0) (ty := .array .int) hB (by decide) (by decide) (show (jshp 24).2.1 = 7 by decide +kernel) jcls_X7 (by decide) (jGw_of 445 (by decide +kernel) (by decide +kernel)) ⟨by decide +kernel, rfl⟩ (fun _ => ⟨rfl, rfl⟩) (by decide +kernel) rfl (show decode cX7_init 9 = .ok (.putfield 9, 3) by decide +kernel) ?_
  refine kw_aloadn (j := 0) rfl (show decode cX7_init 12 = .ok (.aload_n 0, 1) by decide +kernel) ?_
  refine kw_bipush (v := 10) rfl (show decode cX7_init 13 = .ok (.bipush 10, 2) by decide +kernel) ?_
  refine kw_newa (atype := .int) (ti := 0) (N' := 10) (a0 := (10, .inl (s0.1 26))) hB (by decide) (by decide) (by decide) (jGw_of 438 (by decide +kernel) (by decide +kernel)) rfl (jcell_1 (show (jshp 26).1 = 1 by decide +kernel)) (fun cA => kz_i (fun j => by simp [s0, z0])) (by decide) (by decide) (by decide) (by decide) (by decide) (show decode cX7_init 15 = .ok (.newarray .int, 2) by decide +kernel) ?_
  refine kw_putF (j := 15) (c9 := 26) (T9 := TX7) (f := 1) (ty := .array .int) hB (by decide) (by decide) (show (jshp 24).2.1 = 7 by decide +kernel) jcls_X7 (by decide) (jGw_of 446 (by decide +kernel) (by decide +kernel)) ⟨by decide +kernel, rfl⟩ (fun _ => ⟨rfl, rfl⟩) (by decide +kernel) rfl (show decode cX7_init 17 = .ok (.putfield 15, 3) by decide +kernel) ?_
  refine kw_aloadn (j := 0) rfl (show decode cX7_init 20 = .ok (.aload_n 0, 1) by decide +kernel) ?_
  refine kw_bipush (v := 20) rfl (show decode cX7_init 21 = .ok (.bipush 20, 2) by decide +kernel) ?_
  refine kw_newa (atype := .int) (ti := 0) (N' := 20) (a0 := (20, .inl (s0.1 27))) hB (by decide) (by decide) (by decide) (jGw_of 438 (by decide +kernel) (by decide +kernel)) rfl (jcell_1 (show (jshp 27).1 = 1 by decide +kernel)) (fun cA => kz_i (fun j => by simp [s0, z0])) (by decide) (by decide) (by decide) (by decide) (by decide) (show decode cX7_init 23 = .ok (.newarray .int, 2) by decide +kernel) ?_
  refine kw_putF (j := 18) (c9 := 27) (T9 := TX7) (f := 2) (ty := .array .int) hB (by decide) (by decide) (show (jshp 24).2.1 = 7 by decide +kernel) jcls_X7 (by decide) (jGw_of 447 (by decide +kernel) (by decide +kernel)) ⟨by decide +kernel, rfl⟩ (fun _ => ⟨rfl, rfl⟩) (by decide +kernel) rfl (show decode cX7_init 25 = .ok (.putfield 18, 3) by decide +kernel) ?_
  refine kw_aloadn (j := 0) rfl (show decode cX7_init 28 = .ok (.aload_n 0, 1) by decide +kernel) ?_
  refine kw_bipush (v := 20) rfl (show decode cX7_init 29 = .ok (.bipush 20, 2) by decide +kernel) ?_
  refine kw_newa (atype := .int) (ti := 0) (N' := 20) (a0 := (20, .inl (s0.1 28))) hB (by decide) (by decide) (by decide) (jGw_of 438 (by decide +kernel) (by decide +kernel)) rfl (jcell_1 (show (jshp 28).1 = 1 by decide +kernel)) (fun cA => kz_i (fun j => by simp [s0, z0])) (by decide) (by decide) (by decide) (by decide) (by decide) (show decode cX7_init 31 = .ok (.newarray .int, 2) by decide +kernel) ?_
  refine kw_putF (j := 21) (c9 := 28) (T9 := TX7) (f := 3) (ty := .array .int) hB (by decide) (by decide) (show (jshp 24).2.1 = 7 by decide +kernel) jcls_X7 (by decide) (jGw_of 449 (by decide +kernel) (by decide +kernel)) ⟨by decide +kernel, rfl⟩ (fun _ => ⟨rfl, rfl⟩) (by decide +kernel) rfl (show decode cX7_init 33 = .ok (.putfield 21, 3) by decide +kernel) ?_
  refine kw_aloadn (j := 0) rfl (show decode cX7_init 36 = .ok (.aload_n 0, 1) by decide +kernel) ?_
  refine kw_bipush (v := 20) rfl (show decode cX7_init 37 = .ok (.bipush 20, 2) by decide +kernel) ?_
  refine kw_newa (atype := .int) (ti := 0) (N' := 20) (a0 := (20, .inl (s0.1 29))) hB (by decide) (by decide) (by decide) (jGw_of 438 (by decide +kernel) (by decide +kernel)) rfl (jcell_1 (show (jshp 29).1 = 1 by decide +kernel)) (fun cA => kz_i (fun j => by simp [s0, z0])) (by decide) (by decide) (by decide) (by decide) (by decide) (show decode cX7_init 39 = .ok (.newarray .int, 2) by decide +kernel) ?_
  refine kw_putF (j := 24) (c9 := 29) (T9 := TX7) (f := 4) (ty := .array .int) hB (by decide) (by decide) (show (jshp 24).2.1 = 7 by decide +kernel) jcls_X7 (by decide) (jGw_of 451 (by decide +kernel) (by decide +kernel)) ⟨by decide +kernel, rfl⟩ (fun _ => ⟨rfl, rfl⟩) (by decide +kernel) rfl (show decode cX7_init 41 = .ok (.putfield 24, 3) by decide +kernel) ?_
  refine kw_aloadn (j := 0) rfl (show decode cX7_init 44 = .ok (.aload_n 0, 1) by decide +kernel) ?_
  refine kw_iconst (v := 0) rfl (show decode cX7_init 45 = .ok (.iconst 0, 1) by decide +kernel) ?_
  refine kw_puti (j := 27) (T9 := TX7) (f := 5) (ty := .int) hB (by decide) (by decide) (show (jshp 24).2.1 = 7 by decide +kernel) jcls_X7 (by decide) (jGw_of 453 (by decide +kernel) (by decide +kernel)) ⟨by decide +kernel, rfl⟩ ⟨by decide, by decide⟩ (by decide +kernel) (show decode cX7_init 46 = .ok (.putfield 27, 3) by decide +kernel) ?_
  exact kw_ret rfl hB rfl (by decide) (by decide) rfl rfl (by decide +kernel) rfl (show decode cX7_init 49 = .ok (.return_, 1) by decide +kernel)
/-- RentDivision$Tokens at 2 -/
theorem KC_2 {g : jG} {h0 : Nat} (hB : kB g h0) : kCon g h0 1 mX10_init 2 2 900 s0 := by
  refine kCon.of (τ := s0) (by decide +kernel) (by decide) hB (by decide) ?_
  refine kw_aloadn (j := 0) rfl (show decode cX10_init 0 = .ok (.aload_n 0, 1) by decide +kernel) ?_
  refine kw_objInit (i := 3) (jGw_of 321 (by decide +kernel) (by decide +kernel)) ⟨by decide, by decide⟩ (by simp [Value.category]) (show decode cX10_init 1 = .ok (.invokespecial 3, 3) by decide +kernel) ?_
  refine kw_aloadn (j := 0) rfl (show decode cX10_init 4 = .ok (.aload_n 0, 1) by decide +kernel) ?_
  refine kw_sipush (v := 900) rfl (show decode cX10_init 5 = .ok (.sipush 900, 3) by decide +kernel) ?_
  refine kw_newa (atype := .byte) (ti := 1) (N' := 900) (a0 := (900, .inl (s0.1 3))) hB (by decide) (by decide) (by decide) (jGw_of 344 (by decide +kernel) (by decide +kernel)) rfl (jcell_1 (show (jshp 3).1 = 1 by decide +kernel)) (fun cA => kz_i (fun j => by simp [s0, z0])) (by decide) (by decide) (by decide) (by decide) (by decide) (show decode cX10_init 8 = .ok (.newarray .byte, 2) by decide +kernel) ?_
  refine kw_putF (j := 9) (c9 := 3) (T9 := TX10) (f := 0) (ty := .array .byte) hB (by decide) (by decide) (show (jshp 2).2.1 = 10 by decide +kernel) jcls_X10 (by decide) (jGw_of 322 (by decide +kernel) (by decide +kernel)) ⟨by decide +kernel, rfl⟩ (fun _ => ⟨rfl, rfl⟩) (by decide +kernel) rfl (show decode cX10_init 10 = .ok (.putfield 9, 3) by decide +kernel) ?_
  refine kw_aloadn (j := 0) rfl (show decode cX10_init 13 = .ok (.aload_n 0, 1) by decide +kernel) ?_
  refine kw_iconst (v := 0) rfl (show decode cX10_init 14 = .ok (.iconst 0, 1) by decide +kernel) ?_
  refine kw_puti (j := 15) (T9 := TX10) (f := 1) (ty := .int) hB (by decide) (by decide) (show (jshp 2).2.1 = 10 by decide +kernel) jcls_X10 (by decide) (jGw_of 323 (by decide +kernel) (by decide +kernel)) ⟨by decide +kernel, rfl⟩ ⟨by decide, by decide⟩ (by decide +kernel) (show decode cX10_init 15 = .ok (.putfield 15, 3) by decide +kernel) ?_
  refine kw_aloadn (j := 0) rfl (show decode cX10_init 18 = .ok (.aload_n 0, 1) by decide +kernel) ?_
  refine kw_iconst (v := 0) rfl (show decode cX10_init 19 = .ok (.iconst 0, 1) by decide +kernel) ?_
  refine kw_puti (j := 19) (T9 := TX10) (f := 2) (ty := .int) hB (by decide) (by decide) (show (jshp 2).2.1 = 10 by decide +kernel) jcls_X10 (by decide) (jGw_of 325 (by decide +kernel) (by decide +kernel)) ⟨by decide +kernel, rfl⟩ ⟨by decide, by decide⟩ (by decide +kernel) (show decode cX10_init 20 = .ok (.putfield 19, 3) by decide +kernel) ?_
  refine kw_aloadn (j := 0) rfl (show decode cX10_init 23 = .ok (.aload_n 0, 1) by decide +kernel) ?_
  refine kw_iconst (v := 0) rfl (show decode cX10_init 24 = .ok (.iconst 0, 1) by decide +kernel) ?_
  refine kw_puti (j := 22) (T9 := TX10) (f := 3) (ty := .int) hB (by decide) (by decide) (show (jshp 2).2.1 = 10 by decide +kernel) jcls_X10 (by decide) (jGw_of 326 (by decide +kernel) (by decide +kernel)) ⟨by decide +kernel, rfl⟩ ⟨by decide, by decide⟩ (by decide +kernel) (show decode cX10_init 25 = .ok (.putfield 22, 3) by decide +kernel) ?_
  refine kw_aloadn (j := 0) rfl (show decode cX10_init 28 = .ok (.aload_n 0, 1) by decide +kernel) ?_
  refine kw_iconst (v := 0) rfl (show decode cX10_init 29 = .ok (.iconst 0, 1) by decide +kernel) ?_
  refine kw_puti (j := 25) (T9 := TX10) (f := 4) (ty := .int) hB (by decide) (by decide) (show (jshp 2).2.1 = 10 by decide +kernel) jcls_X10 (by decide) (jGw_of 328 (by decide +kernel) (by decide +kernel)) ⟨by decide +kernel, rfl⟩ ⟨by decide, by decide⟩ (by decide +kernel) (show decode cX10_init 30 = .ok (.putfield 25, 3) by decide +kernel) ?_
  refine kw_aloadn (j := 0) rfl (show decode cX10_init 33 = .ok (.aload_n 0, 1) by decide +kernel) ?_
  refine kw_iconst (v := 0) rfl (show decode cX10_init 34 = .ok (.iconst 0, 1) by decide +kernel) ?_
  refine kw_puti (j := 28) (T9 := TX10) (f := 5) (ty := .int) hB (by decide) (by decide) (show (jshp 2).2.1 = 10 by decide +kernel) jcls_X10 (by decide) (jGw_of 329 (by decide +kernel) (by decide +kernel)) ⟨by decide +kernel, rfl⟩ ⟨by decide, by decide⟩ (by decide +kernel) (show decode cX10_init 35 = .ok (.putfield 28, 3) by decide +kernel) ?_
  exact kw_ret rfl hB rfl (by decide) (by decide) rfl rfl (by decide +kernel) rfl (show decode cX10_init 38 = .ok (.return_, 1) by decide +kernel)
