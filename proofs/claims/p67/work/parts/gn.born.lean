/-! newborn: Flat's constructor, at its places -/
theorem kw_cong {g : jG} {h0 : Nat} {rm : Room} {mt : jMt} {me : Nat} {T : lwT} {c0 s0 pc : Nat} {L : List (Nat × Value)} {r : List Value} {t : Nat} {fs : List Value} {σ τ : jM} (h : ∀ k, me < k → k < t → jcell g τ k = jcell g σ k) (k : kW g h0 rm mt me T c0 s0 pc L r t fs τ) : kW g h0 rm mt me T c0 s0 pc L r t fs σ := by
  have e : kws g τ me fs t = kws g σ me fs t := by
    unfold kws
    congr 1
    refine List.map_congr_left (fun i hi => ?_)
    have := List.mem_range.mp hi
    unfold kpe
    rw [h (me + 1 + i) (by omega) (by omega)]
  intro p e9 s m as below meth c H locs ls X hz hP hS hl
  rw [← e] at hP
  exact k p e9 s m as below meth c H locs ls X hz hP hS hl
theorem kz_c {g : jG} {a N : Nat} (h : jshp a = (1, 0, N, [])) : jcell g kz a = .inl (jta g 0, N, .inl (kz.1 a)) := by
  rw [jcell_1 (show (jshp a).1 = 1 by rw [h]), h]
theorem kFL_or {F : Nat} (hF : F ∈ kFL) : F = 4 ∨ F = 37 ∨ ∃ i, i < 10 ∧ F = 59 + 20 * i := by
  have h : ∀ F ∈ kFL, F = 4 ∨ F = 37 ∨ (59 ≤ F ∧ F ≤ 239 ∧ (F - 59) % 20 = 0) := by decide +kernel
  rcases h F hF with h | h | h
  · exact Or.inl h
  · exact Or.inr (Or.inl h)
  · exact Or.inr (Or.inr ⟨(F - 59) / 20, by omega, by omega⟩)
theorem kFL_z {F k : Nat} (hF : F ∈ kFL) (h1 : F < k) (h2 : k < F + 20) (j : Nat) : (kFe F).1 k j = s0.1 k j := by
  show (if k = F + 15 ∧ j < 10 then (-1 : Int32) else if k = F + 1 ∧ j = 0 then 2 else 0) = z0 k j
  unfold z0
  rcases kFL_or hF with rfl | rfl | ⟨i, hi, rfl⟩
  all_goals
    repeat' split
    all_goals first | rfl | (exfalso; omega)
theorem kFL_i : ∀ F ∈ kFL, ∀ j, j < 7 → z0 F j = 0 := by decide +kernel
theorem kFL_f (g : jG) {F : Nat} (hF : F ∈ kFL) : (kFf F).map (jrl g) = jfs g s0 F [0, 0, 0, 0, 0, 0, 0, F + 3, F + 4, F + 5, F + 6, F + 17, F + 18, F + 19, F + 20, F + 21] := by
  have q := fun j hj => kFL_i F hF j hj
  show _ = [Value.int (z0 F 0), .int (z0 F 1), .int (z0 F 2), .int (z0 F 3), .int (z0 F 4), .int (z0 F 5), .int (z0 F 6), .ref (jad g (F + 1)), .ref (jad g (F + 2)), .ref (jad g (F + 3)), .ref (jad g (F + 4)), .ref (jad g (F + 15)), .ref (jad g (F + 16)), .ref (jad g (F + 17)), .ref (jad g (F + 18)), .ref (jad g (F + 19))]
  rw [q 0 (by decide), q 1 (by decide), q 2 (by decide), q 3 (by decide), q 4 (by decide), q 5 (by decide), q 6 (by decide)]
  rfl
theorem kFL_c1 : ∀ F ∈ kFL, jshp (F + 1) = (1, 0, 3, []) ∧ jshp (F + 2) = (1, 0, 10, []) ∧ jshp (F + 3) = (1, 0, 10, []) ∧ jshp (F + 4) = (4, 6, 10, [F + 5, 1]) := by decide +kernel
theorem kFL_c2 : ∀ F ∈ kFL, jshp (F + 15) = (1, 0, 10, []) ∧ jshp (F + 16) = (1, 0, 10, []) ∧ jshp (F + 17) = (1, 0, 10, []) ∧ jshp (F + 18) = (1, 0, 10, []) ∧ jshp (F + 19) = (1, 0, 10, []) := by decide +kernel
theorem kFL_c3 : ∀ F ∈ kFL, ∀ i, i < 10 → jelt (F + 4) i = F + 4 + 1 + i ∧ jshp (F + 4 + 1 + i) = (1, 0, 6, []) := by decide +kernel
set_option maxRecDepth 100000 in
set_option maxHeartbeats 4000000 in
theorem KC_F {g : jG} {h0 : Nat} (hB : kB g h0) {F : Nat} (hF : F ∈ kFL) : kCon g h0 2 mX2_init F 20 143 s0 := by
  obtain ⟨e0, hN⟩ := kFL_sh F hF
  obtain ⟨c1, c2, c3, c4⟩ := kFL_c1 F hF
  obtain ⟨c15, c16, c17, c18, c19⟩ := kFL_c2 F hF
  have hr := kFL_c3 F hF
  have r4 : ∀ j, j < 10 → jelt (F + 4) j = F + 4 + 1 + j := fun j hj => (hr j hj).1
  have r5 : ∀ i, i < 10 → jshp (F + 4 + 1 + i) = (1, 0, 6, []) := fun i hi => (hr i hi).2
  have e1 : (jshp F).2.1 = 2 := by rw [e0]
  have e9 : kfr (jshp F).2.2.2 = [.int 0, .int 0, .int 0, .int 0, .int 0, .int 0, .int 0, .null, .null, .null, .null, .null, .null, .null, .null, .null] := by rw [e0]; rfl
  refine kCon.of (τ := kz) (by decide +kernel) (by decide) hB (by omega) ?_
  rw [e9]
  refine kw_aloadn (j := 0) (x := F) rfl (show decode cX2_init 0 = .ok (.aload_n 0, 1) by decide +kernel) ?_
  refine kw_objInit (i := 3) (jGw_of 350 (by decide +kernel) (by decide +kernel)) ⟨by decide, by decide⟩ (by simp [Value.category]) (show decode cX2_init 1 = .ok (.invokespecial 3, 3) by decide +kernel) ?_
  refine kw_aloadn (j := 0) (x := F) rfl (show decode cX2_init 4 = .ok (.aload_n 0, 1) by decide +kernel) ?_
  refine kw_iconst (v := 3) rfl (show decode cX2_init 5 = .ok (.iconst 3, 1) by decide +kernel) ?_
  refine kw_newa (t := F + 1) (atype := .int) (ti := 0) (N' := 3) (a0 := (3, .inl (kz.1 (F + 1)))) hB (by omega) (by omega) (by decide) (jGw_of 438 (by decide +kernel) (by decide +kernel)) rfl (kz_c c1) (fun cA => kz_i (fun _ => rfl)) (by decide) (by decide) (by decide) (by decide) (by decide) (show decode cX2_init 6 = .ok (.newarray .int, 2) by decide +kernel) ?_
  refine kw_putF (t := F + 2) (j := 9) (c9 := F + 1) (T9 := TX2) (f := 7) (ty := .array .int) hB (by omega) (by omega) e1 jcls_X2 (by decide) (jGw_of 380 (by decide +kernel) (by decide +kernel)) ⟨by decide +kernel, rfl⟩ (fun _ => ⟨rfl, rfl⟩) (show 7 < 16 by decide) rfl (show decode cX2_init 8 = .ok (.putfield 9, 3) by decide +kernel) ?_
  refine kw_aloadn (j := 0) (x := F) rfl (show decode cX2_init 11 = .ok (.aload_n 0, 1) by decide +kernel) ?_
  refine kw_bipush (v := 10) rfl (show decode cX2_init 12 = .ok (.bipush 10, 2) by decide +kernel) ?_
  refine kw_newa (t := F + 2) (atype := .int) (ti := 0) (N' := 10) (a0 := (10, .inl (kz.1 (F + 2)))) hB (by omega) (by omega) (by decide) (jGw_of 438 (by decide +kernel) (by decide +kernel)) rfl (kz_c c2) (fun cA => kz_i (fun _ => rfl)) (by decide) (by decide) (by decide) (by decide) (by decide) (show decode cX2_init 14 = .ok (.newarray .int, 2) by decide +kernel) ?_
  refine kw_putF (t := F + 3) (j := 15) (c9 := F + 2) (T9 := TX2) (f := 8) (ty := .array .int) hB (by omega) (by omega) e1 jcls_X2 (by decide) (jGw_of 384 (by decide +kernel) (by decide +kernel)) ⟨by decide +kernel, rfl⟩ (fun _ => ⟨rfl, rfl⟩) (show 8 < 16 by decide) rfl (show decode cX2_init 16 = .ok (.putfield 15, 3) by decide +kernel) ?_
  refine kw_aloadn (j := 0) (x := F) rfl (show decode cX2_init 19 = .ok (.aload_n 0, 1) by decide +kernel) ?_
  refine kw_bipush (v := 10) rfl (show decode cX2_init 20 = .ok (.bipush 10, 2) by decide +kernel) ?_
  refine kw_newa (t := F + 3) (atype := .int) (ti := 0) (N' := 10) (a0 := (10, .inl (kz.1 (F + 3)))) hB (by omega) (by omega) (by decide) (jGw_of 438 (by decide +kernel) (by decide +kernel)) rfl (kz_c c3) (fun cA => kz_i (fun _ => rfl)) (by decide) (by decide) (by decide) (by decide) (by decide) (show decode cX2_init 22 = .ok (.newarray .int, 2) by decide +kernel) ?_
  refine kw_putF (t := F + 4) (j := 18) (c9 := F + 3) (T9 := TX2) (f := 9) (ty := .array .int) hB (by omega) (by omega) e1 jcls_X2 (by decide) (jGw_of 386 (by decide +kernel) (by decide +kernel)) ⟨by decide +kernel, rfl⟩ (fun _ => ⟨rfl, rfl⟩) (show 9 < 16 by decide) rfl (show decode cX2_init 24 = .ok (.putfield 18, 3) by decide +kernel) ?_
  refine kw_aloadn (j := 0) (x := F) rfl (show decode cX2_init 27 = .ok (.aload_n 0, 1) by decide +kernel) ?_
  refine kw_bipush (v := 10) rfl (show decode cX2_init 28 = .ok (.bipush 10, 2) by decide +kernel) ?_
  refine kw_bipush (v := 6) rfl (show decode cX2_init 30 = .ok (.bipush 6, 2) by decide +kernel) ?_
  refine kw_mna (t := F + 4) (N' := 10) (K' := 6) hB (by omega) (by omega) ⟨by rw [c4], by rw [c4], by rw [c4], r4⟩ (fun i hi => by rw [r5 i hi]; exact ⟨rfl, rfl, rfl⟩) (fun _ _ _ => rfl) (jGw_of 351 (by decide +kernel) (by decide +kernel)) (by decide) (by decide) (by decide) (by decide) (by decide) (by decide) (by decide) (by decide) (show decode cX2_init 32 = .ok (.multianewarray 21 2, 4) by decide +kernel) ?_
  refine kw_putF (t := F + 15) (j := 23) (c9 := F + 4) (T9 := TX2) (f := 10) (ty := .array (.array .int)) hB (by omega) (by omega) e1 jcls_X2 (by decide) (jGw_of 390 (by decide +kernel) (by decide +kernel)) ⟨by decide +kernel, rfl⟩ (fun _ => ⟨rfl, rfl⟩) (show 10 < 16 by decide) rfl (show decode cX2_init 36 = .ok (.putfield 23, 3) by decide +kernel) ?_
  refine kw_aloadn (j := 0) (x := F) rfl (show decode cX2_init 39 = .ok (.aload_n 0, 1) by decide +kernel) ?_
  refine kw_bipush (v := 10) rfl (show decode cX2_init 40 = .ok (.bipush 10, 2) by decide +kernel) ?_
  refine kw_newa (t := F + 15) (atype := .int) (ti := 0) (N' := 10) (a0 := (10, .inl (kz.1 (F + 15)))) hB (by omega) (by omega) (by decide) (jGw_of 438 (by decide +kernel) (by decide +kernel)) rfl (kz_c c15) (fun cA => kz_i (fun _ => rfl)) (by decide) (by decide) (by decide) (by decide) (by decide) (show decode cX2_init 42 = .ok (.newarray .int, 2) by decide +kernel) ?_
  refine kw_putF (t := F + 16) (j := 26) (c9 := F + 15) (T9 := TX2) (f := 11) (ty := .array .int) hB (by omega) (by omega) e1 jcls_X2 (by decide) (jGw_of 393 (by decide +kernel) (by decide +kernel)) ⟨by decide +kernel, rfl⟩ (fun _ => ⟨rfl, rfl⟩) (show 11 < 16 by decide) rfl (show decode cX2_init 44 = .ok (.putfield 26, 3) by decide +kernel) ?_
  refine kw_aloadn (j := 0) (x := F) rfl (show decode cX2_init 47 = .ok (.aload_n 0, 1) by decide +kernel) ?_
  refine kw_bipush (v := 10) rfl (show decode cX2_init 48 = .ok (.bipush 10, 2) by decide +kernel) ?_
  refine kw_newa (t := F + 16) (atype := .int) (ti := 0) (N' := 10) (a0 := (10, .inl (kz.1 (F + 16)))) hB (by omega) (by omega) (by decide) (jGw_of 438 (by decide +kernel) (by decide +kernel)) rfl (kz_c c16) (fun cA => kz_i (fun _ => rfl)) (by decide) (by decide) (by decide) (by decide) (by decide) (show decode cX2_init 50 = .ok (.newarray .int, 2) by decide +kernel) ?_
  refine kw_putF (t := F + 17) (j := 29) (c9 := F + 16) (T9 := TX2) (f := 12) (ty := .array .int) hB (by omega) (by omega) e1 jcls_X2 (by decide) (jGw_of 395 (by decide +kernel) (by decide +kernel)) ⟨by decide +kernel, rfl⟩ (fun _ => ⟨rfl, rfl⟩) (show 12 < 16 by decide) rfl (show decode cX2_init 52 = .ok (.putfield 29, 3) by decide +kernel) ?_
  refine kw_aloadn (j := 0) (x := F) rfl (show decode cX2_init 55 = .ok (.aload_n 0, 1) by decide +kernel) ?_
  refine kw_bipush (v := 10) rfl (show decode cX2_init 56 = .ok (.bipush 10, 2) by decide +kernel) ?_
  refine kw_newa (t := F + 17) (atype := .int) (ti := 0) (N' := 10) (a0 := (10, .inl (kz.1 (F + 17)))) hB (by omega) (by omega) (by decide) (jGw_of 438 (by decide +kernel) (by decide +kernel)) rfl (kz_c c17) (fun cA => kz_i (fun _ => rfl)) (by decide) (by decide) (by decide) (by decide) (by decide) (show decode cX2_init 58 = .ok (.newarray .int, 2) by decide +kernel) ?_
  refine kw_putF (t := F + 18) (j := 32) (c9 := F + 17) (T9 := TX2) (f := 13) (ty := .array .int) hB (by omega) (by omega) e1 jcls_X2 (by decide) (jGw_of 398 (by decide +kernel) (by decide +kernel)) ⟨by decide +kernel, rfl⟩ (fun _ => ⟨rfl, rfl⟩) (show 13 < 16 by decide) rfl (show decode cX2_init 60 = .ok (.putfield 32, 3) by decide +kernel) ?_
  refine kw_aloadn (j := 0) (x := F) rfl (show decode cX2_init 63 = .ok (.aload_n 0, 1) by decide +kernel) ?_
  refine kw_bipush (v := 10) rfl (show decode cX2_init 64 = .ok (.bipush 10, 2) by decide +kernel) ?_
  refine kw_newa (t := F + 18) (atype := .int) (ti := 0) (N' := 10) (a0 := (10, .inl (kz.1 (F + 18)))) hB (by omega) (by omega) (by decide) (jGw_of 438 (by decide +kernel) (by decide +kernel)) rfl (kz_c c18) (fun cA => kz_i (fun _ => rfl)) (by decide) (by decide) (by decide) (by decide) (by decide) (show decode cX2_init 66 = .ok (.newarray .int, 2) by decide +kernel) ?_
  refine kw_putF (t := F + 19) (j := 35) (c9 := F + 18) (T9 := TX2) (f := 14) (ty := .array .int) hB (by omega) (by omega) e1 jcls_X2 (by decide) (jGw_of 400 (by decide +kernel) (by decide +kernel)) ⟨by decide +kernel, rfl⟩ (fun _ => ⟨rfl, rfl⟩) (show 14 < 16 by decide) rfl (show decode cX2_init 68 = .ok (.putfield 35, 3) by decide +kernel) ?_
  refine kw_aloadn (j := 0) (x := F) rfl (show decode cX2_init 71 = .ok (.aload_n 0, 1) by decide +kernel) ?_
  refine kw_bipush (v := 10) rfl (show decode cX2_init 72 = .ok (.bipush 10, 2) by decide +kernel) ?_
  refine kw_newa (t := F + 19) (atype := .int) (ti := 0) (N' := 10) (a0 := (10, .inl (kz.1 (F + 19)))) hB (by omega) (by omega) (by decide) (jGw_of 438 (by decide +kernel) (by decide +kernel)) rfl (kz_c c19) (fun cA => kz_i (fun _ => rfl)) (by decide) (by decide) (by decide) (by decide) (by decide) (show decode cX2_init 74 = .ok (.newarray .int, 2) by decide +kernel) ?_
  refine kw_putF (t := F + 20) (j := 38) (c9 := F + 19) (T9 := TX2) (f := 15) (ty := .array .int) hB (by omega) (by omega) e1 jcls_X2 (by decide) (jGw_of 403 (by decide +kernel) (by decide +kernel)) ⟨by decide +kernel, rfl⟩ (fun _ => ⟨rfl, rfl⟩) (show 15 < 16 by decide) rfl (show decode cX2_init 76 = .ok (.putfield 38, 3) by decide +kernel) ?_
  refine kw_aloadn (j := 0) (x := F) rfl (show decode cX2_init 79 = .ok (.aload_n 0, 1) by decide +kernel) ?_
  refine kw_callV (mt' := mX2_empty) (n' := 1) (t := F + 20) (fs1 := kFf F) (τ := kFe F) (as := []) (r := []) hB (by omega) hN kX2_41 WX2_empty e1 jcls_X2.1 rfl ⟨by decide, by decide⟩ rfl (by decide) ⟨by decide, by decide⟩ (show decode cX2_init 80 = .ok (.invokevirtual 41, 3) by decide +kernel) (KM_empty hB hF) ?_
  refine kw_cong (fun k h1 h2 => (jcell_cong (funext fun j => (kFL_z hF h1 h2 j).symm) rfl rfl)) ?_
  exact kw_ret rfl hB rfl (by decide) hN rfl rfl (by rw [e0]) (by rw [e0]; exact kFL_f g hF) (show decode cX2_init 83 = .ok (.return_, 1) by decide +kernel)
theorem KC_4 {g : jG} {h0 : Nat} (hB : kB g h0) : kCon g h0 2 mX2_init 4 20 143 s0 := KC_F hB (by decide)
theorem KC_37 {g : jG} {h0 : Nat} (hB : kB g h0) : kCon g h0 2 mX2_init 37 20 143 s0 := KC_F hB (by decide)
theorem KC_59 {g : jG} {h0 : Nat} (hB : kB g h0) : kCon g h0 2 mX2_init 59 20 143 s0 := KC_F hB (by decide)
theorem KC_79 {g : jG} {h0 : Nat} (hB : kB g h0) : kCon g h0 2 mX2_init 79 20 143 s0 := KC_F hB (by decide)
theorem KC_99 {g : jG} {h0 : Nat} (hB : kB g h0) : kCon g h0 2 mX2_init 99 20 143 s0 := KC_F hB (by decide)
theorem KC_119 {g : jG} {h0 : Nat} (hB : kB g h0) : kCon g h0 2 mX2_init 119 20 143 s0 := KC_F hB (by decide)
theorem KC_139 {g : jG} {h0 : Nat} (hB : kB g h0) : kCon g h0 2 mX2_init 139 20 143 s0 := KC_F hB (by decide)
theorem KC_159 {g : jG} {h0 : Nat} (hB : kB g h0) : kCon g h0 2 mX2_init 159 20 143 s0 := KC_F hB (by decide)
theorem KC_179 {g : jG} {h0 : Nat} (hB : kB g h0) : kCon g h0 2 mX2_init 179 20 143 s0 := KC_F hB (by decide)
theorem KC_199 {g : jG} {h0 : Nat} (hB : kB g h0) : kCon g h0 2 mX2_init 199 20 143 s0 := KC_F hB (by decide)
theorem KC_219 {g : jG} {h0 : Nat} (hB : kB g h0) : kCon g h0 2 mX2_init 219 20 143 s0 := KC_F hB (by decide)
theorem KC_239 {g : jG} {h0 : Nat} (hB : kB g h0) : kCon g h0 2 mX2_init 239 20 143 s0 := KC_F hB (by decide)
