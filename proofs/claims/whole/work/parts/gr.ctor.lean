/-! newborn: the reference's begin, and its constructor -/
def kb (k : Nat) : jM := (fun a j => if a = 323 then (if j = 0 then 2 else if 8 ≤ j ∧ (j - 8) % 20 = 2 ∧ j < 8 + 20 * k then -1 else 0) else 0, fun _ _ => 0, fun _ _ => 0)
def kb9 : jM := (fun a j => if a = 323 then (if j < 208 then bgR j else 0) else 0, fun _ _ => 0, fun _ _ => 0)
theorem kz_up (a k : Nat) : jup kz a k 0 = kz := by
  unfold jup kz
  refine Prod.ext ?_ rfl
  funext i j
  dsimp only
  split <;> rfl
theorem kb_0 : jup kz 323 0 2 = kb 0 := by
  unfold jup kz kb
  refine Prod.ext ?_ rfl
  funext i j
  dsimp only
  repeat' split
  all_goals first | rfl | (exfalso; omega)
theorem kb_s (k : Nat) : jup (kb k) 323 (8 + 20 * k + 2) (-1) = kb (k + 1) := by
  unfold jup kb
  refine Prod.ext ?_ rfl
  funext i j
  dsimp only
  repeat' split
  all_goals first | rfl | (exfalso; omega)
theorem kb_e : kb 10 = kb9 := by
  unfold kb kb9 bgR
  refine Prod.ext ?_ rfl
  funext i j
  dsimp only
  repeat' split
  all_goals first | rfl | (exfalso; omega)
set_option maxHeartbeats 4000000 in
theorem KM_begin {g : jG} {h0 : Nat} (hB : kB g h0) {fs : List Value} : kMe g h0 0 mX12_begin [.ref 323] 322 352 fs fs kz kb9 := by
  have hj : jN = 354 := rfl
  refine kMe.of (by decide +kernel) (by simp [lg_sl, Value.category]) (by omega) ?_
  refine kw_iconst (v := 0) rfl (show decode cX12_begin 0 = .ok (.iconst 0, 1) by decide +kernel) ?_
  refine kw_istoren (j := 1) (by decide) (show decode cX12_begin 1 = .ok (.istore_n 1, 1) by decide +kernel) ?_
  refine (show kW g h0 (krm 0 0 0) mX12_begin 322 (kMR g h0 322 352 fs kb9) 0 0 2 [(0, .ref 323), (1, .int (nI 0))] [] 352 fs kz → _ from fun h => h) ?_
  refine jloop (P := fun k => kW g h0 (krm 0 0 0) mX12_begin 322 (kMR g h0 322 352 fs kb9) 0 0 2 [(0, .ref 323), (1, .int (nI k))] [] 352 fs kz) (N := 208) ?_ (fun k hk ih => ?_)
  · refine kw_iloadn (j := 1) (x := nI 208) rfl (show decode cX12_begin 2 = .ok (.iload_n 1, 1) by decide +kernel) ?_
    refine kw_sipush (v := 208) rfl (show decode cX12_begin 3 = .ok (.sipush 208, 3) by decide +kernel) ?_
    refine kw_icmp (tg := 19) (show decode cX12_begin 6 = .ok (.if_icmp .ge 13, 3) by decide +kernel) (by decide) ⟨fun _ => ?_, fun h => absurd h (by decide)⟩
    refine kw_aloadn (j := 0) (x := 323) rfl (show decode cX12_begin 19 = .ok (.aload_n 0, 1) by decide +kernel) ?_
    refine kw_iconst (v := 0) rfl (show decode cX12_begin 20 = .ok (.iconst 0, 1) by decide +kernel) ?_
    refine kw_iconst (v := 2) rfl (show decode cX12_begin 21 = .ok (.iconst 2, 1) by decide +kernel) ?_
    refine kw_iast hB (by omega) (by decide) (by decide) (by decide +kernel) ⟨by decide, by decide +kernel⟩ (show decode cX12_begin 22 = .ok (.iastore, 1) by decide +kernel) ?_
    rw [show (0 : Int32).toNatClampNeg = 0 from by decide, kb_0]
    refine kw_iconst (v := 0) rfl (show decode cX12_begin 23 = .ok (.iconst 0, 1) by decide +kernel) ?_
    refine kw_istoren (j := 1) (by decide) (show decode cX12_begin 24 = .ok (.istore_n 1, 1) by decide +kernel) ?_
    refine (show kW g h0 (krm 0 0 0) mX12_begin 322 (kMR g h0 322 352 fs kb9) 0 0 25 [(0, .ref 323), (1, .int (nI 0))] [] 352 fs (kb 0) → _ from fun h => h) ?_
    refine jloop (P := fun k => kW g h0 (krm 0 0 0) mX12_begin 322 (kMR g h0 322 352 fs kb9) 0 0 25 [(0, .ref 323), (1, .int (nI k))] [] 352 fs (kb k)) (N := 10) ?_ (fun k hk ih => ?_)
    · refine kw_iloadn (j := 1) (x := nI 10) rfl (show decode cX12_begin 25 = .ok (.iload_n 1, 1) by decide +kernel) ?_
      refine kw_bipush (v := 10) rfl (show decode cX12_begin 26 = .ok (.bipush 10, 2) by decide +kernel) ?_
      refine kw_icmp (tg := 49) (show decode cX12_begin 28 = .ok (.if_icmp .ge 21, 3) by decide +kernel) (by decide) ⟨fun _ => ?_, fun h => absurd h (by decide)⟩
      rw [kb_e]
      exact kw_mret rfl (show decode cX12_begin 49 = .ok (.return_, 1) by decide +kernel)
    · refine kw_iloadn (j := 1) (x := nI k) rfl (show decode cX12_begin 25 = .ok (.iload_n 1, 1) by decide +kernel) ?_
      refine kw_bipush (v := 10) rfl (show decode cX12_begin 26 = .ok (.bipush 10, 2) by decide +kernel) ?_
      refine kw_icmp (tg := 49) (show decode cX12_begin 28 = .ok (.if_icmp .ge 21, 3) by decide +kernel) (by decide) ⟨fun h => absurd ((NL_10.2.2.2.1 k (by omega)).mpr hk) h, fun _ => ?_⟩
      refine kw_aloadn (j := 0) (x := 323) rfl (show decode cX12_begin 31 = .ok (.aload_n 0, 1) by decide +kernel) ?_
      refine kw_bipush (v := 8) rfl (show decode cX12_begin 32 = .ok (.bipush 8, 2) by decide +kernel) ?_
      refine kw_bipush (v := 20) rfl (show decode cX12_begin 34 = .ok (.bipush 20, 2) by decide +kernel) ?_
      refine kw_iloadn (j := 1) (x := nI k) rfl (show decode cX12_begin 36 = .ok (.iload_n 1, 1) by decide +kernel) ?_
      refine kw_imul (show decode cX12_begin 37 = .ok (.imul, 1) by decide +kernel) ?_
      refine kw_iadd (show decode cX12_begin 38 = .ok (.iadd, 1) by decide +kernel) ?_
      refine kw_iconst (v := 2) rfl (show decode cX12_begin 39 = .ok (.iconst 2, 1) by decide +kernel) ?_
      refine kw_iadd (show decode cX12_begin 40 = .ok (.iadd, 1) by decide +kernel) ?_
      refine kw_iconst (v := -1) rfl (show decode cX12_begin 41 = .ok (.iconst (-1), 1) by decide +kernel) ?_
      rw [show (20 : Int32) * nI k = nI (20 * k) from pk_mul 20 k, show (8 : Int32) + nI (20 * k) = nI (8 + 20 * k) from nI_add 8 _, show nI (8 + 20 * k) + (2 : Int32) = nI (8 + 20 * k + 2) from nI_add _ 2]
      refine kw_iast hB (by omega) (by decide) (by decide) (by decide +kernel) (jin_nI (n := 208) (by omega) (by decide)) (show decode cX12_begin 42 = .ok (.iastore, 1) by decide +kernel) ?_
      rw [nI_clamp (show 8 + 20 * k + 2 < 2 ^ 31 by omega), kb_s]
      refine kw_iinc (j := 1) (x := nI k) (v := 1) rfl rfl (by decide) (show decode cX12_begin 43 = .ok (.iinc 1 1, 3) by decide +kernel) ?_
      refine kw_goto (tg := 25) (show decode cX12_begin 46 = .ok (.goto (-21), 3) by decide +kernel) (by decide) ?_
      rw [nI_1]
      exact ih
  · refine kw_iloadn (j := 1) (x := nI k) rfl (show decode cX12_begin 2 = .ok (.iload_n 1, 1) by decide +kernel) ?_
    refine kw_sipush (v := 208) rfl (show decode cX12_begin 3 = .ok (.sipush 208, 3) by decide +kernel) ?_
    refine kw_icmp (tg := 19) (show decode cX12_begin 6 = .ok (.if_icmp .ge 13, 3) by decide +kernel) (by decide) ⟨fun h => absurd ((NL_208.2.2.2.1 k (by omega)).mpr hk) h, fun _ => ?_⟩
    refine kw_aloadn (j := 0) (x := 323) rfl (show decode cX12_begin 9 = .ok (.aload_n 0, 1) by decide +kernel) ?_
    refine kw_iloadn (j := 1) (x := nI k) rfl (show decode cX12_begin 10 = .ok (.iload_n 1, 1) by decide +kernel) ?_
    refine kw_iconst (v := 0) rfl (show decode cX12_begin 11 = .ok (.iconst 0, 1) by decide +kernel) ?_
    refine kw_iast hB (by omega) (by decide) (by decide) (by decide +kernel) (jin_nI (n := 208) (by omega) (by decide)) (show decode cX12_begin 12 = .ok (.iastore, 1) by decide +kernel) ?_
    rw [nI_clamp (show k < 2 ^ 31 by omega), kz_up]
    refine kw_iinc (j := 1) (x := nI k) (v := 1) rfl rfl (by decide) (show decode cX12_begin 13 = .ok (.iinc 1 1, 3) by decide +kernel) ?_
    refine kw_goto (tg := 2) (show decode cX12_begin 16 = .ok (.goto (-14), 3) by decide +kernel) (by decide) ?_
    rw [nI_1]
    exact ih
theorem kb9_z {k : Nat} (h1 : 322 < k) (h2 : k < 352) (j : Nat) : kb9.1 k j = s0.1 k j := by
  show (if k = 323 then (if j < 208 then bgR j else 0) else (0 : Int32)) = z0 k j
  unfold z0
  by_cases h : k = 323
  · rw [if_pos h, if_pos h]
  · rw [if_neg h, if_neg h]
    repeat' split
    all_goals first | rfl | (exfalso; omega)
set_option maxRecDepth 100000 in
set_option maxHeartbeats 8000000 in
theorem KC_322 {g : jG} {h0 : Nat} (hB : kB g h0) : kCon g h0 1 mX12_init 322 30 4151 s0 := by
  refine kCon.of (τ := kz) (by decide +kernel) (by decide) hB (by decide) ?_
  refine kw_aloadn (j := 0) rfl (show decode cX12_init 0 = .ok (.aload_n 0, 1) by decide +kernel) ?_
  refine kw_objInit (i := 1) (jGw_of 1479 (by decide +kernel) (by decide +kernel)) ⟨by decide, by decide⟩ (by simp [Value.category]) (show decode cX12_init 1 = .ok (.invokespecial 1, 3) by decide +kernel) ?_
  refine kw_aloadn (j := 0) rfl (show decode cX12_init 4 = .ok (.aload_n 0, 1) by decide +kernel) ?_
  refine kw_sipush (v := 208) rfl (show decode cX12_init 5 = .ok (.sipush 208, 3) by decide +kernel) ?_
  refine kw_newa (atype := .int) (ti := 0) (N' := 208) (a0 := (208, .inl (kz.1 323))) hB (by decide) (by decide) (by decide) (jGw_of 258 (by decide +kernel) (by decide +kernel)) rfl (jcell_1 (show (jshp 323).1 = 1 by decide +kernel)) (fun cA => kz_i (fun j => by rfl)) (by decide) (by decide) (by decide) (by decide) (by decide) (show decode cX12_init 8 = .ok (.newarray .int, 2) by decide +kernel) ?_
  refine kw_putF (j := 7) (c9 := 323) (T9 := TX12) (f := 0) (ty := .array .int) hB (by decide) (by decide) (show (jshp 322).2.1 = 12 by decide +kernel) jcls_X12 (by decide) (jGw_of 1483 (by decide +kernel) (by decide +kernel)) ⟨by decide +kernel, rfl⟩ (fun _ => ⟨rfl, rfl⟩) (by decide +kernel) rfl (show decode cX12_init 10 = .ok (.putfield 7, 3) by decide +kernel) ?_
  refine kw_aloadn (j := 0) rfl (show decode cX12_init 13 = .ok (.aload_n 0, 1) by decide +kernel) ?_
  refine kw_sipush (v := 2080) rfl (show decode cX12_init 14 = .ok (.sipush 2080, 3) by decide +kernel) ?_
  refine kw_newa (atype := .int) (ti := 0) (N' := 2080) (a0 := (2080, .inl (kz.1 324))) hB (by decide) (by decide) (by decide) (jGw_of 258 (by decide +kernel) (by decide +kernel)) rfl (jcell_1 (show (jshp 324).1 = 1 by decide +kernel)) (fun cA => kz_i (fun j => by rfl)) (by decide) (by decide) (by decide) (by decide) (by decide) (show decode cX12_init 17 = .ok (.newarray .int, 2) by decide +kernel) ?_
  refine kw_putF (j := 13) (c9 := 324) (T9 := TX12) (f := 1) (ty := .array .int) hB (by decide) (by decide) (show (jshp 322).2.1 = 12 by decide +kernel) jcls_X12 (by decide) (jGw_of 1484 (by decide +kernel) (by decide +kernel)) ⟨by decide +kernel, rfl⟩ (fun _ => ⟨rfl, rfl⟩) (by decide +kernel) rfl (show decode cX12_init 19 = .ok (.putfield 13, 3) by decide +kernel) ?_
  refine kw_aloadn (j := 0) rfl (show decode cX12_init 22 = .ok (.aload_n 0, 1) by decide +kernel) ?_
  refine kw_bipush (v := 6) rfl (show decode cX12_init 23 = .ok (.bipush 6, 2) by decide +kernel) ?_
  refine kw_newa (atype := .int) (ti := 0) (N' := 6) (a0 := (6, .inl (kz.1 325))) hB (by decide) (by decide) (by decide) (jGw_of 258 (by decide +kernel) (by decide +kernel)) rfl (jcell_1 (show (jshp 325).1 = 1 by decide +kernel)) (fun cA => kz_i (fun j => by rfl)) (by decide) (by decide) (by decide) (by decide) (by decide) (show decode cX12_init 25 = .ok (.newarray .int, 2) by decide +kernel) ?_
  refine kw_putF (j := 16) (c9 := 325) (T9 := TX12) (f := 6) (ty := .array .int) hB (by decide) (by decide) (show (jshp 322).2.1 = 12 by decide +kernel) jcls_X12 (by decide) (jGw_of 1489 (by decide +kernel) (by decide +kernel)) ⟨by decide +kernel, rfl⟩ (fun _ => ⟨rfl, rfl⟩) (by decide +kernel) rfl (show decode cX12_init 27 = .ok (.putfield 16, 3) by decide +kernel) ?_
  refine kw_aloadn (j := 0) rfl (show decode cX12_init 30 = .ok (.aload_n 0, 1) by decide +kernel) ?_
  refine kw_bipush (v := 10) rfl (show decode cX12_init 31 = .ok (.bipush 10, 2) by decide +kernel) ?_
  refine kw_newa (atype := .int) (ti := 0) (N' := 10) (a0 := (10, .inl (kz.1 326))) hB (by decide) (by decide) (by decide) (jGw_of 258 (by decide +kernel) (by decide +kernel)) rfl (jcell_1 (show (jshp 326).1 = 1 by decide +kernel)) (fun cA => kz_i (fun j => by rfl)) (by decide) (by decide) (by decide) (by decide) (by decide) (show decode cX12_init 33 = .ok (.newarray .int, 2) by decide +kernel) ?_
  refine kw_putF (j := 19) (c9 := 326) (T9 := TX12) (f := 7) (ty := .array .int) hB (by decide) (by decide) (show (jshp 322).2.1 = 12 by decide +kernel) jcls_X12 (by decide) (jGw_of 1490 (by decide +kernel) (by decide +kernel)) ⟨by decide +kernel, rfl⟩ (fun _ => ⟨rfl, rfl⟩) (by decide +kernel) rfl (show decode cX12_init 35 = .ok (.putfield 19, 3) by decide +kernel) ?_
  refine kw_aloadn (j := 0) rfl (show decode cX12_init 38 = .ok (.aload_n 0, 1) by decide +kernel) ?_
  refine kw_bipush (v := 20) rfl (show decode cX12_init 39 = .ok (.bipush 20, 2) by decide +kernel) ?_
  refine kw_newa (atype := .int) (ti := 0) (N' := 20) (a0 := (20, .inl (kz.1 327))) hB (by decide) (by decide) (by decide) (jGw_of 258 (by decide +kernel) (by decide +kernel)) rfl (jcell_1 (show (jshp 327).1 = 1 by decide +kernel)) (fun cA => kz_i (fun j => by rfl)) (by decide) (by decide) (by decide) (by decide) (by decide) (show decode cX12_init 41 = .ok (.newarray .int, 2) by decide +kernel) ?_
  refine kw_putF (j := 22) (c9 := 327) (T9 := TX12) (f := 8) (ty := .array .int) hB (by decide) (by decide) (show (jshp 322).2.1 = 12 by decide +kernel) jcls_X12 (by decide) (jGw_of 1491 (by decide +kernel) (by decide +kernel)) ⟨by decide +kernel, rfl⟩ (fun _ => ⟨rfl, rfl⟩) (by decide +kernel) rfl (show decode cX12_init 43 = .ok (.putfield 22, 3) by decide +kernel) ?_
  refine kw_aloadn (j := 0) rfl (show decode cX12_init 46 = .ok (.aload_n 0, 1) by decide +kernel) ?_
  refine kw_bipush (v := 20) rfl (show decode cX12_init 47 = .ok (.bipush 20, 2) by decide +kernel) ?_
  refine kw_newa (atype := .int) (ti := 0) (N' := 20) (a0 := (20, .inl (kz.1 328))) hB (by decide) (by decide) (by decide) (jGw_of 258 (by decide +kernel) (by decide +kernel)) rfl (jcell_1 (show (jshp 328).1 = 1 by decide +kernel)) (fun cA => kz_i (fun j => by rfl)) (by decide) (by decide) (by decide) (by decide) (by decide) (show decode cX12_init 49 = .ok (.newarray .int, 2) by decide +kernel) ?_
  refine kw_putF (j := 25) (c9 := 328) (T9 := TX12) (f := 9) (ty := .array .int) hB (by decide) (by decide) (show (jshp 322).2.1 = 12 by decide +kernel) jcls_X12 (by decide) (jGw_of 1492 (by decide +kernel) (by decide +kernel)) ⟨by decide +kernel, rfl⟩ (fun _ => ⟨rfl, rfl⟩) (by decide +kernel) rfl (show decode cX12_init 51 = .ok (.putfield 25, 3) by decide +kernel) ?_
  refine kw_aloadn (j := 0) rfl (show decode cX12_init 54 = .ok (.aload_n 0, 1) by decide +kernel) ?_
  refine kw_bipush (v := 20) rfl (show decode cX12_init 55 = .ok (.bipush 20, 2) by decide +kernel) ?_
  refine kw_newa (atype := .int) (ti := 0) (N' := 20) (a0 := (20, .inl (kz.1 329))) hB (by decide) (by decide) (by decide) (jGw_of 258 (by decide +kernel) (by decide +kernel)) rfl (jcell_1 (show (jshp 329).1 = 1 by decide +kernel)) (fun cA => kz_i (fun j => by rfl)) (by decide) (by decide) (by decide) (by decide) (by decide) (show decode cX12_init 57 = .ok (.newarray .int, 2) by decide +kernel) ?_
  refine kw_putF (j := 28) (c9 := 329) (T9 := TX12) (f := 10) (ty := .array .int) hB (by decide) (by decide) (show (jshp 322).2.1 = 12 by decide +kernel) jcls_X12 (by decide) (jGw_of 1493 (by decide +kernel) (by decide +kernel)) ⟨by decide +kernel, rfl⟩ (fun _ => ⟨rfl, rfl⟩) (by decide +kernel) rfl (show decode cX12_init 59 = .ok (.putfield 28, 3) by decide +kernel) ?_
  refine kw_aloadn (j := 0) rfl (show decode cX12_init 62 = .ok (.aload_n 0, 1) by decide +kernel) ?_
  refine kw_bipush (v := 10) rfl (show decode cX12_init 63 = .ok (.bipush 10, 2) by decide +kernel) ?_
  refine kw_newa (atype := .int) (ti := 0) (N' := 10) (a0 := (10, .inl (kz.1 330))) hB (by decide) (by decide) (by decide) (jGw_of 258 (by decide +kernel) (by decide +kernel)) rfl (jcell_1 (show (jshp 330).1 = 1 by decide +kernel)) (fun cA => kz_i (fun j => by rfl)) (by decide) (by decide) (by decide) (by decide) (by decide) (show decode cX12_init 65 = .ok (.newarray .int, 2) by decide +kernel) ?_
  refine kw_putF (j := 31) (c9 := 330) (T9 := TX12) (f := 12) (ty := .array .int) hB (by decide) (by decide) (show (jshp 322).2.1 = 12 by decide +kernel) jcls_X12 (by decide) (jGw_of 1495 (by decide +kernel) (by decide +kernel)) ⟨by decide +kernel, rfl⟩ (fun _ => ⟨rfl, rfl⟩) (by decide +kernel) rfl (show decode cX12_init 67 = .ok (.putfield 31, 3) by decide +kernel) ?_
  refine kw_aloadn (j := 0) rfl (show decode cX12_init 70 = .ok (.aload_n 0, 1) by decide +kernel) ?_
  refine kw_bipush (v := 10) rfl (show decode cX12_init 71 = .ok (.bipush 10, 2) by decide +kernel) ?_
  refine kw_newa (atype := .int) (ti := 0) (N' := 10) (a0 := (10, .inl (kz.1 331))) hB (by decide) (by decide) (by decide) (jGw_of 258 (by decide +kernel) (by decide +kernel)) rfl (jcell_1 (show (jshp 331).1 = 1 by decide +kernel)) (fun cA => kz_i (fun j => by rfl)) (by decide) (by decide) (by decide) (by decide) (by decide) (show decode cX12_init 73 = .ok (.newarray .int, 2) by decide +kernel) ?_
  refine kw_putF (j := 34) (c9 := 331) (T9 := TX12) (f := 13) (ty := .array .int) hB (by decide) (by decide) (show (jshp 322).2.1 = 12 by decide +kernel) jcls_X12 (by decide) (jGw_of 1496 (by decide +kernel) (by decide +kernel)) ⟨by decide +kernel, rfl⟩ (fun _ => ⟨rfl, rfl⟩) (by decide +kernel) rfl (show decode cX12_init 75 = .ok (.putfield 34, 3) by decide +kernel) ?_
  refine kw_aloadn (j := 0) rfl (show decode cX12_init 78 = .ok (.aload_n 0, 1) by decide +kernel) ?_
  refine kw_bipush (v := 10) rfl (show decode cX12_init 79 = .ok (.bipush 10, 2) by decide +kernel) ?_
  refine kw_newa (atype := .int) (ti := 0) (N' := 10) (a0 := (10, .inl (kz.1 332))) hB (by decide) (by decide) (by decide) (jGw_of 258 (by decide +kernel) (by decide +kernel)) rfl (jcell_1 (show (jshp 332).1 = 1 by decide +kernel)) (fun cA => kz_i (fun j => by rfl)) (by decide) (by decide) (by decide) (by decide) (by decide) (show decode cX12_init 81 = .ok (.newarray .int, 2) by decide +kernel) ?_
  refine kw_putF (j := 37) (c9 := 332) (T9 := TX12) (f := 16) (ty := .array .int) hB (by decide) (by decide) (show (jshp 322).2.1 = 12 by decide +kernel) jcls_X12 (by decide) (jGw_of 1499 (by decide +kernel) (by decide +kernel)) ⟨by decide +kernel, rfl⟩ (fun _ => ⟨rfl, rfl⟩) (by decide +kernel) rfl (show decode cX12_init 83 = .ok (.putfield 37, 3) by decide +kernel) ?_
  refine kw_aloadn (j := 0) rfl (show decode cX12_init 86 = .ok (.aload_n 0, 1) by decide +kernel) ?_
  refine kw_bipush (v := 10) rfl (show decode cX12_init 87 = .ok (.bipush 10, 2) by decide +kernel) ?_
  refine kw_newa (atype := .int) (ti := 0) (N' := 10) (a0 := (10, .inl (kz.1 333))) hB (by decide) (by decide) (by decide) (jGw_of 258 (by decide +kernel) (by decide +kernel)) rfl (jcell_1 (show (jshp 333).1 = 1 by decide +kernel)) (fun cA => kz_i (fun j => by rfl)) (by decide) (by decide) (by decide) (by decide) (by decide) (show decode cX12_init 89 = .ok (.newarray .int, 2) by decide +kernel) ?_
  refine kw_putF (j := 40) (c9 := 333) (T9 := TX12) (f := 17) (ty := .array .int) hB (by decide) (by decide) (show (jshp 322).2.1 = 12 by decide +kernel) jcls_X12 (by decide) (jGw_of 1500 (by decide +kernel) (by decide +kernel)) ⟨by decide +kernel, rfl⟩ (fun _ => ⟨rfl, rfl⟩) (by decide +kernel) rfl (show decode cX12_init 91 = .ok (.putfield 40, 3) by decide +kernel) ?_
  refine kw_aloadn (j := 0) rfl (show decode cX12_init 94 = .ok (.aload_n 0, 1) by decide +kernel) ?_
  refine kw_bipush (v := 10) rfl (show decode cX12_init 95 = .ok (.bipush 10, 2) by decide +kernel) ?_
  refine kw_newa (atype := .int) (ti := 0) (N' := 10) (a0 := (10, .inl (kz.1 334))) hB (by decide) (by decide) (by decide) (jGw_of 258 (by decide +kernel) (by decide +kernel)) rfl (jcell_1 (show (jshp 334).1 = 1 by decide +kernel)) (fun cA => kz_i (fun j => by rfl)) (by decide) (by decide) (by decide) (by decide) (by decide) (show decode cX12_init 97 = .ok (.newarray .int, 2) by decide +kernel) ?_
  refine kw_putF (j := 43) (c9 := 334) (T9 := TX12) (f := 18) (ty := .array .int) hB (by decide) (by decide) (show (jshp 322).2.1 = 12 by decide +kernel) jcls_X12 (by decide) (jGw_of 1501 (by decide +kernel) (by decide +kernel)) ⟨by decide +kernel, rfl⟩ (fun _ => ⟨rfl, rfl⟩) (by decide +kernel) rfl (show decode cX12_init 99 = .ok (.putfield 43, 3) by decide +kernel) ?_
  refine kw_aloadn (j := 0) rfl (show decode cX12_init 102 = .ok (.aload_n 0, 1) by decide +kernel) ?_
  refine kw_bipush (v := 10) rfl (show decode cX12_init 103 = .ok (.bipush 10, 2) by decide +kernel) ?_
  refine kw_newa (atype := .int) (ti := 0) (N' := 10) (a0 := (10, .inl (kz.1 335))) hB (by decide) (by decide) (by decide) (jGw_of 258 (by decide +kernel) (by decide +kernel)) rfl (jcell_1 (show (jshp 335).1 = 1 by decide +kernel)) (fun cA => kz_i (fun j => by rfl)) (by decide) (by decide) (by decide) (by decide) (by decide) (show decode cX12_init 105 = .ok (.newarray .int, 2) by decide +kernel) ?_
  refine kw_putF (j := 46) (c9 := 335) (T9 := TX12) (f := 19) (ty := .array .int) hB (by decide) (by decide) (show (jshp 322).2.1 = 12 by decide +kernel) jcls_X12 (by decide) (jGw_of 1502 (by decide +kernel) (by decide +kernel)) ⟨by decide +kernel, rfl⟩ (fun _ => ⟨rfl, rfl⟩) (by decide +kernel) rfl (show decode cX12_init 107 = .ok (.putfield 46, 3) by decide +kernel) ?_
  refine kw_aloadn (j := 0) rfl (show decode cX12_init 110 = .ok (.aload_n 0, 1) by decide +kernel) ?_
  refine kw_bipush (v := 10) rfl (show decode cX12_init 111 = .ok (.bipush 10, 2) by decide +kernel) ?_
  refine kw_newa (atype := .long) (ti := 4) (N' := 10) (a0 := (10, .inr (.inl (kz.2.1 336)))) hB (by decide) (by decide) (by decide) (jGw_of 403 (by decide +kernel) (by decide +kernel)) rfl (jcell_2 (show (jshp 336).1 = 2 by decide +kernel)) (fun cA => kz_l (fun j => rfl)) (by decide) (by decide) (by decide) (by decide) (by decide) (show decode cX12_init 113 = .ok (.newarray .long, 2) by decide +kernel) ?_
  refine kw_putF (j := 49) (c9 := 336) (T9 := TX12) (f := 20) (ty := .array .long) hB (by decide) (by decide) (show (jshp 322).2.1 = 12 by decide +kernel) jcls_X12 (by decide) (jGw_of 1503 (by decide +kernel) (by decide +kernel)) ⟨by decide +kernel, rfl⟩ (fun _ => ⟨rfl, rfl⟩) (by decide +kernel) rfl (show decode cX12_init 115 = .ok (.putfield 49, 3) by decide +kernel) ?_
  refine kw_aloadn (j := 0) rfl (show decode cX12_init 118 = .ok (.aload_n 0, 1) by decide +kernel) ?_
  refine kw_bipush (v := 10) rfl (show decode cX12_init 119 = .ok (.bipush 10, 2) by decide +kernel) ?_
  refine kw_newa (atype := .long) (ti := 4) (N' := 10) (a0 := (10, .inr (.inl (kz.2.1 337)))) hB (by decide) (by decide) (by decide) (jGw_of 403 (by decide +kernel) (by decide +kernel)) rfl (jcell_2 (show (jshp 337).1 = 2 by decide +kernel)) (fun cA => kz_l (fun j => rfl)) (by decide) (by decide) (by decide) (by decide) (by decide) (show decode cX12_init 121 = .ok (.newarray .long, 2) by decide +kernel) ?_
  refine kw_putF (j := 53) (c9 := 337) (T9 := TX12) (f := 21) (ty := .array .long) hB (by decide) (by decide) (show (jshp 322).2.1 = 12 by decide +kernel) jcls_X12 (by decide) (jGw_of 1504 (by decide +kernel) (by decide +kernel)) ⟨by decide +kernel, rfl⟩ (fun _ => ⟨rfl, rfl⟩) (by decide +kernel) rfl (show decode cX12_init 123 = .ok (.putfield 53, 3) by decide +kernel) ?_
  refine kw_aloadn (j := 0) rfl (show decode cX12_init 126 = .ok (.aload_n 0, 1) by decide +kernel) ?_
  refine kw_bipush (v := 10) rfl (show decode cX12_init 127 = .ok (.bipush 10, 2) by decide +kernel) ?_
  refine kw_newa (atype := .boolean) (ti := 3) (N' := 10) (a0 := (10, .inl (kz.1 338))) hB (by decide) (by decide) (by decide) (jGw_of 324 (by decide +kernel) (by decide +kernel)) rfl (jcell_1 (show (jshp 338).1 = 1 by decide +kernel)) (fun cA => kz_i (fun j => by rfl)) (by decide) (by decide) (by decide) (by decide) (by decide) (show decode cX12_init 129 = .ok (.newarray .boolean, 2) by decide +kernel) ?_
  refine kw_putF (j := 56) (c9 := 338) (T9 := TX12) (f := 22) (ty := .array .boolean) hB (by decide) (by decide) (show (jshp 322).2.1 = 12 by decide +kernel) jcls_X12 (by decide) (jGw_of 1505 (by decide +kernel) (by decide +kernel)) ⟨by decide +kernel, rfl⟩ (fun _ => ⟨rfl, rfl⟩) (by decide +kernel) rfl (show decode cX12_init 131 = .ok (.putfield 56, 3) by decide +kernel) ?_
  refine kw_aloadn (j := 0) rfl (show decode cX12_init 134 = .ok (.aload_n 0, 1) by decide +kernel) ?_
  refine kw_bipush (v := 10) rfl (show decode cX12_init 135 = .ok (.bipush 10, 2) by decide +kernel) ?_
  refine kw_newa (atype := .int) (ti := 0) (N' := 10) (a0 := (10, .inl (kz.1 339))) hB (by decide) (by decide) (by decide) (jGw_of 258 (by decide +kernel) (by decide +kernel)) rfl (jcell_1 (show (jshp 339).1 = 1 by decide +kernel)) (fun cA => kz_i (fun j => by rfl)) (by decide) (by decide) (by decide) (by decide) (by decide) (show decode cX12_init 137 = .ok (.newarray .int, 2) by decide +kernel) ?_
  refine kw_putF (j := 60) (c9 := 339) (T9 := TX12) (f := 23) (ty := .array .int) hB (by decide) (by decide) (show (jshp 322).2.1 = 12 by decide +kernel) jcls_X12 (by decide) (jGw_of 1506 (by decide +kernel) (by decide +kernel)) ⟨by decide +kernel, rfl⟩ (fun _ => ⟨rfl, rfl⟩) (by decide +kernel) rfl (show decode cX12_init 139 = .ok (.putfield 60, 3) by decide +kernel) ?_
  refine kw_aloadn (j := 0) rfl (show decode cX12_init 142 = .ok (.aload_n 0, 1) by decide +kernel) ?_
  refine kw_bipush (v := 10) rfl (show decode cX12_init 143 = .ok (.bipush 10, 2) by decide +kernel) ?_
  refine kw_newa (atype := .int) (ti := 0) (N' := 10) (a0 := (10, .inl (kz.1 340))) hB (by decide) (by decide) (by decide) (jGw_of 258 (by decide +kernel) (by decide +kernel)) rfl (jcell_1 (show (jshp 340).1 = 1 by decide +kernel)) (fun cA => kz_i (fun j => by rfl)) (by decide) (by decide) (by decide) (by decide) (by decide) (show decode cX12_init 145 = .ok (.newarray .int, 2) by decide +kernel) ?_
  refine kw_putF (j := 63) (c9 := 340) (T9 := TX12) (f := 24) (ty := .array .int) hB (by decide) (by decide) (show (jshp 322).2.1 = 12 by decide +kernel) jcls_X12 (by decide) (jGw_of 1507 (by decide +kernel) (by decide +kernel)) ⟨by decide +kernel, rfl⟩ (fun _ => ⟨rfl, rfl⟩) (by decide +kernel) rfl (show decode cX12_init 147 = .ok (.putfield 63, 3) by decide +kernel) ?_
  refine kw_aloadn (j := 0) rfl (show decode cX12_init 150 = .ok (.aload_n 0, 1) by decide +kernel) ?_
  refine kw_bipush (v := 11) rfl (show decode cX12_init 151 = .ok (.bipush 11, 2) by decide +kernel) ?_
  refine kw_newa (atype := .int) (ti := 0) (N' := 11) (a0 := (11, .inl (kz.1 341))) hB (by decide) (by decide) (by decide) (jGw_of 258 (by decide +kernel) (by decide +kernel)) rfl (jcell_1 (show (jshp 341).1 = 1 by decide +kernel)) (fun cA => kz_i (fun j => by rfl)) (by decide) (by decide) (by decide) (by decide) (by decide) (show decode cX12_init 153 = .ok (.newarray .int, 2) by decide +kernel) ?_
  refine kw_putF (j := 66) (c9 := 341) (T9 := TX12) (f := 25) (ty := .array .int) hB (by decide) (by decide) (show (jshp 322).2.1 = 12 by decide +kernel) jcls_X12 (by decide) (jGw_of 1508 (by decide +kernel) (by decide +kernel)) ⟨by decide +kernel, rfl⟩ (fun _ => ⟨rfl, rfl⟩) (by decide +kernel) rfl (show decode cX12_init 155 = .ok (.putfield 66, 3) by decide +kernel) ?_
  refine kw_aloadn (j := 0) rfl (show decode cX12_init 158 = .ok (.aload_n 0, 1) by decide +kernel) ?_
  refine kw_bipush (v := 10) rfl (show decode cX12_init 159 = .ok (.bipush 10, 2) by decide +kernel) ?_
  refine kw_newa (atype := .int) (ti := 0) (N' := 10) (a0 := (10, .inl (kz.1 342))) hB (by decide) (by decide) (by decide) (jGw_of 258 (by decide +kernel) (by decide +kernel)) rfl (jcell_1 (show (jshp 342).1 = 1 by decide +kernel)) (fun cA => kz_i (fun j => by rfl)) (by decide) (by decide) (by decide) (by decide) (by decide) (show decode cX12_init 161 = .ok (.newarray .int, 2) by decide +kernel) ?_
  refine kw_putF (j := 69) (c9 := 342) (T9 := TX12) (f := 26) (ty := .array .int) hB (by decide) (by decide) (show (jshp 322).2.1 = 12 by decide +kernel) jcls_X12 (by decide) (jGw_of 1509 (by decide +kernel) (by decide +kernel)) ⟨by decide +kernel, rfl⟩ (fun _ => ⟨rfl, rfl⟩) (by decide +kernel) rfl (show decode cX12_init 163 = .ok (.putfield 69, 3) by decide +kernel) ?_
  refine kw_aloadn (j := 0) rfl (show decode cX12_init 166 = .ok (.aload_n 0, 1) by decide +kernel) ?_
  refine kw_bipush (v := 24) rfl (show decode cX12_init 167 = .ok (.bipush 24, 2) by decide +kernel) ?_
  refine kw_newa (atype := .int) (ti := 0) (N' := 24) (a0 := (24, .inl (kz.1 343))) hB (by decide) (by decide) (by decide) (jGw_of 258 (by decide +kernel) (by decide +kernel)) rfl (jcell_1 (show (jshp 343).1 = 1 by decide +kernel)) (fun cA => kz_i (fun j => by rfl)) (by decide) (by decide) (by decide) (by decide) (by decide) (show decode cX12_init 169 = .ok (.newarray .int, 2) by decide +kernel) ?_
  refine kw_putF (j := 72) (c9 := 343) (T9 := TX12) (f := 27) (ty := .array .int) hB (by decide) (by decide) (show (jshp 322).2.1 = 12 by decide +kernel) jcls_X12 (by decide) (jGw_of 1510 (by decide +kernel) (by decide +kernel)) ⟨by decide +kernel, rfl⟩ (fun _ => ⟨rfl, rfl⟩) (by decide +kernel) rfl (show decode cX12_init 171 = .ok (.putfield 72, 3) by decide +kernel) ?_
  refine kw_aloadn (j := 0) rfl (show decode cX12_init 174 = .ok (.aload_n 0, 1) by decide +kernel) ?_
  refine kw_bipush (v := 24) rfl (show decode cX12_init 175 = .ok (.bipush 24, 2) by decide +kernel) ?_
  refine kw_newa (atype := .int) (ti := 0) (N' := 24) (a0 := (24, .inl (kz.1 344))) hB (by decide) (by decide) (by decide) (jGw_of 258 (by decide +kernel) (by decide +kernel)) rfl (jcell_1 (show (jshp 344).1 = 1 by decide +kernel)) (fun cA => kz_i (fun j => by rfl)) (by decide) (by decide) (by decide) (by decide) (by decide) (show decode cX12_init 177 = .ok (.newarray .int, 2) by decide +kernel) ?_
  refine kw_putF (j := 75) (c9 := 344) (T9 := TX12) (f := 28) (ty := .array .int) hB (by decide) (by decide) (show (jshp 322).2.1 = 12 by decide +kernel) jcls_X12 (by decide) (jGw_of 1511 (by decide +kernel) (by decide +kernel)) ⟨by decide +kernel, rfl⟩ (fun _ => ⟨rfl, rfl⟩) (by decide +kernel) rfl (show decode cX12_init 179 = .ok (.putfield 75, 3) by decide +kernel) ?_
  refine kw_aloadn (j := 0) rfl (show decode cX12_init 182 = .ok (.aload_n 0, 1) by decide +kernel) ?_
  refine kw_bipush (v := 24) rfl (show decode cX12_init 183 = .ok (.bipush 24, 2) by decide +kernel) ?_
  refine kw_newa (atype := .int) (ti := 0) (N' := 24) (a0 := (24, .inl (kz.1 345))) hB (by decide) (by decide) (by decide) (jGw_of 258 (by decide +kernel) (by decide +kernel)) rfl (jcell_1 (show (jshp 345).1 = 1 by decide +kernel)) (fun cA => kz_i (fun j => by rfl)) (by decide) (by decide) (by decide) (by decide) (by decide) (show decode cX12_init 185 = .ok (.newarray .int, 2) by decide +kernel) ?_
  refine kw_putF (j := 78) (c9 := 345) (T9 := TX12) (f := 29) (ty := .array .int) hB (by decide) (by decide) (show (jshp 322).2.1 = 12 by decide +kernel) jcls_X12 (by decide) (jGw_of 1512 (by decide +kernel) (by decide +kernel)) ⟨by decide +kernel, rfl⟩ (fun _ => ⟨rfl, rfl⟩) (by decide +kernel) rfl (show decode cX12_init 187 = .ok (.putfield 78, 3) by decide +kernel) ?_
  refine kw_aloadn (j := 0) rfl (show decode cX12_init 190 = .ok (.aload_n 0, 1) by decide +kernel) ?_
  refine kw_sipush (v := 900) rfl (show decode cX12_init 191 = .ok (.sipush 900, 3) by decide +kernel) ?_
  refine kw_newa (atype := .byte) (ti := 1) (N' := 900) (a0 := (900, .inl (kz.1 346))) hB (by decide) (by decide) (by decide) (jGw_of 161 (by decide +kernel) (by decide +kernel)) rfl (jcell_1 (show (jshp 346).1 = 1 by decide +kernel)) (fun cA => kz_i (fun j => by rfl)) (by decide) (by decide) (by decide) (by decide) (by decide) (show decode cX12_init 194 = .ok (.newarray .byte, 2) by decide +kernel) ?_
  refine kw_putF (j := 81) (c9 := 346) (T9 := TX12) (f := 31) (ty := .array .byte) hB (by decide) (by decide) (show (jshp 322).2.1 = 12 by decide +kernel) jcls_X12 (by decide) (jGw_of 1514 (by decide +kernel) (by decide +kernel)) ⟨by decide +kernel, rfl⟩ (fun _ => ⟨rfl, rfl⟩) (by decide +kernel) rfl (show decode cX12_init 196 = .ok (.putfield 81, 3) by decide +kernel) ?_
  refine kw_aloadn (j := 0) rfl (show decode cX12_init 199 = .ok (.aload_n 0, 1) by decide +kernel) ?_
  refine kw_iconst (v := -1) rfl (show decode cX12_init 200 = .ok (.iconst (-1), 1) by decide +kernel) ?_
  refine kw_puti (j := 85) (T9 := TX12) (f := 33) (ty := .int) hB (by decide) (by decide) (show (jshp 322).2.1 = 12 by decide +kernel) jcls_X12 (by decide) (jGw_of 1516 (by decide +kernel) (by decide +kernel)) ⟨by decide +kernel, rfl⟩ ⟨by decide, by decide⟩ (by decide +kernel) (show decode cX12_init 201 = .ok (.putfield 85, 3) by decide +kernel) ?_
  refine kw_aloadn (j := 0) rfl (show decode cX12_init 204 = .ok (.aload_n 0, 1) by decide +kernel) ?_
  refine kw_sipush (v := 208) rfl (show decode cX12_init 205 = .ok (.sipush 208, 3) by decide +kernel) ?_
  refine kw_newa (atype := .int) (ti := 0) (N' := 208) (a0 := (208, .inl (kz.1 347))) hB (by decide) (by decide) (by decide) (jGw_of 258 (by decide +kernel) (by decide +kernel)) rfl (jcell_1 (show (jshp 347).1 = 1 by decide +kernel)) (fun cA => kz_i (fun j => by rfl)) (by decide) (by decide) (by decide) (by decide) (by decide) (show decode cX12_init 208 = .ok (.newarray .int, 2) by decide +kernel) ?_
  refine kw_putF (j := 89) (c9 := 347) (T9 := TX12) (f := 42) (ty := .array .int) hB (by decide) (by decide) (show (jshp 322).2.1 = 12 by decide +kernel) jcls_X12 (by decide) (jGw_of 1525 (by decide +kernel) (by decide +kernel)) ⟨by decide +kernel, rfl⟩ (fun _ => ⟨rfl, rfl⟩) (by decide +kernel) rfl (show decode cX12_init 210 = .ok (.putfield 89, 3) by decide +kernel) ?_
  refine kw_aloadn (j := 0) rfl (show decode cX12_init 213 = .ok (.aload_n 0, 1) by decide +kernel) ?_
  refine kw_bipush (v := 6) rfl (show decode cX12_init 214 = .ok (.bipush 6, 2) by decide +kernel) ?_
  refine kw_newa (atype := .int) (ti := 0) (N' := 6) (a0 := (6, .inl (kz.1 348))) hB (by decide) (by decide) (by decide) (jGw_of 258 (by decide +kernel) (by decide +kernel)) rfl (jcell_1 (show (jshp 348).1 = 1 by decide +kernel)) (fun cA => kz_i (fun j => by rfl)) (by decide) (by decide) (by decide) (by decide) (by decide) (show decode cX12_init 216 = .ok (.newarray .int, 2) by decide +kernel) ?_
  refine kw_putF (j := 92) (c9 := 348) (T9 := TX12) (f := 46) (ty := .array .int) hB (by decide) (by decide) (show (jshp 322).2.1 = 12 by decide +kernel) jcls_X12 (by decide) (jGw_of 1529 (by decide +kernel) (by decide +kernel)) ⟨by decide +kernel, rfl⟩ (fun _ => ⟨rfl, rfl⟩) (by decide +kernel) rfl (show decode cX12_init 218 = .ok (.putfield 92, 3) by decide +kernel) ?_
  refine kw_aloadn (j := 0) rfl (show decode cX12_init 221 = .ok (.aload_n 0, 1) by decide +kernel) ?_
  refine kw_bipush (v := 10) rfl (show decode cX12_init 222 = .ok (.bipush 10, 2) by decide +kernel) ?_
  refine kw_newa (atype := .int) (ti := 0) (N' := 10) (a0 := (10, .inl (kz.1 349))) hB (by decide) (by decide) (by decide) (jGw_of 258 (by decide +kernel) (by decide +kernel)) rfl (jcell_1 (show (jshp 349).1 = 1 by decide +kernel)) (fun cA => kz_i (fun j => by rfl)) (by decide) (by decide) (by decide) (by decide) (by decide) (show decode cX12_init 224 = .ok (.newarray .int, 2) by decide +kernel) ?_
  refine kw_putF (j := 95) (c9 := 349) (T9 := TX12) (f := 47) (ty := .array .int) hB (by decide) (by decide) (show (jshp 322).2.1 = 12 by decide +kernel) jcls_X12 (by decide) (jGw_of 1530 (by decide +kernel) (by decide +kernel)) ⟨by decide +kernel, rfl⟩ (fun _ => ⟨rfl, rfl⟩) (by decide +kernel) rfl (show decode cX12_init 226 = .ok (.putfield 95, 3) by decide +kernel) ?_
  refine kw_aloadn (j := 0) rfl (show decode cX12_init 229 = .ok (.aload_n 0, 1) by decide +kernel) ?_
  refine kw_bipush (v := 60) rfl (show decode cX12_init 230 = .ok (.bipush 60, 2) by decide +kernel) ?_
  refine kw_newa (atype := .int) (ti := 0) (N' := 60) (a0 := (60, .inl (kz.1 350))) hB (by decide) (by decide) (by decide) (jGw_of 258 (by decide +kernel) (by decide +kernel)) rfl (jcell_1 (show (jshp 350).1 = 1 by decide +kernel)) (fun cA => kz_i (fun j => by rfl)) (by decide) (by decide) (by decide) (by decide) (by decide) (show decode cX12_init 232 = .ok (.newarray .int, 2) by decide +kernel) ?_
  refine kw_putF (j := 98) (c9 := 350) (T9 := TX12) (f := 48) (ty := .array .int) hB (by decide) (by decide) (show (jshp 322).2.1 = 12 by decide +kernel) jcls_X12 (by decide) (jGw_of 1531 (by decide +kernel) (by decide +kernel)) ⟨by decide +kernel, rfl⟩ (fun _ => ⟨rfl, rfl⟩) (by decide +kernel) rfl (show decode cX12_init 234 = .ok (.putfield 98, 3) by decide +kernel) ?_
  refine kw_aloadn (j := 0) rfl (show decode cX12_init 237 = .ok (.aload_n 0, 1) by decide +kernel) ?_
  refine kw_sipush (v := 400) rfl (show decode cX12_init 238 = .ok (.sipush 400, 3) by decide +kernel) ?_
  refine kw_newa (atype := .int) (ti := 0) (N' := 400) (a0 := (400, .inl (kz.1 351))) hB (by decide) (by decide) (by decide) (jGw_of 258 (by decide +kernel) (by decide +kernel)) rfl (jcell_1 (show (jshp 351).1 = 1 by decide +kernel)) (fun cA => kz_i (fun j => by rfl)) (by decide) (by decide) (by decide) (by decide) (by decide) (show decode cX12_init 241 = .ok (.newarray .int, 2) by decide +kernel) ?_
  refine kw_putF (j := 101) (c9 := 351) (T9 := TX12) (f := 51) (ty := .array .int) hB (by decide) (by decide) (show (jshp 322).2.1 = 12 by decide +kernel) jcls_X12 (by decide) (jGw_of 1534 (by decide +kernel) (by decide +kernel)) ⟨by decide +kernel, rfl⟩ (fun _ => ⟨rfl, rfl⟩) (by decide +kernel) rfl (show decode cX12_init 243 = .ok (.putfield 101, 3) by decide +kernel) ?_
  refine kw_aloadn (j := 0) rfl (show decode cX12_init 246 = .ok (.aload_n 0, 1) by decide +kernel) ?_
  refine kw_get (f := 0) (v := .ref 323) (show (jshp 322).2.1 = 12 by decide +kernel) fX12_7 rfl (show decode cX12_init 247 = .ok (.getfield 7, 3) by decide +kernel) ?_
  refine kw_callS (t := 352) (mt' := mX12_begin) (n' := 0) (as := [.ref 323]) (r := []) hB (by decide) (by decide) kX12_104 WX12_begin rfl ⟨by decide, by decide⟩ rfl (by decide) ⟨by decide, by decide⟩ (show decode cX12_init 250 = .ok (.invokestatic 104, 3) by decide +kernel) (KM_begin hB) ?_
  refine kw_cong (fun k h1 h2 => (jcell_cong (funext fun j => (kb9_z h1 h2 j).symm) rfl rfl)) ?_
  exact kw_ret rfl hB rfl (by decide) (by decide) rfl rfl (by decide +kernel) rfl (show decode cX12_init 253 = .ok (.return_, 1) by decide +kernel)
