/-! newborn: Flat.empty, on a flat that is being made -/
def kFL : List Nat := [4, 37, 59, 79, 99, 119, 139, 159, 179, 199, 219, 239]
def kz : jM := (fun _ _ => 0, fun _ _ => 0, fun _ _ => 0)
def kF1 (F : Nat) : jM := jup kz (F + 1) 0 2
def kFe (F : Nat) : jM := jfil (kF1 F) (F + 15) 10 (-1)
def kFf (F : Nat) : List Value := [.int 0, .int 0, .int 0, .int 0, .int 0, .int 0, .int 0, .ref (F + 1), .ref (F + 2), .ref (F + 3), .ref (F + 4), .ref (F + 15), .ref (F + 16), .ref (F + 17), .ref (F + 18), .ref (F + 19)]
theorem kFL_sh : ∀ F ∈ kFL, jshp F = (0, 2, 16, [0, 0, 0, 0, 0, 0, 0, F + 3, F + 4, F + 5, F + 6, F + 17, F + 18, F + 19, F + 20, F + 21]) ∧ F + 20 ≤ jN := by decide +kernel
theorem kFL_a : ∀ F ∈ kFL, (jarr (F + 1) 1 0 = true ∧ jarr (F + 2) 1 0 = true ∧ jarr (F + 3) 1 0 = true ∧ jarr (F + 4) 4 6 = true ∧ jarr (F + 15) 1 0 = true ∧ jarr (F + 16) 1 0 = true ∧ jarr (F + 17) 1 0 = true ∧ jarr (F + 18) 1 0 = true ∧ jarr (F + 19) 1 0 = true) ∧ (jlen (F + 1) = 3 ∧ jlen (F + 4) = 10 ∧ jlen (F + 15) = 10) ∧ ∀ k, k < 10 → jelt (F + 4) k = F + 5 + k ∧ jarr (F + 5 + k) 1 0 = true := by decide +kernel
theorem jfil_z {σ : jM} {a n : Nat} {v : Int32} (h : ∀ j, σ.1 a j = v) : jfil σ a n v = σ := by
  unfold jfil
  refine Prod.ext ?_ rfl
  funext i j
  show (if i = a ∧ j < n then v else σ.1 i j) = σ.1 i j
  split
  · rename_i q
    rw [q.1, h]
  · rfl
theorem kF1_e (F : Nat) : jup (jup (jup kz (F + 1) (0 : Int32).toNatClampNeg 2) (F + 1) (1 : Int32).toNatClampNeg 0) (F + 1) (2 : Int32).toNatClampNeg 0 = kF1 F := by
  have h0 : (0 : Int32).toNatClampNeg = 0 := by decide
  have h1 : (1 : Int32).toNatClampNeg = 1 := by decide
  have h2 : (2 : Int32).toNatClampNeg = 2 := by decide
  rw [h0, h1, h2]
  unfold kF1 jup kz
  refine Prod.ext ?_ rfl
  funext i j
  dsimp only
  repeat' split
  all_goals first | rfl | (exfalso; omega)
theorem kF1_0 {F a : Nat} (h : a ≠ F + 1) : ∀ j, (kF1 F).1 a j = 0 := fun j => by
  show (if a = F + 1 ∧ j = 0 then (2 : Int32) else 0) = 0
  rw [if_neg (fun q => h q.1)]
theorem kFe_0 {F a : Nat} (h : a ≠ F + 1) (h2 : a ≠ F + 15) : ∀ j, (kFe F).1 a j = 0 := fun j => by
  show (if a = F + 15 ∧ j < 10 then (-1 : Int32) else (kF1 F).1 a j) = 0
  rw [if_neg (fun q => h2 q.1), kF1_0 h]
set_option maxRecDepth 100000 in
set_option maxHeartbeats 4000000 in
theorem KM_empty {g : jG} {h0 : Nat} (hB : kB g h0) {F : Nat} (hF : F ∈ kFL) : kMe g h0 1 mX2_empty [.ref F] F (F + 20) (kFf F) (kFf F) kz (kFe F) := by
  obtain ⟨e0, hN⟩ := kFL_sh F hF
  obtain ⟨⟨a1, a2, a3, a4, a15, a16, a17, a18, a19⟩, ⟨n1, n4, n15⟩, hr4⟩ := kFL_a F hF
  have r4 : ∀ k, k < 10 → jelt (F + 4) k = F + 5 + k := fun k hk => (hr4 k hk).1
  have a5 : ∀ k, k < 10 → jarr (F + 5 + k) 1 0 = true := fun k hk => (hr4 k hk).2
  have e1 : (jshp F).2.1 = 2 := by rw [e0]
  refine kMe.of (by decide +kernel) (by simp [lg_sl, Value.category]) (by omega) ?_
  refine kw_aloadn (j := 0) (x := F) rfl (show decode cX2_empty 0 = .ok (.aload_n 0, 1) by decide +kernel) ?_
  refine kw_iconst (v := 0) rfl (show decode cX2_empty 1 = .ok (.iconst 0, 1) by decide +kernel) ?_
  refine kw_puti (j := 44) (T9 := TX2) (f := 0) (ty := .int) hB (by omega) hN e1 jcls_X2 (by decide) (jGw_of 358 (by decide +kernel) (by decide +kernel)) ⟨by decide +kernel, rfl⟩ ⟨by decide, by decide⟩ (show 0 < 16 by decide) (show decode cX2_empty 2 = .ok (.putfield 44, 3) by decide +kernel) ?_
  refine kw_aloadn (j := 0) (x := F) rfl (show decode cX2_empty 5 = .ok (.aload_n 0, 1) by decide +kernel) ?_
  refine kw_iconst (v := 0) rfl (show decode cX2_empty 6 = .ok (.iconst 0, 1) by decide +kernel) ?_
  refine kw_puti (j := 48) (T9 := TX2) (f := 1) (ty := .int) hB (by omega) hN e1 jcls_X2 (by decide) (jGw_of 362 (by decide +kernel) (by decide +kernel)) ⟨by decide +kernel, rfl⟩ ⟨by decide, by decide⟩ (show 1 < 16 by decide) (show decode cX2_empty 7 = .ok (.putfield 48, 3) by decide +kernel) ?_
  refine kw_aloadn (j := 0) (x := F) rfl (show decode cX2_empty 10 = .ok (.aload_n 0, 1) by decide +kernel) ?_
  refine kw_iconst (v := 0) rfl (show decode cX2_empty 11 = .ok (.iconst 0, 1) by decide +kernel) ?_
  refine kw_puti (j := 51) (T9 := TX2) (f := 2) (ty := .int) hB (by omega) hN e1 jcls_X2 (by decide) (jGw_of 367 (by decide +kernel) (by decide +kernel)) ⟨by decide +kernel, rfl⟩ ⟨by decide, by decide⟩ (show 2 < 16 by decide) (show decode cX2_empty 12 = .ok (.putfield 51, 3) by decide +kernel) ?_
  refine kw_aloadn (j := 0) (x := F) rfl (show decode cX2_empty 15 = .ok (.aload_n 0, 1) by decide +kernel) ?_
  refine kw_iconst (v := 0) rfl (show decode cX2_empty 16 = .ok (.iconst 0, 1) by decide +kernel) ?_
  refine kw_puti (j := 54) (T9 := TX2) (f := 3) (ty := .int) hB (by omega) hN e1 jcls_X2 (by decide) (jGw_of 371 (by decide +kernel) (by decide +kernel)) ⟨by decide +kernel, rfl⟩ ⟨by decide, by decide⟩ (show 3 < 16 by decide) (show decode cX2_empty 17 = .ok (.putfield 54, 3) by decide +kernel) ?_
  refine kw_aloadn (j := 0) (x := F) rfl (show decode cX2_empty 20 = .ok (.aload_n 0, 1) by decide +kernel) ?_
  refine kw_iconst (v := 0) rfl (show decode cX2_empty 21 = .ok (.iconst 0, 1) by decide +kernel) ?_
  refine kw_puti (j := 57) (T9 := TX2) (f := 4) (ty := .int) hB (by omega) hN e1 jcls_X2 (by decide) (jGw_of 374 (by decide +kernel) (by decide +kernel)) ⟨by decide +kernel, rfl⟩ ⟨by decide, by decide⟩ (show 4 < 16 by decide) (show decode cX2_empty 22 = .ok (.putfield 57, 3) by decide +kernel) ?_
  refine kw_aloadn (j := 0) (x := F) rfl (show decode cX2_empty 25 = .ok (.aload_n 0, 1) by decide +kernel) ?_
  refine kw_iconst (v := 0) rfl (show decode cX2_empty 26 = .ok (.iconst 0, 1) by decide +kernel) ?_
  refine kw_puti (j := 60) (T9 := TX2) (f := 5) (ty := .int) hB (by omega) hN e1 jcls_X2 (by decide) (jGw_of 376 (by decide +kernel) (by decide +kernel)) ⟨by decide +kernel, rfl⟩ ⟨by decide, by decide⟩ (show 5 < 16 by decide) (show decode cX2_empty 27 = .ok (.putfield 60, 3) by decide +kernel) ?_
  refine kw_aloadn (j := 0) (x := F) rfl (show decode cX2_empty 30 = .ok (.aload_n 0, 1) by decide +kernel) ?_
  refine kw_iconst (v := 0) rfl (show decode cX2_empty 31 = .ok (.iconst 0, 1) by decide +kernel) ?_
  refine kw_puti (j := 63) (T9 := TX2) (f := 6) (ty := .int) hB (by omega) hN e1 jcls_X2 (by decide) (jGw_of 378 (by decide +kernel) (by decide +kernel)) ⟨by decide +kernel, rfl⟩ ⟨by decide, by decide⟩ (show 6 < 16 by decide) (show decode cX2_empty 32 = .ok (.putfield 63, 3) by decide +kernel) ?_
  refine (show kW g h0 (krm 1 0 0) mX2_empty F (kMR g h0 F (F + 20) (kFf F) (kFe F)) 0 0 35 [(0, .ref F)] [] (F + 20) (kFf F) kz → _ from fun h => h) ?_
  refine kw_aloadn (j := 0) (x := F) rfl (show decode cX2_empty 35 = .ok (.aload_n 0, 1) by decide +kernel) ?_
  refine kw_get (f := 7) (v := .ref (F + 1)) e1 fX2_9 rfl (show decode cX2_empty 36 = .ok (.getfield 9, 3) by decide +kernel) ?_
  refine kw_iconst (v := 0) rfl (show decode cX2_empty 39 = .ok (.iconst 0, 1) by decide +kernel) ?_
  refine kw_iconst (v := 2) rfl (show decode cX2_empty 40 = .ok (.iconst 2, 1) by decide +kernel) ?_
  refine kw_iast hB hN (by omega) (by omega) a1 ⟨by decide, by rw [n1]; decide⟩ (show decode cX2_empty 41 = .ok (.iastore, 1) by decide +kernel) ?_
  refine kw_aloadn (j := 0) (x := F) rfl (show decode cX2_empty 42 = .ok (.aload_n 0, 1) by decide +kernel) ?_
  refine kw_get (f := 7) (v := .ref (F + 1)) e1 fX2_9 rfl (show decode cX2_empty 43 = .ok (.getfield 9, 3) by decide +kernel) ?_
  refine kw_iconst (v := 1) rfl (show decode cX2_empty 46 = .ok (.iconst 1, 1) by decide +kernel) ?_
  refine kw_iconst (v := 0) rfl (show decode cX2_empty 47 = .ok (.iconst 0, 1) by decide +kernel) ?_
  refine kw_iast hB hN (by omega) (by omega) a1 ⟨by decide, by rw [n1]; decide⟩ (show decode cX2_empty 48 = .ok (.iastore, 1) by decide +kernel) ?_
  refine kw_aloadn (j := 0) (x := F) rfl (show decode cX2_empty 49 = .ok (.aload_n 0, 1) by decide +kernel) ?_
  refine kw_get (f := 7) (v := .ref (F + 1)) e1 fX2_9 rfl (show decode cX2_empty 50 = .ok (.getfield 9, 3) by decide +kernel) ?_
  refine kw_iconst (v := 2) rfl (show decode cX2_empty 53 = .ok (.iconst 2, 1) by decide +kernel) ?_
  refine kw_iconst (v := 0) rfl (show decode cX2_empty 54 = .ok (.iconst 0, 1) by decide +kernel) ?_
  refine kw_iast hB hN (by omega) (by omega) a1 ⟨by decide, by rw [n1]; decide⟩ (show decode cX2_empty 55 = .ok (.iastore, 1) by decide +kernel) ?_
  rw [kF1_e F]
  refine kw_aloadn (j := 0) (x := F) rfl (show decode cX2_empty 56 = .ok (.aload_n 0, 1) by decide +kernel) ?_
  refine kw_get (f := 8) (v := .ref (F + 2)) e1 fX2_15 rfl (show decode cX2_empty 57 = .ok (.getfield 15, 3) by decide +kernel) ?_
  refine kw_iconst (v := 0) rfl (show decode cX2_empty 60 = .ok (.iconst 0, 1) by decide +kernel) ?_
  refine kw_callS (mt' := mJ7_fill_53178) (n' := 0) (as := [.ref (F + 2), .int 0]) (r := []) hB (by omega) hN kX2_66 WJ7_fill_53178 rfl ⟨by decide, by decide⟩ rfl (by decide) ⟨by decide, by decide⟩ (show decode cX2_empty 61 = .ok (.invokestatic 66, 3) by decide +kernel) (KM_fill hB (by omega) (by omega) hN a2) ?_
  rw [jfil_z (kF1_0 (by omega))]
  refine kw_aloadn (j := 0) (x := F) rfl (show decode cX2_empty 64 = .ok (.aload_n 0, 1) by decide +kernel) ?_
  refine kw_get (f := 9) (v := .ref (F + 3)) e1 fX2_18 rfl (show decode cX2_empty 65 = .ok (.getfield 18, 3) by decide +kernel) ?_
  refine kw_iconst (v := 0) rfl (show decode cX2_empty 68 = .ok (.iconst 0, 1) by decide +kernel) ?_
  refine kw_callS (mt' := mJ7_fill_53178) (n' := 0) (as := [.ref (F + 3), .int 0]) (r := []) hB (by omega) hN kX2_66 WJ7_fill_53178 rfl ⟨by decide, by decide⟩ rfl (by decide) ⟨by decide, by decide⟩ (show decode cX2_empty 69 = .ok (.invokestatic 66, 3) by decide +kernel) (KM_fill hB (by omega) (by omega) hN a3) ?_
  rw [jfil_z (kF1_0 (by omega))]
  refine kw_iconst (v := 0) rfl (show decode cX2_empty 72 = .ok (.iconst 0, 1) by decide +kernel) ?_
  refine kw_istoren (j := 1) (by decide) (show decode cX2_empty 73 = .ok (.istore_n 1, 1) by decide +kernel) ?_
  refine (show kW g h0 (krm 1 0 0) mX2_empty F (kMR g h0 F (F + 20) (kFf F) (kFe F)) 0 0 74 [(0, .ref F), (1, .int (nI 0))] [] (F + 20) (kFf F) (kF1 F) → _ from fun h => h) ?_
  refine jloop (P := fun k => kW g h0 (krm 1 0 0) mX2_empty F (kMR g h0 F (F + 20) (kFf F) (kFe F)) 0 0 74 [(0, .ref F), (1, .int (nI k))] [] (F + 20) (kFf F) (kF1 F)) (N := 10) ?_ (fun k hk ih => ?_)
  · refine kw_iloadn (j := 1) (x := nI 10) rfl (show decode cX2_empty 74 = .ok (.iload_n 1, 1) by decide +kernel) ?_
    refine kw_bipush (v := 10) rfl (show decode cX2_empty 75 = .ok (.bipush 10, 2) by decide +kernel) ?_
    refine kw_icmp (tg := 96) (show decode cX2_empty 77 = .ok (.if_icmp .ge 19, 3) by decide +kernel) (by decide) ⟨fun _ => ?_, fun h => absurd h (by decide)⟩
    refine kw_aloadn (j := 0) (x := F) rfl (show decode cX2_empty 96 = .ok (.aload_n 0, 1) by decide +kernel) ?_
    refine kw_get (f := 11) (v := .ref (F + 15)) e1 fX2_26 rfl (show decode cX2_empty 97 = .ok (.getfield 26, 3) by decide +kernel) ?_
    refine kw_iconst (v := -1) rfl (show decode cX2_empty 100 = .ok (.iconst (-1), 1) by decide +kernel) ?_
    refine kw_callS (mt' := mJ7_fill_53178) (n' := 0) (as := [.ref (F + 15), .int (-1)]) (r := []) hB (by omega) hN kX2_66 WJ7_fill_53178 rfl ⟨by decide, by decide⟩ rfl (by decide) ⟨by decide, by decide⟩ (show decode cX2_empty 101 = .ok (.invokestatic 66, 3) by decide +kernel) (KM_fill hB (by omega) (by omega) hN a15) ?_
    rw [show jfil (kF1 F) (F + 15) (jlen (F + 15)) (-1) = kFe F by rw [n15]; rfl]
    refine kw_aloadn (j := 0) (x := F) rfl (show decode cX2_empty 104 = .ok (.aload_n 0, 1) by decide +kernel) ?_
    refine kw_get (f := 12) (v := .ref (F + 16)) e1 fX2_29 rfl (show decode cX2_empty 105 = .ok (.getfield 29, 3) by decide +kernel) ?_
    refine kw_iconst (v := 0) rfl (show decode cX2_empty 108 = .ok (.iconst 0, 1) by decide +kernel) ?_
    refine kw_callS (mt' := mJ7_fill_53178) (n' := 0) (as := [.ref (F + 16), .int 0]) (r := []) hB (by omega) hN kX2_66 WJ7_fill_53178 rfl ⟨by decide, by decide⟩ rfl (by decide) ⟨by decide, by decide⟩ (show decode cX2_empty 109 = .ok (.invokestatic 66, 3) by decide +kernel) (KM_fill hB (by omega) (by omega) hN a16) ?_
    rw [jfil_z (kFe_0 (by omega) (by omega))]
    refine kw_aloadn (j := 0) (x := F) rfl (show decode cX2_empty 112 = .ok (.aload_n 0, 1) by decide +kernel) ?_
    refine kw_get (f := 13) (v := .ref (F + 17)) e1 fX2_32 rfl (show decode cX2_empty 113 = .ok (.getfield 32, 3) by decide +kernel) ?_
    refine kw_iconst (v := 0) rfl (show decode cX2_empty 116 = .ok (.iconst 0, 1) by decide +kernel) ?_
    refine kw_callS (mt' := mJ7_fill_53178) (n' := 0) (as := [.ref (F + 17), .int 0]) (r := []) hB (by omega) hN kX2_66 WJ7_fill_53178 rfl ⟨by decide, by decide⟩ rfl (by decide) ⟨by decide, by decide⟩ (show decode cX2_empty 117 = .ok (.invokestatic 66, 3) by decide +kernel) (KM_fill hB (by omega) (by omega) hN a17) ?_
    rw [jfil_z (kFe_0 (by omega) (by omega))]
    refine kw_aloadn (j := 0) (x := F) rfl (show decode cX2_empty 120 = .ok (.aload_n 0, 1) by decide +kernel) ?_
    refine kw_get (f := 14) (v := .ref (F + 18)) e1 fX2_35 rfl (show decode cX2_empty 121 = .ok (.getfield 35, 3) by decide +kernel) ?_
    refine kw_iconst (v := 0) rfl (show decode cX2_empty 124 = .ok (.iconst 0, 1) by decide +kernel) ?_
    refine kw_callS (mt' := mJ7_fill_53178) (n' := 0) (as := [.ref (F + 18), .int 0]) (r := []) hB (by omega) hN kX2_66 WJ7_fill_53178 rfl ⟨by decide, by decide⟩ rfl (by decide) ⟨by decide, by decide⟩ (show decode cX2_empty 125 = .ok (.invokestatic 66, 3) by decide +kernel) (KM_fill hB (by omega) (by omega) hN a18) ?_
    rw [jfil_z (kFe_0 (by omega) (by omega))]
    refine kw_aloadn (j := 0) (x := F) rfl (show decode cX2_empty 128 = .ok (.aload_n 0, 1) by decide +kernel) ?_
    refine kw_get (f := 15) (v := .ref (F + 19)) e1 fX2_38 rfl (show decode cX2_empty 129 = .ok (.getfield 38, 3) by decide +kernel) ?_
    refine kw_iconst (v := 0) rfl (show decode cX2_empty 132 = .ok (.iconst 0, 1) by decide +kernel) ?_
    refine kw_callS (mt' := mJ7_fill_53178) (n' := 0) (as := [.ref (F + 19), .int 0]) (r := []) hB (by omega) hN kX2_66 WJ7_fill_53178 rfl ⟨by decide, by decide⟩ rfl (by decide) ⟨by decide, by decide⟩ (show decode cX2_empty 133 = .ok (.invokestatic 66, 3) by decide +kernel) (KM_fill hB (by omega) (by omega) hN a19) ?_
    rw [jfil_z (kFe_0 (by omega) (by omega))]
    exact kw_mret rfl (show decode cX2_empty 136 = .ok (.return_, 1) by decide +kernel)
  · refine kw_iloadn (j := 1) (x := nI k) rfl (show decode cX2_empty 74 = .ok (.iload_n 1, 1) by decide +kernel) ?_
    refine kw_bipush (v := 10) rfl (show decode cX2_empty 75 = .ok (.bipush 10, 2) by decide +kernel) ?_
    refine kw_icmp (tg := 96) (show decode cX2_empty 77 = .ok (.if_icmp .ge 19, 3) by decide +kernel) (by decide) ⟨fun h => absurd ((NL_10.2.2.2.1 k (by omega)).mpr hk) h, fun _ => ?_⟩
    refine kw_aloadn (j := 0) (x := F) rfl (show decode cX2_empty 80 = .ok (.aload_n 0, 1) by decide +kernel) ?_
    refine kw_get (f := 10) (v := .ref (F + 4)) e1 fX2_23 rfl (show decode cX2_empty 81 = .ok (.getfield 23, 3) by decide +kernel) ?_
    refine kw_iloadn (j := 1) (x := nI k) rfl (show decode cX2_empty 84 = .ok (.iload_n 1, 1) by decide +kernel) ?_
    refine kw_aald (tt := 6) (by omega) (by omega) a4 (Or.inl rfl) (jin_nI (by rw [n4]; exact hk) (by rw [n4]; decide)) (show decode cX2_empty 85 = .ok (.aaload, 1) by decide +kernel) ?_
    rw [nI_clamp (show k < 2 ^ 31 by omega), r4 k hk]
    refine kw_iconst (v := 0) rfl (show decode cX2_empty 86 = .ok (.iconst 0, 1) by decide +kernel) ?_
    refine kw_callS (mt' := mJ7_fill_53178) (n' := 0) (as := [.ref (F + 5 + k), .int 0]) (r := []) hB (by omega) hN kX2_66 WJ7_fill_53178 rfl ⟨by decide, by decide⟩ rfl (by decide) ⟨by decide, by decide⟩ (show decode cX2_empty 87 = .ok (.invokestatic 66, 3) by decide +kernel) (KM_fill hB (by omega) (by omega) hN (a5 k hk)) ?_
    rw [jfil_z (kF1_0 (by omega))]
    refine kw_iinc (j := 1) (x := nI k) (v := 1) rfl rfl (by decide) (show decode cX2_empty 90 = .ok (.iinc 1 1, 3) by decide +kernel) ?_
    refine kw_goto (tg := 74) (show decode cX2_empty 93 = .ok (.goto (-19), 3) by decide +kernel) (by decide) ?_
    rw [nI_1]
    exact ih
