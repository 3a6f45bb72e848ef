/-! by program: classes, fields, constants -/
theorem jGw_ps {ws : List Cond} (ps : List Nat) (h : ws = ps.filterMap (fun i => lw_tbl[i]?)) (hg : ws.all goodWord = true) : ∀ w ∈ ws, w ∈ jGw := by
  intro w hw
  refine List.mem_filter.mpr ⟨?_, List.all_eq_true.mp hg w hw⟩
  rw [h] at hw
  obtain ⟨i, -, hi⟩ := List.mem_filterMap.mp hw
  exact List.mem_of_getElem? hi
theorem jNw_of {w : Cond} (i : Nat) (hg : (match w with | .fieldLinkNest .. => true | .methodLinkNest .. => true | _ => false) = true) (h : lw_tbl[i]? = some w) : w ∈ jNw := List.mem_filter.mpr ⟨List.mem_of_getElem? h, hg⟩
def jldB (cs : List (Nat × Int32)) (q : Nat × Instr × Nat × Nat × Int32) : Bool := match q.2.1 with
  | .ldc j => cs.any (fun c => c.1 == j && decide (c.2 = q.2.2.2.2))
  | .ldc_w j => cs.any (fun c => c.1 == j && decide (c.2 = q.2.2.2.2))
  | _ => true
theorem jT.of {mt : jMt} {F : List (Nat × Nat × Nat × Nat)} {C2 : List (Nat × Int64)} {cs : List (Nat × Int32)} {tb : jTb} (hF : ∀ q ∈ F, jFok mt.1.cls q) (hC : ∀ q ∈ C2, Cond.constantLong mt.1.cls q.1 q.2 ∈ jGw) (hk : ∀ q ∈ cs, Cond.constant mt.1.cls q.1 q.2 ∈ jGw)
    (h1 : tb.all (jEok mt.2.1) = true) (h2 : tb.all (jldB cs) = true) : jT mt F C2 tb := by
  refine ⟨hF, hC, h1, fun q hq j hj => ?_⟩
  have h3 := List.all_eq_true.mp h2 q hq
  rcases hj with hj | hj
  · rw [jldB, hj] at h3
    obtain ⟨c, hc, e⟩ := List.any_eq_true.mp h3
    simp only [Bool.and_eq_true, beq_iff_eq, decide_eq_true_eq] at e
    have := hk c hc
    rw [e.1, e.2] at this
    exact this
  · rw [jldB, hj] at h3
    obtain ⟨c, hc, e⟩ := List.any_eq_true.mp h3
    simp only [Bool.and_eq_true, beq_iff_eq, decide_eq_true_eq] at e
    have := hk c hc
    rw [e.1, e.2] at this
    exact this
theorem jcls_X0 : jCls 0 RX0 TX0 4 := ⟨rfl, jGw_ps [586, 588, 590, 592] (by decide +kernel) (by decide +kernel), ⟨tyX0, tyX0_ok⟩, nmX0, by decide +kernel⟩
theorem jcls_X1 : jCls 1 RX1 TX1 7 := ⟨rfl, jGw_ps [548, 550, 552, 554, 556, 558, 560] (by decide +kernel) (by decide +kernel), ⟨tyX1, tyX1_ok⟩, nmX1, by decide +kernel⟩
theorem jcls_X2 : jCls 2 RX2 TX2 16 := ⟨rfl, jGw_ps [405, 407, 409, 411, 413, 415, 417, 419, 421, 423, 425, 427, 429, 431, 433, 435] (by decide +kernel) (by decide +kernel), ⟨tyX2, tyX2_ok⟩, nmX2, by decide +kernel⟩
theorem jcls_X3 : jCls 3 RX3 TX3 3 := ⟨rfl, jGw_ps [520, 522, 524] (by decide +kernel) (by decide +kernel), ⟨tyX3, tyX3_ok⟩, nmX3, by decide +kernel⟩
theorem jcls_X4 : jCls 4 RX4 TX4 10 := ⟨rfl, jGw_ps [482, 484, 486, 488, 490, 492, 494, 496, 498, 500] (by decide +kernel) (by decide +kernel), ⟨tyX4, tyX4_ok⟩, nmX4, by decide +kernel⟩
theorem jcls_X5 : jCls 5 RX5 TX5 2 := ⟨rfl, jGw_ps [670, 672] (by decide +kernel) (by decide +kernel), ⟨tyX5, tyX5_ok⟩, nmX5, by decide +kernel⟩
theorem jcls_X6 : jCls 6 RX6 TX6 8 := ⟨rfl, jGw_ps [607, 609, 611, 613, 615, 617, 619, 621] (by decide +kernel) (by decide +kernel), ⟨tyX6, tyX6_ok⟩, nmX6, by decide +kernel⟩
theorem jcls_X7 : jCls 7 RX7 TX7 6 := ⟨rfl, jGw_ps [456, 458, 460, 462, 464, 466] (by decide +kernel) (by decide +kernel), ⟨tyX7, tyX7_ok⟩, nmX7, by decide +kernel⟩
theorem jcls_X8 : jCls 8 RX8 TX8 8 := ⟨rfl, jGw_ps [645, 647, 649, 651, 653, 655, 657, 659] (by decide +kernel) (by decide +kernel), ⟨tyX8, tyX8_ok⟩, nmX8, by decide +kernel⟩
theorem jcls_X9 : jCls 9 RX9 TX9 1 := ⟨rfl, jGw_ps [574] (by decide +kernel) (by decide +kernel), ⟨tyX9, tyX9_ok⟩, nmX9, by decide +kernel⟩
theorem jcls_X10 : jCls 10 RX10 TX10 6 := ⟨rfl, jGw_ps [331, 333, 335, 337, 339, 341] (by decide +kernel) (by decide +kernel), ⟨tyX10, tyX10_ok⟩, nmX10, by decide +kernel⟩
theorem jcls_X11 : jCls 11 RX11 TX11 9 := ⟨rfl, jGw_ps [685, 687, 689, 691, 693, 695, 697, 699, 701] (by decide +kernel) (by decide +kernel), ⟨tyX11, tyX11_ok⟩, nmX11, by decide +kernel⟩
theorem jcls_X12 : jCls 12 RX12 TX12 25 := ⟨rfl, jGw_ps [1256, 1258, 1260, 1262, 1264, 1266, 1268, 1270, 1272, 1274, 1276, 1278, 1280, 1282, 1284, 1286, 1288, 1290, 1292, 1294, 1296, 1298, 1300, 1302, 1304] (by decide +kernel) (by decide +kernel), ⟨tyX12, tyX12_ok⟩, nmX12, by decide +kernel⟩
def fX0 : List (Nat × Nat × Nat × Nat) := [(9, 0, 0, 2), (15, 0, 1, 2), (18, 0, 2, 2), (24, 0, 3, 2)]
theorem fX0_9 : jFok RX0 (9, 0, 0, 2) := ⟨RX0, TX0, 4, jcls_X0, by decide, by decide +kernel, Or.inl (jGw_of 578 (by decide +kernel) (by decide +kernel))⟩
theorem fX0_15 : jFok RX0 (15, 0, 1, 2) := ⟨RX0, TX0, 4, jcls_X0, by decide, by decide +kernel, Or.inl (jGw_of 581 (by decide +kernel) (by decide +kernel))⟩
theorem fX0_18 : jFok RX0 (18, 0, 2, 2) := ⟨RX0, TX0, 4, jcls_X0, by decide, by decide +kernel, Or.inl (jGw_of 582 (by decide +kernel) (by decide +kernel))⟩
theorem fX0_24 : jFok RX0 (24, 0, 3, 2) := ⟨RX0, TX0, 4, jcls_X0, by decide, by decide +kernel, Or.inl (jGw_of 585 (by decide +kernel) (by decide +kernel))⟩
theorem fX0_ok : ∀ q ∈ fX0, jFok RX0 q := List.forall_mem_cons.mpr ⟨fX0_9, List.forall_mem_cons.mpr ⟨fX0_15, List.forall_mem_cons.mpr ⟨fX0_18, List.forall_mem_cons.mpr ⟨fX0_24, fun _ h => absurd h List.not_mem_nil⟩⟩⟩⟩
def lX0 : List (Nat × Int64) := []
theorem lX0_ok : ∀ q ∈ lX0, Cond.constantLong RX0 q.1 q.2 ∈ jGw := fun _ h => absurd h List.not_mem_nil
def kX0 : List (Nat × Int32) := []
theorem kX0_ok : ∀ q ∈ kX0, Cond.constant RX0 q.1 q.2 ∈ jGw := fun _ h => absurd h List.not_mem_nil
def fX1 : List (Nat × Nat × Nat × Nat) := [(9, 1, 0, 0), (15, 1, 1, 0), (18, 1, 2, 2), (24, 1, 3, 2), (27, 1, 4, 2), (30, 1, 5, 2), (33, 1, 6, 2), (36, 2, 0, 0), (45, 2, 1, 0)]
theorem fX1_9 : jFok RX1 (9, 1, 0, 0) := ⟨RX1, TX1, 7, jcls_X1, by decide, by decide +kernel, Or.inl (jGw_of 538 (by decide +kernel) (by decide +kernel))⟩
theorem fX1_15 : jFok RX1 (15, 1, 1, 0) := ⟨RX1, TX1, 7, jcls_X1, by decide, by decide +kernel, Or.inl (jGw_of 540 (by decide +kernel) (by decide +kernel))⟩
theorem fX1_18 : jFok RX1 (18, 1, 2, 2) := ⟨RX1, TX1, 7, jcls_X1, by decide, by decide +kernel, Or.inl (jGw_of 541 (by decide +kernel) (by decide +kernel))⟩
theorem fX1_24 : jFok RX1 (24, 1, 3, 2) := ⟨RX1, TX1, 7, jcls_X1, by decide, by decide +kernel, Or.inl (jGw_of 543 (by decide +kernel) (by decide +kernel))⟩
theorem fX1_27 : jFok RX1 (27, 1, 4, 2) := ⟨RX1, TX1, 7, jcls_X1, by decide, by decide +kernel, Or.inl (jGw_of 544 (by decide +kernel) (by decide +kernel))⟩
theorem fX1_30 : jFok RX1 (30, 1, 5, 2) := ⟨RX1, TX1, 7, jcls_X1, by decide, by decide +kernel, Or.inl (jGw_of 546 (by decide +kernel) (by decide +kernel))⟩
theorem fX1_33 : jFok RX1 (33, 1, 6, 2) := ⟨RX1, TX1, 7, jcls_X1, by decide, by decide +kernel, Or.inl (jGw_of 547 (by decide +kernel) (by decide +kernel))⟩
theorem fX1_36 : jFok RX1 (36, 2, 0, 0) := ⟨RX2, TX2, 16, jcls_X2, by decide, by decide +kernel, Or.inr ⟨"RentDivision", jNw_of 359 rfl (by decide +kernel)⟩⟩
theorem fX1_45 : jFok RX1 (45, 2, 1, 0) := ⟨RX2, TX2, 16, jcls_X2, by decide, by decide +kernel, Or.inr ⟨"RentDivision", jNw_of 364 rfl (by decide +kernel)⟩⟩
theorem fX1_ok : ∀ q ∈ fX1, jFok RX1 q := List.forall_mem_cons.mpr ⟨fX1_9, List.forall_mem_cons.mpr ⟨fX1_15, List.forall_mem_cons.mpr ⟨fX1_18, List.forall_mem_cons.mpr ⟨fX1_24, List.forall_mem_cons.mpr ⟨fX1_27, List.forall_mem_cons.mpr ⟨fX1_30, List.forall_mem_cons.mpr ⟨fX1_33, List.forall_mem_cons.mpr ⟨fX1_36, List.forall_mem_cons.mpr ⟨fX1_45, fun _ h => absurd h List.not_mem_nil⟩⟩⟩⟩⟩⟩⟩⟩⟩
def lX1 : List (Nat × Int64) := []
theorem lX1_ok : ∀ q ∈ lX1, Cond.constantLong RX1 q.1 q.2 ∈ jGw := fun _ h => absurd h List.not_mem_nil
def kX1 : List (Nat × Int32) := []
theorem kX1_ok : ∀ q ∈ kX1, Cond.constant RX1 q.1 q.2 ∈ jGw := fun _ h => absurd h List.not_mem_nil
def fX2 : List (Nat × Nat × Nat × Nat) := [(9, 2, 7, 2), (15, 2, 8, 2), (18, 2, 9, 2), (23, 2, 10, 2), (26, 2, 11, 2), (29, 2, 12, 2), (32, 2, 13, 2), (35, 2, 14, 2), (38, 2, 15, 2), (44, 2, 0, 0), (48, 2, 1, 0), (51, 2, 2, 0), (54, 2, 3, 0), (57, 2, 4, 0), (60, 2, 5, 0), (63, 2, 6, 0), (111, 7, 3, 2), (114, 7, 2, 2), (117, 7, 4, 2)]
theorem fX2_9 : jFok RX2 (9, 2, 7, 2) := ⟨RX2, TX2, 16, jcls_X2, by decide, by decide +kernel, Or.inl (jGw_of 380 (by decide +kernel) (by decide +kernel))⟩
theorem fX2_15 : jFok RX2 (15, 2, 8, 2) := ⟨RX2, TX2, 16, jcls_X2, by decide, by decide +kernel, Or.inl (jGw_of 384 (by decide +kernel) (by decide +kernel))⟩
theorem fX2_18 : jFok RX2 (18, 2, 9, 2) := ⟨RX2, TX2, 16, jcls_X2, by decide, by decide +kernel, Or.inl (jGw_of 386 (by decide +kernel) (by decide +kernel))⟩
theorem fX2_23 : jFok RX2 (23, 2, 10, 2) := ⟨RX2, TX2, 16, jcls_X2, by decide, by decide +kernel, Or.inl (jGw_of 390 (by decide +kernel) (by decide +kernel))⟩
theorem fX2_26 : jFok RX2 (26, 2, 11, 2) := ⟨RX2, TX2, 16, jcls_X2, by decide, by decide +kernel, Or.inl (jGw_of 393 (by decide +kernel) (by decide +kernel))⟩
theorem fX2_29 : jFok RX2 (29, 2, 12, 2) := ⟨RX2, TX2, 16, jcls_X2, by decide, by decide +kernel, Or.inl (jGw_of 395 (by decide +kernel) (by decide +kernel))⟩
theorem fX2_32 : jFok RX2 (32, 2, 13, 2) := ⟨RX2, TX2, 16, jcls_X2, by decide, by decide +kernel, Or.inl (jGw_of 398 (by decide +kernel) (by decide +kernel))⟩
theorem fX2_35 : jFok RX2 (35, 2, 14, 2) := ⟨RX2, TX2, 16, jcls_X2, by decide, by decide +kernel, Or.inl (jGw_of 400 (by decide +kernel) (by decide +kernel))⟩
theorem fX2_38 : jFok RX2 (38, 2, 15, 2) := ⟨RX2, TX2, 16, jcls_X2, by decide, by decide +kernel, Or.inl (jGw_of 403 (by decide +kernel) (by decide +kernel))⟩
theorem fX2_44 : jFok RX2 (44, 2, 0, 0) := ⟨RX2, TX2, 16, jcls_X2, by decide, by decide +kernel, Or.inl (jGw_of 358 (by decide +kernel) (by decide +kernel))⟩
theorem fX2_48 : jFok RX2 (48, 2, 1, 0) := ⟨RX2, TX2, 16, jcls_X2, by decide, by decide +kernel, Or.inl (jGw_of 362 (by decide +kernel) (by decide +kernel))⟩
theorem fX2_51 : jFok RX2 (51, 2, 2, 0) := ⟨RX2, TX2, 16, jcls_X2, by decide, by decide +kernel, Or.inl (jGw_of 367 (by decide +kernel) (by decide +kernel))⟩
theorem fX2_54 : jFok RX2 (54, 2, 3, 0) := ⟨RX2, TX2, 16, jcls_X2, by decide, by decide +kernel, Or.inl (jGw_of 371 (by decide +kernel) (by decide +kernel))⟩
theorem fX2_57 : jFok RX2 (57, 2, 4, 0) := ⟨RX2, TX2, 16, jcls_X2, by decide, by decide +kernel, Or.inl (jGw_of 374 (by decide +kernel) (by decide +kernel))⟩
theorem fX2_60 : jFok RX2 (60, 2, 5, 0) := ⟨RX2, TX2, 16, jcls_X2, by decide, by decide +kernel, Or.inl (jGw_of 376 (by decide +kernel) (by decide +kernel))⟩
theorem fX2_63 : jFok RX2 (63, 2, 6, 0) := ⟨RX2, TX2, 16, jcls_X2, by decide, by decide +kernel, Or.inl (jGw_of 378 (by decide +kernel) (by decide +kernel))⟩
theorem fX2_111 : jFok RX2 (111, 7, 3, 2) := ⟨RX7, TX7, 6, jcls_X7, by decide, by decide +kernel, Or.inr ⟨"RentDivision", jNw_of 450 rfl (by decide +kernel)⟩⟩
theorem fX2_114 : jFok RX2 (114, 7, 2, 2) := ⟨RX7, TX7, 6, jcls_X7, by decide, by decide +kernel, Or.inr ⟨"RentDivision", jNw_of 448 rfl (by decide +kernel)⟩⟩
theorem fX2_117 : jFok RX2 (117, 7, 4, 2) := ⟨RX7, TX7, 6, jcls_X7, by decide, by decide +kernel, Or.inr ⟨"RentDivision", jNw_of 452 rfl (by decide +kernel)⟩⟩
theorem fX2_ok : ∀ q ∈ fX2, jFok RX2 q := List.forall_mem_cons.mpr ⟨fX2_9, List.forall_mem_cons.mpr ⟨fX2_15, List.forall_mem_cons.mpr ⟨fX2_18, List.forall_mem_cons.mpr ⟨fX2_23, List.forall_mem_cons.mpr ⟨fX2_26, List.forall_mem_cons.mpr ⟨fX2_29, List.forall_mem_cons.mpr ⟨fX2_32, List.forall_mem_cons.mpr ⟨fX2_35, List.forall_mem_cons.mpr ⟨fX2_38, List.forall_mem_cons.mpr ⟨fX2_44, List.forall_mem_cons.mpr ⟨fX2_48, List.forall_mem_cons.mpr ⟨fX2_51, List.forall_mem_cons.mpr ⟨fX2_54, List.forall_mem_cons.mpr ⟨fX2_57, List.forall_mem_cons.mpr ⟨fX2_60, List.forall_mem_cons.mpr ⟨fX2_63, List.forall_mem_cons.mpr ⟨fX2_111, List.forall_mem_cons.mpr ⟨fX2_114, List.forall_mem_cons.mpr ⟨fX2_117, fun _ h => absurd h List.not_mem_nil⟩⟩⟩⟩⟩⟩⟩⟩⟩⟩⟩⟩⟩⟩⟩⟩⟩⟩⟩
def lX2 : List (Nat × Int64) := []
theorem lX2_ok : ∀ q ∈ lX2, Cond.constantLong RX2 q.1 q.2 ∈ jGw := fun _ h => absurd h List.not_mem_nil
def kX2 : List (Nat × Int32) := []
theorem kX2_ok : ∀ q ∈ kX2, Cond.constant RX2 q.1 q.2 ∈ jGw := fun _ h => absurd h List.not_mem_nil
def fX3 : List (Nat × Nat × Nat × Nat) := [(11, 3, 0, 2), (18, 3, 1, 0), (22, 3, 2, 0)]
theorem fX3_11 : jFok RX3 (11, 3, 0, 2) := ⟨RX3, TX3, 3, jcls_X3, by decide, by decide +kernel, Or.inl (jGw_of 517 (by decide +kernel) (by decide +kernel))⟩
theorem fX3_18 : jFok RX3 (18, 3, 1, 0) := ⟨RX3, TX3, 3, jcls_X3, by decide, by decide +kernel, Or.inl (jGw_of 518 (by decide +kernel) (by decide +kernel))⟩
theorem fX3_22 : jFok RX3 (22, 3, 2, 0) := ⟨RX3, TX3, 3, jcls_X3, by decide, by decide +kernel, Or.inl (jGw_of 519 (by decide +kernel) (by decide +kernel))⟩
theorem fX3_ok : ∀ q ∈ fX3, jFok RX3 q := List.forall_mem_cons.mpr ⟨fX3_11, List.forall_mem_cons.mpr ⟨fX3_18, List.forall_mem_cons.mpr ⟨fX3_22, fun _ h => absurd h List.not_mem_nil⟩⟩⟩
def lX3 : List (Nat × Int64) := []
theorem lX3_ok : ∀ q ∈ lX3, Cond.constantLong RX3 q.1 q.2 ∈ jGw := fun _ h => absurd h List.not_mem_nil
def kX3 : List (Nat × Int32) := []
theorem kX3_ok : ∀ q ∈ kX3, Cond.constant RX3 q.1 q.2 ∈ jGw := fun _ h => absurd h List.not_mem_nil
def fX4 : List (Nat × Nat × Nat × Nat) := [(12, 4, 0, 2), (21, 4, 1, 2), (28, 4, 2, 2), (32, 4, 3, 3), (36, 4, 4, 3), (39, 4, 5, 2), (43, 4, 6, 0), (47, 4, 7, 0), (50, 4, 8, 0), (53, 4, 9, 0), (59, 7, 5, 0), (66, 10, 5, 0), (76, 10, 3, 0), (125, 2, 0, 0), (128, 2, 1, 0), (152, 2, 9, 2), (158, 2, 10, 2), (166, 2, 2, 0), (168, 2, 3, 0), (184, 2, 7, 2)]
theorem fX4_12 : jFok RX4 (12, 4, 0, 2) := ⟨RX4, TX4, 10, jcls_X4, by decide, by decide +kernel, Or.inl (jGw_of 469 (by decide +kernel) (by decide +kernel))⟩
theorem fX4_21 : jFok RX4 (21, 4, 1, 2) := ⟨RX4, TX4, 10, jcls_X4, by decide, by decide +kernel, Or.inl (jGw_of 471 (by decide +kernel) (by decide +kernel))⟩
theorem fX4_28 : jFok RX4 (28, 4, 2, 2) := ⟨RX4, TX4, 10, jcls_X4, by decide, by decide +kernel, Or.inl (jGw_of 473 (by decide +kernel) (by decide +kernel))⟩
theorem fX4_32 : jFok RX4 (32, 4, 3, 3) := ⟨RX4, TX4, 10, jcls_X4, by decide, by decide +kernel, Or.inl (jGw_of 475 (by decide +kernel) (by decide +kernel))⟩
theorem fX4_36 : jFok RX4 (36, 4, 4, 3) := ⟨RX4, TX4, 10, jcls_X4, by decide, by decide +kernel, Or.inl (jGw_of 476 (by decide +kernel) (by decide +kernel))⟩
theorem fX4_39 : jFok RX4 (39, 4, 5, 2) := ⟨RX4, TX4, 10, jcls_X4, by decide, by decide +kernel, Or.inl (jGw_of 477 (by decide +kernel) (by decide +kernel))⟩
theorem fX4_43 : jFok RX4 (43, 4, 6, 0) := ⟨RX4, TX4, 10, jcls_X4, by decide, by decide +kernel, Or.inl (jGw_of 478 (by decide +kernel) (by decide +kernel))⟩
theorem fX4_47 : jFok RX4 (47, 4, 7, 0) := ⟨RX4, TX4, 10, jcls_X4, by decide, by decide +kernel, Or.inl (jGw_of 479 (by decide +kernel) (by decide +kernel))⟩
theorem fX4_50 : jFok RX4 (50, 4, 8, 0) := ⟨RX4, TX4, 10, jcls_X4, by decide, by decide +kernel, Or.inl (jGw_of 480 (by decide +kernel) (by decide +kernel))⟩
theorem fX4_53 : jFok RX4 (53, 4, 9, 0) := ⟨RX4, TX4, 10, jcls_X4, by decide, by decide +kernel, Or.inl (jGw_of 481 (by decide +kernel) (by decide +kernel))⟩
theorem fX4_59 : jFok RX4 (59, 7, 5, 0) := ⟨RX7, TX7, 6, jcls_X7, by decide, by decide +kernel, Or.inr ⟨"RentDivision", jNw_of 454 rfl (by decide +kernel)⟩⟩
theorem fX4_66 : jFok RX4 (66, 10, 5, 0) := ⟨RX10, TX10, 6, jcls_X10, by decide, by decide +kernel, Or.inr ⟨"RentDivision", jNw_of 330 rfl (by decide +kernel)⟩⟩
theorem fX4_76 : jFok RX4 (76, 10, 3, 0) := ⟨RX10, TX10, 6, jcls_X10, by decide, by decide +kernel, Or.inr ⟨"RentDivision", jNw_of 327 rfl (by decide +kernel)⟩⟩
theorem fX4_125 : jFok RX4 (125, 2, 0, 0) := ⟨RX2, TX2, 16, jcls_X2, by decide, by decide +kernel, Or.inr ⟨"RentDivision", jNw_of 360 rfl (by decide +kernel)⟩⟩
theorem fX4_128 : jFok RX4 (128, 2, 1, 0) := ⟨RX2, TX2, 16, jcls_X2, by decide, by decide +kernel, Or.inr ⟨"RentDivision", jNw_of 365 rfl (by decide +kernel)⟩⟩
theorem fX4_152 : jFok RX4 (152, 2, 9, 2) := ⟨RX2, TX2, 16, jcls_X2, by decide, by decide +kernel, Or.inr ⟨"RentDivision", jNw_of 388 rfl (by decide +kernel)⟩⟩
theorem fX4_158 : jFok RX4 (158, 2, 10, 2) := ⟨RX2, TX2, 16, jcls_X2, by decide, by decide +kernel, Or.inr ⟨"RentDivision", jNw_of 391 rfl (by decide +kernel)⟩⟩
theorem fX4_166 : jFok RX4 (166, 2, 2, 0) := ⟨RX2, TX2, 16, jcls_X2, by decide, by decide +kernel, Or.inr ⟨"RentDivision", jNw_of 369 rfl (by decide +kernel)⟩⟩
theorem fX4_168 : jFok RX4 (168, 2, 3, 0) := ⟨RX2, TX2, 16, jcls_X2, by decide, by decide +kernel, Or.inr ⟨"RentDivision", jNw_of 373 rfl (by decide +kernel)⟩⟩
theorem fX4_184 : jFok RX4 (184, 2, 7, 2) := ⟨RX2, TX2, 16, jcls_X2, by decide, by decide +kernel, Or.inr ⟨"RentDivision", jNw_of 382 rfl (by decide +kernel)⟩⟩
theorem fX4_ok : ∀ q ∈ fX4, jFok RX4 q := List.forall_mem_cons.mpr ⟨fX4_12, List.forall_mem_cons.mpr ⟨fX4_21, List.forall_mem_cons.mpr ⟨fX4_28, List.forall_mem_cons.mpr ⟨fX4_32, List.forall_mem_cons.mpr ⟨fX4_36, List.forall_mem_cons.mpr ⟨fX4_39, List.forall_mem_cons.mpr ⟨fX4_43, List.forall_mem_cons.mpr ⟨fX4_47, List.forall_mem_cons.mpr ⟨fX4_50, List.forall_mem_cons.mpr ⟨fX4_53, List.forall_mem_cons.mpr ⟨fX4_59, List.forall_mem_cons.mpr ⟨fX4_66, List.forall_mem_cons.mpr ⟨fX4_76, List.forall_mem_cons.mpr ⟨fX4_125, List.forall_mem_cons.mpr ⟨fX4_128, List.forall_mem_cons.mpr ⟨fX4_152, List.forall_mem_cons.mpr ⟨fX4_158, List.forall_mem_cons.mpr ⟨fX4_166, List.forall_mem_cons.mpr ⟨fX4_168, List.forall_mem_cons.mpr ⟨fX4_184, fun _ h => absurd h List.not_mem_nil⟩⟩⟩⟩⟩⟩⟩⟩⟩⟩⟩⟩⟩⟩⟩⟩⟩⟩⟩⟩
def lX4 : List (Nat × Int64) := []
theorem lX4_ok : ∀ q ∈ lX4, Cond.constantLong RX4 q.1 q.2 ∈ jGw := fun _ h => absurd h List.not_mem_nil
def kX4 : List (Nat × Int32) := [(148, 99999)]
theorem kX4_ok : ∀ q ∈ kX4, Cond.constant RX4 q.1 q.2 ∈ jGw := List.forall_mem_cons.mpr ⟨(jGw_of 1157 (by decide +kernel) (by decide +kernel)), fun _ h => absurd h List.not_mem_nil⟩
def fX5 : List (Nat × Nat × Nat × Nat) := [(11, 5, 0, 2), (15, 5, 1, 0)]
theorem fX5_11 : jFok RX5 (11, 5, 0, 2) := ⟨RX5, TX5, 2, jcls_X5, by decide, by decide +kernel, Or.inl (jGw_of 668 (by decide +kernel) (by decide +kernel))⟩
theorem fX5_15 : jFok RX5 (15, 5, 1, 0) := ⟨RX5, TX5, 2, jcls_X5, by decide, by decide +kernel, Or.inl (jGw_of 669 (by decide +kernel) (by decide +kernel))⟩
theorem fX5_ok : ∀ q ∈ fX5, jFok RX5 q := List.forall_mem_cons.mpr ⟨fX5_11, List.forall_mem_cons.mpr ⟨fX5_15, fun _ h => absurd h List.not_mem_nil⟩⟩
def lX5 : List (Nat × Int64) := []
theorem lX5_ok : ∀ q ∈ lX5, Cond.constantLong RX5 q.1 q.2 ∈ jGw := fun _ h => absurd h List.not_mem_nil
def kX5 : List (Nat × Int32) := []
theorem kX5_ok : ∀ q ∈ kX5, Cond.constant RX5 q.1 q.2 ∈ jGw := fun _ h => absurd h List.not_mem_nil
def fX6 : List (Nat × Nat × Nat × Nat) := [(12, 6, 0, 2), (18, 6, 1, 2), (22, 6, 2, 2), (25, 6, 3, 2), (28, 6, 4, 2), (31, 6, 5, 0), (38, 6, 6, 2), (42, 6, 7, 2), (56, 2, 2, 0), (59, 1, 0, 0), (62, 1, 2, 2), (69, 2, 9, 2), (76, 2, 7, 2), (118, 1, 4, 2), (121, 0, 2, 2), (124, 0, 0, 2)]
theorem fX6_12 : jFok RX6 (12, 6, 0, 2) := ⟨RX6, TX6, 8, jcls_X6, by decide, by decide +kernel, Or.inl (jGw_of 595 (by decide +kernel) (by decide +kernel))⟩
theorem fX6_18 : jFok RX6 (18, 6, 1, 2) := ⟨RX6, TX6, 8, jcls_X6, by decide, by decide +kernel, Or.inl (jGw_of 597 (by decide +kernel) (by decide +kernel))⟩
theorem fX6_22 : jFok RX6 (22, 6, 2, 2) := ⟨RX6, TX6, 8, jcls_X6, by decide, by decide +kernel, Or.inl (jGw_of 599 (by decide +kernel) (by decide +kernel))⟩
theorem fX6_25 : jFok RX6 (25, 6, 3, 2) := ⟨RX6, TX6, 8, jcls_X6, by decide, by decide +kernel, Or.inl (jGw_of 601 (by decide +kernel) (by decide +kernel))⟩
theorem fX6_28 : jFok RX6 (28, 6, 4, 2) := ⟨RX6, TX6, 8, jcls_X6, by decide, by decide +kernel, Or.inl (jGw_of 602 (by decide +kernel) (by decide +kernel))⟩
theorem fX6_31 : jFok RX6 (31, 6, 5, 0) := ⟨RX6, TX6, 8, jcls_X6, by decide, by decide +kernel, Or.inl (jGw_of 603 (by decide +kernel) (by decide +kernel))⟩
theorem fX6_38 : jFok RX6 (38, 6, 6, 2) := ⟨RX6, TX6, 8, jcls_X6, by decide, by decide +kernel, Or.inl (jGw_of 604 (by decide +kernel) (by decide +kernel))⟩
theorem fX6_42 : jFok RX6 (42, 6, 7, 2) := ⟨RX6, TX6, 8, jcls_X6, by decide, by decide +kernel, Or.inl (jGw_of 606 (by decide +kernel) (by decide +kernel))⟩
theorem fX6_56 : jFok RX6 (56, 2, 2, 0) := ⟨RX2, TX2, 16, jcls_X2, by decide, by decide +kernel, Or.inr ⟨"RentDivision", jNw_of 368 rfl (by decide +kernel)⟩⟩
theorem fX6_59 : jFok RX6 (59, 1, 0, 0) := ⟨RX1, TX1, 7, jcls_X1, by decide, by decide +kernel, Or.inr ⟨"RentDivision", jNw_of 539 rfl (by decide +kernel)⟩⟩
theorem fX6_62 : jFok RX6 (62, 1, 2, 2) := ⟨RX1, TX1, 7, jcls_X1, by decide, by decide +kernel, Or.inr ⟨"RentDivision", jNw_of 542 rfl (by decide +kernel)⟩⟩
theorem fX6_69 : jFok RX6 (69, 2, 9, 2) := ⟨RX2, TX2, 16, jcls_X2, by decide, by decide +kernel, Or.inr ⟨"RentDivision", jNw_of 387 rfl (by decide +kernel)⟩⟩
theorem fX6_76 : jFok RX6 (76, 2, 7, 2) := ⟨RX2, TX2, 16, jcls_X2, by decide, by decide +kernel, Or.inr ⟨"RentDivision", jNw_of 381 rfl (by decide +kernel)⟩⟩
theorem fX6_118 : jFok RX6 (118, 1, 4, 2) := ⟨RX1, TX1, 7, jcls_X1, by decide, by decide +kernel, Or.inr ⟨"RentDivision", jNw_of 545 rfl (by decide +kernel)⟩⟩
theorem fX6_121 : jFok RX6 (121, 0, 2, 2) := ⟨RX0, TX0, 4, jcls_X0, by decide, by decide +kernel, Or.inr ⟨"RentDivision", jNw_of 583 rfl (by decide +kernel)⟩⟩
theorem fX6_124 : jFok RX6 (124, 0, 0, 2) := ⟨RX0, TX0, 4, jcls_X0, by decide, by decide +kernel, Or.inr ⟨"RentDivision", jNw_of 579 rfl (by decide +kernel)⟩⟩
theorem fX6_ok : ∀ q ∈ fX6, jFok RX6 q := List.forall_mem_cons.mpr ⟨fX6_12, List.forall_mem_cons.mpr ⟨fX6_18, List.forall_mem_cons.mpr ⟨fX6_22, List.forall_mem_cons.mpr ⟨fX6_25, List.forall_mem_cons.mpr ⟨fX6_28, List.forall_mem_cons.mpr ⟨fX6_31, List.forall_mem_cons.mpr ⟨fX6_38, List.forall_mem_cons.mpr ⟨fX6_42, List.forall_mem_cons.mpr ⟨fX6_56, List.forall_mem_cons.mpr ⟨fX6_59, List.forall_mem_cons.mpr ⟨fX6_62, List.forall_mem_cons.mpr ⟨fX6_69, List.forall_mem_cons.mpr ⟨fX6_76, List.forall_mem_cons.mpr ⟨fX6_118, List.forall_mem_cons.mpr ⟨fX6_121, List.forall_mem_cons.mpr ⟨fX6_124, fun _ h => absurd h List.not_mem_nil⟩⟩⟩⟩⟩⟩⟩⟩⟩⟩⟩⟩⟩⟩⟩⟩
def lX6 : List (Nat × Int64) := []
theorem lX6_ok : ∀ q ∈ lX6, Cond.constantLong RX6 q.1 q.2 ∈ jGw := fun _ h => absurd h List.not_mem_nil
def kX6 : List (Nat × Int32) := [(92, -2000000000)]
theorem kX6_ok : ∀ q ∈ kX6, Cond.constant RX6 q.1 q.2 ∈ jGw := List.forall_mem_cons.mpr ⟨(jGw_of 215 (by decide +kernel) (by decide +kernel)), fun _ h => absurd h List.not_mem_nil⟩
def fX7 : List (Nat × Nat × Nat × Nat) := [(9, 7, 0, 2), (15, 7, 1, 2), (18, 7, 2, 2), (21, 7, 3, 2), (24, 7, 4, 2), (27, 7, 5, 0)]
theorem fX7_9 : jFok RX7 (9, 7, 0, 2) := ⟨RX7, TX7, 6, jcls_X7, by decide, by decide +kernel, Or.inl (jGw_of 445 (by decide +kernel) (by decide +kernel))⟩
theorem fX7_15 : jFok RX7 (15, 7, 1, 2) := ⟨RX7, TX7, 6, jcls_X7, by decide, by decide +kernel, Or.inl (jGw_of 446 (by decide +kernel) (by decide +kernel))⟩
theorem fX7_18 : jFok RX7 (18, 7, 2, 2) := ⟨RX7, TX7, 6, jcls_X7, by decide, by decide +kernel, Or.inl (jGw_of 447 (by decide +kernel) (by decide +kernel))⟩
theorem fX7_21 : jFok RX7 (21, 7, 3, 2) := ⟨RX7, TX7, 6, jcls_X7, by decide, by decide +kernel, Or.inl (jGw_of 449 (by decide +kernel) (by decide +kernel))⟩
theorem fX7_24 : jFok RX7 (24, 7, 4, 2) := ⟨RX7, TX7, 6, jcls_X7, by decide, by decide +kernel, Or.inl (jGw_of 451 (by decide +kernel) (by decide +kernel))⟩
theorem fX7_27 : jFok RX7 (27, 7, 5, 0) := ⟨RX7, TX7, 6, jcls_X7, by decide, by decide +kernel, Or.inl (jGw_of 453 (by decide +kernel) (by decide +kernel))⟩
theorem fX7_ok : ∀ q ∈ fX7, jFok RX7 q := List.forall_mem_cons.mpr ⟨fX7_9, List.forall_mem_cons.mpr ⟨fX7_15, List.forall_mem_cons.mpr ⟨fX7_18, List.forall_mem_cons.mpr ⟨fX7_21, List.forall_mem_cons.mpr ⟨fX7_24, List.forall_mem_cons.mpr ⟨fX7_27, fun _ h => absurd h List.not_mem_nil⟩⟩⟩⟩⟩⟩
def lX7 : List (Nat × Int64) := []
theorem lX7_ok : ∀ q ∈ lX7, Cond.constantLong RX7 q.1 q.2 ∈ jGw := fun _ h => absurd h List.not_mem_nil
def kX7 : List (Nat × Int32) := []
theorem kX7_ok : ∀ q ∈ kX7, Cond.constant RX7 q.1 q.2 ∈ jGw := fun _ h => absurd h List.not_mem_nil
def fX8 : List (Nat × Nat × Nat × Nat) := [(9, 8, 0, 2), (15, 8, 1, 2), (18, 8, 2, 2), (21, 8, 3, 2), (24, 8, 4, 2), (29, 8, 5, 2), (32, 8, 6, 0), (39, 8, 7, 2), (49, 2, 1, 0), (58, 2, 12, 2), (67, 2, 3, 0), (81, 2, 14, 2)]
theorem fX8_9 : jFok RX8 (9, 8, 0, 2) := ⟨RX8, TX8, 8, jcls_X8, by decide, by decide +kernel, Or.inl (jGw_of 635 (by decide +kernel) (by decide +kernel))⟩
theorem fX8_15 : jFok RX8 (15, 8, 1, 2) := ⟨RX8, TX8, 8, jcls_X8, by decide, by decide +kernel, Or.inl (jGw_of 637 (by decide +kernel) (by decide +kernel))⟩
theorem fX8_18 : jFok RX8 (18, 8, 2, 2) := ⟨RX8, TX8, 8, jcls_X8, by decide, by decide +kernel, Or.inl (jGw_of 638 (by decide +kernel) (by decide +kernel))⟩
theorem fX8_21 : jFok RX8 (21, 8, 3, 2) := ⟨RX8, TX8, 8, jcls_X8, by decide, by decide +kernel, Or.inl (jGw_of 639 (by decide +kernel) (by decide +kernel))⟩
theorem fX8_24 : jFok RX8 (24, 8, 4, 2) := ⟨RX8, TX8, 8, jcls_X8, by decide, by decide +kernel, Or.inl (jGw_of 640 (by decide +kernel) (by decide +kernel))⟩
theorem fX8_29 : jFok RX8 (29, 8, 5, 2) := ⟨RX8, TX8, 8, jcls_X8, by decide, by decide +kernel, Or.inl (jGw_of 641 (by decide +kernel) (by decide +kernel))⟩
theorem fX8_32 : jFok RX8 (32, 8, 6, 0) := ⟨RX8, TX8, 8, jcls_X8, by decide, by decide +kernel, Or.inl (jGw_of 642 (by decide +kernel) (by decide +kernel))⟩
theorem fX8_39 : jFok RX8 (39, 8, 7, 2) := ⟨RX8, TX8, 8, jcls_X8, by decide, by decide +kernel, Or.inl (jGw_of 644 (by decide +kernel) (by decide +kernel))⟩
theorem fX8_49 : jFok RX8 (49, 2, 1, 0) := ⟨RX2, TX2, 16, jcls_X2, by decide, by decide +kernel, Or.inr ⟨"RentDivision", jNw_of 363 rfl (by decide +kernel)⟩⟩
theorem fX8_58 : jFok RX8 (58, 2, 12, 2) := ⟨RX2, TX2, 16, jcls_X2, by decide, by decide +kernel, Or.inr ⟨"RentDivision", jNw_of 396 rfl (by decide +kernel)⟩⟩
theorem fX8_67 : jFok RX8 (67, 2, 3, 0) := ⟨RX2, TX2, 16, jcls_X2, by decide, by decide +kernel, Or.inr ⟨"RentDivision", jNw_of 372 rfl (by decide +kernel)⟩⟩
theorem fX8_81 : jFok RX8 (81, 2, 14, 2) := ⟨RX2, TX2, 16, jcls_X2, by decide, by decide +kernel, Or.inr ⟨"RentDivision", jNw_of 401 rfl (by decide +kernel)⟩⟩
theorem fX8_ok : ∀ q ∈ fX8, jFok RX8 q := List.forall_mem_cons.mpr ⟨fX8_9, List.forall_mem_cons.mpr ⟨fX8_15, List.forall_mem_cons.mpr ⟨fX8_18, List.forall_mem_cons.mpr ⟨fX8_21, List.forall_mem_cons.mpr ⟨fX8_24, List.forall_mem_cons.mpr ⟨fX8_29, List.forall_mem_cons.mpr ⟨fX8_32, List.forall_mem_cons.mpr ⟨fX8_39, List.forall_mem_cons.mpr ⟨fX8_49, List.forall_mem_cons.mpr ⟨fX8_58, List.forall_mem_cons.mpr ⟨fX8_67, List.forall_mem_cons.mpr ⟨fX8_81, fun _ h => absurd h List.not_mem_nil⟩⟩⟩⟩⟩⟩⟩⟩⟩⟩⟩⟩
def lX8 : List (Nat × Int64) := []
theorem lX8_ok : ∀ q ∈ lX8, Cond.constantLong RX8 q.1 q.2 ∈ jGw := fun _ h => absurd h List.not_mem_nil
def kX8 : List (Nat × Int32) := []
theorem kX8_ok : ∀ q ∈ kX8, Cond.constant RX8 q.1 q.2 ∈ jGw := fun _ h => absurd h List.not_mem_nil
def fX9 : List (Nat × Nat × Nat × Nat) := [(9, 9, 0, 2)]
theorem fX9_9 : jFok RX9 (9, 9, 0, 2) := ⟨RX9, TX9, 1, jcls_X9, by decide, by decide +kernel, Or.inl (jGw_of 573 (by decide +kernel) (by decide +kernel))⟩
theorem fX9_ok : ∀ q ∈ fX9, jFok RX9 q := List.forall_mem_cons.mpr ⟨fX9_9, fun _ h => absurd h List.not_mem_nil⟩
def lX9 : List (Nat × Int64) := [(28, -1)]
theorem lX9_ok : ∀ q ∈ lX9, Cond.constantLong RX9 q.1 q.2 ∈ jGw := List.forall_mem_cons.mpr ⟨(jGw_of 255 (by decide +kernel) (by decide +kernel)), fun _ h => absurd h List.not_mem_nil⟩
def kX9 : List (Nat × Int32) := []
theorem kX9_ok : ∀ q ∈ kX9, Cond.constant RX9 q.1 q.2 ∈ jGw := fun _ h => absurd h List.not_mem_nil
def fX10 : List (Nat × Nat × Nat × Nat) := [(9, 10, 0, 2), (15, 10, 1, 0), (19, 10, 2, 0), (22, 10, 3, 0), (25, 10, 4, 0), (28, 10, 5, 0)]
theorem fX10_9 : jFok RX10 (9, 10, 0, 2) := ⟨RX10, TX10, 6, jcls_X10, by decide, by decide +kernel, Or.inl (jGw_of 322 (by decide +kernel) (by decide +kernel))⟩
theorem fX10_15 : jFok RX10 (15, 10, 1, 0) := ⟨RX10, TX10, 6, jcls_X10, by decide, by decide +kernel, Or.inl (jGw_of 323 (by decide +kernel) (by decide +kernel))⟩
theorem fX10_19 : jFok RX10 (19, 10, 2, 0) := ⟨RX10, TX10, 6, jcls_X10, by decide, by decide +kernel, Or.inl (jGw_of 325 (by decide +kernel) (by decide +kernel))⟩
theorem fX10_22 : jFok RX10 (22, 10, 3, 0) := ⟨RX10, TX10, 6, jcls_X10, by decide, by decide +kernel, Or.inl (jGw_of 326 (by decide +kernel) (by decide +kernel))⟩
theorem fX10_25 : jFok RX10 (25, 10, 4, 0) := ⟨RX10, TX10, 6, jcls_X10, by decide, by decide +kernel, Or.inl (jGw_of 328 (by decide +kernel) (by decide +kernel))⟩
theorem fX10_28 : jFok RX10 (28, 10, 5, 0) := ⟨RX10, TX10, 6, jcls_X10, by decide, by decide +kernel, Or.inl (jGw_of 329 (by decide +kernel) (by decide +kernel))⟩
theorem fX10_ok : ∀ q ∈ fX10, jFok RX10 q := List.forall_mem_cons.mpr ⟨fX10_9, List.forall_mem_cons.mpr ⟨fX10_15, List.forall_mem_cons.mpr ⟨fX10_19, List.forall_mem_cons.mpr ⟨fX10_22, List.forall_mem_cons.mpr ⟨fX10_25, List.forall_mem_cons.mpr ⟨fX10_28, fun _ h => absurd h List.not_mem_nil⟩⟩⟩⟩⟩⟩
def lX10 : List (Nat × Int64) := []
theorem lX10_ok : ∀ q ∈ lX10, Cond.constantLong RX10 q.1 q.2 ∈ jGw := fun _ h => absurd h List.not_mem_nil
def kX10 : List (Nat × Int32) := [(56, 1000000)]
theorem kX10_ok : ∀ q ∈ kX10, Cond.constant RX10 q.1 q.2 ∈ jGw := List.forall_mem_cons.mpr ⟨(jGw_of 1166 (by decide +kernel) (by decide +kernel)), fun _ h => absurd h List.not_mem_nil⟩
def fX11 : List (Nat × Nat × Nat × Nat) := [(10, 11, 0, 2), (19, 11, 1, 2), (26, 11, 2, 2), (33, 11, 3, 2), (40, 11, 4, 2), (44, 11, 5, 3), (51, 11, 6, 2), (58, 11, 7, 2), (65, 11, 8, 2), (69, 4, 0, 2), (73, 10, 1, 0), (90, 4, 2, 2), (95, 4, 1, 2), (103, 2, 0, 0), (106, 2, 1, 0), (116, 2, 5, 0), (126, 2, 7, 2), (130, 2, 2, 0), (139, 2, 8, 2), (142, 2, 9, 2), (158, 7, 5, 0), (161, 2, 6, 0), (187, 6, 0, 2), (200, 6, 2, 2), (203, 6, 1, 2), (206, 6, 6, 2), (210, 0, 0, 2), (224, 0, 2, 2), (252, 2, 11, 2), (255, 2, 12, 2), (279, 2, 13, 2), (282, 2, 14, 2), (285, 2, 15, 2), (288, 2, 4, 0), (294, 8, 0, 2), (298, 8, 6, 0), (320, 2, 10, 2)]
theorem fX11_10 : jFok RX11 (10, 11, 0, 2) := ⟨RX11, TX11, 9, jcls_X11, by decide, by decide +kernel, Or.inl (jGw_of 676 (by decide +kernel) (by decide +kernel))⟩
theorem fX11_19 : jFok RX11 (19, 11, 1, 2) := ⟨RX11, TX11, 9, jcls_X11, by decide, by decide +kernel, Or.inl (jGw_of 677 (by decide +kernel) (by decide +kernel))⟩
theorem fX11_26 : jFok RX11 (26, 11, 2, 2) := ⟨RX11, TX11, 9, jcls_X11, by decide, by decide +kernel, Or.inl (jGw_of 678 (by decide +kernel) (by decide +kernel))⟩
theorem fX11_33 : jFok RX11 (33, 11, 3, 2) := ⟨RX11, TX11, 9, jcls_X11, by decide, by decide +kernel, Or.inl (jGw_of 679 (by decide +kernel) (by decide +kernel))⟩
theorem fX11_40 : jFok RX11 (40, 11, 4, 2) := ⟨RX11, TX11, 9, jcls_X11, by decide, by decide +kernel, Or.inl (jGw_of 680 (by decide +kernel) (by decide +kernel))⟩
theorem fX11_44 : jFok RX11 (44, 11, 5, 3) := ⟨RX11, TX11, 9, jcls_X11, by decide, by decide +kernel, Or.inl (jGw_of 681 (by decide +kernel) (by decide +kernel))⟩
theorem fX11_51 : jFok RX11 (51, 11, 6, 2) := ⟨RX11, TX11, 9, jcls_X11, by decide, by decide +kernel, Or.inl (jGw_of 682 (by decide +kernel) (by decide +kernel))⟩
theorem fX11_58 : jFok RX11 (58, 11, 7, 2) := ⟨RX11, TX11, 9, jcls_X11, by decide, by decide +kernel, Or.inl (jGw_of 683 (by decide +kernel) (by decide +kernel))⟩
theorem fX11_65 : jFok RX11 (65, 11, 8, 2) := ⟨RX11, TX11, 9, jcls_X11, by decide, by decide +kernel, Or.inl (jGw_of 684 (by decide +kernel) (by decide +kernel))⟩
theorem fX11_69 : jFok RX11 (69, 4, 0, 2) := ⟨RX4, TX4, 10, jcls_X4, by decide, by decide +kernel, Or.inr ⟨"RentDivision", jNw_of 470 rfl (by decide +kernel)⟩⟩
theorem fX11_73 : jFok RX11 (73, 10, 1, 0) := ⟨RX10, TX10, 6, jcls_X10, by decide, by decide +kernel, Or.inr ⟨"RentDivision", jNw_of 324 rfl (by decide +kernel)⟩⟩
theorem fX11_90 : jFok RX11 (90, 4, 2, 2) := ⟨RX4, TX4, 10, jcls_X4, by decide, by decide +kernel, Or.inr ⟨"RentDivision", jNw_of 474 rfl (by decide +kernel)⟩⟩
theorem fX11_95 : jFok RX11 (95, 4, 1, 2) := ⟨RX4, TX4, 10, jcls_X4, by decide, by decide +kernel, Or.inr ⟨"RentDivision", jNw_of 472 rfl (by decide +kernel)⟩⟩
theorem fX11_103 : jFok RX11 (103, 2, 0, 0) := ⟨RX2, TX2, 16, jcls_X2, by decide, by decide +kernel, Or.inr ⟨"RentDivision", jNw_of 361 rfl (by decide +kernel)⟩⟩
theorem fX11_106 : jFok RX11 (106, 2, 1, 0) := ⟨RX2, TX2, 16, jcls_X2, by decide, by decide +kernel, Or.inr ⟨"RentDivision", jNw_of 366 rfl (by decide +kernel)⟩⟩
theorem fX11_116 : jFok RX11 (116, 2, 5, 0) := ⟨RX2, TX2, 16, jcls_X2, by decide, by decide +kernel, Or.inr ⟨"RentDivision", jNw_of 377 rfl (by decide +kernel)⟩⟩
theorem fX11_126 : jFok RX11 (126, 2, 7, 2) := ⟨RX2, TX2, 16, jcls_X2, by decide, by decide +kernel, Or.inr ⟨"RentDivision", jNw_of 383 rfl (by decide +kernel)⟩⟩
theorem fX11_130 : jFok RX11 (130, 2, 2, 0) := ⟨RX2, TX2, 16, jcls_X2, by decide, by decide +kernel, Or.inr ⟨"RentDivision", jNw_of 370 rfl (by decide +kernel)⟩⟩
theorem fX11_139 : jFok RX11 (139, 2, 8, 2) := ⟨RX2, TX2, 16, jcls_X2, by decide, by decide +kernel, Or.inr ⟨"RentDivision", jNw_of 385 rfl (by decide +kernel)⟩⟩
theorem fX11_142 : jFok RX11 (142, 2, 9, 2) := ⟨RX2, TX2, 16, jcls_X2, by decide, by decide +kernel, Or.inr ⟨"RentDivision", jNw_of 389 rfl (by decide +kernel)⟩⟩
theorem fX11_158 : jFok RX11 (158, 7, 5, 0) := ⟨RX7, TX7, 6, jcls_X7, by decide, by decide +kernel, Or.inr ⟨"RentDivision", jNw_of 455 rfl (by decide +kernel)⟩⟩
theorem fX11_161 : jFok RX11 (161, 2, 6, 0) := ⟨RX2, TX2, 16, jcls_X2, by decide, by decide +kernel, Or.inr ⟨"RentDivision", jNw_of 379 rfl (by decide +kernel)⟩⟩
theorem fX11_187 : jFok RX11 (187, 6, 0, 2) := ⟨RX6, TX6, 8, jcls_X6, by decide, by decide +kernel, Or.inr ⟨"RentDivision", jNw_of 596 rfl (by decide +kernel)⟩⟩
theorem fX11_200 : jFok RX11 (200, 6, 2, 2) := ⟨RX6, TX6, 8, jcls_X6, by decide, by decide +kernel, Or.inr ⟨"RentDivision", jNw_of 600 rfl (by decide +kernel)⟩⟩
theorem fX11_203 : jFok RX11 (203, 6, 1, 2) := ⟨RX6, TX6, 8, jcls_X6, by decide, by decide +kernel, Or.inr ⟨"RentDivision", jNw_of 598 rfl (by decide +kernel)⟩⟩
theorem fX11_206 : jFok RX11 (206, 6, 6, 2) := ⟨RX6, TX6, 8, jcls_X6, by decide, by decide +kernel, Or.inr ⟨"RentDivision", jNw_of 605 rfl (by decide +kernel)⟩⟩
theorem fX11_210 : jFok RX11 (210, 0, 0, 2) := ⟨RX0, TX0, 4, jcls_X0, by decide, by decide +kernel, Or.inr ⟨"RentDivision", jNw_of 580 rfl (by decide +kernel)⟩⟩
theorem fX11_224 : jFok RX11 (224, 0, 2, 2) := ⟨RX0, TX0, 4, jcls_X0, by decide, by decide +kernel, Or.inr ⟨"RentDivision", jNw_of 584 rfl (by decide +kernel)⟩⟩
theorem fX11_252 : jFok RX11 (252, 2, 11, 2) := ⟨RX2, TX2, 16, jcls_X2, by decide, by decide +kernel, Or.inr ⟨"RentDivision", jNw_of 394 rfl (by decide +kernel)⟩⟩
theorem fX11_255 : jFok RX11 (255, 2, 12, 2) := ⟨RX2, TX2, 16, jcls_X2, by decide, by decide +kernel, Or.inr ⟨"RentDivision", jNw_of 397 rfl (by decide +kernel)⟩⟩
theorem fX11_279 : jFok RX11 (279, 2, 13, 2) := ⟨RX2, TX2, 16, jcls_X2, by decide, by decide +kernel, Or.inr ⟨"RentDivision", jNw_of 399 rfl (by decide +kernel)⟩⟩
theorem fX11_282 : jFok RX11 (282, 2, 14, 2) := ⟨RX2, TX2, 16, jcls_X2, by decide, by decide +kernel, Or.inr ⟨"RentDivision", jNw_of 402 rfl (by decide +kernel)⟩⟩
theorem fX11_285 : jFok RX11 (285, 2, 15, 2) := ⟨RX2, TX2, 16, jcls_X2, by decide, by decide +kernel, Or.inr ⟨"RentDivision", jNw_of 404 rfl (by decide +kernel)⟩⟩
theorem fX11_288 : jFok RX11 (288, 2, 4, 0) := ⟨RX2, TX2, 16, jcls_X2, by decide, by decide +kernel, Or.inr ⟨"RentDivision", jNw_of 375 rfl (by decide +kernel)⟩⟩
theorem fX11_294 : jFok RX11 (294, 8, 0, 2) := ⟨RX8, TX8, 8, jcls_X8, by decide, by decide +kernel, Or.inr ⟨"RentDivision", jNw_of 636 rfl (by decide +kernel)⟩⟩
theorem fX11_298 : jFok RX11 (298, 8, 6, 0) := ⟨RX8, TX8, 8, jcls_X8, by decide, by decide +kernel, Or.inr ⟨"RentDivision", jNw_of 643 rfl (by decide +kernel)⟩⟩
theorem fX11_320 : jFok RX11 (320, 2, 10, 2) := ⟨RX2, TX2, 16, jcls_X2, by decide, by decide +kernel, Or.inr ⟨"RentDivision", jNw_of 392 rfl (by decide +kernel)⟩⟩
theorem fX11_ok : ∀ q ∈ fX11, jFok RX11 q := List.forall_mem_cons.mpr ⟨fX11_10, List.forall_mem_cons.mpr ⟨fX11_19, List.forall_mem_cons.mpr ⟨fX11_26, List.forall_mem_cons.mpr ⟨fX11_33, List.forall_mem_cons.mpr ⟨fX11_40, List.forall_mem_cons.mpr ⟨fX11_44, List.forall_mem_cons.mpr ⟨fX11_51, List.forall_mem_cons.mpr ⟨fX11_58, List.forall_mem_cons.mpr ⟨fX11_65, List.forall_mem_cons.mpr ⟨fX11_69, List.forall_mem_cons.mpr ⟨fX11_73, List.forall_mem_cons.mpr ⟨fX11_90, List.forall_mem_cons.mpr ⟨fX11_95, List.forall_mem_cons.mpr ⟨fX11_103, List.forall_mem_cons.mpr ⟨fX11_106, List.forall_mem_cons.mpr ⟨fX11_116, List.forall_mem_cons.mpr ⟨fX11_126, List.forall_mem_cons.mpr ⟨fX11_130, List.forall_mem_cons.mpr ⟨fX11_139, List.forall_mem_cons.mpr ⟨fX11_142, List.forall_mem_cons.mpr ⟨fX11_158, List.forall_mem_cons.mpr ⟨fX11_161, List.forall_mem_cons.mpr ⟨fX11_187, List.forall_mem_cons.mpr ⟨fX11_200, List.forall_mem_cons.mpr ⟨fX11_203, List.forall_mem_cons.mpr ⟨fX11_206, List.forall_mem_cons.mpr ⟨fX11_210, List.forall_mem_cons.mpr ⟨fX11_224, List.forall_mem_cons.mpr ⟨fX11_252, List.forall_mem_cons.mpr ⟨fX11_255, List.forall_mem_cons.mpr ⟨fX11_279, List.forall_mem_cons.mpr ⟨fX11_282, List.forall_mem_cons.mpr ⟨fX11_285, List.forall_mem_cons.mpr ⟨fX11_288, List.forall_mem_cons.mpr ⟨fX11_294, List.forall_mem_cons.mpr ⟨fX11_298, List.forall_mem_cons.mpr ⟨fX11_320, fun _ h => absurd h List.not_mem_nil⟩⟩⟩⟩⟩⟩⟩⟩⟩⟩⟩⟩⟩⟩⟩⟩⟩⟩⟩⟩⟩⟩⟩⟩⟩⟩⟩⟩⟩⟩⟩⟩⟩⟩⟩⟩⟩
def lX11 : List (Nat × Int64) := []
theorem lX11_ok : ∀ q ∈ lX11, Cond.constantLong RX11 q.1 q.2 ∈ jGw := fun _ h => absurd h List.not_mem_nil
def kX11 : List (Nat × Int32) := [(199, -2000000000), (379, 99999)]
theorem kX11_ok : ∀ q ∈ kX11, Cond.constant RX11 q.1 q.2 ∈ jGw := List.forall_mem_cons.mpr ⟨(jGw_of 1470 (by decide +kernel) (by decide +kernel)), List.forall_mem_cons.mpr ⟨(jGw_of 1617 (by decide +kernel) (by decide +kernel)), fun _ h => absurd h List.not_mem_nil⟩⟩
def fL : List (Nat × Nat × Nat × Nat) := [(42, 12, 19, 3), (60, 12, 0, 2)]
theorem fL_42 : jFok RL (42, 12, 19, 3) := ⟨RX12, TX12, 25, jcls_X12, by decide, by decide +kernel, Or.inr ⟨"RentDivisionLaw", jNw_of 1250 rfl (by decide +kernel)⟩⟩
theorem fL_60 : jFok RL (60, 12, 0, 2) := ⟨RX12, TX12, 25, jcls_X12, by decide, by decide +kernel, Or.inr ⟨"RentDivisionLaw", jNw_of 1230 rfl (by decide +kernel)⟩⟩
theorem fL_ok : ∀ q ∈ fL, jFok RL q := List.forall_mem_cons.mpr ⟨fL_42, List.forall_mem_cons.mpr ⟨fL_60, fun _ h => absurd h List.not_mem_nil⟩⟩
def lL : List (Nat × Int64) := []
theorem lL_ok : ∀ q ∈ lL, Cond.constantLong RL q.1 q.2 ∈ jGw := fun _ h => absurd h List.not_mem_nil
def kL : List (Nat × Int32) := [(7, 2147483647)]
theorem kL_ok : ∀ q ∈ kL, Cond.constant RL q.1 q.2 ∈ jGw := List.forall_mem_cons.mpr ⟨(jGw_of 736 (by decide +kernel) (by decide +kernel)), fun _ h => absurd h List.not_mem_nil⟩
def fJ9 : List (Nat × Nat × Nat × Nat) := []
theorem fJ9_ok : ∀ q ∈ fJ9, jFok RJ9 q := fun _ h => absurd h List.not_mem_nil
def lJ9 : List (Nat × Int64) := []
theorem lJ9_ok : ∀ q ∈ lJ9, Cond.constantLong RJ9 q.1 q.2 ∈ jGw := fun _ h => absurd h List.not_mem_nil
def kJ9 : List (Nat × Int32) := []
theorem kJ9_ok : ∀ q ∈ kJ9, Cond.constant RJ9 q.1 q.2 ∈ jGw := fun _ h => absurd h List.not_mem_nil
def fJ6 : List (Nat × Nat × Nat × Nat) := []
theorem fJ6_ok : ∀ q ∈ fJ6, jFok RJ6 q := fun _ h => absurd h List.not_mem_nil
def lJ6 : List (Nat × Int64) := []
theorem lJ6_ok : ∀ q ∈ lJ6, Cond.constantLong RJ6 q.1 q.2 ∈ jGw := fun _ h => absurd h List.not_mem_nil
def kJ6 : List (Nat × Int32) := [(265, 1431655765), (266, 858993459), (267, 252645135)]
theorem kJ6_ok : ∀ q ∈ kJ6, Cond.constant RJ6 q.1 q.2 ∈ jGw := List.forall_mem_cons.mpr ⟨(jGw_of 174 (by decide +kernel) (by decide +kernel)), List.forall_mem_cons.mpr ⟨(jGw_of 175 (by decide +kernel) (by decide +kernel)), List.forall_mem_cons.mpr ⟨(jGw_of 176 (by decide +kernel) (by decide +kernel)), fun _ h => absurd h List.not_mem_nil⟩⟩⟩
def fJ7 : List (Nat × Nat × Nat × Nat) := []
theorem fJ7_ok : ∀ q ∈ fJ7, jFok RJ7 q := fun _ h => absurd h List.not_mem_nil
def lJ7 : List (Nat × Int64) := []
theorem lJ7_ok : ∀ q ∈ lJ7, Cond.constantLong RJ7 q.1 q.2 ∈ jGw := fun _ h => absurd h List.not_mem_nil
def kJ7 : List (Nat × Int32) := []
theorem kJ7_ok : ∀ q ∈ kJ7, Cond.constant RJ7 q.1 q.2 ∈ jGw := fun _ h => absurd h List.not_mem_nil
