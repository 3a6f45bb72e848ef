/-! by program: lists that are made, the law's put and cell: fields, rows, words, links -/
theorem qJxc12de_7 : dFok RJxc12de (7, 15, 0, 0) := ⟨RJx4a65c, TJx4a65c, 3, dcls_Jx4a65c, by decide, by decide +kernel, ⟨"java/util/AbstractList", Or.inl rfl, Or.inl (jGw_of 720 (by decide +kernel) (by decide +kernel))⟩, fun h => absurd h (by decide)⟩
def qJxc12de : List (Nat × Nat × Nat × Nat) := [(7, 15, 0, 0)]
theorem qJxc12de_ok : ∀ q ∈ qJxc12de, dFok RJxc12de q := List.forall_mem_cons.mpr ⟨qJxc12de_7, fun _ h => absurd h List.not_mem_nil⟩
def qlJxc12de : List (Nat × Int64) := []
theorem qlJxc12de_ok : ∀ q ∈ qlJxc12de, Cond.constantLong RJxc12de q.1 q.2 ∈ jGw := fun _ h => absurd h List.not_mem_nil
def qkJxc12de : List (Nat × Int32) := []
theorem qkJxc12de_ok : ∀ q ∈ qkJxc12de, Cond.constant RJxc12de q.1 q.2 ∈ jGw := fun _ h => absurd h List.not_mem_nil
def qJxa1e45 : List (Nat × Nat × Nat × Nat) := []
theorem qJxa1e45_ok : ∀ q ∈ qJxa1e45, dFok RJxa1e45 q := fun _ h => absurd h List.not_mem_nil
def qlJxa1e45 : List (Nat × Int64) := []
theorem qlJxa1e45_ok : ∀ q ∈ qlJxa1e45, Cond.constantLong RJxa1e45 q.1 q.2 ∈ jGw := fun _ h => absurd h List.not_mem_nil
def qkJxa1e45 : List (Nat × Int32) := []
theorem qkJxa1e45_ok : ∀ q ∈ qkJxa1e45, Cond.constant RJxa1e45 q.1 q.2 ∈ jGw := fun _ h => absurd h List.not_mem_nil
/-- java/util/ArrayList.<init>()V; no rows for: ['5 .getstatic 39'] -/
abbrev mJx4a65c_init_da8c8 : jMt := (yJx4a65c_init_da8c8, cJx4a65c_init_da8c8, 1, none)
def tJx4a65c_init_da8c8 : jTb := [(0, .aload_n 0, 1, 0, 0), (1, .invokespecial 1, 4, 0, 0), (4, .aload_n 0, 5, 0, 0), (8, .putfield 9, 11, 0, 0), (11, .return_, 12, 0, 0)]
theorem DJx4a65c_init_da8c8 : dT mJx4a65c_init_da8c8 qJx4a65c qlJx4a65c tJx4a65c_init_da8c8 := dT.of qJx4a65c_ok qlJx4a65c_ok qkJx4a65c_ok (by decide +kernel) (by decide +kernel)
theorem WJx4a65c_init_da8c8 : jMi mJx4a65c_init_da8c8 0 := ⟨⟨(jGw_of 71 (by decide +kernel) (by decide +kernel)), (jGw_of 708 (by decide +kernel) (by decide +kernel)), ⟨by decide +kernel, by decide +kernel, by decide +kernel⟩, by decide⟩, (jGw_of 707 (by decide +kernel) (by decide +kernel)), rfl, rfl⟩
/-- java/util/AbstractCollection.<init>()V; no rows for: [] -/
abbrev mJxa1e45_init_da8c8 : jMt := (yJxa1e45_init_da8c8, cJxa1e45_init_da8c8, 1, none)
def tJxa1e45_init_da8c8 : jTb := [(0, .aload_n 0, 1, 0, 0), (1, .invokespecial 1, 4, 0, 0), (4, .return_, 5, 0, 0)]
theorem DJxa1e45_init_da8c8 : dT mJxa1e45_init_da8c8 qJxa1e45 qlJxa1e45 tJxa1e45_init_da8c8 := dT.of qJxa1e45_ok qlJxa1e45_ok qkJxa1e45_ok (by decide +kernel) (by decide +kernel)
theorem WJxa1e45_init_da8c8 : jMi mJxa1e45_init_da8c8 0 := ⟨⟨(jGw_of 69 (by decide +kernel) (by decide +kernel)), (jGw_of 714 (by decide +kernel) (by decide +kernel)), ⟨by decide +kernel, by decide +kernel, by decide +kernel⟩, by decide⟩, (jGw_of 713 (by decide +kernel) (by decide +kernel)), rfl, rfl⟩
/-- java/util/AbstractList.<init>()V; no rows for: [] -/
abbrev mJxc12de_init_da8c8 : jMt := (yJxc12de_init_da8c8, cJxc12de_init_da8c8, 1, none)
def tJxc12de_init_da8c8 : jTb := [(0, .aload_n 0, 1, 0, 0), (1, .invokespecial 1, 4, 0, 0), (4, .aload_n 0, 5, 0, 0), (5, .iconst 0, 6, 0, 0), (6, .putfield 7, 9, 0, 0), (9, .return_, 10, 0, 0)]
theorem DJxc12de_init_da8c8 : dT mJxc12de_init_da8c8 qJxc12de qlJxc12de tJxc12de_init_da8c8 := dT.of qJxc12de_ok qlJxc12de_ok qkJxc12de_ok (by decide +kernel) (by decide +kernel)
theorem WJxc12de_init_da8c8 : jMi mJxc12de_init_da8c8 0 := ⟨⟨(jGw_of 70 (by decide +kernel) (by decide +kernel)), (jGw_of 711 (by decide +kernel) (by decide +kernel)), ⟨by decide +kernel, by decide +kernel, by decide +kernel⟩, by decide⟩, (jGw_of 710 (by decide +kernel) (by decide +kernel)), rfl, rfl⟩
/-- java/util/ArrayList.add(Ljava/lang/Object;)Z; no rows for: [] -/
abbrev mJx4a65c_add_9ea2d : jMt := (yJx4a65c_add_9ea2d, cJx4a65c_add_9ea2d, 2, (some .boolean))
def tJx4a65c_add_9ea2d : jTb := [(0, .aload_n 0, 1, 0, 0), (1, .dup, 2, 0, 0), (2, .getfield 63, 5, 0, 0), (5, .iconst 1, 6, 0, 1), (6, .iadd, 7, 0, 0), (7, .putfield 63, 10, 0, 0), (10, .aload_n 0, 11, 0, 0), (11, .aload_n 1, 12, 0, 0), (12, .aload_n 0, 13, 0, 0), (13, .getfield 9, 16, 0, 0), (16, .aload_n 0, 17, 0, 0), (17, .getfield 48, 20, 0, 0), (20, .invokevirtual 131, 23, 0, 0), (23, .iconst 1, 24, 0, 1), (24, .ireturn, 25, 0, 0)]
theorem DJx4a65c_add_9ea2d : dT mJx4a65c_add_9ea2d qJx4a65c qlJx4a65c tJx4a65c_add_9ea2d := dT.of qJx4a65c_ok qlJx4a65c_ok qkJx4a65c_ok (by decide +kernel) (by decide +kernel)
theorem WJx4a65c_add_9ea2d : jMv mJx4a65c_add_9ea2d 1 := ⟨⟨(jGw_of 71 (by decide +kernel) (by decide +kernel)), (jGw_of 1005 (by decide +kernel) (by decide +kernel)), ⟨by decide +kernel, by decide +kernel, by decide +kernel⟩, by decide⟩, (jGw_of 1003 (by decide +kernel) (by decide +kernel)), (jGw_of 1004 (by decide +kernel) (by decide +kernel))⟩
/-- java/util/ArrayList.add(Ljava/lang/Object;[Ljava/lang/Object;I)V; no rows for: [] -/
abbrev mJx4a65c_add_72be8 : jMt := (yJx4a65c_add_72be8, cJx4a65c_add_72be8, 4, none)
def tJx4a65c_add_72be8 : jTb := [(0, .iload_n 3, 1, 0, 0), (1, .aload_n 2, 2, 0, 0), (2, .arraylength, 3, 0, 0), (3, .if_icmp .ne 8, 6, 11, 0), (6, .aload_n 0, 7, 0, 0), (7, .invokevirtual 129, 10, 0, 0), (10, .astore_n 2, 11, 0, 0), (11, .aload_n 2, 12, 0, 0), (12, .iload_n 3, 13, 0, 0), (13, .aload_n 1, 14, 0, 0), (14, .aastore, 15, 0, 0), (15, .aload_n 0, 16, 0, 0), (16, .iload_n 3, 17, 0, 0), (17, .iconst 1, 18, 0, 1), (18, .iadd, 19, 0, 0), (19, .putfield 48, 22, 0, 0), (22, .return_, 23, 0, 0)]
theorem DJx4a65c_add_72be8 : dT mJx4a65c_add_72be8 qJx4a65c qlJx4a65c tJx4a65c_add_72be8 := dT.of qJx4a65c_ok qlJx4a65c_ok qkJx4a65c_ok (by decide +kernel) (by decide +kernel)
theorem WJx4a65c_add_72be8 : jMv mJx4a65c_add_72be8 3 := ⟨⟨(jGw_of 71 (by decide +kernel) (by decide +kernel)), (jGw_of 1009 (by decide +kernel) (by decide +kernel)), ⟨by decide +kernel, by decide +kernel, by decide +kernel⟩, by decide⟩, (jGw_of 1008 (by decide +kernel) (by decide +kernel)), (jGw_of 15 (by decide +kernel) (by decide +kernel))⟩
/-- java/util/ArrayList.grow()[Ljava/lang/Object;; no rows for: [] -/
abbrev mJx4a65c_grow_d5877 : jMt := (yJx4a65c_grow_d5877, cJx4a65c_grow_d5877, 1, (some (.array (.object "java/lang/Object"))))
def tJx4a65c_grow_d5877 : jTb := [(0, .aload_n 0, 1, 0, 0), (1, .aload_n 0, 2, 0, 0), (2, .getfield 48, 5, 0, 0), (5, .iconst 1, 6, 0, 1), (6, .iadd, 7, 0, 0), (7, .invokevirtual 69, 10, 0, 0), (10, .areturn, 11, 0, 0)]
theorem DJx4a65c_grow_d5877 : dT mJx4a65c_grow_d5877 qJx4a65c qlJx4a65c tJx4a65c_grow_d5877 := dT.of qJx4a65c_ok qlJx4a65c_ok qkJx4a65c_ok (by decide +kernel) (by decide +kernel)
theorem WJx4a65c_grow_d5877 : jMv mJx4a65c_grow_d5877 0 := ⟨⟨(jGw_of 71 (by decide +kernel) (by decide +kernel)), (jGw_of 1013 (by decide +kernel) (by decide +kernel)), ⟨by decide +kernel, by decide +kernel, by decide +kernel⟩, by decide⟩, (jGw_of 1012 (by decide +kernel) (by decide +kernel)), (jGw_of 16 (by decide +kernel) (by decide +kernel))⟩
/-- java/util/ArrayList.grow(I)[Ljava/lang/Object;; no rows for: ['14 .getstatic 39', '17 .if_acmp .eq 28', '52 .anewarray 7'] -/
abbrev mJx4a65c_grow_92f84 : jMt := (yJx4a65c_grow_92f84, cJx4a65c_grow_92f84, 4, (some (.array (.object "java/lang/Object"))))
def tJx4a65c_grow_92f84 : jTb := [(0, .aload_n 0, 1, 0, 0), (1, .getfield 9, 4, 0, 0), (4, .arraylength, 5, 0, 0), (5, .istore_n 2, 6, 0, 0), (6, .iload_n 2, 7, 0, 0), (7, .ifCond .gt 13, 10, 20, 0), (10, .aload_n 0, 11, 0, 0), (11, .getfield 9, 14, 0, 0), (20, .iload_n 2, 21, 0, 0), (21, .iload_n 1, 22, 0, 0), (22, .iload_n 2, 23, 0, 0), (23, .isub, 24, 0, 0), (24, .iload_n 2, 25, 0, 0), (25, .iconst 1, 26, 0, 1), (26, .ishr, 27, 0, 0), (27, .invokestatic 73, 30, 0, 0), (30, .istore_n 3, 31, 0, 0), (31, .aload_n 0, 32, 0, 0), (32, .aload_n 0, 33, 0, 0), (33, .getfield 9, 36, 0, 0), (36, .iload_n 3, 37, 0, 0), (37, .invokestatic 66, 40, 0, 0), (40, .dup_x1, 41, 0, 0), (41, .putfield 9, 44, 0, 0), (44, .areturn, 45, 0, 0), (45, .aload_n 0, 46, 0, 0), (46, .bipush 10, 48, 0, 10), (48, .iload_n 1, 49, 0, 0), (49, .invokestatic 79, 52, 0, 0), (55, .dup_x1, 56, 0, 0), (56, .putfield 9, 59, 0, 0), (59, .areturn, 60, 0, 0)]
theorem DJx4a65c_grow_92f84 : dT mJx4a65c_grow_92f84 qJx4a65c qlJx4a65c tJx4a65c_grow_92f84 := dT.of qJx4a65c_ok qlJx4a65c_ok qkJx4a65c_ok (by decide +kernel) (by decide +kernel)
theorem WJx4a65c_grow_92f84 : jMv mJx4a65c_grow_92f84 1 := ⟨⟨(jGw_of 71 (by decide +kernel) (by decide +kernel)), (jGw_of 1017 (by decide +kernel) (by decide +kernel)), ⟨by decide +kernel, by decide +kernel, by decide +kernel⟩, by decide⟩, (jGw_of 1016 (by decide +kernel) (by decide +kernel)), (jGw_of 17 (by decide +kernel) (by decide +kernel))⟩
theorem hJxc12de_1 : Cond.methodLink RJxc12de 1 yJxa1e45_init_da8c8 ∈ jGw := jGw_of 712 (by decide +kernel) (by decide +kernel)
theorem hJx4a65c_1 : Cond.methodLink RJx4a65c 1 yJxc12de_init_da8c8 ∈ jGw := jGw_of 709 (by decide +kernel) (by decide +kernel)
theorem hJx4a65c_69 : Cond.methodLink RJx4a65c 69 yJx4a65c_grow_92f84 ∈ jGw := jGw_of 1014 (by decide +kernel) (by decide +kernel)
theorem hJx4a65c_73 : Cond.methodLink RJx4a65c 73 yJ8_newLength_cabcc ∈ jGw := jGw_of 1018 (by decide +kernel) (by decide +kernel)
theorem hJx4a65c_79 : Cond.methodLink RJx4a65c 79 yJ9_max_7cf53 ∈ jGw := jGw_of 1049 (by decide +kernel) (by decide +kernel)
theorem hJx4a65c_129 : Cond.methodLink RJx4a65c 129 yJx4a65c_grow_d5877 ∈ jGw := jGw_of 1010 (by decide +kernel) (by decide +kernel)
theorem hJx4a65c_131 : Cond.methodLink RJx4a65c 131 yJx4a65c_add_72be8 ∈ jGw := jGw_of 1006 (by decide +kernel) (by decide +kernel)
/-- RentDivisionLaw.put(LRentDivision;Ljava/lang/String;)V; no rows for: ['12 .new 14', '23 .ldc 21'] -/
abbrev mL_put : jMt := (yL_put, cL_put, 6, none)
def tL_put : jTb := [(0, .aload_n 1, 1, 0, 0), (1, .astore_n 2, 2, 0, 0), (2, .aload_n 2, 3, 0, 0), (3, .invokevirtual 8, 6, 0, 0), (6, .bipush 20, 8, 0, 20), (8, .irem, 9, 0, 0), (9, .ifCond .eq 26, 12, 35, 0), (15, .dup, 16, 0, 0), (16, .invokespecial 16, 19, 0, 0), (19, .aload_n 2, 20, 0, 0), (20, .invokevirtual 17, 23, 0, 0), (25, .invokevirtual 17, 28, 0, 0), (28, .invokevirtual 23, 31, 0, 0), (31, .astore_n 2, 32, 0, 0), (32, .goto (-30), 35, 2, 0), (35, .iconst 0, 36, 0, 0), (36, .istore_n 3, 37, 0, 0), (37, .iload_n 3, 38, 0, 0), (38, .aload_n 2, 39, 0, 0), (39, .invokevirtual 8, 42, 0, 0), (42, .if_icmp .ge 84, 45, 126, 0), (45, .iconst 5, 46, 0, 5), (46, .newarray .int, 48, 0, 0), (48, .astore 4, 50, 0, 0), (50, .iconst 0, 51, 0, 0), (51, .istore 5, 53, 0, 0), (53, .iload 5, 55, 0, 0), (55, .bipush 20, 57, 0, 20), (57, .if_icmp .ge 38, 60, 95, 0), (60, .aload 4, 62, 0, 0), (62, .iload 5, 64, 0, 0), (64, .iconst 4, 65, 0, 4), (65, .idiv, 66, 0, 0), (66, .dup2, 67, 0, 0), (67, .iaload, 68, 0, 0), (68, .aload_n 2, 69, 0, 0), (69, .iload_n 3, 70, 0, 0), (70, .iload 5, 72, 0, 0), (72, .iadd, 73, 0, 0), (73, .invokevirtual 27, 76, 0, 0), (76, .bipush 24, 78, 0, 24), (78, .bipush 8, 80, 0, 8), (80, .iload 5, 82, 0, 0), (82, .iconst 4, 83, 0, 4), (83, .irem, 84, 0, 0), (84, .imul, 85, 0, 0), (85, .isub, 86, 0, 0), (86, .ishl, 87, 0, 0), (87, .ior, 88, 0, 0), (88, .iastore, 89, 0, 0), (89, .iinc 5 1, 92, 0, 1), (92, .goto (-39), 95, 53, 0), (95, .aload_n 0, 96, 0, 0), (96, .aload 4, 98, 0, 0), (98, .iconst 0, 99, 0, 0), (99, .iaload, 100, 0, 0), (100, .aload 4, 102, 0, 0), (102, .iconst 1, 103, 0, 1), (103, .iaload, 104, 0, 0), (104, .aload 4, 106, 0, 0), (106, .iconst 2, 107, 0, 2), (107, .iaload, 108, 0, 0), (108, .aload 4, 110, 0, 0), (110, .iconst 3, 111, 0, 3), (111, .iaload, 112, 0, 0), (112, .aload 4, 114, 0, 0), (114, .iconst 4, 115, 0, 4), (115, .iaload, 116, 0, 0), (116, .invokevirtual 31, 119, 0, 0), (119, .pop, 120, 0, 0), (120, .iinc 3 20, 123, 0, 20), (123, .goto (-86), 126, 37, 0), (126, .return_, 127, 0, 0)]
theorem DL_put : dT mL_put qL qlL tL_put := dT.of qL_ok qlL_ok qkL_ok (by decide +kernel) (by decide +kernel)
theorem WL_put : jMs mL_put 2 := ⟨⟨(jGw_of 54 (by decide +kernel) (by decide +kernel)), (jGw_of 1054 (by decide +kernel) (by decide +kernel)), ⟨by decide +kernel, by decide +kernel, by decide +kernel⟩, by decide⟩, (jGw_of 1053 (by decide +kernel) (by decide +kernel))⟩
/-- RentDivisionLaw.cell([II)I; no rows for: [] -/
theorem hL_8 : Cond.methodLink RL 8 yJ0_length_8abf5 ∈ jGw := jGw_of 1055 (by decide +kernel) (by decide +kernel)
theorem hL_16 : Cond.methodLink RL 16 yJ4_init_da8c8 ∈ jGw := jGw_of 1057 (by decide +kernel) (by decide +kernel)
theorem hL_17 : Cond.methodLink RL 17 yJ4_append_15ec4 ∈ jGw := jGw_of 1058 (by decide +kernel) (by decide +kernel)
theorem hL_23 : Cond.methodLink RL 23 yJ4_toString_0e30d ∈ jGw := jGw_of 1060 (by decide +kernel) (by decide +kernel)
theorem hL_27 : Cond.methodLink RL 27 yJ0_charAt_5068e ∈ jGw := jGw_of 1061 (by decide +kernel) (by decide +kernel)
theorem hL_39 : Cond.methodLink RL 39 yX12_init ∈ jGw := jGw_of 299 (by decide +kernel) (by decide +kernel)
theorem hX12_9 : Cond.methodLink RX12 9 yX11_init ∈ jGw := jGw_of 306 (by decide +kernel) (by decide +kernel)
theorem hX12_18 : Cond.methodLink RX12 18 yJx4a65c_init_da8c8 ∈ jGw := jGw_of 706 (by decide +kernel) (by decide +kernel)
theorem hX12_80 : Cond.methodLink RX12 80 yJ4_init_da8c8 ∈ jGw := jGw_of 743 (by decide +kernel) (by decide +kernel)
theorem hX12_81 : Cond.methodLink RX12 81 yJ4_append_15ec4 ∈ jGw := jGw_of 772 (by decide +kernel) (by decide +kernel)
theorem hX12_87 : Cond.methodLink RX12 87 yJ4_append_cf468 ∈ jGw := jGw_of 889 (by decide +kernel) (by decide +kernel)
theorem hX12_92 : Cond.methodLink RX12 92 yJ4_toString_0e30d ∈ jGw := jGw_of 912 (by decide +kernel) (by decide +kernel)
theorem hX12_100 : Cond.methodLink RX12 100 yJ4_append_bf812 ∈ jGw := jGw_of 974 (by decide +kernel) (by decide +kernel)
theorem hX12_115 : Cond.methodLink RX12 115 yJx4a65c_add_9ea2d ∈ jGw := jGw_of 1002 (by decide +kernel) (by decide +kernel)
theorem hX12_125 : Cond.methodLink RX12 125 yJ0_length_8abf5 ∈ jGw := jGw_of 1084 (by decide +kernel) (by decide +kernel)
