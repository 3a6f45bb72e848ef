/-! by program: the JDK's texts: fields, rows, words, links, for the judgement DW -/
theorem dcls_J0 : dCls 13 RJ0 TJ0 4 := ⟨rfl, jGw_ps [963, 965, 967, 969] (by decide +kernel) (by decide +kernel), ⟨tyJ0, tyJ0_ok⟩, nmJ0⟩
theorem dcls_J4 : dCls 14 RJ4 TJ4 4 := ⟨rfl, jGw_ps [763, 765, 767, 769] (by decide +kernel) (by decide +kernel), ⟨tyJ4, tyJ4_ok⟩, nmJ4⟩
theorem qJ0_9 : dFok RJ0 (9, 13, 0, 12) := ⟨RJ0, TJ0, 4, dcls_J0, by decide, by decide +kernel, ⟨"java/lang/String", Or.inl rfl, Or.inl (jGw_of 961 (by decide +kernel) (by decide +kernel))⟩, fun h => absurd h (by decide)⟩
theorem qJ0_15 : dFok RJ0 (15, 13, 1, 14) := ⟨RJ0, TJ0, 4, dcls_J0, by decide, by decide +kernel, ⟨"java/lang/String", Or.inl rfl, Or.inl (jGw_of 962 (by decide +kernel) (by decide +kernel))⟩, fun h => absurd h (by decide)⟩
theorem qJ0_1048 : dFok RJ0 (1048, 14, 2, 3) := ⟨RJ4, TJ4, 4, dcls_J4, by decide, by decide +kernel, ⟨"java/lang/AbstractStringBuilder", Or.inl rfl, Or.inl (jGw_of 761 (by decide +kernel) (by decide +kernel))⟩, fun h => absurd h (by decide)⟩
def qJ0 : List (Nat × Nat × Nat × Nat) := [(9, 13, 0, 12), (15, 13, 1, 14), (1048, 14, 2, 3)]
theorem qJ0_ok : ∀ q ∈ qJ0, dFok RJ0 q := List.forall_mem_cons.mpr ⟨qJ0_9, List.forall_mem_cons.mpr ⟨qJ0_15, List.forall_mem_cons.mpr ⟨qJ0_1048, fun _ h => absurd h List.not_mem_nil⟩⟩⟩
def qlJ0 : List (Nat × Int64) := []
theorem qlJ0_ok : ∀ q ∈ qlJ0, Cond.constantLong RJ0 q.1 q.2 ∈ jGw := fun _ h => absurd h List.not_mem_nil
def qkJ0 : List (Nat × Int32) := []
theorem qkJ0_ok : ∀ q ∈ qkJ0, Cond.constant RJ0 q.1 q.2 ∈ jGw := fun _ h => absurd h List.not_mem_nil
theorem qJ5_15 : dFok RJ5 (15, 14, 0, 2) := ⟨RJ4, TJ4, 4, dcls_J4, by decide, by decide +kernel, ⟨"java/lang/AbstractStringBuilder", Or.inl rfl, Or.inl (jGw_of 759 (by decide +kernel) (by decide +kernel))⟩, fun _ => ⟨.array .byte, by decide +kernel, rfl⟩⟩
theorem qJ5_22 : dFok RJ5 (22, 14, 1, 4) := ⟨RJ4, TJ4, 4, dcls_J4, by decide, by decide +kernel, ⟨"java/lang/AbstractStringBuilder", Or.inl rfl, Or.inl (jGw_of 760 (by decide +kernel) (by decide +kernel))⟩, fun h => absurd h (by decide)⟩
theorem qJ5_79 : dFok RJ5 (79, 14, 3, 0) := ⟨RJ4, TJ4, 4, dcls_J4, by decide, by decide +kernel, ⟨"java/lang/AbstractStringBuilder", Or.inl rfl, Or.inl (jGw_of 762 (by decide +kernel) (by decide +kernel))⟩, fun h => absurd h (by decide)⟩
def qJ5 : List (Nat × Nat × Nat × Nat) := [(15, 14, 0, 2), (22, 14, 1, 4), (79, 14, 3, 0)]
theorem qJ5_ok : ∀ q ∈ qJ5, dFok RJ5 q := List.forall_mem_cons.mpr ⟨qJ5_15, List.forall_mem_cons.mpr ⟨qJ5_22, List.forall_mem_cons.mpr ⟨qJ5_79, fun _ h => absurd h List.not_mem_nil⟩⟩⟩
def qlJ5 : List (Nat × Int64) := []
theorem qlJ5_ok : ∀ q ∈ qlJ5, Cond.constantLong RJ5 q.1 q.2 ∈ jGw := fun _ h => absurd h List.not_mem_nil
def qkJ5 : List (Nat × Int32) := [(39, 2147483647)]
theorem qkJ5_ok : ∀ q ∈ qkJ5, Cond.constant RJ5 q.1 q.2 ∈ jGw := List.forall_mem_cons.mpr ⟨(jGw_of 801 (by decide +kernel) (by decide +kernel)), fun _ h => absurd h List.not_mem_nil⟩
def qJ4 : List (Nat × Nat × Nat × Nat) := []
theorem qJ4_ok : ∀ q ∈ qJ4, dFok RJ4 q := fun _ h => absurd h List.not_mem_nil
def qlJ4 : List (Nat × Int64) := []
theorem qlJ4_ok : ∀ q ∈ qlJ4, Cond.constantLong RJ4 q.1 q.2 ∈ jGw := fun _ h => absurd h List.not_mem_nil
def qkJ4 : List (Nat × Int32) := []
theorem qkJ4_ok : ∀ q ∈ qkJ4, Cond.constant RJ4 q.1 q.2 ∈ jGw := fun _ h => absurd h List.not_mem_nil
def qJ1 : List (Nat × Nat × Nat × Nat) := []
theorem qJ1_ok : ∀ q ∈ qJ1, dFok RJ1 q := fun _ h => absurd h List.not_mem_nil
def qlJ1 : List (Nat × Int64) := []
theorem qlJ1_ok : ∀ q ∈ qlJ1, Cond.constantLong RJ1 q.1 q.2 ∈ jGw := fun _ h => absurd h List.not_mem_nil
def qkJ1 : List (Nat × Int32) := []
theorem qkJ1_ok : ∀ q ∈ qkJ1, Cond.constant RJ1 q.1 q.2 ∈ jGw := fun _ h => absurd h List.not_mem_nil
def qJ7 : List (Nat × Nat × Nat × Nat) := []
theorem qJ7_ok : ∀ q ∈ qJ7, dFok RJ7 q := fun _ h => absurd h List.not_mem_nil
def qlJ7 : List (Nat × Int64) := []
theorem qlJ7_ok : ∀ q ∈ qlJ7, Cond.constantLong RJ7 q.1 q.2 ∈ jGw := fun _ h => absurd h List.not_mem_nil
def qkJ7 : List (Nat × Int32) := []
theorem qkJ7_ok : ∀ q ∈ qkJ7, Cond.constant RJ7 q.1 q.2 ∈ jGw := fun _ h => absurd h List.not_mem_nil
def qJ6 : List (Nat × Nat × Nat × Nat) := []
theorem qJ6_ok : ∀ q ∈ qJ6, dFok RJ6 q := fun _ h => absurd h List.not_mem_nil
def qlJ6 : List (Nat × Int64) := []
theorem qlJ6_ok : ∀ q ∈ qlJ6, Cond.constantLong RJ6 q.1 q.2 ∈ jGw := fun _ h => absurd h List.not_mem_nil
def qkJ6 : List (Nat × Int32) := [(265, 1431655765), (266, 858993459), (267, 252645135)]
theorem qkJ6_ok : ∀ q ∈ qkJ6, Cond.constant RJ6 q.1 q.2 ∈ jGw := List.forall_mem_cons.mpr ⟨(jGw_of 174 (by decide +kernel) (by decide +kernel)), List.forall_mem_cons.mpr ⟨(jGw_of 175 (by decide +kernel) (by decide +kernel)), List.forall_mem_cons.mpr ⟨(jGw_of 176 (by decide +kernel) (by decide +kernel)), fun _ h => absurd h List.not_mem_nil⟩⟩⟩
def qJ8 : List (Nat × Nat × Nat × Nat) := []
theorem qJ8_ok : ∀ q ∈ qJ8, dFok RJ8 q := fun _ h => absurd h List.not_mem_nil
def qlJ8 : List (Nat × Int64) := []
theorem qlJ8_ok : ∀ q ∈ qlJ8, Cond.constantLong RJ8 q.1 q.2 ∈ jGw := fun _ h => absurd h List.not_mem_nil
def qkJ8 : List (Nat × Int32) := [(200, 2147483639)]
theorem qkJ8_ok : ∀ q ∈ qkJ8, Cond.constant RJ8 q.1 q.2 ∈ jGw := List.forall_mem_cons.mpr ⟨(jGw_of 797 (by decide +kernel) (by decide +kernel)), fun _ h => absurd h List.not_mem_nil⟩
/-- java/lang/StringBuilder.<init>()V; no rows for: [] -/
abbrev mJ4_init_da8c8 : jMt := (yJ4_init_da8c8, cJ4_init_da8c8, 1, none)
def tJ4_init_da8c8 : jTb := [(0, .aload_n 0, 1, 0, 0), (1, .bipush 16, 3, 0, 16), (3, .invokespecial 1, 6, 0, 0), (6, .return_, 7, 0, 0)]
theorem DJ4_init_da8c8 : dT mJ4_init_da8c8 qJ4 qlJ4 tJ4_init_da8c8 := dT.of qJ4_ok qlJ4_ok qkJ4_ok (by decide +kernel) (by decide +kernel)
theorem WJ4_init_da8c8 : jMi mJ4_init_da8c8 0 := ⟨⟨(jGw_of 73 (by decide +kernel) (by decide +kernel)), (jGw_of 745 (by decide +kernel) (by decide +kernel)), ⟨by decide +kernel, by decide +kernel, by decide +kernel⟩, by decide⟩, (jGw_of 744 (by decide +kernel) (by decide +kernel)), rfl, rfl⟩
/-- java/lang/AbstractStringBuilder.<init>(I)V; no rows for: ['4 .getstatic 18'] -/
abbrev mJ5_init_d00df : jMt := (yJ5_init_d00df, cJ5_init_d00df, 2, none)
def tJ5_init_d00df : jTb := [(0, .aload_n 0, 1, 0, 0), (1, .invokespecial 3, 4, 0, 0), (7, .ifCond .eq 18, 10, 25, 0), (10, .aload_n 0, 11, 0, 0), (11, .iload_n 1, 12, 0, 0), (12, .newarray .byte, 14, 0, 0), (14, .putfield 15, 17, 0, 0), (17, .aload_n 0, 18, 0, 0), (18, .iconst 0, 19, 0, 0), (19, .putfield 22, 22, 0, 0), (22, .goto 16, 25, 38, 0), (25, .aload_n 0, 26, 0, 0), (26, .iload_n 1, 27, 0, 0), (27, .invokestatic 26, 30, 0, 0), (30, .putfield 15, 33, 0, 0), (33, .aload_n 0, 34, 0, 0), (34, .iconst 1, 35, 0, 1), (35, .putfield 22, 38, 0, 0), (38, .return_, 39, 0, 0)]
theorem DJ5_init_d00df : dT mJ5_init_d00df qJ5 qlJ5 tJ5_init_d00df := dT.of qJ5_ok qlJ5_ok qkJ5_ok (by decide +kernel) (by decide +kernel)
theorem WJ5_init_d00df : jMi mJ5_init_d00df 1 := ⟨⟨(jGw_of 72 (by decide +kernel) (by decide +kernel)), (jGw_of 748 (by decide +kernel) (by decide +kernel)), ⟨by decide +kernel, by decide +kernel, by decide +kernel⟩, by decide⟩, (jGw_of 747 (by decide +kernel) (by decide +kernel)), rfl, rfl⟩
/-- java/lang/StringBuilder.append(Ljava/lang/String;)Ljava/lang/StringBuilder;; no rows for: [] -/
abbrev mJ4_append_15ec4 : jMt := (yJ4_append_15ec4, cJ4_append_15ec4, 2, (some (.object "java/lang/StringBuilder")))
def tJ4_append_15ec4 : jTb := [(0, .aload_n 0, 1, 0, 0), (1, .aload_n 1, 2, 0, 0), (2, .invokespecial 29, 5, 0, 0), (5, .pop, 6, 0, 0), (6, .aload_n 0, 7, 0, 0), (7, .areturn, 8, 0, 0)]
theorem DJ4_append_15ec4 : dT mJ4_append_15ec4 qJ4 qlJ4 tJ4_append_15ec4 := dT.of qJ4_ok qlJ4_ok qkJ4_ok (by decide +kernel) (by decide +kernel)
theorem WJ4_append_15ec4 : jMv mJ4_append_15ec4 1 := ⟨⟨(jGw_of 73 (by decide +kernel) (by decide +kernel)), (jGw_of 775 (by decide +kernel) (by decide +kernel)), ⟨by decide +kernel, by decide +kernel, by decide +kernel⟩, by decide⟩, (jGw_of 773 (by decide +kernel) (by decide +kernel)), (jGw_of 774 (by decide +kernel) (by decide +kernel))⟩
/-- java/lang/AbstractStringBuilder.append(Ljava/lang/String;)Ljava/lang/AbstractStringBuilder;; no rows for: [] -/
abbrev mJ5_append_cf1ce : jMt := (yJ5_append_cf1ce, cJ5_append_cf1ce, 3, (some (.object "java/lang/AbstractStringBuilder")))
def tJ5_append_cf1ce : jTb := [(0, .aload_n 1, 1, 0, 0), (1, .ifnonnull 8, 4, 9, 0), (4, .aload_n 0, 5, 0, 0), (5, .invokevirtual 204, 8, 0, 0), (8, .areturn, 9, 0, 0), (9, .aload_n 1, 10, 0, 0), (10, .invokevirtual 32, 13, 0, 0), (13, .istore_n 2, 14, 0, 0), (14, .aload_n 0, 15, 0, 0), (15, .aload_n 0, 16, 0, 0), (16, .getfield 79, 19, 0, 0), (19, .iload_n 2, 20, 0, 0), (20, .iadd, 21, 0, 0), (21, .invokevirtual 100, 24, 0, 0), (24, .aload_n 0, 25, 0, 0), (25, .aload_n 0, 26, 0, 0), (26, .getfield 79, 29, 0, 0), (29, .aload_n 1, 30, 0, 0), (30, .invokevirtual 208, 33, 0, 0), (33, .aload_n 0, 34, 0, 0), (34, .dup, 35, 0, 0), (35, .getfield 79, 38, 0, 0), (38, .iload_n 2, 39, 0, 0), (39, .iadd, 40, 0, 0), (40, .putfield 79, 43, 0, 0), (43, .aload_n 0, 44, 0, 0), (44, .areturn, 45, 0, 0)]
theorem DJ5_append_cf1ce : dT mJ5_append_cf1ce qJ5 qlJ5 tJ5_append_cf1ce := dT.of qJ5_ok qlJ5_ok qkJ5_ok (by decide +kernel) (by decide +kernel)
theorem UJ5_append_cf1ce : jLkC mJ5_append_cf1ce 1 ∧ Cond.instanceMethod mJ5_append_cf1ce.1 ∈ jGw := ⟨⟨(jGw_of 72 (by decide +kernel) (by decide +kernel)), (jGw_of 778 (by decide +kernel) (by decide +kernel)), ⟨by decide +kernel, by decide +kernel, by decide +kernel⟩, by decide⟩, (jGw_of 777 (by decide +kernel) (by decide +kernel))⟩
/-- java/lang/String.length()I; no rows for: [] -/
theorem DJ0_length_8abf5 : dT mJ0_length_8abf5 qJ0 qlJ0 tJ0_length_8abf5 := dT.of qJ0_ok qlJ0_ok qkJ0_ok (by decide +kernel) (by decide +kernel)
/-- java/lang/String.coder()B; no rows for: ['0 .getstatic 38'] -/
theorem DJ0_coder_7d493 : dT mJ0_coder_7d493 qJ0 qlJ0 tJ0_coder_7d493 := dT.of qJ0_ok qlJ0_ok qkJ0_ok (by decide +kernel) (by decide +kernel)
/-- java/lang/String.isLatin1()Z; no rows for: ['0 .getstatic 38'] -/
theorem DJ0_isLatin1_aae02 : dT mJ0_isLatin1_aae02 qJ0 qlJ0 tJ0_isLatin1_aae02 := dT.of qJ0_ok qlJ0_ok qkJ0_ok (by decide +kernel) (by decide +kernel)
/-- java/lang/AbstractStringBuilder.ensureCapacityInternal(I)V; no rows for: [] -/
abbrev mJ5_ensureCapacityInternal_d00df : jMt := (yJ5_ensureCapacityInternal_d00df, cJ5_ensureCapacityInternal_d00df, 3, none)
def tJ5_ensureCapacityInternal_d00df : jTb := [(0, .aload_n 0, 1, 0, 0), (1, .getfield 15, 4, 0, 0), (4, .arraylength, 5, 0, 0), (5, .aload_n 0, 6, 0, 0), (6, .getfield 22, 9, 0, 0), (9, .ishr, 10, 0, 0), (10, .istore_n 2, 11, 0, 0), (11, .iload_n 1, 12, 0, 0), (12, .iload_n 2, 13, 0, 0), (13, .isub, 14, 0, 0), (14, .ifCond .le 24, 17, 38, 0), (17, .aload_n 0, 18, 0, 0), (18, .aload_n 0, 19, 0, 0), (19, .getfield 15, 22, 0, 0), (22, .aload_n 0, 23, 0, 0), (23, .iload_n 1, 24, 0, 0), (24, .invokevirtual 104, 27, 0, 0), (27, .aload_n 0, 28, 0, 0), (28, .getfield 22, 31, 0, 0), (31, .ishl, 32, 0, 0), (32, .invokestatic 108, 35, 0, 0), (35, .putfield 15, 38, 0, 0), (38, .return_, 39, 0, 0)]
theorem DJ5_ensureCapacityInternal_d00df : dT mJ5_ensureCapacityInternal_d00df qJ5 qlJ5 tJ5_ensureCapacityInternal_d00df := dT.of qJ5_ok qlJ5_ok qkJ5_ok (by decide +kernel) (by decide +kernel)
theorem UJ5_ensureCapacityInternal_d00df : jLkC mJ5_ensureCapacityInternal_d00df 1 ∧ Cond.instanceMethod mJ5_ensureCapacityInternal_d00df.1 ∈ jGw := ⟨⟨(jGw_of 72 (by decide +kernel) (by decide +kernel)), (jGw_of 786 (by decide +kernel) (by decide +kernel)), ⟨by decide +kernel, by decide +kernel, by decide +kernel⟩, by decide⟩, (jGw_of 785 (by decide +kernel) (by decide +kernel))⟩
/-- java/lang/AbstractStringBuilder.newCapacity(I)I; no rows for: ['41 .new 120', '45 .ldc 122'] -/
abbrev mJ5_newCapacity_0f7a4 : jMt := (yJ5_newCapacity_0f7a4, cJ5_newCapacity_0f7a4, 6, (some .int))
def tJ5_newCapacity_0f7a4 : jTb := [(0, .aload_n 0, 1, 0, 0), (1, .getfield 15, 4, 0, 0), (4, .arraylength, 5, 0, 0), (5, .istore_n 2, 6, 0, 0), (6, .iload_n 1, 7, 0, 0), (7, .aload_n 0, 8, 0, 0), (8, .getfield 22, 11, 0, 0), (11, .ishl, 12, 0, 0), (12, .istore_n 3, 13, 0, 0), (13, .iload_n 3, 14, 0, 0), (14, .iload_n 2, 15, 0, 0), (15, .isub, 16, 0, 0), (16, .istore 4, 18, 0, 0), (18, .iload_n 2, 19, 0, 0), (19, .iload 4, 21, 0, 0), (21, .iload_n 2, 22, 0, 0), (22, .iconst 2, 23, 0, 2), (23, .aload_n 0, 24, 0, 0), (24, .getfield 22, 27, 0, 0), (27, .ishl, 28, 0, 0), (28, .iadd, 29, 0, 0), (29, .invokestatic 114, 32, 0, 0), (32, .istore 5, 34, 0, 0), (34, .iload 5, 36, 0, 0), (36, .ldc 39, 38, 0, 2147483647), (38, .if_icmp .ne 13, 41, 51, 0), (44, .dup, 45, 0, 0), (47, .invokespecial 124, 50, 0, 0), (50, .athrow, 51, 0, 0), (51, .iload 5, 53, 0, 0), (53, .aload_n 0, 54, 0, 0), (54, .getfield 22, 57, 0, 0), (57, .ishr, 58, 0, 0), (58, .ireturn, 59, 0, 0)]
theorem DJ5_newCapacity_0f7a4 : dT mJ5_newCapacity_0f7a4 qJ5 qlJ5 tJ5_newCapacity_0f7a4 := dT.of qJ5_ok qlJ5_ok qkJ5_ok (by decide +kernel) (by decide +kernel)
theorem UJ5_newCapacity_0f7a4 : jLkC mJ5_newCapacity_0f7a4 1 ∧ Cond.instanceMethod mJ5_newCapacity_0f7a4.1 ∈ jGw := ⟨⟨(jGw_of 72 (by decide +kernel) (by decide +kernel)), (jGw_of 790 (by decide +kernel) (by decide +kernel)), ⟨by decide +kernel, by decide +kernel, by decide +kernel⟩, by decide⟩, (jGw_of 789 (by decide +kernel) (by decide +kernel))⟩
/-- jdk/internal/util/ArraysSupport.newLength(III)I; no rows for: [] -/
abbrev mJ8_newLength_cabcc : jMt := (yJ8_newLength_cabcc, cJ8_newLength_cabcc, 4, (some .int))
def tJ8_newLength_cabcc : jTb := [(0, .iload_n 0, 1, 0, 0), (1, .iload_n 1, 2, 0, 0), (2, .iload_n 2, 3, 0, 0), (3, .invokestatic 194, 6, 0, 0), (6, .iadd, 7, 0, 0), (7, .istore_n 3, 8, 0, 0), (8, .iconst 0, 9, 0, 0), (9, .iload_n 3, 10, 0, 0), (10, .if_icmp .ge 11, 13, 21, 0), (13, .iload_n 3, 14, 0, 0), (14, .ldc 200, 16, 0, 2147483639), (16, .if_icmp .gt 5, 19, 21, 0), (19, .iload_n 3, 20, 0, 0), (20, .ireturn, 21, 0, 0), (21, .iload_n 0, 22, 0, 0), (22, .iload_n 1, 23, 0, 0), (23, .invokestatic 201, 26, 0, 0), (26, .ireturn, 27, 0, 0)]
theorem DJ8_newLength_cabcc : dT mJ8_newLength_cabcc qJ8 qlJ8 tJ8_newLength_cabcc := dT.of qJ8_ok qlJ8_ok qkJ8_ok (by decide +kernel) (by decide +kernel)
theorem WJ8_newLength_cabcc : jMs mJ8_newLength_cabcc 3 := ⟨⟨(jGw_of 76 (by decide +kernel) (by decide +kernel)), (jGw_of 793 (by decide +kernel) (by decide +kernel)), ⟨by decide +kernel, by decide +kernel, by decide +kernel⟩, by decide⟩, (jGw_of 792 (by decide +kernel) (by decide +kernel))⟩
/-- java/util/Arrays.copyOf([BI)[B; no rows for: ['10 .checkcast 311'] -/
theorem DJ7_copyOf_9075b : dT mJ7_copyOf_9075b qJ7 qlJ7 tJ7_copyOf_9075b := dT.of qJ7_ok qlJ7_ok qkJ7_ok (by decide +kernel) (by decide +kernel)
/-- java/lang/AbstractStringBuilder.putStringAt(ILjava/lang/String;)V; no rows for: [] -/
abbrev mJ5_putStringAt_47b60 : jMt := (yJ5_putStringAt_47b60, cJ5_putStringAt_47b60, 3, none)
def tJ5_putStringAt_47b60 : jTb := [(0, .aload_n 0, 1, 0, 0), (1, .aload_n 2, 2, 0, 0), (2, .invokevirtual 397, 5, 0, 0), (5, .aload_n 2, 6, 0, 0), (6, .aload_n 0, 7, 0, 0), (7, .getfield 15, 10, 0, 0), (10, .iload_n 1, 11, 0, 0), (11, .aload_n 0, 12, 0, 0), (12, .getfield 22, 15, 0, 0), (15, .invokevirtual 399, 18, 0, 0), (18, .return_, 19, 0, 0)]
theorem DJ5_putStringAt_47b60 : dT mJ5_putStringAt_47b60 qJ5 qlJ5 tJ5_putStringAt_47b60 := dT.of qJ5_ok qlJ5_ok qkJ5_ok (by decide +kernel) (by decide +kernel)
theorem UJ5_putStringAt_47b60 : jLkC mJ5_putStringAt_47b60 2 ∧ Cond.instanceMethod mJ5_putStringAt_47b60.1 ∈ jGw := ⟨⟨(jGw_of 72 (by decide +kernel) (by decide +kernel)), (jGw_of 857 (by decide +kernel) (by decide +kernel)), ⟨by decide +kernel, by decide +kernel, by decide +kernel⟩, by decide⟩, (jGw_of 856 (by decide +kernel) (by decide +kernel))⟩
/-- java/lang/AbstractStringBuilder.inflateIfNeededFor(Ljava/lang/String;)V; no rows for: ['0 .getstatic 18'] -/
abbrev mJ5_inflateIfNeededFor_a7421 : jMt := (yJ5_inflateIfNeededFor_a7421, cJ5_inflateIfNeededFor_a7421, 2, none)
def tJ5_inflateIfNeededFor_a7421 : jTb := [(3, .ifCond .eq 18, 6, 21, 0), (6, .aload_n 0, 7, 0, 0), (7, .getfield 22, 10, 0, 0), (10, .aload_n 1, 11, 0, 0), (11, .invokevirtual 40, 14, 0, 0), (14, .if_icmp .eq 7, 17, 21, 0), (17, .aload_n 0, 18, 0, 0), (18, .invokevirtual 195, 21, 0, 0), (21, .return_, 22, 0, 0)]
theorem DJ5_inflateIfNeededFor_a7421 : dT mJ5_inflateIfNeededFor_a7421 qJ5 qlJ5 tJ5_inflateIfNeededFor_a7421 := dT.of qJ5_ok qlJ5_ok qkJ5_ok (by decide +kernel) (by decide +kernel)
theorem UJ5_inflateIfNeededFor_a7421 : jLkC mJ5_inflateIfNeededFor_a7421 1 ∧ Cond.instanceMethod mJ5_inflateIfNeededFor_a7421.1 ∈ jGw := ⟨⟨(jGw_of 72 (by decide +kernel) (by decide +kernel)), (jGw_of 861 (by decide +kernel) (by decide +kernel)), ⟨by decide +kernel, by decide +kernel, by decide +kernel⟩, by decide⟩, (jGw_of 860 (by decide +kernel) (by decide +kernel))⟩
/-- java/lang/String.getBytes([BIB)V; no rows for: [] -/
abbrev mJ0_getBytes_840e7 : jMt := (yJ0_getBytes_840e7, cJ0_getBytes_840e7, 4, none)
def tJ0_getBytes_840e7 : jTb := [(0, .aload_n 0, 1, 0, 0), (1, .invokevirtual 335, 4, 0, 0), (4, .iload_n 3, 5, 0, 0), (5, .if_icmp .ne 23, 8, 28, 0), (8, .aload_n 0, 9, 0, 0), (9, .getfield 9, 12, 0, 0), (12, .iconst 0, 13, 0, 0), (13, .aload_n 1, 14, 0, 0), (14, .iload_n 2, 15, 0, 0), (15, .iload_n 3, 16, 0, 0), (16, .ishl, 17, 0, 0), (17, .aload_n 0, 18, 0, 0), (18, .getfield 9, 21, 0, 0), (21, .arraylength, 22, 0, 0), (22, .invokestatic 212, 25, 0, 0), (25, .goto 18, 28, 43, 0), (28, .aload_n 0, 29, 0, 0), (29, .getfield 9, 32, 0, 0), (32, .iconst 0, 33, 0, 0), (33, .aload_n 1, 34, 0, 0), (34, .iload_n 2, 35, 0, 0), (35, .aload_n 0, 36, 0, 0), (36, .getfield 9, 39, 0, 0), (39, .arraylength, 40, 0, 0), (40, .invokestatic 106, 43, 0, 0), (43, .return_, 44, 0, 0)]
theorem DJ0_getBytes_840e7 : dT mJ0_getBytes_840e7 qJ0 qlJ0 tJ0_getBytes_840e7 := dT.of qJ0_ok qlJ0_ok qkJ0_ok (by decide +kernel) (by decide +kernel)
theorem WJ0_getBytes_840e7 : jMv mJ0_getBytes_840e7 3 := ⟨⟨(jGw_of 74 (by decide +kernel) (by decide +kernel)), (jGw_of 885 (by decide +kernel) (by decide +kernel)), ⟨by decide +kernel, by decide +kernel, by decide +kernel⟩, by decide⟩, (jGw_of 883 (by decide +kernel) (by decide +kernel)), (jGw_of 884 (by decide +kernel) (by decide +kernel))⟩
/-- java/lang/StringBuilder.append(C)Ljava/lang/StringBuilder;; no rows for: [] -/
abbrev mJ4_append_cf468 : jMt := (yJ4_append_cf468, cJ4_append_cf468, 2, (some (.object "java/lang/StringBuilder")))
def tJ4_append_cf468 : jTb := [(0, .aload_n 0, 1, 0, 0), (1, .iload_n 1, 2, 0, 0), (2, .invokespecial 50, 5, 0, 0), (5, .pop, 6, 0, 0), (6, .aload_n 0, 7, 0, 0), (7, .areturn, 8, 0, 0)]
theorem DJ4_append_cf468 : dT mJ4_append_cf468 qJ4 qlJ4 tJ4_append_cf468 := dT.of qJ4_ok qlJ4_ok qkJ4_ok (by decide +kernel) (by decide +kernel)
theorem WJ4_append_cf468 : jMv mJ4_append_cf468 1 := ⟨⟨(jGw_of 73 (by decide +kernel) (by decide +kernel)), (jGw_of 892 (by decide +kernel) (by decide +kernel)), ⟨by decide +kernel, by decide +kernel, by decide +kernel⟩, by decide⟩, (jGw_of 890 (by decide +kernel) (by decide +kernel)), (jGw_of 891 (by decide +kernel) (by decide +kernel))⟩
/-- java/lang/AbstractStringBuilder.append(C)Ljava/lang/AbstractStringBuilder;; no rows for: [] -/
abbrev mJ5_append_3fe6f : jMt := (yJ5_append_3fe6f, cJ5_append_3fe6f, 2, (some (.object "java/lang/AbstractStringBuilder")))
def tJ5_append_3fe6f : jTb := [(0, .aload_n 0, 1, 0, 0), (1, .aload_n 0, 2, 0, 0), (2, .getfield 79, 5, 0, 0), (5, .iconst 1, 6, 0, 1), (6, .iadd, 7, 0, 0), (7, .invokevirtual 100, 10, 0, 0), (10, .aload_n 0, 11, 0, 0), (11, .invokevirtual 83, 14, 0, 0), (14, .ifCond .eq 31, 17, 45, 0), (17, .iload_n 1, 18, 0, 0), (18, .invokestatic 191, 21, 0, 0), (21, .ifCond .eq 24, 24, 45, 0), (24, .aload_n 0, 25, 0, 0), (25, .getfield 15, 28, 0, 0), (28, .aload_n 0, 29, 0, 0), (29, .dup, 30, 0, 0), (30, .getfield 79, 33, 0, 0), (33, .dup_x1, 34, 0, 0), (34, .iconst 1, 35, 0, 1), (35, .iadd, 36, 0, 0), (36, .putfield 79, 39, 0, 0), (39, .iload_n 1, 40, 0, 0), (40, .i2b, 41, 0, 0), (41, .bastore, 42, 0, 0), (42, .goto 33, 45, 75, 0), (45, .aload_n 0, 46, 0, 0), (46, .invokevirtual 83, 49, 0, 0), (49, .ifCond .eq 7, 52, 56, 0), (52, .aload_n 0, 53, 0, 0), (53, .invokevirtual 195, 56, 0, 0), (56, .aload_n 0, 57, 0, 0), (57, .getfield 15, 60, 0, 0), (60, .aload_n 0, 61, 0, 0), (61, .dup, 62, 0, 0), (62, .getfield 79, 65, 0, 0), (65, .dup_x1, 66, 0, 0), (66, .iconst 1, 67, 0, 1), (67, .iadd, 68, 0, 0), (68, .putfield 79, 71, 0, 0), (71, .iload_n 1, 72, 0, 0), (72, .invokestatic 197, 75, 0, 0), (75, .aload_n 0, 76, 0, 0), (76, .areturn, 77, 0, 0)]
theorem DJ5_append_3fe6f : dT mJ5_append_3fe6f qJ5 qlJ5 tJ5_append_3fe6f := dT.of qJ5_ok qlJ5_ok qkJ5_ok (by decide +kernel) (by decide +kernel)
theorem UJ5_append_3fe6f : jLkC mJ5_append_3fe6f 1 ∧ Cond.instanceMethod mJ5_append_3fe6f.1 ∈ jGw := ⟨⟨(jGw_of 72 (by decide +kernel) (by decide +kernel)), (jGw_of 895 (by decide +kernel) (by decide +kernel)), ⟨by decide +kernel, by decide +kernel, by decide +kernel⟩, by decide⟩, (jGw_of 894 (by decide +kernel) (by decide +kernel))⟩
/-- java/lang/AbstractStringBuilder.isLatin1()Z; no rows for: ['0 .getstatic 18'] -/
abbrev mJ5_isLatin1_aae02 : jMt := (yJ5_isLatin1_aae02, cJ5_isLatin1_aae02, 1, (some .boolean))
def tJ5_isLatin1_aae02 : jTb := [(3, .ifCond .eq 14, 6, 17, 0), (6, .aload_n 0, 7, 0, 0), (7, .getfield 22, 10, 0, 0), (10, .ifCond .ne 7, 13, 17, 0), (13, .iconst 1, 14, 0, 1), (14, .goto 4, 17, 18, 0), (17, .iconst 0, 18, 0, 0), (18, .ireturn, 19, 0, 0)]
theorem DJ5_isLatin1_aae02 : dT mJ5_isLatin1_aae02 qJ5 qlJ5 tJ5_isLatin1_aae02 := dT.of qJ5_ok qlJ5_ok qkJ5_ok (by decide +kernel) (by decide +kernel)
theorem UJ5_isLatin1_aae02 : jLkC mJ5_isLatin1_aae02 0 ∧ Cond.instanceMethod mJ5_isLatin1_aae02.1 ∈ jGw := ⟨⟨(jGw_of 72 (by decide +kernel) (by decide +kernel)), (jGw_of 818 (by decide +kernel) (by decide +kernel)), ⟨by decide +kernel, by decide +kernel, by decide +kernel⟩, by decide⟩, (jGw_of 815 (by decide +kernel) (by decide +kernel))⟩
/-- java/lang/StringLatin1.canEncode(C)Z; no rows for: [] -/
abbrev mJ1_canEncode_fc78d : jMt := (yJ1_canEncode_fc78d, cJ1_canEncode_fc78d, 1, (some .boolean))
def tJ1_canEncode_fc78d : jTb := [(0, .iload_n 0, 1, 0, 0), (1, .sipush 255, 4, 0, 255), (4, .if_icmp .gt 7, 7, 11, 0), (7, .iconst 1, 8, 0, 1), (8, .goto 4, 11, 12, 0), (11, .iconst 0, 12, 0, 0), (12, .ireturn, 13, 0, 0)]
theorem DJ1_canEncode_fc78d : dT mJ1_canEncode_fc78d qJ1 qlJ1 tJ1_canEncode_fc78d := dT.of qJ1_ok qlJ1_ok qkJ1_ok (by decide +kernel) (by decide +kernel)
theorem WJ1_canEncode_fc78d : jMs mJ1_canEncode_fc78d 1 := ⟨⟨(jGw_of 80 (by decide +kernel) (by decide +kernel)), (jGw_of 898 (by decide +kernel) (by decide +kernel)), ⟨by decide +kernel, by decide +kernel, by decide +kernel⟩, by decide⟩, (jGw_of 897 (by decide +kernel) (by decide +kernel))⟩
/-- java/lang/StringBuilder.append(I)Ljava/lang/StringBuilder;; no rows for: [] -/
abbrev mJ4_append_bf812 : jMt := (yJ4_append_bf812, cJ4_append_bf812, 2, (some (.object "java/lang/StringBuilder")))
def tJ4_append_bf812 : jTb := [(0, .aload_n 0, 1, 0, 0), (1, .iload_n 1, 2, 0, 0), (2, .invokespecial 53, 5, 0, 0), (5, .pop, 6, 0, 0), (6, .aload_n 0, 7, 0, 0), (7, .areturn, 8, 0, 0)]
theorem DJ4_append_bf812 : dT mJ4_append_bf812 qJ4 qlJ4 tJ4_append_bf812 := dT.of qJ4_ok qlJ4_ok qkJ4_ok (by decide +kernel) (by decide +kernel)
theorem WJ4_append_bf812 : jMv mJ4_append_bf812 1 := ⟨⟨(jGw_of 73 (by decide +kernel) (by decide +kernel)), (jGw_of 977 (by decide +kernel) (by decide +kernel)), ⟨by decide +kernel, by decide +kernel, by decide +kernel⟩, by decide⟩, (jGw_of 975 (by decide +kernel) (by decide +kernel)), (jGw_of 976 (by decide +kernel) (by decide +kernel))⟩
/-- java/lang/AbstractStringBuilder.append(I)Ljava/lang/AbstractStringBuilder;; no rows for: [] -/
abbrev mJ5_append_c97b9 : jMt := (yJ5_append_c97b9, cJ5_append_c97b9, 4, (some (.object "java/lang/AbstractStringBuilder")))
def tJ5_append_c97b9 : jTb := [(0, .aload_n 0, 1, 0, 0), (1, .getfield 79, 4, 0, 0), (4, .istore_n 2, 5, 0, 0), (5, .iload_n 2, 6, 0, 0), (6, .iload_n 1, 7, 0, 0), (7, .invokestatic 245, 10, 0, 0), (10, .iadd, 11, 0, 0), (11, .istore_n 3, 12, 0, 0), (12, .aload_n 0, 13, 0, 0), (13, .iload_n 3, 14, 0, 0), (14, .invokevirtual 100, 17, 0, 0), (17, .aload_n 0, 18, 0, 0), (18, .invokevirtual 83, 21, 0, 0), (21, .ifCond .eq 16, 24, 37, 0), (24, .iload_n 1, 25, 0, 0), (25, .iload_n 3, 26, 0, 0), (26, .aload_n 0, 27, 0, 0), (27, .getfield 15, 30, 0, 0), (30, .invokestatic 248, 33, 0, 0), (33, .pop, 34, 0, 0), (34, .goto 14, 37, 48, 0), (37, .iload_n 1, 38, 0, 0), (38, .iload_n 2, 39, 0, 0), (39, .iload_n 3, 40, 0, 0), (40, .aload_n 0, 41, 0, 0), (41, .getfield 15, 44, 0, 0), (44, .invokestatic 251, 47, 0, 0), (47, .pop, 48, 0, 0), (48, .aload_n 0, 49, 0, 0), (49, .iload_n 3, 50, 0, 0), (50, .putfield 79, 53, 0, 0), (53, .aload_n 0, 54, 0, 0), (54, .areturn, 55, 0, 0)]
theorem DJ5_append_c97b9 : dT mJ5_append_c97b9 qJ5 qlJ5 tJ5_append_c97b9 := dT.of qJ5_ok qlJ5_ok qkJ5_ok (by decide +kernel) (by decide +kernel)
theorem UJ5_append_c97b9 : jLkC mJ5_append_c97b9 1 ∧ Cond.instanceMethod mJ5_append_c97b9.1 ∈ jGw := ⟨⟨(jGw_of 72 (by decide +kernel) (by decide +kernel)), (jGw_of 980 (by decide +kernel) (by decide +kernel)), ⟨by decide +kernel, by decide +kernel, by decide +kernel⟩, by decide⟩, (jGw_of 979 (by decide +kernel) (by decide +kernel))⟩
/-- java/lang/Integer.stringSize(I)I; no rows for: [] -/
theorem DJ6_stringSize_0f7a4 : dT mJ6_stringSize_0f7a4 qJ6 qlJ6 tJ6_stringSize_0f7a4 := dT.of qJ6_ok qlJ6_ok qkJ6_ok (by decide +kernel) (by decide +kernel)
/-- java/lang/Integer.getChars(II[B)I; no rows for: ['49 .getstatic 83', '62 .getstatic 87', '78 .getstatic 83', '97 .getstatic 87'] -/
theorem DJ6_getChars_ba4f3 : dT mJ6_getChars_ba4f3 qJ6 qlJ6 tJ6_getChars_ba4f3 := dT.of qJ6_ok qlJ6_ok qkJ6_ok (by decide +kernel) (by decide +kernel)
/-- java/lang/StringBuilder.toString()Ljava/lang/String;; no rows for: ['0 .new 18'] -/
abbrev mJ4_toString_0e30d : jMt := (yJ4_toString_0e30d, cJ4_toString_0e30d, 1, (some (.object "java/lang/String")))
def tJ4_toString_0e30d : jTb := [(3, .dup, 4, 0, 0), (4, .aload_n 0, 5, 0, 0), (5, .invokespecial 137, 8, 0, 0), (8, .areturn, 9, 0, 0)]
theorem DJ4_toString_0e30d : dT mJ4_toString_0e30d qJ4 qlJ4 tJ4_toString_0e30d := dT.of qJ4_ok qlJ4_ok qkJ4_ok (by decide +kernel) (by decide +kernel)
theorem WJ4_toString_0e30d : jMv mJ4_toString_0e30d 0 := ⟨⟨(jGw_of 73 (by decide +kernel) (by decide +kernel)), (jGw_of 915 (by decide +kernel) (by decide +kernel)), ⟨by decide +kernel, by decide +kernel, by decide +kernel⟩, by decide⟩, (jGw_of 913 (by decide +kernel) (by decide +kernel)), (jGw_of 914 (by decide +kernel) (by decide +kernel))⟩
/-- java/lang/String.<init>(Ljava/lang/StringBuilder;)V; no rows for: [] -/
abbrev mJ0_init_81219 : jMt := (yJ0_init_81219, cJ0_init_81219, 2, none)
def tJ0_init_81219 : jTb := [(0, .aload_n 0, 1, 0, 0), (1, .aload_n 1, 2, 0, 0), (2, .aconst_null, 3, 0, 0), (3, .invokespecial 489, 6, 0, 0), (6, .return_, 7, 0, 0)]
theorem DJ0_init_81219 : dT mJ0_init_81219 qJ0 qlJ0 tJ0_init_81219 := dT.of qJ0_ok qlJ0_ok qkJ0_ok (by decide +kernel) (by decide +kernel)
theorem WJ0_init_81219 : jMi mJ0_init_81219 1 := ⟨⟨(jGw_of 74 (by decide +kernel) (by decide +kernel)), (jGw_of 920 (by decide +kernel) (by decide +kernel)), ⟨by decide +kernel, by decide +kernel, by decide +kernel⟩, by decide⟩, (jGw_of 919 (by decide +kernel) (by decide +kernel)), rfl, rfl⟩
/-- java/lang/String.<init>(Ljava/lang/AbstractStringBuilder;Ljava/lang/Void;)V; no rows for: ['41 .getstatic 38'] -/
abbrev mJ0_init_db425 : jMt := (yJ0_init_db425, cJ0_init_db425, 5, none)
def tJ0_init_db425 : jTb := [(0, .aload_n 0, 1, 0, 0), (1, .invokespecial 1, 4, 0, 0), (4, .aload_n 1, 5, 0, 0), (5, .invokevirtual 552, 8, 0, 0), (8, .astore_n 3, 9, 0, 0), (9, .aload_n 1, 10, 0, 0), (10, .invokevirtual 549, 13, 0, 0), (13, .istore 4, 15, 0, 0), (15, .aload_n 1, 16, 0, 0), (16, .invokevirtual 1047, 19, 0, 0), (19, .ifCond .eq 22, 22, 41, 0), (22, .aload_n 0, 23, 0, 0), (23, .iconst 0, 24, 0, 0), (24, .putfield 15, 27, 0, 0), (27, .aload_n 0, 28, 0, 0), (28, .aload_n 3, 29, 0, 0), (29, .iconst 0, 30, 0, 0), (30, .iload 4, 32, 0, 0), (32, .invokestatic 54, 35, 0, 0), (35, .putfield 9, 38, 0, 0), (38, .goto 59, 41, 97, 0), (44, .ifCond .eq 35, 47, 79, 0), (47, .aload_n 1, 48, 0, 0), (48, .getfield 1048, 51, 0, 0), (51, .ifCond .eq 28, 54, 79, 0), (54, .aload_n 0, 55, 0, 0), (55, .aload_n 3, 56, 0, 0), (56, .iconst 0, 57, 0, 0), (57, .iload 4, 59, 0, 0), (59, .invokestatic 1051, 62, 0, 0), (62, .putfield 9, 65, 0, 0), (65, .aload_n 0, 66, 0, 0), (66, .aload_n 0, 67, 0, 0), (67, .getfield 9, 70, 0, 0), (70, .iload 4, 72, 0, 0), (72, .invokestatic 47, 75, 0, 0), (75, .putfield 15, 78, 0, 0), (78, .return_, 79, 0, 0), (79, .aload_n 0, 80, 0, 0), (80, .iconst 1, 81, 0, 1), (81, .putfield 15, 84, 0, 0), (84, .aload_n 0, 85, 0, 0), (85, .aload_n 3, 86, 0, 0), (86, .iconst 0, 87, 0, 0), (87, .iload 4, 89, 0, 0), (89, .iconst 1, 90, 0, 1), (90, .ishl, 91, 0, 0), (91, .invokestatic 54, 94, 0, 0), (94, .putfield 9, 97, 0, 0), (97, .return_, 98, 0, 0)]
theorem DJ0_init_db425 : dT mJ0_init_db425 qJ0 qlJ0 tJ0_init_db425 := dT.of qJ0_ok qlJ0_ok qkJ0_ok (by decide +kernel) (by decide +kernel)
theorem WJ0_init_db425 : jMi mJ0_init_db425 2 := ⟨⟨(jGw_of 74 (by decide +kernel) (by decide +kernel)), (jGw_of 923 (by decide +kernel) (by decide +kernel)), ⟨by decide +kernel, by decide +kernel, by decide +kernel⟩, by decide⟩, (jGw_of 922 (by decide +kernel) (by decide +kernel)), rfl, rfl⟩
/-- java/lang/AbstractStringBuilder.getValue()[B; no rows for: [] -/
abbrev mJ5_getValue_6d5f1 : jMt := (yJ5_getValue_6d5f1, cJ5_getValue_6d5f1, 1, (some (.array .byte)))
def tJ5_getValue_6d5f1 : jTb := [(0, .aload_n 0, 1, 0, 0), (1, .getfield 15, 4, 0, 0), (4, .areturn, 5, 0, 0)]
theorem DJ5_getValue_6d5f1 : dT mJ5_getValue_6d5f1 qJ5 qlJ5 tJ5_getValue_6d5f1 := dT.of qJ5_ok qlJ5_ok qkJ5_ok (by decide +kernel) (by decide +kernel)
theorem UJ5_getValue_6d5f1 : jLkC mJ5_getValue_6d5f1 0 ∧ Cond.instanceMethod mJ5_getValue_6d5f1.1 ∈ jGw := ⟨⟨(jGw_of 72 (by decide +kernel) (by decide +kernel)), (jGw_of 929 (by decide +kernel) (by decide +kernel)), ⟨by decide +kernel, by decide +kernel, by decide +kernel⟩, by decide⟩, (jGw_of 926 (by decide +kernel) (by decide +kernel))⟩
/-- java/lang/AbstractStringBuilder.length()I; no rows for: [] -/
abbrev mJ5_length_8abf5 : jMt := (yJ5_length_8abf5, cJ5_length_8abf5, 1, (some .int))
def tJ5_length_8abf5 : jTb := [(0, .aload_n 0, 1, 0, 0), (1, .getfield 79, 4, 0, 0), (4, .ireturn, 5, 0, 0)]
theorem DJ5_length_8abf5 : dT mJ5_length_8abf5 qJ5 qlJ5 tJ5_length_8abf5 := dT.of qJ5_ok qlJ5_ok qkJ5_ok (by decide +kernel) (by decide +kernel)
theorem UJ5_length_8abf5 : jLkC mJ5_length_8abf5 0 ∧ Cond.instanceMethod mJ5_length_8abf5.1 ∈ jGw := ⟨⟨(jGw_of 72 (by decide +kernel) (by decide +kernel)), (jGw_of 937 (by decide +kernel) (by decide +kernel)), ⟨by decide +kernel, by decide +kernel, by decide +kernel⟩, by decide⟩, (jGw_of 931 (by decide +kernel) (by decide +kernel))⟩
/-- java/lang/StringBuilder.length()I; no rows for: [] -/
abbrev mJ4_length_8abf5 : jMt := (yJ4_length_8abf5, cJ4_length_8abf5, 1, (some .int))
def tJ4_length_8abf5 : jTb := [(0, .aload_n 0, 1, 0, 0), (1, .invokespecial 343, 4, 0, 0), (4, .ireturn, 5, 0, 0)]
theorem DJ4_length_8abf5 : dT mJ4_length_8abf5 qJ4 qlJ4 tJ4_length_8abf5 := dT.of qJ4_ok qlJ4_ok qkJ4_ok (by decide +kernel) (by decide +kernel)
theorem UJ4_length_8abf5 : jLkC mJ4_length_8abf5 0 ∧ Cond.instanceMethod mJ4_length_8abf5.1 ∈ jGw := ⟨⟨(jGw_of 73 (by decide +kernel) (by decide +kernel)), (jGw_of 935 (by decide +kernel) (by decide +kernel)), ⟨by decide +kernel, by decide +kernel, by decide +kernel⟩, by decide⟩, (jGw_of 934 (by decide +kernel) (by decide +kernel))⟩
/-- java/util/Arrays.copyOfRange([BII)[B; no rows for: ['21 .checkcast 311'] -/
theorem DJ7_copyOfRange_39247 : dT mJ7_copyOfRange_39247 qJ7 qlJ7 tJ7_copyOfRange_39247 := dT.of qJ7_ok qlJ7_ok qkJ7_ok (by decide +kernel) (by decide +kernel)
/-- java/util/Arrays.copyOfRangeByte([BII)[B; no rows for: [] -/
theorem DJ7_copyOfRangeByte_39247 : dT mJ7_copyOfRangeByte_39247 qJ7 qlJ7 tJ7_copyOfRangeByte_39247 := dT.of qJ7_ok qlJ7_ok qkJ7_ok (by decide +kernel) (by decide +kernel)
/-- java/util/Arrays.checkLength(II)V; no rows for: ['5 .new 43', '9 .new 45', '20 .ldc_w 337'] -/
theorem DJ7_checkLength_df160 : dT mJ7_checkLength_df160 qJ7 qlJ7 tJ7_checkLength_df160 := dT.of qJ7_ok qlJ7_ok qkJ7_ok (by decide +kernel) (by decide +kernel)
/-- java/lang/String.charAt(I)C; no rows for: [] -/
theorem DJ0_charAt_5068e : dT mJ0_charAt_5068e qJ0 qlJ0 tJ0_charAt_5068e := dT.of qJ0_ok qlJ0_ok qkJ0_ok (by decide +kernel) (by decide +kernel)
/-- java/lang/StringLatin1.charAt([BI)C; no rows for: [] -/
theorem DJ1_charAt_3b067 : dT mJ1_charAt_3b067 qJ1 qlJ1 tJ1_charAt_3b067 := dT.of qJ1_ok qlJ1_ok qkJ1_ok (by decide +kernel) (by decide +kernel)
/-- java/lang/String.checkIndex(II)V; no rows for: ['2 .getstatic 1053'] -/
theorem DJ0_checkIndex_df160 : dT mJ0_checkIndex_df160 qJ0 qlJ0 tJ0_checkIndex_df160 := dT.of qJ0_ok qlJ0_ok qkJ0_ok (by decide +kernel) (by decide +kernel)
theorem hJ5_32 : Cond.methodLink RJ5 32 yJ0_length_8abf5 ∈ jGw := jGw_of 845 (by decide +kernel) (by decide +kernel)
theorem hJ5_40 : Cond.methodLink RJ5 40 yJ0_coder_7d493 ∈ jGw := jGw_of 862 (by decide +kernel) (by decide +kernel)
theorem hJ5_83 : Cond.methodLink RJ5 83 yJ5_isLatin1_aae02 ∈ jGw := jGw_of 814 (by decide +kernel) (by decide +kernel)
theorem hJ5_100 : Cond.methodLink RJ5 100 yJ5_ensureCapacityInternal_d00df ∈ jGw := jGw_of 783 (by decide +kernel) (by decide +kernel)
theorem hJ5_104 : Cond.methodLink RJ5 104 yJ5_newCapacity_0f7a4 ∈ jGw := jGw_of 787 (by decide +kernel) (by decide +kernel)
theorem hJ5_108 : Cond.methodLink RJ5 108 yJ7_copyOf_9075b ∈ jGw := jGw_of 802 (by decide +kernel) (by decide +kernel)
theorem hJ5_114 : Cond.methodLink RJ5 114 yJ8_newLength_cabcc ∈ jGw := jGw_of 791 (by decide +kernel) (by decide +kernel)
theorem hJ5_191 : Cond.methodLink RJ5 191 yJ1_canEncode_fc78d ∈ jGw := jGw_of 896 (by decide +kernel) (by decide +kernel)
theorem hJ5_208 : Cond.methodLink RJ5 208 yJ5_putStringAt_47b60 ∈ jGw := jGw_of 854 (by decide +kernel) (by decide +kernel)
theorem hJ5_245 : Cond.methodLink RJ5 245 yJ6_stringSize_0f7a4 ∈ jGw := jGw_of 981 (by decide +kernel) (by decide +kernel)
theorem hJ5_248 : Cond.methodLink RJ5 248 yJ6_getChars_ba4f3 ∈ jGw := jGw_of 984 (by decide +kernel) (by decide +kernel)
theorem hJ5_397 : Cond.methodLink RJ5 397 yJ5_inflateIfNeededFor_a7421 ∈ jGw := jGw_of 858 (by decide +kernel) (by decide +kernel)
theorem hJ5_399 : Cond.methodLink RJ5 399 yJ0_getBytes_840e7 ∈ jGw := jGw_of 882 (by decide +kernel) (by decide +kernel)
theorem hJ0_54 : Cond.methodLink RJ0 54 yJ7_copyOfRange_39247 ∈ jGw := jGw_of 939 (by decide +kernel) (by decide +kernel)
theorem hJ0_335 : Cond.methodLink RJ0 335 yJ0_coder_7d493 ∈ jGw := jGw_of 849 (by decide +kernel) (by decide +kernel)
theorem hJ0_489 : Cond.methodLink RJ0 489 yJ0_init_db425 ∈ jGw := jGw_of 921 (by decide +kernel) (by decide +kernel)
theorem hJ0_492 : Cond.methodLink RJ0 492 yJ0_isLatin1_aae02 ∈ jGw := jGw_of 1065 (by decide +kernel) (by decide +kernel)
theorem hJ0_495 : Cond.methodLink RJ0 495 yJ1_charAt_3b067 ∈ jGw := jGw_of 1069 (by decide +kernel) (by decide +kernel)
theorem hJ0_549 : Cond.methodLink RJ0 549 yJ5_length_8abf5 ∈ jGw := jGw_of 930 (by decide +kernel) (by decide +kernel)
theorem hJ0_552 : Cond.methodLink RJ0 552 yJ5_getValue_6d5f1 ∈ jGw := jGw_of 925 (by decide +kernel) (by decide +kernel)
theorem hJ0_1047 : Cond.methodLink RJ0 1047 yJ5_isLatin1_aae02 ∈ jGw := jGw_of 938 (by decide +kernel) (by decide +kernel)
theorem hJ0_1059 : Cond.methodLink RJ0 1059 yJ3_checkIndex_8e157 ∈ jGw := jGw_of 908 (by decide +kernel) (by decide +kernel)
theorem hJ4_1 : Cond.methodLink RJ4 1 yJ5_init_d00df ∈ jGw := jGw_of 746 (by decide +kernel) (by decide +kernel)
theorem hJ4_29 : Cond.methodLink RJ4 29 yJ5_append_cf1ce ∈ jGw := jGw_of 776 (by decide +kernel) (by decide +kernel)
theorem hJ4_50 : Cond.methodLink RJ4 50 yJ5_append_3fe6f ∈ jGw := jGw_of 893 (by decide +kernel) (by decide +kernel)
theorem hJ4_53 : Cond.methodLink RJ4 53 yJ5_append_c97b9 ∈ jGw := jGw_of 978 (by decide +kernel) (by decide +kernel)
theorem hJ4_137 : Cond.methodLink RJ4 137 yJ0_init_81219 ∈ jGw := jGw_of 918 (by decide +kernel) (by decide +kernel)
theorem hJ4_343 : Cond.methodLink RJ4 343 yJ5_length_8abf5 ∈ jGw := jGw_of 936 (by decide +kernel) (by decide +kernel)
theorem hJ1_9 : Cond.methodLink RJ1 9 yJ0_checkIndex_df160 ∈ jGw := jGw_of 1072 (by decide +kernel) (by decide +kernel)
theorem hJ7_304 : Cond.methodLink RJ7 304 yJ9_min_7cf53 ∈ jGw := jGw_of 812 (by decide +kernel) (by decide +kernel)
theorem hJ7_339 : Cond.methodLink RJ7 339 yJ7_copyOfRangeByte_39247 ∈ jGw := jGw_of 942 (by decide +kernel) (by decide +kernel)
theorem hJ7_343 : Cond.methodLink RJ7 343 yJ7_checkLength_df160 ∈ jGw := jGw_of 945 (by decide +kernel) (by decide +kernel)
theorem hJ8_194 : Cond.methodLink RJ8 194 yJ9_max_7cf53 ∈ jGw := jGw_of 794 (by decide +kernel) (by decide +kernel)
