/-! by program: ArrayList and the checks of places: fields, rows, words, links, for the judgement DW -/
theorem dcls_Jx4a65c : dCls 15 RJx4a65c TJx4a65c 3 := ⟨rfl, jGw_ps [727, 723, 725] (by decide +kernel) (by decide +kernel), ⟨tyJx4a65c, tyJx4a65c_ok⟩, nmJx4a65c⟩
theorem qJx4a65c_9 : dFok RJx4a65c (9, 15, 1, 2) := ⟨RJx4a65c, TJx4a65c, 3, dcls_Jx4a65c, by decide, by decide +kernel, ⟨"java/util/ArrayList", Or.inl rfl, Or.inl (jGw_of 718 (by decide +kernel) (by decide +kernel))⟩, fun _ => ⟨.array (.object "java/lang/Object"), by decide +kernel, rfl⟩⟩
theorem qJx4a65c_48 : dFok RJx4a65c (48, 15, 2, 0) := ⟨RJx4a65c, TJx4a65c, 3, dcls_Jx4a65c, by decide, by decide +kernel, ⟨"java/util/ArrayList", Or.inl rfl, Or.inl (jGw_of 719 (by decide +kernel) (by decide +kernel))⟩, fun h => absurd h (by decide)⟩
theorem qJx4a65c_63 : dFok RJx4a65c (63, 15, 0, 0) := ⟨RJx4a65c, TJx4a65c, 3, dcls_Jx4a65c, by decide, by decide +kernel, ⟨"java/util/ArrayList", Or.inr (jGw_of 722 (by decide +kernel) (by decide +kernel)), Or.inl (jGw_of 721 (by decide +kernel) (by decide +kernel))⟩, fun h => absurd h (by decide)⟩
def qJx4a65c : List (Nat × Nat × Nat × Nat) := [(9, 15, 1, 2), (48, 15, 2, 0), (63, 15, 0, 0)]
theorem qJx4a65c_ok : ∀ q ∈ qJx4a65c, dFok RJx4a65c q := List.forall_mem_cons.mpr ⟨qJx4a65c_9, List.forall_mem_cons.mpr ⟨qJx4a65c_48, List.forall_mem_cons.mpr ⟨qJx4a65c_63, fun _ h => absurd h List.not_mem_nil⟩⟩⟩
def qlJx4a65c : List (Nat × Int64) := []
theorem qlJx4a65c_ok : ∀ q ∈ qlJx4a65c, Cond.constantLong RJx4a65c q.1 q.2 ∈ jGw := fun _ h => absurd h List.not_mem_nil
def qkJx4a65c : List (Nat × Int32) := []
theorem qkJx4a65c_ok : ∀ q ∈ qkJx4a65c, Cond.constant RJx4a65c q.1 q.2 ∈ jGw := fun _ h => absurd h List.not_mem_nil
def qJ15 : List (Nat × Nat × Nat × Nat) := []
theorem qJ15_ok : ∀ q ∈ qJ15, dFok RJ15 q := fun _ h => absurd h List.not_mem_nil
def qlJ15 : List (Nat × Int64) := []
theorem qlJ15_ok : ∀ q ∈ qlJ15, Cond.constantLong RJ15 q.1 q.2 ∈ jGw := fun _ h => absurd h List.not_mem_nil
def qkJ15 : List (Nat × Int32) := []
theorem qkJ15_ok : ∀ q ∈ qkJ15, Cond.constant RJ15 q.1 q.2 ∈ jGw := fun _ h => absurd h List.not_mem_nil
def qJ3 : List (Nat × Nat × Nat × Nat) := []
theorem qJ3_ok : ∀ q ∈ qJ3, dFok RJ3 q := fun _ h => absurd h List.not_mem_nil
def qlJ3 : List (Nat × Int64) := []
theorem qlJ3_ok : ∀ q ∈ qlJ3, Cond.constantLong RJ3 q.1 q.2 ∈ jGw := fun _ h => absurd h List.not_mem_nil
def qkJ3 : List (Nat × Int32) := []
theorem qkJ3_ok : ∀ q ∈ qkJ3, Cond.constant RJ3 q.1 q.2 ∈ jGw := fun _ h => absurd h List.not_mem_nil
abbrev mJx4a65c_size_8abf5 : jMt := (yJx4a65c_size_8abf5, cJx4a65c_size_8abf5, 1, (some .int))
def tJx4a65c_size_8abf5 : jTb := [(0, .aload_n 0, 1, 0, 0), (1, .getfield 48, 4, 0, 0), (4, .ireturn, 5, 0, 0)]
theorem DJx4a65c_size_8abf5 : dT mJx4a65c_size_8abf5 qJx4a65c qlJx4a65c tJx4a65c_size_8abf5 := dT.of qJx4a65c_ok qlJx4a65c_ok qkJx4a65c_ok (by decide +kernel) (by decide +kernel)
theorem WJx4a65c_size_8abf5 : jMv mJx4a65c_size_8abf5 0 := ⟨⟨(jGw_of 71 (by decide +kernel) (by decide +kernel)), (jGw_of 1552 (by decide +kernel) (by decide +kernel)), ⟨by decide +kernel, by decide +kernel, by decide +kernel⟩, by decide⟩, (jGw_of 1550 (by decide +kernel) (by decide +kernel)), (jGw_of 1551 (by decide +kernel) (by decide +kernel))⟩
abbrev mJx4a65c_get_915e3 : jMt := (yJx4a65c_get_915e3, cJx4a65c_get_915e3, 2, (some (.object "java/lang/Object")))
def tJx4a65c_get_915e3 : jTb := [(0, .iload_n 1, 1, 0, 0), (1, .aload_n 0, 2, 0, 0), (2, .getfield 48, 5, 0, 0), (5, .invokestatic 118, 8, 0, 0), (8, .pop, 9, 0, 0), (9, .aload_n 0, 10, 0, 0), (10, .iload_n 1, 11, 0, 0), (11, .invokevirtual 123, 14, 0, 0), (14, .areturn, 15, 0, 0)]
theorem DJx4a65c_get_915e3 : dT mJx4a65c_get_915e3 qJx4a65c qlJx4a65c tJx4a65c_get_915e3 := dT.of qJx4a65c_ok qlJx4a65c_ok qkJx4a65c_ok (by decide +kernel) (by decide +kernel)
theorem WJx4a65c_get_915e3 : jMv mJx4a65c_get_915e3 1 := ⟨⟨(jGw_of 71 (by decide +kernel) (by decide +kernel)), (jGw_of 1634 (by decide +kernel) (by decide +kernel)), ⟨by decide +kernel, by decide +kernel, by decide +kernel⟩, by decide⟩, (jGw_of 1632 (by decide +kernel) (by decide +kernel)), (jGw_of 1633 (by decide +kernel) (by decide +kernel))⟩
abbrev mJx4a65c_elementData_915e3 : jMt := (yJx4a65c_elementData_915e3, cJx4a65c_elementData_915e3, 2, (some (.object "java/lang/Object")))
def tJx4a65c_elementData_915e3 : jTb := [(0, .aload_n 0, 1, 0, 0), (1, .getfield 9, 4, 0, 0), (4, .iload_n 1, 5, 0, 0), (5, .aaload, 6, 0, 0), (6, .areturn, 7, 0, 0)]
theorem DJx4a65c_elementData_915e3 : dT mJx4a65c_elementData_915e3 qJx4a65c qlJx4a65c tJx4a65c_elementData_915e3 := dT.of qJx4a65c_ok qlJx4a65c_ok qkJx4a65c_ok (by decide +kernel) (by decide +kernel)
theorem WJx4a65c_elementData_915e3 : jMv mJx4a65c_elementData_915e3 1 := ⟨⟨(jGw_of 71 (by decide +kernel) (by decide +kernel)), (jGw_of 1642 (by decide +kernel) (by decide +kernel)), ⟨by decide +kernel, by decide +kernel, by decide +kernel⟩, by decide⟩, (jGw_of 1640 (by decide +kernel) (by decide +kernel)), (jGw_of 1641 (by decide +kernel) (by decide +kernel))⟩
abbrev mJx4a65c_remove_915e3 : jMt := (yJx4a65c_remove_915e3, cJx4a65c_remove_915e3, 4, (some (.object "java/lang/Object")))
def tJx4a65c_remove_915e3 : jTb := [(0, .iload_n 1, 1, 0, 0), (1, .aload_n 0, 2, 0, 0), (2, .getfield 48, 5, 0, 0), (5, .invokestatic 118, 8, 0, 0), (8, .pop, 9, 0, 0), (9, .aload_n 0, 10, 0, 0), (10, .getfield 9, 13, 0, 0), (13, .astore_n 2, 14, 0, 0), (14, .aload_n 2, 15, 0, 0), (15, .iload_n 1, 16, 0, 0), (16, .aaload, 17, 0, 0), (17, .astore_n 3, 18, 0, 0), (18, .aload_n 0, 19, 0, 0), (19, .aload_n 2, 20, 0, 0), (20, .iload_n 1, 21, 0, 0), (21, .invokevirtual 144, 24, 0, 0), (24, .aload_n 3, 25, 0, 0), (25, .areturn, 26, 0, 0)]
theorem DJx4a65c_remove_915e3 : dT mJx4a65c_remove_915e3 qJx4a65c qlJx4a65c tJx4a65c_remove_915e3 := dT.of qJx4a65c_ok qlJx4a65c_ok qkJx4a65c_ok (by decide +kernel) (by decide +kernel)
theorem WJx4a65c_remove_915e3 : jMv mJx4a65c_remove_915e3 1 := ⟨⟨(jGw_of 71 (by decide +kernel) (by decide +kernel)), (jGw_of 1646 (by decide +kernel) (by decide +kernel)), ⟨by decide +kernel, by decide +kernel, by decide +kernel⟩, by decide⟩, (jGw_of 1644 (by decide +kernel) (by decide +kernel)), (jGw_of 1645 (by decide +kernel) (by decide +kernel))⟩
abbrev mJx4a65c_fastRemove_b59b0 : jMt := (yJx4a65c_fastRemove_b59b0, cJx4a65c_fastRemove_b59b0, 4, none)
def tJx4a65c_fastRemove_b59b0 : jTb := [(0, .aload_n 0, 1, 0, 0), (1, .dup, 2, 0, 0), (2, .getfield 63, 5, 0, 0), (5, .iconst 1, 6, 0, 1), (6, .iadd, 7, 0, 0), (7, .putfield 63, 10, 0, 0), (10, .aload_n 0, 11, 0, 0), (11, .getfield 48, 14, 0, 0), (14, .iconst 1, 15, 0, 1), (15, .isub, 16, 0, 0), (16, .dup, 17, 0, 0), (17, .istore_n 3, 18, 0, 0), (18, .iload_n 2, 19, 0, 0), (19, .if_icmp .le 15, 22, 34, 0), (22, .aload_n 1, 23, 0, 0), (23, .iload_n 2, 24, 0, 0), (24, .iconst 1, 25, 0, 1), (25, .iadd, 26, 0, 0), (26, .aload_n 1, 27, 0, 0), (27, .iload_n 2, 28, 0, 0), (28, .iload_n 3, 29, 0, 0), (29, .iload_n 2, 30, 0, 0), (30, .isub, 31, 0, 0), (31, .invokestatic 112, 34, 0, 0), (34, .aload_n 1, 35, 0, 0), (35, .aload_n 0, 36, 0, 0), (36, .iload_n 3, 37, 0, 0), (37, .dup_x1, 38, 0, 0), (38, .putfield 48, 41, 0, 0), (41, .aconst_null, 42, 0, 0), (42, .aastore, 43, 0, 0), (43, .return_, 44, 0, 0)]
theorem DJx4a65c_fastRemove_b59b0 : dT mJx4a65c_fastRemove_b59b0 qJx4a65c qlJx4a65c tJx4a65c_fastRemove_b59b0 := dT.of qJx4a65c_ok qlJx4a65c_ok qkJx4a65c_ok (by decide +kernel) (by decide +kernel)
theorem WJx4a65c_fastRemove_b59b0 : jMv mJx4a65c_fastRemove_b59b0 2 := ⟨⟨(jGw_of 71 (by decide +kernel) (by decide +kernel)), (jGw_of 1650 (by decide +kernel) (by decide +kernel)), ⟨by decide +kernel, by decide +kernel, by decide +kernel⟩, by decide⟩, (jGw_of 1649 (by decide +kernel) (by decide +kernel)), (jGw_of 51 (by decide +kernel) (by decide +kernel))⟩
abbrev mJ15_checkIndex_7cf53 : jMt := (yJ15_checkIndex_7cf53, cJ15_checkIndex_7cf53, 2, (some .int))
def tJ15_checkIndex_7cf53 : jTb := [(0, .iload_n 0, 1, 0, 0), (1, .iload_n 1, 2, 0, 0), (2, .aconst_null, 3, 0, 0), (3, .invokestatic 105, 6, 0, 0), (6, .ireturn, 7, 0, 0)]
theorem DJ15_checkIndex_7cf53 : dT mJ15_checkIndex_7cf53 qJ15 qlJ15 tJ15_checkIndex_7cf53 := dT.of qJ15_ok qlJ15_ok qkJ15_ok (by decide +kernel) (by decide +kernel)
theorem WJ15_checkIndex_7cf53 : jMs mJ15_checkIndex_7cf53 2 := ⟨⟨(jGw_of 87 (by decide +kernel) (by decide +kernel)), (jGw_of 1637 (by decide +kernel) (by decide +kernel)), ⟨by decide +kernel, by decide +kernel, by decide +kernel⟩, by decide⟩, (jGw_of 1636 (by decide +kernel) (by decide +kernel))⟩
theorem DJ3_checkIndex_8e157 : dT mJ3_checkIndex_8e157 qJ3 qlJ3 tJ3_checkIndex_8e157 := dT.of qJ3_ok qlJ3_ok qkJ3_ok (by decide +kernel) (by decide +kernel)
theorem hX12_268 : Cond.methodLink RX12 268 yJx4a65c_size_8abf5 ∈ jGw := jGw_of 1549 (by decide +kernel) (by decide +kernel)
theorem hX12_294 : Cond.methodLink RX12 294 yJx4a65c_get_915e3 ∈ jGw := jGw_of 1631 (by decide +kernel) (by decide +kernel)
theorem hX12_298 : Cond.methodLink RX12 298 yJx4a65c_remove_915e3 ∈ jGw := jGw_of 1643 (by decide +kernel) (by decide +kernel)
theorem hJx4a65c_118 : Cond.methodLink RJx4a65c 118 yJ15_checkIndex_7cf53 ∈ jGw := jGw_of 1635 (by decide +kernel) (by decide +kernel)
theorem hJx4a65c_123 : Cond.methodLink RJx4a65c 123 yJx4a65c_elementData_915e3 ∈ jGw := jGw_of 1639 (by decide +kernel) (by decide +kernel)
theorem hJx4a65c_144 : Cond.methodLink RJx4a65c 144 yJx4a65c_fastRemove_b59b0 ∈ jGw := jGw_of 1647 (by decide +kernel) (by decide +kernel)
theorem hJ15_105 : Cond.methodLink RJ15 105 yJ3_checkIndex_8e157 ∈ jGw := jGw_of 1638 (by decide +kernel) (by decide +kernel)
