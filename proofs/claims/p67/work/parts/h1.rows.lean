/-! plain rows of the judgement DW (by program) -/
section DJ
variable {g : jG} {z : dZ} {mt : jMt} {pc : Nat} {L : List (Nat × Value)} {r : List Value} {σ : dM} {c0 s0 : Nat}
theorem dr_iconst {z9 : Int} {v : Int32} (hv : Int32.ofInt z9 = v) (d : decode mt.2.1 pc = .ok (.iconst z9, 1)) (k : DW g z mt (pc + 1) L (.int v :: r) σ c0 s0) : DW g z mt pc L (r) σ c0 s0 := by
  intro p e s m as below meth c H locs ls da X hD hP hS hl
  exact lv_iconst X.1 X.2.1 d hv (k p e s m as below meth c H locs ls da X hD hP hS hl)
theorem dr_bipush {z9 : Int} {v : Int32} (hv : (Int8.ofInt z9).toInt32 = v) (d : decode mt.2.1 pc = .ok (.bipush z9, 2)) (k : DW g z mt (pc + 2) L (.int v :: r) σ c0 s0) : DW g z mt pc L (r) σ c0 s0 := by
  intro p e s m as below meth c H locs ls da X hD hP hS hl
  exact lv_bipush X.1 X.2.1 d hv (k p e s m as below meth c H locs ls da X hD hP hS hl)
theorem dr_sipush {z9 : Int} {v : Int32} (hv : (Int16.ofInt z9).toInt32 = v) (d : decode mt.2.1 pc = .ok (.sipush z9, 3)) (k : DW g z mt (pc + 3) L (.int v :: r) σ c0 s0) : DW g z mt pc L (r) σ c0 s0 := by
  intro p e s m as below meth c H locs ls da X hD hP hS hl
  exact lv_sipush X.1 X.2.1 d hv (k p e s m as below meth c H locs ls da X hD hP hS hl)
theorem dr_lconst {z9 : Fin 2} {v : Int64} (hv : Int64.ofNat (z9 : Nat) = v) (d : decode mt.2.1 pc = .ok (.lconst z9, 1)) (k : DW g z mt (pc + 1) L (.long v :: r) σ c0 s0) : DW g z mt pc L (r) σ c0 s0 := by
  intro p e s m as below meth c H locs ls da X hD hP hS hl
  exact lv_lconst X.1 X.2.1 d hv (k p e s m as below meth c H locs ls da X hD hP hS hl)
theorem dr_ldc {j : Nat} {v : Int32} (hv : Cond.constant mt.1.cls j v ∈ jGw) (d : decode mt.2.1 pc = .ok (.ldc j, 2)) (k : DW g z mt (pc + 2) L (.int v :: r) σ c0 s0) : DW g z mt pc L (r) σ c0 s0 := by
  intro p e s m as below meth c H locs ls da X hD hP hS hl
  exact lv_ldc X.1 X.2.1 X.2.2.2.2.2.1 (X.2.2.2.2.2.2.1 _ (List.mem_cons_of_mem _ hv)) d (k p e s m as below meth c H locs ls da X hD hP hS hl)
theorem dr_ldcw {j : Nat} {v : Int32} (hv : Cond.constant mt.1.cls j v ∈ jGw) (d : decode mt.2.1 pc = .ok (.ldc_w j, 3)) (k : DW g z mt (pc + 3) L (.int v :: r) σ c0 s0) : DW g z mt pc L (r) σ c0 s0 := by
  intro p e s m as below meth c H locs ls da X hD hP hS hl
  exact lv_ldcw X.1 X.2.1 X.2.2.2.2.2.1 (X.2.2.2.2.2.2.1 _ (List.mem_cons_of_mem _ hv)) d (k p e s m as below meth c H locs ls da X hD hP hS hl)
theorem dr_ldc2 {j : Nat} {v : Int64} (hv : Cond.constantLong mt.1.cls j v ∈ jGw) (d : decode mt.2.1 pc = .ok (.ldc2_w j, 3)) (k : DW g z mt (pc + 3) L (.long v :: r) σ c0 s0) : DW g z mt pc L (r) σ c0 s0 := by
  intro p e s m as below meth c H locs ls da X hD hP hS hl
  exact lv_ldc2 X.1 X.2.1 X.2.2.2.2.2.1 (X.2.2.2.2.2.2.1 _ (List.mem_cons_of_mem _ hv)) d (k p e s m as below meth c H locs ls da X hD hP hS hl)
theorem dr_iload {j : Nat} {x : Int32} (h : jlk L j = some (.int x)) (d : decode mt.2.1 pc = .ok (.iload j, 2)) (k : DW g z mt (pc + 2) L (.int x :: r) σ c0 s0) : DW g z mt pc L (r) σ c0 s0 := by
  intro p e s m as below meth c H locs ls da X hD hP hS hl
  exact lv_iload X.1 X.2.1 d (jL_lk hl h) (k p e s m as below meth c H locs ls da X hD hP hS hl)
theorem dr_iloadn {j : Fin 4} {x : Int32} (h : jlk L j.val = some (.int x)) (d : decode mt.2.1 pc = .ok (.iload_n j, 1)) (k : DW g z mt (pc + 1) L (.int x :: r) σ c0 s0) : DW g z mt pc L (r) σ c0 s0 := by
  intro p e s m as below meth c H locs ls da X hD hP hS hl
  exact lv_iload_n X.1 X.2.1 d rfl (jL_lk hl h) (k p e s m as below meth c H locs ls da X hD hP hS hl)
theorem dr_istore {j : Nat} {x : Int32} (h : j < mt.2.2.1) (d : decode mt.2.1 pc = .ok (.istore j, 2)) (k : DW g z mt (pc + 2) (jins j (.int x) L) (r) σ c0 s0) : DW g z mt pc L (.int x :: r) σ c0 s0 := by
  intro p e s m as below meth c H locs ls da X hD hP hS hl
  exact lv_istore X.1 X.2.1 d hl h rfl (fun ls' hl' => k p e s m as below meth c H locs ls' da X hD hP hS (jL_ins hl'))
theorem dr_istoren {j : Fin 4} {x : Int32} (h : j.val < mt.2.2.1) (d : decode mt.2.1 pc = .ok (.istore_n j, 1)) (k : DW g z mt (pc + 1) (jins j.val (.int x) L) (r) σ c0 s0) : DW g z mt pc L (.int x :: r) σ c0 s0 := by
  intro p e s m as below meth c H locs ls da X hD hP hS hl
  exact lv_istore_n X.1 X.2.1 d rfl hl h rfl (fun ls' hl' => k p e s m as below meth c H locs ls' da X hD hP hS (jL_ins hl'))
theorem dr_lload {j : Nat} {x : Int64} (h : jlk L j = some (.long x)) (d : decode mt.2.1 pc = .ok (.lload j, 2)) (k : DW g z mt (pc + 2) L (.long x :: r) σ c0 s0) : DW g z mt pc L (r) σ c0 s0 := by
  intro p e s m as below meth c H locs ls da X hD hP hS hl
  exact lv_lload X.1 X.2.1 d (jL_lk hl h) (k p e s m as below meth c H locs ls da X hD hP hS hl)
theorem dr_lloadn {j : Fin 4} {x : Int64} (h : jlk L j.val = some (.long x)) (d : decode mt.2.1 pc = .ok (.lload_n j, 1)) (k : DW g z mt (pc + 1) L (.long x :: r) σ c0 s0) : DW g z mt pc L (r) σ c0 s0 := by
  intro p e s m as below meth c H locs ls da X hD hP hS hl
  exact lv_lload_n X.1 X.2.1 d rfl (jL_lk hl h) (k p e s m as below meth c H locs ls da X hD hP hS hl)
theorem dr_lstore {j : Nat} {x : Int64} (h : j + 1 < mt.2.2.1) (d : decode mt.2.1 pc = .ok (.lstore j, 2)) (k : DW g z mt (pc + 2) (jins2 j (.long x) L) (r) σ c0 s0) : DW g z mt pc L (.long x :: r) σ c0 s0 := by
  intro p e s m as below meth c H locs ls da X hD hP hS hl
  exact lv_lstore X.1 X.2.1 d hl h rfl (fun ls' hl' => k p e s m as below meth c H locs ls' da X hD hP hS (jL_ins2 hl'))
theorem dr_lstoren {j : Fin 4} {x : Int64} (h : j.val + 1 < mt.2.2.1) (d : decode mt.2.1 pc = .ok (.lstore_n j, 1)) (k : DW g z mt (pc + 1) (jins2 j.val (.long x) L) (r) σ c0 s0) : DW g z mt pc L (.long x :: r) σ c0 s0 := by
  intro p e s m as below meth c H locs ls da X hD hP hS hl
  exact lv_lstore_n X.1 X.2.1 d rfl hl h rfl (fun ls' hl' => k p e s m as below meth c H locs ls' da X hD hP hS (jL_ins2 hl'))
theorem dr_aload {j : Nat} {x : Nat} (h : jlk L j = some (.ref x)) (d : decode mt.2.1 pc = .ok (.aload j, 2)) (k : DW g z mt (pc + 2) L (.ref x :: r) σ c0 s0) : DW g z mt pc L (r) σ c0 s0 := by
  intro p e s m as below meth c H locs ls da X hD hP hS hl
  exact lv_aload X.1 X.2.1 d (jL_lk hl h) (k p e s m as below meth c H locs ls da X hD hP hS hl)
theorem dr_aloadn {j : Fin 4} {x : Nat} (h : jlk L j.val = some (.ref x)) (d : decode mt.2.1 pc = .ok (.aload_n j, 1)) (k : DW g z mt (pc + 1) L (.ref x :: r) σ c0 s0) : DW g z mt pc L (r) σ c0 s0 := by
  intro p e s m as below meth c H locs ls da X hD hP hS hl
  exact lv_aload_n X.1 X.2.1 d rfl (jL_lk hl h) (k p e s m as below meth c H locs ls da X hD hP hS hl)
theorem dr_astore {j : Nat} {x : Nat} (h : j < mt.2.2.1) (d : decode mt.2.1 pc = .ok (.astore j, 2)) (k : DW g z mt (pc + 2) (jins j (.ref x) L) (r) σ c0 s0) : DW g z mt pc L (.ref x :: r) σ c0 s0 := by
  intro p e s m as below meth c H locs ls da X hD hP hS hl
  exact lv_astore X.1 X.2.1 d hl h rfl (fun ls' hl' => k p e s m as below meth c H locs ls' da X hD hP hS (jL_ins hl'))
theorem dr_astoren {j : Fin 4} {x : Nat} (h : j.val < mt.2.2.1) (d : decode mt.2.1 pc = .ok (.astore_n j, 1)) (k : DW g z mt (pc + 1) (jins j.val (.ref x) L) (r) σ c0 s0) : DW g z mt pc L (.ref x :: r) σ c0 s0 := by
  intro p e s m as below meth c H locs ls da X hD hP hS hl
  exact lv_astore_n X.1 X.2.1 d rfl hl h rfl (fun ls' hl' => k p e s m as below meth c H locs ls' da X hD hP hS (jL_ins hl'))
theorem dr_iinc {j : Nat} {z9 : Int} {x v : Int32} (hz : Int32.ofInt z9 = v) (h : jlk L j = some (.int x)) (hn : j < mt.2.2.1) (d : decode mt.2.1 pc = .ok (.iinc j z9, 3)) (k : DW g z mt (pc + 3) (jins j (.int (x + v)) L) (r) σ c0 s0) : DW g z mt pc L (r) σ c0 s0 := by
  intro p e s m as below meth c H locs ls da X hD hP hS hl
  obtain ⟨i, hi⟩ := jL_at (g := Dg g da) h
  exact lv_iinc X.1 X.2.1 d hl hi (by rw [hz]) hn rfl (fun ls' hl' => k p e s m as below meth c H locs ls' da X hD hP hS (jL_ins hl'))
theorem dr_iadd {x y : Int32} (d : decode mt.2.1 pc = .ok (.iadd, 1)) (k : DW g z mt (pc + 1) L (.int (x + y) :: r) σ c0 s0) : DW g z mt pc L (.int y :: .int x :: r) σ c0 s0 := by
  intro p e s m as below meth c H locs ls da X hD hP hS hl
  exact lv_iadd X.1 X.2.1 d (k p e s m as below meth c H locs ls da X hD hP hS hl)
theorem dr_isub {x y : Int32} (d : decode mt.2.1 pc = .ok (.isub, 1)) (k : DW g z mt (pc + 1) L (.int (x - y) :: r) σ c0 s0) : DW g z mt pc L (.int y :: .int x :: r) σ c0 s0 := by
  intro p e s m as below meth c H locs ls da X hD hP hS hl
  exact lv_isub X.1 X.2.1 d (k p e s m as below meth c H locs ls da X hD hP hS hl)
theorem dr_imul {x y : Int32} (d : decode mt.2.1 pc = .ok (.imul, 1)) (k : DW g z mt (pc + 1) L (.int (x * y) :: r) σ c0 s0) : DW g z mt pc L (.int y :: .int x :: r) σ c0 s0 := by
  intro p e s m as below meth c H locs ls da X hD hP hS hl
  exact lv_imul X.1 X.2.1 d (k p e s m as below meth c H locs ls da X hD hP hS hl)
theorem dr_iand {x y : Int32} (d : decode mt.2.1 pc = .ok (.iand, 1)) (k : DW g z mt (pc + 1) L (.int (x &&& y) :: r) σ c0 s0) : DW g z mt pc L (.int y :: .int x :: r) σ c0 s0 := by
  intro p e s m as below meth c H locs ls da X hD hP hS hl
  exact lv_iand X.1 X.2.1 d (k p e s m as below meth c H locs ls da X hD hP hS hl)
theorem dr_ior {x y : Int32} (d : decode mt.2.1 pc = .ok (.ior, 1)) (k : DW g z mt (pc + 1) L (.int (x ||| y) :: r) σ c0 s0) : DW g z mt pc L (.int y :: .int x :: r) σ c0 s0 := by
  intro p e s m as below meth c H locs ls da X hD hP hS hl
  exact lv_ior X.1 X.2.1 d (k p e s m as below meth c H locs ls da X hD hP hS hl)
theorem dr_ixor {x y : Int32} (d : decode mt.2.1 pc = .ok (.ixor, 1)) (k : DW g z mt (pc + 1) L (.int (x ^^^ y) :: r) σ c0 s0) : DW g z mt pc L (.int y :: .int x :: r) σ c0 s0 := by
  intro p e s m as below meth c H locs ls da X hD hP hS hl
  exact lv_ixor X.1 X.2.1 d (k p e s m as below meth c H locs ls da X hD hP hS hl)
theorem dr_ishl {x y : Int32} (d : decode mt.2.1 pc = .ok (.ishl, 1)) (k : DW g z mt (pc + 1) L (.int (x <<< (y &&& 31)) :: r) σ c0 s0) : DW g z mt pc L (.int y :: .int x :: r) σ c0 s0 := by
  intro p e s m as below meth c H locs ls da X hD hP hS hl
  exact lv_ishl X.1 X.2.1 d (k p e s m as below meth c H locs ls da X hD hP hS hl)
theorem dr_ishr {x y : Int32} (d : decode mt.2.1 pc = .ok (.ishr, 1)) (k : DW g z mt (pc + 1) L (.int (x >>> (y &&& 31)) :: r) σ c0 s0) : DW g z mt pc L (.int y :: .int x :: r) σ c0 s0 := by
  intro p e s m as below meth c H locs ls da X hD hP hS hl
  exact lv_ishr X.1 X.2.1 d (k p e s m as below meth c H locs ls da X hD hP hS hl)
theorem dr_iushr {x y : Int32} (d : decode mt.2.1 pc = .ok (.iushr, 1)) (k : DW g z mt (pc + 1) L (.int (x.toUInt32 >>> (y.toUInt32 &&& Int32.toUInt32 31)).toInt32 :: r) σ c0 s0) : DW g z mt pc L (.int y :: .int x :: r) σ c0 s0 := by
  intro p e s m as below meth c H locs ls da X hD hP hS hl
  exact lv_iushr X.1 X.2.1 d rfl (k p e s m as below meth c H locs ls da X hD hP hS hl)
theorem dr_idiv {x y : Int32} (h : ¬ y = 0) (d : decode mt.2.1 pc = .ok (.idiv, 1)) (k : DW g z mt (pc + 1) L (.int (x / y) :: r) σ c0 s0) : DW g z mt pc L (.int y :: .int x :: r) σ c0 s0 := by
  intro p e s m as below meth c H locs ls da X hD hP hS hl
  exact lv_idiv X.1 X.2.1 d h (k p e s m as below meth c H locs ls da X hD hP hS hl)
theorem dr_irem {x y : Int32} (h : ¬ y = 0) (d : decode mt.2.1 pc = .ok (.irem, 1)) (k : DW g z mt (pc + 1) L (.int (x - x / y * y) :: r) σ c0 s0) : DW g z mt pc L (.int y :: .int x :: r) σ c0 s0 := by
  intro p e s m as below meth c H locs ls da X hD hP hS hl
  exact lv_irem X.1 X.2.1 d h (k p e s m as below meth c H locs ls da X hD hP hS hl)
theorem dr_ineg {x : Int32} (d : decode mt.2.1 pc = .ok (.ineg, 1)) (k : DW g z mt (pc + 1) L (.int (-x) :: r) σ c0 s0) : DW g z mt pc L (.int x :: r) σ c0 s0 := by
  intro p e s m as below meth c H locs ls da X hD hP hS hl
  exact lv_ineg X.1 X.2.1 d (k p e s m as below meth c H locs ls da X hD hP hS hl)
theorem dr_i2l {x : Int32} (d : decode mt.2.1 pc = .ok (.i2l, 1)) (k : DW g z mt (pc + 1) L (.long x.toInt64 :: r) σ c0 s0) : DW g z mt pc L (.int x :: r) σ c0 s0 := by
  intro p e s m as below meth c H locs ls da X hD hP hS hl
  exact lv_i2l X.1 X.2.1 d rfl (k p e s m as below meth c H locs ls da X hD hP hS hl)
theorem dr_l2i {x : Int64} (d : decode mt.2.1 pc = .ok (.l2i, 1)) (k : DW g z mt (pc + 1) L (.int x.toInt32 :: r) σ c0 s0) : DW g z mt pc L (.long x :: r) σ c0 s0 := by
  intro p e s m as below meth c H locs ls da X hD hP hS hl
  exact lv_l2i X.1 X.2.1 d rfl (k p e s m as below meth c H locs ls da X hD hP hS hl)
theorem dr_i2b {x : Int32} (d : decode mt.2.1 pc = .ok (.i2b, 1)) (k : DW g z mt (pc + 1) L (.int x.toInt8.toInt32 :: r) σ c0 s0) : DW g z mt pc L (.int x :: r) σ c0 s0 := by
  intro p e s m as below meth c H locs ls da X hD hP hS hl
  exact lv_i2b X.1 X.2.1 d rfl (k p e s m as below meth c H locs ls da X hD hP hS hl)
theorem dr_i2c {x : Int32} (d : decode mt.2.1 pc = .ok (.i2c, 1)) (k : DW g z mt (pc + 1) L (.int (x.toUInt32 % 65536).toInt32 :: r) σ c0 s0) : DW g z mt pc L (.int x :: r) σ c0 s0 := by
  intro p e s m as below meth c H locs ls da X hD hP hS hl
  exact lv_i2c X.1 X.2.1 d rfl (k p e s m as below meth c H locs ls da X hD hP hS hl)
theorem dr_ladd {x y : Int64} (d : decode mt.2.1 pc = .ok (.ladd, 1)) (k : DW g z mt (pc + 1) L (.long (x + y) :: r) σ c0 s0) : DW g z mt pc L (.long y :: .long x :: r) σ c0 s0 := by
  intro p e s m as below meth c H locs ls da X hD hP hS hl
  exact lv_ladd X.1 X.2.1 d (k p e s m as below meth c H locs ls da X hD hP hS hl)
theorem dr_lmul {x y : Int64} (d : decode mt.2.1 pc = .ok (.lmul, 1)) (k : DW g z mt (pc + 1) L (.long (x * y) :: r) σ c0 s0) : DW g z mt pc L (.long y :: .long x :: r) σ c0 s0 := by
  intro p e s m as below meth c H locs ls da X hD hP hS hl
  exact lv_lmul X.1 X.2.1 d (k p e s m as below meth c H locs ls da X hD hP hS hl)
theorem dr_ldiv {x y : Int64} (h : ¬ y = 0) (d : decode mt.2.1 pc = .ok (.ldiv, 1)) (k : DW g z mt (pc + 1) L (.long (x / y) :: r) σ c0 s0) : DW g z mt pc L (.long y :: .long x :: r) σ c0 s0 := by
  intro p e s m as below meth c H locs ls da X hD hP hS hl
  exact lv_ldiv X.1 X.2.1 d h (k p e s m as below meth c H locs ls da X hD hP hS hl)
theorem dr_lrem {x y : Int64} (h : ¬ y = 0) (d : decode mt.2.1 pc = .ok (.lrem, 1)) (k : DW g z mt (pc + 1) L (.long (x - x / y * y) :: r) σ c0 s0) : DW g z mt pc L (.long y :: .long x :: r) σ c0 s0 := by
  intro p e s m as below meth c H locs ls da X hD hP hS hl
  exact lv_lrem X.1 X.2.1 d h (k p e s m as below meth c H locs ls da X hD hP hS hl)
theorem dr_lcmp {x y : Int64} (d : decode mt.2.1 pc = .ok (.lcmp, 1)) (k : DW g z mt (pc + 1) L (.int (lg_cmp x y) :: r) σ c0 s0) : DW g z mt pc L (.long y :: .long x :: r) σ c0 s0 := by
  intro p e s m as below meth c H locs ls da X hD hP hS hl
  exact W.lcmp X.1 X.2.1 d (k p e s m as below meth c H locs ls da X hD hP hS hl)
theorem dr_dup {v : Value} (h : v.category = 1) (d : decode mt.2.1 pc = .ok (.dup, 1)) (k : DW g z mt (pc + 1) L (v :: v :: r) σ c0 s0) : DW g z mt pc L (v :: r) σ c0 s0 := by
  intro p e s m as below meth c H locs ls da X hD hP hS hl
  exact lv_dup X.1 X.2.1 d (by rw [jrl_cat]; exact h) (k p e s m as below meth c H locs ls da X hD hP hS hl)
theorem dr_dup2 {v w : Value} (h : v.category = 1) (h2 : w.category = 1) (d : decode mt.2.1 pc = .ok (.dup2, 1)) (k : DW g z mt (pc + 1) L (v :: w :: v :: w :: r) σ c0 s0) : DW g z mt pc L (v :: w :: r) σ c0 s0 := by
  intro p e s m as below meth c H locs ls da X hD hP hS hl
  exact lv_dup2_11 X.1 X.2.1 d (by rw [jrl_cat]; exact h) (by rw [jrl_cat]; exact h2) (k p e s m as below meth c H locs ls da X hD hP hS hl)
theorem dr_pop {v : Value} (h : v.category = 1) (d : decode mt.2.1 pc = .ok (.pop, 1)) (k : DW g z mt (pc + 1) L (r) σ c0 s0) : DW g z mt pc L (v :: r) σ c0 s0 := by
  intro p e s m as below meth c H locs ls da X hD hP hS hl
  exact lv_pop X.1 X.2.1 d (by rw [jrl_cat]; exact h) (k p e s m as below meth c H locs ls da X hD hP hS hl)
theorem dr_if {cd : ClassFile.Cond} {o : Int} {tg : Nat} {x : Int32} (d : decode mt.2.1 pc = .ok (.ifCond cd o, 3)) (ht : (pc : Int) + o = (tg : Int)) (k : jcmp cd x 0 (DW g z mt tg L r σ c0 s0) (DW g z mt (pc + 3) L r σ c0 s0)) : DW g z mt pc L (.int x :: r) σ c0 s0 := by
  intro p e s m as below meth c H locs ls da X hD hP hS hl
  have A : ∀ {q : Nat}, DW g z mt q L r σ c0 s0 → W p g.1 e z.1 s m as below meth c H locs c0 s0 (z.2.1 below as s) (F0 m q ls (r.map (jrl (Dg g da)))) := fun k => k p e s m as below meth c H locs ls da X hD hP hS hl
  cases cd with
  | eq => exact lv_if_eq X.1 X.2.1 d ht (fun h => A (k.1 h)) (fun h => A (k.2 h))
  | ne => exact lv_if_ne X.1 X.2.1 d ht (fun h => A (k.1 h)) (fun h => A (k.2 h))
  | lt => exact lv_if_lt X.1 X.2.1 d ht (fun h => A (k.1 h)) (fun h => A (k.2 h))
  | ge => exact lv_if_ge X.1 X.2.1 d ht (fun h => A (k.1 (by first | exact h | exact Int32.not_lt.mpr h | simpa using h))) (fun h => A (k.2 (by first | exact h | exact Int32.not_le.mp h | simpa using h)))
  | gt => exact lv_if_gt X.1 X.2.1 d ht (fun h => A (k.1 (by first | exact h | exact Int32.not_le.mpr h | simpa using h))) (fun h => A (k.2 (by first | exact h | exact Int32.not_lt.mp h | simpa using h)))
  | le => exact lv_if_le X.1 X.2.1 d ht (fun h => A (k.1 h)) (fun h => A (k.2 h))
theorem dr_icmp {cd : ClassFile.Cond} {o : Int} {tg : Nat} {x y : Int32} (d : decode mt.2.1 pc = .ok (.if_icmp cd o, 3)) (ht : (pc : Int) + o = (tg : Int)) (k : jcmp cd x y (DW g z mt tg L r σ c0 s0) (DW g z mt (pc + 3) L r σ c0 s0)) : DW g z mt pc L (.int y :: .int x :: r) σ c0 s0 := by
  intro p e s m as below meth c H locs ls da X hD hP hS hl
  have A : ∀ {q : Nat}, DW g z mt q L r σ c0 s0 → W p g.1 e z.1 s m as below meth c H locs c0 s0 (z.2.1 below as s) (F0 m q ls (r.map (jrl (Dg g da)))) := fun k => k p e s m as below meth c H locs ls da X hD hP hS hl
  cases cd with
  | eq => exact lv_icmp_eq X.1 X.2.1 d ht (fun h => A (k.1 h)) (fun h => A (k.2 h))
  | ne => exact lv_icmp_ne X.1 X.2.1 d ht (fun h => A (k.1 h)) (fun h => A (k.2 h))
  | lt => exact lv_icmp_lt X.1 X.2.1 d ht (fun h => A (k.1 h)) (fun h => A (k.2 h))
  | ge => exact lv_icmp_ge X.1 X.2.1 d ht (fun h => A (k.1 (by first | exact h | exact Int32.not_lt.mpr h | simpa using h))) (fun h => A (k.2 (by first | exact h | exact Int32.not_le.mp h | simpa using h)))
  | gt => exact lv_icmp_gt X.1 X.2.1 d ht (fun h => A (k.1 (by first | exact h | exact Int32.not_le.mpr h | simpa using h))) (fun h => A (k.2 (by first | exact h | exact Int32.not_lt.mp h | simpa using h)))
  | le => exact lv_icmp_le X.1 X.2.1 d ht (fun h => A (k.1 h)) (fun h => A (k.2 h))
theorem dr_goto {o : Int} {tg : Nat} (d : decode mt.2.1 pc = .ok (.goto o, 3)) (ht : (pc : Int) + o = (tg : Int)) (k : DW g z mt tg L r σ c0 s0) : DW g z mt pc L r σ c0 s0 := by
  intro p e s m as below meth c H locs ls da X hD hP hS hl
  exact lv_goto X.1 X.2.1 d ht (k p e s m as below meth c H locs ls da X hD hP hS hl)
theorem dr_ifnonnull {o : Int} {tg a : Nat} (d : decode mt.2.1 pc = .ok (.ifnonnull o, 3)) (ht : (pc : Int) + o = (tg : Int)) (k : DW g z mt tg L r σ c0 s0) : DW g z mt pc L (.ref a :: r) σ c0 s0 := by
  intro p e s m as below meth c H locs ls da X hD hP hS hl
  exact lv_ifnonnull X.1 X.2.1 d ht (k p e s m as below meth c H locs ls da X hD hP hS hl)
theorem dr_ifnull {o : Int} {a : Nat} (d : decode mt.2.1 pc = .ok (.ifnull o, 3)) (k : DW g z mt (pc + 3) L r σ c0 s0) : DW g z mt pc L (.ref a :: r) σ c0 s0 := by
  intro p e s m as below meth c H locs ls da X hD hP hS hl
  exact lv_ifnull X.1 X.2.1 d (k p e s m as below meth c H locs ls da X hD hP hS hl)
end DJ
