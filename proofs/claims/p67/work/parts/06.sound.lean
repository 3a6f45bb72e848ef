/-! jst_ok: what jst computes is right, instruction by instruction -/
section JS
variable {g : jG} {mt : jMt} {n : Nat} {post : Option Value → jM → Prop} {pc : Nat} {L : List (Nat × Value)} {r : List Value} {σ : jM}
theorem jr_iconst {z : Int} {v : Int32} (hv : Int32.ofInt z = v) (d : decode mt.2.1 pc = .ok (.iconst z, 1)) (k : jW g mt n post (pc + 1) L (.int v :: r) σ) : jW g mt n post pc L (r) σ := by
  intro p e s m as below meth c H locs ls X hP hS hl
  exact lv_iconst X.1 X.2.1 d hv (k p e s m as below meth c H locs ls X hP hS hl)
theorem jr_bipush {z : Int} {v : Int32} (hv : (Int8.ofInt z).toInt32 = v) (d : decode mt.2.1 pc = .ok (.bipush z, 2)) (k : jW g mt n post (pc + 2) L (.int v :: r) σ) : jW g mt n post pc L (r) σ := by
  intro p e s m as below meth c H locs ls X hP hS hl
  exact lv_bipush X.1 X.2.1 d hv (k p e s m as below meth c H locs ls X hP hS hl)
theorem jr_sipush {z : Int} {v : Int32} (hv : (Int16.ofInt z).toInt32 = v) (d : decode mt.2.1 pc = .ok (.sipush z, 3)) (k : jW g mt n post (pc + 3) L (.int v :: r) σ) : jW g mt n post pc L (r) σ := by
  intro p e s m as below meth c H locs ls X hP hS hl
  exact lv_sipush X.1 X.2.1 d hv (k p e s m as below meth c H locs ls X hP hS hl)
theorem jr_lconst {z : Fin 2} {v : Int64} (hv : Int64.ofNat (z : Nat) = v) (d : decode mt.2.1 pc = .ok (.lconst z, 1)) (k : jW g mt n post (pc + 1) L (.long v :: r) σ) : jW g mt n post pc L (r) σ := by
  intro p e s m as below meth c H locs ls X hP hS hl
  exact lv_lconst X.1 X.2.1 d hv (k p e s m as below meth c H locs ls X hP hS hl)
theorem jr_ldc {j : Nat} {v : Int32} (hv : Cond.constant mt.1.cls j v ∈ jGw) (d : decode mt.2.1 pc = .ok (.ldc j, 2)) (k : jW g mt n post (pc + 2) L (.int v :: r) σ) : jW g mt n post pc L (r) σ := by
  intro p e s m as below meth c H locs ls X hP hS hl
  exact lv_ldc X.1 X.2.1 X.2.2.2.2.2.1 (X.2.2.2.2.2.2.1 _ (List.mem_cons_of_mem _ hv)) d (k p e s m as below meth c H locs ls X hP hS hl)
theorem jr_ldcw {j : Nat} {v : Int32} (hv : Cond.constant mt.1.cls j v ∈ jGw) (d : decode mt.2.1 pc = .ok (.ldc_w j, 3)) (k : jW g mt n post (pc + 3) L (.int v :: r) σ) : jW g mt n post pc L (r) σ := by
  intro p e s m as below meth c H locs ls X hP hS hl
  exact lv_ldcw X.1 X.2.1 X.2.2.2.2.2.1 (X.2.2.2.2.2.2.1 _ (List.mem_cons_of_mem _ hv)) d (k p e s m as below meth c H locs ls X hP hS hl)
theorem jr_ldc2 {j : Nat} {v : Int64} (hv : Cond.constantLong mt.1.cls j v ∈ jGw) (d : decode mt.2.1 pc = .ok (.ldc2_w j, 3)) (k : jW g mt n post (pc + 3) L (.long v :: r) σ) : jW g mt n post pc L (r) σ := by
  intro p e s m as below meth c H locs ls X hP hS hl
  exact lv_ldc2 X.1 X.2.1 X.2.2.2.2.2.1 (X.2.2.2.2.2.2.1 _ (List.mem_cons_of_mem _ hv)) d (k p e s m as below meth c H locs ls X hP hS hl)
theorem jr_iload {j : Nat} {x : Int32} (h : jlk L j = some (.int x)) (d : decode mt.2.1 pc = .ok (.iload j, 2)) (k : jW g mt n post (pc + 2) L (.int x :: r) σ) : jW g mt n post pc L (r) σ := by
  intro p e s m as below meth c H locs ls X hP hS hl
  exact lv_iload X.1 X.2.1 d (jL_lk hl h) (k p e s m as below meth c H locs ls X hP hS hl)
theorem jr_iloadn {j : Fin 4} {x : Int32} (h : jlk L j.val = some (.int x)) (d : decode mt.2.1 pc = .ok (.iload_n j, 1)) (k : jW g mt n post (pc + 1) L (.int x :: r) σ) : jW g mt n post pc L (r) σ := by
  intro p e s m as below meth c H locs ls X hP hS hl
  exact lv_iload_n X.1 X.2.1 d rfl (jL_lk hl h) (k p e s m as below meth c H locs ls X hP hS hl)
theorem jr_istore {j : Nat} {x : Int32} (h : j < mt.2.2.1) (d : decode mt.2.1 pc = .ok (.istore j, 2)) (k : jW g mt n post (pc + 2) (jins j (.int x) L) (r) σ) : jW g mt n post pc L (.int x :: r) σ := by
  intro p e s m as below meth c H locs ls X hP hS hl
  exact lv_istore X.1 X.2.1 d hl h rfl (fun ls' hl' => k p e s m as below meth c H locs ls' X hP hS (jL_ins hl'))
theorem jr_istoren {j : Fin 4} {x : Int32} (h : j.val < mt.2.2.1) (d : decode mt.2.1 pc = .ok (.istore_n j, 1)) (k : jW g mt n post (pc + 1) (jins j.val (.int x) L) (r) σ) : jW g mt n post pc L (.int x :: r) σ := by
  intro p e s m as below meth c H locs ls X hP hS hl
  exact lv_istore_n X.1 X.2.1 d rfl hl h rfl (fun ls' hl' => k p e s m as below meth c H locs ls' X hP hS (jL_ins hl'))
theorem jr_lload {j : Nat} {x : Int64} (h : jlk L j = some (.long x)) (d : decode mt.2.1 pc = .ok (.lload j, 2)) (k : jW g mt n post (pc + 2) L (.long x :: r) σ) : jW g mt n post pc L (r) σ := by
  intro p e s m as below meth c H locs ls X hP hS hl
  exact lv_lload X.1 X.2.1 d (jL_lk hl h) (k p e s m as below meth c H locs ls X hP hS hl)
theorem jr_lloadn {j : Fin 4} {x : Int64} (h : jlk L j.val = some (.long x)) (d : decode mt.2.1 pc = .ok (.lload_n j, 1)) (k : jW g mt n post (pc + 1) L (.long x :: r) σ) : jW g mt n post pc L (r) σ := by
  intro p e s m as below meth c H locs ls X hP hS hl
  exact lv_lload_n X.1 X.2.1 d rfl (jL_lk hl h) (k p e s m as below meth c H locs ls X hP hS hl)
theorem jr_lstore {j : Nat} {x : Int64} (h : j + 1 < mt.2.2.1) (d : decode mt.2.1 pc = .ok (.lstore j, 2)) (k : jW g mt n post (pc + 2) (jins2 j (.long x) L) (r) σ) : jW g mt n post pc L (.long x :: r) σ := by
  intro p e s m as below meth c H locs ls X hP hS hl
  exact lv_lstore X.1 X.2.1 d hl h rfl (fun ls' hl' => k p e s m as below meth c H locs ls' X hP hS (jL_ins2 hl'))
theorem jr_lstoren {j : Fin 4} {x : Int64} (h : j.val + 1 < mt.2.2.1) (d : decode mt.2.1 pc = .ok (.lstore_n j, 1)) (k : jW g mt n post (pc + 1) (jins2 j.val (.long x) L) (r) σ) : jW g mt n post pc L (.long x :: r) σ := by
  intro p e s m as below meth c H locs ls X hP hS hl
  exact lv_lstore_n X.1 X.2.1 d rfl hl h rfl (fun ls' hl' => k p e s m as below meth c H locs ls' X hP hS (jL_ins2 hl'))
theorem jr_aload {j : Nat} {x : Nat} (h : jlk L j = some (.ref x)) (d : decode mt.2.1 pc = .ok (.aload j, 2)) (k : jW g mt n post (pc + 2) L (.ref x :: r) σ) : jW g mt n post pc L (r) σ := by
  intro p e s m as below meth c H locs ls X hP hS hl
  exact lv_aload X.1 X.2.1 d (jL_lk hl h) (k p e s m as below meth c H locs ls X hP hS hl)
theorem jr_aloadn {j : Fin 4} {x : Nat} (h : jlk L j.val = some (.ref x)) (d : decode mt.2.1 pc = .ok (.aload_n j, 1)) (k : jW g mt n post (pc + 1) L (.ref x :: r) σ) : jW g mt n post pc L (r) σ := by
  intro p e s m as below meth c H locs ls X hP hS hl
  exact lv_aload_n X.1 X.2.1 d rfl (jL_lk hl h) (k p e s m as below meth c H locs ls X hP hS hl)
theorem jr_astore {j : Nat} {x : Nat} (h : j < mt.2.2.1) (d : decode mt.2.1 pc = .ok (.astore j, 2)) (k : jW g mt n post (pc + 2) (jins j (.ref x) L) (r) σ) : jW g mt n post pc L (.ref x :: r) σ := by
  intro p e s m as below meth c H locs ls X hP hS hl
  exact lv_astore X.1 X.2.1 d hl h rfl (fun ls' hl' => k p e s m as below meth c H locs ls' X hP hS (jL_ins hl'))
theorem jr_astoren {j : Fin 4} {x : Nat} (h : j.val < mt.2.2.1) (d : decode mt.2.1 pc = .ok (.astore_n j, 1)) (k : jW g mt n post (pc + 1) (jins j.val (.ref x) L) (r) σ) : jW g mt n post pc L (.ref x :: r) σ := by
  intro p e s m as below meth c H locs ls X hP hS hl
  exact lv_astore_n X.1 X.2.1 d rfl hl h rfl (fun ls' hl' => k p e s m as below meth c H locs ls' X hP hS (jL_ins hl'))
theorem jL_at {g : jG} {L : List (Nat × Value)} {i : Nat} {v : Value} (h : jlk L i = some v) : ∃ k : Nat, (jL g L)[k]? = some (i, jrl g v) := by
  obtain ⟨k, hk⟩ := List.getElem?_of_mem (List.mem_map.mpr ⟨(i, v), jlk_mem h, rfl⟩ : (i, jrl g v) ∈ jL g L)
  exact ⟨k, hk⟩
theorem jr_iinc {j : Nat} {z : Int} {x v : Int32} (hz : Int32.ofInt z = v) (h : jlk L j = some (.int x)) (hn : j < mt.2.2.1) (d : decode mt.2.1 pc = .ok (.iinc j z, 3)) (k : jW g mt n post (pc + 3) (jins j (.int (x + v)) L) (r) σ) : jW g mt n post pc L (r) σ := by
  intro p e s m as below meth c H locs ls X hP hS hl
  obtain ⟨i, hi⟩ := jL_at (g := g) h
  exact lv_iinc X.1 X.2.1 d hl hi (by rw [hz]) hn rfl (fun ls' hl' => k p e s m as below meth c H locs ls' X hP hS (jL_ins hl'))
theorem jr_iadd {x y : Int32} (d : decode mt.2.1 pc = .ok (.iadd, 1)) (k : jW g mt n post (pc + 1) L (.int (x + y) :: r) σ) : jW g mt n post pc L (.int y :: .int x :: r) σ := by
  intro p e s m as below meth c H locs ls X hP hS hl
  exact lv_iadd X.1 X.2.1 d (k p e s m as below meth c H locs ls X hP hS hl)
theorem jr_isub {x y : Int32} (d : decode mt.2.1 pc = .ok (.isub, 1)) (k : jW g mt n post (pc + 1) L (.int (x - y) :: r) σ) : jW g mt n post pc L (.int y :: .int x :: r) σ := by
  intro p e s m as below meth c H locs ls X hP hS hl
  exact lv_isub X.1 X.2.1 d (k p e s m as below meth c H locs ls X hP hS hl)
theorem jr_imul {x y : Int32} (d : decode mt.2.1 pc = .ok (.imul, 1)) (k : jW g mt n post (pc + 1) L (.int (x * y) :: r) σ) : jW g mt n post pc L (.int y :: .int x :: r) σ := by
  intro p e s m as below meth c H locs ls X hP hS hl
  exact lv_imul X.1 X.2.1 d (k p e s m as below meth c H locs ls X hP hS hl)
theorem jr_iand {x y : Int32} (d : decode mt.2.1 pc = .ok (.iand, 1)) (k : jW g mt n post (pc + 1) L (.int (x &&& y) :: r) σ) : jW g mt n post pc L (.int y :: .int x :: r) σ := by
  intro p e s m as below meth c H locs ls X hP hS hl
  exact lv_iand X.1 X.2.1 d (k p e s m as below meth c H locs ls X hP hS hl)
theorem jr_ior {x y : Int32} (d : decode mt.2.1 pc = .ok (.ior, 1)) (k : jW g mt n post (pc + 1) L (.int (x ||| y) :: r) σ) : jW g mt n post pc L (.int y :: .int x :: r) σ := by
  intro p e s m as below meth c H locs ls X hP hS hl
  exact lv_ior X.1 X.2.1 d (k p e s m as below meth c H locs ls X hP hS hl)
theorem jr_ixor {x y : Int32} (d : decode mt.2.1 pc = .ok (.ixor, 1)) (k : jW g mt n post (pc + 1) L (.int (x ^^^ y) :: r) σ) : jW g mt n post pc L (.int y :: .int x :: r) σ := by
  intro p e s m as below meth c H locs ls X hP hS hl
  exact lv_ixor X.1 X.2.1 d (k p e s m as below meth c H locs ls X hP hS hl)
theorem jr_ishl {x y : Int32} (d : decode mt.2.1 pc = .ok (.ishl, 1)) (k : jW g mt n post (pc + 1) L (.int (x <<< (y &&& 31)) :: r) σ) : jW g mt n post pc L (.int y :: .int x :: r) σ := by
  intro p e s m as below meth c H locs ls X hP hS hl
  exact lv_ishl X.1 X.2.1 d (k p e s m as below meth c H locs ls X hP hS hl)
theorem jr_ishr {x y : Int32} (d : decode mt.2.1 pc = .ok (.ishr, 1)) (k : jW g mt n post (pc + 1) L (.int (x >>> (y &&& 31)) :: r) σ) : jW g mt n post pc L (.int y :: .int x :: r) σ := by
  intro p e s m as below meth c H locs ls X hP hS hl
  exact lv_ishr X.1 X.2.1 d (k p e s m as below meth c H locs ls X hP hS hl)
theorem jr_iushr {x y : Int32} (d : decode mt.2.1 pc = .ok (.iushr, 1)) (k : jW g mt n post (pc + 1) L (.int (x.toUInt32 >>> (y.toUInt32 &&& Int32.toUInt32 31)).toInt32 :: r) σ) : jW g mt n post pc L (.int y :: .int x :: r) σ := by
  intro p e s m as below meth c H locs ls X hP hS hl
  exact lv_iushr X.1 X.2.1 d rfl (k p e s m as below meth c H locs ls X hP hS hl)
theorem jr_idiv {x y : Int32} (h : ¬ y = 0) (d : decode mt.2.1 pc = .ok (.idiv, 1)) (k : jW g mt n post (pc + 1) L (.int (x / y) :: r) σ) : jW g mt n post pc L (.int y :: .int x :: r) σ := by
  intro p e s m as below meth c H locs ls X hP hS hl
  exact lv_idiv X.1 X.2.1 d h (k p e s m as below meth c H locs ls X hP hS hl)
theorem jr_irem {x y : Int32} (h : ¬ y = 0) (d : decode mt.2.1 pc = .ok (.irem, 1)) (k : jW g mt n post (pc + 1) L (.int (x - x / y * y) :: r) σ) : jW g mt n post pc L (.int y :: .int x :: r) σ := by
  intro p e s m as below meth c H locs ls X hP hS hl
  exact lv_irem X.1 X.2.1 d h (k p e s m as below meth c H locs ls X hP hS hl)
theorem jr_ineg {x : Int32} (d : decode mt.2.1 pc = .ok (.ineg, 1)) (k : jW g mt n post (pc + 1) L (.int (-x) :: r) σ) : jW g mt n post pc L (.int x :: r) σ := by
  intro p e s m as below meth c H locs ls X hP hS hl
  exact lv_ineg X.1 X.2.1 d (k p e s m as below meth c H locs ls X hP hS hl)
theorem jr_i2l {x : Int32} (d : decode mt.2.1 pc = .ok (.i2l, 1)) (k : jW g mt n post (pc + 1) L (.long x.toInt64 :: r) σ) : jW g mt n post pc L (.int x :: r) σ := by
  intro p e s m as below meth c H locs ls X hP hS hl
  exact lv_i2l X.1 X.2.1 d rfl (k p e s m as below meth c H locs ls X hP hS hl)
theorem jr_l2i {x : Int64} (d : decode mt.2.1 pc = .ok (.l2i, 1)) (k : jW g mt n post (pc + 1) L (.int x.toInt32 :: r) σ) : jW g mt n post pc L (.long x :: r) σ := by
  intro p e s m as below meth c H locs ls X hP hS hl
  exact lv_l2i X.1 X.2.1 d rfl (k p e s m as below meth c H locs ls X hP hS hl)
theorem jr_i2b {x : Int32} (d : decode mt.2.1 pc = .ok (.i2b, 1)) (k : jW g mt n post (pc + 1) L (.int x.toInt8.toInt32 :: r) σ) : jW g mt n post pc L (.int x :: r) σ := by
  intro p e s m as below meth c H locs ls X hP hS hl
  exact lv_i2b X.1 X.2.1 d rfl (k p e s m as below meth c H locs ls X hP hS hl)
theorem jr_i2c {x : Int32} (d : decode mt.2.1 pc = .ok (.i2c, 1)) (k : jW g mt n post (pc + 1) L (.int (x.toUInt32 % 65536).toInt32 :: r) σ) : jW g mt n post pc L (.int x :: r) σ := by
  intro p e s m as below meth c H locs ls X hP hS hl
  exact lv_i2c X.1 X.2.1 d rfl (k p e s m as below meth c H locs ls X hP hS hl)
theorem jr_i2d {x : Int32} (d : decode mt.2.1 pc = .ok (.i2d, 1)) (k : jW g mt n post (pc + 1) L (.double (FP.i2d x) :: r) σ) : jW g mt n post pc L (.int x :: r) σ := by
  intro p e s m as below meth c H locs ls X hP hS hl
  exact lv_i2d X.1 X.2.1 d (k p e s m as below meth c H locs ls X hP hS hl)
theorem jr_ddiv {x y : UInt64} (h : vf_n64 (FP.ddiv x y)) (d : decode mt.2.1 pc = .ok (.ddiv, 1)) (k : jW g mt n post (pc + 1) L (.double (FP.ddiv x y) :: r) σ) : jW g mt n post pc L (.double y :: .double x :: r) σ := by
  intro p e s m as below meth c H locs ls X hP hS hl
  exact lv_ddiv X.1 X.2.1 d h (k p e s m as below meth c H locs ls X hP hS hl)
theorem jr_dconst0  (d : decode mt.2.1 pc = .ok (.dconst 0, 1)) (k : jW g mt n post (pc + 1) L (.double FP.dconst0 :: r) σ) : jW g mt n post pc L (r) σ := by
  intro p e s m as below meth c H locs ls X hP hS hl
  exact lv_dconst0 X.1 X.2.1 d (k p e s m as below meth c H locs ls X hP hS hl)
theorem jr_ladd {x y : Int64} (d : decode mt.2.1 pc = .ok (.ladd, 1)) (k : jW g mt n post (pc + 1) L (.long (x + y) :: r) σ) : jW g mt n post pc L (.long y :: .long x :: r) σ := by
  intro p e s m as below meth c H locs ls X hP hS hl
  exact lv_ladd X.1 X.2.1 d (k p e s m as below meth c H locs ls X hP hS hl)
theorem jr_lmul {x y : Int64} (d : decode mt.2.1 pc = .ok (.lmul, 1)) (k : jW g mt n post (pc + 1) L (.long (x * y) :: r) σ) : jW g mt n post pc L (.long y :: .long x :: r) σ := by
  intro p e s m as below meth c H locs ls X hP hS hl
  exact lv_lmul X.1 X.2.1 d (k p e s m as below meth c H locs ls X hP hS hl)
theorem jr_ldiv {x y : Int64} (h : ¬ y = 0) (d : decode mt.2.1 pc = .ok (.ldiv, 1)) (k : jW g mt n post (pc + 1) L (.long (x / y) :: r) σ) : jW g mt n post pc L (.long y :: .long x :: r) σ := by
  intro p e s m as below meth c H locs ls X hP hS hl
  exact lv_ldiv X.1 X.2.1 d h (k p e s m as below meth c H locs ls X hP hS hl)
theorem jr_lrem {x y : Int64} (h : ¬ y = 0) (d : decode mt.2.1 pc = .ok (.lrem, 1)) (k : jW g mt n post (pc + 1) L (.long (x - x / y * y) :: r) σ) : jW g mt n post pc L (.long y :: .long x :: r) σ := by
  intro p e s m as below meth c H locs ls X hP hS hl
  exact lv_lrem X.1 X.2.1 d h (k p e s m as below meth c H locs ls X hP hS hl)
theorem jr_lcmp {x y : Int64} (d : decode mt.2.1 pc = .ok (.lcmp, 1)) (k : jW g mt n post (pc + 1) L (.int (lg_cmp x y) :: r) σ) : jW g mt n post pc L (.long y :: .long x :: r) σ := by
  intro p e s m as below meth c H locs ls X hP hS hl
  exact W.lcmp X.1 X.2.1 d (k p e s m as below meth c H locs ls X hP hS hl)
theorem jr_dup {v : Value} (h : v.category = 1) (d : decode mt.2.1 pc = .ok (.dup, 1)) (k : jW g mt n post (pc + 1) L (v :: v :: r) σ) : jW g mt n post pc L (v :: r) σ := by
  intro p e s m as below meth c H locs ls X hP hS hl
  exact lv_dup X.1 X.2.1 d (by rw [jrl_cat]; exact h) (k p e s m as below meth c H locs ls X hP hS hl)
theorem jr_dup2 {v w : Value} (h : v.category = 1) (h2 : w.category = 1) (d : decode mt.2.1 pc = .ok (.dup2, 1)) (k : jW g mt n post (pc + 1) L (v :: w :: v :: w :: r) σ) : jW g mt n post pc L (v :: w :: r) σ := by
  intro p e s m as below meth c H locs ls X hP hS hl
  exact lv_dup2_11 X.1 X.2.1 d (by rw [jrl_cat]; exact h) (by rw [jrl_cat]; exact h2) (k p e s m as below meth c H locs ls X hP hS hl)
theorem jr_pop {v : Value} (h : v.category = 1) (d : decode mt.2.1 pc = .ok (.pop, 1)) (k : jW g mt n post (pc + 1) L (r) σ) : jW g mt n post pc L (v :: r) σ := by
  intro p e s m as below meth c H locs ls X hP hS hl
  exact lv_pop X.1 X.2.1 d (by rw [jrl_cat]; exact h) (k p e s m as below meth c H locs ls X hP hS hl)
theorem jr_if {cd : ClassFile.Cond} {o : Int} {tg : Nat} {x : Int32} (d : decode mt.2.1 pc = .ok (.ifCond cd o, 3)) (ht : (pc : Int) + o = (tg : Int)) (k : jcmp cd x 0 (jW g mt n post tg L r σ) (jW g mt n post (pc + 3) L r σ)) : jW g mt n post pc L (.int x :: r) σ := by
  intro p e s m as below meth c H locs ls X hP hS hl
  have A : ∀ {q : Nat}, jW g mt n post q L r σ → W p g.1 e (jrm n) s m as below meth c H locs 0 0 (MQ below (jQ g post) as s 0 0 (jA g)) (F0 m q ls (r.map (jrl g))) := fun k => k p e s m as below meth c H locs ls X hP hS hl
  cases cd with
  | eq => exact lv_if_eq X.1 X.2.1 d ht (fun h => A (k.1 h)) (fun h => A (k.2 h))
  | ne => exact lv_if_ne X.1 X.2.1 d ht (fun h => A (k.1 h)) (fun h => A (k.2 h))
  | lt => exact lv_if_lt X.1 X.2.1 d ht (fun h => A (k.1 h)) (fun h => A (k.2 h))
  | ge => exact lv_if_ge X.1 X.2.1 d ht (fun h => A (k.1 (by first | exact h | exact Int32.not_lt.mpr h | simpa using h))) (fun h => A (k.2 (by first | exact h | exact Int32.not_le.mp h | simpa using h)))
  | gt => exact lv_if_gt X.1 X.2.1 d ht (fun h => A (k.1 (by first | exact h | exact Int32.not_le.mpr h | simpa using h))) (fun h => A (k.2 (by first | exact h | exact Int32.not_lt.mp h | simpa using h)))
  | le => exact lv_if_le X.1 X.2.1 d ht (fun h => A (k.1 h)) (fun h => A (k.2 h))
theorem jr_icmp {cd : ClassFile.Cond} {o : Int} {tg : Nat} {x y : Int32} (d : decode mt.2.1 pc = .ok (.if_icmp cd o, 3)) (ht : (pc : Int) + o = (tg : Int)) (k : jcmp cd x y (jW g mt n post tg L r σ) (jW g mt n post (pc + 3) L r σ)) : jW g mt n post pc L (.int y :: .int x :: r) σ := by
  intro p e s m as below meth c H locs ls X hP hS hl
  have A : ∀ {q : Nat}, jW g mt n post q L r σ → W p g.1 e (jrm n) s m as below meth c H locs 0 0 (MQ below (jQ g post) as s 0 0 (jA g)) (F0 m q ls (r.map (jrl g))) := fun k => k p e s m as below meth c H locs ls X hP hS hl
  cases cd with
  | eq => exact lv_icmp_eq X.1 X.2.1 d ht (fun h => A (k.1 h)) (fun h => A (k.2 h))
  | ne => exact lv_icmp_ne X.1 X.2.1 d ht (fun h => A (k.1 h)) (fun h => A (k.2 h))
  | lt => exact lv_icmp_lt X.1 X.2.1 d ht (fun h => A (k.1 h)) (fun h => A (k.2 h))
  | ge => exact lv_icmp_ge X.1 X.2.1 d ht (fun h => A (k.1 (by first | exact h | exact Int32.not_lt.mpr h | simpa using h))) (fun h => A (k.2 (by first | exact h | exact Int32.not_le.mp h | simpa using h)))
  | gt => exact lv_icmp_gt X.1 X.2.1 d ht (fun h => A (k.1 (by first | exact h | exact Int32.not_le.mpr h | simpa using h))) (fun h => A (k.2 (by first | exact h | exact Int32.not_lt.mp h | simpa using h)))
  | le => exact lv_icmp_le X.1 X.2.1 d ht (fun h => A (k.1 h)) (fun h => A (k.2 h))
theorem jr_goto {o : Int} {tg : Nat} (d : decode mt.2.1 pc = .ok (.goto o, 3)) (ht : (pc : Int) + o = (tg : Int)) (k : jW g mt n post tg L r σ) : jW g mt n post pc L r σ := by
  intro p e s m as below meth c H locs ls X hP hS hl
  exact lv_goto X.1 X.2.1 d ht (k p e s m as below meth c H locs ls X hP hS hl)
theorem jr_ifnonnull {o : Int} {tg a : Nat} (d : decode mt.2.1 pc = .ok (.ifnonnull o, 3)) (ht : (pc : Int) + o = (tg : Int)) (k : jW g mt n post tg L r σ) : jW g mt n post pc L (.ref a :: r) σ := by
  intro p e s m as below meth c H locs ls X hP hS hl
  exact lv_ifnonnull X.1 X.2.1 d ht (k p e s m as below meth c H locs ls X hP hS hl)
theorem jr_ifnull {o : Int} {a : Nat} (d : decode mt.2.1 pc = .ok (.ifnull o, 3)) (k : jW g mt n post (pc + 3) L r σ) : jW g mt n post pc L (.ref a :: r) σ := by
  intro p e s m as below meth c H locs ls X hP hS hl
  exact lv_ifnull X.1 X.2.1 d (k p e s m as below meth c H locs ls X hP hS hl)
theorem jr_iald {a : Nat} {j : Int32} (ha : jarr a 1 0 = true) (hj : jin j (jlen a)) (d : decode mt.2.1 pc = .ok (.iaload, 1)) (k : jW g mt n post (pc + 1) L (.int (σ.1 a j.toNatClampNeg) :: r) σ) : jW g mt n post pc L (.int j :: .ref a :: r) σ := by
  intro p e s m as below meth c H locs ls X hP hS hl
  obtain ⟨h1, h2, h3⟩ := jarr_spec ha
  have hg := jws_get g σ h1
  rw [jcell_1 h2, h3] at hg
  exact va_iald X.1 X.2.1 X.2.2.2.2.2.2.2.2.1 hP a 0 hg (jtys_get g (by decide)) (jin_vp hj) d (k p e s m as below meth c H locs ls X hP hS hl)
theorem jr_bald {a : Nat} {j : Int32} (ha : jarr a 1 1 = true) (hj : jin j (jlen a)) (d : decode mt.2.1 pc = .ok (.baload, 1)) (k : jW g mt n post (pc + 1) L (.int (σ.1 a j.toNatClampNeg) :: r) σ) : jW g mt n post pc L (.int j :: .ref a :: r) σ := by
  intro p e s m as below meth c H locs ls X hP hS hl
  obtain ⟨h1, h2, h3⟩ := jarr_spec ha
  have hg := jws_get g σ h1
  rw [jcell_1 h2, h3] at hg
  exact va_bald X.1 X.2.1 X.2.2.2.2.2.2.2.2.1 hP a 1 hg (jtys_get g (by decide)) (jin_vp hj) d (k p e s m as below meth c H locs ls X hP hS hl)
theorem jr_zald {a : Nat} {j : Int32} (ha : jarr a 1 3 = true) (hj : jin j (jlen a)) (d : decode mt.2.1 pc = .ok (.baload, 1)) (k : jW g mt n post (pc + 1) L (.int (σ.1 a j.toNatClampNeg) :: r) σ) : jW g mt n post pc L (.int j :: .ref a :: r) σ := by
  intro p e s m as below meth c H locs ls X hP hS hl
  obtain ⟨h1, h2, h3⟩ := jarr_spec ha
  have hg := jws_get g σ h1
  rw [jcell_1 h2, h3] at hg
  exact va_zald X.1 X.2.1 X.2.2.2.2.2.2.2.2.1 hP a 3 hg (jtys_get g (by decide)) (jin_vp hj) d (k p e s m as below meth c H locs ls X hP hS hl)
theorem jr_cald {a : Nat} {j : Int32} (ha : jarr a 1 2 = true) (hj : jin j (jlen a)) (d : decode mt.2.1 pc = .ok (.caload, 1)) (k : jW g mt n post (pc + 1) L (.int (σ.1 a j.toNatClampNeg) :: r) σ) : jW g mt n post pc L (.int j :: .ref a :: r) σ := by
  intro p e s m as below meth c H locs ls X hP hS hl
  obtain ⟨h1, h2, h3⟩ := jarr_spec ha
  have hg := jws_get g σ h1
  rw [jcell_1 h2, h3] at hg
  exact va_cald X.1 X.2.1 X.2.2.2.2.2.2.2.2.1 hP a 2 hg (jtys_get g (by decide)) (jin_vp hj) d (k p e s m as below meth c H locs ls X hP hS hl)
theorem jr_lald {a : Nat} {j : Int32} (ha : jarr a 2 4 = true) (hj : jin j (jlen a)) (d : decode mt.2.1 pc = .ok (.laload, 1)) (k : jW g mt n post (pc + 1) L (.long (σ.2.1 a j.toNatClampNeg) :: r) σ) : jW g mt n post pc L (.int j :: .ref a :: r) σ := by
  intro p e s m as below meth c H locs ls X hP hS hl
  obtain ⟨h1, h2, h3⟩ := jarr_spec ha
  have hg := jws_get g σ h1
  rw [jcell_2 h2, h3] at hg
  exact va_lald X.1 X.2.1 X.2.2.2.2.2.2.2.2.1 hP a 4 hg (jtys_get g (by decide)) (jin_vp hj) d (k p e s m as below meth c H locs ls X hP hS hl)
theorem jr_iast {a : Nat} {j : Int32} {x : Int32} (ha : jarr a 1 0 = true) (hj : jin j (jlen a)) (d : decode mt.2.1 pc = .ok (.iastore, 1)) (k : jW g mt n post (pc + 1) L r (jup σ a j.toNatClampNeg x)) : jW g mt n post pc L (.int x :: .int j :: .ref a :: r) σ := by
  intro p e s m as below meth c H locs ls X hP hS hl
  obtain ⟨h1, h2, h3⟩ := jarr_spec ha
  have hg := jws_get g σ h1
  rw [jcell_1 h2, h3] at hg
  refine va_iast X.1 X.2.1 X.2.2.2.2.2.2.2.2.1 hP (jD g X.2.2.2.2.2.2.2.1 σ) hS a 0 hg (jtys_get g (by decide)) (jin_vp hj) d (fun H1 locs1 hP1 hD1 hS1 => ?_)
  have e1 : (jws g σ).set a (jad g a, .inl (jta g 0, (jshp a).2.2.1, .inl (upd (σ.1 a) j.toNatClampNeg x))) = jws g (jup σ a j.toNatClampNeg x) := by
    refine jws_set g h1 ?_ (fun q hq => jup_other q hq)
    rw [jcell_1 h2, h3]
    congr 4
    funext z
    simp [jup, upd]
  rw [e1] at hP1
  exact k p e s m as below meth c H1 locs1 ls X hP1 hS1 hl
theorem jr_bast {a : Nat} {j : Int32} {x : Int32} (ha : jarr a 1 1 = true) (hj : jin j (jlen a)) (d : decode mt.2.1 pc = .ok (.bastore, 1)) (k : jW g mt n post (pc + 1) L r (jup σ a j.toNatClampNeg (vp_nar .byte x))) : jW g mt n post pc L (.int x :: .int j :: .ref a :: r) σ := by
  intro p e s m as below meth c H locs ls X hP hS hl
  obtain ⟨h1, h2, h3⟩ := jarr_spec ha
  have hg := jws_get g σ h1
  rw [jcell_1 h2, h3] at hg
  refine va_bast X.1 X.2.1 X.2.2.2.2.2.2.2.2.1 hP (jD g X.2.2.2.2.2.2.2.1 σ) hS a 1 hg (jtys_get g (by decide)) (jin_vp hj) d (fun H1 locs1 hP1 hD1 hS1 => ?_)
  have e1 : (jws g σ).set a (jad g a, .inl (jta g 1, (jshp a).2.2.1, .inl (upd (σ.1 a) j.toNatClampNeg (vp_nar .byte x)))) = jws g (jup σ a j.toNatClampNeg (vp_nar .byte x)) := by
    refine jws_set g h1 ?_ (fun q hq => jup_other q hq)
    rw [jcell_1 h2, h3]
    congr 4
    funext z
    simp [jup, upd]
  rw [e1] at hP1
  exact k p e s m as below meth c H1 locs1 ls X hP1 hS1 hl
theorem jr_zast {a : Nat} {j : Int32} {x : Int32} (ha : jarr a 1 3 = true) (hj : jin j (jlen a)) (d : decode mt.2.1 pc = .ok (.bastore, 1)) (k : jW g mt n post (pc + 1) L r (jup σ a j.toNatClampNeg (vp_nar .boolean x))) : jW g mt n post pc L (.int x :: .int j :: .ref a :: r) σ := by
  intro p e s m as below meth c H locs ls X hP hS hl
  obtain ⟨h1, h2, h3⟩ := jarr_spec ha
  have hg := jws_get g σ h1
  rw [jcell_1 h2, h3] at hg
  refine va_zast X.1 X.2.1 X.2.2.2.2.2.2.2.2.1 hP (jD g X.2.2.2.2.2.2.2.1 σ) hS a 3 hg (jtys_get g (by decide)) (jin_vp hj) d (fun H1 locs1 hP1 hD1 hS1 => ?_)
  have e1 : (jws g σ).set a (jad g a, .inl (jta g 3, (jshp a).2.2.1, .inl (upd (σ.1 a) j.toNatClampNeg (vp_nar .boolean x)))) = jws g (jup σ a j.toNatClampNeg (vp_nar .boolean x)) := by
    refine jws_set g h1 ?_ (fun q hq => jup_other q hq)
    rw [jcell_1 h2, h3]
    congr 4
    funext z
    simp [jup, upd]
  rw [e1] at hP1
  exact k p e s m as below meth c H1 locs1 ls X hP1 hS1 hl
theorem jr_cast {a : Nat} {j : Int32} {x : Int32} (ha : jarr a 1 2 = true) (hj : jin j (jlen a)) (d : decode mt.2.1 pc = .ok (.castore, 1)) (k : jW g mt n post (pc + 1) L r (jup σ a j.toNatClampNeg (vp_nar .char x))) : jW g mt n post pc L (.int x :: .int j :: .ref a :: r) σ := by
  intro p e s m as below meth c H locs ls X hP hS hl
  obtain ⟨h1, h2, h3⟩ := jarr_spec ha
  have hg := jws_get g σ h1
  rw [jcell_1 h2, h3] at hg
  refine va_cast X.1 X.2.1 X.2.2.2.2.2.2.2.2.1 hP (jD g X.2.2.2.2.2.2.2.1 σ) hS a 2 hg (jtys_get g (by decide)) (jin_vp hj) d (fun H1 locs1 hP1 hD1 hS1 => ?_)
  have e1 : (jws g σ).set a (jad g a, .inl (jta g 2, (jshp a).2.2.1, .inl (upd (σ.1 a) j.toNatClampNeg (vp_nar .char x)))) = jws g (jup σ a j.toNatClampNeg (vp_nar .char x)) := by
    refine jws_set g h1 ?_ (fun q hq => jup_other q hq)
    rw [jcell_1 h2, h3]
    congr 4
    funext z
    simp [jup, upd]
  rw [e1] at hP1
  exact k p e s m as below meth c H1 locs1 ls X hP1 hS1 hl
theorem jr_last {a : Nat} {j : Int32} {x : Int64} (ha : jarr a 2 4 = true) (hj : jin j (jlen a)) (d : decode mt.2.1 pc = .ok (.lastore, 1)) (k : jW g mt n post (pc + 1) L r (jupL σ a j.toNatClampNeg x)) : jW g mt n post pc L (.long x :: .int j :: .ref a :: r) σ := by
  intro p e s m as below meth c H locs ls X hP hS hl
  obtain ⟨h1, h2, h3⟩ := jarr_spec ha
  have hg := jws_get g σ h1
  rw [jcell_2 h2, h3] at hg
  refine va_last X.1 X.2.1 X.2.2.2.2.2.2.2.2.1 hP (jD g X.2.2.2.2.2.2.2.1 σ) hS a 4 hg (jtys_get g (by decide)) (jin_vp hj) d (fun H1 locs1 hP1 hD1 hS1 => ?_)
  have e1 : (jws g σ).set a (jad g a, .inl (jta g 4, (jshp a).2.2.1, .inr (.inl (vp_updL (σ.2.1 a) j.toNatClampNeg x)))) = jws g (jupL σ a j.toNatClampNeg x) := by
    refine jws_set g h1 ?_ (fun q hq => jupL_other q hq)
    rw [jcell_2 h2, h3]
    congr 5
    funext z
    simp [jupL, vp_updL]
  rw [e1] at hP1
  exact k p e s m as below meth c H1 locs1 ls X hP1 hS1 hl
theorem jr_aald {a t : Nat} {j : Int32} (ha : jarr a 4 t = true) (ht : t = 6 ∨ t = 7) (hj : jin j (jlen a)) (d : decode mt.2.1 pc = .ok (.aaload, 1)) (k : jW g mt n post (pc + 1) L (.ref (jelt a j.toNatClampNeg) :: r) σ) : jW g mt n post pc L (.int j :: .ref a :: r) σ := by
  intro p e s m as below meth c H locs ls X hP hS hl
  obtain ⟨h1, h2, h3⟩ := jarr_spec ha
  have hg := jws_get g σ h1
  rw [jcell_4 h2] at hg
  have hc := hP a _ hg
  have ht8 : t < 8 := by omega
  have hK := (X.2.2.2.2.2.2.2.2.1.2 t _ (jtys_get g ht8)).1
  have hv := jin_vp hj
  have hlt : j.toNatClampNeg < (jshp a).2.2.1 := Nat.not_le.mp fun q => hv (Or.inr q)
  rw [h3] at hc
  exact W.aald (v := .ref (jad g (jelt a j.toNatClampNeg))) (ty := jtyL.getD t .int) X.1 X.2.1 hc (hK (jshp a).2.2.1 (fun i => va_rf (some (jad g (jelt a i))))) (by rcases ht with rfl | rfl <;> rfl) (fun q => by cases q) (by show ¬ (j < 0 ∨ (arrV _ _ _).slots.size ≤ _); rw [arrV_size]; exact hv) (by show (arrV _ _ _).slots[_]? = _; rw [arrV_read _ _ hlt]; rfl) rfl rfl d (k p e s m as below meth c H locs ls X hP hS hl)
theorem jr_alen {a kind t : Nat} (ha : jarr a kind t = true) (ht : t < 8) (hk : kind = 1 ∨ kind = 4) (d : decode mt.2.1 pc = .ok (.arraylength, 1)) (k : jW g mt n post (pc + 1) L (.int (Int32.ofNat (jlen a)) :: r) σ) : jW g mt n post pc L (.ref a :: r) σ := by
  intro p e s m as below meth c H locs ls X hP hS hl
  obtain ⟨h1, h2, h3⟩ := jarr_spec ha
  have hg := jws_get g σ h1
  rcases hk with rfl | rfl
  · rw [jcell_1 h2, h3] at hg
    exact va_alen X.1 X.2.1 X.2.2.2.2.2.2.2.2.1 hP a t hg (jtys_get g ht) rfl d (k p e s m as below meth c H locs ls X hP hS hl)
  · rw [jcell_4 h2, h3] at hg
    exact va_alen X.1 X.2.1 X.2.2.2.2.2.2.2.2.1 hP a t hg (jtys_get g ht) rfl d (k p e s m as below meth c H locs ls X hP hS hl)
theorem jr_geti {a ci f tc j : Nat} (hf : jFok mt.1.cls (j, ci, f, tc)) (ho : jobj a ci f 0 = true) (d : decode mt.2.1 pc = .ok (.getfield j, 3)) (k : jW g mt n post (pc + 3) L (.int (σ.1 a f) :: r) σ) : jW g mt n post pc L (.ref a :: r) σ := by
  intro p e s m as below meth c H locs ls X hP hS hl
  obtain ⟨C, T, N, ⟨q1, q2, q3, q4, q5⟩, hk, hty, hlk⟩ := hf
  obtain ⟨h1, h2, h3, h4, h5⟩ := jobj_spec ho
  have hg := jws_get g σ h1
  rw [jcell_o h2, h3] at hg
  have hv : (jfs g σ a (jshp a).2.2.2)[f]? = some (.int (σ.1 a f)) := by
    rw [jfs_get g σ a h4]
    unfold jtc at h5
    unfold jfv
    generalize (jshp a).2.2.2.getD f 0 = cc at h5 ⊢
    match cc, h5 with
    | 0, h5 => first | rfl | (exfalso; simp at h5)
    | 1, h5 => first | rfl | (exfalso; simp at h5)
    | cc + 2, h5 => first | rfl | (exfalso; simp at h5)
  rcases hlk with hlk | ⟨host, hlk⟩
  · exact va_get X.1 X.2.1 X.2.2.2.2.2.2.1 (fun w hw => List.mem_cons_of_mem _ (q2 w hw)) X.2.2.2.2.2.1 X.2.2.2.2.2.2.2.2.1 hP a hg q1 f hk (X.2.2.2.2.2.2.1 _ (List.mem_cons_of_mem _ hlk)) (fun x hx => by rw [← q5 f hk]; exact hx) hv d (k p e s m as below meth c H locs ls X hP hS hl)
  · exact va_getN X.1 X.2.1 X.2.2.2.2.2.2.1 (fun w hw => List.mem_cons_of_mem _ (q2 w hw)) X.2.2.2.2.2.1 X.2.2.2.2.2.2.2.2.1 hP a hg q1 f hk (va_Nw.use rfl (X.2.2.2.2.2.2.2.2.2.1 _ hlk)) (fun x hx => by rw [← q5 f hk]; exact hx) hv d (k p e s m as below meth c H locs ls X hP hS hl)
theorem jr_getl {a ci f tc j : Nat} (hf : jFok mt.1.cls (j, ci, f, tc)) (ho : jobj a ci f 1 = true) (d : decode mt.2.1 pc = .ok (.getfield j, 3)) (k : jW g mt n post (pc + 3) L (.long (σ.2.1 a f) :: r) σ) : jW g mt n post pc L (.ref a :: r) σ := by
  intro p e s m as below meth c H locs ls X hP hS hl
  obtain ⟨C, T, N, ⟨q1, q2, q3, q4, q5⟩, hk, hty, hlk⟩ := hf
  obtain ⟨h1, h2, h3, h4, h5⟩ := jobj_spec ho
  have hg := jws_get g σ h1
  rw [jcell_o h2, h3] at hg
  have hv : (jfs g σ a (jshp a).2.2.2)[f]? = some (.long (σ.2.1 a f)) := by
    rw [jfs_get g σ a h4]
    unfold jtc at h5
    unfold jfv
    generalize (jshp a).2.2.2.getD f 0 = cc at h5 ⊢
    match cc, h5 with
    | 0, h5 => first | rfl | (exfalso; simp at h5)
    | 1, h5 => first | rfl | (exfalso; simp at h5)
    | cc + 2, h5 => first | rfl | (exfalso; simp at h5)
  rcases hlk with hlk | ⟨host, hlk⟩
  · exact va_get X.1 X.2.1 X.2.2.2.2.2.2.1 (fun w hw => List.mem_cons_of_mem _ (q2 w hw)) X.2.2.2.2.2.1 X.2.2.2.2.2.2.2.2.1 hP a hg q1 f hk (X.2.2.2.2.2.2.1 _ (List.mem_cons_of_mem _ hlk)) (fun x hx => by rw [← q5 f hk]; exact hx) hv d (k p e s m as below meth c H locs ls X hP hS hl)
  · exact va_getN X.1 X.2.1 X.2.2.2.2.2.2.1 (fun w hw => List.mem_cons_of_mem _ (q2 w hw)) X.2.2.2.2.2.1 X.2.2.2.2.2.2.2.2.1 hP a hg q1 f hk (va_Nw.use rfl (X.2.2.2.2.2.2.2.2.2.1 _ hlk)) (fun x hx => by rw [← q5 f hk]; exact hx) hv d (k p e s m as below meth c H locs ls X hP hS hl)
theorem jr_getr {a ci f tc j : Nat} (hf : jFok mt.1.cls (j, ci, f, tc)) (ho : jobj a ci f 2 = true) (d : decode mt.2.1 pc = .ok (.getfield j, 3)) (k : jW g mt n post (pc + 3) L (.ref (jref a f) :: r) σ) : jW g mt n post pc L (.ref a :: r) σ := by
  intro p e s m as below meth c H locs ls X hP hS hl
  obtain ⟨C, T, N, ⟨q1, q2, q3, q4, q5⟩, hk, hty, hlk⟩ := hf
  obtain ⟨h1, h2, h3, h4, h5⟩ := jobj_spec ho
  have hg := jws_get g σ h1
  rw [jcell_o h2, h3] at hg
  have hv : (jfs g σ a (jshp a).2.2.2)[f]? = some (.ref (jad g (jref a f))) := by
    rw [jfs_get g σ a h4]
    unfold jtc at h5
    unfold jfv jref
    generalize (jshp a).2.2.2.getD f 0 = cc at h5 ⊢
    match cc, h5 with
    | 0, h5 => first | rfl | (exfalso; simp at h5)
    | 1, h5 => first | rfl | (exfalso; simp at h5)
    | cc + 2, h5 => first | rfl | (exfalso; simp at h5)
  rcases hlk with hlk | ⟨host, hlk⟩
  · exact va_get X.1 X.2.1 X.2.2.2.2.2.2.1 (fun w hw => List.mem_cons_of_mem _ (q2 w hw)) X.2.2.2.2.2.1 X.2.2.2.2.2.2.2.2.1 hP a hg q1 f hk (X.2.2.2.2.2.2.1 _ (List.mem_cons_of_mem _ hlk)) (fun x hx => by rw [← q5 f hk]; exact hx) hv d (k p e s m as below meth c H locs ls X hP hS hl)
  · exact va_getN X.1 X.2.1 X.2.2.2.2.2.2.1 (fun w hw => List.mem_cons_of_mem _ (q2 w hw)) X.2.2.2.2.2.1 X.2.2.2.2.2.2.2.2.1 hP a hg q1 f hk (va_Nw.use rfl (X.2.2.2.2.2.2.2.2.2.1 _ hlk)) (fun x hx => by rw [← q5 f hk]; exact hx) hv d (k p e s m as below meth c H locs ls X hP hS hl)
theorem jr_puti {a ci f j : Nat} {x : Int32} (hf : jFok mt.1.cls (j, ci, f, 0)) (ho : jobj a ci f 0 = true) (d : decode mt.2.1 pc = .ok (.putfield j, 3)) (k : jW g mt n post (pc + 3) L r (jup σ a f x)) : jW g mt n post pc L (.int x :: .ref a :: r) σ := by
  intro p e s m as below meth c H locs ls X hP hS hl
  obtain ⟨C, T, N, ⟨q1, q2, ⟨ty0, q3⟩, q4, q5⟩, hk, hty, hlk⟩ := hf
  obtain ⟨h1, h2, h3, h4, h5⟩ := jobj_spec ho
  dsimp only at hk hty hlk q1
  simp only [jty, Bool.and_eq_true, beq_iff_eq, Bool.not_eq_true'] at hty
  have hg := jws_get g σ h1
  rw [jcell_o h2, h3] at hg
  have hz : (jshp a).2.2.2.getD f 0 = 0 := by
    unfold jtc at h5
    generalize (jshp a).2.2.2.getD f 0 = cc at h5 ⊢
    match cc, h5 with
    | 0, h5 => first | rfl | (exfalso; simp at h5)
    | 1, h5 => first | rfl | (exfalso; simp at h5)
    | cc + 2, h5 => first | rfl | (exfalso; simp at h5)
  have hd : parseFieldDescriptor (T f).2.2.1 = some .int := by rw [hty.1]; decide +kernel
  have e1 : (jws g σ).set a (jad g a, .inr (ci, (jfs g σ a (jshp a).2.2.2).set f (.int x))) = jws g (jup σ a f x) := by
    refine jws_set g h1 ?_ (fun q hq => jup_other q hq)
    rw [jcell_o h2, h3, jfs_up g σ a h4 hz]
  have KK : ∀ (H1 : Heap) (locs1 : List Loc), va_P g.2.1 vwCl ((jws g σ).set a (jad g a, .inr (ci, (jfs g σ a (jshp a).2.2.2).set f (.int x)))) H1 → va_D (jA g) ((jws g σ).set a (jad g a, .inr (ci, (jfs g σ a (jshp a).2.2.2).set f (.int x)))) → va_S (jA g) s.heap H1 locs1 → W p g.1 e (jrm n) s m as below meth c H1 locs1 0 0 (MQ below (jQ g post) as s 0 0 (jA g)) (F0 m (pc + 3) ls (r.map (jrl g))) := by
    intro H1 locs1 hP1 hD1 hS1
    rw [e1] at hP1
    exact k p e s m as below meth c H1 locs1 ls X hP1 hS1 hl
  rcases hlk with hlk | ⟨host, hlk⟩
  · exact va_put X.1 X.2.1 X.2.2.2.2.2.2.1 (fun w hw => List.mem_cons_of_mem _ (q2 w hw)) ty0 q3 q4 X.2.2.2.2.2.1 X.2.2.2.2.2.2.2.2.1 hP (jD g X.2.2.2.2.2.2.2.1 σ) hS a hg q1 f hk (X.2.2.2.2.2.2.1 _ (List.mem_cons_of_mem _ hlk)) (fun x hx => by rw [← q5 f hk]; exact hx) hty.2 hd rfl rfl (by rw [jfs_len]; exact h4) d KK
  · exact va_putN X.1 X.2.1 X.2.2.2.2.2.2.1 (fun w hw => List.mem_cons_of_mem _ (q2 w hw)) ty0 q3 q4 X.2.2.2.2.2.1 X.2.2.2.2.2.2.2.2.1 hP (jD g X.2.2.2.2.2.2.2.1 σ) hS a hg q1 f hk (va_Nw.use rfl (X.2.2.2.2.2.2.2.2.2.1 _ hlk)) (fun x hx => by rw [← q5 f hk]; exact hx) hty.2 hd rfl rfl (by rw [jfs_len]; exact h4) d KK
theorem jr_putz {a ci f j : Nat} {x : Int32} (hx : x = 0 ∨ x = 1) (hf : jFok mt.1.cls (j, ci, f, 3)) (ho : jobj a ci f 0 = true) (d : decode mt.2.1 pc = .ok (.putfield j, 3)) (k : jW g mt n post (pc + 3) L r (jup σ a f x)) : jW g mt n post pc L (.int x :: .ref a :: r) σ := by
  intro p e s m as below meth c H locs ls X hP hS hl
  obtain ⟨C, T, N, ⟨q1, q2, ⟨ty0, q3⟩, q4, q5⟩, hk, hty, hlk⟩ := hf
  obtain ⟨h1, h2, h3, h4, h5⟩ := jobj_spec ho
  dsimp only at hk hty hlk q1
  simp only [jty, Bool.and_eq_true, beq_iff_eq, Bool.not_eq_true'] at hty
  have hg := jws_get g σ h1
  rw [jcell_o h2, h3] at hg
  have hz : (jshp a).2.2.2.getD f 0 = 0 := by
    unfold jtc at h5
    generalize (jshp a).2.2.2.getD f 0 = cc at h5 ⊢
    match cc, h5 with
    | 0, h5 => first | rfl | (exfalso; simp at h5)
    | 1, h5 => first | rfl | (exfalso; simp at h5)
    | cc + 2, h5 => first | rfl | (exfalso; simp at h5)
  have hd : parseFieldDescriptor (T f).2.2.1 = some .boolean := by rw [hty.1]; decide +kernel
  have e1 : (jws g σ).set a (jad g a, .inr (ci, (jfs g σ a (jshp a).2.2.2).set f (.int x))) = jws g (jup σ a f x) := by
    refine jws_set g h1 ?_ (fun q hq => jup_other q hq)
    rw [jcell_o h2, h3, jfs_up g σ a h4 hz]
  have KK : ∀ (H1 : Heap) (locs1 : List Loc), va_P g.2.1 vwCl ((jws g σ).set a (jad g a, .inr (ci, (jfs g σ a (jshp a).2.2.2).set f (.int x)))) H1 → va_D (jA g) ((jws g σ).set a (jad g a, .inr (ci, (jfs g σ a (jshp a).2.2.2).set f (.int x)))) → va_S (jA g) s.heap H1 locs1 → W p g.1 e (jrm n) s m as below meth c H1 locs1 0 0 (MQ below (jQ g post) as s 0 0 (jA g)) (F0 m (pc + 3) ls (r.map (jrl g))) := by
    intro H1 locs1 hP1 hD1 hS1
    rw [e1] at hP1
    exact k p e s m as below meth c H1 locs1 ls X hP1 hS1 hl
  rcases hlk with hlk | ⟨host, hlk⟩
  · exact va_put X.1 X.2.1 X.2.2.2.2.2.2.1 (fun w hw => List.mem_cons_of_mem _ (q2 w hw)) ty0 q3 q4 X.2.2.2.2.2.1 X.2.2.2.2.2.2.2.2.1 hP (jD g X.2.2.2.2.2.2.2.1 σ) hS a hg q1 f hk (X.2.2.2.2.2.2.1 _ (List.mem_cons_of_mem _ hlk)) (fun x hx => by rw [← q5 f hk]; exact hx) hty.2 hd (by rcases hx with rfl | rfl <;> rfl) (by rcases hx with rfl | rfl <;> rfl) (by rw [jfs_len]; exact h4) d KK
  · exact va_putN X.1 X.2.1 X.2.2.2.2.2.2.1 (fun w hw => List.mem_cons_of_mem _ (q2 w hw)) ty0 q3 q4 X.2.2.2.2.2.1 X.2.2.2.2.2.2.2.2.1 hP (jD g X.2.2.2.2.2.2.2.1 σ) hS a hg q1 f hk (va_Nw.use rfl (X.2.2.2.2.2.2.2.2.2.1 _ hlk)) (fun x hx => by rw [← q5 f hk]; exact hx) hty.2 hd (by rcases hx with rfl | rfl <;> rfl) (by rcases hx with rfl | rfl <;> rfl) (by rw [jfs_len]; exact h4) d KK
theorem jr_putl {a ci f j : Nat} {x : Int64} (hf : jFok mt.1.cls (j, ci, f, 1)) (ho : jobj a ci f 1 = true) (d : decode mt.2.1 pc = .ok (.putfield j, 3)) (k : jW g mt n post (pc + 3) L r (jupL σ a f x)) : jW g mt n post pc L (.long x :: .ref a :: r) σ := by
  intro p e s m as below meth c H locs ls X hP hS hl
  obtain ⟨C, T, N, ⟨q1, q2, ⟨ty0, q3⟩, q4, q5⟩, hk, hty, hlk⟩ := hf
  obtain ⟨h1, h2, h3, h4, h5⟩ := jobj_spec ho
  dsimp only at hk hty hlk q1
  simp only [jty, Bool.and_eq_true, beq_iff_eq, Bool.not_eq_true'] at hty
  have hg := jws_get g σ h1
  rw [jcell_o h2, h3] at hg
  have hz : (jshp a).2.2.2.getD f 0 = 1 := by
    unfold jtc at h5
    generalize (jshp a).2.2.2.getD f 0 = cc at h5 ⊢
    match cc, h5 with
    | 0, h5 => first | rfl | (exfalso; simp at h5)
    | 1, h5 => first | rfl | (exfalso; simp at h5)
    | cc + 2, h5 => first | rfl | (exfalso; simp at h5)
  have hd : parseFieldDescriptor (T f).2.2.1 = some .long := by rw [hty.1]; decide +kernel
  have e1 : (jws g σ).set a (jad g a, .inr (ci, (jfs g σ a (jshp a).2.2.2).set f (.long x))) = jws g (jupL σ a f x) := by
    refine jws_set g h1 ?_ (fun q hq => jupL_other q hq)
    rw [jcell_o h2, h3, jfs_upL g σ a h4 hz]
  have KK : ∀ (H1 : Heap) (locs1 : List Loc), va_P g.2.1 vwCl ((jws g σ).set a (jad g a, .inr (ci, (jfs g σ a (jshp a).2.2.2).set f (.long x)))) H1 → va_D (jA g) ((jws g σ).set a (jad g a, .inr (ci, (jfs g σ a (jshp a).2.2.2).set f (.long x)))) → va_S (jA g) s.heap H1 locs1 → W p g.1 e (jrm n) s m as below meth c H1 locs1 0 0 (MQ below (jQ g post) as s 0 0 (jA g)) (F0 m (pc + 3) ls (r.map (jrl g))) := by
    intro H1 locs1 hP1 hD1 hS1
    rw [e1] at hP1
    exact k p e s m as below meth c H1 locs1 ls X hP1 hS1 hl
  rcases hlk with hlk | ⟨host, hlk⟩
  · exact va_put X.1 X.2.1 X.2.2.2.2.2.2.1 (fun w hw => List.mem_cons_of_mem _ (q2 w hw)) ty0 q3 q4 X.2.2.2.2.2.1 X.2.2.2.2.2.2.2.2.1 hP (jD g X.2.2.2.2.2.2.2.1 σ) hS a hg q1 f hk (X.2.2.2.2.2.2.1 _ (List.mem_cons_of_mem _ hlk)) (fun x hx => by rw [← q5 f hk]; exact hx) hty.2 hd rfl rfl (by rw [jfs_len]; exact h4) d KK
  · exact va_putN X.1 X.2.1 X.2.2.2.2.2.2.1 (fun w hw => List.mem_cons_of_mem _ (q2 w hw)) ty0 q3 q4 X.2.2.2.2.2.1 X.2.2.2.2.2.2.2.2.1 hP (jD g X.2.2.2.2.2.2.2.1 σ) hS a hg q1 f hk (va_Nw.use rfl (X.2.2.2.2.2.2.2.2.2.1 _ hlk)) (fun x hx => by rw [← q5 f hk]; exact hx) hty.2 hd rfl rfl (by rw [jfs_len]; exact h4) d KK
theorem jr_end {g : jG} {post : Option Value → jM → Prop} {σ : jM} {s : State} {as : Array Value} {H : Heap} {locs : List Loc} {v : Option Value} (hC : jC g s) (hP : jHp g σ H) (hS : va_S (jA g) s.heap H locs) (h : post v σ) (t : State) (ht : t.heap = H) (hW : s.WarmedH t.vm) : jQ g post as s (.returned (v.map (jrl g))) t :=
  ⟨⟨v, σ, rfl, h, by rw [ht]; exact hP, hC.moved hW (fun a h1 h2 => by rw [ht]; exact hS.2.1 a h1 h2)⟩, hS.F ht⟩
theorem jr_iret {x : Int32} (hr : mt.2.2.2 = some .int) (h : post (some (.int x)) σ) (d : decode mt.2.1 pc = .ok (.ireturn, 1)) : jW g mt n post pc L [.int x] σ := by
  intro p e s m as below meth c H locs ls X hP hS hl
  have hlocks := X.2.2.2.2.1
  exact W.iret X.1 X.2.1 (X.2.2.2.1.trans hr) (jr_end (v := some (.int x)) X.2.2.2.2.2.2.2.2 hP hS h) hS.2.2 d hlocks
theorem jr_zret {x : Int32} (hr : mt.2.2.2 = some .boolean) (hx : x = 0 ∨ x = 1) (h : post (some (.int x)) σ) (d : decode mt.2.1 pc = .ok (.ireturn, 1)) : jW g mt n post pc L [.int x] σ := by
  intro p e s m as below meth c H locs ls X hP hS hl
  have hlocks := X.2.2.2.2.1
  exact W.zret X.1 X.2.1 (X.2.2.2.1.trans hr) (by rcases hx with rfl | rfl <;> rfl) (jr_end (v := some (.int x)) X.2.2.2.2.2.2.2.2 hP hS h) hS.2.2 d hlocks
theorem jr_vret (hr : mt.2.2.2 = none) (h : post none σ) (d : decode mt.2.1 pc = .ok (.return_, 1)) : jW g mt n post pc L [] σ := by
  intro p e s m as below meth c H locs ls X hP hS hl
  have hlocks := X.2.2.2.2.1
  exact W.vret X.1 X.2.1 (X.2.2.2.1.trans hr) (jr_end (v := none) X.2.2.2.2.2.2.2.2 hP hS h) hS.2.2 d hlocks
theorem jr_aret {a : Nat} {C : String} (hr : mt.2.2.2 = some (.object C)) (h : post (some (.ref a)) σ) (d : decode mt.2.1 pc = .ok (.areturn, 1)) : jW g mt n post pc L [.ref a] σ := by
  intro p e s m as below meth c H locs ls X hP hS hl
  have hlocks := X.2.2.2.2.1
  exact W.aret X.1 X.2.1 (X.2.2.2.1.trans hr) (Or.inl ⟨_, rfl⟩) (Or.inr ⟨_, rfl⟩) (jr_end (v := some (.ref a)) X.2.2.2.2.2.2.2.2 hP hS h) hS.2.2 d hlocks
theorem jr_dret {x : UInt64} (hr : mt.2.2.2 = some .double) (h : post (some (.double x)) σ) (d : decode mt.2.1 pc = .ok (.dreturn, 1)) : jW g mt n post pc L [.double x] σ := by
  intro p e s m as below meth c H locs ls X hP hS hl
  have hlocks := X.2.2.2.2.1
  exact W.dret X.1 X.2.1 (X.2.2.2.1.trans hr) (jr_end (v := some (.double x)) X.2.2.2.2.2.2.2.2 hP hS h) hS.2.2 d hlocks
end JS
