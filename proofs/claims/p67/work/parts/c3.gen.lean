/-! the judgement jY: a walk whose end is any: z says the room, what was used of it, what is owed, and what is known of the code; its rows and its computed walk as jW's -/
abbrev jZ : Type := Room × Nat × Nat × (List Frame → Array Value → State → State → Prop) × (Code → Prop)
def jyP : Option Value → jM → Prop := fun _ _ => False
def jZok (z : jZ) (n : Nat) : Prop := n ≤ z.1.frames ∧ 64 * n ≤ z.1.locals ∧ z.2.1 ≤ z.1.cells ∧ z.2.2.1 ≤ z.1.slots
def jY (g : jG) (zZ : jZ) (mt : jMt) (n : Nat) (pc : Nat) (L : List (Nat × Value)) (st : List Value) (σ : jM) : Prop :=
  ∀ (p : Program) (e : Env) (s : State) (m : MethodId) (args : Array Value) (below : List Frame) (meth : Method) (c : Code) (H : Heap) (locs : List Loc) (ls : Array Slot),
    (jX g mt p s m args meth c ∧ zZ.2.2.2.2 c) → jHp g σ H → va_S (jA g) s.heap H locs → lv_has ls mt.2.2.1 (jL g L) →
    W p g.1 e zZ.1 s m args below meth c H locs zZ.2.1 zZ.2.2.1 (zZ.2.2.2.1 below args s) (F0 m pc ls (st.map (jrl g)))
section JSY
variable {g : jG} {mt : jMt} {n : Nat} {zZ : jZ} {pc : Nat} {L : List (Nat × Value)} {r : List Value} {σ : jM}
theorem jy_iconst {z : Int} {v : Int32} (hv : Int32.ofInt z = v) (d : decode mt.2.1 pc = .ok (.iconst z, 1)) (k : jY g zZ mt n (pc + 1) L (.int v :: r) σ) : jY g zZ mt n pc L (r) σ := by
  intro p e s m as below meth c H locs ls XK hP hS hl
  have X := XK.1
  exact lv_iconst X.1 X.2.1 d hv (k p e s m as below meth c H locs ls XK hP hS hl)
theorem jy_bipush {z : Int} {v : Int32} (hv : (Int8.ofInt z).toInt32 = v) (d : decode mt.2.1 pc = .ok (.bipush z, 2)) (k : jY g zZ mt n (pc + 2) L (.int v :: r) σ) : jY g zZ mt n pc L (r) σ := by
  intro p e s m as below meth c H locs ls XK hP hS hl
  have X := XK.1
  exact lv_bipush X.1 X.2.1 d hv (k p e s m as below meth c H locs ls XK hP hS hl)
theorem jy_sipush {z : Int} {v : Int32} (hv : (Int16.ofInt z).toInt32 = v) (d : decode mt.2.1 pc = .ok (.sipush z, 3)) (k : jY g zZ mt n (pc + 3) L (.int v :: r) σ) : jY g zZ mt n pc L (r) σ := by
  intro p e s m as below meth c H locs ls XK hP hS hl
  have X := XK.1
  exact lv_sipush X.1 X.2.1 d hv (k p e s m as below meth c H locs ls XK hP hS hl)
theorem jy_lconst {z : Fin 2} {v : Int64} (hv : Int64.ofNat (z : Nat) = v) (d : decode mt.2.1 pc = .ok (.lconst z, 1)) (k : jY g zZ mt n (pc + 1) L (.long v :: r) σ) : jY g zZ mt n pc L (r) σ := by
  intro p e s m as below meth c H locs ls XK hP hS hl
  have X := XK.1
  exact lv_lconst X.1 X.2.1 d hv (k p e s m as below meth c H locs ls XK hP hS hl)
theorem jy_ldc {j : Nat} {v : Int32} (hv : Cond.constant mt.1.cls j v ∈ jGw) (d : decode mt.2.1 pc = .ok (.ldc j, 2)) (k : jY g zZ mt n (pc + 2) L (.int v :: r) σ) : jY g zZ mt n pc L (r) σ := by
  intro p e s m as below meth c H locs ls XK hP hS hl
  have X := XK.1
  exact lv_ldc X.1 X.2.1 X.2.2.2.2.2.1 (X.2.2.2.2.2.2.1 _ (List.mem_cons_of_mem _ hv)) d (k p e s m as below meth c H locs ls XK hP hS hl)
theorem jy_ldcw {j : Nat} {v : Int32} (hv : Cond.constant mt.1.cls j v ∈ jGw) (d : decode mt.2.1 pc = .ok (.ldc_w j, 3)) (k : jY g zZ mt n (pc + 3) L (.int v :: r) σ) : jY g zZ mt n pc L (r) σ := by
  intro p e s m as below meth c H locs ls XK hP hS hl
  have X := XK.1
  exact lv_ldcw X.1 X.2.1 X.2.2.2.2.2.1 (X.2.2.2.2.2.2.1 _ (List.mem_cons_of_mem _ hv)) d (k p e s m as below meth c H locs ls XK hP hS hl)
theorem jy_ldc2 {j : Nat} {v : Int64} (hv : Cond.constantLong mt.1.cls j v ∈ jGw) (d : decode mt.2.1 pc = .ok (.ldc2_w j, 3)) (k : jY g zZ mt n (pc + 3) L (.long v :: r) σ) : jY g zZ mt n pc L (r) σ := by
  intro p e s m as below meth c H locs ls XK hP hS hl
  have X := XK.1
  exact lv_ldc2 X.1 X.2.1 X.2.2.2.2.2.1 (X.2.2.2.2.2.2.1 _ (List.mem_cons_of_mem _ hv)) d (k p e s m as below meth c H locs ls XK hP hS hl)
theorem jy_iload {j : Nat} {x : Int32} (h : jlk L j = some (.int x)) (d : decode mt.2.1 pc = .ok (.iload j, 2)) (k : jY g zZ mt n (pc + 2) L (.int x :: r) σ) : jY g zZ mt n pc L (r) σ := by
  intro p e s m as below meth c H locs ls XK hP hS hl
  have X := XK.1
  exact lv_iload X.1 X.2.1 d (jL_lk hl h) (k p e s m as below meth c H locs ls XK hP hS hl)
theorem jy_iloadn {j : Fin 4} {x : Int32} (h : jlk L j.val = some (.int x)) (d : decode mt.2.1 pc = .ok (.iload_n j, 1)) (k : jY g zZ mt n (pc + 1) L (.int x :: r) σ) : jY g zZ mt n pc L (r) σ := by
  intro p e s m as below meth c H locs ls XK hP hS hl
  have X := XK.1
  exact lv_iload_n X.1 X.2.1 d rfl (jL_lk hl h) (k p e s m as below meth c H locs ls XK hP hS hl)
theorem jy_istore {j : Nat} {x : Int32} (h : j < mt.2.2.1) (d : decode mt.2.1 pc = .ok (.istore j, 2)) (k : jY g zZ mt n (pc + 2) (jins j (.int x) L) (r) σ) : jY g zZ mt n pc L (.int x :: r) σ := by
  intro p e s m as below meth c H locs ls XK hP hS hl
  have X := XK.1
  exact lv_istore X.1 X.2.1 d hl h rfl (fun ls' hl' => k p e s m as below meth c H locs ls' XK hP hS (jL_ins hl'))
theorem jy_istoren {j : Fin 4} {x : Int32} (h : j.val < mt.2.2.1) (d : decode mt.2.1 pc = .ok (.istore_n j, 1)) (k : jY g zZ mt n (pc + 1) (jins j.val (.int x) L) (r) σ) : jY g zZ mt n pc L (.int x :: r) σ := by
  intro p e s m as below meth c H locs ls XK hP hS hl
  have X := XK.1
  exact lv_istore_n X.1 X.2.1 d rfl hl h rfl (fun ls' hl' => k p e s m as below meth c H locs ls' XK hP hS (jL_ins hl'))
theorem jy_lload {j : Nat} {x : Int64} (h : jlk L j = some (.long x)) (d : decode mt.2.1 pc = .ok (.lload j, 2)) (k : jY g zZ mt n (pc + 2) L (.long x :: r) σ) : jY g zZ mt n pc L (r) σ := by
  intro p e s m as below meth c H locs ls XK hP hS hl
  have X := XK.1
  exact lv_lload X.1 X.2.1 d (jL_lk hl h) (k p e s m as below meth c H locs ls XK hP hS hl)
theorem jy_lloadn {j : Fin 4} {x : Int64} (h : jlk L j.val = some (.long x)) (d : decode mt.2.1 pc = .ok (.lload_n j, 1)) (k : jY g zZ mt n (pc + 1) L (.long x :: r) σ) : jY g zZ mt n pc L (r) σ := by
  intro p e s m as below meth c H locs ls XK hP hS hl
  have X := XK.1
  exact lv_lload_n X.1 X.2.1 d rfl (jL_lk hl h) (k p e s m as below meth c H locs ls XK hP hS hl)
theorem jy_lstore {j : Nat} {x : Int64} (h : j + 1 < mt.2.2.1) (d : decode mt.2.1 pc = .ok (.lstore j, 2)) (k : jY g zZ mt n (pc + 2) (jins2 j (.long x) L) (r) σ) : jY g zZ mt n pc L (.long x :: r) σ := by
  intro p e s m as below meth c H locs ls XK hP hS hl
  have X := XK.1
  exact lv_lstore X.1 X.2.1 d hl h rfl (fun ls' hl' => k p e s m as below meth c H locs ls' XK hP hS (jL_ins2 hl'))
theorem jy_lstoren {j : Fin 4} {x : Int64} (h : j.val + 1 < mt.2.2.1) (d : decode mt.2.1 pc = .ok (.lstore_n j, 1)) (k : jY g zZ mt n (pc + 1) (jins2 j.val (.long x) L) (r) σ) : jY g zZ mt n pc L (.long x :: r) σ := by
  intro p e s m as below meth c H locs ls XK hP hS hl
  have X := XK.1
  exact lv_lstore_n X.1 X.2.1 d rfl hl h rfl (fun ls' hl' => k p e s m as below meth c H locs ls' XK hP hS (jL_ins2 hl'))
theorem jy_aload {j : Nat} {x : Nat} (h : jlk L j = some (.ref x)) (d : decode mt.2.1 pc = .ok (.aload j, 2)) (k : jY g zZ mt n (pc + 2) L (.ref x :: r) σ) : jY g zZ mt n pc L (r) σ := by
  intro p e s m as below meth c H locs ls XK hP hS hl
  have X := XK.1
  exact lv_aload X.1 X.2.1 d (jL_lk hl h) (k p e s m as below meth c H locs ls XK hP hS hl)
theorem jy_aloadn {j : Fin 4} {x : Nat} (h : jlk L j.val = some (.ref x)) (d : decode mt.2.1 pc = .ok (.aload_n j, 1)) (k : jY g zZ mt n (pc + 1) L (.ref x :: r) σ) : jY g zZ mt n pc L (r) σ := by
  intro p e s m as below meth c H locs ls XK hP hS hl
  have X := XK.1
  exact lv_aload_n X.1 X.2.1 d rfl (jL_lk hl h) (k p e s m as below meth c H locs ls XK hP hS hl)
theorem jy_astore {j : Nat} {x : Nat} (h : j < mt.2.2.1) (d : decode mt.2.1 pc = .ok (.astore j, 2)) (k : jY g zZ mt n (pc + 2) (jins j (.ref x) L) (r) σ) : jY g zZ mt n pc L (.ref x :: r) σ := by
  intro p e s m as below meth c H locs ls XK hP hS hl
  have X := XK.1
  exact lv_astore X.1 X.2.1 d hl h rfl (fun ls' hl' => k p e s m as below meth c H locs ls' XK hP hS (jL_ins hl'))
theorem jy_astoren {j : Fin 4} {x : Nat} (h : j.val < mt.2.2.1) (d : decode mt.2.1 pc = .ok (.astore_n j, 1)) (k : jY g zZ mt n (pc + 1) (jins j.val (.ref x) L) (r) σ) : jY g zZ mt n pc L (.ref x :: r) σ := by
  intro p e s m as below meth c H locs ls XK hP hS hl
  have X := XK.1
  exact lv_astore_n X.1 X.2.1 d rfl hl h rfl (fun ls' hl' => k p e s m as below meth c H locs ls' XK hP hS (jL_ins hl'))
theorem jy_iinc {j : Nat} {z : Int} {x v : Int32} (hz : Int32.ofInt z = v) (h : jlk L j = some (.int x)) (hn : j < mt.2.2.1) (d : decode mt.2.1 pc = .ok (.iinc j z, 3)) (k : jY g zZ mt n (pc + 3) (jins j (.int (x + v)) L) (r) σ) : jY g zZ mt n pc L (r) σ := by
  intro p e s m as below meth c H locs ls XK hP hS hl
  have X := XK.1
  obtain ⟨i, hi⟩ := jL_at (g := g) h
  exact lv_iinc X.1 X.2.1 d hl hi (by rw [hz]) hn rfl (fun ls' hl' => k p e s m as below meth c H locs ls' XK hP hS (jL_ins hl'))
theorem jy_iadd {x y : Int32} (d : decode mt.2.1 pc = .ok (.iadd, 1)) (k : jY g zZ mt n (pc + 1) L (.int (x + y) :: r) σ) : jY g zZ mt n pc L (.int y :: .int x :: r) σ := by
  intro p e s m as below meth c H locs ls XK hP hS hl
  have X := XK.1
  exact lv_iadd X.1 X.2.1 d (k p e s m as below meth c H locs ls XK hP hS hl)
theorem jy_isub {x y : Int32} (d : decode mt.2.1 pc = .ok (.isub, 1)) (k : jY g zZ mt n (pc + 1) L (.int (x - y) :: r) σ) : jY g zZ mt n pc L (.int y :: .int x :: r) σ := by
  intro p e s m as below meth c H locs ls XK hP hS hl
  have X := XK.1
  exact lv_isub X.1 X.2.1 d (k p e s m as below meth c H locs ls XK hP hS hl)
theorem jy_imul {x y : Int32} (d : decode mt.2.1 pc = .ok (.imul, 1)) (k : jY g zZ mt n (pc + 1) L (.int (x * y) :: r) σ) : jY g zZ mt n pc L (.int y :: .int x :: r) σ := by
  intro p e s m as below meth c H locs ls XK hP hS hl
  have X := XK.1
  exact lv_imul X.1 X.2.1 d (k p e s m as below meth c H locs ls XK hP hS hl)
theorem jy_iand {x y : Int32} (d : decode mt.2.1 pc = .ok (.iand, 1)) (k : jY g zZ mt n (pc + 1) L (.int (x &&& y) :: r) σ) : jY g zZ mt n pc L (.int y :: .int x :: r) σ := by
  intro p e s m as below meth c H locs ls XK hP hS hl
  have X := XK.1
  exact lv_iand X.1 X.2.1 d (k p e s m as below meth c H locs ls XK hP hS hl)
theorem jy_ior {x y : Int32} (d : decode mt.2.1 pc = .ok (.ior, 1)) (k : jY g zZ mt n (pc + 1) L (.int (x ||| y) :: r) σ) : jY g zZ mt n pc L (.int y :: .int x :: r) σ := by
  intro p e s m as below meth c H locs ls XK hP hS hl
  have X := XK.1
  exact lv_ior X.1 X.2.1 d (k p e s m as below meth c H locs ls XK hP hS hl)
theorem jy_ixor {x y : Int32} (d : decode mt.2.1 pc = .ok (.ixor, 1)) (k : jY g zZ mt n (pc + 1) L (.int (x ^^^ y) :: r) σ) : jY g zZ mt n pc L (.int y :: .int x :: r) σ := by
  intro p e s m as below meth c H locs ls XK hP hS hl
  have X := XK.1
  exact lv_ixor X.1 X.2.1 d (k p e s m as below meth c H locs ls XK hP hS hl)
theorem jy_ishl {x y : Int32} (d : decode mt.2.1 pc = .ok (.ishl, 1)) (k : jY g zZ mt n (pc + 1) L (.int (x <<< (y &&& 31)) :: r) σ) : jY g zZ mt n pc L (.int y :: .int x :: r) σ := by
  intro p e s m as below meth c H locs ls XK hP hS hl
  have X := XK.1
  exact lv_ishl X.1 X.2.1 d (k p e s m as below meth c H locs ls XK hP hS hl)
theorem jy_ishr {x y : Int32} (d : decode mt.2.1 pc = .ok (.ishr, 1)) (k : jY g zZ mt n (pc + 1) L (.int (x >>> (y &&& 31)) :: r) σ) : jY g zZ mt n pc L (.int y :: .int x :: r) σ := by
  intro p e s m as below meth c H locs ls XK hP hS hl
  have X := XK.1
  exact lv_ishr X.1 X.2.1 d (k p e s m as below meth c H locs ls XK hP hS hl)
theorem jy_iushr {x y : Int32} (d : decode mt.2.1 pc = .ok (.iushr, 1)) (k : jY g zZ mt n (pc + 1) L (.int (x.toUInt32 >>> (y.toUInt32 &&& Int32.toUInt32 31)).toInt32 :: r) σ) : jY g zZ mt n pc L (.int y :: .int x :: r) σ := by
  intro p e s m as below meth c H locs ls XK hP hS hl
  have X := XK.1
  exact lv_iushr X.1 X.2.1 d rfl (k p e s m as below meth c H locs ls XK hP hS hl)
theorem jy_idiv {x y : Int32} (h : ¬ y = 0) (d : decode mt.2.1 pc = .ok (.idiv, 1)) (k : jY g zZ mt n (pc + 1) L (.int (x / y) :: r) σ) : jY g zZ mt n pc L (.int y :: .int x :: r) σ := by
  intro p e s m as below meth c H locs ls XK hP hS hl
  have X := XK.1
  exact lv_idiv X.1 X.2.1 d h (k p e s m as below meth c H locs ls XK hP hS hl)
theorem jy_irem {x y : Int32} (h : ¬ y = 0) (d : decode mt.2.1 pc = .ok (.irem, 1)) (k : jY g zZ mt n (pc + 1) L (.int (x - x / y * y) :: r) σ) : jY g zZ mt n pc L (.int y :: .int x :: r) σ := by
  intro p e s m as below meth c H locs ls XK hP hS hl
  have X := XK.1
  exact lv_irem X.1 X.2.1 d h (k p e s m as below meth c H locs ls XK hP hS hl)
theorem jy_ineg {x : Int32} (d : decode mt.2.1 pc = .ok (.ineg, 1)) (k : jY g zZ mt n (pc + 1) L (.int (-x) :: r) σ) : jY g zZ mt n pc L (.int x :: r) σ := by
  intro p e s m as below meth c H locs ls XK hP hS hl
  have X := XK.1
  exact lv_ineg X.1 X.2.1 d (k p e s m as below meth c H locs ls XK hP hS hl)
theorem jy_i2l {x : Int32} (d : decode mt.2.1 pc = .ok (.i2l, 1)) (k : jY g zZ mt n (pc + 1) L (.long x.toInt64 :: r) σ) : jY g zZ mt n pc L (.int x :: r) σ := by
  intro p e s m as below meth c H locs ls XK hP hS hl
  have X := XK.1
  exact lv_i2l X.1 X.2.1 d rfl (k p e s m as below meth c H locs ls XK hP hS hl)
theorem jy_l2i {x : Int64} (d : decode mt.2.1 pc = .ok (.l2i, 1)) (k : jY g zZ mt n (pc + 1) L (.int x.toInt32 :: r) σ) : jY g zZ mt n pc L (.long x :: r) σ := by
  intro p e s m as below meth c H locs ls XK hP hS hl
  have X := XK.1
  exact lv_l2i X.1 X.2.1 d rfl (k p e s m as below meth c H locs ls XK hP hS hl)
theorem jy_i2b {x : Int32} (d : decode mt.2.1 pc = .ok (.i2b, 1)) (k : jY g zZ mt n (pc + 1) L (.int x.toInt8.toInt32 :: r) σ) : jY g zZ mt n pc L (.int x :: r) σ := by
  intro p e s m as below meth c H locs ls XK hP hS hl
  have X := XK.1
  exact lv_i2b X.1 X.2.1 d rfl (k p e s m as below meth c H locs ls XK hP hS hl)
theorem jy_i2c {x : Int32} (d : decode mt.2.1 pc = .ok (.i2c, 1)) (k : jY g zZ mt n (pc + 1) L (.int (x.toUInt32 % 65536).toInt32 :: r) σ) : jY g zZ mt n pc L (.int x :: r) σ := by
  intro p e s m as below meth c H locs ls XK hP hS hl
  have X := XK.1
  exact lv_i2c X.1 X.2.1 d rfl (k p e s m as below meth c H locs ls XK hP hS hl)
theorem jy_i2d {x : Int32} (d : decode mt.2.1 pc = .ok (.i2d, 1)) (k : jY g zZ mt n (pc + 1) L (.double (FP.i2d x) :: r) σ) : jY g zZ mt n pc L (.int x :: r) σ := by
  intro p e s m as below meth c H locs ls XK hP hS hl
  have X := XK.1
  exact lv_i2d X.1 X.2.1 d (k p e s m as below meth c H locs ls XK hP hS hl)
theorem jy_ddiv {x y : UInt64} (h : vf_n64 (FP.ddiv x y)) (d : decode mt.2.1 pc = .ok (.ddiv, 1)) (k : jY g zZ mt n (pc + 1) L (.double (FP.ddiv x y) :: r) σ) : jY g zZ mt n pc L (.double y :: .double x :: r) σ := by
  intro p e s m as below meth c H locs ls XK hP hS hl
  have X := XK.1
  exact lv_ddiv X.1 X.2.1 d h (k p e s m as below meth c H locs ls XK hP hS hl)
theorem jy_dconst0  (d : decode mt.2.1 pc = .ok (.dconst 0, 1)) (k : jY g zZ mt n (pc + 1) L (.double FP.dconst0 :: r) σ) : jY g zZ mt n pc L (r) σ := by
  intro p e s m as below meth c H locs ls XK hP hS hl
  have X := XK.1
  exact lv_dconst0 X.1 X.2.1 d (k p e s m as below meth c H locs ls XK hP hS hl)
theorem jy_ladd {x y : Int64} (d : decode mt.2.1 pc = .ok (.ladd, 1)) (k : jY g zZ mt n (pc + 1) L (.long (x + y) :: r) σ) : jY g zZ mt n pc L (.long y :: .long x :: r) σ := by
  intro p e s m as below meth c H locs ls XK hP hS hl
  have X := XK.1
  exact lv_ladd X.1 X.2.1 d (k p e s m as below meth c H locs ls XK hP hS hl)
theorem jy_lmul {x y : Int64} (d : decode mt.2.1 pc = .ok (.lmul, 1)) (k : jY g zZ mt n (pc + 1) L (.long (x * y) :: r) σ) : jY g zZ mt n pc L (.long y :: .long x :: r) σ := by
  intro p e s m as below meth c H locs ls XK hP hS hl
  have X := XK.1
  exact lv_lmul X.1 X.2.1 d (k p e s m as below meth c H locs ls XK hP hS hl)
theorem jy_ldiv {x y : Int64} (h : ¬ y = 0) (d : decode mt.2.1 pc = .ok (.ldiv, 1)) (k : jY g zZ mt n (pc + 1) L (.long (x / y) :: r) σ) : jY g zZ mt n pc L (.long y :: .long x :: r) σ := by
  intro p e s m as below meth c H locs ls XK hP hS hl
  have X := XK.1
  exact lv_ldiv X.1 X.2.1 d h (k p e s m as below meth c H locs ls XK hP hS hl)
theorem jy_lrem {x y : Int64} (h : ¬ y = 0) (d : decode mt.2.1 pc = .ok (.lrem, 1)) (k : jY g zZ mt n (pc + 1) L (.long (x - x / y * y) :: r) σ) : jY g zZ mt n pc L (.long y :: .long x :: r) σ := by
  intro p e s m as below meth c H locs ls XK hP hS hl
  have X := XK.1
  exact lv_lrem X.1 X.2.1 d h (k p e s m as below meth c H locs ls XK hP hS hl)
theorem jy_lcmp {x y : Int64} (d : decode mt.2.1 pc = .ok (.lcmp, 1)) (k : jY g zZ mt n (pc + 1) L (.int (lg_cmp x y) :: r) σ) : jY g zZ mt n pc L (.long y :: .long x :: r) σ := by
  intro p e s m as below meth c H locs ls XK hP hS hl
  have X := XK.1
  exact W.lcmp X.1 X.2.1 d (k p e s m as below meth c H locs ls XK hP hS hl)
theorem jy_dup {v : Value} (h : v.category = 1) (d : decode mt.2.1 pc = .ok (.dup, 1)) (k : jY g zZ mt n (pc + 1) L (v :: v :: r) σ) : jY g zZ mt n pc L (v :: r) σ := by
  intro p e s m as below meth c H locs ls XK hP hS hl
  have X := XK.1
  exact lv_dup X.1 X.2.1 d (by rw [jrl_cat]; exact h) (k p e s m as below meth c H locs ls XK hP hS hl)
theorem jy_dup2 {v w : Value} (h : v.category = 1) (h2 : w.category = 1) (d : decode mt.2.1 pc = .ok (.dup2, 1)) (k : jY g zZ mt n (pc + 1) L (v :: w :: v :: w :: r) σ) : jY g zZ mt n pc L (v :: w :: r) σ := by
  intro p e s m as below meth c H locs ls XK hP hS hl
  have X := XK.1
  exact lv_dup2_11 X.1 X.2.1 d (by rw [jrl_cat]; exact h) (by rw [jrl_cat]; exact h2) (k p e s m as below meth c H locs ls XK hP hS hl)
theorem jy_pop {v : Value} (h : v.category = 1) (d : decode mt.2.1 pc = .ok (.pop, 1)) (k : jY g zZ mt n (pc + 1) L (r) σ) : jY g zZ mt n pc L (v :: r) σ := by
  intro p e s m as below meth c H locs ls XK hP hS hl
  have X := XK.1
  exact lv_pop X.1 X.2.1 d (by rw [jrl_cat]; exact h) (k p e s m as below meth c H locs ls XK hP hS hl)
theorem jy_if {cd : ClassFile.Cond} {o : Int} {tg : Nat} {x : Int32} (d : decode mt.2.1 pc = .ok (.ifCond cd o, 3)) (ht : (pc : Int) + o = (tg : Int)) (k : jcmp cd x 0 (jY g zZ mt n tg L r σ) (jY g zZ mt n (pc + 3) L r σ)) : jY g zZ mt n pc L (.int x :: r) σ := by
  intro p e s m as below meth c H locs ls XK hP hS hl
  have X := XK.1
  have A : ∀ {q : Nat}, jY g zZ mt n q L r σ → W p g.1 e zZ.1 s m as below meth c H locs zZ.2.1 zZ.2.2.1 (zZ.2.2.2.1 below as s) (F0 m q ls (r.map (jrl g))) := fun k => k p e s m as below meth c H locs ls XK hP hS hl
  cases cd with
  | eq => exact lv_if_eq X.1 X.2.1 d ht (fun h => A (k.1 h)) (fun h => A (k.2 h))
  | ne => exact lv_if_ne X.1 X.2.1 d ht (fun h => A (k.1 h)) (fun h => A (k.2 h))
  | lt => exact lv_if_lt X.1 X.2.1 d ht (fun h => A (k.1 h)) (fun h => A (k.2 h))
  | ge => exact lv_if_ge X.1 X.2.1 d ht (fun h => A (k.1 (by first | exact h | exact Int32.not_lt.mpr h | simpa using h))) (fun h => A (k.2 (by first | exact h | exact Int32.not_le.mp h | simpa using h)))
  | gt => exact lv_if_gt X.1 X.2.1 d ht (fun h => A (k.1 (by first | exact h | exact Int32.not_le.mpr h | simpa using h))) (fun h => A (k.2 (by first | exact h | exact Int32.not_lt.mp h | simpa using h)))
  | le => exact lv_if_le X.1 X.2.1 d ht (fun h => A (k.1 h)) (fun h => A (k.2 h))
theorem jy_icmp {cd : ClassFile.Cond} {o : Int} {tg : Nat} {x y : Int32} (d : decode mt.2.1 pc = .ok (.if_icmp cd o, 3)) (ht : (pc : Int) + o = (tg : Int)) (k : jcmp cd x y (jY g zZ mt n tg L r σ) (jY g zZ mt n (pc + 3) L r σ)) : jY g zZ mt n pc L (.int y :: .int x :: r) σ := by
  intro p e s m as below meth c H locs ls XK hP hS hl
  have X := XK.1
  have A : ∀ {q : Nat}, jY g zZ mt n q L r σ → W p g.1 e zZ.1 s m as below meth c H locs zZ.2.1 zZ.2.2.1 (zZ.2.2.2.1 below as s) (F0 m q ls (r.map (jrl g))) := fun k => k p e s m as below meth c H locs ls XK hP hS hl
  cases cd with
  | eq => exact lv_icmp_eq X.1 X.2.1 d ht (fun h => A (k.1 h)) (fun h => A (k.2 h))
  | ne => exact lv_icmp_ne X.1 X.2.1 d ht (fun h => A (k.1 h)) (fun h => A (k.2 h))
  | lt => exact lv_icmp_lt X.1 X.2.1 d ht (fun h => A (k.1 h)) (fun h => A (k.2 h))
  | ge => exact lv_icmp_ge X.1 X.2.1 d ht (fun h => A (k.1 (by first | exact h | exact Int32.not_lt.mpr h | simpa using h))) (fun h => A (k.2 (by first | exact h | exact Int32.not_le.mp h | simpa using h)))
  | gt => exact lv_icmp_gt X.1 X.2.1 d ht (fun h => A (k.1 (by first | exact h | exact Int32.not_le.mpr h | simpa using h))) (fun h => A (k.2 (by first | exact h | exact Int32.not_lt.mp h | simpa using h)))
  | le => exact lv_icmp_le X.1 X.2.1 d ht (fun h => A (k.1 h)) (fun h => A (k.2 h))
theorem jy_goto {o : Int} {tg : Nat} (d : decode mt.2.1 pc = .ok (.goto o, 3)) (ht : (pc : Int) + o = (tg : Int)) (k : jY g zZ mt n tg L r σ) : jY g zZ mt n pc L r σ := by
  intro p e s m as below meth c H locs ls XK hP hS hl
  have X := XK.1
  exact lv_goto X.1 X.2.1 d ht (k p e s m as below meth c H locs ls XK hP hS hl)
theorem jy_ifnonnull {o : Int} {tg a : Nat} (d : decode mt.2.1 pc = .ok (.ifnonnull o, 3)) (ht : (pc : Int) + o = (tg : Int)) (k : jY g zZ mt n tg L r σ) : jY g zZ mt n pc L (.ref a :: r) σ := by
  intro p e s m as below meth c H locs ls XK hP hS hl
  have X := XK.1
  exact lv_ifnonnull X.1 X.2.1 d ht (k p e s m as below meth c H locs ls XK hP hS hl)
theorem jy_ifnull {o : Int} {a : Nat} (d : decode mt.2.1 pc = .ok (.ifnull o, 3)) (k : jY g zZ mt n (pc + 3) L r σ) : jY g zZ mt n pc L (.ref a :: r) σ := by
  intro p e s m as below meth c H locs ls XK hP hS hl
  have X := XK.1
  exact lv_ifnull X.1 X.2.1 d (k p e s m as below meth c H locs ls XK hP hS hl)
theorem jy_iald {a : Nat} {j : Int32} (ha : jarr a 1 0 = true) (hj : jin j (jlen a)) (d : decode mt.2.1 pc = .ok (.iaload, 1)) (k : jY g zZ mt n (pc + 1) L (.int (σ.1 a j.toNatClampNeg) :: r) σ) : jY g zZ mt n pc L (.int j :: .ref a :: r) σ := by
  intro p e s m as below meth c H locs ls XK hP hS hl
  have X := XK.1
  obtain ⟨h1, h2, h3⟩ := jarr_spec ha
  have hg := jws_get g σ h1
  rw [jcell_1 h2, h3] at hg
  exact va_iald X.1 X.2.1 X.2.2.2.2.2.2.2.2.1 hP a 0 hg (jtys_get g (by decide)) (jin_vp hj) d (k p e s m as below meth c H locs ls XK hP hS hl)
theorem jy_bald {a : Nat} {j : Int32} (ha : jarr a 1 1 = true) (hj : jin j (jlen a)) (d : decode mt.2.1 pc = .ok (.baload, 1)) (k : jY g zZ mt n (pc + 1) L (.int (σ.1 a j.toNatClampNeg) :: r) σ) : jY g zZ mt n pc L (.int j :: .ref a :: r) σ := by
  intro p e s m as below meth c H locs ls XK hP hS hl
  have X := XK.1
  obtain ⟨h1, h2, h3⟩ := jarr_spec ha
  have hg := jws_get g σ h1
  rw [jcell_1 h2, h3] at hg
  exact va_bald X.1 X.2.1 X.2.2.2.2.2.2.2.2.1 hP a 1 hg (jtys_get g (by decide)) (jin_vp hj) d (k p e s m as below meth c H locs ls XK hP hS hl)
theorem jy_zald {a : Nat} {j : Int32} (ha : jarr a 1 3 = true) (hj : jin j (jlen a)) (d : decode mt.2.1 pc = .ok (.baload, 1)) (k : jY g zZ mt n (pc + 1) L (.int (σ.1 a j.toNatClampNeg) :: r) σ) : jY g zZ mt n pc L (.int j :: .ref a :: r) σ := by
  intro p e s m as below meth c H locs ls XK hP hS hl
  have X := XK.1
  obtain ⟨h1, h2, h3⟩ := jarr_spec ha
  have hg := jws_get g σ h1
  rw [jcell_1 h2, h3] at hg
  exact va_zald X.1 X.2.1 X.2.2.2.2.2.2.2.2.1 hP a 3 hg (jtys_get g (by decide)) (jin_vp hj) d (k p e s m as below meth c H locs ls XK hP hS hl)
theorem jy_cald {a : Nat} {j : Int32} (ha : jarr a 1 2 = true) (hj : jin j (jlen a)) (d : decode mt.2.1 pc = .ok (.caload, 1)) (k : jY g zZ mt n (pc + 1) L (.int (σ.1 a j.toNatClampNeg) :: r) σ) : jY g zZ mt n pc L (.int j :: .ref a :: r) σ := by
  intro p e s m as below meth c H locs ls XK hP hS hl
  have X := XK.1
  obtain ⟨h1, h2, h3⟩ := jarr_spec ha
  have hg := jws_get g σ h1
  rw [jcell_1 h2, h3] at hg
  exact va_cald X.1 X.2.1 X.2.2.2.2.2.2.2.2.1 hP a 2 hg (jtys_get g (by decide)) (jin_vp hj) d (k p e s m as below meth c H locs ls XK hP hS hl)
theorem jy_lald {a : Nat} {j : Int32} (ha : jarr a 2 4 = true) (hj : jin j (jlen a)) (d : decode mt.2.1 pc = .ok (.laload, 1)) (k : jY g zZ mt n (pc + 1) L (.long (σ.2.1 a j.toNatClampNeg) :: r) σ) : jY g zZ mt n pc L (.int j :: .ref a :: r) σ := by
  intro p e s m as below meth c H locs ls XK hP hS hl
  have X := XK.1
  obtain ⟨h1, h2, h3⟩ := jarr_spec ha
  have hg := jws_get g σ h1
  rw [jcell_2 h2, h3] at hg
  exact va_lald X.1 X.2.1 X.2.2.2.2.2.2.2.2.1 hP a 4 hg (jtys_get g (by decide)) (jin_vp hj) d (k p e s m as below meth c H locs ls XK hP hS hl)
theorem jy_iast {a : Nat} {j : Int32} {x : Int32} (ha : jarr a 1 0 = true) (hj : jin j (jlen a)) (d : decode mt.2.1 pc = .ok (.iastore, 1)) (k : jY g zZ mt n (pc + 1) L r (jup σ a j.toNatClampNeg x)) : jY g zZ mt n pc L (.int x :: .int j :: .ref a :: r) σ := by
  intro p e s m as below meth c H locs ls XK hP hS hl
  have X := XK.1
  obtain ⟨h1, h2, h3⟩ := jarr_spec ha
  have hg := jws_get g σ h1
  rw [jcell_1 h2, h3] at hg
  refine va_iast X.1 X.2.1 X.2.2.2.2.2.2.2.2.1 hP (jD g X.2.2.2.2.2.2.2.1 σ) hS a 0 hg (jtys_get g (by decide)) (jin_vp hj) d (fun H1 locs1 hP1 hD1 hS1 => ?_)
  have e1 : (jws g σ).set a (jad g a, .inl (jta g 0, (jshp a).2.2.1, .inl (upd (σ.1 a) j.toNatClampNeg x))) = jws g (jup σ a j.toNatClampNeg x) := by
    refine jws_set g h1 ?_ (fun q hq => jup_other q hq)
    rw [jcell_1 h2, h3]
    congr 4
    funext z
    simp [jup, upd]
  rw [e1] at hP1
  exact k p e s m as below meth c H1 locs1 ls XK hP1 hS1 hl
theorem jy_bast {a : Nat} {j : Int32} {x : Int32} (ha : jarr a 1 1 = true) (hj : jin j (jlen a)) (d : decode mt.2.1 pc = .ok (.bastore, 1)) (k : jY g zZ mt n (pc + 1) L r (jup σ a j.toNatClampNeg (vp_nar .byte x))) : jY g zZ mt n pc L (.int x :: .int j :: .ref a :: r) σ := by
  intro p e s m as below meth c H locs ls XK hP hS hl
  have X := XK.1
  obtain ⟨h1, h2, h3⟩ := jarr_spec ha
  have hg := jws_get g σ h1
  rw [jcell_1 h2, h3] at hg
  refine va_bast X.1 X.2.1 X.2.2.2.2.2.2.2.2.1 hP (jD g X.2.2.2.2.2.2.2.1 σ) hS a 1 hg (jtys_get g (by decide)) (jin_vp hj) d (fun H1 locs1 hP1 hD1 hS1 => ?_)
  have e1 : (jws g σ).set a (jad g a, .inl (jta g 1, (jshp a).2.2.1, .inl (upd (σ.1 a) j.toNatClampNeg (vp_nar .byte x)))) = jws g (jup σ a j.toNatClampNeg (vp_nar .byte x)) := by
    refine jws_set g h1 ?_ (fun q hq => jup_other q hq)
    rw [jcell_1 h2, h3]
    congr 4
    funext z
    simp [jup, upd]
  rw [e1] at hP1
  exact k p e s m as below meth c H1 locs1 ls XK hP1 hS1 hl
theorem jy_zast {a : Nat} {j : Int32} {x : Int32} (ha : jarr a 1 3 = true) (hj : jin j (jlen a)) (d : decode mt.2.1 pc = .ok (.bastore, 1)) (k : jY g zZ mt n (pc + 1) L r (jup σ a j.toNatClampNeg (vp_nar .boolean x))) : jY g zZ mt n pc L (.int x :: .int j :: .ref a :: r) σ := by
  intro p e s m as below meth c H locs ls XK hP hS hl
  have X := XK.1
  obtain ⟨h1, h2, h3⟩ := jarr_spec ha
  have hg := jws_get g σ h1
  rw [jcell_1 h2, h3] at hg
  refine va_zast X.1 X.2.1 X.2.2.2.2.2.2.2.2.1 hP (jD g X.2.2.2.2.2.2.2.1 σ) hS a 3 hg (jtys_get g (by decide)) (jin_vp hj) d (fun H1 locs1 hP1 hD1 hS1 => ?_)
  have e1 : (jws g σ).set a (jad g a, .inl (jta g 3, (jshp a).2.2.1, .inl (upd (σ.1 a) j.toNatClampNeg (vp_nar .boolean x)))) = jws g (jup σ a j.toNatClampNeg (vp_nar .boolean x)) := by
    refine jws_set g h1 ?_ (fun q hq => jup_other q hq)
    rw [jcell_1 h2, h3]
    congr 4
    funext z
    simp [jup, upd]
  rw [e1] at hP1
  exact k p e s m as below meth c H1 locs1 ls XK hP1 hS1 hl
theorem jy_cast {a : Nat} {j : Int32} {x : Int32} (ha : jarr a 1 2 = true) (hj : jin j (jlen a)) (d : decode mt.2.1 pc = .ok (.castore, 1)) (k : jY g zZ mt n (pc + 1) L r (jup σ a j.toNatClampNeg (vp_nar .char x))) : jY g zZ mt n pc L (.int x :: .int j :: .ref a :: r) σ := by
  intro p e s m as below meth c H locs ls XK hP hS hl
  have X := XK.1
  obtain ⟨h1, h2, h3⟩ := jarr_spec ha
  have hg := jws_get g σ h1
  rw [jcell_1 h2, h3] at hg
  refine va_cast X.1 X.2.1 X.2.2.2.2.2.2.2.2.1 hP (jD g X.2.2.2.2.2.2.2.1 σ) hS a 2 hg (jtys_get g (by decide)) (jin_vp hj) d (fun H1 locs1 hP1 hD1 hS1 => ?_)
  have e1 : (jws g σ).set a (jad g a, .inl (jta g 2, (jshp a).2.2.1, .inl (upd (σ.1 a) j.toNatClampNeg (vp_nar .char x)))) = jws g (jup σ a j.toNatClampNeg (vp_nar .char x)) := by
    refine jws_set g h1 ?_ (fun q hq => jup_other q hq)
    rw [jcell_1 h2, h3]
    congr 4
    funext z
    simp [jup, upd]
  rw [e1] at hP1
  exact k p e s m as below meth c H1 locs1 ls XK hP1 hS1 hl
theorem jy_last {a : Nat} {j : Int32} {x : Int64} (ha : jarr a 2 4 = true) (hj : jin j (jlen a)) (d : decode mt.2.1 pc = .ok (.lastore, 1)) (k : jY g zZ mt n (pc + 1) L r (jupL σ a j.toNatClampNeg x)) : jY g zZ mt n pc L (.long x :: .int j :: .ref a :: r) σ := by
  intro p e s m as below meth c H locs ls XK hP hS hl
  have X := XK.1
  obtain ⟨h1, h2, h3⟩ := jarr_spec ha
  have hg := jws_get g σ h1
  rw [jcell_2 h2, h3] at hg
  refine va_last X.1 X.2.1 X.2.2.2.2.2.2.2.2.1 hP (jD g X.2.2.2.2.2.2.2.1 σ) hS a 4 hg (jtys_get g (by decide)) (jin_vp hj) d (fun H1 locs1 hP1 hD1 hS1 => ?_)
  have e1 : (jws g σ).set a (jad g a, .inl (jta g 4, (jshp a).2.2.1, .inr (.inl (vp_updL (σ.2.1 a) j.toNatClampNeg x)))) = jws g (jupL σ a j.toNatClampNeg x) := by
    refine jws_set g h1 ?_ (fun q hq => jupL_other q hq)
    rw [jcell_2 h2, h3]
    congr 5
    funext z
    simp [jupL, vp_updL]
  rw [e1] at hP1
  exact k p e s m as below meth c H1 locs1 ls XK hP1 hS1 hl
theorem jy_aald {a t : Nat} {j : Int32} (ha : jarr a 4 t = true) (ht : t = 6 ∨ t = 7) (hj : jin j (jlen a)) (d : decode mt.2.1 pc = .ok (.aaload, 1)) (k : jY g zZ mt n (pc + 1) L (.ref (jelt a j.toNatClampNeg) :: r) σ) : jY g zZ mt n pc L (.int j :: .ref a :: r) σ := by
  intro p e s m as below meth c H locs ls XK hP hS hl
  have X := XK.1
  obtain ⟨h1, h2, h3⟩ := jarr_spec ha
  have hg := jws_get g σ h1
  rw [jcell_4 h2] at hg
  have hc := hP a _ hg
  have ht8 : t < 8 := by omega
  have hK := (X.2.2.2.2.2.2.2.2.1.2 t _ (jtys_get g ht8)).1
  have hv := jin_vp hj
  have hlt : j.toNatClampNeg < (jshp a).2.2.1 := Nat.not_le.mp fun q => hv (Or.inr q)
  rw [h3] at hc
  exact W.aald (v := .ref (jad g (jelt a j.toNatClampNeg))) (ty := jtyL.getD t .int) X.1 X.2.1 hc (hK (jshp a).2.2.1 (fun i => va_rf (some (jad g (jelt a i))))) (by rcases ht with rfl | rfl <;> rfl) (fun q => by cases q) (by show ¬ (j < 0 ∨ (arrV _ _ _).slots.size ≤ _); rw [arrV_size]; exact hv) (by show (arrV _ _ _).slots[_]? = _; rw [arrV_read _ _ hlt]; rfl) rfl rfl d (k p e s m as below meth c H locs ls XK hP hS hl)
theorem jy_alen {a kind t : Nat} (ha : jarr a kind t = true) (ht : t < 8) (hk : kind = 1 ∨ kind = 4) (d : decode mt.2.1 pc = .ok (.arraylength, 1)) (k : jY g zZ mt n (pc + 1) L (.int (Int32.ofNat (jlen a)) :: r) σ) : jY g zZ mt n pc L (.ref a :: r) σ := by
  intro p e s m as below meth c H locs ls XK hP hS hl
  have X := XK.1
  obtain ⟨h1, h2, h3⟩ := jarr_spec ha
  have hg := jws_get g σ h1
  rcases hk with rfl | rfl
  · rw [jcell_1 h2, h3] at hg
    exact va_alen X.1 X.2.1 X.2.2.2.2.2.2.2.2.1 hP a t hg (jtys_get g ht) rfl d (k p e s m as below meth c H locs ls XK hP hS hl)
  · rw [jcell_4 h2, h3] at hg
    exact va_alen X.1 X.2.1 X.2.2.2.2.2.2.2.2.1 hP a t hg (jtys_get g ht) rfl d (k p e s m as below meth c H locs ls XK hP hS hl)
theorem jy_geti {a ci f tc j : Nat} (hf : jFok mt.1.cls (j, ci, f, tc)) (ho : jobj a ci f 0 = true) (d : decode mt.2.1 pc = .ok (.getfield j, 3)) (k : jY g zZ mt n (pc + 3) L (.int (σ.1 a f) :: r) σ) : jY g zZ mt n pc L (.ref a :: r) σ := by
  intro p e s m as below meth c H locs ls XK hP hS hl
  have X := XK.1
  obtain ⟨C, T, N, ⟨q1, q2, q3, q4, q5⟩, hk, hty, hlk⟩ := hf
  obtain ⟨h1, h2, h3, h4, h5⟩ := jobj_spec ho
  have hg := jws_get g σ h1
  rw [jcell_o h2, h3] at hg
  have hv : (jfs g σ a (jshp a).2.2.2)[f]? = some (.int (σ.1 a f)) := by
    rw [jfs_get g σ a h4]
    unfold jtc at h5
    unfold jfv
    generalize (jshp a).2.2.2.getD f 0 = cc at h5 ⊢
    match cc, h5 with
    | 0, h5 => first | rfl | (exfalso; simp at h5)
    | 1, h5 => first | rfl | (exfalso; simp at h5)
    | cc + 2, h5 => first | rfl | (exfalso; simp at h5)
  rcases hlk with hlk | ⟨host, hlk⟩
  · exact va_get X.1 X.2.1 X.2.2.2.2.2.2.1 (fun w hw => List.mem_cons_of_mem _ (q2 w hw)) X.2.2.2.2.2.1 X.2.2.2.2.2.2.2.2.1 hP a hg q1 f hk (X.2.2.2.2.2.2.1 _ (List.mem_cons_of_mem _ hlk)) (fun x hx => by rw [← q5 f hk]; exact hx) hv d (k p e s m as below meth c H locs ls XK hP hS hl)
  · exact va_getN X.1 X.2.1 X.2.2.2.2.2.2.1 (fun w hw => List.mem_cons_of_mem _ (q2 w hw)) X.2.2.2.2.2.1 X.2.2.2.2.2.2.2.2.1 hP a hg q1 f hk (va_Nw.use rfl (X.2.2.2.2.2.2.2.2.2.1 _ hlk)) (fun x hx => by rw [← q5 f hk]; exact hx) hv d (k p e s m as below meth c H locs ls XK hP hS hl)
theorem jy_getl {a ci f tc j : Nat} (hf : jFok mt.1.cls (j, ci, f, tc)) (ho : jobj a ci f 1 = true) (d : decode mt.2.1 pc = .ok (.getfield j, 3)) (k : jY g zZ mt n (pc + 3) L (.long (σ.2.1 a f) :: r) σ) : jY g zZ mt n pc L (.ref a :: r) σ := by
  intro p e s m as below meth c H locs ls XK hP hS hl
  have X := XK.1
  obtain ⟨C, T, N, ⟨q1, q2, q3, q4, q5⟩, hk, hty, hlk⟩ := hf
  obtain ⟨h1, h2, h3, h4, h5⟩ := jobj_spec ho
  have hg := jws_get g σ h1
  rw [jcell_o h2, h3] at hg
  have hv : (jfs g σ a (jshp a).2.2.2)[f]? = some (.long (σ.2.1 a f)) := by
    rw [jfs_get g σ a h4]
    unfold jtc at h5
    unfold jfv
    generalize (jshp a).2.2.2.getD f 0 = cc at h5 ⊢
    match cc, h5 with
    | 0, h5 => first | rfl | (exfalso; simp at h5)
    | 1, h5 => first | rfl | (exfalso; simp at h5)
    | cc + 2, h5 => first | rfl | (exfalso; simp at h5)
  rcases hlk with hlk | ⟨host, hlk⟩
  · exact va_get X.1 X.2.1 X.2.2.2.2.2.2.1 (fun w hw => List.mem_cons_of_mem _ (q2 w hw)) X.2.2.2.2.2.1 X.2.2.2.2.2.2.2.2.1 hP a hg q1 f hk (X.2.2.2.2.2.2.1 _ (List.mem_cons_of_mem _ hlk)) (fun x hx => by rw [← q5 f hk]; exact hx) hv d (k p e s m as below meth c H locs ls XK hP hS hl)
  · exact va_getN X.1 X.2.1 X.2.2.2.2.2.2.1 (fun w hw => List.mem_cons_of_mem _ (q2 w hw)) X.2.2.2.2.2.1 X.2.2.2.2.2.2.2.2.1 hP a hg q1 f hk (va_Nw.use rfl (X.2.2.2.2.2.2.2.2.2.1 _ hlk)) (fun x hx => by rw [← q5 f hk]; exact hx) hv d (k p e s m as below meth c H locs ls XK hP hS hl)
theorem jy_getr {a ci f tc j : Nat} (hf : jFok mt.1.cls (j, ci, f, tc)) (ho : jobj a ci f 2 = true) (d : decode mt.2.1 pc = .ok (.getfield j, 3)) (k : jY g zZ mt n (pc + 3) L (.ref (jref a f) :: r) σ) : jY g zZ mt n pc L (.ref a :: r) σ := by
  intro p e s m as below meth c H locs ls XK hP hS hl
  have X := XK.1
  obtain ⟨C, T, N, ⟨q1, q2, q3, q4, q5⟩, hk, hty, hlk⟩ := hf
  obtain ⟨h1, h2, h3, h4, h5⟩ := jobj_spec ho
  have hg := jws_get g σ h1
  rw [jcell_o h2, h3] at hg
  have hv : (jfs g σ a (jshp a).2.2.2)[f]? = some (.ref (jad g (jref a f))) := by
    rw [jfs_get g σ a h4]
    unfold jtc at h5
    unfold jfv jref
    generalize (jshp a).2.2.2.getD f 0 = cc at h5 ⊢
    match cc, h5 with
    | 0, h5 => first | rfl | (exfalso; simp at h5)
    | 1, h5 => first | rfl | (exfalso; simp at h5)
    | cc + 2, h5 => first | rfl | (exfalso; simp at h5)
  rcases hlk with hlk | ⟨host, hlk⟩
  · exact va_get X.1 X.2.1 X.2.2.2.2.2.2.1 (fun w hw => List.mem_cons_of_mem _ (q2 w hw)) X.2.2.2.2.2.1 X.2.2.2.2.2.2.2.2.1 hP a hg q1 f hk (X.2.2.2.2.2.2.1 _ (List.mem_cons_of_mem _ hlk)) (fun x hx => by rw [← q5 f hk]; exact hx) hv d (k p e s m as below meth c H locs ls XK hP hS hl)
  · exact va_getN X.1 X.2.1 X.2.2.2.2.2.2.1 (fun w hw => List.mem_cons_of_mem _ (q2 w hw)) X.2.2.2.2.2.1 X.2.2.2.2.2.2.2.2.1 hP a hg q1 f hk (va_Nw.use rfl (X.2.2.2.2.2.2.2.2.2.1 _ hlk)) (fun x hx => by rw [← q5 f hk]; exact hx) hv d (k p e s m as below meth c H locs ls XK hP hS hl)
theorem jy_puti {a ci f j : Nat} {x : Int32} (hf : jFok mt.1.cls (j, ci, f, 0)) (ho : jobj a ci f 0 = true) (d : decode mt.2.1 pc = .ok (.putfield j, 3)) (k : jY g zZ mt n (pc + 3) L r (jup σ a f x)) : jY g zZ mt n pc L (.int x :: .ref a :: r) σ := by
  intro p e s m as below meth c H locs ls XK hP hS hl
  have X := XK.1
  obtain ⟨C, T, N, ⟨q1, q2, ⟨ty0, q3⟩, q4, q5⟩, hk, hty, hlk⟩ := hf
  obtain ⟨h1, h2, h3, h4, h5⟩ := jobj_spec ho
  dsimp only at hk hty hlk q1
  simp only [jty, Bool.and_eq_true, beq_iff_eq, Bool.not_eq_true'] at hty
  have hg := jws_get g σ h1
  rw [jcell_o h2, h3] at hg
  have hz : (jshp a).2.2.2.getD f 0 = 0 := by
    unfold jtc at h5
    generalize (jshp a).2.2.2.getD f 0 = cc at h5 ⊢
    match cc, h5 with
    | 0, h5 => first | rfl | (exfalso; simp at h5)
    | 1, h5 => first | rfl | (exfalso; simp at h5)
    | cc + 2, h5 => first | rfl | (exfalso; simp at h5)
  have hd : parseFieldDescriptor (T f).2.2.1 = some .int := by rw [hty.1]; decide +kernel
  have e1 : (jws g σ).set a (jad g a, .inr (ci, (jfs g σ a (jshp a).2.2.2).set f (.int x))) = jws g (jup σ a f x) := by
    refine jws_set g h1 ?_ (fun q hq => jup_other q hq)
    rw [jcell_o h2, h3, jfs_up g σ a h4 hz]
  have KK : ∀ (H1 : Heap) (locs1 : List Loc), va_P g.2.1 vwCl ((jws g σ).set a (jad g a, .inr (ci, (jfs g σ a (jshp a).2.2.2).set f (.int x)))) H1 → va_D (jA g) ((jws g σ).set a (jad g a, .inr (ci, (jfs g σ a (jshp a).2.2.2).set f (.int x)))) → va_S (jA g) s.heap H1 locs1 → W p g.1 e zZ.1 s m as below meth c H1 locs1 zZ.2.1 zZ.2.2.1 (zZ.2.2.2.1 below as s) (F0 m (pc + 3) ls (r.map (jrl g))) := by
    intro H1 locs1 hP1 hD1 hS1
    rw [e1] at hP1
    exact k p e s m as below meth c H1 locs1 ls XK hP1 hS1 hl
  rcases hlk with hlk | ⟨host, hlk⟩
  · exact va_put X.1 X.2.1 X.2.2.2.2.2.2.1 (fun w hw => List.mem_cons_of_mem _ (q2 w hw)) ty0 q3 q4 X.2.2.2.2.2.1 X.2.2.2.2.2.2.2.2.1 hP (jD g X.2.2.2.2.2.2.2.1 σ) hS a hg q1 f hk (X.2.2.2.2.2.2.1 _ (List.mem_cons_of_mem _ hlk)) (fun x hx => by rw [← q5 f hk]; exact hx) hty.2 hd rfl rfl (by rw [jfs_len]; exact h4) d KK
  · exact va_putN X.1 X.2.1 X.2.2.2.2.2.2.1 (fun w hw => List.mem_cons_of_mem _ (q2 w hw)) ty0 q3 q4 X.2.2.2.2.2.1 X.2.2.2.2.2.2.2.2.1 hP (jD g X.2.2.2.2.2.2.2.1 σ) hS a hg q1 f hk (va_Nw.use rfl (X.2.2.2.2.2.2.2.2.2.1 _ hlk)) (fun x hx => by rw [← q5 f hk]; exact hx) hty.2 hd rfl rfl (by rw [jfs_len]; exact h4) d KK
theorem jy_putz {a ci f j : Nat} {x : Int32} (hx : x = 0 ∨ x = 1) (hf : jFok mt.1.cls (j, ci, f, 3)) (ho : jobj a ci f 0 = true) (d : decode mt.2.1 pc = .ok (.putfield j, 3)) (k : jY g zZ mt n (pc + 3) L r (jup σ a f x)) : jY g zZ mt n pc L (.int x :: .ref a :: r) σ := by
  intro p e s m as below meth c H locs ls XK hP hS hl
  have X := XK.1
  obtain ⟨C, T, N, ⟨q1, q2, ⟨ty0, q3⟩, q4, q5⟩, hk, hty, hlk⟩ := hf
  obtain ⟨h1, h2, h3, h4, h5⟩ := jobj_spec ho
  dsimp only at hk hty hlk q1
  simp only [jty, Bool.and_eq_true, beq_iff_eq, Bool.not_eq_true'] at hty
  have hg := jws_get g σ h1
  rw [jcell_o h2, h3] at hg
  have hz : (jshp a).2.2.2.getD f 0 = 0 := by
    unfold jtc at h5
    generalize (jshp a).2.2.2.getD f 0 = cc at h5 ⊢
    match cc, h5 with
    | 0, h5 => first | rfl | (exfalso; simp at h5)
    | 1, h5 => first | rfl | (exfalso; simp at h5)
    | cc + 2, h5 => first | rfl | (exfalso; simp at h5)
  have hd : parseFieldDescriptor (T f).2.2.1 = some .boolean := by rw [hty.1]; decide +kernel
  have e1 : (jws g σ).set a (jad g a, .inr (ci, (jfs g σ a (jshp a).2.2.2).set f (.int x))) = jws g (jup σ a f x) := by
    refine jws_set g h1 ?_ (fun q hq => jup_other q hq)
    rw [jcell_o h2, h3, jfs_up g σ a h4 hz]
  have KK : ∀ (H1 : Heap) (locs1 : List Loc), va_P g.2.1 vwCl ((jws g σ).set a (jad g a, .inr (ci, (jfs g σ a (jshp a).2.2.2).set f (.int x)))) H1 → va_D (jA g) ((jws g σ).set a (jad g a, .inr (ci, (jfs g σ a (jshp a).2.2.2).set f (.int x)))) → va_S (jA g) s.heap H1 locs1 → W p g.1 e zZ.1 s m as below meth c H1 locs1 zZ.2.1 zZ.2.2.1 (zZ.2.2.2.1 below as s) (F0 m (pc + 3) ls (r.map (jrl g))) := by
    intro H1 locs1 hP1 hD1 hS1
    rw [e1] at hP1
    exact k p e s m as below meth c H1 locs1 ls XK hP1 hS1 hl
  rcases hlk with hlk | ⟨host, hlk⟩
  · exact va_put X.1 X.2.1 X.2.2.2.2.2.2.1 (fun w hw => List.mem_cons_of_mem _ (q2 w hw)) ty0 q3 q4 X.2.2.2.2.2.1 X.2.2.2.2.2.2.2.2.1 hP (jD g X.2.2.2.2.2.2.2.1 σ) hS a hg q1 f hk (X.2.2.2.2.2.2.1 _ (List.mem_cons_of_mem _ hlk)) (fun x hx => by rw [← q5 f hk]; exact hx) hty.2 hd (by rcases hx with rfl | rfl <;> rfl) (by rcases hx with rfl | rfl <;> rfl) (by rw [jfs_len]; exact h4) d KK
  · exact va_putN X.1 X.2.1 X.2.2.2.2.2.2.1 (fun w hw => List.mem_cons_of_mem _ (q2 w hw)) ty0 q3 q4 X.2.2.2.2.2.1 X.2.2.2.2.2.2.2.2.1 hP (jD g X.2.2.2.2.2.2.2.1 σ) hS a hg q1 f hk (va_Nw.use rfl (X.2.2.2.2.2.2.2.2.2.1 _ hlk)) (fun x hx => by rw [← q5 f hk]; exact hx) hty.2 hd (by rcases hx with rfl | rfl <;> rfl) (by rcases hx with rfl | rfl <;> rfl) (by rw [jfs_len]; exact h4) d KK
theorem jy_putl {a ci f j : Nat} {x : Int64} (hf : jFok mt.1.cls (j, ci, f, 1)) (ho : jobj a ci f 1 = true) (d : decode mt.2.1 pc = .ok (.putfield j, 3)) (k : jY g zZ mt n (pc + 3) L r (jupL σ a f x)) : jY g zZ mt n pc L (.long x :: .ref a :: r) σ := by
  intro p e s m as below meth c H locs ls XK hP hS hl
  have X := XK.1
  obtain ⟨C, T, N, ⟨q1, q2, ⟨ty0, q3⟩, q4, q5⟩, hk, hty, hlk⟩ := hf
  obtain ⟨h1, h2, h3, h4, h5⟩ := jobj_spec ho
  dsimp only at hk hty hlk q1
  simp only [jty, Bool.and_eq_true, beq_iff_eq, Bool.not_eq_true'] at hty
  have hg := jws_get g σ h1
  rw [jcell_o h2, h3] at hg
  have hz : (jshp a).2.2.2.getD f 0 = 1 := by
    unfold jtc at h5
    generalize (jshp a).2.2.2.getD f 0 = cc at h5 ⊢
    match cc, h5 with
    | 0, h5 => first | rfl | (exfalso; simp at h5)
    | 1, h5 => first | rfl | (exfalso; simp at h5)
    | cc + 2, h5 => first | rfl | (exfalso; simp at h5)
  have hd : parseFieldDescriptor (T f).2.2.1 = some .long := by rw [hty.1]; decide +kernel
  have e1 : (jws g σ).set a (jad g a, .inr (ci, (jfs g σ a (jshp a).2.2.2).set f (.long x))) = jws g (jupL σ a f x) := by
    refine jws_set g h1 ?_ (fun q hq => jupL_other q hq)
    rw [jcell_o h2, h3, jfs_upL g σ a h4 hz]
  have KK : ∀ (H1 : Heap) (locs1 : List Loc), va_P g.2.1 vwCl ((jws g σ).set a (jad g a, .inr (ci, (jfs g σ a (jshp a).2.2.2).set f (.long x)))) H1 → va_D (jA g) ((jws g σ).set a (jad g a, .inr (ci, (jfs g σ a (jshp a).2.2.2).set f (.long x)))) → va_S (jA g) s.heap H1 locs1 → W p g.1 e zZ.1 s m as below meth c H1 locs1 zZ.2.1 zZ.2.2.1 (zZ.2.2.2.1 below as s) (F0 m (pc + 3) ls (r.map (jrl g))) := by
    intro H1 locs1 hP1 hD1 hS1
    rw [e1] at hP1
    exact k p e s m as below meth c H1 locs1 ls XK hP1 hS1 hl
  rcases hlk with hlk | ⟨host, hlk⟩
  · exact va_put X.1 X.2.1 X.2.2.2.2.2.2.1 (fun w hw => List.mem_cons_of_mem _ (q2 w hw)) ty0 q3 q4 X.2.2.2.2.2.1 X.2.2.2.2.2.2.2.2.1 hP (jD g X.2.2.2.2.2.2.2.1 σ) hS a hg q1 f hk (X.2.2.2.2.2.2.1 _ (List.mem_cons_of_mem _ hlk)) (fun x hx => by rw [← q5 f hk]; exact hx) hty.2 hd rfl rfl (by rw [jfs_len]; exact h4) d KK
  · exact va_putN X.1 X.2.1 X.2.2.2.2.2.2.1 (fun w hw => List.mem_cons_of_mem _ (q2 w hw)) ty0 q3 q4 X.2.2.2.2.2.1 X.2.2.2.2.2.2.2.2.1 hP (jD g X.2.2.2.2.2.2.2.1 σ) hS a hg q1 f hk (va_Nw.use rfl (X.2.2.2.2.2.2.2.2.2.1 _ hlk)) (fun x hx => by rw [← q5 f hk]; exact hx) hty.2 hd rfl rfl (by rw [jfs_len]; exact h4) d KK
theorem jy_iret {x : Int32} (hr : mt.2.2.2 = some .int) (h : jyP (some (.int x)) σ) (d : decode mt.2.1 pc = .ok (.ireturn, 1)) : jY g zZ mt n pc L [.int x] σ := False.elim h
theorem jy_zret {x : Int32} (hr : mt.2.2.2 = some .boolean) (hx : x = 0 ∨ x = 1) (h : jyP (some (.int x)) σ) (d : decode mt.2.1 pc = .ok (.ireturn, 1)) : jY g zZ mt n pc L [.int x] σ := False.elim h
theorem jy_vret (hr : mt.2.2.2 = none) (h : jyP none σ) (d : decode mt.2.1 pc = .ok (.return_, 1)) : jY g zZ mt n pc L [] σ := False.elim h
theorem jy_aret {a : Nat} {C : String} (hr : mt.2.2.2 = some (.object C)) (h : jyP (some (.ref a)) σ) (d : decode mt.2.1 pc = .ok (.areturn, 1)) : jY g zZ mt n pc L [.ref a] σ := False.elim h
theorem jy_dret {x : UInt64} (hr : mt.2.2.2 = some .double) (h : jyP (some (.double x)) σ) (d : decode mt.2.1 pc = .ok (.dreturn, 1)) : jY g zZ mt n pc L [.double x] σ := False.elim h
end JSY
section JVY
variable {g : jG} {mt : jMt} {n : Nat} {zZ : jZ}
theorem jyt_ok {F : List (Nat × Nat × Nat × Nat)} {C2 : List (Nat × Int64)} {pc nx tg : Nat} {i : Instr} {k : Int32} {L : List (Nat × Value)} {st : List Value} {σ : jM} {K : Nat → List (Nat × Value) → List Value → jM → Prop} {Z : Prop}
    (hF : ∀ q ∈ F, jFok mt.1.cls q) (hC2 : ∀ q ∈ C2, Cond.constantLong mt.1.cls q.1 q.2 ∈ jGw)
    (hd : decode mt.2.1 pc = .ok (i, jln i)) (hn : nx = pc + jln i) (ht : jtgt pc tg i = true) (hk : jcs k i = true) (hc : ∀ j, (i = .ldc j ∨ i = .ldc_w j) → Cond.constant mt.1.cls j k ∈ jGw)
    (hK : ∀ pc' L' st' σ', K pc' L' st' σ' → jY g zZ mt n pc' L' st' σ') (hZ : Z → jY g zZ mt n pc L st σ)
    (h : jst F C2 mt.2.2.1 mt.2.2.2 jyP i nx tg k L st σ K Z) : jY g zZ mt n pc L st σ := by
  subst hn
  cases i with
  | iconst z => exact jy_iconst (by simpa [jcs] using hk) hd (hK _ _ _ _ h)
  | bipush z => exact jy_bipush (by simpa [jcs] using hk) hd (hK _ _ _ _ h)
  | sipush z => exact jy_sipush (by simpa [jcs] using hk) hd (hK _ _ _ _ h)
  | ldc j => exact jy_ldc (hc j (Or.inl rfl)) hd (hK _ _ _ _ h)
  | ldc_w j => exact jy_ldcw (hc j (Or.inr rfl)) hd (hK _ _ _ _ h)
  | lconst z =>
    match z, hd, h with
    | 0, hd, h => exact jy_lconst rfl hd (hK _ _ _ _ h)
    | 1, hd, h => exact jy_lconst rfl hd (hK _ _ _ _ h)
  | ldc2_w j =>
    dsimp only [jst] at h
    cases e : jc2 C2 j with
    | none => rw [e] at h; exact hZ h
    | some v => rw [e] at h; exact jy_ldc2 (hC2 _ (jc2_mem e)) hd (hK _ _ _ _ h)
  | iload j =>
    dsimp only [jst] at h
    split at h
    · rename_i x e; exact jy_iload e hd (hK _ _ _ _ h)
    · exact hZ h
  | iload_n j =>
    dsimp only [jst] at h
    split at h
    · rename_i x e; exact jy_iloadn e hd (hK _ _ _ _ h)
    · exact hZ h
  | lload j =>
    dsimp only [jst] at h
    split at h
    · rename_i x e; exact jy_lload e hd (hK _ _ _ _ h)
    · exact hZ h
  | lload_n j =>
    dsimp only [jst] at h
    split at h
    · rename_i x e; exact jy_lloadn e hd (hK _ _ _ _ h)
    · exact hZ h
  | aload j =>
    dsimp only [jst] at h
    split at h
    · rename_i x e; exact jy_aload e hd (hK _ _ _ _ h)
    · exact hZ h
  | aload_n j =>
    dsimp only [jst] at h
    split at h
    · rename_i x e; exact jy_aloadn e hd (hK _ _ _ _ h)
    · exact hZ h
  | istore j =>
    dsimp only [jst] at h
    split at h
    · cases e : Nat.blt j mt.2.2.1 with
      | true => rw [e] at h; exact jy_istore (by simpa using e) hd (hK _ _ _ _ h)
      | false => rw [e] at h; exact hZ h
    · exact hZ h
  | istore_n j =>
    dsimp only [jst] at h
    split at h
    · cases e : Nat.blt j.val mt.2.2.1 with
      | true => rw [e] at h; exact jy_istoren (by simpa using e) hd (hK _ _ _ _ h)
      | false => rw [e] at h; exact hZ h
    · exact hZ h
  | astore j =>
    dsimp only [jst] at h
    split at h
    · cases e : Nat.blt j mt.2.2.1 with
      | true => rw [e] at h; exact jy_astore (by simpa using e) hd (hK _ _ _ _ h)
      | false => rw [e] at h; exact hZ h
    · exact hZ h
  | astore_n j =>
    dsimp only [jst] at h
    split at h
    · cases e : Nat.blt j.val mt.2.2.1 with
      | true => rw [e] at h; exact jy_astoren (by simpa using e) hd (hK _ _ _ _ h)
      | false => rw [e] at h; exact hZ h
    · exact hZ h
  | lstore j =>
    dsimp only [jst] at h
    split at h
    · cases e : Nat.blt (j + 1) mt.2.2.1 with
      | true => rw [e] at h; exact jy_lstore (by simpa using e) hd (hK _ _ _ _ h)
      | false => rw [e] at h; exact hZ h
    · exact hZ h
  | lstore_n j =>
    dsimp only [jst] at h
    split at h
    · cases e : Nat.blt (j.val + 1) mt.2.2.1 with
      | true => rw [e] at h; exact jy_lstoren (by simpa using e) hd (hK _ _ _ _ h)
      | false => rw [e] at h; exact hZ h
    · exact hZ h
  | iinc j z =>
    dsimp only [jst] at h
    split at h
    · rename_i x ex
      cases e : Nat.blt j mt.2.2.1 with
      | true => rw [e] at h; exact jy_iinc (by simpa [jcs] using hk) ex (by simpa using e) hd (hK _ _ _ _ h)
      | false => rw [e] at h; exact hZ h
    · exact hZ h
  | iadd =>
    dsimp only [jst] at h
    split at h
    · exact jy_iadd hd (hK _ _ _ _ h)
    · exact hZ h
  | isub =>
    dsimp only [jst] at h
    split at h
    · exact jy_isub hd (hK _ _ _ _ h)
    · exact hZ h
  | imul =>
    dsimp only [jst] at h
    split at h
    · exact jy_imul hd (hK _ _ _ _ h)
    · exact hZ h
  | iand =>
    dsimp only [jst] at h
    split at h
    · exact jy_iand hd (hK _ _ _ _ h)
    · exact hZ h
  | ior =>
    dsimp only [jst] at h
    split at h
    · exact jy_ior hd (hK _ _ _ _ h)
    · exact hZ h
  | ixor =>
    dsimp only [jst] at h
    split at h
    · exact jy_ixor hd (hK _ _ _ _ h)
    · exact hZ h
  | ishl =>
    dsimp only [jst] at h
    split at h
    · exact jy_ishl hd (hK _ _ _ _ h)
    · exact hZ h
  | ishr =>
    dsimp only [jst] at h
    split at h
    · exact jy_ishr hd (hK _ _ _ _ h)
    · exact hZ h
  | iushr =>
    dsimp only [jst] at h
    split at h
    · exact jy_iushr hd (hK _ _ _ _ h)
    · exact hZ h
  | idiv =>
    dsimp only [jst] at h
    split at h
    · exact jy_idiv h.1 hd (hK _ _ _ _ h.2)
    · exact hZ h
  | irem =>
    dsimp only [jst] at h
    split at h
    · exact jy_irem h.1 hd (hK _ _ _ _ h.2)
    · exact hZ h
  | ineg =>
    dsimp only [jst] at h
    split at h
    · exact jy_ineg hd (hK _ _ _ _ h)
    · exact hZ h
  | i2l =>
    dsimp only [jst] at h
    split at h
    · exact jy_i2l hd (hK _ _ _ _ h)
    · exact hZ h
  | l2i =>
    dsimp only [jst] at h
    split at h
    · exact jy_l2i hd (hK _ _ _ _ h)
    · exact hZ h
  | i2b =>
    dsimp only [jst] at h
    split at h
    · exact jy_i2b hd (hK _ _ _ _ h)
    · exact hZ h
  | i2c =>
    dsimp only [jst] at h
    split at h
    · exact jy_i2c hd (hK _ _ _ _ h)
    · exact hZ h
  | i2d =>
    dsimp only [jst] at h
    split at h
    · exact jy_i2d hd (hK _ _ _ _ h)
    · exact hZ h
  | ddiv =>
    dsimp only [jst] at h
    split at h
    · exact jy_ddiv h.1 hd (hK _ _ _ _ h.2)
    · exact hZ h
  | ladd =>
    dsimp only [jst] at h
    split at h
    · exact jy_ladd hd (hK _ _ _ _ h)
    · exact hZ h
  | lmul =>
    dsimp only [jst] at h
    split at h
    · exact jy_lmul hd (hK _ _ _ _ h)
    · exact hZ h
  | ldiv =>
    dsimp only [jst] at h
    split at h
    · exact jy_ldiv h.1 hd (hK _ _ _ _ h.2)
    · exact hZ h
  | lrem =>
    dsimp only [jst] at h
    split at h
    · exact jy_lrem h.1 hd (hK _ _ _ _ h.2)
    · exact hZ h
  | lcmp =>
    dsimp only [jst] at h
    split at h
    · exact jy_lcmp hd (hK _ _ _ _ h)
    · exact hZ h
  | dup =>
    dsimp only [jst] at h
    split at h
    · rename_i v r
      cases e : v.category == 1 with
      | true => rw [e] at h; exact jy_dup (by simpa using e) hd (hK _ _ _ _ h)
      | false => rw [e] at h; exact hZ h
    · exact hZ h
  | dup2 =>
    dsimp only [jst] at h
    split at h
    · rename_i v w r
      cases e : (v.category == 1 && w.category == 1) with
      | true => rw [e] at h; exact jy_dup2 (by simp at e; exact e.1) (by simp at e; exact e.2) hd (hK _ _ _ _ h)
      | false => rw [e] at h; exact hZ h
    · exact hZ h
  | pop =>
    dsimp only [jst] at h
    split at h
    · rename_i v r
      cases e : v.category == 1 with
      | true => rw [e] at h; exact jy_pop (by simpa using e) hd (hK _ _ _ _ h)
      | false => rw [e] at h; exact hZ h
    · exact hZ h
  | ifCond cd o =>
    dsimp only [jst] at h
    split at h
    · refine jy_if hd (by simpa [jtgt] using ht) ?_
      cases cd <;> exact ⟨fun q => hK _ _ _ _ (h.1 q), fun q => hK _ _ _ _ (h.2 q)⟩
    · exact hZ h
  | if_icmp cd o =>
    dsimp only [jst] at h
    split at h
    · refine jy_icmp hd (by simpa [jtgt] using ht) ?_
      cases cd <;> exact ⟨fun q => hK _ _ _ _ (h.1 q), fun q => hK _ _ _ _ (h.2 q)⟩
    · exact hZ h
  | goto o => exact jy_goto hd (by simpa [jtgt] using ht) (hK _ _ _ _ h)
  | ifnonnull o =>
    dsimp only [jst] at h
    split at h
    · exact jy_ifnonnull hd (by simpa [jtgt] using ht) (hK _ _ _ _ h)
    · exact hZ h
  | ifnull o =>
    dsimp only [jst] at h
    split at h
    · exact jy_ifnull hd (hK _ _ _ _ h)
    · exact hZ h
  | getfield j =>
    dsimp only [jst] at h
    split at h
    · rename_i a r
      split at h
      · rename_i ci f tc e
        have hf := hF _ (jfl_mem e)
        split at h
        · cases ho : jobj a ci f 1 with
          | true => rw [ho] at h; exact jy_getl hf ho hd (hK _ _ _ _ h)
          | false => rw [ho] at h; exact hZ h
        · cases ho : jobj a ci f 2 with
          | true => rw [ho] at h; exact jy_getr hf ho hd (hK _ _ _ _ h)
          | false => rw [ho] at h; exact hZ h
        · cases ho : jobj a ci f 0 with
          | true => rw [ho] at h; exact jy_geti hf ho hd (hK _ _ _ _ h)
          | false => rw [ho] at h; exact hZ h
      · exact hZ h
    · exact hZ h
  | putfield j =>
    dsimp only [jst] at h
    split at h
    · rename_i x a r
      split at h
      · rename_i ci f tc e
        have hf := hF _ (jfl_mem e)
        split at h
        · cases ho : jobj a ci f 0 with
          | true => rw [ho] at h; exact jy_puti hf ho hd (hK _ _ _ _ h)
          | false => rw [ho] at h; exact hZ h
        · cases ho : jobj a ci f 0 with
          | true => rw [ho] at h; exact jy_putz h.1 hf ho hd (hK _ _ _ _ h.2)
          | false => rw [ho] at h; exact hZ h
        · exact hZ h
      · exact hZ h
    · rename_i x a r
      split at h
      · rename_i ci f tc e
        have hf := hF _ (jfl_mem e)
        split at h
        · cases ho : jobj a ci f 1 with
          | true => rw [ho] at h; exact jy_putl hf ho hd (hK _ _ _ _ h)
          | false => rw [ho] at h; exact hZ h
        · exact hZ h
      · exact hZ h
    · exact hZ h
  | iaload =>
    dsimp only [jst] at h
    split at h
    · rename_i j a r
      cases ho : jarr a 1 0 with
      | true => rw [ho] at h; exact jy_iald ho h.1 hd (hK _ _ _ _ h.2)
      | false => rw [ho] at h; exact hZ h
    · exact hZ h
  | baload =>
    dsimp only [jst] at h
    split at h
    · rename_i j a r
      cases ho : jarr a 1 1 with
      | true => rw [ho] at h; exact jy_bald ho h.1 hd (hK _ _ _ _ h.2)
      | false =>
        rw [ho] at h
        cases ho : jarr a 1 3 with
        | true => rw [ho] at h; exact jy_zald ho h.1 hd (hK _ _ _ _ h.2)
        | false => rw [ho] at h; exact hZ h
    · exact hZ h
  | caload =>
    dsimp only [jst] at h
    split at h
    · rename_i j a r
      cases ho : jarr a 1 2 with
      | true => rw [ho] at h; exact jy_cald ho h.1 hd (hK _ _ _ _ h.2)
      | false => rw [ho] at h; exact hZ h
    · exact hZ h
  | laload =>
    dsimp only [jst] at h
    split at h
    · rename_i j a r
      cases ho : jarr a 2 4 with
      | true => rw [ho] at h; exact jy_lald ho h.1 hd (hK _ _ _ _ h.2)
      | false => rw [ho] at h; exact hZ h
    · exact hZ h
  | aaload =>
    dsimp only [jst] at h
    split at h
    · rename_i j a r
      cases ho : jarr a 4 6 with
      | true => rw [ho] at h; exact jy_aald ho (Or.inl rfl) h.1 hd (hK _ _ _ _ h.2)
      | false =>
        rw [ho] at h
        cases ho : jarr a 4 7 with
        | true => rw [ho] at h; exact jy_aald ho (Or.inr rfl) h.1 hd (hK _ _ _ _ h.2)
        | false => rw [ho] at h; exact hZ h
    · exact hZ h
  | iastore =>
    dsimp only [jst] at h
    split at h
    · rename_i x j a r
      cases ho : jarr a 1 0 with
      | true => rw [ho] at h; exact jy_iast ho h.1 hd (hK _ _ _ _ h.2)
      | false => rw [ho] at h; exact hZ h
    · exact hZ h
  | bastore =>
    dsimp only [jst] at h
    split at h
    · rename_i x j a r
      cases ho : jarr a 1 1 with
      | true => rw [ho] at h; exact jy_bast ho h.1 hd (hK _ _ _ _ h.2)
      | false =>
        rw [ho] at h
        cases ho : jarr a 1 3 with
        | true => rw [ho] at h; exact jy_zast ho h.1 hd (hK _ _ _ _ h.2)
        | false => rw [ho] at h; exact hZ h
    · exact hZ h
  | castore =>
    dsimp only [jst] at h
    split at h
    · rename_i x j a r
      cases ho : jarr a 1 2 with
      | true => rw [ho] at h; exact jy_cast ho h.1 hd (hK _ _ _ _ h.2)
      | false => rw [ho] at h; exact hZ h
    · exact hZ h
  | lastore =>
    dsimp only [jst] at h
    split at h
    · rename_i x j a r
      cases ho : jarr a 2 4 with
      | true => rw [ho] at h; exact jy_last ho h.1 hd (hK _ _ _ _ h.2)
      | false => rw [ho] at h; exact hZ h
    · exact hZ h
  | arraylength =>
    dsimp only [jst] at h
    split at h
    · rename_i a r
      cases ho : jarr a 1 0 with
      | true => rw [ho] at h; exact jy_alen ho (by decide) (Or.inl rfl) hd (hK _ _ _ _ h)
      | false =>
        cases ho1 : jarr a 1 1 with
        | true => rw [ho, ho1] at h; exact jy_alen ho1 (by decide) (Or.inl rfl) hd (hK _ _ _ _ h)
        | false =>
          cases ho2 : jarr a 1 2 with
          | true => rw [ho, ho1, ho2] at h; exact jy_alen ho2 (by decide) (Or.inl rfl) hd (hK _ _ _ _ h)
          | false =>
            cases ho3 : jarr a 4 6 with
            | true => rw [ho, ho1, ho2, ho3] at h; exact jy_alen ho3 (by decide) (Or.inr rfl) hd (hK _ _ _ _ h)
            | false => rw [ho, ho1, ho2, ho3] at h; exact hZ h
    · exact hZ h
  | dconst z =>
    match z, hd, h with
    | 0, hd, h => exact jy_dconst0 hd (hK _ _ _ _ h)
    | 1, hd, h => exact hZ h
  | ireturn =>
    dsimp only [jst] at h
    split at h
    · split at h
      · rename_i e; exact jy_iret e h hd
      · rename_i e; exact jy_zret e h.1 h.2 hd
      · exact hZ h
    · exact hZ h
  | return_ =>
    dsimp only [jst] at h
    split at h
    · split at h
      · rename_i e; exact jy_vret e h hd
      · exact hZ h
    · exact hZ h
  | areturn =>
    dsimp only [jst] at h
    split at h
    · split at h
      · rename_i e; exact jy_aret e h hd
      · exact hZ h
    · exact hZ h
  | dreturn =>
    dsimp only [jst] at h
    split at h
    · split at h
      · rename_i e; exact jy_dret e h hd
      · exact hZ h
    · exact hZ h
  | _ => exact hZ h
end JVY
section JCallY
variable {g : jG} {mt mt' : jMt} {n n' : Nat} {zZ : jZ} {post' : Option Value → jM → Prop} {pc nx tg : Nat} {kk : Int32} {L : List (Nat × Value)} {st r : List Value} {σ : jM} {F : List (Nat × Nat × Nat × Nat)} {C2 : List (Nat × Int64)} {tb : jTb} {idx na a ci : Nat} {as : List Value} {T : u_T} {N : Nat}
/-- what a call's run gives, in the judgement's words -/
theorem jy_back {p : Program} {e : Env} {s : State} {m : MethodId} {as0 : Array Value} {below : List Frame} {meth : Method} {c : Code} {H : Heap} {locs : List Loc} {ls : Array Slot} {a9 : Array Value}
    (XK : jX g mt p s m as0 meth c ∧ zZ.2.2.2.2 c) (hS : va_S (jA g) s.heap H locs) (hl : lv_has ls mt.2.2.1 (jL g L))
    (hr : va_Run p g.1 e zZ.1 s m as0 below meth c H locs zZ.2.1 zZ.2.2.1 0 0 (F0 m pc ls (st.map (jrl g))) (r.map (jrl g)) (jQ g post' a9) (jA g))
    (k : ∀ v τ, post' v τ → jY g zZ mt n (pc + 3) L (v.toList ++ r) τ) :
    W p g.1 e zZ.1 s m as0 below meth c H locs zZ.2.1 zZ.2.2.1 (zZ.2.2.2.1 below as0 s) (F0 m pc ls (st.map (jrl g))) := by
  intro T0 hT0 X'
  obtain ⟨v, st₀, t, T', L', h0, X'', hL, e1, e2, ⟨⟨v0, τ, hv, hp, hP1, hC1⟩, hz, hk⟩, stp⟩ := hr T0 hT0 X'
  have hv0 : v = v0.map (jrl g) := by injection hv
  subst hv0
  rw [h0] at hz hk
  have hS' : va_S (jA g) s.heap T'.heap (locs ++ L') := by
    refine ⟨Nat.le_trans hS.1 (by rw [e1]; exact hz), fun q h1 h2 => ?_, fun q hq => ?_⟩
    · rw [e1, hk q (Nat.lt_of_lt_of_le h1 hS.1) h2]
      exact hS.2.1 q h1 h2
    · rcases List.mem_append.mp hq with h | h
      · exact hS.2.2 q h
      · exact hL q h
  have hst : ((v0.map (jrl g)).toList ++ r.map (jrl g)) = (v0.toList ++ r).map (jrl g) := by cases v0 <;> simp
  obtain ⟨t2, a1, b1⟩ := k v0 τ hp p e s m as0 below meth c T'.heap (locs ++ L') ls XK (by rw [e1]; exact hP1) hS' hl T' rfl X''
  refine ⟨t2, stp t2 ?_, b1⟩
  have hg : ({ F0 m pc ls (st.map (jrl g)) with pc := (F0 m pc ls (st.map (jrl g))).pc + 3, stack := (v0.map (jrl g)).toList ++ r.map (jrl g) } : JFrame) = F0 m (pc + 3) ls ((v0.toList ++ r).map (jrl g)) := by rw [hst]
  rw [hg]
  exact a1
theorem jy_callV (hz : jZok zZ n) (hT : jT mt F C2 tb) (e : jtb tb pc = some (.invokevirtual idx, nx, tg, kk)) (hlk : Cond.methodLink mt.1.cls idx mt'.1 ∈ jGw) (hm : jMv mt' na) (hcl : vwCl[ci]? = some (mt'.1.cls, T, N)) (ha : jisO a ci = true) (hs : st = as.reverse ++ .ref a :: r) (hn : n' < n) (hna : as.length = na) (hst : (r.map fun v => v.category).sum ≤ 8)
    (hc : jCon g n' mt' (.ref a :: as) σ post') (k : ∀ v τ, post' v τ → jY g zZ mt n nx L (v.toList ++ r) τ) : jY g zZ mt n pc L st σ := by
  obtain ⟨hd, rfl⟩ := hT.row e
  obtain ⟨⟨hi, hco, hmh, hml⟩, him, hse⟩ := hm
  obtain ⟨h1, h2, h3⟩ := jisO_spec ha
  intro p e s m as0 below meth c H locs ls XK hP hS hl
  have X := XK.1
  have hM := hc X.2.2.2.2.2.2.2.1
  have hg := jws_get g σ h1
  rw [jcell_o h2, h3] at hg
  refine jy_back (a9 := (Value.ref (jad g a) :: as.map (jrl g)).toArray) XK hS hl ?_ k
  refine va_runV (As := as.map (jrl g)) (rest := r.map (jrl g)) (b := jad g a) (C := mt'.1.cls) (n := na) (maxL := mt'.2.2.1) (ret := mt'.2.2.2) (bytes := mt'.2.1) ⟨X.1, X.2.1, X.2.2.1, X.2.2.2.2.2.1, X.2.2.2.2.2.2.1⟩ hM
    (cwV na X.2.2.2.2.2.2.1 (jGI (fun w hw => ?_)) rfl rfl rfl ⟨rfl, hmh⟩ ⟨?_, ?_⟩) ⟨jblind g _ σ, va_recv (q := (mt'.1.cls, T, N)) X.2.2.2.2.2.2.2.2.1 hP hcl hg, fun U hU hW => ⟨by simp [jrl], by rw [hU]; exact hP, X.2.2.2.2.2.2.2.2.moved hW (fun a h1 h2 => by rw [hU]; exact hS.2.1 a h1 h2)⟩⟩ rfl (by simp [hna]) hl.1 (by rw [hs]; simp [jrl]) (lv_room (by simpa [jrl_cat, Function.comp_def] using hst)) hd ⟨hz.2.2.1, hz.2.2.2⟩
  · unfold wsV at hw
    rcases List.mem_append.mp hw with hw | hw
    · simp only [List.mem_cons, List.not_mem_nil, or_false] at hw
      rcases hw with rfl | rfl | rfl | rfl
      · exact hlk
      · exact him
      · exact hse
      · exact hi
    · exact jwd_in hco w hw
  · show n' + 1 ≤ zZ.1.frames
    have := hz.1
    omega
  · show 8 + (mt'.2.2.1 + 11) + 64 * n' ≤ zZ.1.locals
    have := hz.2.1
    omega
theorem jy_callS (hz : jZok zZ n) (hT : jT mt F C2 tb) (e : jtb tb pc = some (.invokestatic idx, nx, tg, kk)) (hlk : Cond.methodLink mt.1.cls idx mt'.1 ∈ jGw) (hm : jMs mt' na) (hs : st = as.reverse ++ r) (hn : n' < n) (hna : as.length = na) (hst : (r.map fun v => v.category).sum ≤ 8)
    (hc : jCon g n' mt' as σ post') (k : ∀ v τ, post' v τ → jY g zZ mt n nx L (v.toList ++ r) τ) : jY g zZ mt n pc L st σ := by
  obtain ⟨hd, rfl⟩ := hT.row e
  obtain ⟨⟨hi, hco, hmh, hml⟩, hstat⟩ := hm
  intro p e s m as0 below meth c H locs ls XK hP hS hl
  have X := XK.1
  have hM := hc X.2.2.2.2.2.2.2.1
  have hts := X.2.2.2.2.2.2.1
  refine jy_back (a9 := (as.map (jrl g)).toArray) XK hS hl ?_ k
  refine va_runS (As := as.map (jrl g)) (rest := r.map (jrl g)) (n := na) (maxL := mt'.2.2.1) (ret := mt'.2.2.2) (bytes := mt'.2.1) ⟨X.1, X.2.1, X.2.2.1, X.2.2.2.2.2.1, hts⟩ hM
    ⟨callB_of na hts (jGI (jwd_in hco)) rfl rfl rfl (hts _ (List.mem_cons_of_mem _ hi)) (hts _ (List.mem_cons_of_mem _ hlk)) hmh ⟨?_, ?_⟩, hts _ (List.mem_cons_of_mem _ hstat)⟩ ⟨jblind g _ σ, fun U hU hW => ⟨by simp, by rw [hU]; exact hP, X.2.2.2.2.2.2.2.2.moved hW (fun a h1 h2 => by rw [hU]; exact hS.2.1 a h1 h2)⟩⟩ rfl (by simp [hna]) hl.1 (by rw [hs]; simp) (lv_room (by simpa [jrl_cat, Function.comp_def] using hst)) hd ⟨hz.2.2.1, hz.2.2.2⟩
  · show n' + 1 ≤ zZ.1.frames
    have := hz.1
    omega
  · show 8 + (mt'.2.2.1 + 11) + 64 * n' ≤ zZ.1.locals
    have := hz.2.1
    omega
theorem jy_callSN {host : String} (hz : jZok zZ n) (hT : jT mt F C2 tb) (e : jtb tb pc = some (.invokestatic idx, nx, tg, kk)) (hlk : Cond.methodLinkNest mt.1.cls idx mt'.1 host ∈ jNw) (hm : jMs mt' na) (hs : st = as.reverse ++ r) (hn : n' < n) (hna : as.length = na) (hst : (r.map fun v => v.category).sum ≤ 8)
    (hc : jCon g n' mt' as σ post') (k : ∀ v τ, post' v τ → jY g zZ mt n nx L (v.toList ++ r) τ) : jY g zZ mt n pc L st σ := by
  obtain ⟨hd, rfl⟩ := hT.row e
  obtain ⟨⟨hi, hco, hmh, hml⟩, hstat⟩ := hm
  intro p e s m as0 below meth c H locs ls XK hP hS hl
  have X := XK.1
  have hM := hc X.2.2.2.2.2.2.2.1
  have hts := X.2.2.2.2.2.2.1
  refine jy_back (a9 := (as.map (jrl g)).toArray) XK hS hl ?_ k
  refine va_runSN (As := as.map (jrl g)) (rest := r.map (jrl g)) (n := na) (maxL := mt'.2.2.1) (ret := mt'.2.2.2) (bytes := mt'.2.1) (host := host) ⟨X.1, X.2.1, X.2.2.1, X.2.2.2.2.2.1, hts⟩ hM
    ⟨va_cnB na hts (jGI (jwd_in hco)) rfl rfl rfl (X.2.2.2.2.2.2.2.2.2.1 _ hlk) (hts _ (List.mem_cons_of_mem _ hi)) hmh ⟨?_, ?_⟩, hts _ (List.mem_cons_of_mem _ hstat), trivial⟩ ⟨jblind g _ σ, fun U hU hW => ⟨by simp, by rw [hU]; exact hP, X.2.2.2.2.2.2.2.2.moved hW (fun a h1 h2 => by rw [hU]; exact hS.2.1 a h1 h2)⟩⟩ rfl (by simp [hna]) hl.1 (by rw [hs]; simp) (lv_room (by simpa [jrl_cat, Function.comp_def] using hst)) hd ⟨hz.2.2.1, hz.2.2.2⟩
  · show n' + 1 ≤ zZ.1.frames
    have := hz.1
    omega
  · show 8 + (mt'.2.2.1 + 11) + 64 * n' ≤ zZ.1.locals
    have := hz.2.1
    omega
end JCallY
section JVKY
variable {g : jG} {mt : jMt} {n : Nat} {zZ : jZ}
theorem jyk_ok (hz : jZok zZ n) {F : List (Nat × Nat × Nat × Nat)} {C2 : List (Nat × Int64)} {tb : jTb} (hT : jT mt F C2 tb) {V S : jOl} (hV : ∀ q ∈ V, jOv g mt n q) (hS : ∀ q ∈ S, jOs g mt n q) (stop : List Nat) : ∀ (f pc : Nat) (L : List (Nat × Value)) (st : List Value) (σ : jM), jvk F C2 V S mt.2.2.1 mt.2.2.2 jyP tb stop (jY g zZ mt n) f pc L st σ → jY g zZ mt n pc L st σ
  | 0, _, _, _, _, h => h
  | f + 1, pc, L, st, σ, h => by
    have step : ∀ pc' L' st' σ', (bif jel stop pc' then jY g zZ mt n pc' L' st' σ' else jvk F C2 V S mt.2.2.1 mt.2.2.2 jyP tb stop (jY g zZ mt n) f pc' L' st' σ') → jY g zZ mt n pc' L' st' σ' := fun pc' L' st' σ' hk => by
      cases hs : jel stop pc' with
      | true => rw [hs] at hk; exact hk
      | false => rw [hs] at hk; exact jyk_ok hz hT hV hS stop f pc' L' st' σ' hk
    unfold jvk at h
    split at h
    · exact h
    · rename_i i nx tg k e
      have hm := jtb_mem e
      have h1 := List.all_eq_true.mp hT.2.2.1 _ hm
      simp only [jEok, Bool.and_eq_true, decide_eq_true_eq, beq_iff_eq] at h1
      obtain ⟨a1, a2, a3, a4⟩ := h1
      split at h
      · rename_i j
        split at h
        · rename_i na ci o eo
          split at h
          · rename_i a as ea
            cases hb : ((as.length + 1 == na) && (jisO a ci && Nat.ble (jcat (st.drop na)) 8)) with
            | false => rw [hb] at h; exact h
            | true =>
              rw [hb] at h
              simp only [Bool.and_eq_true, beq_iff_eq] at hb
              obtain ⟨b1, b2, b3⟩ := hb
              obtain ⟨mt', n', na', T, N, c1, c2, c3, c4, c5, c6⟩ := hV _ (jol_mem eo)
              dsimp only at c1 c3 c5 c6
              have hst : st = as.reverse ++ .ref a :: st.drop na := by
                have h5 : st.take na = (Value.ref a :: as).reverse := by rw [← ea, List.reverse_reverse]
                have h6 := List.take_append_drop na st
                rw [h5, List.reverse_cons, List.append_assoc] at h6
                exact h6.symm
              exact jy_callV hz hT e c3 c4 c5 b2 hst c2 (by omega) (by rw [← jcat_sum]; exact Nat.le_of_ble_eq_true b3) (c6 _ _ h.1) (fun v τ hp => step _ _ _ _ (h.2 v τ hp))
          · exact h
        · exact h
      · rename_i j
        split at h
        · rename_i na ci o eo
          cases hb : ((((st.take na).reverse).length == na) && Nat.ble (jcat (st.drop na)) 8) with
          | false => rw [hb] at h; exact h
          | true =>
            rw [hb] at h
            simp only [Bool.and_eq_true, beq_iff_eq] at hb
            obtain ⟨b1, b3⟩ := hb
            obtain ⟨mt', n', c2, c3, c4, c6⟩ := hS _ (jol_mem eo)
            dsimp only at c3 c4 c6
            have hst : st = ((st.take na).reverse).reverse ++ st.drop na := by rw [List.reverse_reverse, List.take_append_drop]
            rcases c3 with c3 | ⟨host, c3⟩
            · exact jy_callS hz hT e c3 c4 hst c2 b1 (by rw [← jcat_sum]; exact Nat.le_of_ble_eq_true b3) (c6 _ _ h.1) (fun v τ hp => step _ _ _ _ (h.2 v τ hp))
            · exact jy_callSN hz hT e c3 c4 hst c2 b1 (by rw [← jcat_sum]; exact Nat.le_of_ble_eq_true b3) (c6 _ _ h.1) (fun v τ hp => step _ _ _ _ (h.2 v τ hp))
        · exact h
      · exact jyt_ok hT.1 hT.2.1 a1 a2 a3 a4 (fun j hj => hT.2.2.2 _ hm j hj) step (fun z => z) h
end JVKY
