/-! newborn: rows as those of c3 -/
section KR
variable {g : jG} {h0 : Nat} {rm : Room} {mt : jMt} {me : Nat} {T : lwT} {c0 s0 pc : Nat} {L : List (Nat × Value)} {r : List Value} {t : Nat} {fs : List Value} {σ : jM}
theorem kw_iload {j : Nat} {x : Int32} (h : jlk L j = some (.int x)) (d : decode mt.2.1 pc = .ok (.iload j, 2)) (k : kW g h0 rm mt me T c0 s0 (pc + 2) L (.int x :: r) t fs σ) : kW g h0 rm mt me T c0 s0 pc L (r) t fs σ := by
  intro p e s m as below meth c H locs ls X hz hP hS hl
  exact lv_iload X.1 X.2.1 d (jL_lk hl h) (k p e s m as below meth c H locs ls X hz hP hS hl)
theorem kw_iloadn {j : Fin 4} {x : Int32} (h : jlk L j.val = some (.int x)) (d : decode mt.2.1 pc = .ok (.iload_n j, 1)) (k : kW g h0 rm mt me T c0 s0 (pc + 1) L (.int x :: r) t fs σ) : kW g h0 rm mt me T c0 s0 pc L (r) t fs σ := by
  intro p e s m as below meth c H locs ls X hz hP hS hl
  exact lv_iload_n X.1 X.2.1 d rfl (jL_lk hl h) (k p e s m as below meth c H locs ls X hz hP hS hl)
theorem kw_istore {j : Nat} {x : Int32} (h : j < mt.2.2.1) (d : decode mt.2.1 pc = .ok (.istore j, 2)) (k : kW g h0 rm mt me T c0 s0 (pc + 2) (jins j (.int x) L) (r) t fs σ) : kW g h0 rm mt me T c0 s0 pc L (.int x :: r) t fs σ := by
  intro p e s m as below meth c H locs ls X hz hP hS hl
  exact lv_istore X.1 X.2.1 d hl h rfl (fun ls' hl' => k p e s m as below meth c H locs ls' X hz hP hS (jL_ins hl'))
theorem kw_istoren {j : Fin 4} {x : Int32} (h : j.val < mt.2.2.1) (d : decode mt.2.1 pc = .ok (.istore_n j, 1)) (k : kW g h0 rm mt me T c0 s0 (pc + 1) (jins j.val (.int x) L) (r) t fs σ) : kW g h0 rm mt me T c0 s0 pc L (.int x :: r) t fs σ := by
  intro p e s m as below meth c H locs ls X hz hP hS hl
  exact lv_istore_n X.1 X.2.1 d rfl hl h rfl (fun ls' hl' => k p e s m as below meth c H locs ls' X hz hP hS (jL_ins hl'))
theorem kw_iinc {j : Nat} {z : Int} {x v : Int32} (hz0 : Int32.ofInt z = v) (h : jlk L j = some (.int x)) (hn : j < mt.2.2.1) (d : decode mt.2.1 pc = .ok (.iinc j z, 3)) (k : kW g h0 rm mt me T c0 s0 (pc + 3) (jins j (.int (x + v)) L) (r) t fs σ) : kW g h0 rm mt me T c0 s0 pc L (r) t fs σ := by
  intro p e s m as below meth c H locs ls X hz hP hS hl
  obtain ⟨i, hi⟩ := jL_at (g := g) h
  exact lv_iinc X.1 X.2.1 d hl hi (by rw [hz0]) hn rfl (fun ls' hl' => k p e s m as below meth c H locs ls' X hz hP hS (jL_ins hl'))
theorem kw_iadd {x y : Int32} (d : decode mt.2.1 pc = .ok (.iadd, 1)) (k : kW g h0 rm mt me T c0 s0 (pc + 1) L (.int (x + y) :: r) t fs σ) : kW g h0 rm mt me T c0 s0 pc L (.int y :: .int x :: r) t fs σ := by
  intro p e s m as below meth c H locs ls X hz hP hS hl
  exact lv_iadd X.1 X.2.1 d (k p e s m as below meth c H locs ls X hz hP hS hl)
theorem kw_imul {x y : Int32} (d : decode mt.2.1 pc = .ok (.imul, 1)) (k : kW g h0 rm mt me T c0 s0 (pc + 1) L (.int (x * y) :: r) t fs σ) : kW g h0 rm mt me T c0 s0 pc L (.int y :: .int x :: r) t fs σ := by
  intro p e s m as below meth c H locs ls X hz hP hS hl
  exact lv_imul X.1 X.2.1 d (k p e s m as below meth c H locs ls X hz hP hS hl)
theorem kw_if {cd : ClassFile.Cond} {o : Int} {tg : Nat} {x : Int32} (d : decode mt.2.1 pc = .ok (.ifCond cd o, 3)) (ht : (pc : Int) + o = (tg : Int)) (k : jcmp cd x 0 (kW g h0 rm mt me T c0 s0 tg L r t fs σ) (kW g h0 rm mt me T c0 s0 (pc + 3) L r t fs σ)) : kW g h0 rm mt me T c0 s0 pc L (.int x :: r) t fs σ := by
  intro p e s m as below meth c H locs ls X hz hP hS hl
  have A : ∀ {q : Nat}, kW g h0 rm mt me T c0 s0 q L r t fs σ → W p g.1 e rm s m as below meth c H locs c0 s0 (T below as s) (F0 m q ls (r.map (jrl g))) := fun k => k p e s m as below meth c H locs ls X hz hP hS hl
  cases cd with
  | eq => exact lv_if_eq X.1 X.2.1 d ht (fun h => A (k.1 h)) (fun h => A (k.2 h))
  | ne => exact lv_if_ne X.1 X.2.1 d ht (fun h => A (k.1 h)) (fun h => A (k.2 h))
  | lt => exact lv_if_lt X.1 X.2.1 d ht (fun h => A (k.1 h)) (fun h => A (k.2 h))
  | ge => exact lv_if_ge X.1 X.2.1 d ht (fun h => A (k.1 (by first | exact h | exact Int32.not_lt.mpr h | simpa using h))) (fun h => A (k.2 (by first | exact h | exact Int32.not_le.mp h | simpa using h)))
  | gt => exact lv_if_gt X.1 X.2.1 d ht (fun h => A (k.1 (by first | exact h | exact Int32.not_le.mpr h | simpa using h))) (fun h => A (k.2 (by first | exact h | exact Int32.not_lt.mp h | simpa using h)))
  | le => exact lv_if_le X.1 X.2.1 d ht (fun h => A (k.1 h)) (fun h => A (k.2 h))
theorem kw_icmp {cd : ClassFile.Cond} {o : Int} {tg : Nat} {x y : Int32} (d : decode mt.2.1 pc = .ok (.if_icmp cd o, 3)) (ht : (pc : Int) + o = (tg : Int)) (k : jcmp cd x y (kW g h0 rm mt me T c0 s0 tg L r t fs σ) (kW g h0 rm mt me T c0 s0 (pc + 3) L r t fs σ)) : kW g h0 rm mt me T c0 s0 pc L (.int y :: .int x :: r) t fs σ := by
  intro p e s m as below meth c H locs ls X hz hP hS hl
  have A : ∀ {q : Nat}, kW g h0 rm mt me T c0 s0 q L r t fs σ → W p g.1 e rm s m as below meth c H locs c0 s0 (T below as s) (F0 m q ls (r.map (jrl g))) := fun k => k p e s m as below meth c H locs ls X hz hP hS hl
  cases cd with
  | eq => exact lv_icmp_eq X.1 X.2.1 d ht (fun h => A (k.1 h)) (fun h => A (k.2 h))
  | ne => exact lv_icmp_ne X.1 X.2.1 d ht (fun h => A (k.1 h)) (fun h => A (k.2 h))
  | lt => exact lv_icmp_lt X.1 X.2.1 d ht (fun h => A (k.1 h)) (fun h => A (k.2 h))
  | ge => exact lv_icmp_ge X.1 X.2.1 d ht (fun h => A (k.1 (by first | exact h | exact Int32.not_lt.mpr h | simpa using h))) (fun h => A (k.2 (by first | exact h | exact Int32.not_le.mp h | simpa using h)))
  | gt => exact lv_icmp_gt X.1 X.2.1 d ht (fun h => A (k.1 (by first | exact h | exact Int32.not_le.mpr h | simpa using h))) (fun h => A (k.2 (by first | exact h | exact Int32.not_lt.mp h | simpa using h)))
  | le => exact lv_icmp_le X.1 X.2.1 d ht (fun h => A (k.1 h)) (fun h => A (k.2 h))
theorem kw_goto {o : Int} {tg : Nat} (d : decode mt.2.1 pc = .ok (.goto o, 3)) (ht : (pc : Int) + o = (tg : Int)) (k : kW g h0 rm mt me T c0 s0 tg L r t fs σ) : kW g h0 rm mt me T c0 s0 pc L r t fs σ := by
  intro p e s m as below meth c H locs ls X hz hP hS hl
  exact lv_goto X.1 X.2.1 d ht (k p e s m as below meth c H locs ls X hz hP hS hl)
theorem kw_dup {v : Value} (h : v.category = 1) (d : decode mt.2.1 pc = .ok (.dup, 1)) (k : kW g h0 rm mt me T c0 s0 (pc + 1) L (v :: v :: r) t fs σ) : kW g h0 rm mt me T c0 s0 pc L (v :: r) t fs σ := by
  intro p e s m as below meth c H locs ls X hz hP hS hl
  exact lv_dup X.1 X.2.1 d (by rw [jrl_cat]; exact h) (k p e s m as below meth c H locs ls X hz hP hS hl)
theorem kw_pop {v : Value} (h : v.category = 1) (d : decode mt.2.1 pc = .ok (.pop, 1)) (k : kW g h0 rm mt me T c0 s0 (pc + 1) L (r) t fs σ) : kW g h0 rm mt me T c0 s0 pc L (v :: r) t fs σ := by
  intro p e s m as below meth c H locs ls X hz hP hS hl
  exact lv_pop X.1 X.2.1 d (by rw [jrl_cat]; exact h) (k p e s m as below meth c H locs ls X hz hP hS hl)
end KR
