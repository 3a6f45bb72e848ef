/-! newborn: rows -/
theorem va_RA_inj {U : State} {a b : ClassId} {ty : FieldType} (h1 : va_RA U a ty) (h2 : va_RA U b ty) : a = b := by
  cases ty with
  | object C =>
    obtain ⟨_, _, -, -, -, h1⟩ := h1
    obtain ⟨_, _, -, -, -, h2⟩ := h2
    exact Option.some.inj (h1.symm.trans h2)
  | _ => exact Option.some.inj (Eq.trans (Eq.symm h1) h2)
section KW
variable {g : jG} {h0 : Nat} {rm : Room} {mt : jMt} {me : Nat} {T : lwT} {c0 s0 pc : Nat} {L : List (Nat × Value)} {r : List Value} {t : Nat} {fs : List Value} {σ : jM}
theorem kw_widen {c1 s1 : Nat} (hs : s0 ≤ s1) (k : kW g h0 rm mt me T c0 s1 pc L r t fs σ) : kW g h0 rm mt me T c0 s0 pc L r t fs σ := by
  intro p e s m as below meth c H locs ls X hz hP hS hl
  exact W.widen (k := c0) (n := s1) (Nat.le_refl _) hs (k p e s m as below meth c H locs ls X hz hP hS hl)
theorem kw_aloadn {j : Fin 4} {x : Nat} (h : jlk L j.val = some (.ref x)) (d : decode mt.2.1 pc = .ok (.aload_n j, 1)) (k : kW g h0 rm mt me T c0 s0 (pc + 1) L (.ref x :: r) t fs σ) : kW g h0 rm mt me T c0 s0 pc L r t fs σ := by
  intro p e s m as below meth c H locs ls X hz hP hS hl
  exact lv_aload_n X.1 X.2.1 d rfl (jL_lk hl h) (k p e s m as below meth c H locs ls X hz hP hS hl)
theorem kw_iconst {z : Int} {v : Int32} (hv : Int32.ofInt z = v) (d : decode mt.2.1 pc = .ok (.iconst z, 1)) (k : kW g h0 rm mt me T c0 s0 (pc + 1) L (.int v :: r) t fs σ) : kW g h0 rm mt me T c0 s0 pc L r t fs σ := by
  intro p e s m as below meth c H locs ls X hz hP hS hl
  exact lv_iconst X.1 X.2.1 d hv (k p e s m as below meth c H locs ls X hz hP hS hl)
theorem kw_bipush {z : Int} {v : Int32} (hv : (Int8.ofInt z).toInt32 = v) (d : decode mt.2.1 pc = .ok (.bipush z, 2)) (k : kW g h0 rm mt me T c0 s0 (pc + 2) L (.int v :: r) t fs σ) : kW g h0 rm mt me T c0 s0 pc L r t fs σ := by
  intro p e s m as below meth c H locs ls X hz hP hS hl
  exact lv_bipush X.1 X.2.1 d hv (k p e s m as below meth c H locs ls X hz hP hS hl)
theorem kw_sipush {z : Int} {v : Int32} (hv : (Int16.ofInt z).toInt32 = v) (d : decode mt.2.1 pc = .ok (.sipush z, 3)) (k : kW g h0 rm mt me T c0 s0 (pc + 3) L (.int v :: r) t fs σ) : kW g h0 rm mt me T c0 s0 pc L r t fs σ := by
  intro p e s m as below meth c H locs ls X hz hP hS hl
  exact lv_sipush X.1 X.2.1 d hv (k p e s m as below meth c H locs ls X hz hP hS hl)
theorem kw_objInit {i : Nat} (hlk : Cond.methodLink mt.1.cls i objectInit ∈ jGw) (hr : 1 ≤ rm.frames ∧ 20 ≤ rm.locals) (hst : (r.map fun v => v.category).sum ≤ 4) (d : decode mt.2.1 pc = .ok (.invokespecial i, 3)) (k : kW g h0 rm mt me T c0 s0 (pc + 3) L r t fs σ) : kW g h0 rm mt me T c0 s0 pc L (.ref me :: r) t fs σ := by
  intro p e s m as below meth c H locs ls X hz hP hS hl
  have hts : ∀ w ∈ jGw, w.before as s = true := fun w hw => X.2.2.2.2.2.2.1 _ (List.mem_cons_of_mem _ hw)
  refine W.objInit X.1 X.2.1 X.2.2.2.2.2.1 (hts _ hlk) (hts (.instanceMethod objectInit) (jGw_of 303 (by decide +kernel) (by decide +kernel))) (hts _ (jGw_of (w := .code objectInit ⟨#[0xb1]⟩ 1 none) 304 (by decide +kernel) (by decide +kernel))) rfl (by rw [X.2.2.1]; exact hl.1) rfl d ?_ ?_ (k p e s m as below meth c H locs ls X hz hP hS hl)
  · exact hr.1
  · have h9 : 2 * (F0 m pc ls ((Value.ref me :: r).map (jrl g))).monitorRoom + ((r.map (jrl g)).map fun v => v.category).sum ≤ 8 := lv_room (by simpa [jrl_cat, Function.comp_def] using (Nat.le_trans hst (by decide)))
    have := hr.2
    omega
/-- a field of me that is a reference, final -/
theorem kw_putF {j ci f c9 N9 : Nat} {T9 : u_T} {ty : FieldType} (hB : kB g h0) (ht : me < t) (hN : t ≤ jN) (hci : (jshp me).2.1 = ci) (hcl : jCls ci mt.1.cls T9 N9) (hk : f < N9) (hlk : Cond.fieldLink mt.1.cls j mt.1.cls (T9 f).2.1 (T9 f).2.2.1 ∈ jGw) (hT : parseFieldDescriptor (T9 f).2.2.1 = some ty ∧ (T9 f).2.2.2 = true) (hv : ∀ x, narrow ty (.ref x) = .ref x ∧ fits ty (.ref x) = true) (hl9 : f < fs.length) (hnm : mt.1.name = "<init>") (d : decode mt.2.1 pc = .ok (.putfield j, 3))
    (k : kW g h0 rm mt me T c0 s0 (pc + 3) L r t (fs.set f (.ref c9)) σ) : kW g h0 rm mt me T c0 s0 pc L (.ref c9 :: .ref me :: r) t fs σ := by
  intro p e s m as below meth c H locs ls X hz hP hS hl
  obtain ⟨q1, q2, ⟨ty0, q3⟩, q4, q5⟩ := hcl
  have e1 : (kws g σ me fs t).set 0 (jad g me, .inr (ci, (fs.map (jrl g)).set f (jrl g (.ref c9)))) = kws g σ me (fs.set f (.ref c9)) t := by
    unfold kws
    rw [List.set_cons_zero, List.map_set, hci]
  refine va_putF X.1 X.2.1 X.2.2.2.2.2.2.1 (fun w hw => List.mem_cons_of_mem _ (q2 w hw)) ty0 q3 q4 X.2.2.2.2.2.1 X.2.2.2.2.2.2.2.1 hP (kD hB σ fs ht hN) hS 0 (by unfold kws; rw [hci]; rfl) q1 f hk (X.2.2.2.2.2.2.1 _ (List.mem_cons_of_mem _ hlk)) (fun x hx => by rw [← q5 f hk]; exact hx) hT.2 (X.2.2.2.2.2.2.2.2.2.trans hnm) (q5 f hk) hT.1 (hv _).1 (hv _).2 (by rw [List.length_map]; exact hl9) d (fun H1 locs1 hP1 hD1 hS1 => ?_)
  rw [e1] at hP1
  exact k p e s m as below meth c H1 locs1 ls X hz hP1 hS1 hl
/-- an int field of me -/
theorem kw_puti {j ci f N9 : Nat} {x : Int32} {T9 : u_T} {ty : FieldType} (hB : kB g h0) (ht : me < t) (hN : t ≤ jN) (hci : (jshp me).2.1 = ci) (hcl : jCls ci mt.1.cls T9 N9) (hk : f < N9) (hlk : Cond.fieldLink mt.1.cls j mt.1.cls (T9 f).2.1 (T9 f).2.2.1 ∈ jGw) (hT : parseFieldDescriptor (T9 f).2.2.1 = some ty ∧ (T9 f).2.2.2 = false) (hv : narrow ty (.int x) = .int x ∧ fits ty (.int x) = true) (hl9 : f < fs.length) (d : decode mt.2.1 pc = .ok (.putfield j, 3))
    (k : kW g h0 rm mt me T c0 s0 (pc + 3) L r t (fs.set f (.int x)) σ) : kW g h0 rm mt me T c0 s0 pc L (.int x :: .ref me :: r) t fs σ := by
  intro p e s m as below meth c H locs ls X hz hP hS hl
  obtain ⟨q1, q2, ⟨ty0, q3⟩, q4, q5⟩ := hcl
  have e1 : (kws g σ me fs t).set 0 (jad g me, .inr (ci, (fs.map (jrl g)).set f (jrl g (.int x)))) = kws g σ me (fs.set f (.int x)) t := by
    unfold kws
    rw [List.set_cons_zero, List.map_set, hci]
  refine va_put X.1 X.2.1 X.2.2.2.2.2.2.1 (fun w hw => List.mem_cons_of_mem _ (q2 w hw)) ty0 q3 q4 X.2.2.2.2.2.1 X.2.2.2.2.2.2.2.1 hP (kD hB σ fs ht hN) hS 0 (by unfold kws; rw [hci]; rfl) q1 f hk (X.2.2.2.2.2.2.1 _ (List.mem_cons_of_mem _ hlk)) (fun x hx => by rw [← q5 f hk]; exact hx) hT.2 hT.1 hv.1 hv.2 (by rw [List.length_map]; exact hl9) d (fun H1 locs1 hP1 hD1 hS1 => ?_)
  have e2 : va_P g.2.1 vwCl ((kws g σ me fs t).set 0 (jad g me, .inr (ci, (fs.map (jrl g)).set f (jrl g (.int x))))) H1 := hP1
  rw [e1] at e2
  exact k p e s m as below meth c H1 locs1 ls X hz e2 hS1 hl
/-- a new array -/
theorem kw_newa {atype : ArrayType} {ti N' : Nat} {n9 : Int32} {a0 : vp_A} (hB : kB g h0) (ht : me < t) (hN : t < jN) (hti : ti < 8) (hw : Cond.arrayClass (newarray.typeOf atype) ∈ jGw) (hty : newarray.typeOf atype = jtyL.getD ti .int) (hc : jcell g σ t = .inl (jta g ti, a0)) (ha : ∀ cA : ClassId, vp_cell cA a0 = arrV cA N' (fun _ => defaultValue (newarray.typeOf atype)))
    (hn : ¬ n9 < 0) (hN9 : n9.toNatClampNeg = N') (hb : N' ≤ 10000) (hcells : c0 + 1 ≤ rm.cells) (hslots : s0 + N' ≤ rm.slots) (d : decode mt.2.1 pc = .ok (.newarray atype, 2)) (k : kW g h0 rm mt me T (c0 + 1) (s0 + N') (pc + 2) L (.ref t :: r) (t + 1) fs σ) : kW g h0 rm mt me T c0 s0 pc L (.int n9 :: r) t fs σ := by
  intro p e s m as below meth c H locs ls X hz hP hS hl
  have hA : ∀ q, s.heap.size ≤ q → kA h0 me q := fun q hq => by
    have := hz.2
    unfold kA
    omega
  refine va_newa (atype := atype) (ty := newarray.typeOf atype) (a0 := a0) X.1 X.2.1 (X.2.2.2.2.2.2.1 _ (List.mem_cons_of_mem _ hw)) rfl X.2.2.2.2.2.2.2.1 hP (kD hB σ fs ht (Nat.le_of_lt hN)) hS hA ha hn hN9 ?_ hcells hslots d (fun q cA H1 hK1 hP1 hD1 hS1 => ?_)
  · have : componentBytes (newarray.typeOf atype) ≤ 8 := by cases atype <;> decide
    exact Nat.le_trans (Nat.mul_le_mul hb this) (by decide)
  · have hcA : cA = jta g ti := by
      have r1 := (hK1.2 (jtys g).length (cA, newarray.typeOf atype) (by simp)).2
      have r2 := (X.2.2.2.2.2.2.2.1.2 ti _ (jtys_get g hti)).2
      rw [← hty] at r2
      exact va_RA_inj r1 r2
    intro T0 hT0 X0
    have hsz := X0.heapSize
    have hz1 := hz.1
    have hz2 := hz.2
    have hq : q < h0 + t + 1 := by
      have := vx_lt hP1 (k := (kws g σ me fs t).length) (q := (q, .inl (cA, a0))) (by simp)
      rw [hT0] at hsz
      show q < h0 + t + 1
      have h9 : q < H1.size := this
      omega
    have hq2 := k_new hB ht hN hD1 hq
    subst hq2
    rw [hcA, ← hc] at hP1
    rw [show kws g σ me fs t ++ [(jad g t, jcell g σ t)] = kws g σ me fs (t + 1) from (kws_succ g σ fs ht).symm] at hP1
    exact k p e s m as below meth c H1 locs ls X ⟨by omega, hz2⟩ hP1 hS1 hl T0 hT0 X0
end KW
