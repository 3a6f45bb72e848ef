/-! what is known of the heap that was there before the law: constant texts, rows of digits, the empty list's row; rows that read it; rows of bytes -/
def sbPv : List MethodName := [⟨"java/lang/AbstractStringBuilder", "ensureCapacityInternal", "(I)V"⟩, ⟨"java/lang/AbstractStringBuilder", "newCapacity", "(I)I"⟩, ⟨"java/lang/AbstractStringBuilder", "putStringAt", "(ILjava/lang/String;)V"⟩, ⟨"java/lang/AbstractStringBuilder", "inflateIfNeededFor", "(Ljava/lang/String;)V"⟩]
def dEt (g : jG) (h0 : Nat) : Prop := dEs g ∧ ∀ (U : State) (H : Heap), jE g U H → (jEp (jad g) (Dge h0) U H ∧ vk_R "RentDivisionLaw" 21 " " (jad g 374) U) ∧
  (va_Z "java/lang/Integer" "DigitOnes" "[B" (.ref (jad g 502)) (Dge h0) U H ∧ va_T .byte (jad g 502) 100 (fun i => .int (nI (48 + i % 10))) (Dge h0) U H) ∧
  (va_Z "java/lang/Integer" "DigitTens" "[B" (.ref (jad g 503)) (Dge h0) U H ∧ va_T .byte (jad g 503) 100 (fun i => .int (nI (48 + i / 10))) (Dge h0) U H) ∧
  (va_Z "java/util/ArrayList" "DEFAULTCAPACITY_EMPTY_ELEMENTDATA" "[Ljava/lang/Object;" (.ref (jad g 504)) (Dge h0) U H ∧ va_T (.object "java/lang/Object") (jad g 504) 0 (fun _ => .null) (Dge h0) U H) ∧
  va_Nw (.castable "[B" "java/lang/Cloneable") U ∧ ∀ y ∈ sbPv, (Cond.selects "java/lang/StringBuilder" y y).before #[] U = true
section DEXT
variable {g : jG} {z : dZ} {mt mt' : jMt} {pc : Nat} {L : List (Nat × Value)} {st r as : List Value} {σ : dM} {c0 s0 : Nat} {idx na n' a q : Nat}
theorem jrl_lo1 {da : Nat → Nat} {v : Value} (h : Dlo [v] = true) : jrl (Dg g da) v = jrl g v := by
  have := Dlo_map (g := g) (da := da) h
  simpa using this
theorem dr_gets {C nm d : String} {v : Value} (hv : Dlo [v] = true) (hZ : ∀ (U : State) (H : Heap), jE g U H → va_Z C nm d (jrl g v) (Dge z.2.2.2.2) U H) (hlk : Cond.fieldLink mt.1.cls idx C nm d ∈ jGw) (d0 : decode mt.2.1 pc = .ok (.getstatic idx, 3)) (k : DW g z mt (pc + 3) L (v :: r) σ c0 s0) : DW g z mt pc L r σ c0 s0 := by
  intro p e s m as below meth c H locs ls da X hD hP hS hl
  have k9 := k p e s m as below meth c H locs ls da X hD hP hS hl
  rw [List.map_cons, jrl_lo1 hv] at k9
  exact va_gets X.1 X.2.1 (hZ s s.heap X.2.2.2.2.2.2.2.2.2.2.2) hS X.2.2.2.2.2.1 (X.2.2.2.2.2.2.1 _ (List.mem_cons_of_mem _ hlk)) (fun _ h => h) d0 k9
theorem dr_ldcS {tx : String} (hq : q < 1000) (hR : ∀ (U : State) (H : Heap), jE g U H → vk_R mt.1.cls idx tx (jad g q) U) (d0 : decode mt.2.1 pc = .ok (.ldc idx, 2)) (k : DW g z mt (pc + 2) L (.ref q :: r) σ c0 s0) : DW g z mt pc L r σ c0 s0 := by
  intro p e s m as below meth c H locs ls da X hD hP hS hl
  have k9 := k p e s m as below meth c H locs ls da X hD hP hS hl
  have e9 : jrl (Dg g da) (.ref q) = .ref (jad g q) := congrArg Value.ref (Dg_lo hq)
  rw [List.map_cons, e9] at k9
  exact va_ldcS X.1 X.2.1 X.2.2.2.2.2.1 (hR s s.heap X.2.2.2.2.2.2.2.2.2.2.2) d0 k9
theorem dr_sgf {v : Value} {nm d : String} (hq : q < 1000) (hv : Dlo [v] = true) (hO : ∀ (U : State) (H : Heap), jE g U H → va_OF "java/lang/String" nm d (jrl g v) (jad g q) (Dge z.2.2.2.2) U H) (hlk : Cond.fieldLink mt.1.cls idx "java/lang/String" nm d ∈ jGw) (d0 : decode mt.2.1 pc = .ok (.getfield idx, 3)) (k : DW g z mt (pc + 3) L (v :: r) σ c0 s0) : DW g z mt pc L (.ref q :: r) σ c0 s0 := by
  intro p e s m as below meth c H locs ls da X hD hP hS hl
  have k9 := k p e s m as below meth c H locs ls da X hD hP hS hl
  have e9 : jrl (Dg g da) (.ref q) = .ref (jad g q) := congrArg Value.ref (Dg_lo hq)
  rw [List.map_cons, jrl_lo1 hv] at k9
  rw [List.map_cons, e9]
  exact vk_getf X.1 X.2.1 (hO s s.heap X.2.2.2.2.2.2.2.2.2.2.2) hS X.2.2.2.2.2.1 (X.2.2.2.2.2.2.1 _ (List.mem_cons_of_mem _ hlk)) (fun _ h => h) d0 k9
theorem dr_elen {ty : FieldType} {N : Nat} {f : Nat → Value} (hq : q < 1000) (hT : ∀ (U : State) (H : Heap), jE g U H → va_T ty (jad g q) N f (Dge z.2.2.2.2) U H) (d0 : decode mt.2.1 pc = .ok (.arraylength, 1)) (k : DW g z mt (pc + 1) L (.int (nI N) :: r) σ c0 s0) : DW g z mt pc L (.ref q :: r) σ c0 s0 := by
  intro p e s m as below meth c H locs ls da X hD hP hS hl
  have e9 : jrl (Dg g da) (.ref q) = .ref (jad g q) := congrArg Value.ref (Dg_lo hq)
  rw [List.map_cons, e9]
  exact va_tlen X.1 X.2.1 (hT s s.heap X.2.2.2.2.2.2.2.2.2.2.2) hS rfl d0 (k p e s m as below meth c H locs ls da X hD hP hS hl)
theorem dr_eba {N : Nat} {f : Nat → Int32} {j : Int32} (hq : q < 1000) (hT : ∀ (U : State) (H : Heap), jE g U H → va_T .byte (jad g q) N (fun i => .int (f i)) (Dge z.2.2.2.2) U H) (hj : jin j N) (d0 : decode mt.2.1 pc = .ok (.baload, 1)) (k : DW g z mt (pc + 1) L (.int (f j.toNatClampNeg) :: r) σ c0 s0) : DW g z mt pc L (.int j :: .ref q :: r) σ c0 s0 := by
  intro p e s m as below meth c H locs ls da X hD hP hS hl
  have e9 : jrl (Dg g da) (.ref q) = .ref (jad g q) := congrArg Value.ref (Dg_lo hq)
  rw [List.map_cons, List.map_cons, e9]
  exact va_tb X.1 X.2.1 (hT s s.heap X.2.2.2.2.2.2.2.2.2.2.2) hS (jin_vp hj) (v := .int (f j.toNatClampNeg)) rfl d0 (k p e s m as below meth c H locs ls da X hD hP hS hl)
/-- a method of a constant text is called -/
theorem dr_callStr {mc ms : Nat} {tl : List Nat} {len : List Nat} {byt : List (List Int32)} {aV : Nat → Nat} {post' : Option Value → dM → Prop} (hq : q < 1000) (hE : ∀ (U : State) (H : Heap), jE g U H → vk_S 1 len byt (fun _ => jad g q) aV (Dge z.2.2.2.2) U H) (hf : Dfit z mt' n' mc ms c0 s0) (hfr : Dfree z L r tl) (hd : decode mt.2.1 pc = .ok (.invokevirtual idx, 3)) (hlk : Cond.methodLink mt.1.cls idx mt'.1 ∈ jGw) (hm : jMv mt' na) (hcl : mt'.1.cls = "java/lang/String") (hs : st = as.reverse ++ .ref q :: r) (hna : as.length = na) (hst : (r.map fun v => v.category).sum ≤ 8)
    (hc : dCon g z.2.2.2.2 n' mc ms tl mt' (.ref q :: as) σ post') (k : ∀ v τ, post' v τ → DW g z mt (pc + 3) L (v.toList ++ r) τ (c0 + mc) (s0 + ms)) : DW g z mt pc L st σ c0 s0 := by
  obtain ⟨⟨hi, hco, hmh, hml⟩, him, hse⟩ := hm
  intro p e s m as0 below meth c H locs ls da X hD hP hS hl
  have hts := X.2.2.2.2.2.2.1
  have hM := hc (Dkeep z L r) (Dkeep_no hfr) da
  have e9 : Dadr g da q = jad g q := Dg_lo hq
  have hrc := vk_recv (hE s s.heap X.2.2.2.2.2.2.2.2.2.2.2) (show 0 < 1 by decide) hS
  rw [← hcl] at hrc
  refine DW.back (a9 := (Value.ref (jad g q) :: as.map (jrl (Dg g da))).toArray) (kp := Dkeep z L r) (fun k hk => Dkeep_z hk) Dkeep_L Dkeep_r X hD hS hl ?_ k
  refine va_runV (As := as.map (jrl (Dg g da))) (rest := r.map (jrl (Dg g da))) (b := jad g q) (C := mt'.1.cls) (n := na) (maxL := mt'.2.2.1) (ret := mt'.2.2.2) (bytes := mt'.2.1) ⟨X.1, X.2.1, X.2.2.1, X.2.2.2.2.2.1, hts⟩ hM
    (cwV na hts (jGI (fun w hw => ?_)) rfl rfl rfl ⟨rfl, hmh⟩ ⟨hf.1, hf.2.1⟩) ⟨dblind, hrc, fun U hU hW => ⟨by simp [jrl]; exact e9.symm, by rw [hU]; exact hP, hD.1, by rw [hU]; exact Nat.le_trans X.2.2.2.2.2.2.2.1 hS.1, X.2.2.2.2.2.2.2.2.moved hW (fun a h1 h2 => by rw [hU]; exact hS.2.1 a h1 (Dge_not h2))⟩⟩ rfl (by simp [hna]) hl.1 (by rw [hs]; simp [jrl]; exact e9) (lv_room (Dcat da hst)) hd ⟨hf.2.2.1, hf.2.2.2⟩
  unfold wsV at hw
  rcases List.mem_append.mp hw with hw | hw
  · simp only [List.mem_cons, List.not_mem_nil, or_false] at hw
    rcases hw with rfl | rfl | rfl | rfl
    · exact hlk
    · exact him
    · exact hse
    · exact hi
  · exact jwd_in hco w hw
theorem DrI_ce1 {da : Nat → Nat} {t : Nat} {F : Nat → Int32} (ha : darr a 1 t = true) : Dce g da (DrI σ a F) a = .inl (jta g t, DN σ a, .inl F) := by
  obtain ⟨h1, h2, h3, h4⟩ := darr_spec ha
  have e9 : DI (DrI σ a F) a = F := funext fun i => by rw [DrI_I, if_pos rfl]
  rw [Dce_1 h1 h3, h4, e9, DrI_N]
theorem DrI_cen {da : Nat → Nat} {F : Nat → Int32} {j : Nat} (h : j ≠ a) : Dce g da (DrI σ a F) j = Dce g da σ j :=
  Dce_cg rfl (funext fun i => by rw [DrI_I, if_neg h]) rfl (fun _ => rfl) rfl
theorem acp_room (hst : (r.map fun v => v.category).sum ≤ 8) (da : Nat → Nat) (hf : 26 ≤ z.1.locals) : ((r.map (jrl (Dg g da))).map fun v => v.category).sum + (nativeFrameWords "java/lang/System" "arraycopy" 5 + 11) ≤ z.1.locals := by
  have := Dcat (g := g) da hst
  have e2 : nativeFrameWords "java/lang/System" "arraycopy" 5 = 7 := by decide
  rw [e2]
  omega
theorem dr_copyB {a1 : Nat} {sp dp m9 : Int32} (ha : darr a 1 1 = true) (hA : DA σ a = true) (ha1 : darr a1 1 1 = true) (hA1 : DA σ a1 = true) (h1 : ¬ sp < 0) (h2 : ¬ dp < 0) (h3 : ¬ m9 < 0) (h4 : sp.toNatClampNeg + m9.toNatClampNeg ≤ DN σ a) (h5 : dp.toNatClampNeg + m9.toNatClampNeg ≤ DN σ a1)
    (hfit : ∀ i, i < m9.toNatClampNeg → fits .byte (.int (DI σ a (sp.toNatClampNeg + i))) = true) (hst : (r.map fun v => v.category).sum ≤ 8) (hf : 1 ≤ z.1.frames ∧ 26 ≤ z.1.locals) (hlk : Cond.methodLink mt.1.cls idx arraycopyName ∈ jGw) (d : decode mt.2.1 pc = .ok (.invokestatic idx, 3))
    (k : DW g z mt (pc + 3) L r (DrI σ a1 (va_cpy (DI σ a) (DI σ a1) sp.toNatClampNeg dp.toNatClampNeg m9.toNatClampNeg)) c0 s0) : DW g z mt pc L (.int m9 :: .int dp :: .ref a1 :: .int sp :: .ref a :: r) σ c0 s0 := by
  intro p e s m as below meth c H locs ls da X hD hP hS hl
  have hts : ∀ w ∈ jGw, w.before as s = true := fun w hw => X.2.2.2.2.2.2.1 _ (List.mem_cons_of_mem _ hw)
  obtain ⟨b1, b2, b3, b4⟩ := darr_spec ha
  obtain ⟨d1, d2, d3, d4⟩ := darr_spec ha1
  obtain ⟨i, hi, hg⟩ := Dws_get (g := g) (da := da) (Dal_hi b1 b2 hA)
  obtain ⟨i1, hi1, hg1⟩ := Dws_get (g := g) (da := da) (Dal_hi d1 d2 hA1)
  rw [Dce_1 b1 b3, b4] at hg
  rw [Dce_1 d1 d3, d4] at hg1
  have hT := Dtys_get g (show 1 < 10 by decide)
  refine va_copyi (n := m9) X.1 X.2.1 (X.2.2.1.trans hl.1.symm) X.2.2.2.2.2.1 (hts _ hlk) (hts _ acp_w.1) (hts _ acp_w.2.1) (hts _ acp_w.2.2) X.2.2.2.2.2.2.2.2.1 hP (DD hD.1) hS i i1 1 1 hg hg1 hT hT rfl h1 h2 h3 h4 h5 hfit hf.1 (acp_room hst da hf.2) d (fun H1 locs1 hP1 hD1 hS1 => ?_)
  have hok : Dok g z.2.2.2.2 da (DrI σ a1 (va_cpy (DI σ a) (DI σ a1) sp.toNatClampNeg dp.toNatClampNeg m9.toNatClampNeg)) := ⟨hD.1.1, hD.1.2.1, hD.1.2.2⟩
  exact k p e s m as below meth c H1 locs1 ls da X ⟨hok, hD.2⟩ (Dws_set hi1 (fun _ => rfl) (DrI_ce1 ha1) (fun q hq _ => DrI_cen hq) hP1) hS1 hl
theorem dr_copyE {a1 N : Nat} {f : Nat → Int32} {sp dp m9 : Int32} (hq : q < 1000) (hT9 : ∀ (U : State) (H : Heap), jE g U H → va_T .byte (jad g q) N (fun j => .int (f j)) (Dge z.2.2.2.2) U H) (ha1 : darr a1 1 1 = true) (hA1 : DA σ a1 = true) (h1 : ¬ sp < 0) (h2 : ¬ dp < 0) (h3 : ¬ m9 < 0) (h4 : sp.toNatClampNeg + m9.toNatClampNeg ≤ N) (h5 : dp.toNatClampNeg + m9.toNatClampNeg ≤ DN σ a1)
    (hfit : ∀ i, i < m9.toNatClampNeg → fits .byte (.int (f (sp.toNatClampNeg + i))) = true) (hst : (r.map fun v => v.category).sum ≤ 8) (hf : 1 ≤ z.1.frames ∧ 26 ≤ z.1.locals) (hlk : Cond.methodLink mt.1.cls idx arraycopyName ∈ jGw) (d : decode mt.2.1 pc = .ok (.invokestatic idx, 3))
    (k : DW g z mt (pc + 3) L r (DrI σ a1 (va_cpy f (DI σ a1) sp.toNatClampNeg dp.toNatClampNeg m9.toNatClampNeg)) c0 s0) : DW g z mt pc L (.int m9 :: .int dp :: .ref a1 :: .int sp :: .ref q :: r) σ c0 s0 := by
  intro p e s m as below meth c H locs ls da X hD hP hS hl
  have hts : ∀ w ∈ jGw, w.before as s = true := fun w hw => X.2.2.2.2.2.2.1 _ (List.mem_cons_of_mem _ hw)
  obtain ⟨d1, d2, d3, d4⟩ := darr_spec ha1
  obtain ⟨i1, hi1, hg1⟩ := Dws_get (g := g) (da := da) (Dal_hi d1 d2 hA1)
  rw [Dce_1 d1 d3, d4] at hg1
  have hT := Dtys_get g (show 1 < 10 by decide)
  have e9 : jrl (Dg g da) (.ref q) = .ref (jad g q) := congrArg Value.ref (Dg_lo hq)
  simp only [List.map_cons, e9]
  refine vk_copyt (n := m9) X.1 X.2.1 (X.2.2.1.trans hl.1.symm) X.2.2.2.2.2.1 (hts _ hlk) (hts _ acp_w.1) (hts _ acp_w.2.1) (hts _ acp_w.2.2) X.2.2.2.2.2.2.2.2.1 hP (DD hD.1) hS (hT9 s s.heap X.2.2.2.2.2.2.2.2.2.2.2) i1 1 hg1 hT h1 h2 h3 h4 h5 hfit hf.1 (acp_room hst da hf.2) d (fun H1 locs1 hP1 hD1 hS1 => ?_)
  have hok : Dok g z.2.2.2.2 da (DrI σ a1 (va_cpy f (DI σ a1) sp.toNatClampNeg dp.toNatClampNeg m9.toNatClampNeg)) := ⟨hD.1.1, hD.1.2.1, hD.1.2.2⟩
  exact k p e s m as below meth c H1 locs1 ls da X ⟨hok, hD.2⟩ (Dws_set hi1 (fun _ => rfl) (DrI_ce1 ha1) (fun q hq _ => DrI_cen hq) hP1) hS1 hl
theorem fits_rowB {cA : ClassId} {n : Nat} {f : Nat → Int32} {i : Nat} {v : Value} (hf : ∀ i, i < n → fits .byte (.int (f i)) = true) (h : (vp_cell cA (n, .inl f)).slots[i]? = some v) : fits .byte v = true := by
  have h' : (Array.ofFn (n := n) fun j => Value.int (f j.val))[i]? = some v := h
  obtain ⟨hi, e⟩ := Array.getElem?_eq_some_iff.mp h'
  rw [Array.getElem_ofFn] at e
  rw [← e]
  exact hf _ (by simpa using hi)
theorem dr_cloneB {b : Nat} (ha : darr a 1 1 = true) (hA : DA σ a = true) (hb : darr b 1 1 = true) (hB : DA σ b = false) (hkp : z.2.2.1 b = false) (hfit : ∀ i, i < DN σ a → fits .byte (.int (DI σ a i)) = true) (hcells : c0 + 1 ≤ z.1.cells) (hslots : s0 + DN σ a ≤ z.1.slots) (hL : DnL b L = true) (hr : Dnr b r = true) (hst : (r.map fun v => v.category).sum ≤ 8) (hf : 1 ≤ z.1.frames ∧ 22 ≤ z.1.locals)
    (hE : ∀ (U : State) (H : Heap), jE g U H → va_Nw (.castable "[B" "java/lang/Cloneable") U) (hlk : Cond.methodLink mt.1.cls idx ⟨"[B", "clone", "()Ljava/lang/Object;"⟩ ∈ jGw) (d : decode mt.2.1 pc = .ok (.invokevirtual idx, 3))
    (k : DW g z mt (pc + 3) L (.ref b :: r) (Dcl σ b a) (c0 + 1) (s0 + DN σ a)) : DW g z mt pc L (.ref a :: r) σ c0 s0 := by
  intro p e s m as below meth c H locs ls da X hD hP hS hl
  have hts : ∀ w ∈ jGw, w.before as s = true := fun w hw => X.2.2.2.2.2.2.1 _ (List.mem_cons_of_mem _ hw)
  obtain ⟨h1, h2, h3, h4⟩ := darr_spec ha
  obtain ⟨b1, b2, b3, b4⟩ := darr_spec hb
  obtain ⟨i, -, hi⟩ := Dws_get (g := g) (da := da) (Dal_hi h1 h2 hA)
  rw [Dce_1 h1 h3, h4] at hi
  have hK := X.2.2.2.2.2.2.2.2.1
  refine va_clone (x := (DN σ a, .inl (DI σ a))) (rest := r.map (jrl (Dg g da))) (a := Dadr g da a) X.1 X.2.1 (X.2.2.1.trans hl.1.symm) X.2.2.2.2.2.1 (hts _ hlk) (hts _ (jGw_of 806 (by decide +kernel) (by decide +kernel))) (hts _ (jGw_of 807 (by decide +kernel) (by decide +kernel))) (hts _ (jGw_of 808 (by decide +kernel) (by decide +kernel))) (hts _ (jGw_of 809 (by decide +kernel) (by decide +kernel))) (hE _ _ X.2.2.2.2.2.2.2.2.2.2.2) hK hP (DD hD.1) hS (fun q hq => Nat.le_trans X.2.2.2.2.2.2.2.1 hq) i 1 hi (Dtys_get g (by decide)) (hK.2 1 _ (Dtys_get g (by decide))).2 (fun i v hv => fits_rowB hfit hv) hf.1 ?_ hcells hslots d (fun q H1 hK1 hP1 hD1 hS1 => ?_)
  · have := Dcat (g := g) da hst
    have h9 := hf.2
    omega
  · refine DW.born b1 (Dal_no b1 hB) hkp (fun j => Dcl_al) Dcl_cl ?_ (fun j hj _ => ?_) rfl hL hr k X hD hP1 hD1 hS1 hl
    · have e9 : DI (Dcl σ b a) b = DI σ a := funext fun i => by rw [Dcl_I, if_pos rfl]
      rw [Dce_1 b1 b3, b4, Dcl_N, if_pos rfl, e9]
    · refine ⟨funext fun i => ?_, funext fun i => ?_, funext fun i => ?_, ?_⟩
      · rw [Dcl_I, if_neg hj]
      · rw [Dcl_L, if_neg hj]
      · rw [Dcl_R, if_neg hj]
      · rw [Dcl_N, if_neg hj]
theorem dr_castB (ha : darr a 1 1 = true) (hA : DA σ a = true) (hlk : Cond.classLink mt.1.cls idx "[B" ∈ jGw) (d : decode mt.2.1 pc = .ok (.checkcast idx, 3)) (k : DW g z mt (pc + 3) L (.ref a :: r) σ c0 s0) : DW g z mt pc L (.ref a :: r) σ c0 s0 := by
  intro p e s m as below meth c H locs ls da X hD hP hS hl
  have hts : ∀ w ∈ jGw, w.before as s = true := fun w hw => X.2.2.2.2.2.2.1 _ (List.mem_cons_of_mem _ hw)
  obtain ⟨h1, h2, h3, h4⟩ := darr_spec ha
  obtain ⟨i, -, hi⟩ := Dws_get (g := g) (da := da) (Dal_hi h1 h2 hA)
  rw [Dce_1 h1 h3, h4] at hi
  have hK := X.2.2.2.2.2.2.2.2.1
  exact va_castA (a := Dadr g da a) (rest := r.map (jrl (Dg g da))) X.1 X.2.1 X.2.2.2.2.2.1 (hts _ hlk) hP i hi (hK.2 1 _ (Dtys_get g (by decide))).2 d (k p e s m as below meth c H locs ls da X hD hP hS hl)
end DEXT
