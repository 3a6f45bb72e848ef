/-! the judgement jW: a walk of one method over the fixed table of cells; what the cells hold is three tables of numbers (ints, longs, doubles) -/
abbrev jM : Type := (Nat → Nat → Int32) × (Nat → Nat → Int64) × (Nat → Nat → UInt64)
/-- the launch, where classes lie, where cells lie, the classes of arrays -/
abbrev jG : Type := Launch × va_G × (Nat → Nat) × (Nat → ClassId) × (State → Heap → Prop)
/-- a method: name, code, locals, what it returns -/
abbrev jMt : Type := MethodName × ByteArray × Nat × Option FieldType
def jad (g : jG) : Nat → Nat := g.2.2.1
def jta (g : jG) : Nat → ClassId := g.2.2.2.1
/-- what is known of the heap outside the cells: constant texts, statics -/
def jE (g : jG) : State → Heap → Prop := g.2.2.2.2
def jrl (g : jG) : Value → Value
  | .ref k => .ref (jad g k)
  | v => v
theorem jrl_cat (g : jG) (v : Value) : (jrl g v).category = v.category := by cases v <;> rfl
def jL (g : jG) (L : List (Nat × Value)) : List (Nat × Value) := L.map (fun q => (q.1, jrl g q.2))
def jfv (g : jG) (σ : jM) (k j c : Nat) : Value := match c with
  | 0 => .int (σ.1 k j)
  | 1 => .long (σ.2.1 k j)
  | c + 2 => .ref (jad g c)
def jfs (g : jG) (σ : jM) (k : Nat) (tab : List Nat) : List Value := (List.range tab.length).map (fun j => jfv g σ k j (tab.getD j 0))
def jcell (g : jG) (σ : jM) (k : Nat) : va_E :=
  if (jshp k).1 = 0 then .inr ((jshp k).2.1, jfs g σ k (jshp k).2.2.2)
  else if (jshp k).1 = 1 then .inl (jta g (jshp k).2.1, (jshp k).2.2.1, .inl (σ.1 k))
  else if (jshp k).1 = 2 then .inl (jta g (jshp k).2.1, (jshp k).2.2.1, .inr (.inl (σ.2.1 k)))
  else if (jshp k).1 = 3 then .inl (jta g (jshp k).2.1, (jshp k).2.2.1, .inr (.inr (.inr (.inl (σ.2.2 k)))))
  else .inl (jta g (jshp k).2.1, (jshp k).2.2.1, .inr (.inr (.inr (.inr (fun j => some (jad g ((jshp k).2.2.2.getD 0 0 + (jshp k).2.2.2.getD 1 0 * j)))))))
def jws (g : jG) (σ : jM) : va_W := (List.range jN).map (fun k => (jad g k, jcell g σ k))
def jtyL : List FieldType := [.int, .byte, .char, .boolean, .long, .long, .array .int, .object "RentDivision$Flat"]
def jtys (g : jG) : List (ClassId × FieldType) := (List.range 8).map (fun t => (jta g t, jtyL.getD t .int))
def jInj (g : jG) : Prop := ∀ i j, i < jN → j < jN → jad g i = jad g j → i = j
def jA (g : jG) : Nat → Prop := fun q => ∃ k, k < jN ∧ q = jad g k
/-- the words that stay true whatever the machine warms -/
def jGw : List Cond := lw_tbl.filter goodWord
def jNw : List Cond := lw_tbl.filter (fun w => match w with | .fieldLinkNest .. => true | .methodLinkNest .. => true | _ => false)
/-- what is known of the rest of the heap stays known -/
def jEk (g : jG) : Prop := (∀ (s U : State) (H : Heap), s.WarmedH U.vm → jE g s H → jE g U H) ∧ (∀ (u U : State) (H : Heap), U.vm = u.vm → jE g u H → jE g U H) ∧ ∀ (U : State) (H H1 : Heap), jE g U H → (∀ a : Nat, a < H.size → ¬ jA g a → H1[a]? = H[a]?) → jE g U H1
def jC (g : jG) (U : State) : Prop := va_K g.2.1 vwCl (jtys g) U ∧ (∀ w ∈ jNw, va_Nw w U) ∧ jEk g ∧ jE g U U.heap
def jHp (g : jG) (σ : jM) (H : Heap) : Prop := va_P g.2.1 vwCl (jws g σ) H
theorem jGw_of {w : Cond} (i : Nat) (h : lw_tbl[i]? = some w) (hg : goodWord w = true) : w ∈ jGw := List.mem_filter.mpr ⟨List.mem_of_getElem? h, hg⟩
theorem jGw_good {w : Cond} (h : w ∈ jGw) : (w.onTables && w.keeps) = true ∨ ∃ ty, w = .arrayClass ty := good_of_word (List.mem_filter.mp h).2
theorem jC.moved {g : jG} {s U : State} (hW : s.WarmedH U.vm) (hq : ∀ a : Nat, a < s.heap.size → ¬ jA g a → U.heap[a]? = s.heap[a]?) (h : jC g s) : jC g U := by
  refine ⟨va_K.moved hW.alike h.1, fun w hw => ?_, h.2.2.1, h.2.2.1.2.2 U s.heap U.heap (h.2.2.1.1 s U s.heap hW h.2.2.2) hq⟩
  have h1 := (List.mem_filter.mp hw).2
  have h2 := h.2.1 w hw
  cases w <;> first | exact va_Nw.warmF hW h2 | exact va_Nw.warmM hW h2 | (exfalso; simp at h1)
theorem jC.calling {g : jG} {U : State} {f : JFrame} {mk : MethodId} {a : Array Value} (h : jC g U) : jC g (U.calling f mk a) := by
  refine ⟨va_K.moved (Vm.Alike.refl U.vm) h.1, fun w hw => ?_, h.2.2.1, h.2.2.1.2.1 U (U.calling f mk a) U.heap rfl h.2.2.2⟩
  have h1 := (List.mem_filter.mp hw).2
  have h2 := h.2.1 w hw
  cases w <;> first | exact va_Nw.same rfl rfl h2 | (exfalso; simp at h1)
theorem jws_get (g : jG) (σ : jM) {k : Nat} (h : k < jN) : (jws g σ)[k]? = some (jad g k, jcell g σ k) := by simp [jws, h]
theorem jws_inv {g : jG} {σ : jM} {k : Nat} {q : Nat × va_E} (h : (jws g σ)[k]? = some q) : k < jN ∧ q = (jad g k, jcell g σ k) := by
  unfold jws at h
  rw [List.getElem?_map] at h
  cases h1 : (List.range jN)[k]? with
  | none => rw [h1] at h; cases h
  | some z =>
    rw [h1] at h
    obtain ⟨h2, h3⟩ := List.getElem?_eq_some_iff.mp h1
    have h4 : k < jN := by simpa using h2
    simp at h3
    subst h3
    exact ⟨h4, (Option.some.inj h).symm⟩
theorem jws_set (g : jG) {σ τ : jM} {k : Nat} {e : va_E} (h : k < jN) (he : jcell g τ k = e) (ho : ∀ j, j ≠ k → jcell g τ j = jcell g σ j) : (jws g σ).set k (jad g k, e) = jws g τ := by
  subst he
  apply List.ext_getElem?
  intro j
  rw [List.getElem?_set]
  by_cases hj : k = j
  · subst hj
    rw [jws_get g τ h]
    simp [jws, h]
  · rw [if_neg hj]
    by_cases hN : j < jN
    · rw [jws_get g σ hN, jws_get g τ hN, ho j (fun q => hj q.symm)]
    · simp [jws, hN]
theorem jD (g : jG) (hI : jInj g) (σ : jM) : va_D (jA g) (jws g σ) := by
  refine ⟨fun i j p q hi hj e => ?_, fun k q hk => ?_⟩
  · obtain ⟨h1, rfl⟩ := jws_inv hi
    obtain ⟨h2, rfl⟩ := jws_inv hj
    exact hI i j h1 h2 e
  · obtain ⟨h1, rfl⟩ := jws_inv hk
    exact ⟨k, h1, rfl⟩
theorem jtys_get (g : jG) {t : Nat} (h : t < 8) : (jtys g)[t]? = some (jta g t, jtyL.getD t .int) := by
  unfold jtys
  rw [List.getElem?_map]
  simp [h]
/-! what may be said of one cell, by its number -/
def jarr (a kind t : Nat) : Bool := decide (a < jN) && ((jshp a).1 == kind && (jshp a).2.1 == t)
def jlen (a : Nat) : Nat := (jshp a).2.2.1
def jtc (c : Nat) : Nat := if c = 0 then 0 else if c = 1 then 1 else 2
def jobj (a ci k tc : Nat) : Bool := decide (a < jN) && ((jshp a).1 == 0 && ((jshp a).2.1 == ci && (decide (k < (jshp a).2.2.2.length) && jtc ((jshp a).2.2.2.getD k 0) == tc)))
def jisO (a ci : Nat) : Bool := decide (a < jN) && ((jshp a).1 == 0 && (jshp a).2.1 == ci)
def jref (a k : Nat) : Nat := (jshp a).2.2.2.getD k 0 - 2
def jelt (a i : Nat) : Nat := (jshp a).2.2.2.getD 0 0 + (jshp a).2.2.2.getD 1 0 * i
def jup (σ : jM) (a k : Nat) (x : Int32) : jM := (fun i j => if i = a ∧ j = k then x else σ.1 i j, σ.2)
def jupL (σ : jM) (a k : Nat) (x : Int64) : jM := (σ.1, fun i j => if i = a ∧ j = k then x else σ.2.1 i j, σ.2.2)
def jupD (σ : jM) (a k : Nat) (x : UInt64) : jM := (σ.1, σ.2.1, fun i j => if i = a ∧ j = k then x else σ.2.2 i j)
/-- a row of another's numbers, laid over -/
def jcpy (σ : jM) (a sa sp dp n : Nat) : jM := (fun i j => if i = a ∧ (dp ≤ j ∧ j < dp + n) then σ.1 sa (sp + (j - dp)) else σ.1 i j, σ.2)
def jin (i : Int32) (n : Nat) : Prop := 0 ≤ i.toInt ∧ i.toInt < n
theorem jin_vp {i : Int32} {n : Nat} (h : jin i n) : vp_in i n := vp_in_iff.mpr h
theorem jarr_spec {a kind t : Nat} (h : jarr a kind t = true) : a < jN ∧ (jshp a).1 = kind ∧ (jshp a).2.1 = t := by
  simp only [jarr, Bool.and_eq_true, decide_eq_true_eq, beq_iff_eq] at h
  exact h
theorem jobj_spec {a ci k tc : Nat} (h : jobj a ci k tc = true) : a < jN ∧ (jshp a).1 = 0 ∧ (jshp a).2.1 = ci ∧ k < (jshp a).2.2.2.length ∧ jtc ((jshp a).2.2.2.getD k 0) = tc := by
  simp only [jobj, Bool.and_eq_true, decide_eq_true_eq, beq_iff_eq] at h
  exact h
theorem jisO_spec {a ci : Nat} (h : jisO a ci = true) : a < jN ∧ (jshp a).1 = 0 ∧ (jshp a).2.1 = ci := by
  simp only [jisO, Bool.and_eq_true, decide_eq_true_eq, beq_iff_eq] at h
  exact h
theorem jcell_o {g : jG} {σ : jM} {a : Nat} (h : (jshp a).1 = 0) : jcell g σ a = .inr ((jshp a).2.1, jfs g σ a (jshp a).2.2.2) := by
  unfold jcell; rw [if_pos h]
theorem jcell_1 {g : jG} {σ : jM} {a : Nat} (h : (jshp a).1 = 1) : jcell g σ a = .inl (jta g (jshp a).2.1, (jshp a).2.2.1, .inl (σ.1 a)) := by
  unfold jcell; rw [h]; rfl
theorem jcell_2 {g : jG} {σ : jM} {a : Nat} (h : (jshp a).1 = 2) : jcell g σ a = .inl (jta g (jshp a).2.1, (jshp a).2.2.1, .inr (.inl (σ.2.1 a))) := by
  unfold jcell; rw [h]; rfl
theorem jcell_3 {g : jG} {σ : jM} {a : Nat} (h : (jshp a).1 = 3) : jcell g σ a = .inl (jta g (jshp a).2.1, (jshp a).2.2.1, .inr (.inr (.inr (.inl (σ.2.2 a))))) := by
  unfold jcell; rw [h]; rfl
theorem jcell_4 {g : jG} {σ : jM} {a : Nat} (h : (jshp a).1 = 4) : jcell g σ a = .inl (jta g (jshp a).2.1, (jshp a).2.2.1, .inr (.inr (.inr (.inr (fun j => some (jad g (jelt a j))))))) := by
  unfold jcell; rw [h]; rfl
theorem jfs_get (g : jG) (σ : jM) (a : Nat) {tab : List Nat} {j : Nat} (h : j < tab.length) : (jfs g σ a tab)[j]? = some (jfv g σ a j (tab.getD j 0)) := by simp [jfs, h]
theorem jfs_len (g : jG) (σ : jM) (a : Nat) (tab : List Nat) : (jfs g σ a tab).length = tab.length := by simp [jfs]
/-- two states of the numbers that agree on a cell: the same cell -/
theorem jcell_cong {g : jG} {σ τ : jM} {a : Nat} (h1 : τ.1 a = σ.1 a) (h2 : τ.2.1 a = σ.2.1 a) (h3 : τ.2.2 a = σ.2.2 a) : jcell g τ a = jcell g σ a := by
  have e : jfs g τ a (jshp a).2.2.2 = jfs g σ a (jshp a).2.2.2 := by
    unfold jfs jfv; rw [h1, h2]
  unfold jcell
  rw [e, h1, h2, h3]
theorem jup_other {g : jG} {σ : jM} {a k : Nat} {x : Int32} (j : Nat) (h : j ≠ a) : jcell g (jup σ a k x) j = jcell g σ j :=
  jcell_cong (by funext z; simp [jup, h]) rfl rfl
theorem jupL_other {g : jG} {σ : jM} {a k : Nat} {x : Int64} (j : Nat) (h : j ≠ a) : jcell g (jupL σ a k x) j = jcell g σ j :=
  jcell_cong rfl (by funext z; simp [jupL, h]) rfl
theorem jupD_other {g : jG} {σ : jM} {a k : Nat} {x : UInt64} (j : Nat) (h : j ≠ a) : jcell g (jupD σ a k x) j = jcell g σ j :=
  jcell_cong rfl rfl (by funext z; simp [jupD, h])
theorem jcpy_other {g : jG} {σ : jM} {a sa sp dp n : Nat} (j : Nat) (h : j ≠ a) : jcell g (jcpy σ a sa sp dp n) j = jcell g σ j :=
  jcell_cong (by funext z; simp [jcpy, h]) rfl rfl
/-- an int field written -/
theorem jfs_up (g : jG) (σ : jM) (a : Nat) {tab : List Nat} {k : Nat} {x : Int32} (h : k < tab.length) (hc : tab.getD k 0 = 0) : jfs g (jup σ a k x) a tab = (jfs g σ a tab).set k (.int x) := by
  apply List.ext_getElem?
  intro j
  rw [List.getElem?_set, jfs_len]
  by_cases hj : j < tab.length
  · rw [jfs_get g _ a hj, jfs_get g σ a hj]
    by_cases e : k = j
    · subst e
      rw [if_pos rfl, if_pos h]
      unfold jfv
      rw [hc]
      simp [jup]
    · rw [if_neg e]
      have e0 : ¬ j = k := fun q => e q.symm
      have e1 : (jup σ a k x).1 a j = σ.1 a j := by simp [jup, e0]
      unfold jfv
      rw [e1]
      first | done | rfl
  · rw [List.getElem?_eq_none (by rw [jfs_len]; omega), List.getElem?_eq_none (by rw [jfs_len]; omega)]
    by_cases e : k = j
    · omega
    · rw [if_neg e]
theorem jfs_upL (g : jG) (σ : jM) (a : Nat) {tab : List Nat} {k : Nat} {x : Int64} (h : k < tab.length) (hc : tab.getD k 0 = 1) : jfs g (jupL σ a k x) a tab = (jfs g σ a tab).set k (.long x) := by
  apply List.ext_getElem?
  intro j
  rw [List.getElem?_set, jfs_len]
  by_cases hj : j < tab.length
  · rw [jfs_get g _ a hj, jfs_get g σ a hj]
    by_cases e : k = j
    · subst e
      rw [if_pos rfl, if_pos h]
      unfold jfv
      rw [hc]
      simp [jupL]
    · rw [if_neg e]
      have e0 : ¬ j = k := fun q => e q.symm
      have e1 : (jupL σ a k x).2.1 a j = σ.2.1 a j := by simp [jupL, e0]
      unfold jfv
      rw [e1]
      first | done | rfl
  · rw [List.getElem?_eq_none (by rw [jfs_len]; omega), List.getElem?_eq_none (by rw [jfs_len]; omega)]
    by_cases e : k = j
    · omega
    · rw [if_neg e]
/-! the judgement -/
def jrm (n : Nat) : Room := { frames := n, cells := 0, slots := 0, locals := 64 * n }
def jQ (g : jG) (post : Option Value → jM → Prop) : Array Value → State → Outcome → State → Prop := fun _ st oc t =>
  (∃ (v : Option Value) (τ : jM), oc = .returned (v.map (jrl g)) ∧ post v τ ∧ jHp g τ t.heap ∧ jC g t) ∧ va_F (jA g) st t
def jPc (g : jG) (args : List Value) (σ : jM) : Array Value → State → Prop := va_Pc (args.map (jrl g)) (fun U => jHp g σ U.heap ∧ jC g U)
def jwd (mt : jMt) : List Cond := .code mt.1 mt.2.1 mt.2.2.1 mt.2.2.2 :: jGw
def jCon (g : jG) (n : Nat) (mt : jMt) (args : List Value) (σ : jM) (post : Option Value → jM → Prop) : Prop :=
  jInj g → Met g.1 mt.1 (jwd mt) (jrm n) (jPc g args σ) (jQ g post) 0 0 (jA g)
/-- the words that a walk has at hand: the good ones (the first of them twice) -/
def jwX : List Cond := Cond.initialized RX11 :: jGw
theorem jwX_ok {args : Array Value} {s : State} (h : ∀ w ∈ jGw, w.before args s = true) : ∀ w ∈ jwX, w.before args s = true := fun w hw => (List.mem_cons.mp hw).elim (fun e => by rw [e]; exact h _ (jGw_of 56 (by decide +kernel) (by decide +kernel))) (h w)
theorem jwX_of {mt : jMt} {args : Array Value} {s : State} (h : ∀ w ∈ jwd mt, w.before args s = true) : ∀ w ∈ jwX, w.before args s = true := jwX_ok (fun w hw => h w (List.mem_cons_of_mem _ hw))
def jX (g : jG) (mt : jMt) (p : Program) (s : State) (m : MethodId) (args : Array Value) (meth : Method) (c : Code) : Prop :=
  p.tables.exec = Jvm.exec ∧ c.code = mt.2.1 ∧ c.maxLocals = mt.2.2.1 ∧ meth.sig.returnType = mt.2.2.2 ∧ meth.locks = false ∧ s.vm.findClass mt.1.cls = some m.cls ∧ (∀ w ∈ jwX, w.before args s = true) ∧ jInj g ∧ jC g s
def jW (g : jG) (mt : jMt) (n : Nat) (post : Option Value → jM → Prop) (pc : Nat) (L : List (Nat × Value)) (st : List Value) (σ : jM) : Prop :=
  ∀ (p : Program) (e : Env) (s : State) (m : MethodId) (args : Array Value) (below : List Frame) (meth : Method) (c : Code) (H : Heap) (locs : List Loc) (ls : Array Slot),
    jX g mt p s m args meth c → jHp g σ H → va_S (jA g) s.heap H locs → lv_has ls mt.2.2.1 (jL g L) →
    W p g.1 e (jrm n) s m args below meth c H locs 0 0 (MQ below (jQ g post) args s 0 0 (jA g)) (F0 m pc ls (st.map (jrl g)))
def jargs (i : Nat) (vs : List Value) : List (Nat × Value) := lv_args i vs
theorem jL_args (g : jG) : ∀ (vs : List Value) (i : Nat), lv_args i (vs.map (jrl g)) = jL g (lv_args i vs)
  | [], _ => rfl
  | v :: vs, i => by
    simp only [List.map_cons, lv_args, jL, jrl_cat]
    rw [jL_args g vs]
    rfl
theorem jsl_len (g : jG) (vs : List Value) : (lg_sl (vs.map (jrl g))).length = (lg_sl vs).length := by
  induction vs with
  | nil => rfl
  | cons v vs ih =>
    simp only [lg_sl, List.map_cons, List.flatMap_cons, List.length_append] at ih ⊢
    rw [ih, jrl_cat]
    by_cases h : v.category = 2 <;> simp [h]
/-- a contract out of a walk from the entry -/
theorem jCon.of {g : jG} {n : Nat} {mt : jMt} {args : List Value} {σ : jM} {post : Option Value → jM → Prop} (hy : plainName mt.1.cls = true) (hlen : (lg_sl args).length ≤ mt.2.2.1)
    (k : jW g mt n post 0 (lv_args 0 args) [] σ) : jCon g n mt args σ post := by
  intro hI
  refine Met.ofW (cc := mt.2.1) (maxL := mt.2.2.1) (ret := mt.2.2.2) hy rfl ?_
  intro p e s m as below meth c s₁ B hml hv
  obtain ⟨rfl, hP, hC⟩ := hv
  have hl := lv_entry (args.map (jrl g)) (n := mt.2.2.1) (by rw [jsl_len]; exact hlen)
  rw [lg_entry_eq]
  rw [jL_args] at hl
  exact k p e s m _ below meth c s.heap [] _ ⟨B.exec, B.bytes, hml, B.returns, B.notSynchronized, findClass_of_methodNamed B.named, jwX_of (atoms_spec (ws := jwd mt) B.pre), hI, hC⟩ hP va_S.rf hl
