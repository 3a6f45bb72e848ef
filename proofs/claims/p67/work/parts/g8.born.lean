/-! newborn: the walk of a constructor; the cells are numbered as they are made: number k lies at h0 + k -/
abbrev lwT : Type := List Frame → Array Value → State → State → Prop
def kB (g : jG) (h0 : Nat) : Prop := ∀ k, k < jN → jad g k = h0 + k
def kpe (g : jG) (σ : jM) (k : Nat) : Nat × va_E := (jad g k, jcell g σ k)
/-- the cell me, its fields as fs says, and the whole ones behind it up to t -/
def kws (g : jG) (σ : jM) (me : Nat) (fs : List Value) (t : Nat) : va_W := (jad g me, .inr ((jshp me).2.1, fs.map (jrl g))) :: (List.range (t - me - 1)).map (fun k => kpe g σ (me + 1 + k))
/-- the words of arrays over arrays, over flats, and those of nests -/
def kNw (U : State) : Prop := (∀ w ∈ jNw, va_Nw w U) ∧ (Cond.arrayOver (.array .int)).before #[] U = true ∧ va_AO "RentDivision$Flat" U
def kX (g : jG) (mt : jMt) (p : Program) (s : State) (m : MethodId) (args : Array Value) (meth : Method) (c : Code) : Prop :=
  p.tables.exec = Jvm.exec ∧ c.code = mt.2.1 ∧ c.maxLocals = mt.2.2.1 ∧ meth.sig.returnType = mt.2.2.2 ∧ meth.locks = false ∧ s.vm.findClass mt.1.cls = some m.cls ∧ (∀ w ∈ jwX, w.before args s = true) ∧ va_K g.2.1 vwCl (jtys g) s ∧ kNw s ∧ meth.name = mt.1.name
def kA (h0 me : Nat) : Nat → Prop := fun q => h0 + me ≤ q
def kW (g : jG) (h0 : Nat) (rm : Room) (mt : jMt) (me : Nat) (T : lwT) (c0 s0 : Nat) (pc : Nat) (L : List (Nat × Value)) (st : List Value) (t : Nat) (fs : List Value) (σ : jM) : Prop :=
  ∀ (p : Program) (e : Env) (s : State) (m : MethodId) (args : Array Value) (below : List Frame) (meth : Method) (c : Code) (H : Heap) (locs : List Loc) (ls : Array Slot),
    kX g mt p s m args meth c → (s.heap.size + c0 = h0 + t ∧ h0 + me ≤ s.heap.size) → va_P g.2.1 vwCl (kws g σ me fs t) H → va_S (kA h0 me) s.heap H locs → lv_has ls mt.2.2.1 (jL g L) →
    W p g.1 e rm s m args below meth c H locs c0 s0 (T below args s) (F0 m pc ls (st.map (jrl g)))
theorem kws_get (g : jG) (σ : jM) {me t k : Nat} (fs : List Value) (h1 : me < k) (h2 : k < t) : (kws g σ me fs t)[k - me]? = some (kpe g σ k) := by
  unfold kws
  obtain ⟨d, rfl⟩ : ∃ d, k = me + 1 + d := ⟨k - me - 1, by omega⟩
  have e : me + 1 + d - me = d + 1 := by omega
  rw [e, List.getElem?_cons_succ, List.getElem?_map, List.getElem?_range (by omega)]
  rfl
theorem kws_inv {g : jG} {σ : jM} {me t i : Nat} {fs : List Value} {q : Nat × va_E} (ht : me < t) (h : (kws g σ me fs t)[i]? = some q) : me + i < t ∧ q.1 = jad g (me + i) := by
  unfold kws at h
  match i, h with
  | 0, h =>
    cases h
    exact ⟨ht, rfl⟩
  | i + 1, h =>
    rw [List.getElem?_cons_succ, List.getElem?_map] at h
    by_cases hi : i < t - me - 1
    · rw [List.getElem?_range hi] at h
      cases h
      refine ⟨by omega, ?_⟩
      show jad g (me + 1 + i) = _
      congr 1
      omega
    · have hn : (List.range (t - me - 1))[i]? = none := List.getElem?_eq_none (by rw [List.length_range]; omega)
      rw [hn] at h
      cases h
theorem kws_len (g : jG) (σ : jM) {me t : Nat} (fs : List Value) (ht : me < t) : (kws g σ me fs t).length = t - me := by
  unfold kws
  simp
  omega
theorem kD {g : jG} {h0 : Nat} (hB : kB g h0) (σ : jM) {me t : Nat} (fs : List Value) (ht : me < t) (hN : t ≤ jN) : va_D (kA h0 me) (kws g σ me fs t) := by
  refine ⟨fun i j p q hi hj e => ?_, fun k q hk => ?_⟩
  · obtain ⟨a1, a2⟩ := kws_inv ht hi
    obtain ⟨b1, b2⟩ := kws_inv ht hj
    rw [a2, b2, hB _ (by omega), hB _ (by omega)] at e
    omega
  · obtain ⟨a1, a2⟩ := kws_inv ht hk
    rw [a2, hB _ (by omega)]
    unfold kA
    omega
/-- one whole cell more -/
theorem kws_succ (g : jG) (σ : jM) {me t : Nat} (fs : List Value) (ht : me < t) : kws g σ me fs (t + 1) = kws g σ me fs t ++ [kpe g σ t] := by
  unfold kws
  have e : t + 1 - me - 1 = (t - me - 1) + 1 := by omega
  rw [e, List.range_succ, List.map_append, List.cons_append]
  congr 3
  show [kpe g σ (me + 1 + (t - me - 1))] = _
  congr 2
  omega
/-- where a new cell lies -/
theorem k_new {g : jG} {h0 : Nat} (hB : kB g h0) {σ : jM} {me t q : Nat} {fs : List Value} {e : va_E} (ht : me < t) (hN : t < jN) (hD : va_D (kA h0 me) (kws g σ me fs t ++ [(q, e)])) (hq : q < h0 + t + 1) : q = jad g t := by
  rw [hB t hN]
  have hA : h0 + me ≤ q := hD.2 (kws g σ me fs t).length (q, e) (by simp)
  rcases Nat.lt_or_ge q (h0 + t) with c | c
  · exfalso
    have hlen := kws_len g σ fs ht
    have hk : q - h0 - me < (kws g σ me fs t).length := by omega
    have h1 : (kws g σ me fs t ++ [(q, e)])[q - h0 - me]? = some ((kws g σ me fs t)[q - h0 - me]'hk) := by
      rw [List.getElem?_append_left hk]
      exact List.getElem?_eq_getElem hk
    have h2 := (kws_inv ht (List.getElem?_eq_getElem hk)).2
    have h3 := hD.1 _ (kws g σ me fs t).length _ (q, e) h1 (by simp) (by
      rw [h2, hB _ (by omega)]
      show h0 + (me + (q - h0 - me)) = q
      omega)
    omega
  · omega
theorem kAO_mv {t : FieldType} {u U : State} (hvm : u.vm.Alike U.vm) (h : (Cond.arrayOver (.array t)).before #[] u = true) : (Cond.arrayOver (.array t)).before #[] U = true := by
  obtain ⟨comp, c, k, h1, h2, h3, h4, h5⟩ := arrayOver_specB h
  obtain ⟨k', hk', he⟩ := hvm.2.2 _ _ h3
  have hi := Eq.trans (c := some c) (va_idx_bare U.vm comp).symm (by
    first
      | (rw [hvm.bare_eq]; exact (va_idx_bare u.vm comp).trans h2)
      | (rw [← hvm.bare_eq]; exact (va_idx_bare u.vm comp).trans h2))
  have hkind : k'.kind = .array comp (.array t) := by rw [he]; exact h4
  have f1 : U.vm.findClass (FieldType.array t).toString = some comp := by rw [hvm.findClass]; exact h1
  have f2 : U.vm.findClass ("[" ++ (FieldType.array t).toString) = some c := by rw [hvm.findClass]; exact h5
  unfold Cond.before Cond.holds
  simp only [Cond.value]
  rw [f1, Option.bind_some]
  refine (congrArg (fun o : Option Nat => (o.bind (fun c => (U.vm.classes[c]?).map fun (k : Class) => match k.kind with | .array _ ty => decide (ty = FieldType.array t) && decide (U.vm.findClass ("[" ++ (FieldType.array t).toString) = some c) | _ => false) == some true)) hi).trans ?_
  simp [hk', hkind, f2]
