/-! newborn: a walk over any world whose cells lie one behind another -/
def kUw (g : jG) (me t : Nat) (w : va_W) : Prop := w.length = t - me ∧ ∀ (i : Nat) (q : Nat × va_E), w[i]? = some q → q.1 = jad g (me + i)
def kU (g : jG) (h0 : Nat) (rm : Room) (mt : jMt) (me : Nat) (T : lwT) (c0 s0 : Nat) (pc : Nat) (L : List (Nat × Value)) (st : List Value) (t : Nat) (w : va_W) : Prop :=
  ∀ (p : Program) (e : Env) (s : State) (m : MethodId) (args : Array Value) (below : List Frame) (meth : Method) (c : Code) (H : Heap) (locs : List Loc) (ls : Array Slot),
    kX g mt p s m args meth c → (s.heap.size + c0 = h0 + t ∧ h0 + me ≤ s.heap.size) → va_P g.2.1 vwCl w H → va_S (kA h0 me) s.heap H locs → lv_has ls mt.2.2.1 (jL g L) →
    W p g.1 e rm s m args below meth c H locs c0 s0 (T below args s) (F0 m pc ls (st.map (jrl g)))
theorem kU.of {g : jG} {h0 : Nat} {rm : Room} {mt : jMt} {me : Nat} {T : lwT} {c0 s0 pc : Nat} {L : List (Nat × Value)} {r : List Value} {t : Nat} {fs : List Value} {σ : jM} (k : kU g h0 rm mt me T c0 s0 pc L r t (kws g σ me fs t)) : kW g h0 rm mt me T c0 s0 pc L r t fs σ := k
theorem kU.to {g : jG} {h0 : Nat} {rm : Room} {mt : jMt} {me : Nat} {T : lwT} {c0 s0 pc : Nat} {L : List (Nat × Value)} {r : List Value} {t : Nat} {fs : List Value} {σ : jM} {w : va_W} (e : w = kws g σ me fs t) (k : kW g h0 rm mt me T c0 s0 pc L r t fs σ) : kU g h0 rm mt me T c0 s0 pc L r t w := by
  subst e
  exact k
theorem kws_U (g : jG) (σ : jM) {me t : Nat} (fs : List Value) (ht : me < t) : kUw g me t (kws g σ me fs t) := ⟨kws_len g σ fs ht, fun _ _ h => (kws_inv ht h).2⟩
theorem kUD {g : jG} {h0 : Nat} (hB : kB g h0) {me t : Nat} {w : va_W} (hw : kUw g me t w) (hN : t ≤ jN) : va_D (kA h0 me) w := by
  have hl : ∀ i (q : Nat × va_E), w[i]? = some q → me + i < jN := fun i q h => by
    have := (List.getElem?_eq_some_iff.mp h).1
    have := hw.1
    omega
  refine ⟨fun i j p q hi hj e => ?_, fun k q hk => ?_⟩
  · rw [hw.2 i p hi, hw.2 j q hj, hB _ (hl i p hi), hB _ (hl j q hj)] at e
    omega
  · rw [hw.2 k q hk, hB _ (hl k q hk)]
    unfold kA
    omega
theorem kUw_app {g : jG} {me t : Nat} {w : va_W} {e : va_E} (ht : me ≤ t) (hw : kUw g me t w) : kUw g me (t + 1) (w ++ [(jad g t, e)]) := by
  refine ⟨by rw [List.length_append, hw.1]; simp; omega, fun i q h => ?_⟩
  by_cases hi : i < w.length
  · rw [List.getElem?_append_left hi] at h
    exact hw.2 i q h
  · rw [List.getElem?_append_right (by omega)] at h
    have h1 := (List.getElem?_eq_some_iff.mp h).1
    simp at h1
    have h2 : i - w.length = 0 := by omega
    rw [h2] at h
    cases h
    show jad g t = _
    congr 1
    have := hw.1
    omega
theorem kUw_set {g : jG} {me t : Nat} {w : va_W} {i : Nat} {e : va_E} (hw : kUw g me t w) : kUw g me t (w.set i (jad g (me + i), e)) := by
  refine ⟨by rw [List.length_set]; exact hw.1, fun j q h => ?_⟩
  rw [List.getElem?_set] at h
  split at h
  · rename_i e1
    split at h
    · cases h
      rw [e1]
    · cases h
  · exact hw.2 j q h
theorem ku_addr {g : jG} {h0 : Nat} (hB : kB g h0) {me t q : Nat} {w : va_W} {e : va_E} (hw : kUw g me t w) (ht : me ≤ t) (hN : t < jN) (hD : va_D (kA h0 me) (w ++ [(q, e)])) (hq : q < h0 + t + 1) : q = jad g t := by
  rw [hB t hN]
  have hA : h0 + me ≤ q := hD.2 w.length (q, e) (by simp)
  rcases Nat.lt_or_ge q (h0 + t) with c | c
  · exfalso
    have hlen := hw.1
    have hk : q - h0 - me < w.length := by omega
    have h1 : (w ++ [(q, e)])[q - h0 - me]? = some (w[q - h0 - me]'hk) := by
      rw [List.getElem?_append_left hk]
      exact List.getElem?_eq_getElem hk
    have h2 := hw.2 _ _ (List.getElem?_eq_getElem hk)
    have h3 := hD.1 _ w.length _ (q, e) h1 (by simp) (by
      rw [h2, hB _ (by omega)]
      show h0 + (me + (q - h0 - me)) = q
      omega)
    omega
  · omega
/-- whole cells me .. t - 1 -/
def kR (g : jG) (σ : jM) (me n : Nat) : va_W := (List.range n).map (fun k => kpe g σ (me + k))
theorem kR_get {g : jG} {σ : jM} {me n i : Nat} (h : i < n) : (kR g σ me n)[i]? = some (kpe g σ (me + i)) := by
  unfold kR
  rw [List.getElem?_map, List.getElem?_range h]
  rfl
theorem kR_inv {g : jG} {σ : jM} {me n i : Nat} {q : Nat × va_E} (h : (kR g σ me n)[i]? = some q) : i < n ∧ q = kpe g σ (me + i) := by
  have h1 := (List.getElem?_eq_some_iff.mp h).1
  unfold kR at h1
  rw [List.length_map, List.length_range] at h1
  rw [kR_get h1] at h
  cases h
  exact ⟨h1, rfl⟩
theorem kR_len (g : jG) (σ : jM) (me n : Nat) : (kR g σ me n).length = n := by
  unfold kR
  simp
theorem kR_U (g : jG) (σ : jM) (me n : Nat) : kUw g me (me + n) (kR g σ me n) := by
  refine ⟨by rw [kR_len]; omega, fun i q h => ?_⟩
  obtain ⟨-, rfl⟩ := kR_inv h
  rfl
theorem kR_app (g : jG) (σ : jM) (me n k : Nat) : kR g σ me n ++ kR g σ (me + n) k = kR g σ me (n + k) := by
  apply List.ext_getElem?
  intro i
  by_cases h : i < n
  · rw [List.getElem?_append_left (by rw [kR_len]; exact h), kR_get h, kR_get (by omega)]
  · rw [List.getElem?_append_right (by rw [kR_len]; omega), kR_len]
    by_cases h2 : i < n + k
    · rw [kR_get (show i - n < k by omega), kR_get h2]
      congr 2
      omega
    · rw [List.getElem?_eq_none (by rw [kR_len]; omega), List.getElem?_eq_none (by rw [kR_len]; omega)]
theorem kR_one (g : jG) (σ : jM) (t : Nat) : [(jad g t, jcell g σ t)] = kR g σ t 1 := rfl
theorem kUw_appR {g : jG} {σ : jM} {me t k : Nat} {w : va_W} (ht : me ≤ t) (hw : kUw g me t w) : kUw g me (t + k) (w ++ kR g σ t k) := by
  refine ⟨by rw [List.length_append, hw.1, kR_len]; omega, fun i q h => ?_⟩
  by_cases hi : i < w.length
  · rw [List.getElem?_append_left hi] at h
    exact hw.2 i q h
  · rw [List.getElem?_append_right (by omega)] at h
    obtain ⟨-, rfl⟩ := kR_inv h
    show jad g _ = _
    congr 1
    have := hw.1
    omega
section KUR
variable {g : jG} {h0 : Nat} {rm : Room} {mt : jMt} {me : Nat} {T : lwT} {c0 s0 pc : Nat} {L : List (Nat × Value)} {r : List Value} {t : Nat} {w : va_W} {σ : jM}
theorem ku_aloadn {j : Fin 4} {x : Nat} (h : jlk L j.val = some (.ref x)) (d : decode mt.2.1 pc = .ok (.aload_n j, 1)) (k : kU g h0 rm mt me T c0 s0 (pc + 1) L (.ref x :: r) t w) : kU g h0 rm mt me T c0 s0 pc L r t w := by
  intro p e s m as below meth c H locs ls X hz hP hS hl
  exact lv_aload_n X.1 X.2.1 d rfl (jL_lk hl h) (k p e s m as below meth c H locs ls X hz hP hS hl)
theorem ku_iconst {z : Int} {v : Int32} (hv : Int32.ofInt z = v) (d : decode mt.2.1 pc = .ok (.iconst z, 1)) (k : kU g h0 rm mt me T c0 s0 (pc + 1) L (.int v :: r) t w) : kU g h0 rm mt me T c0 s0 pc L r t w := by
  intro p e s m as below meth c H locs ls X hz hP hS hl
  exact lv_iconst X.1 X.2.1 d hv (k p e s m as below meth c H locs ls X hz hP hS hl)
theorem ku_bipush {z : Int} {v : Int32} (hv : (Int8.ofInt z).toInt32 = v) (d : decode mt.2.1 pc = .ok (.bipush z, 2)) (k : kU g h0 rm mt me T c0 s0 (pc + 2) L (.int v :: r) t w) : kU g h0 rm mt me T c0 s0 pc L r t w := by
  intro p e s m as below meth c H locs ls X hz hP hS hl
  exact lv_bipush X.1 X.2.1 d hv (k p e s m as below meth c H locs ls X hz hP hS hl)
theorem ku_objInit {i : Nat} (hlk : Cond.methodLink mt.1.cls i objectInit ∈ jGw) (hr : 1 ≤ rm.frames ∧ 20 ≤ rm.locals) (hst : (r.map fun v => v.category).sum ≤ 4) (d : decode mt.2.1 pc = .ok (.invokespecial i, 3)) (k : kU g h0 rm mt me T c0 s0 (pc + 3) L r t w) : kU g h0 rm mt me T c0 s0 pc L (.ref me :: r) t w := by
  intro p e s m as below meth c H locs ls X hz hP hS hl
  have hts : ∀ w ∈ jGw, w.before as s = true := fun w hw => X.2.2.2.2.2.2.1 _ (List.mem_cons_of_mem _ hw)
  refine W.objInit X.1 X.2.1 X.2.2.2.2.2.1 (hts _ hlk) (hts (.instanceMethod objectInit) (jGw_of 303 (by decide +kernel) (by decide +kernel))) (hts _ (jGw_of (w := .code objectInit ⟨#[0xb1]⟩ 1 none) 304 (by decide +kernel) (by decide +kernel))) rfl (by rw [X.2.2.1]; exact hl.1) rfl d ?_ ?_ (k p e s m as below meth c H locs ls X hz hP hS hl)
  · exact hr.1
  · have h9 : 2 * (F0 m pc ls ((Value.ref me :: r).map (jrl g))).monitorRoom + ((r.map (jrl g)).map fun v => v.category).sum ≤ 8 := lv_room (by simpa [jrl_cat, Function.comp_def] using (Nat.le_trans hst (by decide)))
    have := hr.2
    omega
theorem ku_iload {j : Nat} {x : Int32} (h : jlk L j = some (.int x)) (d : decode mt.2.1 pc = .ok (.iload j, 2)) (k : kU g h0 rm mt me T c0 s0 (pc + 2) L (.int x :: r) t w) : kU g h0 rm mt me T c0 s0 pc L (r) t w := by
  intro p e s m as below meth c H locs ls X hz hP hS hl
  exact lv_iload X.1 X.2.1 d (jL_lk hl h) (k p e s m as below meth c H locs ls X hz hP hS hl)
theorem ku_iloadn {j : Fin 4} {x : Int32} (h : jlk L j.val = some (.int x)) (d : decode mt.2.1 pc = .ok (.iload_n j, 1)) (k : kU g h0 rm mt me T c0 s0 (pc + 1) L (.int x :: r) t w) : kU g h0 rm mt me T c0 s0 pc L (r) t w := by
  intro p e s m as below meth c H locs ls X hz hP hS hl
  exact lv_iload_n X.1 X.2.1 d rfl (jL_lk hl h) (k p e s m as below meth c H locs ls X hz hP hS hl)
theorem ku_istoren {j : Fin 4} {x : Int32} (h : j.val < mt.2.2.1) (d : decode mt.2.1 pc = .ok (.istore_n j, 1)) (k : kU g h0 rm mt me T c0 s0 (pc + 1) (jins j.val (.int x) L) (r) t w) : kU g h0 rm mt me T c0 s0 pc L (.int x :: r) t w := by
  intro p e s m as below meth c H locs ls X hz hP hS hl
  exact lv_istore_n X.1 X.2.1 d rfl hl h rfl (fun ls' hl' => k p e s m as below meth c H locs ls' X hz hP hS (jL_ins hl'))
theorem ku_iinc {j : Nat} {z : Int} {x v : Int32} (hz0 : Int32.ofInt z = v) (h : jlk L j = some (.int x)) (hn : j < mt.2.2.1) (d : decode mt.2.1 pc = .ok (.iinc j z, 3)) (k : kU g h0 rm mt me T c0 s0 (pc + 3) (jins j (.int (x + v)) L) (r) t w) : kU g h0 rm mt me T c0 s0 pc L (r) t w := by
  intro p e s m as below meth c H locs ls X hz hP hS hl
  obtain ⟨i, hi⟩ := jL_at (g := g) h
  exact lv_iinc X.1 X.2.1 d hl hi (by rw [hz0]) hn rfl (fun ls' hl' => k p e s m as below meth c H locs ls' X hz hP hS (jL_ins hl'))
theorem ku_icmp {cd : ClassFile.Cond} {o : Int} {tg : Nat} {x y : Int32} (d : decode mt.2.1 pc = .ok (.if_icmp cd o, 3)) (ht : (pc : Int) + o = (tg : Int)) (k : jcmp cd x y (kU g h0 rm mt me T c0 s0 tg L r t w) (kU g h0 rm mt me T c0 s0 (pc + 3) L r t w)) : kU g h0 rm mt me T c0 s0 pc L (.int y :: .int x :: r) t w := by
  intro p e s m as below meth c H locs ls X hz hP hS hl
  have A : ∀ {q : Nat}, kU g h0 rm mt me T c0 s0 q L r t w → W p g.1 e rm s m as below meth c H locs c0 s0 (T below as s) (F0 m q ls (r.map (jrl g))) := fun k => k p e s m as below meth c H locs ls X hz hP hS hl
  cases cd with
  | eq => exact lv_icmp_eq X.1 X.2.1 d ht (fun h => A (k.1 h)) (fun h => A (k.2 h))
  | ne => exact lv_icmp_ne X.1 X.2.1 d ht (fun h => A (k.1 h)) (fun h => A (k.2 h))
  | lt => exact lv_icmp_lt X.1 X.2.1 d ht (fun h => A (k.1 h)) (fun h => A (k.2 h))
  | ge => exact lv_icmp_ge X.1 X.2.1 d ht (fun h => A (k.1 (by first | exact h | exact Int32.not_lt.mpr h | simpa using h))) (fun h => A (k.2 (by first | exact h | exact Int32.not_le.mp h | simpa using h)))
  | gt => exact lv_icmp_gt X.1 X.2.1 d ht (fun h => A (k.1 (by first | exact h | exact Int32.not_le.mpr h | simpa using h))) (fun h => A (k.2 (by first | exact h | exact Int32.not_lt.mp h | simpa using h)))
  | le => exact lv_icmp_le X.1 X.2.1 d ht (fun h => A (k.1 h)) (fun h => A (k.2 h))
theorem ku_goto {o : Int} {tg : Nat} (d : decode mt.2.1 pc = .ok (.goto o, 3)) (ht : (pc : Int) + o = (tg : Int)) (k : kU g h0 rm mt me T c0 s0 tg L r t w) : kU g h0 rm mt me T c0 s0 pc L r t w := by
  intro p e s m as below meth c H locs ls X hz hP hS hl
  exact lv_goto X.1 X.2.1 d ht (k p e s m as below meth c H locs ls X hz hP hS hl)
theorem ku_astoren {j : Fin 4} {x : Nat} (h : j.val < mt.2.2.1) (d : decode mt.2.1 pc = .ok (.astore_n j, 1)) (k : kU g h0 rm mt me T c0 s0 (pc + 1) (jins j.val (.ref x) L) (r) t w) : kU g h0 rm mt me T c0 s0 pc L (.ref x :: r) t w := by
  intro p e s m as below meth c H locs ls X hz hP hS hl
  exact lv_astore_n X.1 X.2.1 d rfl hl h rfl (fun ls' hl' => k p e s m as below meth c H locs ls' X hz hP hS (jL_ins hl'))
theorem ku_astore {j : Nat} {x : Nat} (h : j < mt.2.2.1) (d : decode mt.2.1 pc = .ok (.astore j, 2)) (k : kU g h0 rm mt me T c0 s0 (pc + 2) (jins j (.ref x) L) (r) t w) : kU g h0 rm mt me T c0 s0 pc L (.ref x :: r) t w := by
  intro p e s m as below meth c H locs ls X hz hP hS hl
  exact lv_astore X.1 X.2.1 d hl h rfl (fun ls' hl' => k p e s m as below meth c H locs ls' X hz hP hS (jL_ins hl'))
theorem ku_putF {j ci f c9 N9 : Nat} {vs : List Value} {T9 : u_T} {ty : FieldType} (hB : kB g h0) (hN : t ≤ jN) (hw : kUw g me t w) (hw0 : w[0]? = some (jad g me, .inr (ci, vs))) (hcl : jCls ci mt.1.cls T9 N9) (hk : f < N9) (hlk : Cond.fieldLink mt.1.cls j mt.1.cls (T9 f).2.1 (T9 f).2.2.1 ∈ jGw) (hT : parseFieldDescriptor (T9 f).2.2.1 = some ty ∧ (T9 f).2.2.2 = true) (hv : ∀ x, narrow ty (.ref x) = .ref x ∧ fits ty (.ref x) = true) (hl9 : f < vs.length) (hnm : mt.1.name = "<init>") (d : decode mt.2.1 pc = .ok (.putfield j, 3))
    (k : kU g h0 rm mt me T c0 s0 (pc + 3) L r t (w.set 0 (jad g me, .inr (ci, vs.set f (.ref (jad g c9)))))) : kU g h0 rm mt me T c0 s0 pc L (.ref c9 :: .ref me :: r) t w := by
  intro p e s m as below meth c H locs ls X hz hP hS hl
  obtain ⟨q1, q2, ⟨ty0, q3⟩, q4, q5⟩ := hcl
  exact va_putF X.1 X.2.1 X.2.2.2.2.2.2.1 (fun w hw => List.mem_cons_of_mem _ (q2 w hw)) ty0 q3 q4 X.2.2.2.2.2.1 X.2.2.2.2.2.2.2.1 hP (kUD hB hw hN) hS 0 hw0 q1 f hk (X.2.2.2.2.2.2.1 _ (List.mem_cons_of_mem _ hlk)) (fun x hx => by rw [← q5 f hk]; exact hx) hT.2 (X.2.2.2.2.2.2.2.2.2.trans hnm) (q5 f hk) hT.1 (hv _).1 (hv _).2 hl9 d (fun H1 locs1 hP1 hD1 hS1 => k p e s m as below meth c H1 locs1 ls X hz hP1 hS1 hl)
theorem ku_get {ci f tc j c9 : Nat} {vs : List Value} (hw0 : w[0]? = some (jad g me, .inr (ci, vs))) (hf : jFok mt.1.cls (j, ci, f, tc)) (hv : vs[f]? = some (.ref (jad g c9))) (d : decode mt.2.1 pc = .ok (.getfield j, 3)) (k : kU g h0 rm mt me T c0 s0 (pc + 3) L (.ref c9 :: r) t w) : kU g h0 rm mt me T c0 s0 pc L (.ref me :: r) t w := by
  intro p e s m as below meth c H locs ls X hz hP hS hl
  obtain ⟨C, T9, N, ⟨q1, q2, q3, q4, q5⟩, hk, hty, hlk⟩ := hf
  rcases hlk with hlk | ⟨host, hlk⟩
  · exact va_get X.1 X.2.1 X.2.2.2.2.2.2.1 (fun w hw => List.mem_cons_of_mem _ (q2 w hw)) X.2.2.2.2.2.1 X.2.2.2.2.2.2.2.1 hP 0 hw0 q1 f hk (X.2.2.2.2.2.2.1 _ (List.mem_cons_of_mem _ hlk)) (fun x hx => by rw [← q5 f hk]; exact hx) hv d (k p e s m as below meth c H locs ls X hz hP hS hl)
  · exact va_getN X.1 X.2.1 X.2.2.2.2.2.2.1 (fun w hw => List.mem_cons_of_mem _ (q2 w hw)) X.2.2.2.2.2.1 X.2.2.2.2.2.2.2.1 hP 0 hw0 q1 f hk (va_Nw.use rfl (X.2.2.2.2.2.2.2.2.1.1 _ hlk)) (fun x hx => by rw [← q5 f hk]; exact hx) hv d (k p e s m as below meth c H locs ls X hz hP hS hl)
/-- a new array -/
theorem ku_newa {atype : ArrayType} {ti N' : Nat} {n9 : Int32} {a0 : vp_A} (hB : kB g h0) (ht : me ≤ t) (hN : t < jN) (hw : kUw g me t w) (hti : ti < 8) (hwd : Cond.arrayClass (newarray.typeOf atype) ∈ jGw) (hty : newarray.typeOf atype = jtyL.getD ti .int) (ha : ∀ cA : ClassId, vp_cell cA a0 = arrV cA N' (fun _ => defaultValue (newarray.typeOf atype)))
    (hn : ¬ n9 < 0) (hN9 : n9.toNatClampNeg = N') (hb : N' ≤ 10000) (hcells : c0 + 1 ≤ rm.cells) (hslots : s0 + N' ≤ rm.slots) (d : decode mt.2.1 pc = .ok (.newarray atype, 2)) (k : kU g h0 rm mt me T (c0 + 1) (s0 + N') (pc + 2) L (.ref t :: r) (t + 1) (w ++ [(jad g t, .inl (jta g ti, a0))])) : kU g h0 rm mt me T c0 s0 pc L (.int n9 :: r) t w := by
  intro p e s m as below meth c H locs ls X hz hP hS hl
  have hA : ∀ q, s.heap.size ≤ q → kA h0 me q := fun q hq => by
    have := hz.2
    unfold kA
    omega
  refine va_newa (atype := atype) (ty := newarray.typeOf atype) (a0 := a0) X.1 X.2.1 (X.2.2.2.2.2.2.1 _ (List.mem_cons_of_mem _ hwd)) rfl X.2.2.2.2.2.2.2.1 hP (kUD hB hw (Nat.le_of_lt hN)) hS hA ha hn hN9 ?_ hcells hslots d (fun q cA H1 hK1 hP1 hD1 hS1 => ?_)
  · have : componentBytes (newarray.typeOf atype) ≤ 8 := by cases atype <;> decide
    exact Nat.le_trans (Nat.mul_le_mul hb this) (by decide)
  · have hcA : cA = jta g ti := by
      have r1 := (hK1.2 (jtys g).length (cA, newarray.typeOf atype) (by simp)).2
      have r2 := (X.2.2.2.2.2.2.2.1.2 ti _ (jtys_get g hti)).2
      rw [← hty] at r2
      exact va_RA_inj r1 r2
    intro T0 hT0 X0
    have hsz := X0.heapSize
    have hz1 := hz.1
    have hz2 := hz.2
    have hq : q < h0 + t + 1 := by
      have := vx_lt hP1 (k := w.length) (q := (q, .inl (cA, a0))) (by simp)
      rw [hT0] at hsz
      show q < h0 + t + 1
      have h9 : q < H1.size := this
      omega
    have hq2 := ku_addr hB hw ht hN hD1 hq
    subst hq2
    rw [hcA] at hP1
    exact k p e s m as below meth c H1 locs ls X ⟨by omega, hz2⟩ hP1 hS1 hl T0 hT0 X0
/-- a new array of flats -/
theorem ku_anew {index N' : Nat} {n9 : Int32} (hB : kB g h0) (ht : me ≤ t) (hN : t < jN) (hw : kUw g me t w) (hwd : Cond.classLink mt.1.cls index "RentDivision$Flat" ∈ jGw)
    (hn : ¬ n9 < 0) (hN9 : n9.toNatClampNeg = N') (hb : N' ≤ 10000) (hcells : c0 + 1 ≤ rm.cells) (hslots : s0 + N' ≤ rm.slots) (d : decode mt.2.1 pc = .ok (.anewarray index, 3)) (k : kU g h0 rm mt me T (c0 + 1) (s0 + N') (pc + 3) L (.ref t :: r) (t + 1) (w ++ [(jad g t, .inl (jta g 7, N', .inr (.inr (.inr (.inr (fun _ => none))))))])) : kU g h0 rm mt me T c0 s0 pc L (.int n9 :: r) t w := by
  intro p e s m as below meth c H locs ls X hz hP hS hl
  have hA : ∀ q, s.heap.size ≤ q → kA h0 me q := fun q hq => by
    have := hz.2
    unfold kA
    omega
  refine va_newq (C := "RentDivision$Flat") X.1 X.2.1 X.2.2.2.2.2.1 (X.2.2.2.2.2.2.1 _ (List.mem_cons_of_mem _ hwd)) X.2.2.2.2.2.2.2.2.1.2.2 X.2.2.2.2.2.2.2.1 hP (kUD hB hw (Nat.le_of_lt hN)) hS hA hn hN9 (by omega) hcells hslots d (fun q cA H1 hK1 hP1 hD1 hS1 => ?_)
  have hcA : cA = jta g 7 := by
    have r1 := (hK1.2 (jtys g).length (cA, .object "RentDivision$Flat") (by simp)).2
    have r2 := (X.2.2.2.2.2.2.2.1.2 7 _ (jtys_get g (by decide))).2
    exact va_RA_inj r1 r2
  intro T0 hT0 X0
  have hsz := X0.heapSize
  have hz1 := hz.1
  have hz2 := hz.2
  have hq : q < h0 + t + 1 := by
    have := vx_lt hP1 (k := w.length) (q := (q, .inl (cA, N', .inr (.inr (.inr (.inr (fun _ => none))))))) (by simp)
    rw [hT0] at hsz
    show q < h0 + t + 1
    have h9 : q < H1.size := this
    omega
  have hq2 := ku_addr hB hw ht hN hD1 hq
  subst hq2
  rw [hcA] at hP1
  exact k p e s m as below meth c H1 locs ls X ⟨by omega, hz2⟩ hP1 hS1 hl T0 hT0 X0
/-- a flat put into an array of flats -/
theorem ku_aast {q0 qk n v : Nat} {f : Nat → Option Nat} {vs : List Value} {T9 : u_T} {N9 : Nat} {i : Int32} (hB : kB g h0) (hN : t ≤ jN) (hw : kUw g me t w) (ha : w[q0]? = some (jad g (me + q0), .inl (jta g 7, n, .inr (.inr (.inr (.inr f)))))) (hv : w[qk]? = some (jad g v, .inr (2, vs))) (hc : vwCl[2]? = some ("RentDivision$Flat", T9, N9)) (hi : jin i n) (d : decode mt.2.1 pc = .ok (.aastore, 1))
    (k : kU g h0 rm mt me T c0 s0 (pc + 1) L r t (w.set q0 (jad g (me + q0), .inl (jta g 7, n, .inr (.inr (.inr (.inr (va_up f i.toNatClampNeg (some (jad g v))))))))) ) : kU g h0 rm mt me T c0 s0 pc L (.ref v :: .int i :: .ref (me + q0) :: r) t w := by
  intro p e s m as below meth c H locs ls X hz hP hS hl
  exact va_astq (r := ("RentDivision$Flat", T9, N9)) X.1 X.2.1 X.2.2.2.2.2.2.2.1 hP (kUD hB hw hN) hS q0 7 qk 2 ha (jtys_get g (by decide)) hv hc (jin_vp hi) d (fun H1 locs1 hP1 hD1 hS1 => k p e s m as below meth c H1 locs1 ls X hz hP1 hS1 hl)
theorem ku_new {mt' : jMt} {ci N9 nn ms n' j1 j2 : Nat} {T9 : u_T} {ty9 : Nat → FieldType} (hB : kB g h0) (ht : me ≤ t) (hN : t + nn ≤ jN) (hw : kUw g me t w) (h1 : 1 ≤ nn) (hsh : (jshp t).2.1 = ci) (hcl : jCls ci mt'.1.cls T9 N9) (hty : (∀ k, k < N9 → parseFieldDescriptor (T9 k).2.2.1 = some (ty9 k)) ∧ ∀ j, j < N9 → defaultValue (ty9 j) = vp_V (kfr (jshp t).2.2.2) j)
    (w1 : Cond.classLink mt.1.cls j1 mt'.1.cls ∈ jGw) (w2 : Cond.instantiable mt'.1.cls N9 ∈ jGw) (w3 : Cond.initialized mt'.1.cls ∈ jGw) (w4 : Cond.methodLink mt.1.cls j2 mt'.1 ∈ jGw) (w5 : Cond.instanceMethod mt'.1 ∈ jGw) (w6 : Cond.code mt'.1 mt'.2.1 mt'.2.2.1 mt'.2.2.2 ∈ jGw) (hnm : mt'.1.name = "<init>") (hrt : mt'.2.2.2 = none)
    (hmh : (mt'.1.cls ≠ "java/lang/invoke/MethodHandle" ∧ mt'.1.cls ≠ "java/lang/invoke/VarHandle" ∧ (parseMethodDescriptor mt'.1.desc).map (fun d => d.parameters.length) = some 0)) (hfr : n' + 1 ≤ rm.frames ∧ 8 + (mt'.2.2.1 + 11) + 64 * n' ≤ rm.locals) (hcells : c0 + nn ≤ rm.cells) (hslots : s0 + N9 + ms ≤ rm.slots) (hst : (r.map fun v => v.category).sum ≤ 4)
    (hc : kCon g h0 n' mt' t nn ms σ) (d0 : decode mt.2.1 pc = .ok (.new j1, 3)) (d3 : decode mt.2.1 (pc + 3) = .ok (.dup, 1)) (d4 : decode mt.2.1 (pc + 4) = .ok (.invokespecial j2, 3))
    (k : kU g h0 rm mt me T (c0 + nn) (s0 + N9 + ms) (pc + 7) L (.ref t :: r) (t + nn) (w ++ kR g σ t nn)) : kU g h0 rm mt me T c0 s0 pc L r t w := by
  obtain ⟨y', b', ml', rt'⟩ := mt'
  obtain rfl : rt' = none := hrt
  intro p e s m as below meth c H locs ls X hz hP hS hl
  have hz1 := hz.1
  have hz2 := hz.2
  have hts : ∀ w ∈ jGw, w.before as s = true := fun w hw => X.2.2.2.2.2.2.1 _ (List.mem_cons_of_mem _ hw)
  have hA : ∀ q, s.heap.size ≤ q → kA h0 me q := fun q hq => by
    unfold kA
    omega
  obtain ⟨q1, q2, -, q4, q5⟩ := hcl
  refine va_new (ci := ci) (fs := kfr (jshp t).2.2.2) X.1 X.2.1 X.2.2.2.2.2.2.1 (fun w hw => List.mem_cons_of_mem _ (q2 w hw)) ty9 hty.1 X.2.2.2.2.2.1 (hts _ w1) (hts _ w2) (hts _ w3) X.2.2.2.2.2.2.2.1 hP (kUD hB hw (by omega)) hS hA q1 hty.2 (by omega) (by omega) d0 (fun q H1 hP1 hD1 hS1 => ?_)
  intro T0 hT0 X0
  have hsz := X0.heapSize
  rw [hT0] at hsz
  have hqlt : q < H1.size := vx_lt hP1 (k := w.length) (q := (q, .inr (ci, kfr (jshp t).2.2.2))) (by simp)
  have hq2 := ku_addr hB hw ht (by omega) hD1 (show q < h0 + t + 1 by omega)
  subst hq2
  have hjt : jad g t = h0 + t := hB t (by omega)
  have hH1 : H1.size = h0 + t + 1 := by omega
  have hself : va_at g.2.1 vwCl (jad g t, .inr (ci, kfr (jshp t).2.2.2)) H1 := hP1 w.length _ (by simp)
  have hold : ∀ i q, w[i]? = some q → va_at g.2.1 vwCl q H1 := fun i q hi => hP1 i q (by rw [List.getElem?_append_left (List.getElem?_eq_some_iff.mp hi).1]; exact hi)
  have key : W p g.1 e rm s m as below meth c H1 locs (c0 + 1) (s0 + N9) (T below as s) (F0 m (pc + 3) ls (.ref (jad g t) :: r.map (jrl g))) := by
    refine lv_dup X.1 X.2.1 d3 rfl ?_
    have hcat : ((Value.ref (jad g t) :: r.map (jrl g)).map fun v => v.category).sum ≤ 8 := by
      have h4 : ((r.map (jrl g)).map fun v => v.category).sum ≤ 4 := by simpa [jrl_cat, Function.comp_def] using hst
      rw [List.map_cons, List.sum_cons]
      have h5 : (Value.ref (jad g t)).category = 1 := rfl
      omega
    have hr : va_Run p g.1 e rm s m as below meth c H1 locs (c0 + 1) (s0 + N9) (nn - 1) ms (F0 m (pc + 4) ls (.ref (jad g t) :: .ref (jad g t) :: r.map (jrl g))) (.ref (jad g t) :: r.map (jrl g)) (kQc g h0 t nn σ (#[.ref (jad g t)])) (kA h0 t) := by
      have hcw := cwI (R := rm) (rm := krm n' (nn - 1) ms) (mc := nn - 1) (ms := ms) 0 X.2.2.2.2.2.2.1 (jGI (jwd_in w6)) rfl rfl rfl (hts _ w3) (hts _ w4) (hts _ w5) hnm hmh hfr
      exact va_runI (As := []) (b := jad g t) (n := 0) ⟨X.1, X.2.1, X.2.2.1, X.2.2.2.2.2.1, X.2.2.2.2.2.2.1⟩ hc hcw ⟨fun a U f mk q => ⟨q.1, q.2.1, q.2.2.1, va_K.moved (u := U) (U := U.calling f mk a) (Vm.Alike.refl U.vm) q.2.2.2.1, kNw_call q.2.2.2.2⟩, fun U hU hW => ⟨rfl, by rw [hU]; exact hH1, by rw [hU, hsh]; exact va_P1 hself, va_K.moved hW.alike X.2.2.2.2.2.2.2.1, kNw_mv hW X.2.2.2.2.2.2.2.2.1⟩⟩ rfl rfl hl.1 rfl (lv_room hcat) d4 ⟨by show c0 + 1 + (nn - 1) ≤ _; omega, hslots⟩
    intro T1 hT1 X1
    obtain ⟨v, st₀, t9, T', L', h00, X'', hL, e1, e2, hq9, stp⟩ := hr T1 hT1 X1
    have hv := hq9.1
    have hsz9 := hq9.2.1
    have hcs := hq9.2.2.1
    have hz9 := hq9.2.2.2.1
    have hk9 := hq9.2.2.2.2
    have hv0 : v = none := by injection hv
    subst hv0
    rw [h00] at hz9 hk9
    have hkept : ∀ q : Nat, q < h0 + t → T'.heap[q]? = H1[q]? := fun q hq => by
      rw [e1]
      exact hk9 q (by omega) (fun z => by
        unfold kA at z
        omega)
    have hP9 : va_P g.2.1 vwCl (w ++ kR g σ t nn) T'.heap := by
      intro i x hi
      by_cases hlt : i < w.length
      · rw [List.getElem?_append_left hlt] at hi
        refine va_at_kept (hold i x hi) (hkept _ ?_)
        have hlen := hw.1
        rw [hw.2 i x hi, hB _ (by omega)]
        omega
      · rw [List.getElem?_append_right (by omega)] at hi
        obtain ⟨hi1, rfl⟩ := kR_inv hi
        rw [e1]
        exact hcs _ (by omega) (by omega)
    have hS9 : va_S (kA h0 me) s.heap T'.heap (locs ++ L') := by
      refine ⟨Nat.le_trans hS1.1 (by rw [e1]; exact hz9), fun q h1q h2q => ?_, fun q hq => ?_⟩
      · rw [hkept q (by omega)]
        exact hS1.2.1 q h1q h2q
      · rcases List.mem_append.mp hq with h | h
        · exact hS1.2.2 q h
        · have := hL q h
          unfold kA at this ⊢
          omega
    have e9 : c0 + 1 + (nn - 1) = c0 + nn := by omega
    rw [e9] at X''
    obtain ⟨t2, a1, b1⟩ := k p e s m as below meth c T'.heap (locs ++ L') ls X ⟨by omega, hz2⟩ hP9 hS9 hl T' rfl X''
    exact ⟨t2, stp t2 a1, b1⟩
  exact key T0 hT0 X0
end KUR
