/-! one instruction of the judgement: computed by jst, right by jst_ok -/
def jlk : List (Nat × Value) → Nat → Option Value
  | [], _ => none
  | (j, v) :: r, i => bif j == i then some v else jlk r i
def jsrt (i : Nat) (v : Value) : List (Nat × Value) → List (Nat × Value)
  | [] => [(i, v)]
  | (j, w) :: r => bif Nat.ble i j then (i, v) :: (j, w) :: r else (j, w) :: jsrt i v r
def jins (i : Nat) (v : Value) (L : List (Nat × Value)) : List (Nat × Value) :=
  jsrt i v (L.filter (fun q => !(q.1 == i) && !(q.1 + 1 == i && q.2.category == 2)))
def jins2 (i : Nat) (v : Value) (L : List (Nat × Value)) : List (Nat × Value) :=
  jsrt i v (L.filter (fun q => !(q.1 == i) && (!(q.1 == i + 1) && !(q.1 + 1 == i && q.2.category == 2))))
theorem jlk_mem : ∀ {L : List (Nat × Value)} {i : Nat} {v : Value}, jlk L i = some v → (i, v) ∈ L
  | [], _, _, h => by cases h
  | (j, w) :: r, i, v, h => by
    unfold jlk at h
    by_cases e : j = i
    · subst e
      simp at h
      subst h
      exact List.mem_cons_self
    · have e1 : (j == i) = false := by simpa using e
      rw [e1] at h
      exact List.mem_cons_of_mem _ (jlk_mem h)
theorem jsrt_mem {i : Nat} {v : Value} : ∀ {L : List (Nat × Value)} {q : Nat × Value}, q ∈ jsrt i v L → q = (i, v) ∨ q ∈ L
  | [], q, h => by
    left; simpa [jsrt] using h
  | (j, w) :: r, q, h => by
    unfold jsrt at h
    by_cases e : Nat.ble i j = true
    · rw [e] at h
      simpa using h
    · have e1 : Nat.ble i j = false := Bool.eq_false_iff.mpr e
      rw [e1] at h
      rcases List.mem_cons.mp h with h | h
      · right; rw [h]; exact List.mem_cons_self
      · rcases jsrt_mem h with h | h
        · exact Or.inl h
        · exact Or.inr (List.mem_cons_of_mem _ h)
theorem lv_mono {ls : Array Slot} {nL : Nat} {l l' : List (Nat × Value)} (h : lv_has ls nL l) (hs : ∀ q ∈ l', q ∈ l) : lv_has ls nL l' := ⟨h.1, h.2.1, fun q hq => h.2.2 q (hs q hq)⟩
theorem jL_lk {g : jG} {L : List (Nat × Value)} {ls : Array Slot} {nL i : Nat} {v : Value} (h : lv_has ls nL (jL g L)) (hk : jlk L i = some v) : ls[i]? = some (.val (jrl g v)) :=
  h.2.2 (i, jrl g v) (List.mem_map.mpr ⟨(i, v), jlk_mem hk, rfl⟩)
theorem jL_ins {g : jG} {L : List (Nat × Value)} {ls : Array Slot} {nL i : Nat} {v : Value} (h : lv_has ls nL ((i, jrl g v) :: (jL g L).filter (fun q => !(q.1 == i) && !(q.1 + 1 == i && q.2.category == 2)))) : lv_has ls nL (jL g (jins i v L)) := by
  refine lv_mono h (fun q hq => ?_)
  obtain ⟨z, hz, rfl⟩ := List.mem_map.mp hq
  rcases jsrt_mem hz with rfl | hz
  · exact List.mem_cons_self
  · obtain ⟨h1, h2⟩ := List.mem_filter.mp hz
    exact List.mem_cons_of_mem _ (List.mem_filter.mpr ⟨List.mem_map.mpr ⟨z, h1, rfl⟩, by rw [jrl_cat]; exact h2⟩)
theorem jL_ins2 {g : jG} {L : List (Nat × Value)} {ls : Array Slot} {nL i : Nat} {v : Value} (h : lv_has ls nL ((i, jrl g v) :: (jL g L).filter (fun q => !(q.1 == i) && (!(q.1 == i + 1) && !(q.1 + 1 == i && q.2.category == 2))))) : lv_has ls nL (jL g (jins2 i v L)) := by
  refine lv_mono h (fun q hq => ?_)
  obtain ⟨z, hz, rfl⟩ := List.mem_map.mp hq
  rcases jsrt_mem hz with rfl | hz
  · exact List.mem_cons_self
  · obtain ⟨h1, h2⟩ := List.mem_filter.mp hz
    exact List.mem_cons_of_mem _ (List.mem_filter.mpr ⟨List.mem_map.mpr ⟨z, h1, rfl⟩, by rw [jrl_cat]; exact h2⟩)
def jfl : List (Nat × Nat × Nat × Nat) → Nat → Option (Nat × Nat × Nat)
  | [], _ => none
  | (j, v) :: r, i => bif j == i then some v else jfl r i
theorem jfl_mem : ∀ {F : List (Nat × Nat × Nat × Nat)} {i : Nat} {v : Nat × Nat × Nat}, jfl F i = some v → (i, v) ∈ F
  | [], _, _, h => by cases h
  | (j, w) :: r, i, v, h => by
    unfold jfl at h
    by_cases e : j = i
    · subst e
      simp at h
      subst h
      exact List.mem_cons_self
    · have e1 : (j == i) = false := by simpa using e
      rw [e1] at h
      exact List.mem_cons_of_mem _ (jfl_mem h)
def jc2 : List (Nat × Int64) → Nat → Option Int64
  | [], _ => none
  | (j, v) :: r, i => bif j == i then some v else jc2 r i
theorem jc2_mem : ∀ {F : List (Nat × Int64)} {i : Nat} {v : Int64}, jc2 F i = some v → (i, v) ∈ F
  | [], _, _, h => by cases h
  | (j, w) :: r, i, v, h => by
    unfold jc2 at h
    by_cases e : j = i
    · subst e
      simp at h
      subst h
      exact List.mem_cons_self
    · have e1 : (j == i) = false := by simpa using e
      rw [e1] at h
      exact List.mem_cons_of_mem _ (jc2_mem h)
/-- a class of the table: its words, its types, its names -/
def jCls (ci : Nat) (C : String) (T : u_T) (N : Nat) : Prop := vwCl[ci]? = some (C, T, N) ∧ (∀ w ∈ u_ws C T N, w ∈ jGw) ∧ (∃ ty : Nat → FieldType, ∀ k, k < N → parseFieldDescriptor (T k).2.2.1 = some (ty k)) ∧ (∀ a, a < N → ∀ b, b < N → a ≠ b → (T a).2.1 ≠ (T b).2.1) ∧ ∀ k, k < N → (T k).1 = C
/-- a field's type by its code: 0 int, 1 long, 2 reference, 3 boolean -/
def jty (tc : Nat) (d : String) (fin : Bool) : Bool := match tc with
  | 0 => d == "I" && !fin
  | 1 => d == "J" && !fin
  | 3 => d == "Z" && !fin
  | _ => true
def jFok (own : String) (q : Nat × Nat × Nat × Nat) : Prop := ∃ (C : String) (T : u_T) (N : Nat), jCls q.2.1 C T N ∧ q.2.2.1 < N ∧ jty q.2.2.2 (T q.2.2.1).2.2.1 (T q.2.2.1).2.2.2 = true ∧
  (Cond.fieldLink own q.1 C (T q.2.2.1).2.1 (T q.2.2.1).2.2.1 ∈ jGw ∨ ∃ host, Cond.fieldLinkNest own q.1 C (T q.2.2.1).2.1 (T q.2.2.1).2.2.1 host ∈ jNw)
def jbin : Instr → Int32 → Int32 → Option Int32
  | .iadd, x, y => some (x + y)
  | .isub, x, y => some (x - y)
  | .imul, x, y => some (x * y)
  | .iand, x, y => some (x &&& y)
  | .ior, x, y => some (x ||| y)
  | .ixor, x, y => some (x ^^^ y)
  | .ishl, x, y => some (x <<< (y &&& 31))
  | .ishr, x, y => some (x >>> (y &&& 31))
  | .iushr, x, y => some (x.toUInt32 >>> (y.toUInt32 &&& Int32.toUInt32 31)).toInt32
  | _, _, _ => none
def jcmp (c : ClassFile.Cond) (x y : Int32) (A B : Prop) : Prop := match c with
  | .eq => (x = y → A) ∧ (¬ x = y → B)
  | .ne => (¬ x = y → A) ∧ (x = y → B)
  | .lt => (x < y → A) ∧ (¬ x < y → B)
  | .ge => (¬ x < y → A) ∧ (x < y → B)
  | .gt => (¬ x ≤ y → A) ∧ (x ≤ y → B)
  | .le => (x ≤ y → A) ∧ (¬ x ≤ y → B)
def jln : Instr → Nat
  | .bipush _ | .iload _ | .lload _ | .aload _ | .dload _ | .istore _ | .lstore _ | .astore _ | .dstore _ | .ldc _ | .newarray _ => 2
  | .sipush _ | .iinc _ _ | .ifCond _ _ | .if_icmp _ _ | .goto _ | .ifnonnull _ | .ifnull _ | .getfield _ | .putfield _ | .ldc_w _ | .ldc2_w _ | .invokevirtual _ | .invokespecial _ | .invokestatic _ => 3
  | _ => 1
def jtgt (pc tg : Nat) : Instr → Bool
  | .ifCond _ o | .if_icmp _ o | .goto o | .ifnonnull o | .ifnull o => decide ((pc : Int) + o = (tg : Int))
  | _ => true
def jcs (k : Int32) : Instr → Bool
  | .iconst n => decide (Int32.ofInt n = k)
  | .bipush n => decide ((Int8.ofInt n).toInt32 = k)
  | .sipush n => decide ((Int16.ofInt n).toInt32 = k)
  | .iinc _ n => decide (Int32.ofInt n = k)
  | _ => true
def jst (F : List (Nat × Nat × Nat × Nat)) (C2 : List (Nat × Int64)) (ml : Nat) (ret : Option FieldType) (R : Option Value → jM → Prop) (i : Instr) (nx tg : Nat) (k : Int32) (L : List (Nat × Value)) (st : List Value) (σ : jM) (K : Nat → List (Nat × Value) → List Value → jM → Prop) (Z : Prop) : Prop :=
  match i with
  | .iconst _ | .bipush _ | .sipush _ | .ldc _ | .ldc_w _ => K nx L (.int k :: st) σ
  | .lconst n => K nx L (.long (bif n.val == 0 then 0 else 1) :: st) σ
  | .ldc2_w j => match jc2 C2 j with
    | some v => K nx L (.long v :: st) σ
    | none => Z
  | .iload j => match jlk L j with
    | some (.int x) => K nx L (.int x :: st) σ
    | _ => Z
  | .iload_n j => match jlk L j.val with
    | some (.int x) => K nx L (.int x :: st) σ
    | _ => Z
  | .lload j => match jlk L j with
    | some (.long x) => K nx L (.long x :: st) σ
    | _ => Z
  | .lload_n j => match jlk L j.val with
    | some (.long x) => K nx L (.long x :: st) σ
    | _ => Z
  | .aload j => match jlk L j with
    | some (.ref x) => K nx L (.ref x :: st) σ
    | _ => Z
  | .aload_n j => match jlk L j.val with
    | some (.ref x) => K nx L (.ref x :: st) σ
    | _ => Z
  | .istore j => match st with
    | .int x :: r => bif Nat.blt j ml then K nx (jins j (.int x) L) r σ else Z
    | _ => Z
  | .istore_n j => match st with
    | .int x :: r => bif Nat.blt j.val ml then K nx (jins j.val (.int x) L) r σ else Z
    | _ => Z
  | .astore j => match st with
    | .ref x :: r => bif Nat.blt j ml then K nx (jins j (.ref x) L) r σ else Z
    | _ => Z
  | .astore_n j => match st with
    | .ref x :: r => bif Nat.blt j.val ml then K nx (jins j.val (.ref x) L) r σ else Z
    | _ => Z
  | .lstore j => match st with
    | .long x :: r => bif Nat.blt (j + 1) ml then K nx (jins2 j (.long x) L) r σ else Z
    | _ => Z
  | .lstore_n j => match st with
    | .long x :: r => bif Nat.blt (j.val + 1) ml then K nx (jins2 j.val (.long x) L) r σ else Z
    | _ => Z
  | .iinc j _ => match jlk L j with
    | some (.int x) => bif Nat.blt j ml then K nx (jins j (.int (x + k)) L) st σ else Z
    | _ => Z
  | .iadd | .isub | .imul | .iand | .ior | .ixor | .ishl | .ishr | .iushr => match st with
    | .int y :: .int x :: r => match jbin i x y with
      | some z => K nx L (.int z :: r) σ
      | none => Z
    | _ => Z
  | .idiv => match st with
    | .int y :: .int x :: r => ¬ y = 0 ∧ K nx L (.int (x / y) :: r) σ
    | _ => Z
  | .irem => match st with
    | .int y :: .int x :: r => ¬ y = 0 ∧ K nx L (.int (x - x / y * y) :: r) σ
    | _ => Z
  | .ineg => match st with
    | .int x :: r => K nx L (.int (-x) :: r) σ
    | _ => Z
  | .i2l => match st with
    | .int x :: r => K nx L (.long x.toInt64 :: r) σ
    | _ => Z
  | .l2i => match st with
    | .long x :: r => K nx L (.int x.toInt32 :: r) σ
    | _ => Z
  | .i2b => match st with
    | .int x :: r => K nx L (.int x.toInt8.toInt32 :: r) σ
    | _ => Z
  | .i2c => match st with
    | .int x :: r => K nx L (.int (x.toUInt32 % 65536).toInt32 :: r) σ
    | _ => Z
  | .i2d => match st with
    | .int x :: r => K nx L (.double (FP.i2d x) :: r) σ
    | _ => Z
  | .ddiv => match st with
    | .double y :: .double x :: r => vf_n64 (FP.ddiv x y) ∧ K nx L (.double (FP.ddiv x y) :: r) σ
    | _ => Z
  | .ladd => match st with
    | .long y :: .long x :: r => K nx L (.long (x + y) :: r) σ
    | _ => Z
  | .lmul => match st with
    | .long y :: .long x :: r => K nx L (.long (x * y) :: r) σ
    | _ => Z
  | .ldiv => match st with
    | .long y :: .long x :: r => ¬ y = 0 ∧ K nx L (.long (x / y) :: r) σ
    | _ => Z
  | .lrem => match st with
    | .long y :: .long x :: r => ¬ y = 0 ∧ K nx L (.long (x - x / y * y) :: r) σ
    | _ => Z
  | .lcmp => match st with
    | .long y :: .long x :: r => K nx L (.int (lg_cmp x y) :: r) σ
    | _ => Z
  | .dup => match st with
    | v :: r => bif v.category == 1 then K nx L (v :: v :: r) σ else Z
    | _ => Z
  | .dup2 => match st with
    | v :: w :: r => bif v.category == 1 && w.category == 1 then K nx L (v :: w :: v :: w :: r) σ else Z
    | _ => Z
  | .pop => match st with
    | v :: r => bif v.category == 1 then K nx L r σ else Z
    | _ => Z
  | .ifCond c _ => match st with
    | .int x :: r => jcmp c x 0 (K tg L r σ) (K nx L r σ)
    | _ => Z
  | .if_icmp c _ => match st with
    | .int y :: .int x :: r => jcmp c x y (K tg L r σ) (K nx L r σ)
    | _ => Z
  | .goto _ => K tg L st σ
  | .ifnonnull _ => match st with
    | .ref _ :: r => K tg L r σ
    | _ => Z
  | .ifnull _ => match st with
    | .ref _ :: r => K nx L r σ
    | _ => Z
  | .getfield j => match st with
    | .ref a :: r => match jfl F j with
      | some (ci, f, tc) => match tc with
        | 1 => bif jobj a ci f 1 then K nx L (.long (σ.2.1 a f) :: r) σ else Z
        | 2 => bif jobj a ci f 2 then K nx L (.ref (jref a f) :: r) σ else Z
        | _ => bif jobj a ci f 0 then K nx L (.int (σ.1 a f) :: r) σ else Z
      | none => Z
    | _ => Z
  | .putfield j => match st with
    | .int x :: .ref a :: r => match jfl F j with
      | some (ci, f, tc) => match tc with
        | 0 => bif jobj a ci f 0 then K nx L r (jup σ a f x) else Z
        | 3 => bif jobj a ci f 0 then (x = 0 ∨ x = 1) ∧ K nx L r (jup σ a f x) else Z
        | _ => Z
      | none => Z
    | .long x :: .ref a :: r => match jfl F j with
      | some (ci, f, tc) => match tc with
        | 1 => bif jobj a ci f 1 then K nx L r (jupL σ a f x) else Z
        | _ => Z
      | none => Z
    | _ => Z
  | .iaload => match st with
    | .int j :: .ref a :: r => bif jarr a 1 0 then jin j (jlen a) ∧ K nx L (.int (σ.1 a j.toNatClampNeg) :: r) σ else Z
    | _ => Z
  | .baload => match st with
    | .int j :: .ref a :: r => bif jarr a 1 1 then jin j (jlen a) ∧ K nx L (.int (σ.1 a j.toNatClampNeg) :: r) σ else bif jarr a 1 3 then jin j (jlen a) ∧ K nx L (.int (σ.1 a j.toNatClampNeg) :: r) σ else Z
    | _ => Z
  | .caload => match st with
    | .int j :: .ref a :: r => bif jarr a 1 2 then jin j (jlen a) ∧ K nx L (.int (σ.1 a j.toNatClampNeg) :: r) σ else Z
    | _ => Z
  | .laload => match st with
    | .int j :: .ref a :: r => bif jarr a 2 4 then jin j (jlen a) ∧ K nx L (.long (σ.2.1 a j.toNatClampNeg) :: r) σ else Z
    | _ => Z
  | .aaload => match st with
    | .int j :: .ref a :: r => bif jarr a 4 6 then jin j (jlen a) ∧ K nx L (.ref (jelt a j.toNatClampNeg) :: r) σ else bif jarr a 4 7 then jin j (jlen a) ∧ K nx L (.ref (jelt a j.toNatClampNeg) :: r) σ else Z
    | _ => Z
  | .iastore => match st with
    | .int x :: .int j :: .ref a :: r => bif jarr a 1 0 then jin j (jlen a) ∧ K nx L r (jup σ a j.toNatClampNeg x) else Z
    | _ => Z
  | .bastore => match st with
    | .int x :: .int j :: .ref a :: r => bif jarr a 1 1 then jin j (jlen a) ∧ K nx L r (jup σ a j.toNatClampNeg (vp_nar .byte x)) else bif jarr a 1 3 then jin j (jlen a) ∧ K nx L r (jup σ a j.toNatClampNeg (vp_nar .boolean x)) else Z
    | _ => Z
  | .castore => match st with
    | .int x :: .int j :: .ref a :: r => bif jarr a 1 2 then jin j (jlen a) ∧ K nx L r (jup σ a j.toNatClampNeg (vp_nar .char x)) else Z
    | _ => Z
  | .lastore => match st with
    | .long x :: .int j :: .ref a :: r => bif jarr a 2 4 then jin j (jlen a) ∧ K nx L r (jupL σ a j.toNatClampNeg x) else Z
    | _ => Z
  | .arraylength => match st with
    | .ref a :: r => bif jarr a 1 0 || (jarr a 1 1 || (jarr a 1 2 || jarr a 4 6)) then K nx L (.int (Int32.ofNat (jlen a)) :: r) σ else Z
    | _ => Z
  | .dconst n => bif n.val == 0 then K nx L (.double FP.dconst0 :: st) σ else Z
  | .ireturn => match st with
    | [.int x] => match ret with
      | some .int => R (some (.int x)) σ
      | some .boolean => (x = 0 ∨ x = 1) ∧ R (some (.int x)) σ
      | _ => Z
    | _ => Z
  | .return_ => match st with
    | [] => match ret with
      | none => R none σ
      | _ => Z
    | _ => Z
  | .areturn => match st with
    | [.ref a] => match ret with
      | some (.object _) => R (some (.ref a)) σ
      | _ => Z
    | _ => Z
  | .dreturn => match st with
    | [.double x] => match ret with
      | some .double => R (some (.double x)) σ
      | _ => Z
    | _ => Z
  | _ => Z
