/-! the law's own cells, made as it goes: a memory over the class's numbers; ids from 1000 on, an id's hundred says what it is -/
abbrev dM : Type := jM × (Nat → Nat → Int32) × (Nat → Nat → Int64) × (Nat → Nat → Option Nat) × (Nat → Nat) × (Nat → Bool)
def DS (δ : dM) : jM := δ.1
def DI (δ : dM) : Nat → Nat → Int32 := δ.2.1
def DL (δ : dM) : Nat → Nat → Int64 := δ.2.2.1
def DR (δ : dM) : Nat → Nat → Option Nat := δ.2.2.2.1
def DN (δ : dM) : Nat → Nat := δ.2.2.2.2.1
def DA (δ : dM) : Nat → Bool := δ.2.2.2.2.2
def DuS (δ : dM) (τ : jM) : dM := (τ, δ.2)
def DuI (δ : dM) (a k : Nat) (x : Int32) : dM := (δ.1, fun i j => if i = a ∧ j = k then x else δ.2.1 i j, δ.2.2)
def DuL (δ : dM) (a k : Nat) (x : Int64) : dM := (δ.1, δ.2.1, fun i j => if i = a ∧ j = k then x else δ.2.2.1 i j, δ.2.2.2)
def DuR (δ : dM) (a k : Nat) (x : Option Nat) : dM := (δ.1, δ.2.1, δ.2.2.1, fun i j => if i = a ∧ j = k then x else δ.2.2.2.1 i j, δ.2.2.2.2)
/-- a new cell: all its places hold nothing yet -/
def Dnw (δ : dM) (a n : Nat) : dM := (δ.1, fun i j => if i = a then 0 else δ.2.1 i j, fun i j => if i = a then 0 else δ.2.2.1 i j, fun i j => if i = a then none else δ.2.2.2.1 i j, fun i => if i = a then n else δ.2.2.2.2.1 i, fun i => if i = a then true else δ.2.2.2.2.2 i)
/-- a new array, as another one -/
def Dcl (δ : dM) (a b : Nat) : dM := (δ.1, fun i j => if i = a then δ.2.1 b j else δ.2.1 i j, fun i j => if i = a then 0 else δ.2.2.1 i j, fun i j => if i = a then none else δ.2.2.2.1 i j, fun i => if i = a then δ.2.2.2.2.1 b else δ.2.2.2.2.1 i, fun i => if i = a then true else δ.2.2.2.2.2 i)
/-- a new array of n arrays of m, the inner ones from b on -/
def Dmn (δ : dM) (a b n m : Nat) : dM := (δ.1, fun i j => if i = a ∨ (b ≤ i ∧ i < b + n) then 0 else δ.2.1 i j, fun i j => if i = a ∨ (b ≤ i ∧ i < b + n) then 0 else δ.2.2.1 i j, fun i j => if i = a then (if j < n then some (b + j) else none) else if b ≤ i ∧ i < b + n then none else δ.2.2.2.1 i j, fun i => if i = a then n else if b ≤ i ∧ i < b + n then m else δ.2.2.2.2.1 i, fun i => if i = a ∨ (b ≤ i ∧ i < b + n) then true else δ.2.2.2.2.2 i)
section DSimp
variable (δ : dM) (τ : jM) (a b k n m i j : Nat) (x : Int32) (y : Int64) (r : Option Nat)
theorem DuS_S : DS (DuS δ τ) = τ := rfl
theorem DuS_I : DI (DuS δ τ) = DI δ := rfl
theorem DuS_L : DL (DuS δ τ) = DL δ := rfl
theorem DuS_R : DR (DuS δ τ) = DR δ := rfl
theorem DuS_N : DN (DuS δ τ) = DN δ := rfl
theorem DuS_A : DA (DuS δ τ) = DA δ := rfl
theorem DuI_S : DS (DuI δ a k x) = DS δ := rfl
theorem DuI_I : DI (DuI δ a k x) i j = if i = a ∧ j = k then x else DI δ i j := rfl
theorem DuI_L : DL (DuI δ a k x) = DL δ := rfl
theorem DuI_R : DR (DuI δ a k x) = DR δ := rfl
theorem DuI_N : DN (DuI δ a k x) = DN δ := rfl
theorem DuI_A : DA (DuI δ a k x) = DA δ := rfl
theorem DuL_S : DS (DuL δ a k y) = DS δ := rfl
theorem DuL_I : DI (DuL δ a k y) = DI δ := rfl
theorem DuL_L : DL (DuL δ a k y) i j = if i = a ∧ j = k then y else DL δ i j := rfl
theorem DuL_R : DR (DuL δ a k y) = DR δ := rfl
theorem DuL_N : DN (DuL δ a k y) = DN δ := rfl
theorem DuL_A : DA (DuL δ a k y) = DA δ := rfl
theorem DuR_S : DS (DuR δ a k r) = DS δ := rfl
theorem DuR_I : DI (DuR δ a k r) = DI δ := rfl
theorem DuR_L : DL (DuR δ a k r) = DL δ := rfl
theorem DuR_R : DR (DuR δ a k r) i j = if i = a ∧ j = k then r else DR δ i j := rfl
theorem DuR_N : DN (DuR δ a k r) = DN δ := rfl
theorem DuR_A : DA (DuR δ a k r) = DA δ := rfl
theorem Dnw_S : DS (Dnw δ a n) = DS δ := rfl
theorem Dnw_I : DI (Dnw δ a n) i j = if i = a then 0 else DI δ i j := rfl
theorem Dnw_L : DL (Dnw δ a n) i j = if i = a then 0 else DL δ i j := rfl
theorem Dnw_R : DR (Dnw δ a n) i j = if i = a then none else DR δ i j := rfl
theorem Dnw_N : DN (Dnw δ a n) i = if i = a then n else DN δ i := rfl
theorem Dnw_A : DA (Dnw δ a n) i = if i = a then true else DA δ i := rfl
theorem Dcl_S : DS (Dcl δ a b) = DS δ := rfl
theorem Dcl_I : DI (Dcl δ a b) i j = if i = a then DI δ b j else DI δ i j := rfl
theorem Dcl_L : DL (Dcl δ a b) i j = if i = a then 0 else DL δ i j := rfl
theorem Dcl_R : DR (Dcl δ a b) i j = if i = a then none else DR δ i j := rfl
theorem Dcl_N : DN (Dcl δ a b) i = if i = a then DN δ b else DN δ i := rfl
theorem Dcl_A : DA (Dcl δ a b) i = if i = a then true else DA δ i := rfl
theorem Dmn_S : DS (Dmn δ a b n m) = DS δ := rfl
theorem Dmn_I : DI (Dmn δ a b n m) i j = if i = a ∨ (b ≤ i ∧ i < b + n) then 0 else DI δ i j := rfl
theorem Dmn_L : DL (Dmn δ a b n m) i j = if i = a ∨ (b ≤ i ∧ i < b + n) then 0 else DL δ i j := rfl
theorem Dmn_R : DR (Dmn δ a b n m) i j = if i = a then (if j < n then some (b + j) else none) else if b ≤ i ∧ i < b + n then none else DR δ i j := rfl
theorem Dmn_N : DN (Dmn δ a b n m) i = if i = a then n else if b ≤ i ∧ i < b + n then m else DN δ i := rfl
theorem Dmn_A : DA (Dmn δ a b n m) i = if i = a ∨ (b ≤ i ∧ i < b + n) then true else DA δ i := rfl
end DSimp
/-- by the hundred: an object (0, its class, its fields: 0 an int, 1 a long, 2 a reference) or an array (1 ints, 2 longs, 4 references; its type): the law's desk, int[], boolean[], long[], int[][], boolean[][], byte[], String, StringBuilder, ArrayList, Object[] -/
def DT : List (Nat × Nat × List Nat) := [(0, 12, [2, 0, 0, 2, 2, 2, 2, 2, 2, 2, 2, 2, 0, 0, 0, 0, 0, 0, 1, 0, 2, 2, 0, 0, 2]), (1, 0, []), (1, 3, []), (2, 4, []), (4, 6, []), (4, 8, []), (1, 1, []), (0, 13, [2, 0, 0, 0]), (0, 14, [2, 0, 0, 0]), (0, 15, [0, 2, 0]), (4, 9, [])]
def Dsh (k : Nat) : Nat × Nat × List Nat := DT.getD ((k - 1000) / 100) (9, 0, [])
def Dadr (g : jG) (da : Nat → Nat) (k : Nat) : Nat := if k < 1000 then jad g k else da k
/-- the class's world with the law's addresses laid beside -/
def Dg (g : jG) (da : Nat → Nat) : jG := (g.1, g.2.1, Dadr g da, g.2.2.2.1, g.2.2.2.2)
def Dval (g : jG) (da : Nat → Nat) (r : Option Nat) : Value := va_rf (r.map (Dadr g da))
def Dfv (g : jG) (da : Nat → Nat) (δ : dM) (k j c : Nat) : Value := match c with
  | 0 => .int (DI δ k j)
  | 1 => .long (DL δ k j)
  | _ => Dval g da (DR δ k j)
def Dfs (g : jG) (da : Nat → Nat) (δ : dM) (k : Nat) (tab : List Nat) : List Value := (List.range tab.length).map (fun j => Dfv g da δ k j (tab.getD j 0))
def Dce (g : jG) (da : Nat → Nat) (δ : dM) (k : Nat) : va_E :=
  if k < 1000 then jcell g (DS δ) k
  else if (Dsh k).1 = 0 then .inr ((Dsh k).2.1, Dfs g da δ k (Dsh k).2.2)
  else if (Dsh k).1 = 1 then .inl (jta g (Dsh k).2.1, DN δ k, .inl (DI δ k))
  else if (Dsh k).1 = 2 then .inl (jta g (Dsh k).2.1, DN δ k, .inr (.inl (DL δ k)))
  else .inl (jta g (Dsh k).2.1, DN δ k, .inr (.inr (.inr (.inr (fun j => (DR δ k j).map (Dadr g da))))))
/-- the ids that there are -/
def Dal (δ : dM) (k : Nat) : Bool := Nat.blt k jN || (Nat.ble 1000 k && (Nat.blt k 2100 && DA δ k))
def Dids (δ : dM) : List Nat := (List.range 2100).filter (Dal δ)
def Dws (g : jG) (da : Nat → Nat) (δ : dM) : va_W := (Dids δ).map (fun k => (Dadr g da k, Dce g da δ k))
def Dge (h0 : Nat) : Nat → Prop := fun q => h0 ≤ q
/-- no cell that there is refers to one that isn't there -/
def Dcl0 (δ : dM) : Prop := ∀ a j k, Dal δ a = true → 1000 ≤ a → DR δ a j = some k → k < 1000 ∨ Dal δ k = true
def Dok (g : jG) (h0 : Nat) (da : Nat → Nat) (δ : dM) : Prop := (∀ i j, Dal δ i = true → Dal δ j = true → Dadr g da i = Dadr g da j → i = j) ∧ (∀ i, Dal δ i = true → h0 ≤ Dadr g da i) ∧ Dcl0 δ
def DEk (g : jG) (h0 : Nat) : Prop := (∀ (s U : State) (H : Heap), s.WarmedH U.vm → jE g s H → jE g U H) ∧ (∀ (u U : State) (H : Heap), U.vm = u.vm → jE g u H → jE g U H) ∧ ∀ (U : State) (H H1 : Heap), jE g U H → (∀ a : Nat, a < H.size → a < h0 → H1[a]? = H[a]?) → jE g U H1
/-- the types of arrays: the class's eight, and two more -/
def DtyL : List FieldType := [.int, .byte, .char, .boolean, .long, .long, .array .int, .object "RentDivision$Flat", .array .boolean, .object "java/lang/Object"]
def Dtys (g : jG) : List (ClassId × FieldType) := (List.range 10).map (fun t => (jta g t, DtyL.getD t .int))
theorem Dtys_get (g : jG) {t : Nat} (h : t < 10) : (Dtys g)[t]? = some (jta g t, DtyL.getD t .int) := by
  unfold Dtys
  rw [List.getElem?_map]
  simp [h]
theorem Dtys_sub {g : jG} {U : State} (h : va_K g.2.1 vwCl (Dtys g) U) : va_K g.2.1 vwCl (jtys g) U := by
  refine ⟨h.1, fun k q hq => ?_⟩
  have hk : k < 8 := by
    have := (List.getElem?_eq_some_iff.mp hq).1
    unfold jtys at this
    simpa using this
  rw [jtys_get g hk] at hq
  refine h.2 k q ?_
  rw [Dtys_get g (by omega), ← hq]
  congr 2
  have : ∀ k, k < 8 → DtyL.getD k .int = jtyL.getD k .int := by decide
  exact this k hk
def DC (g : jG) (h0 : Nat) (U : State) : Prop := va_K g.2.1 vwCl (Dtys g) U ∧ (∀ w ∈ jNw, va_Nw w U) ∧ DEk g h0 ∧ jE g U U.heap
theorem Dal_lt {δ : dM} {k : Nat} (h : Dal δ k = true) : k < 2100 ∧ (k < jN ∨ (1000 ≤ k ∧ DA δ k = true)) := by
  unfold Dal at h
  have hN : jN = 322 := rfl
  simp only [Bool.or_eq_true, Bool.and_eq_true, Nat.blt_eq, Nat.ble_eq] at h
  rcases h with h | ⟨h1, h2, h3⟩
  · exact ⟨by omega, Or.inl h⟩
  · exact ⟨h2, Or.inr ⟨h1, h3⟩⟩
theorem Dal_hi {δ : dM} {k : Nat} (h1 : 1000 ≤ k) (h2 : k < 2100) (h : DA δ k = true) : Dal δ k = true := by
  unfold Dal
  simp only [Bool.or_eq_true, Bool.and_eq_true, Nat.blt_eq, Nat.ble_eq]
  exact Or.inr ⟨h1, h2, h⟩
theorem Dal_A {δ : dM} {k : Nat} (h : Dal δ k = true) (h1 : 1000 ≤ k) : DA δ k = true := by
  have hN : jN = 322 := rfl
  rcases (Dal_lt h).2 with h | h
  · omega
  · exact h.2
theorem Dal_lo {δ : dM} {k : Nat} (h : k < jN) : Dal δ k = true := by
  unfold Dal
  simp only [Bool.or_eq_true, Nat.blt_eq]
  exact Or.inl h
theorem Dids_mem {δ : dM} {k : Nat} : k ∈ Dids δ ↔ Dal δ k = true := by
  unfold Dids
  rw [List.mem_filter, List.mem_range]
  exact ⟨fun h => h.2, fun h => ⟨(Dal_lt h).1, h⟩⟩
theorem Dids_nd (δ : dM) : (Dids δ).Nodup := List.Pairwise.filter _ List.nodup_range
def Dup (da : Nat → Nat) (a q : Nat) : Nat → Nat := fun j => if j = a then q else da j
theorem Dadr_up {g : jG} {da : Nat → Nat} {a q k : Nat} (h : k ≠ a) : Dadr g (Dup da a q) k = Dadr g da k := by
  unfold Dadr Dup
  rw [if_neg h]
theorem Dadr_at {g : jG} {da : Nat → Nat} {a q : Nat} (h : 1000 ≤ a) : Dadr g (Dup da a q) a = q := by
  unfold Dadr Dup
  rw [if_neg (by omega), if_pos rfl]
section DW1
variable {g : jG} {h0 : Nat} {da : Nat → Nat} {δ ε : dM}
theorem Dws_inv {i : Nat} {q : Nat × va_E} (h : (Dws g da δ)[i]? = some q) : ∃ k, Dal δ k = true ∧ (Dids δ)[i]? = some k ∧ q = (Dadr g da k, Dce g da δ k) := by
  unfold Dws at h
  rw [List.getElem?_map] at h
  cases h1 : (Dids δ)[i]? with
  | none => rw [h1] at h; cases h
  | some k =>
    rw [h1] at h
    exact ⟨k, Dids_mem.mp (List.mem_of_getElem? h1), rfl, (Option.some.inj h).symm⟩
theorem Dws_get {k : Nat} (h : Dal δ k = true) : ∃ i : Nat, (Dids δ)[i]? = some k ∧ (Dws g da δ)[i]? = some (Dadr g da k, Dce g da δ k) := by
  obtain ⟨i, hi⟩ := List.getElem?_of_mem (Dids_mem.mpr h)
  exact ⟨i, hi, by unfold Dws; rw [List.getElem?_map, hi]; rfl⟩
theorem DD (hD : Dok g h0 da δ) : va_D (Dge h0) (Dws g da δ) := by
  refine ⟨fun i j p q hi hj e => ?_, fun k q hk => ?_⟩
  · obtain ⟨a, a1, a2, rfl⟩ := Dws_inv hi
    obtain ⟨b, b1, b2, rfl⟩ := Dws_inv hj
    have : a = b := hD.1 a b a1 b1 e
    subst this
    exact (List.getElem?_inj (List.getElem?_eq_some_iff.mp a2).1 (Dids_nd δ)).mp (a2.trans b2.symm)
  · obtain ⟨a, a1, a2, rfl⟩ := Dws_inv hk
    exact hD.2.1 a a1
theorem Dws_of {H : Heap} (h : ∀ k, Dal δ k = true → va_at g.2.1 vwCl (Dadr g da k, Dce g da δ k) H) : va_P g.2.1 vwCl (Dws g da δ) H := by
  intro i q hi
  obtain ⟨k, h1, -, rfl⟩ := Dws_inv hi
  exact h k h1
theorem Dws_at {H : Heap} (h : va_P g.2.1 vwCl (Dws g da δ) H) {k : Nat} (hk : Dal δ k = true) : va_at g.2.1 vwCl (Dadr g da k, Dce g da δ k) H := by
  obtain ⟨i, -, hi⟩ := Dws_get (g := g) (da := da) hk
  exact h i _ hi
/-- one cell written -/
theorem Dws_set {H : Heap} {k i : Nat} {e : va_E} (hi : (Dids δ)[i]? = some k) (hA : ∀ j, Dal ε j = Dal δ j) (he : Dce g da ε k = e) (ho : ∀ j, j ≠ k → Dal δ j = true → Dce g da ε j = Dce g da δ j)
    (hP : va_P g.2.1 vwCl ((Dws g da δ).set i (Dadr g da k, e)) H) : va_P g.2.1 vwCl (Dws g da ε) H := by
  refine Dws_of (fun j hj => ?_)
  rw [hA] at hj
  have hil : i < (Dws g da δ).length := by
    unfold Dws
    rw [List.length_map]
    exact (List.getElem?_eq_some_iff.mp hi).1
  by_cases c : j = k
  · subst c
    rw [he]
    exact hP i _ (by rw [List.getElem?_set]; simp [hil])
  · obtain ⟨i2, h1, h2⟩ := Dws_get (g := g) (da := da) hj
    rw [ho j c hj]
    refine hP i2 _ ?_
    rw [List.getElem?_set]
    have hne : ¬ i = i2 := fun z => by
      subst z
      rw [hi] at h1
      exact c (Option.some.inj h1).symm
    rw [if_neg hne]
    exact h2
/-- one cell more -/
theorem Dws_app {H : Heap} {k q : Nat} {e : va_E} (hA : ∀ j, Dal ε j = true → j = k ∨ Dal δ j = true) (hk : 1000 ≤ k) (hd : Dal δ k = false) (hD : Dok g h0 da δ) (he : Dce g (Dup da k q) ε k = e)
    (ho : ∀ j, j ≠ k → Dal δ j = true → Dce g (Dup da k q) ε j = Dce g da δ j) (hP : va_P g.2.1 vwCl (Dws g da δ ++ [(q, e)]) H) : va_P g.2.1 vwCl (Dws g (Dup da k q) ε) H := by
  refine Dws_of (fun j hj => ?_)
  by_cases c : j = k
  · subst c
    have e1 : Dadr g (Dup da j q) j = q := Dadr_at hk
    rw [e1, he]
    exact hP (Dws g da δ).length _ (by simp)
  · have hj' := (hA j hj).resolve_left c
    have e1 : Dadr g (Dup da k q) j = Dadr g da j := Dadr_up c
    rw [e1, ho j c hj']
    obtain ⟨i, -, h2⟩ := Dws_get (g := g) (da := da) hj'
    exact hP i _ (by rw [List.getElem?_append_left (List.getElem?_eq_some_iff.mp h2).1]; exact h2)
theorem Dok_app {k q : Nat} {e : va_E} (hA : ∀ j, Dal ε j = true → j = k ∨ Dal δ j = true) (hk : 1000 ≤ k) (hd : Dal δ k = false) (hD : Dok g h0 da δ) (hc : Dcl0 ε) (hD1 : va_D (Dge h0) (Dws g da δ ++ [(q, e)])) : Dok g h0 (Dup da k q) ε := by
  have e1 : Dadr g (Dup da k q) k = q := Dadr_at hk
  have e2 : ∀ j, j ≠ k → Dadr g (Dup da k q) j = Dadr g da j := fun j hj => Dadr_up hj
  have hne : ∀ j, Dal δ j = true → Dadr g da j = q → False := fun j hj z => by
    obtain ⟨i, -, h2⟩ := Dws_get (g := g) (da := da) hj
    have hlt := (List.getElem?_eq_some_iff.mp h2).1
    have := hD1.1 i (Dws g da δ).length _ (q, e) (by rw [List.getElem?_append_left hlt]; exact h2) (by simp) z
    omega
  refine ⟨fun i j hi hj z => ?_, fun i hi => ?_, hc⟩
  · by_cases ci : i = k
    · by_cases cj : j = k
      · rw [ci, cj]
      · rw [ci, e1, e2 j cj] at z
        exact (hne j ((hA j hj).resolve_left cj) z.symm).elim
    · by_cases cj : j = k
      · rw [cj, e1, e2 i ci] at z
        exact (hne i ((hA i hi).resolve_left ci) z).elim
      · rw [e2 i ci, e2 j cj] at z
        exact hD.1 i j ((hA i hi).resolve_left ci) ((hA j hj).resolve_left cj) z
  · by_cases ci : i = k
    · rw [ci, e1]
      exact hD1.2 (Dws g da δ).length (q, e) (by simp)
    · rw [e2 i ci]
      exact hD.2.1 i ((hA i hi).resolve_left ci)
end DW1
/-! the judgement: z is the room, the target, the ids that stay where they are, where those are, and where the heap of the law begins -/
abbrev dZ : Type := Room × (List Frame → Array Value → State → State → Prop) × (Nat → Bool) × (Nat → Nat) × Nat
def dX (g : jG) (h0 : Nat) (mt : jMt) (p : Program) (s : State) (m : MethodId) (args : Array Value) (meth : Method) (c : Code) : Prop :=
  p.tables.exec = Jvm.exec ∧ c.code = mt.2.1 ∧ c.maxLocals = mt.2.2.1 ∧ meth.sig.returnType = mt.2.2.2 ∧ (meth.locks = false ∧ meth.name = mt.1.name) ∧ s.vm.findClass mt.1.cls = some m.cls ∧ (∀ w ∈ jwX, w.before args s = true) ∧ h0 ≤ s.heap.size ∧ DC g h0 s
def DW (g : jG) (z : dZ) (mt : jMt) (pc : Nat) (L : List (Nat × Value)) (st : List Value) (δ : dM) (c0 s0 : Nat) : Prop :=
  ∀ (p : Program) (e : Env) (s : State) (m : MethodId) (args : Array Value) (below : List Frame) (meth : Method) (c : Code) (H : Heap) (locs : List Loc) (ls : Array Slot) (da : Nat → Nat),
    dX g z.2.2.2.2 mt p s m args meth c → (Dok g z.2.2.2.2 da δ ∧ ∀ k, z.2.2.1 k = true → da k = z.2.2.2.1 k) → va_P g.2.1 vwCl (Dws g da δ) H → va_S (Dge z.2.2.2.2) s.heap H locs → lv_has ls mt.2.2.1 (jL (Dg g da) L) →
    W p g.1 e z.1 s m args below meth c H locs c0 s0 (z.2.1 below args s) (F0 m pc ls (st.map (jrl (Dg g da))))
