/-! rows of the judgement DW over its cells -/
def darr (a kind t : Nat) : Bool := Nat.ble 1000 a && (Nat.blt a 2100 && ((Dsh a).1 == kind && (Dsh a).2.1 == t))
def dobj (a ci f tc : Nat) : Bool := Nat.ble 1000 a && (Nat.blt a 2100 && ((Dsh a).1 == 0 && ((Dsh a).2.1 == ci && (Nat.blt f (Dsh a).2.2.length && jtc ((Dsh a).2.2.getD f 0) == tc))))
def disO (a ci : Nat) : Bool := Nat.ble 1000 a && (Nat.blt a 2100 && ((Dsh a).1 == 0 && (Dsh a).2.1 == ci))
theorem darr_spec {a kind t : Nat} (h : darr a kind t = true) : 1000 ≤ a ∧ a < 2100 ∧ (Dsh a).1 = kind ∧ (Dsh a).2.1 = t := by
  simp only [darr, Bool.and_eq_true, Nat.ble_eq, Nat.blt_eq, beq_iff_eq] at h
  exact h
theorem dobj_spec {a ci f tc : Nat} (h : dobj a ci f tc = true) : 1000 ≤ a ∧ a < 2100 ∧ (Dsh a).1 = 0 ∧ (Dsh a).2.1 = ci ∧ f < (Dsh a).2.2.length ∧ jtc ((Dsh a).2.2.getD f 0) = tc := by
  simp only [dobj, Bool.and_eq_true, Nat.ble_eq, Nat.blt_eq, beq_iff_eq] at h
  exact h
theorem disO_spec {a ci : Nat} (h : disO a ci = true) : 1000 ≤ a ∧ a < 2100 ∧ (Dsh a).1 = 0 ∧ (Dsh a).2.1 = ci := by
  simp only [disO, Bool.and_eq_true, Nat.ble_eq, Nat.blt_eq, beq_iff_eq] at h
  exact h
/-- a field's type by its code: 0 int, 1 long, 2 reference, 3 boolean; 10 more: final -/
def dty (tc : Nat) (d : String) (fin : Bool) : Bool := match tc with
  | 0 => d == "I" && !fin
  | 1 => d == "J" && !fin
  | 2 => !fin
  | 3 => d == "Z" && !fin
  | _ => true
def dFok0 (own : String) (q : Nat × Nat × Nat × Nat) : Prop := ∃ (C : String) (T : u_T) (N : Nat), jCls q.2.1 C T N ∧ q.2.2.1 < N ∧ dty q.2.2.2 (T q.2.2.1).2.2.1 (T q.2.2.1).2.2.2 = true ∧
  (Cond.fieldLink own q.1 C (T q.2.2.1).2.1 (T q.2.2.1).2.2.1 ∈ jGw ∨ ∃ host, Cond.fieldLinkNest own q.1 C (T q.2.2.1).2.1 (T q.2.2.1).2.2.1 host ∈ jNw) ∧ (q.2.2.2 = 2 → ∃ ty, parseFieldDescriptor (T q.2.2.1).2.2.1 = some ty ∧ ty.isReference = true)
/-- a class of the table: its words, its types, its names; fields may be a superclass's -/
def dCls (ci : Nat) (C : String) (T : u_T) (N : Nat) : Prop := vwCl[ci]? = some (C, T, N) ∧ (∀ w ∈ u_ws C T N, w ∈ jGw) ∧ (∃ ty : Nat → FieldType, ∀ k, k < N → parseFieldDescriptor (T k).2.2.1 = some (ty k)) ∧ ∀ a, a < N → ∀ b, b < N → a ≠ b → (T a).2.1 ≠ (T b).2.1
def dFok (own : String) (q : Nat × Nat × Nat × Nat) : Prop := ∃ (C : String) (T : u_T) (N : Nat), dCls q.2.1 C T N ∧ q.2.2.1 < N ∧ dty q.2.2.2 (T q.2.2.1).2.2.1 (T q.2.2.1).2.2.2 = true ∧
  (∃ ref : String, (ref = (T q.2.2.1).1 ∨ Cond.sameField ref (T q.2.2.1).1 (T q.2.2.1).2.1 (T q.2.2.1).2.2.1 ∈ jGw) ∧ (Cond.fieldLink own q.1 ref (T q.2.2.1).2.1 (T q.2.2.1).2.2.1 ∈ jGw ∨ ∃ host, Cond.fieldLinkNest own q.1 ref (T q.2.2.1).2.1 (T q.2.2.1).2.2.1 host ∈ jNw)) ∧ (q.2.2.2 = 2 → ∃ ty, parseFieldDescriptor (T q.2.2.1).2.2.1 = some ty ∧ ty.isReference = true)
theorem dFok.of {own : String} {q : Nat × Nat × Nat × Nat} (h : dFok0 own q) : dFok own q := by
  obtain ⟨C, T, N, ⟨q1, q2, q3, q4, q5⟩, hk, hty, hlk, hr⟩ := h
  exact ⟨C, T, N, ⟨q1, q2, q3, q4⟩, hk, hty, ⟨C, Or.inl (q5 _ hk).symm, hlk⟩, hr⟩
theorem Dce_o {g : jG} {da : Nat → Nat} {δ : dM} {a : Nat} (h : 1000 ≤ a) (h1 : (Dsh a).1 = 0) : Dce g da δ a = .inr ((Dsh a).2.1, Dfs g da δ a (Dsh a).2.2) := by
  unfold Dce
  rw [if_neg (by omega), if_pos h1]
theorem Dce_1 {g : jG} {da : Nat → Nat} {δ : dM} {a : Nat} (h : 1000 ≤ a) (h1 : (Dsh a).1 = 1) : Dce g da δ a = .inl (jta g (Dsh a).2.1, DN δ a, .inl (DI δ a)) := by
  unfold Dce
  rw [if_neg (by omega), if_neg (by omega), if_pos h1]
theorem Dce_2 {g : jG} {da : Nat → Nat} {δ : dM} {a : Nat} (h : 1000 ≤ a) (h1 : (Dsh a).1 = 2) : Dce g da δ a = .inl (jta g (Dsh a).2.1, DN δ a, .inr (.inl (DL δ a))) := by
  unfold Dce
  rw [if_neg (by omega), if_neg (by omega), if_neg (by omega), if_pos h1]
theorem Dce_4 {g : jG} {da : Nat → Nat} {δ : dM} {a : Nat} (h : 1000 ≤ a) (h1 : (Dsh a).1 = 4) : Dce g da δ a = .inl (jta g (Dsh a).2.1, DN δ a, .inr (.inr (.inr (.inr (fun j => (DR δ a j).map (Dadr g da)))))) := by
  unfold Dce
  rw [if_neg (by omega), if_neg (by omega), if_neg (by omega), if_neg (by omega)]
theorem Dfs_get {g : jG} {da : Nat → Nat} (δ : dM) (a : Nat) {tab : List Nat} {f : Nat} (h : f < tab.length) : (Dfs g da δ a tab)[f]? = some (Dfv g da δ a f (tab.getD f 0)) := by
  unfold Dfs
  rw [List.getElem?_map, List.getElem?_range h]
  rfl
theorem Dfs_len (g : jG) (da : Nat → Nat) (δ : dM) (a : Nat) (tab : List Nat) : (Dfs g da δ a tab).length = tab.length := by
  unfold Dfs
  simp
theorem Dfs_set {g : jG} {da : Nat → Nat} {δ ε : dM} {a f : Nat} {tab : List Nat} {v : Value} (hf : f < tab.length) (hv : Dfv g da ε a f (tab.getD f 0) = v) (ho : ∀ j, j ≠ f → Dfv g da ε a j (tab.getD j 0) = Dfv g da δ a j (tab.getD j 0)) : Dfs g da ε a tab = (Dfs g da δ a tab).set f v := by
  apply List.ext_getElem?
  intro j
  rw [List.getElem?_set]
  by_cases hj : j < tab.length
  · rw [Dfs_get ε a hj, Dfs_len]
    by_cases c : f = j
    · subst c
      rw [if_pos rfl, if_pos hj, hv]
    · rw [if_neg c, Dfs_get δ a hj, ho j (fun z => c z.symm)]
  · rw [List.getElem?_eq_none (by rw [Dfs_len]; omega)]
    split
    · omega
    · rw [List.getElem?_eq_none (by rw [Dfs_len]; omega)]
theorem Dce_cg {g : jG} {da db : Nat → Nat} {δ ε : dM} {k : Nat} (h0 : DS ε = DS δ) (h1 : DI ε k = DI δ k) (h2 : DL ε k = DL δ k) (h3 : ∀ j, (DR ε k j).map (Dadr g db) = (DR δ k j).map (Dadr g da)) (h4 : DN ε k = DN δ k) : Dce g db ε k = Dce g da δ k := by
  have e1 : ∀ tab, Dfs g db ε k tab = Dfs g da δ k tab := fun tab => by
    unfold Dfs
    refine List.map_congr_left (fun j _ => ?_)
    unfold Dfv Dval
    rw [h1, h2, h3]
  unfold Dce
  rw [h0, h1, h2, h4, e1, funext h3]
theorem Dal_cg {δ ε : dM} (h : ∀ k, DA ε k = DA δ k) (k : Nat) : Dal ε k = Dal δ k := by
  unfold Dal
  rw [h]
section DH
variable {g : jG} {z : dZ} {mt : jMt} {pc : Nat} {L : List (Nat × Value)} {r : List Value} {σ : dM} {c0 s0 : Nat}
theorem dr_iald {a : Nat} {j : Int32} (ha : darr a 1 0 = true) (hA : DA σ a = true) (hj : jin j (DN σ a)) (d : decode mt.2.1 pc = .ok (.iaload, 1)) (k : DW g z mt (pc + 1) L (.int (DI σ a j.toNatClampNeg) :: r) σ c0 s0) : DW g z mt pc L (.int j :: .ref a :: r) σ c0 s0 := by
  intro p e s m as below meth c H locs ls da X hD hP hS hl
  obtain ⟨h1, h2, h3, h4⟩ := darr_spec ha
  obtain ⟨i, hi, hg⟩ := Dws_get (g := g) (da := da) (Dal_hi h1 h2 hA)
  rw [Dce_1 h1 h3, h4] at hg
  exact va_iald X.1 X.2.1 X.2.2.2.2.2.2.2.2.1 hP i 0 hg (Dtys_get g (by decide)) (jin_vp hj) d (k p e s m as below meth c H locs ls da X hD hP hS hl)
theorem dr_bald {a : Nat} {j : Int32} (ha : darr a 1 1 = true) (hA : DA σ a = true) (hj : jin j (DN σ a)) (d : decode mt.2.1 pc = .ok (.baload, 1)) (k : DW g z mt (pc + 1) L (.int (DI σ a j.toNatClampNeg) :: r) σ c0 s0) : DW g z mt pc L (.int j :: .ref a :: r) σ c0 s0 := by
  intro p e s m as below meth c H locs ls da X hD hP hS hl
  obtain ⟨h1, h2, h3, h4⟩ := darr_spec ha
  obtain ⟨i, hi, hg⟩ := Dws_get (g := g) (da := da) (Dal_hi h1 h2 hA)
  rw [Dce_1 h1 h3, h4] at hg
  exact va_bald X.1 X.2.1 X.2.2.2.2.2.2.2.2.1 hP i 1 hg (Dtys_get g (by decide)) (jin_vp hj) d (k p e s m as below meth c H locs ls da X hD hP hS hl)
theorem dr_zald {a : Nat} {j : Int32} (ha : darr a 1 3 = true) (hA : DA σ a = true) (hj : jin j (DN σ a)) (d : decode mt.2.1 pc = .ok (.baload, 1)) (k : DW g z mt (pc + 1) L (.int (DI σ a j.toNatClampNeg) :: r) σ c0 s0) : DW g z mt pc L (.int j :: .ref a :: r) σ c0 s0 := by
  intro p e s m as below meth c H locs ls da X hD hP hS hl
  obtain ⟨h1, h2, h3, h4⟩ := darr_spec ha
  obtain ⟨i, hi, hg⟩ := Dws_get (g := g) (da := da) (Dal_hi h1 h2 hA)
  rw [Dce_1 h1 h3, h4] at hg
  exact va_zald X.1 X.2.1 X.2.2.2.2.2.2.2.2.1 hP i 3 hg (Dtys_get g (by decide)) (jin_vp hj) d (k p e s m as below meth c H locs ls da X hD hP hS hl)
theorem dr_lald {a : Nat} {j : Int32} (ha : darr a 2 4 = true) (hA : DA σ a = true) (hj : jin j (DN σ a)) (d : decode mt.2.1 pc = .ok (.laload, 1)) (k : DW g z mt (pc + 1) L (.long (DL σ a j.toNatClampNeg) :: r) σ c0 s0) : DW g z mt pc L (.int j :: .ref a :: r) σ c0 s0 := by
  intro p e s m as below meth c H locs ls da X hD hP hS hl
  obtain ⟨h1, h2, h3, h4⟩ := darr_spec ha
  obtain ⟨i, hi, hg⟩ := Dws_get (g := g) (da := da) (Dal_hi h1 h2 hA)
  rw [Dce_2 h1 h3, h4] at hg
  exact va_lald X.1 X.2.1 X.2.2.2.2.2.2.2.2.1 hP i 4 hg (Dtys_get g (by decide)) (jin_vp hj) d (k p e s m as below meth c H locs ls da X hD hP hS hl)
theorem DuI_ne {da : Nat → Nat} {a n j : Nat} {x : Int32} (h : j ≠ a) : Dce g da (DuI σ a n x) j = Dce g da σ j := by
  refine Dce_cg rfl (funext fun i => ?_) rfl (fun _ => rfl) rfl
  rw [DuI_I, if_neg (fun q => h q.1)]
theorem DuL_ne {da : Nat → Nat} {a n j : Nat} {x : Int64} (h : j ≠ a) : Dce g da (DuL σ a n x) j = Dce g da σ j := by
  refine Dce_cg rfl rfl (funext fun i => ?_) (fun _ => rfl) rfl
  rw [DuL_L, if_neg (fun q => h q.1)]
theorem DuR_ne {da : Nat → Nat} {a n j : Nat} {x : Option Nat} (h : j ≠ a) : Dce g da (DuR σ a n x) j = Dce g da σ j := by
  refine Dce_cg rfl rfl rfl (fun i => ?_) rfl
  rw [DuR_R, if_neg (fun q => h q.1)]
theorem Dce_uI {da : Nat → Nat} {a t k : Nat} {x : Int32} (h1 : 1000 ≤ a) (h3 : (Dsh a).1 = 1) (h4 : (Dsh a).2.1 = t) : Dce g da (DuI σ a k x) a = .inl (jta g t, DN σ a, .inl (upd (DI σ a) k x)) := by
  have e : DI (DuI σ a k x) a = upd (DI σ a) k x := funext fun q => by
    rw [DuI_I]
    unfold upd
    by_cases c : q = k
    · rw [if_pos ⟨rfl, c⟩, if_pos c]
    · rw [if_neg (fun z => c z.2), if_neg c]
  rw [Dce_1 h1 h3, h4, e]
  rfl
theorem Dce_uL {da : Nat → Nat} {a t k : Nat} {x : Int64} (h1 : 1000 ≤ a) (h3 : (Dsh a).1 = 2) (h4 : (Dsh a).2.1 = t) : Dce g da (DuL σ a k x) a = .inl (jta g t, DN σ a, .inr (.inl (vp_updL (DL σ a) k x))) := by
  have e : DL (DuL σ a k x) a = vp_updL (DL σ a) k x := funext fun q => by
    rw [DuL_L]
    unfold vp_updL
    by_cases c : q = k
    · rw [if_pos ⟨rfl, c⟩, if_pos c]
    · rw [if_neg (fun z => c z.2), if_neg c]
  rw [Dce_2 h1 h3, h4, e]
  rfl
theorem dr_iast {a : Nat} {j : Int32} {x : Int32} (ha : darr a 1 0 = true) (hA : DA σ a = true) (hj : jin j (DN σ a)) (d : decode mt.2.1 pc = .ok (.iastore, 1)) (k : DW g z mt (pc + 1) L r (DuI σ a j.toNatClampNeg x) c0 s0) : DW g z mt pc L (.int x :: .int j :: .ref a :: r) σ c0 s0 := by
  intro p e s m as below meth c H locs ls da X hD hP hS hl
  obtain ⟨h1, h2, h3, h4⟩ := darr_spec ha
  obtain ⟨i, hi, hg⟩ := Dws_get (g := g) (da := da) (Dal_hi h1 h2 hA)
  rw [Dce_1 h1 h3, h4] at hg
  refine va_iast X.1 X.2.1 X.2.2.2.2.2.2.2.2.1 hP (DD hD.1) hS i 0 hg (Dtys_get g (by decide)) (jin_vp hj) d (fun H1 locs1 hP1 hD1 hS1 => ?_)
  refine k p e s m as below meth c H1 locs1 ls da X hD (Dws_set hi (fun _ => rfl) ?_ (fun q hq _ => DuI_ne hq) hP1) hS1 hl
  exact Dce_uI h1 h3 h4
theorem dr_bast {a : Nat} {j : Int32} {x : Int32} (ha : darr a 1 1 = true) (hA : DA σ a = true) (hj : jin j (DN σ a)) (d : decode mt.2.1 pc = .ok (.bastore, 1)) (k : DW g z mt (pc + 1) L r (DuI σ a j.toNatClampNeg (vp_nar .byte x)) c0 s0) : DW g z mt pc L (.int x :: .int j :: .ref a :: r) σ c0 s0 := by
  intro p e s m as below meth c H locs ls da X hD hP hS hl
  obtain ⟨h1, h2, h3, h4⟩ := darr_spec ha
  obtain ⟨i, hi, hg⟩ := Dws_get (g := g) (da := da) (Dal_hi h1 h2 hA)
  rw [Dce_1 h1 h3, h4] at hg
  refine va_bast X.1 X.2.1 X.2.2.2.2.2.2.2.2.1 hP (DD hD.1) hS i 1 hg (Dtys_get g (by decide)) (jin_vp hj) d (fun H1 locs1 hP1 hD1 hS1 => ?_)
  refine k p e s m as below meth c H1 locs1 ls da X hD (Dws_set hi (fun _ => rfl) ?_ (fun q hq _ => DuI_ne hq) hP1) hS1 hl
  exact Dce_uI h1 h3 h4
theorem dr_zast {a : Nat} {j : Int32} {x : Int32} (ha : darr a 1 3 = true) (hA : DA σ a = true) (hj : jin j (DN σ a)) (d : decode mt.2.1 pc = .ok (.bastore, 1)) (k : DW g z mt (pc + 1) L r (DuI σ a j.toNatClampNeg (vp_nar .boolean x)) c0 s0) : DW g z mt pc L (.int x :: .int j :: .ref a :: r) σ c0 s0 := by
  intro p e s m as below meth c H locs ls da X hD hP hS hl
  obtain ⟨h1, h2, h3, h4⟩ := darr_spec ha
  obtain ⟨i, hi, hg⟩ := Dws_get (g := g) (da := da) (Dal_hi h1 h2 hA)
  rw [Dce_1 h1 h3, h4] at hg
  refine va_zast X.1 X.2.1 X.2.2.2.2.2.2.2.2.1 hP (DD hD.1) hS i 3 hg (Dtys_get g (by decide)) (jin_vp hj) d (fun H1 locs1 hP1 hD1 hS1 => ?_)
  refine k p e s m as below meth c H1 locs1 ls da X hD (Dws_set hi (fun _ => rfl) ?_ (fun q hq _ => DuI_ne hq) hP1) hS1 hl
  exact Dce_uI h1 h3 h4
theorem dr_last {a : Nat} {j : Int32} {x : Int64} (ha : darr a 2 4 = true) (hA : DA σ a = true) (hj : jin j (DN σ a)) (d : decode mt.2.1 pc = .ok (.lastore, 1)) (k : DW g z mt (pc + 1) L r (DuL σ a j.toNatClampNeg x) c0 s0) : DW g z mt pc L (.long x :: .int j :: .ref a :: r) σ c0 s0 := by
  intro p e s m as below meth c H locs ls da X hD hP hS hl
  obtain ⟨h1, h2, h3, h4⟩ := darr_spec ha
  obtain ⟨i, hi, hg⟩ := Dws_get (g := g) (da := da) (Dal_hi h1 h2 hA)
  rw [Dce_2 h1 h3, h4] at hg
  refine va_last X.1 X.2.1 X.2.2.2.2.2.2.2.2.1 hP (DD hD.1) hS i 4 hg (Dtys_get g (by decide)) (jin_vp hj) d (fun H1 locs1 hP1 hD1 hS1 => ?_)
  refine k p e s m as below meth c H1 locs1 ls da X hD (Dws_set hi (fun _ => rfl) ?_ (fun q hq _ => DuL_ne hq) hP1) hS1 hl
  exact Dce_uL h1 h3 h4
theorem dr_aald {a t v : Nat} {j : Int32} (ha : darr a 4 t = true) (ht : t = 6 ∨ t = 8 ∨ t = 9) (hA : DA σ a = true) (hj : jin j (DN σ a)) (hv : DR σ a j.toNatClampNeg = some v) (d : decode mt.2.1 pc = .ok (.aaload, 1)) (k : DW g z mt (pc + 1) L (.ref v :: r) σ c0 s0) : DW g z mt pc L (.int j :: .ref a :: r) σ c0 s0 := by
  intro p e s m as below meth c H locs ls da X hD hP hS hl
  obtain ⟨h1, h2, h3, h4⟩ := darr_spec ha
  have hc := Dws_at hP (Dal_hi h1 h2 hA)
  rw [Dce_4 h1 h3, h4] at hc
  have ht8 : t < 10 := by omega
  have hK := (X.2.2.2.2.2.2.2.2.1.2 t _ (Dtys_get g ht8)).1
  have hv9 := jin_vp hj
  have hlt : j.toNatClampNeg < DN σ a := Nat.not_le.mp fun q => hv9 (Or.inr q)
  exact W.aald (v := .ref (Dadr g da v)) (ty := DtyL.getD t .int) X.1 X.2.1 hc (hK (DN σ a) (fun i => va_rf ((DR σ a i).map (Dadr g da)))) (by rcases ht with rfl | rfl | rfl <;> rfl) (fun q => by cases q) (by show ¬ (j < 0 ∨ (arrV _ _ _).slots.size ≤ _); rw [arrV_size]; exact hv9) (by show (arrV _ _ _).slots[_]? = _; rw [arrV_read _ _ hlt]; dsimp only; rw [hv]; rfl) rfl rfl d (k p e s m as below meth c H locs ls da X hD hP hS hl)
theorem dr_alen {a kind t : Nat} (ha : darr a kind t = true) (ht : t < 10) (hk : kind = 1 ∨ kind = 2 ∨ kind = 4) (hA : DA σ a = true) (d : decode mt.2.1 pc = .ok (.arraylength, 1)) (k : DW g z mt (pc + 1) L (.int (nI (DN σ a)) :: r) σ c0 s0) : DW g z mt pc L (.ref a :: r) σ c0 s0 := by
  intro p e s m as below meth c H locs ls da X hD hP hS hl
  obtain ⟨h1, h2, h3, h4⟩ := darr_spec ha
  obtain ⟨i, hi, hg⟩ := Dws_get (g := g) (da := da) (Dal_hi h1 h2 hA)
  rcases hk with rfl | rfl | rfl
  · rw [Dce_1 h1 h3, h4] at hg
    exact va_alen X.1 X.2.1 X.2.2.2.2.2.2.2.2.1 hP i t hg (Dtys_get g ht) rfl d (k p e s m as below meth c H locs ls da X hD hP hS hl)
  · rw [Dce_2 h1 h3, h4] at hg
    exact va_alen X.1 X.2.1 X.2.2.2.2.2.2.2.2.1 hP i t hg (Dtys_get g ht) rfl d (k p e s m as below meth c H locs ls da X hD hP hS hl)
  · rw [Dce_4 h1 h3, h4] at hg
    exact va_alen X.1 X.2.1 X.2.2.2.2.2.2.2.2.1 hP i t hg (Dtys_get g ht) rfl d (k p e s m as below meth c H locs ls da X hD hP hS hl)
theorem dr_getv {a ci f tc j : Nat} {v : Value} (hf : dFok mt.1.cls (j, ci, f, tc)) {t9 : Nat} (ho : dobj a ci f t9 = true) (hA : DA σ a = true) (hv : ∀ da, Dfv g da σ a f ((Dsh a).2.2.getD f 0) = jrl (Dg g da) v) (d : decode mt.2.1 pc = .ok (.getfield j, 3)) (k : DW g z mt (pc + 3) L (v :: r) σ c0 s0) : DW g z mt pc L (.ref a :: r) σ c0 s0 := by
  intro p e s m as below meth c H locs ls da X hD hP hS hl
  obtain ⟨C, T, N, ⟨q1, q2, q3, q4⟩, hk, hty, ⟨ref, hsm, hlk⟩, -⟩ := hf
  have q5 : ∀ x, s.fieldFound? (T f).1 (T f).2.1 (T f).2.2.1 = some x → s.fieldFound? ref (T f).2.1 (T f).2.2.1 = some x := fun x hx => by
    rcases hsm with hsm | hsm
    · have e : ref = (T f).1 := hsm
      rw [e]; exact hx
    · exact u_same (X.2.2.2.2.2.2.1 _ (List.mem_cons_of_mem _ hsm)) x hx
  obtain ⟨h1, h2, h3, h4, h5, h6⟩ := dobj_spec ho
  obtain ⟨i, hi, hg⟩ := Dws_get (g := g) (da := da) (Dal_hi h1 h2 hA)
  rw [Dce_o h1 h3, h4] at hg
  have hv9 := Dfs_get (g := g) (da := da) σ a h5
  rw [hv da] at hv9
  rcases hlk with hlk | ⟨host, hlk⟩
  · exact va_get X.1 X.2.1 X.2.2.2.2.2.2.1 (fun w hw => List.mem_cons_of_mem _ (q2 w hw)) X.2.2.2.2.2.1 X.2.2.2.2.2.2.2.2.1 hP i hg q1 f hk (X.2.2.2.2.2.2.1 _ (List.mem_cons_of_mem _ hlk)) q5 hv9 d (k p e s m as below meth c H locs ls da X hD hP hS hl)
  · exact va_getN X.1 X.2.1 X.2.2.2.2.2.2.1 (fun w hw => List.mem_cons_of_mem _ (q2 w hw)) X.2.2.2.2.2.1 X.2.2.2.2.2.2.2.2.1 hP i hg q1 f hk (va_Nw.use rfl (X.2.2.2.2.2.2.2.2.2.1 _ hlk)) q5 hv9 d (k p e s m as below meth c H locs ls da X hD hP hS hl)
theorem jtc_0 {c : Nat} (h : jtc c = 0) : c = 0 := by
  unfold jtc at h
  split at h
  · assumption
  · split at h <;> omega
theorem jtc_1 {c : Nat} (h : jtc c = 1) : c = 1 := by
  unfold jtc at h
  split at h
  · omega
  · split at h
    · assumption
    · omega
theorem jtc_2 {c : Nat} (h : jtc c = 2) : ∃ q, c = q + 2 := by
  unfold jtc at h
  split at h
  · omega
  · split at h
    · omega
    · exact ⟨c - 2, by omega⟩
theorem dr_geti {a ci f tc j : Nat} (hf : dFok mt.1.cls (j, ci, f, tc)) (ho : dobj a ci f 0 = true) (hA : DA σ a = true) (d : decode mt.2.1 pc = .ok (.getfield j, 3)) (k : DW g z mt (pc + 3) L (.int (DI σ a f) :: r) σ c0 s0) : DW g z mt pc L (.ref a :: r) σ c0 s0 :=
  dr_getv hf ho hA (fun da => by rw [jtc_0 (dobj_spec ho).2.2.2.2.2]; rfl) d k
theorem dr_getl {a ci f tc j : Nat} (hf : dFok mt.1.cls (j, ci, f, tc)) (ho : dobj a ci f 1 = true) (hA : DA σ a = true) (d : decode mt.2.1 pc = .ok (.getfield j, 3)) (k : DW g z mt (pc + 3) L (.long (DL σ a f) :: r) σ c0 s0) : DW g z mt pc L (.ref a :: r) σ c0 s0 :=
  dr_getv hf ho hA (fun da => by rw [jtc_1 (dobj_spec ho).2.2.2.2.2]; rfl) d k
theorem dr_getr {a ci f tc j v : Nat} (hf : dFok mt.1.cls (j, ci, f, tc)) (ho : dobj a ci f 2 = true) (hA : DA σ a = true) (hv : DR σ a f = some v) (d : decode mt.2.1 pc = .ok (.getfield j, 3)) (k : DW g z mt (pc + 3) L (.ref v :: r) σ c0 s0) : DW g z mt pc L (.ref a :: r) σ c0 s0 :=
  dr_getv hf ho hA (fun da => by
    obtain ⟨q, hq⟩ := jtc_2 (dobj_spec ho).2.2.2.2.2
    rw [hq]
    unfold Dfv Dval
    rw [hv]
    rfl) d k
theorem dr_getn {a ci f tc j : Nat} (hf : dFok mt.1.cls (j, ci, f, tc)) (ho : dobj a ci f 2 = true) (hA : DA σ a = true) (hv : DR σ a f = none) (d : decode mt.2.1 pc = .ok (.getfield j, 3)) (k : DW g z mt (pc + 3) L (.null :: r) σ c0 s0) : DW g z mt pc L (.ref a :: r) σ c0 s0 :=
  dr_getv hf ho hA (fun da => by
    obtain ⟨q, hq⟩ := jtc_2 (dobj_spec ho).2.2.2.2.2
    rw [hq]
    unfold Dfv Dval
    rw [hv]
    rfl) d k
theorem dr_null (d : decode mt.2.1 pc = .ok (.aconst_null, 1)) (k : DW g z mt (pc + 1) L (.null :: r) σ c0 s0) : DW g z mt pc L r σ c0 s0 := by
  intro p e s m as below meth c H locs ls da X hD hP hS hl
  exact lv_null X.1 X.2.1 d (k p e s m as below meth c H locs ls da X hD hP hS hl)
theorem dr_ifnullN {o : Int} {tg : Nat} (d : decode mt.2.1 pc = .ok (.ifnull o, 3)) (ht : (pc : Int) + o = (tg : Int)) (k : DW g z mt tg L r σ c0 s0) : DW g z mt pc L (.null :: r) σ c0 s0 := by
  intro p e s m as below meth c H locs ls da X hD hP hS hl
  exact lv_ifnullN X.1 X.2.1 d ht (k p e s m as below meth c H locs ls da X hD hP hS hl)
theorem dr_ifnonnullN {o : Int} (d : decode mt.2.1 pc = .ok (.ifnonnull o, 3)) (k : DW g z mt (pc + 3) L r σ c0 s0) : DW g z mt pc L (.null :: r) σ c0 s0 := by
  intro p e s m as below meth c H locs ls da X hD hP hS hl
  exact lv_ifnonnullN X.1 X.2.1 d (k p e s m as below meth c H locs ls da X hD hP hS hl)
theorem dr_lsub {x y : Int64} (d : decode mt.2.1 pc = .ok (.lsub, 1)) (k : DW g z mt (pc + 1) L (.long (x - y) :: r) σ c0 s0) : DW g z mt pc L (.long y :: .long x :: r) σ c0 s0 := by
  intro p e s m as below meth c H locs ls da X hD hP hS hl
  exact lv_lsub X.1 X.2.1 d (k p e s m as below meth c H locs ls da X hD hP hS hl)
end DH
