/-! new arrays, copies, new names for cells -/
/-- no reference to a among the values -/
def Dnr (a : Nat) : List Value → Bool
  | [] => true
  | .ref k :: r => !(k == a) && Dnr a r
  | _ :: r => Dnr a r
def DnL (a : Nat) : List (Nat × Value) → Bool
  | [] => true
  | (_, .ref k) :: r => !(k == a) && DnL a r
  | _ :: r => DnL a r
theorem jrl_up {g : jG} {da : Nat → Nat} {a q : Nat} {v : Value} (h : v ≠ .ref a) : jrl (Dg g (Dup da a q)) v = jrl (Dg g da) v := by
  cases v with
  | ref k => exact congrArg Value.ref (Dadr_up (fun z => h (by rw [z])))
  | _ => rfl
theorem Dmap_up {g : jG} {da : Nat → Nat} {a q : Nat} : ∀ {st : List Value}, Dnr a st = true → st.map (jrl (Dg g (Dup da a q))) = st.map (jrl (Dg g da))
  | [], _ => rfl
  | v :: r, h => by
    have h1 : Dnr a r = true ∧ v ≠ .ref a := by
      cases v with
      | ref k =>
        simp only [Dnr, Bool.and_eq_true, Bool.not_eq_true', beq_eq_false_iff_ne] at h
        exact ⟨h.2, fun z => h.1 (by injection z)⟩
      | _ => exact ⟨h, fun z => (by cases z)⟩
    rw [List.map_cons, List.map_cons, Dmap_up h1.1, jrl_up h1.2]
theorem DjL_up {g : jG} {da : Nat → Nat} {a q : Nat} : ∀ {L : List (Nat × Value)}, DnL a L = true → jL (Dg g (Dup da a q)) L = jL (Dg g da) L
  | [], _ => rfl
  | (i, v) :: r, h => by
    have h1 : DnL a r = true ∧ v ≠ .ref a := by
      cases v with
      | ref k =>
        simp only [DnL, Bool.and_eq_true, Bool.not_eq_true', beq_eq_false_iff_ne] at h
        exact ⟨h.2, fun z => h.1 (by injection z)⟩
      | _ => exact ⟨h, fun z => (by cases z)⟩
    show (i, jrl (Dg g (Dup da a q)) v) :: jL (Dg g (Dup da a q)) r = (i, jrl (Dg g da) v) :: jL (Dg g da) r
    rw [DjL_up h1.1, jrl_up h1.2]
theorem Dal_no {σ : dM} {a : Nat} (ha : 1000 ≤ a) (h : DA σ a = false) : Dal σ a = false := by
  cases h1 : Dal σ a with
  | false => rfl
  | true => rw [Dal_A h1 ha] at h; cases h
theorem Dce_da {g : jG} {da : Nat → Nat} {σ : dM} {a q j : Nat} (hc : Dcl0 σ) (ha : 1000 ≤ a) (hd : Dal σ a = false) (h : Dal σ j = true) : Dce g (Dup da a q) σ j = Dce g da σ j := by
  have hN : jN = 322 := rfl
  rcases Nat.lt_or_ge j 1000 with hj | hj
  · unfold Dce
    rw [if_pos hj, if_pos hj]
  · refine Dce_cg rfl rfl rfl (fun i => ?_) rfl
    cases e : DR σ j i with
    | none => rfl
    | some k =>
      refine congrArg some (Dadr_up (fun z => ?_))
      subst z
      rcases hc j i k h hj e with h1 | h1
      · omega
      · rw [hd] at h1; cases h1
section DN9
variable {g : jG} {z : dZ} {mt mt' : jMt} {pc : Nat} {L : List (Nat × Value)} {r : List Value} {σ : dM} {c0 s0 : Nat}
theorem Dnw_al {a n j : Nat} (h : Dal (Dnw σ a n) j = true) : j = a ∨ Dal σ j = true := by
  obtain ⟨h1, h2⟩ := Dal_lt h
  rcases h2 with h2 | ⟨h2, h3⟩
  · exact Or.inr (Dal_lo h2)
  · rw [Dnw_A] at h3
    split at h3
    · exact Or.inl (by assumption)
    · exact Or.inr (Dal_hi h2 h1 h3)
theorem Dnw_up {a n j : Nat} (h : Dal σ j = true) : Dal (Dnw σ a n) j = true := by
  obtain ⟨h1, h2⟩ := Dal_lt h
  rcases h2 with h2 | ⟨h2, h3⟩
  · exact Dal_lo h2
  · refine Dal_hi h2 h1 ?_
    rw [Dnw_A]
    split
    · rfl
    · exact h3
theorem Dnw_cl {a n : Nat} (h : Dcl0 σ) : Dcl0 (Dnw σ a n) := by
  intro x j k hx hx2 e
  rw [Dnw_R] at e
  split at e
  · cases e
  · rename_i hne
    rcases h x j k ((Dnw_al hx).resolve_left hne) hx2 e with h1 | h1
    · exact Or.inl h1
    · exact Or.inr (Dnw_up h1)
/-- what a new cell's row goes on with -/
theorem DW.born {a q : Nat} {e9 : va_E} {ε : dM} {pc' c1 s1 : Nat} {p : Program} {e : Env} {s : State} {m : MethodId} {as : Array Value} {below : List Frame} {meth : Method} {c : Code} {H1 : Heap} {locs : List Loc} {ls : Array Slot} {da : Nat → Nat}
    (ha : 1000 ≤ a) (hd : Dal σ a = false) (hkp : z.2.2.1 a = false) (hA : ∀ j, Dal ε j = true → j = a ∨ Dal σ j = true) (hc : Dcl0 σ → Dcl0 ε) (he : Dce g (Dup da a q) ε a = e9) (ho : ∀ j, j ≠ a → 1000 ≤ j → DI ε j = DI σ j ∧ DL ε j = DL σ j ∧ DR ε j = DR σ j ∧ DN ε j = DN σ j) (hS0 : DS ε = DS σ)
    (hL : DnL a L = true) (hr : Dnr a r = true) (k : DW g z mt pc' L (.ref a :: r) ε c1 s1)
    (X : dX g z.2.2.2.2 mt p s m as meth c) (hD : Dok g z.2.2.2.2 da σ ∧ ∀ k, z.2.2.1 k = true → da k = z.2.2.2.1 k) (hP1 : va_P g.2.1 vwCl (Dws g da σ ++ [(q, e9)]) H1) (hD1 : va_D (Dge z.2.2.2.2) (Dws g da σ ++ [(q, e9)])) (hS1 : va_S (Dge z.2.2.2.2) s.heap H1 locs) (hl : lv_has ls mt.2.2.1 (jL (Dg g da) L)) :
    W p g.1 e z.1 s m as below meth c H1 locs c1 s1 (z.2.1 below as s) (F0 m pc' ls (.ref q :: r.map (jrl (Dg g da)))) := by
  have h9 := k p e s m as below meth c H1 locs ls (Dup da a q) X ⟨Dok_app hA ha hd hD.1 (hc hD.1.2.2) hD1, fun k hk => by
    unfold Dup
    rw [if_neg (fun z9 => by rw [z9, hkp] at hk; cases hk)]
    exact hD.2 k hk⟩ (Dws_app hA ha hd hD.1 he (fun j hj hj2 => by
      have hN : jN = 322 := rfl
      refine Eq.trans ?_ (Dce_da (q := q) hD.1.2.2 ha hd hj2)
      rcases Nat.lt_or_ge j 1000 with c | c
      · unfold Dce
        rw [if_pos c, if_pos c, hS0]
      · obtain ⟨e1, e2, e3, e4⟩ := ho j hj c
        exact Dce_cg hS0 e1 e2 (fun i => by rw [e3]) e4) hP1) hS1 (by rw [DjL_up hL]; exact hl)
  rw [List.map_cons, Dmap_up hr] at h9
  have e1 : jrl (Dg g (Dup da a q)) (.ref a) = .ref q := congrArg Value.ref (Dadr_at ha)
  rw [e1] at h9
  exact h9
theorem dr_newI {atype : ArrayType} {ti a : Nat} {n9 : Int32} (ha : darr a 1 ti = true) (ht : ti < 10) (hty : newarray.typeOf atype = DtyL.getD ti .int) (hdf : defaultValue (newarray.typeOf atype) = .int 0) (hwd : Cond.arrayClass (newarray.typeOf atype) ∈ jGw) (hA : DA σ a = false) (hkp : z.2.2.1 a = false)
    (hn : ¬ n9 < 0) (hb : n9.toNatClampNeg ≤ 10000) (hcells : c0 + 1 ≤ z.1.cells) (hslots : s0 + n9.toNatClampNeg ≤ z.1.slots) (hL : DnL a L = true) (hr : Dnr a r = true) (d : decode mt.2.1 pc = .ok (.newarray atype, 2))
    (k : DW g z mt (pc + 2) L (.ref a :: r) (Dnw σ a n9.toNatClampNeg) (c0 + 1) (s0 + n9.toNatClampNeg)) : DW g z mt pc L (.int n9 :: r) σ c0 s0 := by
  intro p e s m as below meth c H locs ls da X hD hP hS hl
  obtain ⟨h1, h2, h3, h4⟩ := darr_spec ha
  refine va_newa (atype := atype) (ty := newarray.typeOf atype) (a0 := (n9.toNatClampNeg, .inl (fun _ => 0))) X.1 X.2.1 (X.2.2.2.2.2.2.1 _ (List.mem_cons_of_mem _ hwd)) rfl X.2.2.2.2.2.2.2.2.1 hP (DD hD.1) hS (fun q hq => Nat.le_trans X.2.2.2.2.2.2.2.1 hq) (fun cA => by rw [hdf]; rfl) hn rfl ?_ hcells hslots d (fun q cA H1 hK1 hP1 hD1 hS1 => ?_)
  · have : componentBytes (newarray.typeOf atype) ≤ 8 := by cases atype <;> decide
    exact Nat.le_trans (Nat.mul_le_mul hb this) (by decide)
  · have hcA : cA = jta g ti := by
      have r1 := (hK1.2 (Dtys g).length (cA, newarray.typeOf atype) (by simp)).2
      have r2 := (X.2.2.2.2.2.2.2.2.1.2 ti _ (Dtys_get g ht)).2
      rw [← hty] at r2
      exact va_RA_inj r1 r2
    rw [hcA] at hP1 hD1
    refine DW.born h1 (Dal_no h1 hA) hkp (fun j => Dnw_al) Dnw_cl ?_ (fun j hj _ => ?_) rfl hL hr k X hD hP1 hD1 hS1 hl
    · rw [Dce_1 h1 h3, h4, Dnw_N, if_pos rfl]
      congr 4
      funext i
      rw [Dnw_I, if_pos rfl]
    · refine ⟨funext fun i => ?_, funext fun i => ?_, funext fun i => ?_, ?_⟩
      · rw [Dnw_I, if_neg hj]
      · rw [Dnw_L, if_neg hj]
      · rw [Dnw_R, if_neg hj]
      · rw [Dnw_N, if_neg hj]
theorem dr_newJ {a : Nat} {n9 : Int32} (ha : darr a 2 4 = true) (hwd : Cond.arrayClass .long ∈ jGw) (hA : DA σ a = false) (hkp : z.2.2.1 a = false)
    (hn : ¬ n9 < 0) (hb : n9.toNatClampNeg ≤ 10000) (hcells : c0 + 1 ≤ z.1.cells) (hslots : s0 + n9.toNatClampNeg ≤ z.1.slots) (hL : DnL a L = true) (hr : Dnr a r = true) (d : decode mt.2.1 pc = .ok (.newarray .long, 2))
    (k : DW g z mt (pc + 2) L (.ref a :: r) (Dnw σ a n9.toNatClampNeg) (c0 + 1) (s0 + n9.toNatClampNeg)) : DW g z mt pc L (.int n9 :: r) σ c0 s0 := by
  intro p e s m as below meth c H locs ls da X hD hP hS hl
  obtain ⟨h1, h2, h3, h4⟩ := darr_spec ha
  refine va_newa (atype := .long) (ty := newarray.typeOf .long) (a0 := (n9.toNatClampNeg, .inr (.inl (fun _ => 0)))) X.1 X.2.1 (X.2.2.2.2.2.2.1 _ (List.mem_cons_of_mem _ hwd)) rfl X.2.2.2.2.2.2.2.2.1 hP (DD hD.1) hS (fun q hq => Nat.le_trans X.2.2.2.2.2.2.2.1 hq) (fun cA => rfl) hn rfl ?_ hcells hslots d (fun q cA H1 hK1 hP1 hD1 hS1 => ?_)
  · have : componentBytes (newarray.typeOf .long) ≤ 8 := by decide
    exact Nat.le_trans (Nat.mul_le_mul hb this) (by decide)
  · have hcA : cA = jta g 4 := by
      have r1 := (hK1.2 (Dtys g).length (cA, newarray.typeOf .long) (by simp)).2
      have r2 := (X.2.2.2.2.2.2.2.2.1.2 4 _ (Dtys_get g (by decide))).2
      exact va_RA_inj r1 r2
    rw [hcA] at hP1 hD1
    refine DW.born h1 (Dal_no h1 hA) hkp (fun j => Dnw_al) Dnw_cl ?_ (fun j hj _ => ?_) rfl hL hr k X hD hP1 hD1 hS1 hl
    · rw [Dce_2 h1 h3, h4, Dnw_N, if_pos rfl]
      congr 5
      funext i
      rw [Dnw_L, if_pos rfl]
    · refine ⟨funext fun i => ?_, funext fun i => ?_, funext fun i => ?_, ?_⟩
      · rw [Dnw_I, if_neg hj]
      · rw [Dnw_L, if_neg hj]
      · rw [Dnw_R, if_neg hj]
      · rw [Dnw_N, if_neg hj]
/-- a reference by another name -/
def Drv (a b : Nat) : Value → Value
  | .ref k => .ref (if k = a then b else k)
  | v => v
def DrL (a b : Nat) (L : List (Nat × Value)) : List (Nat × Value) := L.map (fun q => (q.1, Drv a b q.2))
def Dro (a b : Nat) (r : Option Nat) : Option Nat := if r = some a then some b else r
theorem jrl_rv {da : Nat → Nat} {a b : Nat} (ha : 1000 ≤ a) (hb : 1000 ≤ b) {v : Value} (h : v ≠ .ref b) : jrl (Dg g (Dup da b (da a))) (Drv a b v) = jrl (Dg g da) v := by
  cases v with
  | ref k =>
    show Value.ref (Dadr g (Dup da b (da a)) (if k = a then b else k)) = Value.ref (Dadr g da k)
    by_cases c : k = a
    · rw [if_pos c, Dadr_at hb, c]
      unfold Dadr
      rw [if_neg (by omega)]
    · rw [if_neg c, Dadr_up (fun z => h (by rw [z]))]
  | _ => rfl
theorem Dmap_rv {da : Nat → Nat} {a b : Nat} (ha : 1000 ≤ a) (hb : 1000 ≤ b) : ∀ {st : List Value}, Dnr b st = true → (st.map (Drv a b)).map (jrl (Dg g (Dup da b (da a)))) = st.map (jrl (Dg g da))
  | [], _ => rfl
  | v :: r, h => by
    have h1 : Dnr b r = true ∧ v ≠ .ref b := by
      cases v with
      | ref k =>
        simp only [Dnr, Bool.and_eq_true, Bool.not_eq_true', beq_eq_false_iff_ne] at h
        exact ⟨h.2, fun z => h.1 (by injection z)⟩
      | _ => exact ⟨h, fun z => (by cases z)⟩
    rw [List.map_cons, List.map_cons, List.map_cons, Dmap_rv ha hb h1.1, jrl_rv ha hb h1.2]
theorem DjL_rv {da : Nat → Nat} {a b : Nat} (ha : 1000 ≤ a) (hb : 1000 ≤ b) : ∀ {L : List (Nat × Value)}, DnL b L = true → jL (Dg g (Dup da b (da a))) (DrL a b L) = jL (Dg g da) L
  | [], _ => rfl
  | (i, v) :: r, h => by
    have h1 : DnL b r = true ∧ v ≠ .ref b := by
      cases v with
      | ref k =>
        simp only [DnL, Bool.and_eq_true, Bool.not_eq_true', beq_eq_false_iff_ne] at h
        exact ⟨h.2, fun z => h.1 (by injection z)⟩
      | _ => exact ⟨h, fun z => (by cases z)⟩
    show (i, jrl (Dg g (Dup da b (da a))) (Drv a b v)) :: jL (Dg g (Dup da b (da a))) (DrL a b r) = (i, jrl (Dg g da) v) :: jL (Dg g da) r
    rw [DjL_rv ha hb h1.1, jrl_rv ha hb h1.2]
/-- the cell a is called b from here on; what was called b before is forgotten -/
theorem DW.ren {a b : Nat} {ε : dM} (hab : a ≠ b) (ha : 1000 ≤ a) (hb : 1000 ≤ b) (hb2 : b < 2100) (hkp : z.2.2.1 b = false) (hsh : Dsh b = Dsh a) (hAa : DA σ a = true) (ha2 : a < 2100) (hS0 : DS ε = DS σ) (hcl : Dcl0 σ → Dcl0 ε)
    (hA : ∀ k, 1000 ≤ k → k < 2100 → DA ε k = true → k = b ∨ (k ≠ a ∧ k ≠ b ∧ DA σ k = true))
    (hb1 : DI ε b = DI σ a ∧ DL ε b = DL σ a ∧ DN ε b = DN σ a ∧ ∀ j, DR ε b j = Dro a b (DR σ a j) ∧ DR σ a j ≠ some b)
    (ho : ∀ k, 1000 ≤ k → k < 2100 → DA ε k = true → k ≠ b → DI ε k = DI σ k ∧ DL ε k = DL σ k ∧ DN ε k = DN σ k ∧ ∀ j, DR ε k j = Dro a b (DR σ k j) ∧ DR σ k j ≠ some b)
    (hL : DnL b L = true) (hr : Dnr b r = true) (kk : DW g z mt pc (DrL a b L) (r.map (Drv a b)) ε c0 s0) : DW g z mt pc L r σ c0 s0 := by
  intro p e s m as below meth c H locs ls da X hD hP hS hl
  have hN : jN = 322 := rfl
  have hro : ∀ o : Option Nat, o ≠ some b → (Dro a b o).map (Dadr g (Dup da b (da a))) = o.map (Dadr g da) := fun o h => by
    cases o with
    | none => rfl
    | some q =>
      have hq : q ≠ b := fun z => h (by rw [z])
      unfold Dro
      by_cases c : q = a
      · subst c
        rw [if_pos rfl]
        show some (Dadr g _ b) = some (Dadr g da q)
        rw [Dadr_at hb]
        unfold Dadr
        rw [if_neg (by omega)]
      · rw [if_neg (fun z => c (by injection z))]
        exact congrArg some (Dadr_up hq)
  -- where a cell of the new world stands in the old one
  have key : ∀ k, Dal ε k = true → ∃ k0, Dal σ k0 = true ∧ Dadr g (Dup da b (da a)) k = Dadr g da k0 ∧ Dce g (Dup da b (da a)) ε k = Dce g da σ k0 ∧ (k = b → k0 = a) ∧ (k ≠ b → k0 = k ∧ k ≠ a) := fun k hk => by
    obtain ⟨h1, h2⟩ := Dal_lt hk
    rcases h2 with h2 | ⟨h2, h3⟩
    · refine ⟨k, Dal_lo h2, Dadr_up (by omega), ?_, fun z => by omega, fun _ => ⟨rfl, by omega⟩⟩
      unfold Dce
      rw [if_pos (by omega), if_pos (by omega), hS0]
    · rcases hA k h2 h1 h3 with c | ⟨c1, c2, c3⟩
      · subst c
        refine ⟨a, Dal_hi ha ha2 hAa, ?_, ?_, fun _ => rfl, fun z => (z rfl).elim⟩
        · rw [Dadr_at hb]
          unfold Dadr
          rw [if_neg (by omega)]
        · obtain ⟨e1, e2, e3, e4⟩ := hb1
          have e5 : ∀ j, (DR ε k j).map (Dadr g (Dup da k (da a))) = (DR σ a j).map (Dadr g da) := fun j => by rw [(e4 j).1]; exact hro _ (e4 j).2
          unfold Dce
          rw [if_neg (by omega), if_neg (show ¬ a < 1000 by omega), hsh, e1, e2, e3, funext e5]
          have e6 : ∀ tab, Dfs g (Dup da k (da a)) ε k tab = Dfs g da σ a tab := fun tab => by
            unfold Dfs
            refine List.map_congr_left (fun j _ => ?_)
            unfold Dfv Dval
            rw [e1, e2, e5]
          rw [e6]
      · obtain ⟨e1, e2, e3, e4⟩ := ho k h2 h1 h3 c2
        exact ⟨k, Dal_hi h2 h1 c3, Dadr_up c2, Dce_cg hS0 e1 e2 (fun j => by rw [(e4 j).1]; exact hro _ (e4 j).2) e3, fun z => (c2 z).elim, fun _ => ⟨rfl, c1⟩⟩
  have hok : Dok g z.2.2.2.2 (Dup da b (da a)) ε := by
    refine ⟨fun i j hi hj e => ?_, fun i hi => ?_, hcl hD.1.2.2⟩
    · obtain ⟨i0, i1, i2, -, i4, i5⟩ := key i hi
      obtain ⟨j0, j1, j2, -, j4, j5⟩ := key j hj
      rw [i2, j2] at e
      have hij := hD.1.1 i0 j0 i1 j1 e
      by_cases ci : i = b
      · by_cases cj : j = b
        · rw [ci, cj]
        · have e1 := i4 ci
          obtain ⟨e2, e3⟩ := j5 cj
          omega
      · by_cases cj : j = b
        · have e1 := j4 cj
          obtain ⟨e2, e3⟩ := i5 ci
          omega
        · rw [← (i5 ci).1, ← (j5 cj).1]
          exact hij
    · obtain ⟨i0, i1, i2, -⟩ := key i hi
      rw [i2]
      exact hD.1.2.1 i0 i1
  have h9 := kk p e s m as below meth c H locs ls (Dup da b (da a)) X ⟨hok, fun k hk => by
    unfold Dup
    rw [if_neg (fun z9 => by rw [z9, hkp] at hk; cases hk)]
    exact hD.2 k hk⟩ (Dws_of (fun k hk => by
      obtain ⟨k0, k1, k2, k3, -⟩ := key k hk
      rw [k2, k3]
      exact Dws_at hP k1)) hS (by rw [DjL_rv ha hb hL]; exact hl)
  rw [Dmap_rv ha hb hr] at h9
  exact h9
end DN9
