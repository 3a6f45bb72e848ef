/-! a row of ints copied; a reference known to be a row of ints -/
section DCLN
variable {g : jG} {z : dZ} {mt : jMt} {pc : Nat} {L : List (Nat × Value)} {r : List Value} {σ : dM} {c0 s0 : Nat}
theorem Dcl_al {a b j : Nat} (h : Dal (Dcl σ a b) j = true) : j = a ∨ Dal σ j = true := by
  obtain ⟨h1, h2⟩ := Dal_lt h
  rcases h2 with h2 | ⟨h2, h3⟩
  · exact Or.inr (Dal_lo h2)
  · rw [Dcl_A] at h3
    by_cases c : j = a
    · exact Or.inl c
    · rw [if_neg c] at h3
      exact Or.inr (Dal_hi h2 h1 h3)
theorem Dcl_cl {a b : Nat} (h : Dcl0 σ) : Dcl0 (Dcl σ a b) := by
  intro x j k hx hx2 e
  rw [Dcl_R] at e
  by_cases c : x = a
  · rw [if_pos c] at e
    cases e
  · rw [if_neg c] at e
    refine (h x j k ((Dcl_al hx).resolve_left c) hx2 e).imp id (fun h9 => ?_)
    obtain ⟨h1, h2⟩ := Dal_lt h9
    rcases h2 with h2 | ⟨h2, h3⟩
    · exact Dal_lo h2
    · refine Dal_hi h2 h1 ?_
      rw [Dcl_A]
      split
      · rfl
      · exact h3
theorem fits_row {cA : ClassId} {n : Nat} {f : Nat → Int32} {i : Nat} {v : Value} (h : (vp_cell cA (n, .inl f)).slots[i]? = some v) : fits .int v = true := by
  have h' : (Array.ofFn (n := n) fun j => Value.int (f j.val))[i]? = some v := h
  obtain ⟨hi, e⟩ := Array.getElem?_eq_some_iff.mp h'
  rw [Array.getElem_ofFn] at e
  rw [← e]
  rfl
theorem dr_clone {index a b : Nat} (ha : darr a 1 0 = true) (hA : DA σ a = true) (hb : darr b 1 0 = true) (hB : DA σ b = false) (hkp : z.2.2.1 b = false) (hcells : c0 + 1 ≤ z.1.cells) (hslots : s0 + DN σ a ≤ z.1.slots) (hL : DnL b L = true) (hr : Dnr b r = true) (hst : (r.map fun v => v.category).sum ≤ 8) (hf : 1 ≤ z.1.frames ∧ 22 ≤ z.1.locals)
    (hE : ∀ (U : State) (H : Heap), jE g U H → va_Nw (.castable "[I" "java/lang/Cloneable") U) (hlk : Cond.methodLink mt.1.cls index ⟨"[I", "clone", "()Ljava/lang/Object;"⟩ ∈ jGw) (d : decode mt.2.1 pc = .ok (.invokevirtual index, 3))
    (k : DW g z mt (pc + 3) L (.ref b :: r) (Dcl σ b a) (c0 + 1) (s0 + DN σ a)) : DW g z mt pc L (.ref a :: r) σ c0 s0 := by
  intro p e s m as below meth c H locs ls da X hD hP hS hl
  have hts : ∀ w ∈ jGw, w.before as s = true := fun w hw => X.2.2.2.2.2.2.1 _ (List.mem_cons_of_mem _ hw)
  obtain ⟨h1, h2, h3, h4⟩ := darr_spec ha
  obtain ⟨b1, b2, b3, b4⟩ := darr_spec hb
  obtain ⟨i, -, hi⟩ := Dws_get (g := g) (da := da) (Dal_hi h1 h2 hA)
  rw [Dce_1 h1 h3, h4] at hi
  have ea : Dadr g da a = da a := by
    unfold Dadr
    rw [if_neg (by omega)]
  have hK := X.2.2.2.2.2.2.2.2.1
  refine va_clone (x := (DN σ a, .inl (DI σ a))) (rest := r.map (jrl (Dg g da))) (a := Dadr g da a) X.1 X.2.1 (X.2.2.1.trans hl.1.symm) X.2.2.2.2.2.1 (hts _ hlk) (hts _ (jGw_of 1332 (by decide +kernel) (by decide +kernel))) (hts _ (jGw_of 807 (by decide +kernel) (by decide +kernel))) (hts _ (jGw_of 808 (by decide +kernel) (by decide +kernel))) (hts _ (jGw_of 1333 (by decide +kernel) (by decide +kernel))) (hE _ _ X.2.2.2.2.2.2.2.2.2.2.2) hK hP (DD hD.1) hS (fun q hq => Nat.le_trans X.2.2.2.2.2.2.2.1 hq) i 0 hi (Dtys_get g (by decide)) (hK.2 0 _ (Dtys_get g (by decide))).2 (fun i v hv => fits_row hv) hf.1 ?_ hcells hslots d (fun q H1 hK1 hP1 hD1 hS1 => ?_)
  · have := Dcat (g := g) da hst
    have h9 := hf.2
    omega
  · refine DW.born b1 (Dal_no b1 hB) hkp (fun j => Dcl_al) Dcl_cl ?_ (fun j hj _ => ?_) rfl hL hr k X hD hP1 hD1 hS1 hl
    · have e9 : DI (Dcl σ b a) b = DI σ a := funext fun i => by rw [Dcl_I, if_pos rfl]
      rw [Dce_1 b1 b3, b4, Dcl_N, if_pos rfl, e9]
    · refine ⟨funext fun i => ?_, funext fun i => ?_, funext fun i => ?_, ?_⟩
      · rw [Dcl_I, if_neg hj]
      · rw [Dcl_L, if_neg hj]
      · rw [Dcl_R, if_neg hj]
      · rw [Dcl_N, if_neg hj]
theorem dr_castI {index a : Nat} (ha : darr a 1 0 = true) (hA : DA σ a = true) (hlk : Cond.classLink mt.1.cls index "[I" ∈ jGw) (d : decode mt.2.1 pc = .ok (.checkcast index, 3)) (k : DW g z mt (pc + 3) L (.ref a :: r) σ c0 s0) : DW g z mt pc L (.ref a :: r) σ c0 s0 := by
  intro p e s m as below meth c H locs ls da X hD hP hS hl
  have hts : ∀ w ∈ jGw, w.before as s = true := fun w hw => X.2.2.2.2.2.2.1 _ (List.mem_cons_of_mem _ hw)
  obtain ⟨h1, h2, h3, h4⟩ := darr_spec ha
  obtain ⟨i, -, hi⟩ := Dws_get (g := g) (da := da) (Dal_hi h1 h2 hA)
  rw [Dce_1 h1 h3, h4] at hi
  have hK := X.2.2.2.2.2.2.2.2.1
  exact va_castA (a := Dadr g da a) (rest := r.map (jrl (Dg g da))) X.1 X.2.1 X.2.2.2.2.2.1 (hts _ hlk) hP i hi (hK.2 0 _ (Dtys_get g (by decide))).2 d (k p e s m as below meth c H locs ls da X hD hP hS hl)
end DCLN
