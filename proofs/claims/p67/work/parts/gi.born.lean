/-! newborn: an element of an array of arrays -/
section KE
variable {g : jG} {h0 : Nat} {rm : Room} {mt : jMt} {me : Nat} {T : lwT} {c0 s0 pc : Nat} {L : List (Nat × Value)} {r : List Value} {t : Nat} {fs : List Value} {σ : jM}
theorem kw_aald {a tt : Nat} {j : Int32} (h1 : me < a) (h2 : a < t) (ha : jarr a 4 tt = true) (ht : tt = 6 ∨ tt = 7) (hj : jin j (jlen a)) (d : decode mt.2.1 pc = .ok (.aaload, 1)) (k : kW g h0 rm mt me T c0 s0 (pc + 1) L (.ref (jelt a j.toNatClampNeg) :: r) t fs σ) : kW g h0 rm mt me T c0 s0 pc L (.int j :: .ref a :: r) t fs σ := by
  intro p e s m as below meth c H locs ls X hz hP hS hl
  obtain ⟨b1, b2, b3⟩ := jarr_spec ha
  have hg := kws_get g σ fs h1 h2
  unfold kpe at hg
  rw [jcell_4 b2] at hg
  have hc := hP _ _ hg
  have ht8 : tt < 8 := by omega
  have hK := (X.2.2.2.2.2.2.2.1.2 tt _ (jtys_get g ht8)).1
  have hv := jin_vp hj
  have hlt : j.toNatClampNeg < (jshp a).2.2.1 := Nat.not_le.mp fun q => hv (Or.inr q)
  rw [b3] at hc
  exact W.aald (v := .ref (jad g (jelt a j.toNatClampNeg))) (ty := jtyL.getD tt .int) X.1 X.2.1 hc (hK (jshp a).2.2.1 (fun i => va_rf (some (jad g (jelt a i))))) (by rcases ht with rfl | rfl <;> rfl) (fun q => by cases q) (by show ¬ (j < 0 ∨ (arrV _ _ _).slots.size ≤ _); rw [arrV_size]; exact hv) (by show (arrV _ _ _).slots[_]? = _; rw [arrV_read _ _ hlt]; rfl) rfl rfl d (k p e s m as below meth c H locs ls X hz hP hS hl)
end KE
