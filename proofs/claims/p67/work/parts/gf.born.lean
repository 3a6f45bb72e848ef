/-! newborn: an int put into a whole array -/
theorem kws_set {g : jG} {σ τ : jM} {me t a : Nat} {fs : List Value} {H : Heap} {e : va_E} (h1 : me < a) (h2 : a < t) (he : jcell g τ a = e) (ho : ∀ q, q ≠ a → jcell g τ q = jcell g σ q) (hP : va_P g.2.1 vwCl ((kws g σ me fs t).set (a - me) (jad g a, e)) H) : va_P g.2.1 vwCl (kws g τ me fs t) H := by
  have hlen := kws_len g σ (t := t) fs (show me < t by omega)
  refine kws_mk ?_ (fun k h1k h2k => ?_)
  · refine hP 0 _ ?_
    rw [List.getElem?_set_ne (by omega)]
    rfl
  · by_cases hk : k = a
    · subst hk
      have h9 := hP (k - me) (jad g k, e) (by rw [List.getElem?_set_self (by omega)])
      unfold kpe
      rw [he]
      exact h9
    · have h9 := hP (k - me) (kpe g σ k) (by
        rw [List.getElem?_set_ne (by omega)]
        exact kws_get g σ fs h1k h2k)
      unfold kpe at h9 ⊢
      rw [ho k hk]
      exact h9
section KI
variable {g : jG} {h0 : Nat} {rm : Room} {mt : jMt} {me : Nat} {T : lwT} {c0 s0 pc : Nat} {L : List (Nat × Value)} {r : List Value} {t : Nat} {fs : List Value} {σ : jM}
theorem kw_iast {a : Nat} {j x : Int32} (hB : kB g h0) (hN : t ≤ jN) (h1 : me < a) (h2 : a < t) (ha : jarr a 1 0 = true) (hj : jin j (jlen a)) (d : decode mt.2.1 pc = .ok (.iastore, 1)) (k : kW g h0 rm mt me T c0 s0 (pc + 1) L r t fs (jup σ a j.toNatClampNeg x)) : kW g h0 rm mt me T c0 s0 pc L (.int x :: .int j :: .ref a :: r) t fs σ := by
  intro p e s m as below meth c H locs ls X hz hP hS hl
  obtain ⟨b1, b2, b3⟩ := jarr_spec ha
  have hg := kws_get g σ fs h1 h2
  unfold kpe at hg
  rw [jcell_1 b2, b3] at hg
  refine va_iast X.1 X.2.1 X.2.2.2.2.2.2.2.1 hP (kD hB σ fs (by omega) hN) hS (a - me) 0 hg (jtys_get g (by decide)) (jin_vp hj) d (fun H1 locs1 hP1 hD1 hS1 => ?_)
  refine k p e s m as below meth c H1 locs1 ls X hz (kws_set h1 h2 ?_ (fun q hq => jup_other q hq) hP1) hS1 hl
  rw [jcell_1 b2, b3]
  congr 4
  funext z
  simp [jup, upd]
end KI
