/-! newborn: a field of me read -/
section KG
variable {g : jG} {h0 : Nat} {rm : Room} {mt : jMt} {me : Nat} {T : lwT} {c0 s0 pc : Nat} {L : List (Nat × Value)} {r : List Value} {t : Nat} {fs : List Value} {σ : jM}
theorem kw_get {ci f tc j : Nat} {v : Value} (hci : (jshp me).2.1 = ci) (hf : jFok mt.1.cls (j, ci, f, tc)) (hv : fs[f]? = some v) (d : decode mt.2.1 pc = .ok (.getfield j, 3)) (k : kW g h0 rm mt me T c0 s0 (pc + 3) L (v :: r) t fs σ) : kW g h0 rm mt me T c0 s0 pc L (.ref me :: r) t fs σ := by
  intro p e s m as below meth c H locs ls X hz hP hS hl
  obtain ⟨C, T9, N, ⟨q1, q2, q3, q4, q5⟩, hk, hty, hlk⟩ := hf
  have hg : (kws g σ me fs t)[0]? = some (jad g me, .inr (ci, fs.map (jrl g))) := by
    unfold kws
    rw [hci]
    rfl
  have hv9 : (fs.map (jrl g))[f]? = some (jrl g v) := by rw [List.getElem?_map, hv]; rfl
  rcases hlk with hlk | ⟨host, hlk⟩
  · exact va_get X.1 X.2.1 X.2.2.2.2.2.2.1 (fun w hw => List.mem_cons_of_mem _ (q2 w hw)) X.2.2.2.2.2.1 X.2.2.2.2.2.2.2.1 hP 0 hg q1 f hk (X.2.2.2.2.2.2.1 _ (List.mem_cons_of_mem _ hlk)) (fun x hx => by rw [← q5 f hk]; exact hx) hv9 d (k p e s m as below meth c H locs ls X hz hP hS hl)
  · exact va_getN X.1 X.2.1 X.2.2.2.2.2.2.1 (fun w hw => List.mem_cons_of_mem _ (q2 w hw)) X.2.2.2.2.2.1 X.2.2.2.2.2.2.2.1 hP 0 hg q1 f hk (va_Nw.use rfl (X.2.2.2.2.2.2.2.2.1.1 _ hlk)) (fun x hx => by rw [← q5 f hk]; exact hx) hv9 d (k p e s m as below meth c H locs ls X hz hP hS hl)
end KG
