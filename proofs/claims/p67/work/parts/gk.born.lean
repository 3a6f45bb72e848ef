/-! newborn: the calls of such methods -/
section KU
variable {g : jG} {h0 : Nat} {rm : Room} {mt mt' : jMt} {me : Nat} {T : lwT} {c0 s0 pc : Nat} {L : List (Nat × Value)} {st r as : List Value} {t : Nat} {fs fs1 : List Value} {σ τ : jM} {idx na n' : Nat}
theorem k_size {p : Program} {l : Launch} {e : Env} {R : Room} {s : State} {m : MethodId} {a0 : Array Value} {below : List Frame} {meth : Method} {c : Code} {T0 : State} {locs : List Loc} {s9 : Nat} (hB : kB g h0) (ht : me < t) (hN : t ≤ jN) (X0 : Stand p l e R s m a0 below meth c T0 locs c0 s9) (hz : s.heap.size + c0 = h0 + t) (hP : va_P g.2.1 vwCl (kws g σ me fs t) T0.heap) : T0.heap.size = h0 + t := by
  have hsz := X0.heapSize
  have hge : h0 + t ≤ T0.heap.size := by
    rcases Nat.lt_or_ge (me + 1) t with c9 | c9
    · have := vx_lt hP (kws_get g σ fs (k := t - 1) (by omega) (by omega))
      have e2 : (kpe g σ (t - 1)).1 = h0 + (t - 1) := hB _ (by omega)
      omega
    · have := vx_lt hP (k := 0) (q := (jad g me, .inr ((jshp me).2.1, fs.map (jrl g)))) rfl
      have e2 : jad g me = h0 + me := hB _ (by omega)
      have e3 : jad g me < T0.heap.size := this
      omega
  omega
theorem kw_back {p : Program} {e : Env} {s : State} {m : MethodId} {a0 : Array Value} {below : List Frame} {meth : Method} {c : Code} {H : Heap} {locs : List Loc} {ls : Array Slot} {a9 : Array Value}
    (X : kX g mt p s m a0 meth c) (hz : s.heap.size + c0 = h0 + t ∧ h0 + me ≤ s.heap.size) (hS : va_S (kA h0 me) s.heap H locs) (hl : lv_has ls mt.2.2.1 (jL g L))
    (hr : va_Run p g.1 e rm s m a0 below meth c H locs c0 s0 0 0 (F0 m pc ls (st.map (jrl g))) (r.map (jrl g)) (kQm g h0 me t fs1 τ a9) (kA h0 me))
    (k : kW g h0 rm mt me T c0 s0 (pc + 3) L r t fs1 τ) : W p g.1 e rm s m a0 below meth c H locs c0 s0 (T below a0 s) (F0 m pc ls (st.map (jrl g))) := by
  intro T0 hT0 X'
  obtain ⟨v, st₀, u, T', L', h00, X'', hL, e1, e2, hq9, stp⟩ := hr T0 hT0 X'
  have hv := hq9.1
  have hP1 := hq9.2.1
  have hz9 := hq9.2.2.1
  have hk9 := hq9.2.2.2
  have hv0 : v = none := by injection hv
  subst hv0
  rw [h00] at hz9 hk9
  have hS9 : va_S (kA h0 me) s.heap T'.heap (locs ++ L') := by
    refine ⟨Nat.le_trans hS.1 (by rw [e1]; exact hz9), fun q h1q h2q => ?_, fun q hq => ?_⟩
    · rw [e1, hk9 q (Nat.lt_of_lt_of_le h1q hS.1) h2q]
      exact hS.2.1 q h1q h2q
    · rcases List.mem_append.mp hq with h | h
      · exact hS.2.2 q h
      · exact hL q h
  obtain ⟨t2, a1, b1⟩ := k p e s m a0 below meth c T'.heap (locs ++ L') ls X hz (by rw [e1]; exact hP1) hS9 hl T' rfl X''
  exact ⟨t2, stp t2 a1, b1⟩
theorem kw_callS (hB : kB g h0) (ht : me < t) (hN : t ≤ jN) (hlk : Cond.methodLink mt.1.cls idx mt'.1 ∈ jGw) (hm : jMs mt' na) (hs : st = as.reverse ++ r) (hR : n' + 1 ≤ rm.frames ∧ 8 + (mt'.2.2.1 + 11) + 64 * n' ≤ rm.locals) (hna : as.length = na) (hst : (r.map fun v => v.category).sum ≤ 8) (hcs : c0 ≤ rm.cells ∧ s0 ≤ rm.slots)
    (hd : decode mt.2.1 pc = .ok (.invokestatic idx, 3)) (hc : kMe g h0 n' mt' as me t fs fs1 σ τ) (k : kW g h0 rm mt me T c0 s0 (pc + 3) L r t fs1 τ) : kW g h0 rm mt me T c0 s0 pc L st t fs σ := by
  obtain ⟨⟨hi, hco, hmh, hml⟩, hstat⟩ := hm
  intro p e s m a0 below meth c H locs ls X hz hP hS hl T0 hT0 X0
  have hts := X.2.2.2.2.2.2.1
  have hH := k_size hB ht hN X0 hz.1 (by rw [hT0]; exact hP)
  rw [hT0] at hH
  refine kw_back (a9 := (as.map (jrl g)).toArray) X hz hS hl ?_ k T0 hT0 X0
  exact va_runS (As := as.map (jrl g)) (rest := r.map (jrl g)) (n := na) (maxL := mt'.2.2.1) (ret := mt'.2.2.2) (bytes := mt'.2.1) ⟨X.1, X.2.1, X.2.2.1, X.2.2.2.2.2.1, hts⟩ hc
    ⟨callB_of na hts (jGI (jwd_in hco)) rfl rfl rfl (hts _ (List.mem_cons_of_mem _ hi)) (hts _ (List.mem_cons_of_mem _ hlk)) hmh hR, hts _ (List.mem_cons_of_mem _ hstat)⟩ ⟨fun a U f mk q => ⟨q.1, q.2.1, q.2.2.1, va_K.moved (u := U) (U := U.calling f mk a) (Vm.Alike.refl U.vm) q.2.2.2.1, kNw_call q.2.2.2.2⟩, fun U hU hW => ⟨by simp, by rw [hU]; exact hH, by rw [hU]; exact hP, va_K.moved hW.alike X.2.2.2.2.2.2.2.1, kNw_mv hW X.2.2.2.2.2.2.2.2.1⟩⟩ rfl (by simp [hna]) hl.1 (by rw [hs]; simp) (lv_room (by simpa [jrl_cat, Function.comp_def] using hst)) hd hcs
theorem kw_callV {ci : Nat} {T9 : u_T} {N9 : Nat} (hB : kB g h0) (ht : me < t) (hN : t ≤ jN) (hlk : Cond.methodLink mt.1.cls idx mt'.1 ∈ jGw) (hm : jMv mt' na) (hci : (jshp me).2.1 = ci) (hcl : vwCl[ci]? = some (mt'.1.cls, T9, N9)) (hs : st = as.reverse ++ .ref me :: r) (hR : n' + 1 ≤ rm.frames ∧ 8 + (mt'.2.2.1 + 11) + 64 * n' ≤ rm.locals) (hna : as.length = na) (hst : (r.map fun v => v.category).sum ≤ 8) (hcs : c0 ≤ rm.cells ∧ s0 ≤ rm.slots)
    (hd : decode mt.2.1 pc = .ok (.invokevirtual idx, 3)) (hc : kMe g h0 n' mt' (.ref me :: as) me t fs fs1 σ τ) (k : kW g h0 rm mt me T c0 s0 (pc + 3) L r t fs1 τ) : kW g h0 rm mt me T c0 s0 pc L st t fs σ := by
  obtain ⟨⟨hi, hco, hmh, hml⟩, him, hse⟩ := hm
  intro p e s m a0 below meth c H locs ls X hz hP hS hl T0 hT0 X0
  have hts := X.2.2.2.2.2.2.1
  have hH := k_size hB ht hN X0 hz.1 (by rw [hT0]; exact hP)
  rw [hT0] at hH
  have hg : (kws g σ me fs t)[0]? = some (jad g me, .inr (ci, fs.map (jrl g))) := by
    unfold kws
    rw [hci]
    rfl
  refine kw_back (a9 := (Value.ref (jad g me) :: as.map (jrl g)).toArray) X hz hS hl ?_ k T0 hT0 X0
  refine va_runV (As := as.map (jrl g)) (rest := r.map (jrl g)) (b := jad g me) (C := mt'.1.cls) (n := na) (maxL := mt'.2.2.1) (ret := mt'.2.2.2) (bytes := mt'.2.1) ⟨X.1, X.2.1, X.2.2.1, X.2.2.2.2.2.1, hts⟩ hc
    (cwV na hts (jGI (fun w hw => ?_)) rfl rfl rfl ⟨rfl, hmh⟩ hR) ⟨fun a U f mk q => ⟨q.1, q.2.1, q.2.2.1, va_K.moved (u := U) (U := U.calling f mk a) (Vm.Alike.refl U.vm) q.2.2.2.1, kNw_call q.2.2.2.2⟩, va_recv (q := (mt'.1.cls, T9, N9)) X.2.2.2.2.2.2.2.1 hP hcl hg, fun U hU hW => ⟨by simp [jrl], by rw [hU]; exact hH, by rw [hU]; exact hP, va_K.moved hW.alike X.2.2.2.2.2.2.2.1, kNw_mv hW X.2.2.2.2.2.2.2.2.1⟩⟩ rfl (by simp [hna]) hl.1 (by rw [hs]; simp [jrl]) (lv_room (by simpa [jrl_cat, Function.comp_def] using hst)) hd hcs
  unfold wsV at hw
  rcases List.mem_append.mp hw with hw | hw
  · simp only [List.mem_cons, List.not_mem_nil, or_false] at hw
    rcases hw with rfl | rfl | rfl | rfl
    · exact hlk
    · exact him
    · exact hse
    · exact hi
  · exact jwd_in hco w hw
end KU
